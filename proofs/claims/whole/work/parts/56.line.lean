/-! PURE: a line told -/
theorem r_dft_96 {h g : Nat → Int32} {m m' : Sg} {w v : Nat} {w' : Nat} (hw : ¬ w = 6) (d : r_dft h g (r_pp m) w) (hv : (1 ≤ v ∧ v ≤ 24)) (hm : m' 1 = upd (m 1) 405 (nI v)) : r_dft (upd h 2 (nI v)) g (r_pp m') w' := by
  obtain ⟨N, a1, a2, a3, a4, ⟨c2, c3, c4, c5, c6, c7⟩, a6, a7, ⟨b1, b2, b3, b4, b5⟩, a9, a10⟩ := d
  have e : ∀ i, ¬ i = 96 → r_pp m' i = r_pp m i := fun i hi => by
    unfold r_pp
    rw [hm, p_upd, if_neg (by omega)]
  have e0 : r_pp m' 96 = nI v := by
    unfold r_pp
    rw [hm]
    exact if_pos rfl
  have ev : (nI v).toInt = (v : Int) := nI_toInt (by omega)
  refine ⟨N, a1, a2, by rw [e 102 (by decide)]; exact a3, fun i hi => by rw [e i (by omega)]; exact a4 i hi, ?_, ?_⟩
  · rw [e0, e 97 (by decide), e 98 (by decide), e 99 (by decide), e 100 (by decide), e 101 (by decide)]
    exact ⟨rfl, c3, c4, c5, c6, c7⟩
  · rw [e0, e 97 (by decide), e 98 (by decide), e 99 (by decide), e 100 (by decide), e 101 (by decide), ev]
    exact ⟨⟨by omega, by omega⟩, a7, ⟨b1, b2, fun _ => b3 hw, b4, b5⟩, a9, a10⟩
theorem r_dft_97 {h g : Nat → Int32} {m m' : Sg} {w v : Nat} {w' : Nat} (hw : ¬ w = 6) (d : r_dft h g (r_pp m) w) (hv : (1 ≤ v ∧ v ≤ 24)) (hm : m' 1 = upd (m 1) 406 (nI v)) : r_dft (upd h 3 (nI v)) g (r_pp m') w' := by
  obtain ⟨N, a1, a2, a3, a4, ⟨c2, c3, c4, c5, c6, c7⟩, a6, a7, ⟨b1, b2, b3, b4, b5⟩, a9, a10⟩ := d
  have e : ∀ i, ¬ i = 97 → r_pp m' i = r_pp m i := fun i hi => by
    unfold r_pp
    rw [hm, p_upd, if_neg (by omega)]
  have e0 : r_pp m' 97 = nI v := by
    unfold r_pp
    rw [hm]
    exact if_pos rfl
  have ev : (nI v).toInt = (v : Int) := nI_toInt (by omega)
  refine ⟨N, a1, a2, by rw [e 102 (by decide)]; exact a3, fun i hi => by rw [e i (by omega)]; exact a4 i hi, ?_, ?_⟩
  · rw [e 96 (by decide), e0, e 98 (by decide), e 99 (by decide), e 100 (by decide), e 101 (by decide)]
    exact ⟨c2, rfl, c4, c5, c6, c7⟩
  · rw [e 96 (by decide), e0, e 98 (by decide), e 99 (by decide), e 100 (by decide), e 101 (by decide), ev]
    exact ⟨a6, ⟨by omega, by omega⟩, ⟨b1, b2, fun _ => b3 hw, b4, b5⟩, a9, a10⟩
theorem r_dft_98 {h g : Nat → Int32} {m m' : Sg} {w v : Nat} (d : r_dft h g (r_pp m) w) (hv : v ≤ 100) (hm : m' 1 = upd (m 1) 407 (nI v)) : r_dft (upd h 4 (nI v)) g (r_pp m') 6 := by
  obtain ⟨N, a1, a2, a3, a4, ⟨c2, c3, c4, c5, c6, c7⟩, a6, a7, ⟨b1, b2, b3, b4, b5⟩, a9, a10⟩ := d
  have e : ∀ i, ¬ i = 98 → r_pp m' i = r_pp m i := fun i hi => by
    unfold r_pp
    rw [hm, p_upd, if_neg (by omega)]
  have e0 : r_pp m' 98 = nI v := by
    unfold r_pp
    rw [hm]
    exact if_pos rfl
  have ev : (nI v).toInt = (v : Int) := nI_toInt (by omega)
  refine ⟨N, a1, a2, by rw [e 102 (by decide)]; exact a3, fun i hi => by rw [e i (by omega)]; exact a4 i hi, ?_, ?_⟩
  · rw [e 96 (by decide), e 97 (by decide), e0, e 99 (by decide), e 100 (by decide), e 101 (by decide)]
    exact ⟨c2, c3, rfl, c5, c6, c7⟩
  · rw [e 96 (by decide), e 97 (by decide), e0, e 99 (by decide), e 100 (by decide), e 101 (by decide), ev]
    exact ⟨a6, a7, ⟨by omega, by omega, fun z => absurd rfl z, b4, b5⟩, a9, a10⟩
theorem r_dft_99 {h g : Nat → Int32} {m m' : Sg} {w v : Nat} {w' : Nat} (d : r_dft h g (r_pp m) w) (hv : (1 ≤ v ∧ v ≤ 100 ∧ (m 1 407).toInt ≤ v)) (hm : m' 1 = upd (m 1) 408 (nI v)) : r_dft (upd h 5 (nI v)) g (r_pp m') w' := by
  obtain ⟨N, a1, a2, a3, a4, ⟨c2, c3, c4, c5, c6, c7⟩, a6, a7, ⟨b1, b2, b3, b4, b5⟩, a9, a10⟩ := d
  have e : ∀ i, ¬ i = 99 → r_pp m' i = r_pp m i := fun i hi => by
    unfold r_pp
    rw [hm, p_upd, if_neg (by omega)]
  have e0 : r_pp m' 99 = nI v := by
    unfold r_pp
    rw [hm]
    exact if_pos rfl
  have ev : (nI v).toInt = (v : Int) := nI_toInt (by omega)
  have hp : (r_pp m 98).toInt ≤ v := hv.2.2
  refine ⟨N, a1, a2, by rw [e 102 (by decide)]; exact a3, fun i hi => by rw [e i (by omega)]; exact a4 i hi, ?_, ?_⟩
  · rw [e 96 (by decide), e 97 (by decide), e 98 (by decide), e0, e 100 (by decide), e 101 (by decide)]
    exact ⟨c2, c3, c4, rfl, c6, c7⟩
  · rw [e 96 (by decide), e 97 (by decide), e 98 (by decide), e0, e 100 (by decide), e 101 (by decide), ev]
    exact ⟨a6, a7, ⟨b1, b2, fun _ => hp, by omega, by omega⟩, a9, a10⟩
theorem r_dft_100 {h g : Nat → Int32} {m m' : Sg} {w v : Nat} {w' : Nat} (hw : ¬ w = 6) (d : r_dft h g (r_pp m) w) (hv : v ≤ 4) (hm : m' 1 = upd (m 1) 409 (nI v)) : r_dft (upd h 6 (nI v)) g (r_pp m') w' := by
  obtain ⟨N, a1, a2, a3, a4, ⟨c2, c3, c4, c5, c6, c7⟩, a6, a7, ⟨b1, b2, b3, b4, b5⟩, a9, a10⟩ := d
  have e : ∀ i, ¬ i = 100 → r_pp m' i = r_pp m i := fun i hi => by
    unfold r_pp
    rw [hm, p_upd, if_neg (by omega)]
  have e0 : r_pp m' 100 = nI v := by
    unfold r_pp
    rw [hm]
    exact if_pos rfl
  have ev : (nI v).toInt = (v : Int) := nI_toInt (by omega)
  refine ⟨N, a1, a2, by rw [e 102 (by decide)]; exact a3, fun i hi => by rw [e i (by omega)]; exact a4 i hi, ?_, ?_⟩
  · rw [e 96 (by decide), e 97 (by decide), e 98 (by decide), e 99 (by decide), e0, e 101 (by decide)]
    exact ⟨c2, c3, c4, c5, rfl, c7⟩
  · rw [e 96 (by decide), e 97 (by decide), e 98 (by decide), e 99 (by decide), e0, e 101 (by decide), ev]
    exact ⟨a6, a7, ⟨b1, b2, fun _ => b3 hw, b4, b5⟩, ⟨by omega, by omega⟩, a10⟩
theorem r_dft_101 {h g : Nat → Int32} {m m' : Sg} {w v : Nat} {w' : Nat} (hw : ¬ w = 6) (d : r_dft h g (r_pp m) w) (hv : v ≤ 2) (hm : m' 1 = upd (m 1) 410 (nI v)) : r_dft (upd h 7 (nI v)) g (r_pp m') w' := by
  obtain ⟨N, a1, a2, a3, a4, ⟨c2, c3, c4, c5, c6, c7⟩, a6, a7, ⟨b1, b2, b3, b4, b5⟩, a9, a10⟩ := d
  have e : ∀ i, ¬ i = 101 → r_pp m' i = r_pp m i := fun i hi => by
    unfold r_pp
    rw [hm, p_upd, if_neg (by omega)]
  have e0 : r_pp m' 101 = nI v := by
    unfold r_pp
    rw [hm]
    exact if_pos rfl
  have ev : (nI v).toInt = (v : Int) := nI_toInt (by omega)
  refine ⟨N, a1, a2, by rw [e 102 (by decide)]; exact a3, fun i hi => by rw [e i (by omega)]; exact a4 i hi, ?_, ?_⟩
  · rw [e 96 (by decide), e 97 (by decide), e 98 (by decide), e 99 (by decide), e 100 (by decide), e0]
    exact ⟨c2, c3, c4, c5, c6, rfl⟩
  · rw [e 96 (by decide), e 97 (by decide), e 98 (by decide), e 99 (by decide), e 100 (by decide), e0, ev]
    exact ⟨a6, a7, ⟨b1, b2, fun _ => b3 hw, b4, b5⟩, a9, ⟨by omega, by omega⟩⟩
def r_tail (σ2 : Sg) (x1 : Int32) : Option Sg := (if x1 = 0 then (s_bi (fX7_numberRead σ2 (1 : Int32) (24 : Int32)) (fun r7 σ5 => (s_lt (s_up σ5 1 405 r7) (fun σ8 => (fX7_readLine_b228 σ8))))) else (if x1 = 1 then (s_bi (fX7_numberRead σ2 (1 : Int32) (24 : Int32)) (fun r12 σ10 => (s_lt (s_up σ10 1 406 r12) (fun σ13 => (fX7_readLine_b228 σ13))))) else (if x1 = 2 then (s_bi (fX7_numberRead σ2 (0 : Int32) (100 : Int32)) (fun r17 σ15 => (s_lt (s_up σ15 1 407 r17) (fun σ18 => (if (σ18 1 407) ≤ (1 : Int32) then (fX7_readLine_b179 σ18 (408 : Int32) (1 : Int32)) else (fX7_readLine_b179 σ18 (408 : Int32) (σ18 1 407))))))) else (if x1 = 3 then (s_bi (fX7_wordRead σ2 (6 : Int32) (5 : Int32)) (fun r23 σ21 => (s_lt (s_up σ21 1 409 r23) (fun σ24 => (fX7_readLine_b228 σ24))))) else (if x1 = 4 then (s_bi (fX7_wordRead σ2 (11 : Int32) (3 : Int32)) (fun r28 σ26 => (s_lt (s_up σ26 1 410 r28) (fun σ29 => (fX7_readLine_b228 σ29))))) else (s_bv (fX7_readPut σ2) (fun σ30 => (fX7_readLine_b228 σ30))))))))
theorem r_tail_e (m : Sg) (x1 : Int32) : fX7_readLine_b45 m x1 = s_lt (s_up m 0 11 ((m 0 11) ||| ((1 : Int32) <<< (x1 &&& 31)))) (fun σ1 => s_bv (fX7_readsOn σ1) (fun σ2 => r_tail σ2 x1)) := rfl
theorem p_tailF {cB mB c m : Sg} {n j : Nat} (B : r_B cB mB n) (F : r_F cB mB n c m) (hj : j ≤ 5) : ∃ m', r_tail m (nI j) = some m' ∧ r_F cB mB n c m' := by
  have h := F.2.2.1
  unfold r_tail
  rcases (show j = 0 ∨ j = 1 ∨ j = 2 ∨ j = 3 ∨ j = 4 ∨ j = 5 by omega) with rfl | rfl | rfl | rfl | rfl | rfl
  · rw [if_pos (by decide), b_nr h, p_bi, p_lt, b_228 (m := s_up m 1 405 1) h]
    exact ⟨_, rfl, r_F_1 F _ _ (by omega)⟩
  · rw [if_neg (by decide), if_pos (by decide), b_nr h, p_bi, p_lt, b_228 (m := s_up m 1 406 1) h]
    exact ⟨_, rfl, r_F_1 F _ _ (by omega)⟩
  · rw [if_neg (by decide), if_neg (by decide), if_pos (by decide), b_nr h, p_bi, p_lt, if_pos (show s_up m 1 407 0 1 407 ≤ 1 by show (0 : Int32) ≤ 1; decide)]
    unfold fX7_readLine_b179
    rw [b_nr (m := s_up m 1 407 0) h, p_bi, p_gd (by decide), p_lt]
    show ∃ m', fX7_readLine_b228 (s_up (s_up m 1 407 0) 1 408 1) = some m' ∧ _
    rw [b_228 (m := s_up (s_up m 1 407 0) 1 408 1) h]
    exact ⟨_, rfl, r_F_1 (r_F_1 F _ _ (by omega)) _ _ (by omega)⟩
  · rw [if_neg (by decide), if_neg (by decide), if_neg (by decide), if_pos (by decide), b_wr B F, p_bi, p_lt, b_228 (m := s_up m 1 409 0) h]
    exact ⟨_, rfl, r_F_1 F _ _ (by omega)⟩
  · rw [if_neg (by decide), if_neg (by decide), if_neg (by decide), if_neg (by decide), if_pos (by decide), b_wr B F, p_bi, p_lt, b_228 (m := s_up m 1 410 0) h]
    exact ⟨_, rfl, r_F_1 F _ _ (by omega)⟩
  · rw [if_neg (by decide), if_neg (by decide), if_neg (by decide), if_neg (by decide), if_neg (by decide), b_rp h, p_bv, b_228 h]
    exact ⟨_, rfl, F⟩
theorem r_K_1 {cB mB c m : Sg} {n tok w : Nat} (B : r_B cB mB n) (K : r_K cB mB n c m tok w) (i : Nat) (v : Int32) (h : 309 ≤ i ∧ i ≤ 411) : r_K cB mB n c (s_up m 1 i v) tok w := by
  refine r_K_d B K (fun _ _ _ => rfl) (fun p hp => by rw [p_up, if_neg hp]) (fun k hk => ?_)
  show upd (m 1) i v k = _
  rw [p_upd, if_neg (by omega)]
/-- the line's end behind a setting -/
theorem p_end11 {cB mB c m : Sg} {n tok : Nat} (B : r_B cB mB n) (K : r_K cB mB n c m tok 11) (D : r_dft (c 4) (c 5) (r_pp m) 11) : ∃ m', fX7_readLine_b228 m = some m' ∧ ((∃ c' tok', r_cl c tok = r_cl c' tok' ∧ tok ≤ tok' ∧ r_K cB mB n c' m' tok' 12 ∧ r_dft (c' 4) (c' 5) (r_pp m') 12) ∨ (∃ cF, r_cl c tok = some (0, cF) ∧ r_F cB mB n cF m')) := by
  have k4 : c 3 1 = 11 := K.2.2.2.1
  have hTT : ∀ x, fX4_takeToken c x = s_bv (fX4_takeLineEnd c x) (fun σ => some σ) := fun x => by
    unfold fX4_takeToken
    rw [k4, if_neg (by decide), if_neg (by decide), if_neg (by decide), if_neg (by decide), if_neg (by decide), if_neg (by decide), if_neg (by decide), if_neg (by decide), if_neg (by decide), if_neg (by decide), if_neg (by decide), if_pos rfl]
  obtain ⟨m1, f1, m11, h⟩ := p_Lend B K (by omega) (fun s e k5 h0 => by
    obtain ⟨-, -, z⟩ := k5
    have hx : m 0 9 = 3 ↔ m 2 s = 59 := by
      rcases z with z | z | z | z
      · exact absurd z.1 h0
      · exact ⟨fun q => by rw [z.2.1.2] at q; exact absurd q (by decide), fun q => absurd q (q_lb (b := m 2 s) (Or.inl z.2.2.1)).2.2⟩
      · exact ⟨fun q => by rw [z.2.1.2.1] at q; exact absurd q (by decide), fun q => absurd q (q_lb (b := m 2 s) (Or.inr z.2.2.1)).2.2⟩
      · rcases z.2.2 with q | q | q
        · exact ⟨fun _ => q.1, fun _ => q.2⟩
        · exact ⟨fun r => by rw [q.2] at r; exact absurd r (by decide), fun r => by rw [q.1] at r; exact absurd r (by decide)⟩
        · exact ⟨fun r => by rw [q.2] at r; exact absurd r (by decide), fun r => by rw [q.1] at r; exact absurd r (by decide)⟩
    refine ⟨fun q => ?_, fun q => ?_⟩
    · rw [hTT]
      unfold fX4_takeLineEnd
      rw [if_pos (hx.mp q), p_lt, p_bv]
    · rw [hTT]
      unfold fX4_takeLineEnd
      rw [if_neg (fun r => q (hx.mpr r)), p_rf, p_bv, p_bv])
  refine ⟨m1, f1, ?_⟩
  rcases h with ⟨c1, q1, q2, q3, q4⟩ | ⟨cF, q1, q2⟩
  · refine Or.inl ⟨c1, tok + 1, q1, by omega, q2, ?_⟩
    have : r_pp m1 = r_pp m := by unfold r_pp; rw [m11]
    rw [q3, q4, this]
    exact r_dft_w (by decide) D
  · exact Or.inr ⟨cF, q1, q2⟩
/-- the line's end behind readings -/
theorem p_endP {cB mB c m : Sg} {n tok w : Nat} (B : r_B cB mB n) (K : r_K cB mB n c m tok w) (hw : w = 10 ∨ (w = 8 ∧ ¬ m 0 9 = 5)) (D : r_dft (c 4) (c 5) (r_pp m) w) (rh : ¬ (m 0 9 = 2 ∨ m 0 9 = 4 ∨ c 3 8 = 6)) : ∃ m', fX7_readLine_b228 m = some m' ∧ ((∃ c' tok', r_cl c tok = r_cl c' tok' ∧ tok ≤ tok' ∧ r_K cB mB n c' m' tok' 12 ∧ r_dft (c' 4) (c' 5) (r_pp m') 12) ∨ (∃ cF, r_cl c tok = some (0, cF) ∧ r_F cB mB n cF m')) := by
  have k4 := K.2.2.2.1
  have hw3 : w = 5 ∨ w = 8 ∨ w = 10 := by omega
  have n5 : ¬ c 3 1 = 5 := by rw [k4]; exact fun q => by have := (nI_eq (b := 5) (by omega) (by omega)).mp q; omega
  obtain ⟨m1, f1, m11, h⟩ := p_Lend B K (by omega) (fun s e k5 h0 => by
    obtain ⟨-, -, z⟩ := k5
    refine ⟨fun q => ?_, fun q => ?_⟩
    · have hb : m 2 s = 59 := by
        rcases z with z | z | z | z
        · exact absurd z.1 h0
        · rw [z.2.1.2] at q; exact absurd q (by decide)
        · rw [z.2.1.2.1] at q; exact absurd q (by decide)
        · rcases z.2.2 with r | r | r
          · exact r.1
          · rw [r.2] at q; exact absurd q (by decide)
          · rw [r.2] at q; exact absurd q (by decide)
      rw [p_tr hw3 k4, hb]
      have h36 : fX4_takeReadingOrMore_b36 c 59 0 = some (s_up c 3 1 12) := by
        unfold fX4_takeReadingOrMore_b36
        rw [if_neg n5, if_pos rfl, p_lt]
      unfold fX4_takeReadingOrMore fX4_takeReadingOrMore_b11
      rw [if_neg (show ¬ (59 : Int32) = 45 by decide), h36, if_neg (show ¬ (59 : Int32) = 46 by decide), ite_self, p_bv]
    · have hb : ¬ m 2 s = 45 ∧ ¬ m 2 s = 59 ∧ (m 2 s = 46 → ¬ w = 8) ∧ ¬ c 3 5 = 2 := by
        rcases z with z | z | z | z
        · exact absurd z.1 h0
        · have l := q_lb (b := m 2 s) (Or.inl z.2.2.1)
          exact ⟨l.1, l.2.2, fun r => absurd r l.2.1, by rw [z.2.1.1]; decide⟩
        · exact absurd (Or.inl z.2.1.2.1) rh
        · rcases z.2.2 with r | r | r
          · exact absurd r.2 q
          · exact absurd (Or.inr (Or.inl r.2)) rh
          · refine ⟨by rw [r.1]; decide, by rw [r.1]; decide, fun _ w8 => ?_, by rw [z.2.1.1]; decide⟩
            rcases hw with w10 | ⟨_, w5⟩
            · omega
            · exact w5 r.2
      have n8 : ¬ (c 3 1 = 8 ∧ m 2 s = 46) := fun r => hb.2.2.1 r.2 ((nI_eq (b := 8) (by omega) (by omega)).mp (k4.symm.trans r.1))
      rw [p_tr hw3 k4, p_trm n8 (fun r => hb.2.1 r.2), if_neg hb.1]
      unfold fX4_takeReadingOrMore_b59
      rw [if_pos rfl, if_neg hb.2.2.2, if_neg (fun r => rh (Or.inr (Or.inr r))), p_rf, p_bv, p_bv])
  refine ⟨m1, f1, ?_⟩
  rcases h with ⟨c1, q1, q2, q3, q4⟩ | ⟨cF, q1, q2⟩
  · refine Or.inl ⟨c1, tok + 1, q1, by omega, q2, ?_⟩
    have : r_pp m1 = r_pp m := by unfold r_pp; rw [m11]
    rw [q3, q4, this]
    exact r_dft_w (by omega) D
  · exact Or.inr ⟨cF, q1, q2⟩
theorem p_tailK {cB mB c m : Sg} {n tok j : Nat} (B : r_B cB mB n) (hj : j ≤ 5) (K : r_K cB mB n c m tok j) (D : r_dft (c 4) (c 5) (r_pp m) 12) : ∃ m', r_tail m (nI j) = some m' ∧ ((∃ c' tok', r_cl c tok = r_cl c' tok' ∧ tok ≤ tok' ∧ r_K cB mB n c' m' tok' 12 ∧ r_dft (c' 4) (c' 5) (r_pp m') 12) ∨ (∃ cF, r_cl c tok = some (0, cF) ∧ r_F cB mB n cF m')) := by
  have k4 := K.2.2.2.1
  -- behind a setting
  have set1 : ∀ (i : Nat) (r : Int32) (m1 c1 : Sg), 309 ≤ i ∧ i ≤ 411 → r_cl c tok = r_cl c1 (tok + 1) → r_K cB mB n c1 m1 (tok + 1) 11 → r_dft (c1 4) (c1 5) (r_pp (s_up m1 1 i r)) 11 → ∃ m', fX7_readLine_b228 (s_up m1 1 i r) = some m' ∧ ((∃ c' tok', r_cl c tok = r_cl c' tok' ∧ tok ≤ tok' ∧ r_K cB mB n c' m' tok' 12 ∧ r_dft (c' 4) (c' 5) (r_pp m') 12) ∨ (∃ cF, r_cl c tok = some (0, cF) ∧ r_F cB mB n cF m')) := by
    intro i r m1 c1 hi q1 q2 q3
    obtain ⟨m', f, h⟩ := p_end11 B (r_K_1 B q2 i r hi) q3
    refine ⟨m', f, ?_⟩
    rcases h with ⟨c', tok', u1, u2, u3⟩ | ⟨cF, u1, u2⟩
    · exact Or.inl ⟨c', tok', by rw [q1]; exact u1, by omega, u3⟩
    · exact Or.inr ⟨cF, by rw [q1]; exact u1, u2⟩
  have brk : ∀ (i : Nat) (r : Int32) (m1 cF : Sg), 309 ≤ i ∧ i ≤ 411 → r_cl c tok = some (0, cF) → r_F cB mB n cF m1 → ∃ m', fX7_readLine_b228 (s_up m1 1 i r) = some m' ∧ ((∃ c' tok', r_cl c tok = r_cl c' tok' ∧ tok ≤ tok' ∧ r_K cB mB n c' m' tok' 12 ∧ r_dft (c' 4) (c' 5) (r_pp m') 12) ∨ (∃ cF, r_cl c tok = some (0, cF) ∧ r_F cB mB n cF m')) := by
    intro i r m1 cF hi q1 q2
    have F2 := r_F_1 q2 i r hi
    exact ⟨_, b_228 F2.2.2.1, Or.inr ⟨cF, q1, F2⟩⟩
  unfold r_tail
  rcases (show j = 0 ∨ j = 1 ∨ j = 2 ∨ j = 3 ∨ j = 4 ∨ j = 5 by omega) with rfl | rfl | rfl | rfl | rfl | rfl
  · have k4' : c 3 1 = 0 := k4
    obtain ⟨r, m1, f1, m11, h⟩ := p_Lnum (least := 1) (most := 24) (th := 11) (fi := 2) B K (by omega) (by omega) (by omega) (by omega) (fun x => by
      unfold fX4_takeToken
      rw [k4', if_pos rfl]
      rfl)
    have f1' : fX7_numberRead m 1 24 = some (r, m1) := f1
    rw [if_pos (by decide), f1', p_bi, p_lt]
    rcases h with ⟨c1, v, rfl, v1, v2, q1, q2, q3, q4⟩ | ⟨cF, q1, q2⟩
    · refine set1 405 (nI v) m1 c1 (by omega) q1 q2 ?_
      rw [q3, q4]
      exact r_dft_96 (by decide) D ⟨v1, v2⟩ (by show upd (m1 1) 405 (nI v) = _; rw [m11])
    · exact brk 405 r m1 cF (by omega) q1 q2
  · have k4' : c 3 1 = 1 := k4
    obtain ⟨r, m1, f1, m11, h⟩ := p_Lnum (least := 1) (most := 24) (th := 11) (fi := 3) B K (by omega) (by omega) (by omega) (by omega) (fun x => by
      unfold fX4_takeToken
      rw [k4', if_neg (by decide), if_pos rfl]
      rfl)
    have f1' : fX7_numberRead m 1 24 = some (r, m1) := f1
    rw [if_neg (by decide), if_pos (by decide), f1', p_bi, p_lt]
    rcases h with ⟨c1, v, rfl, v1, v2, q1, q2, q3, q4⟩ | ⟨cF, q1, q2⟩
    · refine set1 406 (nI v) m1 c1 (by omega) q1 q2 ?_
      rw [q3, q4]
      exact r_dft_97 (by decide) D ⟨v1, v2⟩ (by show upd (m1 1) 406 (nI v) = _; rw [m11])
    · exact brk 406 r m1 cF (by omega) q1 q2
  · have k4' : c 3 1 = 2 := k4
    obtain ⟨r, m1, f1, m11, h⟩ := p_Lnum (least := 0) (most := 100) (th := 6) (fi := 4) B K (by omega) (by omega) (by omega) (by omega) (fun x => by
      unfold fX4_takeToken
      rw [k4', if_neg (by decide), if_neg (by decide), if_pos rfl]
      rfl)
    have f1' : fX7_numberRead m 0 100 = some (r, m1) := f1
    rw [if_neg (by decide), if_neg (by decide), if_pos (by decide), f1', p_bi, p_lt]
    rcases h with ⟨c1, v, rfl, v1, v2, q1, q2, q3, q4⟩ | ⟨cF, q1, q2⟩
    · have D1 : r_dft (c1 4) (c1 5) (r_pp (s_up m1 1 407 (nI v))) 6 := by
        rw [q3, q4]
        exact r_dft_98 D v2 (by show upd (m1 1) 407 (nI v) = _; rw [m11])
      have K1 := r_K_1 B q2 407 (nI v) (by omega)
      have e407 : s_up m1 1 407 (nI v) 1 407 = nI v := rfl
      have c44 : c1 4 4 = nI v := by rw [q3]; rfl
      have hmax : s_max 1 (nI v) = nI (max 1 v) := by
        unfold s_max
        by_cases o : 1 < v
        · rw [if_pos (show (1 : Int32) < nI v from nI_lt (a := 1) o (by omega)), show max 1 v = v by omega]
        · rw [if_neg (show ¬ (1 : Int32) < nI v from nI_nlt (a := 1) (b := v) (show v ≤ 1 by omega) (by decide)), show max 1 v = 1 by omega]; rfl
      have hgo : (if (s_up m1 1 407 (nI v) 1 407) ≤ (1 : Int32) then (fX7_readLine_b179 (s_up m1 1 407 (nI v)) (408 : Int32) (1 : Int32)) else (fX7_readLine_b179 (s_up m1 1 407 (nI v)) (408 : Int32) (s_up m1 1 407 (nI v) 1 407))) = fX7_readLine_b179 (s_up m1 1 407 (nI v)) (408 : Int32) (nI (max 1 v)) := by
        rw [e407]
        by_cases o : 1 < v
        · rw [if_neg (show ¬ nI v ≤ 1 from nI_ge (a := 1) o (by omega)), show max 1 v = v by omega]
        · rw [if_pos (show nI v ≤ 1 from nI_le (b := 1) (by omega) (by omega)), show max 1 v = 1 by omega]; rfl
      rw [hgo]
      have k46 : c1 3 1 = 6 := K1.2.2.2.1
      obtain ⟨r2, m2, f2, m21, h2⟩ := p_Lnum (least := max 1 v) (most := 100) (th := 11) (fi := 5) B K1 (by omega) (by omega) (by omega) (by omega) (fun x => by
        unfold fX4_takeToken
        rw [k46, if_neg (by decide), if_neg (by decide), if_neg (by decide), if_neg (by decide), if_neg (by decide), if_neg (by decide), if_pos rfl, c44, hmax, p_lt]
        rfl)
      have f2' : fX7_numberRead (s_up m1 1 407 (nI v)) (nI (max 1 v)) 100 = some (r2, m2) := f2
      unfold fX7_readLine_b179
      rw [f2', p_bi, p_gd (by decide), p_lt]
      show ∃ m', fX7_readLine_b228 (s_up m2 1 408 r2) = some m' ∧ _
      rcases h2 with ⟨c2, v', rfl, v3, v4, u1, u2, u3, u4⟩ | ⟨cF, u1, u2⟩
      · have D2 : r_dft (c2 4) (c2 5) (r_pp (s_up m2 1 408 (nI v'))) 11 := by
          rw [u3, u4]
          refine r_dft_99 D1 ⟨by omega, v4, ?_⟩ (by show upd (m2 1) 408 (nI v') = _; rw [m21])
          rw [e407, nI_toInt (by omega)]
          omega
        obtain ⟨m', f, h⟩ := p_end11 B (r_K_1 B u2 408 (nI v') (by omega)) D2
        refine ⟨m', f, ?_⟩
        rcases h with ⟨c', tok', t1, t2, t3⟩ | ⟨cF, t1, t2⟩
        · exact Or.inl ⟨c', tok', by rw [q1, u1]; exact t1, by omega, t3⟩
        · exact Or.inr ⟨cF, by rw [q1, u1]; exact t1, t2⟩
      · exact brk 408 r2 m2 cF (by omega) (by rw [q1]; exact u1) u2
    · have F1 := r_F_1 q2 407 r (by omega)
      have hb := F1.2.2.1
      unfold fX7_readLine_b179
      rw [b_nr hb, b_nr hb, p_bi, p_bi, p_gd (by decide), p_lt, p_gd (by decide), p_lt]
      by_cases o : s_up m1 1 407 r 1 407 ≤ 1
      · rw [if_pos o]
        exact brk 408 1 (s_up m1 1 407 r) cF (by omega) q1 F1
      · rw [if_neg o]
        exact brk 408 (s_up m1 1 407 r 1 407) (s_up m1 1 407 r) cF (by omega) q1 F1
  · have k4' : c 3 1 = 3 := k4
    obtain ⟨r, m1, f1, m11, h⟩ := p_Lword (fC := 7) (many := 5) (fM := 6) (fi := 6) B K (by omega) (by omega) (by omega) (by omega) (by omega) (fun x => by
      unfold fX4_takeToken
      rw [k4', if_neg (by decide), if_neg (by decide), if_neg (by decide), if_pos rfl]
      rfl)
    have f1' : fX7_wordRead m 6 5 = some (r, m1) := f1
    rw [if_neg (by decide), if_neg (by decide), if_neg (by decide), if_pos (by decide), f1', p_bi, p_lt]
    rcases h with ⟨c1, v, rfl, v1, q1, q2, q3, q4⟩ | ⟨cF, q1, q2⟩
    · refine set1 409 (nI v) m1 c1 (by omega) q1 q2 ?_
      rw [q3, q4]
      exact r_dft_100 (by decide) D (by omega) (by show upd (m1 1) 409 (nI v) = _; rw [m11])
    · exact brk 409 r m1 cF (by omega) q1 q2
  · have k4' : c 3 1 = 4 := k4
    obtain ⟨r, m1, f1, m11, h⟩ := p_Lword (fC := 12) (many := 3) (fM := 11) (fi := 7) B K (by omega) (by omega) (by omega) (by omega) (by omega) (fun x => by
      unfold fX4_takeToken
      rw [k4', if_neg (by decide), if_neg (by decide), if_neg (by decide), if_neg (by decide), if_pos rfl]
      rfl)
    have f1' : fX7_wordRead m 11 3 = some (r, m1) := f1
    rw [if_neg (by decide), if_neg (by decide), if_neg (by decide), if_neg (by decide), if_pos (by decide), f1', p_bi, p_lt]
    rcases h with ⟨c1, v, rfl, v1, q1, q2, q3, q4⟩ | ⟨cF, q1, q2⟩
    · refine set1 410 (nI v) m1 c1 (by omega) q1 q2 ?_
      rw [q3, q4]
      exact r_dft_101 (by decide) D (by omega) (by show upd (m1 1) 410 (nI v) = _; rw [m11])
    · exact brk 410 r m1 cF (by omega) q1 q2
  · obtain ⟨m1, f1, h⟩ := p_Lput B K (r_dft_w (by decide) D)
    rw [if_neg (by decide), if_neg (by decide), if_neg (by decide), if_neg (by decide), if_neg (by decide), f1, p_bv]
    rcases h with ⟨c1, tok1, w1, q1, q2, q3, q4, q5, q6⟩ | ⟨cF, q1, q2⟩
    · obtain ⟨m', f, h2⟩ := p_endP B q3 q4 q5 q6
      refine ⟨m', f, ?_⟩
      rcases h2 with ⟨c', tok', t1, t2, t3⟩ | ⟨cF, t1, t2⟩
      · exact Or.inl ⟨c', tok', by rw [q1]; exact t1, by omega, t3⟩
      · exact Or.inr ⟨cF, by rw [q1]; exact t1, t2⟩
    · exact ⟨m1, b_228 q2.2.2.1, Or.inr ⟨cF, q1, q2⟩⟩
