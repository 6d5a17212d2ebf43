/-! PURE: a reading told, a put line -/
theorem q_miss {a b : Int32} (h : r_nm a b) : a = 6 ↔ b = 14 := by
  rcases h with ⟨rfl, rfl⟩ | ⟨j, hj, rfl, rfl⟩
  · decide
  · have := r_ph_b hj
    have e1 : (nI j = 6) ↔ j = 6 := nI_eq (b := 6) (by omega) (by omega)
    have e2 : (nI (r_ph j) = 14) ↔ r_ph j = 14 := nI_eq (b := 14) (by omega) (by omega)
    rw [e1, e2]
    unfold r_ph
    by_cases x : j < 6
    · rw [if_pos x]; omega
    · rw [if_neg x]
      by_cases y : j = 6
      · rw [if_pos y]; omega
      · rw [if_neg y]; omega
theorem p_irh {c m : Sg} {n s e : Nat} (k : r_tk c m n s e) : fX7_isReadingHere m = some (if m 0 9 = 2 ∨ m 0 9 = 4 ∨ c 3 8 = 6 then 1 else 0, m) := by
  obtain ⟨-, ⟨b, y1, y2⟩, -⟩ := k
  have q := q_miss y2
  unfold fX7_isReadingHere fX7_isReadingHere_b25
  by_cases h2 : m 0 9 = 2
  · rw [if_pos h2, if_pos (Or.inl h2)]
  · rw [if_neg h2]
    by_cases h4 : m 0 9 = 4
    · rw [if_pos h4, if_pos (Or.inr (Or.inl h4))]
    · rw [if_neg h4, y1, p_bi]
      by_cases h6 : c 3 8 = 6
      · rw [if_pos (q.mp h6), if_pos (Or.inr (Or.inr h6))]
      · rw [if_neg (fun z => h6 (q.mpr z)), if_neg (fun z => z.elim h2 (fun z => z.elim h4 h6))]
theorem p_124 {m : Sg} {N : Nat} (hN : N < 96) (e : m 1 411 = nI N) (v : Int32) : fX7_readReading_b124 m (nI N) v = some (s_up (s_up m 1 (309 + N) v) 1 411 (nI (N + 1))) := by
  have e1 : (309 : Int32) + nI N = nI (309 + N) := nI_add 309 N
  have e2 : s_up m 1 (309 + N) v 1 411 + 1 = nI (N + 1) := by
    have : s_up m 1 (309 + N) v 1 411 = m 1 411 := by
      show upd (m 1) (309 + N) v 411 = _
      rw [p_upd, if_neg (by omega)]
    rw [this, e, nI_1]
  unfold fX7_readReading_b124
  rw [e1, p_gd (p_inN (by omega) (by omega)), p_lt, p_lt, nI_clamp (by omega), e2]
theorem r_K_put {cB mB c m : Sg} {n tok w N : Nat} (B : r_B cB mB n) (K : r_K cB mB n c m tok w) (hN : N < 96) (v : Int32) : r_K cB mB n c (s_up (s_up m 1 (309 + N) v) 1 411 (nI (N + 1))) tok w := by
  refine r_K_d B K (fun _ _ _ => rfl) (fun p hp => by rw [p_up, if_neg hp, p_up, if_neg hp]) (fun i hi => ?_)
  show upd (upd (m 1) (309 + N) v) 411 (nI (N + 1)) i = _
  rw [p_upd, if_neg (by omega), p_upd, if_neg (by omega)]
theorem r_F_put {cB mB c m : Sg} {n N : Nat} (F : r_F cB mB n c m) (hN : N < 96) (v : Int32) : r_F cB mB n c (s_up (s_up m 1 (309 + N) v) 1 411 (nI (N + 1))) := r_F_1 (r_F_1 F _ _ (by omega)) _ _ (by omega)
theorem p_L94 {cB mB c m c0 : Sg} {n tok w N : Nat} (B : r_B cB mB n) (K : r_K cB mB n c m tok w) (hw : w < 12) (g1 : ∀ p, ¬ p = 3 → c0 p = c p) (g2 : ∀ i, ¬ i = 1 → ¬ i = 3 → c0 3 i = c 3 i) (hN : N < 96) (eN : c 4 1 = nI N) (eM : m 1 411 = nI N) (hT : ∀ s e, r_tk c m n s e → ¬ c 3 5 = 0 → fX4_takeToken c (m 2 s) = s_bv (fX4_takeWhole c0) (fun σ => some σ)) : ∃ m', fX7_readReading_b94 m (nI N) (c0 3 3) = some m' ∧ ((∃ c' tok' w' val, r_cl c tok = r_cl c' tok' ∧ tok < tok' ∧ r_K cB mB n c' m' tok' w' ∧ (w' = 10 ∨ (w' = 8 ∧ ¬ m' 0 9 = 5)) ∧ c' 4 = upd (c 4) 1 (nI (N + 1)) ∧ (∀ i, ¬ i = N → c' 5 i = c 5 i) ∧ c' 5 N = val ∧ r_ok val ∧ m' 1 = upd (upd (m 1) (309 + N) val) 411 (nI (N + 1))) ∨ (∃ cF, r_cl c tok = some (0, cF) ∧ r_F cB mB n cF m')) := by
  obtain ⟨r, m1, f1, m11, h⟩ := p_Lwh B K hw g1 g2 hN eN hT
  unfold fX7_readReading_b94 fX7_readReading_b123
  rw [f1, p_bi, p_lt]
  have eM1 : m1 1 411 = nI N := by rw [m11]; exact eM
  rcases h with ⟨c1, v, rfl, hv, q1, q2, q3, q4, q5, q6⟩ | ⟨cF, q1, q2⟩
  · have e41 : c1 4 1 = nI (N + 1) := by rw [q5, p_upd, if_pos rfl]
    have e5N : c1 5 N = r_sn (c1 3 3) (100 * v) := by rw [q6, p_upd, if_pos rfl, q3]
    obtain ⟨r2, m2, f2, m21, h2⟩ := p_Lhu B q2 hN e41 q4 hv e5N
    have eM2 : m2 1 411 = nI N := by rw [m21]; exact eM1
    have e100 : (100 : Int32) * nI v = nI (100 * v) := pk_mul 100 v
    rw [f2, p_bi, p_lt, p_124 hN eM2, p_124 hN eM2, e100]
    rcases h2 with ⟨c2, tok2, w2, hh, rfl, u1, u2, u3, u4, u5, u6, u7, u8⟩ | ⟨cF, u1, u2⟩
    · have hval : (if c0 3 3 = 0 then some (s_up (s_up m2 1 (309 + N) (nI (100 * v) + nI hh)) 1 411 (nI (N + 1))) else some (s_up (s_up m2 1 (309 + N) (-(nI (100 * v) + nI hh))) 1 411 (nI (N + 1)))) = some (s_up (s_up m2 1 (309 + N) (r_sn (c0 3 3) (100 * v + hh))) 1 411 (nI (N + 1))) := by
        unfold r_sn
        rw [nI_add]
        by_cases z : c0 3 3 = 0
        · rw [if_pos z, if_pos z]
        · rw [if_neg z, if_neg z]
      rw [hval]
      refine ⟨_, rfl, Or.inl ⟨c2, tok2, w2, r_sn (c0 3 3) (100 * v + hh), by rw [q1]; exact u2, by omega, r_K_put B u4 hN _, u5, by rw [u6]; exact q5, fun i hi => ?_, by rw [u8, q3], r_sn_ok (by omega), ?_⟩⟩
      · rw [u7 i hi, q6, p_upd, if_neg hi]
      · show upd (upd (m2 1) (309 + N) _) 411 (nI (N + 1)) = _
        rw [m21, m11]
    · by_cases z : c0 3 3 = 0
      · rw [if_pos z]; exact ⟨_, rfl, Or.inr ⟨cF, by rw [q1]; exact u1, r_F_put u2 hN _⟩⟩
      · rw [if_neg z]; exact ⟨_, rfl, Or.inr ⟨cF, by rw [q1]; exact u1, r_F_put u2 hN _⟩⟩
  · have hbr := q2.2.2.1
    rw [b_hr hbr, p_bi, p_lt, p_124 hN eM1, p_124 hN eM1]
    by_cases z : c0 3 3 = 0
    · rw [if_pos z]; exact ⟨_, rfl, Or.inr ⟨cF, q1, r_F_put q2 hN _⟩⟩
    · rw [if_neg z]; exact ⟨_, rfl, Or.inr ⟨cF, q1, r_F_put q2 hN _⟩⟩
/-! where a reading may begin -/
theorem p_tr {c : Sg} {w : Nat} (hw : w = 5 ∨ w = 8 ∨ w = 10) (k : c 3 1 = nI w) (x : Int32) : fX4_takeToken c x = s_bv (fX4_takeReadingOrMore c x) (fun σ => some σ) := by
  unfold fX4_takeToken
  rcases hw with rfl | rfl | rfl
  · have k' : c 3 1 = 5 := k
    rw [k', if_neg (by decide), if_neg (by decide), if_neg (by decide), if_neg (by decide), if_neg (by decide), if_pos rfl]
  · have k' : c 3 1 = 8 := k
    rw [k', if_neg (by decide), if_neg (by decide), if_neg (by decide), if_neg (by decide), if_neg (by decide), if_neg (by decide), if_neg (by decide), if_neg (by decide), if_pos rfl]
  · have k' : c 3 1 = 10 := k
    rw [k', if_neg (by decide), if_neg (by decide), if_neg (by decide), if_neg (by decide), if_neg (by decide), if_neg (by decide), if_neg (by decide), if_neg (by decide), if_neg (by decide), if_neg (by decide), if_pos rfl]
theorem p_trm {c : Sg} {x : Int32} (h1 : ¬ (c 3 1 = 8 ∧ x = 46)) (h2 : ¬ (¬ c 3 1 = 5 ∧ x = 59)) : fX4_takeReadingOrMore c x = fX4_takeReadingOrMore_b59 c (if x = 45 then 1 else 0) := by
  have hb : ∀ y, fX4_takeReadingOrMore_b11 c x y = fX4_takeReadingOrMore_b59 c y := fun y => by
    have hb2 : fX4_takeReadingOrMore_b36 c x y = fX4_takeReadingOrMore_b59 c y := by
      unfold fX4_takeReadingOrMore_b36
      by_cases a : c 3 1 = 5
      · rw [if_pos a]
      · rw [if_neg a, if_neg (fun z => h2 ⟨a, z⟩)]
    unfold fX4_takeReadingOrMore_b11
    rw [hb2]
    by_cases a : c 3 1 = 8
    · rw [if_pos a, if_neg (fun z => h1 ⟨a, z⟩)]
    · rw [if_neg a]
  unfold fX4_takeReadingOrMore
  rw [hb, hb]
  by_cases a : x = 45
  · rw [if_pos a, if_pos a]
  · rw [if_neg a, if_neg a]
theorem q_lb {b : Int32} (h : 97 ≤ b.toInt ∨ (48 ≤ b.toInt ∧ b.toInt ≤ 57)) : ¬ b = 45 ∧ ¬ b = 46 ∧ ¬ b = 59 := by
  have w1 : (45 : Int32).toInt = 45 := rfl
  have w2 : (46 : Int32).toInt = 46 := rfl
  have w3 : (59 : Int32).toInt = 59 := rfl
  refine ⟨fun z => ?_, fun z => ?_, fun z => ?_⟩
  · rw [z, w1] at h; omega
  · rw [z, w2] at h; omega
  · rw [z, w3] at h; omega
theorem p_full4 {c : Sg} {N : Nat} (hN : N ≤ 96) (e : c 4 1 = nI N) : fX1_isFull_4 c = some (if N < 96 then 0 else 1, c) := by
  unfold fX1_isFull_4
  rw [e]
  by_cases x : N < 96
  · rw [if_pos (show nI N < 96 from nI_lt (b := 96) x (by omega)), if_pos x]
  · rw [if_neg (show ¬ nI N < 96 from nI_nlt (b := 96) (by omega) (by omega)), if_neg x]
theorem p_Lrd {cB mB c m : Sg} {n tok w : Nat} (B : r_B cB mB n) (K : r_K cB mB n c m tok w) (hw : w = 5 ∨ w = 8 ∨ w = 10) (D : r_dft (c 4) (c 5) (r_pp m) w) (hr : w = 5 ∨ (m 0 9 = 2 ∨ m 0 9 = 4 ∨ c 3 8 = 6)) : ∃ m', fX7_readReading m = some m' ∧ ((∃ c' tok' w', r_cl c tok = r_cl c' tok' ∧ tok < tok' ∧ r_K cB mB n c' m' tok' w' ∧ (w' = 10 ∨ (w' = 8 ∧ ¬ m' 0 9 = 5)) ∧ r_dft (c' 4) (c' 5) (r_pp m') w') ∨ (∃ cF, r_cl c tok = some (0, cF) ∧ r_F cB mB n cF m')) := by
  obtain ⟨k1, k2, k3, k4, s, e, k5, k6⟩ := id K
  have B' := r_B_of B k1 k2
  have hn := B'.1.1
  obtain ⟨⟨x1, x2, x3, x4, x5, x6, x7, x8⟩, ⟨b, y1, y2⟩, z⟩ := id k5
  obtain ⟨N, n1, n2, n3, -⟩ := id D
  have n3' : m 1 411 = nI N := n3
  have w6 : ¬ w = 6 := by omega
  have hw12 : w < 12 := by omega
  have n12 : ¬ c 3 1 = 12 := by rw [k4]; exact fun q => by have := (nI_eq (b := 12) (by omega) (by omega)).mp q; omega
  have hs0 : ¬ c 3 5 = 0 → s < e := fun h0 => by
    rcases z with z | z | z | z
    · exact absurd z.1 h0
    · exact z.1
    · exact z.1
    · exact z.1
  have nb0 : m 0 5 ≤ 0 := by rw [x8]; decide
  have e58 : ∀ x : Int32, (c 3 1 = 8 ∧ x = 46) → w = 8 := fun x q => (nI_eq (b := 8) (by omega) (by omega)).mp (k4.symm.trans q.1)
  unfold fX7_readReading
  rw [if_pos x8, p_irh k5, p_bi]
  by_cases rh : m 0 9 = 2 ∨ m 0 9 = 4 ∨ c 3 8 = 6
  · rw [if_pos rh, if_neg q10]
    have h0 : ¬ c 3 5 = 0 := by
      rcases z with z | z | z | z
      · rw [z.2.1, z.2.2] at rh; exact absurd rh (by decide)
      · rw [z.2.1.1]; decide
      · rw [z.2.1.1]; decide
      · rw [z.2.1.1]; decide
    have hse := hs0 h0
    -- what the class does with the token
    obtain ⟨x2', hT, hx2, hx2'⟩ : ∃ y : Int32, fX4_takeToken c (m 2 s) = s_bv (fX4_takeReadingOrMore_b88 c y) (fun σ => some σ) ∧ (m 0 9 = 4 → y = 1) ∧ (¬ m 0 9 = 4 → y = 0) := by
      rcases z with z | z | z | z
      · exact absurd z.1 h0
      · have q := q_lb (b := m 2 s) (Or.inl z.2.2.1)
        have h8 : c 3 8 = 6 := by
          rcases rh with r | r | r
          · rw [z.2.1.2] at r; exact absurd r (by decide)
          · rw [z.2.1.2] at r; exact absurd r (by decide)
          · exact r
        refine ⟨0, ?_, fun r => by rw [z.2.1.2] at r; exact absurd r (by decide), fun _ => rfl⟩
        rw [p_tr hw k4, p_trm (fun r => q.2.1 r.2) (fun r => q.2.2 r.2), if_neg q.1]
        unfold fX4_takeReadingOrMore_b59
        rw [if_pos rfl, if_neg (by rw [z.2.1.1]; decide), if_pos h8]
      · have q := q_lb (b := m 2 s) (Or.inr z.2.2.1)
        refine ⟨0, ?_, fun r => by rw [z.2.1.2.1] at r; exact absurd r (by decide), fun _ => rfl⟩
        rw [p_tr hw k4, p_trm (fun r => q.2.1 r.2) (fun r => q.2.2 r.2), if_neg q.1]
        unfold fX4_takeReadingOrMore_b59
        rw [if_pos rfl, if_pos z.2.1.1]
      · have h8 : ¬ c 3 8 = 6 := by rw [z.2.1.2]; decide
        obtain ⟨hb, h4⟩ : m 2 s = 45 ∧ m 0 9 = 4 := by
          rcases z.2.2 with q | q | q
          · rw [q.2] at rh; exact absurd (rh.resolve_left (by decide) |>.resolve_left (by decide)) h8
          · exact q
          · rw [q.2] at rh; exact absurd (rh.resolve_left (by decide) |>.resolve_left (by decide)) h8
        refine ⟨1, ?_, fun _ => rfl, fun r => absurd h4 r⟩
        rw [p_tr hw k4, hb, p_trm (fun r => absurd r.2 (by decide)) (fun r => absurd r.2 (by decide)), if_pos rfl]
        unfold fX4_takeReadingOrMore_b59
        rw [if_neg q10]
    unfold fX7_readReading_b19
    rw [p_lt, if_pos x8, n3']
    by_cases full : N < 96
    · have nf : ¬ nI N = 96 := fun q => by have := (nI_eq (b := 96) (by omega) (by omega)).mp q; omega
      rw [if_neg nf]
      unfold fX7_readReading_b46
      rw [if_pos nb0]
      by_cases hm6 : c 3 8 = 6
      · -- a missing one
        have hnm : c 3 5 = 1 ∧ m 0 9 = 1 := by
          rcases z with z | z | z | z
          · exact absurd z.1 h0
          · exact z.2.1
          · rw [z.2.1.2.2] at hm6; exact absurd hm6 (by decide)
          · rw [z.2.1.2] at hm6; exact absurd hm6 (by decide)
        rw [if_pos hnm.2]
        have hTk : fX4_takeToken c (m 2 s) = some (s_up (s_up (s_up c 5 N 100000000) 4 1 (nI (N + 1))) 3 1 10) := by
          rw [hT]
          unfold fX4_takeReadingOrMore_b88
          rw [p_full4 n1 n2, p_bi, if_pos full, if_pos rfl, if_pos hm6, p_ap4 full n2, p_bv, p_lt, p_bv]
        obtain ⟨c1, m1, a1, a2, a3, a4⟩ := p_adv (c := s_up (s_up (s_up c 5 N 100000000) 4 1 (nI (N + 1))) 3 1 10) (m := m) (w := 10) (tok := tok) B (r_gc_t k1 (r_gc_t (r_gc_u _ _ (by omega)) (r_gc_t (r_gc_u _ _ (by omega)) (r_gc_u _ _ (by omega))))) k2 x3 x4 x6 x7 x8 k3 rfl (by omega)
        have h10 : s_up (s_up (s_up c 5 N 100000000) 4 1 (nI (N + 1))) 3 1 10 3 10 = 0 := x7
        have hCL : r_cl c tok = s_bv (fX4_scan (s_up (s_up (s_up c 5 N 100000000) 4 1 (nI (N + 1))) 3 1 10)) (fun σ10 => r_cl σ10 (tok + 1)) := by
          rw [p_cls B' k5 h0 hse k6, hTk, p_bv, if_pos h10]
        have m11 : m1 1 = m 1 := a3.1 1 (by decide)
        have eM1 : m1 1 411 = nI N := by rw [m11]; exact n3'
        rw [a1, p_bv, p_124 full eM1]
        refine ⟨_, rfl, ?_⟩
        rcases a4 with ⟨q1, q2⟩ | ⟨q1, q2⟩
        · refine Or.inl ⟨c1, tok + 1, 10, by rw [hCL]; exact q1, by omega, r_K_put B q2 full _, Or.inl rfl, ?_⟩
          have e4 : c1 4 = upd (c 4) 1 (nI (N + 1)) := (a2.1 4 (by decide)).trans rfl
          have e5 : c1 5 = upd (c 5) N 100000000 := (a2.1 5 (by decide)).trans rfl
          rw [e4]
          refine r_dft_put w6 D n2 full (fun i hi => by rw [e5, p_upd, if_neg hi]) (by rw [e5, p_upd, if_pos rfl]) (Or.inl rfl) ?_
          show upd (upd (m1 1) (309 + N) _) 411 _ = _
          rw [m11]
        · exact Or.inr ⟨c1, by rw [hCL]; exact q1, r_F_put q2 full _⟩
      · -- a number
        have h88 : ∀ y : Int32, y = 0 ∨ y = 1 → fX4_takeReadingOrMore_b88 c y = (if y = 0 then (s_bv (fX4_takeWhole (s_up (s_up c 3 3 y) 3 1 7)) (fun σ10 => (some σ10))) else (some (s_up (s_up c 3 3 y) 3 1 7))) := fun y hy => by
          have hz : s_z y = true := decide_eq_true hy
          unfold fX4_takeReadingOrMore_b88
          rw [p_full4 n1 n2, p_bi, if_pos full, if_pos rfl, if_neg hm6, p_gd hz, p_lt, p_lt]
        have fin : ∀ (mm : Sg) (cc : Sg) (tk ww : Nat) (c0 : Sg), r_K cB mB n cc mm tk ww → ww < 12 → tok ≤ tk → r_cl c tok = r_cl cc tk → (∀ p, ¬ p = 3 → c0 p = cc p) → (∀ i, ¬ i = 1 → ¬ i = 3 → c0 3 i = cc 3 i) → cc 4 = c 4 → cc 5 = c 5 → mm 1 = m 1 → (∀ s e, r_tk cc mm n s e → ¬ cc 3 5 = 0 → fX4_takeToken cc (mm 2 s) = s_bv (fX4_takeWhole c0) (fun σ => some σ)) → ∃ m', fX7_readReading_b94 mm (nI N) (c0 3 3) = some m' ∧ ((∃ c' tok' w', r_cl c tok = r_cl c' tok' ∧ tok < tok' ∧ r_K cB mB n c' m' tok' w' ∧ (w' = 10 ∨ (w' = 8 ∧ ¬ m' 0 9 = 5)) ∧ r_dft (c' 4) (c' 5) (r_pp m') w') ∨ (∃ cF, r_cl c tok = some (0, cF) ∧ r_F cB mB n cF m')) := by
          intro mm cc tk ww c0 KK hww htk hcl g1 g2 e4 e5 em hTT
          obtain ⟨m', f1, h⟩ := p_L94 B KK hww g1 g2 full (by rw [e4]; exact n2) (by rw [em]; exact n3') hTT
          refine ⟨m', f1, ?_⟩
          rcases h with ⟨c', tok', w', val, q1, q2, q3, q4, q5, q6, q7, q8, q9⟩ | ⟨cF, q1, q2⟩
          · refine Or.inl ⟨c', tok', w', by rw [hcl]; exact q1, by omega, q3, q4, ?_⟩
            rw [q5, e4]
            exact r_dft_put w6 D n2 full (fun i hi => by rw [q6 i hi, e5]) q7 q8 (by rw [q9, em])
          · exact Or.inr ⟨cF, by rw [hcl]; exact q1, q2⟩
        by_cases h4 : m 0 9 = 4
        · -- less
          have hy := hx2 h4
          rw [hy] at hT
          rw [if_neg (by rw [h4]; decide), if_pos h4]
          have hTk : fX4_takeToken c (m 2 s) = some (s_up (s_up c 3 3 1) 3 1 7) := by
            rw [hT, h88 1 (Or.inr rfl), if_neg q10, p_bv]
          obtain ⟨c1, m1, a1, a2, a3, a4⟩ := p_adv (c := s_up (s_up c 3 3 1) 3 1 7) (m := m) (w := 7) (tok := tok) B (r_gc_t k1 (r_gc_t (r_gc_u _ _ (by omega)) (r_gc_u _ _ (by omega)))) k2 x3 x4 x6 x7 x8 k3 rfl (by omega)
          have h10 : s_up (s_up c 3 3 1) 3 1 7 3 10 = 0 := x7
          have hCL : r_cl c tok = s_bv (fX4_scan (s_up (s_up c 3 3 1) 3 1 7)) (fun σ10 => r_cl σ10 (tok + 1)) := by
            rw [p_cls B' k5 h0 hse k6, hTk, p_bv, if_pos h10]
          have m11 : m1 1 = m 1 := a3.1 1 (by decide)
          have eM1 : m1 1 411 = nI N := by rw [m11]; exact n3'
          unfold fX7_readReading_b85
          rw [if_neg q10, a1, p_bv]
          rcases a4 with ⟨q1, q2⟩ | ⟨q1, q2⟩
          · have c33 : c1 3 3 = 1 := (a2.2 3 (by omega)).trans rfl
            have := fin m1 c1 (tok + 1) 7 c1 q2 (by omega) (by omega) (by rw [hCL]; exact q1) (fun _ _ => rfl) (fun _ _ _ => rfl) ((a2.1 4 (by decide)).trans rfl) ((a2.1 5 (by decide)).trans rfl) m11 (fun s' e' _ _ => by
              have k7 : c1 3 1 = 7 := q2.2.2.2.1
              unfold fX4_takeToken
              rw [k7, if_neg (by decide), if_neg (by decide), if_neg (by decide), if_neg (by decide), if_neg (by decide), if_neg (by decide), if_neg (by decide), if_pos rfl])
            rw [c33] at this
            exact this
          · have hbr := q2.2.2.1
            unfold fX7_readReading_b94 fX7_readReading_b123
            rw [b_nr hbr, p_bi, p_lt, b_hr hbr, p_bi, p_lt, if_neg q10, p_124 full eM1]
            exact ⟨_, rfl, Or.inr ⟨c1, by rw [hCL]; exact q1, r_F_put q2 full _⟩⟩
        · -- a plain number
          have hy := hx2' h4
          rw [hy] at hT
          have h2 : m 0 9 = 2 := by
            rcases rh with r | r | r
            · exact r
            · exact absurd r h4
            · exact absurd r hm6
          rw [if_neg (by rw [h2]; decide), if_neg h4]
          unfold fX7_readReading_b85
          rw [if_pos rfl]
          have c03 : s_up (s_up c 3 3 0) 3 1 7 3 3 = 0 := rfl
          have := fin m c tok w (s_up (s_up c 3 3 0) 3 1 7) K hw12 (Nat.le_refl _) rfl (fun p hp => by rw [p_up, if_neg hp, p_up, if_neg hp]) (fun i h1 h3 => by
            show upd (upd (c 3) 3 0) 1 7 i = _
            rw [p_upd, if_neg h1, p_upd, if_neg h3]) rfl rfl rfl (fun s' e' ks _ => by
            have es : s' = s := (nI_eq (by have := ks.1.2.2.2.2.1; have := ks.1.2.2.2.2.2.1; omega) (by omega)).mp (ks.1.1.symm.trans x1)
            rw [es, hT, h88 0 (Or.inl rfl), if_pos rfl]
            cases fX4_takeWhole (s_up (s_up c 3 3 0) 3 1 7) with
            | none => rfl
            | some y => rfl)
          rw [c03] at this
          exact this
    · have eN : N = 96 := by omega
      have hbr : 0 < (r_fl m 5 0 5).toInt := by show 0 < (5 : Int32).toInt; decide
      rw [if_pos (show nI N = 96 by rw [eN]; rfl), p_fl x8, p_bv]
      unfold fX7_readReading_b46
      rw [if_neg (q_brk hbr).2.1]
      have hTk : fX4_takeToken c (m 2 s) = some (r_rf c 5) := by
        rw [hT]
        unfold fX4_takeReadingOrMore_b88
        rw [p_full4 n1 n2, p_bi, if_neg full, if_neg q10, p_rf, p_bv, p_bv]
      have h10 : ¬ r_rf c 5 3 10 = 0 := by show ¬ (5 : Int32) = 0; decide
      refine ⟨_, rfl, Or.inr ⟨r_rf c 5, ?_, r_F_of K (by decide) (r_rf_g c 5) rfl rfl⟩⟩
      rw [p_cls B' k5 h0 hse k6, hTk, p_bv, if_neg h10, p_clf h10 (by omega)]
  · have w5 : w = 5 := hr.resolve_right rh
    have hbr : 0 < (r_fl m 2 0 5).toInt := by show 0 < (2 : Int32).toInt; decide
    rw [if_neg rh, if_pos rfl, p_fl x8, p_bv]
    unfold fX7_readReading_b19 fX7_readReading_b46
    rw [p_lt, if_neg (q_brk hbr).1, if_neg (q_brk hbr).2.1]
    refine ⟨_, rfl, Or.inr ?_⟩
    by_cases h0 : c 3 5 = 0
    · exact ⟨_, p_cle x7 h0 n12 (by omega), r_F_of K (by decide) (r_rf_g c 2) rfl rfl⟩
    · have k45 : c 3 1 = 5 := by rw [k4, w5]; rfl
      have h5 : ¬ c 3 5 = 2 := fun q => by
        rcases z with z | z | z | z
        · exact h0 z.1
        · rw [z.2.1.1] at q; exact absurd q (by decide)
        · exact rh (Or.inl z.2.1.2.1)
        · rw [z.2.1.1] at q; exact absurd q (by decide)
      have hb : ¬ m 2 s = 45 := fun q => by
        rcases z with z | z | z | z
        · exact h0 z.1
        · exact (q_lb (b := m 2 s) (Or.inl z.2.2.1)).1 q
        · exact (q_lb (b := m 2 s) (Or.inr z.2.2.1)).1 q
        · rcases z.2.2 with r | r | r
          · rw [r.1] at q; exact absurd q (by decide)
          · exact rh (Or.inr (Or.inl r.2))
          · rw [r.1] at q; exact absurd q (by decide)
      have hTk : fX4_takeToken c (m 2 s) = some (r_rf c 2) := by
        rw [p_tr hw k4, p_trm (fun r => by rw [k45] at r; exact absurd r.1 (by decide)) (fun r => r.1 k45), if_neg hb]
        unfold fX4_takeReadingOrMore_b59
        rw [if_pos rfl, if_neg h5, if_neg (fun q => rh (Or.inr (Or.inr q))), p_rf, p_bv, p_bv]
      have h10 : ¬ r_rf c 2 3 10 = 0 := by show ¬ (2 : Int32) = 0; decide
      refine ⟨r_rf c 2, ?_, r_F_of K (by decide) (r_rf_g c 2) rfl rfl⟩
      rw [p_cls B' k5 h0 (hs0 h0) k6, hTk, p_bv, if_neg h10, p_clf h10 (by omega)]
theorem p_putL {cB mB : Sg} {n : Nat} (B : r_B cB mB n) : ∀ (f : Nat) (c m : Sg) (tok w : Nat), r_K cB mB n c m tok w → (w = 10 ∨ (w = 8 ∧ ¬ m 0 9 = 5)) → r_dft (c 4) (c 5) (r_pp m) w → 400 - tok < f → ∃ m', fX7_readPut_b4_L f m = some m' ∧ ((∃ c' tok' w', r_cl c tok = r_cl c' tok' ∧ tok ≤ tok' ∧ r_K cB mB n c' m' tok' w' ∧ (w' = 10 ∨ (w' = 8 ∧ ¬ m' 0 9 = 5)) ∧ r_dft (c' 4) (c' 5) (r_pp m') w' ∧ ¬ (m' 0 9 = 2 ∨ m' 0 9 = 4 ∨ c' 3 8 = 6)) ∨ (∃ cF, r_cl c tok = some (0, cF) ∧ r_F cB mB n cF m')) := by
  intro f
  induction f with
  | zero => intro c m tok w _ _ _ h; omega
  | succ f ih =>
    intro c m tok w K hw D hf
    obtain ⟨k1, k2, k3, k4, s, e, k5, k6⟩ := id K
    have hn := (r_B_of B k1 k2).1.1
    have x8 := k5.1.2.2.2.2.2.2.2
    have hsn : s ≤ n := by have := k5.1.2.2.2.2.1; have := k5.1.2.2.2.2.2.1; omega
    show ∃ m', fX7_readPut_b4 (fX7_readPut_b4_L f) m = some m' ∧ _
    unfold fX7_readPut_b4
    rw [if_pos x8, p_irh k5, p_bi]
    by_cases rh : m 0 9 = 2 ∨ m 0 9 = 4 ∨ c 3 8 = 6
    · rw [if_pos rh, if_neg q10]
      obtain ⟨m1, f1, h⟩ := p_Lrd B K (by omega) D (Or.inr rh)
      rw [f1, p_bv]
      rcases h with ⟨c1, tok1, w1, q1, q2, q3, q4, q5⟩ | ⟨cF, q1, q2⟩
      · obtain ⟨m', f2, h2⟩ := ih c1 m1 tok1 w1 q3 q4 q5 (by omega)
        refine ⟨m', f2, ?_⟩
        rcases h2 with ⟨c2, tok2, w2, u1, u2, u3⟩ | ⟨cF, u1, u2⟩
        · exact Or.inl ⟨c2, tok2, w2, by rw [q1]; exact u1, by omega, u3⟩
        · exact Or.inr ⟨cF, by rw [q1]; exact u1, u2⟩
      · obtain ⟨f', rfl⟩ : ∃ f', f = f' + 1 := ⟨f - 1, by omega⟩
        exact ⟨m1, b_rpL q2.2.2.1 f', Or.inr ⟨cF, q1, q2⟩⟩
    · rw [if_neg rh, if_pos rfl]
      exact ⟨m, rfl, Or.inl ⟨c, tok, w, rfl, Nat.le_refl _, K, hw, D, rh⟩⟩
theorem p_Lput {cB mB c m : Sg} {n tok : Nat} (B : r_B cB mB n) (K : r_K cB mB n c m tok 5) (D : r_dft (c 4) (c 5) (r_pp m) 5) : ∃ m', fX7_readPut m = some m' ∧ ((∃ c' tok' w', r_cl c tok = r_cl c' tok' ∧ tok ≤ tok' ∧ r_K cB mB n c' m' tok' w' ∧ (w' = 10 ∨ (w' = 8 ∧ ¬ m' 0 9 = 5)) ∧ r_dft (c' 4) (c' 5) (r_pp m') w' ∧ ¬ (m' 0 9 = 2 ∨ m' 0 9 = 4 ∨ c' 3 8 = 6)) ∨ (∃ cF, r_cl c tok = some (0, cF) ∧ r_F cB mB n cF m')) := by
  obtain ⟨m1, f1, h⟩ := p_Lrd B K (Or.inl rfl) D (Or.inl rfl)
  unfold fX7_readPut
  rw [f1, p_bv]
  rcases h with ⟨c1, tok1, w1, q1, q2, q3, q4, q5⟩ | ⟨cF, q1, q2⟩
  · obtain ⟨m', f2, h2⟩ := p_putL B s_fu c1 m1 tok1 w1 q3 q4 q5 (by rw [s_fu_e]; omega)
    refine ⟨m', f2, ?_⟩
    rcases h2 with ⟨c2, tok2, w2, u1, u2, u3⟩ | ⟨cF, u1, u2⟩
    · exact Or.inl ⟨c2, tok2, w2, by rw [q1]; exact u1, by omega, u3⟩
    · exact Or.inr ⟨cF, by rw [q1]; exact u1, u2⟩
  · exact ⟨m1, b_rpL q2.2.2.1 4095, Or.inr ⟨cF, q1, q2⟩⟩
