/-! PURE: readings told -/
def r_dft (h g u : Nat → Int32) (w : Nat) : Prop := ∃ N : Nat, N ≤ 96 ∧ h 1 = nI N ∧ u 102 = nI N ∧ (∀ i, i < N → g i = u i ∧ r_ok (u i)) ∧ (h 2 = u 96 ∧ h 3 = u 97 ∧ h 4 = u 98 ∧ h 5 = u 99 ∧ h 6 = u 100 ∧ h 7 = u 101) ∧ (1 ≤ (u 96).toInt ∧ (u 96).toInt ≤ 24) ∧ (1 ≤ (u 97).toInt ∧ (u 97).toInt ≤ 24) ∧ (0 ≤ (u 98).toInt ∧ (u 98).toInt ≤ 100 ∧ (¬ w = 6 → (u 98).toInt ≤ (u 99).toInt) ∧ 1 ≤ (u 99).toInt ∧ (u 99).toInt ≤ 100) ∧ (0 ≤ (u 100).toInt ∧ (u 100).toInt ≤ 4) ∧ (0 ≤ (u 101).toInt ∧ (u 101).toInt ≤ 2)
def r_pp (m : Sg) : Nat → Int32 := fun i => m 1 (309 + i)
theorem r_dft_w {h g u : Nat → Int32} {w w' : Nat} (hw : ¬ w = 6) (d : r_dft h g u w) : r_dft h g u w' := by
  obtain ⟨N, a1, a2, a3, a4, a5, a6, a7, ⟨b1, b2, b3, b4, b5⟩, a9, a10⟩ := d
  exact ⟨N, a1, a2, a3, a4, a5, a6, a7, ⟨b1, b2, fun _ => b3 hw, b4, b5⟩, a9, a10⟩
theorem r_dft_put {h g g' : Nat → Int32} {m : Sg} {w w' N : Nat} {v : Int32} (hw : ¬ w = 6) (d : r_dft h g (r_pp m) w) (eN : h 1 = nI N) (hN : N < 96) (hg : ∀ i, ¬ i = N → g' i = g i) (hv : g' N = v) (ok : r_ok v) {m' : Sg} (hm : m' 1 = upd (upd (m 1) (309 + N) v) 411 (nI (N + 1))) : r_dft (upd h 1 (nI (N + 1))) g' (r_pp m') w' := by
  obtain ⟨N', a1, a2, a3, a4, ⟨c2, c3, c4, c5, c6, c7⟩, a6, a7, ⟨b1, b2, b3, b4, b5⟩, a9, a10⟩ := d
  have en : N' = N := (nI_eq (by omega) (by omega)).mp (a2.symm.trans eN)
  subst en
  have e1 : ∀ i, 96 ≤ i → i < 102 → r_pp m' i = r_pp m i := fun i h1 h2 => by
    unfold r_pp
    rw [hm, p_upd, if_neg (by omega), p_upd, if_neg (by omega)]
  refine ⟨N' + 1, by omega, rfl, ?_, fun i hi => ?_, ?_, ?_⟩
  · unfold r_pp
    rw [hm, p_upd, if_pos rfl]
  · by_cases z : i = N'
    · have e2 : r_pp m' i = v := by
        unfold r_pp
        rw [hm, p_upd, if_neg (by omega), p_upd, if_pos (by omega)]
      rw [e2, z, hv]
      exact ⟨rfl, ok⟩
    · have e2 : r_pp m' i = r_pp m i := by
        unfold r_pp
        rw [hm, p_upd, if_neg (by omega), p_upd, if_neg (by omega)]
      rw [e2, hg i z]
      exact a4 i (by omega)
  · rw [e1 96 (by omega) (by omega), e1 97 (by omega) (by omega), e1 98 (by omega) (by omega), e1 99 (by omega) (by omega), e1 100 (by omega) (by omega), e1 101 (by omega) (by omega)]
    exact ⟨c2, c3, c4, c5, c6, c7⟩
  · rw [e1 96 (by omega) (by omega), e1 97 (by omega) (by omega), e1 98 (by omega) (by omega), e1 99 (by omega) (by omega), e1 100 (by omega) (by omega), e1 101 (by omega) (by omega)]
    exact ⟨a6, a7, ⟨b1, b2, fun _ => b3 hw, b4, b5⟩, a9, a10⟩
def r_sn (neg : Int32) (x : Nat) : Int32 := if neg = 0 then nI x else -nI x
theorem r_sn_ok {neg : Int32} {x : Nat} (h : x ≤ 999999) : r_ok (r_sn neg x) := by
  have e := nI_toInt (n := x) (by omega)
  refine Or.inr ?_
  unfold r_sn
  by_cases z : neg = 0
  · rw [if_pos z, e]; omega
  · rw [if_neg z, Int32.toInt_neg, e]
    simp only [Int.bmod]
    omega
theorem p_ap4 {c : Sg} {N : Nat} {v : Int32} (hN : N < 96) (e : c 4 1 = nI N) : fX1_append_4 c v = some (s_up (s_up c 5 N v) 4 1 (nI (N + 1))) := by
  unfold fX1_append_4 fX1_isFull_4
  rw [if_pos (show c 4 1 < 96 by rw [e]; exact nI_lt (b := 96) hN (by omega)), p_bi, if_pos rfl, e, p_gd (p_inN hN (by omega)), p_lt, p_lt, nI_clamp (by omega)]
  have : s_up c 5 N v 4 1 + 1 = nI (N + 1) := by
    show c 4 1 + 1 = _
    rw [e, nI_1]
  rw [this]
/-! the whole part -/
theorem p_tw {c : Sg} {N v : Nat} (hN : N < 96) (e : c 4 1 = nI N) (h5 : c 3 5 = 2) (h9 : c 3 9 = nI v) (hv : v ≤ 9999) : fX4_takeWhole c = some (s_up (s_up (s_up (s_up c 3 1 8) 3 4 (nI (100 * v))) 5 N (r_sn (c 3 3) (100 * v))) 4 1 (nI (N + 1))) := by
  have e1 : s_up c 3 1 8 3 9 = nI v := h9
  have e2 : (100 : Int32) * nI v = nI (100 * v) := pk_mul 100 v
  have e3 : s_up (s_up c 3 1 8) 3 4 (nI (100 * v)) 3 3 = c 3 3 := rfl
  have e4 : s_up (s_up c 3 1 8) 3 4 (nI (100 * v)) 3 4 = nI (100 * v) := rfl
  have e5 : s_up (s_up c 3 1 8) 3 4 (nI (100 * v)) 4 1 = nI N := e
  unfold fX4_takeWhole fX4_takeWhole_b40 fX4_takeNumber
  rw [if_pos h5, h9, if_neg (show ¬ nI v < 0 from nI_pos (by omega)), if_pos (show nI v ≤ 9999 from nI_le (b := 9999) hv (by omega)), p_lt, e1, p_bi, e2, p_lt, e3, e4, p_ap4 hN e5, p_ap4 hN e5, p_bv, p_bv]
  unfold r_sn
  by_cases z : c 3 3 = 0
  · rw [if_pos z, if_pos z]
  · rw [if_neg z, if_neg z]
theorem p_twN {c : Sg} {N : Nat} (hN : N < 96) (e : c 4 1 = nI N) (h5 : ¬ c 3 5 = 2) : ∃ c', fX4_takeWhole c = some c' ∧ r_gc c c' ∧ c' 3 10 = 2 ∧ c' 3 11 = c 3 6 := by
  have e5 : ∀ y, s_up (r_rf c 2) 3 4 y 4 1 = nI N := fun y => e
  unfold fX4_takeWhole fX4_takeWhole_b40 fX4_takeNumber
  rw [if_neg h5, p_rf, p_bv, p_bi, p_lt, p_ap4 hN (e5 _), p_ap4 hN (e5 _), p_bv, p_bv]
  have g : ∀ y z : Int32, r_gc c (s_up (s_up (s_up (r_rf c 2) 3 4 y) 5 N z) 4 1 (nI (N + 1))) := fun y z => r_gc_t (r_rf_g c 2) (r_gc_t (r_gc_u _ _ (by omega)) (r_gc_t (r_gc_u _ _ (by omega)) (r_gc_u _ _ (by omega))))
  by_cases z : s_up (r_rf c 2) 3 4 (100 * 0) 3 3 = 0
  · rw [if_pos z]; exact ⟨_, rfl, g _ _, rfl, rfl⟩
  · rw [if_neg z]; exact ⟨_, rfl, g _ _, rfl, rfl⟩
theorem p_Lwh {cB mB c m c0 : Sg} {n tok w N : Nat} (B : r_B cB mB n) (K : r_K cB mB n c m tok w) (hw : w < 12) (g1 : ∀ p, ¬ p = 3 → c0 p = c p) (g2 : ∀ i, ¬ i = 1 → ¬ i = 3 → c0 3 i = c 3 i) (hN : N < 96) (eN : c 4 1 = nI N) (hT : ∀ s e, r_tk c m n s e → ¬ c 3 5 = 0 → fX4_takeToken c (m 2 s) = s_bv (fX4_takeWhole c0) (fun σ => some σ)) : ∃ r m1, fX7_numberRead m 0 9999 = some (r, m1) ∧ m1 1 = m 1 ∧ ((∃ c1 v, r = nI v ∧ v ≤ 9999 ∧ r_cl c tok = r_cl c1 (tok + 1) ∧ r_K cB mB n c1 m1 (tok + 1) 8 ∧ c1 3 3 = c0 3 3 ∧ c1 3 4 = nI (100 * v) ∧ c1 4 = upd (c 4) 1 (nI (N + 1)) ∧ c1 5 = upd (c 5) N (r_sn (c0 3 3) (100 * v))) ∨ (∃ cF, r_cl c tok = some (0, cF) ∧ r_F cB mB n cF m1)) := by
  obtain ⟨k1, k2, k3, k4, s, e, k5, k6⟩ := id K
  have B' := r_B_of B k1 k2
  have hn := B'.1.1
  obtain ⟨⟨x1, x2, x3, x4, x5, x6, x7, x8⟩, ⟨b, y1, y2⟩, z⟩ := id k5
  have gc0 : r_gc c c0 := fun p hp => g1 p (by omega)
  have e4 : c0 4 1 = nI N := by rw [g1 4 (by decide)]; exact eN
  have c05 : c0 3 5 = c 3 5 := g2 5 (by decide) (by decide)
  have hs0 : ¬ c 3 5 = 0 → s < e := fun h0 => by
    rcases z with z | z | z | z
    · exact absurd z.1 h0
    · exact z.1
    · exact z.1
    · exact z.1
  have bad : ¬ c 3 5 = 2 → ¬ m 0 9 = 2 → ∃ r m1, fX7_numberRead m 0 9999 = some (r, m1) ∧ m1 1 = m 1 ∧ ((∃ c1 v, r = nI v ∧ v ≤ 9999 ∧ r_cl c tok = r_cl c1 (tok + 1) ∧ r_K cB mB n c1 m1 (tok + 1) 8 ∧ c1 3 3 = c0 3 3 ∧ c1 3 4 = nI (100 * v) ∧ c1 4 = upd (c 4) 1 (nI (N + 1)) ∧ c1 5 = upd (c 5) N (r_sn (c0 3 3) (100 * v))) ∨ (∃ cF, r_cl c tok = some (0, cF) ∧ r_F cB mB n cF m1)) := by
    intro h5 h9
    have hbr : 0 < (r_fl m 2 0 5).toInt := by show 0 < (2 : Int32).toInt; decide
    refine ⟨0, r_fl m 2, ?_, rfl, Or.inr ?_⟩
    · unfold fX7_numberRead fX7_numberRead_b20 fX7_numberRead_b47 fX7_numberRead_b62
      rw [if_pos x8, if_neg h9, p_fl x8, p_bv, if_neg (q_brk hbr).1, if_neg (q_brk hbr).1, b_ro hbr, p_bv]
    · by_cases h0 : c 3 5 = 0
      · refine ⟨_, p_cle x7 h0 (by rw [k4]; exact fun q => by have := (nI_eq (b := 12) (by omega) (by omega)).mp q; omega) (by omega), ?_⟩
        exact r_F_of K (by decide) (r_rf_g c 2) rfl rfl
      · obtain ⟨c', t1, t2, t3, t4⟩ := p_twN hN e4 (by rw [c05]; exact h5)
        have h10 : ¬ c' 3 10 = 0 := by rw [t3]; decide
        refine ⟨c', ?_, r_F_of K (by decide) (r_gc_t gc0 t2) t3 (by rw [t4, g2 6 (by decide) (by decide)])⟩
        rw [p_cls B' k5 h0 (hs0 h0) k6, hT s e k5 h0, t1, p_bv, p_bv, if_neg h10, p_clf h10 (by omega)]
  rcases z with z | z | z | z
  · exact bad (by rw [z.1]; decide) (by rw [z.2.1]; decide)
  · exact bad (by rw [z.2.1.1]; decide) (by rw [z.2.1.2]; decide)
  · obtain ⟨hse, ⟨z5, z9, z8⟩, zb, ze, v, v1, v2, v3⟩ := z
    have h0 : ¬ c 3 5 = 0 := by rw [z5]; decide
    have hv9 := v3.1
    have hTk := p_tw hN e4 (by rw [c05]; exact z5) (by rw [g2 9 (by decide) (by decide)]; exact v1) hv9
    have gg : r_gc c0 (s_up (s_up (s_up (s_up c0 3 1 8) 3 4 (nI (100 * v))) 5 N (r_sn (c0 3 3) (100 * v))) 4 1 (nI (N + 1))) := r_gc_t (r_gc_u _ _ (by omega)) (r_gc_t (r_gc_u _ _ (by omega)) (r_gc_t (r_gc_u _ _ (by omega)) (r_gc_u _ _ (by omega))))
    obtain ⟨c1, m1, a1, a2, a3, a4⟩ := p_adv (c := s_up (s_up (s_up (s_up c0 3 1 8) 3 4 (nI (100 * v))) 5 N (r_sn (c0 3 3) (100 * v))) 4 1 (nI (N + 1))) (m := m) (w := 8) (tok := tok) B (r_gc_t k1 (r_gc_t gc0 gg)) k2 ((g2 7 (by decide) (by decide)).trans x3) x4 x6 ((g2 10 (by decide) (by decide)).trans x7) x8 ((g2 2 (by decide) (by decide)).trans k3) rfl (by omega)
    have hM : fX7_numberRead m 0 9999 = some (nI v, m1) := by
      unfold fX7_numberRead fX7_numberRead_b20 fX7_numberRead_b47 fX7_numberRead_b62
      have w1 : (0 : Int32).toInt = 0 := rfl
      have w2 : (9999 : Int32).toInt = 9999 := rfl
      rw [if_pos x8, if_pos z9, if_pos x8, v2, p_yes (by rw [p_t64, p_t64, p_t64, nI_toInt (by omega), w1, w2]; omega), p_bi, if_neg q10, if_pos x8, v2, a1, p_bv]
    have h10 : s_up (s_up (s_up (s_up c0 3 1 8) 3 4 (nI (100 * v))) 5 N (r_sn (c0 3 3) (100 * v))) 4 1 (nI (N + 1)) 3 10 = 0 := (g2 10 (by decide) (by decide)).trans x7
    have hCL : r_cl c tok = s_bv (fX4_scan (s_up (s_up (s_up (s_up c0 3 1 8) 3 4 (nI (100 * v))) 5 N (r_sn (c0 3 3) (100 * v))) 4 1 (nI (N + 1)))) (fun σ10 => r_cl σ10 (tok + 1)) := by
      rw [p_cls B' k5 h0 hse k6, hT s e k5 h0, hTk, p_bv, p_bv, if_pos h10]
    refine ⟨nI v, m1, hM, a3.1 1 (by decide), ?_⟩
    rcases a4 with ⟨q1, q2⟩ | ⟨q1, q2⟩
    · refine Or.inl ⟨c1, v, rfl, hv9, by rw [hCL]; exact q1, q2, ?_, ?_, ?_, ?_⟩
      · rw [a2.2 3 (by omega)]; rfl
      · rw [a2.2 4 (by omega)]; rfl
      · rw [a2.1 4 (by decide), ← g1 4 (by decide)]; rfl
      · rw [a2.1 5 (by decide), ← g1 5 (by decide)]; rfl
    · exact Or.inr ⟨c1, by rw [hCL]; exact q1, q2⟩
  · refine bad (by rw [z.2.1.1]; decide) ?_
    rcases z.2.2 with q | q | q
    · rw [q.2]; decide
    · rw [q.2]; decide
    · rw [q.2]; decide
/-! the fraction -/
theorem p_chg4 {c : Sg} {N : Nat} {v : Int32} (hN : N < 96) (e : c 4 1 = nI (N + 1)) : fX1_change_4 c (c 4 1 - 1) v = some (s_up c 5 N v) := by
  unfold fX1_change_4 fX1_has_4
  rw [e, nI_pred, if_neg (nI_pos (by omega)), if_neg (nI_ge (by omega) (by omega)), p_bi, if_neg q10, p_gd (p_inN hN (by omega)), p_lt, nI_clamp (by omega)]
theorem p_tf57 {c : Sg} {N x y : Nat} (hN : N < 96) (e : c 4 1 = nI (N + 1)) : fX4_takeFraction_b57 c (nI x) (nI y) = some (s_up (s_up c 3 4 (nI (x + y))) 5 N (r_sn (c 3 3) (x + y))) := by
  have e1 : s_up c 3 4 (nI (x + y)) 4 1 = nI (N + 1) := e
  have e3 : s_up c 3 4 (nI (x + y)) 3 3 = c 3 3 := rfl
  have e4 : s_up c 3 4 (nI (x + y)) 3 4 = nI (x + y) := rfl
  have hc := fun v => p_chg4 (c := s_up c 3 4 (nI (x + y))) (v := v) hN e1
  unfold fX4_takeFraction_b57 fX4_takeFraction_b93
  rw [nI_add, p_lt, e3, e4, hc, hc, p_bv, p_bv]
  unfold r_sn
  by_cases z : c 3 3 = 0
  · rw [if_pos z, if_pos z]
  · rw [if_neg z, if_neg z]
theorem p_Lhu {cB mB c m : Sg} {n tok N v : Nat} (B : r_B cB mB n) (K : r_K cB mB n c m tok 8) (hN : N < 96) (eN : c 4 1 = nI (N + 1)) (e4 : c 3 4 = nI (100 * v)) (hv : v ≤ 9999) (e5 : c 5 N = r_sn (c 3 3) (100 * v)) : ∃ r m2, fX7_hundredthsRead m = some (r, m2) ∧ m2 1 = m 1 ∧ ((∃ c2 tok2 w2 h, r = nI h ∧ h ≤ 99 ∧ r_cl c tok = r_cl c2 tok2 ∧ tok ≤ tok2 ∧ r_K cB mB n c2 m2 tok2 w2 ∧ (w2 = 10 ∨ (w2 = 8 ∧ ¬ m2 0 9 = 5)) ∧ c2 4 = c 4 ∧ (∀ i, ¬ i = N → c2 5 i = c 5 i) ∧ c2 5 N = r_sn (c 3 3) (100 * v + h)) ∨ (∃ cF, r_cl c tok = some (0, cF) ∧ r_F cB mB n cF m2)) := by
  obtain ⟨k1, k2, k3, k4, s, e, k5, k6⟩ := id K
  have B' := r_B_of B k1 k2
  have hn := B'.1.1
  obtain ⟨⟨x1, x2, x3, x4, x5, x6, x7, x8⟩, ⟨b, y1, y2⟩, z⟩ := id k5
  have nb : ¬ (0 : Int32) < m 0 5 := by rw [x8]; decide
  unfold fX7_hundredthsRead fX7_hundredthsRead_b15
  rw [if_neg nb]
  by_cases h5 : m 0 9 = 5
  · rw [if_pos h5]
    obtain ⟨hse, hk5, hb⟩ : s < e ∧ c 3 5 = 3 ∧ m 2 s = 46 := by
      rcases z with z | z | z | z
      · rw [z.2.1] at h5; exact absurd h5 (by decide)
      · rw [z.2.1.2] at h5; exact absurd h5 (by decide)
      · rw [z.2.1.2.1] at h5; exact absurd h5 (by decide)
      · rcases z.2.2 with q | q | q
        · rw [q.2] at h5; exact absurd h5 (by decide)
        · rw [q.2] at h5; exact absurd h5 (by decide)
        · exact ⟨z.1, z.2.1.1, q.1⟩
    have k4' : c 3 1 = 8 := k4
    have h0 : ¬ c 3 5 = 0 := by rw [hk5]; decide
    have hT : fX4_takeToken c (m 2 s) = some (s_up c 3 1 9) := by
      rw [hb]
      unfold fX4_takeToken fX4_takeReadingOrMore fX4_takeReadingOrMore_b11
      rw [k4', if_neg (by decide), if_neg (by decide), if_neg (by decide), if_neg (by decide), if_neg (by decide), if_neg (by decide), if_neg (by decide), if_neg (by decide), if_pos rfl, if_neg (show ¬ (46 : Int32) = 45 by decide), if_pos rfl, if_pos rfl, p_lt, p_bv]
    obtain ⟨c1, m1, a1, a2, a3, a4⟩ := p_adv (c := s_up c 3 1 9) (m := m) (w := 9) (tok := tok) B (r_gc_t k1 (r_gc_u _ _ (by omega))) k2 x3 x4 x6 x7 x8 k3 rfl (by omega)
    have h10 : s_up c 3 1 9 3 10 = 0 := x7
    have hCL : r_cl c tok = s_bv (fX4_scan (s_up c 3 1 9)) (fun σ10 => r_cl σ10 (tok + 1)) := by
      rw [p_cls B' k5 h0 hse k6, hT, p_bv, if_pos h10]
    rw [a1, p_bv]
    have m11 : m1 1 = m 1 := a3.1 1 (by decide)
    have c14 : c1 4 = c 4 := (a2.1 4 (by decide)).trans rfl
    have c15 : c1 5 = c 5 := (a2.1 5 (by decide)).trans rfl
    have c133 : c1 3 3 = c 3 3 := (a2.2 3 (by omega)).trans rfl
    have c134 : c1 3 4 = nI (100 * v) := ((a2.2 4 (by omega)).trans rfl).trans e4
    rcases a4 with ⟨q1, q2⟩ | ⟨q1, q2⟩
    · -- the token behind the point
      obtain ⟨j1, j2, j3, j4, s', e', j5, j6⟩ := id q2
      have B1 := r_B_of B j1 j2
      obtain ⟨⟨u1, u2, u3, u4, u5, u6, u7, u8⟩, -, zz⟩ := id j5
      have eN1 : c1 4 1 = nI (N + 1) := by rw [c14]; exact eN
      have j4' : c1 3 1 = 9 := j4
      have hTT : ∀ x, fX4_takeToken c1 x = s_bv (fX4_takeFraction c1) (fun σ => some σ) := fun x => by
        unfold fX4_takeToken
        rw [j4', if_neg (by decide), if_neg (by decide), if_neg (by decide), if_neg (by decide), if_neg (by decide), if_neg (by decide), if_neg (by decide), if_neg (by decide), if_neg (by decide), if_pos rfl]
      have hs0 : ¬ c1 3 5 = 0 → s' < e' := fun h0 => by
        rcases zz with z | z | z | z
        · exact absurd z.1 h0
        · exact z.1
        · exact z.1
        · exact z.1
      rw [if_pos u8]
      have bad : ¬ c1 3 5 = 2 → ¬ m1 0 9 = 2 → ∃ r m2, (if m1 0 9 = 2 then fX7_hundredthsRead_b41 m1 else s_bv (fX7_fails m1 2) (fun σ7 => fX7_hundredthsRead_b41 σ7)) = some (r, m2) ∧ m2 1 = m 1 ∧ ((∃ c2 tok2 w2 h, r = nI h ∧ h ≤ 99 ∧ r_cl c tok = r_cl c2 tok2 ∧ tok ≤ tok2 ∧ r_K cB mB n c2 m2 tok2 w2 ∧ (w2 = 10 ∨ (w2 = 8 ∧ ¬ m2 0 9 = 5)) ∧ c2 4 = c 4 ∧ (∀ i, ¬ i = N → c2 5 i = c 5 i) ∧ c2 5 N = r_sn (c 3 3) (100 * v + h)) ∨ (∃ cF, r_cl c tok = some (0, cF) ∧ r_F cB mB n cF m2)) := by
        intro n5 n9
        have hbr : 0 < (r_fl m1 2 0 5).toInt := by show 0 < (2 : Int32).toInt; decide
        refine ⟨0, r_fl m1 2, by rw [if_neg n9, p_fl u8, p_bv, b_h41 hbr], m11, Or.inr ?_⟩
        by_cases h0' : c1 3 5 = 0
        · refine ⟨_, by rw [hCL, q1]; exact p_cle u7 h0' (by rw [j4']; decide) (by omega), ?_⟩
          exact r_F_of q2 (by decide) (r_rf_g c1 2) rfl rfl
        · have e134 : r_rf c1 2 3 4 = nI (100 * v) := c134
          have eN2 : r_rf c1 2 4 1 = nI (N + 1) := eN1
          have i10 : (10 : Int32) * nI 0 = nI 0 := by decide
          have hTF : fX4_takeFraction c1 = some (s_up (s_up (r_rf c1 2) 3 4 (nI (100 * v + 0))) 5 N (r_sn (r_rf c1 2 3 3) (100 * v + 0))) := by
            unfold fX4_takeFraction fX4_takeFraction_b29 fX4_takeNumber
            rw [p_lt, if_neg n5, if_neg n5, p_rf, p_bv, p_bi, e134]
            have t1 := p_tf57 (x := 100 * v) (y := 0) hN eN2
            by_cases o : c1 3 7 - c1 3 6 = 1
            · rw [if_pos o]
              show fX4_takeFraction_b57 (r_rf c1 2) (nI (100 * v)) (10 * nI 0) = _
              rw [i10]; exact t1
            · rw [if_neg o]; exact t1
          have h10' : ¬ s_up (s_up (r_rf c1 2) 3 4 (nI (100 * v + 0))) 5 N (r_sn (r_rf c1 2 3 3) (100 * v + 0)) 3 10 = 0 := by show ¬ (2 : Int32) = 0; decide
          refine ⟨s_up (s_up (r_rf c1 2) 3 4 (nI (100 * v + 0))) 5 N (r_sn (r_rf c1 2 3 3) (100 * v + 0)), ?_, r_F_of q2 (by decide) (r_gc_t (r_rf_g c1 2) (r_gc_t (r_gc_u _ _ (by omega)) (r_gc_u _ _ (by omega)))) rfl rfl⟩
          rw [hCL, q1, p_cls B1 j5 h0' (hs0 h0') j6, hTT, hTF, p_bv, p_bv, if_neg h10', p_clf h10' (by omega)]
      rcases zz with z | z | z | z
      · exact bad (by rw [z.1]; decide) (by rw [z.2.1]; decide)
      · exact bad (by rw [z.2.1.1]; decide) (by rw [z.2.1.2]; decide)
      · obtain ⟨hse', ⟨z5, z9, z8⟩, zb, ze, v', v1, v2, v3⟩ := z
        have h0' : ¬ c1 3 5 = 0 := by rw [z5]; decide
        have hv9 := v3.1
        rw [if_pos z9]
        have ed : nI e' - nI s' = nI (e' - s') := pk_sub u5
        by_cases d2 : e' - s' ≤ 2
        · have i2 : nI (e' - s') ≤ 2 := nI_le (b := 2) d2 (by omega)
          have v99 : v' ≤ 99 := v3.2.2.2.1 d2
          obtain ⟨hh, hh1, hh2⟩ : ∃ h, h ≤ 99 ∧ h = if e' - s' = 1 then 10 * v' else v' := by
            refine ⟨_, ?_, rfl⟩
            by_cases o : e' - s' = 1
            · rw [if_pos o]; have := v3.2.2.1 (by omega); omega
            · rw [if_neg o]; exact v99
          have ev9 : s_up c1 3 1 10 3 9 = nI v' := v1
          have e134 : s_up c1 3 1 10 3 4 = nI (100 * v) := c134
          have eN2 : s_up c1 3 1 10 4 1 = nI (N + 1) := eN1
          have i10 : (10 : Int32) * nI v' = nI (10 * v') := pk_mul 10 v'
          have o1 : e' - s' = 1 ↔ nI (e' - s') = 1 := (nI_eq (b := 1) (by omega) (by omega)).symm
          have hTF : fX4_takeFraction c1 = some (s_up (s_up (s_up c1 3 1 10) 3 4 (nI (100 * v + hh))) 5 N (r_sn (c1 3 3) (100 * v + hh))) := by
            unfold fX4_takeFraction fX4_takeFraction_b29 fX4_takeNumber
            rw [p_lt, if_pos z5, if_pos z5, u3, u1, ed, if_pos i2, v1, if_neg (show ¬ nI v' < 0 from nI_pos (by omega)), if_pos (show nI v' ≤ 99 from nI_le (b := 99) v99 (by omega)), p_lt, ev9, p_bi, e134, i10, hh2]
            by_cases o : e' - s' = 1
            · rw [if_pos (o1.mp o), if_pos o, p_tf57 hN eN2]; rfl
            · rw [if_neg (fun q => o (o1.mpr q)), if_neg o, p_tf57 hN eN2]; rfl
          obtain ⟨c3, m3, b1, b2, b3, b4⟩ := p_adv (c := s_up (s_up (s_up c1 3 1 10) 3 4 (nI (100 * v + hh))) 5 N (r_sn (c1 3 3) (100 * v + hh))) (m := m1) (w := 10) (tok := tok + 1) B (r_gc_t j1 (r_gc_t (r_gc_u _ _ (by omega)) (r_gc_t (r_gc_u _ _ (by omega)) (r_gc_u _ _ (by omega))))) j2 u3 u4 u6 u7 u8 j3 rfl (by omega)
          have hM : fX7_hundredthsRead_b41 m1 = (if m3 0 5 = 0 then some (nI hh, m3) else some (0, m3)) := by
            unfold fX7_hundredthsRead_b41 fX7_hundredthsRead_b68 fX7_hundredthsRead_b87
            rw [p_lt, if_pos u8, u4, u2, ed, if_pos i2, v2, i10, hh2, b1, p_bv, p_bv]
            by_cases o : e' - s' = 1
            · rw [if_pos (o1.mp o), if_pos o]
            · rw [if_neg (fun q => o (o1.mpr q)), if_neg o]
          have h10' : s_up (s_up (s_up c1 3 1 10) 3 4 (nI (100 * v + hh))) 5 N (r_sn (c1 3 3) (100 * v + hh)) 3 10 = 0 := u7
          have hCL2 : r_cl c tok = s_bv (fX4_scan (s_up (s_up (s_up c1 3 1 10) 3 4 (nI (100 * v + hh))) 5 N (r_sn (c1 3 3) (100 * v + hh)))) (fun σ10 => r_cl σ10 (tok + 1 + 1)) := by
            rw [hCL, q1, p_cls B1 j5 h0' hse' j6, hTT, hTF, p_bv, p_bv, if_pos h10']
          rw [hM]
          rcases b4 with ⟨p1, p2⟩ | ⟨p1, p2⟩
          · have hb0 : m3 0 5 = 0 := by
              obtain ⟨-, -, -, -, s2, e2, ⟨⟨-, -, -, -, -, -, -, q⟩, -⟩, -⟩ := id p2
              exact q
            refine ⟨nI hh, m3, by rw [if_pos hb0], (b3.1 1 (by decide)).trans m11, Or.inl ⟨c3, tok + 1 + 1, 10, hh, rfl, hh1, by rw [hCL2]; exact p1, by omega, p2, Or.inl rfl, ?_, fun i hi => ?_, ?_⟩⟩
            · rw [b2.1 4 (by decide)]; exact c14
            · rw [b2.1 5 (by decide)]
              show upd (c1 5) N (r_sn (c1 3 3) (100 * v + hh)) i = _
              rw [p_upd, if_neg hi, c15]
            · rw [b2.1 5 (by decide)]
              show upd (c1 5) N (r_sn (c1 3 3) (100 * v + hh)) N = _
              rw [p_upd, if_pos rfl, c133]
          · exact ⟨0, m3, by rw [if_neg (q_brk p2.2.2.1).1], (b3.1 1 (by decide)).trans m11, Or.inr ⟨c3, by rw [hCL2]; exact p1, p2⟩⟩
        · have i2 : ¬ nI (e' - s') ≤ 2 := nI_ge (a := 2) (by omega) (by omega)
          have hbr : 0 < (r_fl m1 3 0 5).toInt := by show 0 < (3 : Int32).toInt; decide
          have hM : fX7_hundredthsRead_b41 m1 = some (0, r_fl m1 3) := by
            have hb : ∀ y, fX7_hundredthsRead_b87 (r_fl m1 3) y = some (0, r_fl m1 3) := fun y => by
              unfold fX7_hundredthsRead_b87
              rw [b_ro hbr, p_bv, if_neg (q_brk hbr).1]
            unfold fX7_hundredthsRead_b41 fX7_hundredthsRead_b68
            rw [p_lt, if_pos u8, u4, u2, ed, if_neg i2, p_fl u8, p_bv, hb, hb]
            by_cases o : nI (e' - s') = 1
            · rw [if_pos o]
            · rw [if_neg o]
          have hTF : fX4_takeFraction c1 = some (r_rf c1 3) := by
            unfold fX4_takeFraction
            rw [p_lt, if_pos z5, u3, u1, ed, if_neg i2, p_rf, p_bv]
          have h10' : ¬ r_rf c1 3 3 10 = 0 := by show ¬ (3 : Int32) = 0; decide
          refine ⟨0, r_fl m1 3, hM, m11, Or.inr ⟨r_rf c1 3, ?_, r_F_of q2 (by decide) (r_rf_g c1 3) rfl rfl⟩⟩
          rw [hCL, q1, p_cls B1 j5 h0' hse' j6, hTT, hTF, p_bv, p_bv, if_neg h10', p_clf h10' (by omega)]
      · refine bad (by rw [z.2.1.1]; decide) ?_
        rcases z.2.2 with q | q | q
        · rw [q.2]; decide
        · rw [q.2]; decide
        · rw [q.2]; decide
    · have hbr := q2.2.2.1
      refine ⟨0, m1, ?_, m11, Or.inr ⟨c1, by rw [hCL]; exact q1, q2⟩⟩
      rw [if_neg (q_brk hbr).1, b_h41 hbr]
  · rw [if_neg h5]
    exact ⟨0, m, rfl, rfl, Or.inl ⟨c, tok, 8, 0, rfl, by omega, rfl, Nat.le_refl _, K, Or.inr ⟨rfl, h5⟩, rfl, fun _ _ => rfl, e5⟩⟩
