/-! PURE: sheet -/
theorem p_isS (c : Sg) (x : Int32) : fX6_isSheet c x = some (if 0 ≤ x.toInt ∧ x.toInt ≤ 3 then 1 else 0, c) := by
  have w0 : (0 : Int32).toInt = 0 := rfl
  have w2 : (4 : Int32).toInt = 4 := rfl
  unfold fX6_isSheet fX6_isSheet_b13
  by_cases c1 : x < 0
  · rw [if_pos c1, if_neg (by rw [q_i, w0] at c1; omega)]
  · rw [if_neg c1]
    rw [q_i, w0] at c1
    by_cases c2 : 4 ≤ x
    · rw [if_pos c2, if_neg (by rw [q_l, w2] at c2; omega)]
    · rw [if_neg c2, if_pos (by rw [q_l, w2] at c2; omega)]
theorem p_isL (c : Sg) (x : Int32) : fX6_isLane c x = some (if 0 ≤ x.toInt ∧ x.toInt ≤ 2 then 1 else 0, c) := by
  have w0 : (0 : Int32).toInt = 0 := rfl
  have w2 : (2 : Int32).toInt = 2 := rfl
  unfold fX6_isLane fX6_isLane_b13
  by_cases c1 : x < 0
  · rw [if_pos c1, if_neg (by rw [q_i, w0] at c1; omega)]
  · rw [if_neg c1]
    rw [q_i, w0] at c1
    by_cases c2 : 2 < x
    · rw [if_pos c2, if_neg (by rw [q_i, w2] at c2; omega)]
    · rw [if_neg c2, if_pos (by rw [q_i, w2] at c2; omega)]
theorem r_shs {c : Sg} {D D' : Nat → Option (Int32 × Nat × (Nat → Int32))} {m m' : Sg} (h : Rel c D m) (hm : ∀ p, p ≠ 9 → p ≠ 10 → p ≠ 11 → m' p = m p) (hs : r_sheet D' m') : Rel c D' m' := by
  obtain ⟨h1, h2, h3, h4, h5, h6, h7⟩ := h
  have e0 : m' 0 = m 0 := hm 0 (by decide) (by decide) (by decide)
  have e1 : m' 1 = m 1 := hm 1 (by decide) (by decide) (by decide)
  have ep : r_pg m' = r_pg m := by funext i; unfold r_pg; rw [e0, e1]
  refine ⟨by rw [ep]; exact h1, ?_, by rw [e0]; exact h3, by rw [e0]; exact h4, ?_, hs, ?_⟩
  · unfold r_tape
    rw [e0, hm 2 (by decide) (by decide) (by decide)]
    exact h2
  · unfold r_img
    rw [e1, hm 8 (by decide) (by decide) (by decide)]
    exact h5
  · unfold r_con
    rw [e0, hm 3 (by decide) (by decide) (by decide), hm 4 (by decide) (by decide) (by decide), hm 8 (by decide) (by decide) (by decide)]
    exact h7
def r_zr (σ : Sg) (k i : Nat) : Sg := s_upr σ 11 (fun j => if 40 * k + i ≤ j ∧ j < 40 * k + 40 then 0 else σ 11 j)
theorem p_zeroL (k : Nat) (hk : k < 4) : ∀ (n i : Nat) (σ : Sg), i ≤ 40 → 40 - i < n → fX7_sheet_b56_L n σ (nI k) (nI i) = some (1, r_zr σ k i) := by
  intro n
  induction n with
  | zero => intro i σ h1 h2; omega
  | succ n ih =>
    intro i σ h1 h2
    show fX7_sheet_b56 (fX7_sheet_b56_L n) σ (nI k) (nI i) = _
    have hN : (nI i).toInt = i := nI_toInt (by omega)
    have w : (40 : Int32).toInt = 40 := rfl
    unfold fX7_sheet_b56
    by_cases hi : i = 40
    · rw [if_pos (by rw [q_l, hN, w]; omega)]
      have e : σ = r_zr σ k i := by
        funext q j
        unfold r_zr
        rw [p_upr]
        by_cases hq : q = 11
        · subst hq
          rw [if_pos rfl, if_neg (by omega)]
        · rw [if_neg hq]
      rw [← e]
    · rw [if_neg (by rw [q_l, hN, w]; omega), show (40 : Int32) = nI 40 from rfl, pk_mul, nI_add, p_gd (p_inN (by omega) (by omega)), p_lt, p_lt, nI_clamp (by omega), nI_1, ih (i + 1) _ (by omega) (by omega)]
      have e : r_zr (s_up σ 11 (40 * k + i) 0) k (i + 1) = r_zr σ k i := by
        funext q j
        unfold r_zr
        rw [p_upr, p_upr]
        by_cases hq : q = 11
        · subst hq
          rw [if_pos rfl, if_pos rfl]
          have e2 : s_up σ 11 (40 * k + i) 0 11 j = if j = 40 * k + i then 0 else σ 11 j := rfl
          rw [e2]
          by_cases c1 : 40 * k + (i + 1) ≤ j ∧ j < 40 * k + 40
          · rw [if_pos c1, if_pos (by omega)]
          · rw [if_neg c1]
            by_cases c2 : j = 40 * k + i
            · rw [if_pos c2, if_pos (by omega)]
            · rw [if_neg c2, if_neg (by omega)]
        · rw [if_neg hq, if_neg hq, p_up, if_neg hq]
      rw [e]
theorem z_sheet : s_pure_sheet Rel := by
  intro c D m h a1 a2 a3
  have w0 : (0 : Int32).toInt = 0 := rfl
  have w4 : (40 : Int32).toInt = 40 := rfl
  by_cases hk : 0 ≤ a1.toInt ∧ a1.toInt ≤ 3
  · by_cases hl : 0 ≤ a2.toInt ∧ a2.toInt ≤ 2
    · by_cases hn : a3 ≤ 40
      · by_cases h0 : 0 ≤ a3
        · obtain ⟨k, hk1, rfl⟩ := nI_of (x := a1) (by rw [q_i, w0]; omega)
          have hk4 : k < 4 := by rw [nI_toInt hk1] at hk; omega
          obtain ⟨n, hn1, rfl⟩ := nI_of (x := a3) (by rw [q_i, w0]; rw [q_l, w0] at h0; omega)
          have hn40 : n ≤ 40 := by rw [q_l, nI_toInt hn1, w4] at hn; omega
          have hM : fX7_sheet m (nI k) a2 (nI n) = some (1, r_zr (s_up (s_up m 9 k a2) 10 k (nI n)) k 0) := by
            unfold fX7_sheet
            rw [p_yes (by rw [p_t64]; exact hk), p_bi, if_neg (by decide), p_yes (by rw [p_t64]; exact hl), p_bi, if_neg (by decide), if_pos hn, if_pos h0, p_gd (p_inN (by omega) (by omega)), p_lt, p_gd (p_inN (by omega) (by omega)), p_lt, nI_clamp (by omega), ← nI_0]
            exact p_zeroL k hk4 s_fu 0 _ (by omega) (by rw [s_fu_e]; omega)
          refine Or.inr ⟨by rw [p_isS, if_pos hk], by rw [p_isL, if_pos hl], vp_in_nI hk4 (by omega), h0, hn, by rw [nI_clamp hn1]; exact hn40, _, hM, ?_⟩
          rw [nI_clamp (by omega), nI_clamp hn1]
          obtain ⟨s1, s2⟩ := h.2.2.2.2.2.1
          refine r_shs h (fun p x y z => by unfold r_zr; rw [p_upr, if_neg z, p_up, if_neg y, p_up, if_neg x]) ⟨fun j hj => by rw [va_up, if_neg (by omega)]; exact s1 j hj, fun j hj => ?_⟩
          have e9 : r_zr (s_up (s_up m 9 k a2) 10 k (nI n)) k 0 9 = upd (m 9) k a2 := rfl
          have e10 : r_zr (s_up (s_up m 9 k a2) 10 k (nI n)) k 0 10 = upd (m 10) k (nI n) := rfl
          have e11 : ∀ x, r_zr (s_up (s_up m 9 k a2) 10 k (nI n)) k 0 11 x = if 40 * k + 0 ≤ x ∧ x < 40 * k + 40 then 0 else m 11 x := fun x => rfl
          rw [e9, e10]
          by_cases hjk : j = k
          · subst hjk
            rw [va_up, if_pos rfl]
            refine ⟨fun z => (by cases z), fun t ht => ?_⟩
            cases ht
            refine ⟨by rw [p_upd, if_pos rfl], hl, hn40, by rw [p_upd, if_pos rfl], fun i hi => ?_⟩
            rw [e11, if_pos ⟨by omega, by have : i < n := hi; omega⟩]
          · rw [va_up, if_neg hjk, p_upd, p_upd, if_neg hjk, if_neg hjk]
            refine ⟨(s2 j hj).1, fun t ht => ?_⟩
            obtain ⟨t1, t2, t3, t4, t5⟩ := (s2 j hj).2 t ht
            refine ⟨t1, t2, t3, t4, fun i hi => ?_⟩
            rw [e11, if_neg (by omega)]
            exact t5 i hi
        · refine Or.inl ⟨-14, c, m, ?_, ?_, h⟩
          · unfold fX6_sheet_x
            rw [p_isS, if_pos hk, p_bi, if_neg (by decide), p_isL, if_pos hl, p_bi, if_neg (by decide), if_pos hn, if_neg h0]
          · unfold fX7_sheet
            rw [p_yes (by rw [p_t64]; exact hk), p_bi, if_neg (by decide), p_yes (by rw [p_t64]; exact hl), p_bi, if_neg (by decide), if_pos hn, if_neg h0]
      · refine Or.inl ⟨-1, c, m, ?_, ?_, h⟩
        · unfold fX6_sheet_x fX6_sheet_x_b20
          rw [p_isS, if_pos hk, p_bi, if_neg (by decide), p_isL, if_pos hl, p_bi, if_neg (by decide), if_neg hn]
        · unfold fX7_sheet fX7_sheet_b30
          rw [p_yes (by rw [p_t64]; exact hk), p_bi, if_neg (by decide), p_yes (by rw [p_t64]; exact hl), p_bi, if_neg (by decide), if_neg hn]
    · refine Or.inl ⟨-1, c, m, ?_, ?_, h⟩
      · unfold fX6_sheet_x fX6_sheet_x_b20
        rw [p_isS, if_pos hk, p_bi, if_neg (by decide), p_isL, if_neg hl, p_bi, if_pos rfl]
      · unfold fX7_sheet fX7_sheet_b30
        rw [p_yes (by rw [p_t64]; exact hk), p_bi, if_neg (by decide), p_no (by rw [p_t64]; exact hl), p_bi, if_pos rfl]
  · refine Or.inl ⟨-1, c, m, ?_, ?_, h⟩
    · unfold fX6_sheet_x fX6_sheet_x_b20
      rw [p_isS, if_neg hk, p_bi, if_pos rfl]
    · unfold fX7_sheet fX7_sheet_b30
      rw [p_no (by rw [p_t64]; exact hk), p_bi, if_pos rfl]
