/-! PURE: sheet -/
theorem p_isS (c : Sg) (x : Int32) : fX6_isSheet c x = some (if 0 ≤ x.toInt ∧ x.toInt ≤ 3 then 1 else 0, c) := by
  have w0 : (0 : Int32).toInt = 0 := rfl
  have w2 : (4 : Int32).toInt = 4 := rfl
  unfold fX6_isSheet fX6_isSheet_b17
  by_cases c1 : x < 0
  · rw [if_pos c1, if_neg (by rw [q_i, w0] at c1; omega)]
  · rw [if_neg c1]
    rw [q_i, w0] at c1
    by_cases c2 : 4 ≤ x
    · rw [if_pos c2, if_neg (by rw [q_l, w2] at c2; omega)]
    · rw [if_neg c2, if_pos (by rw [q_l, w2] at c2; omega)]
theorem p_isL (c : Sg) (x : Int32) : fX6_isLane c x = some (if 0 ≤ x.toInt ∧ x.toInt ≤ 2 then 1 else 0, c) := by
  have w0 : (0 : Int32).toInt = 0 := rfl
  have w2 : (2 : Int32).toInt = 2 := rfl
  unfold fX6_isLane fX6_isLane_b13
  by_cases c1 : x < 0
  · rw [if_pos c1, if_neg (by rw [q_i, w0] at c1; omega)]
  · rw [if_neg c1]
    rw [q_i, w0] at c1
    by_cases c2 : 2 < x
    · rw [if_pos c2, if_neg (by rw [q_i, w2] at c2; omega)]
    · rw [if_neg c2, if_pos (by rw [q_i, w2] at c2; omega)]
theorem r_shs {c c' m m' : Sg} (h : Rel c m) (hc : ∀ p, p < 19 → c' p = c p) (hm : ∀ p, p ≠ 9 → p ≠ 10 → p ≠ 11 → m' p = m p) (hs : r_sheet c' m') : Rel c' m' := by
  obtain ⟨h1, h2, h3, h4, h5, h6, h7⟩ := h
  have e0 : m' 0 = m 0 := hm 0 (by decide) (by decide) (by decide)
  have e1 : m' 1 = m 1 := hm 1 (by decide) (by decide) (by decide)
  have ep : r_pg m' = r_pg m := by funext i; unfold r_pg; rw [e0, e1]
  refine ⟨by rw [ep, hc 6 (by omega), hc 7 (by omega)]; exact h1, ?_, by rw [e0, hc 3 (by omega)]; exact h3, by rw [e0, hc 0 (by omega)]; exact h4, ?_, hs, ?_⟩
  · unfold r_tape
    rw [e0, hm 2 (by decide) (by decide) (by decide), hc 1 (by omega), hc 2 (by omega)]
    exact h2
  · unfold r_img
    rw [e1, hm 8 (by decide) (by decide) (by decide), hc 13 (by omega), hc 14 (by omega), hc 15 (by omega), hc 16 (by omega), hc 17 (by omega)]
    exact h5
  · unfold r_con
    rw [e0, hm 3 (by decide) (by decide) (by decide), hm 4 (by decide) (by decide) (by decide), hm 8 (by decide) (by decide) (by decide)]
    exact h7
def r_zr (σ : Sg) (k i : Nat) : Sg := s_upr σ 11 (fun j => if 40 * k + i ≤ j ∧ j < 40 * k + 40 then 0 else σ 11 j)
theorem p_zeroL (k : Nat) (hk : k < 4) : ∀ (n i : Nat) (σ : Sg), i ≤ 40 → 40 - i < n → fX7_sheet_b56_L n σ (nI k) (nI i) = some (1, r_zr σ k i) := by
  intro n
  induction n with
  | zero => intro i σ h1 h2; omega
  | succ n ih =>
    intro i σ h1 h2
    show fX7_sheet_b56 (fX7_sheet_b56_L n) σ (nI k) (nI i) = _
    have hN : (nI i).toInt = i := nI_toInt (by omega)
    have w : (40 : Int32).toInt = 40 := rfl
    unfold fX7_sheet_b56
    by_cases hi : i = 40
    · rw [if_pos (by rw [q_l, hN, w]; omega)]
      have e : σ = r_zr σ k i := by
        funext q j
        unfold r_zr
        rw [p_upr]
        by_cases hq : q = 11
        · subst hq
          rw [if_pos rfl, if_neg (by omega)]
        · rw [if_neg hq]
      rw [← e]
    · rw [if_neg (by rw [q_l, hN, w]; omega), show (40 : Int32) = nI 40 from rfl, pk_mul, nI_add, p_gd (p_inN (by omega) (by omega)), p_lt, p_lt, nI_clamp (by omega), nI_1, ih (i + 1) _ (by omega) (by omega)]
      have e : r_zr (s_up σ 11 (40 * k + i) 0) k (i + 1) = r_zr σ k i := by
        funext q j
        unfold r_zr
        rw [p_upr, p_upr]
        by_cases hq : q = 11
        · subst hq
          rw [if_pos rfl, if_pos rfl]
          have e2 : s_up σ 11 (40 * k + i) 0 11 j = if j = 40 * k + i then 0 else σ 11 j := rfl
          rw [e2]
          by_cases c1 : 40 * k + (i + 1) ≤ j ∧ j < 40 * k + 40
          · rw [if_pos c1, if_pos (by omega)]
          · rw [if_neg c1]
            by_cases c2 : j = 40 * k + i
            · rw [if_pos c2, if_pos (by omega)]
            · rw [if_neg c2, if_neg (by omega)]
        · rw [if_neg hq, if_neg hq, p_up, if_neg hq]
      rw [e]
/-! the class's sheets, one by one -/
theorem nI_m1 {n : Nat} (h : n ≤ 40) : ¬ nI n = -1 := by
  rw [q_e, nI_toInt (by omega)]
  have : (-1 : Int32).toInt = -1 := rfl
  omega
/-- what a cell of a lane keeps of a number -/
def r_cv (lane v : Int32) : Int32 := if lane = 0 then Int8.toInt32 (Int32.toInt8 v) else if lane = 1 then Int16.toInt32 (Int32.toInt16 v) else v
def r_zc (g : Nat) (σ : Sg) (i : Nat) : Sg := s_upr σ g (fun j => if i ≤ j ∧ j < 40 then 0 else σ g j)
theorem r_zc_end {g : Nat} {σ : Sg} {i : Nat} (h : 40 ≤ i) : r_zc g σ i = σ := by
  funext q j
  unfold r_zc
  rw [p_upr]
  by_cases hq : q = g
  · subst hq
    rw [if_pos rfl, if_neg (by omega)]
  · rw [if_neg hq]
theorem r_zc_step {g : Nat} {σ : Sg} {i : Nat} (h : i < 40) : r_zc g (s_up σ g i 0) (i + 1) = r_zc g σ i := by
  funext q j
  unfold r_zc
  rw [p_upr, p_upr]
  by_cases hq : q = g
  · subst hq
    rw [if_pos rfl, if_pos rfl, p_up, if_pos rfl, p_upd]
    by_cases c1 : i + 1 ≤ j ∧ j < 40
    · rw [if_pos c1, if_pos (by omega)]
    · rw [if_neg c1]
      by_cases c2 : j = i
      · rw [if_pos c2, if_pos (by omega)]
      · rw [if_neg c2, if_neg (by omega)]
  · rw [if_neg hq, if_neg hq, p_up, if_neg hq]
theorem p_isN_19 (c : Sg) : fX2_isNothing_19 c = some (if c 19 2 = -1 then 1 else 0, c) := by
  unfold fX2_isNothing_19
  by_cases z : c 19 2 = -1
  · rw [if_pos z, if_pos z]
  · rw [if_neg z, if_neg z]
theorem p_has_19 {c : Sg} {n : Nat} (hn : n ≤ 40) (e : c 19 2 = nI n) (x : Int32) : fX2_hasCell_19 c x = some (if 0 ≤ x.toInt ∧ x.toInt < n then 1 else 0, c) := by
  have w0 : (0 : Int32).toInt = 0 := rfl
  have w4 : (40 : Int32).toInt = 40 := rfl
  have hN : (nI n).toInt = n := nI_toInt (by omega)
  unfold fX2_hasCell_19 fX2_hasCell_19_b25
  rw [e]
  by_cases c1 : x < 0
  · rw [if_pos c1, if_neg (by rw [q_i, w0] at c1; omega)]
  · rw [if_neg c1]
    rw [q_i, w0] at c1
    by_cases c2 : nI n ≤ x
    · rw [if_pos c2, if_neg (by rw [q_l, hN] at c2; omega)]
    · rw [q_l, hN] at c2
      rw [if_neg (by rw [q_l, hN]; exact c2), if_neg (by rw [q_l, w4]; omega), if_pos (by omega)]
theorem p_rnL_19 : ∀ (f i : Nat) (σ : Sg), i ≤ 40 → 40 - i < f → fX2_renew_19_b28_L f σ (nI i) = some (r_zc 20 σ i) := by
  intro f
  induction f with
  | zero => intro i σ h1 h2; omega
  | succ f ih =>
    intro i σ h1 h2
    show fX2_renew_19_b28 (fX2_renew_19_b28_L f) σ (nI i) = _
    have hN : (nI i).toInt = i := nI_toInt (by omega)
    have w : (40 : Int32).toInt = 40 := rfl
    unfold fX2_renew_19_b28
    by_cases hi : i = 40
    · rw [if_pos (by rw [q_l, hN, w]; omega), r_zc_end (by omega)]
    · rw [if_neg (by rw [q_l, hN, w]; omega), p_gd (p_inN (by omega) (by omega)), p_lt, p_lt, nI_clamp (by omega), nI_1, ih (i + 1) _ (by omega) (by omega), r_zc_step (by omega)]
theorem p_rn_19 {c : Sg} {n : Nat} (hn : n ≤ 40) (l : Int32) : fX2_renew_19 c l (nI n) = some (r_zc 20 (s_up (s_up c 19 1 l) 19 2 (nI n)) 0) := by
  unfold fX2_renew_19 fX2_renew_19_b23
  have hN : (nI n).toInt = n := nI_toInt (by omega)
  have w0 : (0 : Int32).toInt = 0 := rfl
  have w : (40 : Int32).toInt = 40 := rfl
  have e : s_min (nI n) 40 = nI n := by
    unfold s_min
    rw [if_neg (by rw [q_i, w, hN]; omega)]
  rw [p_lt, if_pos (by rw [q_l, w0, hN]; omega), p_lt, p_lt, e]
  exact p_rnL_19 s_fu 0 _ (by omega) (by rw [s_fu_e]; omega)
theorem p_wr_19 {c : Sg} {n i : Nat} (hn : n ≤ 40) (e : c 19 2 = nI n) (hi : i < n) (v : Int32) : fX2_write_19 c (nI i) v = some (s_up c 20 i (r_cv (c 19 1) v)) := by
  have hb : ∀ y : Int32, fX2_write_19_b39 c (nI i) y = some (s_up c 20 i y) := fun y => by
    unfold fX2_write_19_b39
    rw [p_gd (p_inN (by omega) (by omega)), p_lt, nI_clamp (by omega)]
  unfold fX2_write_19 r_cv
  rw [p_has_19 hn e, if_pos (by rw [nI_toInt (by omega)]; omega), p_bi, if_neg (by decide), hb, hb, hb]
  by_cases l0 : c 19 1 = 0
  · rw [if_pos l0, if_pos l0]
  · rw [if_neg l0, if_neg l0]
    by_cases l1 : c 19 1 = 1
    · rw [if_pos l1, if_pos l1]
    · rw [if_neg l1, if_neg l1]
theorem p_va_19 {c : Sg} {n i : Nat} (hn : n ≤ 40) (e : c 19 2 = nI n) (hi : i < n) : fX2_valueAt_19 c (nI i) = some (c 20 i, c) := by
  unfold fX2_valueAt_19
  rw [p_has_19 hn e, if_pos (by rw [nI_toInt (by omega)]; omega), p_bi, if_neg (by decide), p_gd (p_inN (by omega) (by omega)), nI_clamp (by omega)]
theorem p_teN_19 {c : Sg} (e : c 19 2 = -1) (x1 x2 : Int32) : fX6_tearAt_19 c x1 x2 = some (1, c) := by
  unfold fX6_tearAt_19
  rw [p_isN_19, if_pos e, p_bi, if_neg (by decide)]
theorem p_te_19 {c : Sg} {n : Nat} (hn : n ≤ 40) (e : c 19 2 = nI n) (x1 x2 : Int32) : fX6_tearAt_19 c x1 x2 = some (if c 19 1 = x1 then (if 0 ≤ x2.toInt ∧ x2.toInt < n then 0 else 2) else 3, c) := by
  unfold fX6_tearAt_19
  rw [p_isN_19, if_neg (by rw [e]; exact nI_m1 hn), p_bi, if_pos rfl]
  by_cases y : c 19 1 = x1
  · rw [if_pos y, if_pos y, p_has_19 hn e, p_bi]
    by_cases q : 0 ≤ x2.toInt ∧ x2.toInt < n
    · rw [if_pos q, if_pos q, if_neg (by decide)]
    · rw [if_neg q, if_neg q, if_pos rfl]
  · rw [if_neg y, if_neg y]
theorem p_isN_21 (c : Sg) : fX2_isNothing_21 c = some (if c 21 2 = -1 then 1 else 0, c) := by
  unfold fX2_isNothing_21
  by_cases z : c 21 2 = -1
  · rw [if_pos z, if_pos z]
  · rw [if_neg z, if_neg z]
theorem p_has_21 {c : Sg} {n : Nat} (hn : n ≤ 40) (e : c 21 2 = nI n) (x : Int32) : fX2_hasCell_21 c x = some (if 0 ≤ x.toInt ∧ x.toInt < n then 1 else 0, c) := by
  have w0 : (0 : Int32).toInt = 0 := rfl
  have w4 : (40 : Int32).toInt = 40 := rfl
  have hN : (nI n).toInt = n := nI_toInt (by omega)
  unfold fX2_hasCell_21 fX2_hasCell_21_b25
  rw [e]
  by_cases c1 : x < 0
  · rw [if_pos c1, if_neg (by rw [q_i, w0] at c1; omega)]
  · rw [if_neg c1]
    rw [q_i, w0] at c1
    by_cases c2 : nI n ≤ x
    · rw [if_pos c2, if_neg (by rw [q_l, hN] at c2; omega)]
    · rw [q_l, hN] at c2
      rw [if_neg (by rw [q_l, hN]; exact c2), if_neg (by rw [q_l, w4]; omega), if_pos (by omega)]
theorem p_rnL_21 : ∀ (f i : Nat) (σ : Sg), i ≤ 40 → 40 - i < f → fX2_renew_21_b28_L f σ (nI i) = some (r_zc 22 σ i) := by
  intro f
  induction f with
  | zero => intro i σ h1 h2; omega
  | succ f ih =>
    intro i σ h1 h2
    show fX2_renew_21_b28 (fX2_renew_21_b28_L f) σ (nI i) = _
    have hN : (nI i).toInt = i := nI_toInt (by omega)
    have w : (40 : Int32).toInt = 40 := rfl
    unfold fX2_renew_21_b28
    by_cases hi : i = 40
    · rw [if_pos (by rw [q_l, hN, w]; omega), r_zc_end (by omega)]
    · rw [if_neg (by rw [q_l, hN, w]; omega), p_gd (p_inN (by omega) (by omega)), p_lt, p_lt, nI_clamp (by omega), nI_1, ih (i + 1) _ (by omega) (by omega), r_zc_step (by omega)]
theorem p_rn_21 {c : Sg} {n : Nat} (hn : n ≤ 40) (l : Int32) : fX2_renew_21 c l (nI n) = some (r_zc 22 (s_up (s_up c 21 1 l) 21 2 (nI n)) 0) := by
  unfold fX2_renew_21 fX2_renew_21_b23
  have hN : (nI n).toInt = n := nI_toInt (by omega)
  have w0 : (0 : Int32).toInt = 0 := rfl
  have w : (40 : Int32).toInt = 40 := rfl
  have e : s_min (nI n) 40 = nI n := by
    unfold s_min
    rw [if_neg (by rw [q_i, w, hN]; omega)]
  rw [p_lt, if_pos (by rw [q_l, w0, hN]; omega), p_lt, p_lt, e]
  exact p_rnL_21 s_fu 0 _ (by omega) (by rw [s_fu_e]; omega)
theorem p_wr_21 {c : Sg} {n i : Nat} (hn : n ≤ 40) (e : c 21 2 = nI n) (hi : i < n) (v : Int32) : fX2_write_21 c (nI i) v = some (s_up c 22 i (r_cv (c 21 1) v)) := by
  have hb : ∀ y : Int32, fX2_write_21_b39 c (nI i) y = some (s_up c 22 i y) := fun y => by
    unfold fX2_write_21_b39
    rw [p_gd (p_inN (by omega) (by omega)), p_lt, nI_clamp (by omega)]
  unfold fX2_write_21 r_cv
  rw [p_has_21 hn e, if_pos (by rw [nI_toInt (by omega)]; omega), p_bi, if_neg (by decide), hb, hb, hb]
  by_cases l0 : c 21 1 = 0
  · rw [if_pos l0, if_pos l0]
  · rw [if_neg l0, if_neg l0]
    by_cases l1 : c 21 1 = 1
    · rw [if_pos l1, if_pos l1]
    · rw [if_neg l1, if_neg l1]
theorem p_va_21 {c : Sg} {n i : Nat} (hn : n ≤ 40) (e : c 21 2 = nI n) (hi : i < n) : fX2_valueAt_21 c (nI i) = some (c 22 i, c) := by
  unfold fX2_valueAt_21
  rw [p_has_21 hn e, if_pos (by rw [nI_toInt (by omega)]; omega), p_bi, if_neg (by decide), p_gd (p_inN (by omega) (by omega)), nI_clamp (by omega)]
theorem p_teN_21 {c : Sg} (e : c 21 2 = -1) (x1 x2 : Int32) : fX6_tearAt_21 c x1 x2 = some (1, c) := by
  unfold fX6_tearAt_21
  rw [p_isN_21, if_pos e, p_bi, if_neg (by decide)]
theorem p_te_21 {c : Sg} {n : Nat} (hn : n ≤ 40) (e : c 21 2 = nI n) (x1 x2 : Int32) : fX6_tearAt_21 c x1 x2 = some (if c 21 1 = x1 then (if 0 ≤ x2.toInt ∧ x2.toInt < n then 0 else 2) else 3, c) := by
  unfold fX6_tearAt_21
  rw [p_isN_21, if_neg (by rw [e]; exact nI_m1 hn), p_bi, if_pos rfl]
  by_cases y : c 21 1 = x1
  · rw [if_pos y, if_pos y, p_has_21 hn e, p_bi]
    by_cases q : 0 ≤ x2.toInt ∧ x2.toInt < n
    · rw [if_pos q, if_pos q, if_neg (by decide)]
    · rw [if_neg q, if_neg q, if_pos rfl]
  · rw [if_neg y, if_neg y]
theorem p_isN_23 (c : Sg) : fX2_isNothing_23 c = some (if c 23 2 = -1 then 1 else 0, c) := by
  unfold fX2_isNothing_23
  by_cases z : c 23 2 = -1
  · rw [if_pos z, if_pos z]
  · rw [if_neg z, if_neg z]
theorem p_has_23 {c : Sg} {n : Nat} (hn : n ≤ 40) (e : c 23 2 = nI n) (x : Int32) : fX2_hasCell_23 c x = some (if 0 ≤ x.toInt ∧ x.toInt < n then 1 else 0, c) := by
  have w0 : (0 : Int32).toInt = 0 := rfl
  have w4 : (40 : Int32).toInt = 40 := rfl
  have hN : (nI n).toInt = n := nI_toInt (by omega)
  unfold fX2_hasCell_23 fX2_hasCell_23_b25
  rw [e]
  by_cases c1 : x < 0
  · rw [if_pos c1, if_neg (by rw [q_i, w0] at c1; omega)]
  · rw [if_neg c1]
    rw [q_i, w0] at c1
    by_cases c2 : nI n ≤ x
    · rw [if_pos c2, if_neg (by rw [q_l, hN] at c2; omega)]
    · rw [q_l, hN] at c2
      rw [if_neg (by rw [q_l, hN]; exact c2), if_neg (by rw [q_l, w4]; omega), if_pos (by omega)]
theorem p_rnL_23 : ∀ (f i : Nat) (σ : Sg), i ≤ 40 → 40 - i < f → fX2_renew_23_b28_L f σ (nI i) = some (r_zc 24 σ i) := by
  intro f
  induction f with
  | zero => intro i σ h1 h2; omega
  | succ f ih =>
    intro i σ h1 h2
    show fX2_renew_23_b28 (fX2_renew_23_b28_L f) σ (nI i) = _
    have hN : (nI i).toInt = i := nI_toInt (by omega)
    have w : (40 : Int32).toInt = 40 := rfl
    unfold fX2_renew_23_b28
    by_cases hi : i = 40
    · rw [if_pos (by rw [q_l, hN, w]; omega), r_zc_end (by omega)]
    · rw [if_neg (by rw [q_l, hN, w]; omega), p_gd (p_inN (by omega) (by omega)), p_lt, p_lt, nI_clamp (by omega), nI_1, ih (i + 1) _ (by omega) (by omega), r_zc_step (by omega)]
theorem p_rn_23 {c : Sg} {n : Nat} (hn : n ≤ 40) (l : Int32) : fX2_renew_23 c l (nI n) = some (r_zc 24 (s_up (s_up c 23 1 l) 23 2 (nI n)) 0) := by
  unfold fX2_renew_23 fX2_renew_23_b23
  have hN : (nI n).toInt = n := nI_toInt (by omega)
  have w0 : (0 : Int32).toInt = 0 := rfl
  have w : (40 : Int32).toInt = 40 := rfl
  have e : s_min (nI n) 40 = nI n := by
    unfold s_min
    rw [if_neg (by rw [q_i, w, hN]; omega)]
  rw [p_lt, if_pos (by rw [q_l, w0, hN]; omega), p_lt, p_lt, e]
  exact p_rnL_23 s_fu 0 _ (by omega) (by rw [s_fu_e]; omega)
theorem p_wr_23 {c : Sg} {n i : Nat} (hn : n ≤ 40) (e : c 23 2 = nI n) (hi : i < n) (v : Int32) : fX2_write_23 c (nI i) v = some (s_up c 24 i (r_cv (c 23 1) v)) := by
  have hb : ∀ y : Int32, fX2_write_23_b39 c (nI i) y = some (s_up c 24 i y) := fun y => by
    unfold fX2_write_23_b39
    rw [p_gd (p_inN (by omega) (by omega)), p_lt, nI_clamp (by omega)]
  unfold fX2_write_23 r_cv
  rw [p_has_23 hn e, if_pos (by rw [nI_toInt (by omega)]; omega), p_bi, if_neg (by decide), hb, hb, hb]
  by_cases l0 : c 23 1 = 0
  · rw [if_pos l0, if_pos l0]
  · rw [if_neg l0, if_neg l0]
    by_cases l1 : c 23 1 = 1
    · rw [if_pos l1, if_pos l1]
    · rw [if_neg l1, if_neg l1]
theorem p_va_23 {c : Sg} {n i : Nat} (hn : n ≤ 40) (e : c 23 2 = nI n) (hi : i < n) : fX2_valueAt_23 c (nI i) = some (c 24 i, c) := by
  unfold fX2_valueAt_23
  rw [p_has_23 hn e, if_pos (by rw [nI_toInt (by omega)]; omega), p_bi, if_neg (by decide), p_gd (p_inN (by omega) (by omega)), nI_clamp (by omega)]
theorem p_teN_23 {c : Sg} (e : c 23 2 = -1) (x1 x2 : Int32) : fX6_tearAt_23 c x1 x2 = some (1, c) := by
  unfold fX6_tearAt_23
  rw [p_isN_23, if_pos e, p_bi, if_neg (by decide)]
theorem p_te_23 {c : Sg} {n : Nat} (hn : n ≤ 40) (e : c 23 2 = nI n) (x1 x2 : Int32) : fX6_tearAt_23 c x1 x2 = some (if c 23 1 = x1 then (if 0 ≤ x2.toInt ∧ x2.toInt < n then 0 else 2) else 3, c) := by
  unfold fX6_tearAt_23
  rw [p_isN_23, if_neg (by rw [e]; exact nI_m1 hn), p_bi, if_pos rfl]
  by_cases y : c 23 1 = x1
  · rw [if_pos y, if_pos y, p_has_23 hn e, p_bi]
    by_cases q : 0 ≤ x2.toInt ∧ x2.toInt < n
    · rw [if_pos q, if_pos q, if_neg (by decide)]
    · rw [if_neg q, if_neg q, if_pos rfl]
  · rw [if_neg y, if_neg y]
theorem p_isN_25 (c : Sg) : fX2_isNothing_25 c = some (if c 25 2 = -1 then 1 else 0, c) := by
  unfold fX2_isNothing_25
  by_cases z : c 25 2 = -1
  · rw [if_pos z, if_pos z]
  · rw [if_neg z, if_neg z]
theorem p_has_25 {c : Sg} {n : Nat} (hn : n ≤ 40) (e : c 25 2 = nI n) (x : Int32) : fX2_hasCell_25 c x = some (if 0 ≤ x.toInt ∧ x.toInt < n then 1 else 0, c) := by
  have w0 : (0 : Int32).toInt = 0 := rfl
  have w4 : (40 : Int32).toInt = 40 := rfl
  have hN : (nI n).toInt = n := nI_toInt (by omega)
  unfold fX2_hasCell_25 fX2_hasCell_25_b25
  rw [e]
  by_cases c1 : x < 0
  · rw [if_pos c1, if_neg (by rw [q_i, w0] at c1; omega)]
  · rw [if_neg c1]
    rw [q_i, w0] at c1
    by_cases c2 : nI n ≤ x
    · rw [if_pos c2, if_neg (by rw [q_l, hN] at c2; omega)]
    · rw [q_l, hN] at c2
      rw [if_neg (by rw [q_l, hN]; exact c2), if_neg (by rw [q_l, w4]; omega), if_pos (by omega)]
theorem p_rnL_25 : ∀ (f i : Nat) (σ : Sg), i ≤ 40 → 40 - i < f → fX2_renew_25_b28_L f σ (nI i) = some (r_zc 26 σ i) := by
  intro f
  induction f with
  | zero => intro i σ h1 h2; omega
  | succ f ih =>
    intro i σ h1 h2
    show fX2_renew_25_b28 (fX2_renew_25_b28_L f) σ (nI i) = _
    have hN : (nI i).toInt = i := nI_toInt (by omega)
    have w : (40 : Int32).toInt = 40 := rfl
    unfold fX2_renew_25_b28
    by_cases hi : i = 40
    · rw [if_pos (by rw [q_l, hN, w]; omega), r_zc_end (by omega)]
    · rw [if_neg (by rw [q_l, hN, w]; omega), p_gd (p_inN (by omega) (by omega)), p_lt, p_lt, nI_clamp (by omega), nI_1, ih (i + 1) _ (by omega) (by omega), r_zc_step (by omega)]
theorem p_rn_25 {c : Sg} {n : Nat} (hn : n ≤ 40) (l : Int32) : fX2_renew_25 c l (nI n) = some (r_zc 26 (s_up (s_up c 25 1 l) 25 2 (nI n)) 0) := by
  unfold fX2_renew_25 fX2_renew_25_b23
  have hN : (nI n).toInt = n := nI_toInt (by omega)
  have w0 : (0 : Int32).toInt = 0 := rfl
  have w : (40 : Int32).toInt = 40 := rfl
  have e : s_min (nI n) 40 = nI n := by
    unfold s_min
    rw [if_neg (by rw [q_i, w, hN]; omega)]
  rw [p_lt, if_pos (by rw [q_l, w0, hN]; omega), p_lt, p_lt, e]
  exact p_rnL_25 s_fu 0 _ (by omega) (by rw [s_fu_e]; omega)
theorem p_wr_25 {c : Sg} {n i : Nat} (hn : n ≤ 40) (e : c 25 2 = nI n) (hi : i < n) (v : Int32) : fX2_write_25 c (nI i) v = some (s_up c 26 i (r_cv (c 25 1) v)) := by
  have hb : ∀ y : Int32, fX2_write_25_b39 c (nI i) y = some (s_up c 26 i y) := fun y => by
    unfold fX2_write_25_b39
    rw [p_gd (p_inN (by omega) (by omega)), p_lt, nI_clamp (by omega)]
  unfold fX2_write_25 r_cv
  rw [p_has_25 hn e, if_pos (by rw [nI_toInt (by omega)]; omega), p_bi, if_neg (by decide), hb, hb, hb]
  by_cases l0 : c 25 1 = 0
  · rw [if_pos l0, if_pos l0]
  · rw [if_neg l0, if_neg l0]
    by_cases l1 : c 25 1 = 1
    · rw [if_pos l1, if_pos l1]
    · rw [if_neg l1, if_neg l1]
theorem p_va_25 {c : Sg} {n i : Nat} (hn : n ≤ 40) (e : c 25 2 = nI n) (hi : i < n) : fX2_valueAt_25 c (nI i) = some (c 26 i, c) := by
  unfold fX2_valueAt_25
  rw [p_has_25 hn e, if_pos (by rw [nI_toInt (by omega)]; omega), p_bi, if_neg (by decide), p_gd (p_inN (by omega) (by omega)), nI_clamp (by omega)]
theorem p_teN_25 {c : Sg} (e : c 25 2 = -1) (x1 x2 : Int32) : fX6_tearAt_25 c x1 x2 = some (1, c) := by
  unfold fX6_tearAt_25
  rw [p_isN_25, if_pos e, p_bi, if_neg (by decide)]
theorem p_te_25 {c : Sg} {n : Nat} (hn : n ≤ 40) (e : c 25 2 = nI n) (x1 x2 : Int32) : fX6_tearAt_25 c x1 x2 = some (if c 25 1 = x1 then (if 0 ≤ x2.toInt ∧ x2.toInt < n then 0 else 2) else 3, c) := by
  unfold fX6_tearAt_25
  rw [p_isN_25, if_neg (by rw [e]; exact nI_m1 hn), p_bi, if_pos rfl]
  by_cases y : c 25 1 = x1
  · rw [if_pos y, if_pos y, p_has_25 hn e, p_bi]
    by_cases q : 0 ≤ x2.toInt ∧ x2.toInt < n
    · rw [if_pos q, if_pos q, if_neg (by decide)]
    · rw [if_neg q, if_neg q, if_pos rfl]
  · rw [if_neg y, if_neg y]
theorem p_shS {c : Sg} {k n : Nat} (hk : k < 4) (hn : n ≤ 40) {l : Int32} (hl : 0 ≤ l.toInt ∧ l.toInt ≤ 2) : fX6_sheet c (nI k) l (nI n) = some (1, r_zc (20 + 2 * k) (s_up (s_up c (19 + 2 * k) 1 l) (19 + 2 * k) 2 (nI n)) 0) := by
  have hN : (nI n).toInt = n := nI_toInt (by omega)
  have w0 : (0 : Int32).toInt = 0 := rfl
  have w4 : (40 : Int32).toInt = 40 := rfl
  have hkk : 0 ≤ (nI k).toInt ∧ (nI k).toInt ≤ 3 := by rw [nI_toInt (by omega)]; omega
  unfold fX6_sheet
  rw [p_isS, if_pos hkk, p_bi, if_neg (by decide), p_isL, if_pos hl, p_bi, if_neg (by decide), if_pos (by rw [q_l, hN, w4]; omega), if_pos (by rw [q_l, hN, w0]; omega)]
  match k, hk with
  | 0, _ =>
    rw [if_pos (show nI 0 = 0 from rfl), p_rn_19 hn, p_bv]
  | 1, _ =>
    rw [if_neg (show ¬ nI 1 = 0 by decide), if_pos (show nI 1 = 1 from rfl), p_rn_21 hn, p_bv]
  | 2, _ =>
    rw [if_neg (show ¬ nI 2 = 0 by decide), if_neg (show ¬ nI 2 = 1 by decide), if_pos (show nI 2 = 2 from rfl), p_rn_23 hn, p_bv]
  | 3, _ =>
    rw [if_neg (show ¬ nI 3 = 0 by decide), if_neg (show ¬ nI 3 = 1 by decide), if_neg (show ¬ nI 3 = 2 by decide), if_pos (show nI 3 = 3 from rfl), p_rn_25 hn, p_bv]
theorem z_sheet : s_pure_sheet Rel := by
  intro c m h a1 a2 a3
  have w0 : (0 : Int32).toInt = 0 := rfl
  have w4 : (40 : Int32).toInt = 40 := rfl
  by_cases hk : 0 ≤ a1.toInt ∧ a1.toInt ≤ 3
  · by_cases hl : 0 ≤ a2.toInt ∧ a2.toInt ≤ 2
    · by_cases hn : a3 ≤ 40
      · by_cases h0 : 0 ≤ a3
        · obtain ⟨k, hk1, rfl⟩ := nI_of (x := a1) (by rw [q_i, w0]; omega)
          have hk4 : k < 4 := by rw [nI_toInt hk1] at hk; omega
          obtain ⟨n, hn1, rfl⟩ := nI_of (x := a3) (by rw [q_i, w0]; rw [q_l, w0] at h0; omega)
          have hn40 : n ≤ 40 := by rw [q_l, nI_toInt hn1, w4] at hn; omega
          have hM : fX7_sheet m (nI k) a2 (nI n) = some (1, r_zr (s_up (s_up m 9 k a2) 10 k (nI n)) k 0) := by
            unfold fX7_sheet
            rw [p_yes (by rw [p_t64]; exact hk), p_bi, if_neg (by decide), p_yes (by rw [p_t64]; exact hl), p_bi, if_neg (by decide), if_pos hn, if_pos h0, p_gd (p_inN (by omega) (by omega)), p_lt, p_gd (p_inN (by omega) (by omega)), p_lt, nI_clamp (by omega), ← nI_0]
            exact p_zeroL k hk4 s_fu 0 _ (by omega) (by rw [s_fu_e]; omega)
          refine ⟨1, _, _, p_shS hk4 hn40 hl, hM, ?_⟩
          have hc : ∀ p, ¬ p = 19 + 2 * k → ¬ p = 20 + 2 * k → r_zc (20 + 2 * k) (s_up (s_up c (19 + 2 * k) 1 a2) (19 + 2 * k) 2 (nI n)) 0 p = c p := fun p x y => by
            unfold r_zc
            rw [p_upr, if_neg y, p_up, if_neg x, p_up, if_neg x]
          refine r_shs h (fun p hp => hc p (by omega) (by omega)) (fun p x y z => by unfold r_zr; rw [p_upr, if_neg z, p_up, if_neg y, p_up, if_neg x]) (r_sheet_of fun j hj => ?_)
          have e9 : r_zr (s_up (s_up m 9 k a2) 10 k (nI n)) k 0 9 = upd (m 9) k a2 := rfl
          have e10 : r_zr (s_up (s_up m 9 k a2) 10 k (nI n)) k 0 10 = upd (m 10) k (nI n) := rfl
          have e11 : ∀ x, r_zr (s_up (s_up m 9 k a2) 10 k (nI n)) k 0 11 x = if 40 * k + 0 ≤ x ∧ x < 40 * k + 40 then 0 else m 11 x := fun x => rfl
          rw [e9, e10]
          by_cases hjk : j = k
          · subst hjk
            have cK : r_zc (20 + 2 * j) (s_up (s_up c (19 + 2 * j) 1 a2) (19 + 2 * j) 2 (nI n)) 0 (19 + 2 * j) = upd (upd (c (19 + 2 * j)) 1 a2) 2 (nI n) := by
              unfold r_zc
              rw [p_upr, if_neg (by omega), p_up, if_pos rfl, p_up, if_pos rfl]
            have cG : ∀ i, i < 40 → r_zc (20 + 2 * j) (s_up (s_up c (19 + 2 * j) 1 a2) (19 + 2 * j) 2 (nI n)) 0 (20 + 2 * j) i = 0 := fun i hi => by
              unfold r_zc
              rw [p_upr, if_pos rfl, if_pos ⟨by omega, hi⟩]
            rw [cK]
            refine Or.inr ⟨n, hn40, rfl, by rw [p_upd, if_pos rfl], by rw [p_upd (m 9) j a2 j, if_pos rfl]; rfl, by rw [p_upd (m 9) j a2 j, if_pos rfl]; exact hl, fun i hi => ?_⟩
            rw [cG i (by omega)]
            show _ = r_zr _ _ _ _ _
            rw [e11, if_pos (by omega)]
          · rw [hc _ (by omega) (by omega), hc _ (by omega) (by omega), p_upd, p_upd, if_neg hjk, if_neg hjk]
            rcases r_shk h.2.2.2.2.2.1 hj with z | ⟨N, t1, t2, t3, t4, t5, t6⟩
            · exact Or.inl z
            · refine Or.inr ⟨N, t1, t2, t3, t4, t5, fun i hi => ?_⟩
              rw [t6 i hi]
              show _ = r_zr _ _ _ _ _
              rw [e11, if_neg (by omega)]
        · refine ⟨-14, c, m, ?_, ?_, h⟩
          · unfold fX6_sheet
            rw [p_isS, if_pos hk, p_bi, if_neg (by decide), p_isL, if_pos hl, p_bi, if_neg (by decide), if_pos hn, if_neg h0]
          · unfold fX7_sheet
            rw [p_yes (by rw [p_t64]; exact hk), p_bi, if_neg (by decide), p_yes (by rw [p_t64]; exact hl), p_bi, if_neg (by decide), if_pos hn, if_neg h0]
      · refine ⟨-1, c, m, ?_, ?_, h⟩
        · unfold fX6_sheet fX6_sheet_b21
          rw [p_isS, if_pos hk, p_bi, if_neg (by decide), p_isL, if_pos hl, p_bi, if_neg (by decide), if_neg hn]
        · unfold fX7_sheet fX7_sheet_b30
          rw [p_yes (by rw [p_t64]; exact hk), p_bi, if_neg (by decide), p_yes (by rw [p_t64]; exact hl), p_bi, if_neg (by decide), if_neg hn]
    · refine ⟨-1, c, m, ?_, ?_, h⟩
      · unfold fX6_sheet fX6_sheet_b21
        rw [p_isS, if_pos hk, p_bi, if_neg (by decide), p_isL, if_neg hl, p_bi, if_pos rfl]
      · unfold fX7_sheet fX7_sheet_b30
        rw [p_yes (by rw [p_t64]; exact hk), p_bi, if_neg (by decide), p_no (by rw [p_t64]; exact hl), p_bi, if_pos rfl]
  · refine ⟨-1, c, m, ?_, ?_, h⟩
    · unfold fX6_sheet fX6_sheet_b21
      rw [p_isS, if_neg hk, p_bi, if_pos rfl]
    · unfold fX7_sheet fX7_sheet_b30
      rw [p_no (by rw [p_t64]; exact hk), p_bi, if_pos rfl]
