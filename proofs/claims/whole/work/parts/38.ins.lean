/-! PURE: one insertion into a row, as both sides do it -/
def r_il (v : Int32) : Nat → (Nat → Int32) → (Nat → Int32)
  | 0, g => upd g 0 v
  | k + 1, g => if g k ≤ v then upd g (k + 1) v else r_il v k (upd g (k + 1) (g k))
theorem r_il_out (v : Int32) : ∀ (k : Nat) (g : Nat → Int32) (j : Nat), k < j → r_il v k g j = g j := by
  intro k
  induction k with
  | zero => intro g j h; show upd g 0 v j = _; rw [p_upd, if_neg (by omega)]
  | succ k ih =>
    intro g j h
    show (if g k ≤ v then upd g (k + 1) v else r_il v k (upd g (k + 1) (g k))) j = _
    by_cases c : g k ≤ v
    · rw [if_pos c, p_upd, if_neg (by omega)]
    · rw [if_neg c, ih _ j (by omega), p_upd, if_neg (by omega)]
theorem r_il_eq (v : Int32) : ∀ (k : Nat) (g h : Nat → Int32), (∀ j, j < k → g j = h j) → ∀ j, j ≤ k → r_il v k g j = r_il v k h j := by
  intro k
  induction k with
  | zero =>
    intro g h e j hj
    show upd g 0 v j = upd h 0 v j
    rw [p_upd, p_upd, if_pos (by omega), if_pos (by omega)]
  | succ k ih =>
    intro g h e j hj
    show (if g k ≤ v then upd g (k + 1) v else r_il v k (upd g (k + 1) (g k))) j = (if h k ≤ v then upd h (k + 1) v else r_il v k (upd h (k + 1) (h k))) j
    rw [e k (by omega)]
    by_cases c : h k ≤ v
    · rw [if_pos c, if_pos c, p_upd, p_upd]
      by_cases hj2 : j = k + 1
      · rw [if_pos hj2, if_pos hj2]
      · rw [if_neg hj2, if_neg hj2]; exact e j (by omega)
    · rw [if_neg c, if_neg c]
      by_cases hj2 : j = k + 1
      · subst hj2
        rw [r_il_out v k _ _ (by omega), r_il_out v k _ _ (by omega), p_upd, p_upd, if_pos rfl, if_pos rfl]
      · exact ih _ _ (fun i hi => by rw [p_upd, p_upd, if_neg (by omega), if_neg (by omega)]; exact e i (by omega)) j (by omega)
theorem p_putsL (v : Int32) : ∀ (n k : Nat) (σ : Sg), k < 24 → k < n → fX7_puts_5_b2_L n σ v (nI k) = some (s_upr σ 5 (r_il v k (σ 5))) := by
  intro n
  induction n with
  | zero => intro k σ h1 h2; omega
  | succ n ih =>
    intro k σ h1 h2
    show fX7_puts_5_b2 (fX7_puts_5_b2_L n) σ v (nI k) = _
    have w0 : (0 : Int32).toInt = 0 := rfl
    have hN : (nI k).toInt = k := nI_toInt (by omega)
    have hb : ∀ τ : Sg, fX7_puts_5_b29 τ v (nI k) = some (s_upr τ 5 (upd (τ 5) k v)) := fun τ => by
      unfold fX7_puts_5_b29
      rw [p_gd (p_inN h1 (by omega)), p_lt, nI_clamp (by omega)]
      rfl
    unfold fX7_puts_5_b2
    cases k with
    | zero => rw [if_pos (by rw [q_l, hN, w0]; omega), hb]; rfl
    | succ k =>
      have e1 : nI (k + 1) - 1 = nI k := nI_pred k
      rw [if_neg (by rw [q_l, hN, w0]; omega), e1, p_gd (p_inN (by omega) (by omega)), nI_clamp (by omega)]
      show (if σ 5 k ≤ v then _ else _) = some (s_upr σ 5 (if σ 5 k ≤ v then upd (σ 5) (k + 1) v else r_il v k (upd (σ 5) (k + 1) (σ 5 k))))
      by_cases c : σ 5 k ≤ v
      · rw [if_pos c, if_pos c, hb]
      · rw [if_neg c, if_neg c, p_gd (p_inN (by omega) (by omega)), p_gd (p_inN h1 (by omega)), p_lt, p_lt, nI_clamp (by omega), pk_m1, ih k _ (by omega) (by omega)]
        have e : s_upr (s_up σ 5 (k + 1) (σ 5 k)) 5 (r_il v k (s_up σ 5 (k + 1) (σ 5 k) 5)) = s_upr σ 5 (r_il v k (upd (σ 5) (k + 1) (σ 5 k))) := by
          funext q
          rw [p_upr, p_upr]
          by_cases hq : q = 5
          · rw [if_pos hq, if_pos hq]; rfl
          · rw [if_neg hq, if_neg hq, p_up, if_neg hq]
        rw [e]
theorem p_puts {σ : Sg} {n : Nat} {v : Int32} (hn : n < 24) : fX7_puts_5 σ (nI n) v = some (s_upr σ 5 (r_il v n (σ 5))) := by
  unfold fX7_puts_5
  exact p_putsL v s_fu n σ hn (by rw [s_fu_e]; omega)
