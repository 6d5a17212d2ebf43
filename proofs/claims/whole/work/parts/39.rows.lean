/-! PURE: the class's insertion -/
theorem p_putInL (v : Int32) : ∀ (n k : Nat) (σ : Sg), k < 24 → k < n → fX0_putIn_b24_L n σ v (nI k) = some (s_up (s_upr σ 9 (r_il v k (σ 9))) 8 2 (σ 8 2 + 1)) := by
  intro n
  induction n with
  | zero => intro k σ h1 h2; omega
  | succ n ih =>
    intro k σ h1 h2
    show fX0_putIn_b24 (fX0_putIn_b24_L n) σ v (nI k) = _
    have w0 : (0 : Int32).toInt = 0 := rfl
    have hN : (nI k).toInt = k := nI_toInt (by omega)
    have hb : ∀ τ : Sg, fX0_putIn_b60 τ v (nI k) = some (s_up (s_upr τ 9 (upd (τ 9) k v)) 8 2 (τ 8 2 + 1)) := fun τ => by
      unfold fX0_putIn_b60
      rw [p_gd (p_inN h1 (by omega)), p_lt, p_lt, nI_clamp (by omega)]
      rfl
    unfold fX0_putIn_b24
    cases k with
    | zero => rw [if_pos (by rw [q_l, hN, w0]; omega), hb]; rfl
    | succ k =>
      have e1 : nI (k + 1) - 1 = nI k := nI_pred k
      rw [if_neg (by rw [q_l, hN, w0]; omega), e1, p_gd (p_inN (by omega) (by omega)), nI_clamp (by omega)]
      show (if σ 9 k ≤ v then _ else _) = some (s_up (s_upr σ 9 (if σ 9 k ≤ v then upd (σ 9) (k + 1) v else r_il v k (upd (σ 9) (k + 1) (σ 9 k)))) 8 2 (σ 8 2 + 1))
      by_cases c : σ 9 k ≤ v
      · rw [if_pos c, if_pos c, hb]
      · rw [if_neg c, if_neg c, p_gd (p_inN (by omega) (by omega)), p_gd (p_inN h1 (by omega)), p_lt, p_lt, nI_clamp (by omega), pk_m1, ih k _ (by omega) (by omega)]
        have e : s_upr (s_up σ 9 (k + 1) (σ 9 k)) 9 (r_il v k (s_up σ 9 (k + 1) (σ 9 k) 9)) = s_upr σ 9 (r_il v k (upd (σ 9) (k + 1) (σ 9 k))) := by
          funext q
          rw [p_upr, p_upr]
          by_cases hq : q = 9
          · rw [if_pos hq, if_pos hq]; rfl
          · rw [if_neg hq, if_neg hq, p_up, if_neg hq]
        rw [e]
        rfl
theorem p_putIn {c : Sg} {n : Nat} {v : Int32} (hn : n < 24) (e : c 8 2 = nI n) (hv : ¬ v = 100000000) : fX0_putIn c v = some (s_up (s_upr c 9 (r_il v n (c 9))) 8 2 (nI (n + 1))) := by
  have hN : (nI n).toInt = n := nI_toInt (by omega)
  have w : (24 : Int32).toInt = 24 := rfl
  unfold fX0_putIn
  rw [if_neg hv, if_pos (by rw [q_i, e, hN, w]; omega), p_lt, e, p_putInL v s_fu n c hn (by rw [s_fu_e]; omega), e, nI_1]
theorem p_putInN (c : Sg) : fX0_putIn c 100000000 = some c := by
  unfold fX0_putIn
  rw [if_pos rfl]
