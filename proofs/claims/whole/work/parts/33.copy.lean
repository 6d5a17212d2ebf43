/-! PURE: pages copied; keep, back -/
def r_cp (σ : Sg) (fr to k : Nat) : Sg := s_upr σ 1 (fun i => if to + k ≤ i ∧ i < to + 103 then σ 1 (i - to + fr) else σ 1 i)
theorem s_fu_e : s_fu = 4096 := rfl
theorem p_copyL (fr to : Nat) (hf : fr + 103 ≤ 515) (ht : to + 103 ≤ 515) (hd : fr + 103 ≤ to ∨ to + 103 ≤ fr) : ∀ (n k : Nat) (σ : Sg), k ≤ 103 → 103 - k < n → fX7_copies_b2_L n σ (nI fr) (nI to) (nI k) = some (r_cp σ fr to k) := by
  intro n
  induction n with
  | zero => intro k σ h1 h2; omega
  | succ n ih =>
    intro k σ h1 h2
    show fX7_copies_b2 (fX7_copies_b2_L n) σ (nI fr) (nI to) (nI k) = _
    have hN : (nI k).toInt = k := nI_toInt (by omega)
    have w : (103 : Int32).toInt = 103 := rfl
    unfold fX7_copies_b2
    by_cases hk : k = 103
    · rw [if_pos (by rw [q_l, hN, w]; omega)]
      congr 1
      funext q i
      unfold r_cp
      rw [p_upr]
      by_cases hq : q = 1
      · subst hq
        rw [if_pos rfl, if_neg (by omega)]
      · rw [if_neg hq]
    · rw [if_neg (by rw [q_l, hN, w]; omega), nI_add, nI_add, p_gd (p_inN (by omega) (by omega)), p_gd (p_inN (by omega) (by omega)), p_lt, p_lt, nI_clamp (by omega), nI_clamp (by omega), nI_1, ih (k + 1) _ (by omega) (by omega)]
      congr 1
      funext q i
      unfold r_cp
      rw [p_upr, p_upr]
      by_cases hq : q = 1
      · subst hq
        rw [if_pos rfl, if_pos rfl]
        have e : ∀ x, s_up σ 1 (to + k) (σ 1 (fr + k)) 1 x = if x = to + k then σ 1 (fr + k) else σ 1 x := fun x => rfl
        rw [e, e]
        by_cases c1 : to + (k + 1) ≤ i ∧ i < to + 103
        · rw [if_pos c1, if_neg (by omega), if_pos (by omega)]
        · rw [if_neg c1]
          by_cases c2 : i = to + k
          · rw [if_pos c2, if_pos (by omega), c2]
            congr 1
            omega
          · rw [if_neg c2, if_neg (by omega)]
      · rw [if_neg hq, if_neg hq, p_up, if_neg hq]
theorem p_copies {σ : Sg} {fr to : Nat} (hf : fr + 103 ≤ 515) (ht : to + 103 ≤ 515) (hd : fr + 103 ≤ to ∨ to + 103 ≤ fr) : fX7_copies σ (nI fr) (nI to) = some (r_cp σ fr to 0) := by
  unfold fX7_copies
  rw [← nI_0]
  exact p_copyL fr to hf ht hd s_fu 0 σ (by omega) (by rw [s_fu_e]; omega)
theorem r_cp_p {σ : Sg} {fr to k p : Nat} (h : p ≠ 1) : r_cp σ fr to k p = σ p := by unfold r_cp; rw [p_upr, if_neg h]
theorem r_cp_in {σ : Sg} {fr to i : Nat} (h : i < 103) : r_cp σ fr to 0 1 (to + i) = σ 1 (fr + i) := by
  unfold r_cp
  rw [p_upr, if_pos rfl, if_pos (by omega)]
  congr 1
  omega
theorem r_cp_out {σ : Sg} {fr to i : Nat} (h : i < to ∨ to + 103 ≤ i) : r_cp σ fr to 0 1 i = σ 1 i := by
  unfold r_cp
  rw [p_upr, if_pos rfl, if_neg (by omega)]
/-- a Series is what its places 1 to 7, its first 96 readings and the page's first 103 numbers are -/
theorem r_ser_ext {h g u h' g' u' : Nat → Int32} (hs : r_ser h g u) (hh : ∀ i, 1 ≤ i → i ≤ 7 → h' i = h i) (hg : ∀ n, h 1 = nI n → n ≤ 96 → ∀ i, i < n → g' i = g i) (hu : ∀ i, i < 103 → u' i = u i) : r_ser h' g' u' := by
  obtain ⟨n, b1, b2, b3, b4, ⟨d2, d3, d4, d5, d6, d7⟩, b6, b7, b8, b9, b10⟩ := hs
  refine ⟨n, b1, by rw [hh 1 (by omega) (by omega)]; exact b2, by rw [hu 102 (by omega)]; exact b3, fun i hi => by rw [hg n b2 b1 i hi, hu i (by omega)]; exact b4 i hi, ?_, ?_⟩
  · rw [hh 2 (by omega) (by omega), hh 3 (by omega) (by omega), hh 4 (by omega) (by omega), hh 5 (by omega) (by omega), hh 6 (by omega) (by omega), hh 7 (by omega) (by omega), hu 96 (by omega), hu 97 (by omega), hu 98 (by omega), hu 99 (by omega), hu 100 (by omega), hu 101 (by omega)]
    exact ⟨d2, d3, d4, d5, d6, d7⟩
  · rw [hu 96 (by omega), hu 97 (by omega), hu 98 (by omega), hu 99 (by omega), hu 100 (by omega), hu 101 (by omega)]
    exact ⟨b6, b7, b8, b9, b10⟩
