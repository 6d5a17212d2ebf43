/-! PURE: drop -/
def r_dr (σ : Sg) (j t L : Nat) : Sg := s_upr σ 1 (fun i => if t ≤ i ∧ i < L then σ 1 (i + j) else σ 1 i)
theorem p_dropL (j L : Nat) (hL : L + j ≤ 96) : ∀ (n t : Nat) (σ : Sg), σ 1 102 = nI L → t ≤ L → L - t < n → fX7_drop_b33_L n σ (nI j) (nI t) = some (nI L, r_dr σ j t L) := by
  intro n
  induction n with
  | zero => intro t σ h0 h1 h2; omega
  | succ n ih =>
    intro t σ h0 h1 h2
    show fX7_drop_b33 (fX7_drop_b33_L n) σ (nI j) (nI t) = _
    have hN : (nI t).toInt = t := nI_toInt (by omega)
    have hLN : (nI L).toInt = L := nI_toInt (by omega)
    unfold fX7_drop_b33 fX7_many
    rw [p_bi, h0]
    by_cases ht : t = L
    · rw [if_pos (by rw [q_l, hN, hLN]; omega), p_bi]
      have e : σ = r_dr σ j t L := by
        funext q i
        unfold r_dr
        rw [p_upr]
        by_cases hq : q = 1
        · subst hq
          rw [if_pos rfl, if_neg (by omega)]
        · rw [if_neg hq]
      rw [← e]
    · rw [if_neg (by rw [q_l, hN, hLN]; omega), nI_add, p_gd (p_inN (by omega) (by omega)), p_gd (p_inN (by omega) (by omega)), p_lt, p_lt, nI_clamp (by omega), nI_clamp (by omega), nI_1]
      have h0' : s_up σ 1 t (σ 1 (t + j)) 1 102 = nI L := by
        show upd (σ 1) t (σ 1 (t + j)) 102 = _
        rw [p_upd, if_neg (by omega), h0]
      rw [ih (t + 1) _ h0' (by omega) (by omega)]
      have e : r_dr (s_up σ 1 t (σ 1 (t + j))) j (t + 1) L = r_dr σ j t L := by
        funext q i
        unfold r_dr
        rw [p_upr, p_upr]
        by_cases hq : q = 1
        · subst hq
          rw [if_pos rfl, if_pos rfl]
          have e2 : ∀ x, s_up σ 1 t (σ 1 (t + j)) 1 x = if x = t then σ 1 (t + j) else σ 1 x := fun x => rfl
          rw [e2, e2]
          by_cases c1 : t + 1 ≤ i ∧ i < L
          · rw [if_pos c1, if_neg (by omega), if_pos (by omega)]
          · rw [if_neg c1]
            by_cases c2 : i = t
            · rw [if_pos c2, if_pos (by omega), c2]
            · rw [if_neg c2, if_neg (by omega)]
        · rw [if_neg hq, if_neg hq, p_up, if_neg hq]
      rw [e]
theorem z_drop : s_pure_drop Rel := by
  intro c m h a1
  have hst := rel_st h
  have h7 := h.2.2.2.2.2.2
  have hon := r_st_1 h7
  have w0 : (0 : Int32).toInt = 0 := rfl
  obtain ⟨n, b1, b2, b3, b4, ⟨d2, d3, d4, d5, d6, d7⟩, b6, b7, b8, b9, b10⟩ := id hst.1
  rw [r_pg_st h7] at b3 b4 d2 d3 d4 d5 d6 d7 b6 b7 b8 b9 b10
  have hN : (nI n).toInt = n := nI_toInt (by omega)
  have hz : (0 : Int64).toInt = 0 := rfl
  by_cases hc : 0 ≤ a1.toInt ∧ a1.toInt ≤ n
  · obtain ⟨j, hj1, rfl⟩ := nI_of (x := a1) (by rw [q_i, w0]; omega)
    have hjn : j ≤ n := by rw [nI_toInt hj1] at hc; omega
    have hJ : (nI j).toInt = j := nI_toInt hj1
    have hok : s_cpok (nI j) 0 (nI (n - j)) 96 96 = true := by
      unfold s_cpok
      exact decide_eq_true ⟨nI_pos (by omega), by decide, nI_pos (by omega), by rw [nI_clamp (by omega), nI_clamp (by omega)]; omega, by rw [nI_clamp (by omega), show (0 : Int32).toNatClampNeg = 0 from rfl]; omega⟩
    have hC : fX6_drop c (nI j) = some (nI (n - j), s_up (s_upr c 7 (va_cpy (c 7) (c 7) j 0 (n - j))) 6 1 (nI (n - j))) := by
      have hd : fX1_dropFirst_6 c (nI j) = some (s_up (s_upr c 7 (va_cpy (c 7) (c 7) j 0 (n - j))) 6 1 (nI (n - j))) := by
        unfold fX1_dropFirst_6
        rw [if_neg (by rw [q_i, w0, hJ]; omega), if_neg (by rw [q_i, b2, hN, hJ]; omega), b2, pk_sub hjn, p_gd hok, p_lt, p_lt, nI_clamp (by omega), nI_clamp (by omega), show (0 : Int32).toNatClampNeg = 0 from rfl]
        show some (s_up (s_upr c 7 (va_cpy (c 7) (c 7) j 0 (n - j))) 6 1 (c 6 1 - nI j)) = _
        rw [b2, pk_sub hjn]
      unfold fX6_drop
      rw [if_neg (by rw [q_i, w0, hJ]; omega), if_pos (by rw [q_l, b2, hN, hJ]; omega), hd, p_bv]
      rfl
    have hM : fX7_drop m (nI j) = some (nI (n - j), r_dr (s_up (r_st m) 1 102 (nI (n - j))) j 0 (n - j)) := by
      unfold fX7_drop fX7_many
      rw [p_starts, p_bv, p_bi, b3, p_yes (by rw [p_t64, p_t64, hN, hz]; exact hc), p_bi, if_neg (by decide), p_lt, b3, pk_sub hjn, ← nI_0]
      exact p_dropL j (n - j) (by omega) s_fu 0 _ rfl (by omega) (by rw [s_fu_e]; omega)
    have em : ∀ i, r_dr (s_up (r_st m) 1 102 (nI (n - j))) j 0 (n - j) 1 i = if 0 ≤ i ∧ i < n - j then (if i + j = 102 then nI (n - j) else r_st m 1 (i + j)) else (if i = 102 then nI (n - j) else r_st m 1 i) := fun i => rfl
    have pg : ∀ i, 96 ≤ i → i ≠ 102 → r_dr (s_up (r_st m) 1 102 (nI (n - j))) j 0 (n - j) 1 i = r_st m 1 i := fun i x y => by rw [em, if_neg (by omega), if_neg y]
    refine ⟨_, _, _, hC, hM, r_rd hon hst (fun p x y => by rw [p_up, if_neg x, p_upr, if_neg y]) (fun p x => by unfold r_dr; rw [p_upr, if_neg x, p_up, if_neg x]) (fun i hi => pg i (by omega) (by omega)) ?_⟩
    refine ⟨n - j, by omega, rfl, by rw [em, if_neg (by omega), if_pos rfl], fun i hi => ?_, ?_, ?_⟩
    · rw [em, if_pos (by omega), if_neg (by omega)]
      have e7 : s_up (s_upr c 7 (va_cpy (c 7) (c 7) j 0 (n - j))) 6 1 (nI (n - j)) 7 i = va_cpy (c 7) (c 7) j 0 (n - j) i := rfl
      rw [e7, pk_cpy_in (by omega) (by omega), Nat.sub_zero, Nat.add_comm j i]
      exact b4 (i + j) (by omega)
    · rw [pg 96 (by omega) (by omega), pg 97 (by omega) (by omega), pg 98 (by omega) (by omega), pg 99 (by omega) (by omega), pg 100 (by omega) (by omega), pg 101 (by omega) (by omega)]
      exact ⟨d2, d3, d4, d5, d6, d7⟩
    · rw [pg 96 (by omega) (by omega), pg 97 (by omega) (by omega), pg 98 (by omega) (by omega), pg 99 (by omega) (by omega), pg 100 (by omega) (by omega), pg 101 (by omega) (by omega)]
      exact ⟨b6, b7, b8, b9, b10⟩
  · refine ⟨-1, c, r_st m, ?_, ?_, hst⟩
    · unfold fX6_drop fX6_drop_b15
      by_cases c1 : a1 < 0
      · rw [if_pos c1]
      · rw [if_neg c1, if_neg (by rw [q_l, b2, hN]; rw [q_i, w0] at c1; omega)]
    · unfold fX7_drop fX7_many
      rw [p_starts, p_bv, p_bi, b3, p_no (by rw [p_t64, p_t64, hN, hz]; exact hc), p_bi, if_pos rfl]
