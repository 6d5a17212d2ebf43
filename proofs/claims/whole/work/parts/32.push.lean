/-! PURE: add, miss, set, lose -/
theorem r_rd {c : Sg} {m : Sg} (hon : m 0 1 = 1) (h : Rel c m) {c' m' : Sg} (hc : ∀ p, p ≠ 6 → p ≠ 7 → c' p = c p) (hm : ∀ p, p ≠ 1 → m' p = m p) (hm2 : ∀ i, 102 < i → m' 1 i = m 1 i) (hs : r_ser (c' 6) (c' 7) (m' 1)) : Rel c' m' := by
  obtain ⟨h1, h2, h3, h4, h5, h6, h7⟩ := h
  have e0 : m' 0 = m 0 := hm 0 (by decide)
  have hon' : m' 0 1 = 1 := by rw [e0]; exact hon
  refine ⟨?_, ?_, ?_, ?_, ?_, ?_, ?_⟩
  · rw [r_pg_on hon']; exact hs
  · unfold r_tape
    rw [hc 1 (by decide) (by decide), hc 2 (by decide) (by decide), e0, hm 2 (by decide)]
    exact h2
  · rw [hc 3 (by decide) (by decide), e0]; exact h3
  · rw [hc 0 (by decide) (by decide), e0]; exact h4
  · unfold r_img
    have e1 : (fun i => m' 1 (103 + i)) = (fun i => m 1 (103 + i)) := by funext i; exact hm2 _ (by omega)
    have e2 : (fun i => m' 1 (206 + i)) = (fun i => m 1 (206 + i)) := by funext i; exact hm2 _ (by omega)
    rw [hc 17 (by decide) (by decide), hc 13 (by decide) (by decide), hc 14 (by decide) (by decide), hc 15 (by decide) (by decide), hc 16 (by decide) (by decide), hm 8 (by decide), e1, e2]
    exact h5
  · exact r_sheet_to h6 (fun p hp => hc p (by omega) (by omega)) (hm 9 (by decide)) (hm 10 (by decide)) (hm 11 (by decide))
  · unfold r_con
    rw [hm 3 (by decide), hm 4 (by decide), hm 8 (by decide), e0]
    exact h7
theorem p_full {c : Sg} {n : Nat} (hn : n ≤ 96) (e : c 6 1 = nI n) : fX1_isFull_6 c = some (if n < 96 then 0 else 1, c) := by
  have hN : (nI n).toInt = n := nI_toInt (by omega)
  have w : (96 : Int32).toInt = 96 := rfl
  unfold fX1_isFull_6
  by_cases h : n < 96
  · rw [if_pos h, if_pos (by rw [q_i, e, hN, w]; omega)]
  · rw [if_neg h, if_neg (by rw [q_i, e, hN, w]; omega)]
theorem p_append {c : Sg} {n : Nat} {v : Int32} (hn : n < 96) (e : c 6 1 = nI n) : fX1_append_6 c v = some (s_up (s_up c 7 n v) 6 1 (nI (n + 1))) := by
  unfold fX1_append_6
  rw [p_full (by omega) e, if_pos hn, p_bi, if_pos rfl, e, p_gd (p_inN hn (by omega)), p_lt, p_lt, nI_clamp (by omega)]
  show some (s_up (s_up c 7 n v) 6 1 (c 6 1 + 1)) = _
  rw [e, nI_1]
theorem p_put {c : Sg} {n : Nat} {v : Int32} (hn : n < 96) (e : c 6 1 = nI n) : fX6_putBehind c v = some (nI (n + 1), s_up (s_up c 7 n v) 6 1 (nI (n + 1))) := by
  unfold fX6_putBehind
  rw [p_full (by omega) e, if_pos hn, p_bi, if_pos rfl, p_append hn e, p_bv]
  rfl
theorem p_putF {c : Sg} {n : Nat} {v : Int32} (hn : n = 96) (e : c 6 1 = nI n) : fX6_putBehind c v = some (-3, c) := by
  unfold fX6_putBehind
  rw [p_full (by omega) e, if_neg (by omega), p_bi, if_neg (by decide)]
theorem p_comes {m : Sg} {n : Nat} {v : Int32} (hn : n < 96) (e : m 1 102 = nI n) : fX7_comes m v = some (nI (n + 1), s_up (s_up m 1 n v) 1 102 (nI (n + 1))) := by
  have hN : (nI n).toInt = n := nI_toInt (by omega)
  have w : (96 : Int32).toInt = 96 := rfl
  unfold fX7_comes fX7_many
  rw [p_bi, if_neg (by rw [q_e, e, hN, w]; omega), p_bi, e, p_gd (p_inN (by omega) (by omega)), p_lt, p_lt, p_bi, nI_clamp (by omega)]
  have x : s_up m 1 n v 1 102 = nI n := by
    show upd (m 1) n v 102 = _
    rw [p_upd, if_neg (by omega), e]
  rw [x, nI_1]
  rfl
theorem p_comesF {m : Sg} {n : Nat} {v : Int32} (hn : n = 96) (e : m 1 102 = nI n) : fX7_comes m v = some (-3, m) := by
  unfold fX7_comes fX7_many
  rw [p_bi, if_pos (by rw [e, hn]; rfl)]
theorem p_hund (c : Sg) (x : Int32) : fX6_isHundredths c x = some (if -999999 ≤ x.toInt ∧ x.toInt ≤ 999999 then 1 else 0, c) := by
  have w0 : (-999999 : Int32).toInt = -999999 := rfl
  have w1 : (999999 : Int32).toInt = 999999 := rfl
  unfold fX6_isHundredths fX6_isHundredths_b16
  by_cases c1 : x < -999999
  · rw [if_pos c1, if_neg (by rw [q_i, w0] at c1; omega)]
  · rw [if_neg c1]
    rw [q_i, w0] at c1
    by_cases c2 : 999999 < x
    · rw [if_pos c2, if_neg (by rw [q_i, w1] at c2; omega)]
    · rw [if_neg c2, if_pos (by rw [q_i, w1] at c2; omega)]
theorem p_isR (m : Sg) (x : Int32) : fX7_isReading m x = some (if -999999 ≤ x.toInt ∧ x.toInt ≤ 999999 then 1 else 0, m) := by
  have w0 : (-999999 : Int64).toInt = -999999 := rfl
  have w1 : (999999 : Int64).toInt = 999999 := rfl
  unfold fX7_isReading
  by_cases h : -999999 ≤ x.toInt ∧ x.toInt ≤ 999999
  · rw [if_pos h, p_yes (by rw [p_t64, w0, w1]; exact h), p_bi, p_gd p_z1]
  · rw [if_neg h, p_no (by rw [p_t64, w0, w1]; exact h), p_bi, p_gd p_z0]
theorem r_push {c : Sg} {m : Sg} {n : Nat} {v : Int32} (hon : m 0 1 = 1) (h : Rel c m) (hn : n < 96) (e : c 6 1 = nI n) (hv : r_ok v) : Rel (s_up (s_up c 7 n v) 6 1 (nI (n + 1))) (s_up (s_up m 1 n v) 1 102 (nI (n + 1))) := by
  obtain ⟨n', b1, b2, b3, b4, ⟨d2, d3, d4, d5, d6, d7⟩, b6, b7, b8, b9, b10⟩ := id h.1
  rw [r_pg_on hon] at b3 b4 d2 d3 d4 d5 d6 d7 b6 b7 b8 b9 b10
  have en : n' = n := (nI_eq (by omega) (by omega)).mp (b2.symm.trans e)
  subst en
  have pg : ∀ i, 96 ≤ i → i < 102 → upd (upd (m 1) n' v) 102 (nI (n' + 1)) i = m 1 i := fun i h1 h2 => by
    rw [p_upd, if_neg (by omega), p_upd, if_neg (by omega)]
  refine r_rd hon h (fun p h6 h7 => by rw [p_up, if_neg h6, p_up, if_neg h7]) (fun p h1 => by rw [p_up, if_neg h1, p_up, if_neg h1]) (fun i hi => ?_) ?_
  · show upd (upd (m 1) n' v) 102 (nI (n' + 1)) i = m 1 i
    rw [p_upd, if_neg (by omega), p_upd, if_neg (by omega)]
  · show r_ser (upd (c 6) 1 (nI (n' + 1))) (upd (c 7) n' v) (upd (upd (m 1) n' v) 102 (nI (n' + 1)))
    refine ⟨n' + 1, by omega, rfl, rfl, fun i hi => ?_, ?_, ?_⟩
    · have e1 : upd (upd (m 1) n' v) 102 (nI (n' + 1)) i = upd (m 1) n' v i := by rw [p_upd, if_neg (by omega)]
      rw [e1, p_upd, p_upd]
      by_cases hi2 : i = n'
      · rw [if_pos hi2, if_pos hi2]; exact ⟨rfl, hv⟩
      · rw [if_neg hi2, if_neg hi2]; exact b4 i (by omega)
    · rw [pg 96 (by omega) (by omega), pg 97 (by omega) (by omega), pg 98 (by omega) (by omega), pg 99 (by omega) (by omega), pg 100 (by omega) (by omega), pg 101 (by omega) (by omega)]
      exact ⟨d2, d3, d4, d5, d6, d7⟩
    · rw [pg 96 (by omega) (by omega), pg 97 (by omega) (by omega), pg 98 (by omega) (by omega), pg 99 (by omega) (by omega), pg 100 (by omega) (by omega), pg 101 (by omega) (by omega)]
      exact ⟨b6, b7, b8, b9, b10⟩
theorem z_add : s_pure_add Rel := by
  intro c m h a1
  have hst := rel_st h
  have h7 := h.2.2.2.2.2.2
  have hon := r_st_1 h7
  obtain ⟨n, b1, b2, b3, -⟩ := id hst.1
  rw [r_pg_st h7] at b3
  by_cases hc : -999999 ≤ a1.toInt ∧ a1.toInt ≤ 999999
  · by_cases hn : n < 96
    · refine ⟨nI (n + 1), _, _, ?_, ?_, r_push hon hst hn b2 (Or.inr hc)⟩
      · unfold fX6_add
        rw [p_hund, if_pos hc, p_bi, if_neg (by decide), p_put hn b2, p_bi]
      · unfold fX7_add
        rw [p_starts, p_bv, p_isR, if_pos hc, p_bi, if_neg (by decide), p_comes hn b3, p_bi]
    · refine ⟨-3, c, r_st m, ?_, ?_, hst⟩
      · unfold fX6_add
        rw [p_hund, if_pos hc, p_bi, if_neg (by decide), p_putF (by omega) b2, p_bi]
      · unfold fX7_add
        rw [p_starts, p_bv, p_isR, if_pos hc, p_bi, if_neg (by decide), p_comesF (by omega) b3, p_bi]
  · refine ⟨-1, c, r_st m, ?_, ?_, hst⟩
    · unfold fX6_add
      rw [p_hund, if_neg hc, p_bi, if_pos rfl]
    · unfold fX7_add
      rw [p_starts, p_bv, p_isR, if_neg hc, p_bi, if_pos rfl]
theorem z_miss : s_pure_miss Rel := by
  intro c m h
  have hst := rel_st h
  have h7 := h.2.2.2.2.2.2
  have hon := r_st_1 h7
  obtain ⟨n, b1, b2, b3, -⟩ := id hst.1
  rw [r_pg_st h7] at b3
  by_cases hn : n < 96
  · refine ⟨nI (n + 1), _, _, ?_, ?_, r_push hon hst hn b2 (Or.inl rfl)⟩
    · unfold fX6_miss
      rw [p_put hn b2, p_bi]
    · unfold fX7_miss
      rw [p_starts, p_bv, p_comes hn b3, p_bi]
  · refine ⟨-3, c, r_st m, ?_, ?_, hst⟩
    · unfold fX6_miss
      rw [p_putF (by omega) b2, p_bi]
    · unfold fX7_miss
      rw [p_starts, p_bv, p_comesF (by omega) b3, p_bi]
/-! one reading changes -/
theorem r_chg {c : Sg} {m : Sg} {n j : Nat} {v : Int32} (hon : m 0 1 = 1) (h : Rel c m) (hj : j < n) (e : c 6 1 = nI n) (hn : n ≤ 96) (hv : r_ok v) : Rel (s_up c 7 j v) (s_up m 1 j v) := by
  obtain ⟨n', b1, b2, b3, b4, ⟨d2, d3, d4, d5, d6, d7⟩, b6, b7, b8, b9, b10⟩ := id h.1
  rw [r_pg_on hon] at b3 b4 d2 d3 d4 d5 d6 d7 b6 b7 b8 b9 b10
  have en : n' = n := (nI_eq (by omega) (by omega)).mp (b2.symm.trans e)
  subst en
  have pg : ∀ i, 96 ≤ i → upd (m 1) j v i = m 1 i := fun i h1 => by rw [p_upd, if_neg (by omega)]
  refine r_rd hon h (fun p h6 h7 => by rw [p_up, if_neg h7]) (fun p h1 => by rw [p_up, if_neg h1]) (fun i hi => ?_) ?_
  · show upd (m 1) j v i = m 1 i
    exact pg i (by omega)
  · show r_ser (c 6) (upd (c 7) j v) (upd (m 1) j v)
    refine ⟨n', b1, b2, by rw [pg 102 (by omega)]; exact b3, fun i hi => ?_, ?_, ?_⟩
    · rw [p_upd, p_upd]
      by_cases hi2 : i = j
      · rw [if_pos hi2, if_pos hi2]; exact ⟨rfl, hv⟩
      · rw [if_neg hi2, if_neg hi2]; exact b4 i hi
    · rw [pg 96 (by omega), pg 97 (by omega), pg 98 (by omega), pg 99 (by omega), pg 100 (by omega), pg 101 (by omega)]
      exact ⟨d2, d3, d4, d5, d6, d7⟩
    · rw [pg 96 (by omega), pg 97 (by omega), pg 98 (by omega), pg 99 (by omega), pg 100 (by omega), pg 101 (by omega)]
      exact ⟨b6, b7, b8, b9, b10⟩
theorem p_replace {c : Sg} {n j : Nat} {v : Int32} (hn : n ≤ 96) (e : c 6 1 = nI n) (hj : j < n) : fX6_replace c (nI j) v = some (if c 7 j = 100000000 then 1 else 0, s_up c 7 j v) := by
  have hh : 0 ≤ (nI j).toInt ∧ (nI j).toInt < n := by rw [nI_toInt (by omega)]; omega
  have hch : fX1_change_6 c (nI j) v = some (s_up c 7 j v) := by
    unfold fX1_change_6
    rw [p_has hn e, if_pos hh, p_bi, if_neg (by decide), p_gd (p_inN (by omega) (by omega)), p_lt, nI_clamp (by omega)]
  unfold fX6_replace fX6_replace_b18 fX1_valueAt_6
  rw [p_has hn e, if_pos hh, p_bi, if_neg (by decide), p_gd (p_inN (by omega) (by omega)), p_bi, nI_clamp (by omega), hch]
  by_cases z : c 7 j = 100000000
  · rw [if_pos z, if_pos z, p_bv]
  · rw [if_neg z, if_neg z, p_bv]
theorem z_set : s_pure_set Rel := by
  intro c m h a1 a2
  have hst := rel_st h
  have h7 := h.2.2.2.2.2.2
  have hon := r_st_1 h7
  obtain ⟨n, b1, b2, b3, b4, -⟩ := id hst.1
  rw [r_pg_st h7] at b3 b4
  by_cases ht : 0 ≤ a1.toInt ∧ a1.toInt < n
  · obtain ⟨j, hj, rfl⟩ := nI_of (x := a1) (by rw [q_i]; have : (0 : Int32).toInt = 0 := rfl; omega)
    have hjn : j < n := by rw [nI_toInt hj] at ht; omega
    by_cases hc : -999999 ≤ a2.toInt ∧ a2.toInt ≤ 999999
    · refine ⟨if c 7 j = 100000000 then 1 else 0, _, _, ?_, ?_, r_chg hon hst hjn b2 b1 (Or.inr hc)⟩
      · unfold fX6_set
        rw [p_has b1 b2, if_pos ht, p_bi, if_neg (by decide), p_hund, if_pos hc, p_bi, if_neg (by decide), p_replace b1 b2 hjn, p_bi]
      · unfold fX7_set fX7_set_b33
        rw [p_there b1 b3, if_pos ht, p_bi, if_neg (by decide), p_isR, if_pos hc, p_bi, if_neg (by decide), p_gd (p_inN (by omega) (by omega)), nI_clamp (by omega), p_gd (p_inN (by omega) (by omega)), p_gd (p_inN (by omega) (by omega)), p_lt, p_lt, (b4 j hjn).1]
        by_cases z : r_st m 1 j = 100000000
        · rw [if_pos z, if_pos z]
        · rw [if_neg z, if_neg z]
    · refine ⟨-1, c, r_st m, ?_, ?_, hst⟩
      · unfold fX6_set fX6_set_b18
        rw [p_has b1 b2, if_pos ht, p_bi, if_neg (by decide), p_hund, if_neg hc, p_bi, if_pos rfl]
      · unfold fX7_set fX7_set_b15
        rw [p_there b1 b3, if_pos ht, p_bi, if_neg (by decide), p_isR, if_neg hc, p_bi, if_pos rfl]
  · refine ⟨-1, c, r_st m, ?_, ?_, hst⟩
    · unfold fX6_set fX6_set_b18
      rw [p_has b1 b2, if_neg ht, p_bi, if_pos rfl]
    · unfold fX7_set fX7_set_b15
      rw [p_there b1 b3, if_neg ht, p_bi, if_pos rfl]
theorem z_lose : s_pure_lose Rel := by
  intro c m h a1
  have hst := rel_st h
  have h7 := h.2.2.2.2.2.2
  have hon := r_st_1 h7
  obtain ⟨n, b1, b2, b3, b4, -⟩ := id hst.1
  rw [r_pg_st h7] at b3 b4
  by_cases ht : 0 ≤ a1.toInt ∧ a1.toInt < n
  · obtain ⟨j, hj, rfl⟩ := nI_of (x := a1) (by rw [q_i]; have : (0 : Int32).toInt = 0 := rfl; omega)
    have hjn : j < n := by rw [nI_toInt hj] at ht; omega
    refine ⟨if c 7 j = 100000000 then 1 else 0, _, _, ?_, ?_, r_chg hon hst hjn b2 b1 (Or.inl rfl)⟩
    · unfold fX6_lose
      rw [p_has b1 b2, if_pos ht, p_bi, if_neg (by decide), p_replace b1 b2 hjn, p_bi]
    · unfold fX7_lose fX7_lose_b26
      rw [p_there b1 b3, if_pos ht, p_bi, if_neg (by decide), p_gd (p_inN (by omega) (by omega)), nI_clamp (by omega), p_gd (p_inN (by omega) (by omega)), p_gd (p_inN (by omega) (by omega)), p_lt, p_lt, (b4 j hjn).1]
      by_cases z : r_st m 1 j = 100000000
      · rw [if_pos z, if_pos z]
      · rw [if_neg z, if_neg z]
  · refine ⟨-1, c, r_st m, ?_, ?_, hst⟩
    · unfold fX6_lose
      rw [p_has b1 b2, if_neg ht, p_bi, if_pos rfl]
    · unfold fX7_lose
      rw [p_there b1 b3, if_neg ht, p_bi, if_pos rfl]
