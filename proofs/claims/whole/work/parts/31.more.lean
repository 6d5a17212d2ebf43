/-! PURE: more settings, readings put behind, changed, lost -/
theorem z_need : s_pure_need Rel := by
  intro c m h a1
  have hst := rel_st h
  have h7 := h.2.2.2.2.2.2
  have hon := r_st_1 h7
  have w1 : (1 : Int32).toInt = 1 := rfl
  have w2 : (24 : Int32).toInt = 24 := rfl
  by_cases hc : 1 ≤ a1.toInt ∧ a1.toInt ≤ 24
  · have hC : fX6_need c a1 = some (c 6 3, s_up c 6 3 a1) := by
      unfold fX6_need
      rw [if_neg (by rw [q_i, w1]; omega), if_pos (by rw [q_l, w2]; omega), p_lt, p_lt]
    have hM : fX7_need m a1 = some (r_st m 1 97, s_up (r_st m) 1 97 a1) := by
      unfold fX7_need
      rw [p_yes (by rw [p_t64]; exact hc), p_bi, p_becomes (by decide) (by decide), p_bi]
      rfl
    obtain ⟨n, b1, b2, b3, b4, ⟨d2, d3, d4, d5, d6, d7⟩, b6, b7, b8, b9, b10⟩ := hst.1
    rw [r_pg_st h7] at b3 b4 d2 d3 d4 d5 d6 d7 b6 b7 b8 b9 b10
    refine ⟨_, _, _, hC, by rw [hM, d3], r_set hon hst (fun p hp => by rw [p_up, if_neg hp]) (fun p hp => by rw [p_up, if_neg hp]) (fun i hi => ?_) ?_⟩
    · show upd (r_st m 1) 97 a1 i = _
      rw [p_upd, if_neg (by omega)]
    · refine ⟨n, b1, b2, b3, fun i hi => ?_, ⟨d2, rfl, d4, d5, d6, d7⟩, b6, hc, b8, b9, b10⟩
      show c 7 i = upd (r_st m 1) 97 a1 i ∧ r_ok (upd (r_st m 1) 97 a1 i)
      rw [p_upd, if_neg (by omega)]
      exact b4 i hi
  · have hC : fX6_need c a1 = some (-1, c) := by
      unfold fX6_need fX6_need_b11
      by_cases c1 : a1 < 1
      · rw [if_pos c1]
      · rw [if_neg c1, if_neg (by rw [q_l, w2]; rw [q_i, w1] at c1; omega)]
    have hM : fX7_need m a1 = some (-1, r_st m) := by
      unfold fX7_need
      rw [p_no (by rw [p_t64]; exact hc), p_bi, p_becomesN, p_bi]
    exact ⟨_, _, _, hC, hM, hst⟩
theorem z_choose : s_pure_choose Rel := by
  intro c m h a1
  have hst := rel_st h
  have h7 := h.2.2.2.2.2.2
  have hon := r_st_1 h7
  have w1 : (0 : Int32).toInt = 0 := rfl
  have w2 : (4 : Int32).toInt = 4 := rfl
  by_cases hc : 0 ≤ a1.toInt ∧ a1.toInt ≤ 4
  · have hC : fX6_choose c a1 = some (c 6 6, s_up c 6 6 a1) := by
      unfold fX6_choose
      rw [if_neg (by rw [q_i, w1]; omega), if_pos (by rw [q_l, w2]; omega), p_lt, p_lt]
    have hM : fX7_choose m a1 = some (r_st m 1 100, s_up (r_st m) 1 100 a1) := by
      unfold fX7_choose
      rw [p_yes (by rw [p_t64]; exact hc), p_bi, p_becomes (by decide) (by decide), p_bi]
      rfl
    obtain ⟨n, b1, b2, b3, b4, ⟨d2, d3, d4, d5, d6, d7⟩, b6, b7, b8, b9, b10⟩ := hst.1
    rw [r_pg_st h7] at b3 b4 d2 d3 d4 d5 d6 d7 b6 b7 b8 b9 b10
    refine ⟨_, _, _, hC, by rw [hM, d6], r_set hon hst (fun p hp => by rw [p_up, if_neg hp]) (fun p hp => by rw [p_up, if_neg hp]) (fun i hi => ?_) ?_⟩
    · show upd (r_st m 1) 100 a1 i = _
      rw [p_upd, if_neg (by omega)]
    · refine ⟨n, b1, b2, b3, fun i hi => ?_, ⟨d2, d3, d4, d5, rfl, d7⟩, b6, b7, b8, hc, b10⟩
      show c 7 i = upd (r_st m 1) 100 a1 i ∧ r_ok (upd (r_st m 1) 100 a1 i)
      rw [p_upd, if_neg (by omega)]
      exact b4 i hi
  · have hC : fX6_choose c a1 = some (-1, c) := by
      unfold fX6_choose fX6_choose_b9
      by_cases c1 : a1 < 0
      · rw [if_pos c1]
      · rw [if_neg c1, if_neg (by rw [q_l, w2]; rw [q_i, w1] at c1; omega)]
    have hM : fX7_choose m a1 = some (-1, r_st m) := by
      unfold fX7_choose
      rw [p_no (by rw [p_t64]; exact hc), p_bi, p_becomesN, p_bi]
    exact ⟨_, _, _, hC, hM, hst⟩
theorem z_form : s_pure_form Rel := by
  intro c m h a1
  have hst := rel_st h
  have h7 := h.2.2.2.2.2.2
  have hon := r_st_1 h7
  have w1 : (0 : Int32).toInt = 0 := rfl
  have w2 : (2 : Int32).toInt = 2 := rfl
  by_cases hc : 0 ≤ a1.toInt ∧ a1.toInt ≤ 2
  · have hC : fX6_form c a1 = some (c 6 7, s_up c 6 7 a1) := by
      unfold fX6_form
      rw [if_neg (by rw [q_i, w1]; omega), if_pos (by rw [q_l, w2]; omega), p_lt, p_lt]
    have hM : fX7_form m a1 = some (r_st m 1 101, s_up (r_st m) 1 101 a1) := by
      unfold fX7_form
      rw [p_yes (by rw [p_t64]; exact hc), p_bi, p_becomes (by decide) (by decide), p_bi]
      rfl
    obtain ⟨n, b1, b2, b3, b4, ⟨d2, d3, d4, d5, d6, d7⟩, b6, b7, b8, b9, b10⟩ := hst.1
    rw [r_pg_st h7] at b3 b4 d2 d3 d4 d5 d6 d7 b6 b7 b8 b9 b10
    refine ⟨_, _, _, hC, by rw [hM, d7], r_set hon hst (fun p hp => by rw [p_up, if_neg hp]) (fun p hp => by rw [p_up, if_neg hp]) (fun i hi => ?_) ?_⟩
    · show upd (r_st m 1) 101 a1 i = _
      rw [p_upd, if_neg (by omega)]
    · refine ⟨n, b1, b2, b3, fun i hi => ?_, ⟨d2, d3, d4, d5, d6, rfl⟩, b6, b7, b8, b9, hc⟩
      show c 7 i = upd (r_st m 1) 101 a1 i ∧ r_ok (upd (r_st m 1) 101 a1 i)
      rw [p_upd, if_neg (by omega)]
      exact b4 i hi
  · have hC : fX6_form c a1 = some (-1, c) := by
      unfold fX6_form fX6_form_b9
      by_cases c1 : a1 < 0
      · rw [if_pos c1]
      · rw [if_neg c1, if_neg (by rw [q_l, w2]; rw [q_i, w1] at c1; omega)]
    have hM : fX7_form m a1 = some (-1, r_st m) := by
      unfold fX7_form
      rw [p_no (by rw [p_t64]; exact hc), p_bi, p_becomesN, p_bi]
    exact ⟨_, _, _, hC, hM, hst⟩
theorem r_st_on {m : Sg} (h : m 0 1 = 1) : r_st m = m := by unfold r_st; rw [if_neg (by rw [h]; decide)]
theorem z_part : s_pure_part Rel := by
  intro c m h a1 a2
  have hst := rel_st h
  have h7 := h.2.2.2.2.2.2
  have hon := r_st_1 h7
  have w0 : (0 : Int32).toInt = 0 := rfl
  have w1 : (1 : Int32).toInt = 1 := rfl
  have w2 : (100 : Int32).toInt = 100 := rfl
  by_cases hc : (1 ≤ a2.toInt ∧ a2.toInt ≤ 100) ∧ (0 ≤ a1.toInt ∧ a1.toInt ≤ a2.toInt)
  · obtain ⟨hq, hp⟩ := hc
    have hC : fX6_part c a1 a2 = some (1000 * c 6 4 + c 6 5, s_up (s_up c 6 4 a1) 6 5 a2) := by
      unfold fX6_part
      rw [if_neg (by rw [q_i, w1]; omega), if_neg (by rw [q_i, w2]; omega), if_neg (by rw [q_i, w0]; omega), if_pos (by rw [q_l]; omega), p_lt, p_lt, p_lt]
    have hM : fX7_part m a1 a2 = some (1000 * r_st m 1 98 + r_st m 1 99, s_up (s_up (r_st m) 1 98 a1) 1 99 a2) := by
      unfold fX7_part
      rw [p_yes (by rw [p_t64]; exact hq), p_bi, if_neg (by decide), p_yes (by rw [p_t64, p_t64]; exact hp), p_bi, if_neg (by decide), p_becomes (by decide) (by decide), p_bi, p_becomes (by decide) (by decide), p_bi]
      have e : r_st (s_up (r_st m) 1 (Int32.toNatClampNeg 98) a1) = s_up (r_st m) 1 98 a1 := r_st_on hon
      rw [e]
      rfl
    obtain ⟨n, b1, b2, b3, b4, ⟨d2, d3, d4, d5, d6, d7⟩, b6, b7, b8, b9, b10⟩ := hst.1
    rw [r_pg_st h7] at b3 b4 d2 d3 d4 d5 d6 d7 b6 b7 b8 b9 b10
    refine ⟨_, _, _, hC, by rw [hM, d4, d5], r_set hon hst (fun p hp => by rw [p_up, if_neg hp, p_up, if_neg hp]) (fun p hp => by rw [p_up, if_neg hp, p_up, if_neg hp]) (fun i hi => ?_) ?_⟩
    · show upd (upd (r_st m 1) 98 a1) 99 a2 i = _
      rw [p_upd, if_neg (by omega), p_upd, if_neg (by omega)]
    · refine ⟨n, b1, b2, b3, fun i hi => ?_, ⟨d2, d3, rfl, rfl, d6, d7⟩, b6, b7, ⟨hp.1, hp.2, hq.1, hq.2⟩, b9, b10⟩
      show c 7 i = upd (upd (r_st m 1) 98 a1) 99 a2 i ∧ r_ok (upd (upd (r_st m 1) 98 a1) 99 a2 i)
      rw [p_upd, if_neg (by omega), p_upd, if_neg (by omega)]
      exact b4 i hi
  · have hC : fX6_part c a1 a2 = some (-1, c) := by
      unfold fX6_part fX6_part_b20
      by_cases c1 : a2 < 1
      · rw [if_pos c1]
      · rw [if_neg c1]
        by_cases c2 : 100 < a2
        · rw [if_pos c2]
        · rw [if_neg c2]
          by_cases c3 : a1 < 0
          · rw [if_pos c3]
          · rw [if_neg c3, if_neg (by rw [q_l]; rw [q_i, w1] at c1; rw [q_i, w2] at c2; rw [q_i, w0] at c3; omega)]
    have hM : fX7_part m a1 a2 = some (-1, m) := by
      unfold fX7_part fX7_part_b23
      by_cases c1 : 1 ≤ a2.toInt ∧ a2.toInt ≤ 100
      · rw [p_yes (by rw [p_t64]; exact c1), p_bi, if_neg (by decide), p_no (by rw [p_t64, p_t64]; intro z; exact hc ⟨c1, z⟩), p_bi, if_pos rfl]
      · rw [p_no (by rw [p_t64]; exact c1), p_bi, if_pos rfl]
    exact ⟨_, _, _, hC, hM, h⟩
/-! readings: is t one of them? -/
theorem p_has {c : Sg} {n : Nat} (hn : n ≤ 96) (e : c 6 1 = nI n) (x : Int32) : fX1_has_6 c x = some (if 0 ≤ x.toInt ∧ x.toInt < n then 1 else 0, c) := by
  have w0 : (0 : Int32).toInt = 0 := rfl
  have hN : (nI n).toInt = n := nI_toInt (by omega)
  unfold fX1_has_6 fX1_has_6_b16
  by_cases c1 : x < 0
  · rw [if_pos c1, if_neg (by rw [q_i, w0] at c1; omega)]
  · rw [if_neg c1]
    rw [q_i, w0] at c1
    by_cases c2 : c 6 1 ≤ x
    · rw [if_pos c2, if_neg (by rw [q_l, e, hN] at c2; omega)]
    · rw [if_neg c2, if_pos (by rw [q_l, e, hN] at c2; omega)]
theorem p_there {m : Sg} {n : Nat} (hn : n ≤ 96) (e : r_st m 1 102 = nI n) (x : Int32) : fX7_isThere m x = some (if 0 ≤ x.toInt ∧ x.toInt < n then 1 else 0, r_st m) := by
  have hN : (nI n - 1).toInt = (n : Int) - 1 := by
    rw [show (1 : Int32) = nI 1 from rfl, pk_sub_toInt (by omega) (by omega)]
    omega
  unfold fX7_isThere fX7_many
  rw [p_starts, p_bv, p_bi, e]
  have hz : (0 : Int64).toInt = 0 := rfl
  by_cases c1 : 0 ≤ x.toInt ∧ x.toInt < n
  · rw [if_pos c1, p_yes (by rw [p_t64, p_t64, hN, hz]; omega), p_bi, p_gd p_z1]
  · rw [if_neg c1, p_no (by rw [p_t64, p_t64, hN, hz]; omega), p_bi, p_gd p_z0]
theorem z_reading : s_pure_reading Rel := by
  intro c m h a1
  have hst := rel_st h
  have h7 := h.2.2.2.2.2.2
  obtain ⟨n, b1, b2, b3, b4, -⟩ := hst.1
  rw [r_pg_st h7] at b3 b4
  by_cases hc : 0 ≤ a1.toInt ∧ a1.toInt < n
  · obtain ⟨j, hj, rfl⟩ := nI_of (x := a1) (by rw [q_i]; have : (0 : Int32).toInt = 0 := rfl; omega)
    have hjn : j < n := by rw [nI_toInt hj] at hc; omega
    have hC : fX6_reading c (nI j) = some (c 7 j, c) := by
      unfold fX6_reading fX1_valueAt_6
      rw [p_has b1 b2, if_pos hc, p_bi, if_neg (by decide), p_gd (p_inN (by omega) (by omega)), p_bi, nI_clamp (by omega)]
    have hM : fX7_reading m (nI j) = some (r_st m 1 j, r_st m) := by
      unfold fX7_reading
      rw [p_there b1 b3, if_pos hc, p_bi, if_neg (by decide), p_gd (p_inN (by omega) (by omega)), nI_clamp (by omega)]
    exact ⟨_, _, _, hC, by rw [hM, (b4 j hjn).1], hst⟩
  · have hC : fX6_reading c a1 = some (100000000, c) := by
      unfold fX6_reading fX1_valueAt_6
      rw [p_has b1 b2, if_neg hc, p_bi, if_pos rfl, p_bi]
    have hM : fX7_reading m a1 = some (100000000, r_st m) := by
      unfold fX7_reading
      rw [p_there b1 b3, if_neg hc, p_bi, if_pos rfl]
    exact ⟨_, _, _, hC, hM, hst⟩
