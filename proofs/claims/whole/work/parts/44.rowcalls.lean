/-! PURE: row, item, result, rank -/
theorem q10 : ¬ (1 : Int32) = 0 := by decide
theorem z_row : s_pure_row Rel := by
  intro c m h a1 a2
  have hst := rel_st h
  have hon := r_st_1 h.2.2.2.2.2.2
  obtain ⟨N, W, E, P, Q, U, F, b⟩ := r_bs_of hst hon
  obtain ⟨⟨b1, b2, b3, b4, b5, b6, b7, b8, b9, b10⟩, ⟨d1, -⟩, ⟨g1, -⟩, -⟩ := id b
  have w0 : (0 : Int32).toInt = 0 := rfl
  have w1 : (1 : Int32).toInt = 1 := rfl
  have w2 : (2 : Int32).toInt = 2 := rfl
  by_cases ht : 0 ≤ a1.toInt ∧ a1.toInt < N
  · by_cases hw : 0 ≤ a2.toInt ∧ a2.toInt ≤ 2
    · obtain ⟨t, _, rfl, et⟩ := q_nat ht.1
      have htN : t < N := by omega
      obtain ⟨c1, k, f1, s1, h1⟩ := p_load b htN
      have b' := r_bs_s b s1 (r_ms_r _)
      obtain ⟨m1, f2, s2, hp, hv⟩ := p_res b' htN h1
      have hk := hp.1
      have e8 := hp.2.1
      have hC : fX6_row c (nI t) a2 = (if a2 = 0 then some (c1 8 2, c1) else s_bi (fX0_hasResult c1) (fun r12 σ10 => (if r12 = 0 then (some ((-4 : Int32), σ10)) else (if a2 = (1 : Int32) then (s_bi (fX0_placeWhole σ10) (fun r20 σ18 => (some (r20, σ18)))) else (s_bi (fX0_placeRest σ10) (fun r17 σ15 => (some (r17, σ15)))))))) := by
        unfold fX6_row
        rw [p_has b1 d1, if_pos ht, p_bi, if_neg (by decide), if_neg (by rw [q_i, w0]; omega), if_pos (by rw [q_l, w2]; omega), f1, p_bv]
      have hM : fX7_row m (nI t) a2 = (if a2 = 0 then some (m1 0 15, m1) else if (if 0 < k ∧ E ≤ k then (1 : Int32) else 0) = 0 then some (-4, m1) else if a2 = 1 then some (m1 0 17, m1) else some (m1 0 18, m1)) := by
        unfold fX7_row
        rw [p_there b1 g1, if_pos ht, p_bi, if_neg (by decide), p_yes (by rw [p_t64]; exact hw), p_bi, if_neg (by decide), f2, p_bi]
      have hR : Rel c1 m1 := r_scr hst s1 s2
      rw [hC, hM]
      by_cases y : a2 = 0
      · rw [if_pos y, if_pos y]
        exact ⟨nI k, c1, m1, by rw [e8], by rw [hp.2.2.1], hR⟩
      · rw [if_neg y, if_neg y, p_hasR b' e8 hk, p_bi]
        by_cases x : 0 < k ∧ E ≤ k
        · obtain ⟨v1, v2, v3, v4⟩ := hv x
          rw [if_pos x, if_neg q10, if_neg q10, p_pw b' e8 x.1 hk, p_prs b' e8 x.1 hk, p_bi, p_bi, v1, v2]
          by_cases z : a2 = 1
          · rw [if_pos z, if_pos z]; exact ⟨_, _, _, rfl, rfl, hR⟩
          · rw [if_neg z, if_neg z]; exact ⟨_, _, _, rfl, rfl, hR⟩
        · rw [if_neg x, if_pos rfl, if_pos rfl]; exact ⟨_, _, _, rfl, rfl, hR⟩
    · refine ⟨-1, c, r_st m, ?_, ?_, hst⟩
      · unfold fX6_row fX6_row_b20
        rw [p_has b1 d1, if_pos ht, p_bi, if_neg (by decide)]
        by_cases y : a2 < 0
        · rw [if_pos y]
        · rw [if_neg y, if_neg (by rw [q_l, w2]; rw [q_i, w0] at y; omega)]
      · unfold fX7_row fX7_row_b20
        rw [p_there b1 g1, if_pos ht, p_bi, if_neg (by decide), p_no (by rw [p_t64]; exact hw), p_bi, if_pos rfl]
  · refine ⟨-1, c, r_st m, ?_, ?_, hst⟩
    · unfold fX6_row fX6_row_b20
      rw [p_has b1 d1, if_neg ht, p_bi, if_pos rfl]
    · unfold fX7_row fX7_row_b20
      rw [p_there b1 g1, if_neg ht, p_bi, if_pos rfl]
theorem p_pair {c m : Sg} {N W E P Q U F t : Nat} (b : r_bs c m N W E P Q U F) (ht : t < N) : ∃ c1 m1 k, fX0_load c (nI t) = some c1 ∧ fX7_rowOf m (nI t) = some m1 ∧ r_cs c c1 ∧ r_ms m m1 ∧ r_pr c1 m1 k ∧ r_hc c1 (m 1) (t + 1 - W) (t + 1 - (t + 1 - W)) k := by
  obtain ⟨c1, k, f1, s1, h1⟩ := p_load b ht
  obtain ⟨m1, k', f2, s2, h2⟩ := p_rowOf b ht
  have := b.1
  exact ⟨c1, m1, k, f1, f2, s1, s2, r_pr_of (by omega) h1 h2, h1⟩
theorem q_km {k : Nat} (hk : k ≤ 24) : (nI k - 1).toInt = (k : Int) - 1 := by
  have := pk_sub_toInt (a := k) (b := 1) (by omega) (by omega)
  exact this
theorem z_item : s_pure_item Rel := by
  intro c m h a1 a2
  have hst := rel_st h
  have hon := r_st_1 h.2.2.2.2.2.2
  obtain ⟨N, W, E, P, Q, U, F, b⟩ := r_bs_of hst hon
  obtain ⟨⟨b1, -⟩, ⟨d1, -⟩, ⟨g1, -⟩, -⟩ := id b
  have z0 : (0 : Int64).toInt = 0 := rfl
  by_cases ht : 0 ≤ a1.toInt ∧ a1.toInt < N
  · obtain ⟨t, _, rfl, et⟩ := q_nat ht.1
    obtain ⟨c1, m1, k, f1, f2, s1, s2, ⟨hk, e8, e15, hj, hs, hb⟩, -⟩ := p_pair b (show t < N by omega)
    have hR : Rel c1 m1 := r_scr hst s1 s2
    have hC : fX6_item c (nI t) a2 = s_bi (fX0_at c1 a2) (fun r9 σ7 => some (r9, σ7)) := by
      unfold fX6_item
      rw [p_has b1 d1, if_pos ht, p_bi, if_neg (by decide), f1, p_bv]
    have hM : fX7_item m (nI t) a2 = s_bi (fX7_in m1 (Int32.toInt64 a2) 0 (Int32.toInt64 (m1 0 15 - 1))) (fun r9 σ7 => (if r9 = 0 then (some ((100000000 : Int32), σ7)) else (s_gd (s_in a2 24) (some ((σ7 5 (Int32.toNatClampNeg a2)), σ7))))) := by
      unfold fX7_item
      rw [p_there b1 g1, if_pos ht, p_bi, if_neg (by decide), f2, p_bv]
    rw [hC, hM, e15]
    by_cases x : 0 ≤ a2.toInt ∧ a2.toInt < k
    · obtain ⟨j, _, rfl, ej⟩ := q_nat x.1
      have hjk : j < k := by omega
      refine ⟨c1 9 j, c1, m1, by rw [p_at hk e8 hjk, p_bi], ?_, hR⟩
      rw [p_yes (by rw [p_t64, p_t64, q_km hk, z0]; omega), p_bi, if_neg (by decide), p_gd (p_inN (by omega) (by omega)), nI_clamp (by omega), hj j hjk]
    · refine ⟨100000000, c1, m1, by rw [p_atN hk e8 (by omega), p_bi], ?_, hR⟩
      rw [p_no (by rw [p_t64, p_t64, q_km hk, z0]; omega), p_bi, if_pos rfl]
  · refine ⟨100000000, c, r_st m, ?_, ?_, hst⟩
    · unfold fX6_item
      rw [p_has b1 d1, if_neg ht, p_bi, if_pos rfl]
    · unfold fX7_item
      rw [p_there b1 g1, if_neg ht, p_bi, if_pos rfl]
theorem z_result : s_pure_result Rel := by
  intro c m h a1 a2
  have hst := rel_st h
  have hon := r_st_1 h.2.2.2.2.2.2
  obtain ⟨N, W, E, P, Q, U, F, b⟩ := r_bs_of hst hon
  obtain ⟨⟨b1, b2, b3, b4, b5, b6, b7, b8, b9, b10⟩, ⟨d1, -⟩, ⟨g1, -⟩, -⟩ := id b
  have w0 : (0 : Int32).toInt = 0 := rfl
  have w2 : (2 : Int32).toInt = 2 := rfl
  by_cases ht : 0 ≤ a1.toInt ∧ a1.toInt < N
  · by_cases hw : 0 ≤ a2.toInt ∧ a2.toInt ≤ 2
    · obtain ⟨t, _, rfl, et⟩ := q_nat ht.1
      have htN : t < N := by omega
      obtain ⟨c1, k, f1, s1, h1⟩ := p_load b htN
      have b' := r_bs_s b s1 (r_ms_r _)
      obtain ⟨m1, f2, s2, hp, hv⟩ := p_res b' htN h1
      have hk := hp.1
      have e8 := hp.2.1
      have hR : Rel c1 m1 := r_scr hst s1 s2
      have hC : fX6_result c (nI t) a2 = s_bi (fX0_hasResult c1) (fun r11 σ9 => (if r11 = 0 then (some ((100000000 : Int32), σ9)) else (if a2 = 0 then (s_bi (fX0_numerator σ9) (fun r23 σ21 => (some (r23, σ21)))) else (if a2 = (1 : Int32) then (s_bi (fX0_denominator σ9) (fun r20 σ18 => (some (r20, σ18)))) else (s_bi (fX0_rounded σ9) (fun r17 σ15 => (some (r17, σ15)))))))) := by
        unfold fX6_result
        rw [p_has b1 d1, if_pos ht, p_bi, if_neg (by decide), if_neg (by rw [q_i, w0]; omega), if_pos (by rw [q_l, w2]; omega), f1, p_bv]
      have hM : fX7_result m (nI t) a2 = (if (if 0 < k ∧ E ≤ k then (1 : Int32) else 0) = 0 then some (100000000, m1) else if a2 = 0 then some (m1 0 19, m1) else if a2 = 1 then some (m1 0 20, m1) else s_bi (fX7_rounded m1) (fun r17 σ15 => some (r17, σ15))) := by
        unfold fX7_result fX7_result_b28
        rw [p_there b1 g1, if_pos ht, p_bi, if_neg (by decide), p_yes (by rw [p_t64]; exact hw), p_bi, if_neg (by decide), f2, p_bi]
      rw [hC, hM, p_hasR b' e8 hk, p_bi]
      by_cases x : 0 < k ∧ E ≤ k
      · obtain ⟨v1, v2, v3, v4⟩ := hv x
        rw [if_pos x, if_neg q10, if_neg q10]
        by_cases y : a2 = 0
        · rw [if_pos y, if_pos y, p_num b' e8 x.1 hk, p_bi, v3]; exact ⟨_, _, _, rfl, rfl, hR⟩
        · rw [if_neg y, if_neg y]
          by_cases z : a2 = 1
          · rw [if_pos z, if_pos z, p_den b', p_bi, v4]; exact ⟨_, _, _, rfl, rfl, hR⟩
          · rw [if_neg z, if_neg z, p_rnd b' e8 x.1 hk h1.2.1, p_bi, p_rndM (r_dn_b b7 b8) (r_ov_b x.1 hk b6 b7 b8 b9 h1.2.1) v3 v4, p_bi]
            exact ⟨_, _, _, rfl, rfl, hR⟩
      · rw [if_neg x, if_pos rfl, if_pos rfl]; exact ⟨_, _, _, rfl, rfl, hR⟩
    · refine ⟨100000000, c, r_st m, ?_, ?_, hst⟩
      · unfold fX6_result fX6_result_b20
        rw [p_has b1 d1, if_pos ht, p_bi, if_neg (by decide)]
        by_cases y : a2 < 0
        · rw [if_pos y]
        · rw [if_neg y, if_neg (by rw [q_l, w2]; rw [q_i, w0] at y; omega)]
      · unfold fX7_result fX7_result_b28
        rw [p_there b1 g1, if_pos ht, p_bi, if_neg (by decide), p_no (by rw [p_t64]; exact hw), p_bi, if_pos rfl]
  · refine ⟨100000000, c, r_st m, ?_, ?_, hst⟩
    · unfold fX6_result fX6_result_b20
      rw [p_has b1 d1, if_neg ht, p_bi, if_pos rfl]
    · unfold fX7_result fX7_result_b28
      rw [p_there b1 g1, if_neg ht, p_bi, if_pos rfl]
theorem z_rank : s_pure_rank Rel := by
  intro c m h a1 a2 a3
  have hst := rel_st h
  have hon := r_st_1 h.2.2.2.2.2.2
  obtain ⟨N, W, E, P, Q, U, F, b⟩ := r_bs_of hst hon
  obtain ⟨⟨b1, -⟩, ⟨d1, -⟩, ⟨g1, -⟩, -⟩ := id b
  have w0 : (0 : Int32).toInt = 0 := rfl
  have w1 : (1 : Int32).toInt = 1 := rfl
  by_cases ht : 0 ≤ a1.toInt ∧ a1.toInt < N
  · by_cases hw : 0 ≤ a3.toInt ∧ a3.toInt ≤ 1
    · obtain ⟨t, _, rfl, et⟩ := q_nat ht.1
      obtain ⟨c1, m1, k, f1, f2, s1, s2, ⟨hk, e8, e15, hj, hs, hb⟩, -⟩ := p_pair b (show t < N by omega)
      have hR : Rel c1 m1 := r_scr hst s1 s2
      have hC : fX6_rank c (nI t) a2 a3 = (if a3 = 0 then (s_bi (fX0_countLess c1 a2) (fun r15 σ13 => (some (r15, σ13)))) else (s_bi (fX0_countSame c1 a2) (fun r12 σ10 => (some (r12, σ10))))) := by
        unfold fX6_rank
        rw [p_has b1 d1, if_pos ht, p_bi, if_neg (by decide), if_neg (by rw [q_i, w0]; omega), if_pos (by rw [q_l, w1]; omega), f1, p_bv]
      have hM : fX7_rank m (nI t) a2 a3 = fX7_rank_b31_L s_fu m1 a2 a3 0 0 := by
        unfold fX7_rank
        rw [p_there b1 g1, if_pos ht, p_bi, if_neg (by decide), p_yes (by rw [p_t64]; exact hw), p_bi, if_neg (by decide), f2, p_bv]
      rw [hC, hM]
      by_cases y : a3 = 0
      · have hL := p_rkL (v := a2) (x3 := a3) hk e15 (fun j => decide ((m1 5 j).toInt ≤ a2.toInt - 1)) (fun j _ => ⟨fun _ => ⟨fun z => by have := of_decide_eq_true z; rw [q_l]; omega, fun z => decide_eq_true (by rw [q_l] at z; omega)⟩, fun z => absurd y z⟩) s_fu 0 (by omega) (by rw [s_fu_e]; omega)
        refine ⟨nI (r_le (m1 5) k (a2.toInt - 1)), c1, m1, ?_, hL, hR⟩
        rw [if_pos y, p_cl hk e8 (r_so_eq (fun j hjk => (hj j hjk).symm) hs), p_bi, r_le_eq hj]
      · have hL := p_rkL (v := a2) (x3 := a3) hk e15 (fun j => decide (m1 5 j = a2)) (fun j _ => ⟨fun z => absurd z y, fun _ => ⟨fun z => of_decide_eq_true z, fun z => decide_eq_true z⟩⟩) s_fu 0 (by omega) (by rw [s_fu_e]; omega)
        refine ⟨nI (r_cn (fun j => decide (m1 5 j = a2)) k), c1, m1, ?_, hL, hR⟩
        have hS : fX0_countSame c1 a2 = some (nI (r_cn (fun j => decide (c1 9 j = a2)) k), c1) := p_csL hk e8 s_fu 0 (by omega) (by rw [s_fu_e]; omega)
        rw [if_neg y, hS, p_bi, r_cn_eq (Q := fun j => decide (m1 5 j = a2)) k (fun j hjk => by rw [hj j hjk])]
    · refine ⟨-1, c, r_st m, ?_, ?_, hst⟩
      · unfold fX6_rank fX6_rank_b20
        rw [p_has b1 d1, if_pos ht, p_bi, if_neg (by decide)]
        by_cases y : a3 < 0
        · rw [if_pos y]
        · rw [if_neg y, if_neg (by rw [q_l, w1]; rw [q_i, w0] at y; omega)]
      · unfold fX7_rank fX7_rank_b18
        rw [p_there b1 g1, if_pos ht, p_bi, if_neg (by decide), p_no (by rw [p_t64]; exact hw), p_bi, if_pos rfl]
  · refine ⟨-1, c, r_st m, ?_, ?_, hst⟩
    · unfold fX6_rank fX6_rank_b20
      rw [p_has b1 d1, if_neg ht, p_bi, if_pos rfl]
    · unfold fX7_rank fX7_rank_b18
      rw [p_there b1 g1, if_neg ht, p_bi, if_pos rfl]
