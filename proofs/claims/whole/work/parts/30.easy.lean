/-! PURE: the easy calls -/
theorem q_i {a b : Int32} : a < b ↔ a.toInt < b.toInt := Int32.lt_iff_toInt_lt
theorem q_l {a b : Int32} : a ≤ b ↔ a.toInt ≤ b.toInt := Int32.le_iff_toInt_le
theorem q_e {a b : Int32} : a = b ↔ a.toInt = b.toInt := Int32.toInt_inj.symm
/-- a tape's byte: it survives the store into a byte row -/
theorem q_byte {x : Int32} (h0 : 0 ≤ x.toInt) (h : x.toInt ≤ 127) : vp_nar .byte (Int8.toInt32 (Int32.toInt8 x)) = x := by
  rw [pk_vb]
  apply Int32.toInt_inj.mp
  rw [Int8.toInt_toInt32, Int32.toInt_toInt8]
  simp only [Int.bmod]
  omega
theorem z_feed : s_pure_feed Rel := by
  intro c m h a1
  obtain ⟨h1, ⟨n, hn, e1, e2, hb⟩, h3, h4, h5, h6, h7⟩ := h
  have hN : (nI n).toInt = n := nI_toInt (by omega)
  have w0 : (0 : Int32).toInt = 0 := rfl
  have w1 : (127 : Int32).toInt = 127 := rfl
  have w2 : (320 : Int32).toInt = 320 := rfl
  by_cases hc : 0 ≤ a1.toInt ∧ a1.toInt ≤ 127
  · have k1 : ¬ a1 < 0 := by rw [q_i, w0]; omega
    have k2 : a1 ≤ 127 := by rw [q_l, w1]; omega
    by_cases hf : n < 320
    · have k3 : c 1 1 < 320 := by rw [q_i, e1, hN, w2]; omega
      have k4 : ¬ m 0 3 = 320 := by rw [q_e, e2, hN, w2]; omega
      have hC : fX6_feed c a1 = some (nI (n + 1), s_up (s_up c 2 n a1) 1 1 (nI (n + 1))) := by
        unfold fX6_feed fX3_append fX3_isFull
        rw [if_neg k1, if_pos k2, if_pos k3, p_bi, if_pos rfl, if_pos k3, p_bi, if_pos rfl, e1, p_gd (p_inN hf (by omega)), p_lt, p_lt, p_bv, nI_clamp (by omega), q_byte hc.1 hc.2]
        show some (c 1 1 + 1, s_up (s_up c 2 n a1) 1 1 (c 1 1 + 1)) = _
        rw [e1, nI_1]
      have hM : fX7_feed m a1 = some (nI (n + 1), s_up (s_up m 2 n a1) 0 3 (nI (n + 1))) := by
        unfold fX7_feed
        rw [p_yes (by rw [p_t64]; exact hc), p_bi, if_neg (by decide), if_neg k4, e2, p_gd (p_inN hf (by omega)), p_lt, p_lt, nI_clamp (by omega)]
        show some (m 0 3 + 1, s_up (s_up m 2 n a1) 0 3 (m 0 3 + 1)) = _
        rw [e2, nI_1]
      refine ⟨_, _, _, hC, hM, h1, ⟨n + 1, by omega, rfl, rfl, fun i hi => ?_⟩, h3, h4, h5, h6, h7⟩
      show upd (c 2) n a1 i = upd (m 2) n a1 i ∧ 0 ≤ (upd (m 2) n a1 i).toInt ∧ (upd (m 2) n a1 i).toInt ≤ 127
      by_cases hi2 : i = n
      · rw [p_upd, p_upd, if_pos hi2, if_pos hi2]
        exact ⟨rfl, hc.1, hc.2⟩
      · rw [p_upd, p_upd, if_neg hi2, if_neg hi2]
        exact hb i (by omega)
    · have hn2 : n = 320 := by omega
      have k3 : ¬ c 1 1 < 320 := by rw [q_i, e1, hN, w2]; omega
      have k4 : m 0 3 = 320 := by rw [q_e, e2, hN, w2]; omega
      have hC : fX6_feed c a1 = some (-3, c) := by
        unfold fX6_feed fX3_isFull
        rw [if_neg k1, if_pos k2, if_neg k3, p_bi, if_neg (by decide)]
      have hM : fX7_feed m a1 = some (-3, m) := by
        unfold fX7_feed
        rw [p_yes (by rw [p_t64]; exact hc), p_bi, if_neg (by decide), if_pos k4]
      exact ⟨_, _, _, hC, hM, h1, ⟨n, hn, e1, e2, hb⟩, h3, h4, h5, h6, h7⟩
  · have hC : fX6_feed c a1 = some (-1, c) := by
      unfold fX6_feed fX6_feed_b10
      by_cases c1 : a1 < 0
      · rw [if_pos c1]
      · rw [if_neg c1, if_neg (by rw [q_l, w1]; rw [q_i, w0] at c1; omega)]
    have hM : fX7_feed m a1 = some (-1, m) := by
      unfold fX7_feed
      rw [p_no (by rw [p_t64]; exact hc), p_bi, if_pos rfl]
    exact ⟨_, _, _, hC, hM, h1, ⟨n, hn, e1, e2, hb⟩, h3, h4, h5, h6, h7⟩
/-- a setting of the now: places 2 to 7 of the object, 96 to 101 of the page -/
theorem r_set {c : Sg} {m : Sg} (hon : m 0 1 = 1) (h : Rel c m) {c' m' : Sg} (hc : ∀ p, p ≠ 6 → c' p = c p) (hm : ∀ p, p ≠ 1 → m' p = m p) (hm2 : ∀ i, 102 < i → m' 1 i = m 1 i) (hs : r_ser (c' 6) (c 7) (m' 1)) : Rel c' m' := by
  obtain ⟨h1, h2, h3, h4, h5, h6, h7⟩ := h
  have e0 : m' 0 = m 0 := hm 0 (by decide)
  have hon' : m' 0 1 = 1 := by rw [e0]; exact hon
  refine ⟨?_, ?_, ?_, ?_, ?_, ?_, ?_⟩
  · rw [r_pg_on hon', hc 7 (by decide)]; exact hs
  · unfold r_tape
    rw [hc 1 (by decide), hc 2 (by decide), e0, hm 2 (by decide)]
    exact h2
  · rw [hc 3 (by decide), e0]; exact h3
  · rw [hc 0 (by decide), e0]; exact h4
  · unfold r_img
    have e1 : (fun i => m' 1 (103 + i)) = (fun i => m 1 (103 + i)) := by funext i; exact hm2 _ (by omega)
    have e2 : (fun i => m' 1 (206 + i)) = (fun i => m 1 (206 + i)) := by funext i; exact hm2 _ (by omega)
    rw [hc 17 (by decide), hc 13 (by decide), hc 14 (by decide), hc 15 (by decide), hc 16 (by decide), hm 8 (by decide), e1, e2]
    exact h5
  · exact r_sheet_to h6 (fun p hp => hc p (by omega)) (hm 9 (by decide)) (hm 10 (by decide)) (hm 11 (by decide))
  · unfold r_con
    rw [hm 3 (by decide), hm 4 (by decide), hm 8 (by decide), e0]
    exact h7
theorem p_becomes {m : Sg} {at_ v : Int32} (h0 : 0 ≤ at_.toInt) (h1 : at_.toInt < 515) : fX7_becomes m 1 at_ v = some (r_st m 1 at_.toNatClampNeg, s_up (r_st m) 1 at_.toNatClampNeg v) := by
  unfold fX7_becomes
  rw [p_starts, p_bv, if_neg (by decide), p_gd (p_in h0 h1), p_lt, p_gd (p_in h0 h1), p_lt]
theorem p_becomesN {m : Sg} {at_ v : Int32} : fX7_becomes m 0 at_ v = some (-1, r_st m) := by
  unfold fX7_becomes
  rw [p_starts, p_bv, if_pos rfl]
theorem z_width : s_pure_width Rel := by
  intro c m h a1
  have hst := rel_st h
  have h7 := h.2.2.2.2.2.2
  have hon := r_st_1 h7
  have w1 : (1 : Int32).toInt = 1 := rfl
  have w2 : (24 : Int32).toInt = 24 := rfl
  by_cases hc : 1 ≤ a1.toInt ∧ a1.toInt ≤ 24
  · have hC : fX6_width c a1 = some (c 6 2, s_up c 6 2 a1) := by
      unfold fX6_width
      rw [if_neg (by rw [q_i, w1]; omega), if_pos (by rw [q_l, w2]; omega), p_lt, p_lt]
    have hM : fX7_width m a1 = some (r_st m 1 96, s_up (r_st m) 1 96 a1) := by
      unfold fX7_width
      rw [p_yes (by rw [p_t64]; exact hc), p_bi, p_becomes (by decide) (by decide), p_bi]
      rfl
    obtain ⟨n, b1, b2, b3, b4, b5, b6, b7⟩ := hst.1
    rw [r_pg_st h7] at b3 b4 b5 b6 b7
    refine ⟨_, _, _, hC, by rw [hM, b5.1], r_set hon hst (fun p hp => by rw [p_up, if_neg hp]) (fun p hp => by rw [p_up, if_neg hp]) (fun i hi => ?_) ?_⟩
    · show upd (r_st m 1) 96 a1 i = _
      rw [p_upd, if_neg (by omega)]
    · refine ⟨n, b1, b2, b3, fun i hi => ?_, ⟨rfl, b5.2⟩, hc, b7⟩
      show c 7 i = upd (r_st m 1) 96 a1 i ∧ r_ok (upd (r_st m 1) 96 a1 i)
      rw [p_upd, if_neg (by omega)]
      exact b4 i hi
  · have hC : fX6_width c a1 = some (-1, c) := by
      unfold fX6_width fX6_width_b11
      by_cases c1 : a1 < 1
      · rw [if_pos c1]
      · rw [if_neg c1, if_neg (by rw [q_l, w2]; rw [q_i, w1] at c1; omega)]
    have hM : fX7_width m a1 = some (-1, r_st m) := by
      unfold fX7_width
      rw [p_no (by rw [p_t64]; exact hc), p_bi, p_becomesN, p_bi]
    exact ⟨_, _, _, hC, hM, hst⟩
