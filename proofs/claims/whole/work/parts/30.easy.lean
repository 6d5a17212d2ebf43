/-! PURE: the easy calls -/
theorem q_i {a b : Int32} : a < b ↔ a.toInt < b.toInt := Int32.lt_iff_toInt_lt
theorem q_l {a b : Int32} : a ≤ b ↔ a.toInt ≤ b.toInt := Int32.le_iff_toInt_le
/-- a tape's byte: it survives the store into a byte row -/
theorem q_byte {x : Int32} (h0 : 0 ≤ x.toInt) (h : x.toInt ≤ 127) : vp_nar .byte (Int8.toInt32 (Int32.toInt8 x)) = x := by
  rw [pk_vb]
  apply Int32.toInt_inj.mp
  rw [Int8.toInt_toInt32, Int32.toInt_toInt8]
  simp only [Int.bmod]
  omega
theorem z_feed : s_pure_feed Rel := by
  intro c D m h a1
  obtain ⟨h1, ⟨n, hn, e1, e2, hb⟩, h3, h4, h5, h6, h7⟩ := h
  have hN : (nI n).toInt = n := nI_toInt (by omega)
  have w0 : (0 : Int32).toInt = 0 := rfl
  have w1 : (127 : Int32).toInt = 127 := rfl
  have w2 : (320 : Int32).toInt = 320 := rfl
  unfold fX6_feed fX6_feed_b10 fX7_feed fX3_isFull fX3_append fX3_isFull
  simp only [p_lt, q_i, q_l, e1, hN, w0, w1, w2]
  by_cases hc : 0 ≤ a1.toInt ∧ a1.toInt ≤ 127
  · rw [if_neg (by omega), if_pos (by omega), p_yes (by rw [p_t64]; exact hc), p_bi, if_neg (by decide), e2]
    by_cases hf : n < 320
    · rw [if_pos (by omega), p_bi, if_pos rfl, if_pos (by omega), p_bi, if_pos rfl, p_gd (p_inN hf (by omega)), p_bv, if_neg (by intro z; have := congrArg Int32.toInt z; rw [hN, w2] at this; omega), p_gd (p_inN hf (by omega))]
      rw [nI_clamp (by omega), q_byte hc.1 hc.2]
      have x1 : s_up (s_up c 2 n a1) 1 1 (s_up c 2 n a1 1 1 + 1) 1 1 = nI (n + 1) := by
        show c 1 1 + 1 = _
        rw [e1, nI_1]
      have x2 : s_up (s_up m 2 n a1) 0 3 (s_up m 2 n a1 0 3 + 1) 0 3 = nI (n + 1) := by
        show m 0 3 + 1 = _
        rw [e2, nI_1]
      refine ⟨nI (n + 1), _, _, by rw [x1], by rw [x2], h1, ⟨n + 1, by omega, x1, x2, fun i hi => ?_⟩, h3, h4, h5, h6, h7⟩
      show upd (c 2) n a1 i = upd (m 2) n a1 i ∧ 0 ≤ (upd (m 2) n a1 i).toInt ∧ (upd (m 2) n a1 i).toInt ≤ 127
      by_cases hi2 : i = n
      · rw [p_upd, p_upd, if_pos hi2, if_pos hi2]
        exact ⟨rfl, hc.1, hc.2⟩
      · rw [p_upd, p_upd, if_neg hi2, if_neg hi2]
        exact hb i (by omega)
    · have : n = 320 := by omega
      subst this
      rw [if_neg (by omega), p_bi, if_neg (by decide), if_pos rfl]
      exact ⟨-3, c, m, rfl, rfl, h1, ⟨320, hn, e1, e2, hb⟩, h3, h4, h5, h6, h7⟩
  · rw [p_no (by rw [p_t64]; exact hc), p_bi, if_pos rfl]
    refine ⟨-1, c, m, ?_, rfl, h1, ⟨n, hn, e1, e2, hb⟩, h3, h4, h5, h6, h7⟩
    by_cases c1 : a1.toInt < 0
    · rw [if_pos c1]
    · rw [if_neg c1, if_neg (by omega)]
