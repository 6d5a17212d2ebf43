/-! PURE: the call text -/
def r_rst (c : Sg) : Sg := s_up (s_up (s_up (s_up (s_up (s_up (s_up c 4 1 0) 4 2 5) 4 3 1) 4 4 1) 4 5 2) 4 6 0) 4 7 0
def r_tI (c : Sg) : Sg := s_up (s_up (s_up (s_up (s_up (r_rst c) 3 1 12) 3 2 0) 3 7 0) 3 10 0) 3 11 0
theorem p_rst (c : Sg) : fX1_reset_4 c = some (r_rst c) := by
  unfold fX1_reset_4
  rw [p_lt, p_lt, p_lt, p_lt, p_lt, p_lt, p_lt]
  rfl
theorem p_tell (c : Sg) : fX4_tell c = s_bv (fX4_scan (r_tI c)) (fun σ8 => r_cl σ8 0) := by
  unfold fX4_tell
  rw [p_rst, p_bv, p_lt, p_lt, p_lt, p_lt, p_lt]
  rfl
def r_beg (m : Sg) : Sg := s_up (s_up (s_up (s_up (s_up (s_up (s_up m 1 405 5) 1 406 1) 1 407 1) 1 408 2) 1 409 0) 1 410 0) 1 411 0
theorem p_beg (m : Sg) : fX7_begins m 309 = some (r_beg m) := by
  unfold fX7_begins
  rw [p_gd (by decide), p_lt, p_gd (by decide), p_lt, p_gd (by decide), p_lt, p_gd (by decide), p_lt, p_gd (by decide), p_lt, p_gd (by decide), p_lt, p_gd (by decide), p_lt]
  rfl
def r_mI (m : Sg) : Sg := r_beg (s_up (s_up (s_up (r_st m) 0 5 0) 0 7 0) 0 11 0)
theorem p_text7 (m : Sg) : fX7_text m = s_bv (fX7_readsOn (r_mI m)) (fun σ8 => fX7_text_b30_L s_fu σ8) := by
  unfold fX7_text
  rw [p_starts, p_bv, p_lt, p_lt, p_lt, p_beg, p_bv]
  rfl
theorem r_tI_g (c : Sg) : r_gc c (r_tI c) := by
  unfold r_tI r_rst
  exact r_gc_t (r_gc_t (r_gc_t (r_gc_t (r_gc_t (r_gc_t (r_gc_t (r_gc_t (r_gc_t (r_gc_t (r_gc_t (r_gc_u _ _ (by omega)) (r_gc_u _ _ (by omega))) (r_gc_u _ _ (by omega))) (r_gc_u _ _ (by omega))) (r_gc_u _ _ (by omega))) (r_gc_u _ _ (by omega))) (r_gc_u _ _ (by omega))) (r_gc_u _ _ (by omega))) (r_gc_u _ _ (by omega))) (r_gc_u _ _ (by omega))) (r_gc_u _ _ (by omega))) (r_gc_u _ _ (by omega))
theorem r_mI_g (m : Sg) : r_gm (r_st m) (r_mI m) := by
  unfold r_mI r_beg
  exact r_gm_t (r_gm_t (r_gm_t (r_gm_t (r_gm_t (r_gm_t (r_gm_t (r_gm_t (r_gm_t (r_gm_0 _ _ (by omega)) (r_gm_0 _ _ (by omega))) (r_gm_0 _ _ (by omega))) (r_gm_1 _ _ (by omega))) (r_gm_1 _ _ (by omega))) (r_gm_1 _ _ (by omega))) (r_gm_1 _ _ (by omega))) (r_gm_1 _ _ (by omega))) (r_gm_1 _ _ (by omega))) (r_gm_1 _ _ (by omega))
theorem r_dft_I (c m : Sg) : r_dft (r_tI c 4) (r_tI c 5) (r_pp (r_mI m)) 12 := by
  have e96 : r_pp (r_mI m) 96 = 5 := rfl
  have e97 : r_pp (r_mI m) 97 = 1 := rfl
  have e98 : r_pp (r_mI m) 98 = 1 := rfl
  have e99 : r_pp (r_mI m) 99 = 2 := rfl
  have e100 : r_pp (r_mI m) 100 = 0 := rfl
  have e101 : r_pp (r_mI m) 101 = 0 := rfl
  have w0 : (0 : Int32).toInt = 0 := rfl
  have w1 : (1 : Int32).toInt = 1 := rfl
  have w2 : (2 : Int32).toInt = 2 := rfl
  have w5 : (5 : Int32).toInt = 5 := rfl
  refine ⟨0, by omega, rfl, rfl, fun i hi => by omega, ?_, ?_⟩
  · rw [e96, e97, e98, e99, e100, e101]
    exact ⟨rfl, rfl, rfl, rfl, rfl, rfl⟩
  · rw [e96, e97, e98, e99, e100, e101, w0, w1, w2, w5]
    exact ⟨by omega, by omega, ⟨by omega, by omega, fun _ => by omega, by omega, by omega⟩, by omega, by omega⟩
theorem r_ser_dft {h g u : Nat → Int32} (d : r_dft h g u 12) : r_ser h g u := by
  obtain ⟨N, a1, a2, a3, a4, a5, a6, a7, ⟨b1, b2, b3, b4, b5⟩, a9, a10⟩ := d
  exact ⟨N, a1, a2, a3, a4, a5, a6, a7, ⟨b1, b3 (by decide), b4, b5⟩, a9, a10⟩
theorem p_telltext {c m : Sg} (h : Rel c (r_st m)) : ∃ n mE, fX7_text m = fX7_text_b51 mE ∧ ((∃ cE, fX4_tell c = some (1, cE) ∧ r_gc (r_tI c) cE ∧ r_gm (r_mI m) mE ∧ cE 3 10 = 0 ∧ mE 0 5 = 0 ∧ r_dft (cE 4) (cE 5) (r_pp mE) 12) ∨ (∃ cF, fX4_tell c = some (0, cF) ∧ r_F (r_tI c) (r_mI m) n cF mE)) := by
  obtain ⟨-, ⟨n, hn, t1, t2, t3⟩, -, -, -, -, ⟨k3, k4, -⟩⟩ := h
  have B0 : r_B c (r_st m) n := ⟨⟨hn, t1, t2, t3⟩, k3, k4⟩
  have B : r_B (r_tI c) (r_mI m) n := r_B_of B0 (r_tI_g c) (r_mI_g m)
  obtain ⟨c1, m1, f1, f2, o1, o2, hh⟩ := p_scan (c := r_tI c) (m := r_mI m) (s0 := 0) B.1 rfl rfl (by omega) rfl rfl B.2.1 B.2.2
  refine ⟨n, ?_⟩
  rw [p_text7, p_tell, f1, f2, p_bv, p_bv]
  rcases hh with ⟨s, e, q1, q2⟩ | ⟨q1, q2, q3, q4⟩
  · have K : r_K (r_tI c) (r_mI m) n c1 m1 0 12 := ⟨r_gc_o o1, r_gm_o o2, by rw [o1.2 2 (by omega), o2.2 11 (by omega)]; rfl, by rw [o1.2 1 (by omega)]; rfl, s, e, q2, by omega⟩
    have D1 : r_dft (c1 4) (c1 5) (r_pp m1) 12 := by
      have e1 : r_pp m1 = r_pp (r_mI m) := by
        unfold r_pp
        rw [o2.1 1 (by decide)]
      rw [o1.1 4 (by decide), o1.1 5 (by decide), e1]
      exact r_dft_I c m
    obtain ⟨m', g1, g2⟩ := p_txL B s_fu c1 m1 0 K D1 (by rw [s_fu_e]; omega)
    exact ⟨m', g1, g2⟩
  · have hb : 0 < (m1 0 5).toInt := by rw [q2]; decide
    refine ⟨m1, ?_, Or.inr ⟨c1, p_clf (by rw [q1]; decide) (by omega), r_gc_o o1, r_gm_o o2, hb, by rw [q1, q2], q3, fun z => absurd z q4⟩⟩
    show fX7_text_b30 (fX7_text_b30_L 4095) m1 = _
    unfold fX7_text_b30
    rw [if_neg (q_brk hb).1]
theorem z_text : s_pure_text Rel := by
  intro c m h
  have hst := rel_st h
  have hon := r_st_1 h.2.2.2.2.2.2
  obtain ⟨n, mE, fM, hh⟩ := p_telltext (c := c) (m := m) hst
  obtain ⟨h1, -, h3, h4, h5, h6, h7⟩ := id hst
  rw [r_pg_on hon] at h1
  rw [fM]
  rcases hh with ⟨cE, fC, g1, g2, e10, e5, d⟩ | ⟨cF, fC, F⟩
  · have gc := r_gc_t (r_tI_g c) g1
    have gm := r_gm_t (r_mI_g m) g2
    obtain ⟨N, n1, n2, n3, -⟩ := id d
    obtain ⟨c2, q1, q2, q3, q4⟩ := p_cf_6_4 (c := s_up cE 1 1 0) n1 n2
    have hcp : fX7_copies (s_up (s_up mE 0 3 0) 0 4 0) 309 0 = some (r_cp (s_up (s_up mE 0 3 0) 0 4 0) 309 0 0) := p_copies (fr := 309) (to := 0) (by omega) (by omega) (by omega)
    have e05 : s_up mE 0 3 0 0 5 = 0 := e5
    have e05' : s_up (s_up mE 0 3 0) 0 4 0 0 5 ≤ 0 := by
      show mE 0 5 ≤ 0
      rw [e5]; decide
    have st : ∀ (K : Sg → Int32 → Option (Int32 × Sg)) (σ : Sg) (i : Nat), i < 2 → fX6_text_b51 K σ (nI i) = K (s_up σ 17 i (vp_nar .boolean (0 : Int32))) (nI (i + 1)) := fun K σ i hi => by
      unfold fX6_text_b51
      rw [if_neg (show ¬ (2 : Int32) ≤ nI i from nI_ge (b := 2) hi (by omega)), p_gd (p_inN hi (by omega)), p_lt, p_lt, nI_1, nI_clamp (by omega)]
    have hC : fX6_text c = some (nI N, s_up (s_up c2 17 0 (vp_nar .boolean (0 : Int32))) 17 1 (vp_nar .boolean (0 : Int32))) := by
      unfold fX6_text
      rw [fC, p_bi, p_lt, if_neg q10, q1, p_bv]
      show fX6_text_b51 (fX6_text_b51_L 4095) c2 (nI 0) = _
      rw [st _ _ 0 (by omega)]
      show fX6_text_b51 (fX6_text_b51_L 4094) _ (nI 1) = _
      rw [st _ _ 1 (by omega)]
      show fX6_text_b51 (fX6_text_b51_L 4093) _ (nI 2) = _
      unfold fX6_text_b51
      rw [if_pos (by decide)]
      have e61 : s_up (s_up c2 17 0 (vp_nar .boolean (0 : Int32))) 17 1 (vp_nar .boolean (0 : Int32)) 6 1 = nI N := by
        show c2 6 1 = _
        rw [q3 1 (by omega) (by omega)]; exact n2
      rw [e61]
    have hM : fX7_text_b51 mE = some (nI N, s_up (s_up (r_cp (s_up (s_up mE 0 3 0) 0 4 0) 309 0 0) 8 0 (vp_nar .boolean (0 : Int32))) 8 1 (vp_nar .boolean (0 : Int32))) := by
      unfold fX7_text_b51 fX7_many
      rw [p_lt, p_lt, e05, if_pos e05', hcp, p_bv, p_lt, p_lt, p_bi]
      have e102 : s_up (s_up (r_cp (s_up (s_up mE 0 3 0) 0 4 0) 309 0 0) 8 0 (vp_nar .boolean (0 : Int32))) 8 1 (vp_nar .boolean (0 : Int32)) 1 102 = nI N := by
        show r_cp (s_up (s_up mE 0 3 0) 0 4 0) 309 0 0 1 102 = _
        have := r_cp_in (σ := s_up (s_up mE 0 3 0) 0 4 0) (fr := 309) (to := 0) (i := 102) (by omega)
        rw [Nat.zero_add] at this
        rw [this]
        exact n3
      rw [e102]
    refine ⟨_, _, _, hC, hM, ?_⟩
    have b0 : vp_nar .boolean (0 : Int32) = 0 := by decide
    have mp : ∀ p, 1 < p → ¬ p = 8 → s_up (s_up (r_cp (s_up (s_up mE 0 3 0) 0 4 0) 309 0 0) 8 0 (vp_nar .boolean (0 : Int32))) 8 1 (vp_nar .boolean (0 : Int32)) p = r_st m p := fun p hp h8 => by
      rw [p_up, if_neg h8, p_up, if_neg h8, r_cp_p (by omega), p_up, if_neg (by omega), p_up, if_neg (by omega), gm.1 p hp]
    have m0 : ∀ i, ¬ i = 3 → ¬ i = 4 → s_up (s_up (r_cp (s_up (s_up mE 0 3 0) 0 4 0) 309 0 0) 8 0 (vp_nar .boolean (0 : Int32))) 8 1 (vp_nar .boolean (0 : Int32)) 0 i = mE 0 i := fun i h3 h4 => by
      show r_cp (s_up (s_up mE 0 3 0) 0 4 0) 309 0 0 0 i = _
      rw [r_cp_p (by decide)]
      show upd (upd (mE 0) 3 0) 4 0 i = _
      rw [p_upd, if_neg h4, p_upd, if_neg h3]
    have on' : s_up (s_up (r_cp (s_up (s_up mE 0 3 0) 0 4 0) 309 0 0) 8 0 (vp_nar .boolean (0 : Int32))) 8 1 (vp_nar .boolean (0 : Int32)) 0 1 = 1 := by
      rw [m0 1 (by decide) (by decide), gm.2.1 1 (by omega)]; exact hon
    have m1i : ∀ i, i < 103 → s_up (s_up (r_cp (s_up (s_up mE 0 3 0) 0 4 0) 309 0 0) 8 0 (vp_nar .boolean (0 : Int32))) 8 1 (vp_nar .boolean (0 : Int32)) 1 i = r_pp mE i := fun i hi => by
      show r_cp (s_up (s_up mE 0 3 0) 0 4 0) 309 0 0 1 i = _
      have := r_cp_in (σ := s_up (s_up mE 0 3 0) 0 4 0) (fr := 309) (to := 0) hi
      rw [Nat.zero_add] at this
      rw [this]
      rfl
    have cp : ∀ p, ¬ p = 17 → ¬ p = 6 → ¬ p = 7 → ¬ p = 1 → s_up (s_up c2 17 0 (vp_nar .boolean (0 : Int32))) 17 1 (vp_nar .boolean (0 : Int32)) p = cE p := fun p h17 h6 h7 h1 => by
      rw [p_up, if_neg h17, p_up, if_neg h17, q2 p h6 h7, p_up, if_neg h1]
    refine ⟨?_, ⟨0, by omega, ?_, ?_, fun i hi => by omega⟩, ?_, ?_, ?_, ?_, ?_⟩
    · rw [r_pg_on on']
      refine r_ser_ext (r_ser_dft d) (fun i a b => ?_) (fun n' e' hn' i hi => ?_) m1i
      · show c2 6 i = _
        rw [q3 i a b]; rfl
      · have en : n' = N := (nI_eq (by omega) (by omega)).mp (e'.symm.trans n2)
        show c2 7 i = _
        rw [q4 i (by omega)]; rfl
    · show c2 1 1 = _
      rw [q2 1 (by decide) (by decide)]; rfl
    · show r_cp (s_up (s_up mE 0 3 0) 0 4 0) 309 0 0 0 3 = _
      rw [r_cp_p (by decide)]; rfl
    · rw [cp 3 (by decide) (by decide) (by decide) (by decide), e10]
      show _ = r_cp (s_up (s_up mE 0 3 0) 0 4 0) 309 0 0 0 4
      rw [r_cp_p (by decide)]; rfl
    · rw [cp 0 (by decide) (by decide) (by decide) (by decide), gc 0 (by omega), m0 27 (by decide) (by decide), gm.2.1 27 (by omega)]
      exact h4
    · refine ⟨⟨rfl, rfl, Or.inl b0, Or.inl b0⟩, fun q => ?_, fun q => ?_⟩
      · have q' : vp_nar .boolean (0 : Int32) = 1 := q
        rw [b0] at q'
        exact absurd q' (by decide)
      · have q' : vp_nar .boolean (0 : Int32) = 1 := q
        rw [b0] at q'
        exact absurd q' (by decide)
    · exact r_sheet_to h6 (fun p hp => by rw [cp p (by omega) (by omega) (by omega) (by omega), gc p (by omega)]) (mp 9 (by decide) (by decide)) (mp 10 (by decide) (by decide)) (mp 11 (by decide) (by decide))
    · refine ⟨by rw [mp 3 (by decide) (by decide)]; exact h7.1, by rw [mp 4 (by decide) (by decide)]; exact h7.2.1, Or.inr on', fun q => ?_⟩
      rw [on'] at q
      exact absurd q (by decide)
  · obtain ⟨g1, g2, g3, g4, g5, -⟩ := F
    have gc := r_gc_t (r_tI_g c) g1
    have gm := r_gm_t (r_mI_g m) g2
    have hC : fX6_text c = some (-10 - cF 3 11, s_up cF 1 1 0) := by
      unfold fX6_text
      rw [fC, p_bi, p_lt, if_pos rfl]
      rfl
    have hM : fX7_text_b51 mE = some (-10 - mE 0 6, s_up (s_up mE 0 3 0) 0 4 (mE 0 5)) := by
      unfold fX7_text_b51
      rw [p_lt, p_lt, if_neg (show ¬ s_up (s_up mE 0 3 0) 0 4 (s_up mE 0 3 0 0 5) 0 5 ≤ 0 from (q_brk g3).2.1)]
      rfl
    have m0 : ∀ i, ¬ i = 3 → ¬ i = 4 → s_up (s_up mE 0 3 0) 0 4 (mE 0 5) 0 i = mE 0 i := fun i h3 h4 => by
      show upd (upd (mE 0) 3 0) 4 (mE 0 5) i = _
      rw [p_upd, if_neg h4, p_upd, if_neg h3]
    have on' : s_up (s_up mE 0 3 0) 0 4 (mE 0 5) 0 1 = 1 := by
      rw [m0 1 (by decide) (by decide), gm.2.1 1 (by omega)]; exact hon
    have mp : ∀ p, 1 < p → s_up (s_up mE 0 3 0) 0 4 (mE 0 5) p = r_st m p := fun p hp => by
      rw [p_up, if_neg (by omega), p_up, if_neg (by omega), gm.1 p hp]
    have m1i : ∀ i, i < 309 → s_up (s_up mE 0 3 0) 0 4 (mE 0 5) 1 i = r_st m 1 i := fun i hi => gm.2.2 i (Or.inl hi)
    have cp : ∀ p, ¬ p = 1 → p < 3 ∨ 5 < p → s_up cF 1 1 0 p = c p := fun p h1 hp => by
      rw [p_up, if_neg h1, gc p hp]
    refine ⟨-10 - cF 3 11, s_up cF 1 1 0, s_up (s_up mE 0 3 0) 0 4 (mE 0 5), hC, by rw [hM, g5], ?_, ⟨0, by omega, rfl, rfl, fun i hi => by omega⟩, g4, ?_, ?_, ?_, ?_⟩
    · rw [r_pg_on on', cp 6 (by decide) (by omega), cp 7 (by decide) (by omega)]
      exact r_ser_ext h1 (fun _ _ _ => rfl) (fun _ _ _ _ _ => rfl) (fun i hi => m1i i (by omega))
    · rw [cp 0 (by decide) (by omega), m0 27 (by decide) (by decide), gm.2.1 27 (by omega)]
      exact h4
    · unfold r_img
      rw [cp 17 (by decide) (by omega), cp 13 (by decide) (by omega), cp 14 (by decide) (by omega), cp 15 (by decide) (by omega), cp 16 (by decide) (by omega), mp 8 (by omega)]
      exact ⟨h5.1, fun q => r_ser_ext (h5.2.1 q) (fun _ _ _ => rfl) (fun _ _ _ _ _ => rfl) (fun i hi => m1i _ (by omega)), fun q => r_ser_ext (h5.2.2 q) (fun _ _ _ => rfl) (fun _ _ _ _ _ => rfl) (fun i hi => m1i _ (by omega))⟩
    · exact r_sheet_to h6 (fun p hp => cp p (by omega) (by omega)) (mp 9 (by omega)) (mp 10 (by omega)) (mp 11 (by omega))
    · refine ⟨by rw [mp 3 (by omega)]; exact h7.1, by rw [mp 4 (by omega)]; exact h7.2.1, Or.inr on', fun q => ?_⟩
      rw [on'] at q
      exact absurd q (by decide)
