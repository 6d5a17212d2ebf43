/-! PURE: text -/
theorem p_Lline {cB mB c m : Sg} {n tok : Nat} (B : r_B cB mB n) (K : r_K cB mB n c m tok 12) (h0 : ¬ c 3 5 = 0) (D : r_dft (c 4) (c 5) (r_pp m) 12) : ∃ m', fX7_readLine m = some m' ∧ ((∃ c' tok', r_cl c tok = r_cl c' tok' ∧ tok < tok' ∧ r_K cB mB n c' m' tok' 12 ∧ r_dft (c' 4) (c' 5) (r_pp m') 12) ∨ (∃ cF, r_cl c tok = some (0, cF) ∧ r_F cB mB n cF m')) := by
  obtain ⟨k1, k2, k3, k4, s, e, k5, k6⟩ := id K
  have B' := r_B_of B k1 k2
  have hn := B'.1.1
  obtain ⟨⟨x1, x2, x3, x4, x5, x6, x7, x8⟩, ⟨b, y1, y2⟩, z⟩ := id k5
  have hse : s < e := by
    rcases z with z | z | z | z
    · exact absurd z.1 h0
    · exact z.1
    · exact z.1
    · exact z.1
  have k4' : c 3 1 = 12 := k4
  have hTT : ∀ x, fX4_takeToken c x = s_bv (fX4_takeLineName c) (fun σ => some σ) := fun x => by
    unfold fX4_takeToken
    rw [k4', if_neg (by decide), if_neg (by decide), if_neg (by decide), if_neg (by decide), if_neg (by decide), if_neg (by decide), if_neg (by decide), if_neg (by decide), if_neg (by decide), if_neg (by decide), if_neg (by decide), if_neg (by decide), if_pos rfl]
  have w0 : (0 : Int32).toInt = 0 := rfl
  have w5 : (5 : Int32).toInt = 5 := rfl
  have w4 : (-4 : Int32).toInt = -4 := rfl
  have z0 : (0 : Int64).toInt = 0 := rfl
  have z5 : (5 : Int64).toInt = 5 := rfl
  have hab : (0 ≤ b.toInt ∧ b.toInt ≤ 5 ↔ 0 ≤ (c 3 8).toInt ∧ (c 3 8).toInt ≤ 5) ∧ (0 ≤ (c 3 8).toInt ∧ (c 3 8).toInt ≤ 5 → ∃ j, j ≤ 5 ∧ c 3 8 = nI j ∧ b = nI j) := by
    rcases y2 with ⟨q1, q2⟩ | ⟨j, q1, q2, q3⟩
    · rw [q1, q2, w4]; exact ⟨by omega, fun h => by omega⟩
    · have hph := r_ph_b q1
      have e9 : (nI (r_ph j)).toInt = (r_ph j : Int) := nI_toInt (by omega)
      have ej : (nI j).toInt = (j : Int) := nI_toInt (by omega)
      rw [q2, q3, e9, ej]
      unfold r_ph
      by_cases j6 : j < 6
      · rw [if_pos j6]; exact ⟨by omega, fun _ => ⟨j, by omega, rfl, rfl⟩⟩
      · rw [if_neg j6]
        by_cases j7 : j = 6
        · rw [if_pos j7]; exact ⟨by omega, fun h => by omega⟩
        · rw [if_neg j7]; exact ⟨by omega, fun h => by omega⟩
  unfold fX7_readLine
  rw [y1, p_bi]
  by_cases good : 0 ≤ (c 3 8).toInt ∧ (c 3 8).toInt ≤ 5
  · obtain ⟨j, hj, g1, g2⟩ := hab.2 good
    rw [p_yes (by rw [p_t64, z0, z5]; exact hab.1.mpr good), p_bi, if_neg q10, g2]
    have c8 : ¬ c 3 8 < 0 := by rw [q_i, w0]; omega
    have c8' : c 3 8 ≤ 5 := by rw [q_l, w5]; omega
    -- the name is taken
    have good2 : fX4_takeLineName c = fX4_takeLineName_b54 c → ∃ m', fX7_readLine_b45 m (nI j) = some m' ∧ ((∃ c' tok', r_cl c tok = r_cl c' tok' ∧ tok < tok' ∧ r_K cB mB n c' m' tok' 12 ∧ r_dft (c' 4) (c' 5) (r_pp m') 12) ∨ (∃ cF, r_cl c tok = some (0, cF) ∧ r_F cB mB n cF m')) := by
      intro hTn
      have hTk : fX4_takeToken c (m 2 s) = some (s_up (s_up c 3 2 ((m 0 11) ||| ((1 : Int32) <<< (nI j &&& 31)))) 3 1 (nI j)) := by
        rw [hTT, hTn]
        unfold fX4_takeLineName_b54
        have e8 : s_up c 3 2 ((m 0 11) ||| ((1 : Int32) <<< (nI j &&& 31))) 3 8 = nI j := g1
        rw [g1, k3, p_lt, e8, p_lt, p_bv]
      rw [r_tail_e, p_lt]
      generalize (m 0 11) ||| ((1 : Int32) <<< (nI j &&& 31)) = T at hTk ⊢
      obtain ⟨c1, m1, a1, a2, a3, a4⟩ := p_adv (c := s_up (s_up c 3 2 T) 3 1 (nI j)) (m := s_up m 0 11 T) (w := j) (tok := tok) B (r_gc_t k1 (r_gc_t (r_gc_u _ _ (by omega)) (r_gc_u _ _ (by omega)))) (r_gm_t k2 (r_gm_0 _ _ (by omega))) x3 x4 x6 x7 x8 rfl rfl (by omega)
      have h10 : s_up (s_up c 3 2 T) 3 1 (nI j) 3 10 = 0 := x7
      have hCL : r_cl c tok = s_bv (fX4_scan (s_up (s_up c 3 2 T) 3 1 (nI j))) (fun σ10 => r_cl σ10 (tok + 1)) := by
        rw [p_cls B' k5 h0 hse k6, hTk, p_bv, if_pos h10]
      rw [a1, p_bv]
      rcases a4 with ⟨q1, q2⟩ | ⟨q1, q2⟩
      · have D1 : r_dft (c1 4) (c1 5) (r_pp m1) 12 := by
          have e1 : r_pp m1 = r_pp m := by
            unfold r_pp
            rw [a3.1 1 (by decide)]
            rfl
          rw [a2.1 4 (by decide), a2.1 5 (by decide), e1]
          exact D
        obtain ⟨m', f, h⟩ := p_tailK B hj q2 D1
        refine ⟨m', f, ?_⟩
        rcases h with ⟨c', tok', t1, t2, t3⟩ | ⟨cF, t1, t2⟩
        · exact Or.inl ⟨c', tok', by rw [hCL, q1]; exact t1, by omega, t3⟩
        · exact Or.inr ⟨cF, by rw [hCL, q1]; exact t1, t2⟩
      · obtain ⟨m', f, F'⟩ := p_tailF B q2 hj
        exact ⟨m', f, Or.inr ⟨c1, by rw [hCL]; exact q1, F'⟩⟩
    by_cases j5 : j = 5
    · have e5 : c 3 8 = 5 := by rw [g1, j5]; rfl
      rw [if_pos (show (5 : Int32) ≤ nI j by rw [j5]; decide)]
      refine good2 ?_
      unfold fX4_takeLineName
      rw [if_neg c8, if_pos c8', if_pos e5]
    · have e5 : ¬ c 3 8 = 5 := by rw [g1]; exact fun q => j5 ((nI_eq (b := 5) (by omega) (by omega)).mp q)
      rw [if_neg (show ¬ (5 : Int32) ≤ nI j from nI_ge (b := 5) (by omega) (by omega))]
      by_cases bit : ((m 0 11) >>> (nI j &&& 31)) &&& (1 : Int32) = 1
      · rw [if_pos bit, p_fl x8, p_bv]
        have hbr : 0 < (r_fl m 4 0 5).toInt := by show 0 < (4 : Int32).toInt; decide
        have hTk : fX4_takeToken c (m 2 s) = some (r_rf c 4) := by
          rw [hTT]
          unfold fX4_takeLineName
          rw [if_neg c8, if_pos c8', if_neg e5, k3, g1, if_pos bit, p_rf, p_bv, p_bv]
        have h10 : ¬ r_rf c 4 3 10 = 0 := by show ¬ (4 : Int32) = 0; decide
        have F : r_F cB mB n (r_rf c 4) (r_fl m 4) := r_F_of K (by decide) (r_rf_g c 4) rfl rfl
        have hCL : r_cl c tok = some (0, r_rf c 4) := by
          rw [p_cls B' k5 h0 hse k6, hTk, p_bv, if_neg h10, p_clf h10 (by omega)]
        rw [r_tail_e, p_lt]
        generalize (r_fl m 4 0 11) ||| ((1 : Int32) <<< (nI j &&& 31)) = T
        have F2 : r_F cB mB n (r_rf c 4) (s_up (r_fl m 4) 0 11 T) := by
          obtain ⟨u1, u2, u3, u4, u5, u6⟩ := F
          exact ⟨u1, r_gm_t u2 (r_gm_0 _ _ (by omega)), u3, u4, u5, u6⟩
        rw [b_ro F2.2.2.1, p_bv]
        obtain ⟨m', f, F'⟩ := p_tailF B F2 hj
        exact ⟨m', f, Or.inr ⟨_, hCL, F'⟩⟩
      · rw [if_neg bit]
        refine good2 ?_
        unfold fX4_takeLineName
        rw [if_neg c8, if_pos c8', if_neg e5, k3, g1, if_neg bit]
  · have hbr : 0 < (r_fl m 2 0 5).toInt := by show 0 < (2 : Int32).toInt; decide
    rw [p_no (by rw [p_t64, z0, z5]; exact fun q => good (hab.1.mp q)), p_bi, if_pos rfl, p_fl x8, p_bv]
    have hTk : fX4_takeToken c (m 2 s) = some (r_rf c 2) := by
      rw [hTT]
      unfold fX4_takeLineName fX4_takeLineName_b15
      rw [p_rf, p_bv]
      by_cases q : c 3 8 < 0
      · rw [if_pos q, p_bv]
      · rw [if_neg q, if_neg (by rw [q_l, w5]; rw [q_i, w0] at q; omega), p_bv]
    have h10 : ¬ r_rf c 2 3 10 = 0 := by show ¬ (2 : Int32) = 0; decide
    refine ⟨_, rfl, Or.inr ⟨r_rf c 2, ?_, r_F_of K (by decide) (r_rf_g c 2) rfl rfl⟩⟩
    rw [p_cls B' k5 h0 hse k6, hTk, p_bv, if_neg h10, p_clf h10 (by omega)]
theorem p_txL {cB mB : Sg} {n : Nat} (B : r_B cB mB n) : ∀ (f : Nat) (c m : Sg) (tok : Nat), r_K cB mB n c m tok 12 → r_dft (c 4) (c 5) (r_pp m) 12 → 400 - tok < f → ∃ m', fX7_text_b30_L f m = fX7_text_b51 m' ∧ ((∃ c', r_cl c tok = some (1, c') ∧ r_gc cB c' ∧ r_gm mB m' ∧ c' 3 10 = 0 ∧ m' 0 5 = 0 ∧ r_dft (c' 4) (c' 5) (r_pp m') 12) ∨ (∃ cF, r_cl c tok = some (0, cF) ∧ r_F cB mB n cF m')) := by
  intro f
  induction f with
  | zero => intro c m tok _ _ h; omega
  | succ f ih =>
    intro c m tok K D hf
    obtain ⟨k1, k2, k3, k4, s, e, k5, k6⟩ := id K
    have hn := (r_B_of B k1 k2).1.1
    obtain ⟨⟨x1, x2, x3, x4, x5, x6, x7, x8⟩, -, z⟩ := id k5
    show ∃ m', fX7_text_b30 (fX7_text_b30_L f) m = fX7_text_b51 m' ∧ _
    unfold fX7_text_b30
    rw [if_pos x8]
    have hz : c 3 5 = 0 ↔ m 0 9 = 0 := by
      rcases z with z | z | z | z
      · exact ⟨fun _ => z.2.1, fun _ => z.1⟩
      · exact ⟨fun q => by rw [z.2.1.1] at q; exact absurd q (by decide), fun q => by rw [z.2.1.2] at q; exact absurd q (by decide)⟩
      · exact ⟨fun q => by rw [z.2.1.1] at q; exact absurd q (by decide), fun q => by rw [z.2.1.2.1] at q; exact absurd q (by decide)⟩
      · refine ⟨fun q => by rw [z.2.1.1] at q; exact absurd q (by decide), fun q => ?_⟩
        rcases z.2.2 with r | r | r
        · rw [r.2] at q; exact absurd q (by decide)
        · rw [r.2] at q; exact absurd q (by decide)
        · rw [r.2] at q; exact absurd q (by decide)
    by_cases h9 : m 0 9 = 0
    · rw [if_pos h9]
      exact ⟨m, rfl, Or.inl ⟨c, p_cl12 x7 (hz.mpr h9) k4 (by omega), k1, k2, x7, x8, D⟩⟩
    · rw [if_neg h9]
      obtain ⟨m1, f1, h⟩ := p_Lline B K (fun q => h9 (hz.mp q)) D
      rw [f1, p_bv]
      rcases h with ⟨c1, tok1, q1, q2, q3, q4⟩ | ⟨cF, q1, q2⟩
      · obtain ⟨m', f2, h2⟩ := ih c1 m1 tok1 q3 q4 (by omega)
        refine ⟨m', f2, ?_⟩
        rcases h2 with ⟨c2, u1, u2⟩ | ⟨cF, u1, u2⟩
        · exact Or.inl ⟨c2, by rw [q1]; exact u1, u2⟩
        · exact Or.inr ⟨cF, by rw [q1]; exact u1, u2⟩
      · obtain ⟨f', rfl⟩ : ∃ f', f = f' + 1 := ⟨f - 1, by omega⟩
        refine ⟨m1, ?_, Or.inr ⟨cF, q1, q2⟩⟩
        show fX7_text_b30 (fX7_text_b30_L f') m1 = _
        unfold fX7_text_b30
        rw [if_neg (q_brk q2.2.2.1).1]
