/-! PURE: rule, above, most -/
theorem p_cmC {c : Sg} {N : Nat} (hN : N ≤ 96) (e : c 6 1 = nI N) : ∀ (f i : Nat), i ≤ N → N - i < f → fX1_countMissing_6_b4_L f c (nI (r_cn (fun j => decide (c 7 j = 100000000)) i)) (nI i) = some (nI (r_cn (fun j => decide (c 7 j = 100000000)) N), c) := by
  intro f
  induction f with
  | zero => intro i _ h; omega
  | succ f ih =>
    intro i hi hf
    show fX1_countMissing_6_b4 (fX1_countMissing_6_b4_L f) c _ (nI i) = _
    unfold fX1_countMissing_6_b4 fX1_countMissing_6_b26
    by_cases x : N ≤ i
    · rw [if_pos (by rw [e, nI_leI (by omega) (by omega)]; exact x), show i = N by omega]
    · rw [if_neg (by rw [e, nI_leI (by omega) (by omega)]; exact x), p_gd (p_inN (by omega) (by omega)), nI_clamp (by omega)]
      have := ih (i + 1) (by omega) (by omega)
      rw [r_cn_s] at this
      by_cases y : c 7 i = 100000000
      · rw [if_pos y, p_lt, p_lt, nI_1, nI_1]
        rw [if_pos (decide_eq_true y)] at this
        exact this
      · rw [if_neg y, p_lt, nI_1]
        rw [if_neg (fun z => y (of_decide_eq_true z))] at this
        exact this
theorem p_cmM {m : Sg} {N : Nat} (hN : N ≤ 96) (e : m 1 102 = nI N) : ∀ (f i : Nat), i ≤ N → N - i < f → fX7_missing_b4_L f m (nI (r_cn (fun j => decide (m 1 j = 100000000)) i)) (nI i) = some (nI (r_cn (fun j => decide (m 1 j = 100000000)) N), m) := by
  intro f
  induction f with
  | zero => intro i _ h; omega
  | succ f ih =>
    intro i hi hf
    show fX7_missing_b4 (fX7_missing_b4_L f) m _ (nI i) = _
    unfold fX7_missing_b4 fX7_missing_b29 fX7_many
    rw [p_bi]
    by_cases x : N ≤ i
    · rw [if_pos (by rw [e, nI_leI (by omega) (by omega)]; exact x), show i = N by omega]
    · rw [if_neg (by rw [e, nI_leI (by omega) (by omega)]; exact x), p_gd (p_inN (by omega) (by omega)), nI_clamp (by omega)]
      have := ih (i + 1) (by omega) (by omega)
      have n0 : nI (r_cn (fun j => decide (m 1 j = 100000000)) i) + 0 = nI (r_cn (fun j => decide (m 1 j = 100000000)) i + 0) := nI_add _ 0
      rw [r_cn_s] at this
      by_cases y : m 1 i = 100000000
      · rw [if_pos y, p_lt, p_lt, nI_1, nI_1]
        rw [if_pos (decide_eq_true y)] at this
        exact this
      · rw [if_neg y, p_lt, p_lt, n0, nI_1]
        rw [if_neg (fun z => y (of_decide_eq_true z))] at this
        exact this
theorem q_a0 (x : Int32) : x + 0 = x := by simp
theorem p_crL {N W E P Q U F : Nat} : ∀ (f t : Nat) (c m : Sg) (x : Int32) (k : Nat), r_bs c m N W E P Q U F → t ≤ N → N - t < f → r_hc c (m 1) (t - W) (t - (t - W)) k → ∃ r c' m', fX6_countResults_b11_L f c x (nI t) = some (r, c') ∧ fX7_results_b4_L f m x (nI t) = some (r, m') ∧ r_cs c c' ∧ r_ms m m' := by
  intro f
  induction f with
  | zero => intro t c m x k _ _ h; omega
  | succ f ih =>
    intro t c m x k b ht hf h
    obtain ⟨⟨b1, -⟩, ⟨d1, -⟩, ⟨g1, -⟩, -⟩ := id b
    show ∃ r c' m', fX6_countResults_b11 (fX6_countResults_b11_L f) c x (nI t) = some (r, c') ∧ fX7_results_b4 (fX7_results_b4_L f) m x (nI t) = some (r, m') ∧ _
    unfold fX6_countResults_b11 fX6_countResults_b43 fX7_results_b4 fX7_results_b26 fX7_many
    rw [p_bi, d1, g1]
    by_cases y : N ≤ t
    · rw [if_pos (nI_le y (by omega)), if_pos (nI_le y (by omega))]
      exact ⟨x, c, m, rfl, rfl, r_cs_r c, r_ms_r m⟩
    · rw [if_neg (nI_ge (by omega) (by omega)), if_neg (nI_ge (by omega) (by omega))]
      obtain ⟨c1, k1, f1, s1, h1⟩ := p_slide b (show t < N by omega) h
      have b' := r_bs_s b s1 (r_ms_r m)
      obtain ⟨m1, f2, s2, hp, -⟩ := p_res b' (show t < N by omega) h1
      have b2 := r_bs_s b s1 s2
      rw [f1, p_bv, p_hasR b' hp.2.1 hp.1, p_bi, f2, p_bi]
      by_cases z : 0 < k1 ∧ E ≤ k1
      · rw [if_pos z, if_neg q10, if_neg q10, p_lt, p_lt, p_lt, p_lt, nI_1]
        obtain ⟨r, c', m', a1, a2, a3, a4⟩ := ih (t + 1) c1 m1 (x + 1) k1 b2 (by omega) (by omega) (by rw [r_ms_1 s2]; exact h1)
        exact ⟨r, c', m', a1, a2, r_cs_t s1 a3, r_ms_t s2 a4⟩
      · rw [if_neg z, if_pos rfl, if_pos rfl, p_lt, p_lt, p_lt, nI_1, q_a0]
        obtain ⟨r, c', m', a1, a2, a3, a4⟩ := ih (t + 1) c1 m1 x k1 b2 (by omega) (by omega) (by rw [r_ms_1 s2]; exact h1)
        exact ⟨r, c', m', a1, a2, r_cs_t s1 a3, r_ms_t s2 a4⟩
theorem r_hc_0 (c : Sg) (u : Nat → Int32) (W : Nat) : r_hc (s_up c 8 2 0) u (0 - W) (0 - (0 - W)) 0 := by
  rw [show 0 - W = 0 by omega]
  exact ⟨rfl, r_is_0 _ _ _⟩
theorem z_rule : s_pure_rule Rel := by
  intro c m h a1
  have hst := rel_st h
  have hon := r_st_1 h.2.2.2.2.2.2
  obtain ⟨N, W, E, P, Q, U, F, b⟩ := r_bs_of hst hon
  obtain ⟨⟨b1, -⟩, ⟨d1, d2, d3, d4, d5, d6, d7⟩, ⟨g1, g2, g3, g4, g5, g6, g7⟩, hu, -⟩ := id b
  have hM : fX7_rule m a1 = (if a1 = 0 then some (nI N, r_st m) else if a1 = 1 then s_bi (fX7_missing (r_st m)) (fun r10 σ8 => some (r10, σ8)) else if a1 = 8 then s_bi (fX7_results (r_st m)) (fun r14 σ12 => some (r14, σ12)) else s_bi (fX7_in (r_st m) (Int32.toInt64 a1) 2 7) (fun r17 σ15 => (if r17 = 0 then (some ((-1 : Int32), σ15)) else (s_gd (s_in ((94 : Int32) + a1) 515) (some ((σ15 1 (Int32.toNatClampNeg ((94 : Int32) + a1))), σ15)))))) := by
    unfold fX7_rule fX7_many
    rw [p_starts, p_bv, p_bi, g1]
  rw [hM]
  unfold fX6_rule
  by_cases x0 : a1 = 0
  · rw [if_pos x0, if_pos x0, d1]; exact ⟨_, _, _, rfl, rfl, hst⟩
  rw [if_neg x0, if_neg x0]
  by_cases x1 : a1 = 1
  · have hC : fX1_countMissing_6 c = some (nI (r_cn (fun j => decide (c 7 j = 100000000)) N), c) := p_cmC b1 d1 s_fu 0 (by omega) (by rw [s_fu_e]; omega)
    have hN : fX7_missing (r_st m) = some (nI (r_cn (fun j => decide (r_st m 1 j = 100000000)) N), r_st m) := p_cmM b1 g1 s_fu 0 (by omega) (by rw [s_fu_e]; omega)
    rw [if_pos x1, if_pos x1, hC, hN, p_bi, p_bi, r_cn_eq (Q := fun j => decide (r_st m 1 j = 100000000)) N (fun j hj => by rw [(hu j hj).1])]
    exact ⟨_, _, _, rfl, rfl, hst⟩
  rw [if_neg x1, if_neg x1]
  by_cases x8 : a1 = 8
  · have s0 : r_cs c (s_up c 8 2 0) := r_cs_up _ _ (by omega)
    obtain ⟨r, c', m', e1, e2, e3, e4⟩ := p_crL s_fu 0 (s_up c 8 2 0) (r_st m) 0 0 (r_bs_s b s0 (r_ms_r _)) (by omega) (by rw [s_fu_e]; omega) (r_hc_0 c _ W)
    have hC : fX6_countResults c = some (r, c') := by
      unfold fX6_countResults fX0_clear
      rw [p_lt, p_bv]; exact e1
    have hN : fX7_results (r_st m) = some (r, m') := e2
    rw [if_pos x8, hN, p_bi]
    subst x8
    rw [if_neg (by decide), if_neg (by decide), if_neg (by decide), if_neg (by decide), if_neg (by decide), if_neg (by decide), if_pos rfl, hC, p_bi]
    exact ⟨_, _, _, rfl, rfl, r_scr hst (r_cs_t s0 e3) e4⟩
  rw [if_neg x8, if_neg x8]
  by_cases hw : 2 ≤ a1.toInt ∧ a1.toInt ≤ 7
  · rw [p_yes (by rw [p_t64]; exact hw), p_bi, if_neg q10]
    obtain ⟨j, _, rfl, ej⟩ := q_nat (x := a1) (by omega)
    have e94 : (94 : Int32) + nI j = nI (94 + j) := nI_add 94 j
    rw [e94, p_gd (p_inN (by omega) (by omega)), nI_clamp (by omega)]
    rcases (show j = 2 ∨ j = 3 ∨ j = 4 ∨ j = 5 ∨ j = 6 ∨ j = 7 by omega) with rfl | rfl | rfl | rfl | rfl | rfl
    · exact ⟨nI W, c, r_st m, by rw [if_pos (by decide), d2], by rw [g2], hst⟩
    · exact ⟨nI E, c, r_st m, by rw [if_neg (by decide), if_pos (by decide), d3], by rw [g3], hst⟩
    · exact ⟨nI P, c, r_st m, by rw [if_neg (by decide), if_neg (by decide), if_pos (by decide), d4], by rw [g4], hst⟩
    · exact ⟨nI Q, c, r_st m, by rw [if_neg (by decide), if_neg (by decide), if_neg (by decide), if_pos (by decide), d5], by rw [g5], hst⟩
    · exact ⟨nI U, c, r_st m, by rw [if_neg (by decide), if_neg (by decide), if_neg (by decide), if_neg (by decide), if_pos (by decide), d6], by rw [g6], hst⟩
    · exact ⟨nI F, c, r_st m, by rw [if_neg (by decide), if_neg (by decide), if_neg (by decide), if_neg (by decide), if_neg (by decide), if_pos (by decide), d7], by rw [g7], hst⟩
  · rw [p_no (by rw [p_t64]; exact hw), p_bi, if_pos rfl]
    have hne : ∀ j : Nat, 2 ≤ j → j ≤ 7 → ¬ a1 = nI j := fun j h2 h7 z => hw (by rw [z, nI_toInt (by omega)]; omega)
    rw [if_neg (show ¬ a1 = 2 from hne 2 (by omega) (by omega)), if_neg (show ¬ a1 = 3 from hne 3 (by omega) (by omega)), if_neg (show ¬ a1 = 4 from hne 4 (by omega) (by omega)), if_neg (show ¬ a1 = 5 from hne 5 (by omega) (by omega)), if_neg (show ¬ a1 = 6 from hne 6 (by omega) (by omega)), if_neg (show ¬ a1 = 7 from hne 7 (by omega) (by omega))]
    exact ⟨_, _, _, rfl, rfl, hst⟩
/-! above -/
theorem p_abL {N W E P Q U F : Nat} {x1 x2 : Int32} : ∀ (f t : Nat) (c m : Sg) (x3 : Nat) (x4 x5 : Int32) (x6 x7 : Nat) (k : Nat), r_bs c m N W E P Q U F → t ≤ N → N - t < f → x3 ≤ t → x6 ≤ t → x7 ≤ t → (x3 = 0 ↔ x4 = -4) → r_hc c (m 1) (t - W) (t - (t - W)) k → ∃ r c' m', fX6_above_b37_L f c x1 x2 (nI x3) x4 x5 (nI x6) (nI x7) (nI t) = some (r, c') ∧ fX7_above_b37_L f m x1 x2 (nI x3) x4 x5 (nI x6) (nI x7) (nI t) = some (r, m') ∧ r_cs c c' ∧ r_ms m m' := by
  intro f
  induction f with
  | zero => intro t c m x3 x4 x5 x6 x7 k _ _ h; omega
  | succ f ih =>
    intro t c m x3 x4 x5 x6 x7 k b ht hf h3 h6 h7 h4 h
    obtain ⟨⟨b1, -⟩, ⟨d1, -⟩, ⟨g1, -⟩, -⟩ := id b
    show ∃ r c' m', fX6_above_b37 (fX6_above_b37_L f) c x1 x2 (nI x3) x4 x5 (nI x6) (nI x7) (nI t) = some (r, c') ∧ fX7_above_b37 (fX7_above_b37_L f) m x1 x2 (nI x3) x4 x5 (nI x6) (nI x7) (nI t) = some (r, m') ∧ _
    unfold fX6_above_b37 fX7_above_b37 fX7_many
    rw [p_bi, d1, g1]
    by_cases y : N ≤ t
    · rw [if_pos (nI_le y (by omega)), if_pos (nI_le y (by omega))]
      by_cases z0 : x2 = 0
      · rw [if_pos z0, if_pos z0]; exact ⟨_, c, m, rfl, rfl, r_cs_r c, r_ms_r m⟩
      · rw [if_neg z0, if_neg z0]
        by_cases z1 : x2 = 1
        · rw [if_pos z1, if_pos z1]; exact ⟨_, c, m, rfl, rfl, r_cs_r c, r_ms_r m⟩
        · rw [if_neg z1, if_neg z1]
          by_cases z2 : x2 = 2
          · rw [if_pos z2, if_pos z2]; exact ⟨_, c, m, rfl, rfl, r_cs_r c, r_ms_r m⟩
          · rw [if_neg z2, if_neg z2]; exact ⟨_, c, m, rfl, rfl, r_cs_r c, r_ms_r m⟩
    · rw [if_neg (nI_ge (by omega) (by omega)), if_neg (nI_ge (by omega) (by omega))]
      obtain ⟨c1, k1, f1, s1, h1⟩ := p_slide b (show t < N by omega) h
      have b' := r_bs_s b s1 (r_ms_r m)
      obtain ⟨m1, f2, s2, hp, hv⟩ := p_res b' (show t < N by omega) h1
      have b2 := r_bs_s b s1 s2
      have hk := hp.1
      have e8 := hp.2.1
      have h1' : r_hc c1 (m1 1) (t + 1 - W) (t + 1 - (t + 1 - W)) k1 := by rw [r_ms_1 s2]; exact h1
      rw [f1, p_bv, f2, p_bi]
      have n0 : nI x3 + 0 = nI x3 := q_a0 _
      -- not above
      have no : ∀ (A : Option (Int32 × Sg)), A = fX6_above_b107 (fX6_above_b37_L f) c1 x1 x2 (nI x3) x4 x5 0 (nI x7) (nI t) → ∃ r c' m', A = some (r, c') ∧ fX7_above_b76 (fX7_above_b37_L f) m1 x1 x2 (nI x3) x4 x5 (nI x6) (nI x7) (nI t) = some (r, m') ∧ r_cs c c' ∧ r_ms m m' := by
        intro A hA
        unfold fX6_above_b107 at hA
        rw [p_lt, nI_1] at hA
        unfold fX7_above_b76 fX7_above_b77 fX7_above_b92 fX7_above_b108 fX7_above_b121 fX7_above_b140 fX7_above_b142 fX7_above_b156
        rw [if_pos rfl, if_pos (nI_pos' (by omega)), if_pos rfl, p_lt, if_pos rfl, if_pos rfl, p_lt, n0, nI_1]
        obtain ⟨r, c', m', a1, a2, a3, a4⟩ := ih (t + 1) c1 m1 x3 x4 x5 0 x7 k1 b2 (by omega) (by omega) (by omega) (by omega) (by omega) h4 h1'
        exact ⟨r, c', m', by rw [hA]; exact a1, a2, r_cs_t s1 a3, r_ms_t s2 a4⟩
      by_cases z : 0 < k1 ∧ E ≤ k1
      · obtain ⟨v1, v2, v3, v4⟩ := hv z
        have hA : fX0_isAbove c1 x1 = some (if lg_cmp (Int32.toInt64 (r_ov (c1 9) k1 P Q U)) (Int32.toInt64 x1 * Int32.toInt64 (nI (r_dn Q U))) ≤ 0 then 0 else 1, c1) := by
          unfold fX0_isAbove fX0_isAbove_b28
          rw [p_hasR b' e8 hk, if_pos z, p_bi, if_neg q10, p_num b' e8 z.1 hk, p_bi, p_den b', p_bi]
          by_cases w : lg_cmp (Int32.toInt64 (r_ov (c1 9) k1 P Q U)) (Int32.toInt64 x1 * Int32.toInt64 (nI (r_dn Q U))) ≤ 0
          · rw [if_pos w, if_pos w]
          · rw [if_neg w, if_neg w]
        rw [hA, p_bi, if_pos z, if_neg q10, v3, v4]
        by_cases w : lg_cmp (Int32.toInt64 (r_ov (c1 9) k1 P Q U)) (Int32.toInt64 x1 * Int32.toInt64 (nI (r_dn Q U))) ≤ 0
        · rw [if_pos w, if_pos w]
          exact no _ (if_pos rfl)
        · rw [if_neg w, if_neg w, if_neg q10]
          have hmx : ∀ a b : Int32, s_max a b = if b ≤ a then a else b := fun a b => by
            unfold s_max
            by_cases q : b ≤ a
            · rw [if_pos q, if_neg (by rw [q_i]; rw [q_l] at q; omega)]
            · rw [if_neg q, if_pos (by rw [q_i]; rw [q_l] at q; omega)]
          have hmn : (if nI (x6 + 1) ≤ nI x7 then nI x7 else nI (x6 + 1)) = nI (max x7 (x6 + 1)) := by
            by_cases q : x6 + 1 ≤ x7
            · rw [if_pos (nI_le q (by omega)), show max x7 (x6 + 1) = x7 by omega]
            · rw [if_neg (nI_ge (by omega) (by omega)), show max x7 (x6 + 1) = x6 + 1 by omega]
          have tn : ¬ nI t = -4 := fun q => by
            rw [q_e, nI_toInt (by omega)] at q
            have : (-4 : Int32).toInt = -4 := rfl
            omega
          have hM : ∀ y : Int32, (x4 = -4 → y = nI t) → (¬ x4 = -4 → y = x4) → fX7_above_b77 (fX7_above_b37_L f) m1 x1 x2 (nI x3) x4 x5 (nI x6) (nI x7) (nI t) 1 = fX7_above_b37_L f m1 x1 x2 (nI (x3 + 1)) y (nI t) (nI (x6 + 1)) (nI (max x7 (x6 + 1))) (nI (t + 1)) := by
            intro y hy1 hy2
            unfold fX7_above_b77 fX7_above_b92 fX7_above_b108 fX7_above_b121 fX7_above_b140 fX7_above_b142 fX7_above_b156
            rw [if_neg q10, if_neg q10, if_neg q10, nI_1, ← hmn]
            by_cases q : nI (x6 + 1) ≤ nI x7
            · rw [if_pos q, if_pos q, p_lt, if_neg q10, if_neg q10, if_neg q10, p_lt, nI_1, nI_1]
              by_cases q4 : x4 = -4
              · rw [if_pos q4, hy1 q4]
              · rw [if_neg q4, p_lt, hy2 q4]
            · rw [if_neg q, if_neg q, p_lt, if_neg q10, if_neg q10, if_neg q10, p_lt, nI_1, nI_1]
              by_cases q4 : x4 = -4
              · rw [if_pos q4, hy1 q4]
              · rw [if_neg q4, p_lt, hy2 q4]
          have hC : ∀ y : Int32, fX6_above_b80 (fX6_above_b37_L f) c1 x1 x2 (nI x3) (nI x6) (nI x7) (nI t) y = fX6_above_b37_L f c1 x1 x2 (nI (x3 + 1)) y (nI t) (nI (x6 + 1)) (nI (max x7 (x6 + 1))) (nI (t + 1)) := fun y => by
            unfold fX6_above_b80 fX6_above_b107
            rw [p_lt, p_lt, p_lt, p_lt, nI_1, nI_1, nI_1, hmx, hmn]
          by_cases q3 : x3 = 0
          · rw [if_pos (show nI x3 = 0 by rw [q3]; rfl), hC, hM (nI t) (fun _ => rfl) (fun q => absurd (h4.mp q3) q)]
            obtain ⟨r, c', m', a1, a2, a3, a4⟩ := ih (t + 1) c1 m1 (x3 + 1) (nI t) (nI t) (x6 + 1) (max x7 (x6 + 1)) k1 b2 (by omega) (by omega) (by omega) (by omega) (by omega) ⟨fun q => by omega, fun q => absurd q tn⟩ h1'
            exact ⟨r, c', m', a1, a2, r_cs_t s1 a3, r_ms_t s2 a4⟩
          · rw [if_neg (nI_ne0 (by omega) (by omega)), hC, hM x4 (fun q => absurd (h4.mpr q) q3) (fun _ => rfl)]
            obtain ⟨r, c', m', a1, a2, a3, a4⟩ := ih (t + 1) c1 m1 (x3 + 1) x4 (nI t) (x6 + 1) (max x7 (x6 + 1)) k1 b2 (by omega) (by omega) (by omega) (by omega) (by omega) ⟨fun q => by omega, fun q => absurd (h4.mpr q) q3⟩ h1'
            exact ⟨r, c', m', a1, a2, r_cs_t s1 a3, r_ms_t s2 a4⟩
      · have hA : fX0_isAbove c1 x1 = some (0, c1) := by
          unfold fX0_isAbove fX0_isAbove_b28
          rw [p_hasR b' e8 hk, if_neg z, p_bi, if_pos rfl]
        rw [hA, p_bi, if_neg z]
        have := no _ rfl
        rw [if_pos rfl, if_pos rfl]
        exact this
theorem z_above : s_pure_above Rel := by
  intro c m h a1 a2
  have hst := rel_st h
  have hon := r_st_1 h.2.2.2.2.2.2
  obtain ⟨N, W, E, P, Q, U, F, b⟩ := r_bs_of hst hon
  have b1 := b.1.1
  have w0 : (0 : Int32).toInt = 0 := rfl
  have w3 : (3 : Int32).toInt = 3 := rfl
  by_cases hw : 0 ≤ a2.toInt ∧ a2.toInt ≤ 3
  · have s0 : r_cs c (s_up c 8 2 0) := r_cs_up _ _ (by omega)
    obtain ⟨r, c', m', e1, e2, e3, e4⟩ := p_abL (x1 := a1) (x2 := a2) s_fu 0 (s_up c 8 2 0) (r_st m) 0 (-4) (-4) 0 0 0 (r_bs_s b s0 (r_ms_r _)) (by omega) (by rw [s_fu_e]; omega) (by omega) (by omega) (by omega) (by decide) (r_hc_0 c _ W)
    refine ⟨r, c', m', ?_, ?_, r_scr hst (r_cs_t s0 e3) e4⟩
    · unfold fX6_above fX0_clear
      rw [if_neg (by rw [q_i, w0]; omega), if_pos (by rw [q_l, w3]; omega), p_lt, p_bv]; exact e1
    · unfold fX7_above
      rw [p_starts, p_bv, p_yes (by rw [p_t64]; exact hw), p_bi, if_neg q10]; exact e2
  · refine ⟨-1, c, r_st m, ?_, ?_, hst⟩
    · unfold fX6_above fX6_above_b9
      by_cases y : a2 < 0
      · rw [if_pos y]
      · rw [if_neg y, if_neg (by rw [q_l, w3]; rw [q_i, w0] at y; omega)]
    · unfold fX7_above
      rw [p_starts, p_bv, p_no (by rw [p_t64]; exact hw), p_bi, if_pos rfl]
/-! most -/
theorem p_moL {N W E P Q U F : Nat} {x1 : Int32} : ∀ (f t : Nat) (c m : Sg) (x2 x3 : Int32) (k : Nat), r_bs c m N W E P Q U F → t ≤ N → N - t < f → r_hc c (m 1) (t - W) (t - (t - W)) k → ∃ r c' m', fX6_most_b26_L f c x1 x2 x3 (nI t) = some (r, c') ∧ fX7_most_b24_L f m x1 x2 x3 (nI t) = some (r, m') ∧ r_cs c c' ∧ r_ms m m' := by
  intro f
  induction f with
  | zero => intro t c m x2 x3 k _ _ h; omega
  | succ f ih =>
    intro t c m x2 x3 k b ht hf h
    obtain ⟨⟨b1, -⟩, ⟨d1, -⟩, ⟨g1, -⟩, -⟩ := id b
    show ∃ r c' m', fX6_most_b26 (fX6_most_b26_L f) c x1 x2 x3 (nI t) = some (r, c') ∧ fX7_most_b24 (fX7_most_b24_L f) m x1 x2 x3 (nI t) = some (r, m') ∧ _
    unfold fX6_most_b26 fX7_most_b24 fX7_many
    rw [p_bi, d1, g1]
    by_cases y : N ≤ t
    · rw [if_pos (nI_le y (by omega)), if_pos (nI_le y (by omega))]
      exact ⟨_, c, m, rfl, rfl, r_cs_r c, r_ms_r m⟩
    · rw [if_neg (nI_ge (by omega) (by omega)), if_neg (nI_ge (by omega) (by omega))]
      obtain ⟨c1, k1, f1, s1, h1⟩ := p_slide b (show t < N by omega) h
      have b' := r_bs_s b s1 (r_ms_r m)
      obtain ⟨m1, f2, s2, hp, hv⟩ := p_res b' (show t < N by omega) h1
      have b2 := r_bs_s b s1 s2
      have hk := hp.1
      have e8 := hp.2.1
      have h1' : r_hc c1 (m1 1) (t + 1 - W) (t + 1 - (t + 1 - W)) k1 := by rw [r_ms_1 s2]; exact h1
      have go : ∀ y2 y3 : Int32, ∃ r c' m', fX6_most_b26_L f c1 x1 y2 y3 (nI (t + 1)) = some (r, c') ∧ fX7_most_b24_L f m1 x1 y2 y3 (nI (t + 1)) = some (r, m') ∧ r_cs c c' ∧ r_ms m m' := fun y2 y3 => by
        obtain ⟨r, c', m', a1, a2, a3, a4⟩ := ih (t + 1) c1 m1 y2 y3 k1 b2 (by omega) (by omega) h1'
        exact ⟨r, c', m', a1, a2, r_cs_t s1 a3, r_ms_t s2 a4⟩
      rw [f1, p_bv, f2, p_bi, p_hasR b' e8 hk, p_bi]
      by_cases z : 0 < k1 ∧ E ≤ k1
      · obtain ⟨v1, v2, v3, v4⟩ := hv z
        rw [if_pos z, if_neg q10, if_neg q10, p_num b' e8 z.1 hk, p_bi, v3]
        generalize hov : r_ov (c1 9) k1 P Q U = ov at *
        have hy : fX7_most_b71 (fX7_most_b24_L f) m1 x1 x2 x3 (nI t) = fX7_most_b24_L f m1 x1 (nI t) ov (nI (t + 1)) := by
          unfold fX7_most_b71 fX7_most_b76 fX7_most_b89 fX7_most_b103 fX7_most_b104
          rw [if_neg q10, if_neg q10, p_lt, nI_1, v3]
        have hn : fX7_most_b75 (fX7_most_b24_L f) m1 x1 x2 x3 (nI t) = fX7_most_b24_L f m1 x1 x2 x3 (nI (t + 1)) := by
          unfold fX7_most_b75 fX7_most_b76 fX7_most_b89 fX7_most_b103 fX7_most_b104
          rw [if_pos rfl, if_pos rfl, p_lt, nI_1]
        have cy : ∀ y0 : Int32, (x2 = -4 ∨ ¬ y0 = 0) → fX6_most_b95 (fX6_most_b26_L f) c1 x1 x2 x3 (nI t) ov y0 = fX6_most_b26_L f c1 x1 (nI t) ov (nI (t + 1)) := fun y0 q => by
          unfold fX6_most_b95 fX6_most_b108 fX6_most_b114
          by_cases q4 : x2 = -4
          · rw [if_pos q4, p_lt, nI_1]
          · rw [if_neg q4, if_neg (q.resolve_left q4), p_lt, nI_1]
        have cn : ¬ x2 = -4 → fX6_most_b95 (fX6_most_b26_L f) c1 x1 x2 x3 (nI t) ov 0 = fX6_most_b26_L f c1 x1 x2 x3 (nI (t + 1)) := fun q => by
          unfold fX6_most_b95 fX6_most_b114
          rw [if_neg q, if_pos rfl, p_lt, nI_1]
        rw [hy, hn]
        by_cases q4 : x2 = -4
        · rw [if_pos q4, cy 0 (Or.inl q4), cy 1 (Or.inl q4), ite_self, ite_self, ite_self]
          exact go _ _
        · rw [if_neg q4, cn q4, cy 1 (Or.inr q10)]
          by_cases q1 : x1 = 0
          · rw [if_pos q1, if_pos q1]
            by_cases q5 : x3 ≤ ov
            · rw [if_pos q5, if_pos q5]; exact go _ _
            · rw [if_neg q5, if_neg q5]; exact go _ _
          · rw [if_neg q1, if_neg q1]
            by_cases q5 : ov ≤ x3
            · rw [if_pos q5, if_pos q5]; exact go _ _
            · rw [if_neg q5, if_neg q5]; exact go _ _
      · rw [if_neg z, if_pos rfl, if_pos rfl]
        unfold fX6_most_b114 fX7_most_b104
        rw [p_lt, p_lt, nI_1]
        exact go _ _
theorem z_most : s_pure_most Rel := by
  intro c m h a1
  have hst := rel_st h
  have hon := r_st_1 h.2.2.2.2.2.2
  obtain ⟨N, W, E, P, Q, U, F, b⟩ := r_bs_of hst hon
  have b1 := b.1.1
  have w0 : (0 : Int32).toInt = 0 := rfl
  have w1 : (1 : Int32).toInt = 1 := rfl
  by_cases hw : 0 ≤ a1.toInt ∧ a1.toInt ≤ 1
  · have s0 : r_cs c (s_up c 8 2 0) := r_cs_up _ _ (by omega)
    obtain ⟨r, c', m', e1, e2, e3, e4⟩ := p_moL (x1 := a1) s_fu 0 (s_up c 8 2 0) (r_st m) (-4) 0 0 (r_bs_s b s0 (r_ms_r _)) (by omega) (by rw [s_fu_e]; omega) (r_hc_0 c _ W)
    refine ⟨r, c', m', ?_, ?_, r_scr hst (r_cs_t s0 e3) e4⟩
    · unfold fX6_most fX0_clear
      rw [if_neg (by rw [q_i, w0]; omega), if_pos (by rw [q_l, w1]; omega), p_lt, p_bv]; exact e1
    · unfold fX7_most
      rw [p_starts, p_bv, p_yes (by rw [p_t64]; exact hw), p_bi, if_neg q10]; exact e2
  · refine ⟨-1, c, r_st m, ?_, ?_, hst⟩
    · unfold fX6_most fX6_most_b9
      by_cases y : a1 < 0
      · rw [if_pos y]
      · rw [if_neg y, if_neg (by rw [q_l, w1]; rw [q_i, w0] at y; omega)]
    · unfold fX7_most
      rw [p_starts, p_bv, p_no (by rw [p_t64]; exact hw), p_bi, if_pos rfl]
