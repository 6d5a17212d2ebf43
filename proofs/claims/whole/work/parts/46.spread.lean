/-! PURE: how far the others are off the middle -/
theorem p_puts6L (v : Int32) : ∀ (n k : Nat) (σ : Sg), k < 24 → k < n → fX7_puts_6_b2_L n σ v (nI k) = some (s_upr σ 6 (r_il v k (σ 6))) := by
  intro n
  induction n with
  | zero => intro k σ h1 h2; omega
  | succ n ih =>
    intro k σ h1 h2
    show fX7_puts_6_b2 (fX7_puts_6_b2_L n) σ v (nI k) = _
    have w0 : (0 : Int32).toInt = 0 := rfl
    have hN : (nI k).toInt = k := nI_toInt (by omega)
    have hb : ∀ τ : Sg, fX7_puts_6_b29 τ v (nI k) = some (s_upr τ 6 (upd (τ 6) k v)) := fun τ => by
      unfold fX7_puts_6_b29
      rw [p_gd (p_inN h1 (by omega)), p_lt, nI_clamp (by omega)]
      rfl
    unfold fX7_puts_6_b2
    cases k with
    | zero => rw [if_pos (by rw [q_l, hN, w0]; omega), hb]; rfl
    | succ k =>
      have e1 : nI (k + 1) - 1 = nI k := nI_pred k
      rw [if_neg (by rw [q_l, hN, w0]; omega), e1, p_gd (p_inN (by omega) (by omega)), nI_clamp (by omega)]
      show (if σ 6 k ≤ v then _ else _) = some (s_upr σ 6 (if σ 6 k ≤ v then upd (σ 6) (k + 1) v else r_il v k (upd (σ 6) (k + 1) (σ 6 k))))
      by_cases c : σ 6 k ≤ v
      · rw [if_pos c, if_pos c, hb]
      · rw [if_neg c, if_neg c, p_gd (p_inN (by omega) (by omega)), p_gd (p_inN h1 (by omega)), p_lt, p_lt, nI_clamp (by omega), pk_m1, ih k _ (by omega) (by omega)]
        have e : s_upr (s_up σ 6 (k + 1) (σ 6 k)) 6 (r_il v k (s_up σ 6 (k + 1) (σ 6 k) 6)) = s_upr σ 6 (r_il v k (upd (σ 6) (k + 1) (σ 6 k))) := by
          funext q
          rw [p_upr, p_upr]
          by_cases hq : q = 6
          · rw [if_pos hq, if_pos hq]; rfl
          · rw [if_neg hq, if_neg hq, p_up, if_neg hq]
        rw [e]
def r_df (g : Nat → Int32) (x : Int32) (j : Nat) : Nat := ((g j).toInt - x.toInt).natAbs
theorem p_off {m : Sg} {a b : Int32} (ha : -999999 ≤ a.toInt ∧ a.toInt ≤ 999999) (hb : -999999 ≤ b.toInt ∧ b.toInt ≤ 999999) : fX7_off m a b = some (nI (a.toInt - b.toInt).natAbs, m) := by
  unfold fX7_off
  by_cases x : b ≤ a
  · have e : a - b = nI (a.toInt - b.toInt).natAbs := by
      rw [q_l] at x
      rw [q_e, q_sub (by omega) (by omega), nI_toInt (by omega)]
      omega
    rw [if_pos x, e]
  · have e : b - a = nI (a.toInt - b.toInt).natAbs := by
      rw [q_l] at x
      rw [q_e, q_sub (by omega) (by omega), nI_toInt (by omega)]
      omega
    rw [if_neg x, e]
theorem p_soL {g : Nat → Int32} {x : Int32} {k : Nat} (h0 : 0 < k) (hk : k ≤ 24) (hb : ∀ j, j < k → -999999 ≤ (g j).toInt ∧ (g j).toInt ≤ 999999) (hx : -999999 ≤ x.toInt ∧ x.toInt ≤ 999999) : ∀ (f i : Nat) (m : Sg), m 0 15 = nI k → m 5 = g → i ≤ k → k - i < f → r_so (m 6) i → (∀ w : Int, r_le (m 6) i w = r_cn (fun j => decide ((r_df g x j : Int) ≤ w)) i) → ∃ m', fX7_spreadOf_b16_L f m x (nI i) = some (m' 6 ((k - 1) / 2), m') ∧ r_ms m m' ∧ m' 0 = m 0 ∧ m' 5 = m 5 ∧ r_so (m' 6) k ∧ (∀ w : Int, r_le (m' 6) k w = r_cn (fun j => decide ((r_df g x j : Int) ≤ w)) k) := by
  intro f
  induction f with
  | zero => intro i m _ _ _ h; omega
  | succ f ih =>
    intro i m e15 e5 hi hf hs hl
    show ∃ m', fX7_spreadOf_b16 (fX7_spreadOf_b16_L f) m x (nI i) = some (m' 6 ((k - 1) / 2), m') ∧ _
    unfold fX7_spreadOf_b16
    rw [e15]
    by_cases y : k ≤ i
    · have ei : i = k := by omega
      subst ei
      have e2 : (nI i - 1) / 2 = nI ((i - 1) / 2) := by rw [q_pred h0]; exact pk_div (d := 2) (by omega) (by omega) (by omega)
      refine ⟨m, ?_, r_ms_r m, rfl, rfl, hs, hl⟩
      rw [if_pos (nI_le y (by omega)), e2, p_gd (p_inN (by omega) (by omega)), nI_clamp (by omega)]
    · have hg := hb i (by omega)
      have hv : (nI ((g i).toInt - x.toInt).natAbs).toInt = (r_df g x i : Int) := nI_toInt (by omega)
      have hm : r_ms m (s_upr m 6 (r_il (nI ((g i).toInt - x.toInt).natAbs) i (m 6))) := r_ms_u _ (by omega)
      obtain ⟨m', a1, a2, a3, a4, a5, a6⟩ := ih (i + 1) (s_upr m 6 (r_il (nI ((g i).toInt - x.toInt).natAbs) i (m 6))) e15 e5 (by omega) (by omega) (r_il_so _ i _ hs) (fun w => by
        show r_le (r_il (nI ((g i).toInt - x.toInt).natAbs) i (m 6)) (i + 1) w = _
        rw [r_il_le, hl, r_cn_s, hv]
        by_cases z : (r_df g x i : Int) ≤ w
        · rw [if_pos z, if_pos (decide_eq_true z)]
        · rw [if_neg z, if_neg (fun q => z (of_decide_eq_true q))])
      refine ⟨m', ?_, r_ms_t hm a2, a3, a4, a5, a6⟩
      rw [if_neg (nI_ge (by omega) (by omega)), p_gd (p_inN (by omega) (by omega)), nI_clamp (by omega), e5, p_off hg hx, p_bi]
      unfold fX7_puts_6
      rw [p_puts6L _ s_fu i m (by omega) (by rw [s_fu_e]; omega), p_bv, p_lt, nI_1]
      exact a1
/-! the class goes out from the middle -/
def r_iv (g : Nat → Int32) (k M dn up d : Nat) : Prop := dn ≤ M ∧ M < up ∧ up ≤ k ∧ d ≤ 2000000 ∧ (∀ j, dn ≤ j → j < up → r_df g (g M) j ≤ d) ∧ (∀ j, j < k → (j < dn ∨ up ≤ j) → d ≤ r_df g (g M) j) ∧ ∃ j, dn ≤ j ∧ j < up ∧ r_df g (g M) j = d
theorem p_spL {c : Sg} {k M : Nat} (hk : k ≤ 24) (hM : M < k) (e : c 8 2 = nI k) (hs : r_so (c 9) k) (hb : ∀ j, j < k → -999999 ≤ (c 9 j).toInt ∧ (c 9 j).toInt ≤ 999999) : ∀ (f i dn up d : Nat), M - i < f → i ≤ M → up = dn + i + 1 → r_iv (c 9) k M dn up d → ∃ dn' up' d', fX0_spread_b23_L f c (nI M) (nI dn - 1) (nI up) (nI d) (nI i) = some (nI d', c) ∧ up' = dn' + M + 1 ∧ r_iv (c 9) k M dn' up' d' := by
  intro f
  induction f with
  | zero => intro i dn up d h; omega
  | succ f ih =>
    intro i dn up d hf hi hu hv
    show ∃ dn' up' d', fX0_spread_b23 (fX0_spread_b23_L f) c (nI M) (nI dn - 1) (nI up) (nI d) (nI i) = some (nI d', c) ∧ _
    by_cases y : M ≤ i
    · refine ⟨dn, up, d, ?_, by omega, hv⟩
      unfold fX0_spread_b23
      rw [if_pos (nI_le y (by omega))]
    · obtain ⟨v1, v2, v3, v4, v5, v6, j0, v7, v8, v9⟩ := hv
      have w0 : (0 : Int32).toInt = 0 := rfl
      have wm : (nI M).toInt = M := nI_toInt (by omega)
      have hbM := hb M hM
      -- what lies below, what above
      obtain ⟨bl, hbl1, hbl2, hbl3⟩ : ∃ bl : Nat, (dn = 0 → bl = 100000000) ∧ (0 < dn → bl = r_df (c 9) (c 9 M) (dn - 1) ∧ bl ≤ 2000000 ∧ (c 9 M).toInt - (c 9 (dn - 1)).toInt = bl) ∧ (fX0_spread_b23 (fX0_spread_b23_L f) c (nI M) (nI dn - 1) (nI up) (nI d) (nI i) = fX0_spread_b49 (fX0_spread_b23_L f) c (nI M) (nI dn - 1) (nI up) (nI i) (nI bl)) := by
        by_cases z : dn = 0
        · refine ⟨100000000, fun _ => rfl, fun q => by omega, ?_⟩
          unfold fX0_spread_b23
          rw [if_neg (nI_ge (by omega) (by omega)), if_pos (by rw [z]; decide)]
          rfl
        · have hg := hb (dn - 1) (by omega)
          have hso := hs (dn - 1) M (by omega) hM
          refine ⟨r_df (c 9) (c 9 M) (dn - 1), fun q => absurd q z, fun _ => ⟨rfl, by unfold r_df; omega, by unfold r_df; omega⟩, ?_⟩
          have e2 : c 9 M - c 9 (dn - 1) = nI (r_df (c 9) (c 9 M) (dn - 1)) := by
            unfold r_df
            rw [q_e, q_sub (by omega) (by omega), nI_toInt (by omega)]
            omega
          unfold fX0_spread_b23
          rw [if_neg (nI_ge (by omega) (by omega)), q_pred (by omega), if_neg (nI_pos (by omega)), p_at hk e hM, p_bi, p_at hk e (by omega), p_bi, e2]
      obtain ⟨ab, hab1, hab2, hab3⟩ : ∃ ab : Nat, (up = k → ab = 100000000) ∧ (up < k → ab = r_df (c 9) (c 9 M) up ∧ ab ≤ 2000000 ∧ (c 9 up).toInt - (c 9 M).toInt = ab) ∧ (fX0_spread_b49 (fX0_spread_b23_L f) c (nI M) (nI dn - 1) (nI up) (nI i) (nI bl) = fX0_spread_b75 (fX0_spread_b23_L f) c (nI M) (nI dn - 1) (nI up) (nI i) (nI bl) (nI ab)) := by
        by_cases z : up = k
        · refine ⟨100000000, fun _ => rfl, fun q => by omega, ?_⟩
          unfold fX0_spread_b49
          rw [if_pos (by rw [e, z]; exact nI_le (Nat.le_refl _) (by omega))]
          rfl
        · have hg := hb up (by omega)
          have hso := hs M up (by omega) (by omega)
          refine ⟨r_df (c 9) (c 9 M) up, fun q => absurd q z, fun _ => ⟨rfl, by unfold r_df; omega, by unfold r_df; omega⟩, ?_⟩
          have e2 : c 9 up - c 9 M = nI (r_df (c 9) (c 9 M) up) := by
            unfold r_df
            rw [q_e, q_sub (by omega) (by omega), nI_toInt (by omega)]
            omega
          unfold fX0_spread_b49
          rw [if_neg (by rw [e]; exact nI_ge (by omega) (by omega)), p_at hk e (by omega), p_bi, p_at hk e hM, p_bi, e2]
      rw [hbl3, hab3]
      unfold fX0_spread_b75 fX0_spread_b101
      have hbl9 : bl ≤ 100000000 := by
        by_cases z : dn = 0
        · rw [hbl1 z]; omega
        · have := (hbl2 (by omega)).2.1; omega
      have hab9 : ab ≤ 100000000 := by
        by_cases z : up = k
        · rw [hab1 z]; omega
        · have := (hab2 (by omega)).2.1; omega
      by_cases q : ab < bl
      · have hup : up < k := by
          by_cases z : up = k
          · have := hab1 z; omega
          · omega
        obtain ⟨a1, a2, a3⟩ := hab2 hup
        rw [if_pos (nI_lt q (by omega)), p_lt, p_lt, nI_1, nI_1]
        have hd := v6 up hup (Or.inr (Nat.le_refl _))
        refine ih (i + 1) dn (up + 1) ab (by omega) (by omega) (by omega) ⟨v1, by omega, by omega, a2, fun j h1 h2 => ?_, fun j h1 h2 => ?_, up, by omega, by omega, a1.symm⟩
        · by_cases z : j = up
          · rw [z]; omega
          · have := v5 j h1 (by omega); omega
        · rcases h2 with h2 | h2
          · obtain ⟨c1, c2, c3⟩ := hbl2 (by omega)
            have h3 := hs j (dn - 1) (by omega) (by omega)
            unfold r_df
            omega
          · have h3 := hs up j (by omega) h1
            unfold r_df
            omega
      · have hdn : 0 < dn := by
          by_cases z : dn = 0
          · have h3 := hbl1 z
            by_cases z2 : up = k
            · omega
            · have := (hab2 (by omega)).2.1; omega
          · omega
        obtain ⟨a1, a2, a3⟩ := hbl2 hdn
        have em : nI dn - 1 + -1 = nI (dn - 1) - 1 := by
          rw [q_pred hdn]
          exact (Int32.sub_eq_add_neg _ _).symm
        rw [if_neg (nI_nlt (by omega) (by omega)), p_lt, p_lt, nI_1, em]
        have hd := v6 (dn - 1) (by omega) (Or.inl (by omega))
        refine ih (i + 1) (dn - 1) up bl (by omega) (by omega) (by omega) ⟨by omega, by omega, by omega, a2, fun j h1 h2 => ?_, fun j h1 h2 => ?_, dn - 1, by omega, by omega, a1.symm⟩
        · by_cases z : j = dn - 1
          · rw [z]; omega
          · have := v5 j (by omega) h2; omega
        · rcases h2 with h2 | h2
          · have h3 := hs j (dn - 1) (by omega) (by omega)
            unfold r_df
            omega
          · obtain ⟨c1, c2, c3⟩ := hab2 (by omega)
            have h3 := hs up j (by omega) h1
            unfold r_df
            omega
theorem p_spread {c m : Sg} {k : Nat} (hp : r_pr c m k) (h0 : 0 < k) : ∃ d m', d ≤ 2000000 ∧ fX0_spread c = some (nI d, c) ∧ fX7_spreadOf m = some (nI d, m') ∧ r_ms m m' ∧ m' 0 = m 0 ∧ m' 5 = m 5 := by
  obtain ⟨hk, e8, e15, hj, hs, hb⟩ := hp
  have hM : (k - 1) / 2 < k := by omega
  have e2 : (nI k - 1) / 2 = nI ((k - 1) / 2) := by rw [q_pred h0]; exact pk_div (d := 2) (by omega) (by omega) (by omega)
  have hsc : r_so (c 9) k := r_so_eq (fun j h => (hj j h).symm) hs
  have hbc : ∀ j, j < k → -999999 ≤ (c 9 j).toInt ∧ (c 9 j).toInt ≤ 999999 := fun j h => by rw [hj j h]; exact hb j h
  obtain ⟨dn, up, d, f1, hu, v1, v2, v3, v4, v5, v6, j0, v7, v8, v9⟩ := p_spL hk hM e8 hsc hbc s_fu 0 ((k - 1) / 2) ((k - 1) / 2 + 1) 0 (by rw [s_fu_e]; omega) (by omega) (by omega) ⟨Nat.le_refl _, by omega, by omega, by omega, fun j h1 h2 => by rw [show j = (k - 1) / 2 by omega]; unfold r_df; omega, fun j _ _ => Nat.zero_le _, (k - 1) / 2, Nat.le_refl _, by omega, by unfold r_df; omega⟩
  obtain ⟨m', a1, a2, a3, a4, a5, a6⟩ := p_soL (g := m 5) (x := m 5 ((k - 1) / 2)) h0 hk hb (hb _ hM) s_fu 0 m e15 rfl (by omega) (by rw [s_fu_e]; omega) (fun i j h1 h2 => by omega) (fun w => rfl)
  have ed : ∀ j, j < k → r_df (m 5) (m 5 ((k - 1) / 2)) j = r_df (c 9) (c 9 ((k - 1) / 2)) j := fun j h => by unfold r_df; rw [hj j h, hj _ hM]
  have l1 : (m' 6 ((k - 1) / 2)).toInt ≤ (d : Int) := by
    rw [r_le_iff k a5 _ _ hM, a6]
    have h1 : r_cn (fun j => decide (dn ≤ j ∧ j < up)) k ≤ r_cn (fun j => decide ((r_df (m 5) (m 5 ((k - 1) / 2)) j : Int) ≤ (d : Int))) k := r_cn_mono k (fun j h z => by
      have z' := of_decide_eq_true z
      have := v5 j z'.1 z'.2
      exact decide_eq_true (by rw [ed j h]; omega))
    rw [r_cn_iv] at h1
    omega
  have l2 : ¬ (m' 6 ((k - 1) / 2)).toInt ≤ (d : Int) - 1 := by
    rw [r_le_iff k a5 _ _ hM, a6]
    have h1 : r_cn (fun j => decide ((r_df (m 5) (m 5 ((k - 1) / 2)) j : Int) ≤ (d : Int) - 1)) k ≤ r_cn (fun j => decide (dn ≤ j ∧ j < up) && !decide (j = j0)) k := r_cn_mono k (fun j h z => by
      have z' := of_decide_eq_true z
      rw [ed j h] at z'
      have h3 : dn ≤ j ∧ j < up := by
        by_cases q : dn ≤ j ∧ j < up
        · exact q
        · have := v6 j h (by omega); omega
      have h4 : j ≠ j0 := fun q => by rw [q] at z'; omega
      simp [h3, h4])
    have h2 := r_cn_pt (P := fun j => decide (dn ≤ j ∧ j < up)) (j0 := j0) k (by omega) (decide_eq_true ⟨v7, v8⟩)
    rw [r_cn_iv] at h2
    omega
  have er : m' 6 ((k - 1) / 2) = nI d := by rw [q_e, nI_toInt (by omega)]; omega
  refine ⟨d, m', v4, ?_, ?_, a2, a3, a4⟩
  · unfold fX0_spread
    rw [p_lt, p_lt, p_lt, e8, e2, nI_1]
    exact f1
  · unfold fX7_spreadOf
    rw [e15, e2, p_gd (p_inN (by omega) (by omega)), p_lt, nI_clamp (by omega), ← er]
    exact a1
theorem p_mid {c : Sg} {k : Nat} (hk : k ≤ 24) (h0 : 0 < k) (e : c 8 2 = nI k) : fX0_middleValue c = some (c 9 ((k - 1) / 2), c) := by
  have e2 : (nI k - 1) / 2 = nI ((k - 1) / 2) := by rw [q_pred h0]; exact pk_div (d := 2) (by omega) (by omega) (by omega)
  unfold fX0_middleValue
  rw [e, e2, p_at hk e (by omega), p_bi]
theorem z_middle : s_pure_middle Rel := by
  intro c m h a1 a2
  have hst := rel_st h
  have hon := r_st_1 h.2.2.2.2.2.2
  obtain ⟨N, W, E, P, Q, U, F, b⟩ := r_bs_of hst hon
  obtain ⟨⟨b1, -⟩, ⟨d1, -⟩, ⟨g1, -⟩, -⟩ := id b
  have w0 : (0 : Int32).toInt = 0 := rfl
  have w1 : (1 : Int32).toInt = 1 := rfl
  by_cases ht : 0 ≤ a1.toInt ∧ a1.toInt < N
  · by_cases hw : 0 ≤ a2.toInt ∧ a2.toInt ≤ 1
    · obtain ⟨t, _, rfl, et⟩ := q_nat ht.1
      obtain ⟨c1, m1, k, f1, f2, s1, s2, hp, -⟩ := p_pair b (show t < N by omega)
      obtain ⟨hk, e8, e15, hj, hs, hb⟩ := id hp
      have hR : Rel c1 m1 := r_scr hst s1 s2
      have hC : fX6_middle c (nI t) a2 = (if c1 8 2 = 0 then some (100000000, c1) else if a2 = 0 then s_bi (fX0_middleValue c1) (fun r16 σ14 => some (r16, σ14)) else s_bi (fX0_spread c1) (fun r13 σ11 => some (r13, σ11))) := by
        unfold fX6_middle
        rw [p_has b1 d1, if_pos ht, p_bi, if_neg q10, if_neg (by rw [q_i, w0]; omega), if_pos (by rw [q_l, w1]; omega), f1, p_bv]
      have hM : fX7_middle m (nI t) a2 = (if m1 0 15 = 0 then some (100000000, m1) else if a2 = 0 then s_gd (s_in ((m1 0 15 - 1) / 2) 24) (some (m1 5 (Int32.toNatClampNeg ((m1 0 15 - 1) / 2)), m1)) else s_bi (fX7_spreadOf m1) (fun r15 σ13 => some (r15, σ13))) := by
        unfold fX7_middle
        rw [p_there b1 g1, if_pos ht, p_bi, if_neg q10, p_yes (by rw [p_t64]; exact hw), p_bi, if_neg q10, f2, p_bv]
      rw [hC, hM, e8, e15]
      by_cases z : k = 0
      · rw [if_pos (by rw [z]; rfl), if_pos (by rw [z]; rfl)]; exact ⟨_, _, _, rfl, rfl, hR⟩
      · have hz : ¬ nI k = 0 := nI_ne0 (by omega) (by omega)
        rw [if_neg hz, if_neg hz]
        by_cases y : a2 = 0
        · have e2 : (nI k - 1) / 2 = nI ((k - 1) / 2) := by rw [q_pred (by omega)]; exact pk_div (d := 2) (by omega) (by omega) (by omega)
          rw [if_pos y, if_pos y, p_mid hk (by omega) e8, p_bi, e2, p_gd (p_inN (by omega) (by omega)), nI_clamp (by omega), hj _ (by omega)]
          exact ⟨_, _, _, rfl, rfl, hR⟩
        · obtain ⟨d, m2, _, f3, f4, s3, -, -⟩ := p_spread hp (by omega)
          rw [if_neg y, if_neg y, f3, f4, p_bi, p_bi]
          exact ⟨_, _, _, rfl, rfl, r_scr hR (r_cs_r _) s3⟩
    · refine ⟨100000000, c, r_st m, ?_, ?_, hst⟩
      · unfold fX6_middle fX6_middle_b20
        rw [p_has b1 d1, if_pos ht, p_bi, if_neg q10]
        by_cases y : a2 < 0
        · rw [if_pos y]
        · rw [if_neg y, if_neg (by rw [q_l, w1]; rw [q_i, w0] at y; omega)]
      · unfold fX7_middle fX7_middle_b18
        rw [p_there b1 g1, if_pos ht, p_bi, if_neg q10, p_no (by rw [p_t64]; exact hw), p_bi, if_pos rfl]
  · refine ⟨100000000, c, r_st m, ?_, ?_, hst⟩
    · unfold fX6_middle fX6_middle_b20
      rw [p_has b1 d1, if_neg ht, p_bi, if_pos rfl]
    · unfold fX7_middle fX7_middle_b18
      rw [p_there b1 g1, if_neg ht, p_bi, if_pos rfl]
/-! far -/
theorem p_far {c m : Sg} {N W E P Q U F t k q : Nat} (b : r_bs c m N W E P Q U F) (ht : t < N) (hq : q ≤ 20) (h : r_hc c (m 1) (t + 1 - W) (t + 1 - (t + 1 - W)) k) : ∃ r m', fX0_isFar c (m 1 t) (nI q) = some (r, c) ∧ fX7_isFar m (nI t) (nI q) = some (r, m') ∧ r_ms m m' ∧ (r = 0 ∨ r = 1) := by
  obtain ⟨m1, k', f1, s1, h1⟩ := p_rowOf b ht
  obtain ⟨⟨b1, b2, b3, -⟩, -, -, hu, -⟩ := b
  have hp := r_pr_of (by omega) h h1
  obtain ⟨hk, e8, e15, hj, hs, hb⟩ := id hp
  by_cases z : m 1 t = 100000000
  · refine ⟨0, m, ?_, ?_, r_ms_r m, Or.inl rfl⟩
    · unfold fX0_isFar fX0_isFar_b28
      rw [if_pos z]
    · unfold fX7_isFar
      rw [p_gd (p_inN (by omega) (by omega)), nI_clamp (by omega), if_pos z]
  · have hv := (hu t ht).2.resolve_left z
    have h0 : 0 < k := by
      have := r_is_n h.2
      rw [show t + 1 - (t + 1 - W) = (t - (t + 1 - W)) + 1 by omega, r_wl_s, show t + 1 - W + (t - (t + 1 - W)) = t by omega, if_pos ⟨z, hv.2⟩] at this
      omega
    obtain ⟨d, m2, hd, f3, f4, s3, -, -⟩ := p_spread hp h0
    have hM : (k - 1) / 2 < k := by omega
    have e2 : (nI k - 1) / 2 = nI ((k - 1) / 2) := by rw [q_pred h0]; exact pk_div (d := 2) (by omega) (by omega) (by omega)
    have hbM := hb _ hM
    have hqd : q * d ≤ 20 * 2000000 := Nat.mul_le_mul hq hd
    have eb : s_abs (m 1 t - m1 5 ((k - 1) / 2)) = nI ((m 1 t).toInt - (m1 5 ((k - 1) / 2)).toInt).natAbs := by
      have e3 : (m 1 t - m1 5 ((k - 1) / 2)).toInt = (m 1 t).toInt - (m1 5 ((k - 1) / 2)).toInt := q_sub (by omega) (by omega)
      rw [q_abs (by omega), e3]
    have hC : fX0_isFar c (m 1 t) (nI q) = some (if ((m 1 t).toInt - (m1 5 ((k - 1) / 2)).toInt).natAbs ≤ q * d then 0 else 1, c) := by
      unfold fX0_isFar fX0_isFar_b28
      rw [if_neg z, p_mid hk h0 e8, p_bi, hj _ hM, eb, p_lt, f3, p_bi, pk_mul]
      by_cases y : ((m 1 t).toInt - (m1 5 ((k - 1) / 2)).toInt).natAbs ≤ q * d
      · rw [if_pos (nI_le y (by omega)), if_pos y]
      · rw [if_neg (nI_ge (by omega) (by omega)), if_neg y]
    have hMM : fX7_isFar m (nI t) (nI q) = some (if ((m 1 t).toInt - (m1 5 ((k - 1) / 2)).toInt).natAbs ≤ q * d then 0 else 1, m2) := by
      unfold fX7_isFar
      rw [p_gd (p_inN (by omega) (by omega)), nI_clamp (by omega), if_neg z, f1, p_bv, e15, e2, p_gd (p_inN (by omega) (by omega)), p_lt, nI_clamp (by omega), p_gd (p_inN (by omega) (by omega)), r_ms_1 s1, p_off hv hbM, p_bi, f4, p_bi, nI_l (by omega), nI_l (by omega), nI_l (by omega), lN_mul]
      by_cases y : ((m 1 t).toInt - (m1 5 ((k - 1) / 2)).toInt).natAbs ≤ q * d
      · rw [if_pos (by rw [lg_cmp_le, pk_lLE (by omega) (by omega)]; exact y), if_pos y]
      · rw [if_neg (by rw [lg_cmp_le, pk_lLE (by omega) (by omega)]; exact y), if_neg y]
    refine ⟨_, m2, hC, hMM, r_ms_t s1 s3, ?_⟩
    by_cases y : ((m 1 t).toInt - (m1 5 ((k - 1) / 2)).toInt).natAbs ≤ q * d
    · rw [if_pos y]; exact Or.inl rfl
    · rw [if_neg y]; exact Or.inr rfl
theorem p_fac (c : Sg) (x : Int32) : fX6_isFactor c x = some (if 1 ≤ x.toInt ∧ x.toInt ≤ 20 then 1 else 0, c) := by
  have w1 : (1 : Int32).toInt = 1 := rfl
  have w2 : (20 : Int32).toInt = 20 := rfl
  unfold fX6_isFactor fX6_isFactor_b15
  by_cases a : x < 1
  · rw [if_pos a, if_neg (by rw [q_i, w1] at a; omega)]
  · rw [if_neg a]
    rw [q_i, w1] at a
    by_cases b : 20 < x
    · rw [if_pos b, if_neg (by rw [q_i, w2] at b; omega)]
    · rw [if_neg b, if_pos (by rw [q_i, w2] at b; omega)]
theorem z_far : s_pure_far Rel := by
  intro c m h a1 a2
  have hst := rel_st h
  have hon := r_st_1 h.2.2.2.2.2.2
  obtain ⟨N, W, E, P, Q, U, F, b⟩ := r_bs_of hst hon
  obtain ⟨⟨b1, -⟩, ⟨d1, -⟩, ⟨g1, -⟩, hu, -⟩ := id b
  by_cases ht : 0 ≤ a1.toInt ∧ a1.toInt < N
  · by_cases hw : 1 ≤ a2.toInt ∧ a2.toInt ≤ 20
    · obtain ⟨t, _, rfl, et⟩ := q_nat ht.1
      obtain ⟨q, _, rfl, eq⟩ := q_nat (x := a2) (by omega)
      have htN : t < N := by omega
      obtain ⟨c1, k, f1, s1, h1⟩ := p_load b htN
      have b' := r_bs_s b s1 (r_ms_r _)
      obtain ⟨r, m1, f2, f3, s2, hr⟩ := p_far b' htN (show q ≤ 20 by omega) h1
      refine ⟨r, c1, m1, ?_, ?_, r_scr hst s1 s2⟩
      · unfold fX6_far
        rw [p_has b1 d1, if_pos ht, p_bi, if_neg q10, p_fac, if_pos hw, p_bi, if_neg q10, f1, p_bv, p_val b1 b'.2.1.1 htN, p_bi, s1 7 (by omega), (hu t htN).1, f2, p_bi]
        rcases hr with rfl | rfl
        · rw [if_pos rfl]
        · rw [if_neg q10]
      · unfold fX7_far
        rw [p_there b1 g1, if_pos ht, p_bi, if_neg q10, p_yes (by rw [p_t64]; exact hw), p_bi, if_neg q10, f3, p_bi]
        rcases hr with rfl | rfl
        · rw [if_pos rfl]
        · rw [if_neg q10]
    · refine ⟨-1, c, r_st m, ?_, ?_, hst⟩
      · unfold fX6_far fX6_far_b18
        rw [p_has b1 d1, if_pos ht, p_bi, if_neg q10, p_fac, if_neg hw, p_bi, if_pos rfl]
      · unfold fX7_far fX7_far_b20
        rw [p_there b1 g1, if_pos ht, p_bi, if_neg q10, p_no (by rw [p_t64]; exact hw), p_bi, if_pos rfl]
  · refine ⟨-1, c, r_st m, ?_, ?_, hst⟩
    · unfold fX6_far fX6_far_b18
      rw [p_has b1 d1, if_neg ht, p_bi, if_pos rfl]
    · unfold fX7_far fX7_far_b20
      rw [p_there b1 g1, if_neg ht, p_bi, if_pos rfl]
theorem p_faL {N W E P Q U F q : Nat} (hq : q ≤ 20) : ∀ (f t : Nat) (c m : Sg) (x : Int32) (k : Nat), r_bs c m N W E P Q U F → t ≤ N → N - t < f → r_hc c (m 1) (t - W) (t - (t - W)) k → ∃ r c' m', fX6_fars_b20_L f c (nI q) x (nI t) = some (r, c') ∧ fX7_fars_b22_L f m (nI q) x (nI t) = some (r, m') ∧ r_cs c c' ∧ r_ms m m' := by
  intro f
  induction f with
  | zero => intro t c m x k _ _ h; omega
  | succ f ih =>
    intro t c m x k b ht hf h
    obtain ⟨⟨b1, -⟩, ⟨d1, -⟩, ⟨g1, -⟩, hu, -⟩ := id b
    show ∃ r c' m', fX6_fars_b20 (fX6_fars_b20_L f) c (nI q) x (nI t) = some (r, c') ∧ fX7_fars_b22 (fX7_fars_b22_L f) m (nI q) x (nI t) = some (r, m') ∧ _
    unfold fX6_fars_b20 fX6_fars_b61 fX7_fars_b22 fX7_fars_b45 fX7_many
    rw [p_bi, d1, g1]
    by_cases y : N ≤ t
    · rw [if_pos (nI_le y (by omega)), if_pos (nI_le y (by omega))]
      exact ⟨x, c, m, rfl, rfl, r_cs_r c, r_ms_r m⟩
    · have htN : t < N := by omega
      rw [if_neg (nI_ge (by omega) (by omega)), if_neg (nI_ge (by omega) (by omega))]
      obtain ⟨c1, k1, f1, s1, h1⟩ := p_slide b htN h
      have b' := r_bs_s b s1 (r_ms_r m)
      obtain ⟨r1, m1, f2, f3, s2, hr⟩ := p_far b' htN hq h1
      have b2 := r_bs_s b s1 s2
      rw [f1, p_bv, p_val b1 b'.2.1.1 htN, p_bi, s1 7 (by omega), (hu t htN).1, f2, p_bi, f3, p_bi]
      have go : ∀ y : Int32, ∃ r c' m', fX6_fars_b20_L f c1 (nI q) y (nI (t + 1)) = some (r, c') ∧ fX7_fars_b22_L f m1 (nI q) y (nI (t + 1)) = some (r, m') ∧ r_cs c c' ∧ r_ms m m' := fun y => by
        obtain ⟨r, c', m', a1, a2, a3, a4⟩ := ih (t + 1) c1 m1 y k1 b2 (by omega) (by omega) (by rw [r_ms_1 s2]; exact h1)
        exact ⟨r, c', m', a1, a2, r_cs_t s1 a3, r_ms_t s2 a4⟩
      rcases hr with rfl | rfl
      · rw [if_pos rfl, if_pos rfl, p_lt, p_lt, p_lt, nI_1, q_a0]
        exact go _
      · rw [if_neg q10, if_neg q10, p_lt, p_lt, p_lt, p_lt, nI_1]
        exact go _
theorem z_fars : s_pure_fars Rel := by
  intro c m h a1
  have hst := rel_st h
  have hon := r_st_1 h.2.2.2.2.2.2
  obtain ⟨N, W, E, P, Q, U, F, b⟩ := r_bs_of hst hon
  have b1 := b.1.1
  by_cases hw : 1 ≤ a1.toInt ∧ a1.toInt ≤ 20
  · obtain ⟨q, _, rfl, eq⟩ := q_nat (x := a1) (by omega)
    have s0 : r_cs c (s_up c 8 2 0) := r_cs_up _ _ (by omega)
    obtain ⟨r, c', m', e1, e2, e3, e4⟩ := p_faL (q := q) (by omega) s_fu 0 (s_up c 8 2 0) (r_st m) 0 0 (r_bs_s b s0 (r_ms_r _)) (by omega) (by rw [s_fu_e]; omega) (r_hc_0 c _ W)
    refine ⟨r, c', m', ?_, ?_, r_scr hst (r_cs_t s0 e3) e4⟩
    · unfold fX6_fars fX0_clear
      rw [p_fac, if_pos hw, p_bi, if_neg q10, p_lt, p_bv]; exact e1
    · unfold fX7_fars
      rw [p_starts, p_bv, p_yes (by rw [p_t64]; exact hw), p_bi, if_neg q10]; exact e2
  · refine ⟨-1, c, r_st m, ?_, ?_, hst⟩
    · unfold fX6_fars
      rw [p_fac, if_neg hw, p_bi, if_pos rfl]
    · unfold fX7_fars
      rw [p_starts, p_bv, p_no (by rw [p_t64]; exact hw), p_bi, if_pos rfl]
