/-! PURE: drift -/
def r_lt (u : Nat → Int32) : Nat → Int32
  | 0 => 0
  | n + 1 => if u n = 100000000 then r_lt u n else u n
theorem r_lt_s (u : Nat → Int32) (n : Nat) : r_lt u (n + 1) = if u n = 100000000 then r_lt u n else u n := rfl
theorem r_lt_eq {u v : Nat → Int32} : ∀ n, (∀ j, j < n → u j = v j) → r_lt u n = r_lt v n := by
  intro n
  induction n with
  | zero => intro _; rfl
  | succ n ih => intro h; rw [r_lt_s, r_lt_s, h n (by omega), ih (fun j hj => h j (by omega))]
theorem r_lt_b {u : Nat → Int32} : ∀ n, (∀ j, j < n → r_ok (u j)) → -999999 ≤ (r_lt u n).toInt ∧ (r_lt u n).toInt ≤ 999999 := by
  intro n
  induction n with
  | zero => intro _; show -999999 ≤ (0 : Int) ∧ (0 : Int) ≤ 999999; omega
  | succ n ih =>
    intro h
    rw [r_lt_s]
    by_cases z : u n = 100000000
    · rw [if_pos z]; exact ih (fun j hj => h j (by omega))
    · rw [if_neg z]; exact (h n (by omega)).resolve_left z
theorem q_m1 (n : Nat) : nI n + -1 = nI n - 1 := (Int32.sub_eq_add_neg _ _).symm
theorem p_lvL {c : Sg} : ∀ (f n : Nat), n ≤ 96 → n < f → fX1_latestValue_6_b7_L f c (nI n - 1) = some (r_lt (c 7) n, c) := by
  intro f
  induction f with
  | zero => intro n _ h; omega
  | succ f ih =>
    intro n hn hf
    show fX1_latestValue_6_b7 (fX1_latestValue_6_b7_L f) c (nI n - 1) = _
    unfold fX1_latestValue_6_b7
    cases n with
    | zero => rw [if_pos (by decide)]; rfl
    | succ n =>
      rw [nI_pred, if_neg (nI_pos (by omega)), p_gd (p_inN (by omega) (by omega)), nI_clamp (by omega), r_lt_s]
      by_cases z : c 7 n = 100000000
      · rw [if_pos z, if_pos z, p_lt, q_m1, ih n (by omega) (by omega)]
      · rw [if_neg z, if_neg z, p_gd (p_inN (by omega) (by omega))]
theorem p_laL {m : Sg} : ∀ (f n : Nat), n ≤ 96 → n < f → fX7_latest_b7_L f m (nI n - 1) = some (r_lt (m 1) n, m) := by
  intro f
  induction f with
  | zero => intro n _ h; omega
  | succ f ih =>
    intro n hn hf
    show fX7_latest_b7 (fX7_latest_b7_L f) m (nI n - 1) = _
    unfold fX7_latest_b7
    cases n with
    | zero => rw [if_pos (by decide)]; rfl
    | succ n =>
      rw [nI_pred, if_neg (nI_pos (by omega)), p_gd (p_inN (by omega) (by omega)), nI_clamp (by omega), r_lt_s]
      by_cases z : m 1 n = 100000000
      · rw [if_pos z, if_pos z, p_lt, q_m1, ih n (by omega) (by omega)]
      · rw [if_neg z, if_neg z, p_gd (p_inN (by omega) (by omega))]
theorem q_draw (t : Int32) : ∃ G : Nat, G < 32768 ∧ s_ushr t 16 &&& 32767 = nI G ∧ (t >>> ((16 : Int32) &&& 31)) &&& 32767 = nI G := by
  have h1 : (s_ushr t 16).toBitVec.toNat = t.toBitVec.toNat / 2 ^ 16 := pk_ushr t 16 16 (by decide)
  have h2 : (t >>> ((16 : Int32) &&& 31)).toInt = t.toInt >>> 16 := pk_shr t ((16 : Int32) &&& 31) 16 (by decide)
  rw [Int.shiftRight_eq_div_pow] at h2
  have hT := t.toBitVec.isLt
  have hY := (t >>> ((16 : Int32) &&& 31)).toBitVec.isLt
  have hti : t.toInt = if 2 * t.toBitVec.toNat < 2 ^ 32 then (t.toBitVec.toNat : Int) else (t.toBitVec.toNat : Int) - ((2 ^ 32 : Nat) : Int) := BitVec.toInt_eq_toNat_cond t.toBitVec
  have hyi : (t >>> ((16 : Int32) &&& 31)).toInt = if 2 * (t >>> ((16 : Int32) &&& 31)).toBitVec.toNat < 2 ^ 32 then ((t >>> ((16 : Int32) &&& 31)).toBitVec.toNat : Int) else ((t >>> ((16 : Int32) &&& 31)).toBitVec.toNat : Int) - ((2 ^ 32 : Nat) : Int) := BitVec.toInt_eq_toNat_cond _
  refine ⟨t.toBitVec.toNat / 2 ^ 16 % 2 ^ 15, by omega, ?_, ?_⟩
  · rw [pk_and (s_ushr t 16) (m := 32767) 15 (by decide), h1]
  · rw [pk_and (t >>> ((16 : Int32) &&& 31)) (m := 32767) 15 (by decide)]
    have : (t >>> ((16 : Int32) &&& 31)).toBitVec.toNat % 2 ^ 15 = t.toBitVec.toNat / 2 ^ 16 % 2 ^ 15 := by
      generalize (t >>> ((16 : Int32) &&& 31)).toBitVec.toNat = Y at *
      generalize t.toBitVec.toNat = T at *
      generalize t.toInt = ti at *
      generalize (t >>> ((16 : Int32) &&& 31)).toInt = yi at *
      split at hti <;> split at hyi <;> omega
    rw [this]
theorem q_clamp (z : Int32) : ∃ v : Int32, (-999999 ≤ v.toInt ∧ v.toInt ≤ 999999) ∧ s_max (-999999) (s_min 999999 z) = v ∧ ∀ K : Int32 → Option (Int32 × Sg), (if (-999999 : Int32) ≤ z then (if z ≤ (999999 : Int32) then K z else K (999999 : Int32)) else K (-999999 : Int32)) = K v := by
  have wa : (-999999 : Int32).toInt = -999999 := rfl
  have wb : (999999 : Int32).toInt = 999999 := rfl
  by_cases q1 : -999999 ≤ z.toInt
  · by_cases q2 : z.toInt ≤ 999999
    · have m1 : s_min 999999 z = z := by
        unfold s_min
        by_cases q3 : z < 999999
        · rw [if_pos q3]
        · rw [if_neg q3, q_e]
          rw [q_i] at q3
          omega
      have m2 : s_max (-999999) z = z := by
        unfold s_max
        by_cases q3 : (-999999 : Int32) < z
        · rw [if_pos q3]
        · rw [if_neg q3, q_e]
          rw [q_i] at q3
          omega
      exact ⟨z, ⟨q1, q2⟩, by rw [m1, m2], fun K => by rw [if_pos (show (-999999 : Int32) ≤ z by rw [q_l]; omega), if_pos (show z ≤ (999999 : Int32) by rw [q_l]; omega)]⟩
    · have m1 : s_min 999999 z = 999999 := by
        unfold s_min
        rw [if_neg (show ¬ z < (999999 : Int32) by rw [q_i]; omega)]
      have m2 : s_max (-999999) 999999 = 999999 := by
        unfold s_max
        rw [if_pos (show (-999999 : Int32) < 999999 by rw [q_i, wa, wb]; omega)]
      exact ⟨999999, by rw [wb]; omega, by rw [m1, m2], fun K => by rw [if_pos (show (-999999 : Int32) ≤ z by rw [q_l]; omega), if_neg (show ¬ z ≤ (999999 : Int32) by rw [q_l]; omega)]⟩
  · have m1 : s_min 999999 z = z := by
      unfold s_min
      rw [if_pos (show z < (999999 : Int32) by rw [q_i]; omega)]
    have m2 : s_max (-999999) z = -999999 := by
      unfold s_max
      rw [if_neg (show ¬ (-999999 : Int32) < z by rw [q_i]; omega)]
    exact ⟨-999999, by rw [wa]; omega, by rw [m1, m2], fun K => by rw [if_neg (show ¬ (-999999 : Int32) ≤ z by rw [q_l]; omega)]⟩
theorem p_drL {n : Nat} (hn : n ≤ 48) : ∀ (f : Nat) (c m : Sg) (seed : Int32) (came N : Nat), Rel c m → m 0 1 = 1 → c 6 1 = nI N → N ≤ 96 → came ≤ n → n - came < f → ∃ r c' m', fX6_drift_b27_L f c seed (nI n) (r_lt (m 1) N) (nI came) (nI came) = some (r, c') ∧ fX7_drift_b23_L f m (nI n) seed (nI came) = some (r, m') ∧ Rel c' m' := by
  intro f
  induction f with
  | zero => intro c m seed came N _ _ _ _ _ h; omega
  | succ f ih =>
    intro c m seed came N h hon eN hN hc hf
    obtain ⟨n', b1, b2, b3, b4, -⟩ := id h.1
    rw [r_pg_on hon] at b3 b4
    have en : n' = N := (nI_eq (by omega) (by omega)).mp (b2.symm.trans eN)
    subst en
    have hb := r_lt_b n' (fun j hj => (b4 j hj).2)
    show ∃ r c' m', fX6_drift_b27 (fX6_drift_b27_L f) c seed (nI n) (r_lt (m 1) n') (nI came) (nI came) = some (r, c') ∧ fX7_drift_b23 (fX7_drift_b23_L f) m (nI n) seed (nI came) = some (r, m') ∧ _
    unfold fX6_drift_b27 fX7_drift_b23 fX6_drift_b129 fX7_drift_b131 fX7_many
    by_cases x : n ≤ came
    · rw [if_pos (nI_le x (by omega)), if_pos (nI_le x (by omega))]
      exact ⟨_, c, m, rfl, rfl, h⟩
    rw [if_neg (nI_ge (by omega) (by omega)), if_neg (nI_ge (by omega) (by omega)), p_full hN eN, p_bi, p_bi, b3]
    by_cases y : n' < 96
    · rw [if_pos y, if_pos rfl, if_neg (show ¬ (96 : Int32) ≤ nI n' from nI_ge (b := 96) y (by omega)), p_lt, p_lt]
      generalize seed * 1103515245 + 12345 = t
      obtain ⟨G, hG, g1, g2⟩ := q_draw t
      have hL : fX7_latest m = some (r_lt (m 1) n', m) := by
        unfold fX7_latest fX7_many
        rw [p_bi, p_lt, b3]
        exact p_laL s_fu n' hN (by rw [s_fu_e]; omega)
      have e9 : s_rem (nI G) 9 = nI (G % 9) := q_rem (d := 9) (by omega) (by omega) (by omega)
      have e16 : nI G / 16 = nI (G / 16) := pk_div (d := 16) (by omega) (by omega) (by omega)
      have e401 : s_rem (nI (G / 16)) 401 = nI (G / 16 % 401) := q_rem (d := 401) (by omega) (by omega) (by omega)
      rw [g1, e9, p_lt, e16, e401, p_lt, p_lt, p_lt, p_lt, p_lt, p_lt, g2, hL, p_bi, e16, e401, p_lt, p_lt]
      have w200 : (200 : Int32).toInt = 200 := rfl
      have wg : (nI (G / 16 % 401)).toInt = ((G / 16 % 401 : Nat) : Int) := nI_toInt (by omega)
      have v1 : (r_lt (m 1) n' + nI (G / 16 % 401)).toInt = (r_lt (m 1) n').toInt + ((G / 16 % 401 : Nat) : Int) := by rw [q_add (by rw [wg]; omega) (by rw [wg]; omega), wg]
      have v2 : (r_lt (m 1) n' + nI (G / 16 % 401) - 200).toInt = (r_lt (m 1) n').toInt + ((G / 16 % 401 : Nat) : Int) - 200 := by rw [q_sub (by rw [v1, w200]; omega) (by rw [v1, w200]; omega), v1, w200]
      generalize r_lt (m 1) n' + nI (G / 16 % 401) - 200 = z at *
      -- the clamped number
      obtain ⟨v, hv, hc1, hc2⟩ := q_clamp z
      rw [hc2 (fun w => fX7_drift_b103 (fX7_drift_b23_L f) m (nI n) t (nI came) (nI G) w)]
      unfold fX7_drift_b103 fX7_drift_b121 fX6_drift_b120
      rw [p_lt, e9]
      have hlt : ∀ (w : Int32), r_lt (s_up (s_up m 1 n' w) 1 102 (nI (n' + 1)) 1) (n' + 1) = if w = 100000000 then r_lt (m 1) n' else w := fun w => by
        show r_lt (upd (upd (m 1) n' w) 102 (nI (n' + 1))) (n' + 1) = _
        have e : upd (upd (m 1) n' w) 102 (nI (n' + 1)) n' = w := by rw [p_upd, if_neg (by omega), p_upd, if_pos rfl]
        have e2 : r_lt (upd (upd (m 1) n' w) 102 (nI (n' + 1))) n' = r_lt (m 1) n' := r_lt_eq n' (fun j hj => by rw [p_upd, if_neg (by omega), p_upd, if_neg (by omega)])
        rw [r_lt_s, e, e2]
      have go : ∀ w : Int32, r_ok w → ∃ r c' m', fX6_drift_b27_L f (s_up (s_up c 7 n' w) 6 1 (nI (n' + 1))) t (nI n) (if w = 100000000 then r_lt (m 1) n' else w) (nI (came + 1)) (nI (came + 1)) = some (r, c') ∧ fX7_drift_b23_L f (s_up (s_up m 1 n' w) 1 102 (nI (n' + 1))) (nI n) t (nI (came + 1)) = some (r, m') ∧ Rel c' m' := fun w hw => by
        have := ih (s_up (s_up c 7 n' w) 6 1 (nI (n' + 1))) (s_up (s_up m 1 n' w) 1 102 (nI (n' + 1))) t (came + 1) (n' + 1) (r_push hon h y eN hw) hon rfl (by omega) (by omega) (by omega)
        rw [hlt w] at this
        exact this
      by_cases q9 : G % 9 = 0
      · have n9 : nI (G % 9) = 0 := by rw [q9]; rfl
        rw [if_pos n9, if_pos n9, p_append y eN, p_bv, p_comes y b3, p_bi, p_lt, p_lt, p_lt, nI_1]
        have := go 100000000 (Or.inl rfl)
        rw [if_pos rfl] at this
        exact this
      · have n9 : ¬ nI (G % 9) = 0 := nI_ne0 (by omega) (by omega)
        have hv100 : ¬ v = 100000000 := fun q => by
          rw [q] at hv
          have : (100000000 : Int32).toInt = 100000000 := rfl
          omega
        rw [if_neg n9, if_neg n9, hc1, p_append y eN, p_bv, p_comes y b3, p_bi, p_lt, p_lt, p_lt, nI_1]
        have := go v (Or.inr hv)
        rw [if_neg hv100] at this
        exact this
    · rw [if_neg y, if_neg q10, if_pos (show (96 : Int32) ≤ nI n' from nI_le (a := 96) (by omega) (by omega))]
      exact ⟨_, c, m, rfl, rfl, h⟩
theorem z_drift : s_pure_drift Rel := by
  intro c m h a1 a2
  have hst := rel_st h
  have hon := r_st_1 h.2.2.2.2.2.2
  obtain ⟨N, W, E, P, Q, U, F, b⟩ := r_bs_of hst hon
  obtain ⟨⟨b1, -⟩, ⟨d1, -⟩, ⟨g1, -⟩, hu, -⟩ := id b
  have w1 : (1 : Int32).toInt = 1 := rfl
  have w2 : (48 : Int32).toInt = 48 := rfl
  by_cases hw : 1 ≤ a2.toInt ∧ a2.toInt ≤ 48
  · obtain ⟨n, _, rfl, en⟩ := q_nat (x := a2) (by omega)
    have hL : fX1_latestValue_6 c = some (r_lt (r_st m 1) N, c) := by
      unfold fX1_latestValue_6
      rw [p_lt, d1, p_lvL s_fu N b1 (by rw [s_fu_e]; omega), r_lt_eq N (fun j hj => (hu j hj).1)]
    obtain ⟨r, c', m', e1, e2, e3⟩ := p_drL (n := n) (by omega) s_fu c (r_st m) a1 0 N hst hon d1 b1 (by omega) (by rw [s_fu_e]; omega)
    refine ⟨r, c', m', ?_, ?_, e3⟩
    · unfold fX6_drift
      rw [if_neg (by rw [q_i, w1]; omega), if_pos (by rw [q_l, w2]; omega), hL, p_bi]
      exact e1
    · unfold fX7_drift
      rw [p_starts, p_bv, p_yes (by rw [p_t64]; exact hw), p_bi, if_neg q10]
      exact e2
  · refine ⟨-1, c, r_st m, ?_, ?_, hst⟩
    · unfold fX6_drift fX6_drift_b11
      by_cases y : a2 < 1
      · rw [if_pos y]
      · rw [if_neg y, if_neg (by rw [q_l, w2]; rw [q_i, w1] at y; omega)]
    · unfold fX7_drift
      rw [p_starts, p_bv, p_no (by rw [p_t64]; exact hw), p_bi, if_pos rfl]
