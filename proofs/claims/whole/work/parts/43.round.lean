/-! PURE: a result, rounded -/
theorem q_mb (z : Int) (n : Nat) (h0 : -999999 ≤ z) (h1 : z ≤ 999999) : -(999999 * (n : Int)) ≤ z * n ∧ z * n ≤ 999999 * n := by
  have a := Int.mul_le_mul_of_nonneg_right h0 (Int.natCast_nonneg n)
  have b := Int.mul_le_mul_of_nonneg_right h1 (Int.natCast_nonneg n)
  rw [Int.neg_mul] at a
  exact ⟨a, b⟩
theorem r_dn_b {Q U : Nat} (hQ : 1 ≤ Q) (hQ2 : Q ≤ 100) : 1 ≤ r_dn Q U ∧ r_dn Q U ≤ 100 := by
  unfold r_dn
  by_cases a : U = 3
  · rw [if_pos a]; omega
  · rw [if_neg a]
    by_cases b : U = 4
    · rw [if_pos b]; omega
    · rw [if_neg b]; omega
theorem r_nu_b {x y : Int32} {K R Q U : Nat} (hU : U ≤ 4) (hR : R ≤ Q) (hQ : 1 ≤ Q) (hQ2 : Q ≤ 100) (hx : -999999 ≤ x.toInt ∧ x.toInt ≤ 999999) (hy : -999999 ≤ y.toInt ∧ y.toInt ≤ 999999) : -(999999 * (r_dn Q U : Int)) ≤ (r_nu x y K R Q U).toInt ∧ (r_nu x y K R Q U).toInt ≤ 999999 * (r_dn Q U : Int) := by
  rcases (show U = 0 ∨ U = 1 ∨ U = 2 ∨ U = 3 ∨ U = 4 by omega) with rfl | rfl | rfl | rfl | rfl
  · show -(999999 * ((1 : Nat) : Int)) ≤ x.toInt ∧ x.toInt ≤ 999999 * ((1 : Nat) : Int)
    omega
  · show -(999999 * ((1 : Nat) : Int)) ≤ y.toInt ∧ y.toInt ≤ 999999 * ((1 : Nat) : Int)
    omega
  · show -(999999 * ((1 : Nat) : Int)) ≤ (if 2 * R < Q ∨ (2 * R = Q ∧ K % 2 = 0) then x else y).toInt ∧ (if 2 * R < Q ∨ (2 * R = Q ∧ K % 2 = 0) then x else y).toInt ≤ 999999 * ((1 : Nat) : Int)
    by_cases z : 2 * R < Q ∨ (2 * R = Q ∧ K % 2 = 0)
    · rw [if_pos z]; omega
    · rw [if_neg z]; omega
  · show -(999999 * ((2 : Nat) : Int)) ≤ (x + y).toInt ∧ (x + y).toInt ≤ 999999 * ((2 : Nat) : Int)
    rw [q_add (by omega) (by omega)]
    omega
  · show -(999999 * (Q : Int)) ≤ (x * nI (Q - R) + y * nI R).toInt ∧ (x * nI (Q - R) + y * nI R).toInt ≤ 999999 * (Q : Int)
    have e1 : (nI (Q - R)).toInt = ((Q - R : Nat) : Int) := nI_toInt (by omega)
    have e2 : (nI R).toInt = (R : Int) := nI_toInt (by omega)
    have a := q_mb x.toInt (Q - R) hx.1 hx.2
    have b := q_mb y.toInt R hy.1 hy.2
    have m1 : (x * nI (Q - R)).toInt = x.toInt * ((Q - R : Nat) : Int) := by rw [q_mul (by rw [e1]; omega) (by rw [e1]; omega), e1]
    have m2 : (y * nI R).toInt = y.toInt * (R : Int) := by rw [q_mul (by rw [e2]; omega) (by rw [e2]; omega), e2]
    rw [q_add (by rw [m1, m2]; omega) (by rw [m1, m2]; omega), m1, m2]
    omega
theorem r_ov_b {g : Nat → Int32} {k P Q U : Nat} (hk : 0 < k) (hk2 : k ≤ 24) (hP : P ≤ Q) (hQ : 1 ≤ Q) (hQ2 : Q ≤ 100) (hU : U ≤ 4) (hb : ∀ j, j < k → -999999 ≤ (g j).toInt ∧ (g j).toInt ≤ 999999) : -(999999 * (r_dn Q U : Int)) ≤ (r_ov g k P Q U).toInt ∧ (r_ov g k P Q U).toInt ≤ 999999 * (r_dn Q U : Int) := by
  obtain ⟨p1, p2, p3, p4⟩ := q_place hk hk2 hP hQ hQ2
  unfold r_ov
  refine r_nu_b hU (Nat.le_of_lt p3) hQ hQ2 (hb _ p1) ?_
  by_cases z : (k - 1) * P % Q = 0
  · rw [if_pos z]; exact hb _ p1
  · rw [if_neg z]; exact hb _ (p2 (by omega))
def r_rq (a : Int32) (D : Nat) : Nat := (2 * a.toInt.natAbs + D) / (2 * D)
def r_ro (a : Int32) (D : Nat) : Int32 := if 0 ≤ a then nI (r_rq a D) else -nI (r_rq a D)
theorem r_rq_b {a : Int32} {D : Nat} (hD : 1 ≤ D) (h : -(999999 * (D : Int)) ≤ a.toInt ∧ a.toInt ≤ 999999 * (D : Int)) : r_rq a D ≤ 999999 := by
  unfold r_rq
  have h1 : a.toInt.natAbs ≤ 999999 * D := by omega
  have : (2 * a.toInt.natAbs + D) / (2 * D) < 1000000 := by
    rw [Nat.div_lt_iff_lt_mul (by omega)]
    omega
  omega
theorem q_abs {a : Int32} (h : -2147483648 < a.toInt) : s_abs a = nI a.toInt.natAbs := by
  have w0 : (0 : Int32).toInt = 0 := rfl
  have hb := a.toInt_lt
  have hb2 := a.le_toInt
  unfold s_abs
  by_cases x : 0 ≤ a
  · rw [if_pos x, q_e, nI_toInt (by omega)]
    rw [q_l, w0] at x
    omega
  · rw [if_neg x, q_e, nI_toInt (by omega)]
    rw [q_l, w0] at x
    rw [q_sub (by omega) (by omega), w0]
    omega
theorem p_rnd {c m : Sg} {N W E P Q U F k : Nat} (b : r_bs c m N W E P Q U F) (e : c 8 2 = nI k) (h0 : 0 < k) (hk : k ≤ 24) (hb : ∀ j, j < k → -999999 ≤ (c 9 j).toInt ∧ (c 9 j).toInt ≤ 999999) : fX0_rounded c = some (r_ro (r_ov (c 9) k P Q U) (r_dn Q U), c) := by
  have a1 := p_num b e h0 hk
  have a2 := p_den b
  obtain ⟨⟨b1, b2, b3, b4, b5, b6, b7, b8, b9, -⟩, -⟩ := b
  have hv := r_ov_b (U := U) h0 hk b6 b7 b8 b9 hb
  have hD := r_dn_b (U := U) b7 b8
  generalize r_ov (c 9) k P Q U = a at *
  generalize r_dn Q U = D at *
  have m1 : (2 : Int32) * nI D = nI (2 * D) := pk_mul 2 D
  have m2 : (2 : Int32) * nI a.toInt.natAbs = nI (2 * a.toInt.natAbs) := pk_mul 2 _
  unfold fX0_rounded
  rw [a1, p_bi, a2, p_bi, if_pos (show (1 : Int32) ≤ nI D from nI_le (a := 1) hD.1 (by omega)), q_abs (by omega), p_lt, m1, p_gd (p_nz (by omega) (by omega)), m2, nI_add, pk_div (by omega) (by omega) (by omega), p_lt]
  unfold r_ro r_rq
  by_cases x : 0 ≤ a
  · rw [if_pos x, if_pos x]
  · rw [if_neg x, if_neg x]
theorem p_rndM {m : Sg} {a : Int32} {D : Nat} (hD : 1 ≤ D ∧ D ≤ 100) (hv : -(999999 * (D : Int)) ≤ a.toInt ∧ a.toInt ≤ 999999 * (D : Int)) (e19 : m 0 19 = a) (e20 : m 0 20 = nI D) : fX7_rounded m = some (r_ro a D, m) := by
  have w0 : (0 : Int32).toInt = 0 := rfl
  have hb : fX7_rounded_b21 m (lN a.toInt.natAbs) = some (r_ro a D, m) := by
    unfold fX7_rounded_b21
    have m1 : (2 : Int64) * lN D = lN (2 * D) := lN_mul 2 D
    have m2 : (2 : Int64) * lN a.toInt.natAbs = lN (2 * a.toInt.natAbs) := lN_mul 2 _
    have hz : s_nzl (lN (2 * D)) = true := decide_eq_true (fun z => by
      have : lN (2 * D) = lN 0 := z
      rw [pk_lEQ (by omega) (by omega)] at this
      omega)
    rw [e20, e19, nI_l (by omega), m1, p_gd hz, m2, lN_add, pk_lDiv (by omega) (by omega) (by omega), lN_i, p_lt]
    unfold r_ro r_rq
    by_cases x : 0 ≤ a
    · rw [if_pos x, if_pos x]
    · rw [if_neg x, if_neg x]
  unfold fX7_rounded
  rw [e19]
  by_cases x : 0 ≤ a
  · rw [if_pos x]
    rw [q_l, w0] at x
    have e : Int32.toInt64 a = lN a.toInt.natAbs := Int64.toInt_inj.mp (by rw [p_t64, pk_lT (by omega)]; omega)
    rw [e]; exact hb
  · rw [if_neg x]
    rw [q_l, w0] at x
    have e : -Int32.toInt64 a = lN a.toInt.natAbs := Int64.toInt_inj.mp (by
      rw [Int64.toInt_neg, p_t64, pk_lT (by omega)]
      simp only [Int.bmod]
      omega)
    rw [e]; exact hb
/-! counts over a row -/
theorem p_csL {c : Sg} {v : Int32} {k : Nat} (hk : k ≤ 24) (e : c 8 2 = nI k) : ∀ (f i : Nat), i ≤ k → k - i < f → fX0_countSame_b4_L f c v (nI (r_cn (fun j => decide (c 9 j = v)) i)) (nI i) = some (nI (r_cn (fun j => decide (c 9 j = v)) k), c) := by
  intro f
  induction f with
  | zero => intro i _ h; omega
  | succ f ih =>
    intro i hi hf
    show fX0_countSame_b4 (fX0_countSame_b4_L f) c v _ (nI i) = _
    unfold fX0_countSame_b4 fX0_countSame_b25
    by_cases x : k ≤ i
    · rw [if_pos (by rw [e, nI_leI (by omega) (by omega)]; exact x), show i = k by omega]
    · rw [if_neg (by rw [e, nI_leI (by omega) (by omega)]; exact x), p_gd (p_inN (by omega) (by omega)), nI_clamp (by omega)]
      have := ih (i + 1) (by omega) (by omega)
      rw [r_cn_s] at this
      by_cases y : c 9 i = v
      · rw [if_pos y, p_lt, p_lt, nI_1, nI_1]
        rw [if_pos (decide_eq_true y)] at this
        exact this
      · rw [if_neg y, p_lt, nI_1]
        rw [if_neg (fun z => y (of_decide_eq_true z))] at this
        exact this
theorem p_rkL {m : Sg} {v x3 : Int32} {k : Nat} (hk : k ≤ 24) (e : m 0 15 = nI k) (B : Nat → Bool) (hB : ∀ j, j < k → (x3 = 0 → (B j = true ↔ ¬ v ≤ m 5 j)) ∧ (¬ x3 = 0 → (B j = true ↔ m 5 j = v))) : ∀ (f i : Nat), i ≤ k → k - i < f → fX7_rank_b31_L f m v x3 (nI (r_cn B i)) (nI i) = some (nI (r_cn B k), m) := by
  intro f
  induction f with
  | zero => intro i _ h; omega
  | succ f ih =>
    intro i hi hf
    show fX7_rank_b31 (fX7_rank_b31_L f) m v x3 _ (nI i) = _
    unfold fX7_rank_b31 fX7_rank_b75 fX7_rank_b71 fX7_rank_b76
    by_cases x : k ≤ i
    · rw [if_pos (by rw [e, nI_leI (by omega) (by omega)]; exact x), show i = k by omega]
    · rw [if_neg (by rw [e, nI_leI (by omega) (by omega)]; exact x)]
      have this := ih (i + 1) (by omega) (by omega)
      rw [r_cn_s] at this
      have n0 : nI (r_cn B i) + 0 = nI (r_cn B i + 0) := nI_add _ 0
      obtain ⟨h1, h2⟩ := hB i (by omega)
      by_cases y : x3 = 0
      · rw [if_pos y, p_gd (p_inN (by omega) (by omega)), nI_clamp (by omega)]
        by_cases z : v ≤ m 5 i
        · rw [if_pos z, p_lt, p_lt, n0, nI_1]
          rw [if_neg (fun w => (h1 y).mp w z)] at this
          exact this
        · rw [if_neg z, p_lt, p_lt, nI_1, nI_1]
          rw [if_pos ((h1 y).mpr z)] at this
          exact this
      · rw [if_neg y, p_gd (p_inN (by omega) (by omega)), nI_clamp (by omega)]
        by_cases z : m 5 i = v
        · rw [if_pos z, p_lt, p_lt, nI_1, nI_1]
          rw [if_pos ((h2 y).mpr z)] at this
          exact this
        · rw [if_neg z, p_lt, p_lt, n0, nI_1]
          rw [if_neg (fun w => z ((h2 y).mp w))] at this
          exact this
