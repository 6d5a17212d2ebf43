/-! PURE: a row's result -/
def r_pr (c m : Sg) (k : Nat) : Prop := k ≤ 24 ∧ c 8 2 = nI k ∧ m 0 15 = nI k ∧ (∀ j, j < k → c 9 j = m 5 j) ∧ r_so (m 5) k ∧ (∀ j, j < k → -999999 ≤ (m 5 j).toInt ∧ (m 5 j).toInt ≤ 999999)
theorem r_pr_of {c m : Sg} {u : Nat → Int32} {a len k k' : Nat} (hl : len ≤ 24) (hc : r_hc c u a len k) (hm : r_hm m u a len k') : r_pr c m k := by
  obtain ⟨e, hj⟩ := r_is_uni hc.2 hm.2
  subst e
  have := r_is_len hc.2
  exact ⟨by omega, hc.1, hm.1, hj, hm.2.2.1, hm.2.1⟩
theorem q_pred {k : Nat} (h : 0 < k) : nI k - 1 = nI (k - 1) := by
  obtain ⟨l, rfl⟩ : ∃ l, k = l + 1 := ⟨k - 1, by omega⟩
  exact nI_pred l
theorem p_nz {q : Nat} (h0 : 0 < q) (h : q < 2 ^ 31) : s_nz (nI q) = true := decide_eq_true (nI_ne0 h0 h)
theorem q_rem {a d : Nat} (ha : a < 2 ^ 31) (h0 : 0 < d) (hd : d < 2 ^ 31) : s_rem (nI a) (nI d) = nI (a % d) := pk_rem ha h0 hd
theorem q_place {k P Q : Nat} (hk : 0 < k) (hk2 : k ≤ 24) (hP : P ≤ Q) (hQ : 1 ≤ Q) (hQ2 : Q ≤ 100) : (k - 1) * P / Q < k ∧ (0 < (k - 1) * P % Q → (k - 1) * P / Q + 1 < k) ∧ (k - 1) * P % Q < Q ∧ (k - 1) * P < 10000 := by
  have h1 : (k - 1) * P ≤ (k - 1) * Q := Nat.mul_le_mul_left _ hP
  have h2 := Nat.div_add_mod ((k - 1) * P) Q
  have h3 : (k - 1) * P % Q < Q := Nat.mod_lt _ (by omega)
  have h4 : (k - 1) * P ≤ 23 * 100 := Nat.mul_le_mul (by omega) (by omega)
  have h5 : (k - 1) * P / Q < k := by
    have h9 : (k - 1) * P / Q ≤ (k - 1) * Q / Q := Nat.div_le_div_right h1
    rw [Nat.mul_div_cancel _ (show 0 < Q by omega)] at h9
    omega
  refine ⟨h5, fun hr => ?_, h3, by omega⟩
  by_cases c : (k - 1) * P / Q + 1 < k
  · exact c
  · have e : k - 1 ≤ (k - 1) * P / Q := by omega
    have h6 : Q * (k - 1) ≤ Q * ((k - 1) * P / Q) := Nat.mul_le_mul_left _ e
    rw [Nat.mul_comm Q (k - 1)] at h6
    omega
def r_nu (x y : Int32) (K R Q U : Nat) : Int32 := if U = 0 then x else if U = 1 then y else if U = 2 then (if 2 * R < Q ∨ (2 * R = Q ∧ K % 2 = 0) then x else y) else if U = 3 then x + y else x * nI (Q - R) + y * nI R
def r_dn (Q U : Nat) : Nat := if U = 3 then 2 else if U = 4 then Q else 1
def r_ov (g : Nat → Int32) (k P Q U : Nat) : Int32 := r_nu (g ((k - 1) * P / Q)) (if (k - 1) * P % Q = 0 then g ((k - 1) * P / Q) else g ((k - 1) * P / Q + 1)) ((k - 1) * P / Q) ((k - 1) * P % Q) Q U
theorem r_ov_eq {g h : Nat → Int32} {k P Q U : Nat} (hk : 0 < k) (hk2 : k ≤ 24) (hP : P ≤ Q) (hQ : 1 ≤ Q) (hQ2 : Q ≤ 100) (e : ∀ j, j < k → g j = h j) : r_ov g k P Q U = r_ov h k P Q U := by
  obtain ⟨a, b, -, -⟩ := q_place hk hk2 hP hQ hQ2
  unfold r_ov
  rw [e _ a]
  by_cases z : (k - 1) * P % Q = 0
  · rw [if_pos z, if_pos z]
  · rw [if_neg z, if_neg z, e _ (b (by omega))]
/-! the class -/
theorem p_hasR {c m : Sg} {N W E P Q U F k : Nat} (b : r_bs c m N W E P Q U F) (e : c 8 2 = nI k) (hk : k ≤ 24) : fX0_hasResult c = some (if 0 < k ∧ E ≤ k then 1 else 0, c) := by
  obtain ⟨⟨b1, b2, b3, b4, b5, -⟩, ⟨d1, d2, d3, -⟩, -⟩ := b
  unfold fX0_hasResult fX0_hasResult_b25
  by_cases x : 0 < k
  · rw [if_neg (by rw [e]; exact nI_nle x (by omega))]
    by_cases y : E ≤ k
    · rw [if_neg (by rw [e, d3]; exact nI_nlt y (by omega)), if_pos ⟨x, y⟩]
    · rw [if_pos (by rw [e, d3]; exact nI_lt (by omega) (by omega)), if_neg (fun z => y z.2)]
  · rw [if_pos (by rw [e, show k = 0 by omega]; decide), if_neg (fun z => x z.1)]
theorem p_at {c : Sg} {k j : Nat} (hk : k ≤ 24) (e : c 8 2 = nI k) (hj : j < k) : fX0_at c (nI j) = some (c 9 j, c) := by
  unfold fX0_at
  rw [if_neg (nI_pos (by omega)), if_neg (by rw [e]; exact nI_ge hj (by omega)), p_gd (p_inN (by omega) (by omega)), nI_clamp (by omega)]
theorem p_atN {c : Sg} {k : Nat} {x : Int32} (hk : k ≤ 24) (e : c 8 2 = nI k) (hx : x.toInt < 0 ∨ (k : Int) ≤ x.toInt) : fX0_at c x = some (100000000, c) := by
  have w0 : (0 : Int32).toInt = 0 := rfl
  unfold fX0_at fX0_at_b21
  by_cases y : x < 0
  · rw [if_pos y]
  · rw [if_neg y, if_pos (by rw [q_l, e, nI_toInt (by omega)]; rw [q_i, w0] at y; omega)]
theorem p_pw {c m : Sg} {N W E P Q U F k : Nat} (b : r_bs c m N W E P Q U F) (e : c 8 2 = nI k) (h0 : 0 < k) (hk : k ≤ 24) : fX0_placeWhole c = some (nI ((k - 1) * P / Q), c) := by
  obtain ⟨⟨b1, b2, b3, b4, b5, b6, b7, b8, -⟩, ⟨d1, d2, d3, d4, d5, -⟩, -⟩ := b
  obtain ⟨-, -, -, hb⟩ := q_place h0 hk b6 b7 b8
  unfold fX0_placeWhole
  rw [if_pos (by rw [d5]; exact nI_le (a := 1) b7 (by omega)), d5, p_gd (p_nz (by omega) (by omega)), e, d4, q_pred h0, pk_mul, pk_div (by omega) (by omega) (by omega)]
theorem p_prs {c m : Sg} {N W E P Q U F k : Nat} (b : r_bs c m N W E P Q U F) (e : c 8 2 = nI k) (h0 : 0 < k) (hk : k ≤ 24) : fX0_placeRest c = some (nI ((k - 1) * P % Q), c) := by
  obtain ⟨⟨b1, b2, b3, b4, b5, b6, b7, b8, -⟩, ⟨d1, d2, d3, d4, d5, -⟩, -⟩ := b
  obtain ⟨-, -, -, hb⟩ := q_place h0 hk b6 b7 b8
  unfold fX0_placeRest
  rw [if_pos (by rw [d5]; exact nI_le (a := 1) b7 (by omega)), d5, p_gd (p_nz (by omega) (by omega)), e, d4, q_pred h0, pk_mul, q_rem (by omega) (by omega) (by omega), p_lt]
theorem q_near {K R Q : Nat} (hR : R < 1000) (hQ : Q < 1000) (hK : K < 10000) : ((2 : Int32) * nI R < nI Q ↔ 2 * R < Q) ∧ ((2 : Int32) * nI R = nI Q ↔ 2 * R = Q) ∧ (s_rem (nI K) 2 = 0 ↔ K % 2 = 0) := by
  have e : (2 : Int32) * nI R = nI (2 * R) := pk_mul 2 R
  have e2 : s_rem (nI K) 2 = nI (K % 2) := q_rem (d := 2) (by omega) (by omega) (by omega)
  rw [e, e2]
  refine ⟨nI_ltI (by omega) (by omega), nI_eq (by omega) (by omega), ?_⟩
  rw [show (0 : Int32) = nI 0 from rfl]
  exact nI_eq (by omega) (by omega)
theorem p_b31 {c : Sg} {x y : Int32} {K R Q U : Nat} (hU : U ≤ 4) (e6 : c 6 6 = nI U) (e5 : c 6 5 = nI Q) (hR : R ≤ Q) (hQ : Q ≤ 100) (hK : K < 10000) : fX0_numerator_b31 c (nI K) (nI R) x y = some (r_nu x y K R Q U, c) := by
  obtain ⟨n1, n2, n3⟩ := q_near (K := K) (R := R) (Q := Q) (by omega) (by omega) hK
  unfold fX0_numerator_b31
  rw [e6]
  rcases (show U = 0 ∨ U = 1 ∨ U = 2 ∨ U = 3 ∨ U = 4 by omega) with rfl | rfl | rfl | rfl | rfl
  · rw [if_pos (by decide)]; rfl
  · rw [if_neg (by decide), if_pos (by decide)]; rfl
  · have hr : r_nu x y K R Q 2 = (if 2 * R < Q ∨ (2 * R = Q ∧ K % 2 = 0) then x else y) := rfl
    rw [if_neg (by decide), if_neg (by decide), if_pos (by decide), hr]
    unfold fX0_isNearLower fX0_isNearLower_b32 fX0_isNearLower_b36
    rw [e5]
    by_cases h1 : 2 * R < Q
    · rw [if_pos (n1.mpr h1), p_bi, if_neg (by decide), if_pos (Or.inl h1)]
    · rw [if_neg (fun z => h1 (n1.mp z))]
      by_cases h2 : 2 * R = Q
      · rw [if_pos (n2.mpr h2), p_lt]
        by_cases h3 : K % 2 = 0
        · rw [if_pos (n3.mpr h3), p_bi, if_neg (by decide), if_pos (Or.inr ⟨h2, h3⟩)]
        · rw [if_neg (fun z => h3 (n3.mp z)), p_bi, if_pos rfl, if_neg (fun z => z.elim h1 (fun w => h3 w.2))]
      · rw [if_neg (fun z => h2 (n2.mp z)), p_bi, if_pos rfl, if_neg (fun z => z.elim h1 (fun w => h2 w.1))]
  · rw [if_neg (by decide), if_neg (by decide), if_neg (by decide), if_pos (by decide)]; rfl
  · rw [if_neg (by decide), if_neg (by decide), if_neg (by decide), if_neg (by decide), e5, pk_sub hR]; rfl
theorem p_num {c m : Sg} {N W E P Q U F k : Nat} (b : r_bs c m N W E P Q U F) (e : c 8 2 = nI k) (h0 : 0 < k) (hk : k ≤ 24) : fX0_numerator c = some (r_ov (c 9) k P Q U, c) := by
  have a1 := p_pw b e h0 hk
  have a2 := p_prs b e h0 hk
  obtain ⟨⟨b1, b2, b3, b4, b5, b6, b7, b8, b9, -⟩, ⟨d1, d2, d3, d4, d5, d6, -⟩, -⟩ := b
  obtain ⟨p1, p2, p3, p4⟩ := q_place h0 hk b6 b7 b8
  unfold fX0_numerator
  rw [a1, p_bi, a2, p_bi, p_at hk e p1, p_bi]
  unfold r_ov
  by_cases z : (k - 1) * P % Q = 0
  · rw [if_pos (by rw [z]; decide), if_pos z, p_b31 b9 d6 d5 (by omega) b8 (by omega)]
  · rw [if_neg (nI_nle (by omega) (by omega)), if_neg z, nI_1, p_at hk e (p2 (by omega)), p_bi, p_b31 b9 d6 d5 (by omega) b8 (by omega)]
theorem p_den {c m : Sg} {N W E P Q U F : Nat} (b : r_bs c m N W E P Q U F) : fX0_denominator c = some (nI (r_dn Q U), c) := by
  obtain ⟨⟨b1, b2, b3, b4, b5, b6, b7, b8, b9, -⟩, ⟨d1, d2, d3, d4, d5, d6, -⟩, -⟩ := b
  unfold fX0_denominator
  rw [d6]
  rcases (show U = 0 ∨ U = 1 ∨ U = 2 ∨ U = 3 ∨ U = 4 by omega) with rfl | rfl | rfl | rfl | rfl
  · rw [if_neg (by decide), if_neg (by decide)]; rfl
  · rw [if_neg (by decide), if_neg (by decide)]; rfl
  · rw [if_neg (by decide), if_neg (by decide)]; rfl
  · rw [if_pos (by decide)]; rfl
  · rw [if_neg (by decide), if_pos (by decide), d5]; rfl
/-! the reference -/
theorem p_b135 {σ : Sg} {x y y0 : Int32} {K R Q U : Nat} (hU : U ≤ 4) (e : σ 1 100 = nI U) (e18 : σ 0 18 = nI R) (hRQ : R ≤ Q) (hy : y0 = if 2 * R < Q ∨ (2 * R = Q ∧ K % 2 = 0) then 1 else 0) : ∃ m2, fX7_isResult_b135 σ (nI Q) x y y0 = some (1, m2) ∧ r_ms σ m2 ∧ m2 5 = σ 5 ∧ (∀ i, i ≠ 19 → i ≠ 20 → m2 0 i = σ 0 i) ∧ m2 0 19 = r_nu x y K R Q U ∧ m2 0 20 = nI (r_dn Q U) := by
  have e1 : s_up σ 0 20 1 1 100 = nI U := e
  have e2 : s_up σ 0 20 1 0 18 = nI R := e18
  have g1 : ∀ v : Int32, r_ms σ (s_up (s_up σ 0 20 1) 0 19 v) := fun v => r_ms_t (r_ms_0 _ _ (by omega)) (r_ms_0 _ _ (by omega))
  have g2 : ∀ (v : Int32) (i : Nat), i ≠ 19 → i ≠ 20 → s_up (s_up σ 0 20 1) 0 19 v 0 i = σ 0 i := fun v i h1 h2 => by
    show upd (upd (σ 0) 20 1) 19 v i = _
    rw [p_upd, if_neg h1, p_upd, if_neg h2]
  have g3 : ∀ v w : Int32, r_ms σ (s_up (s_up (s_up σ 0 20 1) 0 19 v) 0 20 w) := fun v w => r_ms_t (g1 v) (r_ms_0 _ _ (by omega))
  have g4 : ∀ (v w : Int32) (i : Nat), i ≠ 19 → i ≠ 20 → s_up (s_up (s_up σ 0 20 1) 0 19 v) 0 20 w 0 i = σ 0 i := fun v w i h1 h2 => by
    show upd (upd (upd (σ 0) 20 1) 19 v) 20 w i = _
    rw [p_upd, if_neg h2, p_upd, if_neg h1, p_upd, if_neg h2]
  unfold fX7_isResult_b135 fX7_isResult_b260 fX7_isResult_b211
  rw [p_lt, e1]
  rcases (show U = 0 ∨ U = 1 ∨ U = 2 ∨ U = 3 ∨ U = 4 by omega) with rfl | rfl | rfl | rfl | rfl
  · exact ⟨s_up (s_up σ 0 20 1) 0 19 x, by rw [if_pos (by decide), p_lt], g1 _, rfl, g2 _, rfl, rfl⟩
  · exact ⟨s_up (s_up σ 0 20 1) 0 19 y, by rw [if_neg (by decide), if_pos (by decide), p_lt], g1 _, rfl, g2 _, rfl, rfl⟩
  · have hr : r_nu x y K R Q 2 = (if 2 * R < Q ∨ (2 * R = Q ∧ K % 2 = 0) then x else y) := rfl
    by_cases z : 2 * R < Q ∨ (2 * R = Q ∧ K % 2 = 0)
    · rw [if_pos z] at hy
      exact ⟨s_up (s_up σ 0 20 1) 0 19 x, by rw [if_neg (by decide), if_neg (by decide), if_pos (by decide), hy, if_neg (by decide), p_lt]; rfl, g1 _, rfl, g2 _, by rw [hr, if_pos z]; rfl, rfl⟩
    · rw [if_neg z] at hy
      exact ⟨s_up (s_up σ 0 20 1) 0 19 y, by rw [if_neg (by decide), if_neg (by decide), if_pos (by decide), hy, if_pos rfl, p_lt]; rfl, g1 _, rfl, g2 _, by rw [hr, if_neg z]; rfl, rfl⟩
  · exact ⟨s_up (s_up (s_up σ 0 20 1) 0 19 (x + y)) 0 20 2, by rw [if_neg (by decide), if_neg (by decide), if_neg (by decide), if_pos (by decide), p_lt, p_lt], g3 _ _, rfl, g4 _ _, rfl, rfl⟩
  · exact ⟨s_up (s_up (s_up σ 0 20 1) 0 19 (x * nI (Q - R) + y * nI R)) 0 20 (nI Q), by rw [if_neg (by decide), if_neg (by decide), if_neg (by decide), if_neg (by decide), e2, pk_sub hRQ, p_lt, p_lt], g3 _ _, rfl, g4 _ _, rfl, rfl⟩
theorem p_b99 {σ : Sg} {x y : Int32} {K R Q U : Nat} (hU : U ≤ 4) (e : σ 1 100 = nI U) (e17 : σ 0 17 = nI K) (e18 : σ 0 18 = nI R) (hRQ : R ≤ Q) (hQ : Q ≤ 100) (hK : K < 10000) : ∃ m2, fX7_isResult_b99 σ (nI Q) x y = some (1, m2) ∧ r_ms σ m2 ∧ m2 5 = σ 5 ∧ (∀ i, i ≠ 19 → i ≠ 20 → m2 0 i = σ 0 i) ∧ m2 0 19 = r_nu x y K R Q U ∧ m2 0 20 = nI (r_dn Q U) := by
  obtain ⟨n1, n2, n3⟩ := q_near (K := K) (R := R) (Q := Q) (by omega) (by omega) hK
  unfold fX7_isResult_b99 fX7_isResult_b130 fX7_isResult_b134
  rw [e18, e17]
  by_cases h1 : 2 * R < Q
  · rw [if_pos (n1.mpr h1)]
    exact p_b135 hU e e18 hRQ (by rw [if_pos (Or.inl h1)])
  · rw [if_neg (fun z => h1 (n1.mp z))]
    by_cases h2 : 2 * R = Q
    · rw [if_pos (n2.mpr h2), p_lt]
      by_cases h3 : K % 2 = 0
      · rw [if_pos (n3.mpr h3)]
        exact p_b135 hU e e18 hRQ (by rw [if_pos (Or.inr ⟨h2, h3⟩)])
      · rw [if_neg (fun z => h3 (n3.mp z))]
        exact p_b135 hU e e18 hRQ (by rw [if_neg (fun z => z.elim h1 (fun w => h3 w.2))])
    · rw [if_neg (fun z => h2 (n2.mp z))]
      exact p_b135 hU e e18 hRQ (by rw [if_neg (fun z => z.elim h1 (fun w => h2 w.1))])
/-- one reading's row and result, the reference beside a class whose row is that reading's -/
theorem p_res {c m : Sg} {N W E P Q U F t k : Nat} (b : r_bs c m N W E P Q U F) (ht : t < N) (h : r_hc c (m 1) (t + 1 - W) (t + 1 - (t + 1 - W)) k) : ∃ m', fX7_isResult m (nI t) = some (if 0 < k ∧ E ≤ k then 1 else 0, m') ∧ r_ms m m' ∧ r_pr c m' k ∧ (0 < k ∧ E ≤ k → m' 0 17 = nI ((k - 1) * P / Q) ∧ m' 0 18 = nI ((k - 1) * P % Q) ∧ m' 0 19 = r_ov (c 9) k P Q U ∧ m' 0 20 = nI (r_dn Q U)) := by
  obtain ⟨m1, k1, f1, s1, h1⟩ := p_rowOf b ht
  obtain ⟨⟨b1, b2, b3, b4, b5, b6, b7, b8, b9, -⟩, -, ⟨d1, d2, d3, d4, d5, d6, -⟩, -⟩ := b
  have hp := r_pr_of (by omega) h h1
  obtain ⟨hk, e1, e2, hj, hs, hb⟩ := id hp
  have g := r_ms_1 s1
  unfold fX7_isResult fX7_isResult_b26
  rw [f1, p_bv, e2, g, d3]
  by_cases x : 0 < k ∧ E ≤ k
  · obtain ⟨p1, p2, p3, p4⟩ := q_place x.1 hk b6 b7 b8
    have sA : r_ms m1 (s_up (s_up m1 0 17 (nI ((k - 1) * P / Q))) 0 18 (nI ((k - 1) * P % Q))) := r_ms_t (r_ms_0 _ _ (by omega)) (r_ms_0 _ _ (by omega))
    have eU : s_up (s_up m1 0 17 (nI ((k - 1) * P / Q))) 0 18 (nI ((k - 1) * P % Q)) 1 100 = nI U := by rw [r_ms_1 sA, g]; exact d6
    obtain ⟨m2, f2, s2, g5, g0, g19, g20⟩ := p_b99 (σ := s_up (s_up m1 0 17 (nI ((k - 1) * P / Q))) 0 18 (nI ((k - 1) * P % Q))) (x := m1 5 ((k - 1) * P / Q)) (y := if (k - 1) * P % Q = 0 then m1 5 ((k - 1) * P / Q) else m1 5 ((k - 1) * P / Q + 1)) b9 eU rfl rfl (Nat.le_of_lt p3) b8 (show (k - 1) * P / Q < 10000 by omega)
    refine ⟨m2, ?_, r_ms_t s1 (r_ms_t sA s2), ⟨hk, e1, ?_, ?_, ?_, ?_⟩, fun _ => ⟨?_, ?_, ?_, g20⟩⟩
    · rw [if_neg (nI_nlt x.2 (by omega)), if_neg (nI_ne0 x.1 (by omega)), if_pos x, p_lt, d5, q_pred x.1, d4, pk_mul, p_lt, p_gd (p_nz (by omega) (by omega)), p_lt, pk_div (by omega) (by omega) (by omega), p_gd (p_nz (by omega) (by omega)), q_rem (by omega) (by omega) (by omega), p_lt, p_lt]
      have e17 : s_up (s_up m1 0 17 (nI ((k - 1) * P / Q))) 0 18 (nI ((k - 1) * P % Q)) 0 17 = nI ((k - 1) * P / Q) := rfl
      have e18 : s_up (s_up m1 0 17 (nI ((k - 1) * P / Q))) 0 18 (nI ((k - 1) * P % Q)) 0 18 = nI ((k - 1) * P % Q) := rfl
      have e5 : s_up (s_up m1 0 17 (nI ((k - 1) * P / Q))) 0 18 (nI ((k - 1) * P % Q)) 5 = m1 5 := rfl
      rw [e17, e18, e5, p_gd (p_inN (by omega) (by omega)), p_lt, nI_clamp (by omega)]
      by_cases z : (k - 1) * P % Q = 0
      · rw [if_pos (by rw [z]; decide)]
        rw [if_pos z] at f2
        exact f2
      · rw [if_neg (nI_nle (by omega) (by omega)), nI_1, p_gd (p_inN (by have := p2 (by omega); omega) (by omega)), nI_clamp (by omega)]
        rw [if_neg z] at f2
        exact f2
    · rw [g0 15 (by decide) (by decide)]; exact e2
    · rw [g5]; exact hj
    · rw [g5]; exact hs
    · rw [g5]; exact hb
    · rw [g0 17 (by decide) (by decide)]; rfl
    · rw [g0 18 (by decide) (by decide)]; rfl
    · rw [g19, r_ov_eq x.1 hk b6 b7 b8 hj]; rfl
  · refine ⟨m1, ?_, s1, hp, fun z => absurd z x⟩
    rw [if_neg x]
    by_cases y : k < E
    · rw [if_pos (nI_lt y (by omega))]
    · rw [if_neg (nI_nlt (by omega) (by omega)), if_pos (by rw [show k = 0 by omega]; rfl)]
