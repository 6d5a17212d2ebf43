/-! PURE: the rows of both sides -/
theorem q_nat {x : Int32} (h : 0 ≤ x.toInt) : ∃ j : Nat, j < 2 ^ 31 ∧ x = nI j ∧ x.toInt = j := by
  obtain ⟨j, hj, rfl⟩ := nI_of (x := x) (by rw [q_i]; have : (0 : Int32).toInt = 0 := rfl; omega)
  exact ⟨j, hj, rfl, nI_toInt hj⟩
theorem q_add {a b : Int32} (h0 : -2147483648 ≤ a.toInt + b.toInt) (h1 : a.toInt + b.toInt < 2147483648) : (a + b).toInt = a.toInt + b.toInt := by
  rw [Int32.toInt_add]
  simp only [Int.bmod]
  omega
theorem q_sub {a b : Int32} (h0 : -2147483648 ≤ a.toInt - b.toInt) (h1 : a.toInt - b.toInt < 2147483648) : (a - b).toInt = a.toInt - b.toInt := by
  rw [Int32.toInt_sub]
  simp only [Int.bmod]
  omega
theorem q_mul {a b : Int32} (h0 : -2147483648 ≤ a.toInt * b.toInt) (h1 : a.toInt * b.toInt < 2147483648) : (a * b).toInt = a.toInt * b.toInt := by
  rw [Int32.toInt_mul]
  generalize a.toInt * b.toInt = z at *
  simp only [Int.bmod]
  omega
def r_bs (c m : Sg) (N W E P Q U F : Nat) : Prop :=
  (N ≤ 96 ∧ 1 ≤ W ∧ W ≤ 24 ∧ 1 ≤ E ∧ E ≤ 24 ∧ P ≤ Q ∧ 1 ≤ Q ∧ Q ≤ 100 ∧ U ≤ 4 ∧ F ≤ 2) ∧
  (c 6 1 = nI N ∧ c 6 2 = nI W ∧ c 6 3 = nI E ∧ c 6 4 = nI P ∧ c 6 5 = nI Q ∧ c 6 6 = nI U ∧ c 6 7 = nI F) ∧
  (m 1 102 = nI N ∧ m 1 96 = nI W ∧ m 1 97 = nI E ∧ m 1 98 = nI P ∧ m 1 99 = nI Q ∧ m 1 100 = nI U ∧ m 1 101 = nI F) ∧
  (∀ i, i < N → c 7 i = m 1 i ∧ r_ok (m 1 i)) ∧ m 0 1 = 1
theorem r_bs_of {c : Sg} {m : Sg} (h : Rel c m) (hon : m 0 1 = 1) : ∃ N W E P Q U F, r_bs c m N W E P Q U F := by
  obtain ⟨n, b1, b2, b3, b4, ⟨d2, d3, d4, d5, d6, d7⟩, b6, b7, b8, b9, b10⟩ := id h.1
  rw [r_pg_on hon] at b3 b4 d2 d3 d4 d5 d6 d7 b6 b7 b8 b9 b10
  obtain ⟨W, _, w1, w2⟩ := q_nat (x := m 1 96) (by omega)
  obtain ⟨E, _, e1, e2⟩ := q_nat (x := m 1 97) (by omega)
  obtain ⟨P, _, p1, p2⟩ := q_nat (x := m 1 98) (by omega)
  obtain ⟨Q, _, q1, q2⟩ := q_nat (x := m 1 99) (by omega)
  obtain ⟨U, _, u1, u2⟩ := q_nat (x := m 1 100) (by omega)
  obtain ⟨F, _, f1, f2⟩ := q_nat (x := m 1 101) (by omega)
  exact ⟨n, W, E, P, Q, U, F, ⟨b1, by omega, by omega, by omega, by omega, by omega, by omega, by omega, by omega, by omega⟩, ⟨b2, by rw [d2, w1], by rw [d3, e1], by rw [d4, p1], by rw [d5, q1], by rw [d6, u1], by rw [d7, f1]⟩, ⟨b3, w1, e1, p1, q1, u1, f1⟩, b4, hon⟩
/-! what calls may scratch -/
def r_cs (c c' : Sg) : Prop := ∀ p, p < 8 ∨ 11 < p → c' p = c p
def r_ms (m m' : Sg) : Prop := (∀ p, ¬ p = 0 → ¬ p = 5 → ¬ p = 6 → ¬ p = 7 → m' p = m p) ∧ ∀ i, i < 15 ∨ 20 < i → m' 0 i = m 0 i
theorem r_cs_r (c : Sg) : r_cs c c := fun _ _ => rfl
theorem r_ms_r (m : Sg) : r_ms m m := ⟨fun _ _ _ _ _ => rfl, fun _ _ => rfl⟩
theorem r_cs_t {a b d : Sg} (h : r_cs a b) (k : r_cs b d) : r_cs a d := fun p hp => by rw [k p hp, h p hp]
theorem r_ms_t {a b d : Sg} (h : r_ms a b) (k : r_ms b d) : r_ms a d := ⟨fun p h0 h5 h6 h7 => by rw [k.1 p h0 h5 h6 h7, h.1 p h0 h5 h6 h7], fun i hi => by rw [k.2 i hi, h.2 i hi]⟩
theorem r_cs_u {c : Sg} {p : Nat} (f : Nat → Int32) (h : 8 ≤ p ∧ p ≤ 11) : r_cs c (s_upr c p f) := fun q hq => by rw [p_upr, if_neg (by omega)]
theorem r_cs_up {c : Sg} {p : Nat} (i : Nat) (v : Int32) (h : 8 ≤ p ∧ p ≤ 11) : r_cs c (s_up c p i v) := r_cs_u _ h
theorem r_ms_u {m : Sg} {p : Nat} (f : Nat → Int32) (h : 5 ≤ p ∧ p ≤ 7) : r_ms m (s_upr m p f) := ⟨fun q h0 h5 h6 h7 => by rw [p_upr, if_neg (by omega)], fun i _ => by rw [p_upr, if_neg (by omega)]⟩
theorem r_ms_up {m : Sg} {p : Nat} (i : Nat) (v : Int32) (h : 5 ≤ p ∧ p ≤ 7) : r_ms m (s_up m p i v) := r_ms_u _ h
theorem r_ms_0 {m : Sg} (i : Nat) (v : Int32) (h : 15 ≤ i ∧ i ≤ 20) : r_ms m (s_up m 0 i v) := ⟨fun q h0 _ _ _ => by rw [p_up, if_neg h0], fun j hj => by
  show upd (m 0) i v j = _
  rw [p_upd, if_neg (by omega)]⟩
theorem r_ms_1 {m m' : Sg} (h : r_ms m m') : m' 1 = m 1 := h.1 1 (by decide) (by decide) (by decide) (by decide)
theorem r_scr {c c' : Sg} {m m' : Sg} (h : Rel c m) (hc : r_cs c c') (hm : r_ms m m') : Rel c' m' := by
  obtain ⟨h1, h2, h3, h4, h5, h6, h7⟩ := h
  have e1 := r_ms_1 hm
  have e8 := hm.1 8 (by decide) (by decide) (by decide) (by decide)
  have e01 := hm.2 1 (by omega)
  have e2 := hm.1 2 (by decide) (by decide) (by decide) (by decide)
  refine ⟨?_, ?_, ?_, ?_, ?_, ?_, ?_⟩
  · have : r_pg m' = r_pg m := by funext i; unfold r_pg; rw [e01, e1]
    rw [this, hc 6 (by omega), hc 7 (by omega)]; exact h1
  · unfold r_tape
    rw [hc 1 (by omega), hc 2 (by omega), hm.2 3 (by omega), e2]; exact h2
  · rw [hc 3 (by omega), hm.2 4 (by omega)]; exact h3
  · rw [hc 0 (by omega), hm.2 27 (by omega)]; exact h4
  · unfold r_img
    rw [hc 17 (by omega), hc 13 (by omega), hc 14 (by omega), hc 15 (by omega), hc 16 (by omega), e8, e1]; exact h5
  · exact r_sheet_to h6 (fun p hp => hc p (by omega)) (hm.1 9 (by decide) (by decide) (by decide) (by decide)) (hm.1 10 (by decide) (by decide) (by decide) (by decide)) (hm.1 11 (by decide) (by decide) (by decide) (by decide))
  · unfold r_con
    rw [hm.1 3 (by decide) (by decide) (by decide) (by decide), hm.1 4 (by decide) (by decide) (by decide) (by decide), e8, e01]; exact h7
theorem r_bs_s {c c' m m' : Sg} {N W E P Q U F : Nat} (h : r_bs c m N W E P Q U F) (hc : r_cs c c') (hm : r_ms m m') : r_bs c' m' N W E P Q U F := by
  unfold r_bs
  rw [hc 6 (by omega), hc 7 (by omega), r_ms_1 hm, hm.2 1 (by omega)]
  exact h
/-! the class's row, the reference's row -/
def r_hc (c : Sg) (u : Nat → Int32) (a len k : Nat) : Prop := c 8 2 = nI k ∧ r_is u a len (c 9) k
def r_hm (m : Sg) (u : Nat → Int32) (a len k : Nat) : Prop := m 0 15 = nI k ∧ r_is u a len (m 5) k
theorem p_val {c : Sg} {N j : Nat} (hN : N ≤ 96) (e : c 6 1 = nI N) (hj : j < N) : fX1_valueAt_6 c (nI j) = some (c 7 j, c) := by
  unfold fX1_valueAt_6
  rw [p_has hN e, if_pos (by rw [nI_toInt (by omega)]; omega), p_bi, if_neg (by decide), p_gd (p_inN (by omega) (by omega)), nI_clamp (by omega)]
theorem p_valN {c : Sg} {N : Nat} {x : Int32} (hN : N ≤ 96) (e : c 6 1 = nI N) (hx : x.toInt < 0) : fX1_valueAt_6 c x = some (100000000, c) := by
  unfold fX1_valueAt_6
  rw [p_has hN e, if_neg (by omega), p_bi, if_pos rfl]
theorem p_putW {c : Sg} {u : Nat → Int32} {a len k : Nat} (hk : k < 24) (h : r_hc c u a len k) (ok : r_ok (u (a + len))) : ∃ c' k', fX0_putIn c (u (a + len)) = some c' ∧ r_cs c c' ∧ r_hc c' u a (len + 1) k' := by
  by_cases z : u (a + len) = 100000000
  · exact ⟨c, k, by rw [z]; exact p_putInN c, r_cs_r c, h.1, r_is_skip h.2 z⟩
  · refine ⟨_, k + 1, p_putIn hk h.1 z, r_cs_t (r_cs_u _ (by omega)) (r_cs_up _ _ (by omega)), rfl, ?_⟩
    exact r_is_ins h.2 z ok
theorem p_loadL {u : Nat → Int32} {N t a : Nat} (hN : N ≤ 96) (ht : t < N) (ha : t + 1 ≤ a + 24) : ∀ (f : Nat) (c : Sg) (len k : Nat), c 6 1 = nI N → (∀ i, i < N → c 7 i = u i ∧ r_ok (u i)) → a + len ≤ t + 1 → t + 1 - (a + len) < f → r_hc c u a len k → ∃ c' k', fX0_load_b20_L f c (nI t) (nI (a + len)) = some c' ∧ r_cs c c' ∧ r_hc c' u a (t + 1 - a) k' := by
  intro f
  induction f with
  | zero => intro c len k _ _ _ h; omega
  | succ f ih =>
    intro c len k e hu hl hf h
    show ∃ c' k', fX0_load_b20 (fX0_load_b20_L f) c (nI t) (nI (a + len)) = some c' ∧ _
    unfold fX0_load_b20
    by_cases x : a + len = t + 1
    · refine ⟨c, k, ?_, r_cs_r c, ?_⟩
      · rw [if_pos (by rw [nI_ltI (by omega) (by omega)]; omega)]
      · rw [show t + 1 - a = len by omega]; exact h
    · obtain ⟨c1, k1, f1, s1, h1⟩ := p_putW (by have := r_is_len h.2; omega) h (hu (a + len) (by omega)).2
      obtain ⟨c2, k2, f2, s2, h2⟩ := ih c1 (len + 1) k1 (by rw [s1 6 (by omega)]; exact e) (by rw [s1 7 (by omega)]; exact hu) (by omega) (by omega) h1
      refine ⟨c2, k2, ?_, r_cs_t s1 s2, h2⟩
      rw [if_neg (by rw [nI_ltI (by omega) (by omega)]; omega), p_val hN e (by omega), p_bi, (hu (a + len) (by omega)).1, f1, p_bv, p_lt, nI_1]
      exact f2
theorem q_from {t W : Nat} (ht : t < 96) (hW : W ≤ 24) : (nI t - nI W + 1).toInt = (t : Int) - W + 1 := by
  have w1 : (1 : Int32).toInt = 1 := rfl
  have e := pk_sub_toInt (a := t) (b := W) (by omega) (by omega)
  rw [q_add (by omega) (by omega), e, w1]
theorem p_load {c m : Sg} {N W E P Q U F t : Nat} (b : r_bs c m N W E P Q U F) (ht : t < N) : ∃ c' k, fX0_load c (nI t) = some c' ∧ r_cs c c' ∧ r_hc c' (m 1) (t + 1 - W) (t + 1 - (t + 1 - W)) k := by
  obtain ⟨⟨b1, b2, b3, -⟩, ⟨d1, d2, -⟩, -, hu, -⟩ := b
  have s0 : r_cs c (s_up c 8 2 0) := r_cs_up _ _ (by omega)
  obtain ⟨c2, k2, f2, s2, h2⟩ := p_loadL (u := m 1) (a := t + 1 - W) b1 ht (by omega) s_fu (s_up c 8 2 0) 0 0 d1 hu (by omega) (by rw [s_fu_e]; omega) ⟨rfl, r_is_0 _ _ _⟩
  refine ⟨c2, k2, ?_, r_cs_t s0 s2, h2⟩
  unfold fX0_load fX0_clear
  have e6 : s_up c 8 2 0 6 2 = nI W := d2
  have e : s_max 0 (nI t - nI W + 1) = nI (t + 1 - W) := by
    have w0 : (0 : Int32).toInt = 0 := rfl
    have e1 := q_from (t := t) (W := W) (by omega) (by omega)
    unfold s_max
    by_cases x : t + 1 ≤ W
    · rw [if_neg (by rw [q_i, e1, w0]; omega), show t + 1 - W = 0 by omega]; rfl
    · rw [if_pos (by rw [q_i, e1, w0]; omega), q_e, e1, nI_toInt (by omega)]; omega
  rw [p_lt, p_bv, p_lt, e6, e]
  exact f2
theorem p_rowL {u : Nat → Int32} {N t a : Nat} (hN : N ≤ 96) (ht : t < N) (ha : t + 1 ≤ a + 24) (hok : ∀ i, i < N → r_ok (u i)) : ∀ (f : Nat) (m : Sg) (len k : Nat), m 1 = u → a + len ≤ t + 1 → t + 1 - (a + len) < f → r_hm m u a len k → ∃ m' k', fX7_rowOf_b27_L f m (nI t) (nI (a + len)) = some m' ∧ r_ms m m' ∧ r_hm m' u a (t + 1 - a) k' := by
  intro f
  induction f with
  | zero => intro m len k _ _ h; omega
  | succ f ih =>
    intro m len k e hl hf h
    show ∃ m' k', fX7_rowOf_b27 (fX7_rowOf_b27_L f) m (nI t) (nI (a + len)) = some m' ∧ _
    unfold fX7_rowOf_b27 fX7_rowOf_b70
    by_cases x : a + len = t + 1
    · refine ⟨m, k, ?_, r_ms_r m, ?_⟩
      · rw [if_pos (by rw [nI_ltI (by omega) (by omega)]; omega)]
      · rw [show t + 1 - a = len by omega]; exact h
    · have hk : k < 24 := by have := r_is_len h.2; omega
      by_cases z : u (a + len) = 100000000
      · obtain ⟨m2, k2, f2, s2, h2⟩ := ih m (len + 1) k e (by omega) (by omega) ⟨h.1, r_is_skip h.2 z⟩
        refine ⟨m2, k2, ?_, s2, h2⟩
        rw [if_neg (by rw [nI_ltI (by omega) (by omega)]; omega), p_gd (p_inN (by omega) (by omega)), nI_clamp (by omega), e, if_pos z, p_lt, nI_1]
        exact f2
      · have s1 : r_ms m (s_up (s_upr m 5 (r_il (u (a + len)) k (m 5))) 0 15 (nI (k + 1))) := r_ms_t (r_ms_u _ (by omega)) (r_ms_0 _ _ (by omega))
        obtain ⟨m2, k2, f2, s2, h2⟩ := ih (s_up (s_upr m 5 (r_il (u (a + len)) k (m 5))) 0 15 (nI (k + 1))) (len + 1) (k + 1) (by rw [r_ms_1 s1]; exact e) (by omega) (by omega) ⟨rfl, r_is_ins h.2 z (hok _ (by omega))⟩
        refine ⟨m2, k2, ?_, r_ms_t s1 s2, h2⟩
        rw [if_neg (by rw [nI_ltI (by omega) (by omega)]; omega), p_gd (p_inN (by omega) (by omega)), nI_clamp (by omega), e, if_neg z, p_gd (p_inN (by omega) (by omega)), h.1, p_puts hk, p_bv, p_lt, p_lt, nI_1]
        have e5 : s_upr m 5 (r_il (u (a + len)) k (m 5)) 0 15 + 1 = nI (k + 1) := by
          show m 0 15 + 1 = _
          rw [h.1, nI_1]
        rw [e5]
        exact f2
theorem p_rowOf {c m : Sg} {N W E P Q U F t : Nat} (b : r_bs c m N W E P Q U F) (ht : t < N) : ∃ m' k, fX7_rowOf m (nI t) = some m' ∧ r_ms m m' ∧ r_hm m' (m 1) (t + 1 - W) (t + 1 - (t + 1 - W)) k := by
  obtain ⟨⟨b1, b2, b3, -⟩, -, ⟨d1, d2, -⟩, hu, -⟩ := b
  have s0 : r_ms m (s_up m 0 15 0) := r_ms_0 _ _ (by omega)
  obtain ⟨m2, k2, f2, s2, h2⟩ := p_rowL (u := m 1) (a := t + 1 - W) b1 ht (by omega) (fun i hi => (hu i hi).2) s_fu (s_up m 0 15 0) 0 0 rfl (by omega) (by rw [s_fu_e]; omega) ⟨rfl, r_is_0 _ _ _⟩
  refine ⟨m2, k2, ?_, r_ms_t s0 s2, h2⟩
  unfold fX7_rowOf fX7_rowOf_b26
  have e6 : s_up m 0 15 0 1 96 = nI W := d2
  have w0 : (0 : Int32).toInt = 0 := rfl
  have e1 := q_from (t := t) (W := W) (by omega) (by omega)
  rw [p_lt, p_lt, e6]
  by_cases x : t + 1 ≤ W
  · by_cases y : t + 1 = W
    · have e7 : nI t - nI W + 1 = nI (t + 1 - W) := by rw [q_e, e1, nI_toInt (by omega)]; omega
      rw [if_pos (by rw [q_l, e1, w0]; omega), e7]; exact f2
    · rw [if_neg (by rw [q_l, e1, w0]; omega)]
      have e7 : (0 : Int32) = nI (t + 1 - W) := by rw [show t + 1 - W = 0 by omega]; rfl
      have f3 := f2
      rw [Nat.add_zero, ← e7] at f3
      exact f3
  · have e7 : nI t - nI W + 1 = nI (t + 1 - W) := by rw [q_e, e1, nI_toInt (by omega)]; omega
    rw [if_pos (by rw [q_l, e1, w0]; omega), e7]; exact f2
/-! sliding -/
theorem p_clL {c : Sg} {v : Int32} {k : Nat} (hk : k ≤ 24) (e : c 8 2 = nI k) (hs : r_so (c 9) k) : ∀ (f i : Nat), i ≤ r_le (c 9) k (v.toInt - 1) → k - i < f → fX0_countLess_b2_L f c v (nI i) = some (nI (r_le (c 9) k (v.toInt - 1)), c) := by
  intro f
  induction f with
  | zero => intro i _ h; omega
  | succ f ih =>
    intro i hi hf
    have hR := r_le_n (c 9) k (v.toInt - 1)
    show fX0_countLess_b2 (fX0_countLess_b2_L f) c v (nI i) = _
    unfold fX0_countLess_b2 fX0_countLess_b26
    by_cases x : k ≤ i
    · rw [if_pos (by rw [e, nI_leI (by omega) (by omega)]; exact x), show r_le (c 9) k (v.toInt - 1) = i by omega]
    · have hj := r_le_iff k hs (v.toInt - 1) i (by omega)
      rw [if_neg (by rw [e, nI_leI (by omega) (by omega)]; exact x), p_gd (p_inN (by omega) (by omega)), nI_clamp (by omega)]
      by_cases y : v ≤ c 9 i
      · rw [if_pos y]
        rw [q_l] at y
        rw [show r_le (c 9) k (v.toInt - 1) = i by omega]
      · rw [if_neg y, p_lt, nI_1]
        rw [q_l] at y
        exact ih (i + 1) (by omega) (by omega)
theorem p_cl {c : Sg} {v : Int32} {k : Nat} (hk : k ≤ 24) (e : c 8 2 = nI k) (hs : r_so (c 9) k) : fX0_countLess c v = some (nI (r_le (c 9) k (v.toInt - 1)), c) := by
  unfold fX0_countLess
  exact p_clL hk e hs s_fu 0 (by omega) (by rw [s_fu_e]; omega)
theorem p_toL {n : Nat} (hn : n < 24) : ∀ (f i : Nat) (c : Sg), c 8 2 = nI n → i ≤ n → n - i < f → fX0_takeOut_b35_L f c (nI i) = some (s_upr c 9 (r_dl (c 9) i n)) := by
  intro f
  induction f with
  | zero => intro i c _ _ h; omega
  | succ f ih =>
    intro i c e hi hf
    show fX0_takeOut_b35 (fX0_takeOut_b35_L f) c (nI i) = _
    unfold fX0_takeOut_b35
    by_cases x : n ≤ i
    · rw [if_pos (by rw [e, nI_leI (by omega) (by omega)]; exact x)]
      have : s_upr c 9 (r_dl (c 9) i n) = c := by
        funext q
        rw [p_upr]
        by_cases hq : q = 9
        · rw [if_pos hq, hq]
          funext j
          unfold r_dl
          rw [if_neg (by omega)]
        · rw [if_neg hq]
      rw [this]
    · rw [if_neg (by rw [e, nI_leI (by omega) (by omega)]; exact x), nI_1, p_gd (p_inN (by omega) (by omega)), p_gd (p_inN (by omega) (by omega)), p_lt, p_lt, nI_clamp (by omega), nI_clamp (by omega), ih (i + 1) (s_up c 9 i (c 9 (i + 1))) e (by omega) (by omega)]
      have : s_upr (s_up c 9 i (c 9 (i + 1))) 9 (r_dl (s_up c 9 i (c 9 (i + 1)) 9) (i + 1) n) = s_upr c 9 (r_dl (c 9) i n) := by
        funext q
        rw [p_upr, p_upr]
        by_cases hq : q = 9
        · rw [if_pos hq, if_pos hq]
          show r_dl (upd (c 9) i (c 9 (i + 1))) (i + 1) n = _
          funext j
          unfold r_dl
          by_cases h1 : j = i
          · rw [if_neg (by omega), if_pos (by omega), p_upd, if_pos h1, h1]
          · by_cases h2 : i ≤ j ∧ j < n
            · rw [if_pos (by omega), if_pos h2, p_upd, if_neg (by omega)]
            · rw [if_neg (by omega), if_neg h2, p_upd, if_neg h1]
        · rw [if_neg hq, if_neg hq, p_up, if_neg hq]
      rw [this]
theorem p_takeN {c : Sg} {u : Nat → Int32} {a len k : Nat} (hk : k ≤ 24) (h : r_hc c u a len k) : fX0_takeOut c 100000000 = some c := by
  have w : (100000000 : Int32).toInt = 100000000 := rfl
  have e : r_le (c 9) k ((100000000 : Int32).toInt - 1) = k := r_le_all k (fun j hj => by rw [w]; have := (h.2.1 j hj).2; omega)
  unfold fX0_takeOut
  rw [p_cl hk h.1 h.2.2.1, e, p_bi, if_pos (by rw [h.1]; exact nI_le (Nat.le_refl _) (by omega))]
theorem p_takeW {c : Sg} {u : Nat → Int32} {a len k : Nat} (hk : k ≤ 24) (h : r_hc c u a (len + 1) k) : ∃ c' k', fX0_takeOut c (u a) = some c' ∧ r_cs c c' ∧ r_hc c' u (a + 1) len k' := by
  by_cases z : u a = 100000000
  · exact ⟨c, k, by rw [z]; exact p_takeN hk h, r_cs_r c, h.1, r_is_out h.2 z⟩
  · obtain ⟨i, hi, hin, hg, hd⟩ := r_is_del h.2 z
    refine ⟨s_upr (s_up c 8 2 (nI (k - 1))) 9 (r_dl (c 9) i (k - 1)), k - 1, ?_, r_cs_t (r_cs_up _ _ (by omega)) (r_cs_u _ (by omega)), rfl, hd⟩
    unfold fX0_takeOut
    rw [p_cl hk h.1 h.2.2.1, ← hi, p_bi, if_neg (by rw [h.1]; exact nI_ge hin (by omega)), p_gd (p_inN (by omega) (by omega)), nI_clamp (by omega), if_pos hg, p_lt, h.1]
    have e : nI k - 1 = nI (k - 1) := by
      obtain ⟨l, rfl⟩ : ∃ l, k = l + 1 := ⟨k - 1, by omega⟩
      exact nI_pred l
    rw [e]
    exact p_toL (by omega) s_fu i (s_up c 8 2 (nI (k - 1))) rfl (by omega) (by rw [s_fu_e]; omega)
theorem p_slide {c m : Sg} {N W E P Q U F t k : Nat} (b : r_bs c m N W E P Q U F) (ht : t < N) (h : r_hc c (m 1) (t - W) (t - (t - W)) k) : ∃ c' k', fX0_slideTo c (nI t) = some c' ∧ r_cs c c' ∧ r_hc c' (m 1) (t + 1 - W) (t + 1 - (t + 1 - W)) k' := by
  obtain ⟨⟨b1, b2, b3, -⟩, ⟨d1, d2, -⟩, -, hu, -⟩ := b
  have hk := r_is_len h.2
  have hx : ∃ c1 k1, s_bi (fX1_valueAt_6 c (nI t - c 6 2)) (fun r3 σ1 => fX0_takeOut σ1 r3) = some c1 ∧ r_cs c c1 ∧ r_hc c1 (m 1) (t + 1 - W) (t - (t + 1 - W)) k1 ∧ k1 < 24 := by
    by_cases x : t < W
    · refine ⟨c, k, ?_, r_cs_r c, ?_, by omega⟩
      · rw [d2, p_valN b1 d1 (by rw [pk_sub_toInt (by omega) (by omega)]; omega), p_bi]
        exact p_takeN (by omega) h
      · rw [show t + 1 - W = 0 by omega]
        rw [show t - W = 0 by omega] at h
        exact h
    · rw [show t - (t - W) = (W - 1) + 1 by omega] at h
      obtain ⟨c1, k1, f1, s1, h1⟩ := p_takeW (by omega) h
      refine ⟨c1, k1, ?_, s1, ?_, ?_⟩
      · rw [d2, pk_sub (by omega), p_val b1 d1 (by omega), p_bi, (hu _ (by omega)).1]
        exact f1
      · rw [show t + 1 - W = t - W + 1 by omega, show t - (t - W + 1) = W - 1 by omega]; exact h1
      · have := r_is_len h1.2; omega
  obtain ⟨c1, k1, f1, s1, h1, hk1⟩ := hx
  have ea : t + 1 - W + (t - (t + 1 - W)) = t := by omega
  obtain ⟨c2, k2, f2, s2, h2⟩ := p_putW hk1 h1 (by rw [ea]; exact (hu t ht).2)
  rw [ea] at f2
  rw [show t - (t + 1 - W) + 1 = t + 1 - (t + 1 - W) by omega] at h2
  refine ⟨c2, k2, ?_, r_cs_t s1 s2, h2⟩
  unfold fX0_slideTo
  have e : ∀ (x : Option (Int32 × Sg)) (K : Sg → Option Sg), s_bi x (fun r3 σ1 => s_bv (fX0_takeOut σ1 r3) K) = s_bv (s_bi x (fun r3 σ1 => fX0_takeOut σ1 r3)) K := fun x K => by
    cases x with
    | none => rfl
    | some y => rfl
  rw [e, f1, p_bv, p_val b1 (by rw [s1 6 (by omega)]; exact d1) ht, p_bi, s1 7 (by omega), (hu t ht).1, f2, p_bv]
