/-! PURE: read -/
theorem r_rd2 {c : Sg} {m : Sg} (hon : m 0 1 = 1) (h : Rel c m) {c' m' : Sg} (hc : ∀ p, p ≠ 6 → p ≠ 7 → c' p = c p) (hm : ∀ p, p ≠ 1 → m' p = m p) (hm2 : ∀ i, 102 < i → i < 412 → m' 1 i = m 1 i) (hs : r_ser (c' 6) (c' 7) (m' 1)) : Rel c' m' := by
  obtain ⟨h1, h2, h3, h4, h5, h6, h7⟩ := h
  have e0 : m' 0 = m 0 := hm 0 (by decide)
  have hon' : m' 0 1 = 1 := by rw [e0]; exact hon
  refine ⟨?_, ?_, ?_, ?_, ?_, ?_, ?_⟩
  · rw [r_pg_on hon']; exact hs
  · unfold r_tape
    rw [hc 1 (by decide) (by decide), hc 2 (by decide) (by decide), e0, hm 2 (by decide)]
    exact h2
  · rw [hc 3 (by decide) (by decide), e0]; exact h3
  · rw [hc 0 (by decide) (by decide), e0]; exact h4
  · unfold r_img
    rw [hc 17 (by decide) (by decide), hc 13 (by decide) (by decide), hc 14 (by decide) (by decide), hc 15 (by decide) (by decide), hc 16 (by decide) (by decide), hm 8 (by decide)]
    exact ⟨h5.1, fun z => r_ser_ext (h5.2.1 z) (fun _ _ _ => rfl) (fun _ _ _ _ _ => rfl) (fun i hi => hm2 _ (by omega) (by omega)), fun z => r_ser_ext (h5.2.2 z) (fun _ _ _ => rfl) (fun _ _ _ _ _ => rfl) (fun i hi => hm2 _ (by omega) (by omega))⟩
  · exact r_sheet_to h6 (fun p hp => hc p (by omega) (by omega)) (hm 9 (by decide)) (hm 10 (by decide)) (hm 11 (by decide))
  · unfold r_con
    rw [hm 3 (by decide), hm 4 (by decide), hm 8 (by decide), e0]
    exact h7
theorem r_tear {c : Sg} {m : Sg} (h : Rel c m) (v : Int32) : Rel (s_up c 0 8 v) (s_up m 0 27 v) := by
  obtain ⟨h1, h2, h3, h4, h5, h6, h7⟩ := h
  exact ⟨h1, h2, h3, rfl, h5, h6, h7⟩
theorem r_aside {c : Sg} {m : Sg} (hon : m 0 1 = 1) (h : Rel c m) : Rel c (r_cp m 0 412 0) := by
  refine r_rd2 hon h (fun _ _ _ => rfl) (fun p hp => r_cp_p hp) (fun i h1 h2 => r_cp_out (Or.inl h2)) ?_
  have hs := h.1
  rw [r_pg_on hon] at hs
  exact r_ser_ext hs (fun _ _ _ => rfl) (fun _ _ _ _ _ => rfl) (fun i hi => r_cp_out (Or.inl (by omega)))
theorem p_rdstop {m : Sg} {x1 x2 x3 y : Int32} {n came : Nat} (hn : n ≤ 40) (hc : came < n) (hy : ¬ y = 0) (f : Nat) : fX7_read_b57_L (f + 1) m x1 x2 x3 (nI n) y (nI came) = some (nI came, s_up m 0 27 y) := by
  show fX7_read_b57 (fX7_read_b57_L f) m x1 x2 x3 (nI n) y (nI came) = _
  unfold fX7_read_b57 fX7_read_b188
  rw [if_neg (nI_ge hc (by omega)), if_neg hy, p_lt]
/-! one turn of the class's loop, at any of the four sheets -/
theorem p_rdN {K : Sg → Int32 → Int32 → Int32 → Int32 → Int32 → Int32 → Int32 → Option (Int32 × Sg)} {c : Sg} {k : Nat} {x2 x3 x4 x5 x6 x7 : Int32} (hk : k < 4) (hx : ¬ x4 ≤ x7) (e : c (19 + 2 * k) 2 = -1) : fX6_read_b44 K c (nI k) x2 x3 x4 x5 x6 x7 = some (x7, s_up c 0 8 1) := by
  unfold fX6_read_b44 fX6_read_b116
  rw [if_neg hx]
  match k, hk with
  | 0, _ =>
    have e : c 19 2 = -1 := e
    rw [if_pos (show nI 0 = 0 from rfl), p_teN_19 e, p_bi, if_neg (by decide), p_lt]
  | 1, _ =>
    have e : c 21 2 = -1 := e
    rw [if_neg (show ¬ nI 1 = 0 by decide), if_pos (show nI 1 = 1 from rfl), p_teN_21 e, p_bi, if_neg (by decide), p_lt]
  | 2, _ =>
    have e : c 23 2 = -1 := e
    rw [if_neg (show ¬ nI 2 = 0 by decide), if_neg (show ¬ nI 2 = 1 by decide), if_pos (show nI 2 = 2 from rfl), p_teN_23 e, p_bi, if_neg (by decide), p_lt]
  | 3, _ =>
    have e : c 25 2 = -1 := e
    rw [if_neg (show ¬ nI 3 = 0 by decide), if_neg (show ¬ nI 3 = 1 by decide), if_neg (show ¬ nI 3 = 2 by decide), if_pos (show nI 3 = 3 from rfl), p_teN_25 e, p_bi, if_neg (by decide), p_lt]
theorem p_rdC {K : Sg → Int32 → Int32 → Int32 → Int32 → Int32 → Int32 → Int32 → Option (Int32 × Sg)} {c : Sg} {k : Nat} {x2 x3 x4 x5 x6 x7 : Int32} (hk : k < 4) (hx : ¬ x4 ≤ x7) {n : Nat} (hn : n ≤ 40) (e : c (19 + 2 * k) 2 = nI n) (hl : ¬ c (19 + 2 * k) 1 = x2) : fX6_read_b44 K c (nI k) x2 x3 x4 x5 x6 x7 = some (x7, s_up c 0 8 3) := by
  unfold fX6_read_b44 fX6_read_b116
  rw [if_neg hx]
  match k, hk with
  | 0, _ =>
    have e : c 19 2 = nI n := e
    have hl : ¬ c 19 1 = x2 := hl
    rw [if_pos (show nI 0 = 0 from rfl), p_te_19 hn e, if_neg hl, p_bi, if_neg (by decide), p_lt]
  | 1, _ =>
    have e : c 21 2 = nI n := e
    have hl : ¬ c 21 1 = x2 := hl
    rw [if_neg (show ¬ nI 1 = 0 by decide), if_pos (show nI 1 = 1 from rfl), p_te_21 hn e, if_neg hl, p_bi, if_neg (by decide), p_lt]
  | 2, _ =>
    have e : c 23 2 = nI n := e
    have hl : ¬ c 23 1 = x2 := hl
    rw [if_neg (show ¬ nI 2 = 0 by decide), if_neg (show ¬ nI 2 = 1 by decide), if_pos (show nI 2 = 2 from rfl), p_te_23 hn e, if_neg hl, p_bi, if_neg (by decide), p_lt]
  | 3, _ =>
    have e : c 25 2 = nI n := e
    have hl : ¬ c 25 1 = x2 := hl
    rw [if_neg (show ¬ nI 3 = 0 by decide), if_neg (show ¬ nI 3 = 1 by decide), if_neg (show ¬ nI 3 = 2 by decide), if_pos (show nI 3 = 3 from rfl), p_te_25 hn e, if_neg hl, p_bi, if_neg (by decide), p_lt]
theorem p_rdI {K : Sg → Int32 → Int32 → Int32 → Int32 → Int32 → Int32 → Int32 → Option (Int32 × Sg)} {c : Sg} {k : Nat} {x2 x3 x4 x5 x6 x7 : Int32} (hk : k < 4) (hx : ¬ x4 ≤ x7) {n : Nat} (hn : n ≤ 40) (e : c (19 + 2 * k) 2 = nI n) (hl : c (19 + 2 * k) 1 = x2) (hi : ¬ (0 ≤ (x3 + x7).toInt ∧ (x3 + x7).toInt < n)) : fX6_read_b44 K c (nI k) x2 x3 x4 x5 x6 x7 = some (x7, s_up c 0 8 2) := by
  unfold fX6_read_b44 fX6_read_b116
  rw [if_neg hx]
  match k, hk with
  | 0, _ =>
    have e : c 19 2 = nI n := e
    have hl : c 19 1 = x2 := hl
    rw [if_pos (show nI 0 = 0 from rfl), p_te_19 hn e, if_pos hl, if_neg hi, p_bi, if_neg (by decide), p_lt]
  | 1, _ =>
    have e : c 21 2 = nI n := e
    have hl : c 21 1 = x2 := hl
    rw [if_neg (show ¬ nI 1 = 0 by decide), if_pos (show nI 1 = 1 from rfl), p_te_21 hn e, if_pos hl, if_neg hi, p_bi, if_neg (by decide), p_lt]
  | 2, _ =>
    have e : c 23 2 = nI n := e
    have hl : c 23 1 = x2 := hl
    rw [if_neg (show ¬ nI 2 = 0 by decide), if_neg (show ¬ nI 2 = 1 by decide), if_pos (show nI 2 = 2 from rfl), p_te_23 hn e, if_pos hl, if_neg hi, p_bi, if_neg (by decide), p_lt]
  | 3, _ =>
    have e : c 25 2 = nI n := e
    have hl : c 25 1 = x2 := hl
    rw [if_neg (show ¬ nI 3 = 0 by decide), if_neg (show ¬ nI 3 = 1 by decide), if_neg (show ¬ nI 3 = 2 by decide), if_pos (show nI 3 = 3 from rfl), p_te_25 hn e, if_pos hl, if_neg hi, p_bi, if_neg (by decide), p_lt]
theorem p_rdV {K : Sg → Int32 → Int32 → Int32 → Int32 → Int32 → Int32 → Int32 → Option (Int32 × Sg)} {c : Sg} {k : Nat} {x2 x3 x4 x5 x6 x7 : Int32} (hk : k < 4) (hx : ¬ x4 ≤ x7) {n i : Nat} (hn : n ≤ 40) (e : c (19 + 2 * k) 2 = nI n) (hl : c (19 + 2 * k) 1 = x2) (hI : x3 + x7 = nI i) (hi : i < n) : fX6_read_b44 K c (nI k) x2 x3 x4 x5 x6 x7 = s_bi (fX6_add c (c (20 + 2 * k) i)) (fun r σ => if 0 ≤ r then K σ (nI k) x2 x3 x4 x5 0 (x7 + 1) else some (-20 - x7, s_up σ 6 1 x5)) := by
  have hh : 0 ≤ (nI i).toInt ∧ (nI i).toInt < n := by rw [nI_toInt (by omega)]; omega
  unfold fX6_read_b44 fX6_read_b116
  rw [if_neg hx, hI]
  match k, hk with
  | 0, _ =>
    have e : c 19 2 = nI n := e
    have hl : c 19 1 = x2 := hl
    rw [if_pos (show nI 0 = 0 from rfl), p_te_19 hn e, if_pos hl, if_pos hh, p_bi, if_pos rfl, if_pos (show nI 0 = 0 from rfl), p_va_19 hn e hi, p_bi]
    rfl
  | 1, _ =>
    have e : c 21 2 = nI n := e
    have hl : c 21 1 = x2 := hl
    rw [if_neg (show ¬ nI 1 = 0 by decide), if_pos (show nI 1 = 1 from rfl), p_te_21 hn e, if_pos hl, if_pos hh, p_bi, if_pos rfl, if_neg (show ¬ nI 1 = 0 by decide), if_pos (show nI 1 = 1 from rfl), p_va_21 hn e hi, p_bi]
    rfl
  | 2, _ =>
    have e : c 23 2 = nI n := e
    have hl : c 23 1 = x2 := hl
    rw [if_neg (show ¬ nI 2 = 0 by decide), if_neg (show ¬ nI 2 = 1 by decide), if_pos (show nI 2 = 2 from rfl), p_te_23 hn e, if_pos hl, if_pos hh, p_bi, if_pos rfl, if_neg (show ¬ nI 2 = 0 by decide), if_neg (show ¬ nI 2 = 1 by decide), if_pos (show nI 2 = 2 from rfl), p_va_23 hn e hi, p_bi]
    rfl
  | 3, _ =>
    have e : c 25 2 = nI n := e
    have hl : c 25 1 = x2 := hl
    rw [if_neg (show ¬ nI 3 = 0 by decide), if_neg (show ¬ nI 3 = 1 by decide), if_neg (show ¬ nI 3 = 2 by decide), if_pos (show nI 3 = 3 from rfl), p_te_25 hn e, if_pos hl, if_pos hh, p_bi, if_pos rfl, if_neg (show ¬ nI 3 = 0 by decide), if_neg (show ¬ nI 3 = 1 by decide), if_neg (show ¬ nI 3 = 2 by decide), if_pos (show nI 3 = 3 from rfl), p_va_25 hn e hi, p_bi]
    rfl
theorem p_rdL {c0 m0 : Sg} {k len n N0 : Nat} {lane x2 x3 : Int32} {g : Nat → Int32} (h0 : Rel c0 m0) (hon : m0 0 1 = 1) (hsv : ∀ i, i < 103 → m0 1 (412 + i) = m0 1 i) (hk : k < 4) (hln : len ≤ 40) (hn : n ≤ 40) (hl : 0 ≤ lane.toInt ∧ lane.toInt ≤ 2) (t1 : m0 9 k = lane) (t2 : m0 10 k = nI len) (t3 : ∀ i, i < len → g i = m0 11 (40 * k + i)) (c1 : c0 (19 + 2 * k) 1 = lane) (c2 : c0 (19 + 2 * k) 2 = nI len) (c3 : c0 (20 + 2 * k) = g) (eN0 : c0 6 1 = nI N0) (hN0 : N0 ≤ 96) : ∀ (f : Nat) (c m : Sg) (came N : Nat), Rel c m → (∀ p, ¬ p = 6 → ¬ p = 7 → c p = c0 p) → (∀ i, ¬ i = 1 → c 6 i = c0 6 i) → (∀ i, i < N0 → c 7 i = c0 7 i) → (∀ p, ¬ p = 1 → m p = m0 p) → (∀ i, 102 < i → m 1 i = m0 1 i) → c 6 1 = nI N → N0 ≤ N → N ≤ 96 → came ≤ n → n - came + 1 < f → (came = 0 ∨ (0 ≤ x3.toInt + came ∧ x3.toInt + came ≤ 40)) → ∃ r c' m', fX6_read_b44_L f c (nI k) x2 x3 (nI n) (nI N0) 0 (nI came) = some (r, c') ∧ fX7_read_b57_L f m (nI k) x2 x3 (nI n) 0 (nI came) = some (r, m') ∧ Rel c' m' := by
  intro f
  induction f with
  | zero => intro c m came N _ _ _ _ _ _ _ _ _ _ h; omega
  | succ f ih =>
    intro c m came N h ic1 ic2 ic3 im1 im2 eN hNN hN hc hf hx
    have w0 : (0 : Int32).toInt = 0 := rfl
    have z0 : (0 : Int64).toInt = 0 := rfl
    have e19 : c (19 + 2 * k) = c0 (19 + 2 * k) := ic1 _ (by omega) (by omega)
    have e20 : c (20 + 2 * k) = c0 (20 + 2 * k) := ic1 _ (by omega) (by omega)
    have d1 : c (19 + 2 * k) 1 = lane := by rw [e19]; exact c1
    have d2 : c (19 + 2 * k) 2 = nI len := by rw [e19]; exact c2
    have d3 : c (20 + 2 * k) = g := by rw [e20]; exact c3
    have m9 : m 9 k = lane := by rw [im1 9 (by decide)]; exact t1
    have m10 : m 10 k = nI len := by rw [im1 10 (by decide)]; exact t2
    have m11 : ∀ i, i < len → g i = m 11 (40 * k + i) := fun i hi => by rw [im1 11 (by decide)]; exact t3 i hi
    have hon' : m 0 1 = 1 := by rw [im1 0 (by decide)]; exact hon
    show ∃ r c' m', fX6_read_b44 (fX6_read_b44_L f) c (nI k) x2 x3 (nI n) (nI N0) 0 (nI came) = some (r, c') ∧ fX7_read_b57 (fX7_read_b57_L f) m (nI k) x2 x3 (nI n) 0 (nI came) = some (r, m') ∧ _
    unfold fX7_read_b57 fX7_read_b188
    by_cases x : n ≤ came
    · unfold fX6_read_b44 fX6_read_b116
      rw [if_pos (nI_le x (by omega)), if_pos (nI_le x (by omega)), p_lt, p_lt]
      exact ⟨_, _, _, rfl, rfl, r_tear h 0⟩
    have hxx : ¬ nI n ≤ nI came := nI_ge (by omega) (by omega)
    obtain ⟨f', rfl⟩ : ∃ f', f = f' + 1 := ⟨f - 1, by omega⟩
    rw [if_neg hxx, if_pos rfl, p_lt, p_gd (p_inN hk (by omega)), nI_clamp (by omega), m9]
    have n4 : ¬ lane = -4 := fun q => by
      rw [q] at hl
      have : (-4 : Int32).toInt = -4 := rfl
      omega
    rw [if_neg n4, p_gd (p_inN hk (by omega))]
    have wc : (nI came).toInt = came := nI_toInt (by omega)
    have x3l := x3.le_toInt
    have x3u := x3.toInt_lt
    have hI : (x3 + nI came).toInt = x3.toInt + came := by
      rw [q_add (by rw [wc]; omega) (by rw [wc]; omega), wc]
    have hA : (Int32.toInt64 x3 + Int32.toInt64 (nI came)).toInt = x3.toInt + came := by rw [lg_i2l_add, wc]
    have hA32 : Int64.toInt32 (Int32.toInt64 x3 + Int32.toInt64 (nI came)) = x3 + nI came := by rw [lg_l2i_add, lg_l2i_i2l, lg_l2i_i2l]
    by_cases y : lane = x2
    · have hL : (nI len - 1).toInt = (len : Int) - 1 := pk_sub_toInt (a := len) (b := 1) (by omega) (by omega)
      rw [if_pos y, p_gd (p_inN hk (by omega)), m10]
      by_cases q : 0 ≤ x3.toInt + came ∧ x3.toInt + came < len
      · rw [p_yes (by rw [hA, p_t64, hL, z0]; omega), p_bi, if_neg q10]
        obtain ⟨i, hi, eI, eI2⟩ := q_nat (x := x3 + nI came) (by rw [hI]; exact q.1)
        have hil : i < len := by omega
        have e40 : (40 : Int32) * nI k + nI i = nI (40 * k + i) := by rw [show (40 : Int32) = nI 40 from rfl, pk_mul, nI_add]
        unfold fX7_read_b129 fX7_read_b168 fX7_read_b185
        rw [p_rdV hk hxx hln d2 (by rw [d1]; exact y) eI hil, d3, if_pos rfl, hA32, eI, e40, p_gd (p_inN (by omega) (by omega)), nI_clamp (by omega), p_lt, ← m11 i hil, p_isR, p_bi]
        unfold fX6_add
        rw [p_hund, p_bi]
        obtain ⟨n', b1, b2, b3, -⟩ := id h.1
        rw [r_pg_on hon'] at b3
        have en : n' = N := (nI_eq (by omega) (by omega)).mp (b2.symm.trans eN)
        subst en
        -- a refusal
        have no : ∃ r c' m', some (-20 - nI came, s_up c 6 1 (nI N0)) = some (r, c') ∧ s_bv (fX7_copies m 412 0) (fun σ1 => some (-20 - nI came, σ1)) = some (r, m') ∧ Rel c' m' := by
          have hcp : fX7_copies m 412 0 = some (r_cp m 412 0 0) := p_copies (fr := 412) (to := 0) (by omega) (by omega) (by omega)
          rw [hcp, p_bv]
          refine ⟨_, _, _, rfl, rfl, ?_⟩
          refine r_rd2 hon h0 (fun p h6 h7 => by rw [p_up, if_neg h6]; exact ic1 p h6 h7) (fun p hp => by rw [r_cp_p hp]; exact im1 p hp) (fun j h1 h2 => by rw [r_cp_out (by omega)]; exact im2 j h1) ?_
          have hs := h0.1
          rw [r_pg_on hon] at hs
          refine r_ser_ext hs (fun j h1 h2 => ?_) (fun n2 e2 hn2 j hj => ?_) (fun j hj => ?_)
          · show upd (c 6) 1 (nI N0) j = _
            rw [p_upd]
            by_cases q2 : j = 1
            · rw [if_pos q2, q2, eN0]
            · rw [if_neg q2]; exact ic2 j q2
          · have e3 : N0 = n2 := (nI_eq (by omega) (by omega)).mp (eN0.symm.trans e2)
            show c 7 j = _
            exact ic3 j (by omega)
          · have e4 := r_cp_in (σ := m) (fr := 412) (to := 0) hj
            rw [Nat.zero_add] at e4
            rw [e4, im2 _ (by omega)]
            exact hsv j hj
        have neg3 : ¬ (0 : Int32) ≤ -3 := by decide
        have neg1 : ¬ (0 : Int32) ≤ -1 := by decide
        by_cases v : -999999 ≤ (g i).toInt ∧ (g i).toInt ≤ 999999
        · rw [if_pos v, if_neg q10, if_neg q10]
          by_cases u : n' < 96
          · rw [p_put u eN, p_bi, p_bi, p_comes u b3, p_bi, if_pos (nI_pos' (by omega)), if_pos (nI_pos' (by omega)), p_lt, nI_1]
            have ih' := ih (s_up (s_up c 7 n' (g i)) 6 1 (nI (n' + 1))) (s_up (s_up m 1 n' (g i)) 1 102 (nI (n' + 1))) (came + 1) (n' + 1) (r_push hon' h u eN (Or.inr v)) (fun p h6 h7 => by rw [p_up, if_neg h6, p_up, if_neg h7]; exact ic1 p h6 h7) (fun j hj => by
              show upd (c 6) 1 (nI (n' + 1)) j = _
              rw [p_upd, if_neg hj]; exact ic2 j hj) (fun j hj => by
              show upd (c 7) n' (g i) j = _
              rw [p_upd, if_neg (by omega)]; exact ic3 j hj) (fun p hp => by rw [p_up, if_neg hp, p_up, if_neg hp]; exact im1 p hp) (fun j hj => by
              show upd (upd (m 1) n' (g i)) 102 (nI (n' + 1)) j = _
              rw [p_upd, if_neg (by omega), p_upd, if_neg (by omega)]; exact im2 j hj) rfl (by omega) (by omega) (by omega) (by omega) (Or.inr (by omega))
            exact ih'
          · rw [p_putF (by omega) eN, p_bi, p_bi, p_comesF (by omega) b3, p_bi, if_neg neg3, if_neg neg3]
            exact no
        · rw [if_neg v, if_pos rfl, if_pos rfl, p_bi, if_neg neg1]
          exact no
      · rw [p_rdI hk hxx hln d2 (by rw [d1]; exact y) (by rw [hI]; exact q), p_no (by rw [hA, p_t64, hL, z0]; omega), p_bi, if_pos rfl]
        unfold fX7_read_b129 fX7_read_b185
        rw [if_neg (by decide), p_rdstop hn (by omega) (by decide) f']
        exact ⟨_, _, _, rfl, rfl, r_tear h 2⟩
    · rw [if_neg y, p_rdC hk hxx hln d2 (by rw [d1]; exact y)]
      unfold fX7_read_b129 fX7_read_b185
      rw [if_neg (by decide), p_rdstop hn (by omega) (by decide) f']
      exact ⟨_, _, _, rfl, rfl, r_tear h 3⟩
theorem p_rdbad {m : Sg} {a1 a2 a3 a4 : Int32} (hb : ¬ ((0 ≤ a1.toInt ∧ a1.toInt ≤ 3) ∧ (0 ≤ a2.toInt ∧ a2.toInt ≤ 2) ∧ (0 ≤ a4.toInt ∧ a4.toInt ≤ 40))) : fX7_read m a1 a2 a3 a4 = some (-1, m) := by
  unfold fX7_read fX7_read_b37
  by_cases x : 0 ≤ a1.toInt ∧ a1.toInt ≤ 3
  · rw [p_yes (by rw [p_t64]; exact x), p_bi, if_neg q10]
    by_cases y : 0 ≤ a2.toInt ∧ a2.toInt ≤ 2
    · rw [p_yes (by rw [p_t64]; exact y), p_bi, if_neg q10, p_no (by rw [p_t64]; exact fun z => hb ⟨x, y, z⟩), p_bi, if_pos rfl]
    · rw [p_no (by rw [p_t64]; exact y), p_bi, if_pos rfl]
  · rw [p_no (by rw [p_t64]; exact x), p_bi, if_pos rfl]
theorem p_rdbadN {c : Sg} {a1 a2 a3 a4 : Int32} (hb : ¬ ((0 ≤ a1.toInt ∧ a1.toInt ≤ 3) ∧ (0 ≤ a2.toInt ∧ a2.toInt ≤ 2) ∧ (0 ≤ a4.toInt ∧ a4.toInt ≤ 40))) : fX6_read c a1 a2 a3 a4 = some (-1, c) := by
  have w0 : (0 : Int32).toInt = 0 := rfl
  have w40 : (40 : Int32).toInt = 40 := rfl
  unfold fX6_read fX6_read_b27
  rw [p_isS, p_bi]
  by_cases x : 0 ≤ a1.toInt ∧ a1.toInt ≤ 3
  · rw [if_pos x, if_neg q10, p_isL, p_bi]
    by_cases y : 0 ≤ a2.toInt ∧ a2.toInt ≤ 2
    · rw [if_pos y, if_neg q10]
      by_cases z : a4 < 0
      · rw [if_pos z]
      · rw [if_neg z]
        rw [q_i, w0] at z
        rw [if_neg (by rw [q_l, w40]; exact fun z2 => hb ⟨x, y, by omega, z2⟩)]
    · rw [if_neg y, if_pos rfl]
  · rw [if_neg x, if_pos rfl]
theorem p_rdgo {m : Sg} {a1 a2 a3 a4 : Int32} (x : 0 ≤ a1.toInt ∧ a1.toInt ≤ 3) (y : 0 ≤ a2.toInt ∧ a2.toInt ≤ 2) (z : 0 ≤ a4.toInt ∧ a4.toInt ≤ 40) : fX7_read m a1 a2 a3 a4 = fX7_read_b57_L s_fu (r_cp (r_st m) 0 412 0) a1 a2 a3 a4 0 0 := by
  have hcp : fX7_copies (r_st m) 0 412 = some (r_cp (r_st m) 0 412 0) := p_copies (fr := 0) (to := 412) (by omega) (by omega) (by omega)
  unfold fX7_read
  rw [p_yes (by rw [p_t64]; exact x), p_bi, if_neg q10, p_yes (by rw [p_t64]; exact y), p_bi, if_neg q10, p_yes (by rw [p_t64]; exact z), p_bi, if_neg q10, p_starts, p_bv, hcp, p_bv]
theorem z_read : s_pure_read Rel := by
  intro c m h a1 a2 a3 a4
  have hst := rel_st h
  have hon := r_st_1 h.2.2.2.2.2.2
  have w40 : (40 : Int32).toInt = 40 := rfl
  have hA := r_aside hon hst
  by_cases hb : (0 ≤ a1.toInt ∧ a1.toInt ≤ 3) ∧ (0 ≤ a2.toInt ∧ a2.toInt ≤ 2) ∧ (0 ≤ a4.toInt ∧ a4.toInt ≤ 40)
  · obtain ⟨x, y, z⟩ := hb
    rw [p_rdgo x y z]
    obtain ⟨k, hk1, rfl, ek⟩ := q_nat x.1
    obtain ⟨n, hn1, rfl, en⟩ := q_nat z.1
    have hk4 : k < 4 := by omega
    have hC : fX6_read c (nI k) a2 a3 (nI n) = fX6_read_b44_L s_fu c (nI k) a2 a3 (nI n) (c 6 1) 0 0 := by
      unfold fX6_read
      rw [p_isS, if_pos x, p_bi, if_neg q10, p_isL, if_pos y, p_bi, if_neg q10, if_neg (nI_pos (by omega)), if_pos (by rw [q_l, w40]; omega), p_lt]
    rw [hC]
    rcases r_shk hA.2.2.2.2.2.1 hk4 with ⟨z1, z2⟩ | ⟨len, t3, c2, t2, c1, tl, t5⟩
    · show ∃ r c1 m1, fX6_read_b44 (fX6_read_b44_L 4095) c (nI k) a2 a3 (nI n) (c 6 1) 0 (nI 0) = some (r, c1) ∧ fX7_read_b57 (fX7_read_b57_L (4094 + 1)) (r_cp (r_st m) 0 412 0) (nI k) a2 a3 (nI n) 0 (nI 0) = some (r, m1) ∧ _
      unfold fX7_read_b57 fX7_read_b188
      by_cases v : n = 0
      · unfold fX6_read_b44 fX6_read_b116
        rw [if_pos (show nI n ≤ nI 0 by rw [v]; decide), if_pos (show nI n ≤ nI 0 by rw [v]; decide), p_lt, p_lt]
        exact ⟨_, _, _, rfl, rfl, r_tear hA 0⟩
      · have hxx : ¬ nI n ≤ nI 0 := nI_nle (by omega) (by omega)
        rw [p_rdN hk4 hxx z1, if_neg hxx, if_pos rfl, p_lt, p_gd (p_inN hk4 (by omega)), nI_clamp hk1, if_pos z2]
        unfold fX7_read_b129 fX7_read_b185
        rw [if_neg q10, p_rdstop (by omega) (by omega) q10 4094]
        exact ⟨_, _, _, rfl, rfl, r_tear hA 1⟩
    · obtain ⟨N, b1, b2, b3, -⟩ := id hA.1
      have hsv : ∀ i, i < 103 → r_cp (r_st m) 0 412 0 1 (412 + i) = r_cp (r_st m) 0 412 0 1 i := fun i hi => by
        have e := r_cp_in (σ := r_st m) (fr := 0) (to := 412) hi
        rw [Nat.zero_add] at e
        rw [e, r_cp_out (Or.inl (by omega))]
      have hon2 : r_cp (r_st m) 0 412 0 0 1 = 1 := by rw [r_cp_p (by decide)]; exact hon
      rw [b2]
      exact p_rdL (c0 := c) (m0 := r_cp (r_st m) 0 412 0) (k := k) (len := len) (n := n) (N0 := N) (lane := r_cp (r_st m) 0 412 0 9 k) (x2 := a2) (x3 := a3) (g := c (20 + 2 * k)) hA hon2 hsv hk4 t3 (by omega) tl rfl t2 t5 c1 c2 rfl b2 b1 s_fu c (r_cp (r_st m) 0 412 0) 0 N hA (fun _ _ _ => rfl) (fun _ _ => rfl) (fun _ _ => rfl) (fun _ _ => rfl) (fun _ _ => rfl) b2 (Nat.le_refl _) b1 (by omega) (by rw [s_fu_e]; omega) (Or.inl rfl)
  · rw [p_rdbad hb, p_rdbadN hb]
    exact ⟨_, _, _, rfl, rfl, h⟩
