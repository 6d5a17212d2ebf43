/-! PURE: keep, back -/
theorem q_cpok {n : Nat} (hn : n ≤ 96) : s_cpok 0 0 (nI n) 96 96 = true := by
  unfold s_cpok
  exact decide_eq_true ⟨by decide, by decide, nI_pos (by omega), by rw [nI_clamp (by omega), show (0 : Int32).toNatClampNeg = 0 from rfl]; omega, by rw [nI_clamp (by omega), show (0 : Int32).toNatClampNeg = 0 from rfl]; omega⟩
theorem p_cf_13_6 {c : Sg} {n : Nat} (hn : n ≤ 96) (e : c 6 1 = nI n) : ∃ c' : Sg, fX1_copyFrom_13_6 c = some c' ∧ (∀ p, p ≠ 13 → p ≠ 14 → c' p = c p) ∧ (∀ i, 1 ≤ i → i ≤ 7 → c' 13 i = c 6 i) ∧ ∀ i, i < n → c' 14 i = c 7 i := by
  unfold fX1_copyFrom_13_6
  rw [p_gd (by rw [e]; exact q_cpok hn)]
  simp only [p_lt]
  refine ⟨_, rfl, fun p h1 h2 => ?_, fun i h1 h2 => ?_, fun i hi => ?_⟩
  · simp only [p_up, p_upr, if_neg h1, if_neg h2]
  · rcases (show i = 1 ∨ i = 2 ∨ i = 3 ∨ i = 4 ∨ i = 5 ∨ i = 6 ∨ i = 7 by omega) with rfl | rfl | rfl | rfl | rfl | rfl | rfl <;> rfl
  · show va_cpy (c 7) (c 14) (Int32.toNatClampNeg 0) (Int32.toNatClampNeg 0) (Int32.toNatClampNeg (c 6 1)) i = _
    rw [e, nI_clamp (by omega), show (0 : Int32).toNatClampNeg = 0 from rfl, pk_cpy_in (by omega) (by omega)]
    congr 1
    omega
theorem p_cf_15_6 {c : Sg} {n : Nat} (hn : n ≤ 96) (e : c 6 1 = nI n) : ∃ c' : Sg, fX1_copyFrom_15_6 c = some c' ∧ (∀ p, p ≠ 15 → p ≠ 16 → c' p = c p) ∧ (∀ i, 1 ≤ i → i ≤ 7 → c' 15 i = c 6 i) ∧ ∀ i, i < n → c' 16 i = c 7 i := by
  unfold fX1_copyFrom_15_6
  rw [p_gd (by rw [e]; exact q_cpok hn)]
  simp only [p_lt]
  refine ⟨_, rfl, fun p h1 h2 => ?_, fun i h1 h2 => ?_, fun i hi => ?_⟩
  · simp only [p_up, p_upr, if_neg h1, if_neg h2]
  · rcases (show i = 1 ∨ i = 2 ∨ i = 3 ∨ i = 4 ∨ i = 5 ∨ i = 6 ∨ i = 7 by omega) with rfl | rfl | rfl | rfl | rfl | rfl | rfl <;> rfl
  · show va_cpy (c 7) (c 16) (Int32.toNatClampNeg 0) (Int32.toNatClampNeg 0) (Int32.toNatClampNeg (c 6 1)) i = _
    rw [e, nI_clamp (by omega), show (0 : Int32).toNatClampNeg = 0 from rfl, pk_cpy_in (by omega) (by omega)]
    congr 1
    omega
theorem p_cf_6_13 {c : Sg} {n : Nat} (hn : n ≤ 96) (e : c 13 1 = nI n) : ∃ c' : Sg, fX1_copyFrom_6_13 c = some c' ∧ (∀ p, p ≠ 6 → p ≠ 7 → c' p = c p) ∧ (∀ i, 1 ≤ i → i ≤ 7 → c' 6 i = c 13 i) ∧ ∀ i, i < n → c' 7 i = c 14 i := by
  unfold fX1_copyFrom_6_13
  rw [p_gd (by rw [e]; exact q_cpok hn)]
  simp only [p_lt]
  refine ⟨_, rfl, fun p h1 h2 => ?_, fun i h1 h2 => ?_, fun i hi => ?_⟩
  · simp only [p_up, p_upr, if_neg h1, if_neg h2]
  · rcases (show i = 1 ∨ i = 2 ∨ i = 3 ∨ i = 4 ∨ i = 5 ∨ i = 6 ∨ i = 7 by omega) with rfl | rfl | rfl | rfl | rfl | rfl | rfl <;> rfl
  · show va_cpy (c 14) (c 7) (Int32.toNatClampNeg 0) (Int32.toNatClampNeg 0) (Int32.toNatClampNeg (c 13 1)) i = _
    rw [e, nI_clamp (by omega), show (0 : Int32).toNatClampNeg = 0 from rfl, pk_cpy_in (by omega) (by omega)]
    congr 1
    omega
theorem p_cf_6_15 {c : Sg} {n : Nat} (hn : n ≤ 96) (e : c 15 1 = nI n) : ∃ c' : Sg, fX1_copyFrom_6_15 c = some c' ∧ (∀ p, p ≠ 6 → p ≠ 7 → c' p = c p) ∧ (∀ i, 1 ≤ i → i ≤ 7 → c' 6 i = c 15 i) ∧ ∀ i, i < n → c' 7 i = c 16 i := by
  unfold fX1_copyFrom_6_15
  rw [p_gd (by rw [e]; exact q_cpok hn)]
  simp only [p_lt]
  refine ⟨_, rfl, fun p h1 h2 => ?_, fun i h1 h2 => ?_, fun i hi => ?_⟩
  · simp only [p_up, p_upr, if_neg h1, if_neg h2]
  · rcases (show i = 1 ∨ i = 2 ∨ i = 3 ∨ i = 4 ∨ i = 5 ∨ i = 6 ∨ i = 7 by omega) with rfl | rfl | rfl | rfl | rfl | rfl | rfl <;> rfl
  · show va_cpy (c 16) (c 7) (Int32.toNatClampNeg 0) (Int32.toNatClampNeg 0) (Int32.toNatClampNeg (c 15 1)) i = _
    rw [e, nI_clamp (by omega), show (0 : Int32).toNatClampNeg = 0 from rfl, pk_cpy_in (by omega) (by omega)]
    congr 1
    omega
theorem p_cf_6_4 {c : Sg} {n : Nat} (hn : n ≤ 96) (e : c 4 1 = nI n) : ∃ c' : Sg, fX1_copyFrom_6_4 c = some c' ∧ (∀ p, p ≠ 6 → p ≠ 7 → c' p = c p) ∧ (∀ i, 1 ≤ i → i ≤ 7 → c' 6 i = c 4 i) ∧ ∀ i, i < n → c' 7 i = c 5 i := by
  unfold fX1_copyFrom_6_4
  rw [p_gd (by rw [e]; exact q_cpok hn)]
  simp only [p_lt]
  refine ⟨_, rfl, fun p h1 h2 => ?_, fun i h1 h2 => ?_, fun i hi => ?_⟩
  · simp only [p_up, p_upr, if_neg h1, if_neg h2]
  · rcases (show i = 1 ∨ i = 2 ∨ i = 3 ∨ i = 4 ∨ i = 5 ∨ i = 6 ∨ i = 7 by omega) with rfl | rfl | rfl | rfl | rfl | rfl | rfl <;> rfl
  · show va_cpy (c 5) (c 7) (Int32.toNatClampNeg 0) (Int32.toNatClampNeg 0) (Int32.toNatClampNeg (c 4 1)) i = _
    rw [e, nI_clamp (by omega), show (0 : Int32).toNatClampNeg = 0 from rfl, pk_cpy_in (by omega) (by omega)]
    congr 1
    omega
theorem p_img (c : Sg) (x : Int32) : fX6_isImage c x = some (if 0 ≤ x.toInt ∧ x.toInt ≤ 1 then 1 else 0, c) := by
  have w0 : (0 : Int32).toInt = 0 := rfl
  have w2 : (2 : Int32).toInt = 2 := rfl
  unfold fX6_isImage fX6_isImage_b26
  by_cases c1 : x < 0
  · rw [if_pos c1, if_neg (by rw [q_i, w0] at c1; omega)]
  · rw [if_neg c1]
    rw [q_i, w0] at c1
    by_cases c2 : 2 ≤ x
    · rw [if_pos c2, if_neg (by rw [q_l, w2] at c2; omega)]
    · rw [if_neg c2, if_neg c2, if_pos (by rw [q_l, w2] at c2; omega)]
theorem q_01 {x : Int32} (h : 0 ≤ x.toInt ∧ x.toInt ≤ 1) : x = 0 ∨ x = 1 := by
  rcases (show x.toInt = 0 ∨ x.toInt = 1 by omega) with z | z
  · exact Or.inl (q_e.mpr (by rw [z]; rfl))
  · exact Or.inr (q_e.mpr (by rw [z]; rfl))
/-- image 0 is made -/
theorem r_keep0 {c : Sg} {m : Sg} (hon : m 0 1 = 1) (h : Rel c m) : ∃ c' m' : Sg, fX6_keep c 0 = some (m 8 0, c') ∧ fX7_keep m 0 = some (m 8 0, m') ∧ Rel c' m' := by
  obtain ⟨h1, h2, h3, h4, ⟨⟨i0, i1, i2, i3⟩, i4, i5⟩, h6, h7⟩ := id h
  rw [r_pg_on hon] at h1
  obtain ⟨n, b1, b2, -⟩ := id h1
  obtain ⟨c1, f1, f2, f3, f4⟩ := p_cf_13_6 (c := c) b1 b2
  have ew : vp_nar .boolean 1 = 1 := by decide
  have hk : (Int32.toNatClampNeg 0) = 0 := rfl
  have hB : ∀ y : Int32, fX6_keep_b24 c 0 y = some (y, s_up c1 17 0 1) := fun y => by
    unfold fX6_keep_b24
    rw [if_pos rfl, f1, p_bv, p_gd (by decide), p_lt, hk, ew]
  have hC : fX6_keep c 0 = some (m 8 0, s_up c1 17 0 1) := by
    unfold fX6_keep
    rw [p_img, if_pos (by decide), p_bi, if_neg (by decide), p_gd (by decide), hk, i0, hB, hB]
    rcases i2 with z | z
    · rw [if_pos z, z]
    · rw [if_neg (by rw [z]; decide), z]
  have hcp : fX7_copies m 0 (103 * 0 + 103) = some (r_cp m 0 103 0) := p_copies (σ := m) (fr := 0) (to := 103) (by omega) (by omega) (by omega)
  have hB' : ∀ y : Int32, fX7_keep_b30 m 0 y = some (y, s_up (r_cp m 0 103 0) 8 0 1) := fun y => by
    unfold fX7_keep_b30
    rw [hcp, p_bv, p_gd (by decide), p_lt, hk, ew]
  have hM : fX7_keep m 0 = some (m 8 0, s_up (r_cp m 0 103 0) 8 0 1) := by
    unfold fX7_keep
    rw [p_yes (by decide), p_bi, if_neg (by decide), p_starts, p_bv, r_st_on hon, p_gd (by decide), hk, hB', hB']
    rcases i2 with z | z
    · rw [if_pos z, z]
    · rw [if_neg (by rw [z]; decide), z]
  refine ⟨_, _, hC, hM, ?_⟩
  have hc : ∀ p, p ≠ 13 → p ≠ 14 → p ≠ 17 → s_up c1 17 0 1 p = c p := fun p x y z => by rw [p_up, if_neg z]; exact f2 p x y
  have hm : ∀ p, p ≠ 1 → p ≠ 8 → s_up (r_cp m 0 103 0) 8 0 1 p = m p := fun p x y => by rw [p_up, if_neg y]; exact r_cp_p x
  have hm1 : s_up (r_cp m 0 103 0) 8 0 1 1 = r_cp m 0 103 0 1 := rfl
  have e0 : s_up (r_cp m 0 103 0) 8 0 1 0 = m 0 := hm 0 (by decide) (by decide)
  refine ⟨?_, ?_, ?_, ?_, ?_, ?_, ?_⟩
  · rw [r_pg_on (by rw [e0]; exact hon), hm1, hc 6 (by decide) (by decide) (by decide), hc 7 (by decide) (by decide) (by decide)]
    exact r_ser_ext h1 (fun _ _ _ => rfl) (fun _ _ _ _ _ => rfl) (fun i hi => r_cp_out (Or.inl (by omega)))
  · unfold r_tape
    rw [hc 1 (by decide) (by decide) (by decide), hc 2 (by decide) (by decide) (by decide), e0, hm 2 (by decide) (by decide)]
    exact h2
  · rw [hc 3 (by decide) (by decide) (by decide), e0]; exact h3
  · rw [hc 0 (by decide) (by decide) (by decide), e0]; exact h4
  · have g0 : s_up c1 17 0 1 17 = upd (c 17) 0 1 := by
      show upd (c1 17) 0 1 = _
      rw [f2 17 (by decide) (by decide)]
    have g1 : s_up (r_cp m 0 103 0) 8 0 1 8 = upd (m 8) 0 1 := by
      show upd (r_cp m 0 103 0 8) 0 1 = _
      rw [r_cp_p (by decide)]
    unfold r_img
    rw [g0, g1, hm1]
    have new : r_ser (s_up c1 17 0 1 13) (s_up c1 17 0 1 14) (fun i => r_cp m 0 103 0 1 (103 + i)) := by
      refine r_ser_ext h1 (fun i x y => f3 i x y) (fun n' e' _ i hi => ?_) (fun i hi => ?_)
      · have : n' = n := (nI_eq (by omega) (by omega)).mp (e'.symm.trans b2)
        subst this
        exact f4 i hi
      · show r_cp m 0 103 0 1 (103 + i) = m 1 i
        rw [r_cp_in hi, Nat.zero_add]
    have old : m 8 1 = 1 → r_ser (s_up c1 17 0 1 15) (s_up c1 17 0 1 16) (fun i => r_cp m 0 103 0 1 (206 + i)) := fun z => by
      rw [hc 15 (by decide) (by decide) (by decide), hc 16 (by decide) (by decide) (by decide)]
      exact r_ser_ext (i5 z) (fun _ _ _ => rfl) (fun _ _ _ _ _ => rfl) (fun i hi => r_cp_out (by omega))
    exact ⟨⟨rfl, i1, Or.inr rfl, i3⟩, fun _ => new, old⟩
  · exact r_sheet_to h6 (fun p hp => hc p (by omega) (by omega) (by omega)) (hm 9 (by decide) (by decide)) (hm 10 (by decide) (by decide)) (hm 11 (by decide) (by decide))
  · refine ⟨by rw [hm 3 (by decide) (by decide)]; exact h7.1, by rw [hm 4 (by decide) (by decide)]; exact h7.2.1, by rw [e0]; exact Or.inr hon, fun z => ?_⟩
    rw [e0, hon] at z
    exact absurd z (by decide)
/-- image 1 is made -/
theorem r_keep1 {c : Sg} {m : Sg} (hon : m 0 1 = 1) (h : Rel c m) : ∃ c' m' : Sg, fX6_keep c 1 = some (m 8 1, c') ∧ fX7_keep m 1 = some (m 8 1, m') ∧ Rel c' m' := by
  obtain ⟨h1, h2, h3, h4, ⟨⟨i0, i1, i2, i3⟩, i4, i5⟩, h6, h7⟩ := id h
  rw [r_pg_on hon] at h1
  obtain ⟨n, b1, b2, -⟩ := id h1
  obtain ⟨c1, f1, f2, f3, f4⟩ := p_cf_15_6 (c := c) b1 b2
  have ew : vp_nar .boolean 1 = 1 := by decide
  have hk : (Int32.toNatClampNeg 1) = 1 := rfl
  have hB : ∀ y : Int32, fX6_keep_b24 c 1 y = some (y, s_up c1 17 1 1) := fun y => by
    unfold fX6_keep_b24
    rw [if_neg (by decide), if_pos rfl, f1, p_bv, p_gd (by decide), p_lt, hk, ew]
  have hC : fX6_keep c 1 = some (m 8 1, s_up c1 17 1 1) := by
    unfold fX6_keep
    rw [p_img, if_pos (by decide), p_bi, if_neg (by decide), p_gd (by decide), hk, i1, hB, hB]
    rcases i3 with z | z
    · rw [if_pos z, z]
    · rw [if_neg (by rw [z]; decide), z]
  have hcp : fX7_copies m 0 (103 * 1 + 103) = some (r_cp m 0 206 0) := p_copies (σ := m) (fr := 0) (to := 206) (by omega) (by omega) (by omega)
  have hB' : ∀ y : Int32, fX7_keep_b30 m 1 y = some (y, s_up (r_cp m 0 206 0) 8 1 1) := fun y => by
    unfold fX7_keep_b30
    rw [hcp, p_bv, p_gd (by decide), p_lt, hk, ew]
  have hM : fX7_keep m 1 = some (m 8 1, s_up (r_cp m 0 206 0) 8 1 1) := by
    unfold fX7_keep
    rw [p_yes (by decide), p_bi, if_neg (by decide), p_starts, p_bv, r_st_on hon, p_gd (by decide), hk, hB', hB']
    rcases i3 with z | z
    · rw [if_pos z, z]
    · rw [if_neg (by rw [z]; decide), z]
  refine ⟨_, _, hC, hM, ?_⟩
  have hc : ∀ p, p ≠ 15 → p ≠ 16 → p ≠ 17 → s_up c1 17 1 1 p = c p := fun p x y z => by rw [p_up, if_neg z]; exact f2 p x y
  have hm : ∀ p, p ≠ 1 → p ≠ 8 → s_up (r_cp m 0 206 0) 8 1 1 p = m p := fun p x y => by rw [p_up, if_neg y]; exact r_cp_p x
  have hm1 : s_up (r_cp m 0 206 0) 8 1 1 1 = r_cp m 0 206 0 1 := rfl
  have e0 : s_up (r_cp m 0 206 0) 8 1 1 0 = m 0 := hm 0 (by decide) (by decide)
  refine ⟨?_, ?_, ?_, ?_, ?_, ?_, ?_⟩
  · rw [r_pg_on (by rw [e0]; exact hon), hm1, hc 6 (by decide) (by decide) (by decide), hc 7 (by decide) (by decide) (by decide)]
    exact r_ser_ext h1 (fun _ _ _ => rfl) (fun _ _ _ _ _ => rfl) (fun i hi => r_cp_out (Or.inl (by omega)))
  · unfold r_tape
    rw [hc 1 (by decide) (by decide) (by decide), hc 2 (by decide) (by decide) (by decide), e0, hm 2 (by decide) (by decide)]
    exact h2
  · rw [hc 3 (by decide) (by decide) (by decide), e0]; exact h3
  · rw [hc 0 (by decide) (by decide) (by decide), e0]; exact h4
  · have g0 : s_up c1 17 1 1 17 = upd (c 17) 1 1 := by
      show upd (c1 17) 1 1 = _
      rw [f2 17 (by decide) (by decide)]
    have g1 : s_up (r_cp m 0 206 0) 8 1 1 8 = upd (m 8) 1 1 := by
      show upd (r_cp m 0 206 0 8) 1 1 = _
      rw [r_cp_p (by decide)]
    unfold r_img
    rw [g0, g1, hm1]
    have new : r_ser (s_up c1 17 1 1 15) (s_up c1 17 1 1 16) (fun i => r_cp m 0 206 0 1 (206 + i)) := by
      refine r_ser_ext h1 (fun i x y => f3 i x y) (fun n' e' _ i hi => ?_) (fun i hi => ?_)
      · have : n' = n := (nI_eq (by omega) (by omega)).mp (e'.symm.trans b2)
        subst this
        exact f4 i hi
      · show r_cp m 0 206 0 1 (206 + i) = m 1 i
        rw [r_cp_in hi, Nat.zero_add]
    have old : m 8 0 = 1 → r_ser (s_up c1 17 1 1 13) (s_up c1 17 1 1 14) (fun i => r_cp m 0 206 0 1 (103 + i)) := fun z => by
      rw [hc 13 (by decide) (by decide) (by decide), hc 14 (by decide) (by decide) (by decide)]
      exact r_ser_ext (i4 z) (fun _ _ _ => rfl) (fun _ _ _ _ _ => rfl) (fun i hi => r_cp_out (by omega))
    exact ⟨⟨i0, rfl, i2, Or.inr rfl⟩, old, fun _ => new⟩
  · exact r_sheet_to h6 (fun p hp => hc p (by omega) (by omega) (by omega)) (hm 9 (by decide) (by decide)) (hm 10 (by decide) (by decide)) (hm 11 (by decide) (by decide))
  · refine ⟨by rw [hm 3 (by decide) (by decide)]; exact h7.1, by rw [hm 4 (by decide) (by decide)]; exact h7.2.1, by rw [e0]; exact Or.inr hon, fun z => ?_⟩
    rw [e0, hon] at z
    exact absurd z (by decide)
theorem z_keep : s_pure_keep Rel := by
  intro c m h a1
  have hst := rel_st h
  have h7 := h.2.2.2.2.2.2
  have hon := r_st_1 h7
  have stst : r_st (r_st m) = r_st m := r_st_on hon
  by_cases hc : 0 ≤ a1.toInt ∧ a1.toInt ≤ 1
  · have key : fX7_keep m a1 = fX7_keep (r_st m) a1 := by
      unfold fX7_keep
      rw [p_yes (σ := m) (by rw [p_t64]; exact hc), p_yes (σ := r_st m) (by rw [p_t64]; exact hc), p_bi, p_bi, p_starts, p_starts, stst, if_neg (by decide), if_neg (by decide)]
    rw [key]
    rcases q_01 hc with rfl | rfl
    · obtain ⟨c', m', x, y, z⟩ := r_keep0 hon hst
      exact ⟨_, c', m', x, y, z⟩
    · obtain ⟨c', m', x, y, z⟩ := r_keep1 hon hst
      exact ⟨_, c', m', x, y, z⟩
  · refine ⟨-1, c, m, ?_, ?_, h⟩
    · unfold fX6_keep
      rw [p_img, if_neg hc, p_bi, if_pos rfl]
    · unfold fX7_keep
      rw [p_no (by rw [p_t64]; exact hc), p_bi, if_pos rfl]
/-- image 0 comes back -/
theorem r_back0 {c : Sg} {m : Sg} (hk1 : m 8 0 = 1) (h : Rel c m) : ∃ (r : Int32) (c' m' : Sg), fX6_back c 0 = some (r, c') ∧ fX7_back m 0 = some (r, m') ∧ Rel c' m' := by
  obtain ⟨h1, h2, h3, h4, ⟨⟨i0, i1, i2, i3⟩, i4, i5⟩, h6, h7⟩ := id h
  have hon : m 0 1 = 1 := by
    rcases h7.2.2.1 with z | z
    · have := (h7.2.2.2 z).1
      rw [hk1] at this
      exact absurd this (by decide)
    · exact z
  have hs := i4 hk1
  obtain ⟨n, b1, b2, b3, -⟩ := id hs
  obtain ⟨c1, f1, f2, f3, f4⟩ := p_cf_6_13 (c := c) b1 b2
  have hk : (Int32.toNatClampNeg 0) = 0 := rfl
  have e61 : c1 6 1 = nI n := by rw [f3 1 (by omega) (by omega)]; exact b2
  have hC : fX6_back c 0 = some (nI n, c1) := by
    unfold fX6_back
    rw [p_img, if_pos (by decide), p_bi, if_neg (by decide), p_gd (by decide), hk, i0, if_neg (by rw [hk1]; decide), if_pos rfl, f1, p_bv, e61]
  have hcp : fX7_copies m (103 * 0 + 103) 0 = some (r_cp m 103 0 0) := p_copies (σ := m) (fr := 103) (to := 0) (by omega) (by omega) (by omega)
  have em : ∀ i, i < 103 → r_cp m 103 0 0 1 i = m 1 (103 + i) := fun i hi => by
    have := r_cp_in (σ := m) (fr := 103) (to := 0) hi
    rw [Nat.zero_add] at this
    exact this
  have hM : fX7_back m 0 = some (nI n, r_cp m 103 0 0) := by
    unfold fX7_back fX7_many
    rw [p_yes (by decide), p_bi, if_neg (by decide), p_gd (by decide), hk, if_neg (by rw [hk1]; decide), hcp, p_bv, p_bi, em 102 (by omega)]
    exact congrArg (fun z => some (z, r_cp m 103 0 0)) b3
  refine ⟨_, _, _, hC, hM, r_rd hon h (fun p x y => f2 p x y) (fun p x => r_cp_p x) (fun i hi => ?_) ?_⟩
  · by_cases z : i < 103
    · omega
    · exact r_cp_out (Or.inr (by omega))
  · refine r_ser_ext hs (fun i x y => f3 i x y) (fun n' e' _ i hi => ?_) (fun i hi => em i hi)
    have : n' = n := (nI_eq (by omega) (by omega)).mp (e'.symm.trans b2)
    subst this
    exact f4 i hi
/-- image 1 comes back -/
theorem r_back1 {c : Sg} {m : Sg} (hk1 : m 8 1 = 1) (h : Rel c m) : ∃ (r : Int32) (c' m' : Sg), fX6_back c 1 = some (r, c') ∧ fX7_back m 1 = some (r, m') ∧ Rel c' m' := by
  obtain ⟨h1, h2, h3, h4, ⟨⟨i0, i1, i2, i3⟩, i4, i5⟩, h6, h7⟩ := id h
  have hon : m 0 1 = 1 := by
    rcases h7.2.2.1 with z | z
    · have := (h7.2.2.2 z).2
      rw [hk1] at this
      exact absurd this (by decide)
    · exact z
  have hs := i5 hk1
  obtain ⟨n, b1, b2, b3, -⟩ := id hs
  obtain ⟨c1, f1, f2, f3, f4⟩ := p_cf_6_15 (c := c) b1 b2
  have hk : (Int32.toNatClampNeg 1) = 1 := rfl
  have e61 : c1 6 1 = nI n := by rw [f3 1 (by omega) (by omega)]; exact b2
  have hC : fX6_back c 1 = some (nI n, c1) := by
    unfold fX6_back
    rw [p_img, if_pos (by decide), p_bi, if_neg (by decide), p_gd (by decide), hk, i1, if_neg (by rw [hk1]; decide), if_neg (by decide), if_pos rfl, f1, p_bv, e61]
  have hcp : fX7_copies m (103 * 1 + 103) 0 = some (r_cp m 206 0 0) := p_copies (σ := m) (fr := 206) (to := 0) (by omega) (by omega) (by omega)
  have em : ∀ i, i < 103 → r_cp m 206 0 0 1 i = m 1 (206 + i) := fun i hi => by
    have := r_cp_in (σ := m) (fr := 206) (to := 0) hi
    rw [Nat.zero_add] at this
    exact this
  have hM : fX7_back m 1 = some (nI n, r_cp m 206 0 0) := by
    unfold fX7_back fX7_many
    rw [p_yes (by decide), p_bi, if_neg (by decide), p_gd (by decide), hk, if_neg (by rw [hk1]; decide), hcp, p_bv, p_bi, em 102 (by omega)]
    exact congrArg (fun z => some (z, r_cp m 206 0 0)) b3
  refine ⟨_, _, _, hC, hM, r_rd hon h (fun p x y => f2 p x y) (fun p x => r_cp_p x) (fun i hi => ?_) ?_⟩
  · by_cases z : i < 103
    · omega
    · exact r_cp_out (Or.inr (by omega))
  · refine r_ser_ext hs (fun i x y => f3 i x y) (fun n' e' _ i hi => ?_) (fun i hi => em i hi)
    have : n' = n := (nI_eq (by omega) (by omega)).mp (e'.symm.trans b2)
    subst this
    exact f4 i hi
theorem z_back : s_pure_back Rel := by
  intro c m h a1
  obtain ⟨-, -, -, -, ⟨⟨i0, i1, i2, i3⟩, -, -⟩, -, -⟩ := id h
  by_cases hc : 0 ≤ a1.toInt ∧ a1.toInt ≤ 1
  · rcases q_01 hc with rfl | rfl
    · rcases i2 with z | z
      · refine ⟨-2, c, m, ?_, ?_, h⟩
        · unfold fX6_back
          rw [p_img, if_pos (by decide), p_bi, if_neg (by decide), p_gd (by decide), show (Int32.toNatClampNeg 0) = 0 from rfl, i0, if_pos z]
        · unfold fX7_back
          rw [p_yes (by decide), p_bi, if_neg (by decide), p_gd (by decide), show (Int32.toNatClampNeg 0) = 0 from rfl, if_pos z]
      · exact r_back0 z h
    · rcases i3 with z | z
      · refine ⟨-2, c, m, ?_, ?_, h⟩
        · unfold fX6_back
          rw [p_img, if_pos (by decide), p_bi, if_neg (by decide), p_gd (by decide), show (Int32.toNatClampNeg 1) = 1 from rfl, i1, if_pos z]
        · unfold fX7_back
          rw [p_yes (by decide), p_bi, if_neg (by decide), p_gd (by decide), show (Int32.toNatClampNeg 1) = 1 from rfl, if_pos z]
      · exact r_back1 z h
  · refine ⟨-1, c, m, ?_, ?_, h⟩
    · unfold fX6_back
      rw [p_img, if_neg hc, p_bi, if_pos rfl]
    · unfold fX7_back
      rw [p_no (by rw [p_t64]; exact hc), p_bi, if_pos rfl]
