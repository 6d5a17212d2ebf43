/-! PURE: the relation of the two sides, and small facts -/
theorem p_lt {α R : Type} {a : α} {F : α → Option R} : s_lt a F = F a := rfl
theorem p_bi {R : Type} {a : Int32} {σ : Sg} {k : Int32 → Sg → Option R} : s_bi (some (a, σ)) k = k a σ := rfl
theorem p_bv {R : Type} {σ : Sg} {k : Sg → Option R} : s_bv (some σ) k = k σ := rfl
theorem p_gd {R : Type} {b : Bool} {x : Option R} (h : b = true) : s_gd b x = x := by unfold s_gd; rw [if_pos h]
theorem p_upr (σ : Sg) (p : Nat) (f : Nat → Int32) (q : Nat) : s_upr σ p f q = if q = p then f else σ q := rfl
theorem p_up (σ : Sg) (p i : Nat) (v : Int32) (q : Nat) : s_up σ p i v q = if q = p then upd (σ p) i v else σ q := rfl
theorem p_upd (f : Nat → Int32) (k : Nat) (x : Int32) (j : Nat) : upd f k x j = if j = k then x else f j := rfl
theorem p_in {i : Int32} {n : Nat} (h0 : 0 ≤ i.toInt) (h : i.toInt < n) : s_in i n = true := by
  unfold s_in
  exact decide_eq_true (vp_in_iff.mpr ⟨h0, h⟩)
theorem p_inN {j n : Nat} (h : j < n) (hn : n < 2 ^ 31) : s_in (nI j) n = true := by
  unfold s_in
  exact decide_eq_true (vp_in_nI h hn)
theorem p_z0 : s_z 0 = true := by decide
theorem p_z1 : s_z 1 = true := by decide
theorem p_in7 (σ : Sg) (x lo hi : Int64) : fX7_in σ x lo hi = some (if lo.toInt ≤ x.toInt ∧ x.toInt ≤ hi.toInt then 1 else 0, σ) := by
  unfold fX7_in fX7_in_b17
  have h1 : lg_cmp x lo < 0 ↔ x.toInt < lo.toInt := by
    unfold lg_cmp
    rw [← Int64.lt_iff_toInt_lt]
    by_cases a : x > lo
    · rw [if_pos a]
      simp only [gt_iff_lt, Int64.lt_iff_toInt_lt] at a ⊢
      constructor
      · intro h; exact absurd h (by decide)
      · intro h; omega
    · rw [if_neg a]
      by_cases c : x = lo
      · rw [if_pos c, c]
        simp only [Int64.lt_iff_toInt_lt]
        constructor
        · intro h; exact absurd h (by decide)
        · intro h; omega
      · rw [if_neg c]
        have c' : ¬ x.toInt = lo.toInt := fun z => c (Int64.toInt_inj.mp z)
        simp only [gt_iff_lt, Int64.lt_iff_toInt_lt] at a ⊢
        constructor
        · intro _; omega
        · intro _; decide
  have h2 : 0 < lg_cmp x hi ↔ hi.toInt < x.toInt := by
    unfold lg_cmp
    rw [← Int64.lt_iff_toInt_lt]
    by_cases a : x > hi
    · rw [if_pos a]
      constructor
      · intro _; exact a
      · intro _; decide
    · rw [if_neg a]
      by_cases c : x = hi
      · rw [if_pos c, c]
        simp only [Int64.lt_iff_toInt_lt]
        constructor
        · intro h; exact absurd h (by decide)
        · intro h; omega
      · rw [if_neg c]
        constructor
        · intro h; exact absurd h (by decide)
        · intro h; exact absurd h a
  by_cases a : x.toInt < lo.toInt
  · rw [if_pos (h1.mpr a), if_neg (by omega)]
  · rw [if_neg (fun z => a (h1.mp z))]
    by_cases c : hi.toInt < x.toInt
    · rw [if_pos (h2.mpr c), if_neg (by omega)]
    · rw [if_neg (fun z => c (h2.mp z)), if_pos (by omega)]
theorem p_t64 (x : Int32) : (Int32.toInt64 x).toInt = x.toInt := by simp
/-- what a reading may be -/
def r_ok (x : Int32) : Prop := x = 100000000 ∨ (-999999 ≤ x.toInt ∧ x.toInt ≤ 999999)
/-- the reference's page 0, as it is once begun -/
def r_pg (m : Sg) : Nat → Int32 := fun i => if m 0 1 = 0 then (if i = 96 then 5 else if i = 97 then 1 else if i = 98 then 1 else if i = 99 then 2 else 0) else m 1 i
/-- a Series (object h, readings g) holds what a page u holds; its numbers are in their bounds -/
def r_ser (h g u : Nat → Int32) : Prop :=
  ∃ n : Nat, n ≤ 96 ∧ h 1 = nI n ∧ u 102 = nI n ∧ (∀ i, i < n → g i = u i ∧ r_ok (u i)) ∧
  (h 2 = u 96 ∧ h 3 = u 97 ∧ h 4 = u 98 ∧ h 5 = u 99 ∧ h 6 = u 100 ∧ h 7 = u 101) ∧
  (1 ≤ (u 96).toInt ∧ (u 96).toInt ≤ 24) ∧ (1 ≤ (u 97).toInt ∧ (u 97).toInt ≤ 24) ∧ (0 ≤ (u 98).toInt ∧ (u 98).toInt ≤ (u 99).toInt ∧ 1 ≤ (u 99).toInt ∧ (u 99).toInt ≤ 100) ∧ (0 ≤ (u 100).toInt ∧ (u 100).toInt ≤ 4) ∧ (0 ≤ (u 101).toInt ∧ (u 101).toInt ≤ 2)
def r_tape (c m : Sg) : Prop := ∃ n : Nat, n ≤ 320 ∧ c 1 1 = nI n ∧ m 0 3 = nI n ∧ ∀ i, i < n → c 2 i = m 2 i ∧ 0 ≤ (m 2 i).toInt ∧ (m 2 i).toInt ≤ 127
def r_img (c m : Sg) : Prop := (c 17 0 = m 8 0 ∧ c 17 1 = m 8 1 ∧ (m 8 0 = 0 ∨ m 8 0 = 1) ∧ (m 8 1 = 0 ∨ m 8 1 = 1)) ∧ (m 8 0 = 1 → r_ser (c 13) (c 14) (fun i => m 1 (103 + i))) ∧ (m 8 1 = 1 → r_ser (c 15) (c 16) (fun i => m 1 (206 + i)))
/-- one sheet: nothing on both sides, or the same lane, length and cells -/
def r_one (h g : Nat → Int32) (l n : Int32) (w : Nat → Int32) : Prop :=
  (h 2 = -1 ∧ l = -4) ∨ ∃ N : Nat, N ≤ 40 ∧ h 2 = nI N ∧ n = nI N ∧ h 1 = l ∧ (0 ≤ l.toInt ∧ l.toInt ≤ 2) ∧ ∀ i, i < N → g i = w i
def r_sheet (c m : Sg) : Prop :=
  r_one (c 19) (c 20) (m 9 0) (m 10 0) (fun i => m 11 (0 + i)) ∧ r_one (c 21) (c 22) (m 9 1) (m 10 1) (fun i => m 11 (40 + i)) ∧ r_one (c 23) (c 24) (m 9 2) (m 10 2) (fun i => m 11 (80 + i)) ∧ r_one (c 25) (c 26) (m 9 3) (m 10 3) (fun i => m 11 (120 + i))
theorem r_sheet_to {c c' m m' : Sg} (h : r_sheet c m) (hc : ∀ p, 19 ≤ p → c' p = c p) (h9 : m' 9 = m 9) (h10 : m' 10 = m 10) (h11 : m' 11 = m 11) : r_sheet c' m' := by
  unfold r_sheet
  rw [hc 19 (by omega), hc 20 (by omega), hc 21 (by omega), hc 22 (by omega), hc 23 (by omega), hc 24 (by omega), hc 25 (by omega), hc 26 (by omega), h9, h10, h11]
  exact h
theorem r_shk {c m : Sg} (h : r_sheet c m) {k : Nat} (hk : k < 4) : r_one (c (19 + 2 * k)) (c (20 + 2 * k)) (m 9 k) (m 10 k) (fun i => m 11 (40 * k + i)) := by
  match k, hk with
  | 0, _ => exact h.1
  | 1, _ => exact h.2.1
  | 2, _ => exact h.2.2.1
  | 3, _ => exact h.2.2.2
theorem r_sheet_of {c m : Sg} (h : ∀ k, k < 4 → r_one (c (19 + 2 * k)) (c (20 + 2 * k)) (m 9 k) (m 10 k) (fun i => m 11 (40 * k + i))) : r_sheet c m := ⟨h 0 (by omega), h 1 (by omega), h 2 (by omega), h 3 (by omega)⟩
def r_con (m : Sg) : Prop := m 3 = s_M0 3 ∧ m 4 = s_M0 4 ∧ (m 0 1 = 0 ∨ m 0 1 = 1) ∧ (m 0 1 = 0 → m 8 0 = 0 ∧ m 8 1 = 0)
def Rel (c m : Sg) : Prop :=
  r_ser (c 6) (c 7) (r_pg m) ∧ r_tape c m ∧ c 3 10 = m 0 4 ∧ c 0 8 = m 0 27 ∧ r_img c m ∧ r_sheet c m ∧ r_con m
theorem z_fault : s_pure_fault Rel := by
  intro c m h
  exact ⟨c 3 10, c, m, rfl, by rw [h.2.2.1]; rfl, h⟩
theorem z_torn : s_pure_torn Rel := by
  intro c m h
  exact ⟨c 0 8, c, m, rfl, by rw [h.2.2.2.1]; rfl, h⟩
theorem z_start : Rel s_C0 s_M0 := by
  refine ⟨⟨0, by omega, rfl, rfl, fun i h => absurd h (by omega), ⟨rfl, rfl, rfl, rfl, rfl, rfl⟩, by decide, by decide, by decide, by decide, by decide⟩, ⟨0, by omega, rfl, rfl, fun i h => absurd h (by omega)⟩, rfl, rfl, ⟨⟨rfl, rfl, Or.inl rfl, Or.inl rfl⟩, fun h => absurd h (by decide), fun h => absurd h (by decide)⟩, ⟨Or.inl ⟨rfl, rfl⟩, Or.inl ⟨rfl, rfl⟩, Or.inl ⟨rfl, rfl⟩, Or.inl ⟨rfl, rfl⟩⟩, rfl, rfl, Or.inl rfl, fun _ => ⟨rfl, rfl⟩⟩
theorem p_yes {σ : Sg} {x lo hi : Int64} (h : lo.toInt ≤ x.toInt ∧ x.toInt ≤ hi.toInt) : fX7_in σ x lo hi = some (1, σ) := by rw [p_in7, if_pos h]
theorem p_no {σ : Sg} {x lo hi : Int64} (h : ¬ (lo.toInt ≤ x.toInt ∧ x.toInt ≤ hi.toInt)) : fX7_in σ x lo hi = some (0, σ) := by rw [p_in7, if_neg h]
theorem z_end : s_pure_end Rel := by
  intro c m h a1
  obtain ⟨h1, ⟨n, hn, e1, e2, hb⟩, h3, h4, h5, h6, h7⟩ := h
  have hN : (nI n).toInt = n := nI_toInt (by omega)
  have hz : (0 : Int64).toInt = 0 := rfl
  have hz' : (0 : Int32).toInt = 0 := rfl
  unfold fX6_end fX6_end_b17 fX7_end
  simp only [p_lt, Int32.lt_iff_toInt_lt, Int32.le_iff_toInt_le, e1, e2, hN, hz']
  by_cases hc : 0 ≤ a1.toInt ∧ a1.toInt ≤ n
  · rw [if_neg (by omega), if_pos (by omega), p_yes (by rw [p_t64, p_t64, hz, hN]; exact hc), p_bi, if_neg (by decide)]
    obtain ⟨j, hj, rfl⟩ := nI_of (x := a1) (by rw [Int32.lt_iff_toInt_lt]; omega)
    have hjn : j ≤ n := by rw [nI_toInt hj] at hc; omega
    refine ⟨nI n, s_up c 1 1 (nI j), s_up m 0 3 (nI j), rfl, by rw [e2], h1, ⟨j, by omega, rfl, rfl, fun i hi => hb i (by omega)⟩, h3, h4, h5, h6, h7⟩
  · rw [p_no (by rw [p_t64, p_t64, hz, hN]; exact hc), p_bi, if_pos rfl]
    refine ⟨-1, c, m, ?_, rfl, h1, ⟨n, hn, e1, e2, hb⟩, h3, h4, h5, h6, h7⟩
    by_cases c1 : a1.toInt < 0
    · rw [if_pos c1]
    · rw [if_neg c1, if_neg (by omega)]
/-! the reference, once begun -/
def r_bg (m : Sg) : Sg := s_up (s_up (s_up (s_up (s_up (s_up (s_up (s_up m 0 1 1) 1 96 5) 1 97 1) 1 98 1) 1 99 2) 1 100 0) 1 101 0) 1 102 0
def r_st (m : Sg) : Sg := if m 0 1 = 0 then r_bg m else m
theorem p_starts (m : Sg) : fX7_starts m = some (r_st m) := by
  unfold fX7_starts r_st
  by_cases h : m 0 1 = 0
  · rw [if_pos h, if_pos h]
    rfl
  · rw [if_neg h, if_neg h]
theorem r_st_1 {m : Sg} (h : r_con m) : r_st m 0 1 = 1 := by
  unfold r_st
  rcases h.2.2.1 with z | z
  · rw [if_pos z]; rfl
  · rw [if_neg (by rw [z]; decide)]; exact z
theorem r_st_p {m : Sg} {p : Nat} (h0 : p ≠ 0) (h1 : p ≠ 1) : r_st m p = m p := by
  unfold r_st
  by_cases z : m 0 1 = 0
  · rw [if_pos z]
    simp only [r_bg, p_up, if_neg h0, if_neg h1]
  · rw [if_neg z]
theorem r_st_0 {m : Sg} {i : Nat} (h : i ≠ 1) : r_st m 0 i = m 0 i := by
  unfold r_st
  by_cases z : m 0 1 = 0
  · rw [if_pos z]
    simp [r_bg, p_up, p_upd, h]
  · rw [if_neg z]
theorem r_st_hi {m : Sg} {i : Nat} (h : 102 < i) : r_st m 1 i = m 1 i := by
  unfold r_st
  by_cases z : m 0 1 = 0
  · rw [if_pos z]
    simp [r_bg, p_up, p_upd, show i ≠ 96 by omega, show i ≠ 97 by omega, show i ≠ 98 by omega, show i ≠ 99 by omega, show i ≠ 100 by omega, show i ≠ 101 by omega, show i ≠ 102 by omega]
  · rw [if_neg z]
theorem r_st_pg {m : Sg} {i : Nat} (h0 : 96 ≤ i) (h1 : i ≤ 102) : r_st m 1 i = r_pg m i := by
  unfold r_st r_pg
  by_cases z : m 0 1 = 0
  · rw [if_pos z, if_pos z]
    rcases (show i = 96 ∨ i = 97 ∨ i = 98 ∨ i = 99 ∨ i = 100 ∨ i = 101 ∨ i = 102 by omega) with rfl | rfl | rfl | rfl | rfl | rfl | rfl <;> rfl
  · rw [if_neg z, if_neg z]
theorem r_pg_on {m : Sg} (h : m 0 1 = 1) : r_pg m = m 1 := by
  funext i
  unfold r_pg
  rw [if_neg (by rw [h]; decide)]
theorem r_pg_st {m : Sg} (h : r_con m) : r_pg (r_st m) = r_st m 1 := r_pg_on (r_st_1 h)
theorem r_ser_st {h g : Nat → Int32} {m : Sg} (hc : r_con m) (hs : r_ser h g (r_pg m)) : r_ser h g (r_pg (r_st m)) := by
  rw [r_pg_st hc]
  obtain ⟨n, h1, h2, h3, h4, h5, h6⟩ := hs
  have e : ∀ i, 96 ≤ i → i ≤ 102 → r_st m 1 i = r_pg m i := fun i a b => r_st_pg a b
  refine ⟨n, h1, h2, by rw [e 102 (by omega) (by omega)]; exact h3, fun i hi => ?_, ?_, ?_⟩
  · have hb : ¬ m 0 1 = 0 := by
      intro z
      unfold r_pg at h3
      rw [if_pos z] at h3
      have : n = 0 := by
        have h9 : nI n = nI 0 := h3.symm
        exact (nI_eq (by omega) (by omega)).mp h9
      omega
    have e2 : r_st m = m := by unfold r_st; rw [if_neg hb]
    have e3 : r_pg m = m 1 := by funext j; unfold r_pg; rw [if_neg hb]
    rw [e2, ← e3]
    exact h4 i hi
  · rw [e 96 (by omega) (by omega), e 97 (by omega) (by omega), e 98 (by omega) (by omega), e 99 (by omega) (by omega), e 100 (by omega) (by omega), e 101 (by omega) (by omega)]
    exact h5
  · rw [e 96 (by omega) (by omega), e 97 (by omega) (by omega), e 98 (by omega) (by omega), e 99 (by omega) (by omega), e 100 (by omega) (by omega), e 101 (by omega) (by omega)]
    exact h6
theorem rel_st {c : Sg} {m : Sg} (h : Rel c m) : Rel c (r_st m) := by
  obtain ⟨h1, h2, h3, h4, h5, h6, h7⟩ := h
  refine ⟨r_ser_st h7 h1, ?_, ?_, ?_, ?_, ?_, ?_⟩
  · obtain ⟨n, a1, a2, a3, a4⟩ := h2
    exact ⟨n, a1, a2, by rw [r_st_0 (by decide)]; exact a3, by rw [r_st_p (by decide) (by decide)]; exact a4⟩
  · rw [r_st_0 (by decide)]; exact h3
  · rw [r_st_0 (by decide)]; exact h4
  · unfold r_img
    rw [r_st_p (p := 8) (by decide) (by decide)]
    have e1 : (fun i => r_st m 1 (103 + i)) = (fun i => m 1 (103 + i)) := by funext i; exact r_st_hi (by omega)
    have e2 : (fun i => r_st m 1 (206 + i)) = (fun i => m 1 (206 + i)) := by funext i; exact r_st_hi (by omega)
    rw [e1, e2]
    exact h5
  · unfold r_sheet
    rw [r_st_p (p := 9) (by decide) (by decide), r_st_p (p := 10) (by decide) (by decide), r_st_p (p := 11) (by decide) (by decide)]
    exact h6
  · exact ⟨by rw [r_st_p (by decide) (by decide)]; exact h7.1, by rw [r_st_p (by decide) (by decide)]; exact h7.2.1, Or.inr (r_st_1 h7), fun z => absurd z (by rw [r_st_1 h7]; decide)⟩
