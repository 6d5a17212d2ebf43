/-! PURE: shown, count -/
theorem r_dg_l (w : Nat) : (r_dg w).length ≤ 4 := by
  unfold r_dg
  have l1 := r_d1_l w 1000
  have l2 := r_d1_l w 100
  have l3 := r_d1_l w 10
  have l4 := r_d1_l w 1
  rw [List.length_append, List.length_append, List.length_append]
  omega
def r_fr (A F : Nat) : List Int32 := (if F = 1 ∨ 0 < A % 100 then [46, nI (48 + A / 10 % 10)] else []) ++ (if F = 1 ∨ 0 < A % 10 then [nI (48 + A % 10)] else [])
theorem r_fr_l (A F : Nat) : (r_fr A F).length ≤ 3 := by
  unfold r_fr
  rw [List.length_append]
  by_cases x : F = 1 ∨ 0 < A % 100
  · rw [if_pos x]
    by_cases y : F = 1 ∨ 0 < A % 10
    · rw [if_pos y]; exact Nat.le_refl 3
    · rw [if_neg y]; show 2 ≤ 3; omega
  · rw [if_neg x]
    by_cases y : F = 1 ∨ 0 < A % 10
    · rw [if_pos y]; show 1 ≤ 3; omega
    · rw [if_neg y]; show 0 ≤ 3; omega
theorem q_fg {n : Nat} (h : n < 10) : 0 ≤ (nI (48 + n)).toInt ∧ (nI (48 + n)).toInt ≤ 127 := by
  rw [nI_toInt (by omega)]
  omega
theorem p_b33 {c : Sg} {L : List Int32} {x1 : Int32} {A F : Nat} (hL : L.length ≤ 1) (h : r_wd c L) (hA : A ≤ 999999) (hF : F ≤ 2) (ea : s_abs x1 = nI A) : ∃ c', fX5_writeNumber_b33 c x1 (nI F) = some c' ∧ r_cw c c' ∧ r_wd c' (L ++ (r_dg (A / 100) ++ r_fr A F)) := by
  obtain ⟨c1, f1, s1, h1⟩ := p_ww (w := A / 100) (by omega) hL h
  have l1 := r_dg_l (A / 100)
  have hl : (L ++ r_dg (A / 100)).length ≤ 5 := by rw [List.length_append]; omega
  have d1 : nI A / 100 = nI (A / 100) := pk_div (d := 100) (by omega) (by omega) (by omega)
  have d2 : nI A / 10 = nI (A / 10) := pk_div (d := 10) (by omega) (by omega) (by omega)
  have d3 : s_rem (nI (A / 10)) 10 = nI (A / 10 % 10) := q_rem (d := 10) (by omega) (by omega) (by omega)
  have d4 : s_rem (nI A) 10 = nI (A % 10) := q_rem (d := 10) (by omega) (by omega) (by omega)
  have d5 : (48 : Int32) + nI (A / 10 % 10) = nI (48 + A / 10 % 10) := nI_add 48 _
  have d6 : (48 : Int32) + nI (A % 10) = nI (48 + A % 10) := nI_add 48 _
  have g1 := q_fg (n := A / 10 % 10) (by omega)
  have g2 := q_fg (n := A % 10) (by omega)
  obtain ⟨c2, f2, s2, h2⟩ := p_push (x := 46) (by omega) h1 (by decide) (by decide)
  obtain ⟨c3, f3, s3, h3⟩ := p_push (x := nI (48 + A / 10 % 10)) (by rw [List.length_append]; show _ + 1 < 8; omega) h2 g1.1 g1.2
  obtain ⟨c4, f4, s4, h4⟩ := p_push (x := nI (48 + A % 10)) (by rw [List.length_append, List.length_append]; show _ + 1 + 1 < 8; omega) h3 g2.1 g2.2
  have e1 : F = 1 ↔ nI F = 1 := (nI_eq (b := 1) (by omega) (by omega)).symm
  have hb88 : ∀ y0 : Int32, fX5_writeNumber_b88 c1 (nI (A / 10 % 10)) (nI (A % 10)) y0 = if y0 = 0 then some c3 else some c4 := fun y0 => by
    unfold fX5_writeNumber_b88 fX5_writeNumber_b103
    rw [f2, p_bv, d5, f3, p_bv, d6]
    by_cases z : y0 = 0
    · rw [if_pos z, if_pos z]
    · rw [if_neg z, if_neg z, f4, p_bv]
  have hs : fX5_writeNumber_b33 c x1 (nI F) = (if F = 1 ∨ 0 < A % 10 then some c4 else if 0 < A % 100 then some c3 else some c1) := by
    unfold fX5_writeNumber_b33 fX5_writeNumber_b71 fX5_writeNumber_b76
    rw [p_lt, ea, d1, f1, p_bv, d2, d3, d4, p_lt, p_lt, if_neg q10, if_pos rfl, hb88, hb88, if_neg q10, if_pos rfl]
    unfold fX5_writeNumber_b103
    rw [if_pos rfl]
    by_cases a : F = 1
    · rw [if_pos (e1.mp a), if_pos (Or.inl a)]
    · rw [if_neg (fun z => a (e1.mpr z))]
      by_cases b : 0 < A % 10
      · rw [if_neg (nI_nle b (by omega)), if_pos (Or.inr b)]
      · rw [if_pos (show nI (A % 10) ≤ 0 by rw [show A % 10 = 0 by omega]; decide), if_neg (show ¬ (F = 1 ∨ 0 < A % 10) by omega)]
        by_cases d : 0 < A % 100
        · rw [if_neg (nI_nle (by omega) (by omega)), if_pos d]
        · rw [if_pos (by rw [show A / 10 % 10 = 0 by omega]; decide), if_neg d]
  rw [hs]
  unfold r_fr
  by_cases a : F = 1 ∨ 0 < A % 10
  · refine ⟨c4, by rw [if_pos a], r_cw_t s1 (r_cw_t s2 (r_cw_t s3 s4)), ?_⟩
    rw [if_pos (show F = 1 ∨ 0 < A % 100 by omega), if_pos a]
    simp only [List.append_assoc, List.cons_append, List.nil_append] at h4 ⊢
    exact h4
  · rw [if_neg a]
    by_cases d : 0 < A % 100
    · refine ⟨c3, by rw [if_pos d], r_cw_t s1 (r_cw_t s2 s3), ?_⟩
      rw [if_pos (Or.inr d), if_neg a]
      simp only [List.append_assoc, List.cons_append, List.nil_append, List.append_nil] at h3 ⊢
      exact h3
    · refine ⟨c1, by rw [if_neg d], s1, ?_⟩
      rw [if_neg (by omega), if_neg a]
      simp only [List.append_nil]
      exact h1
theorem p_b93 {m : Sg} {L : List Int32} {A F : Nat} (hL : L.length ≤ 1) (h : r_wm m L) (hA : A ≤ 999999) (hF : F ≤ 2) : ∃ m', fX7_shownOf_b93 m (nI F) (nI A) = some (nI (L ++ (r_dg (A / 100) ++ r_fr A F)).length, m') ∧ r_mw m m' ∧ r_wm m' (L ++ (r_dg (A / 100) ++ r_fr A F)) := by
  obtain ⟨c1, f1, s1, h1⟩ := p_sn (w := A / 100) (by omega) hL h
  have l1 := r_dg_l (A / 100)
  have hl : (L ++ r_dg (A / 100)).length ≤ 5 := by rw [List.length_append]; omega
  have d1 : nI A / 100 = nI (A / 100) := pk_div (d := 100) (by omega) (by omega) (by omega)
  have d2 : s_rem (nI A) 100 = nI (A % 100) := q_rem (d := 100) (by omega) (by omega) (by omega)
  have d3 : nI (A % 100) / 10 = nI (A / 10 % 10) := by rw [show A / 10 % 10 = A % 100 / 10 by omega]; exact pk_div (d := 10) (by omega) (by omega) (by omega)
  have d4 : s_rem (nI (A % 100)) 10 = nI (A % 10) := by rw [show A % 10 = A % 100 % 10 by omega]; exact q_rem (d := 10) (by omega) (by omega) (by omega)
  have d5 : (48 : Int32) + nI (A / 10 % 10) = nI (48 + A / 10 % 10) := nI_add 48 _
  have d6 : (48 : Int32) + nI (A % 10) = nI (48 + A % 10) := nI_add 48 _
  obtain ⟨c2, f2, s2, h2⟩ := p_shows (x := 46) (by omega) h1
  obtain ⟨c3, f3, s3, h3⟩ := p_shows (x := nI (48 + A / 10 % 10)) (by rw [List.length_append]; show _ + 1 < 16; omega) h2
  obtain ⟨c4, f4, s4, h4⟩ := p_shows (x := nI (48 + A % 10)) (by rw [List.length_append, List.length_append]; show _ + 1 + 1 < 16; omega) h3
  have e1 : F = 1 ↔ nI F = 1 := (nI_eq (b := 1) (by omega) (by omega)).symm
  have h152 : fX7_shownOf_b152 c3 (nI (A % 100)) = some (c4 0 22, c4) := by
    unfold fX7_shownOf_b152 fX7_shownOf_b164
    rw [d4, p_lt, d6, f4, p_bv]
  have h121 : fX7_shownOf_b121 c1 (nI F) (nI (A % 100)) = if F = 1 ∨ 0 < A % 10 then some (c4 0 22, c4) else some (c3 0 22, c3) := by
    unfold fX7_shownOf_b121 fX7_shownOf_b139
    rw [f2, p_bv, d3, d5, f3, p_bv, h152, d4, p_lt]
    unfold fX7_shownOf_b164
    by_cases a : F = 1
    · rw [if_pos (e1.mp a), if_pos (Or.inl a)]
    · rw [if_neg (fun z => a (e1.mpr z))]
      by_cases b : 0 < A % 10
      · rw [if_neg (nI_nle b (by omega)), if_pos (Or.inr b)]
      · rw [if_pos (by rw [show A % 10 = 0 by omega]; decide), if_neg (by omega)]
  have hs : fX7_shownOf_b93 m (nI F) (nI A) = (if F = 1 ∨ 0 < A % 10 then some (c4 0 22, c4) else if 0 < A % 100 then some (c3 0 22, c3) else some (c1 0 22, c1)) := by
    unfold fX7_shownOf_b93
    rw [d1, f1, p_bv, d2, p_lt, h121]
    by_cases a : F = 1
    · rw [if_pos (e1.mp a)]
      by_cases b : F = 1 ∨ 0 < A % 10
      · rw [if_pos b, if_pos b]
      · exact absurd (Or.inl a) b
    · rw [if_neg (fun z => a (e1.mpr z))]
      by_cases d : 0 < A % 100
      · rw [if_neg (nI_nle (by omega) (by omega)), if_pos d]
      · rw [if_pos (by rw [show A % 100 = 0 by omega]; decide), if_neg (by omega), if_neg d]
        unfold fX7_shownOf_b139 fX7_shownOf_b164
        rw [if_neg (fun z => a (e1.mpr z)), d4, p_lt, if_pos (by rw [show A % 10 = 0 by omega]; decide)]
  rw [hs]
  unfold r_fr
  by_cases a : F = 1 ∨ 0 < A % 10
  · rw [if_pos (show F = 1 ∨ 0 < A % 100 by omega), if_pos a, if_pos a]
    simp only [List.append_assoc, List.cons_append, List.nil_append] at h4 ⊢
    exact ⟨c4, by rw [h4.1], r_mw_t s1 (r_mw_t s2 (r_mw_t s3 s4)), h4⟩
  · rw [if_neg a, if_neg a]
    by_cases d : 0 < A % 100
    · rw [if_pos d, if_pos (Or.inr d)]
      simp only [List.append_assoc, List.cons_append, List.nil_append, List.append_nil] at h3 ⊢
      exact ⟨c3, by rw [h3.1], r_mw_t s1 (r_mw_t s2 s3), h3⟩
    · rw [if_neg d, if_neg (by omega)]
      simp only [List.append_nil]
      exact ⟨c1, by rw [h1.1], s1, h1⟩
def r_sg (v : Int32) (F : Nat) : List Int32 := if v.toInt < 0 then [45] else if 0 < v.toInt ∧ F = 2 then [43] else []
def r_tx (v : Int32) (F : Nat) : List Int32 := r_sg v F ++ (r_dg (v.toInt.natAbs / 100) ++ r_fr v.toInt.natAbs F)
theorem r_sg_l (v : Int32) (F : Nat) : (r_sg v F).length ≤ 1 := by
  unfold r_sg
  by_cases x : v.toInt < 0
  · rw [if_pos x]; exact Nat.le_refl 1
  · rw [if_neg x]
    by_cases y : 0 < v.toInt ∧ F = 2
    · rw [if_pos y]; exact Nat.le_refl 1
    · rw [if_neg y]; exact Nat.zero_le 1
theorem r_tx_l (v : Int32) (F : Nat) : (r_tx v F).length ≤ 8 := by
  unfold r_tx
  have l1 := r_sg_l v F
  have l2 := r_dg_l (v.toInt.natAbs / 100)
  have l3 := r_fr_l v.toInt.natAbs F
  rw [List.length_append, List.length_append]
  omega
theorem p_wn {c : Sg} {v : Int32} {F : Nat} (hv : v.toInt.natAbs ≤ 999999) (hF : F ≤ 2) : ∃ c', fX5_writeNumber c v (nI F) = some c' ∧ r_cw c c' ∧ r_wd c' (r_tx v F) := by
  have w0 : (0 : Int32).toInt = 0 := rfl
  have s0 : r_cw c (s_up c 10 1 0) := fun p a _ => by rw [p_up, if_neg a]
  have h0 : r_wd (s_up c 10 1 0) [] := ⟨rfl, fun j hj => absurd hj (Nat.not_lt_zero j)⟩
  have ea : s_abs v = nI v.toInt.natAbs := q_abs (by omega)
  have e2 : F = 2 ↔ nI F = 2 := (nI_eq (b := 2) (by omega) (by omega)).symm
  unfold fX5_writeNumber
  rw [p_lt]
  by_cases x : 0 ≤ v
  · have x' := x
    rw [q_l, w0] at x'
    rw [if_pos x]
    by_cases y : v ≤ 0
    · have y' := y
      rw [q_l, w0] at y'
      obtain ⟨c2, f2, s2, h2⟩ := p_b33 (by exact Nat.zero_le 1) h0 hv hF ea
      refine ⟨c2, by rw [if_pos y]; exact f2, r_cw_t s0 s2, ?_⟩
      have : r_sg v F = [] := by unfold r_sg; rw [if_neg (by omega), if_neg (by omega)]
      unfold r_tx
      rw [this]; exact h2
    · have y' := y
      rw [q_l, w0] at y'
      rw [if_neg y]
      by_cases z : F = 2
      · obtain ⟨c1, f1, s1, h1⟩ := p_push (x := 43) (by show 0 < 8; omega) h0 (by decide) (by decide)
        obtain ⟨c2, f2, s2, h2⟩ := p_b33 (x1 := v) (A := v.toInt.natAbs) (F := F) (L := [43]) (Nat.le_refl 1) h1 hv hF ea
        refine ⟨c2, by rw [if_pos (e2.mp z), f1, p_bv]; exact f2, r_cw_t s0 (r_cw_t s1 s2), ?_⟩
        have : r_sg v F = [43] := by unfold r_sg; rw [if_neg (by omega), if_pos ⟨by omega, z⟩]
        unfold r_tx
        rw [this]; exact h2
      · obtain ⟨c2, f2, s2, h2⟩ := p_b33 (by exact Nat.zero_le 1) h0 hv hF ea
        refine ⟨c2, by rw [if_neg (fun q => z (e2.mpr q))]; exact f2, r_cw_t s0 s2, ?_⟩
        have : r_sg v F = [] := by unfold r_sg; rw [if_neg (by omega), if_neg (fun q => z q.2)]
        unfold r_tx
        rw [this]; exact h2
  · have x' := x
    rw [q_l, w0] at x'
    obtain ⟨c1, f1, s1, h1⟩ := p_push (x := 45) (by show 0 < 8; omega) h0 (by decide) (by decide)
    obtain ⟨c2, f2, s2, h2⟩ := p_b33 (x1 := v) (A := v.toInt.natAbs) (F := F) (L := [45]) (Nat.le_refl 1) h1 hv hF ea
    refine ⟨c2, by rw [if_neg x, f1, p_bv]; exact f2, r_cw_t s0 (r_cw_t s1 s2), ?_⟩
    have : r_sg v F = [45] := by unfold r_sg; rw [if_pos (by omega)]
    unfold r_tx
    rw [this]; exact h2
theorem p_smn {m : Sg} {v : Int32} {F : Nat} (hv : v.toInt.natAbs ≤ 999999) (hF : F ≤ 2) (h0 : r_wm m []) : ∃ m', (if 0 ≤ v then (if v ≤ 0 then (fX7_shownOf_b83 m v (nI F)) else (if nI F = (2 : Int32) then (s_bv (fX7_shows m (43 : Int32)) (fun σ13 => (fX7_shownOf_b83 σ13 v (nI F)))) else (fX7_shownOf_b83 m v (nI F)))) else (s_bv (fX7_shows m (45 : Int32)) (fun σ15 => (fX7_shownOf_b83 σ15 v (nI F))))) = some (nI (r_tx v F).length, m') ∧ r_mw m m' ∧ r_wm m' (r_tx v F) := by
  have w0 : (0 : Int32).toInt = 0 := rfl
  have e2 : F = 2 ↔ nI F = 2 := (nI_eq (b := 2) (by omega) (by omega)).symm
  have h83 : ∀ (m : Sg) (L : List Int32), L.length ≤ 1 → r_wm m L → ∃ m', fX7_shownOf_b83 m v (nI F) = some (nI (L ++ (r_dg (v.toInt.natAbs / 100) ++ r_fr v.toInt.natAbs F)).length, m') ∧ r_mw m m' ∧ r_wm m' (L ++ (r_dg (v.toInt.natAbs / 100) ++ r_fr v.toInt.natAbs F)) := fun m L hL h => by
    unfold fX7_shownOf_b83
    by_cases x : 0 ≤ v
    · have x' := x
      rw [q_l, w0] at x'
      have e : v = nI v.toInt.natAbs := by rw [q_e, nI_toInt (by omega)]; omega
      rw [if_pos x]
      have := p_b93 (F := F) hL h hv hF
      rw [← e] at this
      exact this
    · have x' := x
      rw [q_l, w0] at x'
      have e : -v = nI v.toInt.natAbs := by
        rw [q_e, nI_toInt (by omega), Int32.toInt_neg]
        simp only [Int.bmod]
        omega
      rw [if_neg x, e]
      exact p_b93 hL h hv hF
  by_cases x : 0 ≤ v
  · have x' := x
    rw [q_l, w0] at x'
    rw [if_pos x]
    by_cases y : v ≤ 0
    · have y' := y
      rw [q_l, w0] at y'
      have : r_sg v F = [] := by unfold r_sg; rw [if_neg (by omega), if_neg (by omega)]
      rw [if_pos y]
      unfold r_tx
      rw [this]
      exact h83 m [] (Nat.zero_le 1) h0
    · have y' := y
      rw [q_l, w0] at y'
      rw [if_neg y]
      by_cases z : F = 2
      · obtain ⟨c1, f1, s1, h1⟩ := p_shows (x := 43) (by show 0 < 16; omega) h0
        obtain ⟨c2, f2, s2, h2⟩ := h83 c1 [43] (Nat.le_refl 1) h1
        have : r_sg v F = [43] := by unfold r_sg; rw [if_neg (by omega), if_pos ⟨by omega, z⟩]
        rw [if_pos (e2.mp z), f1, p_bv]
        unfold r_tx
        rw [this]
        exact ⟨c2, f2, r_mw_t s1 s2, h2⟩
      · have : r_sg v F = [] := by unfold r_sg; rw [if_neg (by omega), if_neg (fun q => z q.2)]
        rw [if_neg (fun q => z (e2.mpr q))]
        unfold r_tx
        rw [this]
        exact h83 m [] (Nat.zero_le 1) h0
  · have x' := x
    rw [q_l, w0] at x'
    obtain ⟨c1, f1, s1, h1⟩ := p_shows (x := 45) (by show 0 < 16; omega) h0
    obtain ⟨c2, f2, s2, h2⟩ := h83 c1 [45] (Nat.le_refl 1) h1
    have : r_sg v F = [45] := by unfold r_sg; rw [if_pos (by omega)]
    rw [if_neg x, f1, p_bv]
    unfold r_tx
    rw [this]
    exact ⟨c2, f2, r_mw_t s1 s2, h2⟩
theorem r_ro_b {a : Int32} {D : Nat} (h : r_rq a D ≤ 999999) : (r_ro a D).toInt.natAbs ≤ 999999 := by
  have e := nI_toInt (n := r_rq a D) (by omega)
  unfold r_ro
  by_cases x : 0 ≤ a
  · rw [if_pos x, e]; omega
  · rw [if_neg x, Int32.toInt_neg, e]
    simp only [Int.bmod]
    omega
/-- what is shown of one reading -/
theorem p_show {c m : Sg} {N W E P Q U F t k : Nat} (b : r_bs c m N W E P Q U F) (ht : t < N) (h : r_hc c (m 1) (t + 1 - W) (t + 1 - (t + 1 - W)) k) : ∃ c' m' L, fX6_writeWords c = some c' ∧ fX7_shownOf m (nI t) = some (nI L.length, m') ∧ r_cw c c' ∧ r_mt m m' ∧ r_wd c' L ∧ r_wm m' L ∧ L.length ≤ 8 := by
  have s0 : r_mw m (s_up m 0 22 0) := ⟨fun p a _ => by rw [p_up, if_neg a], fun i hi => by
    show upd (m 0) 22 0 i = _
    rw [p_upd, if_neg hi]⟩
  have b' : r_bs c (s_up m 0 22 0) N W E P Q U F := r_bs_2 b (r_cs_r c) (r_mt_w s0)
  obtain ⟨m1, f1, s1, hp, hv⟩ := p_res b' ht h
  have hk := hp.1
  have e8 := hp.2.1
  have hw : r_wm m1 [] := ⟨by rw [s1.2 22 (by omega)]; rfl, fun j hj => absurd hj (Nat.not_lt_zero j)⟩
  have sT : r_mt m m1 := r_mt_t (r_mt_w s0) (r_mt_of s1)
  obtain ⟨⟨b1, b2, b3, b4, b5, b6, b7, b8, b9, b10⟩, ⟨d1, d2, d3, d4, d5, d6, d7⟩, ⟨g1, g2, g3, g4, g5, g6, g7⟩, -⟩ := id b
  unfold fX6_writeWords fX7_shownOf
  rw [p_hasR b e8 hk, p_bi, p_lt, f1, p_bi]
  by_cases x : 0 < k ∧ E ≤ k
  · obtain ⟨v1, v2, v3, v4⟩ := hv x
    have hD := r_dn_b (Q := Q) (U := U) b7 b8
    have hob := r_ov_b (U := U) x.1 hk b6 b7 b8 b9 h.2.1
    have hro := r_ro_b (r_rq_b hD.1 hob)
    have eF : m1 1 101 = nI F := by rw [r_ms_1 s1]; exact g7
    rw [if_pos x, if_neg q10, if_neg q10, p_rnd b e8 x.1 hk h.2.1, p_bi, p_rndM hD hob v3 v4, p_bi, p_lt, eF, d7]
    obtain ⟨c2, f2, s2, h2⟩ := p_wn (c := c) hro b10
    obtain ⟨m2, f3, s3, h3⟩ := p_smn hro b10 hw
    exact ⟨c2, m2, _, by rw [f2, p_bv], f3, s2, r_mt_t sT (r_mt_w s3), h2, h3, r_tx_l _ _⟩
  · rw [if_neg x, if_pos rfl, if_pos rfl]
    have c0 : r_cw c (s_up c 10 1 0) := fun p a _ => by rw [p_up, if_neg a]
    have h0 : r_wd (s_up c 10 1 0) [] := ⟨rfl, fun j hj => absurd hj (Nat.not_lt_zero j)⟩
    obtain ⟨c1, a1, a2, a3⟩ := p_push (x := 110) (by show 0 < 8; omega) h0 (by decide) (by decide)
    obtain ⟨c2, a4, a5, a6⟩ := p_push (x := 111) (by show 1 < 8; omega) a3 (by decide) (by decide)
    obtain ⟨c3, a7, a8, a9⟩ := p_push (x := 110) (by show 2 < 8; omega) a6 (by decide) (by decide)
    obtain ⟨c4, a10, a11, a12⟩ := p_push (x := 101) (by show 3 < 8; omega) a9 (by decide) (by decide)
    obtain ⟨m2, e1, e2, e3⟩ := p_shows (x := 110) (by show 0 < 16; omega) hw
    obtain ⟨m3, e4, e5, e6⟩ := p_shows (x := 111) (by show 1 < 16; omega) e3
    obtain ⟨m4, e7, e8, e9⟩ := p_shows (x := 110) (by show 2 < 16; omega) e6
    obtain ⟨m5, e10, e11, e12⟩ := p_shows (x := 101) (by show 3 < 16; omega) e9
    refine ⟨c4, m5, [110, 111, 110, 101], ?_, ?_, r_cw_t c0 (r_cw_t a2 (r_cw_t a5 (r_cw_t a8 a11))), r_mt_t sT (r_mt_t (r_mt_w e2) (r_mt_t (r_mt_w e5) (r_mt_t (r_mt_w e8) (r_mt_w e11)))), a12, e12, by show 4 ≤ 8; omega⟩
    · unfold fX5_writeNone
      rw [p_lt, a1, p_bv, a4, p_bv, a7, p_bv, a10, p_bv, p_bv]
    · rw [e1, p_bv, e4, p_bv, e7, p_bv, e10, p_bv, e12.1]
      rfl
theorem z_shown : s_pure_shown Rel := by
  intro c m h a1 a2
  have hst := rel_st h
  have hon := r_st_1 h.2.2.2.2.2.2
  obtain ⟨N, W, E, P, Q, U, F, b⟩ := r_bs_of hst hon
  obtain ⟨⟨b1, -⟩, ⟨d1, -⟩, ⟨g1, -⟩, -⟩ := id b
  have w0 : (0 : Int32).toInt = 0 := rfl
  by_cases ht : 0 ≤ a1.toInt ∧ a1.toInt < N
  · by_cases hw : 0 ≤ a2
    · obtain ⟨t, _, rfl, et⟩ := q_nat ht.1
      obtain ⟨j, _, rfl, ej⟩ := q_nat (x := a2) (by rw [q_l, w0] at hw; exact hw)
      have htN : t < N := by omega
      obtain ⟨c1, k, f1, s1, h1⟩ := p_load b htN
      have b' := r_bs_s b s1 (r_ms_r _)
      obtain ⟨c2, m2, L, f2, f3, s2, s3, hc, hm, hl⟩ := p_show b' htN h1
      have hR : Rel c2 m2 := r_scr2 hst (r_cs_t s1 (r_cs_w s2)) s3
      have hC : fX6_shown c (nI t) (nI j) = (if nI L.length ≤ nI j then some (-4, c2) else s_bi (fX5_byteAt c2 (nI j)) (fun r13 σ11 => some (r13, σ11))) := by
        unfold fX6_shown
        rw [p_has b1 d1, if_pos ht, p_bi, if_neg q10, if_pos hw, f1, p_bv, f2, p_bv, hc.1]
      have hM : fX7_shown m (nI t) (nI j) = (if nI L.length ≤ nI j then some (-4, m2) else s_gd (s_in (nI j) 16) (some (m2 7 (Int32.toNatClampNeg (nI j)), m2))) := by
        unfold fX7_shown
        rw [p_there b1 g1, if_pos ht, p_bi, if_neg q10, if_pos hw, f3, p_bi]
      rw [hC, hM]
      by_cases x : L.length ≤ j
      · rw [if_pos (nI_le x (by omega)), if_pos (nI_le x (by omega))]; exact ⟨_, _, _, rfl, rfl, hR⟩
      · have x1 : ¬ nI L.length ≤ nI j := nI_ge (by omega) (by omega)
        refine ⟨L.getD j 0, c2, m2, ?_, ?_, hR⟩
        · unfold fX5_byteAt
          rw [if_neg x1, if_neg (nI_pos (by omega)), hc.1, if_neg x1, p_gd (p_inN (by omega) (by omega)), p_bi, nI_clamp (by omega), hc.2 j (by omega)]
        · rw [if_neg x1, p_gd (p_inN (by omega) (by omega)), nI_clamp (by omega), hm.2 j (by omega)]
    · refine ⟨-1, c, r_st m, ?_, ?_, hst⟩
      · unfold fX6_shown fX6_shown_b15
        rw [p_has b1 d1, if_pos ht, p_bi, if_neg q10, if_neg hw]
      · unfold fX7_shown fX7_shown_b12
        rw [p_there b1 g1, if_pos ht, p_bi, if_neg q10, if_neg hw]
  · refine ⟨-1, c, r_st m, ?_, ?_, hst⟩
    · unfold fX6_shown fX6_shown_b15
      rw [p_has b1 d1, if_neg ht, p_bi, if_pos rfl]
    · unfold fX7_shown fX7_shown_b12
      rw [p_there b1 g1, if_neg ht, p_bi, if_pos rfl]
/-! count -/
theorem p_sbL {N W E P Q U F : Nat} : ∀ (f t : Nat) (c m : Sg) (x : Int32) (k : Nat), r_bs c m N W E P Q U F → t ≤ N → N - t < f → r_hc c (m 1) (t - W) (t - (t - W)) k → ∃ r c' m', fX6_countShownBytes_b11_L f c x (nI t) = some (r, c') ∧ fX7_shownAll_b4_L f m x (nI t) = some (r, m') ∧ r_cs c c' ∧ r_mt m m' := by
  intro f
  induction f with
  | zero => intro t c m x k _ _ h; omega
  | succ f ih =>
    intro t c m x k b ht hf h
    obtain ⟨⟨b1, -⟩, ⟨d1, -⟩, ⟨g1, -⟩, -⟩ := id b
    show ∃ r c' m', fX6_countShownBytes_b11 (fX6_countShownBytes_b11_L f) c x (nI t) = some (r, c') ∧ fX7_shownAll_b4 (fX7_shownAll_b4_L f) m x (nI t) = some (r, m') ∧ _
    unfold fX6_countShownBytes_b11 fX7_shownAll_b4 fX7_many
    rw [p_bi, d1, g1]
    by_cases y : N ≤ t
    · rw [if_pos (nI_le y (by omega)), if_pos (nI_le y (by omega))]
      exact ⟨x, c, m, rfl, rfl, r_cs_r c, r_mt_r m⟩
    · rw [if_neg (nI_ge (by omega) (by omega)), if_neg (nI_ge (by omega) (by omega))]
      obtain ⟨c1, k1, f1, s1, h1⟩ := p_slide b (show t < N by omega) h
      have b' := r_bs_s b s1 (r_ms_r m)
      obtain ⟨c2, m2, L, f2, f3, s2, s3, hc, hm, hl⟩ := p_show b' (show t < N by omega) h1
      have b2 := r_bs_2 b (r_cs_t s1 (r_cs_w s2)) s3
      have h2 : r_hc c2 (m2 1) (t + 1 - W) (t + 1 - (t + 1 - W)) k1 := by
        unfold r_hc
        rw [r_mt_1 s3, s2 8 (by decide) (by decide), s2 9 (by decide) (by decide)]
        exact h1
      rw [f1, p_bv, f2, p_bv, f3, p_bi, hc.1, p_lt, p_lt, p_lt, p_lt, nI_1]
      obtain ⟨r, c', m', a1, a2, a3, a4⟩ := ih (t + 1) c2 m2 (x + nI L.length) k1 b2 (by omega) (by omega) h2
      exact ⟨r, c', m', a1, a2, r_cs_t (r_cs_t s1 (r_cs_w s2)) a3, r_mt_t s3 a4⟩
theorem p_ci {c : Sg} {x y : Int32} (e0 : c 17 0 = x) (e1 : c 17 1 = y) (hx : x = 0 ∨ x = 1) (hy : y = 0 ∨ y = 1) : fX6_countImages c = some (x + y, c) := by
  have st : ∀ (K : Sg → Int32 → Int32 → Option (Int32 × Sg)) (z : Int32) (i : Nat), i < 2 → (c 17 i = 0 ∨ c 17 i = 1) → fX6_countImages_b4 K c z (nI i) = K c (z + c 17 i) (nI (i + 1)) := fun K z i hi h => by
    unfold fX6_countImages_b4 fX6_countImages_b25
    rw [if_neg (show ¬ (2 : Int32) ≤ nI i from nI_ge (b := 2) hi (by omega)), p_gd (p_inN hi (by omega)), nI_clamp (by omega)]
    rcases h with h | h
    · rw [if_pos h, p_lt, nI_1, h, q_a0]
    · rw [if_neg (by rw [h]; decide), p_lt, p_lt, nI_1, h]
  show fX6_countImages_b4 (fX6_countImages_b4_L 4095) c 0 (nI 0) = _
  rw [st _ _ 0 (by omega) (by rw [e0]; exact hx)]
  show fX6_countImages_b4 (fX6_countImages_b4_L 4094) c _ (nI 1) = _
  rw [st _ _ 1 (by omega) (by rw [e1]; exact hy)]
  show fX6_countImages_b4 (fX6_countImages_b4_L 4093) c _ (nI 2) = _
  unfold fX6_countImages_b4
  rw [if_pos (by decide), e0, e1]
  have : (0 : Int32) + x = x := by simp
  rw [this]
theorem z_count : s_pure_count Rel := by
  intro c m h a1
  have hst := rel_st h
  have hon := r_st_1 h.2.2.2.2.2.2
  obtain ⟨N, W, E, P, Q, U, F, b⟩ := r_bs_of hst hon
  have b1 := b.1.1
  have hM : fX7_count m a1 = (if a1 = 0 then (if (r_st m 8 0) = 0 then (fX7_count_b50 (r_st m) (0 : Int32)) else (fX7_count_b50 (r_st m) (1 : Int32))) else (if a1 = 1 then (some ((r_st m 0 3), r_st m)) else (if a1 = 2 then (if (r_st m 9 0) = (-4 : Int32) then (some ((-4 : Int32), r_st m)) else (some ((r_st m 10 0), r_st m))) else (if a1 = 3 then (s_bi (fX7_shownAll (r_st m)) (fun r11 σ9 => (some (r11, σ9)))) else (some ((-1 : Int32), r_st m)))))) := by
    unfold fX7_count
    rw [p_starts, p_bv]
  rw [hM]
  obtain ⟨q1, ⟨n, hn, t1, t2, -⟩, q3, q4, ⟨⟨i0, i1, i2, i3⟩, -⟩, q6, q7⟩ := id hst
  unfold fX6_count
  by_cases x2 : a1 = 2
  · subst x2
    rw [if_neg (by decide), if_neg (by decide), if_pos rfl, if_neg (by decide), if_neg (by decide), if_pos rfl, p_isN_19]
    rcases q6.1 with ⟨z1, z2⟩ | ⟨len, u1, u2, u3, u4, u5, u6⟩
    · rw [if_pos z1, if_pos z2, p_bi, if_neg (by decide)]
      exact ⟨_, _, _, rfl, rfl, hst⟩
    · have hl : ¬ r_st m 9 0 = -4 := by
        rw [q_e]
        have : (-4 : Int32).toInt = -4 := rfl
        omega
      rw [if_neg (by rw [u2]; exact nI_m1 u1), if_neg hl, p_bi, if_pos rfl, u2, u3]
      exact ⟨_, _, _, rfl, rfl, hst⟩
  · by_cases x0 : a1 = 0
    · have hb : (if (r_st m 8 0) = 0 then (fX7_count_b50 (r_st m) (0 : Int32)) else (fX7_count_b50 (r_st m) (1 : Int32))) = some (r_st m 8 0 + r_st m 8 1, r_st m) := by
        unfold fX7_count_b50 fX7_count_b64
        rcases i2 with z0 | z0 <;> rcases i3 with z1 | z1
        · rw [if_pos z0, if_pos z1, z0, z1]
        · rw [if_pos z0, if_neg (by rw [z1]; decide), z0, z1]
        · rw [if_neg (by rw [z0]; decide), if_pos z1, z0, z1]
        · rw [if_neg (by rw [z0]; decide), if_neg (by rw [z1]; decide), z0, z1]
      rw [if_pos x0, if_pos x0, p_ci i0 i1 i2 i3, p_bi, hb]
      exact ⟨_, _, _, rfl, rfl, hst⟩
    rw [if_neg x0, if_neg x0]
    by_cases x1 : a1 = 1
    · rw [if_pos x1, if_pos x1, t1, t2]
      exact ⟨_, _, _, rfl, rfl, hst⟩
    rw [if_neg x1, if_neg x1, if_neg x2, if_neg x2]
    by_cases x3 : a1 = 3
    · have s0 : r_cs c (s_up c 8 2 0) := r_cs_up _ _ (by omega)
      obtain ⟨r, c', m', e1, e2, e3, e4⟩ := p_sbL s_fu 0 (s_up c 8 2 0) (r_st m) 0 0 (r_bs_s b s0 (r_ms_r _)) (by omega) (by rw [s_fu_e]; omega) (r_hc_0 c _ W)
      have hC : fX6_countShownBytes c = some (r, c') := by
        unfold fX6_countShownBytes fX0_clear
        rw [p_lt, p_bv]; exact e1
      have hN : fX7_shownAll (r_st m) = some (r, m') := e2
      rw [if_pos x3, if_pos x3, hC, hN, p_bi, p_bi]
      exact ⟨_, _, _, rfl, rfl, r_scr2 hst (r_cs_t s0 e3) e4⟩
    · rw [if_neg x3, if_neg x3]
      exact ⟨_, _, _, rfl, rfl, hst⟩
