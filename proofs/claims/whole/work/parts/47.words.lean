/-! PURE: words -/
def r_mt (m m' : Sg) : Prop := (∀ p, ¬ p = 0 → ¬ p = 5 → ¬ p = 6 → ¬ p = 7 → m' p = m p) ∧ ∀ i, i < 15 ∨ 22 < i → m' 0 i = m 0 i
def r_cw (c c' : Sg) : Prop := ∀ p, ¬ p = 10 → ¬ p = 11 → c' p = c p
def r_mw (m m' : Sg) : Prop := (∀ p, ¬ p = 0 → ¬ p = 7 → m' p = m p) ∧ ∀ i, ¬ i = 22 → m' 0 i = m 0 i
theorem r_mt_of {m m' : Sg} (h : r_ms m m') : r_mt m m' := ⟨h.1, fun i hi => h.2 i (by omega)⟩
theorem r_mt_w {m m' : Sg} (h : r_mw m m') : r_mt m m' := ⟨fun p h0 _ _ h7 => h.1 p h0 h7, fun i hi => h.2 i (by omega)⟩
theorem r_mt_r (m : Sg) : r_mt m m := r_mt_of (r_ms_r m)
theorem r_mt_t {a b d : Sg} (h : r_mt a b) (k : r_mt b d) : r_mt a d := ⟨fun p h0 h5 h6 h7 => by rw [k.1 p h0 h5 h6 h7, h.1 p h0 h5 h6 h7], fun i hi => by rw [k.2 i hi, h.2 i hi]⟩
theorem r_cs_w {c c' : Sg} (h : r_cw c c') : r_cs c c' := fun p hp => h p (by omega) (by omega)
theorem r_cw_r (c : Sg) : r_cw c c := fun _ _ _ => rfl
theorem r_mw_r (m : Sg) : r_mw m m := ⟨fun _ _ _ => rfl, fun _ _ => rfl⟩
theorem r_cw_t {a b d : Sg} (h : r_cw a b) (k : r_cw b d) : r_cw a d := fun p h0 h1 => by rw [k p h0 h1, h p h0 h1]
theorem r_mw_t {a b d : Sg} (h : r_mw a b) (k : r_mw b d) : r_mw a d := ⟨fun p h0 h1 => by rw [k.1 p h0 h1, h.1 p h0 h1], fun i hi => by rw [k.2 i hi, h.2 i hi]⟩
theorem r_mt_1 {m m' : Sg} (h : r_mt m m') : m' 1 = m 1 := h.1 1 (by decide) (by decide) (by decide) (by decide)
theorem r_scr2 {c c' : Sg} {m m' : Sg} (h : Rel c m) (hc : r_cs c c') (hm : r_mt m m') : Rel c' m' := by
  -- m' is m with its rows and its words changed
  have h1 : r_ms (fun p => if p = 0 then (fun i => if i = 21 ∨ i = 22 then m' 0 i else m 0 i) else m p) m' := ⟨fun p h0 h5 h6 h7 => by rw [hm.1 p h0 h5 h6 h7]; show m p = if p = 0 then _ else m p; rw [if_neg h0], fun i hi => by
    show m' 0 i = if i = 21 ∨ i = 22 then m' 0 i else m 0 i
    by_cases x : i = 21 ∨ i = 22
    · rw [if_pos x]
    · rw [if_neg x]; exact hm.2 i (by omega)⟩
  have h2 : Rel c (fun p => if p = 0 then (fun i => if i = 21 ∨ i = 22 then m' 0 i else m 0 i) else m p) := h
  exact r_scr h2 hc h1
theorem r_bs_2 {c c' m m' : Sg} {N W E P Q U F : Nat} (h : r_bs c m N W E P Q U F) (hc : r_cs c c') (hm : r_mt m m') : r_bs c' m' N W E P Q U F := by
  unfold r_bs
  rw [hc 6 (by omega), hc 7 (by omega), r_mt_1 hm, hm.2 1 (by omega)]
  exact h
def r_wd (c : Sg) (L : List Int32) : Prop := c 10 1 = nI L.length ∧ ∀ j, j < L.length → c 11 j = L.getD j 0
def r_wm (m : Sg) (L : List Int32) : Prop := m 0 22 = nI L.length ∧ ∀ j, j < L.length → m 7 j = L.getD j 0
theorem q_snoc (f : Nat → Int32) (L : List Int32) (x : Int32) (h : ∀ j, j < L.length → f j = L.getD j 0) : ∀ j, j < (L ++ [x]).length → upd f L.length x j = (L ++ [x]).getD j 0 := by
  intro j hj
  rw [List.length_append] at hj
  have hj' : j < L.length + 1 := hj
  rw [p_upd]
  by_cases z : j = L.length
  · rw [if_pos z, z]
    simp
  · rw [if_neg z, h j (by omega)]
    simp [List.getElem?_append, show j < L.length by omega]
theorem p_push {c : Sg} {L : List Int32} {x : Int32} (hL : L.length < 8) (h : r_wd c L) (h0 : 0 ≤ x.toInt) (h1 : x.toInt ≤ 127) : ∃ c', fX5_push c x = some c' ∧ r_cw c c' ∧ r_wd c' (L ++ [x]) := by
  refine ⟨s_up (s_up c 11 L.length x) 10 1 (nI (L.length + 1)), ?_, fun p a b => by rw [p_up, if_neg a, p_up, if_neg b], ?_, ?_⟩
  · unfold fX5_push
    rw [h.1, if_neg (show ¬ (8 : Int32) ≤ nI L.length from nI_ge (a := L.length) (b := 8) hL (by omega)), p_gd (p_inN hL (by omega)), p_lt, p_lt, nI_clamp (by omega), q_byte h0 h1]
    have e : s_up c 11 L.length x 10 1 + 1 = nI (L.length + 1) := by
      show c 10 1 + 1 = _
      rw [h.1, nI_1]
    rw [e]
  · rw [List.length_append]; rfl
  · exact q_snoc (c 11) L x h.2
theorem p_shows {m : Sg} {L : List Int32} {x : Int32} (hL : L.length < 16) (h : r_wm m L) : ∃ m', fX7_shows m x = some m' ∧ r_mw m m' ∧ r_wm m' (L ++ [x]) := by
  refine ⟨s_up (s_up m 7 L.length x) 0 22 (nI (L.length + 1)), ?_, ⟨fun p a b => by rw [p_up, if_neg a, p_up, if_neg b], fun i hi => ?_⟩, ?_, ?_⟩
  · unfold fX7_shows
    rw [h.1, p_gd (p_inN hL (by omega)), p_lt, p_lt, nI_clamp (by omega)]
    have e : s_up m 7 L.length x 0 22 + 1 = nI (L.length + 1) := by
      show m 0 22 + 1 = _
      rw [h.1, nI_1]
    rw [e]
  · show upd (m 0) 22 (nI (L.length + 1)) i = _
    rw [p_upd, if_neg hi]
  · rw [List.length_append]; rfl
  · exact q_snoc (m 7) L x h.2
/-! a whole number's figures -/
def r_d1 (w p : Nat) : List Int32 := if p ≤ w ∨ p = 1 then [nI (48 + w / p % 10)] else []
def r_dg (w : Nat) : List Int32 := r_d1 w 1000 ++ (r_d1 w 100 ++ (r_d1 w 10 ++ r_d1 w 1))
theorem r_d1_l (w p : Nat) : (r_d1 w p).length ≤ 1 := by
  unfold r_d1
  by_cases x : p ≤ w ∨ p = 1
  · rw [if_pos x]; exact Nat.le_refl 1
  · rw [if_neg x]; exact Nat.zero_le 1
theorem q_fig (w p : Nat) : 0 ≤ (nI (48 + w / p % 10)).toInt ∧ (nI (48 + w / p % 10)).toInt ≤ 127 := by
  have : w / p % 10 < 10 := Nat.mod_lt _ (by omega)
  rw [nI_toInt (by omega)]
  omega
theorem q_dig {w p : Nat} (hw : w < 2 ^ 31) (hp : 0 < p) (hp2 : p < 2 ^ 31) : (48 : Int32) + s_rem (nI w / nI p) 10 = nI (48 + w / p % 10) := by
  have h1 : w / p ≤ w := Nat.div_le_self _ _
  have e : s_rem (nI (w / p)) 10 = nI (w / p % 10) := q_rem (d := 10) (by omega) (by omega) (by omega)
  rw [pk_div hw hp hp2, e]
  exact nI_add 48 _
theorem p_wst {w : Nat} (hw : w ≤ 9999) (f : Nat) (c : Sg) (L : List Int32) (p : Nat) (h0 : 0 < p) (hp : p ≤ 1000) (hL : L.length < 8) (h : r_wd c L) : ∃ c', r_cw c c' ∧ r_wd c' (L ++ r_d1 w p) ∧ fX5_writeWhole_b4_L (f + 1) c (nI w) (nI p) = fX5_writeWhole_b4_L f c' (nI w) (nI (p / 10)) := by
  have ed : nI p / 10 = nI (p / 10) := pk_div (d := 10) (by omega) (by omega) (by omega)
  have e1 : ¬ nI p < 1 := nI_nlt (b := 1) h0 (by omega)
  unfold r_d1
  by_cases x : p ≤ w ∨ p = 1
  · obtain ⟨c', f1, s1, h1⟩ := p_push (x := nI (48 + w / p % 10)) hL h (q_fig w p).1 (q_fig w p).2
    refine ⟨c', s1, by rw [if_pos x]; exact h1, ?_⟩
    show fX5_writeWhole_b4 (fX5_writeWhole_b4_L f) c (nI w) (nI p) = _
    have hb : fX5_writeWhole_b19 (fX5_writeWhole_b4_L f) c (nI w) (nI p) = fX5_writeWhole_b4_L f c' (nI w) (nI (p / 10)) := by
      unfold fX5_writeWhole_b19 fX5_writeWhole_b32
      rw [p_gd (p_nz h0 (by omega)), p_lt, q_dig (by omega) h0 (by omega), f1, p_bv, p_lt, ed]
    unfold fX5_writeWhole_b4
    rw [if_neg e1, hb]
    by_cases y : p ≤ w
    · rw [if_pos (nI_le y (by omega))]
    · rw [if_neg (nI_ge (by omega) (by omega)), if_pos (by rw [x.resolve_left y]; rfl)]
  · refine ⟨c, r_cw_r c, by rw [if_neg x, List.append_nil]; exact h, ?_⟩
    show fX5_writeWhole_b4 (fX5_writeWhole_b4_L f) c (nI w) (nI p) = _
    unfold fX5_writeWhole_b4 fX5_writeWhole_b32
    have e2 : ¬ nI p = 1 := fun z => x (Or.inr ((nI_eq (b := 1) (by omega) (by omega)).mp z))
    rw [if_neg e1, if_neg (nI_ge (by omega) (by omega)), if_neg e2, p_lt, ed]
theorem p_ww {w : Nat} (hw : w ≤ 9999) {c : Sg} {L : List Int32} (hL : L.length ≤ 1) (h : r_wd c L) : ∃ c', fX5_writeWhole c (nI w) = some c' ∧ r_cw c c' ∧ r_wd c' (L ++ r_dg w) := by
  have l1 := r_d1_l w 1000
  have l2 := r_d1_l w 100
  have l3 := r_d1_l w 10
  obtain ⟨c1, s1, h1, f1⟩ := p_wst hw 4095 c L 1000 (by omega) (by omega) (by omega) h
  obtain ⟨c2, s2, h2, f2⟩ := p_wst hw 4094 c1 _ 100 (by omega) (by omega) (by rw [List.length_append]; omega) h1
  obtain ⟨c3, s3, h3, f3⟩ := p_wst hw 4093 c2 _ 10 (by omega) (by omega) (by rw [List.length_append, List.length_append]; omega) h2
  obtain ⟨c4, s4, h4, f4⟩ := p_wst hw 4092 c3 _ 1 (by omega) (by omega) (by rw [List.length_append, List.length_append, List.length_append]; omega) h3
  refine ⟨c4, ?_, r_cw_t s1 (r_cw_t s2 (r_cw_t s3 s4)), ?_⟩
  · show fX5_writeWhole_b4_L (4095 + 1) c (nI w) (nI 1000) = some c4
    rw [f1]
    show fX5_writeWhole_b4_L (4094 + 1) c1 (nI w) (nI 100) = some c4
    rw [f2]
    show fX5_writeWhole_b4_L (4093 + 1) c2 (nI w) (nI 10) = some c4
    rw [f3]
    show fX5_writeWhole_b4_L (4092 + 1) c3 (nI w) (nI 1) = some c4
    rw [f4]
    show fX5_writeWhole_b4 (fX5_writeWhole_b4_L 4091) c4 (nI w) (nI 0) = some c4
    unfold fX5_writeWhole_b4
    rw [if_pos (by decide)]
  · unfold r_dg
    rw [List.append_assoc, List.append_assoc, List.append_assoc] at h4
    exact h4
theorem p_mst {w : Nat} (hw : w ≤ 9999) (f : Nat) (m : Sg) (L : List Int32) (p : Nat) (h0 : 0 < p) (hp : p ≤ 1000) (hL : L.length < 16) (h : r_wm m L) : ∃ m', r_mw m m' ∧ r_wm m' (L ++ [nI (48 + w / p % 10)]) ∧ fX7_showsNumber_b18_L (f + 1) m (nI w) (nI p) = fX7_showsNumber_b18_L f m' (nI w) (nI (p / 10)) := by
  have ed : nI p / 10 = nI (p / 10) := pk_div (d := 10) (by omega) (by omega) (by omega)
  obtain ⟨m', f1, s1, h1⟩ := p_shows (x := nI (48 + w / p % 10)) hL h
  refine ⟨m', s1, h1, ?_⟩
  show fX7_showsNumber_b18 (fX7_showsNumber_b18_L f) m (nI w) (nI p) = _
  unfold fX7_showsNumber_b18
  rw [if_neg (nI_nle h0 (by omega)), p_gd (p_nz h0 (by omega)), p_lt, q_dig (by omega) h0 (by omega), f1, p_bv, p_lt, ed]
theorem p_mb2 {w : Nat} (hw : w ≤ 9999) (f : Nat) (m : Sg) (p : Nat) (h0 : 0 < p) (hp : p ≤ 1000) : fX7_showsNumber_b2_L (f + 1) m (nI w) (nI p) = if w / p ≤ 9 then fX7_showsNumber_b18_L s_fu m (nI w) (nI p) else fX7_showsNumber_b2_L f m (nI w) (nI (p * 10)) := by
  have h1 : w / p ≤ w := Nat.div_le_self _ _
  have e10 : nI p * 10 = nI (p * 10) := pk_mul p 10
  show fX7_showsNumber_b2 (fX7_showsNumber_b2_L f) m (nI w) (nI p) = _
  unfold fX7_showsNumber_b2
  rw [p_gd (p_nz h0 (by omega)), pk_div (by omega) h0 (by omega), p_lt, e10]
  by_cases x : w / p ≤ 9
  · rw [if_pos (show nI (w / p) ≤ 9 from nI_le (b := 9) x (by omega)), if_pos x]
  · rw [if_neg (show ¬ nI (w / p) ≤ 9 from nI_ge (a := 9) (by omega) (by omega)), if_neg x]
theorem p_sn {w : Nat} (hw : w ≤ 9999) {m : Sg} {L : List Int32} (hL : L.length ≤ 1) (h : r_wm m L) : ∃ m', fX7_showsNumber m (nI w) = some m' ∧ r_mw m m' ∧ r_wm m' (L ++ r_dg w) := by
  have hz : ∀ (f : Nat) (m' : Sg), fX7_showsNumber_b18_L (f + 1) m' (nI w) (nI 0) = some m' := fun f m' => by
    show fX7_showsNumber_b18 (fX7_showsNumber_b18_L f) m' (nI w) (nI 0) = some m'
    unfold fX7_showsNumber_b18
    rw [if_pos (by decide)]
  have t1 : ∀ (f : Nat) (m : Sg) (L : List Int32), L.length < 16 → r_wm m L → ∃ m', fX7_showsNumber_b18_L (f + 2) m (nI w) (nI 1) = some m' ∧ r_mw m m' ∧ r_wm m' (L ++ r_d1 w 1) := fun f m L hL h => by
    obtain ⟨m', s1, h1, f1⟩ := p_mst hw (f + 1) m L 1 (by omega) (by omega) hL h
    refine ⟨m', by rw [f1]; exact hz f m', s1, ?_⟩
    unfold r_d1
    rw [if_pos (Or.inr rfl)]
    exact h1
  have t2 : 10 ≤ w → ∀ (f : Nat) (m : Sg) (L : List Int32), L.length < 15 → r_wm m L → ∃ m', fX7_showsNumber_b18_L (f + 3) m (nI w) (nI 10) = some m' ∧ r_mw m m' ∧ r_wm m' (L ++ (r_d1 w 10 ++ r_d1 w 1)) := fun hw2 f m L hL h => by
    obtain ⟨m', s1, h1, f1⟩ := p_mst hw (f + 2) m L 10 (by omega) (by omega) (by omega) h
    obtain ⟨m2, f2, s2, h2⟩ := t1 f m' _ (by rw [List.length_append]; show L.length + 1 < 16; omega) h1
    refine ⟨m2, by rw [f1]; exact f2, r_mw_t s1 s2, ?_⟩
    have e : r_d1 w 10 = [nI (48 + w / 10 % 10)] := if_pos (Or.inl hw2)
    rw [e, ← List.append_assoc]
    exact h2
  have t3 : 100 ≤ w → ∀ (f : Nat) (m : Sg) (L : List Int32), L.length < 14 → r_wm m L → ∃ m', fX7_showsNumber_b18_L (f + 4) m (nI w) (nI 100) = some m' ∧ r_mw m m' ∧ r_wm m' (L ++ (r_d1 w 100 ++ (r_d1 w 10 ++ r_d1 w 1))) := fun hw2 f m L hL h => by
    obtain ⟨m', s1, h1, f1⟩ := p_mst hw (f + 3) m L 100 (by omega) (by omega) (by omega) h
    obtain ⟨m2, f2, s2, h2⟩ := t2 (by omega) f m' _ (by rw [List.length_append]; show L.length + 1 < 15; omega) h1
    refine ⟨m2, by rw [f1]; exact f2, r_mw_t s1 s2, ?_⟩
    have e : r_d1 w 100 = [nI (48 + w / 100 % 10)] := if_pos (Or.inl hw2)
    rw [e, ← List.append_assoc]
    exact h2
  have t4 : 1000 ≤ w → ∀ (f : Nat) (m : Sg) (L : List Int32), L.length < 13 → r_wm m L → ∃ m', fX7_showsNumber_b18_L (f + 5) m (nI w) (nI 1000) = some m' ∧ r_mw m m' ∧ r_wm m' (L ++ r_dg w) := fun hw2 f m L hL h => by
    obtain ⟨m', s1, h1, f1⟩ := p_mst hw (f + 4) m L 1000 (by omega) (by omega) (by omega) h
    obtain ⟨m2, f2, s2, h2⟩ := t3 (by omega) f m' _ (by rw [List.length_append]; show L.length + 1 < 14; omega) h1
    refine ⟨m2, by rw [f1]; exact f2, r_mw_t s1 s2, ?_⟩
    have e : r_d1 w 1000 = [nI (48 + w / 1000 % 10)] := if_pos (Or.inl hw2)
    unfold r_dg
    rw [e, ← List.append_assoc]
    exact h2
  have n1 : ∀ p : Nat, w < p → 1 < p → r_d1 w p = [] := fun p h1 h2 => if_neg (by omega)
  have e0 : fX7_showsNumber m (nI w) = fX7_showsNumber_b2_L (4095 + 1) m (nI w) (nI 1) := rfl
  rw [e0, p_mb2 hw 4095 m 1 (by omega) (by omega)]
  by_cases c1 : w / 1 ≤ 9
  · rw [if_pos c1]
    obtain ⟨m', a, b, d⟩ := t1 4094 m L (by omega) h
    refine ⟨m', a, b, ?_⟩
    unfold r_dg
    rw [n1 1000 (by omega) (by omega), n1 100 (by omega) (by omega), n1 10 (by omega) (by omega)]
    exact d
  · rw [if_neg c1]
    show ∃ m', fX7_showsNumber_b2_L (4094 + 1) m (nI w) (nI 10) = some m' ∧ _
    rw [p_mb2 hw 4094 m 10 (by omega) (by omega)]
    by_cases c2 : w / 10 ≤ 9
    · rw [if_pos c2]
      obtain ⟨m', a, b, d⟩ := t2 (by omega) 4093 m L (by omega) h
      refine ⟨m', a, b, ?_⟩
      unfold r_dg
      rw [n1 1000 (by omega) (by omega), n1 100 (by omega) (by omega)]
      exact d
    · rw [if_neg c2]
      show ∃ m', fX7_showsNumber_b2_L (4093 + 1) m (nI w) (nI 100) = some m' ∧ _
      rw [p_mb2 hw 4093 m 100 (by omega) (by omega)]
      by_cases c3 : w / 100 ≤ 9
      · rw [if_pos c3]
        obtain ⟨m', a, b, d⟩ := t3 (by omega) 4092 m L (by omega) h
        refine ⟨m', a, b, ?_⟩
        unfold r_dg
        rw [n1 1000 (by omega) (by omega)]
        exact d
      · rw [if_neg c3]
        show ∃ m', fX7_showsNumber_b2_L (4092 + 1) m (nI w) (nI 1000) = some m' ∧ _
        rw [p_mb2 hw 4092 m 1000 (by omega) (by omega), if_pos (by omega)]
        exact t4 (by omega) 4091 m L (by omega) h
