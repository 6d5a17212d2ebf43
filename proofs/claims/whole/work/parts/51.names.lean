/-! PURE: names -/
def r_WC : List (List Int32) := [[119, 105, 100, 116, 104], [110, 101, 101, 100], [112, 97, 114, 116], [114, 117, 108, 101], [102, 111, 114, 109], [112, 117, 116], [109, 105, 115, 115], [108, 111, 119], [104, 105, 103, 104], [110, 101, 97, 114], [109, 101, 97, 110], [108, 105, 110, 101], [112, 108, 97, 105, 110], [99, 101, 110, 116, 115], [115, 105, 103, 110]]
def r_WM : List (List Int32) := [[119, 105, 100, 116, 104], [110, 101, 101, 100], [112, 97, 114, 116], [114, 117, 108, 101], [102, 111, 114, 109], [112, 117, 116], [108, 111, 119], [104, 105, 103, 104], [110, 101, 97, 114], [109, 101, 97, 110], [108, 105, 110, 101], [112, 108, 97, 105, 110], [99, 101, 110, 116, 115], [115, 105, 103, 110], [109, 105, 115, 115]]
def r_rm (tp : Nat → Int32) (e : Nat) : Nat → List Int32 → Prop
  | p, [] => p = e
  | p, b :: ws => p < e ∧ tp p = b ∧ r_rm tp e (p + 1) ws
theorem r_rm_len {tp : Nat → Int32} {e : Nat} : ∀ (ws : List Int32) (p : Nat), r_rm tp e p ws → e = p + ws.length := by
  intro ws
  induction ws with
  | nil => intro p h; exact h.symm
  | cons b ws ih =>
    intro p h
    have := ih (p + 1) h.2.2
    rw [List.length_cons]
    omega
theorem r_rm_inj {tp : Nat → Int32} {e : Nat} : ∀ (ws vs : List Int32) (p : Nat), r_rm tp e p ws → r_rm tp e p vs → ws = vs := by
  intro ws
  induction ws with
  | nil =>
    intro vs p h k
    cases vs with
    | nil => rfl
    | cons b vs => have h1 : p = e := h; have := k.1; omega
  | cons b ws ih =>
    intro vs p h k
    cases vs with
    | nil => have k1 : p = e := k; have := h.1; omega
    | cons d vs => rw [ih vs (p + 1) h.2.2 k.2.2, h.2.1.symm.trans k.2.1]
/-- which of the words stands there -/
def r_fd (tp : Nat → Int32) (e s : Nat) : List (List Int32) → Nat → Int32 → Prop
  | [], _, a => a = -4
  | w :: ws, num, a => (r_rm tp e s w ∧ a = nI num) ∨ (¬ r_rm tp e s w ∧ r_fd tp e s ws (num + 1) a)
theorem r_fd_c {tp : Nat → Int32} {e s : Nat} : ∀ (ws : List (List Int32)) (num : Nat) (a : Int32), r_fd tp e s ws num a → (a = -4 ∧ ∀ w, w ∈ ws → ¬ r_rm tp e s w) ∨ ∃ j, j < ws.length ∧ a = nI (num + j) ∧ r_rm tp e s (ws.getD j []) := by
  intro ws
  induction ws with
  | nil => intro num a h; exact Or.inl ⟨h, fun w hw => by cases hw⟩
  | cons w ws ih =>
    intro num a h
    rcases h with ⟨h1, h2⟩ | ⟨h1, h2⟩
    · exact Or.inr ⟨0, Nat.succ_pos _, h2, h1⟩
    · rcases ih (num + 1) a h2 with ⟨k1, k2⟩ | ⟨j, k1, k2, k3⟩
      · refine Or.inl ⟨k1, fun v hv => ?_⟩
        rcases List.mem_cons.mp hv with rfl | hv
        · exact h1
        · exact k2 v hv
      · refine Or.inr ⟨j + 1, by rw [List.length_cons]; omega, by rw [k2]; congr 1; omega, k3⟩
def r_ph (j : Nat) : Nat := if j < 6 then j else if j = 6 then 14 else j - 1
def r_nm (a b : Int32) : Prop := (a = -4 ∧ b = -4) ∨ ∃ j, j < 15 ∧ a = nI j ∧ b = nI (r_ph j)
theorem r_nm_of {tp : Nat → Int32} {e s : Nat} {a b : Int32} (ha : r_fd tp e s r_WC 0 a) (hb : r_fd tp e s r_WM 0 b) : r_nm a b := by
  have f1 : ∀ j, j < 15 → r_WC.getD j [] ∈ r_WM := by decide +kernel
  have f2 : ∀ j, j < 15 → ∀ i, i < 15 → r_WC.getD j [] = r_WM.getD i [] → i = r_ph j := by decide +kernel
  have f3 : ∀ i, i < 15 → r_WM.getD i [] ∈ r_WC := by decide +kernel
  rcases r_fd_c _ _ _ ha with ⟨a1, a2⟩ | ⟨j, a1, a2, a3⟩
  · rcases r_fd_c _ _ _ hb with ⟨b1, b2⟩ | ⟨i, b1, b2, b3⟩
    · exact Or.inl ⟨a1, b1⟩
    · exact absurd b3 (a2 _ (f3 i b1))
  · rcases r_fd_c _ _ _ hb with ⟨b1, b2⟩ | ⟨i, b1, b2, b3⟩
    · exact absurd a3 (b2 _ (f1 j a1))
    · refine Or.inr ⟨j, a1, by rw [a2, Nat.zero_add], ?_⟩
      rw [b2, Nat.zero_add, f2 j a1 i b1 (r_rm_inj _ _ _ a3 b3)]
/-! the class -/
theorem p_by {c : Sg} {n p : Nat} (hn : n ≤ 320) (e : c 1 1 = nI n) (hp : p < n) : fX3_byteAt c (nI p) = some (c 2 p, c) := by
  unfold fX3_byteAt
  rw [if_neg (nI_pos (by omega)), if_neg (by rw [e]; exact nI_ge hp (by omega)), p_gd (p_inN (by omega) (by omega)), nI_clamp (by omega)]
theorem p_byE {c : Sg} {n p : Nat} (hn : n ≤ 320) (e : c 1 1 = nI n) (hp : n ≤ p) (hp2 : p < 1000) : fX3_byteAt c (nI p) = some (-1, c) := by
  unfold fX3_byteAt fX3_byteAt_b21
  rw [if_neg (nI_pos (by omega)), if_pos (by rw [e]; exact nI_le hp (by omega))]
theorem q_bytes : ∀ o, o < 76 → 0 ≤ (s_byt.getD o 0).toInt ∧ (s_byt.getD o 0).toInt ≤ 127 := by decide +kernel
theorem p_ch {c : Sg} {o : Nat} (ho : o < 76) : fJ0_charAt_5068e c (nI o) = some (s_byt.getD o 0, c) := by
  obtain ⟨h0, h1⟩ := q_bytes o ho
  obtain ⟨q, hq, e1, e2⟩ := q_nat h0
  have a1 : nI q &&& (255 : Int32) = nI q := by rw [pk_andN (by omega) 8 (by decide)]; congr 1; omega
  have a2 : s_i2c (nI q) = nI q := by
    unfold s_i2c
    rw [pk_char, pk_tn (by omega)]
    congr 1
    omega
  have a3 : s_c (nI q) = true := decide_eq_true a2.symm
  unfold fJ0_charAt_5068e fJ0_isLatin1_aae02 fJ1_charAt_3b067 fJ0_checkIndex_df160 fJ3_checkIndex_8e157_n fJ3_checkIndex_8e157_n_b16
  rw [if_neg q10, if_pos rfl, p_bi, if_neg q10, if_neg (nI_pos (by omega)), if_pos (show nI o < 76 from nI_lt (b := 76) ho (by omega)), p_bi, p_bv, p_gd (p_inN ho (by omega)), nI_clamp (by omega), e1, a1, a2, p_gd a3, p_bi, p_gd a3]
theorem p_len (c : Sg) : fJ0_length_8abf5 c = some (76, c) := by
  unfold fJ0_length_8abf5 fJ0_coder_7d493
  rw [if_neg q10, p_bi]
  rfl
theorem p_nl {c : Sg} {n e p o : Nat} {b x2 fl : Int32} (hn : n ≤ 320) (e1 : c 1 1 = nI n) (e7 : c 3 7 = nI e) (he : e ≤ n) (hp : p < 1000) (ho : o < 76) (hb : s_byt.getD o 0 = b) (hb2 : ¬ b = 32) (f : Nat) : fX4_numberOfName_b13_L (f + 1) c x2 (nI p) fl (nI o) = fX4_numberOfName_b13_L f c x2 (nI (p + 1)) (if ¬ fl = 0 ∧ p < e ∧ c 2 p = b then 1 else 0) (nI (o + 1)) := by
  show fX4_numberOfName_b13 (fX4_numberOfName_b13_L f) c x2 (nI p) fl (nI o) = _
  unfold fX4_numberOfName_b13 fX4_numberOfName_b66 fX4_numberOfName_b67 fX4_numberOfName_b101
  rw [p_len, p_bi, if_neg (show ¬ (76 : Int32) ≤ nI o from nI_ge (b := 76) ho (by omega)), p_ch ho, p_bi, hb, if_neg hb2, e7]
  by_cases x : fl = 0
  · rw [if_pos x, if_neg (fun z => z.1 x), p_lt, p_lt, nI_1, nI_1]
  · rw [if_neg x]
    by_cases y : p < e
    · rw [if_neg (nI_ge y (by omega)), p_by hn e1 (by omega), p_bi]
      by_cases z : c 2 p = b
      · rw [if_pos z, if_pos ⟨x, y, z⟩, p_lt, p_lt, nI_1, nI_1]
      · rw [if_neg z, if_neg (fun w => z w.2.2), p_lt, p_lt, nI_1, nI_1]
    · rw [if_pos (nI_le (by omega) (by omega)), if_neg (fun z => y z.2.1), p_lt, p_lt, nI_1, nI_1]
theorem p_nb {c : Sg} {e p o : Nat} {x2 fl : Int32} (e7 : c 3 7 = nI e) (he : e < 1000) (hp : p < 1000) (ho : o < 76) (hb : s_byt.getD o 0 = 32) (f : Nat) : fX4_numberOfName_b13_L (f + 1) c x2 (nI p) fl (nI o) = if ¬ fl = 0 ∧ p = e then some (x2, c) else fX4_numberOfName_b13_L f c (x2 + 1) (c 3 6) 1 (nI (o + 1)) := by
  show fX4_numberOfName_b13 (fX4_numberOfName_b13_L f) c x2 (nI p) fl (nI o) = _
  unfold fX4_numberOfName_b13 fX4_numberOfName_b90 fX4_numberOfName_b101
  rw [p_len, p_bi, if_neg (show ¬ (76 : Int32) ≤ nI o from nI_ge (b := 76) ho (by omega)), p_ch ho, p_bi, hb, if_pos rfl, e7, p_lt, p_lt, p_lt, nI_1]
  by_cases x : fl = 0
  · rw [if_pos x, if_neg (fun z => z.1 x)]
  · rw [if_neg x]
    by_cases y : p = e
    · rw [if_pos (by rw [y]), if_pos ⟨x, y⟩]
    · rw [if_neg (fun z => y ((nI_eq (by omega) (by omega)).mp z)), if_neg (fun z => y z.2)]
def r_lc : Nat → List Int32 → Bool
  | o, [] => decide (s_byt.getD o 0 = 32 ∧ o < 76)
  | o, b :: ws => decide (s_byt.getD o 0 = b ∧ ¬ b = 32 ∧ o < 76) && r_lc (o + 1) ws
theorem p_nw {c : Sg} {n e : Nat} (hn : n ≤ 320) (e1 : c 1 1 = nI n) (e7 : c 3 7 = nI e) (he : e ≤ n) : ∀ (ws : List Int32) (o p f : Nat) (fl x2 : Int32), r_lc o ws = true → p + ws.length < 1000 → (¬ fl = 0 ∧ r_rm (c 2) e p ws → fX4_numberOfName_b13_L (f + ws.length + 1) c x2 (nI p) fl (nI o) = some (x2, c)) ∧ (¬ (¬ fl = 0 ∧ r_rm (c 2) e p ws) → fX4_numberOfName_b13_L (f + ws.length + 1) c x2 (nI p) fl (nI o) = fX4_numberOfName_b13_L f c (x2 + 1) (c 3 6) 1 (nI (o + ws.length + 1))) := by
  intro ws
  induction ws with
  | nil =>
    intro o p f fl x2 hl hp
    have hl' := of_decide_eq_true hl
    have hp' : p < 1000 := by have : p + 0 < 1000 := hp; omega
    have := p_nb (x2 := x2) (fl := fl) e7 (by omega) hp' hl'.2 hl'.1 f
    refine ⟨fun h => ?_, fun h => ?_⟩
    · show fX4_numberOfName_b13_L (f + 1) c x2 (nI p) fl (nI o) = _
      rw [this, if_pos (show ¬ fl = 0 ∧ p = e from h)]
    · show fX4_numberOfName_b13_L (f + 1) c x2 (nI p) fl (nI o) = fX4_numberOfName_b13_L f c (x2 + 1) (c 3 6) 1 (nI (o + 1))
      rw [this, if_neg (show ¬ (¬ fl = 0 ∧ p = e) from h)]
  | cons b ws ih =>
    intro o p f fl x2 hl hp
    rw [List.length_cons] at hp
    have hl2 := (Bool.and_eq_true _ _).mp hl
    have hl' := of_decide_eq_true hl2.1
    have st := p_nl (x2 := x2) (fl := fl) hn e1 e7 he (show p < 1000 by omega) hl'.2.2 hl'.1 hl'.2.1 (f + ws.length + 1)
    have ef : f + (b :: ws).length + 1 = f + ws.length + 1 + 1 := by rw [List.length_cons]; omega
    have eo : o + (b :: ws).length + 1 = o + 1 + ws.length + 1 := by rw [List.length_cons]; omega
    rw [ef, eo, st]
    by_cases q : ¬ fl = 0 ∧ p < e ∧ c 2 p = b
    · rw [if_pos q]
      obtain ⟨i1, i2⟩ := ih (o + 1) (p + 1) f 1 x2 hl2.2 (by omega)
      refine ⟨fun h => i1 ⟨q10, h.2.2.2⟩, fun h => i2 (fun k => h ⟨q.1, q.2.1, q.2.2, k.2⟩)⟩
    · rw [if_neg q]
      obtain ⟨i1, i2⟩ := ih (o + 1) (p + 1) f 0 x2 hl2.2 (by omega)
      refine ⟨fun h => absurd ⟨h.1, h.2.1, h.2.2.1⟩ q, fun h => i2 (fun k => k.1 rfl)⟩
def r_lcs : Nat → List (List Int32) → Bool
  | o, [] => decide (o = 76)
  | o, w :: ws => r_lc o w && (decide (w.length < 100) && r_lcs (o + w.length + 1) ws)
def r_tot : List (List Int32) → Nat
  | [] => 1
  | w :: ws => r_tot ws + w.length + 1
theorem p_nws {c : Sg} {n e s : Nat} (hn : n ≤ 320) (e1 : c 1 1 = nI n) (e6 : c 3 6 = nI s) (e7 : c 3 7 = nI e) (he : e ≤ n) (hs : s ≤ e) : ∀ (ws : List (List Int32)) (o num f : Nat), r_lcs o ws = true → ∃ a, fX4_numberOfName_b13_L (f + r_tot ws) c (nI num) (nI s) 1 (nI o) = some (a, c) ∧ r_fd (c 2) e s ws num a := by
  intro ws
  induction ws with
  | nil =>
    intro o num f hl
    have hl' := of_decide_eq_true hl
    refine ⟨-4, ?_, rfl⟩
    show fX4_numberOfName_b13 (fX4_numberOfName_b13_L f) c (nI num) (nI s) 1 (nI o) = _
    unfold fX4_numberOfName_b13
    rw [p_len, p_bi, hl', if_pos (by decide)]
  | cons w ws ih =>
    intro o num f hl
    have h1 := (Bool.and_eq_true _ _).mp hl
    have h2 := (Bool.and_eq_true _ _).mp h1.2
    have h3 := of_decide_eq_true h2.1
    obtain ⟨i1, i2⟩ := p_nw hn e1 e7 he w o s (f + r_tot ws) 1 (nI num) h1.1 (by omega)
    have ef : f + r_tot (w :: ws) = f + r_tot ws + w.length + 1 := by show f + (r_tot ws + w.length + 1) = _; omega
    rw [ef]
    rcases Classical.em (r_rm (c 2) e s w) with q | q
    · exact ⟨nI num, i1 ⟨q10, q⟩, Or.inl ⟨q, rfl⟩⟩
    · obtain ⟨a, k1, k2⟩ := ih (o + w.length + 1) (num + 1) f h2.2
      refine ⟨a, ?_, Or.inr ⟨q, k2⟩⟩
      rw [i2 (fun z => q z.2), nI_1, e6]
      exact k1
theorem p_non {c : Sg} {n e s : Nat} (hn : n ≤ 320) (e1 : c 1 1 = nI n) (e6 : c 3 6 = nI s) (e7 : c 3 7 = nI e) (he : e ≤ n) (hs : s ≤ e) : ∃ a, fX4_numberOfName c = some (a, c) ∧ r_fd (c 2) e s r_WC 0 a := by
  obtain ⟨a, k1, k2⟩ := p_nws hn e1 e6 e7 he hs r_WC 0 0 (4096 - r_tot r_WC) (by decide +kernel)
  refine ⟨a, ?_, k2⟩
  unfold fX4_numberOfName
  rw [p_lt, e6]
  exact k1
/-! the reference -/
theorem p_bm {m : Sg} {n p : Nat} (hn : n ≤ 320) (e : m 0 3 = nI n) (hp : p < n) : fX7_byteAt m (nI p) = some (m 2 p, m) := by
  unfold fX7_byteAt
  rw [if_neg (by rw [e]; exact nI_ge hp (by omega)), p_gd (p_inN (by omega) (by omega)), nI_clamp (by omega)]
theorem p_bmE {m : Sg} {n p : Nat} (hn : n ≤ 320) (e : m 0 3 = nI n) (hp : n ≤ p) (hp2 : p < 1000) : fX7_byteAt m (nI p) = some (-4, m) := by
  unfold fX7_byteAt
  rw [if_pos (by rw [e]; exact nI_le hp (by omega))]
def r_lm : Nat → List Int32 → Bool
  | _, [] => true
  | q, b :: ws => decide (s_M0 4 q = b) && r_lm (q + 1) ws
theorem p_mi {m : Sg} {k2 : Sg → Int32 → Option (Int32 × Sg)} {n e h q0 nn : Nat} (hn : n ≤ 320) (e3 : m 0 3 = nI n) (e8 : m 0 8 = nI h) (e7 : m 0 7 = nI e) (he : e ≤ n) (hh : h ≤ e) (m4 : m 4 = s_M0 4) (m3 : m 3 nn = nI q0) (hnn : nn < 15) : ∀ (ws : List Int32) (j f : Nat), h + j + ws.length = e → q0 + j + ws.length ≤ 61 → r_lm (q0 + j) ws = true → (r_rm (m 2) e (h + j) ws → fX7_nameHere_b51_L k2 (f + ws.length + 2) m (nI nn) 1 (nI j) = some (nI nn, m)) ∧ (¬ r_rm (m 2) e (h + j) ws → fX7_nameHere_b51_L k2 (f + ws.length + 2) m (nI nn) 1 (nI j) = k2 m (nI (nn + 1))) := by
  intro ws
  induction ws with
  | nil =>
    intro j f hj hq hl
    have hj' : h + j = e := hj
    refine ⟨fun _ => ?_, fun z => absurd hj' z⟩
    show fX7_nameHere_b51 k2 (fX7_nameHere_b51_L k2 (f + 1)) m (nI nn) 1 (nI j) = _
    unfold fX7_nameHere_b51 fX7_nameHere_b106
    rw [if_neg q10, e7, e8, pk_sub hh, if_pos (nI_le (by omega) (by omega)), if_neg q10]
  | cons b ws ih =>
    intro j f hj hq hl
    rw [List.length_cons] at hj hq
    have hl2 := (Bool.and_eq_true _ _).mp hl
    have hb := of_decide_eq_true hl2.1
    have st : fX7_nameHere_b51_L k2 (f + (b :: ws).length + 2) m (nI nn) 1 (nI j) = fX7_nameHere_b51_L k2 (f + ws.length + 2) m (nI nn) (if m 2 (h + j) = b then 1 else 0) (nI (j + 1)) := by
      rw [show f + (b :: ws).length + 2 = (f + ws.length + 2) + 1 by rw [List.length_cons]; omega]
      show fX7_nameHere_b51 k2 (fX7_nameHere_b51_L k2 (f + ws.length + 2)) m (nI nn) 1 (nI j) = _
      unfold fX7_nameHere_b51 fX7_nameHere_b99
      rw [if_neg q10, e7, e8, pk_sub hh, if_neg (nI_ge (by omega) (by omega)), nI_add, p_bm hn e3 (by omega), p_bi, p_gd (p_inN (by omega) (by omega)), nI_clamp (by omega), m3, nI_add, p_gd (p_inN (by omega) (by omega)), nI_clamp (by omega), m4, hb, p_lt, p_lt, nI_1]
      by_cases z : m 2 (h + j) = b
      · rw [if_pos z, if_pos z]
      · rw [if_neg z, if_neg z]
    rw [st]
    by_cases z : m 2 (h + j) = b
    · rw [if_pos z]
      obtain ⟨i1, i2⟩ := ih (j + 1) f (by omega) (by omega) hl2.2
      exact ⟨fun k => i1 k.2.2, fun k => i2 (fun k2 => k ⟨by omega, z, k2⟩)⟩
    · rw [if_neg z]
      refine ⟨fun k => absurd k.2.1 z, fun _ => ?_⟩
      show fX7_nameHere_b51 k2 (fX7_nameHere_b51_L k2 (f + ws.length + 1)) m (nI nn) 0 (nI (j + 1)) = _
      unfold fX7_nameHere_b51 fX7_nameHere_b106
      rw [if_pos rfl, if_pos rfl, p_lt, nI_1]
def r_lms : Nat → Nat → List (List Int32) → Bool
  | nn, _, [] => decide (nn = 15)
  | nn, q, w :: ws => decide (nn < 15 ∧ s_M0 3 nn = nI q ∧ s_M0 3 (nn + 1) = nI (q + w.length) ∧ q + w.length ≤ 61) && (r_lm q w && r_lms (nn + 1) (q + w.length) ws)
theorem p_mws {m : Sg} {n e h : Nat} (hn : n ≤ 320) (e3 : m 0 3 = nI n) (e8 : m 0 8 = nI h) (e7 : m 0 7 = nI e) (e9 : m 0 9 = 1) (he : e ≤ n) (hh : h ≤ e) (m4 : m 4 = s_M0 4) (m3 : m 3 = s_M0 3) : ∀ (ws : List (List Int32)) (nn q f : Nat), r_lms nn q ws = true → ∃ a, fX7_nameHere_b2_L (f + ws.length + 1) m (nI nn) = some (a, m) ∧ r_fd (m 2) e h ws nn a := by
  intro ws
  induction ws with
  | nil =>
    intro nn q f hl
    have hl' := of_decide_eq_true hl
    refine ⟨-4, ?_, rfl⟩
    show fX7_nameHere_b2 (fX7_nameHere_b2_L f) m (nI nn) = _
    unfold fX7_nameHere_b2 fX7_nameHere_b118
    rw [hl', if_pos (by decide)]
  | cons w ws ih =>
    intro nn q f hl
    have h1 := (Bool.and_eq_true _ _).mp hl
    have h2 := (Bool.and_eq_true _ _).mp h1.2
    obtain ⟨g1, g2, g3, g4⟩ := of_decide_eq_true h1.1
    have hN : fX7_nameHere_b2_L (f + (w :: ws).length + 1) m (nI nn) = fX7_nameHere_b51_L (fX7_nameHere_b2_L (f + ws.length + 1)) s_fu m (nI nn) (if e = h + w.length then 1 else 0) 0 := by
      rw [show f + (w :: ws).length + 1 = (f + ws.length + 1) + 1 by rw [List.length_cons]; omega]
      show fX7_nameHere_b2 (fX7_nameHere_b2_L (f + ws.length + 1)) m (nI nn) = _
      unfold fX7_nameHere_b2 fX7_nameHere_b48
      rw [if_neg (show ¬ (15 : Int32) ≤ nI nn from nI_ge (b := 15) g1 (by omega)), if_pos e9, nI_1, p_gd (p_inN (by omega) (by omega)), p_gd (p_inN (by omega) (by omega)), nI_clamp (by omega), nI_clamp (by omega), m3, g2, g3, e7, e8, pk_sub hh, pk_sub (by omega)]
      by_cases z : e = h + w.length
      · rw [if_pos (by congr 1; omega), if_pos z]
      · rw [if_neg (fun k => z (by have := (nI_eq (by omega) (by omega)).mp k; omega)), if_neg z]
    rw [hN]
    by_cases z : e = h + w.length
    · rw [if_pos z]
      obtain ⟨i1, i2⟩ := p_mi (k2 := fX7_nameHere_b2_L (f + ws.length + 1)) hn e3 e8 e7 he hh m4 (by rw [m3]; exact g2) g1 w 0 (4094 - w.length) (by omega) (by omega) h2.1
      have ef : 4094 - w.length + w.length + 2 = s_fu := by rw [s_fu_e]; omega
      rw [ef] at i1 i2
      rcases Classical.em (r_rm (m 2) e h w) with y | y
      · exact ⟨nI nn, i1 y, Or.inl ⟨y, rfl⟩⟩
      · obtain ⟨a, k1, k2⟩ := ih (nn + 1) (q + w.length) f h2.2
        exact ⟨a, by rw [← k1]; exact i2 y, Or.inr ⟨y, k2⟩⟩
    · rw [if_neg z]
      obtain ⟨a, k1, k2⟩ := ih (nn + 1) (q + w.length) f h2.2
      refine ⟨a, ?_, Or.inr ⟨fun k => z (r_rm_len w h k), k2⟩⟩
      rw [← k1]
      show fX7_nameHere_b51 (fX7_nameHere_b2_L (f + ws.length + 1)) (fX7_nameHere_b51_L (fX7_nameHere_b2_L (f + ws.length + 1)) 4095) m (nI nn) 0 0 = _
      unfold fX7_nameHere_b51 fX7_nameHere_b106
      rw [if_pos rfl, if_pos rfl, p_lt, nI_1]
theorem p_nhr {m : Sg} {n e h : Nat} (hn : n ≤ 320) (e3 : m 0 3 = nI n) (e8 : m 0 8 = nI h) (e7 : m 0 7 = nI e) (e9 : m 0 9 = 1) (he : e ≤ n) (hh : h ≤ e) (m4 : m 4 = s_M0 4) (m3 : m 3 = s_M0 3) : ∃ a, fX7_nameHere m = some (a, m) ∧ r_fd (m 2) e h r_WM 0 a := by
  obtain ⟨a, k1, k2⟩ := p_mws hn e3 e8 e7 e9 he hh m4 m3 r_WM 0 0 4080 (by decide +kernel)
  exact ⟨a, k1, k2⟩
theorem p_nhN {m : Sg} (e9 : ¬ m 0 9 = 1) : fX7_nameHere m = some (-4, m) := by
  show fX7_nameHere_b2 (fX7_nameHere_b2_L 4095) m 0 = _
  unfold fX7_nameHere_b2 fX7_nameHere_b118
  rw [if_neg (by decide), if_neg e9]
