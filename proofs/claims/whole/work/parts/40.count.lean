/-! PURE: counting; rows in order -/
def r_cn (P : Nat → Bool) : Nat → Nat
  | 0 => 0
  | n + 1 => r_cn P n + (if P n = true then 1 else 0)
theorem r_cn_0 (P : Nat → Bool) : r_cn P 0 = 0 := rfl
theorem r_cn_s (P : Nat → Bool) (n : Nat) : r_cn P (n + 1) = r_cn P n + (if P n = true then 1 else 0) := rfl
theorem r_cn_le (P : Nat → Bool) : ∀ n, r_cn P n ≤ n := by
  intro n
  induction n with
  | zero => exact Nat.le_refl 0
  | succ n ih =>
    rw [r_cn_s]
    by_cases h : P n = true
    · rw [if_pos h]; omega
    · rw [if_neg h]; omega
theorem r_cn_eq {P Q : Nat → Bool} : ∀ n, (∀ j, j < n → P j = Q j) → r_cn P n = r_cn Q n := by
  intro n
  induction n with
  | zero => intro _; rfl
  | succ n ih => intro h; rw [r_cn_s, r_cn_s, ih (fun j hj => h j (by omega)), h n (by omega)]
theorem r_cn_mono {P Q : Nat → Bool} : ∀ n, (∀ j, j < n → P j = true → Q j = true) → r_cn P n ≤ r_cn Q n := by
  intro n
  induction n with
  | zero => intro _; exact Nat.le_refl 0
  | succ n ih =>
    intro h
    have a := ih (fun j hj => h j (by omega))
    rw [r_cn_s, r_cn_s]
    by_cases c : P n = true
    · rw [if_pos c, if_pos (h n (by omega) c)]; omega
    · rw [if_neg c]; omega
theorem r_cn_front (P : Nat → Bool) : ∀ n, r_cn P (n + 1) = (if P 0 = true then 1 else 0) + r_cn (fun j => P (j + 1)) n := by
  intro n
  induction n with
  | zero => rw [r_cn_s, r_cn_0, r_cn_0]; omega
  | succ n ih => rw [r_cn_s, ih, r_cn_s]; omega
theorem r_cn_iv (a b : Nat) : ∀ n, r_cn (fun j => decide (a ≤ j ∧ j < b)) n = min n b - min n a := by
  intro n
  induction n with
  | zero => rw [r_cn_0]; omega
  | succ n ih =>
    rw [r_cn_s, ih]
    by_cases c : a ≤ n ∧ n < b
    · rw [if_pos (decide_eq_true c)]; omega
    · rw [if_neg (fun z => c (of_decide_eq_true z))]; omega
theorem r_cn_pt {P : Nat → Bool} {j0 : Nat} : ∀ n, j0 < n → P j0 = true → r_cn (fun j => P j && !decide (j = j0)) n + 1 = r_cn P n := by
  intro n
  induction n with
  | zero => intro h; omega
  | succ n ih =>
    intro h hp
    by_cases c : j0 = n
    · subst c
      rw [r_cn_s, r_cn_s, if_pos hp, if_neg (by simp), r_cn_eq (Q := P) j0 (fun j hj => by simp [show j ≠ j0 by omega])]
    · have a := ih (by omega) hp
      have e : (P n && !decide (n = j0)) = P n := by simp [show n ≠ j0 by omega]
      rw [r_cn_s, r_cn_s, e]
      omega
/-! how many of the first n are w at most -/
def r_le (g : Nat → Int32) (n : Nat) (w : Int) : Nat := r_cn (fun j => decide ((g j).toInt ≤ w)) n
def r_so (g : Nat → Int32) (n : Nat) : Prop := ∀ i j, i ≤ j → j < n → (g i).toInt ≤ (g j).toInt
theorem r_le_0 (g : Nat → Int32) (w : Int) : r_le g 0 w = 0 := rfl
theorem r_le_s (g : Nat → Int32) (n : Nat) (w : Int) : r_le g (n + 1) w = r_le g n w + (if (g n).toInt ≤ w then 1 else 0) := by
  unfold r_le
  rw [r_cn_s]
  by_cases h : (g n).toInt ≤ w
  · rw [if_pos (decide_eq_true h), if_pos h]
  · rw [if_neg (fun z => h (of_decide_eq_true z)), if_neg h]
theorem r_le_n (g : Nat → Int32) (n : Nat) (w : Int) : r_le g n w ≤ n := r_cn_le _ _
theorem r_le_eq {g h : Nat → Int32} {n : Nat} (e : ∀ j, j < n → g j = h j) (w : Int) : r_le g n w = r_le h n w := r_cn_eq n (fun j hj => by rw [e j hj])
theorem r_le_all {g : Nat → Int32} {w : Int} : ∀ n, (∀ j, j < n → (g j).toInt ≤ w) → r_le g n w = n := by
  intro n
  induction n with
  | zero => intro _; rfl
  | succ n ih => intro h; rw [r_le_s, ih (fun j hj => h j (by omega)), if_pos (h n (by omega))]
theorem r_so_p {g : Nat → Int32} {n k : Nat} (h : r_so g n) (hk : k ≤ n) : r_so g k := fun i j a b => h i j a (by omega)
theorem r_so_eq {g h : Nat → Int32} {n : Nat} (e : ∀ j, j < n → g j = h j) (hs : r_so g n) : r_so h n := fun i j a b => by rw [← e i (by omega), ← e j b]; exact hs i j a b
theorem r_le_iff {g : Nat → Int32} : ∀ n, r_so g n → ∀ (w : Int) (j : Nat), j < n → ((g j).toInt ≤ w ↔ j < r_le g n w) := by
  intro n
  induction n with
  | zero => intro _ w j h; omega
  | succ n ih =>
    intro hs w j hj
    have hs' := r_so_p hs (Nat.le_succ n)
    have hle := r_le_n g n w
    rw [r_le_s]
    by_cases c : (g n).toInt ≤ w
    · rw [if_pos c]
      have hjn := hs j n (by omega) (by omega)
      refine ⟨fun _ => ?_, fun _ => by omega⟩
      cases n with
      | zero => omega
      | succ k =>
        have := (ih hs' w k (by omega)).mp (by have := hs k (k + 1) (by omega) (by omega); omega)
        omega
    · rw [if_neg c]
      by_cases c2 : j = n
      · subst c2
        exact ⟨fun z => absurd z c, fun z => by omega⟩
      · have := ih hs' w j (by omega)
        exact this
theorem r_uni {g h : Nat → Int32} {n : Nat} (sg : r_so g n) (sh : r_so h n) (e : ∀ w, r_le g n w = r_le h n w) : ∀ j, j < n → g j = h j := by
  intro j hj
  have a := (r_le_iff n sg (h j).toInt j hj).mpr (by rw [e]; exact (r_le_iff n sh _ j hj).mp (Int.le_refl _))
  have b := (r_le_iff n sh (g j).toInt j hj).mpr (by rw [← e]; exact (r_le_iff n sg _ j hj).mp (Int.le_refl _))
  exact Int32.toInt_inj.mp (by omega)
/-! one comes in -/
theorem r_il_s (v : Int32) (k : Nat) (g : Nat → Int32) : r_il v (k + 1) g = if g k ≤ v then upd g (k + 1) v else r_il v k (upd g (k + 1) (g k)) := rfl
theorem r_il_Q (Q : Int32 → Prop) (v : Int32) (hv : Q v) : ∀ (n : Nat) (g : Nat → Int32), (∀ j, j < n → Q (g j)) → ∀ j, j ≤ n → Q (r_il v n g j) := by
  intro n
  induction n with
  | zero =>
    intro g _ j hj
    show Q (upd g 0 v j)
    rw [p_upd, if_pos (by omega)]; exact hv
  | succ k ih =>
    intro g h j hj
    rw [r_il_s]
    by_cases c : g k ≤ v
    · rw [if_pos c, p_upd]
      by_cases hj2 : j = k + 1
      · rw [if_pos hj2]; exact hv
      · rw [if_neg hj2]; exact h j (by omega)
    · rw [if_neg c]
      by_cases hj2 : j = k + 1
      · rw [hj2, r_il_out v k _ _ (by omega), p_upd, if_pos rfl]; exact h k (by omega)
      · exact ih _ (fun i hi => by rw [p_upd, if_neg (by omega)]; exact h i (by omega)) j (by omega)
theorem r_il_so (v : Int32) : ∀ (n : Nat) (g : Nat → Int32), r_so g n → r_so (r_il v n g) (n + 1) := by
  intro n
  induction n with
  | zero => intro g _ i j a b; have e : i = j := by omega
            rw [e]; exact Int.le_refl _
  | succ k ih =>
    intro g h i j a b
    rw [r_il_s]
    by_cases c : g k ≤ v
    · rw [if_pos c, p_upd, p_upd]
      rw [q_l] at c
      by_cases hj : j = k + 1
      · rw [if_pos hj]
        by_cases hi : i = k + 1
        · rw [if_pos hi]; exact Int.le_refl _
        · rw [if_neg hi]
          have := h i k (by omega) (by omega)
          omega
      · rw [if_neg hj, if_neg (by omega)]; exact h i j a (by omega)
    · rw [if_neg c]
      rw [q_l] at c
      have hs : r_so (r_il v k (upd g (k + 1) (g k))) (k + 1) := ih _ (fun i j a b => by rw [p_upd, p_upd, if_neg (by omega), if_neg (by omega)]; exact h i j a (by omega))
      by_cases hj : j = k + 1
      · by_cases hi : i = j
        · rw [hi]; exact Int.le_refl _
        · have e : r_il v k (upd g (k + 1) (g k)) j = g k := by rw [hj, r_il_out v k _ _ (by omega), p_upd, if_pos rfl]
          rw [e]
          exact r_il_Q (fun x => x.toInt ≤ (g k).toInt) v (by omega) k _ (fun l hl => by rw [p_upd, if_neg (by omega)]; exact h l k (by omega) (by omega)) i (by omega)
      · exact hs i j a (by omega)
theorem r_il_le (v : Int32) (w : Int) : ∀ (n : Nat) (g : Nat → Int32), r_le (r_il v n g) (n + 1) w = r_le g n w + (if v.toInt ≤ w then 1 else 0) := by
  intro n
  induction n with
  | zero =>
    intro g
    rw [r_le_s]
    show 0 + (if (upd g 0 v 0).toInt ≤ w then 1 else 0) = 0 + _
    rw [p_upd, if_pos rfl]
  | succ k ih =>
    intro g
    rw [r_il_s]
    by_cases c : g k ≤ v
    · rw [if_pos c, r_le_s, r_le_eq (h := g) (fun j hj => by rw [p_upd, if_neg (by omega)]), p_upd, if_pos rfl]
    · rw [if_neg c, r_le_s, ih, r_il_out v k _ _ (by omega), p_upd, if_pos rfl, r_le_s, r_le_eq (h := g) (fun j hj => by rw [p_upd, if_neg (by omega)])]
      omega
/-! one goes out -/
def r_dl (g : Nat → Int32) (i n : Nat) : Nat → Int32 := fun j => if i ≤ j ∧ j < n then g (j + 1) else g j
theorem r_dl_so {g : Nat → Int32} {i n : Nat} (h : r_so g (n + 1)) : r_so (r_dl g i n) n := by
  intro a b hab hb
  unfold r_dl
  by_cases c1 : i ≤ a ∧ a < n
  · rw [if_pos c1, if_pos (by omega)]; exact h _ _ (by omega) (by omega)
  · rw [if_neg c1]
    by_cases c2 : i ≤ b ∧ b < n
    · rw [if_pos c2]; exact h _ _ (by omega) (by omega)
    · rw [if_neg c2]; exact h _ _ hab (by omega)
theorem r_dl_le (g : Nat → Int32) (i : Nat) (w : Int) : ∀ n, i ≤ n → r_le (r_dl g i n) n w + (if (g i).toInt ≤ w then 1 else 0) = r_le g (n + 1) w := by
  intro n
  induction n with
  | zero =>
    intro h
    have e : i = 0 := by omega
    subst e
    rw [r_le_s]
    rfl
  | succ n ih =>
    intro h
    by_cases c : i = n + 1
    · subst c
      rw [r_le_s g (n + 1), r_le_eq (h := g) (fun j hj => by unfold r_dl; rw [if_neg (by omega)])]
    · have a := ih (by omega)
      have e2 : r_dl g i (n + 1) n = g (n + 1) := by unfold r_dl; rw [if_pos (by omega)]
      rw [r_le_s (r_dl g i (n + 1)), e2, r_le_s g (n + 1), ← a, r_le_eq (g := r_dl g i (n + 1)) (h := r_dl g i n) (fun j hj => by
        unfold r_dl
        by_cases c1 : i ≤ j
        · rw [if_pos ⟨c1, by omega⟩, if_pos ⟨c1, hj⟩]
        · rw [if_neg (by omega), if_neg (by omega)])]
      omega
/-! what a window has -/
def r_wl (u : Nat → Int32) (a len : Nat) (w : Int) : Nat := r_cn (fun i => decide (¬ u (a + i) = 100000000 ∧ (u (a + i)).toInt ≤ w)) len
theorem r_wl_s (u : Nat → Int32) (a len : Nat) (w : Int) : r_wl u a (len + 1) w = r_wl u a len w + (if ¬ u (a + len) = 100000000 ∧ (u (a + len)).toInt ≤ w then 1 else 0) := by
  unfold r_wl
  rw [r_cn_s]
  by_cases h : ¬ u (a + len) = 100000000 ∧ (u (a + len)).toInt ≤ w
  · rw [if_pos (decide_eq_true h), if_pos h]
  · rw [if_neg (fun z => h (of_decide_eq_true z)), if_neg h]
theorem r_wl_f (u : Nat → Int32) (a len : Nat) (w : Int) : r_wl u a (len + 1) w = (if ¬ u a = 100000000 ∧ (u a).toInt ≤ w then 1 else 0) + r_wl u (a + 1) len w := by
  unfold r_wl
  rw [r_cn_front]
  have e : r_cn (fun j => (fun i => decide (¬ u (a + i) = 100000000 ∧ (u (a + i)).toInt ≤ w)) (j + 1)) len = r_cn (fun i => decide (¬ u (a + 1 + i) = 100000000 ∧ (u (a + 1 + i)).toInt ≤ w)) len := r_cn_eq len (fun j _ => by
    show decide (¬ u (a + (j + 1)) = 100000000 ∧ (u (a + (j + 1))).toInt ≤ w) = _
    rw [show a + (j + 1) = a + 1 + j by omega])
  rw [e]
  show (if decide (¬ u a = 100000000 ∧ (u a).toInt ≤ w) = true then 1 else 0) + _ = _
  by_cases h : ¬ u a = 100000000 ∧ (u a).toInt ≤ w
  · rw [if_pos (decide_eq_true h), if_pos h]
  · rw [if_neg (fun z => h (of_decide_eq_true z)), if_neg h]
/-- the row g, of n, is that of the window of len from a on -/
def r_is (u : Nat → Int32) (a len : Nat) (g : Nat → Int32) (n : Nat) : Prop :=
  (∀ j, j < n → -999999 ≤ (g j).toInt ∧ (g j).toInt ≤ 999999) ∧ r_so g n ∧ ∀ w, r_le g n w = r_wl u a len w
theorem r_is_n {u g : Nat → Int32} {a len n : Nat} (h : r_is u a len g n) : n = r_wl u a len 999999 := by
  rw [← h.2.2, r_le_all n (fun j hj => (h.1 j hj).2)]
theorem r_is_len {u g : Nat → Int32} {a len n : Nat} (h : r_is u a len g n) : n ≤ len := by
  rw [r_is_n h]; exact r_cn_le _ _
theorem r_is_0 (u g : Nat → Int32) (a : Nat) : r_is u a 0 g 0 := ⟨fun j h => by omega, fun i j a b => by omega, fun w => rfl⟩
theorem r_is_uni {u g h : Nat → Int32} {a len n k : Nat} (x : r_is u a len g n) (y : r_is u a len h k) : n = k ∧ ∀ j, j < n → g j = h j := by
  have e : n = k := by rw [r_is_n x, r_is_n y]
  subst e
  exact ⟨rfl, r_uni x.2.1 y.2.1 (fun w => by rw [x.2.2, y.2.2])⟩
theorem r_is_u {u u' g : Nat → Int32} {a len n : Nat} (e : ∀ i, i < len → u (a + i) = u' (a + i)) (h : r_is u a len g n) : r_is u' a len g n :=
  ⟨h.1, h.2.1, fun w => by rw [h.2.2]; exact r_cn_eq len (fun j hj => by rw [e j hj])⟩
theorem r_is_ins {u g : Nat → Int32} {a len n : Nat} (h : r_is u a len g n) (hv : ¬ u (a + len) = 100000000) (hk : r_ok (u (a + len))) : r_is u a (len + 1) (r_il (u (a + len)) n g) (n + 1) := by
  have hb : -999999 ≤ (u (a + len)).toInt ∧ (u (a + len)).toInt ≤ 999999 := hk.resolve_left hv
  refine ⟨fun j hj => r_il_Q (fun x => -999999 ≤ x.toInt ∧ x.toInt ≤ 999999) _ hb n g h.1 j (by omega), r_il_so _ n g h.2.1, fun w => ?_⟩
  rw [r_il_le, h.2.2, r_wl_s]
  by_cases c : (u (a + len)).toInt ≤ w
  · rw [if_pos c, if_pos ⟨hv, c⟩]
  · rw [if_neg c, if_neg (fun z => c z.2)]
theorem r_is_skip {u g : Nat → Int32} {a len n : Nat} (h : r_is u a len g n) (hv : u (a + len) = 100000000) : r_is u a (len + 1) g n :=
  ⟨h.1, h.2.1, fun w => by rw [h.2.2, r_wl_s, if_neg (fun z => z.1 hv)]; rfl⟩
theorem r_is_out {u g : Nat → Int32} {a len n : Nat} (h : r_is u a (len + 1) g n) (hv : u a = 100000000) : r_is u (a + 1) len g n :=
  ⟨h.1, h.2.1, fun w => by rw [h.2.2, r_wl_f, if_neg (fun z => z.1 hv), Nat.zero_add]⟩
theorem r_is_del {u g : Nat → Int32} {a len n : Nat} (h : r_is u a (len + 1) g n) (hv : ¬ u a = 100000000) : ∃ i, i = r_le g n ((u a).toInt - 1) ∧ i < n ∧ g i = u a ∧ r_is u (a + 1) len (r_dl g i (n - 1)) (n - 1) := by
  have h1 : r_le g n (u a).toInt = 1 + r_wl u (a + 1) len (u a).toInt := by rw [h.2.2, r_wl_f, if_pos ⟨hv, Int.le_refl _⟩]
  have h2 : r_le g n ((u a).toInt - 1) = r_wl u (a + 1) len ((u a).toInt - 1) := by rw [h.2.2, r_wl_f, if_neg (fun z => by have := z.2; omega), Nat.zero_add]
  have h3 : r_wl u (a + 1) len ((u a).toInt - 1) ≤ r_wl u (a + 1) len (u a).toInt := r_cn_mono len (fun j _ z => by
    have z' := of_decide_eq_true z
    exact decide_eq_true ⟨z'.1, by omega⟩)
  have h4 := r_le_n g n (u a).toInt
  have hi : r_le g n ((u a).toInt - 1) < n := by omega
  have e1 := (r_le_iff n h.2.1 (u a).toInt _ hi).mpr (by omega)
  have e2 : ¬ (g (r_le g n ((u a).toInt - 1))).toInt ≤ (u a).toInt - 1 := fun z => by
    have := (r_le_iff n h.2.1 _ _ hi).mp z
    omega
  have e3 : g (r_le g n ((u a).toInt - 1)) = u a := Int32.toInt_inj.mp (by omega)
  refine ⟨_, rfl, hi, e3, ?_, ?_, fun w => ?_⟩
  · intro j hj
    unfold r_dl
    by_cases c : r_le g n ((u a).toInt - 1) ≤ j ∧ j < n - 1
    · rw [if_pos c]; exact h.1 _ (by omega)
    · rw [if_neg c]; exact h.1 _ (by omega)
  · exact r_dl_so (r_so_p h.2.1 (by omega))
  · have := r_dl_le g (r_le g n ((u a).toInt - 1)) w (n - 1) (by omega)
    rw [show n - 1 + 1 = n by omega, e3, h.2.2 w, r_wl_f] at this
    by_cases c : (u a).toInt ≤ w
    · rw [if_pos c, if_pos ⟨hv, c⟩] at this; omega
    · rw [if_neg c, if_neg (fun z => c z.2)] at this; omega
