/-! the law: its state, its cases, over an abstract relation of the two sides -/
/-- a sheet: its address, its row's, lane, length, cells -/
abbrev STy : Type := Nat → Option (Nat × Nat × Int32 × Nat × (Nat → Int32))
def s_tc (cy : Nat → ClassId) (t : Option (Nat × Nat × Int32 × Nat × (Nat → Int32))) : va_W := match t with
  | none => []
  | some t => [(t.1, .inr (2, [.int t.2.2.1, .ref t.2.1])), (t.2.1, .inl (cy 1, t.2.2.2.1, .inl t.2.2.2.2))]
def s_TW (cy : Nat → ClassId) (T : STy) : va_W := s_tc cy (T 0) ++ (s_tc cy (T 1) ++ (s_tc cy (T 2) ++ s_tc cy (T 3)))
def s_sh (T : STy) : Nat → Option Nat := fun k => (T k).map (fun t => t.1)
def s_dat (T : STy) : (Nat → Option (Int32 × Nat × (Nat → Int32))) := fun k => (T k).map (fun t => t.2.2)
def s_ad2 (ad : Nat → Nat) (a b : Nat) : Nat → Nat := fun k => if k = 19 then a else if k = 20 then b else ad k
def s_ld (σ : Sg) (lane : Int32) (len : Nat) (f : Nat → Int32) : Sg := fun p => if p = 19 then (fun i => if i = 0 then lane else nI len) else if p = 20 then f else σ p
theorem s_W1_eq {cy : Nat → ClassId} {ad : Nat → Nat} {sh : Nat → Option Nat} {σ : Sg} {a b len : Nat} {lane : Int32} {f : Nat → Int32} (h : len ≤ 40) : s_W1 cy (s_ad2 ad a b) sh (s_ld σ lane len f) = s_WC cy ad sh σ ++ s_tc cy (some (a, b, lane, len, f)) := by
  have e : Int32.toNatClampNeg (nI len) = len := nI_clamp (by omega)
  show s_WC cy ad sh σ ++ [(a, .inr (2, [.int lane, .ref b])), (b, .inl (cy 1, Int32.toNatClampNeg (nI len), .inl f))] = _
  rw [e]
  rfl
theorem s_sh_up {T : STy} {k a : Nat} {t u : Nat × Int32 × Nat × (Nat → Int32)} (h : T k = some (a, t)) : s_sh (va_up T k (some (a, u))) = s_sh T := by
  funext j
  by_cases hj : j = k
  · subst hj
    simp [s_sh, va_up, h]
  · simp [s_sh, va_up, hj]
theorem s_sh_new {T : STy} {k a : Nat} {u : Nat × Int32 × Nat × (Nat → Int32)} : s_sh (va_up T k (some (a, u))) = va_up (s_sh T) k (some a) := by
  funext j
  by_cases hj : j = k
  · subst hj
    simp [s_sh, va_up]
  · simp [s_sh, va_up, hj]
theorem s_dat_up {T : STy} {k : Nat} {t : Nat × Nat × Int32 × Nat × (Nat → Int32)} : s_dat (va_up T k (some t)) = va_up (s_dat T) k (some t.2.2) := by
  funext j
  by_cases hj : j = k
  · subst hj
    simp [s_dat, va_up]
  · simp [s_dat, va_up, hj]
theorem s_swap {α : Type} {a b c : List α} : (a ++ (b ++ c)).Perm (b ++ (a ++ c)) := by
  rw [← List.append_assoc, ← List.append_assoc]
  exact List.Perm.append_right c List.perm_append_comm
theorem s_TWp (cy : Nat → ClassId) (T : STy) {k : Nat} (hk : k < 4) : ∃ wo : va_W, (s_TW cy T).Perm (s_tc cy (T k) ++ wo) ∧ ∀ t, (s_TW cy (va_up T k t)).Perm (s_tc cy t ++ wo) := by
  match k, hk with
  | 0, _ => exact ⟨_, List.Perm.refl _, fun t => List.Perm.refl _⟩
  | 1, _ => exact ⟨s_tc cy (T 0) ++ (s_tc cy (T 2) ++ s_tc cy (T 3)), s_swap, fun t => s_swap⟩
  | 2, _ => exact ⟨s_tc cy (T 0) ++ (s_tc cy (T 1) ++ s_tc cy (T 3)), (List.Perm.append_left _ s_swap).trans s_swap, fun t => (List.Perm.append_left _ s_swap).trans s_swap⟩
  | 3, _ => exact ⟨s_tc cy (T 0) ++ (s_tc cy (T 1) ++ s_tc cy (T 2)), (List.Perm.append_left _ (List.Perm.append_left _ List.perm_append_comm)).trans ((List.Perm.append_left _ s_swap).trans s_swap), fun t => (List.Perm.append_left _ (List.Perm.append_left _ List.perm_append_comm)).trans ((List.Perm.append_left _ s_swap).trans s_swap)⟩
def s_LS (Rel : Sg → (Nat → Option (Int32 × Nat × (Nat → Int32))) → Sg → Prop) (G : va_G) (cy : Nat → ClassId) (A : Nat → Prop) (H : Heap) (aC aM : Nat) : Prop :=
  ∃ (adC adM : Nat → Nat) (T : STy) (σC σM : Sg), adC 0 = aC ∧ adM 0 = aM ∧ (∀ k, 4 ≤ k → T k = none) ∧ (∀ k t, T k = some t → t.2.2.2.1 ≤ 40) ∧ Rel σC (s_dat T) σM ∧ va_P G vwCl (s_WC cy adC (s_sh T) σC ++ (s_WM cy adM σM ++ s_TW cy T)) H ∧ va_D A (s_WC cy adC (s_sh T) σC ++ (s_WM cy adM σM ++ s_TW cy T))
def s_pure_feed (Rel : Sg → (Nat → Option (Int32 × Nat × (Nat → Int32))) → Sg → Prop) : Prop := ∀ (σC : Sg) (D : (Nat → Option (Int32 × Nat × (Nat → Int32)))) (σM : Sg), Rel σC D σM → ∀ a1 : Int32, ∃ (r : Int32) (σC1 σM1 : Sg), fX6_feed σC a1 = some (r, σC1) ∧ fX7_feed σM a1 = some (r, σM1) ∧ Rel σC1 D σM1
def s_pure_end (Rel : Sg → (Nat → Option (Int32 × Nat × (Nat → Int32))) → Sg → Prop) : Prop := ∀ (σC : Sg) (D : (Nat → Option (Int32 × Nat × (Nat → Int32)))) (σM : Sg), Rel σC D σM → ∀ a1 : Int32, ∃ (r : Int32) (σC1 σM1 : Sg), fX6_end σC a1 = some (r, σC1) ∧ fX7_end σM a1 = some (r, σM1) ∧ Rel σC1 D σM1
def s_pure_text (Rel : Sg → (Nat → Option (Int32 × Nat × (Nat → Int32))) → Sg → Prop) : Prop := ∀ (σC : Sg) (D : (Nat → Option (Int32 × Nat × (Nat → Int32)))) (σM : Sg), Rel σC D σM → ∃ (r : Int32) (σC1 σM1 : Sg), fX6_text σC = some (r, σC1) ∧ fX7_text σM = some (r, σM1) ∧ Rel σC1 D σM1
def s_pure_fault (Rel : Sg → (Nat → Option (Int32 × Nat × (Nat → Int32))) → Sg → Prop) : Prop := ∀ (σC : Sg) (D : (Nat → Option (Int32 × Nat × (Nat → Int32)))) (σM : Sg), Rel σC D σM → ∃ (r : Int32) (σC1 σM1 : Sg), fX6_fault σC = some (r, σC1) ∧ fX7_fault σM = some (r, σM1) ∧ Rel σC1 D σM1
def s_pure_rule (Rel : Sg → (Nat → Option (Int32 × Nat × (Nat → Int32))) → Sg → Prop) : Prop := ∀ (σC : Sg) (D : (Nat → Option (Int32 × Nat × (Nat → Int32)))) (σM : Sg), Rel σC D σM → ∀ a1 : Int32, ∃ (r : Int32) (σC1 σM1 : Sg), fX6_rule σC a1 = some (r, σC1) ∧ fX7_rule σM a1 = some (r, σM1) ∧ Rel σC1 D σM1
def s_pure_reading (Rel : Sg → (Nat → Option (Int32 × Nat × (Nat → Int32))) → Sg → Prop) : Prop := ∀ (σC : Sg) (D : (Nat → Option (Int32 × Nat × (Nat → Int32)))) (σM : Sg), Rel σC D σM → ∀ a1 : Int32, ∃ (r : Int32) (σC1 σM1 : Sg), fX6_reading σC a1 = some (r, σC1) ∧ fX7_reading σM a1 = some (r, σM1) ∧ Rel σC1 D σM1
def s_pure_row (Rel : Sg → (Nat → Option (Int32 × Nat × (Nat → Int32))) → Sg → Prop) : Prop := ∀ (σC : Sg) (D : (Nat → Option (Int32 × Nat × (Nat → Int32)))) (σM : Sg), Rel σC D σM → ∀ a1 a2 : Int32, ∃ (r : Int32) (σC1 σM1 : Sg), fX6_row σC a1 a2 = some (r, σC1) ∧ fX7_row σM a1 a2 = some (r, σM1) ∧ Rel σC1 D σM1
def s_pure_item (Rel : Sg → (Nat → Option (Int32 × Nat × (Nat → Int32))) → Sg → Prop) : Prop := ∀ (σC : Sg) (D : (Nat → Option (Int32 × Nat × (Nat → Int32)))) (σM : Sg), Rel σC D σM → ∀ a1 a2 : Int32, ∃ (r : Int32) (σC1 σM1 : Sg), fX6_item σC a1 a2 = some (r, σC1) ∧ fX7_item σM a1 a2 = some (r, σM1) ∧ Rel σC1 D σM1
def s_pure_result (Rel : Sg → (Nat → Option (Int32 × Nat × (Nat → Int32))) → Sg → Prop) : Prop := ∀ (σC : Sg) (D : (Nat → Option (Int32 × Nat × (Nat → Int32)))) (σM : Sg), Rel σC D σM → ∀ a1 a2 : Int32, ∃ (r : Int32) (σC1 σM1 : Sg), fX6_result σC a1 a2 = some (r, σC1) ∧ fX7_result σM a1 a2 = some (r, σM1) ∧ Rel σC1 D σM1
def s_pure_rank (Rel : Sg → (Nat → Option (Int32 × Nat × (Nat → Int32))) → Sg → Prop) : Prop := ∀ (σC : Sg) (D : (Nat → Option (Int32 × Nat × (Nat → Int32)))) (σM : Sg), Rel σC D σM → ∀ a1 a2 a3 : Int32, ∃ (r : Int32) (σC1 σM1 : Sg), fX6_rank σC a1 a2 a3 = some (r, σC1) ∧ fX7_rank σM a1 a2 a3 = some (r, σM1) ∧ Rel σC1 D σM1
def s_pure_shown (Rel : Sg → (Nat → Option (Int32 × Nat × (Nat → Int32))) → Sg → Prop) : Prop := ∀ (σC : Sg) (D : (Nat → Option (Int32 × Nat × (Nat → Int32)))) (σM : Sg), Rel σC D σM → ∀ a1 a2 : Int32, ∃ (r : Int32) (σC1 σM1 : Sg), fX6_shown σC a1 a2 = some (r, σC1) ∧ fX7_shown σM a1 a2 = some (r, σM1) ∧ Rel σC1 D σM1
def s_pure_middle (Rel : Sg → (Nat → Option (Int32 × Nat × (Nat → Int32))) → Sg → Prop) : Prop := ∀ (σC : Sg) (D : (Nat → Option (Int32 × Nat × (Nat → Int32)))) (σM : Sg), Rel σC D σM → ∀ a1 a2 : Int32, ∃ (r : Int32) (σC1 σM1 : Sg), fX6_middle σC a1 a2 = some (r, σC1) ∧ fX7_middle σM a1 a2 = some (r, σM1) ∧ Rel σC1 D σM1
def s_pure_far (Rel : Sg → (Nat → Option (Int32 × Nat × (Nat → Int32))) → Sg → Prop) : Prop := ∀ (σC : Sg) (D : (Nat → Option (Int32 × Nat × (Nat → Int32)))) (σM : Sg), Rel σC D σM → ∀ a1 a2 : Int32, ∃ (r : Int32) (σC1 σM1 : Sg), fX6_far σC a1 a2 = some (r, σC1) ∧ fX7_far σM a1 a2 = some (r, σM1) ∧ Rel σC1 D σM1
def s_pure_fars (Rel : Sg → (Nat → Option (Int32 × Nat × (Nat → Int32))) → Sg → Prop) : Prop := ∀ (σC : Sg) (D : (Nat → Option (Int32 × Nat × (Nat → Int32)))) (σM : Sg), Rel σC D σM → ∀ a1 : Int32, ∃ (r : Int32) (σC1 σM1 : Sg), fX6_fars σC a1 = some (r, σC1) ∧ fX7_fars σM a1 = some (r, σM1) ∧ Rel σC1 D σM1
def s_pure_above (Rel : Sg → (Nat → Option (Int32 × Nat × (Nat → Int32))) → Sg → Prop) : Prop := ∀ (σC : Sg) (D : (Nat → Option (Int32 × Nat × (Nat → Int32)))) (σM : Sg), Rel σC D σM → ∀ a1 a2 : Int32, ∃ (r : Int32) (σC1 σM1 : Sg), fX6_above σC a1 a2 = some (r, σC1) ∧ fX7_above σM a1 a2 = some (r, σM1) ∧ Rel σC1 D σM1
def s_pure_most (Rel : Sg → (Nat → Option (Int32 × Nat × (Nat → Int32))) → Sg → Prop) : Prop := ∀ (σC : Sg) (D : (Nat → Option (Int32 × Nat × (Nat → Int32)))) (σM : Sg), Rel σC D σM → ∀ a1 : Int32, ∃ (r : Int32) (σC1 σM1 : Sg), fX6_most σC a1 = some (r, σC1) ∧ fX7_most σM a1 = some (r, σM1) ∧ Rel σC1 D σM1
def s_pure_add (Rel : Sg → (Nat → Option (Int32 × Nat × (Nat → Int32))) → Sg → Prop) : Prop := ∀ (σC : Sg) (D : (Nat → Option (Int32 × Nat × (Nat → Int32)))) (σM : Sg), Rel σC D σM → ∀ a1 : Int32, ∃ (r : Int32) (σC1 σM1 : Sg), fX6_add σC a1 = some (r, σC1) ∧ fX7_add σM a1 = some (r, σM1) ∧ Rel σC1 D σM1
def s_pure_miss (Rel : Sg → (Nat → Option (Int32 × Nat × (Nat → Int32))) → Sg → Prop) : Prop := ∀ (σC : Sg) (D : (Nat → Option (Int32 × Nat × (Nat → Int32)))) (σM : Sg), Rel σC D σM → ∃ (r : Int32) (σC1 σM1 : Sg), fX6_miss σC = some (r, σC1) ∧ fX7_miss σM = some (r, σM1) ∧ Rel σC1 D σM1
def s_pure_set (Rel : Sg → (Nat → Option (Int32 × Nat × (Nat → Int32))) → Sg → Prop) : Prop := ∀ (σC : Sg) (D : (Nat → Option (Int32 × Nat × (Nat → Int32)))) (σM : Sg), Rel σC D σM → ∀ a1 a2 : Int32, ∃ (r : Int32) (σC1 σM1 : Sg), fX6_set σC a1 a2 = some (r, σC1) ∧ fX7_set σM a1 a2 = some (r, σM1) ∧ Rel σC1 D σM1
def s_pure_lose (Rel : Sg → (Nat → Option (Int32 × Nat × (Nat → Int32))) → Sg → Prop) : Prop := ∀ (σC : Sg) (D : (Nat → Option (Int32 × Nat × (Nat → Int32)))) (σM : Sg), Rel σC D σM → ∀ a1 : Int32, ∃ (r : Int32) (σC1 σM1 : Sg), fX6_lose σC a1 = some (r, σC1) ∧ fX7_lose σM a1 = some (r, σM1) ∧ Rel σC1 D σM1
def s_pure_drop (Rel : Sg → (Nat → Option (Int32 × Nat × (Nat → Int32))) → Sg → Prop) : Prop := ∀ (σC : Sg) (D : (Nat → Option (Int32 × Nat × (Nat → Int32)))) (σM : Sg), Rel σC D σM → ∀ a1 : Int32, ∃ (r : Int32) (σC1 σM1 : Sg), fX6_drop σC a1 = some (r, σC1) ∧ fX7_drop σM a1 = some (r, σM1) ∧ Rel σC1 D σM1
def s_pure_width (Rel : Sg → (Nat → Option (Int32 × Nat × (Nat → Int32))) → Sg → Prop) : Prop := ∀ (σC : Sg) (D : (Nat → Option (Int32 × Nat × (Nat → Int32)))) (σM : Sg), Rel σC D σM → ∀ a1 : Int32, ∃ (r : Int32) (σC1 σM1 : Sg), fX6_width σC a1 = some (r, σC1) ∧ fX7_width σM a1 = some (r, σM1) ∧ Rel σC1 D σM1
def s_pure_need (Rel : Sg → (Nat → Option (Int32 × Nat × (Nat → Int32))) → Sg → Prop) : Prop := ∀ (σC : Sg) (D : (Nat → Option (Int32 × Nat × (Nat → Int32)))) (σM : Sg), Rel σC D σM → ∀ a1 : Int32, ∃ (r : Int32) (σC1 σM1 : Sg), fX6_need σC a1 = some (r, σC1) ∧ fX7_need σM a1 = some (r, σM1) ∧ Rel σC1 D σM1
def s_pure_part (Rel : Sg → (Nat → Option (Int32 × Nat × (Nat → Int32))) → Sg → Prop) : Prop := ∀ (σC : Sg) (D : (Nat → Option (Int32 × Nat × (Nat → Int32)))) (σM : Sg), Rel σC D σM → ∀ a1 a2 : Int32, ∃ (r : Int32) (σC1 σM1 : Sg), fX6_part σC a1 a2 = some (r, σC1) ∧ fX7_part σM a1 a2 = some (r, σM1) ∧ Rel σC1 D σM1
def s_pure_choose (Rel : Sg → (Nat → Option (Int32 × Nat × (Nat → Int32))) → Sg → Prop) : Prop := ∀ (σC : Sg) (D : (Nat → Option (Int32 × Nat × (Nat → Int32)))) (σM : Sg), Rel σC D σM → ∀ a1 : Int32, ∃ (r : Int32) (σC1 σM1 : Sg), fX6_choose σC a1 = some (r, σC1) ∧ fX7_choose σM a1 = some (r, σM1) ∧ Rel σC1 D σM1
def s_pure_form (Rel : Sg → (Nat → Option (Int32 × Nat × (Nat → Int32))) → Sg → Prop) : Prop := ∀ (σC : Sg) (D : (Nat → Option (Int32 × Nat × (Nat → Int32)))) (σM : Sg), Rel σC D σM → ∀ a1 : Int32, ∃ (r : Int32) (σC1 σM1 : Sg), fX6_form σC a1 = some (r, σC1) ∧ fX7_form σM a1 = some (r, σM1) ∧ Rel σC1 D σM1
def s_pure_drift (Rel : Sg → (Nat → Option (Int32 × Nat × (Nat → Int32))) → Sg → Prop) : Prop := ∀ (σC : Sg) (D : (Nat → Option (Int32 × Nat × (Nat → Int32)))) (σM : Sg), Rel σC D σM → ∀ a1 a2 : Int32, ∃ (r : Int32) (σC1 σM1 : Sg), fX6_drift σC a1 a2 = some (r, σC1) ∧ fX7_drift σM a1 a2 = some (r, σM1) ∧ Rel σC1 D σM1
def s_pure_keep (Rel : Sg → (Nat → Option (Int32 × Nat × (Nat → Int32))) → Sg → Prop) : Prop := ∀ (σC : Sg) (D : (Nat → Option (Int32 × Nat × (Nat → Int32)))) (σM : Sg), Rel σC D σM → ∀ a1 : Int32, ∃ (r : Int32) (σC1 σM1 : Sg), fX6_keep σC a1 = some (r, σC1) ∧ fX7_keep σM a1 = some (r, σM1) ∧ Rel σC1 D σM1
def s_pure_back (Rel : Sg → (Nat → Option (Int32 × Nat × (Nat → Int32))) → Sg → Prop) : Prop := ∀ (σC : Sg) (D : (Nat → Option (Int32 × Nat × (Nat → Int32)))) (σM : Sg), Rel σC D σM → ∀ a1 : Int32, ∃ (r : Int32) (σC1 σM1 : Sg), fX6_back σC a1 = some (r, σC1) ∧ fX7_back σM a1 = some (r, σM1) ∧ Rel σC1 D σM1
def s_pure_sheet (Rel : Sg → (Nat → Option (Int32 × Nat × (Nat → Int32))) → Sg → Prop) : Prop := ∀ (σC : Sg) (D : (Nat → Option (Int32 × Nat × (Nat → Int32)))) (σM : Sg), Rel σC D σM → ∀ a1 a2 a3 : Int32, (∃ (r : Int32) (σC1 σM1 : Sg), fX6_sheet_x σC a1 a2 a3 = some (r, σC1) ∧ fX7_sheet σM a1 a2 a3 = some (r, σM1) ∧ Rel σC1 D σM1) ∨ (fX6_isSheet σC a1 = some (1, σC) ∧ fX6_isLane σC a2 = some (1, σC) ∧ vp_in a1 4 ∧ 0 ≤ a3 ∧ a3 ≤ 40 ∧ Int32.toNatClampNeg a3 ≤ 40 ∧ ∃ σM1 : Sg, fX7_sheet σM a1 a2 a3 = some (1, σM1) ∧ Rel σC (va_up D (Int32.toNatClampNeg a1) (some (a2, Int32.toNatClampNeg a3, fun _ => 0))) σM1)
def s_pure_lay (Rel : Sg → (Nat → Option (Int32 × Nat × (Nat → Int32))) → Sg → Prop) : Prop := ∀ (σC : Sg) (D : (Nat → Option (Int32 × Nat × (Nat → Int32)))) (σM : Sg), Rel σC D σM → ∀ a1 a2 a3 : Int32, (D (Int32.toNatClampNeg a1) = none → ∃ (r : Int32) (σC1 σM1 : Sg), fX6_lay_n σC a1 a2 a3 = some (r, σC1) ∧ fX7_lay σM a1 a2 a3 = some (r, σM1) ∧ Rel σC1 D σM1) ∧ (∀ (lane : Int32) (len : Nat) (g : Nat → Int32), D (Int32.toNatClampNeg a1) = some (lane, len, g) → ∃ (r : Int32) (σC1 σM1 : Sg), fX6_lay_P_p (s_ld σC lane len g) a1 a2 a3 = some (r, σC1) ∧ fX7_lay σM a1 a2 a3 = some (r, σM1) ∧ Rel σC1 (va_up D (Int32.toNatClampNeg a1) (some (σC1 19 0, Int32.toNatClampNeg (σC1 19 1), σC1 20))) σM1 ∧ Int32.toNatClampNeg (σC1 19 1) ≤ 40)
def s_pure_read (Rel : Sg → (Nat → Option (Int32 × Nat × (Nat → Int32))) → Sg → Prop) : Prop := ∀ (σC : Sg) (D : (Nat → Option (Int32 × Nat × (Nat → Int32)))) (σM : Sg), Rel σC D σM → ∀ a1 a2 a3 a4 : Int32, (D (Int32.toNatClampNeg a1) = none → ∃ (r : Int32) (σC1 σM1 : Sg), fX6_read_n σC a1 a2 a3 a4 = some (r, σC1) ∧ fX7_read σM a1 a2 a3 a4 = some (r, σM1) ∧ Rel σC1 D σM1) ∧ (∀ (lane : Int32) (len : Nat) (g : Nat → Int32), D (Int32.toNatClampNeg a1) = some (lane, len, g) → ∃ (r : Int32) (σC1 σM1 : Sg), fX6_read_P_p (s_ld σC lane len g) a1 a2 a3 a4 = some (r, σC1) ∧ fX7_read σM a1 a2 a3 a4 = some (r, σM1) ∧ Rel σC1 (va_up D (Int32.toNatClampNeg a1) (some (σC1 19 0, Int32.toNatClampNeg (σC1 19 1), σC1 20))) σM1 ∧ Int32.toNatClampNeg (σC1 19 1) ≤ 40)
def s_pure_torn (Rel : Sg → (Nat → Option (Int32 × Nat × (Nat → Int32))) → Sg → Prop) : Prop := ∀ (σC : Sg) (D : (Nat → Option (Int32 × Nat × (Nat → Int32)))) (σM : Sg), Rel σC D σM → ∃ (r : Int32) (σC1 σM1 : Sg), fX6_torn σC = some (r, σC1) ∧ fX7_torn σM = some (r, σM1) ∧ Rel σC1 D σM1
def s_pure_count (Rel : Sg → (Nat → Option (Int32 × Nat × (Nat → Int32))) → Sg → Prop) : Prop := ∀ (σC : Sg) (D : (Nat → Option (Int32 × Nat × (Nat → Int32)))) (σM : Sg), Rel σC D σM → ∀ a1 : Int32, (¬ a1 = 2 → ∃ (r : Int32) (σC1 σM1 : Sg), fX6_count_x σC a1 = some (r, σC1) ∧ fX7_count σM a1 = some (r, σM1) ∧ Rel σC1 D σM1) ∧ (a1 = 2 → (D (Int32.toNatClampNeg (0 : Int32)) = none → ∃ (r : Int32) (σC1 σM1 : Sg), fX6_count_n σC a1 = some (r, σC1) ∧ fX7_count σM a1 = some (r, σM1) ∧ Rel σC1 D σM1) ∧ (∀ (lane : Int32) (len : Nat) (g : Nat → Int32), D (Int32.toNatClampNeg (0 : Int32)) = some (lane, len, g) → ∃ (r : Int32) (σC1 σM1 : Sg), fX6_count_P_p (s_ld σC lane len g) a1 = some (r, σC1) ∧ fX7_count σM a1 = some (r, σM1) ∧ Rel σC1 (va_up D (Int32.toNatClampNeg (0 : Int32)) (some (σC1 19 0, Int32.toNatClampNeg (σC1 19 1), σC1 20))) σM1 ∧ Int32.toNatClampNeg (σC1 19 1) ≤ 40))
theorem s_mk_mem {cy : Nat → ClassId} {adC adM : Nat → Nat} {T : STy} {σC σM : Sg} {k : Nat} {u : Nat × Nat} {lane : Int32} {len : Nat} {f : Nat → Int32} {wo : va_W} (hp : (s_TW cy T).Perm (s_tc cy (T k) ++ wo)) (hp2 : (s_TW cy (va_up T k (some (u.1, u.2, lane, len, f)))).Perm (s_tc cy (some (u.1, u.2, lane, len, f)) ++ wo)) {q : Nat × va_E} (hq : q ∈ s_WC cy adC (s_sh (va_up T k (some (u.1, u.2, lane, len, f)))) σC ++ (s_WM cy adM σM ++ s_TW cy (va_up T k (some (u.1, u.2, lane, len, f))))) : q ∈ (s_WC cy adC (va_up (s_sh T) k (some u.1)) σC ++ [(u.1, .inr (2, [.int lane, .ref u.2])), (u.2, .inl (cy 1, len, .inl f))]) ++ (s_WM cy adM σM ++ s_TW cy T) := by
  rw [s_sh_new] at hq
  rcases List.mem_append.mp hq with h | h
  · exact List.mem_append_left _ (List.mem_append_left _ h)
  · rcases List.mem_append.mp h with h | h
    · exact List.mem_append_right _ (List.mem_append_left _ h)
    · rcases List.mem_append.mp (hp2.mem_iff.mp h) with h | h
      · exact List.mem_append_left _ (List.mem_append_right _ h)
      · exact List.mem_append_right _ (List.mem_append_right _ (hp.mem_iff.mpr (List.mem_append_right _ h)))
theorem s_mk_D {A : Nat → Prop} {cy : Nat → ClassId} {adC adM : Nat → Nat} {T : STy} {σC σM : Sg} {k : Nat} {u : Nat × Nat} {lane : Int32} {len : Nat} {f : Nat → Int32} {wo : va_W} (hp : (s_TW cy T).Perm (s_tc cy (T k) ++ wo)) (hp2 : (s_TW cy (va_up T k (some (u.1, u.2, lane, len, f)))).Perm (s_tc cy (some (u.1, u.2, lane, len, f)) ++ wo)) (h : va_D A ((s_WC cy adC (va_up (s_sh T) k (some u.1)) σC ++ [(u.1, .inr (2, [.int lane, .ref u.2])), (u.2, .inl (cy 1, len, .inl f))]) ++ (s_WM cy adM σM ++ s_TW cy T))) : va_D A (s_WC cy adC (s_sh (va_up T k (some (u.1, u.2, lane, len, f)))) σC ++ (s_WM cy adM σM ++ s_TW cy (va_up T k (some (u.1, u.2, lane, len, f))))) := by
  rw [s_sh_new]
  have h1 := s_perm_D (List.Perm.append_left _ (List.Perm.append_left _ hp)) h
  have h2 : va_D A ((s_WC cy adC (va_up (s_sh T) k (some u.1)) σC ++ s_tc cy (some (u.1, u.2, lane, len, f))) ++ (s_WM cy adM σM ++ wo)) := by
    rw [s_D_iff] at h1 ⊢
    have hs : List.Sublist ((s_WC cy adC (va_up (s_sh T) k (some u.1)) σC ++ s_tc cy (some (u.1, u.2, lane, len, f))) ++ (s_WM cy adM σM ++ wo)) ((s_WC cy adC (va_up (s_sh T) k (some u.1)) σC ++ [(u.1, .inr (2, [.int lane, .ref u.2])), (u.2, .inl (cy 1, len, .inl f))]) ++ (s_WM cy adM σM ++ (s_tc cy (T k) ++ wo))) := List.Sublist.append_left (List.Sublist.append_left (List.sublist_append_right _ _) _) _
    exact ⟨h1.1.sublist (hs.map _), fun q hq => h1.2 q (hs.subset hq)⟩
  refine s_perm_D ?_ h2
  rw [List.append_assoc]
  refine List.Perm.append_left _ ?_
  exact s_swap.trans (List.Perm.append_left _ hp2.symm)
theorem s_lsheet {p : Program} {l : Launch} {e : Env} {s : State} {m : MethodId} {args : Array Value} {below : List Frame} {meth : Method} {c : Code} {H : Heap} {locs : List Loc} {Q : State → Prop} {cells slots : Nat} {cc : ByteArray} {nL : Nat} {own : String} {G : va_G} {cy : Nat → ClassId} {sa : Nat × Nat} {ad : Nat → Nat} {sh : Nat → Option Nat} {σ : Sg} {wr : va_W} {A : Nat → Prop} {idx pc : Nat} {ls : Array Slot} {a1 a2 a3 : Int32}
    (hx : p.tables.exec = Jvm.exec) (hb : c.code = cc) (hml : c.maxLocals = nL) (hown : s.vm.findClass own = some m.cls) (hts : ∀ w ∈ kwL, w.before args s = true) (hK : va_K G vwCl (s_ty cy) s) (hE : s_E sa A s s.heap) (hA : ∀ q, s.heap.size ≤ q → A q) (had : ∀ σ : Sg, (s_WC cy ad sh σ).map Prod.fst = (List.range 19).map ad)
    (hM : Met l yX6_sheet (kW yX6_sheet cX6_sheet 4 (some .int)) ({ frames := 2, cells := 2, slots := 42, locals := 43 } : Room) (s_P (s_WC cy ad sh) G cy sa ad 19 [.ref (ad 0), .int a1, .int a2, .int a3] H.size σ) (va_Qi (fun r (_ : Nat × Nat) => r = 1) (fun u t => va_P G vwCl (s_WC cy ad (va_up sh (Int32.toNatClampNeg a1) (some u.1)) σ ++ [(u.1, .inr (2, [.int a2, .ref u.2])), (u.2, .inl (cy 1, Int32.toNatClampNeg a3, .inl (fun _ => 0)))]) t.heap ∧ va_D (s_A ad 19 H.size) (s_WC cy ad (va_up sh (Int32.toNatClampNeg a1) (some u.1)) σ ++ [(u.1, .inr (2, [.int a2, .ref u.2])), (u.2, .inl (cy 1, Int32.toNatClampNeg a3, .inl (fun _ => 0)))])) (s_A ad 19 H.size)) 2 42 (s_A ad 19 H.size))
    (hg : GoodIn kwL (wsV own idx RX6 yX6_sheet (kW yX6_sheet cX6_sheet 4 (some .int)))) (hcs : cells + 2 ≤ room_1.cells ∧ slots + 42 ≤ room_1.slots) (hP : va_P G vwCl (s_WC cy ad sh σ ++ wr) H) (hD : va_D A (s_WC cy ad sh σ ++ wr)) (hS : va_S A s.heap H locs) (hls : ls.size = nL) (hdg : decode cc pc = .ok (.invokevirtual idx, 3))
    (kk : ∀ (u : Nat × Nat) (H1 : Heap) (locs1 : List Loc), va_P G vwCl ((s_WC cy ad (va_up sh (Int32.toNatClampNeg a1) (some u.1)) σ ++ [(u.1, .inr (2, [.int a2, .ref u.2])), (u.2, .inl (cy 1, Int32.toNatClampNeg a3, .inl (fun _ => 0)))]) ++ wr) H1 → va_D A ((s_WC cy ad (va_up sh (Int32.toNatClampNeg a1) (some u.1)) σ ++ [(u.1, .inr (2, [.int a2, .ref u.2])), (u.2, .inl (cy 1, Int32.toNatClampNeg a3, .inl (fun _ => 0)))]) ++ wr) → va_S A s.heap H1 locs1 → W p l e room_1 s m args below meth c H1 locs1 (cells + 2) (slots + 42) Q (F0 m (pc + 3) ls [.int 1])) :
    W p l e room_1 s m args below meth c H locs cells slots Q (F0 m pc ls [.int a3, .int a2, .int a1, .ref (ad 0)]) := by
  have hPc : va_P G vwCl (s_WC cy ad sh σ) H := s_P_iff.mpr fun q hq => s_P_iff.mp hP q (List.mem_append_left _ hq)
  have hsub : ∀ q, s_A ad 19 H.size q → A q := fun q z => s_inA (had σ) hD (fun q h => hA q (Nat.le_trans hS.1 h)) z
  refine va_calli (va_runV (As := [.int a1, .int a2, .int a3]) (rest := []) ⟨hx, hb, hml, hown, hts⟩ hM (cwV 3 hts hg rfl rfl rfl (by decide +kernel) ⟨Nat.le_of_ble_eq_true rfl, Nat.le_of_ble_eq_true rfl⟩) ⟨s_P_blind, va_recv hK hPc (ci := 6) (q0 := 0) rfl rfl, fun U hU hW => ⟨rfl, by rw [hU], by rw [hU]; exact hPc, va_K.moved hW.alike hK, hE.go hS hW hU hsub⟩⟩ rfl rfl hls rfl (lv_room (Nat.le_of_ble_eq_true rfl)) hdg hcs) hS (fun q _ h => hsub q h) hsub (fun r u t H1 locs1 ht hvm hw hB hz1 hk1 hS1 => ?_)
  subst hw
  obtain ⟨hB1, hB2⟩ := hB
  rw [ht] at hB1
  have hkeep : ∀ q ∈ wr, q.1 < H.size ∧ ¬ s_A ad 19 H.size q.1 := fun q hq => by
    have ha := s_P_iff.mp hP q (List.mem_append_right _ hq)
    exact ⟨ha.lt, s_out (had σ) hD hq ha.lt⟩
  refine kk u H1 locs1 (s_P_iff.mpr fun q hq => ?_) ?_ hS1
  · rcases List.mem_append.mp hq with h | h
    · exact s_P_iff.mp hB1 q h
    · have ha := s_P_iff.mp hP q (List.mem_append_right _ h)
      exact ha.kept (hk1 q.1 ha.lt (hkeep q h).2)
  · have d1 := s_D_iff.mp hB2
    have d2 := s_D_iff.mp hD
    rw [s_D_iff]
    refine ⟨?_, fun q hq => ?_⟩
    · rw [List.map_append, List.nodup_append]
      rw [List.map_append, List.nodup_append] at d2
      refine ⟨d1.1, d2.1.2.1, fun x hx z hz exz => ?_⟩
      obtain ⟨q1, hq1, e1⟩ := List.mem_map.mp hx
      obtain ⟨q2, hq2, e2⟩ := List.mem_map.mp hz
      refine (hkeep q2 hq2).2 ?_
      rw [e2, ← exz, ← e1]
      exact d1.2 q1 hq1
    · rcases List.mem_append.mp hq with h | h
      · exact hsub _ (d1.2 q h)
      · exact d2.2 q (List.mem_append_right _ h)
