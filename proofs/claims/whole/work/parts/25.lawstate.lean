/-! the law: its state, its cases, over an abstract relation of the two sides -/
def s_LS (Rel : Sg → Sg → Prop) (G : va_G) (cy : Nat → ClassId) (A : Nat → Prop) (H : Heap) (aC aM : Nat) : Prop :=
  ∃ (adC adM : Nat → Nat) (σC σM : Sg), adC 0 = aC ∧ adM 0 = aM ∧ Rel σC σM ∧ va_P G vwCl (s_WC cy adC σC ++ s_WM cy adM σM) H ∧ va_D A (s_WC cy adC σC ++ s_WM cy adM σM)
def s_pure_feed (Rel : Sg → Sg → Prop) : Prop := ∀ (σC σM : Sg), Rel σC σM → ∀ a1 : Int32, ∃ (r : Int32) (σC1 σM1 : Sg), fX6_feed σC a1 = some (r, σC1) ∧ fX7_feed σM a1 = some (r, σM1) ∧ Rel σC1 σM1
def s_pure_end (Rel : Sg → Sg → Prop) : Prop := ∀ (σC σM : Sg), Rel σC σM → ∀ a1 : Int32, ∃ (r : Int32) (σC1 σM1 : Sg), fX6_end σC a1 = some (r, σC1) ∧ fX7_end σM a1 = some (r, σM1) ∧ Rel σC1 σM1
def s_pure_text (Rel : Sg → Sg → Prop) : Prop := ∀ (σC σM : Sg), Rel σC σM → ∃ (r : Int32) (σC1 σM1 : Sg), fX6_text σC = some (r, σC1) ∧ fX7_text σM = some (r, σM1) ∧ Rel σC1 σM1
def s_pure_fault (Rel : Sg → Sg → Prop) : Prop := ∀ (σC σM : Sg), Rel σC σM → ∃ (r : Int32) (σC1 σM1 : Sg), fX6_fault σC = some (r, σC1) ∧ fX7_fault σM = some (r, σM1) ∧ Rel σC1 σM1
def s_pure_rule (Rel : Sg → Sg → Prop) : Prop := ∀ (σC σM : Sg), Rel σC σM → ∀ a1 : Int32, ∃ (r : Int32) (σC1 σM1 : Sg), fX6_rule σC a1 = some (r, σC1) ∧ fX7_rule σM a1 = some (r, σM1) ∧ Rel σC1 σM1
def s_pure_reading (Rel : Sg → Sg → Prop) : Prop := ∀ (σC σM : Sg), Rel σC σM → ∀ a1 : Int32, ∃ (r : Int32) (σC1 σM1 : Sg), fX6_reading σC a1 = some (r, σC1) ∧ fX7_reading σM a1 = some (r, σM1) ∧ Rel σC1 σM1
def s_pure_row (Rel : Sg → Sg → Prop) : Prop := ∀ (σC σM : Sg), Rel σC σM → ∀ a1 a2 : Int32, ∃ (r : Int32) (σC1 σM1 : Sg), fX6_row σC a1 a2 = some (r, σC1) ∧ fX7_row σM a1 a2 = some (r, σM1) ∧ Rel σC1 σM1
def s_pure_item (Rel : Sg → Sg → Prop) : Prop := ∀ (σC σM : Sg), Rel σC σM → ∀ a1 a2 : Int32, ∃ (r : Int32) (σC1 σM1 : Sg), fX6_item σC a1 a2 = some (r, σC1) ∧ fX7_item σM a1 a2 = some (r, σM1) ∧ Rel σC1 σM1
def s_pure_result (Rel : Sg → Sg → Prop) : Prop := ∀ (σC σM : Sg), Rel σC σM → ∀ a1 a2 : Int32, ∃ (r : Int32) (σC1 σM1 : Sg), fX6_result σC a1 a2 = some (r, σC1) ∧ fX7_result σM a1 a2 = some (r, σM1) ∧ Rel σC1 σM1
def s_pure_rank (Rel : Sg → Sg → Prop) : Prop := ∀ (σC σM : Sg), Rel σC σM → ∀ a1 a2 a3 : Int32, ∃ (r : Int32) (σC1 σM1 : Sg), fX6_rank σC a1 a2 a3 = some (r, σC1) ∧ fX7_rank σM a1 a2 a3 = some (r, σM1) ∧ Rel σC1 σM1
def s_pure_shown (Rel : Sg → Sg → Prop) : Prop := ∀ (σC σM : Sg), Rel σC σM → ∀ a1 a2 : Int32, ∃ (r : Int32) (σC1 σM1 : Sg), fX6_shown σC a1 a2 = some (r, σC1) ∧ fX7_shown σM a1 a2 = some (r, σM1) ∧ Rel σC1 σM1
def s_pure_middle (Rel : Sg → Sg → Prop) : Prop := ∀ (σC σM : Sg), Rel σC σM → ∀ a1 a2 : Int32, ∃ (r : Int32) (σC1 σM1 : Sg), fX6_middle σC a1 a2 = some (r, σC1) ∧ fX7_middle σM a1 a2 = some (r, σM1) ∧ Rel σC1 σM1
def s_pure_far (Rel : Sg → Sg → Prop) : Prop := ∀ (σC σM : Sg), Rel σC σM → ∀ a1 a2 : Int32, ∃ (r : Int32) (σC1 σM1 : Sg), fX6_far σC a1 a2 = some (r, σC1) ∧ fX7_far σM a1 a2 = some (r, σM1) ∧ Rel σC1 σM1
def s_pure_fars (Rel : Sg → Sg → Prop) : Prop := ∀ (σC σM : Sg), Rel σC σM → ∀ a1 : Int32, ∃ (r : Int32) (σC1 σM1 : Sg), fX6_fars σC a1 = some (r, σC1) ∧ fX7_fars σM a1 = some (r, σM1) ∧ Rel σC1 σM1
def s_pure_above (Rel : Sg → Sg → Prop) : Prop := ∀ (σC σM : Sg), Rel σC σM → ∀ a1 a2 : Int32, ∃ (r : Int32) (σC1 σM1 : Sg), fX6_above σC a1 a2 = some (r, σC1) ∧ fX7_above σM a1 a2 = some (r, σM1) ∧ Rel σC1 σM1
def s_pure_most (Rel : Sg → Sg → Prop) : Prop := ∀ (σC σM : Sg), Rel σC σM → ∀ a1 : Int32, ∃ (r : Int32) (σC1 σM1 : Sg), fX6_most σC a1 = some (r, σC1) ∧ fX7_most σM a1 = some (r, σM1) ∧ Rel σC1 σM1
def s_pure_add (Rel : Sg → Sg → Prop) : Prop := ∀ (σC σM : Sg), Rel σC σM → ∀ a1 : Int32, ∃ (r : Int32) (σC1 σM1 : Sg), fX6_add σC a1 = some (r, σC1) ∧ fX7_add σM a1 = some (r, σM1) ∧ Rel σC1 σM1
def s_pure_miss (Rel : Sg → Sg → Prop) : Prop := ∀ (σC σM : Sg), Rel σC σM → ∃ (r : Int32) (σC1 σM1 : Sg), fX6_miss σC = some (r, σC1) ∧ fX7_miss σM = some (r, σM1) ∧ Rel σC1 σM1
def s_pure_set (Rel : Sg → Sg → Prop) : Prop := ∀ (σC σM : Sg), Rel σC σM → ∀ a1 a2 : Int32, ∃ (r : Int32) (σC1 σM1 : Sg), fX6_set σC a1 a2 = some (r, σC1) ∧ fX7_set σM a1 a2 = some (r, σM1) ∧ Rel σC1 σM1
def s_pure_lose (Rel : Sg → Sg → Prop) : Prop := ∀ (σC σM : Sg), Rel σC σM → ∀ a1 : Int32, ∃ (r : Int32) (σC1 σM1 : Sg), fX6_lose σC a1 = some (r, σC1) ∧ fX7_lose σM a1 = some (r, σM1) ∧ Rel σC1 σM1
def s_pure_drop (Rel : Sg → Sg → Prop) : Prop := ∀ (σC σM : Sg), Rel σC σM → ∀ a1 : Int32, ∃ (r : Int32) (σC1 σM1 : Sg), fX6_drop σC a1 = some (r, σC1) ∧ fX7_drop σM a1 = some (r, σM1) ∧ Rel σC1 σM1
def s_pure_width (Rel : Sg → Sg → Prop) : Prop := ∀ (σC σM : Sg), Rel σC σM → ∀ a1 : Int32, ∃ (r : Int32) (σC1 σM1 : Sg), fX6_width σC a1 = some (r, σC1) ∧ fX7_width σM a1 = some (r, σM1) ∧ Rel σC1 σM1
def s_pure_need (Rel : Sg → Sg → Prop) : Prop := ∀ (σC σM : Sg), Rel σC σM → ∀ a1 : Int32, ∃ (r : Int32) (σC1 σM1 : Sg), fX6_need σC a1 = some (r, σC1) ∧ fX7_need σM a1 = some (r, σM1) ∧ Rel σC1 σM1
def s_pure_part (Rel : Sg → Sg → Prop) : Prop := ∀ (σC σM : Sg), Rel σC σM → ∀ a1 a2 : Int32, ∃ (r : Int32) (σC1 σM1 : Sg), fX6_part σC a1 a2 = some (r, σC1) ∧ fX7_part σM a1 a2 = some (r, σM1) ∧ Rel σC1 σM1
def s_pure_choose (Rel : Sg → Sg → Prop) : Prop := ∀ (σC σM : Sg), Rel σC σM → ∀ a1 : Int32, ∃ (r : Int32) (σC1 σM1 : Sg), fX6_choose σC a1 = some (r, σC1) ∧ fX7_choose σM a1 = some (r, σM1) ∧ Rel σC1 σM1
def s_pure_form (Rel : Sg → Sg → Prop) : Prop := ∀ (σC σM : Sg), Rel σC σM → ∀ a1 : Int32, ∃ (r : Int32) (σC1 σM1 : Sg), fX6_form σC a1 = some (r, σC1) ∧ fX7_form σM a1 = some (r, σM1) ∧ Rel σC1 σM1
def s_pure_drift (Rel : Sg → Sg → Prop) : Prop := ∀ (σC σM : Sg), Rel σC σM → ∀ a1 a2 : Int32, ∃ (r : Int32) (σC1 σM1 : Sg), fX6_drift σC a1 a2 = some (r, σC1) ∧ fX7_drift σM a1 a2 = some (r, σM1) ∧ Rel σC1 σM1
def s_pure_keep (Rel : Sg → Sg → Prop) : Prop := ∀ (σC σM : Sg), Rel σC σM → ∀ a1 : Int32, ∃ (r : Int32) (σC1 σM1 : Sg), fX6_keep σC a1 = some (r, σC1) ∧ fX7_keep σM a1 = some (r, σM1) ∧ Rel σC1 σM1
def s_pure_back (Rel : Sg → Sg → Prop) : Prop := ∀ (σC σM : Sg), Rel σC σM → ∀ a1 : Int32, ∃ (r : Int32) (σC1 σM1 : Sg), fX6_back σC a1 = some (r, σC1) ∧ fX7_back σM a1 = some (r, σM1) ∧ Rel σC1 σM1
def s_pure_sheet (Rel : Sg → Sg → Prop) : Prop := ∀ (σC σM : Sg), Rel σC σM → ∀ a1 a2 a3 : Int32, ∃ (r : Int32) (σC1 σM1 : Sg), fX6_sheet σC a1 a2 a3 = some (r, σC1) ∧ fX7_sheet σM a1 a2 a3 = some (r, σM1) ∧ Rel σC1 σM1
def s_pure_lay (Rel : Sg → Sg → Prop) : Prop := ∀ (σC σM : Sg), Rel σC σM → ∀ a1 a2 a3 : Int32, ∃ (r : Int32) (σC1 σM1 : Sg), fX6_lay σC a1 a2 a3 = some (r, σC1) ∧ fX7_lay σM a1 a2 a3 = some (r, σM1) ∧ Rel σC1 σM1
def s_pure_read (Rel : Sg → Sg → Prop) : Prop := ∀ (σC σM : Sg), Rel σC σM → ∀ a1 a2 a3 a4 : Int32, ∃ (r : Int32) (σC1 σM1 : Sg), fX6_read σC a1 a2 a3 a4 = some (r, σC1) ∧ fX7_read σM a1 a2 a3 a4 = some (r, σM1) ∧ Rel σC1 σM1
def s_pure_torn (Rel : Sg → Sg → Prop) : Prop := ∀ (σC σM : Sg), Rel σC σM → ∃ (r : Int32) (σC1 σM1 : Sg), fX6_torn σC = some (r, σC1) ∧ fX7_torn σM = some (r, σM1) ∧ Rel σC1 σM1
def s_pure_count (Rel : Sg → Sg → Prop) : Prop := ∀ (σC σM : Sg), Rel σC σM → ∀ a1 : Int32, ∃ (r : Int32) (σC1 σM1 : Sg), fX6_count σC a1 = some (r, σC1) ∧ fX7_count σM a1 = some (r, σM1) ∧ Rel σC1 σM1
