/-! MY FRAME: one list of words for all methods, worlds of fixed shape over numbers 'place, index -> int', contracts over pure functions -/
def kwL : List Cond := lw_tbl.filter goodWord
theorem kw_at (i : Nat) {w : Cond} (h : lw_tbl[i]? = some w) (hg : goodWord w = true) : w ∈ kwL := List.mem_filter.mpr ⟨List.mem_of_getElem? h, hg⟩
theorem kw_good {w : Cond} (h : w ∈ kwL) : goodWord w = true := (List.mem_filter.mp h).2
theorem kw_tbl {w : Cond} (h : w ∈ kwL) : w ∈ lw_tbl := (List.mem_filter.mp h).1
theorem kw_sub {ws : List Cond} (ps : List Nat) (h : ws = ps.filterMap (fun i => lw_tbl[i]?)) (hg : ws.all goodWord = true) : ∀ w ∈ ws, w ∈ kwL := by
  intro w hw
  refine List.mem_filter.mpr ⟨?_, List.all_eq_true.mp hg w hw⟩
  rw [h] at hw
  obtain ⟨i, -, hi⟩ := List.mem_filterMap.mp hw
  exact List.mem_of_getElem? hi
abbrev kW (y : MethodName) (c : ByteArray) (n : Nat) (r : Option FieldType) : List Cond := .code y c n r :: kwL
theorem kG {ws : List Cond} (h : ∀ w ∈ ws, w ∈ kwL) : GoodIn kwL ws := fun w hw => ⟨h w hw, good_of_word (kw_good (h w hw))⟩
theorem kG_w {y : MethodName} {c : ByteArray} {n : Nat} {r : Option FieldType} (h5 : Cond.code y c n r ∈ kwL) : ∀ w ∈ kW y c n r, w ∈ kwL := by
  intro w hw
  rcases List.mem_cons.mp hw with h | h
  · rw [h]; exact h5
  · exact h
theorem kG_i {y : MethodName} {c : ByteArray} {n : Nat} {r : Option FieldType} (h5 : Cond.code y c n r ∈ kwL) : GoodIn kwL (kW y c n r) := kG (kG_w h5)
theorem kG_v {own : String} {i : Nat} {C : String} {y : MethodName} {c : ByteArray} {n : Nat} {r : Option FieldType} (h1 : Cond.methodLink own i y ∈ kwL) (h2 : Cond.instanceMethod y ∈ kwL) (h3 : Cond.selects C y y ∈ kwL) (h4 : Cond.initialized C ∈ kwL) (h5 : Cond.code y c n r ∈ kwL) : GoodIn kwL (wsV own i C y (kW y c n r)) := kG (by
  intro w hw
  unfold wsV at hw
  rcases List.mem_append.mp hw with hw | hw
  · simp only [List.mem_cons, List.not_mem_nil, or_false] at hw
    rcases hw with h | h | h | h <;> rw [h] <;> assumption
  · exact kG_w h5 w hw)
theorem kG_s {own : String} {i : Nat} {y : MethodName} {c : ByteArray} {n : Nat} {r : Option FieldType} (h1 : Cond.methodLink own i y ∈ kwL) (h2 : Cond.static y ∈ kwL) (h4 : Cond.initialized y.cls ∈ kwL) (h5 : Cond.code y c n r ∈ kwL) : GoodIn kwL (va_wsS own i y (kW y c n r)) := kG (by
  intro w hw
  unfold va_wsS at hw
  rcases List.mem_append.mp hw with hw | hw
  · simp only [List.mem_cons, List.not_mem_nil, or_false] at hw
    rcases hw with h | h | h <;> rw [h] <;> assumption
  · exact kG_w h5 w hw)
/-! numbers -/
abbrev Sg : Type := Nat → Nat → Int32
def s_upr (σ : Sg) (p : Nat) (f : Nat → Int32) : Sg := fun q => if q = p then f else σ q
def s_up (σ : Sg) (p i : Nat) (v : Int32) : Sg := s_upr σ p (upd (σ p) i v)
def s_lt {α R : Type} (a : α) (F : α → Option R) : Option R := F a
theorem s_lt_at {α R : Type} {a x : α} {F : α → Option R} {r : Option R} (ex : x = a) (h : s_lt a F = r) : F x = r := by subst ex; exact h
def s_gd {R : Type} (b : Bool) (x : Option R) : Option R := if b = true then x else none
theorem s_gd_some {R : Type} {b : Bool} {x : Option R} {r : R} (h : s_gd b x = some r) : b = true ∧ x = some r := by
  unfold s_gd at h
  by_cases hb : b = true
  · rw [if_pos hb] at h; exact ⟨hb, h⟩
  · rw [if_neg hb] at h; cases h
def s_bi {R : Type} (x : Option (Int32 × Sg)) (k : Int32 → Sg → Option R) : Option R := match x with
  | some q => k q.1 q.2
  | none => none
theorem s_bi_some {R : Type} {x : Option (Int32 × Sg)} {k : Int32 → Sg → Option R} {r : R} (h : s_bi x k = some r) : ∃ (a : Int32) (σ1 : Sg), x = some (a, σ1) ∧ k a σ1 = some r := by
  cases x with
  | none => cases h
  | some q => exact ⟨q.1, q.2, rfl, h⟩
def s_bv {R : Type} (x : Option Sg) (k : Sg → Option R) : Option R := match x with
  | some q => k q
  | none => none
theorem s_bv_some {R : Type} {x : Option Sg} {k : Sg → Option R} {r : R} (h : s_bv x k = some r) : ∃ (σ1 : Sg), x = some σ1 ∧ k σ1 = some r := by
  cases x with
  | none => cases h
  | some q => exact ⟨q, rfl, h⟩
def s_in (i : Int32) (n : Nat) : Bool := decide (¬ (i < 0 ∨ n ≤ i.toNatClampNeg))
theorem s_in_of {i : Int32} {n : Nat} (h : s_in i n = true) : vp_in i n := by
  unfold vp_in
  exact of_decide_eq_true h
def s_nz (y : Int32) : Bool := decide (¬ y = 0)
theorem s_nz_of {y : Int32} (h : s_nz y = true) : ¬ y = 0 := of_decide_eq_true h
def s_nzl (y : Int64) : Bool := decide (¬ y = 0)
theorem s_nzl_of {y : Int64} (h : s_nzl y = true) : ¬ y = 0 := of_decide_eq_true h
def s_z (v : Int32) : Bool := decide (v = 0 ∨ v = 1)
theorem s_z_nar {v : Int32} (h : s_z v = true) : narrow .boolean (.int v) = .int v := by
  rcases of_decide_eq_true h with h | h <;> subst h <;> rfl
theorem s_z_fit {v : Int32} (h : s_z v = true) : fits .boolean (.int v) = true := by
  rcases of_decide_eq_true h with h | h <;> subst h <;> rfl
def s_fu : Nat := 4096
def s_rem (a b : Int32) : Int32 := a - a / b * b
def s_max (a b : Int32) : Int32 := if a < b then b else a
def s_min (a b : Int32) : Int32 := if b < a then b else a
def s_abs (a : Int32) : Int32 := if 0 ≤ a then a else 0 - a
def s_ushr (x y : Int32) : Int32 := (x.toUInt32 >>> (y.toUInt32 &&& Int32.toUInt32 31)).toInt32
def s_i2c (x : Int32) : Int32 := (x.toUInt32 % 65536).toInt32
def s_c (v : Int32) : Bool := decide (v = s_i2c v)
theorem s_c_nar {v : Int32} (h : s_c v = true) : narrow .char (.int v) = .int v := by
  have e : v = s_i2c v := of_decide_eq_true h
  rw [e]
  exact pk_nc v
def s_cpok (sp dp n : Int32) (n0 n1 : Nat) : Bool := decide (¬ sp < 0 ∧ ¬ dp < 0 ∧ ¬ n < 0 ∧ sp.toNatClampNeg + n.toNatClampNeg ≤ n0 ∧ dp.toNatClampNeg + n.toNatClampNeg ≤ n1)
theorem s_cpok_of {sp dp n : Int32} {n0 n1 : Nat} (h : s_cpok sp dp n n0 n1 = true) : ¬ sp < 0 ∧ ¬ dp < 0 ∧ ¬ n < 0 ∧ sp.toNatClampNeg + n.toNatClampNeg ≤ n0 ∧ dp.toNatClampNeg + n.toNatClampNeg ≤ n1 := of_decide_eq_true h
theorem s_ret {X re : Int32} {σk σe : Sg} (h : some (X, σk) = some (re, σe)) : X = re ∧ σk = σe := by cases h; exact ⟨rfl, rfl⟩
/-! worlds: the class has 27 cells (sheets at 19, 21, 23, 25, their rows behind them), the reference 12 -/
def s_WC (cy : Nat → ClassId) (ad : Nat → Nat) (σ : Sg) : va_W :=
  [(ad 0, .inr (6, [.ref (ad 1), .ref (ad 3), .ref (ad 6), .ref (ad 8), .ref (ad 10), .ref (ad 12), .ref (ad 17), .ref (ad 18), .int (σ 0 8)])),
   (ad 1, .inr (3, [.ref (ad 2), .int (σ 1 1)])),
   (ad 2, .inl (cy 0, 320, .inl (σ 2))),
   (ad 3, .inr (4, [.ref (ad 4), .int (σ 3 1), .int (σ 3 2), .int (σ 3 3), .int (σ 3 4), .int (σ 3 5), .int (σ 3 6), .int (σ 3 7), .int (σ 3 8), .int (σ 3 9), .int (σ 3 10), .int (σ 3 11)])),
   (ad 4, .inr (1, [.ref (ad 5), .int (σ 4 1), .int (σ 4 2), .int (σ 4 3), .int (σ 4 4), .int (σ 4 5), .int (σ 4 6), .int (σ 4 7)])),
   (ad 5, .inl (cy 1, 96, .inl (σ 5))),
   (ad 6, .inr (1, [.ref (ad 7), .int (σ 6 1), .int (σ 6 2), .int (σ 6 3), .int (σ 6 4), .int (σ 6 5), .int (σ 6 6), .int (σ 6 7)])),
   (ad 7, .inl (cy 1, 96, .inl (σ 7))),
   (ad 8, .inr (0, [.ref (ad 6), .ref (ad 9), .int (σ 8 2)])),
   (ad 9, .inl (cy 1, 24, .inl (σ 9))),
   (ad 10, .inr (5, [.ref (ad 11), .int (σ 10 1)])),
   (ad 11, .inl (cy 0, 8, .inl (σ 11))),
   (ad 12, .inl (cy 3, 2, .inr (.inr (.inr (.inr (va_up (va_up (fun _ => none) 0 (some (ad 13))) 1 (some (ad 15)))))))),
   (ad 13, .inr (1, [.ref (ad 14), .int (σ 13 1), .int (σ 13 2), .int (σ 13 3), .int (σ 13 4), .int (σ 13 5), .int (σ 13 6), .int (σ 13 7)])),
   (ad 14, .inl (cy 1, 96, .inl (σ 14))),
   (ad 15, .inr (1, [.ref (ad 16), .int (σ 15 1), .int (σ 15 2), .int (σ 15 3), .int (σ 15 4), .int (σ 15 5), .int (σ 15 6), .int (σ 15 7)])),
   (ad 16, .inl (cy 1, 96, .inl (σ 16))),
   (ad 17, .inl (cy 2, 2, .inl (σ 17))),
   (ad 18, .inl (cy 4, 4, .inr (.inr (.inr (.inr (va_up (va_up (va_up (va_up (fun _ => none) 0 (some (ad 19))) 1 (some (ad 21))) 2 (some (ad 23))) 3 (some (ad 25)))))))),
   (ad 19, .inr (2, [.ref (ad 20), .int (σ 19 1), .int (σ 19 2)])),
   (ad 20, .inl (cy 1, 40, .inl (σ 20))),
   (ad 21, .inr (2, [.ref (ad 22), .int (σ 21 1), .int (σ 21 2)])),
   (ad 22, .inl (cy 1, 40, .inl (σ 22))),
   (ad 23, .inr (2, [.ref (ad 24), .int (σ 23 1), .int (σ 23 2)])),
   (ad 24, .inl (cy 1, 40, .inl (σ 24))),
   (ad 25, .inr (2, [.ref (ad 26), .int (σ 25 1), .int (σ 25 2)])),
   (ad 26, .inl (cy 1, 40, .inl (σ 26)))]
def s_WM (cy : Nat → ClassId) (ad : Nat → Nat) (σ : Sg) : va_W :=
  [(ad 0, .inr (7, [.ref (ad 1), .int (σ 0 1), .ref (ad 2), .int (σ 0 3), .int (σ 0 4), .int (σ 0 5), .int (σ 0 6), .int (σ 0 7), .int (σ 0 8), .int (σ 0 9), .int (σ 0 10), .int (σ 0 11), .ref (ad 3), .ref (ad 4), .ref (ad 5), .int (σ 0 15), .ref (ad 6), .int (σ 0 17), .int (σ 0 18), .int (σ 0 19), .int (σ 0 20), .ref (ad 7), .int (σ 0 22), .ref (ad 8), .ref (ad 9), .ref (ad 10), .ref (ad 11), .int (σ 0 27)])),
   (ad 1, .inl (cy 1, 515, .inl (σ 1))),
   (ad 2, .inl (cy 1, 320, .inl (σ 2))),
   (ad 3, .inl (cy 1, 16, .inl (σ 3))),
   (ad 4, .inl (cy 1, 61, .inl (σ 4))),
   (ad 5, .inl (cy 1, 24, .inl (σ 5))),
   (ad 6, .inl (cy 1, 24, .inl (σ 6))),
   (ad 7, .inl (cy 1, 16, .inl (σ 7))),
   (ad 8, .inl (cy 2, 2, .inl (σ 8))),
   (ad 9, .inl (cy 1, 4, .inl (σ 9))),
   (ad 10, .inl (cy 1, 4, .inl (σ 10))),
   (ad 11, .inl (cy 1, 160, .inl (σ 11)))]
theorem s_WC_ad (cy : Nat → ClassId) (ad : Nat → Nat) (σ : Sg) : (s_WC cy ad σ).map Prod.fst = (List.range 27).map ad := rfl
theorem s_WM_ad (cy : Nat → ClassId) (ad : Nat → Nat) (σ : Sg) : (s_WM cy ad σ).map Prod.fst = (List.range 12).map ad := rfl
def s_ty (cy : Nat → ClassId) : List (ClassId × FieldType) := [(cy 0, .byte), (cy 1, .int), (cy 2, .boolean), (cy 3, .object "SlidingRanks$Series"), (cy 4, .object "SlidingRanks$Sheet")]
def s_inj (ad : Nat → Nat) (n : Nat) : Prop := ∀ i j : Nat, i < n → j < n → ad i = ad j → i = j
def s_A (ad : Nat → Nat) (n sz : Nat) : Nat → Prop := fun q => (∃ k, k < n ∧ ad k = q) ∨ sz ≤ q
theorem s_D {w : va_W} {ad : Nat → Nat} {n : Nat} {A : Nat → Prop} (he : w.map Prod.fst = (List.range n).map ad) (hI : s_inj ad n) (hA : ∀ k, k < n → A (ad k)) : va_D A w := by
  have key : ∀ (k : Nat) (q : Nat × va_E), w[k]? = some q → k < n ∧ q.1 = ad k := by
    intro k q hk
    have h1 : (w.map Prod.fst)[k]? = some q.1 := by rw [List.getElem?_map, hk]; rfl
    rw [he, List.getElem?_map] at h1
    by_cases hkn : k < n
    · rw [List.getElem?_range hkn] at h1
      exact ⟨hkn, (Option.some.inj h1).symm⟩
    · rw [List.getElem?_eq_none (by rw [List.length_range]; omega)] at h1
      cases h1
  refine ⟨fun i j x y hi hj hxy => ?_, fun k q hk => ?_⟩
  · obtain ⟨h1, h2⟩ := key i x hi
    obtain ⟨h3, h4⟩ := key j y hj
    exact hI i j h1 h3 (h2.symm.trans (hxy.trans h4))
  · obtain ⟨h1, h2⟩ := key k q hk
    rw [h2]
    exact hA k h1
/-! what stands beside the worlds: links among nest mates, the one string constant, a static of String -/
def s_nest : List (String × Nat × String × String × String × String) := [("SlidingRanks", 73, "SlidingRanks$Tape", "length", "I", "SlidingRanks"), ("SlidingRanks$Teller", 134, "SlidingRanks$Tape", "length", "I", "SlidingRanks"), ("SlidingRanks", 89, "SlidingRanks$Series", "size", "I", "SlidingRanks"), ("SlidingRanks$Teller", 127, "SlidingRanks$Series", "size", "I", "SlidingRanks"), ("SlidingRanks$Row", 26, "SlidingRanks$Series", "width", "I", "SlidingRanks"), ("SlidingRanks$Teller", 80, "SlidingRanks$Series", "width", "I", "SlidingRanks"), ("SlidingRanks", 99, "SlidingRanks$Series", "width", "I", "SlidingRanks"), ("SlidingRanks$Teller", 83, "SlidingRanks$Series", "need", "I", "SlidingRanks"), ("SlidingRanks", 102, "SlidingRanks$Series", "need", "I", "SlidingRanks"), ("SlidingRanks$Row", 52, "SlidingRanks$Series", "need", "I", "SlidingRanks"), ("SlidingRanks$Teller", 86, "SlidingRanks$Series", "p", "I", "SlidingRanks"), ("SlidingRanks", 105, "SlidingRanks$Series", "p", "I", "SlidingRanks"), ("SlidingRanks$Row", 58, "SlidingRanks$Series", "p", "I", "SlidingRanks"), ("SlidingRanks$Teller", 95, "SlidingRanks$Series", "q", "I", "SlidingRanks"), ("SlidingRanks", 108, "SlidingRanks$Series", "q", "I", "SlidingRanks"), ("SlidingRanks$Row", 55, "SlidingRanks$Series", "q", "I", "SlidingRanks"), ("SlidingRanks$Teller", 101, "SlidingRanks$Series", "rule", "I", "SlidingRanks"), ("SlidingRanks", 111, "SlidingRanks$Series", "rule", "I", "SlidingRanks"), ("SlidingRanks$Row", 71, "SlidingRanks$Series", "rule", "I", "SlidingRanks"), ("SlidingRanks$Teller", 104, "SlidingRanks$Series", "form", "I", "SlidingRanks"), ("SlidingRanks", 114, "SlidingRanks$Series", "form", "I", "SlidingRanks"), ("SlidingRanks", 83, "SlidingRanks$Teller", "draft", "LSlidingRanks$Series;", "SlidingRanks"), ("SlidingRanks", 92, "SlidingRanks$Teller", "fault", "I", "SlidingRanks"), ("SlidingRanks", 80, "SlidingRanks$Teller", "faultPlace", "I", "SlidingRanks"), ("SlidingRanks", 131, "SlidingRanks$Row", "n", "I", "SlidingRanks"), ("SlidingRanks", 165, "SlidingRanks$Words", "length", "I", "SlidingRanks"), ("SlidingRanks", 266, "SlidingRanks$Sheet", "lane", "I", "SlidingRanks"), ("SlidingRanks", 253, "SlidingRanks$Sheet", "size", "I", "SlidingRanks")]
def s_txt : String := "width need part rule form put miss low high near mean line plain cents sign "
def s_byt : List Int32 := [119, 105, 100, 116, 104, 32, 110, 101, 101, 100, 32, 112, 97, 114, 116, 32, 114, 117, 108, 101, 32, 102, 111, 114, 109, 32, 112, 117, 116, 32, 109, 105, 115, 115, 32, 108, 111, 119, 32, 104, 105, 103, 104, 32, 110, 101, 97, 114, 32, 109, 101, 97, 110, 32, 108, 105, 110, 101, 32, 112, 108, 97, 105, 110, 32, 99, 101, 110, 116, 115, 32, 115, 105, 103, 110, 32]
def s_E (sa : Nat × Nat) (A : Nat → Prop) (U : State) (H : Heap) : Prop :=
  (∀ q ∈ s_nest, va_Nw (.fieldLinkNest q.1 q.2.1 q.2.2.1 q.2.2.2.1 q.2.2.2.2.1 q.2.2.2.2.2) U) ∧ vk_R "SlidingRanks$Teller" 154 s_txt sa.1 U ∧ vk_S 1 [76] [s_byt] (fun _ => sa.1) (fun _ => sa.2) A U H ∧ va_Z "java/lang/String" "COMPACT_STRINGS" "Z" (.int 1) A U H ∧ va_Zq "jdk/internal/util/Preconditions" "SIOOBE_FORMATTER" "Ljava/util/function/BiFunction;" A U H
theorem s_E.go {sa : Nat × Nat} {A B : Nat → Prop} {s U : State} {H : Heap} {locs : List Loc} (h : s_E sa A s s.heap) (hS : va_S A s.heap H locs) (hW : s.WarmedH U.vm) (hU : U.heap = H) (hB : ∀ q, B q → A q) : s_E sa B U U.heap := by
  obtain ⟨h1, h2, h3, h4, h5⟩ := h
  rw [hU]
  exact ⟨fun q hq => (h1 q hq).warmF hW, h2.warm hW, ((h3.kept hS.2.1).moved hW.alike).narrow hB, ((h4.kept hS.2.1).moved hW.alike).narrow hB, ((h5.kept hS.2.1).moved hW.alike).narrow hB⟩
theorem s_E.frame {sa : Nat × Nat} {A : Nat → Prop} {U : State} {g : JFrame} {mk : MethodId} {a : Array Value} (h : s_E sa A U U.heap) : s_E sa A (U.calling g mk a) (U.calling g mk a).heap := by
  obtain ⟨h1, h2, h3, h4, h5⟩ := h
  exact ⟨fun q hq => (h1 q hq).same rfl rfl, h2.same rfl, h3.moved (Vm.Alike.refl U.vm), h4.moved (Vm.Alike.refl U.vm), h5.moved (Vm.Alike.refl U.vm)⟩
/-! contracts -/
def s_P (Wd : Sg → va_W) (G : va_G) (cy : Nat → ClassId) (sa : Nat × Nat) (ad : Nat → Nat) (n : Nat) (av : List Value) (sz : Nat) (σ : Sg) : Array Value → State → Prop :=
  va_Pc av (fun U => U.heap.size = sz ∧ va_P G vwCl (Wd σ) U.heap ∧ va_K G vwCl (s_ty cy) U ∧ s_E sa (s_A ad n sz) U U.heap)
def s_Qi (Wd : Sg → va_W) (G : va_G) (A : Nat → Prop) (r : Int32) (σ : Sg) : Array Value → State → Outcome → State → Prop :=
  va_Qi (fun (r' : Int32) (_ : Unit) => r' = r) (fun _ t => va_P G vwCl (Wd σ) t.heap) A
def s_Qv (Wd : Sg → va_W) (G : va_G) (A : Nat → Prop) (σ : Sg) : Array Value → State → Outcome → State → Prop :=
  va_Qv (fun (_ : Unit) => True) (fun _ t => va_P G vwCl (Wd σ) t.heap) A
theorem s_P_blind {Wd : Sg → va_W} {G : va_G} {cy : Nat → ClassId} {sa : Nat × Nat} {ad : Nat → Nat} {n : Nat} {av : List Value} {sz : Nat} {σ : Sg} : FrameBlind (s_P Wd G cy sa ad n av sz σ) := by
  intro a U g mk q
  obtain ⟨q0, q1, qP, qK, qE⟩ := q
  exact ⟨q0, q1, qP, va_K.moved (u := U) (U := U.calling g mk a) (Vm.Alike.refl U.vm) qK, qE.frame⟩
def s_X (p : Program) (s : State) (m : MethodId) (meth : Method) (c : Code) (args : Array Value) (cc : ByteArray) (ret : Option FieldType) (nL : Nat) (own : String) (G : va_G) (cy : Nat → ClassId) (sa : Nat × Nat) (ad : Nat → Nat) (n : Nat) : Prop :=
  p.tables.exec = Jvm.exec ∧ c.code = cc ∧ meth.sig.returnType = ret ∧ c.maxLocals = nL ∧ s.vm.findClass own = some m.cls ∧ (∀ w ∈ kwL, w.before args s = true) ∧ meth.locks = false ∧ va_K G vwCl (s_ty cy) s ∧ s_E sa (s_A ad n s.heap.size) s s.heap ∧ s_inj ad n
/-- a method's contract out of the walk of its body -/
theorem s_met {l : Launch} {y : MethodName} {cc : ByteArray} {maxL : Nat} {rt : Option FieldType} {own : String} {rm : Room} {Wd : Sg → va_W} {G : va_G} {cy : Nat → ClassId} {sa : Nat × Nat} {ad : Nat → Nat} {n : Nat} {av : List Value} {sz : Nat} {σ : Sg} {Qc : Array Value → State → Outcome → State → Prop} (hy : plainName y.cls = true) (ho : y.cls = own) (hI : s_inj ad n) (hlen : (lg_sl av).length ≤ maxL)
    (body : ∀ (p : Program) (e : Env) (s : State) (m : MethodId) (below : List Frame) (meth : Method) (c : Code) (ls : Array Slot), s.heap.size = sz → s_X p s m meth c av.toArray cc rt maxL own G cy sa ad n → va_P G vwCl (Wd σ) s.heap → lv_has ls maxL (lv_args 0 av) → W p l e rm s m av.toArray below meth c s.heap [] 0 0 (MQ below Qc av.toArray s 0 0 (s_A ad n sz)) (F0 m 0 ls [])) :
    Met l y (kW y cc maxL rt) rm (s_P Wd G cy sa ad n av sz σ) Qc 0 0 (s_A ad n sz) := by
  refine Met.ofW (cc := cc) (maxL := maxL) (ret := rt) hy rfl ?_
  intro p e s m args below meth c s₁ B hml hv
  obtain ⟨rfl, hsz, hP, hK, hE⟩ := hv
  have hts := atoms_spec (ws := kW y cc maxL rt) B.pre
  have hown : s.vm.findClass y.cls = some m.cls := findClass_of_methodNamed B.named
  have hl := lv_entry av (n := maxL) hlen
  rw [lg_entry_eq]
  generalize (lg_sl av ++ List.replicate (maxL - (lg_sl av).length) Slot.unset).toArray = ls at hl ⊢
  subst hsz
  exact body p e s m below meth c ls rfl ⟨B.exec, B.bytes, B.returns, hml, by rw [← ho]; exact hown, fun w h => hts w (List.mem_cons_of_mem _ h), B.notSynchronized, hK, hE, hI⟩ hP hl
theorem s_fin {Wd : Sg → va_W} {G : va_G} {t : State} {H : Heap} {σ σe : Sg} (ht : t.heap = H) (he : σ = σe) (hP : va_P G vwCl (Wd σ) H) : va_P G vwCl (Wd σe) t.heap := by rw [ht, ← he]; exact hP
section SCALL
variable {p : Program} {l : Launch} {e : Env} {R : Room} {s : State} {m : MethodId} {args : Array Value} {below : List Frame} {meth : Method} {c : Code} {H : Heap} {locs : List Loc} {Q : State → Prop}
variable {cc : ByteArray} {ret : Option FieldType} {nL : Nat} {own : String} {G : va_G} {cy : Nat → ClassId} {sa : Nat × Nat} {ad : Nat → Nat} {n : Nat} {Wd : Sg → va_W} {σ σ1 : Sg} {r1 : Int32}
variable {y : MethodName} {bytes : ByteArray} {maxL idx nn pc : Nat} {rt : Option FieldType} {Cn : String} {rm : Room} {As rest st0 : List Value} {b : Nat} {ls : Array Slot}
theorem s_sub {sz sz' q : Nat} (hz : sz ≤ sz') (h : s_A ad n sz' q) : s_A ad n sz q := h.imp id (fun z => Nat.le_trans hz z)
theorem s_calli (C : s_X p s m meth c args cc ret nL own G cy sa ad n) (hM : Met l y (kW y bytes maxL rt) rm (s_P Wd G cy sa ad n (.ref b :: As) H.size σ) (s_Qi Wd G (s_A ad n H.size) r1 σ1) 0 0 (s_A ad n H.size))
    (hg : GoodIn kwL (wsV own idx Cn y (kW y bytes maxL rt))) (hrc : rm.cells = 0) (hrs : rm.slots = 0) (hd : y.cls = Cn ∧ y.cls ≠ "java/lang/invoke/MethodHandle" ∧ y.cls ≠ "java/lang/invoke/VarHandle" ∧ (parseMethodDescriptor y.desc).map (fun d => d.parameters.length) = some nn) (hR : rm.frames + 1 ≤ R.frames ∧ 8 + (maxL + 11) + rm.locals ≤ R.locals)
    (hP : va_P G vwCl (Wd σ) H) (hS : va_S (s_A ad n s.heap.size) s.heap H locs) {q0 ci : Nat} {vc : vw_C} {fs : List Value} (hc : vwCl[ci]? = some vc) (he : (Wd σ)[q0]? = some (b, .inr (ci, fs))) (hCn : vc.1 = Cn) (hst : st0 = As.reverse ++ .ref b :: rest) (hn : As.length = nn) (hls : ls.size = nL) (hW : (rest.map fun v => v.category).sum ≤ 8) (hdg : decode cc pc = .ok (.invokevirtual idx, 3))
    (kk : ∀ (H1 : Heap) (locs1 : List Loc), va_P G vwCl (Wd σ1) H1 → va_S (s_A ad n s.heap.size) s.heap H1 locs1 → W p l e R s m args below meth c H1 locs1 0 0 Q (F0 m (pc + 3) ls (.int r1 :: rest))) :
    W p l e R s m args below meth c H locs 0 0 Q (F0 m pc ls st0) := by
  obtain ⟨hx, hb, hr, hml, hown, hts, hlk, hK, hE, hI⟩ := C
  subst hCn
  refine va_calli (va_runV (As := As) (rest := rest) ⟨hx, hb, hml, hown, hts⟩ hM (cwV nn hts hg rfl hrc hrs hd hR) ⟨s_P_blind, va_recv hK hP (ci := ci) (q0 := q0) hc he, fun U hU hW => ⟨rfl, by rw [hU], by rw [hU]; exact hP, va_K.moved hW.alike hK, hE.go hS hW hU (fun q h => s_sub hS.1 h)⟩⟩ rfl hn hls hst (lv_room hW) hdg ⟨Nat.zero_le _, Nat.zero_le _⟩) hS (fun q _ h => s_sub hS.1 h) (fun q h => s_sub hS.1 h) (fun r u t H1 locs1 ht hvm hw hB hz1 hk1 hS1 => ?_)
  subst hw
  rw [ht] at hB
  exact kk H1 locs1 hB hS1
theorem s_calliR (C : s_X p s m meth c args cc ret nL own G cy sa ad n) (hM : Met l y (kW y bytes maxL rt) rm (s_P Wd G cy sa ad n (.ref b :: As) H.size σ) (s_Qi Wd G (s_A ad n H.size) r1 σ1) 0 0 (s_A ad n H.size))
    (hg : GoodIn kwL (wsV own idx Cn y (kW y bytes maxL rt))) (hrc : rm.cells = 0) (hrs : rm.slots = 0) (hd : y.cls = Cn ∧ y.cls ≠ "java/lang/invoke/MethodHandle" ∧ y.cls ≠ "java/lang/invoke/VarHandle" ∧ (parseMethodDescriptor y.desc).map (fun d => d.parameters.length) = some nn) (hR : rm.frames + 1 ≤ R.frames ∧ 8 + (maxL + 11) + rm.locals ≤ R.locals)
    (hP : va_P G vwCl (Wd σ) H) (hS : va_S (s_A ad n s.heap.size) s.heap H locs) (hrv : ∃ cell : Cell, H[b]? = some cell ∧ cell.vm.isStatics = false ∧ s.vm.findClass Cn = some cell.cls) (hst : st0 = As.reverse ++ .ref b :: rest) (hn : As.length = nn) (hls : ls.size = nL) (hW : (rest.map fun v => v.category).sum ≤ 8) (hdg : decode cc pc = .ok (.invokevirtual idx, 3))
    (kk : ∀ (H1 : Heap) (locs1 : List Loc), va_P G vwCl (Wd σ1) H1 → va_S (s_A ad n s.heap.size) s.heap H1 locs1 → W p l e R s m args below meth c H1 locs1 0 0 Q (F0 m (pc + 3) ls (.int r1 :: rest))) :
    W p l e R s m args below meth c H locs 0 0 Q (F0 m pc ls st0) := by
  obtain ⟨hx, hb, hr, hml, hown, hts, hlk, hK, hE, hI⟩ := C
  refine va_calli (va_runV (As := As) (rest := rest) ⟨hx, hb, hml, hown, hts⟩ hM (cwV nn hts hg rfl hrc hrs hd hR) ⟨s_P_blind, hrv, fun U hU hW => ⟨rfl, by rw [hU], by rw [hU]; exact hP, va_K.moved hW.alike hK, hE.go hS hW hU (fun q h => s_sub hS.1 h)⟩⟩ rfl hn hls hst (lv_room hW) hdg ⟨Nat.zero_le _, Nat.zero_le _⟩) hS (fun q _ h => s_sub hS.1 h) (fun q h => s_sub hS.1 h) (fun r u t H1 locs1 ht hvm hw hB hz1 hk1 hS1 => ?_)
  subst hw
  rw [ht] at hB
  exact kk H1 locs1 hB hS1
theorem s_callv (C : s_X p s m meth c args cc ret nL own G cy sa ad n) (hM : Met l y (kW y bytes maxL rt) rm (s_P Wd G cy sa ad n (.ref b :: As) H.size σ) (s_Qv Wd G (s_A ad n H.size) σ1) 0 0 (s_A ad n H.size))
    (hg : GoodIn kwL (wsV own idx Cn y (kW y bytes maxL rt))) (hrc : rm.cells = 0) (hrs : rm.slots = 0) (hd : y.cls = Cn ∧ y.cls ≠ "java/lang/invoke/MethodHandle" ∧ y.cls ≠ "java/lang/invoke/VarHandle" ∧ (parseMethodDescriptor y.desc).map (fun d => d.parameters.length) = some nn) (hR : rm.frames + 1 ≤ R.frames ∧ 8 + (maxL + 11) + rm.locals ≤ R.locals)
    (hP : va_P G vwCl (Wd σ) H) (hS : va_S (s_A ad n s.heap.size) s.heap H locs) {q0 ci : Nat} {vc : vw_C} {fs : List Value} (hc : vwCl[ci]? = some vc) (he : (Wd σ)[q0]? = some (b, .inr (ci, fs))) (hCn : vc.1 = Cn) (hst : st0 = As.reverse ++ .ref b :: rest) (hn : As.length = nn) (hls : ls.size = nL) (hW : (rest.map fun v => v.category).sum ≤ 8) (hdg : decode cc pc = .ok (.invokevirtual idx, 3))
    (kk : ∀ (H1 : Heap) (locs1 : List Loc), va_P G vwCl (Wd σ1) H1 → va_S (s_A ad n s.heap.size) s.heap H1 locs1 → W p l e R s m args below meth c H1 locs1 0 0 Q (F0 m (pc + 3) ls rest)) :
    W p l e R s m args below meth c H locs 0 0 Q (F0 m pc ls st0) := by
  obtain ⟨hx, hb, hr, hml, hown, hts, hlk, hK, hE, hI⟩ := C
  subst hCn
  refine va_callv (va_runV (As := As) (rest := rest) ⟨hx, hb, hml, hown, hts⟩ hM (cwV nn hts hg rfl hrc hrs hd hR) ⟨s_P_blind, va_recv hK hP (ci := ci) (q0 := q0) hc he, fun U hU hW => ⟨rfl, by rw [hU], by rw [hU]; exact hP, va_K.moved hW.alike hK, hE.go hS hW hU (fun q h => s_sub hS.1 h)⟩⟩ rfl hn hls hst (lv_room hW) hdg ⟨Nat.zero_le _, Nat.zero_le _⟩) hS (fun q _ h => s_sub hS.1 h) (fun q h => s_sub hS.1 h) (fun u t H1 locs1 ht hvm hw hB hz1 hk1 hS1 => ?_)
  rw [ht] at hB
  exact kk H1 locs1 hB hS1
theorem s_calliS (C : s_X p s m meth c args cc ret nL own G cy sa ad n) (hM : Met l y (kW y bytes maxL rt) rm (s_P Wd G cy sa ad n As H.size σ) (s_Qi Wd G (s_A ad n H.size) r1 σ1) 0 0 (s_A ad n H.size))
    (hg : GoodIn kwL (va_wsS own idx y (kW y bytes maxL rt))) (hrc : rm.cells = 0) (hrs : rm.slots = 0) (hd : y.cls ≠ "java/lang/invoke/MethodHandle" ∧ y.cls ≠ "java/lang/invoke/VarHandle" ∧ (parseMethodDescriptor y.desc).map (fun d => d.parameters.length) = some nn) (hR : rm.frames + 1 ≤ R.frames ∧ 8 + (maxL + 11) + rm.locals ≤ R.locals)
    (hP : va_P G vwCl (Wd σ) H) (hS : va_S (s_A ad n s.heap.size) s.heap H locs) (hst : st0 = As.reverse ++ rest) (hn : As.length = nn) (hls : ls.size = nL) (hW : (rest.map fun v => v.category).sum ≤ 8) (hdg : decode cc pc = .ok (.invokestatic idx, 3))
    (kk : ∀ (H1 : Heap) (locs1 : List Loc), va_P G vwCl (Wd σ1) H1 → va_S (s_A ad n s.heap.size) s.heap H1 locs1 → W p l e R s m args below meth c H1 locs1 0 0 Q (F0 m (pc + 3) ls (.int r1 :: rest))) :
    W p l e R s m args below meth c H locs 0 0 Q (F0 m pc ls st0) := by
  obtain ⟨hx, hb, hr, hml, hown, hts, hlk, hK, hE, hI⟩ := C
  refine va_calli (va_runS (As := As) (rest := rest) ⟨hx, hb, hml, hown, hts⟩ hM (va_cwS nn hts hg rfl hrc hrs hd hR) ⟨s_P_blind, fun U hU hW => ⟨rfl, by rw [hU], by rw [hU]; exact hP, va_K.moved hW.alike hK, hE.go hS hW hU (fun q h => s_sub hS.1 h)⟩⟩ rfl hn hls hst (lv_room hW) hdg ⟨Nat.zero_le _, Nat.zero_le _⟩) hS (fun q _ h => s_sub hS.1 h) (fun q h => s_sub hS.1 h) (fun r u t H1 locs1 ht hvm hw hB hz1 hk1 hS1 => ?_)
  subst hw
  rw [ht] at hB
  exact kk H1 locs1 hB hS1
theorem s_callvS (C : s_X p s m meth c args cc ret nL own G cy sa ad n) (hM : Met l y (kW y bytes maxL rt) rm (s_P Wd G cy sa ad n As H.size σ) (s_Qv Wd G (s_A ad n H.size) σ1) 0 0 (s_A ad n H.size))
    (hg : GoodIn kwL (va_wsS own idx y (kW y bytes maxL rt))) (hrc : rm.cells = 0) (hrs : rm.slots = 0) (hd : y.cls ≠ "java/lang/invoke/MethodHandle" ∧ y.cls ≠ "java/lang/invoke/VarHandle" ∧ (parseMethodDescriptor y.desc).map (fun d => d.parameters.length) = some nn) (hR : rm.frames + 1 ≤ R.frames ∧ 8 + (maxL + 11) + rm.locals ≤ R.locals)
    (hP : va_P G vwCl (Wd σ) H) (hS : va_S (s_A ad n s.heap.size) s.heap H locs) (hst : st0 = As.reverse ++ rest) (hn : As.length = nn) (hls : ls.size = nL) (hW : (rest.map fun v => v.category).sum ≤ 8) (hdg : decode cc pc = .ok (.invokestatic idx, 3))
    (kk : ∀ (H1 : Heap) (locs1 : List Loc), va_P G vwCl (Wd σ1) H1 → va_S (s_A ad n s.heap.size) s.heap H1 locs1 → W p l e R s m args below meth c H1 locs1 0 0 Q (F0 m (pc + 3) ls rest)) :
    W p l e R s m args below meth c H locs 0 0 Q (F0 m pc ls st0) := by
  obtain ⟨hx, hb, hr, hml, hown, hts, hlk, hK, hE, hI⟩ := C
  refine va_callv (va_runS (As := As) (rest := rest) ⟨hx, hb, hml, hown, hts⟩ hM (va_cwS nn hts hg rfl hrc hrs hd hR) ⟨s_P_blind, fun U hU hW => ⟨rfl, by rw [hU], by rw [hU]; exact hP, va_K.moved hW.alike hK, hE.go hS hW hU (fun q h => s_sub hS.1 h)⟩⟩ rfl hn hls hst (lv_room hW) hdg ⟨Nat.zero_le _, Nat.zero_le _⟩) hS (fun q _ h => s_sub hS.1 h) (fun q h => s_sub hS.1 h) (fun u t H1 locs1 ht hvm hw hB hz1 hk1 hS1 => ?_)
  rw [ht] at hB
  exact kk H1 locs1 hB hS1
end SCALL
