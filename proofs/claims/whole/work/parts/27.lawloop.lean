/-! THE CLAIM OUT OF ONE WALK OF THE LAW'S BODY. Your part is whole_start (and what it stands on); all else here is the same for every law, but numbers. -/
def R_law : String := "SlidingRanksLaw"
def lw_P (b : Addr) (xs : List Int32) (args : Array Value) (s : State) : Prop := args = #[.ref b] ∧ s.IntsAt b xs ∧ xs.length ≤ 2560 ∧ (Jvm.Cond.and given_1 narrow_1).before args s = true
def lw_Q (_ : Array Value) (s : State) (o : Outcome) (t : State) : Prop := o = .returned (some (.int 1)) ∧ Framed s o t [] 39 2150
def lw_Z (below : List Frame) (a : Array Value) (s : State) : State → Prop := fun t => ∃ o, t.status = .running ∧ Ended t below o ∧ lw_Q a s o t
/-- the law's own end, with 1 on the stack, nothing written that was there before, its room as the claim has it -/
theorem lw_ret {p : Program} {l : Launch} {e : Env} {s : State} {m : MethodId} {below : List Frame} {meth : Method} {c : Code} {b : Nat} (hx : p.tables.exec = Jvm.exec) (hb : c.code = code) (hr : meth.sig.returnType = ret) (hlocks : meth.locks = false) {pc : Nat} {H : Heap} {ls : Array Slot} (hdg : decode code pc = .ok (.ireturn, 1)) : W p l e room_1 s m #[Value.ref b] below meth c H [] 39 2150 (lw_Z below #[Value.ref b] s) (F0 m pc ls [.int 1]) := by
  intro T hT X
  obtain ⟨fs, hret, hrun, hended, hW, hframe⟩ := X.leave (v := some (.int 1)) (hlocks := hlocks) (fun h => by rw [hr] at h; cases h)
  have hmeth' : T.vm.method? m = some meth := X.method'
  refine ⟨T.setFrames fs, ?_, .returned (some (.int 1)), hrun, hended, rfl, ⟨_, rfl⟩, hW, hframe⟩
  jvm_step X.here [X.here.top, hx, hb, hdg, hmeth', hr, ret, narrow_b1]
  (try refine ⟨rfl, ?_⟩); (try refine ⟨rfl, ?_⟩)
  first | (intro acts; rw [hret _ acts rfl rfl rfl]) | rw [hret _ _ rfl rfl rfl]
  exact Steps.refl _
/-- what holds at the law's entry: the machine, the code, the tables' words (any of lw_tbl by 'hts w (by decide +kernel)'), the script of L ints xs at the cell b, what the Statement gives of the start (any of its parts by flat_of_before) -/
def lw_At (p : Program) (s : State) (m : MethodId) (meth : Method) (c : Code) (b L : Nat) (xs : Nat → Int32) : Prop :=
  p.tables.exec = Jvm.exec ∧ c.code = code ∧ meth.sig.returnType = ret ∧ c.maxLocals = 4 ∧ s.vm.findClass R_law = some m.cls ∧ (∀ w ∈ lw_tbl, w.before #[Value.ref b] s = true) ∧ va_X b L xs s s.heap ∧ b < s.heap.size ∧ meth.locks = false ∧ (Jvm.Cond.and given_1 narrow_1).before #[Value.ref b] s = true
def s_PURE (Rel : Sg → Sg → Prop) : Prop := Rel s_C0 s_M0 ∧ s_pure_feed Rel ∧ s_pure_end Rel ∧ s_pure_text Rel ∧ s_pure_fault Rel ∧ s_pure_rule Rel ∧ s_pure_reading Rel ∧ s_pure_row Rel ∧ s_pure_item Rel ∧ s_pure_result Rel ∧ s_pure_rank Rel ∧ s_pure_shown Rel ∧ s_pure_middle Rel ∧ s_pure_far Rel ∧ s_pure_fars Rel ∧ s_pure_above Rel ∧ s_pure_most Rel ∧ s_pure_add Rel ∧ s_pure_miss Rel ∧ s_pure_set Rel ∧ s_pure_lose Rel ∧ s_pure_drop Rel ∧ s_pure_width Rel ∧ s_pure_need Rel ∧ s_pure_part Rel ∧ s_pure_choose Rel ∧ s_pure_form Rel ∧ s_pure_drift Rel ∧ s_pure_keep Rel ∧ s_pure_back Rel ∧ s_pure_sheet Rel ∧ s_pure_lay Rel ∧ s_pure_read Rel ∧ s_pure_torn Rel ∧ s_pure_count Rel
section
variable {p : Program} {l : Launch} {e : Env} {s : State} {m : MethodId} {below : List Frame} {meth : Method} {c : Code} {G : va_G} {cy : Nat → ClassId} {sa : Nat × Nat} {b L aC aM : Nat} {xs : Nat → Int32} {Rel : Sg → Sg → Prop}
set_option maxRecDepth 100000 in
set_option maxHeartbeats 8000000 in
theorem law_loop (hpu : s_PURE Rel) (hL : L ≤ 2560) (hx : p.tables.exec = Jvm.exec) (hb : c.code = code) (hr : meth.sig.returnType = ret) (hlocks : meth.locks = false) (hml : c.maxLocals = 4) (hown : s.vm.findClass RL = some m.cls) (hts : ∀ w ∈ kwL, w.before #[Value.ref b] s = true) (hK : va_K G vwCl (s_ty cy) s) (hE : s_E sa (fun q : Nat => s.heap.size ≤ q) s s.heap) (hX : va_X b L xs s s.heap) (hbl : b < s.heap.size) : ∀ (n i : Nat) (x3 : Int32), L + 6 ≤ i + n → i ≤ L + 5 → x3 = nI i → ∀ (H : Heap) (locs : List Loc) (ls : Array Slot), s_LS Rel G cy (fun q : Nat => s.heap.size ≤ q) H aC aM → va_S (fun q : Nat => s.heap.size ≤ q) s.heap H locs → lv_has ls 4 [(0, .ref b), (1, .ref aC), (2, .ref aM), (3, .int x3)] → W p l e room_1 s m #[Value.ref b] below meth c H locs 39 2150 (lw_Z below #[Value.ref b] s) (F0 m 18 ls []) := by
  have hbA : ¬ (fun q : Nat => s.heap.size ≤ q) b := Nat.not_le.mpr hbl
  intro n
  induction n with
  | zero => intro i x3 h2 h3; omega
  | succ n ih =>
    intro i x3 hin hiL ex3 H locs ls hLS hS hl
    refine lv_iload_n hx hb dL_law_18 rfl (lv_at hl 3 rfl) ?_
    refine lv_aload_n hx hb dL_law_19 rfl (lv_at hl 0 rfl) ?_
    refine va_slen hx hb hX hbl hbA hS dL_law_20 ?_
    refine lv_iconst (v := 5) hx hb dL_law_21 (by decide) ?_
    refine lv_isub hx hb dL_law_22 ?_
    refine lv_icmp_gt (tgt := 1122) hx hb dL_law_23 (by decide) (fun c1 => ?_) (fun c1 => ?_)
    · refine lv_iconst (v := 1) hx hb dL_law_1122 (by decide) ?_
      refine va_forget (fun q hq => hS.2.2 q hq) ?_
      exact lw_ret hx hb hr hlocks dL_law_1123
    · have hlt : i + 5 ≤ L := by
        rcases Nat.lt_or_ge L (i + 5) with z | z
        · refine absurd ?_ c1
          rw [ex3]
          show nI L - 5 < nI i
          rw [Int32.lt_iff_toInt_lt, nI_toInt (by omega)]
          have e5 : (5 : Int32) = nI 5 := rfl
          rw [e5, pk_sub_toInt (by omega) (by omega)]
          omega
        · exact z
      have hi0 : vp_in x3 L := by rw [ex3]; exact vp_in_nI (by omega) (by omega)
      have hi : ∀ k : Int32, k = 1 ∨ k = 2 ∨ k = 3 ∨ k = 4 → vp_in (x3 + k) L := by
        intro k hk
        rcases hk with rfl | rfl | rfl | rfl
        · rw [ex3, show (1 : Int32) = nI 1 from rfl, nI_add]; exact vp_in_nI (by omega) (by omega)
        · rw [ex3, show (2 : Int32) = nI 2 from rfl, nI_add]; exact vp_in_nI (by omega) (by omega)
        · rw [ex3, show (3 : Int32) = nI 3 from rfl, nI_add]; exact vp_in_nI (by omega) (by omega)
        · rw [ex3, show (4 : Int32) = nI 4 from rfl, nI_add]; exact vp_in_nI (by omega) (by omega)
      have hnext : ∀ (H : Heap) (locs : List Loc), s_LS Rel G cy (fun q : Nat => s.heap.size ≤ q) H aC aM → va_S (fun q : Nat => s.heap.size ≤ q) s.heap H locs → W p l e room_1 s m #[Value.ref b] below meth c H locs 39 2150 (lw_Z below #[Value.ref b] s) (F0 m 1116 ls []) := by
        intro H locs hLS hS
        obtain ⟨y3, ey3⟩ : ∃ z : Int32, z = x3 + 5 := ⟨_, rfl⟩
        refine lv_iinc (v := y3) (lv' := [(3, .int y3), (0, .ref b), (1, .ref aC), (2, .ref aM)]) hx hb dL_law_1116 hl (k := 3) rfl (by rw [ey3]; rfl) (by decide) rfl (fun ls hl => ?_)
        refine lv_goto (tgt := 18) hx hb dL_law_1119 (by decide) ?_
        exact ih (i + 5) y3 (by omega) (by omega) (by rw [ey3, ex3, show (5 : Int32) = nI 5 from rfl, nI_add]) H locs ls hLS hS (lv_sub hl [1, 2, 3, 0] rfl)
      have hcs : 39 ≤ room_1.cells ∧ 2150 ≤ room_1.slots := ⟨Nat.le_of_ble_eq_true rfl, Nat.le_of_ble_eq_true rfl⟩
      refine lv_aload_n hx hb dL_law_26 rfl (lv_at hl 0 rfl) ?_
      refine lv_iload_n hx hb dL_law_27 rfl (lv_at hl 3 rfl) ?_
      refine va_sld hx hb hX hbl hbA hS hi0 dL_law_28 ?_
      refine lv_bipush (v := 63) hx hb dL_law_29 (by decide) ?_
      refine lv_iand hx hb dL_law_31 ?_
      refine lv_topi (fun xo exo => ?_)
      by_cases c_0 : xo = 0
      · refine lv_tableIn (off := 152) (tgt := 184) hx hb dL_law_32 (by rw [c_0]; decide) (by rw [c_0]; decide) (by rw [c_0]; rfl) (by decide) ?_
        exact lw_op_feed hx hb hml hown hts hK hE hX hbl hcs hi hpu.2.1 hLS hS hl hnext
      by_cases c_1 : xo = 1
      · refine lv_tableIn (off := 175) (tgt := 207) hx hb dL_law_32 (by rw [c_1]; decide) (by rw [c_1]; decide) (by rw [c_1]; rfl) (by decide) ?_
        exact lw_op_end hx hb hml hown hts hK hE hX hbl hcs hi hpu.2.2.1 hLS hS hl hnext
      by_cases c_2 : xo = 2
      · refine lv_tableIn (off := 198) (tgt := 230) hx hb dL_law_32 (by rw [c_2]; decide) (by rw [c_2]; decide) (by rw [c_2]; rfl) (by decide) ?_
        exact lw_op_text hx hb hml hown hts hK hE hX hbl hcs hi hpu.2.2.2.1 hLS hS hl hnext
      by_cases c_3 : xo = 3
      · refine lv_tableIn (off := 211) (tgt := 243) hx hb dL_law_32 (by rw [c_3]; decide) (by rw [c_3]; decide) (by rw [c_3]; rfl) (by decide) ?_
        exact lw_op_fault hx hb hml hown hts hK hE hX hbl hcs hi hpu.2.2.2.2.1 hLS hS hl hnext
      by_cases c_4 : xo = 4
      · refine lv_tableIn (off := 224) (tgt := 256) hx hb dL_law_32 (by rw [c_4]; decide) (by rw [c_4]; decide) (by rw [c_4]; rfl) (by decide) ?_
        exact lw_op_rule hx hb hml hown hts hK hE hX hbl hcs hi hpu.2.2.2.2.2.1 hLS hS hl hnext
      by_cases c_5 : xo = 5
      · refine lv_tableIn (off := 247) (tgt := 279) hx hb dL_law_32 (by rw [c_5]; decide) (by rw [c_5]; decide) (by rw [c_5]; rfl) (by decide) ?_
        exact lw_op_reading hx hb hml hown hts hK hE hX hbl hcs hi hpu.2.2.2.2.2.2.1 hLS hS hl hnext
      by_cases c_6 : xo = 6
      · refine lv_tableIn (off := 270) (tgt := 302) hx hb dL_law_32 (by rw [c_6]; decide) (by rw [c_6]; decide) (by rw [c_6]; rfl) (by decide) ?_
        exact lw_op_row hx hb hml hown hts hK hE hX hbl hcs hi hpu.2.2.2.2.2.2.2.1 hLS hS hl hnext
      by_cases c_7 : xo = 7
      · refine lv_tableIn (off := 303) (tgt := 335) hx hb dL_law_32 (by rw [c_7]; decide) (by rw [c_7]; decide) (by rw [c_7]; rfl) (by decide) ?_
        exact lw_op_item hx hb hml hown hts hK hE hX hbl hcs hi hpu.2.2.2.2.2.2.2.2.1 hLS hS hl hnext
      by_cases c_8 : xo = 8
      · refine lv_tableIn (off := 336) (tgt := 368) hx hb dL_law_32 (by rw [c_8]; decide) (by rw [c_8]; decide) (by rw [c_8]; rfl) (by decide) ?_
        exact lw_op_result hx hb hml hown hts hK hE hX hbl hcs hi hpu.2.2.2.2.2.2.2.2.2.1 hLS hS hl hnext
      by_cases c_9 : xo = 9
      · refine lv_tableIn (off := 369) (tgt := 401) hx hb dL_law_32 (by rw [c_9]; decide) (by rw [c_9]; decide) (by rw [c_9]; rfl) (by decide) ?_
        exact lw_op_rank hx hb hml hown hts hK hE hX hbl hcs hi hpu.2.2.2.2.2.2.2.2.2.2.1 hLS hS hl hnext
      by_cases c_10 : xo = 10
      · refine lv_tableIn (off := 412) (tgt := 444) hx hb dL_law_32 (by rw [c_10]; decide) (by rw [c_10]; decide) (by rw [c_10]; rfl) (by decide) ?_
        exact lw_op_shown hx hb hml hown hts hK hE hX hbl hcs hi hpu.2.2.2.2.2.2.2.2.2.2.2.1 hLS hS hl hnext
      by_cases c_11 : xo = 11
      · refine lv_tableIn (off := 445) (tgt := 477) hx hb dL_law_32 (by rw [c_11]; decide) (by rw [c_11]; decide) (by rw [c_11]; rfl) (by decide) ?_
        exact lw_op_middle hx hb hml hown hts hK hE hX hbl hcs hi hpu.2.2.2.2.2.2.2.2.2.2.2.2.1 hLS hS hl hnext
      by_cases c_12 : xo = 12
      · refine lv_tableIn (off := 478) (tgt := 510) hx hb dL_law_32 (by rw [c_12]; decide) (by rw [c_12]; decide) (by rw [c_12]; rfl) (by decide) ?_
        exact lw_op_far hx hb hml hown hts hK hE hX hbl hcs hi hpu.2.2.2.2.2.2.2.2.2.2.2.2.2.1 hLS hS hl hnext
      by_cases c_13 : xo = 13
      · refine lv_tableIn (off := 511) (tgt := 543) hx hb dL_law_32 (by rw [c_13]; decide) (by rw [c_13]; decide) (by rw [c_13]; rfl) (by decide) ?_
        exact lw_op_fars hx hb hml hown hts hK hE hX hbl hcs hi hpu.2.2.2.2.2.2.2.2.2.2.2.2.2.2.1 hLS hS hl hnext
      by_cases c_14 : xo = 14
      · refine lv_tableIn (off := 534) (tgt := 566) hx hb dL_law_32 (by rw [c_14]; decide) (by rw [c_14]; decide) (by rw [c_14]; rfl) (by decide) ?_
        exact lw_op_above hx hb hml hown hts hK hE hX hbl hcs hi hpu.2.2.2.2.2.2.2.2.2.2.2.2.2.2.2.1 hLS hS hl hnext
      by_cases c_15 : xo = 15
      · refine lv_tableIn (off := 567) (tgt := 599) hx hb dL_law_32 (by rw [c_15]; decide) (by rw [c_15]; decide) (by rw [c_15]; rfl) (by decide) ?_
        exact lw_op_most hx hb hml hown hts hK hE hX hbl hcs hi hpu.2.2.2.2.2.2.2.2.2.2.2.2.2.2.2.2.1 hLS hS hl hnext
      by_cases c_16 : xo = 16
      · refine lv_tableIn (off := 590) (tgt := 622) hx hb dL_law_32 (by rw [c_16]; decide) (by rw [c_16]; decide) (by rw [c_16]; rfl) (by decide) ?_
        exact lw_op_add hx hb hml hown hts hK hE hX hbl hcs hi hpu.2.2.2.2.2.2.2.2.2.2.2.2.2.2.2.2.2.1 hLS hS hl hnext
      by_cases c_17 : xo = 17
      · refine lv_tableIn (off := 613) (tgt := 645) hx hb dL_law_32 (by rw [c_17]; decide) (by rw [c_17]; decide) (by rw [c_17]; rfl) (by decide) ?_
        exact lw_op_miss hx hb hml hown hts hK hE hX hbl hcs hi hpu.2.2.2.2.2.2.2.2.2.2.2.2.2.2.2.2.2.2.1 hLS hS hl hnext
      by_cases c_18 : xo = 18
      · refine lv_tableIn (off := 626) (tgt := 658) hx hb dL_law_32 (by rw [c_18]; decide) (by rw [c_18]; decide) (by rw [c_18]; rfl) (by decide) ?_
        exact lw_op_set hx hb hml hown hts hK hE hX hbl hcs hi hpu.2.2.2.2.2.2.2.2.2.2.2.2.2.2.2.2.2.2.2.1 hLS hS hl hnext
      by_cases c_19 : xo = 19
      · refine lv_tableIn (off := 659) (tgt := 691) hx hb dL_law_32 (by rw [c_19]; decide) (by rw [c_19]; decide) (by rw [c_19]; rfl) (by decide) ?_
        exact lw_op_lose hx hb hml hown hts hK hE hX hbl hcs hi hpu.2.2.2.2.2.2.2.2.2.2.2.2.2.2.2.2.2.2.2.2.1 hLS hS hl hnext
      by_cases c_20 : xo = 20
      · refine lv_tableIn (off := 682) (tgt := 714) hx hb dL_law_32 (by rw [c_20]; decide) (by rw [c_20]; decide) (by rw [c_20]; rfl) (by decide) ?_
        exact lw_op_drop hx hb hml hown hts hK hE hX hbl hcs hi hpu.2.2.2.2.2.2.2.2.2.2.2.2.2.2.2.2.2.2.2.2.2.1 hLS hS hl hnext
      by_cases c_21 : xo = 21
      · refine lv_tableIn (off := 705) (tgt := 737) hx hb dL_law_32 (by rw [c_21]; decide) (by rw [c_21]; decide) (by rw [c_21]; rfl) (by decide) ?_
        exact lw_op_width hx hb hml hown hts hK hE hX hbl hcs hi hpu.2.2.2.2.2.2.2.2.2.2.2.2.2.2.2.2.2.2.2.2.2.2.1 hLS hS hl hnext
      by_cases c_22 : xo = 22
      · refine lv_tableIn (off := 728) (tgt := 760) hx hb dL_law_32 (by rw [c_22]; decide) (by rw [c_22]; decide) (by rw [c_22]; rfl) (by decide) ?_
        exact lw_op_need hx hb hml hown hts hK hE hX hbl hcs hi hpu.2.2.2.2.2.2.2.2.2.2.2.2.2.2.2.2.2.2.2.2.2.2.2.1 hLS hS hl hnext
      by_cases c_23 : xo = 23
      · refine lv_tableIn (off := 751) (tgt := 783) hx hb dL_law_32 (by rw [c_23]; decide) (by rw [c_23]; decide) (by rw [c_23]; rfl) (by decide) ?_
        exact lw_op_part hx hb hml hown hts hK hE hX hbl hcs hi hpu.2.2.2.2.2.2.2.2.2.2.2.2.2.2.2.2.2.2.2.2.2.2.2.2.1 hLS hS hl hnext
      by_cases c_24 : xo = 24
      · refine lv_tableIn (off := 784) (tgt := 816) hx hb dL_law_32 (by rw [c_24]; decide) (by rw [c_24]; decide) (by rw [c_24]; rfl) (by decide) ?_
        exact lw_op_choose hx hb hml hown hts hK hE hX hbl hcs hi hpu.2.2.2.2.2.2.2.2.2.2.2.2.2.2.2.2.2.2.2.2.2.2.2.2.2.1 hLS hS hl hnext
      by_cases c_25 : xo = 25
      · refine lv_tableIn (off := 807) (tgt := 839) hx hb dL_law_32 (by rw [c_25]; decide) (by rw [c_25]; decide) (by rw [c_25]; rfl) (by decide) ?_
        exact lw_op_form hx hb hml hown hts hK hE hX hbl hcs hi hpu.2.2.2.2.2.2.2.2.2.2.2.2.2.2.2.2.2.2.2.2.2.2.2.2.2.2.1 hLS hS hl hnext
      by_cases c_26 : xo = 26
      · refine lv_tableIn (off := 830) (tgt := 862) hx hb dL_law_32 (by rw [c_26]; decide) (by rw [c_26]; decide) (by rw [c_26]; rfl) (by decide) ?_
        exact lw_op_drift hx hb hml hown hts hK hE hX hbl hcs hi hpu.2.2.2.2.2.2.2.2.2.2.2.2.2.2.2.2.2.2.2.2.2.2.2.2.2.2.2.1 hLS hS hl hnext
      by_cases c_27 : xo = 27
      · refine lv_tableIn (off := 863) (tgt := 895) hx hb dL_law_32 (by rw [c_27]; decide) (by rw [c_27]; decide) (by rw [c_27]; rfl) (by decide) ?_
        exact lw_op_keep hx hb hml hown hts hK hE hX hbl hcs hi hpu.2.2.2.2.2.2.2.2.2.2.2.2.2.2.2.2.2.2.2.2.2.2.2.2.2.2.2.2.1 hLS hS hl hnext
      by_cases c_28 : xo = 28
      · refine lv_tableIn (off := 886) (tgt := 918) hx hb dL_law_32 (by rw [c_28]; decide) (by rw [c_28]; decide) (by rw [c_28]; rfl) (by decide) ?_
        exact lw_op_back hx hb hml hown hts hK hE hX hbl hcs hi hpu.2.2.2.2.2.2.2.2.2.2.2.2.2.2.2.2.2.2.2.2.2.2.2.2.2.2.2.2.2.1 hLS hS hl hnext
      by_cases c_29 : xo = 29
      · refine lv_tableIn (off := 909) (tgt := 941) hx hb dL_law_32 (by rw [c_29]; decide) (by rw [c_29]; decide) (by rw [c_29]; rfl) (by decide) ?_
        exact lw_op_sheet hx hb hml hown hts hK hE hX hbl hcs hi hpu.2.2.2.2.2.2.2.2.2.2.2.2.2.2.2.2.2.2.2.2.2.2.2.2.2.2.2.2.2.2.1 hLS hS hl hnext
      by_cases c_30 : xo = 30
      · refine lv_tableIn (off := 952) (tgt := 984) hx hb dL_law_32 (by rw [c_30]; decide) (by rw [c_30]; decide) (by rw [c_30]; rfl) (by decide) ?_
        exact lw_op_lay hx hb hml hown hts hK hE hX hbl hcs hi hpu.2.2.2.2.2.2.2.2.2.2.2.2.2.2.2.2.2.2.2.2.2.2.2.2.2.2.2.2.2.2.2.1 hLS hS hl hnext
      by_cases c_31 : xo = 31
      · refine lv_tableIn (off := 995) (tgt := 1027) hx hb dL_law_32 (by rw [c_31]; decide) (by rw [c_31]; decide) (by rw [c_31]; rfl) (by decide) ?_
        exact lw_op_read hx hb hml hown hts hK hE hX hbl hcs hi hpu.2.2.2.2.2.2.2.2.2.2.2.2.2.2.2.2.2.2.2.2.2.2.2.2.2.2.2.2.2.2.2.2.1 hLS hS hl hnext
      by_cases c_32 : xo = 32
      · refine lv_tableIn (off := 1048) (tgt := 1080) hx hb dL_law_32 (by rw [c_32]; decide) (by rw [c_32]; decide) (by rw [c_32]; rfl) (by decide) ?_
        exact lw_op_torn hx hb hml hown hts hK hE hX hbl hcs hi hpu.2.2.2.2.2.2.2.2.2.2.2.2.2.2.2.2.2.2.2.2.2.2.2.2.2.2.2.2.2.2.2.2.2.1 hLS hS hl hnext
      by_cases c_33 : xo = 33
      · refine lv_tableIn (off := 1061) (tgt := 1093) hx hb dL_law_32 (by rw [c_33]; decide) (by rw [c_33]; decide) (by rw [c_33]; rfl) (by decide) ?_
        exact lw_op_count hx hb hml hown hts hK hE hX hbl hcs hi hpu.2.2.2.2.2.2.2.2.2.2.2.2.2.2.2.2.2.2.2.2.2.2.2.2.2.2.2.2.2.2.2.2.2.2 hLS hS hl hnext
      have q_0 := lv_neT c_0 (a := 0) (by decide)
      have q_1 := lv_neT c_1 (a := 1) (by decide)
      have q_2 := lv_neT c_2 (a := 2) (by decide)
      have q_3 := lv_neT c_3 (a := 3) (by decide)
      have q_4 := lv_neT c_4 (a := 4) (by decide)
      have q_5 := lv_neT c_5 (a := 5) (by decide)
      have q_6 := lv_neT c_6 (a := 6) (by decide)
      have q_7 := lv_neT c_7 (a := 7) (by decide)
      have q_8 := lv_neT c_8 (a := 8) (by decide)
      have q_9 := lv_neT c_9 (a := 9) (by decide)
      have q_10 := lv_neT c_10 (a := 10) (by decide)
      have q_11 := lv_neT c_11 (a := 11) (by decide)
      have q_12 := lv_neT c_12 (a := 12) (by decide)
      have q_13 := lv_neT c_13 (a := 13) (by decide)
      have q_14 := lv_neT c_14 (a := 14) (by decide)
      have q_15 := lv_neT c_15 (a := 15) (by decide)
      have q_16 := lv_neT c_16 (a := 16) (by decide)
      have q_17 := lv_neT c_17 (a := 17) (by decide)
      have q_18 := lv_neT c_18 (a := 18) (by decide)
      have q_19 := lv_neT c_19 (a := 19) (by decide)
      have q_20 := lv_neT c_20 (a := 20) (by decide)
      have q_21 := lv_neT c_21 (a := 21) (by decide)
      have q_22 := lv_neT c_22 (a := 22) (by decide)
      have q_23 := lv_neT c_23 (a := 23) (by decide)
      have q_24 := lv_neT c_24 (a := 24) (by decide)
      have q_25 := lv_neT c_25 (a := 25) (by decide)
      have q_26 := lv_neT c_26 (a := 26) (by decide)
      have q_27 := lv_neT c_27 (a := 27) (by decide)
      have q_28 := lv_neT c_28 (a := 28) (by decide)
      have q_29 := lv_neT c_29 (a := 29) (by decide)
      have q_30 := lv_neT c_30 (a := 30) (by decide)
      have q_31 := lv_neT c_31 (a := 31) (by decide)
      have q_32 := lv_neT c_32 (a := 32) (by decide)
      have q_33 := lv_neT c_33 (a := 33) (by decide)
      refine lv_tableOut (tgt := 1116) hx hb dL_law_32 (by omega) (by decide) ?_
      exact hnext H locs hLS hS
end
