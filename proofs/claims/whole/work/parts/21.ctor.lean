/-! constructors: explicit cells, laid by ctor.py -/
def s_Pk (G : va_G) (cy : Nat → ClassId) (ex : State → Prop) (av : List Value) (sz : Nat) (w : va_W) : Array Value → State → Prop :=
  va_Pc av (fun U => U.heap.size = sz ∧ va_P G vwCl w U.heap ∧ va_K G vwCl (s_ty cy) U ∧ va_D (fun _ => True) w ∧ ex U)
theorem s_Pk_blind {G : va_G} {cy : Nat → ClassId} {av : List Value} {sz : Nat} {w : va_W} : FrameBlind (s_Pk G cy (fun _ => True) av sz w) := by
  intro a U g mk q
  obtain ⟨q0, q1, qP, qK, qD, -⟩ := q
  exact ⟨q0, q1, qP, va_K.moved (u := U) (U := U.calling g mk a) (Vm.Alike.refl U.vm) qK, qD, trivial⟩
def s_N6 (U : State) : Prop := va_Nw (.methodLinkNest "SlidingRanks" 9 ({ cls := "SlidingRanks$Tape", name := "<init>", desc := "()V" } : Jvm.MethodName) "SlidingRanks") U ∧ va_Nw (.methodLinkNest "SlidingRanks" 18 ({ cls := "SlidingRanks$Teller", name := "<init>", desc := "()V" } : Jvm.MethodName) "SlidingRanks") U ∧ va_Nw (.methodLinkNest "SlidingRanks" 41 ({ cls := "SlidingRanks$Words", name := "<init>", desc := "()V" } : Jvm.MethodName) "SlidingRanks") U ∧ va_AO "SlidingRanks$Series" U ∧ va_AO "SlidingRanks$Sheet" U
def s_ser0 : Nat → Int32 := fun i => match i with
  | 2 => 5
  | 3 => 1
  | 4 => 1
  | 5 => 2
  | _ => 0
def s_tel0 : Nat → Int32 := fun i => match i with
  | 1 => 12
  | 8 => -4
  | _ => 0
def s_C0 : Sg := fun p => match p with
  | 3 => s_tel0
  | 4 => s_ser0
  | 6 => s_ser0
  | 13 => s_ser0
  | 15 => s_ser0
  | _ => fun _ => 0
def s_M0 : Sg := fun p => match p with
  | 3 => (upd (upd (upd (upd (upd (upd (upd (upd (upd (upd (upd (upd (upd (upd (upd (upd (fun _ => 0) 0 0) 1 5) 2 9) 3 13) 4 17) 5 21) 6 24) 7 27) 8 31) 9 35) 10 39) 11 43) 12 48) 13 53) 14 57) 15 61)
  | 4 => (upd (upd (upd (upd (upd (upd (upd (upd (upd (upd (upd (upd (upd (upd (upd (upd (upd (upd (upd (upd (upd (upd (upd (upd (upd (upd (upd (upd (upd (upd (upd (upd (upd (upd (upd (upd (upd (upd (upd (upd (upd (upd (upd (upd (upd (upd (upd (upd (upd (upd (upd (upd (upd (upd (upd (upd (upd (upd (upd (upd (upd (fun _ => 0) 0 119) 1 105) 2 100) 3 116) 4 104) 5 110) 6 101) 7 101) 8 100) 9 112) 10 97) 11 114) 12 116) 13 114) 14 117) 15 108) 16 101) 17 102) 18 111) 19 114) 20 109) 21 112) 22 117) 23 116) 24 108) 25 111) 26 119) 27 104) 28 105) 29 103) 30 104) 31 110) 32 101) 33 97) 34 114) 35 109) 36 101) 37 97) 38 110) 39 108) 40 105) 41 110) 42 101) 43 112) 44 108) 45 97) 46 105) 47 110) 48 99) 49 101) 50 110) 51 116) 52 115) 53 115) 54 105) 55 103) 56 110) 57 109) 58 105) 59 115) 60 115)
  | 8 => (upd (upd (fun _ => 0) 0 (vp_nar .boolean 0)) 1 (vp_nar .boolean 0))
  | 9 => (upd (upd (upd (upd (fun _ => 0) 0 (-4)) 1 (-4)) 2 (-4)) 3 (-4))
  | 10 => (upd (upd (upd (upd (fun _ => 0) 0 0) 1 0) 2 0) 3 0)
  | _ => fun _ => 0
section SNEW
variable {p : Program} {l : Launch} {e : Env} {R : Room} {s : State} {m : MethodId} {args : Array Value} {below : List Frame} {meth : Method} {c : Code} {H : Heap} {locs : List Loc} {cells slots : Nat} {Q : State → Prop}
variable {cc : ByteArray} {pc : Nat} {ls : Array Slot} {rest : List Value} {G : va_G} {A : Nat → Prop} {cy : Nat → ClassId} {ws : va_W} {H0 : Heap}
theorem s_newa {atype : ArrayType} {ty : FieldType} (hty : newarray.typeOf atype = ty) (hx : p.tables.exec = Jvm.exec) (hb : c.code = cc) (harr : (Cond.arrayClass (newarray.typeOf atype)).before args s = true) (hK : va_K G vwCl (s_ty cy) s) (t0 : Nat) {cA0 : ClassId} (ht0 : (s_ty cy)[t0]? = some (cA0, ty)) (hra : ∀ z : ClassId, va_RA s z ty → s.vm.findClass ("[" ++ ty.toString) = some z) (hP : va_P G vwCl ws H) (hD : va_D A ws) (hS : va_S A H0 H locs) (hA : ∀ q, H0.size ≤ q → A q)
    {n : Int32} {N' : Nat} (ha : ∀ cA : ClassId, vp_cell cA (N', .inl (fun _ => 0)) = arrV cA N' (fun _ => defaultValue ty)) (hn : ¬ n < 0) (hN : n.toNatClampNeg = N') (hbytes : N' * componentBytes ty ≤ 536870912) (hcells : cells + 1 ≤ R.cells) (hslots : slots + N' ≤ R.slots) (hdg : decode cc pc = .ok (.newarray atype, 2))
    (kk : ∀ (q : Nat) (H1 : Heap), va_P G vwCl (ws ++ [(q, .inl (cA0, N', .inl (fun _ => 0)))]) H1 → va_D A (ws ++ [(q, .inl (cA0, N', .inl (fun _ => 0)))]) → va_S A H0 H1 locs → W p l e R s m args below meth c H1 locs (cells + 1) (slots + N') Q (F0 m (pc + 2) ls (.ref q :: rest))) : W p l e R s m args below meth c H locs cells slots Q (F0 m pc ls (.int n :: rest)) := by
  refine va_newa hx hb harr hty hK hP hD hS hA ha hn hN hbytes hcells hslots hdg (fun q cA H1 hK1 hP hD hS => ?_)
  have e : cA = cA0 := by
    have h1 := hra _ (hK1.2 5 (cA, ty) rfl).2
    have h2 := hra _ (hK.2 t0 _ ht0).2
    exact Option.some.inj (h1.symm.trans h2)
  subst e
  exact kk q H1 hP hD hS
theorem s_newq {own C : String} {index : Nat} (hx : p.tables.exec = Jvm.exec) (hb : c.code = cc) (hown : s.vm.findClass own = some m.cls) (hclink : (Cond.classLink own index C).before args s = true) (hover : va_AO C s) (hK : va_K G vwCl (s_ty cy) s) (t0 : Nat) {cA0 : ClassId} (ht0 : (s_ty cy)[t0]? = some (cA0, .object C)) (hP : va_P G vwCl ws H) (hD : va_D A ws) (hS : va_S A H0 H locs) (hA : ∀ q, H0.size ≤ q → A q)
    {n : Int32} {N' : Nat} (hn : ¬ n < 0) (hN : n.toNatClampNeg = N') (hbytes : N' * 4 ≤ 536870912) (hcells : cells + 1 ≤ R.cells) (hslots : slots + N' ≤ R.slots) (hdg : decode cc pc = .ok (.anewarray index, 3))
    (kk : ∀ (q : Nat) (H1 : Heap), va_P G vwCl (ws ++ [(q, .inl (cA0, N', .inr (.inr (.inr (.inr (fun _ => none))))))]) H1 → va_D A (ws ++ [(q, .inl (cA0, N', .inr (.inr (.inr (.inr (fun _ => none))))))]) → va_S A H0 H1 locs → W p l e R s m args below meth c H1 locs (cells + 1) (slots + N') Q (F0 m (pc + 3) ls (.ref q :: rest))) : W p l e R s m args below meth c H locs cells slots Q (F0 m pc ls (.int n :: rest)) := by
  refine va_newq hx hb hown hclink hover hK hP hD hS hA hn hN hbytes hcells hslots hdg (fun q cA H1 hK1 hP hD hS => ?_)
  have e : cA = cA0 := by
    obtain ⟨_, _, _, _, _, h1⟩ := (hK1.2 5 (cA, .object C) rfl).2
    obtain ⟨_, _, _, _, _, h2⟩ := (hK.2 t0 _ ht0).2
    exact Option.some.inj (h1.symm.trans h2)
  subst e
  exact kk q H1 hP hD hS
end SNEW
set_option maxRecDepth 100000 in
set_option maxHeartbeats 8000000 in
theorem kcK_reset {l : Launch} {G : va_G} {cy : Nat → ClassId} (sz : Nat) (h0 h1 : Nat) (v1 v2 v3 v4 v5 v6 v7 : Int32) : Met l yX1_reset (kW yX1_reset cX1_reset 1 none) ({ frames := 0, cells := 0, slots := 0, locals := 0 } : Room) (s_Pk G cy (fun _ => True) [.ref h0] sz [(h0, .inr (1, [.ref h1, .int v1, .int v2, .int v3, .int v4, .int v5, .int v6, .int v7]))]) (va_Qv (fun (_ : Unit) => True) (fun u t => va_P G vwCl [(h0, .inr (1, [.ref h1, .int 0, .int 5, .int 1, .int 1, .int 2, .int 0, .int 0]))] t.heap ∧ va_D (va_A [(h0, .inr (1, [.ref h1, .int v1, .int v2, .int v3, .int v4, .int v5, .int v6, .int v7]))] sz) [(h0, .inr (1, [.ref h1, .int 0, .int 5, .int 1, .int 1, .int 2, .int 0, .int 0]))]) (va_A [(h0, .inr (1, [.ref h1, .int v1, .int v2, .int v3, .int v4, .int v5, .int v6, .int v7]))] sz)) 0 0 (va_A [(h0, .inr (1, [.ref h1, .int v1, .int v2, .int v3, .int v4, .int v5, .int v6, .int v7]))] sz) := by
  refine Met.ofW (cc := cX1_reset) (maxL := 1) (ret := none) (by decide) rfl ?_
  intro p e s m args below meth c s₁ B hml hv
  obtain ⟨rfl, hsz, hP, hK, hD0, -⟩ := hv
  have hx := B.exec
  have hb := B.bytes
  have hr := B.returns
  have hts0 := atoms_spec (ws := kW yX1_reset cX1_reset 1 none) B.pre
  have hts : ∀ w ∈ kwL, w.before [.ref h0].toArray s = true := fun w h => hts0 w (List.mem_cons_of_mem _ h)
  have hown : s.vm.findClass RX1 = some m.cls := findClass_of_methodNamed B.named
  have hlk := B.notSynchronized
  have hin : meth.name = "reset" := (name_of_methodNamed B.named B.method).1
  subst hsz
  have hD := hD0.self (sz := s.heap.size)
  generalize hAe : va_A [(h0, .inr (1, [.ref h1, .int v1, .int v2, .int v3, .int v4, .int v5, .int v6, .int v7]))] s.heap.size = A at hD ⊢
  have hA : ∀ q : Nat, s.heap.size ≤ q → A q := fun q h => by rw [← hAe]; exact Or.inr h
  have hS : va_S A s.heap s.heap [] := va_S.rf
  replace hP : va_P G vwCl [(h0, .inr (1, [.ref h1, .int v1, .int v2, .int v3, .int v4, .int v5, .int v6, .int v7]))] s.heap := hP
  have hl := lv_entry ([.ref h0]) (n := 1) (Nat.le_of_ble_eq_true rfl)
  rw [lg_entry_eq]
  generalize (lg_sl ([.ref h0]) ++ List.replicate (1 - (lg_sl ([.ref h0])).length) Slot.unset).toArray = ls at hl ⊢
  replace hl : lv_has ls 1 [(0, .ref h0)] := hl
  have hSt := hS
  refine lv_aload_n hx hb dX1_reset_0 rfl (lv_at hl 0 rfl) ?_
  refine lv_iconst (v := 0) hx hb dX1_reset_1 (by decide) ?_
  refine va_put (D := G) (ci := 1) (v := .int 0) (ty := .int) (C := RX1) (T := TX1) (N := 8) hx hb hts inkX1 tyX1 tyX1_ok nmX1 hown hK hP hD hS 0 rfl rfl 1 (by decide) (hts _ kw_110) (fun _ h9 => h9) rfl (by decide +kernel) rfl rfl (Nat.le_of_ble_eq_true rfl) dX1_reset_2 (fun H locs hP hD hS => ?_)
  replace hP : va_P G vwCl [(h0, .inr (1, [.ref h1, .int 0, .int v2, .int v3, .int v4, .int v5, .int v6, .int v7]))] H := hP
  replace hD : va_D A [(h0, .inr (1, [.ref h1, .int 0, .int v2, .int v3, .int v4, .int v5, .int v6, .int v7]))] := hD
  refine lv_aload_n hx hb dX1_reset_5 rfl (lv_at hl 0 rfl) ?_
  refine lv_iconst (v := 5) hx hb dX1_reset_6 (by decide) ?_
  refine va_put (D := G) (ci := 1) (v := .int 5) (ty := .int) (C := RX1) (T := TX1) (N := 8) hx hb hts inkX1 tyX1 tyX1_ok nmX1 hown hK hP hD hS 0 rfl rfl 2 (by decide) (hts _ kw_113) (fun _ h9 => h9) rfl (by decide +kernel) rfl rfl (Nat.le_of_ble_eq_true rfl) dX1_reset_7 (fun H locs hP hD hS => ?_)
  replace hP : va_P G vwCl [(h0, .inr (1, [.ref h1, .int 0, .int 5, .int v3, .int v4, .int v5, .int v6, .int v7]))] H := hP
  replace hD : va_D A [(h0, .inr (1, [.ref h1, .int 0, .int 5, .int v3, .int v4, .int v5, .int v6, .int v7]))] := hD
  refine lv_aload_n hx hb dX1_reset_10 rfl (lv_at hl 0 rfl) ?_
  refine lv_iconst (v := 1) hx hb dX1_reset_11 (by decide) ?_
  refine va_put (D := G) (ci := 1) (v := .int 1) (ty := .int) (C := RX1) (T := TX1) (N := 8) hx hb hts inkX1 tyX1 tyX1_ok nmX1 hown hK hP hD hS 0 rfl rfl 3 (by decide) (hts _ kw_117) (fun _ h9 => h9) rfl (by decide +kernel) rfl rfl (Nat.le_of_ble_eq_true rfl) dX1_reset_12 (fun H locs hP hD hS => ?_)
  replace hP : va_P G vwCl [(h0, .inr (1, [.ref h1, .int 0, .int 5, .int 1, .int v4, .int v5, .int v6, .int v7]))] H := hP
  replace hD : va_D A [(h0, .inr (1, [.ref h1, .int 0, .int 5, .int 1, .int v4, .int v5, .int v6, .int v7]))] := hD
  refine lv_aload_n hx hb dX1_reset_15 rfl (lv_at hl 0 rfl) ?_
  refine lv_iconst (v := 1) hx hb dX1_reset_16 (by decide) ?_
  refine va_put (D := G) (ci := 1) (v := .int 1) (ty := .int) (C := RX1) (T := TX1) (N := 8) hx hb hts inkX1 tyX1 tyX1_ok nmX1 hown hK hP hD hS 0 rfl rfl 4 (by decide) (hts _ kw_121) (fun _ h9 => h9) rfl (by decide +kernel) rfl rfl (Nat.le_of_ble_eq_true rfl) dX1_reset_17 (fun H locs hP hD hS => ?_)
  replace hP : va_P G vwCl [(h0, .inr (1, [.ref h1, .int 0, .int 5, .int 1, .int 1, .int v5, .int v6, .int v7]))] H := hP
  replace hD : va_D A [(h0, .inr (1, [.ref h1, .int 0, .int 5, .int 1, .int 1, .int v5, .int v6, .int v7]))] := hD
  refine lv_aload_n hx hb dX1_reset_20 rfl (lv_at hl 0 rfl) ?_
  refine lv_iconst (v := 2) hx hb dX1_reset_21 (by decide) ?_
  refine va_put (D := G) (ci := 1) (v := .int 2) (ty := .int) (C := RX1) (T := TX1) (N := 8) hx hb hts inkX1 tyX1 tyX1_ok nmX1 hown hK hP hD hS 0 rfl rfl 5 (by decide) (hts _ kw_125) (fun _ h9 => h9) rfl (by decide +kernel) rfl rfl (Nat.le_of_ble_eq_true rfl) dX1_reset_22 (fun H locs hP hD hS => ?_)
  replace hP : va_P G vwCl [(h0, .inr (1, [.ref h1, .int 0, .int 5, .int 1, .int 1, .int 2, .int v6, .int v7]))] H := hP
  replace hD : va_D A [(h0, .inr (1, [.ref h1, .int 0, .int 5, .int 1, .int 1, .int 2, .int v6, .int v7]))] := hD
  refine lv_aload_n hx hb dX1_reset_25 rfl (lv_at hl 0 rfl) ?_
  refine lv_iconst (v := 0) hx hb dX1_reset_26 (by decide) ?_
  refine va_put (D := G) (ci := 1) (v := .int 0) (ty := .int) (C := RX1) (T := TX1) (N := 8) hx hb hts inkX1 tyX1 tyX1_ok nmX1 hown hK hP hD hS 0 rfl rfl 6 (by decide) (hts _ kw_129) (fun _ h9 => h9) rfl (by decide +kernel) rfl rfl (Nat.le_of_ble_eq_true rfl) dX1_reset_27 (fun H locs hP hD hS => ?_)
  replace hP : va_P G vwCl [(h0, .inr (1, [.ref h1, .int 0, .int 5, .int 1, .int 1, .int 2, .int 0, .int v7]))] H := hP
  replace hD : va_D A [(h0, .inr (1, [.ref h1, .int 0, .int 5, .int 1, .int 1, .int 2, .int 0, .int v7]))] := hD
  refine lv_aload_n hx hb dX1_reset_30 rfl (lv_at hl 0 rfl) ?_
  refine lv_iconst (v := 0) hx hb dX1_reset_31 (by decide) ?_
  refine va_put (D := G) (ci := 1) (v := .int 0) (ty := .int) (C := RX1) (T := TX1) (N := 8) hx hb hts inkX1 tyX1 tyX1_ok nmX1 hown hK hP hD hS 0 rfl rfl 7 (by decide) (hts _ kw_133) (fun _ h9 => h9) rfl (by decide +kernel) rfl rfl (Nat.le_of_ble_eq_true rfl) dX1_reset_32 (fun H locs hP hD hS => ?_)
  replace hP : va_P G vwCl [(h0, .inr (1, [.ref h1, .int 0, .int 5, .int 1, .int 1, .int 2, .int 0, .int 0]))] H := hP
  replace hD : va_D A [(h0, .inr (1, [.ref h1, .int 0, .int 5, .int 1, .int 1, .int 2, .int 0, .int 0]))] := hD
  exact W.vret hx hb hr (fun t ht hW => ⟨⟨(), rfl, trivial, by rw [ht]; exact hP, hD⟩, hS.F ht⟩) hS.2.2 dX1_reset_35 hlk
set_option maxRecDepth 100000 in
set_option maxHeartbeats 8000000 in
theorem kcK_Series {l : Launch} {G : va_G} {cy : Nat → ClassId} (sz : Nat) (h0 : Nat) : Met l yX1_init (kW yX1_init cX1_init 1 none) ({ frames := 1, cells := 1, slots := 96, locals := 20 } : Room) (s_Pk G cy (fun _ => True) [.ref h0] sz [(h0, .inr (1, [.null, .int 0, .int 0, .int 0, .int 0, .int 0, .int 0, .int 0]))]) (va_Qv (fun (_ : Nat) => True) (fun u t => va_P G vwCl [(h0, .inr (1, [.ref u, .int 0, .int 5, .int 1, .int 1, .int 2, .int 0, .int 0])), (u, .inl (cy 1, 96, .inl (fun _ => 0)))] t.heap ∧ va_D (va_A [(h0, .inr (1, [.null, .int 0, .int 0, .int 0, .int 0, .int 0, .int 0, .int 0]))] sz) [(h0, .inr (1, [.ref u, .int 0, .int 5, .int 1, .int 1, .int 2, .int 0, .int 0])), (u, .inl (cy 1, 96, .inl (fun _ => 0)))]) (va_A [(h0, .inr (1, [.null, .int 0, .int 0, .int 0, .int 0, .int 0, .int 0, .int 0]))] sz)) 1 96 (va_A [(h0, .inr (1, [.null, .int 0, .int 0, .int 0, .int 0, .int 0, .int 0, .int 0]))] sz) := by
  refine Met.ofW (cc := cX1_init) (maxL := 1) (ret := none) (by decide) rfl ?_
  intro p e s m args below meth c s₁ B hml hv
  obtain ⟨rfl, hsz, hP, hK, hD0, -⟩ := hv
  have hx := B.exec
  have hb := B.bytes
  have hr := B.returns
  have hts0 := atoms_spec (ws := kW yX1_init cX1_init 1 none) B.pre
  have hts : ∀ w ∈ kwL, w.before [.ref h0].toArray s = true := fun w h => hts0 w (List.mem_cons_of_mem _ h)
  have hown : s.vm.findClass RX1 = some m.cls := findClass_of_methodNamed B.named
  have hlk := B.notSynchronized
  have hin : meth.name = "<init>" := (name_of_methodNamed B.named B.method).1
  subst hsz
  have hD := hD0.self (sz := s.heap.size)
  generalize hAe : va_A [(h0, .inr (1, [.null, .int 0, .int 0, .int 0, .int 0, .int 0, .int 0, .int 0]))] s.heap.size = A at hD ⊢
  have hA : ∀ q : Nat, s.heap.size ≤ q → A q := fun q h => by rw [← hAe]; exact Or.inr h
  have hS : va_S A s.heap s.heap [] := va_S.rf
  replace hP : va_P G vwCl [(h0, .inr (1, [.null, .int 0, .int 0, .int 0, .int 0, .int 0, .int 0, .int 0]))] s.heap := hP
  have hl := lv_entry ([.ref h0]) (n := 1) (Nat.le_of_ble_eq_true rfl)
  rw [lg_entry_eq]
  generalize (lg_sl ([.ref h0]) ++ List.replicate (1 - (lg_sl ([.ref h0])).length) Slot.unset).toArray = ls at hl ⊢
  replace hl : lv_has ls 1 [(0, .ref h0)] := hl
  have hSt := hS
  refine lv_aload_n hx hb dX1_init_0 rfl (lv_at hl 0 rfl) ?_
  refine W.objInit hx hb hown (hts _ kw_104) (hts _ kw_75) (hts _ kw_76) rfl (by rw [hml]; exact hl.1) rfl dX1_init_1 (Nat.le_of_ble_eq_true rfl) (Nat.le_of_ble_eq_true rfl) ?_
  refine W.eq (g2 := F0 m 4 ls []) rfl ?_
  refine lv_aload_n hx hb dX1_init_4 rfl (lv_at hl 0 rfl) ?_
  refine lv_bipush (v := 96) hx hb dX1_init_5 (by decide) ?_
  refine s_newa (atype := .int) (ty := .int) rfl hx hb (hts _ kw_153) hK 1 rfl (fun _ h => h) hP hD hS hA (fun _ => rfl) (by decide) (by decide) (Nat.le_of_ble_eq_true rfl) (Nat.le_of_ble_eq_true rfl) (Nat.le_of_ble_eq_true rfl) dX1_init_7 (fun q1 H hP hD hS => ?_)
  refine W.widen (k := 1) (n := 96) (Nat.le_of_ble_eq_true rfl) (Nat.le_of_ble_eq_true rfl) ?_
  replace hP : va_P G vwCl [(h0, .inr (1, [.null, .int 0, .int 0, .int 0, .int 0, .int 0, .int 0, .int 0])), (q1, .inl (cy 1, 96, .inl (fun _ => 0)))] H := hP
  replace hD : va_D A [(h0, .inr (1, [.null, .int 0, .int 0, .int 0, .int 0, .int 0, .int 0, .int 0])), (q1, .inl (cy 1, 96, .inl (fun _ => 0)))] := hD
  refine va_putF (D := G) (ci := 1) (v := .ref q1) (ty := (.array .int)) (C := RX1) (T := TX1) (N := 8) hx hb hts inkX1 tyX1 tyX1_ok nmX1 hown hK hP hD hS 0 rfl rfl 0 (by decide) (hts _ kw_109) (fun _ h9 => h9) rfl hin rfl (by decide +kernel) rfl rfl (Nat.le_of_ble_eq_true rfl) dX1_init_9 (fun H locs hP hD hS => ?_)
  replace hP : va_P G vwCl [(h0, .inr (1, [.ref q1, .int 0, .int 0, .int 0, .int 0, .int 0, .int 0, .int 0])), (q1, .inl (cy 1, 96, .inl (fun _ => 0)))] H := hP
  replace hD : va_D A [(h0, .inr (1, [.ref q1, .int 0, .int 0, .int 0, .int 0, .int 0, .int 0, .int 0])), (q1, .inl (cy 1, 96, .inl (fun _ => 0)))] := hD
  refine lv_aload_n hx hb dX1_init_12 rfl (lv_at hl 0 rfl) ?_
  have hPc := hP.sub (ws' := [(h0, .inr (1, [.ref q1, .int 0, .int 0, .int 0, .int 0, .int 0, .int 0, .int 0]))]) [0] rfl
  have hDc := hD.sub (ws' := [(h0, .inr (1, [.ref q1, .int 0, .int 0, .int 0, .int 0, .int 0, .int 0, .int 0]))]) [0] (by decide) rfl
  have hFc := va_free (wc := [(h0, .inr (1, [.ref q1, .int 0, .int 0, .int 0, .int 0, .int 0, .int 0, .int 0]))]) hD hS hA [0] rfl
  refine va_callv (va_runV (As := []) (rest := []) ⟨hx, hb, hml, hown, hts⟩ (kcK_reset H.size h0 q1 0 0 0 0 0 0 0) (cwV 0 hts gk_X1_15 rfl rfl rfl (by decide +kernel) ⟨Nat.le_of_ble_eq_true rfl, Nat.le_of_ble_eq_true rfl⟩) ⟨s_Pk_blind, va_recv hK hPc (ci := 1) (q0 := 0) rfl rfl, fun U hU hW => ⟨rfl, by rw [hU], by rw [hU]; exact hPc, va_K.moved hW.alike hK, hDc.weaken (fun _ _ _ _ => trivial)⟩⟩ rfl rfl hl.1 rfl (lv_room (Nat.le_of_ble_eq_true rfl)) dX1_init_13 ⟨Nat.le_of_ble_eq_true rfl, Nat.le_of_ble_eq_true rfl⟩) hS (fun q _ h => hFc q h) hFc (fun u t H locs ht hvm hw hB hz1 hk1 hS => ?_)
  obtain ⟨hP1, hD1⟩ := hB
  rw [ht] at hP1
  obtain ⟨hP, hD⟩ := va_join (wr := [(q1, .inl (cy 1, 96, .inl (fun _ => 0)))]) (w1 := [(h0, .inr (1, [.ref q1, .int 0, .int 5, .int 1, .int 1, .int 2, .int 0, .int 0]))]) hP hD [0] [1] rfl rfl (by decide) (by decide) hk1 hFc hP1 hD1
  replace hP : va_P G vwCl [(q1, .inl (cy 1, 96, .inl (fun _ => 0))), (h0, .inr (1, [.ref q1, .int 0, .int 5, .int 1, .int 1, .int 2, .int 0, .int 0]))] H := hP
  replace hD : va_D A [(q1, .inl (cy 1, 96, .inl (fun _ => 0))), (h0, .inr (1, [.ref q1, .int 0, .int 5, .int 1, .int 1, .int 2, .int 0, .int 0]))] := hD
  refine W.widen (k := 1) (n := 96) (Nat.le_of_ble_eq_true rfl) (Nat.le_of_ble_eq_true rfl) ?_
  exact W.vret hx hb hr (fun t ht hW => ⟨⟨q1, rfl, trivial, by rw [ht]; exact hP, hD⟩, hS.F ht⟩) hS.2.2 dX1_init_16 hlk
set_option maxRecDepth 100000 in
set_option maxHeartbeats 8000000 in
theorem kcK_Tape {l : Launch} {G : va_G} {cy : Nat → ClassId} (sz : Nat) (h0 : Nat) : Met l yX3_init (kW yX3_init cX3_init 1 none) ({ frames := 1, cells := 1, slots := 320, locals := 20 } : Room) (s_Pk G cy (fun _ => True) [.ref h0] sz [(h0, .inr (3, [.null, .int 0]))]) (va_Qv (fun (_ : Nat) => True) (fun u t => va_P G vwCl [(h0, .inr (3, [.ref u, .int 0])), (u, .inl (cy 0, 320, .inl (fun _ => 0)))] t.heap ∧ va_D (va_A [(h0, .inr (3, [.null, .int 0]))] sz) [(h0, .inr (3, [.ref u, .int 0])), (u, .inl (cy 0, 320, .inl (fun _ => 0)))]) (va_A [(h0, .inr (3, [.null, .int 0]))] sz)) 1 320 (va_A [(h0, .inr (3, [.null, .int 0]))] sz) := by
  refine Met.ofW (cc := cX3_init) (maxL := 1) (ret := none) (by decide) rfl ?_
  intro p e s m args below meth c s₁ B hml hv
  obtain ⟨rfl, hsz, hP, hK, hD0, -⟩ := hv
  have hx := B.exec
  have hb := B.bytes
  have hr := B.returns
  have hts0 := atoms_spec (ws := kW yX3_init cX3_init 1 none) B.pre
  have hts : ∀ w ∈ kwL, w.before [.ref h0].toArray s = true := fun w h => hts0 w (List.mem_cons_of_mem _ h)
  have hown : s.vm.findClass RX3 = some m.cls := findClass_of_methodNamed B.named
  have hlk := B.notSynchronized
  have hin : meth.name = "<init>" := (name_of_methodNamed B.named B.method).1
  subst hsz
  have hD := hD0.self (sz := s.heap.size)
  generalize hAe : va_A [(h0, .inr (3, [.null, .int 0]))] s.heap.size = A at hD ⊢
  have hA : ∀ q : Nat, s.heap.size ≤ q → A q := fun q h => by rw [← hAe]; exact Or.inr h
  have hS : va_S A s.heap s.heap [] := va_S.rf
  replace hP : va_P G vwCl [(h0, .inr (3, [.null, .int 0]))] s.heap := hP
  have hl := lv_entry ([.ref h0]) (n := 1) (Nat.le_of_ble_eq_true rfl)
  rw [lg_entry_eq]
  generalize (lg_sl ([.ref h0]) ++ List.replicate (1 - (lg_sl ([.ref h0])).length) Slot.unset).toArray = ls at hl ⊢
  replace hl : lv_has ls 1 [(0, .ref h0)] := hl
  have hSt := hS
  refine lv_aload_n hx hb dX3_init_0 rfl (lv_at hl 0 rfl) ?_
  refine W.objInit hx hb hown (hts _ kw_82) (hts _ kw_75) (hts _ kw_76) rfl (by rw [hml]; exact hl.1) rfl dX3_init_1 (Nat.le_of_ble_eq_true rfl) (Nat.le_of_ble_eq_true rfl) ?_
  refine W.eq (g2 := F0 m 4 ls []) rfl ?_
  refine lv_aload_n hx hb dX3_init_4 rfl (lv_at hl 0 rfl) ?_
  refine lv_sipush (v := 320) hx hb dX3_init_5 (by decide) ?_
  refine s_newa (atype := .byte) (ty := .byte) rfl hx hb (hts _ kw_92) hK 0 rfl (fun _ h => h) hP hD hS hA (fun _ => rfl) (by decide) (by decide) (Nat.le_of_ble_eq_true rfl) (Nat.le_of_ble_eq_true rfl) (Nat.le_of_ble_eq_true rfl) dX3_init_8 (fun q1 H hP hD hS => ?_)
  refine W.widen (k := 1) (n := 320) (Nat.le_of_ble_eq_true rfl) (Nat.le_of_ble_eq_true rfl) ?_
  replace hP : va_P G vwCl [(h0, .inr (3, [.null, .int 0])), (q1, .inl (cy 0, 320, .inl (fun _ => 0)))] H := hP
  replace hD : va_D A [(h0, .inr (3, [.null, .int 0])), (q1, .inl (cy 0, 320, .inl (fun _ => 0)))] := hD
  refine va_putF (D := G) (ci := 3) (v := .ref q1) (ty := (.array .byte)) (C := RX3) (T := TX3) (N := 2) hx hb hts inkX3 tyX3 tyX3_ok nmX3 hown hK hP hD hS 0 rfl rfl 0 (by decide) (hts _ kw_83) (fun _ h9 => h9) rfl hin rfl (by decide +kernel) rfl rfl (Nat.le_of_ble_eq_true rfl) dX3_init_10 (fun H locs hP hD hS => ?_)
  replace hP : va_P G vwCl [(h0, .inr (3, [.ref q1, .int 0])), (q1, .inl (cy 0, 320, .inl (fun _ => 0)))] H := hP
  replace hD : va_D A [(h0, .inr (3, [.ref q1, .int 0])), (q1, .inl (cy 0, 320, .inl (fun _ => 0)))] := hD
  refine lv_aload_n hx hb dX3_init_13 rfl (lv_at hl 0 rfl) ?_
  refine lv_iconst (v := 0) hx hb dX3_init_14 (by decide) ?_
  refine va_put (D := G) (ci := 3) (v := .int 0) (ty := .int) (C := RX3) (T := TX3) (N := 2) hx hb hts inkX3 tyX3 tyX3_ok nmX3 hown hK hP hD hS 0 rfl rfl 1 (by decide) (hts _ kw_84) (fun _ h9 => h9) rfl (by decide +kernel) rfl rfl (Nat.le_of_ble_eq_true rfl) dX3_init_15 (fun H locs hP hD hS => ?_)
  replace hP : va_P G vwCl [(h0, .inr (3, [.ref q1, .int 0])), (q1, .inl (cy 0, 320, .inl (fun _ => 0)))] H := hP
  replace hD : va_D A [(h0, .inr (3, [.ref q1, .int 0])), (q1, .inl (cy 0, 320, .inl (fun _ => 0)))] := hD
  exact W.vret hx hb hr (fun t ht hW => ⟨⟨q1, rfl, trivial, by rw [ht]; exact hP, hD⟩, hS.F ht⟩) hS.2.2 dX3_init_18 hlk
set_option maxRecDepth 100000 in
set_option maxHeartbeats 8000000 in
theorem kcK_Words {l : Launch} {G : va_G} {cy : Nat → ClassId} (sz : Nat) (h0 : Nat) : Met l yX5_init (kW yX5_init cX5_init 1 none) ({ frames := 1, cells := 1, slots := 8, locals := 20 } : Room) (s_Pk G cy (fun _ => True) [.ref h0] sz [(h0, .inr (5, [.null, .int 0]))]) (va_Qv (fun (_ : Nat) => True) (fun u t => va_P G vwCl [(h0, .inr (5, [.ref u, .int 0])), (u, .inl (cy 0, 8, .inl (fun _ => 0)))] t.heap ∧ va_D (va_A [(h0, .inr (5, [.null, .int 0]))] sz) [(h0, .inr (5, [.ref u, .int 0])), (u, .inl (cy 0, 8, .inl (fun _ => 0)))]) (va_A [(h0, .inr (5, [.null, .int 0]))] sz)) 1 8 (va_A [(h0, .inr (5, [.null, .int 0]))] sz) := by
  refine Met.ofW (cc := cX5_init) (maxL := 1) (ret := none) (by decide) rfl ?_
  intro p e s m args below meth c s₁ B hml hv
  obtain ⟨rfl, hsz, hP, hK, hD0, -⟩ := hv
  have hx := B.exec
  have hb := B.bytes
  have hr := B.returns
  have hts0 := atoms_spec (ws := kW yX5_init cX5_init 1 none) B.pre
  have hts : ∀ w ∈ kwL, w.before [.ref h0].toArray s = true := fun w h => hts0 w (List.mem_cons_of_mem _ h)
  have hown : s.vm.findClass RX5 = some m.cls := findClass_of_methodNamed B.named
  have hlk := B.notSynchronized
  have hin : meth.name = "<init>" := (name_of_methodNamed B.named B.method).1
  subst hsz
  have hD := hD0.self (sz := s.heap.size)
  generalize hAe : va_A [(h0, .inr (5, [.null, .int 0]))] s.heap.size = A at hD ⊢
  have hA : ∀ q : Nat, s.heap.size ≤ q → A q := fun q h => by rw [← hAe]; exact Or.inr h
  have hS : va_S A s.heap s.heap [] := va_S.rf
  replace hP : va_P G vwCl [(h0, .inr (5, [.null, .int 0]))] s.heap := hP
  have hl := lv_entry ([.ref h0]) (n := 1) (Nat.le_of_ble_eq_true rfl)
  rw [lg_entry_eq]
  generalize (lg_sl ([.ref h0]) ++ List.replicate (1 - (lg_sl ([.ref h0])).length) Slot.unset).toArray = ls at hl ⊢
  replace hl : lv_has ls 1 [(0, .ref h0)] := hl
  have hSt := hS
  refine lv_aload_n hx hb dX5_init_0 rfl (lv_at hl 0 rfl) ?_
  refine W.objInit hx hb hown (hts _ kw_218) (hts _ kw_75) (hts _ kw_76) rfl (by rw [hml]; exact hl.1) rfl dX5_init_1 (Nat.le_of_ble_eq_true rfl) (Nat.le_of_ble_eq_true rfl) ?_
  refine W.eq (g2 := F0 m 4 ls []) rfl ?_
  refine lv_aload_n hx hb dX5_init_4 rfl (lv_at hl 0 rfl) ?_
  refine lv_bipush (v := 8) hx hb dX5_init_5 (by decide) ?_
  refine s_newa (atype := .byte) (ty := .byte) rfl hx hb (hts _ kw_92) hK 0 rfl (fun _ h => h) hP hD hS hA (fun _ => rfl) (by decide) (by decide) (Nat.le_of_ble_eq_true rfl) (Nat.le_of_ble_eq_true rfl) (Nat.le_of_ble_eq_true rfl) dX5_init_7 (fun q1 H hP hD hS => ?_)
  refine W.widen (k := 1) (n := 8) (Nat.le_of_ble_eq_true rfl) (Nat.le_of_ble_eq_true rfl) ?_
  replace hP : va_P G vwCl [(h0, .inr (5, [.null, .int 0])), (q1, .inl (cy 0, 8, .inl (fun _ => 0)))] H := hP
  replace hD : va_D A [(h0, .inr (5, [.null, .int 0])), (q1, .inl (cy 0, 8, .inl (fun _ => 0)))] := hD
  refine va_putF (D := G) (ci := 5) (v := .ref q1) (ty := (.array .byte)) (C := RX5) (T := TX5) (N := 2) hx hb hts inkX5 tyX5 tyX5_ok nmX5 hown hK hP hD hS 0 rfl rfl 0 (by decide) (hts _ kw_219) (fun _ h9 => h9) rfl hin rfl (by decide +kernel) rfl rfl (Nat.le_of_ble_eq_true rfl) dX5_init_9 (fun H locs hP hD hS => ?_)
  replace hP : va_P G vwCl [(h0, .inr (5, [.ref q1, .int 0])), (q1, .inl (cy 0, 8, .inl (fun _ => 0)))] H := hP
  replace hD : va_D A [(h0, .inr (5, [.ref q1, .int 0])), (q1, .inl (cy 0, 8, .inl (fun _ => 0)))] := hD
  refine lv_aload_n hx hb dX5_init_12 rfl (lv_at hl 0 rfl) ?_
  refine lv_iconst (v := 0) hx hb dX5_init_13 (by decide) ?_
  refine va_put (D := G) (ci := 5) (v := .int 0) (ty := .int) (C := RX5) (T := TX5) (N := 2) hx hb hts inkX5 tyX5 tyX5_ok nmX5 hown hK hP hD hS 0 rfl rfl 1 (by decide) (hts _ kw_220) (fun _ h9 => h9) rfl (by decide +kernel) rfl rfl (Nat.le_of_ble_eq_true rfl) dX5_init_14 (fun H locs hP hD hS => ?_)
  replace hP : va_P G vwCl [(h0, .inr (5, [.ref q1, .int 0])), (q1, .inl (cy 0, 8, .inl (fun _ => 0)))] H := hP
  replace hD : va_D A [(h0, .inr (5, [.ref q1, .int 0])), (q1, .inl (cy 0, 8, .inl (fun _ => 0)))] := hD
  exact W.vret hx hb hr (fun t ht hW => ⟨⟨q1, rfl, trivial, by rw [ht]; exact hP, hD⟩, hS.F ht⟩) hS.2.2 dX5_init_17 hlk
set_option maxRecDepth 100000 in
set_option maxHeartbeats 8000000 in
theorem kcK_Row {l : Launch} {G : va_G} {cy : Nat → ClassId} (sz : Nat) (h0 h1 : Nat) : Met l yX0_init (kW yX0_init cX0_init 2 none) ({ frames := 1, cells := 1, slots := 24, locals := 20 } : Room) (s_Pk G cy (fun _ => True) [.ref h0, .ref h1] sz [(h0, .inr (0, [.null, .null, .int 0]))]) (va_Qv (fun (_ : Nat) => True) (fun u t => va_P G vwCl [(h0, .inr (0, [.ref h1, .ref u, .int 0])), (u, .inl (cy 1, 24, .inl (fun _ => 0)))] t.heap ∧ va_D (va_A [(h0, .inr (0, [.null, .null, .int 0]))] sz) [(h0, .inr (0, [.ref h1, .ref u, .int 0])), (u, .inl (cy 1, 24, .inl (fun _ => 0)))]) (va_A [(h0, .inr (0, [.null, .null, .int 0]))] sz)) 1 24 (va_A [(h0, .inr (0, [.null, .null, .int 0]))] sz) := by
  refine Met.ofW (cc := cX0_init) (maxL := 2) (ret := none) (by decide) rfl ?_
  intro p e s m args below meth c s₁ B hml hv
  obtain ⟨rfl, hsz, hP, hK, hD0, -⟩ := hv
  have hx := B.exec
  have hb := B.bytes
  have hr := B.returns
  have hts0 := atoms_spec (ws := kW yX0_init cX0_init 2 none) B.pre
  have hts : ∀ w ∈ kwL, w.before [.ref h0, .ref h1].toArray s = true := fun w h => hts0 w (List.mem_cons_of_mem _ h)
  have hown : s.vm.findClass RX0 = some m.cls := findClass_of_methodNamed B.named
  have hlk := B.notSynchronized
  have hin : meth.name = "<init>" := (name_of_methodNamed B.named B.method).1
  subst hsz
  have hD := hD0.self (sz := s.heap.size)
  generalize hAe : va_A [(h0, .inr (0, [.null, .null, .int 0]))] s.heap.size = A at hD ⊢
  have hA : ∀ q : Nat, s.heap.size ≤ q → A q := fun q h => by rw [← hAe]; exact Or.inr h
  have hS : va_S A s.heap s.heap [] := va_S.rf
  replace hP : va_P G vwCl [(h0, .inr (0, [.null, .null, .int 0]))] s.heap := hP
  have hl := lv_entry ([.ref h0, .ref h1]) (n := 2) (Nat.le_of_ble_eq_true rfl)
  rw [lg_entry_eq]
  generalize (lg_sl ([.ref h0, .ref h1]) ++ List.replicate (2 - (lg_sl ([.ref h0, .ref h1])).length) Slot.unset).toArray = ls at hl ⊢
  replace hl : lv_has ls 2 [(0, .ref h0), (1, .ref h1)] := hl
  have hSt := hS
  refine lv_aload_n hx hb dX0_init_0 rfl (lv_at hl 0 rfl) ?_
  refine W.objInit hx hb hown (hts _ kw_201) (hts _ kw_75) (hts _ kw_76) rfl (by rw [hml]; exact hl.1) rfl dX0_init_1 (Nat.le_of_ble_eq_true rfl) (Nat.le_of_ble_eq_true rfl) ?_
  refine W.eq (g2 := F0 m 4 ls []) rfl ?_
  refine lv_aload_n hx hb dX0_init_4 rfl (lv_at hl 0 rfl) ?_
  refine lv_bipush (v := 24) hx hb dX0_init_5 (by decide) ?_
  refine s_newa (atype := .int) (ty := .int) rfl hx hb (hts _ kw_153) hK 1 rfl (fun _ h => h) hP hD hS hA (fun _ => rfl) (by decide) (by decide) (Nat.le_of_ble_eq_true rfl) (Nat.le_of_ble_eq_true rfl) (Nat.le_of_ble_eq_true rfl) dX0_init_7 (fun q1 H hP hD hS => ?_)
  refine W.widen (k := 1) (n := 24) (Nat.le_of_ble_eq_true rfl) (Nat.le_of_ble_eq_true rfl) ?_
  replace hP : va_P G vwCl [(h0, .inr (0, [.null, .null, .int 0])), (q1, .inl (cy 1, 24, .inl (fun _ => 0)))] H := hP
  replace hD : va_D A [(h0, .inr (0, [.null, .null, .int 0])), (q1, .inl (cy 1, 24, .inl (fun _ => 0)))] := hD
  refine va_putF (D := G) (ci := 0) (v := .ref q1) (ty := (.array .int)) (C := RX0) (T := TX0) (N := 3) hx hb hts inkX0 tyX0 tyX0_ok nmX0 hown hK hP hD hS 0 rfl rfl 1 (by decide) (hts _ kw_203) (fun _ h9 => h9) rfl hin rfl (by decide +kernel) rfl rfl (Nat.le_of_ble_eq_true rfl) dX0_init_9 (fun H locs hP hD hS => ?_)
  replace hP : va_P G vwCl [(h0, .inr (0, [.null, .ref q1, .int 0])), (q1, .inl (cy 1, 24, .inl (fun _ => 0)))] H := hP
  replace hD : va_D A [(h0, .inr (0, [.null, .ref q1, .int 0])), (q1, .inl (cy 1, 24, .inl (fun _ => 0)))] := hD
  refine lv_aload_n hx hb dX0_init_12 rfl (lv_at hl 0 rfl) ?_
  refine lv_iconst (v := 0) hx hb dX0_init_13 (by decide) ?_
  refine va_put (D := G) (ci := 0) (v := .int 0) (ty := .int) (C := RX0) (T := TX0) (N := 3) hx hb hts inkX0 tyX0 tyX0_ok nmX0 hown hK hP hD hS 0 rfl rfl 2 (by decide) (hts _ kw_204) (fun _ h9 => h9) rfl (by decide +kernel) rfl rfl (Nat.le_of_ble_eq_true rfl) dX0_init_14 (fun H locs hP hD hS => ?_)
  replace hP : va_P G vwCl [(h0, .inr (0, [.null, .ref q1, .int 0])), (q1, .inl (cy 1, 24, .inl (fun _ => 0)))] H := hP
  replace hD : va_D A [(h0, .inr (0, [.null, .ref q1, .int 0])), (q1, .inl (cy 1, 24, .inl (fun _ => 0)))] := hD
  refine lv_aload_n hx hb dX0_init_17 rfl (lv_at hl 0 rfl) ?_
  refine lv_aload_n hx hb dX0_init_18 rfl (lv_at hl 1 rfl) ?_
  refine va_putF (D := G) (ci := 0) (v := .ref h1) (ty := (.object "SlidingRanks$Series")) (C := RX0) (T := TX0) (N := 3) hx hb hts inkX0 tyX0 tyX0_ok nmX0 hown hK hP hD hS 0 rfl rfl 0 (by decide) (hts _ kw_202) (fun _ h9 => h9) rfl hin rfl (by decide +kernel) rfl rfl (Nat.le_of_ble_eq_true rfl) dX0_init_19 (fun H locs hP hD hS => ?_)
  replace hP : va_P G vwCl [(h0, .inr (0, [.ref h1, .ref q1, .int 0])), (q1, .inl (cy 1, 24, .inl (fun _ => 0)))] H := hP
  replace hD : va_D A [(h0, .inr (0, [.ref h1, .ref q1, .int 0])), (q1, .inl (cy 1, 24, .inl (fun _ => 0)))] := hD
  exact W.vret hx hb hr (fun t ht hW => ⟨⟨q1, rfl, trivial, by rw [ht]; exact hP, hD⟩, hS.F ht⟩) hS.2.2 dX0_init_22 hlk
set_option maxRecDepth 100000 in
set_option maxHeartbeats 8000000 in
theorem kcK_Teller {l : Launch} {G : va_G} {cy : Nat → ClassId} (sz : Nat) (h0 : Nat) : Met l yX4_init (kW yX4_init cX4_init 1 none) ({ frames := 2, cells := 2, slots := 104, locals := 40 } : Room) (s_Pk G cy (fun _ => True) [.ref h0] sz [(h0, .inr (4, [.null, .int 0, .int 0, .int 0, .int 0, .int 0, .int 0, .int 0, .int 0, .int 0, .int 0, .int 0]))]) (va_Qv (fun (_ : Nat × Nat) => True) (fun u t => va_P G vwCl [(h0, .inr (4, [.ref u.1, .int 12, .int 0, .int 0, .int 0, .int 0, .int 0, .int 0, .int (-4), .int 0, .int 0, .int 0])), (u.1, .inr (1, [.ref u.2, .int 0, .int 5, .int 1, .int 1, .int 2, .int 0, .int 0])), (u.2, .inl (cy 1, 96, .inl (fun _ => 0)))] t.heap ∧ va_D (va_A [(h0, .inr (4, [.null, .int 0, .int 0, .int 0, .int 0, .int 0, .int 0, .int 0, .int 0, .int 0, .int 0, .int 0]))] sz) [(h0, .inr (4, [.ref u.1, .int 12, .int 0, .int 0, .int 0, .int 0, .int 0, .int 0, .int (-4), .int 0, .int 0, .int 0])), (u.1, .inr (1, [.ref u.2, .int 0, .int 5, .int 1, .int 1, .int 2, .int 0, .int 0])), (u.2, .inl (cy 1, 96, .inl (fun _ => 0)))]) (va_A [(h0, .inr (4, [.null, .int 0, .int 0, .int 0, .int 0, .int 0, .int 0, .int 0, .int 0, .int 0, .int 0, .int 0]))] sz)) 2 104 (va_A [(h0, .inr (4, [.null, .int 0, .int 0, .int 0, .int 0, .int 0, .int 0, .int 0, .int 0, .int 0, .int 0, .int 0]))] sz) := by
  refine Met.ofW (cc := cX4_init) (maxL := 1) (ret := none) (by decide) rfl ?_
  intro p e s m args below meth c s₁ B hml hv
  obtain ⟨rfl, hsz, hP, hK, hD0, -⟩ := hv
  have hx := B.exec
  have hb := B.bytes
  have hr := B.returns
  have hts0 := atoms_spec (ws := kW yX4_init cX4_init 1 none) B.pre
  have hts : ∀ w ∈ kwL, w.before [.ref h0].toArray s = true := fun w h => hts0 w (List.mem_cons_of_mem _ h)
  have hown : s.vm.findClass RX4 = some m.cls := findClass_of_methodNamed B.named
  have hlk := B.notSynchronized
  have hin : meth.name = "<init>" := (name_of_methodNamed B.named B.method).1
  subst hsz
  have hD := hD0.self (sz := s.heap.size)
  generalize hAe : va_A [(h0, .inr (4, [.null, .int 0, .int 0, .int 0, .int 0, .int 0, .int 0, .int 0, .int 0, .int 0, .int 0, .int 0]))] s.heap.size = A at hD ⊢
  have hA : ∀ q : Nat, s.heap.size ≤ q → A q := fun q h => by rw [← hAe]; exact Or.inr h
  have hS : va_S A s.heap s.heap [] := va_S.rf
  replace hP : va_P G vwCl [(h0, .inr (4, [.null, .int 0, .int 0, .int 0, .int 0, .int 0, .int 0, .int 0, .int 0, .int 0, .int 0, .int 0]))] s.heap := hP
  have hl := lv_entry ([.ref h0]) (n := 1) (Nat.le_of_ble_eq_true rfl)
  rw [lg_entry_eq]
  generalize (lg_sl ([.ref h0]) ++ List.replicate (1 - (lg_sl ([.ref h0])).length) Slot.unset).toArray = ls at hl ⊢
  replace hl : lv_has ls 1 [(0, .ref h0)] := hl
  have hSt := hS
  refine lv_aload_n hx hb dX4_init_0 rfl (lv_at hl 0 rfl) ?_
  refine W.objInit hx hb hown (hts _ kw_98) (hts _ kw_75) (hts _ kw_76) rfl (by rw [hml]; exact hl.1) rfl dX4_init_1 (Nat.le_of_ble_eq_true rfl) (Nat.le_of_ble_eq_true rfl) ?_
  refine W.eq (g2 := F0 m 4 ls []) rfl ?_
  refine lv_aload_n hx hb dX4_init_4 rfl (lv_at hl 0 rfl) ?_
  refine va_new (ci := 1) (fs := [.null, .int 0, .int 0, .int 0, .int 0, .int 0, .int 0, .int 0]) (C := RX1) (T := TX1) (N := 8) hx hb hts inkX1 tyX1 tyX1_ok hown (hts _ kw_99) (hts _ kw_100) (hts _ kw_58) hK hP hD hS hA rfl (by intro j hj; match j, hj with | 0, _ => rfl | 1, _ => rfl | 2, _ => rfl | 3, _ => rfl | 4, _ => rfl | 5, _ => rfl | 6, _ => rfl | 7, _ => rfl) (Nat.le_of_ble_eq_true rfl) (Nat.le_of_ble_eq_true rfl) dX4_init_5 (fun q1 H hP hD hS => ?_)
  refine W.widen (k := 1) (n := 8) (Nat.le_of_ble_eq_true rfl) (Nat.le_of_ble_eq_true rfl) ?_
  replace hP : va_P G vwCl [(h0, .inr (4, [.null, .int 0, .int 0, .int 0, .int 0, .int 0, .int 0, .int 0, .int 0, .int 0, .int 0, .int 0])), (q1, .inr (1, [.null, .int 0, .int 0, .int 0, .int 0, .int 0, .int 0, .int 0]))] H := hP
  replace hD : va_D A [(h0, .inr (4, [.null, .int 0, .int 0, .int 0, .int 0, .int 0, .int 0, .int 0, .int 0, .int 0, .int 0, .int 0])), (q1, .inr (1, [.null, .int 0, .int 0, .int 0, .int 0, .int 0, .int 0, .int 0]))] := hD
  refine lv_dup hx hb dX4_init_8 rfl ?_
  have hPc := hP.sub (ws' := [(q1, .inr (1, [.null, .int 0, .int 0, .int 0, .int 0, .int 0, .int 0, .int 0]))]) [1] rfl
  have hDc := hD.sub (ws' := [(q1, .inr (1, [.null, .int 0, .int 0, .int 0, .int 0, .int 0, .int 0, .int 0]))]) [1] (by decide) rfl
  have hFc := va_free (wc := [(q1, .inr (1, [.null, .int 0, .int 0, .int 0, .int 0, .int 0, .int 0, .int 0]))]) hD hS hA [1] rfl
  refine va_callv (va_runI (As := []) (rest := [.ref q1, .ref h0]) ⟨hx, hb, hml, hown, hts⟩ (kcK_Series H.size q1) (cwI 0 hts (kG_i kw_103) rfl rfl rfl (hts _ kw_58) (hts _ kw_101) (hts _ kw_102) rfl (by decide +kernel) ⟨Nat.le_of_ble_eq_true rfl, Nat.le_of_ble_eq_true rfl⟩) ⟨s_Pk_blind, fun U hU hW => ⟨rfl, by rw [hU], by rw [hU]; exact hPc, va_K.moved hW.alike hK, hDc.weaken (fun _ _ _ _ => trivial)⟩⟩ rfl rfl hl.1 rfl (lv_room (Nat.le_of_ble_eq_true rfl)) dX4_init_9 ⟨Nat.le_of_ble_eq_true rfl, Nat.le_of_ble_eq_true rfl⟩) hS (fun q _ h => hFc q h) hFc (fun u t H locs ht hvm hw hB hz1 hk1 hS => ?_)
  obtain ⟨n1, rfl⟩ : ∃ z, z = u := ⟨_, rfl⟩
  obtain ⟨hP1, hD1⟩ := hB
  rw [ht] at hP1
  obtain ⟨hP, hD⟩ := va_join (wr := [(h0, .inr (4, [.null, .int 0, .int 0, .int 0, .int 0, .int 0, .int 0, .int 0, .int 0, .int 0, .int 0, .int 0]))]) (w1 := [(q1, .inr (1, [.ref n1, .int 0, .int 5, .int 1, .int 1, .int 2, .int 0, .int 0])), (n1, .inl (cy 1, 96, .inl (fun _ => 0)))]) hP hD [1] [0] rfl rfl (by decide) (by decide) hk1 hFc hP1 hD1
  replace hP : va_P G vwCl [(h0, .inr (4, [.null, .int 0, .int 0, .int 0, .int 0, .int 0, .int 0, .int 0, .int 0, .int 0, .int 0, .int 0])), (q1, .inr (1, [.ref n1, .int 0, .int 5, .int 1, .int 1, .int 2, .int 0, .int 0])), (n1, .inl (cy 1, 96, .inl (fun _ => 0)))] H := hP
  replace hD : va_D A [(h0, .inr (4, [.null, .int 0, .int 0, .int 0, .int 0, .int 0, .int 0, .int 0, .int 0, .int 0, .int 0, .int 0])), (q1, .inr (1, [.ref n1, .int 0, .int 5, .int 1, .int 1, .int 2, .int 0, .int 0])), (n1, .inl (cy 1, 96, .inl (fun _ => 0)))] := hD
  refine W.widen (k := 2) (n := 104) (Nat.le_of_ble_eq_true rfl) (Nat.le_of_ble_eq_true rfl) ?_
  refine va_putF (D := G) (ci := 4) (v := .ref q1) (ty := (.object "SlidingRanks$Series")) (C := RX4) (T := TX4) (N := 12) hx hb hts inkX4 tyX4 tyX4_ok nmX4 hown hK hP hD hS 0 rfl rfl 0 (by decide) (hts _ kw_154) (fun _ h9 => h9) rfl hin rfl (by decide +kernel) rfl rfl (Nat.le_of_ble_eq_true rfl) dX4_init_12 (fun H locs hP hD hS => ?_)
  replace hP : va_P G vwCl [(h0, .inr (4, [.ref q1, .int 0, .int 0, .int 0, .int 0, .int 0, .int 0, .int 0, .int 0, .int 0, .int 0, .int 0])), (q1, .inr (1, [.ref n1, .int 0, .int 5, .int 1, .int 1, .int 2, .int 0, .int 0])), (n1, .inl (cy 1, 96, .inl (fun _ => 0)))] H := hP
  replace hD : va_D A [(h0, .inr (4, [.ref q1, .int 0, .int 0, .int 0, .int 0, .int 0, .int 0, .int 0, .int 0, .int 0, .int 0, .int 0])), (q1, .inr (1, [.ref n1, .int 0, .int 5, .int 1, .int 1, .int 2, .int 0, .int 0])), (n1, .inl (cy 1, 96, .inl (fun _ => 0)))] := hD
  refine lv_aload_n hx hb dX4_init_15 rfl (lv_at hl 0 rfl) ?_
  refine lv_bipush (v := 12) hx hb dX4_init_16 (by decide) ?_
  refine va_put (D := G) (ci := 4) (v := .int 12) (ty := .int) (C := RX4) (T := TX4) (N := 12) hx hb hts inkX4 tyX4 tyX4_ok nmX4 hown hK hP hD hS 0 rfl rfl 1 (by decide) (hts _ kw_156) (fun _ h9 => h9) rfl (by decide +kernel) rfl rfl (Nat.le_of_ble_eq_true rfl) dX4_init_18 (fun H locs hP hD hS => ?_)
  replace hP : va_P G vwCl [(h0, .inr (4, [.ref q1, .int 12, .int 0, .int 0, .int 0, .int 0, .int 0, .int 0, .int 0, .int 0, .int 0, .int 0])), (q1, .inr (1, [.ref n1, .int 0, .int 5, .int 1, .int 1, .int 2, .int 0, .int 0])), (n1, .inl (cy 1, 96, .inl (fun _ => 0)))] H := hP
  replace hD : va_D A [(h0, .inr (4, [.ref q1, .int 12, .int 0, .int 0, .int 0, .int 0, .int 0, .int 0, .int 0, .int 0, .int 0, .int 0])), (q1, .inr (1, [.ref n1, .int 0, .int 5, .int 1, .int 1, .int 2, .int 0, .int 0])), (n1, .inl (cy 1, 96, .inl (fun _ => 0)))] := hD
  refine lv_aload_n hx hb dX4_init_21 rfl (lv_at hl 0 rfl) ?_
  refine lv_iconst (v := 0) hx hb dX4_init_22 (by decide) ?_
  refine va_put (D := G) (ci := 4) (v := .int 0) (ty := .int) (C := RX4) (T := TX4) (N := 12) hx hb hts inkX4 tyX4 tyX4_ok nmX4 hown hK hP hD hS 0 rfl rfl 2 (by decide) (hts _ kw_157) (fun _ h9 => h9) rfl (by decide +kernel) rfl rfl (Nat.le_of_ble_eq_true rfl) dX4_init_23 (fun H locs hP hD hS => ?_)
  replace hP : va_P G vwCl [(h0, .inr (4, [.ref q1, .int 12, .int 0, .int 0, .int 0, .int 0, .int 0, .int 0, .int 0, .int 0, .int 0, .int 0])), (q1, .inr (1, [.ref n1, .int 0, .int 5, .int 1, .int 1, .int 2, .int 0, .int 0])), (n1, .inl (cy 1, 96, .inl (fun _ => 0)))] H := hP
  replace hD : va_D A [(h0, .inr (4, [.ref q1, .int 12, .int 0, .int 0, .int 0, .int 0, .int 0, .int 0, .int 0, .int 0, .int 0, .int 0])), (q1, .inr (1, [.ref n1, .int 0, .int 5, .int 1, .int 1, .int 2, .int 0, .int 0])), (n1, .inl (cy 1, 96, .inl (fun _ => 0)))] := hD
  refine lv_aload_n hx hb dX4_init_26 rfl (lv_at hl 0 rfl) ?_
  refine lv_iconst (v := 0) hx hb dX4_init_27 (by decide) ?_
  refine va_put (D := G) (ci := 4) (v := .int 0) (ty := .boolean) (C := RX4) (T := TX4) (N := 12) hx hb hts inkX4 tyX4 tyX4_ok nmX4 hown hK hP hD hS 0 rfl rfl 3 (by decide) (hts _ kw_158) (fun _ h9 => h9) rfl (by decide +kernel) rfl rfl (Nat.le_of_ble_eq_true rfl) dX4_init_28 (fun H locs hP hD hS => ?_)
  replace hP : va_P G vwCl [(h0, .inr (4, [.ref q1, .int 12, .int 0, .int 0, .int 0, .int 0, .int 0, .int 0, .int 0, .int 0, .int 0, .int 0])), (q1, .inr (1, [.ref n1, .int 0, .int 5, .int 1, .int 1, .int 2, .int 0, .int 0])), (n1, .inl (cy 1, 96, .inl (fun _ => 0)))] H := hP
  replace hD : va_D A [(h0, .inr (4, [.ref q1, .int 12, .int 0, .int 0, .int 0, .int 0, .int 0, .int 0, .int 0, .int 0, .int 0, .int 0])), (q1, .inr (1, [.ref n1, .int 0, .int 5, .int 1, .int 1, .int 2, .int 0, .int 0])), (n1, .inl (cy 1, 96, .inl (fun _ => 0)))] := hD
  refine lv_aload_n hx hb dX4_init_31 rfl (lv_at hl 0 rfl) ?_
  refine lv_iconst (v := 0) hx hb dX4_init_32 (by decide) ?_
  refine va_put (D := G) (ci := 4) (v := .int 0) (ty := .int) (C := RX4) (T := TX4) (N := 12) hx hb hts inkX4 tyX4 tyX4_ok nmX4 hown hK hP hD hS 0 rfl rfl 4 (by decide) (hts _ kw_159) (fun _ h9 => h9) rfl (by decide +kernel) rfl rfl (Nat.le_of_ble_eq_true rfl) dX4_init_33 (fun H locs hP hD hS => ?_)
  replace hP : va_P G vwCl [(h0, .inr (4, [.ref q1, .int 12, .int 0, .int 0, .int 0, .int 0, .int 0, .int 0, .int 0, .int 0, .int 0, .int 0])), (q1, .inr (1, [.ref n1, .int 0, .int 5, .int 1, .int 1, .int 2, .int 0, .int 0])), (n1, .inl (cy 1, 96, .inl (fun _ => 0)))] H := hP
  replace hD : va_D A [(h0, .inr (4, [.ref q1, .int 12, .int 0, .int 0, .int 0, .int 0, .int 0, .int 0, .int 0, .int 0, .int 0, .int 0])), (q1, .inr (1, [.ref n1, .int 0, .int 5, .int 1, .int 1, .int 2, .int 0, .int 0])), (n1, .inl (cy 1, 96, .inl (fun _ => 0)))] := hD
  refine lv_aload_n hx hb dX4_init_36 rfl (lv_at hl 0 rfl) ?_
  refine lv_iconst (v := 0) hx hb dX4_init_37 (by decide) ?_
  refine va_put (D := G) (ci := 4) (v := .int 0) (ty := .int) (C := RX4) (T := TX4) (N := 12) hx hb hts inkX4 tyX4 tyX4_ok nmX4 hown hK hP hD hS 0 rfl rfl 5 (by decide) (hts _ kw_160) (fun _ h9 => h9) rfl (by decide +kernel) rfl rfl (Nat.le_of_ble_eq_true rfl) dX4_init_38 (fun H locs hP hD hS => ?_)
  replace hP : va_P G vwCl [(h0, .inr (4, [.ref q1, .int 12, .int 0, .int 0, .int 0, .int 0, .int 0, .int 0, .int 0, .int 0, .int 0, .int 0])), (q1, .inr (1, [.ref n1, .int 0, .int 5, .int 1, .int 1, .int 2, .int 0, .int 0])), (n1, .inl (cy 1, 96, .inl (fun _ => 0)))] H := hP
  replace hD : va_D A [(h0, .inr (4, [.ref q1, .int 12, .int 0, .int 0, .int 0, .int 0, .int 0, .int 0, .int 0, .int 0, .int 0, .int 0])), (q1, .inr (1, [.ref n1, .int 0, .int 5, .int 1, .int 1, .int 2, .int 0, .int 0])), (n1, .inl (cy 1, 96, .inl (fun _ => 0)))] := hD
  refine lv_aload_n hx hb dX4_init_41 rfl (lv_at hl 0 rfl) ?_
  refine lv_iconst (v := 0) hx hb dX4_init_42 (by decide) ?_
  refine va_put (D := G) (ci := 4) (v := .int 0) (ty := .int) (C := RX4) (T := TX4) (N := 12) hx hb hts inkX4 tyX4 tyX4_ok nmX4 hown hK hP hD hS 0 rfl rfl 6 (by decide) (hts _ kw_161) (fun _ h9 => h9) rfl (by decide +kernel) rfl rfl (Nat.le_of_ble_eq_true rfl) dX4_init_43 (fun H locs hP hD hS => ?_)
  replace hP : va_P G vwCl [(h0, .inr (4, [.ref q1, .int 12, .int 0, .int 0, .int 0, .int 0, .int 0, .int 0, .int 0, .int 0, .int 0, .int 0])), (q1, .inr (1, [.ref n1, .int 0, .int 5, .int 1, .int 1, .int 2, .int 0, .int 0])), (n1, .inl (cy 1, 96, .inl (fun _ => 0)))] H := hP
  replace hD : va_D A [(h0, .inr (4, [.ref q1, .int 12, .int 0, .int 0, .int 0, .int 0, .int 0, .int 0, .int 0, .int 0, .int 0, .int 0])), (q1, .inr (1, [.ref n1, .int 0, .int 5, .int 1, .int 1, .int 2, .int 0, .int 0])), (n1, .inl (cy 1, 96, .inl (fun _ => 0)))] := hD
  refine lv_aload_n hx hb dX4_init_46 rfl (lv_at hl 0 rfl) ?_
  refine lv_iconst (v := 0) hx hb dX4_init_47 (by decide) ?_
  refine va_put (D := G) (ci := 4) (v := .int 0) (ty := .int) (C := RX4) (T := TX4) (N := 12) hx hb hts inkX4 tyX4 tyX4_ok nmX4 hown hK hP hD hS 0 rfl rfl 7 (by decide) (hts _ kw_162) (fun _ h9 => h9) rfl (by decide +kernel) rfl rfl (Nat.le_of_ble_eq_true rfl) dX4_init_48 (fun H locs hP hD hS => ?_)
  replace hP : va_P G vwCl [(h0, .inr (4, [.ref q1, .int 12, .int 0, .int 0, .int 0, .int 0, .int 0, .int 0, .int 0, .int 0, .int 0, .int 0])), (q1, .inr (1, [.ref n1, .int 0, .int 5, .int 1, .int 1, .int 2, .int 0, .int 0])), (n1, .inl (cy 1, 96, .inl (fun _ => 0)))] H := hP
  replace hD : va_D A [(h0, .inr (4, [.ref q1, .int 12, .int 0, .int 0, .int 0, .int 0, .int 0, .int 0, .int 0, .int 0, .int 0, .int 0])), (q1, .inr (1, [.ref n1, .int 0, .int 5, .int 1, .int 1, .int 2, .int 0, .int 0])), (n1, .inl (cy 1, 96, .inl (fun _ => 0)))] := hD
  refine lv_aload_n hx hb dX4_init_51 rfl (lv_at hl 0 rfl) ?_
  refine lv_bipush (v := -4) hx hb dX4_init_52 (by decide) ?_
  refine va_put (D := G) (ci := 4) (v := .int (-4)) (ty := .int) (C := RX4) (T := TX4) (N := 12) hx hb hts inkX4 tyX4 tyX4_ok nmX4 hown hK hP hD hS 0 rfl rfl 8 (by decide) (hts _ kw_163) (fun _ h9 => h9) rfl (by decide +kernel) rfl rfl (Nat.le_of_ble_eq_true rfl) dX4_init_54 (fun H locs hP hD hS => ?_)
  replace hP : va_P G vwCl [(h0, .inr (4, [.ref q1, .int 12, .int 0, .int 0, .int 0, .int 0, .int 0, .int 0, .int (-4), .int 0, .int 0, .int 0])), (q1, .inr (1, [.ref n1, .int 0, .int 5, .int 1, .int 1, .int 2, .int 0, .int 0])), (n1, .inl (cy 1, 96, .inl (fun _ => 0)))] H := hP
  replace hD : va_D A [(h0, .inr (4, [.ref q1, .int 12, .int 0, .int 0, .int 0, .int 0, .int 0, .int 0, .int (-4), .int 0, .int 0, .int 0])), (q1, .inr (1, [.ref n1, .int 0, .int 5, .int 1, .int 1, .int 2, .int 0, .int 0])), (n1, .inl (cy 1, 96, .inl (fun _ => 0)))] := hD
  refine lv_aload_n hx hb dX4_init_57 rfl (lv_at hl 0 rfl) ?_
  refine lv_iconst (v := 0) hx hb dX4_init_58 (by decide) ?_
  refine va_put (D := G) (ci := 4) (v := .int 0) (ty := .int) (C := RX4) (T := TX4) (N := 12) hx hb hts inkX4 tyX4 tyX4_ok nmX4 hown hK hP hD hS 0 rfl rfl 9 (by decide) (hts _ kw_164) (fun _ h9 => h9) rfl (by decide +kernel) rfl rfl (Nat.le_of_ble_eq_true rfl) dX4_init_59 (fun H locs hP hD hS => ?_)
  replace hP : va_P G vwCl [(h0, .inr (4, [.ref q1, .int 12, .int 0, .int 0, .int 0, .int 0, .int 0, .int 0, .int (-4), .int 0, .int 0, .int 0])), (q1, .inr (1, [.ref n1, .int 0, .int 5, .int 1, .int 1, .int 2, .int 0, .int 0])), (n1, .inl (cy 1, 96, .inl (fun _ => 0)))] H := hP
  replace hD : va_D A [(h0, .inr (4, [.ref q1, .int 12, .int 0, .int 0, .int 0, .int 0, .int 0, .int 0, .int (-4), .int 0, .int 0, .int 0])), (q1, .inr (1, [.ref n1, .int 0, .int 5, .int 1, .int 1, .int 2, .int 0, .int 0])), (n1, .inl (cy 1, 96, .inl (fun _ => 0)))] := hD
  refine lv_aload_n hx hb dX4_init_62 rfl (lv_at hl 0 rfl) ?_
  refine lv_iconst (v := 0) hx hb dX4_init_63 (by decide) ?_
  refine va_put (D := G) (ci := 4) (v := .int 0) (ty := .int) (C := RX4) (T := TX4) (N := 12) hx hb hts inkX4 tyX4 tyX4_ok nmX4 hown hK hP hD hS 0 rfl rfl 10 (by decide) (hts _ kw_165) (fun _ h9 => h9) rfl (by decide +kernel) rfl rfl (Nat.le_of_ble_eq_true rfl) dX4_init_64 (fun H locs hP hD hS => ?_)
  replace hP : va_P G vwCl [(h0, .inr (4, [.ref q1, .int 12, .int 0, .int 0, .int 0, .int 0, .int 0, .int 0, .int (-4), .int 0, .int 0, .int 0])), (q1, .inr (1, [.ref n1, .int 0, .int 5, .int 1, .int 1, .int 2, .int 0, .int 0])), (n1, .inl (cy 1, 96, .inl (fun _ => 0)))] H := hP
  replace hD : va_D A [(h0, .inr (4, [.ref q1, .int 12, .int 0, .int 0, .int 0, .int 0, .int 0, .int 0, .int (-4), .int 0, .int 0, .int 0])), (q1, .inr (1, [.ref n1, .int 0, .int 5, .int 1, .int 1, .int 2, .int 0, .int 0])), (n1, .inl (cy 1, 96, .inl (fun _ => 0)))] := hD
  refine lv_aload_n hx hb dX4_init_67 rfl (lv_at hl 0 rfl) ?_
  refine lv_iconst (v := 0) hx hb dX4_init_68 (by decide) ?_
  refine va_put (D := G) (ci := 4) (v := .int 0) (ty := .int) (C := RX4) (T := TX4) (N := 12) hx hb hts inkX4 tyX4 tyX4_ok nmX4 hown hK hP hD hS 0 rfl rfl 11 (by decide) (hts _ kw_167) (fun _ h9 => h9) rfl (by decide +kernel) rfl rfl (Nat.le_of_ble_eq_true rfl) dX4_init_69 (fun H locs hP hD hS => ?_)
  replace hP : va_P G vwCl [(h0, .inr (4, [.ref q1, .int 12, .int 0, .int 0, .int 0, .int 0, .int 0, .int 0, .int (-4), .int 0, .int 0, .int 0])), (q1, .inr (1, [.ref n1, .int 0, .int 5, .int 1, .int 1, .int 2, .int 0, .int 0])), (n1, .inl (cy 1, 96, .inl (fun _ => 0)))] H := hP
  replace hD : va_D A [(h0, .inr (4, [.ref q1, .int 12, .int 0, .int 0, .int 0, .int 0, .int 0, .int 0, .int (-4), .int 0, .int 0, .int 0])), (q1, .inr (1, [.ref n1, .int 0, .int 5, .int 1, .int 1, .int 2, .int 0, .int 0])), (n1, .inl (cy 1, 96, .inl (fun _ => 0)))] := hD
  exact W.vret hx hb hr (fun t ht hW => ⟨⟨(q1, n1), rfl, trivial, by rw [ht]; exact hP, hD⟩, hS.F ht⟩) hS.2.2 dX4_init_72 hlk
set_option maxRecDepth 100000 in
set_option maxHeartbeats 8000000 in
theorem kcK_SR {l : Launch} {G : va_G} {cy : Nat → ClassId} (sz : Nat) (h0 : Nat) : Met l yX6_init (kW yX6_init cX6_init 1 none) ({ frames := 3, cells := 18, slots := 795, locals := 60 } : Room) (s_Pk G cy s_N6 [.ref h0] sz [(h0, .inr (6, [.null, .null, .null, .null, .null, .null, .null, .null, .int 0]))]) (va_Qv (fun (ad : Nat → Nat) => ad 0 = h0) (fun ad t => va_P G vwCl (s_WC cy ad (fun _ => none) s_C0) t.heap ∧ va_D (va_A [(h0, .inr (6, [.null, .null, .null, .null, .null, .null, .null, .null, .int 0]))] sz) (s_WC cy ad (fun _ => none) s_C0)) (va_A [(h0, .inr (6, [.null, .null, .null, .null, .null, .null, .null, .null, .int 0]))] sz)) 18 795 (va_A [(h0, .inr (6, [.null, .null, .null, .null, .null, .null, .null, .null, .int 0]))] sz) := by
  refine Met.ofW (cc := cX6_init) (maxL := 1) (ret := none) (by decide) rfl ?_
  intro p e s m args below meth c s₁ B hml hv
  obtain ⟨rfl, hsz, hP, hK, hD0, hex⟩ := hv
  have hx := B.exec
  have hb := B.bytes
  have hr := B.returns
  have hts0 := atoms_spec (ws := kW yX6_init cX6_init 1 none) B.pre
  have hts : ∀ w ∈ kwL, w.before [.ref h0].toArray s = true := fun w h => hts0 w (List.mem_cons_of_mem _ h)
  have hown : s.vm.findClass RX6 = some m.cls := findClass_of_methodNamed B.named
  have hlk := B.notSynchronized
  have hin : meth.name = "<init>" := (name_of_methodNamed B.named B.method).1
  subst hsz
  have hD := hD0.self (sz := s.heap.size)
  obtain ⟨hN9, hN18, hN41, hA3, hA4⟩ := hex
  generalize hAe : va_A [(h0, .inr (6, [.null, .null, .null, .null, .null, .null, .null, .null, .int 0]))] s.heap.size = A at hD ⊢
  have hA : ∀ q : Nat, s.heap.size ≤ q → A q := fun q h => by rw [← hAe]; exact Or.inr h
  have hS : va_S A s.heap s.heap [] := va_S.rf
  replace hP : va_P G vwCl [(h0, .inr (6, [.null, .null, .null, .null, .null, .null, .null, .null, .int 0]))] s.heap := hP
  have hl := lv_entry ([.ref h0]) (n := 1) (Nat.le_of_ble_eq_true rfl)
  rw [lg_entry_eq]
  generalize (lg_sl ([.ref h0]) ++ List.replicate (1 - (lg_sl ([.ref h0])).length) Slot.unset).toArray = ls at hl ⊢
  replace hl : lv_has ls 1 [(0, .ref h0)] := hl
  have hSt := hS
  refine lv_aload_n hx hb dX6_init_0 rfl (lv_at hl 0 rfl) ?_
  refine W.objInit hx hb hown (hts _ kw_74) (hts _ kw_75) (hts _ kw_76) rfl (by rw [hml]; exact hl.1) rfl dX6_init_1 (Nat.le_of_ble_eq_true rfl) (Nat.le_of_ble_eq_true rfl) ?_
  refine W.eq (g2 := F0 m 4 ls []) rfl ?_
  refine lv_aload_n hx hb dX6_init_4 rfl (lv_at hl 0 rfl) ?_
  refine va_new (ci := 3) (fs := [.null, .int 0]) (C := RX3) (T := TX3) (N := 2) hx hb hts inkX3 tyX3 tyX3_ok hown (hts _ kw_77) (hts _ kw_78) (hts _ kw_56) hK hP hD hS hA rfl (by intro j hj; match j, hj with | 0, _ => rfl | 1, _ => rfl) (Nat.le_of_ble_eq_true rfl) (Nat.le_of_ble_eq_true rfl) dX6_init_5 (fun q1 H hP hD hS => ?_)
  refine W.widen (k := 1) (n := 2) (Nat.le_of_ble_eq_true rfl) (Nat.le_of_ble_eq_true rfl) ?_
  replace hP : va_P G vwCl [(h0, .inr (6, [.null, .null, .null, .null, .null, .null, .null, .null, .int 0])), (q1, .inr (3, [.null, .int 0]))] H := hP
  replace hD : va_D A [(h0, .inr (6, [.null, .null, .null, .null, .null, .null, .null, .null, .int 0])), (q1, .inr (3, [.null, .int 0]))] := hD
  refine lv_dup hx hb dX6_init_8 rfl ?_
  have hPc := hP.sub (ws' := [(q1, .inr (3, [.null, .int 0]))]) [1] rfl
  have hDc := hD.sub (ws' := [(q1, .inr (3, [.null, .int 0]))]) [1] (by decide) rfl
  have hFc := va_free (wc := [(q1, .inr (3, [.null, .int 0]))]) hD hS hA [1] rfl
  refine va_callv (va_runIN (As := []) (rest := [.ref q1, .ref h0]) ⟨hx, hb, hml, hown, hts⟩ (kcK_Tape H.size q1) ⟨va_cnB 0 hts (kG_i kw_81) rfl rfl rfl hN9 (hts _ kw_56) (by decide +kernel) ⟨Nat.le_of_ble_eq_true rfl, Nat.le_of_ble_eq_true rfl⟩, rfl, hts _ kw_80⟩ ⟨s_Pk_blind, fun U hU hW => ⟨rfl, by rw [hU], by rw [hU]; exact hPc, va_K.moved hW.alike hK, hDc.weaken (fun _ _ _ _ => trivial)⟩⟩ rfl rfl hl.1 rfl (lv_room (Nat.le_of_ble_eq_true rfl)) dX6_init_9 ⟨Nat.le_of_ble_eq_true rfl, Nat.le_of_ble_eq_true rfl⟩) hS (fun q _ h => hFc q h) hFc (fun u t H locs ht hvm hw hB hz1 hk1 hS => ?_)
  obtain ⟨n1, rfl⟩ : ∃ z, z = u := ⟨_, rfl⟩
  obtain ⟨hP1, hD1⟩ := hB
  rw [ht] at hP1
  obtain ⟨hP, hD⟩ := va_join (wr := [(h0, .inr (6, [.null, .null, .null, .null, .null, .null, .null, .null, .int 0]))]) (w1 := [(q1, .inr (3, [.ref n1, .int 0])), (n1, .inl (cy 0, 320, .inl (fun _ => 0)))]) hP hD [1] [0] rfl rfl (by decide) (by decide) hk1 hFc hP1 hD1
  replace hP : va_P G vwCl [(h0, .inr (6, [.null, .null, .null, .null, .null, .null, .null, .null, .int 0])), (q1, .inr (3, [.ref n1, .int 0])), (n1, .inl (cy 0, 320, .inl (fun _ => 0)))] H := hP
  replace hD : va_D A [(h0, .inr (6, [.null, .null, .null, .null, .null, .null, .null, .null, .int 0])), (q1, .inr (3, [.ref n1, .int 0])), (n1, .inl (cy 0, 320, .inl (fun _ => 0)))] := hD
  refine W.widen (k := 2) (n := 322) (Nat.le_of_ble_eq_true rfl) (Nat.le_of_ble_eq_true rfl) ?_
  refine va_putF (D := G) (ci := 6) (v := .ref q1) (ty := (.object "SlidingRanks$Tape")) (C := RX6) (T := TX6) (N := 9) hx hb hts inkX6 tyX6 tyX6_ok nmX6 hown hK hP hD hS 0 rfl rfl 0 (by decide) (hts _ kw_230) (fun _ h9 => h9) rfl hin rfl (by decide +kernel) rfl rfl (Nat.le_of_ble_eq_true rfl) dX6_init_12 (fun H locs hP hD hS => ?_)
  replace hP : va_P G vwCl [(h0, .inr (6, [.ref q1, .null, .null, .null, .null, .null, .null, .null, .int 0])), (q1, .inr (3, [.ref n1, .int 0])), (n1, .inl (cy 0, 320, .inl (fun _ => 0)))] H := hP
  replace hD : va_D A [(h0, .inr (6, [.ref q1, .null, .null, .null, .null, .null, .null, .null, .int 0])), (q1, .inr (3, [.ref n1, .int 0])), (n1, .inl (cy 0, 320, .inl (fun _ => 0)))] := hD
  refine lv_aload_n hx hb dX6_init_15 rfl (lv_at hl 0 rfl) ?_
  refine va_new (ci := 4) (fs := [.null, .int 0, .int 0, .int 0, .int 0, .int 0, .int 0, .int 0, .int 0, .int 0, .int 0, .int 0]) (C := RX4) (T := TX4) (N := 12) hx hb hts inkX4 tyX4 tyX4_ok hown (hts _ kw_93) (hts _ kw_94) (hts _ kw_57) hK hP hD hS hA rfl (by intro j hj; match j, hj with | 0, _ => rfl | 1, _ => rfl | 2, _ => rfl | 3, _ => rfl | 4, _ => rfl | 5, _ => rfl | 6, _ => rfl | 7, _ => rfl | 8, _ => rfl | 9, _ => rfl | 10, _ => rfl | 11, _ => rfl) (Nat.le_of_ble_eq_true rfl) (Nat.le_of_ble_eq_true rfl) dX6_init_16 (fun q2 H hP hD hS => ?_)
  refine W.widen (k := 3) (n := 334) (Nat.le_of_ble_eq_true rfl) (Nat.le_of_ble_eq_true rfl) ?_
  replace hP : va_P G vwCl [(h0, .inr (6, [.ref q1, .null, .null, .null, .null, .null, .null, .null, .int 0])), (q1, .inr (3, [.ref n1, .int 0])), (n1, .inl (cy 0, 320, .inl (fun _ => 0))), (q2, .inr (4, [.null, .int 0, .int 0, .int 0, .int 0, .int 0, .int 0, .int 0, .int 0, .int 0, .int 0, .int 0]))] H := hP
  replace hD : va_D A [(h0, .inr (6, [.ref q1, .null, .null, .null, .null, .null, .null, .null, .int 0])), (q1, .inr (3, [.ref n1, .int 0])), (n1, .inl (cy 0, 320, .inl (fun _ => 0))), (q2, .inr (4, [.null, .int 0, .int 0, .int 0, .int 0, .int 0, .int 0, .int 0, .int 0, .int 0, .int 0, .int 0]))] := hD
  refine lv_dup hx hb dX6_init_19 rfl ?_
  have hPc := hP.sub (ws' := [(q2, .inr (4, [.null, .int 0, .int 0, .int 0, .int 0, .int 0, .int 0, .int 0, .int 0, .int 0, .int 0, .int 0]))]) [3] rfl
  have hDc := hD.sub (ws' := [(q2, .inr (4, [.null, .int 0, .int 0, .int 0, .int 0, .int 0, .int 0, .int 0, .int 0, .int 0, .int 0, .int 0]))]) [3] (by decide) rfl
  have hFc := va_free (wc := [(q2, .inr (4, [.null, .int 0, .int 0, .int 0, .int 0, .int 0, .int 0, .int 0, .int 0, .int 0, .int 0, .int 0]))]) hD hS hA [3] rfl
  refine va_callv (va_runIN (As := []) (rest := [.ref q2, .ref h0]) ⟨hx, hb, hml, hown, hts⟩ (kcK_Teller H.size q2) ⟨va_cnB 0 hts (kG_i kw_97) rfl rfl rfl hN18 (hts _ kw_57) (by decide +kernel) ⟨Nat.le_of_ble_eq_true rfl, Nat.le_of_ble_eq_true rfl⟩, rfl, hts _ kw_96⟩ ⟨s_Pk_blind, fun U hU hW => ⟨rfl, by rw [hU], by rw [hU]; exact hPc, va_K.moved hW.alike hK, hDc.weaken (fun _ _ _ _ => trivial)⟩⟩ rfl rfl hl.1 rfl (lv_room (Nat.le_of_ble_eq_true rfl)) dX6_init_20 ⟨Nat.le_of_ble_eq_true rfl, Nat.le_of_ble_eq_true rfl⟩) hS (fun q _ h => hFc q h) hFc (fun u t H locs ht hvm hw hB hz1 hk1 hS => ?_)
  obtain ⟨n2, n3⟩ := u
  obtain ⟨hP1, hD1⟩ := hB
  rw [ht] at hP1
  obtain ⟨hP, hD⟩ := va_join (wr := [(h0, .inr (6, [.ref q1, .null, .null, .null, .null, .null, .null, .null, .int 0])), (q1, .inr (3, [.ref n1, .int 0])), (n1, .inl (cy 0, 320, .inl (fun _ => 0)))]) (w1 := [(q2, .inr (4, [.ref n2, .int 12, .int 0, .int 0, .int 0, .int 0, .int 0, .int 0, .int (-4), .int 0, .int 0, .int 0])), (n2, .inr (1, [.ref n3, .int 0, .int 5, .int 1, .int 1, .int 2, .int 0, .int 0])), (n3, .inl (cy 1, 96, .inl (fun _ => 0)))]) hP hD [3] [0, 1, 2] rfl rfl (by decide) (by decide) hk1 hFc hP1 hD1
  replace hP : va_P G vwCl [(h0, .inr (6, [.ref q1, .null, .null, .null, .null, .null, .null, .null, .int 0])), (q1, .inr (3, [.ref n1, .int 0])), (n1, .inl (cy 0, 320, .inl (fun _ => 0))), (q2, .inr (4, [.ref n2, .int 12, .int 0, .int 0, .int 0, .int 0, .int 0, .int 0, .int (-4), .int 0, .int 0, .int 0])), (n2, .inr (1, [.ref n3, .int 0, .int 5, .int 1, .int 1, .int 2, .int 0, .int 0])), (n3, .inl (cy 1, 96, .inl (fun _ => 0)))] H := hP
  replace hD : va_D A [(h0, .inr (6, [.ref q1, .null, .null, .null, .null, .null, .null, .null, .int 0])), (q1, .inr (3, [.ref n1, .int 0])), (n1, .inl (cy 0, 320, .inl (fun _ => 0))), (q2, .inr (4, [.ref n2, .int 12, .int 0, .int 0, .int 0, .int 0, .int 0, .int 0, .int (-4), .int 0, .int 0, .int 0])), (n2, .inr (1, [.ref n3, .int 0, .int 5, .int 1, .int 1, .int 2, .int 0, .int 0])), (n3, .inl (cy 1, 96, .inl (fun _ => 0)))] := hD
  refine W.widen (k := 5) (n := 438) (Nat.le_of_ble_eq_true rfl) (Nat.le_of_ble_eq_true rfl) ?_
  refine va_putF (D := G) (ci := 6) (v := .ref q2) (ty := (.object "SlidingRanks$Teller")) (C := RX6) (T := TX6) (N := 9) hx hb hts inkX6 tyX6 tyX6_ok nmX6 hown hK hP hD hS 0 rfl rfl 1 (by decide) (hts _ kw_231) (fun _ h9 => h9) rfl hin rfl (by decide +kernel) rfl rfl (Nat.le_of_ble_eq_true rfl) dX6_init_23 (fun H locs hP hD hS => ?_)
  replace hP : va_P G vwCl [(h0, .inr (6, [.ref q1, .ref q2, .null, .null, .null, .null, .null, .null, .int 0])), (q1, .inr (3, [.ref n1, .int 0])), (n1, .inl (cy 0, 320, .inl (fun _ => 0))), (q2, .inr (4, [.ref n2, .int 12, .int 0, .int 0, .int 0, .int 0, .int 0, .int 0, .int (-4), .int 0, .int 0, .int 0])), (n2, .inr (1, [.ref n3, .int 0, .int 5, .int 1, .int 1, .int 2, .int 0, .int 0])), (n3, .inl (cy 1, 96, .inl (fun _ => 0)))] H := hP
  replace hD : va_D A [(h0, .inr (6, [.ref q1, .ref q2, .null, .null, .null, .null, .null, .null, .int 0])), (q1, .inr (3, [.ref n1, .int 0])), (n1, .inl (cy 0, 320, .inl (fun _ => 0))), (q2, .inr (4, [.ref n2, .int 12, .int 0, .int 0, .int 0, .int 0, .int 0, .int 0, .int (-4), .int 0, .int 0, .int 0])), (n2, .inr (1, [.ref n3, .int 0, .int 5, .int 1, .int 1, .int 2, .int 0, .int 0])), (n3, .inl (cy 1, 96, .inl (fun _ => 0)))] := hD
  refine lv_aload_n hx hb dX6_init_26 rfl (lv_at hl 0 rfl) ?_
  refine va_new (ci := 1) (fs := [.null, .int 0, .int 0, .int 0, .int 0, .int 0, .int 0, .int 0]) (C := RX1) (T := TX1) (N := 8) hx hb hts inkX1 tyX1 tyX1_ok hown (hts _ kw_194) (hts _ kw_100) (hts _ kw_58) hK hP hD hS hA rfl (by intro j hj; match j, hj with | 0, _ => rfl | 1, _ => rfl | 2, _ => rfl | 3, _ => rfl | 4, _ => rfl | 5, _ => rfl | 6, _ => rfl | 7, _ => rfl) (Nat.le_of_ble_eq_true rfl) (Nat.le_of_ble_eq_true rfl) dX6_init_27 (fun q3 H hP hD hS => ?_)
  refine W.widen (k := 6) (n := 446) (Nat.le_of_ble_eq_true rfl) (Nat.le_of_ble_eq_true rfl) ?_
  replace hP : va_P G vwCl [(h0, .inr (6, [.ref q1, .ref q2, .null, .null, .null, .null, .null, .null, .int 0])), (q1, .inr (3, [.ref n1, .int 0])), (n1, .inl (cy 0, 320, .inl (fun _ => 0))), (q2, .inr (4, [.ref n2, .int 12, .int 0, .int 0, .int 0, .int 0, .int 0, .int 0, .int (-4), .int 0, .int 0, .int 0])), (n2, .inr (1, [.ref n3, .int 0, .int 5, .int 1, .int 1, .int 2, .int 0, .int 0])), (n3, .inl (cy 1, 96, .inl (fun _ => 0))), (q3, .inr (1, [.null, .int 0, .int 0, .int 0, .int 0, .int 0, .int 0, .int 0]))] H := hP
  replace hD : va_D A [(h0, .inr (6, [.ref q1, .ref q2, .null, .null, .null, .null, .null, .null, .int 0])), (q1, .inr (3, [.ref n1, .int 0])), (n1, .inl (cy 0, 320, .inl (fun _ => 0))), (q2, .inr (4, [.ref n2, .int 12, .int 0, .int 0, .int 0, .int 0, .int 0, .int 0, .int (-4), .int 0, .int 0, .int 0])), (n2, .inr (1, [.ref n3, .int 0, .int 5, .int 1, .int 1, .int 2, .int 0, .int 0])), (n3, .inl (cy 1, 96, .inl (fun _ => 0))), (q3, .inr (1, [.null, .int 0, .int 0, .int 0, .int 0, .int 0, .int 0, .int 0]))] := hD
  refine lv_dup hx hb dX6_init_30 rfl ?_
  have hPc := hP.sub (ws' := [(q3, .inr (1, [.null, .int 0, .int 0, .int 0, .int 0, .int 0, .int 0, .int 0]))]) [6] rfl
  have hDc := hD.sub (ws' := [(q3, .inr (1, [.null, .int 0, .int 0, .int 0, .int 0, .int 0, .int 0, .int 0]))]) [6] (by decide) rfl
  have hFc := va_free (wc := [(q3, .inr (1, [.null, .int 0, .int 0, .int 0, .int 0, .int 0, .int 0, .int 0]))]) hD hS hA [6] rfl
  refine va_callv (va_runI (As := []) (rest := [.ref q3, .ref h0]) ⟨hx, hb, hml, hown, hts⟩ (kcK_Series H.size q3) (cwI 0 hts (kG_i kw_103) rfl rfl rfl (hts _ kw_58) (hts _ kw_195) (hts _ kw_102) rfl (by decide +kernel) ⟨Nat.le_of_ble_eq_true rfl, Nat.le_of_ble_eq_true rfl⟩) ⟨s_Pk_blind, fun U hU hW => ⟨rfl, by rw [hU], by rw [hU]; exact hPc, va_K.moved hW.alike hK, hDc.weaken (fun _ _ _ _ => trivial)⟩⟩ rfl rfl hl.1 rfl (lv_room (Nat.le_of_ble_eq_true rfl)) dX6_init_31 ⟨Nat.le_of_ble_eq_true rfl, Nat.le_of_ble_eq_true rfl⟩) hS (fun q _ h => hFc q h) hFc (fun u t H locs ht hvm hw hB hz1 hk1 hS => ?_)
  obtain ⟨n4, rfl⟩ : ∃ z, z = u := ⟨_, rfl⟩
  obtain ⟨hP1, hD1⟩ := hB
  rw [ht] at hP1
  obtain ⟨hP, hD⟩ := va_join (wr := [(h0, .inr (6, [.ref q1, .ref q2, .null, .null, .null, .null, .null, .null, .int 0])), (q1, .inr (3, [.ref n1, .int 0])), (n1, .inl (cy 0, 320, .inl (fun _ => 0))), (q2, .inr (4, [.ref n2, .int 12, .int 0, .int 0, .int 0, .int 0, .int 0, .int 0, .int (-4), .int 0, .int 0, .int 0])), (n2, .inr (1, [.ref n3, .int 0, .int 5, .int 1, .int 1, .int 2, .int 0, .int 0])), (n3, .inl (cy 1, 96, .inl (fun _ => 0)))]) (w1 := [(q3, .inr (1, [.ref n4, .int 0, .int 5, .int 1, .int 1, .int 2, .int 0, .int 0])), (n4, .inl (cy 1, 96, .inl (fun _ => 0)))]) hP hD [6] [0, 1, 2, 3, 4, 5] rfl rfl (by decide) (by decide) hk1 hFc hP1 hD1
  replace hP : va_P G vwCl [(h0, .inr (6, [.ref q1, .ref q2, .null, .null, .null, .null, .null, .null, .int 0])), (q1, .inr (3, [.ref n1, .int 0])), (n1, .inl (cy 0, 320, .inl (fun _ => 0))), (q2, .inr (4, [.ref n2, .int 12, .int 0, .int 0, .int 0, .int 0, .int 0, .int 0, .int (-4), .int 0, .int 0, .int 0])), (n2, .inr (1, [.ref n3, .int 0, .int 5, .int 1, .int 1, .int 2, .int 0, .int 0])), (n3, .inl (cy 1, 96, .inl (fun _ => 0))), (q3, .inr (1, [.ref n4, .int 0, .int 5, .int 1, .int 1, .int 2, .int 0, .int 0])), (n4, .inl (cy 1, 96, .inl (fun _ => 0)))] H := hP
  replace hD : va_D A [(h0, .inr (6, [.ref q1, .ref q2, .null, .null, .null, .null, .null, .null, .int 0])), (q1, .inr (3, [.ref n1, .int 0])), (n1, .inl (cy 0, 320, .inl (fun _ => 0))), (q2, .inr (4, [.ref n2, .int 12, .int 0, .int 0, .int 0, .int 0, .int 0, .int 0, .int (-4), .int 0, .int 0, .int 0])), (n2, .inr (1, [.ref n3, .int 0, .int 5, .int 1, .int 1, .int 2, .int 0, .int 0])), (n3, .inl (cy 1, 96, .inl (fun _ => 0))), (q3, .inr (1, [.ref n4, .int 0, .int 5, .int 1, .int 1, .int 2, .int 0, .int 0])), (n4, .inl (cy 1, 96, .inl (fun _ => 0)))] := hD
  refine W.widen (k := 7) (n := 542) (Nat.le_of_ble_eq_true rfl) (Nat.le_of_ble_eq_true rfl) ?_
  refine va_putF (D := G) (ci := 6) (v := .ref q3) (ty := (.object "SlidingRanks$Series")) (C := RX6) (T := TX6) (N := 9) hx hb hts inkX6 tyX6 tyX6_ok nmX6 hown hK hP hD hS 0 rfl rfl 2 (by decide) (hts _ kw_232) (fun _ h9 => h9) rfl hin rfl (by decide +kernel) rfl rfl (Nat.le_of_ble_eq_true rfl) dX6_init_34 (fun H locs hP hD hS => ?_)
  replace hP : va_P G vwCl [(h0, .inr (6, [.ref q1, .ref q2, .ref q3, .null, .null, .null, .null, .null, .int 0])), (q1, .inr (3, [.ref n1, .int 0])), (n1, .inl (cy 0, 320, .inl (fun _ => 0))), (q2, .inr (4, [.ref n2, .int 12, .int 0, .int 0, .int 0, .int 0, .int 0, .int 0, .int (-4), .int 0, .int 0, .int 0])), (n2, .inr (1, [.ref n3, .int 0, .int 5, .int 1, .int 1, .int 2, .int 0, .int 0])), (n3, .inl (cy 1, 96, .inl (fun _ => 0))), (q3, .inr (1, [.ref n4, .int 0, .int 5, .int 1, .int 1, .int 2, .int 0, .int 0])), (n4, .inl (cy 1, 96, .inl (fun _ => 0)))] H := hP
  replace hD : va_D A [(h0, .inr (6, [.ref q1, .ref q2, .ref q3, .null, .null, .null, .null, .null, .int 0])), (q1, .inr (3, [.ref n1, .int 0])), (n1, .inl (cy 0, 320, .inl (fun _ => 0))), (q2, .inr (4, [.ref n2, .int 12, .int 0, .int 0, .int 0, .int 0, .int 0, .int 0, .int (-4), .int 0, .int 0, .int 0])), (n2, .inr (1, [.ref n3, .int 0, .int 5, .int 1, .int 1, .int 2, .int 0, .int 0])), (n3, .inl (cy 1, 96, .inl (fun _ => 0))), (q3, .inr (1, [.ref n4, .int 0, .int 5, .int 1, .int 1, .int 2, .int 0, .int 0])), (n4, .inl (cy 1, 96, .inl (fun _ => 0)))] := hD
  refine lv_aload_n hx hb dX6_init_37 rfl (lv_at hl 0 rfl) ?_
  refine va_new (ci := 0) (fs := [.null, .null, .int 0]) (C := RX0) (T := TX0) (N := 3) hx hb hts inkX0 tyX0 tyX0_ok hown (hts _ kw_196) (hts _ kw_197) (hts _ kw_59) hK hP hD hS hA rfl (by intro j hj; match j, hj with | 0, _ => rfl | 1, _ => rfl | 2, _ => rfl) (Nat.le_of_ble_eq_true rfl) (Nat.le_of_ble_eq_true rfl) dX6_init_38 (fun q4 H hP hD hS => ?_)
  refine W.widen (k := 8) (n := 545) (Nat.le_of_ble_eq_true rfl) (Nat.le_of_ble_eq_true rfl) ?_
  replace hP : va_P G vwCl [(h0, .inr (6, [.ref q1, .ref q2, .ref q3, .null, .null, .null, .null, .null, .int 0])), (q1, .inr (3, [.ref n1, .int 0])), (n1, .inl (cy 0, 320, .inl (fun _ => 0))), (q2, .inr (4, [.ref n2, .int 12, .int 0, .int 0, .int 0, .int 0, .int 0, .int 0, .int (-4), .int 0, .int 0, .int 0])), (n2, .inr (1, [.ref n3, .int 0, .int 5, .int 1, .int 1, .int 2, .int 0, .int 0])), (n3, .inl (cy 1, 96, .inl (fun _ => 0))), (q3, .inr (1, [.ref n4, .int 0, .int 5, .int 1, .int 1, .int 2, .int 0, .int 0])), (n4, .inl (cy 1, 96, .inl (fun _ => 0))), (q4, .inr (0, [.null, .null, .int 0]))] H := hP
  replace hD : va_D A [(h0, .inr (6, [.ref q1, .ref q2, .ref q3, .null, .null, .null, .null, .null, .int 0])), (q1, .inr (3, [.ref n1, .int 0])), (n1, .inl (cy 0, 320, .inl (fun _ => 0))), (q2, .inr (4, [.ref n2, .int 12, .int 0, .int 0, .int 0, .int 0, .int 0, .int 0, .int (-4), .int 0, .int 0, .int 0])), (n2, .inr (1, [.ref n3, .int 0, .int 5, .int 1, .int 1, .int 2, .int 0, .int 0])), (n3, .inl (cy 1, 96, .inl (fun _ => 0))), (q3, .inr (1, [.ref n4, .int 0, .int 5, .int 1, .int 1, .int 2, .int 0, .int 0])), (n4, .inl (cy 1, 96, .inl (fun _ => 0))), (q4, .inr (0, [.null, .null, .int 0]))] := hD
  refine lv_dup hx hb dX6_init_41 rfl ?_
  refine lv_aload_n hx hb dX6_init_42 rfl (lv_at hl 0 rfl) ?_
  refine va_get (D := G) (ci := 6) (v := .ref q3) (C := RX6) (T := TX6) (N := 9) hx hb hts inkX6 hown hK hP 0 rfl rfl 2 (by decide) (hts _ kw_232) (fun _ h9 => h9) rfl dX6_init_43 ?_
  have hPc := hP.sub (ws' := [(q4, .inr (0, [.null, .null, .int 0]))]) [8] rfl
  have hDc := hD.sub (ws' := [(q4, .inr (0, [.null, .null, .int 0]))]) [8] (by decide) rfl
  have hFc := va_free (wc := [(q4, .inr (0, [.null, .null, .int 0]))]) hD hS hA [8] rfl
  refine va_callv (va_runI (As := [.ref q3]) (rest := [.ref q4, .ref h0]) ⟨hx, hb, hml, hown, hts⟩ (kcK_Row H.size q4 q3) (cwI 1 hts (kG_i kw_200) rfl rfl rfl (hts _ kw_59) (hts _ kw_198) (hts _ kw_199) rfl (by decide +kernel) ⟨Nat.le_of_ble_eq_true rfl, Nat.le_of_ble_eq_true rfl⟩) ⟨s_Pk_blind, fun U hU hW => ⟨rfl, by rw [hU], by rw [hU]; exact hPc, va_K.moved hW.alike hK, hDc.weaken (fun _ _ _ _ => trivial)⟩⟩ rfl rfl hl.1 rfl (lv_room (Nat.le_of_ble_eq_true rfl)) dX6_init_46 ⟨Nat.le_of_ble_eq_true rfl, Nat.le_of_ble_eq_true rfl⟩) hS (fun q _ h => hFc q h) hFc (fun u t H locs ht hvm hw hB hz1 hk1 hS => ?_)
  obtain ⟨n5, rfl⟩ : ∃ z, z = u := ⟨_, rfl⟩
  obtain ⟨hP1, hD1⟩ := hB
  rw [ht] at hP1
  obtain ⟨hP, hD⟩ := va_join (wr := [(h0, .inr (6, [.ref q1, .ref q2, .ref q3, .null, .null, .null, .null, .null, .int 0])), (q1, .inr (3, [.ref n1, .int 0])), (n1, .inl (cy 0, 320, .inl (fun _ => 0))), (q2, .inr (4, [.ref n2, .int 12, .int 0, .int 0, .int 0, .int 0, .int 0, .int 0, .int (-4), .int 0, .int 0, .int 0])), (n2, .inr (1, [.ref n3, .int 0, .int 5, .int 1, .int 1, .int 2, .int 0, .int 0])), (n3, .inl (cy 1, 96, .inl (fun _ => 0))), (q3, .inr (1, [.ref n4, .int 0, .int 5, .int 1, .int 1, .int 2, .int 0, .int 0])), (n4, .inl (cy 1, 96, .inl (fun _ => 0)))]) (w1 := [(q4, .inr (0, [.ref q3, .ref n5, .int 0])), (n5, .inl (cy 1, 24, .inl (fun _ => 0)))]) hP hD [8] [0, 1, 2, 3, 4, 5, 6, 7] rfl rfl (by decide) (by decide) hk1 hFc hP1 hD1
  replace hP : va_P G vwCl [(h0, .inr (6, [.ref q1, .ref q2, .ref q3, .null, .null, .null, .null, .null, .int 0])), (q1, .inr (3, [.ref n1, .int 0])), (n1, .inl (cy 0, 320, .inl (fun _ => 0))), (q2, .inr (4, [.ref n2, .int 12, .int 0, .int 0, .int 0, .int 0, .int 0, .int 0, .int (-4), .int 0, .int 0, .int 0])), (n2, .inr (1, [.ref n3, .int 0, .int 5, .int 1, .int 1, .int 2, .int 0, .int 0])), (n3, .inl (cy 1, 96, .inl (fun _ => 0))), (q3, .inr (1, [.ref n4, .int 0, .int 5, .int 1, .int 1, .int 2, .int 0, .int 0])), (n4, .inl (cy 1, 96, .inl (fun _ => 0))), (q4, .inr (0, [.ref q3, .ref n5, .int 0])), (n5, .inl (cy 1, 24, .inl (fun _ => 0)))] H := hP
  replace hD : va_D A [(h0, .inr (6, [.ref q1, .ref q2, .ref q3, .null, .null, .null, .null, .null, .int 0])), (q1, .inr (3, [.ref n1, .int 0])), (n1, .inl (cy 0, 320, .inl (fun _ => 0))), (q2, .inr (4, [.ref n2, .int 12, .int 0, .int 0, .int 0, .int 0, .int 0, .int 0, .int (-4), .int 0, .int 0, .int 0])), (n2, .inr (1, [.ref n3, .int 0, .int 5, .int 1, .int 1, .int 2, .int 0, .int 0])), (n3, .inl (cy 1, 96, .inl (fun _ => 0))), (q3, .inr (1, [.ref n4, .int 0, .int 5, .int 1, .int 1, .int 2, .int 0, .int 0])), (n4, .inl (cy 1, 96, .inl (fun _ => 0))), (q4, .inr (0, [.ref q3, .ref n5, .int 0])), (n5, .inl (cy 1, 24, .inl (fun _ => 0)))] := hD
  refine W.widen (k := 9) (n := 569) (Nat.le_of_ble_eq_true rfl) (Nat.le_of_ble_eq_true rfl) ?_
  refine va_putF (D := G) (ci := 6) (v := .ref q4) (ty := (.object "SlidingRanks$Row")) (C := RX6) (T := TX6) (N := 9) hx hb hts inkX6 tyX6 tyX6_ok nmX6 hown hK hP hD hS 0 rfl rfl 3 (by decide) (hts _ kw_233) (fun _ h9 => h9) rfl hin rfl (by decide +kernel) rfl rfl (Nat.le_of_ble_eq_true rfl) dX6_init_49 (fun H locs hP hD hS => ?_)
  replace hP : va_P G vwCl [(h0, .inr (6, [.ref q1, .ref q2, .ref q3, .ref q4, .null, .null, .null, .null, .int 0])), (q1, .inr (3, [.ref n1, .int 0])), (n1, .inl (cy 0, 320, .inl (fun _ => 0))), (q2, .inr (4, [.ref n2, .int 12, .int 0, .int 0, .int 0, .int 0, .int 0, .int 0, .int (-4), .int 0, .int 0, .int 0])), (n2, .inr (1, [.ref n3, .int 0, .int 5, .int 1, .int 1, .int 2, .int 0, .int 0])), (n3, .inl (cy 1, 96, .inl (fun _ => 0))), (q3, .inr (1, [.ref n4, .int 0, .int 5, .int 1, .int 1, .int 2, .int 0, .int 0])), (n4, .inl (cy 1, 96, .inl (fun _ => 0))), (q4, .inr (0, [.ref q3, .ref n5, .int 0])), (n5, .inl (cy 1, 24, .inl (fun _ => 0)))] H := hP
  replace hD : va_D A [(h0, .inr (6, [.ref q1, .ref q2, .ref q3, .ref q4, .null, .null, .null, .null, .int 0])), (q1, .inr (3, [.ref n1, .int 0])), (n1, .inl (cy 0, 320, .inl (fun _ => 0))), (q2, .inr (4, [.ref n2, .int 12, .int 0, .int 0, .int 0, .int 0, .int 0, .int 0, .int (-4), .int 0, .int 0, .int 0])), (n2, .inr (1, [.ref n3, .int 0, .int 5, .int 1, .int 1, .int 2, .int 0, .int 0])), (n3, .inl (cy 1, 96, .inl (fun _ => 0))), (q3, .inr (1, [.ref n4, .int 0, .int 5, .int 1, .int 1, .int 2, .int 0, .int 0])), (n4, .inl (cy 1, 96, .inl (fun _ => 0))), (q4, .inr (0, [.ref q3, .ref n5, .int 0])), (n5, .inl (cy 1, 24, .inl (fun _ => 0)))] := hD
  refine lv_aload_n hx hb dX6_init_52 rfl (lv_at hl 0 rfl) ?_
  refine va_new (ci := 5) (fs := [.null, .int 0]) (C := RX5) (T := TX5) (N := 2) hx hb hts inkX5 tyX5 tyX5_ok hown (hts _ kw_213) (hts _ kw_214) (hts _ kw_60) hK hP hD hS hA rfl (by intro j hj; match j, hj with | 0, _ => rfl | 1, _ => rfl) (Nat.le_of_ble_eq_true rfl) (Nat.le_of_ble_eq_true rfl) dX6_init_53 (fun q5 H hP hD hS => ?_)
  refine W.widen (k := 10) (n := 571) (Nat.le_of_ble_eq_true rfl) (Nat.le_of_ble_eq_true rfl) ?_
  replace hP : va_P G vwCl [(h0, .inr (6, [.ref q1, .ref q2, .ref q3, .ref q4, .null, .null, .null, .null, .int 0])), (q1, .inr (3, [.ref n1, .int 0])), (n1, .inl (cy 0, 320, .inl (fun _ => 0))), (q2, .inr (4, [.ref n2, .int 12, .int 0, .int 0, .int 0, .int 0, .int 0, .int 0, .int (-4), .int 0, .int 0, .int 0])), (n2, .inr (1, [.ref n3, .int 0, .int 5, .int 1, .int 1, .int 2, .int 0, .int 0])), (n3, .inl (cy 1, 96, .inl (fun _ => 0))), (q3, .inr (1, [.ref n4, .int 0, .int 5, .int 1, .int 1, .int 2, .int 0, .int 0])), (n4, .inl (cy 1, 96, .inl (fun _ => 0))), (q4, .inr (0, [.ref q3, .ref n5, .int 0])), (n5, .inl (cy 1, 24, .inl (fun _ => 0))), (q5, .inr (5, [.null, .int 0]))] H := hP
  replace hD : va_D A [(h0, .inr (6, [.ref q1, .ref q2, .ref q3, .ref q4, .null, .null, .null, .null, .int 0])), (q1, .inr (3, [.ref n1, .int 0])), (n1, .inl (cy 0, 320, .inl (fun _ => 0))), (q2, .inr (4, [.ref n2, .int 12, .int 0, .int 0, .int 0, .int 0, .int 0, .int 0, .int (-4), .int 0, .int 0, .int 0])), (n2, .inr (1, [.ref n3, .int 0, .int 5, .int 1, .int 1, .int 2, .int 0, .int 0])), (n3, .inl (cy 1, 96, .inl (fun _ => 0))), (q3, .inr (1, [.ref n4, .int 0, .int 5, .int 1, .int 1, .int 2, .int 0, .int 0])), (n4, .inl (cy 1, 96, .inl (fun _ => 0))), (q4, .inr (0, [.ref q3, .ref n5, .int 0])), (n5, .inl (cy 1, 24, .inl (fun _ => 0))), (q5, .inr (5, [.null, .int 0]))] := hD
  refine lv_dup hx hb dX6_init_56 rfl ?_
  have hPc := hP.sub (ws' := [(q5, .inr (5, [.null, .int 0]))]) [10] rfl
  have hDc := hD.sub (ws' := [(q5, .inr (5, [.null, .int 0]))]) [10] (by decide) rfl
  have hFc := va_free (wc := [(q5, .inr (5, [.null, .int 0]))]) hD hS hA [10] rfl
  refine va_callv (va_runIN (As := []) (rest := [.ref q5, .ref h0]) ⟨hx, hb, hml, hown, hts⟩ (kcK_Words H.size q5) ⟨va_cnB 0 hts (kG_i kw_217) rfl rfl rfl hN41 (hts _ kw_60) (by decide +kernel) ⟨Nat.le_of_ble_eq_true rfl, Nat.le_of_ble_eq_true rfl⟩, rfl, hts _ kw_216⟩ ⟨s_Pk_blind, fun U hU hW => ⟨rfl, by rw [hU], by rw [hU]; exact hPc, va_K.moved hW.alike hK, hDc.weaken (fun _ _ _ _ => trivial)⟩⟩ rfl rfl hl.1 rfl (lv_room (Nat.le_of_ble_eq_true rfl)) dX6_init_57 ⟨Nat.le_of_ble_eq_true rfl, Nat.le_of_ble_eq_true rfl⟩) hS (fun q _ h => hFc q h) hFc (fun u t H locs ht hvm hw hB hz1 hk1 hS => ?_)
  obtain ⟨n6, rfl⟩ : ∃ z, z = u := ⟨_, rfl⟩
  obtain ⟨hP1, hD1⟩ := hB
  rw [ht] at hP1
  obtain ⟨hP, hD⟩ := va_join (wr := [(h0, .inr (6, [.ref q1, .ref q2, .ref q3, .ref q4, .null, .null, .null, .null, .int 0])), (q1, .inr (3, [.ref n1, .int 0])), (n1, .inl (cy 0, 320, .inl (fun _ => 0))), (q2, .inr (4, [.ref n2, .int 12, .int 0, .int 0, .int 0, .int 0, .int 0, .int 0, .int (-4), .int 0, .int 0, .int 0])), (n2, .inr (1, [.ref n3, .int 0, .int 5, .int 1, .int 1, .int 2, .int 0, .int 0])), (n3, .inl (cy 1, 96, .inl (fun _ => 0))), (q3, .inr (1, [.ref n4, .int 0, .int 5, .int 1, .int 1, .int 2, .int 0, .int 0])), (n4, .inl (cy 1, 96, .inl (fun _ => 0))), (q4, .inr (0, [.ref q3, .ref n5, .int 0])), (n5, .inl (cy 1, 24, .inl (fun _ => 0)))]) (w1 := [(q5, .inr (5, [.ref n6, .int 0])), (n6, .inl (cy 0, 8, .inl (fun _ => 0)))]) hP hD [10] [0, 1, 2, 3, 4, 5, 6, 7, 8, 9] rfl rfl (by decide) (by decide) hk1 hFc hP1 hD1
  replace hP : va_P G vwCl [(h0, .inr (6, [.ref q1, .ref q2, .ref q3, .ref q4, .null, .null, .null, .null, .int 0])), (q1, .inr (3, [.ref n1, .int 0])), (n1, .inl (cy 0, 320, .inl (fun _ => 0))), (q2, .inr (4, [.ref n2, .int 12, .int 0, .int 0, .int 0, .int 0, .int 0, .int 0, .int (-4), .int 0, .int 0, .int 0])), (n2, .inr (1, [.ref n3, .int 0, .int 5, .int 1, .int 1, .int 2, .int 0, .int 0])), (n3, .inl (cy 1, 96, .inl (fun _ => 0))), (q3, .inr (1, [.ref n4, .int 0, .int 5, .int 1, .int 1, .int 2, .int 0, .int 0])), (n4, .inl (cy 1, 96, .inl (fun _ => 0))), (q4, .inr (0, [.ref q3, .ref n5, .int 0])), (n5, .inl (cy 1, 24, .inl (fun _ => 0))), (q5, .inr (5, [.ref n6, .int 0])), (n6, .inl (cy 0, 8, .inl (fun _ => 0)))] H := hP
  replace hD : va_D A [(h0, .inr (6, [.ref q1, .ref q2, .ref q3, .ref q4, .null, .null, .null, .null, .int 0])), (q1, .inr (3, [.ref n1, .int 0])), (n1, .inl (cy 0, 320, .inl (fun _ => 0))), (q2, .inr (4, [.ref n2, .int 12, .int 0, .int 0, .int 0, .int 0, .int 0, .int 0, .int (-4), .int 0, .int 0, .int 0])), (n2, .inr (1, [.ref n3, .int 0, .int 5, .int 1, .int 1, .int 2, .int 0, .int 0])), (n3, .inl (cy 1, 96, .inl (fun _ => 0))), (q3, .inr (1, [.ref n4, .int 0, .int 5, .int 1, .int 1, .int 2, .int 0, .int 0])), (n4, .inl (cy 1, 96, .inl (fun _ => 0))), (q4, .inr (0, [.ref q3, .ref n5, .int 0])), (n5, .inl (cy 1, 24, .inl (fun _ => 0))), (q5, .inr (5, [.ref n6, .int 0])), (n6, .inl (cy 0, 8, .inl (fun _ => 0)))] := hD
  refine W.widen (k := 11) (n := 579) (Nat.le_of_ble_eq_true rfl) (Nat.le_of_ble_eq_true rfl) ?_
  refine va_putF (D := G) (ci := 6) (v := .ref q5) (ty := (.object "SlidingRanks$Words")) (C := RX6) (T := TX6) (N := 9) hx hb hts inkX6 tyX6 tyX6_ok nmX6 hown hK hP hD hS 0 rfl rfl 4 (by decide) (hts _ kw_234) (fun _ h9 => h9) rfl hin rfl (by decide +kernel) rfl rfl (Nat.le_of_ble_eq_true rfl) dX6_init_60 (fun H locs hP hD hS => ?_)
  replace hP : va_P G vwCl [(h0, .inr (6, [.ref q1, .ref q2, .ref q3, .ref q4, .ref q5, .null, .null, .null, .int 0])), (q1, .inr (3, [.ref n1, .int 0])), (n1, .inl (cy 0, 320, .inl (fun _ => 0))), (q2, .inr (4, [.ref n2, .int 12, .int 0, .int 0, .int 0, .int 0, .int 0, .int 0, .int (-4), .int 0, .int 0, .int 0])), (n2, .inr (1, [.ref n3, .int 0, .int 5, .int 1, .int 1, .int 2, .int 0, .int 0])), (n3, .inl (cy 1, 96, .inl (fun _ => 0))), (q3, .inr (1, [.ref n4, .int 0, .int 5, .int 1, .int 1, .int 2, .int 0, .int 0])), (n4, .inl (cy 1, 96, .inl (fun _ => 0))), (q4, .inr (0, [.ref q3, .ref n5, .int 0])), (n5, .inl (cy 1, 24, .inl (fun _ => 0))), (q5, .inr (5, [.ref n6, .int 0])), (n6, .inl (cy 0, 8, .inl (fun _ => 0)))] H := hP
  replace hD : va_D A [(h0, .inr (6, [.ref q1, .ref q2, .ref q3, .ref q4, .ref q5, .null, .null, .null, .int 0])), (q1, .inr (3, [.ref n1, .int 0])), (n1, .inl (cy 0, 320, .inl (fun _ => 0))), (q2, .inr (4, [.ref n2, .int 12, .int 0, .int 0, .int 0, .int 0, .int 0, .int 0, .int (-4), .int 0, .int 0, .int 0])), (n2, .inr (1, [.ref n3, .int 0, .int 5, .int 1, .int 1, .int 2, .int 0, .int 0])), (n3, .inl (cy 1, 96, .inl (fun _ => 0))), (q3, .inr (1, [.ref n4, .int 0, .int 5, .int 1, .int 1, .int 2, .int 0, .int 0])), (n4, .inl (cy 1, 96, .inl (fun _ => 0))), (q4, .inr (0, [.ref q3, .ref n5, .int 0])), (n5, .inl (cy 1, 24, .inl (fun _ => 0))), (q5, .inr (5, [.ref n6, .int 0])), (n6, .inl (cy 0, 8, .inl (fun _ => 0)))] := hD
  refine lv_aload_n hx hb dX6_init_63 rfl (lv_at hl 0 rfl) ?_
  refine lv_iconst (v := 2) hx hb dX6_init_64 (by decide) ?_
  refine s_newq hx hb hown (hts _ kw_194) hA3 hK 3 rfl hP hD hS hA (by decide) (by decide) (Nat.le_of_ble_eq_true rfl) (Nat.le_of_ble_eq_true rfl) (Nat.le_of_ble_eq_true rfl) dX6_init_65 (fun q6 H hP hD hS => ?_)
  refine W.widen (k := 12) (n := 581) (Nat.le_of_ble_eq_true rfl) (Nat.le_of_ble_eq_true rfl) ?_
  replace hP : va_P G vwCl [(h0, .inr (6, [.ref q1, .ref q2, .ref q3, .ref q4, .ref q5, .null, .null, .null, .int 0])), (q1, .inr (3, [.ref n1, .int 0])), (n1, .inl (cy 0, 320, .inl (fun _ => 0))), (q2, .inr (4, [.ref n2, .int 12, .int 0, .int 0, .int 0, .int 0, .int 0, .int 0, .int (-4), .int 0, .int 0, .int 0])), (n2, .inr (1, [.ref n3, .int 0, .int 5, .int 1, .int 1, .int 2, .int 0, .int 0])), (n3, .inl (cy 1, 96, .inl (fun _ => 0))), (q3, .inr (1, [.ref n4, .int 0, .int 5, .int 1, .int 1, .int 2, .int 0, .int 0])), (n4, .inl (cy 1, 96, .inl (fun _ => 0))), (q4, .inr (0, [.ref q3, .ref n5, .int 0])), (n5, .inl (cy 1, 24, .inl (fun _ => 0))), (q5, .inr (5, [.ref n6, .int 0])), (n6, .inl (cy 0, 8, .inl (fun _ => 0))), (q6, .inl (cy 3, 2, .inr (.inr (.inr (.inr (fun _ => none))))))] H := hP
  replace hD : va_D A [(h0, .inr (6, [.ref q1, .ref q2, .ref q3, .ref q4, .ref q5, .null, .null, .null, .int 0])), (q1, .inr (3, [.ref n1, .int 0])), (n1, .inl (cy 0, 320, .inl (fun _ => 0))), (q2, .inr (4, [.ref n2, .int 12, .int 0, .int 0, .int 0, .int 0, .int 0, .int 0, .int (-4), .int 0, .int 0, .int 0])), (n2, .inr (1, [.ref n3, .int 0, .int 5, .int 1, .int 1, .int 2, .int 0, .int 0])), (n3, .inl (cy 1, 96, .inl (fun _ => 0))), (q3, .inr (1, [.ref n4, .int 0, .int 5, .int 1, .int 1, .int 2, .int 0, .int 0])), (n4, .inl (cy 1, 96, .inl (fun _ => 0))), (q4, .inr (0, [.ref q3, .ref n5, .int 0])), (n5, .inl (cy 1, 24, .inl (fun _ => 0))), (q5, .inr (5, [.ref n6, .int 0])), (n6, .inl (cy 0, 8, .inl (fun _ => 0))), (q6, .inl (cy 3, 2, .inr (.inr (.inr (.inr (fun _ => none))))))] := hD
  refine lv_dup hx hb dX6_init_68 rfl ?_
  refine lv_iconst (v := 0) hx hb dX6_init_69 (by decide) ?_
  refine va_new (ci := 1) (fs := [.null, .int 0, .int 0, .int 0, .int 0, .int 0, .int 0, .int 0]) (C := RX1) (T := TX1) (N := 8) hx hb hts inkX1 tyX1 tyX1_ok hown (hts _ kw_194) (hts _ kw_100) (hts _ kw_58) hK hP hD hS hA rfl (by intro j hj; match j, hj with | 0, _ => rfl | 1, _ => rfl | 2, _ => rfl | 3, _ => rfl | 4, _ => rfl | 5, _ => rfl | 6, _ => rfl | 7, _ => rfl) (Nat.le_of_ble_eq_true rfl) (Nat.le_of_ble_eq_true rfl) dX6_init_70 (fun q7 H hP hD hS => ?_)
  refine W.widen (k := 13) (n := 589) (Nat.le_of_ble_eq_true rfl) (Nat.le_of_ble_eq_true rfl) ?_
  replace hP : va_P G vwCl [(h0, .inr (6, [.ref q1, .ref q2, .ref q3, .ref q4, .ref q5, .null, .null, .null, .int 0])), (q1, .inr (3, [.ref n1, .int 0])), (n1, .inl (cy 0, 320, .inl (fun _ => 0))), (q2, .inr (4, [.ref n2, .int 12, .int 0, .int 0, .int 0, .int 0, .int 0, .int 0, .int (-4), .int 0, .int 0, .int 0])), (n2, .inr (1, [.ref n3, .int 0, .int 5, .int 1, .int 1, .int 2, .int 0, .int 0])), (n3, .inl (cy 1, 96, .inl (fun _ => 0))), (q3, .inr (1, [.ref n4, .int 0, .int 5, .int 1, .int 1, .int 2, .int 0, .int 0])), (n4, .inl (cy 1, 96, .inl (fun _ => 0))), (q4, .inr (0, [.ref q3, .ref n5, .int 0])), (n5, .inl (cy 1, 24, .inl (fun _ => 0))), (q5, .inr (5, [.ref n6, .int 0])), (n6, .inl (cy 0, 8, .inl (fun _ => 0))), (q6, .inl (cy 3, 2, .inr (.inr (.inr (.inr (fun _ => none)))))), (q7, .inr (1, [.null, .int 0, .int 0, .int 0, .int 0, .int 0, .int 0, .int 0]))] H := hP
  replace hD : va_D A [(h0, .inr (6, [.ref q1, .ref q2, .ref q3, .ref q4, .ref q5, .null, .null, .null, .int 0])), (q1, .inr (3, [.ref n1, .int 0])), (n1, .inl (cy 0, 320, .inl (fun _ => 0))), (q2, .inr (4, [.ref n2, .int 12, .int 0, .int 0, .int 0, .int 0, .int 0, .int 0, .int (-4), .int 0, .int 0, .int 0])), (n2, .inr (1, [.ref n3, .int 0, .int 5, .int 1, .int 1, .int 2, .int 0, .int 0])), (n3, .inl (cy 1, 96, .inl (fun _ => 0))), (q3, .inr (1, [.ref n4, .int 0, .int 5, .int 1, .int 1, .int 2, .int 0, .int 0])), (n4, .inl (cy 1, 96, .inl (fun _ => 0))), (q4, .inr (0, [.ref q3, .ref n5, .int 0])), (n5, .inl (cy 1, 24, .inl (fun _ => 0))), (q5, .inr (5, [.ref n6, .int 0])), (n6, .inl (cy 0, 8, .inl (fun _ => 0))), (q6, .inl (cy 3, 2, .inr (.inr (.inr (.inr (fun _ => none)))))), (q7, .inr (1, [.null, .int 0, .int 0, .int 0, .int 0, .int 0, .int 0, .int 0]))] := hD
  refine lv_dup hx hb dX6_init_73 rfl ?_
  have hPc := hP.sub (ws' := [(q7, .inr (1, [.null, .int 0, .int 0, .int 0, .int 0, .int 0, .int 0, .int 0]))]) [13] rfl
  have hDc := hD.sub (ws' := [(q7, .inr (1, [.null, .int 0, .int 0, .int 0, .int 0, .int 0, .int 0, .int 0]))]) [13] (by decide) rfl
  have hFc := va_free (wc := [(q7, .inr (1, [.null, .int 0, .int 0, .int 0, .int 0, .int 0, .int 0, .int 0]))]) hD hS hA [13] rfl
  refine va_callv (va_runI (As := []) (rest := [.ref q7, .int 0, .ref q6, .ref q6, .ref h0]) ⟨hx, hb, hml, hown, hts⟩ (kcK_Series H.size q7) (cwI 0 hts (kG_i kw_103) rfl rfl rfl (hts _ kw_58) (hts _ kw_195) (hts _ kw_102) rfl (by decide +kernel) ⟨Nat.le_of_ble_eq_true rfl, Nat.le_of_ble_eq_true rfl⟩) ⟨s_Pk_blind, fun U hU hW => ⟨rfl, by rw [hU], by rw [hU]; exact hPc, va_K.moved hW.alike hK, hDc.weaken (fun _ _ _ _ => trivial)⟩⟩ rfl rfl hl.1 rfl (lv_room (Nat.le_of_ble_eq_true rfl)) dX6_init_74 ⟨Nat.le_of_ble_eq_true rfl, Nat.le_of_ble_eq_true rfl⟩) hS (fun q _ h => hFc q h) hFc (fun u t H locs ht hvm hw hB hz1 hk1 hS => ?_)
  obtain ⟨n7, rfl⟩ : ∃ z, z = u := ⟨_, rfl⟩
  obtain ⟨hP1, hD1⟩ := hB
  rw [ht] at hP1
  obtain ⟨hP, hD⟩ := va_join (wr := [(h0, .inr (6, [.ref q1, .ref q2, .ref q3, .ref q4, .ref q5, .null, .null, .null, .int 0])), (q1, .inr (3, [.ref n1, .int 0])), (n1, .inl (cy 0, 320, .inl (fun _ => 0))), (q2, .inr (4, [.ref n2, .int 12, .int 0, .int 0, .int 0, .int 0, .int 0, .int 0, .int (-4), .int 0, .int 0, .int 0])), (n2, .inr (1, [.ref n3, .int 0, .int 5, .int 1, .int 1, .int 2, .int 0, .int 0])), (n3, .inl (cy 1, 96, .inl (fun _ => 0))), (q3, .inr (1, [.ref n4, .int 0, .int 5, .int 1, .int 1, .int 2, .int 0, .int 0])), (n4, .inl (cy 1, 96, .inl (fun _ => 0))), (q4, .inr (0, [.ref q3, .ref n5, .int 0])), (n5, .inl (cy 1, 24, .inl (fun _ => 0))), (q5, .inr (5, [.ref n6, .int 0])), (n6, .inl (cy 0, 8, .inl (fun _ => 0))), (q6, .inl (cy 3, 2, .inr (.inr (.inr (.inr (fun _ => none))))))]) (w1 := [(q7, .inr (1, [.ref n7, .int 0, .int 5, .int 1, .int 1, .int 2, .int 0, .int 0])), (n7, .inl (cy 1, 96, .inl (fun _ => 0)))]) hP hD [13] [0, 1, 2, 3, 4, 5, 6, 7, 8, 9, 10, 11, 12] rfl rfl (by decide) (by decide) hk1 hFc hP1 hD1
  replace hP : va_P G vwCl [(h0, .inr (6, [.ref q1, .ref q2, .ref q3, .ref q4, .ref q5, .null, .null, .null, .int 0])), (q1, .inr (3, [.ref n1, .int 0])), (n1, .inl (cy 0, 320, .inl (fun _ => 0))), (q2, .inr (4, [.ref n2, .int 12, .int 0, .int 0, .int 0, .int 0, .int 0, .int 0, .int (-4), .int 0, .int 0, .int 0])), (n2, .inr (1, [.ref n3, .int 0, .int 5, .int 1, .int 1, .int 2, .int 0, .int 0])), (n3, .inl (cy 1, 96, .inl (fun _ => 0))), (q3, .inr (1, [.ref n4, .int 0, .int 5, .int 1, .int 1, .int 2, .int 0, .int 0])), (n4, .inl (cy 1, 96, .inl (fun _ => 0))), (q4, .inr (0, [.ref q3, .ref n5, .int 0])), (n5, .inl (cy 1, 24, .inl (fun _ => 0))), (q5, .inr (5, [.ref n6, .int 0])), (n6, .inl (cy 0, 8, .inl (fun _ => 0))), (q6, .inl (cy 3, 2, .inr (.inr (.inr (.inr (fun _ => none)))))), (q7, .inr (1, [.ref n7, .int 0, .int 5, .int 1, .int 1, .int 2, .int 0, .int 0])), (n7, .inl (cy 1, 96, .inl (fun _ => 0)))] H := hP
  replace hD : va_D A [(h0, .inr (6, [.ref q1, .ref q2, .ref q3, .ref q4, .ref q5, .null, .null, .null, .int 0])), (q1, .inr (3, [.ref n1, .int 0])), (n1, .inl (cy 0, 320, .inl (fun _ => 0))), (q2, .inr (4, [.ref n2, .int 12, .int 0, .int 0, .int 0, .int 0, .int 0, .int 0, .int (-4), .int 0, .int 0, .int 0])), (n2, .inr (1, [.ref n3, .int 0, .int 5, .int 1, .int 1, .int 2, .int 0, .int 0])), (n3, .inl (cy 1, 96, .inl (fun _ => 0))), (q3, .inr (1, [.ref n4, .int 0, .int 5, .int 1, .int 1, .int 2, .int 0, .int 0])), (n4, .inl (cy 1, 96, .inl (fun _ => 0))), (q4, .inr (0, [.ref q3, .ref n5, .int 0])), (n5, .inl (cy 1, 24, .inl (fun _ => 0))), (q5, .inr (5, [.ref n6, .int 0])), (n6, .inl (cy 0, 8, .inl (fun _ => 0))), (q6, .inl (cy 3, 2, .inr (.inr (.inr (.inr (fun _ => none)))))), (q7, .inr (1, [.ref n7, .int 0, .int 5, .int 1, .int 1, .int 2, .int 0, .int 0])), (n7, .inl (cy 1, 96, .inl (fun _ => 0)))] := hD
  refine W.widen (k := 14) (n := 685) (Nat.le_of_ble_eq_true rfl) (Nat.le_of_ble_eq_true rfl) ?_
  refine va_astq hx hb hK hP hD hS 12 3 13 1 rfl rfl rfl rfl (by unfold vp_in; decide) dX6_init_77 (fun H locs hP hD hS => ?_)
  rw [cl_0] at hP hD
  replace hP : va_P G vwCl [(h0, .inr (6, [.ref q1, .ref q2, .ref q3, .ref q4, .ref q5, .null, .null, .null, .int 0])), (q1, .inr (3, [.ref n1, .int 0])), (n1, .inl (cy 0, 320, .inl (fun _ => 0))), (q2, .inr (4, [.ref n2, .int 12, .int 0, .int 0, .int 0, .int 0, .int 0, .int 0, .int (-4), .int 0, .int 0, .int 0])), (n2, .inr (1, [.ref n3, .int 0, .int 5, .int 1, .int 1, .int 2, .int 0, .int 0])), (n3, .inl (cy 1, 96, .inl (fun _ => 0))), (q3, .inr (1, [.ref n4, .int 0, .int 5, .int 1, .int 1, .int 2, .int 0, .int 0])), (n4, .inl (cy 1, 96, .inl (fun _ => 0))), (q4, .inr (0, [.ref q3, .ref n5, .int 0])), (n5, .inl (cy 1, 24, .inl (fun _ => 0))), (q5, .inr (5, [.ref n6, .int 0])), (n6, .inl (cy 0, 8, .inl (fun _ => 0))), (q6, .inl (cy 3, 2, .inr (.inr (.inr (.inr (va_up (fun _ => none) 0 (some q7))))))), (q7, .inr (1, [.ref n7, .int 0, .int 5, .int 1, .int 1, .int 2, .int 0, .int 0])), (n7, .inl (cy 1, 96, .inl (fun _ => 0)))] H := hP
  replace hD : va_D A [(h0, .inr (6, [.ref q1, .ref q2, .ref q3, .ref q4, .ref q5, .null, .null, .null, .int 0])), (q1, .inr (3, [.ref n1, .int 0])), (n1, .inl (cy 0, 320, .inl (fun _ => 0))), (q2, .inr (4, [.ref n2, .int 12, .int 0, .int 0, .int 0, .int 0, .int 0, .int 0, .int (-4), .int 0, .int 0, .int 0])), (n2, .inr (1, [.ref n3, .int 0, .int 5, .int 1, .int 1, .int 2, .int 0, .int 0])), (n3, .inl (cy 1, 96, .inl (fun _ => 0))), (q3, .inr (1, [.ref n4, .int 0, .int 5, .int 1, .int 1, .int 2, .int 0, .int 0])), (n4, .inl (cy 1, 96, .inl (fun _ => 0))), (q4, .inr (0, [.ref q3, .ref n5, .int 0])), (n5, .inl (cy 1, 24, .inl (fun _ => 0))), (q5, .inr (5, [.ref n6, .int 0])), (n6, .inl (cy 0, 8, .inl (fun _ => 0))), (q6, .inl (cy 3, 2, .inr (.inr (.inr (.inr (va_up (fun _ => none) 0 (some q7))))))), (q7, .inr (1, [.ref n7, .int 0, .int 5, .int 1, .int 1, .int 2, .int 0, .int 0])), (n7, .inl (cy 1, 96, .inl (fun _ => 0)))] := hD
  refine lv_dup hx hb dX6_init_78 rfl ?_
  refine lv_iconst (v := 1) hx hb dX6_init_79 (by decide) ?_
  refine va_new (ci := 1) (fs := [.null, .int 0, .int 0, .int 0, .int 0, .int 0, .int 0, .int 0]) (C := RX1) (T := TX1) (N := 8) hx hb hts inkX1 tyX1 tyX1_ok hown (hts _ kw_194) (hts _ kw_100) (hts _ kw_58) hK hP hD hS hA rfl (by intro j hj; match j, hj with | 0, _ => rfl | 1, _ => rfl | 2, _ => rfl | 3, _ => rfl | 4, _ => rfl | 5, _ => rfl | 6, _ => rfl | 7, _ => rfl) (Nat.le_of_ble_eq_true rfl) (Nat.le_of_ble_eq_true rfl) dX6_init_80 (fun q8 H hP hD hS => ?_)
  refine W.widen (k := 15) (n := 693) (Nat.le_of_ble_eq_true rfl) (Nat.le_of_ble_eq_true rfl) ?_
  replace hP : va_P G vwCl [(h0, .inr (6, [.ref q1, .ref q2, .ref q3, .ref q4, .ref q5, .null, .null, .null, .int 0])), (q1, .inr (3, [.ref n1, .int 0])), (n1, .inl (cy 0, 320, .inl (fun _ => 0))), (q2, .inr (4, [.ref n2, .int 12, .int 0, .int 0, .int 0, .int 0, .int 0, .int 0, .int (-4), .int 0, .int 0, .int 0])), (n2, .inr (1, [.ref n3, .int 0, .int 5, .int 1, .int 1, .int 2, .int 0, .int 0])), (n3, .inl (cy 1, 96, .inl (fun _ => 0))), (q3, .inr (1, [.ref n4, .int 0, .int 5, .int 1, .int 1, .int 2, .int 0, .int 0])), (n4, .inl (cy 1, 96, .inl (fun _ => 0))), (q4, .inr (0, [.ref q3, .ref n5, .int 0])), (n5, .inl (cy 1, 24, .inl (fun _ => 0))), (q5, .inr (5, [.ref n6, .int 0])), (n6, .inl (cy 0, 8, .inl (fun _ => 0))), (q6, .inl (cy 3, 2, .inr (.inr (.inr (.inr (va_up (fun _ => none) 0 (some q7))))))), (q7, .inr (1, [.ref n7, .int 0, .int 5, .int 1, .int 1, .int 2, .int 0, .int 0])), (n7, .inl (cy 1, 96, .inl (fun _ => 0))), (q8, .inr (1, [.null, .int 0, .int 0, .int 0, .int 0, .int 0, .int 0, .int 0]))] H := hP
  replace hD : va_D A [(h0, .inr (6, [.ref q1, .ref q2, .ref q3, .ref q4, .ref q5, .null, .null, .null, .int 0])), (q1, .inr (3, [.ref n1, .int 0])), (n1, .inl (cy 0, 320, .inl (fun _ => 0))), (q2, .inr (4, [.ref n2, .int 12, .int 0, .int 0, .int 0, .int 0, .int 0, .int 0, .int (-4), .int 0, .int 0, .int 0])), (n2, .inr (1, [.ref n3, .int 0, .int 5, .int 1, .int 1, .int 2, .int 0, .int 0])), (n3, .inl (cy 1, 96, .inl (fun _ => 0))), (q3, .inr (1, [.ref n4, .int 0, .int 5, .int 1, .int 1, .int 2, .int 0, .int 0])), (n4, .inl (cy 1, 96, .inl (fun _ => 0))), (q4, .inr (0, [.ref q3, .ref n5, .int 0])), (n5, .inl (cy 1, 24, .inl (fun _ => 0))), (q5, .inr (5, [.ref n6, .int 0])), (n6, .inl (cy 0, 8, .inl (fun _ => 0))), (q6, .inl (cy 3, 2, .inr (.inr (.inr (.inr (va_up (fun _ => none) 0 (some q7))))))), (q7, .inr (1, [.ref n7, .int 0, .int 5, .int 1, .int 1, .int 2, .int 0, .int 0])), (n7, .inl (cy 1, 96, .inl (fun _ => 0))), (q8, .inr (1, [.null, .int 0, .int 0, .int 0, .int 0, .int 0, .int 0, .int 0]))] := hD
  refine lv_dup hx hb dX6_init_83 rfl ?_
  have hPc := hP.sub (ws' := [(q8, .inr (1, [.null, .int 0, .int 0, .int 0, .int 0, .int 0, .int 0, .int 0]))]) [15] rfl
  have hDc := hD.sub (ws' := [(q8, .inr (1, [.null, .int 0, .int 0, .int 0, .int 0, .int 0, .int 0, .int 0]))]) [15] (by decide) rfl
  have hFc := va_free (wc := [(q8, .inr (1, [.null, .int 0, .int 0, .int 0, .int 0, .int 0, .int 0, .int 0]))]) hD hS hA [15] rfl
  refine va_callv (va_runI (As := []) (rest := [.ref q8, .int 1, .ref q6, .ref q6, .ref h0]) ⟨hx, hb, hml, hown, hts⟩ (kcK_Series H.size q8) (cwI 0 hts (kG_i kw_103) rfl rfl rfl (hts _ kw_58) (hts _ kw_195) (hts _ kw_102) rfl (by decide +kernel) ⟨Nat.le_of_ble_eq_true rfl, Nat.le_of_ble_eq_true rfl⟩) ⟨s_Pk_blind, fun U hU hW => ⟨rfl, by rw [hU], by rw [hU]; exact hPc, va_K.moved hW.alike hK, hDc.weaken (fun _ _ _ _ => trivial)⟩⟩ rfl rfl hl.1 rfl (lv_room (Nat.le_of_ble_eq_true rfl)) dX6_init_84 ⟨Nat.le_of_ble_eq_true rfl, Nat.le_of_ble_eq_true rfl⟩) hS (fun q _ h => hFc q h) hFc (fun u t H locs ht hvm hw hB hz1 hk1 hS => ?_)
  obtain ⟨n8, rfl⟩ : ∃ z, z = u := ⟨_, rfl⟩
  obtain ⟨hP1, hD1⟩ := hB
  rw [ht] at hP1
  obtain ⟨hP, hD⟩ := va_join (wr := [(h0, .inr (6, [.ref q1, .ref q2, .ref q3, .ref q4, .ref q5, .null, .null, .null, .int 0])), (q1, .inr (3, [.ref n1, .int 0])), (n1, .inl (cy 0, 320, .inl (fun _ => 0))), (q2, .inr (4, [.ref n2, .int 12, .int 0, .int 0, .int 0, .int 0, .int 0, .int 0, .int (-4), .int 0, .int 0, .int 0])), (n2, .inr (1, [.ref n3, .int 0, .int 5, .int 1, .int 1, .int 2, .int 0, .int 0])), (n3, .inl (cy 1, 96, .inl (fun _ => 0))), (q3, .inr (1, [.ref n4, .int 0, .int 5, .int 1, .int 1, .int 2, .int 0, .int 0])), (n4, .inl (cy 1, 96, .inl (fun _ => 0))), (q4, .inr (0, [.ref q3, .ref n5, .int 0])), (n5, .inl (cy 1, 24, .inl (fun _ => 0))), (q5, .inr (5, [.ref n6, .int 0])), (n6, .inl (cy 0, 8, .inl (fun _ => 0))), (q6, .inl (cy 3, 2, .inr (.inr (.inr (.inr (va_up (fun _ => none) 0 (some q7))))))), (q7, .inr (1, [.ref n7, .int 0, .int 5, .int 1, .int 1, .int 2, .int 0, .int 0])), (n7, .inl (cy 1, 96, .inl (fun _ => 0)))]) (w1 := [(q8, .inr (1, [.ref n8, .int 0, .int 5, .int 1, .int 1, .int 2, .int 0, .int 0])), (n8, .inl (cy 1, 96, .inl (fun _ => 0)))]) hP hD [15] [0, 1, 2, 3, 4, 5, 6, 7, 8, 9, 10, 11, 12, 13, 14] rfl rfl (by decide) (by decide) hk1 hFc hP1 hD1
  replace hP : va_P G vwCl [(h0, .inr (6, [.ref q1, .ref q2, .ref q3, .ref q4, .ref q5, .null, .null, .null, .int 0])), (q1, .inr (3, [.ref n1, .int 0])), (n1, .inl (cy 0, 320, .inl (fun _ => 0))), (q2, .inr (4, [.ref n2, .int 12, .int 0, .int 0, .int 0, .int 0, .int 0, .int 0, .int (-4), .int 0, .int 0, .int 0])), (n2, .inr (1, [.ref n3, .int 0, .int 5, .int 1, .int 1, .int 2, .int 0, .int 0])), (n3, .inl (cy 1, 96, .inl (fun _ => 0))), (q3, .inr (1, [.ref n4, .int 0, .int 5, .int 1, .int 1, .int 2, .int 0, .int 0])), (n4, .inl (cy 1, 96, .inl (fun _ => 0))), (q4, .inr (0, [.ref q3, .ref n5, .int 0])), (n5, .inl (cy 1, 24, .inl (fun _ => 0))), (q5, .inr (5, [.ref n6, .int 0])), (n6, .inl (cy 0, 8, .inl (fun _ => 0))), (q6, .inl (cy 3, 2, .inr (.inr (.inr (.inr (va_up (fun _ => none) 0 (some q7))))))), (q7, .inr (1, [.ref n7, .int 0, .int 5, .int 1, .int 1, .int 2, .int 0, .int 0])), (n7, .inl (cy 1, 96, .inl (fun _ => 0))), (q8, .inr (1, [.ref n8, .int 0, .int 5, .int 1, .int 1, .int 2, .int 0, .int 0])), (n8, .inl (cy 1, 96, .inl (fun _ => 0)))] H := hP
  replace hD : va_D A [(h0, .inr (6, [.ref q1, .ref q2, .ref q3, .ref q4, .ref q5, .null, .null, .null, .int 0])), (q1, .inr (3, [.ref n1, .int 0])), (n1, .inl (cy 0, 320, .inl (fun _ => 0))), (q2, .inr (4, [.ref n2, .int 12, .int 0, .int 0, .int 0, .int 0, .int 0, .int 0, .int (-4), .int 0, .int 0, .int 0])), (n2, .inr (1, [.ref n3, .int 0, .int 5, .int 1, .int 1, .int 2, .int 0, .int 0])), (n3, .inl (cy 1, 96, .inl (fun _ => 0))), (q3, .inr (1, [.ref n4, .int 0, .int 5, .int 1, .int 1, .int 2, .int 0, .int 0])), (n4, .inl (cy 1, 96, .inl (fun _ => 0))), (q4, .inr (0, [.ref q3, .ref n5, .int 0])), (n5, .inl (cy 1, 24, .inl (fun _ => 0))), (q5, .inr (5, [.ref n6, .int 0])), (n6, .inl (cy 0, 8, .inl (fun _ => 0))), (q6, .inl (cy 3, 2, .inr (.inr (.inr (.inr (va_up (fun _ => none) 0 (some q7))))))), (q7, .inr (1, [.ref n7, .int 0, .int 5, .int 1, .int 1, .int 2, .int 0, .int 0])), (n7, .inl (cy 1, 96, .inl (fun _ => 0))), (q8, .inr (1, [.ref n8, .int 0, .int 5, .int 1, .int 1, .int 2, .int 0, .int 0])), (n8, .inl (cy 1, 96, .inl (fun _ => 0)))] := hD
  refine W.widen (k := 16) (n := 789) (Nat.le_of_ble_eq_true rfl) (Nat.le_of_ble_eq_true rfl) ?_
  refine va_astq hx hb hK hP hD hS 12 3 15 1 rfl rfl rfl rfl (by unfold vp_in; decide) dX6_init_87 (fun H locs hP hD hS => ?_)
  rw [cl_1] at hP hD
  replace hP : va_P G vwCl [(h0, .inr (6, [.ref q1, .ref q2, .ref q3, .ref q4, .ref q5, .null, .null, .null, .int 0])), (q1, .inr (3, [.ref n1, .int 0])), (n1, .inl (cy 0, 320, .inl (fun _ => 0))), (q2, .inr (4, [.ref n2, .int 12, .int 0, .int 0, .int 0, .int 0, .int 0, .int 0, .int (-4), .int 0, .int 0, .int 0])), (n2, .inr (1, [.ref n3, .int 0, .int 5, .int 1, .int 1, .int 2, .int 0, .int 0])), (n3, .inl (cy 1, 96, .inl (fun _ => 0))), (q3, .inr (1, [.ref n4, .int 0, .int 5, .int 1, .int 1, .int 2, .int 0, .int 0])), (n4, .inl (cy 1, 96, .inl (fun _ => 0))), (q4, .inr (0, [.ref q3, .ref n5, .int 0])), (n5, .inl (cy 1, 24, .inl (fun _ => 0))), (q5, .inr (5, [.ref n6, .int 0])), (n6, .inl (cy 0, 8, .inl (fun _ => 0))), (q6, .inl (cy 3, 2, .inr (.inr (.inr (.inr (va_up (va_up (fun _ => none) 0 (some q7)) 1 (some q8))))))), (q7, .inr (1, [.ref n7, .int 0, .int 5, .int 1, .int 1, .int 2, .int 0, .int 0])), (n7, .inl (cy 1, 96, .inl (fun _ => 0))), (q8, .inr (1, [.ref n8, .int 0, .int 5, .int 1, .int 1, .int 2, .int 0, .int 0])), (n8, .inl (cy 1, 96, .inl (fun _ => 0)))] H := hP
  replace hD : va_D A [(h0, .inr (6, [.ref q1, .ref q2, .ref q3, .ref q4, .ref q5, .null, .null, .null, .int 0])), (q1, .inr (3, [.ref n1, .int 0])), (n1, .inl (cy 0, 320, .inl (fun _ => 0))), (q2, .inr (4, [.ref n2, .int 12, .int 0, .int 0, .int 0, .int 0, .int 0, .int 0, .int (-4), .int 0, .int 0, .int 0])), (n2, .inr (1, [.ref n3, .int 0, .int 5, .int 1, .int 1, .int 2, .int 0, .int 0])), (n3, .inl (cy 1, 96, .inl (fun _ => 0))), (q3, .inr (1, [.ref n4, .int 0, .int 5, .int 1, .int 1, .int 2, .int 0, .int 0])), (n4, .inl (cy 1, 96, .inl (fun _ => 0))), (q4, .inr (0, [.ref q3, .ref n5, .int 0])), (n5, .inl (cy 1, 24, .inl (fun _ => 0))), (q5, .inr (5, [.ref n6, .int 0])), (n6, .inl (cy 0, 8, .inl (fun _ => 0))), (q6, .inl (cy 3, 2, .inr (.inr (.inr (.inr (va_up (va_up (fun _ => none) 0 (some q7)) 1 (some q8))))))), (q7, .inr (1, [.ref n7, .int 0, .int 5, .int 1, .int 1, .int 2, .int 0, .int 0])), (n7, .inl (cy 1, 96, .inl (fun _ => 0))), (q8, .inr (1, [.ref n8, .int 0, .int 5, .int 1, .int 1, .int 2, .int 0, .int 0])), (n8, .inl (cy 1, 96, .inl (fun _ => 0)))] := hD
  refine va_putF (D := G) (ci := 6) (v := .ref q6) (ty := (.array (.object "SlidingRanks$Series"))) (C := RX6) (T := TX6) (N := 9) hx hb hts inkX6 tyX6 tyX6_ok nmX6 hown hK hP hD hS 0 rfl rfl 5 (by decide) (hts _ kw_235) (fun _ h9 => h9) rfl hin rfl (by decide +kernel) rfl rfl (Nat.le_of_ble_eq_true rfl) dX6_init_88 (fun H locs hP hD hS => ?_)
  replace hP : va_P G vwCl [(h0, .inr (6, [.ref q1, .ref q2, .ref q3, .ref q4, .ref q5, .ref q6, .null, .null, .int 0])), (q1, .inr (3, [.ref n1, .int 0])), (n1, .inl (cy 0, 320, .inl (fun _ => 0))), (q2, .inr (4, [.ref n2, .int 12, .int 0, .int 0, .int 0, .int 0, .int 0, .int 0, .int (-4), .int 0, .int 0, .int 0])), (n2, .inr (1, [.ref n3, .int 0, .int 5, .int 1, .int 1, .int 2, .int 0, .int 0])), (n3, .inl (cy 1, 96, .inl (fun _ => 0))), (q3, .inr (1, [.ref n4, .int 0, .int 5, .int 1, .int 1, .int 2, .int 0, .int 0])), (n4, .inl (cy 1, 96, .inl (fun _ => 0))), (q4, .inr (0, [.ref q3, .ref n5, .int 0])), (n5, .inl (cy 1, 24, .inl (fun _ => 0))), (q5, .inr (5, [.ref n6, .int 0])), (n6, .inl (cy 0, 8, .inl (fun _ => 0))), (q6, .inl (cy 3, 2, .inr (.inr (.inr (.inr (va_up (va_up (fun _ => none) 0 (some q7)) 1 (some q8))))))), (q7, .inr (1, [.ref n7, .int 0, .int 5, .int 1, .int 1, .int 2, .int 0, .int 0])), (n7, .inl (cy 1, 96, .inl (fun _ => 0))), (q8, .inr (1, [.ref n8, .int 0, .int 5, .int 1, .int 1, .int 2, .int 0, .int 0])), (n8, .inl (cy 1, 96, .inl (fun _ => 0)))] H := hP
  replace hD : va_D A [(h0, .inr (6, [.ref q1, .ref q2, .ref q3, .ref q4, .ref q5, .ref q6, .null, .null, .int 0])), (q1, .inr (3, [.ref n1, .int 0])), (n1, .inl (cy 0, 320, .inl (fun _ => 0))), (q2, .inr (4, [.ref n2, .int 12, .int 0, .int 0, .int 0, .int 0, .int 0, .int 0, .int (-4), .int 0, .int 0, .int 0])), (n2, .inr (1, [.ref n3, .int 0, .int 5, .int 1, .int 1, .int 2, .int 0, .int 0])), (n3, .inl (cy 1, 96, .inl (fun _ => 0))), (q3, .inr (1, [.ref n4, .int 0, .int 5, .int 1, .int 1, .int 2, .int 0, .int 0])), (n4, .inl (cy 1, 96, .inl (fun _ => 0))), (q4, .inr (0, [.ref q3, .ref n5, .int 0])), (n5, .inl (cy 1, 24, .inl (fun _ => 0))), (q5, .inr (5, [.ref n6, .int 0])), (n6, .inl (cy 0, 8, .inl (fun _ => 0))), (q6, .inl (cy 3, 2, .inr (.inr (.inr (.inr (va_up (va_up (fun _ => none) 0 (some q7)) 1 (some q8))))))), (q7, .inr (1, [.ref n7, .int 0, .int 5, .int 1, .int 1, .int 2, .int 0, .int 0])), (n7, .inl (cy 1, 96, .inl (fun _ => 0))), (q8, .inr (1, [.ref n8, .int 0, .int 5, .int 1, .int 1, .int 2, .int 0, .int 0])), (n8, .inl (cy 1, 96, .inl (fun _ => 0)))] := hD
  refine lv_aload_n hx hb dX6_init_91 rfl (lv_at hl 0 rfl) ?_
  refine lv_iconst (v := 2) hx hb dX6_init_92 (by decide) ?_
  refine s_newa (atype := .boolean) (ty := .boolean) rfl hx hb (hts _ kw_258) hK 2 rfl (fun _ h => h) hP hD hS hA (fun _ => rfl) (by decide) (by decide) (Nat.le_of_ble_eq_true rfl) (Nat.le_of_ble_eq_true rfl) (Nat.le_of_ble_eq_true rfl) dX6_init_93 (fun q9 H hP hD hS => ?_)
  refine W.widen (k := 17) (n := 791) (Nat.le_of_ble_eq_true rfl) (Nat.le_of_ble_eq_true rfl) ?_
  replace hP : va_P G vwCl [(h0, .inr (6, [.ref q1, .ref q2, .ref q3, .ref q4, .ref q5, .ref q6, .null, .null, .int 0])), (q1, .inr (3, [.ref n1, .int 0])), (n1, .inl (cy 0, 320, .inl (fun _ => 0))), (q2, .inr (4, [.ref n2, .int 12, .int 0, .int 0, .int 0, .int 0, .int 0, .int 0, .int (-4), .int 0, .int 0, .int 0])), (n2, .inr (1, [.ref n3, .int 0, .int 5, .int 1, .int 1, .int 2, .int 0, .int 0])), (n3, .inl (cy 1, 96, .inl (fun _ => 0))), (q3, .inr (1, [.ref n4, .int 0, .int 5, .int 1, .int 1, .int 2, .int 0, .int 0])), (n4, .inl (cy 1, 96, .inl (fun _ => 0))), (q4, .inr (0, [.ref q3, .ref n5, .int 0])), (n5, .inl (cy 1, 24, .inl (fun _ => 0))), (q5, .inr (5, [.ref n6, .int 0])), (n6, .inl (cy 0, 8, .inl (fun _ => 0))), (q6, .inl (cy 3, 2, .inr (.inr (.inr (.inr (va_up (va_up (fun _ => none) 0 (some q7)) 1 (some q8))))))), (q7, .inr (1, [.ref n7, .int 0, .int 5, .int 1, .int 1, .int 2, .int 0, .int 0])), (n7, .inl (cy 1, 96, .inl (fun _ => 0))), (q8, .inr (1, [.ref n8, .int 0, .int 5, .int 1, .int 1, .int 2, .int 0, .int 0])), (n8, .inl (cy 1, 96, .inl (fun _ => 0))), (q9, .inl (cy 2, 2, .inl (fun _ => 0)))] H := hP
  replace hD : va_D A [(h0, .inr (6, [.ref q1, .ref q2, .ref q3, .ref q4, .ref q5, .ref q6, .null, .null, .int 0])), (q1, .inr (3, [.ref n1, .int 0])), (n1, .inl (cy 0, 320, .inl (fun _ => 0))), (q2, .inr (4, [.ref n2, .int 12, .int 0, .int 0, .int 0, .int 0, .int 0, .int 0, .int (-4), .int 0, .int 0, .int 0])), (n2, .inr (1, [.ref n3, .int 0, .int 5, .int 1, .int 1, .int 2, .int 0, .int 0])), (n3, .inl (cy 1, 96, .inl (fun _ => 0))), (q3, .inr (1, [.ref n4, .int 0, .int 5, .int 1, .int 1, .int 2, .int 0, .int 0])), (n4, .inl (cy 1, 96, .inl (fun _ => 0))), (q4, .inr (0, [.ref q3, .ref n5, .int 0])), (n5, .inl (cy 1, 24, .inl (fun _ => 0))), (q5, .inr (5, [.ref n6, .int 0])), (n6, .inl (cy 0, 8, .inl (fun _ => 0))), (q6, .inl (cy 3, 2, .inr (.inr (.inr (.inr (va_up (va_up (fun _ => none) 0 (some q7)) 1 (some q8))))))), (q7, .inr (1, [.ref n7, .int 0, .int 5, .int 1, .int 1, .int 2, .int 0, .int 0])), (n7, .inl (cy 1, 96, .inl (fun _ => 0))), (q8, .inr (1, [.ref n8, .int 0, .int 5, .int 1, .int 1, .int 2, .int 0, .int 0])), (n8, .inl (cy 1, 96, .inl (fun _ => 0))), (q9, .inl (cy 2, 2, .inl (fun _ => 0)))] := hD
  refine va_putF (D := G) (ci := 6) (v := .ref q9) (ty := (.array .boolean)) (C := RX6) (T := TX6) (N := 9) hx hb hts inkX6 tyX6 tyX6_ok nmX6 hown hK hP hD hS 0 rfl rfl 6 (by decide) (hts _ kw_236) (fun _ h9 => h9) rfl hin rfl (by decide +kernel) rfl rfl (Nat.le_of_ble_eq_true rfl) dX6_init_95 (fun H locs hP hD hS => ?_)
  replace hP : va_P G vwCl [(h0, .inr (6, [.ref q1, .ref q2, .ref q3, .ref q4, .ref q5, .ref q6, .ref q9, .null, .int 0])), (q1, .inr (3, [.ref n1, .int 0])), (n1, .inl (cy 0, 320, .inl (fun _ => 0))), (q2, .inr (4, [.ref n2, .int 12, .int 0, .int 0, .int 0, .int 0, .int 0, .int 0, .int (-4), .int 0, .int 0, .int 0])), (n2, .inr (1, [.ref n3, .int 0, .int 5, .int 1, .int 1, .int 2, .int 0, .int 0])), (n3, .inl (cy 1, 96, .inl (fun _ => 0))), (q3, .inr (1, [.ref n4, .int 0, .int 5, .int 1, .int 1, .int 2, .int 0, .int 0])), (n4, .inl (cy 1, 96, .inl (fun _ => 0))), (q4, .inr (0, [.ref q3, .ref n5, .int 0])), (n5, .inl (cy 1, 24, .inl (fun _ => 0))), (q5, .inr (5, [.ref n6, .int 0])), (n6, .inl (cy 0, 8, .inl (fun _ => 0))), (q6, .inl (cy 3, 2, .inr (.inr (.inr (.inr (va_up (va_up (fun _ => none) 0 (some q7)) 1 (some q8))))))), (q7, .inr (1, [.ref n7, .int 0, .int 5, .int 1, .int 1, .int 2, .int 0, .int 0])), (n7, .inl (cy 1, 96, .inl (fun _ => 0))), (q8, .inr (1, [.ref n8, .int 0, .int 5, .int 1, .int 1, .int 2, .int 0, .int 0])), (n8, .inl (cy 1, 96, .inl (fun _ => 0))), (q9, .inl (cy 2, 2, .inl (fun _ => 0)))] H := hP
  replace hD : va_D A [(h0, .inr (6, [.ref q1, .ref q2, .ref q3, .ref q4, .ref q5, .ref q6, .ref q9, .null, .int 0])), (q1, .inr (3, [.ref n1, .int 0])), (n1, .inl (cy 0, 320, .inl (fun _ => 0))), (q2, .inr (4, [.ref n2, .int 12, .int 0, .int 0, .int 0, .int 0, .int 0, .int 0, .int (-4), .int 0, .int 0, .int 0])), (n2, .inr (1, [.ref n3, .int 0, .int 5, .int 1, .int 1, .int 2, .int 0, .int 0])), (n3, .inl (cy 1, 96, .inl (fun _ => 0))), (q3, .inr (1, [.ref n4, .int 0, .int 5, .int 1, .int 1, .int 2, .int 0, .int 0])), (n4, .inl (cy 1, 96, .inl (fun _ => 0))), (q4, .inr (0, [.ref q3, .ref n5, .int 0])), (n5, .inl (cy 1, 24, .inl (fun _ => 0))), (q5, .inr (5, [.ref n6, .int 0])), (n6, .inl (cy 0, 8, .inl (fun _ => 0))), (q6, .inl (cy 3, 2, .inr (.inr (.inr (.inr (va_up (va_up (fun _ => none) 0 (some q7)) 1 (some q8))))))), (q7, .inr (1, [.ref n7, .int 0, .int 5, .int 1, .int 1, .int 2, .int 0, .int 0])), (n7, .inl (cy 1, 96, .inl (fun _ => 0))), (q8, .inr (1, [.ref n8, .int 0, .int 5, .int 1, .int 1, .int 2, .int 0, .int 0])), (n8, .inl (cy 1, 96, .inl (fun _ => 0))), (q9, .inl (cy 2, 2, .inl (fun _ => 0)))] := hD
  refine lv_aload_n hx hb dX6_init_98 rfl (lv_at hl 0 rfl) ?_
  refine lv_iconst (v := 4) hx hb dX6_init_99 (by decide) ?_
  refine s_newq hx hb hown (hts _ kw_228) hA4 hK 4 rfl hP hD hS hA (by decide) (by decide) (Nat.le_of_ble_eq_true rfl) (Nat.le_of_ble_eq_true rfl) (Nat.le_of_ble_eq_true rfl) dX6_init_100 (fun q10 H hP hD hS => ?_)
  refine W.widen (k := 18) (n := 795) (Nat.le_of_ble_eq_true rfl) (Nat.le_of_ble_eq_true rfl) ?_
  replace hP : va_P G vwCl [(h0, .inr (6, [.ref q1, .ref q2, .ref q3, .ref q4, .ref q5, .ref q6, .ref q9, .null, .int 0])), (q1, .inr (3, [.ref n1, .int 0])), (n1, .inl (cy 0, 320, .inl (fun _ => 0))), (q2, .inr (4, [.ref n2, .int 12, .int 0, .int 0, .int 0, .int 0, .int 0, .int 0, .int (-4), .int 0, .int 0, .int 0])), (n2, .inr (1, [.ref n3, .int 0, .int 5, .int 1, .int 1, .int 2, .int 0, .int 0])), (n3, .inl (cy 1, 96, .inl (fun _ => 0))), (q3, .inr (1, [.ref n4, .int 0, .int 5, .int 1, .int 1, .int 2, .int 0, .int 0])), (n4, .inl (cy 1, 96, .inl (fun _ => 0))), (q4, .inr (0, [.ref q3, .ref n5, .int 0])), (n5, .inl (cy 1, 24, .inl (fun _ => 0))), (q5, .inr (5, [.ref n6, .int 0])), (n6, .inl (cy 0, 8, .inl (fun _ => 0))), (q6, .inl (cy 3, 2, .inr (.inr (.inr (.inr (va_up (va_up (fun _ => none) 0 (some q7)) 1 (some q8))))))), (q7, .inr (1, [.ref n7, .int 0, .int 5, .int 1, .int 1, .int 2, .int 0, .int 0])), (n7, .inl (cy 1, 96, .inl (fun _ => 0))), (q8, .inr (1, [.ref n8, .int 0, .int 5, .int 1, .int 1, .int 2, .int 0, .int 0])), (n8, .inl (cy 1, 96, .inl (fun _ => 0))), (q9, .inl (cy 2, 2, .inl (fun _ => 0))), (q10, .inl (cy 4, 4, .inr (.inr (.inr (.inr (fun _ => none))))))] H := hP
  replace hD : va_D A [(h0, .inr (6, [.ref q1, .ref q2, .ref q3, .ref q4, .ref q5, .ref q6, .ref q9, .null, .int 0])), (q1, .inr (3, [.ref n1, .int 0])), (n1, .inl (cy 0, 320, .inl (fun _ => 0))), (q2, .inr (4, [.ref n2, .int 12, .int 0, .int 0, .int 0, .int 0, .int 0, .int 0, .int (-4), .int 0, .int 0, .int 0])), (n2, .inr (1, [.ref n3, .int 0, .int 5, .int 1, .int 1, .int 2, .int 0, .int 0])), (n3, .inl (cy 1, 96, .inl (fun _ => 0))), (q3, .inr (1, [.ref n4, .int 0, .int 5, .int 1, .int 1, .int 2, .int 0, .int 0])), (n4, .inl (cy 1, 96, .inl (fun _ => 0))), (q4, .inr (0, [.ref q3, .ref n5, .int 0])), (n5, .inl (cy 1, 24, .inl (fun _ => 0))), (q5, .inr (5, [.ref n6, .int 0])), (n6, .inl (cy 0, 8, .inl (fun _ => 0))), (q6, .inl (cy 3, 2, .inr (.inr (.inr (.inr (va_up (va_up (fun _ => none) 0 (some q7)) 1 (some q8))))))), (q7, .inr (1, [.ref n7, .int 0, .int 5, .int 1, .int 1, .int 2, .int 0, .int 0])), (n7, .inl (cy 1, 96, .inl (fun _ => 0))), (q8, .inr (1, [.ref n8, .int 0, .int 5, .int 1, .int 1, .int 2, .int 0, .int 0])), (n8, .inl (cy 1, 96, .inl (fun _ => 0))), (q9, .inl (cy 2, 2, .inl (fun _ => 0))), (q10, .inl (cy 4, 4, .inr (.inr (.inr (.inr (fun _ => none))))))] := hD
  refine va_putF (D := G) (ci := 6) (v := .ref q10) (ty := (.array (.object "SlidingRanks$Sheet"))) (C := RX6) (T := TX6) (N := 9) hx hb hts inkX6 tyX6 tyX6_ok nmX6 hown hK hP hD hS 0 rfl rfl 7 (by decide) (hts _ kw_237) (fun _ h9 => h9) rfl hin rfl (by decide +kernel) rfl rfl (Nat.le_of_ble_eq_true rfl) dX6_init_103 (fun H locs hP hD hS => ?_)
  replace hP : va_P G vwCl [(h0, .inr (6, [.ref q1, .ref q2, .ref q3, .ref q4, .ref q5, .ref q6, .ref q9, .ref q10, .int 0])), (q1, .inr (3, [.ref n1, .int 0])), (n1, .inl (cy 0, 320, .inl (fun _ => 0))), (q2, .inr (4, [.ref n2, .int 12, .int 0, .int 0, .int 0, .int 0, .int 0, .int 0, .int (-4), .int 0, .int 0, .int 0])), (n2, .inr (1, [.ref n3, .int 0, .int 5, .int 1, .int 1, .int 2, .int 0, .int 0])), (n3, .inl (cy 1, 96, .inl (fun _ => 0))), (q3, .inr (1, [.ref n4, .int 0, .int 5, .int 1, .int 1, .int 2, .int 0, .int 0])), (n4, .inl (cy 1, 96, .inl (fun _ => 0))), (q4, .inr (0, [.ref q3, .ref n5, .int 0])), (n5, .inl (cy 1, 24, .inl (fun _ => 0))), (q5, .inr (5, [.ref n6, .int 0])), (n6, .inl (cy 0, 8, .inl (fun _ => 0))), (q6, .inl (cy 3, 2, .inr (.inr (.inr (.inr (va_up (va_up (fun _ => none) 0 (some q7)) 1 (some q8))))))), (q7, .inr (1, [.ref n7, .int 0, .int 5, .int 1, .int 1, .int 2, .int 0, .int 0])), (n7, .inl (cy 1, 96, .inl (fun _ => 0))), (q8, .inr (1, [.ref n8, .int 0, .int 5, .int 1, .int 1, .int 2, .int 0, .int 0])), (n8, .inl (cy 1, 96, .inl (fun _ => 0))), (q9, .inl (cy 2, 2, .inl (fun _ => 0))), (q10, .inl (cy 4, 4, .inr (.inr (.inr (.inr (fun _ => none))))))] H := hP
  replace hD : va_D A [(h0, .inr (6, [.ref q1, .ref q2, .ref q3, .ref q4, .ref q5, .ref q6, .ref q9, .ref q10, .int 0])), (q1, .inr (3, [.ref n1, .int 0])), (n1, .inl (cy 0, 320, .inl (fun _ => 0))), (q2, .inr (4, [.ref n2, .int 12, .int 0, .int 0, .int 0, .int 0, .int 0, .int 0, .int (-4), .int 0, .int 0, .int 0])), (n2, .inr (1, [.ref n3, .int 0, .int 5, .int 1, .int 1, .int 2, .int 0, .int 0])), (n3, .inl (cy 1, 96, .inl (fun _ => 0))), (q3, .inr (1, [.ref n4, .int 0, .int 5, .int 1, .int 1, .int 2, .int 0, .int 0])), (n4, .inl (cy 1, 96, .inl (fun _ => 0))), (q4, .inr (0, [.ref q3, .ref n5, .int 0])), (n5, .inl (cy 1, 24, .inl (fun _ => 0))), (q5, .inr (5, [.ref n6, .int 0])), (n6, .inl (cy 0, 8, .inl (fun _ => 0))), (q6, .inl (cy 3, 2, .inr (.inr (.inr (.inr (va_up (va_up (fun _ => none) 0 (some q7)) 1 (some q8))))))), (q7, .inr (1, [.ref n7, .int 0, .int 5, .int 1, .int 1, .int 2, .int 0, .int 0])), (n7, .inl (cy 1, 96, .inl (fun _ => 0))), (q8, .inr (1, [.ref n8, .int 0, .int 5, .int 1, .int 1, .int 2, .int 0, .int 0])), (n8, .inl (cy 1, 96, .inl (fun _ => 0))), (q9, .inl (cy 2, 2, .inl (fun _ => 0))), (q10, .inl (cy 4, 4, .inr (.inr (.inr (.inr (fun _ => none))))))] := hD
  refine lv_aload_n hx hb dX6_init_106 rfl (lv_at hl 0 rfl) ?_
  refine lv_iconst (v := 0) hx hb dX6_init_107 (by decide) ?_
  refine va_put (D := G) (ci := 6) (v := .int 0) (ty := .int) (C := RX6) (T := TX6) (N := 9) hx hb hts inkX6 tyX6 tyX6_ok nmX6 hown hK hP hD hS 0 rfl rfl 8 (by decide) (hts _ kw_238) (fun _ h9 => h9) rfl (by decide +kernel) rfl rfl (Nat.le_of_ble_eq_true rfl) dX6_init_108 (fun H locs hP hD hS => ?_)
  replace hP : va_P G vwCl [(h0, .inr (6, [.ref q1, .ref q2, .ref q3, .ref q4, .ref q5, .ref q6, .ref q9, .ref q10, .int 0])), (q1, .inr (3, [.ref n1, .int 0])), (n1, .inl (cy 0, 320, .inl (fun _ => 0))), (q2, .inr (4, [.ref n2, .int 12, .int 0, .int 0, .int 0, .int 0, .int 0, .int 0, .int (-4), .int 0, .int 0, .int 0])), (n2, .inr (1, [.ref n3, .int 0, .int 5, .int 1, .int 1, .int 2, .int 0, .int 0])), (n3, .inl (cy 1, 96, .inl (fun _ => 0))), (q3, .inr (1, [.ref n4, .int 0, .int 5, .int 1, .int 1, .int 2, .int 0, .int 0])), (n4, .inl (cy 1, 96, .inl (fun _ => 0))), (q4, .inr (0, [.ref q3, .ref n5, .int 0])), (n5, .inl (cy 1, 24, .inl (fun _ => 0))), (q5, .inr (5, [.ref n6, .int 0])), (n6, .inl (cy 0, 8, .inl (fun _ => 0))), (q6, .inl (cy 3, 2, .inr (.inr (.inr (.inr (va_up (va_up (fun _ => none) 0 (some q7)) 1 (some q8))))))), (q7, .inr (1, [.ref n7, .int 0, .int 5, .int 1, .int 1, .int 2, .int 0, .int 0])), (n7, .inl (cy 1, 96, .inl (fun _ => 0))), (q8, .inr (1, [.ref n8, .int 0, .int 5, .int 1, .int 1, .int 2, .int 0, .int 0])), (n8, .inl (cy 1, 96, .inl (fun _ => 0))), (q9, .inl (cy 2, 2, .inl (fun _ => 0))), (q10, .inl (cy 4, 4, .inr (.inr (.inr (.inr (fun _ => none))))))] H := hP
  replace hD : va_D A [(h0, .inr (6, [.ref q1, .ref q2, .ref q3, .ref q4, .ref q5, .ref q6, .ref q9, .ref q10, .int 0])), (q1, .inr (3, [.ref n1, .int 0])), (n1, .inl (cy 0, 320, .inl (fun _ => 0))), (q2, .inr (4, [.ref n2, .int 12, .int 0, .int 0, .int 0, .int 0, .int 0, .int 0, .int (-4), .int 0, .int 0, .int 0])), (n2, .inr (1, [.ref n3, .int 0, .int 5, .int 1, .int 1, .int 2, .int 0, .int 0])), (n3, .inl (cy 1, 96, .inl (fun _ => 0))), (q3, .inr (1, [.ref n4, .int 0, .int 5, .int 1, .int 1, .int 2, .int 0, .int 0])), (n4, .inl (cy 1, 96, .inl (fun _ => 0))), (q4, .inr (0, [.ref q3, .ref n5, .int 0])), (n5, .inl (cy 1, 24, .inl (fun _ => 0))), (q5, .inr (5, [.ref n6, .int 0])), (n6, .inl (cy 0, 8, .inl (fun _ => 0))), (q6, .inl (cy 3, 2, .inr (.inr (.inr (.inr (va_up (va_up (fun _ => none) 0 (some q7)) 1 (some q8))))))), (q7, .inr (1, [.ref n7, .int 0, .int 5, .int 1, .int 1, .int 2, .int 0, .int 0])), (n7, .inl (cy 1, 96, .inl (fun _ => 0))), (q8, .inr (1, [.ref n8, .int 0, .int 5, .int 1, .int 1, .int 2, .int 0, .int 0])), (n8, .inl (cy 1, 96, .inl (fun _ => 0))), (q9, .inl (cy 2, 2, .inl (fun _ => 0))), (q10, .inl (cy 4, 4, .inr (.inr (.inr (.inr (fun _ => none))))))] := hD
  exact W.vret hx hb hr (fun t ht hW => ⟨⟨(fun k => [h0, q1, n1, q2, n2, n3, q3, n4, q4, n5, q5, n6, q6, q7, n7, q8, n8, q9, q10].getD k 0), rfl, rfl, by rw [ht]; exact ⟨hP, hD⟩⟩, hS.F ht⟩) hS.2.2 dX6_init_111 hlk
set_option maxRecDepth 100000 in
set_option maxHeartbeats 8000000 in
theorem kcK_MO {l : Launch} {G : va_G} {cy : Nat → ClassId} (sz : Nat) (h0 : Nat) : Met l yX7_init (kW yX7_init cX7_init 1 none) ({ frames := 1, cells := 11, slots := 1146, locals := 20 } : Room) (s_Pk G cy (fun _ => True) [.ref h0] sz [(h0, .inr (7, [.null, .int 0, .null, .int 0, .int 0, .int 0, .int 0, .int 0, .int 0, .int 0, .int 0, .int 0, .null, .null, .null, .int 0, .null, .int 0, .int 0, .int 0, .int 0, .null, .int 0, .null, .null, .null, .null, .int 0]))]) (va_Qv (fun (ad : Nat → Nat) => ad 0 = h0) (fun ad t => va_P G vwCl (s_WM cy ad s_M0) t.heap ∧ va_D (va_A [(h0, .inr (7, [.null, .int 0, .null, .int 0, .int 0, .int 0, .int 0, .int 0, .int 0, .int 0, .int 0, .int 0, .null, .null, .null, .int 0, .null, .int 0, .int 0, .int 0, .int 0, .null, .int 0, .null, .null, .null, .null, .int 0]))] sz) (s_WM cy ad s_M0)) (va_A [(h0, .inr (7, [.null, .int 0, .null, .int 0, .int 0, .int 0, .int 0, .int 0, .int 0, .int 0, .int 0, .int 0, .null, .null, .null, .int 0, .null, .int 0, .int 0, .int 0, .int 0, .null, .int 0, .null, .null, .null, .null, .int 0]))] sz)) 11 1146 (va_A [(h0, .inr (7, [.null, .int 0, .null, .int 0, .int 0, .int 0, .int 0, .int 0, .int 0, .int 0, .int 0, .int 0, .null, .null, .null, .int 0, .null, .int 0, .int 0, .int 0, .int 0, .null, .int 0, .null, .null, .null, .null, .int 0]))] sz) := by
  refine Met.ofW (cc := cX7_init) (maxL := 1) (ret := none) (by decide) rfl ?_
  intro p e s m args below meth c s₁ B hml hv
  obtain ⟨rfl, hsz, hP, hK, hD0, -⟩ := hv
  have hx := B.exec
  have hb := B.bytes
  have hr := B.returns
  have hts0 := atoms_spec (ws := kW yX7_init cX7_init 1 none) B.pre
  have hts : ∀ w ∈ kwL, w.before [.ref h0].toArray s = true := fun w h => hts0 w (List.mem_cons_of_mem _ h)
  have hown : s.vm.findClass RX7 = some m.cls := findClass_of_methodNamed B.named
  have hlk := B.notSynchronized
  have hin : meth.name = "<init>" := (name_of_methodNamed B.named B.method).1
  subst hsz
  have hD := hD0.self (sz := s.heap.size)
  generalize hAe : va_A [(h0, .inr (7, [.null, .int 0, .null, .int 0, .int 0, .int 0, .int 0, .int 0, .int 0, .int 0, .int 0, .int 0, .null, .null, .null, .int 0, .null, .int 0, .int 0, .int 0, .int 0, .null, .int 0, .null, .null, .null, .null, .int 0]))] s.heap.size = A at hD ⊢
  have hA : ∀ q : Nat, s.heap.size ≤ q → A q := fun q h => by rw [← hAe]; exact Or.inr h
  have hS : va_S A s.heap s.heap [] := va_S.rf
  replace hP : va_P G vwCl [(h0, .inr (7, [.null, .int 0, .null, .int 0, .int 0, .int 0, .int 0, .int 0, .int 0, .int 0, .int 0, .int 0, .null, .null, .null, .int 0, .null, .int 0, .int 0, .int 0, .int 0, .null, .int 0, .null, .null, .null, .null, .int 0]))] s.heap := hP
  have hl := lv_entry ([.ref h0]) (n := 1) (Nat.le_of_ble_eq_true rfl)
  rw [lg_entry_eq]
  generalize (lg_sl ([.ref h0]) ++ List.replicate (1 - (lg_sl ([.ref h0])).length) Slot.unset).toArray = ls at hl ⊢
  replace hl : lv_has ls 1 [(0, .ref h0)] := hl
  have hSt := hS
  refine lv_aload_n hx hb dX7_init_0 rfl (lv_at hl 0 rfl) ?_
  refine W.objInit hx hb hown (hts _ kw_765) (hts _ kw_75) (hts _ kw_76) rfl (by rw [hml]; exact hl.1) rfl dX7_init_1 (Nat.le_of_ble_eq_true rfl) (Nat.le_of_ble_eq_true rfl) ?_
  refine W.eq (g2 := F0 m 4 ls []) rfl ?_
  refine lv_aload_n hx hb dX7_init_4 rfl (lv_at hl 0 rfl) ?_
  refine lv_sipush (v := 515) hx hb dX7_init_5 (by decide) ?_
  refine s_newa (atype := .int) (ty := .int) rfl hx hb (hts _ kw_153) hK 1 rfl (fun _ h => h) hP hD hS hA (fun _ => rfl) (by decide) (by decide) (Nat.le_of_ble_eq_true rfl) (Nat.le_of_ble_eq_true rfl) (Nat.le_of_ble_eq_true rfl) dX7_init_8 (fun q1 H hP hD hS => ?_)
  refine W.widen (k := 1) (n := 515) (Nat.le_of_ble_eq_true rfl) (Nat.le_of_ble_eq_true rfl) ?_
  replace hP : va_P G vwCl [(h0, .inr (7, [.null, .int 0, .null, .int 0, .int 0, .int 0, .int 0, .int 0, .int 0, .int 0, .int 0, .int 0, .null, .null, .null, .int 0, .null, .int 0, .int 0, .int 0, .int 0, .null, .int 0, .null, .null, .null, .null, .int 0])), (q1, .inl (cy 1, 515, .inl (fun _ => 0)))] H := hP
  replace hD : va_D A [(h0, .inr (7, [.null, .int 0, .null, .int 0, .int 0, .int 0, .int 0, .int 0, .int 0, .int 0, .int 0, .int 0, .null, .null, .null, .int 0, .null, .int 0, .int 0, .int 0, .int 0, .null, .int 0, .null, .null, .null, .null, .int 0])), (q1, .inl (cy 1, 515, .inl (fun _ => 0)))] := hD
  refine va_putF (D := G) (ci := 7) (v := .ref q1) (ty := (.array .int)) (C := RX7) (T := TX7) (N := 28) hx hb hts inkX7 tyX7 tyX7_ok nmX7 hown hK hP hD hS 0 rfl rfl 0 (by decide) (hts _ kw_766) (fun _ h9 => h9) rfl hin rfl (by decide +kernel) rfl rfl (Nat.le_of_ble_eq_true rfl) dX7_init_10 (fun H locs hP hD hS => ?_)
  replace hP : va_P G vwCl [(h0, .inr (7, [.ref q1, .int 0, .null, .int 0, .int 0, .int 0, .int 0, .int 0, .int 0, .int 0, .int 0, .int 0, .null, .null, .null, .int 0, .null, .int 0, .int 0, .int 0, .int 0, .null, .int 0, .null, .null, .null, .null, .int 0])), (q1, .inl (cy 1, 515, .inl (fun _ => 0)))] H := hP
  replace hD : va_D A [(h0, .inr (7, [.ref q1, .int 0, .null, .int 0, .int 0, .int 0, .int 0, .int 0, .int 0, .int 0, .int 0, .int 0, .null, .null, .null, .int 0, .null, .int 0, .int 0, .int 0, .int 0, .null, .int 0, .null, .null, .null, .null, .int 0])), (q1, .inl (cy 1, 515, .inl (fun _ => 0)))] := hD
  refine lv_aload_n hx hb dX7_init_13 rfl (lv_at hl 0 rfl) ?_
  refine lv_sipush (v := 320) hx hb dX7_init_14 (by decide) ?_
  refine s_newa (atype := .int) (ty := .int) rfl hx hb (hts _ kw_153) hK 1 rfl (fun _ h => h) hP hD hS hA (fun _ => rfl) (by decide) (by decide) (Nat.le_of_ble_eq_true rfl) (Nat.le_of_ble_eq_true rfl) (Nat.le_of_ble_eq_true rfl) dX7_init_17 (fun q2 H hP hD hS => ?_)
  refine W.widen (k := 2) (n := 835) (Nat.le_of_ble_eq_true rfl) (Nat.le_of_ble_eq_true rfl) ?_
  replace hP : va_P G vwCl [(h0, .inr (7, [.ref q1, .int 0, .null, .int 0, .int 0, .int 0, .int 0, .int 0, .int 0, .int 0, .int 0, .int 0, .null, .null, .null, .int 0, .null, .int 0, .int 0, .int 0, .int 0, .null, .int 0, .null, .null, .null, .null, .int 0])), (q1, .inl (cy 1, 515, .inl (fun _ => 0))), (q2, .inl (cy 1, 320, .inl (fun _ => 0)))] H := hP
  replace hD : va_D A [(h0, .inr (7, [.ref q1, .int 0, .null, .int 0, .int 0, .int 0, .int 0, .int 0, .int 0, .int 0, .int 0, .int 0, .null, .null, .null, .int 0, .null, .int 0, .int 0, .int 0, .int 0, .null, .int 0, .null, .null, .null, .null, .int 0])), (q1, .inl (cy 1, 515, .inl (fun _ => 0))), (q2, .inl (cy 1, 320, .inl (fun _ => 0)))] := hD
  refine va_putF (D := G) (ci := 7) (v := .ref q2) (ty := (.array .int)) (C := RX7) (T := TX7) (N := 28) hx hb hts inkX7 tyX7 tyX7_ok nmX7 hown hK hP hD hS 0 rfl rfl 2 (by decide) (hts _ kw_768) (fun _ h9 => h9) rfl hin rfl (by decide +kernel) rfl rfl (Nat.le_of_ble_eq_true rfl) dX7_init_19 (fun H locs hP hD hS => ?_)
  replace hP : va_P G vwCl [(h0, .inr (7, [.ref q1, .int 0, .ref q2, .int 0, .int 0, .int 0, .int 0, .int 0, .int 0, .int 0, .int 0, .int 0, .null, .null, .null, .int 0, .null, .int 0, .int 0, .int 0, .int 0, .null, .int 0, .null, .null, .null, .null, .int 0])), (q1, .inl (cy 1, 515, .inl (fun _ => 0))), (q2, .inl (cy 1, 320, .inl (fun _ => 0)))] H := hP
  replace hD : va_D A [(h0, .inr (7, [.ref q1, .int 0, .ref q2, .int 0, .int 0, .int 0, .int 0, .int 0, .int 0, .int 0, .int 0, .int 0, .null, .null, .null, .int 0, .null, .int 0, .int 0, .int 0, .int 0, .null, .int 0, .null, .null, .null, .null, .int 0])), (q1, .inl (cy 1, 515, .inl (fun _ => 0))), (q2, .inl (cy 1, 320, .inl (fun _ => 0)))] := hD
  refine lv_aload_n hx hb dX7_init_22 rfl (lv_at hl 0 rfl) ?_
  refine lv_bipush (v := 16) hx hb dX7_init_23 (by decide) ?_
  refine s_newa (atype := .int) (ty := .int) rfl hx hb (hts _ kw_153) hK 1 rfl (fun _ h => h) hP hD hS hA (fun _ => rfl) (by decide) (by decide) (Nat.le_of_ble_eq_true rfl) (Nat.le_of_ble_eq_true rfl) (Nat.le_of_ble_eq_true rfl) dX7_init_25 (fun q3 H hP hD hS => ?_)
  refine W.widen (k := 3) (n := 851) (Nat.le_of_ble_eq_true rfl) (Nat.le_of_ble_eq_true rfl) ?_
  replace hP : va_P G vwCl [(h0, .inr (7, [.ref q1, .int 0, .ref q2, .int 0, .int 0, .int 0, .int 0, .int 0, .int 0, .int 0, .int 0, .int 0, .null, .null, .null, .int 0, .null, .int 0, .int 0, .int 0, .int 0, .null, .int 0, .null, .null, .null, .null, .int 0])), (q1, .inl (cy 1, 515, .inl (fun _ => 0))), (q2, .inl (cy 1, 320, .inl (fun _ => 0))), (q3, .inl (cy 1, 16, .inl (fun _ => 0)))] H := hP
  replace hD : va_D A [(h0, .inr (7, [.ref q1, .int 0, .ref q2, .int 0, .int 0, .int 0, .int 0, .int 0, .int 0, .int 0, .int 0, .int 0, .null, .null, .null, .int 0, .null, .int 0, .int 0, .int 0, .int 0, .null, .int 0, .null, .null, .null, .null, .int 0])), (q1, .inl (cy 1, 515, .inl (fun _ => 0))), (q2, .inl (cy 1, 320, .inl (fun _ => 0))), (q3, .inl (cy 1, 16, .inl (fun _ => 0)))] := hD
  refine lv_dup hx hb dX7_init_27 rfl ?_
  refine lv_iconst (v := 0) hx hb dX7_init_28 (by decide) ?_
  refine lv_iconst (v := 0) hx hb dX7_init_29 (by decide) ?_
  refine va_iast hx hb hK hP hD hS 3 1 rfl rfl (by unfold vp_in; decide) dX7_init_30 (fun H locs hP hD hS => ?_)
  rw [cl_0] at hP hD
  obtain ⟨a1, ea1⟩ : ∃ z : Nat → Int32, z = upd (fun _ => 0) 0 0 := ⟨_, rfl⟩
  replace hP : va_P G vwCl [(h0, .inr (7, [.ref q1, .int 0, .ref q2, .int 0, .int 0, .int 0, .int 0, .int 0, .int 0, .int 0, .int 0, .int 0, .null, .null, .null, .int 0, .null, .int 0, .int 0, .int 0, .int 0, .null, .int 0, .null, .null, .null, .null, .int 0])), (q1, .inl (cy 1, 515, .inl (fun _ => 0))), (q2, .inl (cy 1, 320, .inl (fun _ => 0))), (q3, .inl (cy 1, 16, .inl a1))] H := by rw [ea1]; exact hP
  replace hD : va_D A [(h0, .inr (7, [.ref q1, .int 0, .ref q2, .int 0, .int 0, .int 0, .int 0, .int 0, .int 0, .int 0, .int 0, .int 0, .null, .null, .null, .int 0, .null, .int 0, .int 0, .int 0, .int 0, .null, .int 0, .null, .null, .null, .null, .int 0])), (q1, .inl (cy 1, 515, .inl (fun _ => 0))), (q2, .inl (cy 1, 320, .inl (fun _ => 0))), (q3, .inl (cy 1, 16, .inl a1))] := by rw [ea1]; exact hD
  refine lv_dup hx hb dX7_init_31 rfl ?_
  refine lv_iconst (v := 1) hx hb dX7_init_32 (by decide) ?_
  refine lv_iconst (v := 5) hx hb dX7_init_33 (by decide) ?_
  refine va_iast hx hb hK hP hD hS 3 1 rfl rfl (by unfold vp_in; decide) dX7_init_34 (fun H locs hP hD hS => ?_)
  rw [cl_1] at hP hD
  obtain ⟨a2, ea2⟩ : ∃ z : Nat → Int32, z = upd a1 1 5 := ⟨_, rfl⟩
  replace hP : va_P G vwCl [(h0, .inr (7, [.ref q1, .int 0, .ref q2, .int 0, .int 0, .int 0, .int 0, .int 0, .int 0, .int 0, .int 0, .int 0, .null, .null, .null, .int 0, .null, .int 0, .int 0, .int 0, .int 0, .null, .int 0, .null, .null, .null, .null, .int 0])), (q1, .inl (cy 1, 515, .inl (fun _ => 0))), (q2, .inl (cy 1, 320, .inl (fun _ => 0))), (q3, .inl (cy 1, 16, .inl a2))] H := by rw [ea2]; exact hP
  replace hD : va_D A [(h0, .inr (7, [.ref q1, .int 0, .ref q2, .int 0, .int 0, .int 0, .int 0, .int 0, .int 0, .int 0, .int 0, .int 0, .null, .null, .null, .int 0, .null, .int 0, .int 0, .int 0, .int 0, .null, .int 0, .null, .null, .null, .null, .int 0])), (q1, .inl (cy 1, 515, .inl (fun _ => 0))), (q2, .inl (cy 1, 320, .inl (fun _ => 0))), (q3, .inl (cy 1, 16, .inl a2))] := by rw [ea2]; exact hD
  refine lv_dup hx hb dX7_init_35 rfl ?_
  refine lv_iconst (v := 2) hx hb dX7_init_36 (by decide) ?_
  refine lv_bipush (v := 9) hx hb dX7_init_37 (by decide) ?_
  refine va_iast hx hb hK hP hD hS 3 1 rfl rfl (by unfold vp_in; decide) dX7_init_39 (fun H locs hP hD hS => ?_)
  rw [cl_2] at hP hD
  obtain ⟨a3, ea3⟩ : ∃ z : Nat → Int32, z = upd a2 2 9 := ⟨_, rfl⟩
  replace hP : va_P G vwCl [(h0, .inr (7, [.ref q1, .int 0, .ref q2, .int 0, .int 0, .int 0, .int 0, .int 0, .int 0, .int 0, .int 0, .int 0, .null, .null, .null, .int 0, .null, .int 0, .int 0, .int 0, .int 0, .null, .int 0, .null, .null, .null, .null, .int 0])), (q1, .inl (cy 1, 515, .inl (fun _ => 0))), (q2, .inl (cy 1, 320, .inl (fun _ => 0))), (q3, .inl (cy 1, 16, .inl a3))] H := by rw [ea3]; exact hP
  replace hD : va_D A [(h0, .inr (7, [.ref q1, .int 0, .ref q2, .int 0, .int 0, .int 0, .int 0, .int 0, .int 0, .int 0, .int 0, .int 0, .null, .null, .null, .int 0, .null, .int 0, .int 0, .int 0, .int 0, .null, .int 0, .null, .null, .null, .null, .int 0])), (q1, .inl (cy 1, 515, .inl (fun _ => 0))), (q2, .inl (cy 1, 320, .inl (fun _ => 0))), (q3, .inl (cy 1, 16, .inl a3))] := by rw [ea3]; exact hD
  refine lv_dup hx hb dX7_init_40 rfl ?_
  refine lv_iconst (v := 3) hx hb dX7_init_41 (by decide) ?_
  refine lv_bipush (v := 13) hx hb dX7_init_42 (by decide) ?_
  refine va_iast hx hb hK hP hD hS 3 1 rfl rfl (by unfold vp_in; decide) dX7_init_44 (fun H locs hP hD hS => ?_)
  rw [cl_3] at hP hD
  obtain ⟨a4, ea4⟩ : ∃ z : Nat → Int32, z = upd a3 3 13 := ⟨_, rfl⟩
  replace hP : va_P G vwCl [(h0, .inr (7, [.ref q1, .int 0, .ref q2, .int 0, .int 0, .int 0, .int 0, .int 0, .int 0, .int 0, .int 0, .int 0, .null, .null, .null, .int 0, .null, .int 0, .int 0, .int 0, .int 0, .null, .int 0, .null, .null, .null, .null, .int 0])), (q1, .inl (cy 1, 515, .inl (fun _ => 0))), (q2, .inl (cy 1, 320, .inl (fun _ => 0))), (q3, .inl (cy 1, 16, .inl a4))] H := by rw [ea4]; exact hP
  replace hD : va_D A [(h0, .inr (7, [.ref q1, .int 0, .ref q2, .int 0, .int 0, .int 0, .int 0, .int 0, .int 0, .int 0, .int 0, .int 0, .null, .null, .null, .int 0, .null, .int 0, .int 0, .int 0, .int 0, .null, .int 0, .null, .null, .null, .null, .int 0])), (q1, .inl (cy 1, 515, .inl (fun _ => 0))), (q2, .inl (cy 1, 320, .inl (fun _ => 0))), (q3, .inl (cy 1, 16, .inl a4))] := by rw [ea4]; exact hD
  refine lv_dup hx hb dX7_init_45 rfl ?_
  refine lv_iconst (v := 4) hx hb dX7_init_46 (by decide) ?_
  refine lv_bipush (v := 17) hx hb dX7_init_47 (by decide) ?_
  refine va_iast hx hb hK hP hD hS 3 1 rfl rfl (by unfold vp_in; decide) dX7_init_49 (fun H locs hP hD hS => ?_)
  rw [cl_4] at hP hD
  obtain ⟨a5, ea5⟩ : ∃ z : Nat → Int32, z = upd a4 4 17 := ⟨_, rfl⟩
  replace hP : va_P G vwCl [(h0, .inr (7, [.ref q1, .int 0, .ref q2, .int 0, .int 0, .int 0, .int 0, .int 0, .int 0, .int 0, .int 0, .int 0, .null, .null, .null, .int 0, .null, .int 0, .int 0, .int 0, .int 0, .null, .int 0, .null, .null, .null, .null, .int 0])), (q1, .inl (cy 1, 515, .inl (fun _ => 0))), (q2, .inl (cy 1, 320, .inl (fun _ => 0))), (q3, .inl (cy 1, 16, .inl a5))] H := by rw [ea5]; exact hP
  replace hD : va_D A [(h0, .inr (7, [.ref q1, .int 0, .ref q2, .int 0, .int 0, .int 0, .int 0, .int 0, .int 0, .int 0, .int 0, .int 0, .null, .null, .null, .int 0, .null, .int 0, .int 0, .int 0, .int 0, .null, .int 0, .null, .null, .null, .null, .int 0])), (q1, .inl (cy 1, 515, .inl (fun _ => 0))), (q2, .inl (cy 1, 320, .inl (fun _ => 0))), (q3, .inl (cy 1, 16, .inl a5))] := by rw [ea5]; exact hD
  refine lv_dup hx hb dX7_init_50 rfl ?_
  refine lv_iconst (v := 5) hx hb dX7_init_51 (by decide) ?_
  refine lv_bipush (v := 21) hx hb dX7_init_52 (by decide) ?_
  refine va_iast hx hb hK hP hD hS 3 1 rfl rfl (by unfold vp_in; decide) dX7_init_54 (fun H locs hP hD hS => ?_)
  rw [cl_5] at hP hD
  obtain ⟨a6, ea6⟩ : ∃ z : Nat → Int32, z = upd a5 5 21 := ⟨_, rfl⟩
  replace hP : va_P G vwCl [(h0, .inr (7, [.ref q1, .int 0, .ref q2, .int 0, .int 0, .int 0, .int 0, .int 0, .int 0, .int 0, .int 0, .int 0, .null, .null, .null, .int 0, .null, .int 0, .int 0, .int 0, .int 0, .null, .int 0, .null, .null, .null, .null, .int 0])), (q1, .inl (cy 1, 515, .inl (fun _ => 0))), (q2, .inl (cy 1, 320, .inl (fun _ => 0))), (q3, .inl (cy 1, 16, .inl a6))] H := by rw [ea6]; exact hP
  replace hD : va_D A [(h0, .inr (7, [.ref q1, .int 0, .ref q2, .int 0, .int 0, .int 0, .int 0, .int 0, .int 0, .int 0, .int 0, .int 0, .null, .null, .null, .int 0, .null, .int 0, .int 0, .int 0, .int 0, .null, .int 0, .null, .null, .null, .null, .int 0])), (q1, .inl (cy 1, 515, .inl (fun _ => 0))), (q2, .inl (cy 1, 320, .inl (fun _ => 0))), (q3, .inl (cy 1, 16, .inl a6))] := by rw [ea6]; exact hD
  refine lv_dup hx hb dX7_init_55 rfl ?_
  refine lv_bipush (v := 6) hx hb dX7_init_56 (by decide) ?_
  refine lv_bipush (v := 24) hx hb dX7_init_58 (by decide) ?_
  refine va_iast hx hb hK hP hD hS 3 1 rfl rfl (by unfold vp_in; decide) dX7_init_60 (fun H locs hP hD hS => ?_)
  rw [cl_6] at hP hD
  obtain ⟨a7, ea7⟩ : ∃ z : Nat → Int32, z = upd a6 6 24 := ⟨_, rfl⟩
  replace hP : va_P G vwCl [(h0, .inr (7, [.ref q1, .int 0, .ref q2, .int 0, .int 0, .int 0, .int 0, .int 0, .int 0, .int 0, .int 0, .int 0, .null, .null, .null, .int 0, .null, .int 0, .int 0, .int 0, .int 0, .null, .int 0, .null, .null, .null, .null, .int 0])), (q1, .inl (cy 1, 515, .inl (fun _ => 0))), (q2, .inl (cy 1, 320, .inl (fun _ => 0))), (q3, .inl (cy 1, 16, .inl a7))] H := by rw [ea7]; exact hP
  replace hD : va_D A [(h0, .inr (7, [.ref q1, .int 0, .ref q2, .int 0, .int 0, .int 0, .int 0, .int 0, .int 0, .int 0, .int 0, .int 0, .null, .null, .null, .int 0, .null, .int 0, .int 0, .int 0, .int 0, .null, .int 0, .null, .null, .null, .null, .int 0])), (q1, .inl (cy 1, 515, .inl (fun _ => 0))), (q2, .inl (cy 1, 320, .inl (fun _ => 0))), (q3, .inl (cy 1, 16, .inl a7))] := by rw [ea7]; exact hD
  refine lv_dup hx hb dX7_init_61 rfl ?_
  refine lv_bipush (v := 7) hx hb dX7_init_62 (by decide) ?_
  refine lv_bipush (v := 27) hx hb dX7_init_64 (by decide) ?_
  refine va_iast hx hb hK hP hD hS 3 1 rfl rfl (by unfold vp_in; decide) dX7_init_66 (fun H locs hP hD hS => ?_)
  rw [cl_7] at hP hD
  obtain ⟨a8, ea8⟩ : ∃ z : Nat → Int32, z = upd a7 7 27 := ⟨_, rfl⟩
  replace hP : va_P G vwCl [(h0, .inr (7, [.ref q1, .int 0, .ref q2, .int 0, .int 0, .int 0, .int 0, .int 0, .int 0, .int 0, .int 0, .int 0, .null, .null, .null, .int 0, .null, .int 0, .int 0, .int 0, .int 0, .null, .int 0, .null, .null, .null, .null, .int 0])), (q1, .inl (cy 1, 515, .inl (fun _ => 0))), (q2, .inl (cy 1, 320, .inl (fun _ => 0))), (q3, .inl (cy 1, 16, .inl a8))] H := by rw [ea8]; exact hP
  replace hD : va_D A [(h0, .inr (7, [.ref q1, .int 0, .ref q2, .int 0, .int 0, .int 0, .int 0, .int 0, .int 0, .int 0, .int 0, .int 0, .null, .null, .null, .int 0, .null, .int 0, .int 0, .int 0, .int 0, .null, .int 0, .null, .null, .null, .null, .int 0])), (q1, .inl (cy 1, 515, .inl (fun _ => 0))), (q2, .inl (cy 1, 320, .inl (fun _ => 0))), (q3, .inl (cy 1, 16, .inl a8))] := by rw [ea8]; exact hD
  refine lv_dup hx hb dX7_init_67 rfl ?_
  refine lv_bipush (v := 8) hx hb dX7_init_68 (by decide) ?_
  refine lv_bipush (v := 31) hx hb dX7_init_70 (by decide) ?_
  refine va_iast hx hb hK hP hD hS 3 1 rfl rfl (by unfold vp_in; decide) dX7_init_72 (fun H locs hP hD hS => ?_)
  rw [cl_8] at hP hD
  obtain ⟨a9, ea9⟩ : ∃ z : Nat → Int32, z = upd a8 8 31 := ⟨_, rfl⟩
  replace hP : va_P G vwCl [(h0, .inr (7, [.ref q1, .int 0, .ref q2, .int 0, .int 0, .int 0, .int 0, .int 0, .int 0, .int 0, .int 0, .int 0, .null, .null, .null, .int 0, .null, .int 0, .int 0, .int 0, .int 0, .null, .int 0, .null, .null, .null, .null, .int 0])), (q1, .inl (cy 1, 515, .inl (fun _ => 0))), (q2, .inl (cy 1, 320, .inl (fun _ => 0))), (q3, .inl (cy 1, 16, .inl a9))] H := by rw [ea9]; exact hP
  replace hD : va_D A [(h0, .inr (7, [.ref q1, .int 0, .ref q2, .int 0, .int 0, .int 0, .int 0, .int 0, .int 0, .int 0, .int 0, .int 0, .null, .null, .null, .int 0, .null, .int 0, .int 0, .int 0, .int 0, .null, .int 0, .null, .null, .null, .null, .int 0])), (q1, .inl (cy 1, 515, .inl (fun _ => 0))), (q2, .inl (cy 1, 320, .inl (fun _ => 0))), (q3, .inl (cy 1, 16, .inl a9))] := by rw [ea9]; exact hD
  refine lv_dup hx hb dX7_init_73 rfl ?_
  refine lv_bipush (v := 9) hx hb dX7_init_74 (by decide) ?_
  refine lv_bipush (v := 35) hx hb dX7_init_76 (by decide) ?_
  refine va_iast hx hb hK hP hD hS 3 1 rfl rfl (by unfold vp_in; decide) dX7_init_78 (fun H locs hP hD hS => ?_)
  rw [cl_9] at hP hD
  obtain ⟨a10, ea10⟩ : ∃ z : Nat → Int32, z = upd a9 9 35 := ⟨_, rfl⟩
  replace hP : va_P G vwCl [(h0, .inr (7, [.ref q1, .int 0, .ref q2, .int 0, .int 0, .int 0, .int 0, .int 0, .int 0, .int 0, .int 0, .int 0, .null, .null, .null, .int 0, .null, .int 0, .int 0, .int 0, .int 0, .null, .int 0, .null, .null, .null, .null, .int 0])), (q1, .inl (cy 1, 515, .inl (fun _ => 0))), (q2, .inl (cy 1, 320, .inl (fun _ => 0))), (q3, .inl (cy 1, 16, .inl a10))] H := by rw [ea10]; exact hP
  replace hD : va_D A [(h0, .inr (7, [.ref q1, .int 0, .ref q2, .int 0, .int 0, .int 0, .int 0, .int 0, .int 0, .int 0, .int 0, .int 0, .null, .null, .null, .int 0, .null, .int 0, .int 0, .int 0, .int 0, .null, .int 0, .null, .null, .null, .null, .int 0])), (q1, .inl (cy 1, 515, .inl (fun _ => 0))), (q2, .inl (cy 1, 320, .inl (fun _ => 0))), (q3, .inl (cy 1, 16, .inl a10))] := by rw [ea10]; exact hD
  refine lv_dup hx hb dX7_init_79 rfl ?_
  refine lv_bipush (v := 10) hx hb dX7_init_80 (by decide) ?_
  refine lv_bipush (v := 39) hx hb dX7_init_82 (by decide) ?_
  refine va_iast hx hb hK hP hD hS 3 1 rfl rfl (by unfold vp_in; decide) dX7_init_84 (fun H locs hP hD hS => ?_)
  rw [cl_10] at hP hD
  obtain ⟨a11, ea11⟩ : ∃ z : Nat → Int32, z = upd a10 10 39 := ⟨_, rfl⟩
  replace hP : va_P G vwCl [(h0, .inr (7, [.ref q1, .int 0, .ref q2, .int 0, .int 0, .int 0, .int 0, .int 0, .int 0, .int 0, .int 0, .int 0, .null, .null, .null, .int 0, .null, .int 0, .int 0, .int 0, .int 0, .null, .int 0, .null, .null, .null, .null, .int 0])), (q1, .inl (cy 1, 515, .inl (fun _ => 0))), (q2, .inl (cy 1, 320, .inl (fun _ => 0))), (q3, .inl (cy 1, 16, .inl a11))] H := by rw [ea11]; exact hP
  replace hD : va_D A [(h0, .inr (7, [.ref q1, .int 0, .ref q2, .int 0, .int 0, .int 0, .int 0, .int 0, .int 0, .int 0, .int 0, .int 0, .null, .null, .null, .int 0, .null, .int 0, .int 0, .int 0, .int 0, .null, .int 0, .null, .null, .null, .null, .int 0])), (q1, .inl (cy 1, 515, .inl (fun _ => 0))), (q2, .inl (cy 1, 320, .inl (fun _ => 0))), (q3, .inl (cy 1, 16, .inl a11))] := by rw [ea11]; exact hD
  refine lv_dup hx hb dX7_init_85 rfl ?_
  refine lv_bipush (v := 11) hx hb dX7_init_86 (by decide) ?_
  refine lv_bipush (v := 43) hx hb dX7_init_88 (by decide) ?_
  refine va_iast hx hb hK hP hD hS 3 1 rfl rfl (by unfold vp_in; decide) dX7_init_90 (fun H locs hP hD hS => ?_)
  rw [cl_11] at hP hD
  obtain ⟨a12, ea12⟩ : ∃ z : Nat → Int32, z = upd a11 11 43 := ⟨_, rfl⟩
  replace hP : va_P G vwCl [(h0, .inr (7, [.ref q1, .int 0, .ref q2, .int 0, .int 0, .int 0, .int 0, .int 0, .int 0, .int 0, .int 0, .int 0, .null, .null, .null, .int 0, .null, .int 0, .int 0, .int 0, .int 0, .null, .int 0, .null, .null, .null, .null, .int 0])), (q1, .inl (cy 1, 515, .inl (fun _ => 0))), (q2, .inl (cy 1, 320, .inl (fun _ => 0))), (q3, .inl (cy 1, 16, .inl a12))] H := by rw [ea12]; exact hP
  replace hD : va_D A [(h0, .inr (7, [.ref q1, .int 0, .ref q2, .int 0, .int 0, .int 0, .int 0, .int 0, .int 0, .int 0, .int 0, .int 0, .null, .null, .null, .int 0, .null, .int 0, .int 0, .int 0, .int 0, .null, .int 0, .null, .null, .null, .null, .int 0])), (q1, .inl (cy 1, 515, .inl (fun _ => 0))), (q2, .inl (cy 1, 320, .inl (fun _ => 0))), (q3, .inl (cy 1, 16, .inl a12))] := by rw [ea12]; exact hD
  refine lv_dup hx hb dX7_init_91 rfl ?_
  refine lv_bipush (v := 12) hx hb dX7_init_92 (by decide) ?_
  refine lv_bipush (v := 48) hx hb dX7_init_94 (by decide) ?_
  refine va_iast hx hb hK hP hD hS 3 1 rfl rfl (by unfold vp_in; decide) dX7_init_96 (fun H locs hP hD hS => ?_)
  rw [cl_12] at hP hD
  obtain ⟨a13, ea13⟩ : ∃ z : Nat → Int32, z = upd a12 12 48 := ⟨_, rfl⟩
  replace hP : va_P G vwCl [(h0, .inr (7, [.ref q1, .int 0, .ref q2, .int 0, .int 0, .int 0, .int 0, .int 0, .int 0, .int 0, .int 0, .int 0, .null, .null, .null, .int 0, .null, .int 0, .int 0, .int 0, .int 0, .null, .int 0, .null, .null, .null, .null, .int 0])), (q1, .inl (cy 1, 515, .inl (fun _ => 0))), (q2, .inl (cy 1, 320, .inl (fun _ => 0))), (q3, .inl (cy 1, 16, .inl a13))] H := by rw [ea13]; exact hP
  replace hD : va_D A [(h0, .inr (7, [.ref q1, .int 0, .ref q2, .int 0, .int 0, .int 0, .int 0, .int 0, .int 0, .int 0, .int 0, .int 0, .null, .null, .null, .int 0, .null, .int 0, .int 0, .int 0, .int 0, .null, .int 0, .null, .null, .null, .null, .int 0])), (q1, .inl (cy 1, 515, .inl (fun _ => 0))), (q2, .inl (cy 1, 320, .inl (fun _ => 0))), (q3, .inl (cy 1, 16, .inl a13))] := by rw [ea13]; exact hD
  refine lv_dup hx hb dX7_init_97 rfl ?_
  refine lv_bipush (v := 13) hx hb dX7_init_98 (by decide) ?_
  refine lv_bipush (v := 53) hx hb dX7_init_100 (by decide) ?_
  refine va_iast hx hb hK hP hD hS 3 1 rfl rfl (by unfold vp_in; decide) dX7_init_102 (fun H locs hP hD hS => ?_)
  rw [cl_13] at hP hD
  obtain ⟨a14, ea14⟩ : ∃ z : Nat → Int32, z = upd a13 13 53 := ⟨_, rfl⟩
  replace hP : va_P G vwCl [(h0, .inr (7, [.ref q1, .int 0, .ref q2, .int 0, .int 0, .int 0, .int 0, .int 0, .int 0, .int 0, .int 0, .int 0, .null, .null, .null, .int 0, .null, .int 0, .int 0, .int 0, .int 0, .null, .int 0, .null, .null, .null, .null, .int 0])), (q1, .inl (cy 1, 515, .inl (fun _ => 0))), (q2, .inl (cy 1, 320, .inl (fun _ => 0))), (q3, .inl (cy 1, 16, .inl a14))] H := by rw [ea14]; exact hP
  replace hD : va_D A [(h0, .inr (7, [.ref q1, .int 0, .ref q2, .int 0, .int 0, .int 0, .int 0, .int 0, .int 0, .int 0, .int 0, .int 0, .null, .null, .null, .int 0, .null, .int 0, .int 0, .int 0, .int 0, .null, .int 0, .null, .null, .null, .null, .int 0])), (q1, .inl (cy 1, 515, .inl (fun _ => 0))), (q2, .inl (cy 1, 320, .inl (fun _ => 0))), (q3, .inl (cy 1, 16, .inl a14))] := by rw [ea14]; exact hD
  refine lv_dup hx hb dX7_init_103 rfl ?_
  refine lv_bipush (v := 14) hx hb dX7_init_104 (by decide) ?_
  refine lv_bipush (v := 57) hx hb dX7_init_106 (by decide) ?_
  refine va_iast hx hb hK hP hD hS 3 1 rfl rfl (by unfold vp_in; decide) dX7_init_108 (fun H locs hP hD hS => ?_)
  rw [cl_14] at hP hD
  obtain ⟨a15, ea15⟩ : ∃ z : Nat → Int32, z = upd a14 14 57 := ⟨_, rfl⟩
  replace hP : va_P G vwCl [(h0, .inr (7, [.ref q1, .int 0, .ref q2, .int 0, .int 0, .int 0, .int 0, .int 0, .int 0, .int 0, .int 0, .int 0, .null, .null, .null, .int 0, .null, .int 0, .int 0, .int 0, .int 0, .null, .int 0, .null, .null, .null, .null, .int 0])), (q1, .inl (cy 1, 515, .inl (fun _ => 0))), (q2, .inl (cy 1, 320, .inl (fun _ => 0))), (q3, .inl (cy 1, 16, .inl a15))] H := by rw [ea15]; exact hP
  replace hD : va_D A [(h0, .inr (7, [.ref q1, .int 0, .ref q2, .int 0, .int 0, .int 0, .int 0, .int 0, .int 0, .int 0, .int 0, .int 0, .null, .null, .null, .int 0, .null, .int 0, .int 0, .int 0, .int 0, .null, .int 0, .null, .null, .null, .null, .int 0])), (q1, .inl (cy 1, 515, .inl (fun _ => 0))), (q2, .inl (cy 1, 320, .inl (fun _ => 0))), (q3, .inl (cy 1, 16, .inl a15))] := by rw [ea15]; exact hD
  refine lv_dup hx hb dX7_init_109 rfl ?_
  refine lv_bipush (v := 15) hx hb dX7_init_110 (by decide) ?_
  refine lv_bipush (v := 61) hx hb dX7_init_112 (by decide) ?_
  refine va_iast hx hb hK hP hD hS 3 1 rfl rfl (by unfold vp_in; decide) dX7_init_114 (fun H locs hP hD hS => ?_)
  rw [cl_15] at hP hD
  obtain ⟨a16, ea16⟩ : ∃ z : Nat → Int32, z = upd a15 15 61 := ⟨_, rfl⟩
  replace hP : va_P G vwCl [(h0, .inr (7, [.ref q1, .int 0, .ref q2, .int 0, .int 0, .int 0, .int 0, .int 0, .int 0, .int 0, .int 0, .int 0, .null, .null, .null, .int 0, .null, .int 0, .int 0, .int 0, .int 0, .null, .int 0, .null, .null, .null, .null, .int 0])), (q1, .inl (cy 1, 515, .inl (fun _ => 0))), (q2, .inl (cy 1, 320, .inl (fun _ => 0))), (q3, .inl (cy 1, 16, .inl a16))] H := by rw [ea16]; exact hP
  replace hD : va_D A [(h0, .inr (7, [.ref q1, .int 0, .ref q2, .int 0, .int 0, .int 0, .int 0, .int 0, .int 0, .int 0, .int 0, .int 0, .null, .null, .null, .int 0, .null, .int 0, .int 0, .int 0, .int 0, .null, .int 0, .null, .null, .null, .null, .int 0])), (q1, .inl (cy 1, 515, .inl (fun _ => 0))), (q2, .inl (cy 1, 320, .inl (fun _ => 0))), (q3, .inl (cy 1, 16, .inl a16))] := by rw [ea16]; exact hD
  refine va_putF (D := G) (ci := 7) (v := .ref q3) (ty := (.array .int)) (C := RX7) (T := TX7) (N := 28) hx hb hts inkX7 tyX7 tyX7_ok nmX7 hown hK hP hD hS 0 rfl rfl 12 (by decide) (hts _ kw_778) (fun _ h9 => h9) rfl hin rfl (by decide +kernel) rfl rfl (Nat.le_of_ble_eq_true rfl) dX7_init_115 (fun H locs hP hD hS => ?_)
  replace hP : va_P G vwCl [(h0, .inr (7, [.ref q1, .int 0, .ref q2, .int 0, .int 0, .int 0, .int 0, .int 0, .int 0, .int 0, .int 0, .int 0, .ref q3, .null, .null, .int 0, .null, .int 0, .int 0, .int 0, .int 0, .null, .int 0, .null, .null, .null, .null, .int 0])), (q1, .inl (cy 1, 515, .inl (fun _ => 0))), (q2, .inl (cy 1, 320, .inl (fun _ => 0))), (q3, .inl (cy 1, 16, .inl a16))] H := hP
  replace hD : va_D A [(h0, .inr (7, [.ref q1, .int 0, .ref q2, .int 0, .int 0, .int 0, .int 0, .int 0, .int 0, .int 0, .int 0, .int 0, .ref q3, .null, .null, .int 0, .null, .int 0, .int 0, .int 0, .int 0, .null, .int 0, .null, .null, .null, .null, .int 0])), (q1, .inl (cy 1, 515, .inl (fun _ => 0))), (q2, .inl (cy 1, 320, .inl (fun _ => 0))), (q3, .inl (cy 1, 16, .inl a16))] := hD
  refine lv_aload_n hx hb dX7_init_118 rfl (lv_at hl 0 rfl) ?_
  refine lv_bipush (v := 61) hx hb dX7_init_119 (by decide) ?_
  refine s_newa (atype := .int) (ty := .int) rfl hx hb (hts _ kw_153) hK 1 rfl (fun _ h => h) hP hD hS hA (fun _ => rfl) (by decide) (by decide) (Nat.le_of_ble_eq_true rfl) (Nat.le_of_ble_eq_true rfl) (Nat.le_of_ble_eq_true rfl) dX7_init_121 (fun q4 H hP hD hS => ?_)
  refine W.widen (k := 4) (n := 912) (Nat.le_of_ble_eq_true rfl) (Nat.le_of_ble_eq_true rfl) ?_
  replace hP : va_P G vwCl [(h0, .inr (7, [.ref q1, .int 0, .ref q2, .int 0, .int 0, .int 0, .int 0, .int 0, .int 0, .int 0, .int 0, .int 0, .ref q3, .null, .null, .int 0, .null, .int 0, .int 0, .int 0, .int 0, .null, .int 0, .null, .null, .null, .null, .int 0])), (q1, .inl (cy 1, 515, .inl (fun _ => 0))), (q2, .inl (cy 1, 320, .inl (fun _ => 0))), (q3, .inl (cy 1, 16, .inl a16)), (q4, .inl (cy 1, 61, .inl (fun _ => 0)))] H := hP
  replace hD : va_D A [(h0, .inr (7, [.ref q1, .int 0, .ref q2, .int 0, .int 0, .int 0, .int 0, .int 0, .int 0, .int 0, .int 0, .int 0, .ref q3, .null, .null, .int 0, .null, .int 0, .int 0, .int 0, .int 0, .null, .int 0, .null, .null, .null, .null, .int 0])), (q1, .inl (cy 1, 515, .inl (fun _ => 0))), (q2, .inl (cy 1, 320, .inl (fun _ => 0))), (q3, .inl (cy 1, 16, .inl a16)), (q4, .inl (cy 1, 61, .inl (fun _ => 0)))] := hD
  refine lv_dup hx hb dX7_init_123 rfl ?_
  refine lv_iconst (v := 0) hx hb dX7_init_124 (by decide) ?_
  refine lv_bipush (v := 119) hx hb dX7_init_125 (by decide) ?_
  refine va_iast hx hb hK hP hD hS 4 1 rfl rfl (by unfold vp_in; decide) dX7_init_127 (fun H locs hP hD hS => ?_)
  rw [cl_0] at hP hD
  obtain ⟨a17, ea17⟩ : ∃ z : Nat → Int32, z = upd (fun _ => 0) 0 119 := ⟨_, rfl⟩
  replace hP : va_P G vwCl [(h0, .inr (7, [.ref q1, .int 0, .ref q2, .int 0, .int 0, .int 0, .int 0, .int 0, .int 0, .int 0, .int 0, .int 0, .ref q3, .null, .null, .int 0, .null, .int 0, .int 0, .int 0, .int 0, .null, .int 0, .null, .null, .null, .null, .int 0])), (q1, .inl (cy 1, 515, .inl (fun _ => 0))), (q2, .inl (cy 1, 320, .inl (fun _ => 0))), (q3, .inl (cy 1, 16, .inl a16)), (q4, .inl (cy 1, 61, .inl a17))] H := by rw [ea17]; exact hP
  replace hD : va_D A [(h0, .inr (7, [.ref q1, .int 0, .ref q2, .int 0, .int 0, .int 0, .int 0, .int 0, .int 0, .int 0, .int 0, .int 0, .ref q3, .null, .null, .int 0, .null, .int 0, .int 0, .int 0, .int 0, .null, .int 0, .null, .null, .null, .null, .int 0])), (q1, .inl (cy 1, 515, .inl (fun _ => 0))), (q2, .inl (cy 1, 320, .inl (fun _ => 0))), (q3, .inl (cy 1, 16, .inl a16)), (q4, .inl (cy 1, 61, .inl a17))] := by rw [ea17]; exact hD
  refine lv_dup hx hb dX7_init_128 rfl ?_
  refine lv_iconst (v := 1) hx hb dX7_init_129 (by decide) ?_
  refine lv_bipush (v := 105) hx hb dX7_init_130 (by decide) ?_
  refine va_iast hx hb hK hP hD hS 4 1 rfl rfl (by unfold vp_in; decide) dX7_init_132 (fun H locs hP hD hS => ?_)
  rw [cl_1] at hP hD
  obtain ⟨a18, ea18⟩ : ∃ z : Nat → Int32, z = upd a17 1 105 := ⟨_, rfl⟩
  replace hP : va_P G vwCl [(h0, .inr (7, [.ref q1, .int 0, .ref q2, .int 0, .int 0, .int 0, .int 0, .int 0, .int 0, .int 0, .int 0, .int 0, .ref q3, .null, .null, .int 0, .null, .int 0, .int 0, .int 0, .int 0, .null, .int 0, .null, .null, .null, .null, .int 0])), (q1, .inl (cy 1, 515, .inl (fun _ => 0))), (q2, .inl (cy 1, 320, .inl (fun _ => 0))), (q3, .inl (cy 1, 16, .inl a16)), (q4, .inl (cy 1, 61, .inl a18))] H := by rw [ea18]; exact hP
  replace hD : va_D A [(h0, .inr (7, [.ref q1, .int 0, .ref q2, .int 0, .int 0, .int 0, .int 0, .int 0, .int 0, .int 0, .int 0, .int 0, .ref q3, .null, .null, .int 0, .null, .int 0, .int 0, .int 0, .int 0, .null, .int 0, .null, .null, .null, .null, .int 0])), (q1, .inl (cy 1, 515, .inl (fun _ => 0))), (q2, .inl (cy 1, 320, .inl (fun _ => 0))), (q3, .inl (cy 1, 16, .inl a16)), (q4, .inl (cy 1, 61, .inl a18))] := by rw [ea18]; exact hD
  refine lv_dup hx hb dX7_init_133 rfl ?_
  refine lv_iconst (v := 2) hx hb dX7_init_134 (by decide) ?_
  refine lv_bipush (v := 100) hx hb dX7_init_135 (by decide) ?_
  refine va_iast hx hb hK hP hD hS 4 1 rfl rfl (by unfold vp_in; decide) dX7_init_137 (fun H locs hP hD hS => ?_)
  rw [cl_2] at hP hD
  obtain ⟨a19, ea19⟩ : ∃ z : Nat → Int32, z = upd a18 2 100 := ⟨_, rfl⟩
  replace hP : va_P G vwCl [(h0, .inr (7, [.ref q1, .int 0, .ref q2, .int 0, .int 0, .int 0, .int 0, .int 0, .int 0, .int 0, .int 0, .int 0, .ref q3, .null, .null, .int 0, .null, .int 0, .int 0, .int 0, .int 0, .null, .int 0, .null, .null, .null, .null, .int 0])), (q1, .inl (cy 1, 515, .inl (fun _ => 0))), (q2, .inl (cy 1, 320, .inl (fun _ => 0))), (q3, .inl (cy 1, 16, .inl a16)), (q4, .inl (cy 1, 61, .inl a19))] H := by rw [ea19]; exact hP
  replace hD : va_D A [(h0, .inr (7, [.ref q1, .int 0, .ref q2, .int 0, .int 0, .int 0, .int 0, .int 0, .int 0, .int 0, .int 0, .int 0, .ref q3, .null, .null, .int 0, .null, .int 0, .int 0, .int 0, .int 0, .null, .int 0, .null, .null, .null, .null, .int 0])), (q1, .inl (cy 1, 515, .inl (fun _ => 0))), (q2, .inl (cy 1, 320, .inl (fun _ => 0))), (q3, .inl (cy 1, 16, .inl a16)), (q4, .inl (cy 1, 61, .inl a19))] := by rw [ea19]; exact hD
  refine lv_dup hx hb dX7_init_138 rfl ?_
  refine lv_iconst (v := 3) hx hb dX7_init_139 (by decide) ?_
  refine lv_bipush (v := 116) hx hb dX7_init_140 (by decide) ?_
  refine va_iast hx hb hK hP hD hS 4 1 rfl rfl (by unfold vp_in; decide) dX7_init_142 (fun H locs hP hD hS => ?_)
  rw [cl_3] at hP hD
  obtain ⟨a20, ea20⟩ : ∃ z : Nat → Int32, z = upd a19 3 116 := ⟨_, rfl⟩
  replace hP : va_P G vwCl [(h0, .inr (7, [.ref q1, .int 0, .ref q2, .int 0, .int 0, .int 0, .int 0, .int 0, .int 0, .int 0, .int 0, .int 0, .ref q3, .null, .null, .int 0, .null, .int 0, .int 0, .int 0, .int 0, .null, .int 0, .null, .null, .null, .null, .int 0])), (q1, .inl (cy 1, 515, .inl (fun _ => 0))), (q2, .inl (cy 1, 320, .inl (fun _ => 0))), (q3, .inl (cy 1, 16, .inl a16)), (q4, .inl (cy 1, 61, .inl a20))] H := by rw [ea20]; exact hP
  replace hD : va_D A [(h0, .inr (7, [.ref q1, .int 0, .ref q2, .int 0, .int 0, .int 0, .int 0, .int 0, .int 0, .int 0, .int 0, .int 0, .ref q3, .null, .null, .int 0, .null, .int 0, .int 0, .int 0, .int 0, .null, .int 0, .null, .null, .null, .null, .int 0])), (q1, .inl (cy 1, 515, .inl (fun _ => 0))), (q2, .inl (cy 1, 320, .inl (fun _ => 0))), (q3, .inl (cy 1, 16, .inl a16)), (q4, .inl (cy 1, 61, .inl a20))] := by rw [ea20]; exact hD
  refine lv_dup hx hb dX7_init_143 rfl ?_
  refine lv_iconst (v := 4) hx hb dX7_init_144 (by decide) ?_
  refine lv_bipush (v := 104) hx hb dX7_init_145 (by decide) ?_
  refine va_iast hx hb hK hP hD hS 4 1 rfl rfl (by unfold vp_in; decide) dX7_init_147 (fun H locs hP hD hS => ?_)
  rw [cl_4] at hP hD
  obtain ⟨a21, ea21⟩ : ∃ z : Nat → Int32, z = upd a20 4 104 := ⟨_, rfl⟩
  replace hP : va_P G vwCl [(h0, .inr (7, [.ref q1, .int 0, .ref q2, .int 0, .int 0, .int 0, .int 0, .int 0, .int 0, .int 0, .int 0, .int 0, .ref q3, .null, .null, .int 0, .null, .int 0, .int 0, .int 0, .int 0, .null, .int 0, .null, .null, .null, .null, .int 0])), (q1, .inl (cy 1, 515, .inl (fun _ => 0))), (q2, .inl (cy 1, 320, .inl (fun _ => 0))), (q3, .inl (cy 1, 16, .inl a16)), (q4, .inl (cy 1, 61, .inl a21))] H := by rw [ea21]; exact hP
  replace hD : va_D A [(h0, .inr (7, [.ref q1, .int 0, .ref q2, .int 0, .int 0, .int 0, .int 0, .int 0, .int 0, .int 0, .int 0, .int 0, .ref q3, .null, .null, .int 0, .null, .int 0, .int 0, .int 0, .int 0, .null, .int 0, .null, .null, .null, .null, .int 0])), (q1, .inl (cy 1, 515, .inl (fun _ => 0))), (q2, .inl (cy 1, 320, .inl (fun _ => 0))), (q3, .inl (cy 1, 16, .inl a16)), (q4, .inl (cy 1, 61, .inl a21))] := by rw [ea21]; exact hD
  refine lv_dup hx hb dX7_init_148 rfl ?_
  refine lv_iconst (v := 5) hx hb dX7_init_149 (by decide) ?_
  refine lv_bipush (v := 110) hx hb dX7_init_150 (by decide) ?_
  refine va_iast hx hb hK hP hD hS 4 1 rfl rfl (by unfold vp_in; decide) dX7_init_152 (fun H locs hP hD hS => ?_)
  rw [cl_5] at hP hD
  obtain ⟨a22, ea22⟩ : ∃ z : Nat → Int32, z = upd a21 5 110 := ⟨_, rfl⟩
  replace hP : va_P G vwCl [(h0, .inr (7, [.ref q1, .int 0, .ref q2, .int 0, .int 0, .int 0, .int 0, .int 0, .int 0, .int 0, .int 0, .int 0, .ref q3, .null, .null, .int 0, .null, .int 0, .int 0, .int 0, .int 0, .null, .int 0, .null, .null, .null, .null, .int 0])), (q1, .inl (cy 1, 515, .inl (fun _ => 0))), (q2, .inl (cy 1, 320, .inl (fun _ => 0))), (q3, .inl (cy 1, 16, .inl a16)), (q4, .inl (cy 1, 61, .inl a22))] H := by rw [ea22]; exact hP
  replace hD : va_D A [(h0, .inr (7, [.ref q1, .int 0, .ref q2, .int 0, .int 0, .int 0, .int 0, .int 0, .int 0, .int 0, .int 0, .int 0, .ref q3, .null, .null, .int 0, .null, .int 0, .int 0, .int 0, .int 0, .null, .int 0, .null, .null, .null, .null, .int 0])), (q1, .inl (cy 1, 515, .inl (fun _ => 0))), (q2, .inl (cy 1, 320, .inl (fun _ => 0))), (q3, .inl (cy 1, 16, .inl a16)), (q4, .inl (cy 1, 61, .inl a22))] := by rw [ea22]; exact hD
  refine lv_dup hx hb dX7_init_153 rfl ?_
  refine lv_bipush (v := 6) hx hb dX7_init_154 (by decide) ?_
  refine lv_bipush (v := 101) hx hb dX7_init_156 (by decide) ?_
  refine va_iast hx hb hK hP hD hS 4 1 rfl rfl (by unfold vp_in; decide) dX7_init_158 (fun H locs hP hD hS => ?_)
  rw [cl_6] at hP hD
  obtain ⟨a23, ea23⟩ : ∃ z : Nat → Int32, z = upd a22 6 101 := ⟨_, rfl⟩
  replace hP : va_P G vwCl [(h0, .inr (7, [.ref q1, .int 0, .ref q2, .int 0, .int 0, .int 0, .int 0, .int 0, .int 0, .int 0, .int 0, .int 0, .ref q3, .null, .null, .int 0, .null, .int 0, .int 0, .int 0, .int 0, .null, .int 0, .null, .null, .null, .null, .int 0])), (q1, .inl (cy 1, 515, .inl (fun _ => 0))), (q2, .inl (cy 1, 320, .inl (fun _ => 0))), (q3, .inl (cy 1, 16, .inl a16)), (q4, .inl (cy 1, 61, .inl a23))] H := by rw [ea23]; exact hP
  replace hD : va_D A [(h0, .inr (7, [.ref q1, .int 0, .ref q2, .int 0, .int 0, .int 0, .int 0, .int 0, .int 0, .int 0, .int 0, .int 0, .ref q3, .null, .null, .int 0, .null, .int 0, .int 0, .int 0, .int 0, .null, .int 0, .null, .null, .null, .null, .int 0])), (q1, .inl (cy 1, 515, .inl (fun _ => 0))), (q2, .inl (cy 1, 320, .inl (fun _ => 0))), (q3, .inl (cy 1, 16, .inl a16)), (q4, .inl (cy 1, 61, .inl a23))] := by rw [ea23]; exact hD
  refine lv_dup hx hb dX7_init_159 rfl ?_
  refine lv_bipush (v := 7) hx hb dX7_init_160 (by decide) ?_
  refine lv_bipush (v := 101) hx hb dX7_init_162 (by decide) ?_
  refine va_iast hx hb hK hP hD hS 4 1 rfl rfl (by unfold vp_in; decide) dX7_init_164 (fun H locs hP hD hS => ?_)
  rw [cl_7] at hP hD
  obtain ⟨a24, ea24⟩ : ∃ z : Nat → Int32, z = upd a23 7 101 := ⟨_, rfl⟩
  replace hP : va_P G vwCl [(h0, .inr (7, [.ref q1, .int 0, .ref q2, .int 0, .int 0, .int 0, .int 0, .int 0, .int 0, .int 0, .int 0, .int 0, .ref q3, .null, .null, .int 0, .null, .int 0, .int 0, .int 0, .int 0, .null, .int 0, .null, .null, .null, .null, .int 0])), (q1, .inl (cy 1, 515, .inl (fun _ => 0))), (q2, .inl (cy 1, 320, .inl (fun _ => 0))), (q3, .inl (cy 1, 16, .inl a16)), (q4, .inl (cy 1, 61, .inl a24))] H := by rw [ea24]; exact hP
  replace hD : va_D A [(h0, .inr (7, [.ref q1, .int 0, .ref q2, .int 0, .int 0, .int 0, .int 0, .int 0, .int 0, .int 0, .int 0, .int 0, .ref q3, .null, .null, .int 0, .null, .int 0, .int 0, .int 0, .int 0, .null, .int 0, .null, .null, .null, .null, .int 0])), (q1, .inl (cy 1, 515, .inl (fun _ => 0))), (q2, .inl (cy 1, 320, .inl (fun _ => 0))), (q3, .inl (cy 1, 16, .inl a16)), (q4, .inl (cy 1, 61, .inl a24))] := by rw [ea24]; exact hD
  refine lv_dup hx hb dX7_init_165 rfl ?_
  refine lv_bipush (v := 8) hx hb dX7_init_166 (by decide) ?_
  refine lv_bipush (v := 100) hx hb dX7_init_168 (by decide) ?_
  refine va_iast hx hb hK hP hD hS 4 1 rfl rfl (by unfold vp_in; decide) dX7_init_170 (fun H locs hP hD hS => ?_)
  rw [cl_8] at hP hD
  obtain ⟨a25, ea25⟩ : ∃ z : Nat → Int32, z = upd a24 8 100 := ⟨_, rfl⟩
  replace hP : va_P G vwCl [(h0, .inr (7, [.ref q1, .int 0, .ref q2, .int 0, .int 0, .int 0, .int 0, .int 0, .int 0, .int 0, .int 0, .int 0, .ref q3, .null, .null, .int 0, .null, .int 0, .int 0, .int 0, .int 0, .null, .int 0, .null, .null, .null, .null, .int 0])), (q1, .inl (cy 1, 515, .inl (fun _ => 0))), (q2, .inl (cy 1, 320, .inl (fun _ => 0))), (q3, .inl (cy 1, 16, .inl a16)), (q4, .inl (cy 1, 61, .inl a25))] H := by rw [ea25]; exact hP
  replace hD : va_D A [(h0, .inr (7, [.ref q1, .int 0, .ref q2, .int 0, .int 0, .int 0, .int 0, .int 0, .int 0, .int 0, .int 0, .int 0, .ref q3, .null, .null, .int 0, .null, .int 0, .int 0, .int 0, .int 0, .null, .int 0, .null, .null, .null, .null, .int 0])), (q1, .inl (cy 1, 515, .inl (fun _ => 0))), (q2, .inl (cy 1, 320, .inl (fun _ => 0))), (q3, .inl (cy 1, 16, .inl a16)), (q4, .inl (cy 1, 61, .inl a25))] := by rw [ea25]; exact hD
  refine lv_dup hx hb dX7_init_171 rfl ?_
  refine lv_bipush (v := 9) hx hb dX7_init_172 (by decide) ?_
  refine lv_bipush (v := 112) hx hb dX7_init_174 (by decide) ?_
  refine va_iast hx hb hK hP hD hS 4 1 rfl rfl (by unfold vp_in; decide) dX7_init_176 (fun H locs hP hD hS => ?_)
  rw [cl_9] at hP hD
  obtain ⟨a26, ea26⟩ : ∃ z : Nat → Int32, z = upd a25 9 112 := ⟨_, rfl⟩
  replace hP : va_P G vwCl [(h0, .inr (7, [.ref q1, .int 0, .ref q2, .int 0, .int 0, .int 0, .int 0, .int 0, .int 0, .int 0, .int 0, .int 0, .ref q3, .null, .null, .int 0, .null, .int 0, .int 0, .int 0, .int 0, .null, .int 0, .null, .null, .null, .null, .int 0])), (q1, .inl (cy 1, 515, .inl (fun _ => 0))), (q2, .inl (cy 1, 320, .inl (fun _ => 0))), (q3, .inl (cy 1, 16, .inl a16)), (q4, .inl (cy 1, 61, .inl a26))] H := by rw [ea26]; exact hP
  replace hD : va_D A [(h0, .inr (7, [.ref q1, .int 0, .ref q2, .int 0, .int 0, .int 0, .int 0, .int 0, .int 0, .int 0, .int 0, .int 0, .ref q3, .null, .null, .int 0, .null, .int 0, .int 0, .int 0, .int 0, .null, .int 0, .null, .null, .null, .null, .int 0])), (q1, .inl (cy 1, 515, .inl (fun _ => 0))), (q2, .inl (cy 1, 320, .inl (fun _ => 0))), (q3, .inl (cy 1, 16, .inl a16)), (q4, .inl (cy 1, 61, .inl a26))] := by rw [ea26]; exact hD
  refine lv_dup hx hb dX7_init_177 rfl ?_
  refine lv_bipush (v := 10) hx hb dX7_init_178 (by decide) ?_
  refine lv_bipush (v := 97) hx hb dX7_init_180 (by decide) ?_
  refine va_iast hx hb hK hP hD hS 4 1 rfl rfl (by unfold vp_in; decide) dX7_init_182 (fun H locs hP hD hS => ?_)
  rw [cl_10] at hP hD
  obtain ⟨a27, ea27⟩ : ∃ z : Nat → Int32, z = upd a26 10 97 := ⟨_, rfl⟩
  replace hP : va_P G vwCl [(h0, .inr (7, [.ref q1, .int 0, .ref q2, .int 0, .int 0, .int 0, .int 0, .int 0, .int 0, .int 0, .int 0, .int 0, .ref q3, .null, .null, .int 0, .null, .int 0, .int 0, .int 0, .int 0, .null, .int 0, .null, .null, .null, .null, .int 0])), (q1, .inl (cy 1, 515, .inl (fun _ => 0))), (q2, .inl (cy 1, 320, .inl (fun _ => 0))), (q3, .inl (cy 1, 16, .inl a16)), (q4, .inl (cy 1, 61, .inl a27))] H := by rw [ea27]; exact hP
  replace hD : va_D A [(h0, .inr (7, [.ref q1, .int 0, .ref q2, .int 0, .int 0, .int 0, .int 0, .int 0, .int 0, .int 0, .int 0, .int 0, .ref q3, .null, .null, .int 0, .null, .int 0, .int 0, .int 0, .int 0, .null, .int 0, .null, .null, .null, .null, .int 0])), (q1, .inl (cy 1, 515, .inl (fun _ => 0))), (q2, .inl (cy 1, 320, .inl (fun _ => 0))), (q3, .inl (cy 1, 16, .inl a16)), (q4, .inl (cy 1, 61, .inl a27))] := by rw [ea27]; exact hD
  refine lv_dup hx hb dX7_init_183 rfl ?_
  refine lv_bipush (v := 11) hx hb dX7_init_184 (by decide) ?_
  refine lv_bipush (v := 114) hx hb dX7_init_186 (by decide) ?_
  refine va_iast hx hb hK hP hD hS 4 1 rfl rfl (by unfold vp_in; decide) dX7_init_188 (fun H locs hP hD hS => ?_)
  rw [cl_11] at hP hD
  obtain ⟨a28, ea28⟩ : ∃ z : Nat → Int32, z = upd a27 11 114 := ⟨_, rfl⟩
  replace hP : va_P G vwCl [(h0, .inr (7, [.ref q1, .int 0, .ref q2, .int 0, .int 0, .int 0, .int 0, .int 0, .int 0, .int 0, .int 0, .int 0, .ref q3, .null, .null, .int 0, .null, .int 0, .int 0, .int 0, .int 0, .null, .int 0, .null, .null, .null, .null, .int 0])), (q1, .inl (cy 1, 515, .inl (fun _ => 0))), (q2, .inl (cy 1, 320, .inl (fun _ => 0))), (q3, .inl (cy 1, 16, .inl a16)), (q4, .inl (cy 1, 61, .inl a28))] H := by rw [ea28]; exact hP
  replace hD : va_D A [(h0, .inr (7, [.ref q1, .int 0, .ref q2, .int 0, .int 0, .int 0, .int 0, .int 0, .int 0, .int 0, .int 0, .int 0, .ref q3, .null, .null, .int 0, .null, .int 0, .int 0, .int 0, .int 0, .null, .int 0, .null, .null, .null, .null, .int 0])), (q1, .inl (cy 1, 515, .inl (fun _ => 0))), (q2, .inl (cy 1, 320, .inl (fun _ => 0))), (q3, .inl (cy 1, 16, .inl a16)), (q4, .inl (cy 1, 61, .inl a28))] := by rw [ea28]; exact hD
  refine lv_dup hx hb dX7_init_189 rfl ?_
  refine lv_bipush (v := 12) hx hb dX7_init_190 (by decide) ?_
  refine lv_bipush (v := 116) hx hb dX7_init_192 (by decide) ?_
  refine va_iast hx hb hK hP hD hS 4 1 rfl rfl (by unfold vp_in; decide) dX7_init_194 (fun H locs hP hD hS => ?_)
  rw [cl_12] at hP hD
  obtain ⟨a29, ea29⟩ : ∃ z : Nat → Int32, z = upd a28 12 116 := ⟨_, rfl⟩
  replace hP : va_P G vwCl [(h0, .inr (7, [.ref q1, .int 0, .ref q2, .int 0, .int 0, .int 0, .int 0, .int 0, .int 0, .int 0, .int 0, .int 0, .ref q3, .null, .null, .int 0, .null, .int 0, .int 0, .int 0, .int 0, .null, .int 0, .null, .null, .null, .null, .int 0])), (q1, .inl (cy 1, 515, .inl (fun _ => 0))), (q2, .inl (cy 1, 320, .inl (fun _ => 0))), (q3, .inl (cy 1, 16, .inl a16)), (q4, .inl (cy 1, 61, .inl a29))] H := by rw [ea29]; exact hP
  replace hD : va_D A [(h0, .inr (7, [.ref q1, .int 0, .ref q2, .int 0, .int 0, .int 0, .int 0, .int 0, .int 0, .int 0, .int 0, .int 0, .ref q3, .null, .null, .int 0, .null, .int 0, .int 0, .int 0, .int 0, .null, .int 0, .null, .null, .null, .null, .int 0])), (q1, .inl (cy 1, 515, .inl (fun _ => 0))), (q2, .inl (cy 1, 320, .inl (fun _ => 0))), (q3, .inl (cy 1, 16, .inl a16)), (q4, .inl (cy 1, 61, .inl a29))] := by rw [ea29]; exact hD
  refine lv_dup hx hb dX7_init_195 rfl ?_
  refine lv_bipush (v := 13) hx hb dX7_init_196 (by decide) ?_
  refine lv_bipush (v := 114) hx hb dX7_init_198 (by decide) ?_
  refine va_iast hx hb hK hP hD hS 4 1 rfl rfl (by unfold vp_in; decide) dX7_init_200 (fun H locs hP hD hS => ?_)
  rw [cl_13] at hP hD
  obtain ⟨a30, ea30⟩ : ∃ z : Nat → Int32, z = upd a29 13 114 := ⟨_, rfl⟩
  replace hP : va_P G vwCl [(h0, .inr (7, [.ref q1, .int 0, .ref q2, .int 0, .int 0, .int 0, .int 0, .int 0, .int 0, .int 0, .int 0, .int 0, .ref q3, .null, .null, .int 0, .null, .int 0, .int 0, .int 0, .int 0, .null, .int 0, .null, .null, .null, .null, .int 0])), (q1, .inl (cy 1, 515, .inl (fun _ => 0))), (q2, .inl (cy 1, 320, .inl (fun _ => 0))), (q3, .inl (cy 1, 16, .inl a16)), (q4, .inl (cy 1, 61, .inl a30))] H := by rw [ea30]; exact hP
  replace hD : va_D A [(h0, .inr (7, [.ref q1, .int 0, .ref q2, .int 0, .int 0, .int 0, .int 0, .int 0, .int 0, .int 0, .int 0, .int 0, .ref q3, .null, .null, .int 0, .null, .int 0, .int 0, .int 0, .int 0, .null, .int 0, .null, .null, .null, .null, .int 0])), (q1, .inl (cy 1, 515, .inl (fun _ => 0))), (q2, .inl (cy 1, 320, .inl (fun _ => 0))), (q3, .inl (cy 1, 16, .inl a16)), (q4, .inl (cy 1, 61, .inl a30))] := by rw [ea30]; exact hD
  refine lv_dup hx hb dX7_init_201 rfl ?_
  refine lv_bipush (v := 14) hx hb dX7_init_202 (by decide) ?_
  refine lv_bipush (v := 117) hx hb dX7_init_204 (by decide) ?_
  refine va_iast hx hb hK hP hD hS 4 1 rfl rfl (by unfold vp_in; decide) dX7_init_206 (fun H locs hP hD hS => ?_)
  rw [cl_14] at hP hD
  obtain ⟨a31, ea31⟩ : ∃ z : Nat → Int32, z = upd a30 14 117 := ⟨_, rfl⟩
  replace hP : va_P G vwCl [(h0, .inr (7, [.ref q1, .int 0, .ref q2, .int 0, .int 0, .int 0, .int 0, .int 0, .int 0, .int 0, .int 0, .int 0, .ref q3, .null, .null, .int 0, .null, .int 0, .int 0, .int 0, .int 0, .null, .int 0, .null, .null, .null, .null, .int 0])), (q1, .inl (cy 1, 515, .inl (fun _ => 0))), (q2, .inl (cy 1, 320, .inl (fun _ => 0))), (q3, .inl (cy 1, 16, .inl a16)), (q4, .inl (cy 1, 61, .inl a31))] H := by rw [ea31]; exact hP
  replace hD : va_D A [(h0, .inr (7, [.ref q1, .int 0, .ref q2, .int 0, .int 0, .int 0, .int 0, .int 0, .int 0, .int 0, .int 0, .int 0, .ref q3, .null, .null, .int 0, .null, .int 0, .int 0, .int 0, .int 0, .null, .int 0, .null, .null, .null, .null, .int 0])), (q1, .inl (cy 1, 515, .inl (fun _ => 0))), (q2, .inl (cy 1, 320, .inl (fun _ => 0))), (q3, .inl (cy 1, 16, .inl a16)), (q4, .inl (cy 1, 61, .inl a31))] := by rw [ea31]; exact hD
  refine lv_dup hx hb dX7_init_207 rfl ?_
  refine lv_bipush (v := 15) hx hb dX7_init_208 (by decide) ?_
  refine lv_bipush (v := 108) hx hb dX7_init_210 (by decide) ?_
  refine va_iast hx hb hK hP hD hS 4 1 rfl rfl (by unfold vp_in; decide) dX7_init_212 (fun H locs hP hD hS => ?_)
  rw [cl_15] at hP hD
  obtain ⟨a32, ea32⟩ : ∃ z : Nat → Int32, z = upd a31 15 108 := ⟨_, rfl⟩
  replace hP : va_P G vwCl [(h0, .inr (7, [.ref q1, .int 0, .ref q2, .int 0, .int 0, .int 0, .int 0, .int 0, .int 0, .int 0, .int 0, .int 0, .ref q3, .null, .null, .int 0, .null, .int 0, .int 0, .int 0, .int 0, .null, .int 0, .null, .null, .null, .null, .int 0])), (q1, .inl (cy 1, 515, .inl (fun _ => 0))), (q2, .inl (cy 1, 320, .inl (fun _ => 0))), (q3, .inl (cy 1, 16, .inl a16)), (q4, .inl (cy 1, 61, .inl a32))] H := by rw [ea32]; exact hP
  replace hD : va_D A [(h0, .inr (7, [.ref q1, .int 0, .ref q2, .int 0, .int 0, .int 0, .int 0, .int 0, .int 0, .int 0, .int 0, .int 0, .ref q3, .null, .null, .int 0, .null, .int 0, .int 0, .int 0, .int 0, .null, .int 0, .null, .null, .null, .null, .int 0])), (q1, .inl (cy 1, 515, .inl (fun _ => 0))), (q2, .inl (cy 1, 320, .inl (fun _ => 0))), (q3, .inl (cy 1, 16, .inl a16)), (q4, .inl (cy 1, 61, .inl a32))] := by rw [ea32]; exact hD
  refine lv_dup hx hb dX7_init_213 rfl ?_
  refine lv_bipush (v := 16) hx hb dX7_init_214 (by decide) ?_
  refine lv_bipush (v := 101) hx hb dX7_init_216 (by decide) ?_
  refine va_iast hx hb hK hP hD hS 4 1 rfl rfl (by unfold vp_in; decide) dX7_init_218 (fun H locs hP hD hS => ?_)
  rw [cl_16] at hP hD
  obtain ⟨a33, ea33⟩ : ∃ z : Nat → Int32, z = upd a32 16 101 := ⟨_, rfl⟩
  replace hP : va_P G vwCl [(h0, .inr (7, [.ref q1, .int 0, .ref q2, .int 0, .int 0, .int 0, .int 0, .int 0, .int 0, .int 0, .int 0, .int 0, .ref q3, .null, .null, .int 0, .null, .int 0, .int 0, .int 0, .int 0, .null, .int 0, .null, .null, .null, .null, .int 0])), (q1, .inl (cy 1, 515, .inl (fun _ => 0))), (q2, .inl (cy 1, 320, .inl (fun _ => 0))), (q3, .inl (cy 1, 16, .inl a16)), (q4, .inl (cy 1, 61, .inl a33))] H := by rw [ea33]; exact hP
  replace hD : va_D A [(h0, .inr (7, [.ref q1, .int 0, .ref q2, .int 0, .int 0, .int 0, .int 0, .int 0, .int 0, .int 0, .int 0, .int 0, .ref q3, .null, .null, .int 0, .null, .int 0, .int 0, .int 0, .int 0, .null, .int 0, .null, .null, .null, .null, .int 0])), (q1, .inl (cy 1, 515, .inl (fun _ => 0))), (q2, .inl (cy 1, 320, .inl (fun _ => 0))), (q3, .inl (cy 1, 16, .inl a16)), (q4, .inl (cy 1, 61, .inl a33))] := by rw [ea33]; exact hD
  refine lv_dup hx hb dX7_init_219 rfl ?_
  refine lv_bipush (v := 17) hx hb dX7_init_220 (by decide) ?_
  refine lv_bipush (v := 102) hx hb dX7_init_222 (by decide) ?_
  refine va_iast hx hb hK hP hD hS 4 1 rfl rfl (by unfold vp_in; decide) dX7_init_224 (fun H locs hP hD hS => ?_)
  rw [cl_17] at hP hD
  obtain ⟨a34, ea34⟩ : ∃ z : Nat → Int32, z = upd a33 17 102 := ⟨_, rfl⟩
  replace hP : va_P G vwCl [(h0, .inr (7, [.ref q1, .int 0, .ref q2, .int 0, .int 0, .int 0, .int 0, .int 0, .int 0, .int 0, .int 0, .int 0, .ref q3, .null, .null, .int 0, .null, .int 0, .int 0, .int 0, .int 0, .null, .int 0, .null, .null, .null, .null, .int 0])), (q1, .inl (cy 1, 515, .inl (fun _ => 0))), (q2, .inl (cy 1, 320, .inl (fun _ => 0))), (q3, .inl (cy 1, 16, .inl a16)), (q4, .inl (cy 1, 61, .inl a34))] H := by rw [ea34]; exact hP
  replace hD : va_D A [(h0, .inr (7, [.ref q1, .int 0, .ref q2, .int 0, .int 0, .int 0, .int 0, .int 0, .int 0, .int 0, .int 0, .int 0, .ref q3, .null, .null, .int 0, .null, .int 0, .int 0, .int 0, .int 0, .null, .int 0, .null, .null, .null, .null, .int 0])), (q1, .inl (cy 1, 515, .inl (fun _ => 0))), (q2, .inl (cy 1, 320, .inl (fun _ => 0))), (q3, .inl (cy 1, 16, .inl a16)), (q4, .inl (cy 1, 61, .inl a34))] := by rw [ea34]; exact hD
  refine lv_dup hx hb dX7_init_225 rfl ?_
  refine lv_bipush (v := 18) hx hb dX7_init_226 (by decide) ?_
  refine lv_bipush (v := 111) hx hb dX7_init_228 (by decide) ?_
  refine va_iast hx hb hK hP hD hS 4 1 rfl rfl (by unfold vp_in; decide) dX7_init_230 (fun H locs hP hD hS => ?_)
  rw [cl_18] at hP hD
  obtain ⟨a35, ea35⟩ : ∃ z : Nat → Int32, z = upd a34 18 111 := ⟨_, rfl⟩
  replace hP : va_P G vwCl [(h0, .inr (7, [.ref q1, .int 0, .ref q2, .int 0, .int 0, .int 0, .int 0, .int 0, .int 0, .int 0, .int 0, .int 0, .ref q3, .null, .null, .int 0, .null, .int 0, .int 0, .int 0, .int 0, .null, .int 0, .null, .null, .null, .null, .int 0])), (q1, .inl (cy 1, 515, .inl (fun _ => 0))), (q2, .inl (cy 1, 320, .inl (fun _ => 0))), (q3, .inl (cy 1, 16, .inl a16)), (q4, .inl (cy 1, 61, .inl a35))] H := by rw [ea35]; exact hP
  replace hD : va_D A [(h0, .inr (7, [.ref q1, .int 0, .ref q2, .int 0, .int 0, .int 0, .int 0, .int 0, .int 0, .int 0, .int 0, .int 0, .ref q3, .null, .null, .int 0, .null, .int 0, .int 0, .int 0, .int 0, .null, .int 0, .null, .null, .null, .null, .int 0])), (q1, .inl (cy 1, 515, .inl (fun _ => 0))), (q2, .inl (cy 1, 320, .inl (fun _ => 0))), (q3, .inl (cy 1, 16, .inl a16)), (q4, .inl (cy 1, 61, .inl a35))] := by rw [ea35]; exact hD
  refine lv_dup hx hb dX7_init_231 rfl ?_
  refine lv_bipush (v := 19) hx hb dX7_init_232 (by decide) ?_
  refine lv_bipush (v := 114) hx hb dX7_init_234 (by decide) ?_
  refine va_iast hx hb hK hP hD hS 4 1 rfl rfl (by unfold vp_in; decide) dX7_init_236 (fun H locs hP hD hS => ?_)
  rw [cl_19] at hP hD
  obtain ⟨a36, ea36⟩ : ∃ z : Nat → Int32, z = upd a35 19 114 := ⟨_, rfl⟩
  replace hP : va_P G vwCl [(h0, .inr (7, [.ref q1, .int 0, .ref q2, .int 0, .int 0, .int 0, .int 0, .int 0, .int 0, .int 0, .int 0, .int 0, .ref q3, .null, .null, .int 0, .null, .int 0, .int 0, .int 0, .int 0, .null, .int 0, .null, .null, .null, .null, .int 0])), (q1, .inl (cy 1, 515, .inl (fun _ => 0))), (q2, .inl (cy 1, 320, .inl (fun _ => 0))), (q3, .inl (cy 1, 16, .inl a16)), (q4, .inl (cy 1, 61, .inl a36))] H := by rw [ea36]; exact hP
  replace hD : va_D A [(h0, .inr (7, [.ref q1, .int 0, .ref q2, .int 0, .int 0, .int 0, .int 0, .int 0, .int 0, .int 0, .int 0, .int 0, .ref q3, .null, .null, .int 0, .null, .int 0, .int 0, .int 0, .int 0, .null, .int 0, .null, .null, .null, .null, .int 0])), (q1, .inl (cy 1, 515, .inl (fun _ => 0))), (q2, .inl (cy 1, 320, .inl (fun _ => 0))), (q3, .inl (cy 1, 16, .inl a16)), (q4, .inl (cy 1, 61, .inl a36))] := by rw [ea36]; exact hD
  refine lv_dup hx hb dX7_init_237 rfl ?_
  refine lv_bipush (v := 20) hx hb dX7_init_238 (by decide) ?_
  refine lv_bipush (v := 109) hx hb dX7_init_240 (by decide) ?_
  refine va_iast hx hb hK hP hD hS 4 1 rfl rfl (by unfold vp_in; decide) dX7_init_242 (fun H locs hP hD hS => ?_)
  rw [cl_20] at hP hD
  obtain ⟨a37, ea37⟩ : ∃ z : Nat → Int32, z = upd a36 20 109 := ⟨_, rfl⟩
  replace hP : va_P G vwCl [(h0, .inr (7, [.ref q1, .int 0, .ref q2, .int 0, .int 0, .int 0, .int 0, .int 0, .int 0, .int 0, .int 0, .int 0, .ref q3, .null, .null, .int 0, .null, .int 0, .int 0, .int 0, .int 0, .null, .int 0, .null, .null, .null, .null, .int 0])), (q1, .inl (cy 1, 515, .inl (fun _ => 0))), (q2, .inl (cy 1, 320, .inl (fun _ => 0))), (q3, .inl (cy 1, 16, .inl a16)), (q4, .inl (cy 1, 61, .inl a37))] H := by rw [ea37]; exact hP
  replace hD : va_D A [(h0, .inr (7, [.ref q1, .int 0, .ref q2, .int 0, .int 0, .int 0, .int 0, .int 0, .int 0, .int 0, .int 0, .int 0, .ref q3, .null, .null, .int 0, .null, .int 0, .int 0, .int 0, .int 0, .null, .int 0, .null, .null, .null, .null, .int 0])), (q1, .inl (cy 1, 515, .inl (fun _ => 0))), (q2, .inl (cy 1, 320, .inl (fun _ => 0))), (q3, .inl (cy 1, 16, .inl a16)), (q4, .inl (cy 1, 61, .inl a37))] := by rw [ea37]; exact hD
  refine lv_dup hx hb dX7_init_243 rfl ?_
  refine lv_bipush (v := 21) hx hb dX7_init_244 (by decide) ?_
  refine lv_bipush (v := 112) hx hb dX7_init_246 (by decide) ?_
  refine va_iast hx hb hK hP hD hS 4 1 rfl rfl (by unfold vp_in; decide) dX7_init_248 (fun H locs hP hD hS => ?_)
  rw [cl_21] at hP hD
  obtain ⟨a38, ea38⟩ : ∃ z : Nat → Int32, z = upd a37 21 112 := ⟨_, rfl⟩
  replace hP : va_P G vwCl [(h0, .inr (7, [.ref q1, .int 0, .ref q2, .int 0, .int 0, .int 0, .int 0, .int 0, .int 0, .int 0, .int 0, .int 0, .ref q3, .null, .null, .int 0, .null, .int 0, .int 0, .int 0, .int 0, .null, .int 0, .null, .null, .null, .null, .int 0])), (q1, .inl (cy 1, 515, .inl (fun _ => 0))), (q2, .inl (cy 1, 320, .inl (fun _ => 0))), (q3, .inl (cy 1, 16, .inl a16)), (q4, .inl (cy 1, 61, .inl a38))] H := by rw [ea38]; exact hP
  replace hD : va_D A [(h0, .inr (7, [.ref q1, .int 0, .ref q2, .int 0, .int 0, .int 0, .int 0, .int 0, .int 0, .int 0, .int 0, .int 0, .ref q3, .null, .null, .int 0, .null, .int 0, .int 0, .int 0, .int 0, .null, .int 0, .null, .null, .null, .null, .int 0])), (q1, .inl (cy 1, 515, .inl (fun _ => 0))), (q2, .inl (cy 1, 320, .inl (fun _ => 0))), (q3, .inl (cy 1, 16, .inl a16)), (q4, .inl (cy 1, 61, .inl a38))] := by rw [ea38]; exact hD
  refine lv_dup hx hb dX7_init_249 rfl ?_
  refine lv_bipush (v := 22) hx hb dX7_init_250 (by decide) ?_
  refine lv_bipush (v := 117) hx hb dX7_init_252 (by decide) ?_
  refine va_iast hx hb hK hP hD hS 4 1 rfl rfl (by unfold vp_in; decide) dX7_init_254 (fun H locs hP hD hS => ?_)
  rw [cl_22] at hP hD
  obtain ⟨a39, ea39⟩ : ∃ z : Nat → Int32, z = upd a38 22 117 := ⟨_, rfl⟩
  replace hP : va_P G vwCl [(h0, .inr (7, [.ref q1, .int 0, .ref q2, .int 0, .int 0, .int 0, .int 0, .int 0, .int 0, .int 0, .int 0, .int 0, .ref q3, .null, .null, .int 0, .null, .int 0, .int 0, .int 0, .int 0, .null, .int 0, .null, .null, .null, .null, .int 0])), (q1, .inl (cy 1, 515, .inl (fun _ => 0))), (q2, .inl (cy 1, 320, .inl (fun _ => 0))), (q3, .inl (cy 1, 16, .inl a16)), (q4, .inl (cy 1, 61, .inl a39))] H := by rw [ea39]; exact hP
  replace hD : va_D A [(h0, .inr (7, [.ref q1, .int 0, .ref q2, .int 0, .int 0, .int 0, .int 0, .int 0, .int 0, .int 0, .int 0, .int 0, .ref q3, .null, .null, .int 0, .null, .int 0, .int 0, .int 0, .int 0, .null, .int 0, .null, .null, .null, .null, .int 0])), (q1, .inl (cy 1, 515, .inl (fun _ => 0))), (q2, .inl (cy 1, 320, .inl (fun _ => 0))), (q3, .inl (cy 1, 16, .inl a16)), (q4, .inl (cy 1, 61, .inl a39))] := by rw [ea39]; exact hD
  refine lv_dup hx hb dX7_init_255 rfl ?_
  refine lv_bipush (v := 23) hx hb dX7_init_256 (by decide) ?_
  refine lv_bipush (v := 116) hx hb dX7_init_258 (by decide) ?_
  refine va_iast hx hb hK hP hD hS 4 1 rfl rfl (by unfold vp_in; decide) dX7_init_260 (fun H locs hP hD hS => ?_)
  rw [cl_23] at hP hD
  obtain ⟨a40, ea40⟩ : ∃ z : Nat → Int32, z = upd a39 23 116 := ⟨_, rfl⟩
  replace hP : va_P G vwCl [(h0, .inr (7, [.ref q1, .int 0, .ref q2, .int 0, .int 0, .int 0, .int 0, .int 0, .int 0, .int 0, .int 0, .int 0, .ref q3, .null, .null, .int 0, .null, .int 0, .int 0, .int 0, .int 0, .null, .int 0, .null, .null, .null, .null, .int 0])), (q1, .inl (cy 1, 515, .inl (fun _ => 0))), (q2, .inl (cy 1, 320, .inl (fun _ => 0))), (q3, .inl (cy 1, 16, .inl a16)), (q4, .inl (cy 1, 61, .inl a40))] H := by rw [ea40]; exact hP
  replace hD : va_D A [(h0, .inr (7, [.ref q1, .int 0, .ref q2, .int 0, .int 0, .int 0, .int 0, .int 0, .int 0, .int 0, .int 0, .int 0, .ref q3, .null, .null, .int 0, .null, .int 0, .int 0, .int 0, .int 0, .null, .int 0, .null, .null, .null, .null, .int 0])), (q1, .inl (cy 1, 515, .inl (fun _ => 0))), (q2, .inl (cy 1, 320, .inl (fun _ => 0))), (q3, .inl (cy 1, 16, .inl a16)), (q4, .inl (cy 1, 61, .inl a40))] := by rw [ea40]; exact hD
  refine lv_dup hx hb dX7_init_261 rfl ?_
  refine lv_bipush (v := 24) hx hb dX7_init_262 (by decide) ?_
  refine lv_bipush (v := 108) hx hb dX7_init_264 (by decide) ?_
  refine va_iast hx hb hK hP hD hS 4 1 rfl rfl (by unfold vp_in; decide) dX7_init_266 (fun H locs hP hD hS => ?_)
  rw [cl_24] at hP hD
  obtain ⟨a41, ea41⟩ : ∃ z : Nat → Int32, z = upd a40 24 108 := ⟨_, rfl⟩
  replace hP : va_P G vwCl [(h0, .inr (7, [.ref q1, .int 0, .ref q2, .int 0, .int 0, .int 0, .int 0, .int 0, .int 0, .int 0, .int 0, .int 0, .ref q3, .null, .null, .int 0, .null, .int 0, .int 0, .int 0, .int 0, .null, .int 0, .null, .null, .null, .null, .int 0])), (q1, .inl (cy 1, 515, .inl (fun _ => 0))), (q2, .inl (cy 1, 320, .inl (fun _ => 0))), (q3, .inl (cy 1, 16, .inl a16)), (q4, .inl (cy 1, 61, .inl a41))] H := by rw [ea41]; exact hP
  replace hD : va_D A [(h0, .inr (7, [.ref q1, .int 0, .ref q2, .int 0, .int 0, .int 0, .int 0, .int 0, .int 0, .int 0, .int 0, .int 0, .ref q3, .null, .null, .int 0, .null, .int 0, .int 0, .int 0, .int 0, .null, .int 0, .null, .null, .null, .null, .int 0])), (q1, .inl (cy 1, 515, .inl (fun _ => 0))), (q2, .inl (cy 1, 320, .inl (fun _ => 0))), (q3, .inl (cy 1, 16, .inl a16)), (q4, .inl (cy 1, 61, .inl a41))] := by rw [ea41]; exact hD
  refine lv_dup hx hb dX7_init_267 rfl ?_
  refine lv_bipush (v := 25) hx hb dX7_init_268 (by decide) ?_
  refine lv_bipush (v := 111) hx hb dX7_init_270 (by decide) ?_
  refine va_iast hx hb hK hP hD hS 4 1 rfl rfl (by unfold vp_in; decide) dX7_init_272 (fun H locs hP hD hS => ?_)
  rw [cl_25] at hP hD
  obtain ⟨a42, ea42⟩ : ∃ z : Nat → Int32, z = upd a41 25 111 := ⟨_, rfl⟩
  replace hP : va_P G vwCl [(h0, .inr (7, [.ref q1, .int 0, .ref q2, .int 0, .int 0, .int 0, .int 0, .int 0, .int 0, .int 0, .int 0, .int 0, .ref q3, .null, .null, .int 0, .null, .int 0, .int 0, .int 0, .int 0, .null, .int 0, .null, .null, .null, .null, .int 0])), (q1, .inl (cy 1, 515, .inl (fun _ => 0))), (q2, .inl (cy 1, 320, .inl (fun _ => 0))), (q3, .inl (cy 1, 16, .inl a16)), (q4, .inl (cy 1, 61, .inl a42))] H := by rw [ea42]; exact hP
  replace hD : va_D A [(h0, .inr (7, [.ref q1, .int 0, .ref q2, .int 0, .int 0, .int 0, .int 0, .int 0, .int 0, .int 0, .int 0, .int 0, .ref q3, .null, .null, .int 0, .null, .int 0, .int 0, .int 0, .int 0, .null, .int 0, .null, .null, .null, .null, .int 0])), (q1, .inl (cy 1, 515, .inl (fun _ => 0))), (q2, .inl (cy 1, 320, .inl (fun _ => 0))), (q3, .inl (cy 1, 16, .inl a16)), (q4, .inl (cy 1, 61, .inl a42))] := by rw [ea42]; exact hD
  refine lv_dup hx hb dX7_init_273 rfl ?_
  refine lv_bipush (v := 26) hx hb dX7_init_274 (by decide) ?_
  refine lv_bipush (v := 119) hx hb dX7_init_276 (by decide) ?_
  refine va_iast hx hb hK hP hD hS 4 1 rfl rfl (by unfold vp_in; decide) dX7_init_278 (fun H locs hP hD hS => ?_)
  rw [cl_26] at hP hD
  obtain ⟨a43, ea43⟩ : ∃ z : Nat → Int32, z = upd a42 26 119 := ⟨_, rfl⟩
  replace hP : va_P G vwCl [(h0, .inr (7, [.ref q1, .int 0, .ref q2, .int 0, .int 0, .int 0, .int 0, .int 0, .int 0, .int 0, .int 0, .int 0, .ref q3, .null, .null, .int 0, .null, .int 0, .int 0, .int 0, .int 0, .null, .int 0, .null, .null, .null, .null, .int 0])), (q1, .inl (cy 1, 515, .inl (fun _ => 0))), (q2, .inl (cy 1, 320, .inl (fun _ => 0))), (q3, .inl (cy 1, 16, .inl a16)), (q4, .inl (cy 1, 61, .inl a43))] H := by rw [ea43]; exact hP
  replace hD : va_D A [(h0, .inr (7, [.ref q1, .int 0, .ref q2, .int 0, .int 0, .int 0, .int 0, .int 0, .int 0, .int 0, .int 0, .int 0, .ref q3, .null, .null, .int 0, .null, .int 0, .int 0, .int 0, .int 0, .null, .int 0, .null, .null, .null, .null, .int 0])), (q1, .inl (cy 1, 515, .inl (fun _ => 0))), (q2, .inl (cy 1, 320, .inl (fun _ => 0))), (q3, .inl (cy 1, 16, .inl a16)), (q4, .inl (cy 1, 61, .inl a43))] := by rw [ea43]; exact hD
  refine lv_dup hx hb dX7_init_279 rfl ?_
  refine lv_bipush (v := 27) hx hb dX7_init_280 (by decide) ?_
  refine lv_bipush (v := 104) hx hb dX7_init_282 (by decide) ?_
  refine va_iast hx hb hK hP hD hS 4 1 rfl rfl (by unfold vp_in; decide) dX7_init_284 (fun H locs hP hD hS => ?_)
  rw [cl_27] at hP hD
  obtain ⟨a44, ea44⟩ : ∃ z : Nat → Int32, z = upd a43 27 104 := ⟨_, rfl⟩
  replace hP : va_P G vwCl [(h0, .inr (7, [.ref q1, .int 0, .ref q2, .int 0, .int 0, .int 0, .int 0, .int 0, .int 0, .int 0, .int 0, .int 0, .ref q3, .null, .null, .int 0, .null, .int 0, .int 0, .int 0, .int 0, .null, .int 0, .null, .null, .null, .null, .int 0])), (q1, .inl (cy 1, 515, .inl (fun _ => 0))), (q2, .inl (cy 1, 320, .inl (fun _ => 0))), (q3, .inl (cy 1, 16, .inl a16)), (q4, .inl (cy 1, 61, .inl a44))] H := by rw [ea44]; exact hP
  replace hD : va_D A [(h0, .inr (7, [.ref q1, .int 0, .ref q2, .int 0, .int 0, .int 0, .int 0, .int 0, .int 0, .int 0, .int 0, .int 0, .ref q3, .null, .null, .int 0, .null, .int 0, .int 0, .int 0, .int 0, .null, .int 0, .null, .null, .null, .null, .int 0])), (q1, .inl (cy 1, 515, .inl (fun _ => 0))), (q2, .inl (cy 1, 320, .inl (fun _ => 0))), (q3, .inl (cy 1, 16, .inl a16)), (q4, .inl (cy 1, 61, .inl a44))] := by rw [ea44]; exact hD
  refine lv_dup hx hb dX7_init_285 rfl ?_
  refine lv_bipush (v := 28) hx hb dX7_init_286 (by decide) ?_
  refine lv_bipush (v := 105) hx hb dX7_init_288 (by decide) ?_
  refine va_iast hx hb hK hP hD hS 4 1 rfl rfl (by unfold vp_in; decide) dX7_init_290 (fun H locs hP hD hS => ?_)
  rw [cl_28] at hP hD
  obtain ⟨a45, ea45⟩ : ∃ z : Nat → Int32, z = upd a44 28 105 := ⟨_, rfl⟩
  replace hP : va_P G vwCl [(h0, .inr (7, [.ref q1, .int 0, .ref q2, .int 0, .int 0, .int 0, .int 0, .int 0, .int 0, .int 0, .int 0, .int 0, .ref q3, .null, .null, .int 0, .null, .int 0, .int 0, .int 0, .int 0, .null, .int 0, .null, .null, .null, .null, .int 0])), (q1, .inl (cy 1, 515, .inl (fun _ => 0))), (q2, .inl (cy 1, 320, .inl (fun _ => 0))), (q3, .inl (cy 1, 16, .inl a16)), (q4, .inl (cy 1, 61, .inl a45))] H := by rw [ea45]; exact hP
  replace hD : va_D A [(h0, .inr (7, [.ref q1, .int 0, .ref q2, .int 0, .int 0, .int 0, .int 0, .int 0, .int 0, .int 0, .int 0, .int 0, .ref q3, .null, .null, .int 0, .null, .int 0, .int 0, .int 0, .int 0, .null, .int 0, .null, .null, .null, .null, .int 0])), (q1, .inl (cy 1, 515, .inl (fun _ => 0))), (q2, .inl (cy 1, 320, .inl (fun _ => 0))), (q3, .inl (cy 1, 16, .inl a16)), (q4, .inl (cy 1, 61, .inl a45))] := by rw [ea45]; exact hD
  refine lv_dup hx hb dX7_init_291 rfl ?_
  refine lv_bipush (v := 29) hx hb dX7_init_292 (by decide) ?_
  refine lv_bipush (v := 103) hx hb dX7_init_294 (by decide) ?_
  refine va_iast hx hb hK hP hD hS 4 1 rfl rfl (by unfold vp_in; decide) dX7_init_296 (fun H locs hP hD hS => ?_)
  rw [cl_29] at hP hD
  obtain ⟨a46, ea46⟩ : ∃ z : Nat → Int32, z = upd a45 29 103 := ⟨_, rfl⟩
  replace hP : va_P G vwCl [(h0, .inr (7, [.ref q1, .int 0, .ref q2, .int 0, .int 0, .int 0, .int 0, .int 0, .int 0, .int 0, .int 0, .int 0, .ref q3, .null, .null, .int 0, .null, .int 0, .int 0, .int 0, .int 0, .null, .int 0, .null, .null, .null, .null, .int 0])), (q1, .inl (cy 1, 515, .inl (fun _ => 0))), (q2, .inl (cy 1, 320, .inl (fun _ => 0))), (q3, .inl (cy 1, 16, .inl a16)), (q4, .inl (cy 1, 61, .inl a46))] H := by rw [ea46]; exact hP
  replace hD : va_D A [(h0, .inr (7, [.ref q1, .int 0, .ref q2, .int 0, .int 0, .int 0, .int 0, .int 0, .int 0, .int 0, .int 0, .int 0, .ref q3, .null, .null, .int 0, .null, .int 0, .int 0, .int 0, .int 0, .null, .int 0, .null, .null, .null, .null, .int 0])), (q1, .inl (cy 1, 515, .inl (fun _ => 0))), (q2, .inl (cy 1, 320, .inl (fun _ => 0))), (q3, .inl (cy 1, 16, .inl a16)), (q4, .inl (cy 1, 61, .inl a46))] := by rw [ea46]; exact hD
  refine lv_dup hx hb dX7_init_297 rfl ?_
  refine lv_bipush (v := 30) hx hb dX7_init_298 (by decide) ?_
  refine lv_bipush (v := 104) hx hb dX7_init_300 (by decide) ?_
  refine va_iast hx hb hK hP hD hS 4 1 rfl rfl (by unfold vp_in; decide) dX7_init_302 (fun H locs hP hD hS => ?_)
  rw [cl_30] at hP hD
  obtain ⟨a47, ea47⟩ : ∃ z : Nat → Int32, z = upd a46 30 104 := ⟨_, rfl⟩
  replace hP : va_P G vwCl [(h0, .inr (7, [.ref q1, .int 0, .ref q2, .int 0, .int 0, .int 0, .int 0, .int 0, .int 0, .int 0, .int 0, .int 0, .ref q3, .null, .null, .int 0, .null, .int 0, .int 0, .int 0, .int 0, .null, .int 0, .null, .null, .null, .null, .int 0])), (q1, .inl (cy 1, 515, .inl (fun _ => 0))), (q2, .inl (cy 1, 320, .inl (fun _ => 0))), (q3, .inl (cy 1, 16, .inl a16)), (q4, .inl (cy 1, 61, .inl a47))] H := by rw [ea47]; exact hP
  replace hD : va_D A [(h0, .inr (7, [.ref q1, .int 0, .ref q2, .int 0, .int 0, .int 0, .int 0, .int 0, .int 0, .int 0, .int 0, .int 0, .ref q3, .null, .null, .int 0, .null, .int 0, .int 0, .int 0, .int 0, .null, .int 0, .null, .null, .null, .null, .int 0])), (q1, .inl (cy 1, 515, .inl (fun _ => 0))), (q2, .inl (cy 1, 320, .inl (fun _ => 0))), (q3, .inl (cy 1, 16, .inl a16)), (q4, .inl (cy 1, 61, .inl a47))] := by rw [ea47]; exact hD
  refine lv_dup hx hb dX7_init_303 rfl ?_
  refine lv_bipush (v := 31) hx hb dX7_init_304 (by decide) ?_
  refine lv_bipush (v := 110) hx hb dX7_init_306 (by decide) ?_
  refine va_iast hx hb hK hP hD hS 4 1 rfl rfl (by unfold vp_in; decide) dX7_init_308 (fun H locs hP hD hS => ?_)
  rw [cl_31] at hP hD
  obtain ⟨a48, ea48⟩ : ∃ z : Nat → Int32, z = upd a47 31 110 := ⟨_, rfl⟩
  replace hP : va_P G vwCl [(h0, .inr (7, [.ref q1, .int 0, .ref q2, .int 0, .int 0, .int 0, .int 0, .int 0, .int 0, .int 0, .int 0, .int 0, .ref q3, .null, .null, .int 0, .null, .int 0, .int 0, .int 0, .int 0, .null, .int 0, .null, .null, .null, .null, .int 0])), (q1, .inl (cy 1, 515, .inl (fun _ => 0))), (q2, .inl (cy 1, 320, .inl (fun _ => 0))), (q3, .inl (cy 1, 16, .inl a16)), (q4, .inl (cy 1, 61, .inl a48))] H := by rw [ea48]; exact hP
  replace hD : va_D A [(h0, .inr (7, [.ref q1, .int 0, .ref q2, .int 0, .int 0, .int 0, .int 0, .int 0, .int 0, .int 0, .int 0, .int 0, .ref q3, .null, .null, .int 0, .null, .int 0, .int 0, .int 0, .int 0, .null, .int 0, .null, .null, .null, .null, .int 0])), (q1, .inl (cy 1, 515, .inl (fun _ => 0))), (q2, .inl (cy 1, 320, .inl (fun _ => 0))), (q3, .inl (cy 1, 16, .inl a16)), (q4, .inl (cy 1, 61, .inl a48))] := by rw [ea48]; exact hD
  refine lv_dup hx hb dX7_init_309 rfl ?_
  refine lv_bipush (v := 32) hx hb dX7_init_310 (by decide) ?_
  refine lv_bipush (v := 101) hx hb dX7_init_312 (by decide) ?_
  refine va_iast hx hb hK hP hD hS 4 1 rfl rfl (by unfold vp_in; decide) dX7_init_314 (fun H locs hP hD hS => ?_)
  rw [cl_32] at hP hD
  obtain ⟨a49, ea49⟩ : ∃ z : Nat → Int32, z = upd a48 32 101 := ⟨_, rfl⟩
  replace hP : va_P G vwCl [(h0, .inr (7, [.ref q1, .int 0, .ref q2, .int 0, .int 0, .int 0, .int 0, .int 0, .int 0, .int 0, .int 0, .int 0, .ref q3, .null, .null, .int 0, .null, .int 0, .int 0, .int 0, .int 0, .null, .int 0, .null, .null, .null, .null, .int 0])), (q1, .inl (cy 1, 515, .inl (fun _ => 0))), (q2, .inl (cy 1, 320, .inl (fun _ => 0))), (q3, .inl (cy 1, 16, .inl a16)), (q4, .inl (cy 1, 61, .inl a49))] H := by rw [ea49]; exact hP
  replace hD : va_D A [(h0, .inr (7, [.ref q1, .int 0, .ref q2, .int 0, .int 0, .int 0, .int 0, .int 0, .int 0, .int 0, .int 0, .int 0, .ref q3, .null, .null, .int 0, .null, .int 0, .int 0, .int 0, .int 0, .null, .int 0, .null, .null, .null, .null, .int 0])), (q1, .inl (cy 1, 515, .inl (fun _ => 0))), (q2, .inl (cy 1, 320, .inl (fun _ => 0))), (q3, .inl (cy 1, 16, .inl a16)), (q4, .inl (cy 1, 61, .inl a49))] := by rw [ea49]; exact hD
  refine lv_dup hx hb dX7_init_315 rfl ?_
  refine lv_bipush (v := 33) hx hb dX7_init_316 (by decide) ?_
  refine lv_bipush (v := 97) hx hb dX7_init_318 (by decide) ?_
  refine va_iast hx hb hK hP hD hS 4 1 rfl rfl (by unfold vp_in; decide) dX7_init_320 (fun H locs hP hD hS => ?_)
  rw [cl_33] at hP hD
  obtain ⟨a50, ea50⟩ : ∃ z : Nat → Int32, z = upd a49 33 97 := ⟨_, rfl⟩
  replace hP : va_P G vwCl [(h0, .inr (7, [.ref q1, .int 0, .ref q2, .int 0, .int 0, .int 0, .int 0, .int 0, .int 0, .int 0, .int 0, .int 0, .ref q3, .null, .null, .int 0, .null, .int 0, .int 0, .int 0, .int 0, .null, .int 0, .null, .null, .null, .null, .int 0])), (q1, .inl (cy 1, 515, .inl (fun _ => 0))), (q2, .inl (cy 1, 320, .inl (fun _ => 0))), (q3, .inl (cy 1, 16, .inl a16)), (q4, .inl (cy 1, 61, .inl a50))] H := by rw [ea50]; exact hP
  replace hD : va_D A [(h0, .inr (7, [.ref q1, .int 0, .ref q2, .int 0, .int 0, .int 0, .int 0, .int 0, .int 0, .int 0, .int 0, .int 0, .ref q3, .null, .null, .int 0, .null, .int 0, .int 0, .int 0, .int 0, .null, .int 0, .null, .null, .null, .null, .int 0])), (q1, .inl (cy 1, 515, .inl (fun _ => 0))), (q2, .inl (cy 1, 320, .inl (fun _ => 0))), (q3, .inl (cy 1, 16, .inl a16)), (q4, .inl (cy 1, 61, .inl a50))] := by rw [ea50]; exact hD
  refine lv_dup hx hb dX7_init_321 rfl ?_
  refine lv_bipush (v := 34) hx hb dX7_init_322 (by decide) ?_
  refine lv_bipush (v := 114) hx hb dX7_init_324 (by decide) ?_
  refine va_iast hx hb hK hP hD hS 4 1 rfl rfl (by unfold vp_in; decide) dX7_init_326 (fun H locs hP hD hS => ?_)
  rw [cl_34] at hP hD
  obtain ⟨a51, ea51⟩ : ∃ z : Nat → Int32, z = upd a50 34 114 := ⟨_, rfl⟩
  replace hP : va_P G vwCl [(h0, .inr (7, [.ref q1, .int 0, .ref q2, .int 0, .int 0, .int 0, .int 0, .int 0, .int 0, .int 0, .int 0, .int 0, .ref q3, .null, .null, .int 0, .null, .int 0, .int 0, .int 0, .int 0, .null, .int 0, .null, .null, .null, .null, .int 0])), (q1, .inl (cy 1, 515, .inl (fun _ => 0))), (q2, .inl (cy 1, 320, .inl (fun _ => 0))), (q3, .inl (cy 1, 16, .inl a16)), (q4, .inl (cy 1, 61, .inl a51))] H := by rw [ea51]; exact hP
  replace hD : va_D A [(h0, .inr (7, [.ref q1, .int 0, .ref q2, .int 0, .int 0, .int 0, .int 0, .int 0, .int 0, .int 0, .int 0, .int 0, .ref q3, .null, .null, .int 0, .null, .int 0, .int 0, .int 0, .int 0, .null, .int 0, .null, .null, .null, .null, .int 0])), (q1, .inl (cy 1, 515, .inl (fun _ => 0))), (q2, .inl (cy 1, 320, .inl (fun _ => 0))), (q3, .inl (cy 1, 16, .inl a16)), (q4, .inl (cy 1, 61, .inl a51))] := by rw [ea51]; exact hD
  refine lv_dup hx hb dX7_init_327 rfl ?_
  refine lv_bipush (v := 35) hx hb dX7_init_328 (by decide) ?_
  refine lv_bipush (v := 109) hx hb dX7_init_330 (by decide) ?_
  refine va_iast hx hb hK hP hD hS 4 1 rfl rfl (by unfold vp_in; decide) dX7_init_332 (fun H locs hP hD hS => ?_)
  rw [cl_35] at hP hD
  obtain ⟨a52, ea52⟩ : ∃ z : Nat → Int32, z = upd a51 35 109 := ⟨_, rfl⟩
  replace hP : va_P G vwCl [(h0, .inr (7, [.ref q1, .int 0, .ref q2, .int 0, .int 0, .int 0, .int 0, .int 0, .int 0, .int 0, .int 0, .int 0, .ref q3, .null, .null, .int 0, .null, .int 0, .int 0, .int 0, .int 0, .null, .int 0, .null, .null, .null, .null, .int 0])), (q1, .inl (cy 1, 515, .inl (fun _ => 0))), (q2, .inl (cy 1, 320, .inl (fun _ => 0))), (q3, .inl (cy 1, 16, .inl a16)), (q4, .inl (cy 1, 61, .inl a52))] H := by rw [ea52]; exact hP
  replace hD : va_D A [(h0, .inr (7, [.ref q1, .int 0, .ref q2, .int 0, .int 0, .int 0, .int 0, .int 0, .int 0, .int 0, .int 0, .int 0, .ref q3, .null, .null, .int 0, .null, .int 0, .int 0, .int 0, .int 0, .null, .int 0, .null, .null, .null, .null, .int 0])), (q1, .inl (cy 1, 515, .inl (fun _ => 0))), (q2, .inl (cy 1, 320, .inl (fun _ => 0))), (q3, .inl (cy 1, 16, .inl a16)), (q4, .inl (cy 1, 61, .inl a52))] := by rw [ea52]; exact hD
  refine lv_dup hx hb dX7_init_333 rfl ?_
  refine lv_bipush (v := 36) hx hb dX7_init_334 (by decide) ?_
  refine lv_bipush (v := 101) hx hb dX7_init_336 (by decide) ?_
  refine va_iast hx hb hK hP hD hS 4 1 rfl rfl (by unfold vp_in; decide) dX7_init_338 (fun H locs hP hD hS => ?_)
  rw [cl_36] at hP hD
  obtain ⟨a53, ea53⟩ : ∃ z : Nat → Int32, z = upd a52 36 101 := ⟨_, rfl⟩
  replace hP : va_P G vwCl [(h0, .inr (7, [.ref q1, .int 0, .ref q2, .int 0, .int 0, .int 0, .int 0, .int 0, .int 0, .int 0, .int 0, .int 0, .ref q3, .null, .null, .int 0, .null, .int 0, .int 0, .int 0, .int 0, .null, .int 0, .null, .null, .null, .null, .int 0])), (q1, .inl (cy 1, 515, .inl (fun _ => 0))), (q2, .inl (cy 1, 320, .inl (fun _ => 0))), (q3, .inl (cy 1, 16, .inl a16)), (q4, .inl (cy 1, 61, .inl a53))] H := by rw [ea53]; exact hP
  replace hD : va_D A [(h0, .inr (7, [.ref q1, .int 0, .ref q2, .int 0, .int 0, .int 0, .int 0, .int 0, .int 0, .int 0, .int 0, .int 0, .ref q3, .null, .null, .int 0, .null, .int 0, .int 0, .int 0, .int 0, .null, .int 0, .null, .null, .null, .null, .int 0])), (q1, .inl (cy 1, 515, .inl (fun _ => 0))), (q2, .inl (cy 1, 320, .inl (fun _ => 0))), (q3, .inl (cy 1, 16, .inl a16)), (q4, .inl (cy 1, 61, .inl a53))] := by rw [ea53]; exact hD
  refine lv_dup hx hb dX7_init_339 rfl ?_
  refine lv_bipush (v := 37) hx hb dX7_init_340 (by decide) ?_
  refine lv_bipush (v := 97) hx hb dX7_init_342 (by decide) ?_
  refine va_iast hx hb hK hP hD hS 4 1 rfl rfl (by unfold vp_in; decide) dX7_init_344 (fun H locs hP hD hS => ?_)
  rw [cl_37] at hP hD
  obtain ⟨a54, ea54⟩ : ∃ z : Nat → Int32, z = upd a53 37 97 := ⟨_, rfl⟩
  replace hP : va_P G vwCl [(h0, .inr (7, [.ref q1, .int 0, .ref q2, .int 0, .int 0, .int 0, .int 0, .int 0, .int 0, .int 0, .int 0, .int 0, .ref q3, .null, .null, .int 0, .null, .int 0, .int 0, .int 0, .int 0, .null, .int 0, .null, .null, .null, .null, .int 0])), (q1, .inl (cy 1, 515, .inl (fun _ => 0))), (q2, .inl (cy 1, 320, .inl (fun _ => 0))), (q3, .inl (cy 1, 16, .inl a16)), (q4, .inl (cy 1, 61, .inl a54))] H := by rw [ea54]; exact hP
  replace hD : va_D A [(h0, .inr (7, [.ref q1, .int 0, .ref q2, .int 0, .int 0, .int 0, .int 0, .int 0, .int 0, .int 0, .int 0, .int 0, .ref q3, .null, .null, .int 0, .null, .int 0, .int 0, .int 0, .int 0, .null, .int 0, .null, .null, .null, .null, .int 0])), (q1, .inl (cy 1, 515, .inl (fun _ => 0))), (q2, .inl (cy 1, 320, .inl (fun _ => 0))), (q3, .inl (cy 1, 16, .inl a16)), (q4, .inl (cy 1, 61, .inl a54))] := by rw [ea54]; exact hD
  refine lv_dup hx hb dX7_init_345 rfl ?_
  refine lv_bipush (v := 38) hx hb dX7_init_346 (by decide) ?_
  refine lv_bipush (v := 110) hx hb dX7_init_348 (by decide) ?_
  refine va_iast hx hb hK hP hD hS 4 1 rfl rfl (by unfold vp_in; decide) dX7_init_350 (fun H locs hP hD hS => ?_)
  rw [cl_38] at hP hD
  obtain ⟨a55, ea55⟩ : ∃ z : Nat → Int32, z = upd a54 38 110 := ⟨_, rfl⟩
  replace hP : va_P G vwCl [(h0, .inr (7, [.ref q1, .int 0, .ref q2, .int 0, .int 0, .int 0, .int 0, .int 0, .int 0, .int 0, .int 0, .int 0, .ref q3, .null, .null, .int 0, .null, .int 0, .int 0, .int 0, .int 0, .null, .int 0, .null, .null, .null, .null, .int 0])), (q1, .inl (cy 1, 515, .inl (fun _ => 0))), (q2, .inl (cy 1, 320, .inl (fun _ => 0))), (q3, .inl (cy 1, 16, .inl a16)), (q4, .inl (cy 1, 61, .inl a55))] H := by rw [ea55]; exact hP
  replace hD : va_D A [(h0, .inr (7, [.ref q1, .int 0, .ref q2, .int 0, .int 0, .int 0, .int 0, .int 0, .int 0, .int 0, .int 0, .int 0, .ref q3, .null, .null, .int 0, .null, .int 0, .int 0, .int 0, .int 0, .null, .int 0, .null, .null, .null, .null, .int 0])), (q1, .inl (cy 1, 515, .inl (fun _ => 0))), (q2, .inl (cy 1, 320, .inl (fun _ => 0))), (q3, .inl (cy 1, 16, .inl a16)), (q4, .inl (cy 1, 61, .inl a55))] := by rw [ea55]; exact hD
  refine lv_dup hx hb dX7_init_351 rfl ?_
  refine lv_bipush (v := 39) hx hb dX7_init_352 (by decide) ?_
  refine lv_bipush (v := 108) hx hb dX7_init_354 (by decide) ?_
  refine va_iast hx hb hK hP hD hS 4 1 rfl rfl (by unfold vp_in; decide) dX7_init_356 (fun H locs hP hD hS => ?_)
  rw [cl_39] at hP hD
  obtain ⟨a56, ea56⟩ : ∃ z : Nat → Int32, z = upd a55 39 108 := ⟨_, rfl⟩
  replace hP : va_P G vwCl [(h0, .inr (7, [.ref q1, .int 0, .ref q2, .int 0, .int 0, .int 0, .int 0, .int 0, .int 0, .int 0, .int 0, .int 0, .ref q3, .null, .null, .int 0, .null, .int 0, .int 0, .int 0, .int 0, .null, .int 0, .null, .null, .null, .null, .int 0])), (q1, .inl (cy 1, 515, .inl (fun _ => 0))), (q2, .inl (cy 1, 320, .inl (fun _ => 0))), (q3, .inl (cy 1, 16, .inl a16)), (q4, .inl (cy 1, 61, .inl a56))] H := by rw [ea56]; exact hP
  replace hD : va_D A [(h0, .inr (7, [.ref q1, .int 0, .ref q2, .int 0, .int 0, .int 0, .int 0, .int 0, .int 0, .int 0, .int 0, .int 0, .ref q3, .null, .null, .int 0, .null, .int 0, .int 0, .int 0, .int 0, .null, .int 0, .null, .null, .null, .null, .int 0])), (q1, .inl (cy 1, 515, .inl (fun _ => 0))), (q2, .inl (cy 1, 320, .inl (fun _ => 0))), (q3, .inl (cy 1, 16, .inl a16)), (q4, .inl (cy 1, 61, .inl a56))] := by rw [ea56]; exact hD
  refine lv_dup hx hb dX7_init_357 rfl ?_
  refine lv_bipush (v := 40) hx hb dX7_init_358 (by decide) ?_
  refine lv_bipush (v := 105) hx hb dX7_init_360 (by decide) ?_
  refine va_iast hx hb hK hP hD hS 4 1 rfl rfl (by unfold vp_in; decide) dX7_init_362 (fun H locs hP hD hS => ?_)
  rw [cl_40] at hP hD
  obtain ⟨a57, ea57⟩ : ∃ z : Nat → Int32, z = upd a56 40 105 := ⟨_, rfl⟩
  replace hP : va_P G vwCl [(h0, .inr (7, [.ref q1, .int 0, .ref q2, .int 0, .int 0, .int 0, .int 0, .int 0, .int 0, .int 0, .int 0, .int 0, .ref q3, .null, .null, .int 0, .null, .int 0, .int 0, .int 0, .int 0, .null, .int 0, .null, .null, .null, .null, .int 0])), (q1, .inl (cy 1, 515, .inl (fun _ => 0))), (q2, .inl (cy 1, 320, .inl (fun _ => 0))), (q3, .inl (cy 1, 16, .inl a16)), (q4, .inl (cy 1, 61, .inl a57))] H := by rw [ea57]; exact hP
  replace hD : va_D A [(h0, .inr (7, [.ref q1, .int 0, .ref q2, .int 0, .int 0, .int 0, .int 0, .int 0, .int 0, .int 0, .int 0, .int 0, .ref q3, .null, .null, .int 0, .null, .int 0, .int 0, .int 0, .int 0, .null, .int 0, .null, .null, .null, .null, .int 0])), (q1, .inl (cy 1, 515, .inl (fun _ => 0))), (q2, .inl (cy 1, 320, .inl (fun _ => 0))), (q3, .inl (cy 1, 16, .inl a16)), (q4, .inl (cy 1, 61, .inl a57))] := by rw [ea57]; exact hD
  refine lv_dup hx hb dX7_init_363 rfl ?_
  refine lv_bipush (v := 41) hx hb dX7_init_364 (by decide) ?_
  refine lv_bipush (v := 110) hx hb dX7_init_366 (by decide) ?_
  refine va_iast hx hb hK hP hD hS 4 1 rfl rfl (by unfold vp_in; decide) dX7_init_368 (fun H locs hP hD hS => ?_)
  rw [cl_41] at hP hD
  obtain ⟨a58, ea58⟩ : ∃ z : Nat → Int32, z = upd a57 41 110 := ⟨_, rfl⟩
  replace hP : va_P G vwCl [(h0, .inr (7, [.ref q1, .int 0, .ref q2, .int 0, .int 0, .int 0, .int 0, .int 0, .int 0, .int 0, .int 0, .int 0, .ref q3, .null, .null, .int 0, .null, .int 0, .int 0, .int 0, .int 0, .null, .int 0, .null, .null, .null, .null, .int 0])), (q1, .inl (cy 1, 515, .inl (fun _ => 0))), (q2, .inl (cy 1, 320, .inl (fun _ => 0))), (q3, .inl (cy 1, 16, .inl a16)), (q4, .inl (cy 1, 61, .inl a58))] H := by rw [ea58]; exact hP
  replace hD : va_D A [(h0, .inr (7, [.ref q1, .int 0, .ref q2, .int 0, .int 0, .int 0, .int 0, .int 0, .int 0, .int 0, .int 0, .int 0, .ref q3, .null, .null, .int 0, .null, .int 0, .int 0, .int 0, .int 0, .null, .int 0, .null, .null, .null, .null, .int 0])), (q1, .inl (cy 1, 515, .inl (fun _ => 0))), (q2, .inl (cy 1, 320, .inl (fun _ => 0))), (q3, .inl (cy 1, 16, .inl a16)), (q4, .inl (cy 1, 61, .inl a58))] := by rw [ea58]; exact hD
  refine lv_dup hx hb dX7_init_369 rfl ?_
  refine lv_bipush (v := 42) hx hb dX7_init_370 (by decide) ?_
  refine lv_bipush (v := 101) hx hb dX7_init_372 (by decide) ?_
  refine va_iast hx hb hK hP hD hS 4 1 rfl rfl (by unfold vp_in; decide) dX7_init_374 (fun H locs hP hD hS => ?_)
  rw [cl_42] at hP hD
  obtain ⟨a59, ea59⟩ : ∃ z : Nat → Int32, z = upd a58 42 101 := ⟨_, rfl⟩
  replace hP : va_P G vwCl [(h0, .inr (7, [.ref q1, .int 0, .ref q2, .int 0, .int 0, .int 0, .int 0, .int 0, .int 0, .int 0, .int 0, .int 0, .ref q3, .null, .null, .int 0, .null, .int 0, .int 0, .int 0, .int 0, .null, .int 0, .null, .null, .null, .null, .int 0])), (q1, .inl (cy 1, 515, .inl (fun _ => 0))), (q2, .inl (cy 1, 320, .inl (fun _ => 0))), (q3, .inl (cy 1, 16, .inl a16)), (q4, .inl (cy 1, 61, .inl a59))] H := by rw [ea59]; exact hP
  replace hD : va_D A [(h0, .inr (7, [.ref q1, .int 0, .ref q2, .int 0, .int 0, .int 0, .int 0, .int 0, .int 0, .int 0, .int 0, .int 0, .ref q3, .null, .null, .int 0, .null, .int 0, .int 0, .int 0, .int 0, .null, .int 0, .null, .null, .null, .null, .int 0])), (q1, .inl (cy 1, 515, .inl (fun _ => 0))), (q2, .inl (cy 1, 320, .inl (fun _ => 0))), (q3, .inl (cy 1, 16, .inl a16)), (q4, .inl (cy 1, 61, .inl a59))] := by rw [ea59]; exact hD
  refine lv_dup hx hb dX7_init_375 rfl ?_
  refine lv_bipush (v := 43) hx hb dX7_init_376 (by decide) ?_
  refine lv_bipush (v := 112) hx hb dX7_init_378 (by decide) ?_
  refine va_iast hx hb hK hP hD hS 4 1 rfl rfl (by unfold vp_in; decide) dX7_init_380 (fun H locs hP hD hS => ?_)
  rw [cl_43] at hP hD
  obtain ⟨a60, ea60⟩ : ∃ z : Nat → Int32, z = upd a59 43 112 := ⟨_, rfl⟩
  replace hP : va_P G vwCl [(h0, .inr (7, [.ref q1, .int 0, .ref q2, .int 0, .int 0, .int 0, .int 0, .int 0, .int 0, .int 0, .int 0, .int 0, .ref q3, .null, .null, .int 0, .null, .int 0, .int 0, .int 0, .int 0, .null, .int 0, .null, .null, .null, .null, .int 0])), (q1, .inl (cy 1, 515, .inl (fun _ => 0))), (q2, .inl (cy 1, 320, .inl (fun _ => 0))), (q3, .inl (cy 1, 16, .inl a16)), (q4, .inl (cy 1, 61, .inl a60))] H := by rw [ea60]; exact hP
  replace hD : va_D A [(h0, .inr (7, [.ref q1, .int 0, .ref q2, .int 0, .int 0, .int 0, .int 0, .int 0, .int 0, .int 0, .int 0, .int 0, .ref q3, .null, .null, .int 0, .null, .int 0, .int 0, .int 0, .int 0, .null, .int 0, .null, .null, .null, .null, .int 0])), (q1, .inl (cy 1, 515, .inl (fun _ => 0))), (q2, .inl (cy 1, 320, .inl (fun _ => 0))), (q3, .inl (cy 1, 16, .inl a16)), (q4, .inl (cy 1, 61, .inl a60))] := by rw [ea60]; exact hD
  refine lv_dup hx hb dX7_init_381 rfl ?_
  refine lv_bipush (v := 44) hx hb dX7_init_382 (by decide) ?_
  refine lv_bipush (v := 108) hx hb dX7_init_384 (by decide) ?_
  refine va_iast hx hb hK hP hD hS 4 1 rfl rfl (by unfold vp_in; decide) dX7_init_386 (fun H locs hP hD hS => ?_)
  rw [cl_44] at hP hD
  obtain ⟨a61, ea61⟩ : ∃ z : Nat → Int32, z = upd a60 44 108 := ⟨_, rfl⟩
  replace hP : va_P G vwCl [(h0, .inr (7, [.ref q1, .int 0, .ref q2, .int 0, .int 0, .int 0, .int 0, .int 0, .int 0, .int 0, .int 0, .int 0, .ref q3, .null, .null, .int 0, .null, .int 0, .int 0, .int 0, .int 0, .null, .int 0, .null, .null, .null, .null, .int 0])), (q1, .inl (cy 1, 515, .inl (fun _ => 0))), (q2, .inl (cy 1, 320, .inl (fun _ => 0))), (q3, .inl (cy 1, 16, .inl a16)), (q4, .inl (cy 1, 61, .inl a61))] H := by rw [ea61]; exact hP
  replace hD : va_D A [(h0, .inr (7, [.ref q1, .int 0, .ref q2, .int 0, .int 0, .int 0, .int 0, .int 0, .int 0, .int 0, .int 0, .int 0, .ref q3, .null, .null, .int 0, .null, .int 0, .int 0, .int 0, .int 0, .null, .int 0, .null, .null, .null, .null, .int 0])), (q1, .inl (cy 1, 515, .inl (fun _ => 0))), (q2, .inl (cy 1, 320, .inl (fun _ => 0))), (q3, .inl (cy 1, 16, .inl a16)), (q4, .inl (cy 1, 61, .inl a61))] := by rw [ea61]; exact hD
  refine lv_dup hx hb dX7_init_387 rfl ?_
  refine lv_bipush (v := 45) hx hb dX7_init_388 (by decide) ?_
  refine lv_bipush (v := 97) hx hb dX7_init_390 (by decide) ?_
  refine va_iast hx hb hK hP hD hS 4 1 rfl rfl (by unfold vp_in; decide) dX7_init_392 (fun H locs hP hD hS => ?_)
  rw [cl_45] at hP hD
  obtain ⟨a62, ea62⟩ : ∃ z : Nat → Int32, z = upd a61 45 97 := ⟨_, rfl⟩
  replace hP : va_P G vwCl [(h0, .inr (7, [.ref q1, .int 0, .ref q2, .int 0, .int 0, .int 0, .int 0, .int 0, .int 0, .int 0, .int 0, .int 0, .ref q3, .null, .null, .int 0, .null, .int 0, .int 0, .int 0, .int 0, .null, .int 0, .null, .null, .null, .null, .int 0])), (q1, .inl (cy 1, 515, .inl (fun _ => 0))), (q2, .inl (cy 1, 320, .inl (fun _ => 0))), (q3, .inl (cy 1, 16, .inl a16)), (q4, .inl (cy 1, 61, .inl a62))] H := by rw [ea62]; exact hP
  replace hD : va_D A [(h0, .inr (7, [.ref q1, .int 0, .ref q2, .int 0, .int 0, .int 0, .int 0, .int 0, .int 0, .int 0, .int 0, .int 0, .ref q3, .null, .null, .int 0, .null, .int 0, .int 0, .int 0, .int 0, .null, .int 0, .null, .null, .null, .null, .int 0])), (q1, .inl (cy 1, 515, .inl (fun _ => 0))), (q2, .inl (cy 1, 320, .inl (fun _ => 0))), (q3, .inl (cy 1, 16, .inl a16)), (q4, .inl (cy 1, 61, .inl a62))] := by rw [ea62]; exact hD
  refine lv_dup hx hb dX7_init_393 rfl ?_
  refine lv_bipush (v := 46) hx hb dX7_init_394 (by decide) ?_
  refine lv_bipush (v := 105) hx hb dX7_init_396 (by decide) ?_
  refine va_iast hx hb hK hP hD hS 4 1 rfl rfl (by unfold vp_in; decide) dX7_init_398 (fun H locs hP hD hS => ?_)
  rw [cl_46] at hP hD
  obtain ⟨a63, ea63⟩ : ∃ z : Nat → Int32, z = upd a62 46 105 := ⟨_, rfl⟩
  replace hP : va_P G vwCl [(h0, .inr (7, [.ref q1, .int 0, .ref q2, .int 0, .int 0, .int 0, .int 0, .int 0, .int 0, .int 0, .int 0, .int 0, .ref q3, .null, .null, .int 0, .null, .int 0, .int 0, .int 0, .int 0, .null, .int 0, .null, .null, .null, .null, .int 0])), (q1, .inl (cy 1, 515, .inl (fun _ => 0))), (q2, .inl (cy 1, 320, .inl (fun _ => 0))), (q3, .inl (cy 1, 16, .inl a16)), (q4, .inl (cy 1, 61, .inl a63))] H := by rw [ea63]; exact hP
  replace hD : va_D A [(h0, .inr (7, [.ref q1, .int 0, .ref q2, .int 0, .int 0, .int 0, .int 0, .int 0, .int 0, .int 0, .int 0, .int 0, .ref q3, .null, .null, .int 0, .null, .int 0, .int 0, .int 0, .int 0, .null, .int 0, .null, .null, .null, .null, .int 0])), (q1, .inl (cy 1, 515, .inl (fun _ => 0))), (q2, .inl (cy 1, 320, .inl (fun _ => 0))), (q3, .inl (cy 1, 16, .inl a16)), (q4, .inl (cy 1, 61, .inl a63))] := by rw [ea63]; exact hD
  refine lv_dup hx hb dX7_init_399 rfl ?_
  refine lv_bipush (v := 47) hx hb dX7_init_400 (by decide) ?_
  refine lv_bipush (v := 110) hx hb dX7_init_402 (by decide) ?_
  refine va_iast hx hb hK hP hD hS 4 1 rfl rfl (by unfold vp_in; decide) dX7_init_404 (fun H locs hP hD hS => ?_)
  rw [cl_47] at hP hD
  obtain ⟨a64, ea64⟩ : ∃ z : Nat → Int32, z = upd a63 47 110 := ⟨_, rfl⟩
  replace hP : va_P G vwCl [(h0, .inr (7, [.ref q1, .int 0, .ref q2, .int 0, .int 0, .int 0, .int 0, .int 0, .int 0, .int 0, .int 0, .int 0, .ref q3, .null, .null, .int 0, .null, .int 0, .int 0, .int 0, .int 0, .null, .int 0, .null, .null, .null, .null, .int 0])), (q1, .inl (cy 1, 515, .inl (fun _ => 0))), (q2, .inl (cy 1, 320, .inl (fun _ => 0))), (q3, .inl (cy 1, 16, .inl a16)), (q4, .inl (cy 1, 61, .inl a64))] H := by rw [ea64]; exact hP
  replace hD : va_D A [(h0, .inr (7, [.ref q1, .int 0, .ref q2, .int 0, .int 0, .int 0, .int 0, .int 0, .int 0, .int 0, .int 0, .int 0, .ref q3, .null, .null, .int 0, .null, .int 0, .int 0, .int 0, .int 0, .null, .int 0, .null, .null, .null, .null, .int 0])), (q1, .inl (cy 1, 515, .inl (fun _ => 0))), (q2, .inl (cy 1, 320, .inl (fun _ => 0))), (q3, .inl (cy 1, 16, .inl a16)), (q4, .inl (cy 1, 61, .inl a64))] := by rw [ea64]; exact hD
  refine lv_dup hx hb dX7_init_405 rfl ?_
  refine lv_bipush (v := 48) hx hb dX7_init_406 (by decide) ?_
  refine lv_bipush (v := 99) hx hb dX7_init_408 (by decide) ?_
  refine va_iast hx hb hK hP hD hS 4 1 rfl rfl (by unfold vp_in; decide) dX7_init_410 (fun H locs hP hD hS => ?_)
  rw [cl_48] at hP hD
  obtain ⟨a65, ea65⟩ : ∃ z : Nat → Int32, z = upd a64 48 99 := ⟨_, rfl⟩
  replace hP : va_P G vwCl [(h0, .inr (7, [.ref q1, .int 0, .ref q2, .int 0, .int 0, .int 0, .int 0, .int 0, .int 0, .int 0, .int 0, .int 0, .ref q3, .null, .null, .int 0, .null, .int 0, .int 0, .int 0, .int 0, .null, .int 0, .null, .null, .null, .null, .int 0])), (q1, .inl (cy 1, 515, .inl (fun _ => 0))), (q2, .inl (cy 1, 320, .inl (fun _ => 0))), (q3, .inl (cy 1, 16, .inl a16)), (q4, .inl (cy 1, 61, .inl a65))] H := by rw [ea65]; exact hP
  replace hD : va_D A [(h0, .inr (7, [.ref q1, .int 0, .ref q2, .int 0, .int 0, .int 0, .int 0, .int 0, .int 0, .int 0, .int 0, .int 0, .ref q3, .null, .null, .int 0, .null, .int 0, .int 0, .int 0, .int 0, .null, .int 0, .null, .null, .null, .null, .int 0])), (q1, .inl (cy 1, 515, .inl (fun _ => 0))), (q2, .inl (cy 1, 320, .inl (fun _ => 0))), (q3, .inl (cy 1, 16, .inl a16)), (q4, .inl (cy 1, 61, .inl a65))] := by rw [ea65]; exact hD
  refine lv_dup hx hb dX7_init_411 rfl ?_
  refine lv_bipush (v := 49) hx hb dX7_init_412 (by decide) ?_
  refine lv_bipush (v := 101) hx hb dX7_init_414 (by decide) ?_
  refine va_iast hx hb hK hP hD hS 4 1 rfl rfl (by unfold vp_in; decide) dX7_init_416 (fun H locs hP hD hS => ?_)
  rw [cl_49] at hP hD
  obtain ⟨a66, ea66⟩ : ∃ z : Nat → Int32, z = upd a65 49 101 := ⟨_, rfl⟩
  replace hP : va_P G vwCl [(h0, .inr (7, [.ref q1, .int 0, .ref q2, .int 0, .int 0, .int 0, .int 0, .int 0, .int 0, .int 0, .int 0, .int 0, .ref q3, .null, .null, .int 0, .null, .int 0, .int 0, .int 0, .int 0, .null, .int 0, .null, .null, .null, .null, .int 0])), (q1, .inl (cy 1, 515, .inl (fun _ => 0))), (q2, .inl (cy 1, 320, .inl (fun _ => 0))), (q3, .inl (cy 1, 16, .inl a16)), (q4, .inl (cy 1, 61, .inl a66))] H := by rw [ea66]; exact hP
  replace hD : va_D A [(h0, .inr (7, [.ref q1, .int 0, .ref q2, .int 0, .int 0, .int 0, .int 0, .int 0, .int 0, .int 0, .int 0, .int 0, .ref q3, .null, .null, .int 0, .null, .int 0, .int 0, .int 0, .int 0, .null, .int 0, .null, .null, .null, .null, .int 0])), (q1, .inl (cy 1, 515, .inl (fun _ => 0))), (q2, .inl (cy 1, 320, .inl (fun _ => 0))), (q3, .inl (cy 1, 16, .inl a16)), (q4, .inl (cy 1, 61, .inl a66))] := by rw [ea66]; exact hD
  refine lv_dup hx hb dX7_init_417 rfl ?_
  refine lv_bipush (v := 50) hx hb dX7_init_418 (by decide) ?_
  refine lv_bipush (v := 110) hx hb dX7_init_420 (by decide) ?_
  refine va_iast hx hb hK hP hD hS 4 1 rfl rfl (by unfold vp_in; decide) dX7_init_422 (fun H locs hP hD hS => ?_)
  rw [cl_50] at hP hD
  obtain ⟨a67, ea67⟩ : ∃ z : Nat → Int32, z = upd a66 50 110 := ⟨_, rfl⟩
  replace hP : va_P G vwCl [(h0, .inr (7, [.ref q1, .int 0, .ref q2, .int 0, .int 0, .int 0, .int 0, .int 0, .int 0, .int 0, .int 0, .int 0, .ref q3, .null, .null, .int 0, .null, .int 0, .int 0, .int 0, .int 0, .null, .int 0, .null, .null, .null, .null, .int 0])), (q1, .inl (cy 1, 515, .inl (fun _ => 0))), (q2, .inl (cy 1, 320, .inl (fun _ => 0))), (q3, .inl (cy 1, 16, .inl a16)), (q4, .inl (cy 1, 61, .inl a67))] H := by rw [ea67]; exact hP
  replace hD : va_D A [(h0, .inr (7, [.ref q1, .int 0, .ref q2, .int 0, .int 0, .int 0, .int 0, .int 0, .int 0, .int 0, .int 0, .int 0, .ref q3, .null, .null, .int 0, .null, .int 0, .int 0, .int 0, .int 0, .null, .int 0, .null, .null, .null, .null, .int 0])), (q1, .inl (cy 1, 515, .inl (fun _ => 0))), (q2, .inl (cy 1, 320, .inl (fun _ => 0))), (q3, .inl (cy 1, 16, .inl a16)), (q4, .inl (cy 1, 61, .inl a67))] := by rw [ea67]; exact hD
  refine lv_dup hx hb dX7_init_423 rfl ?_
  refine lv_bipush (v := 51) hx hb dX7_init_424 (by decide) ?_
  refine lv_bipush (v := 116) hx hb dX7_init_426 (by decide) ?_
  refine va_iast hx hb hK hP hD hS 4 1 rfl rfl (by unfold vp_in; decide) dX7_init_428 (fun H locs hP hD hS => ?_)
  rw [cl_51] at hP hD
  obtain ⟨a68, ea68⟩ : ∃ z : Nat → Int32, z = upd a67 51 116 := ⟨_, rfl⟩
  replace hP : va_P G vwCl [(h0, .inr (7, [.ref q1, .int 0, .ref q2, .int 0, .int 0, .int 0, .int 0, .int 0, .int 0, .int 0, .int 0, .int 0, .ref q3, .null, .null, .int 0, .null, .int 0, .int 0, .int 0, .int 0, .null, .int 0, .null, .null, .null, .null, .int 0])), (q1, .inl (cy 1, 515, .inl (fun _ => 0))), (q2, .inl (cy 1, 320, .inl (fun _ => 0))), (q3, .inl (cy 1, 16, .inl a16)), (q4, .inl (cy 1, 61, .inl a68))] H := by rw [ea68]; exact hP
  replace hD : va_D A [(h0, .inr (7, [.ref q1, .int 0, .ref q2, .int 0, .int 0, .int 0, .int 0, .int 0, .int 0, .int 0, .int 0, .int 0, .ref q3, .null, .null, .int 0, .null, .int 0, .int 0, .int 0, .int 0, .null, .int 0, .null, .null, .null, .null, .int 0])), (q1, .inl (cy 1, 515, .inl (fun _ => 0))), (q2, .inl (cy 1, 320, .inl (fun _ => 0))), (q3, .inl (cy 1, 16, .inl a16)), (q4, .inl (cy 1, 61, .inl a68))] := by rw [ea68]; exact hD
  refine lv_dup hx hb dX7_init_429 rfl ?_
  refine lv_bipush (v := 52) hx hb dX7_init_430 (by decide) ?_
  refine lv_bipush (v := 115) hx hb dX7_init_432 (by decide) ?_
  refine va_iast hx hb hK hP hD hS 4 1 rfl rfl (by unfold vp_in; decide) dX7_init_434 (fun H locs hP hD hS => ?_)
  rw [cl_52] at hP hD
  obtain ⟨a69, ea69⟩ : ∃ z : Nat → Int32, z = upd a68 52 115 := ⟨_, rfl⟩
  replace hP : va_P G vwCl [(h0, .inr (7, [.ref q1, .int 0, .ref q2, .int 0, .int 0, .int 0, .int 0, .int 0, .int 0, .int 0, .int 0, .int 0, .ref q3, .null, .null, .int 0, .null, .int 0, .int 0, .int 0, .int 0, .null, .int 0, .null, .null, .null, .null, .int 0])), (q1, .inl (cy 1, 515, .inl (fun _ => 0))), (q2, .inl (cy 1, 320, .inl (fun _ => 0))), (q3, .inl (cy 1, 16, .inl a16)), (q4, .inl (cy 1, 61, .inl a69))] H := by rw [ea69]; exact hP
  replace hD : va_D A [(h0, .inr (7, [.ref q1, .int 0, .ref q2, .int 0, .int 0, .int 0, .int 0, .int 0, .int 0, .int 0, .int 0, .int 0, .ref q3, .null, .null, .int 0, .null, .int 0, .int 0, .int 0, .int 0, .null, .int 0, .null, .null, .null, .null, .int 0])), (q1, .inl (cy 1, 515, .inl (fun _ => 0))), (q2, .inl (cy 1, 320, .inl (fun _ => 0))), (q3, .inl (cy 1, 16, .inl a16)), (q4, .inl (cy 1, 61, .inl a69))] := by rw [ea69]; exact hD
  refine lv_dup hx hb dX7_init_435 rfl ?_
  refine lv_bipush (v := 53) hx hb dX7_init_436 (by decide) ?_
  refine lv_bipush (v := 115) hx hb dX7_init_438 (by decide) ?_
  refine va_iast hx hb hK hP hD hS 4 1 rfl rfl (by unfold vp_in; decide) dX7_init_440 (fun H locs hP hD hS => ?_)
  rw [cl_53] at hP hD
  obtain ⟨a70, ea70⟩ : ∃ z : Nat → Int32, z = upd a69 53 115 := ⟨_, rfl⟩
  replace hP : va_P G vwCl [(h0, .inr (7, [.ref q1, .int 0, .ref q2, .int 0, .int 0, .int 0, .int 0, .int 0, .int 0, .int 0, .int 0, .int 0, .ref q3, .null, .null, .int 0, .null, .int 0, .int 0, .int 0, .int 0, .null, .int 0, .null, .null, .null, .null, .int 0])), (q1, .inl (cy 1, 515, .inl (fun _ => 0))), (q2, .inl (cy 1, 320, .inl (fun _ => 0))), (q3, .inl (cy 1, 16, .inl a16)), (q4, .inl (cy 1, 61, .inl a70))] H := by rw [ea70]; exact hP
  replace hD : va_D A [(h0, .inr (7, [.ref q1, .int 0, .ref q2, .int 0, .int 0, .int 0, .int 0, .int 0, .int 0, .int 0, .int 0, .int 0, .ref q3, .null, .null, .int 0, .null, .int 0, .int 0, .int 0, .int 0, .null, .int 0, .null, .null, .null, .null, .int 0])), (q1, .inl (cy 1, 515, .inl (fun _ => 0))), (q2, .inl (cy 1, 320, .inl (fun _ => 0))), (q3, .inl (cy 1, 16, .inl a16)), (q4, .inl (cy 1, 61, .inl a70))] := by rw [ea70]; exact hD
  refine lv_dup hx hb dX7_init_441 rfl ?_
  refine lv_bipush (v := 54) hx hb dX7_init_442 (by decide) ?_
  refine lv_bipush (v := 105) hx hb dX7_init_444 (by decide) ?_
  refine va_iast hx hb hK hP hD hS 4 1 rfl rfl (by unfold vp_in; decide) dX7_init_446 (fun H locs hP hD hS => ?_)
  rw [cl_54] at hP hD
  obtain ⟨a71, ea71⟩ : ∃ z : Nat → Int32, z = upd a70 54 105 := ⟨_, rfl⟩
  replace hP : va_P G vwCl [(h0, .inr (7, [.ref q1, .int 0, .ref q2, .int 0, .int 0, .int 0, .int 0, .int 0, .int 0, .int 0, .int 0, .int 0, .ref q3, .null, .null, .int 0, .null, .int 0, .int 0, .int 0, .int 0, .null, .int 0, .null, .null, .null, .null, .int 0])), (q1, .inl (cy 1, 515, .inl (fun _ => 0))), (q2, .inl (cy 1, 320, .inl (fun _ => 0))), (q3, .inl (cy 1, 16, .inl a16)), (q4, .inl (cy 1, 61, .inl a71))] H := by rw [ea71]; exact hP
  replace hD : va_D A [(h0, .inr (7, [.ref q1, .int 0, .ref q2, .int 0, .int 0, .int 0, .int 0, .int 0, .int 0, .int 0, .int 0, .int 0, .ref q3, .null, .null, .int 0, .null, .int 0, .int 0, .int 0, .int 0, .null, .int 0, .null, .null, .null, .null, .int 0])), (q1, .inl (cy 1, 515, .inl (fun _ => 0))), (q2, .inl (cy 1, 320, .inl (fun _ => 0))), (q3, .inl (cy 1, 16, .inl a16)), (q4, .inl (cy 1, 61, .inl a71))] := by rw [ea71]; exact hD
  refine lv_dup hx hb dX7_init_447 rfl ?_
  refine lv_bipush (v := 55) hx hb dX7_init_448 (by decide) ?_
  refine lv_bipush (v := 103) hx hb dX7_init_450 (by decide) ?_
  refine va_iast hx hb hK hP hD hS 4 1 rfl rfl (by unfold vp_in; decide) dX7_init_452 (fun H locs hP hD hS => ?_)
  rw [cl_55] at hP hD
  obtain ⟨a72, ea72⟩ : ∃ z : Nat → Int32, z = upd a71 55 103 := ⟨_, rfl⟩
  replace hP : va_P G vwCl [(h0, .inr (7, [.ref q1, .int 0, .ref q2, .int 0, .int 0, .int 0, .int 0, .int 0, .int 0, .int 0, .int 0, .int 0, .ref q3, .null, .null, .int 0, .null, .int 0, .int 0, .int 0, .int 0, .null, .int 0, .null, .null, .null, .null, .int 0])), (q1, .inl (cy 1, 515, .inl (fun _ => 0))), (q2, .inl (cy 1, 320, .inl (fun _ => 0))), (q3, .inl (cy 1, 16, .inl a16)), (q4, .inl (cy 1, 61, .inl a72))] H := by rw [ea72]; exact hP
  replace hD : va_D A [(h0, .inr (7, [.ref q1, .int 0, .ref q2, .int 0, .int 0, .int 0, .int 0, .int 0, .int 0, .int 0, .int 0, .int 0, .ref q3, .null, .null, .int 0, .null, .int 0, .int 0, .int 0, .int 0, .null, .int 0, .null, .null, .null, .null, .int 0])), (q1, .inl (cy 1, 515, .inl (fun _ => 0))), (q2, .inl (cy 1, 320, .inl (fun _ => 0))), (q3, .inl (cy 1, 16, .inl a16)), (q4, .inl (cy 1, 61, .inl a72))] := by rw [ea72]; exact hD
  refine lv_dup hx hb dX7_init_453 rfl ?_
  refine lv_bipush (v := 56) hx hb dX7_init_454 (by decide) ?_
  refine lv_bipush (v := 110) hx hb dX7_init_456 (by decide) ?_
  refine va_iast hx hb hK hP hD hS 4 1 rfl rfl (by unfold vp_in; decide) dX7_init_458 (fun H locs hP hD hS => ?_)
  rw [cl_56] at hP hD
  obtain ⟨a73, ea73⟩ : ∃ z : Nat → Int32, z = upd a72 56 110 := ⟨_, rfl⟩
  replace hP : va_P G vwCl [(h0, .inr (7, [.ref q1, .int 0, .ref q2, .int 0, .int 0, .int 0, .int 0, .int 0, .int 0, .int 0, .int 0, .int 0, .ref q3, .null, .null, .int 0, .null, .int 0, .int 0, .int 0, .int 0, .null, .int 0, .null, .null, .null, .null, .int 0])), (q1, .inl (cy 1, 515, .inl (fun _ => 0))), (q2, .inl (cy 1, 320, .inl (fun _ => 0))), (q3, .inl (cy 1, 16, .inl a16)), (q4, .inl (cy 1, 61, .inl a73))] H := by rw [ea73]; exact hP
  replace hD : va_D A [(h0, .inr (7, [.ref q1, .int 0, .ref q2, .int 0, .int 0, .int 0, .int 0, .int 0, .int 0, .int 0, .int 0, .int 0, .ref q3, .null, .null, .int 0, .null, .int 0, .int 0, .int 0, .int 0, .null, .int 0, .null, .null, .null, .null, .int 0])), (q1, .inl (cy 1, 515, .inl (fun _ => 0))), (q2, .inl (cy 1, 320, .inl (fun _ => 0))), (q3, .inl (cy 1, 16, .inl a16)), (q4, .inl (cy 1, 61, .inl a73))] := by rw [ea73]; exact hD
  refine lv_dup hx hb dX7_init_459 rfl ?_
  refine lv_bipush (v := 57) hx hb dX7_init_460 (by decide) ?_
  refine lv_bipush (v := 109) hx hb dX7_init_462 (by decide) ?_
  refine va_iast hx hb hK hP hD hS 4 1 rfl rfl (by unfold vp_in; decide) dX7_init_464 (fun H locs hP hD hS => ?_)
  rw [cl_57] at hP hD
  obtain ⟨a74, ea74⟩ : ∃ z : Nat → Int32, z = upd a73 57 109 := ⟨_, rfl⟩
  replace hP : va_P G vwCl [(h0, .inr (7, [.ref q1, .int 0, .ref q2, .int 0, .int 0, .int 0, .int 0, .int 0, .int 0, .int 0, .int 0, .int 0, .ref q3, .null, .null, .int 0, .null, .int 0, .int 0, .int 0, .int 0, .null, .int 0, .null, .null, .null, .null, .int 0])), (q1, .inl (cy 1, 515, .inl (fun _ => 0))), (q2, .inl (cy 1, 320, .inl (fun _ => 0))), (q3, .inl (cy 1, 16, .inl a16)), (q4, .inl (cy 1, 61, .inl a74))] H := by rw [ea74]; exact hP
  replace hD : va_D A [(h0, .inr (7, [.ref q1, .int 0, .ref q2, .int 0, .int 0, .int 0, .int 0, .int 0, .int 0, .int 0, .int 0, .int 0, .ref q3, .null, .null, .int 0, .null, .int 0, .int 0, .int 0, .int 0, .null, .int 0, .null, .null, .null, .null, .int 0])), (q1, .inl (cy 1, 515, .inl (fun _ => 0))), (q2, .inl (cy 1, 320, .inl (fun _ => 0))), (q3, .inl (cy 1, 16, .inl a16)), (q4, .inl (cy 1, 61, .inl a74))] := by rw [ea74]; exact hD
  refine lv_dup hx hb dX7_init_465 rfl ?_
  refine lv_bipush (v := 58) hx hb dX7_init_466 (by decide) ?_
  refine lv_bipush (v := 105) hx hb dX7_init_468 (by decide) ?_
  refine va_iast hx hb hK hP hD hS 4 1 rfl rfl (by unfold vp_in; decide) dX7_init_470 (fun H locs hP hD hS => ?_)
  rw [cl_58] at hP hD
  obtain ⟨a75, ea75⟩ : ∃ z : Nat → Int32, z = upd a74 58 105 := ⟨_, rfl⟩
  replace hP : va_P G vwCl [(h0, .inr (7, [.ref q1, .int 0, .ref q2, .int 0, .int 0, .int 0, .int 0, .int 0, .int 0, .int 0, .int 0, .int 0, .ref q3, .null, .null, .int 0, .null, .int 0, .int 0, .int 0, .int 0, .null, .int 0, .null, .null, .null, .null, .int 0])), (q1, .inl (cy 1, 515, .inl (fun _ => 0))), (q2, .inl (cy 1, 320, .inl (fun _ => 0))), (q3, .inl (cy 1, 16, .inl a16)), (q4, .inl (cy 1, 61, .inl a75))] H := by rw [ea75]; exact hP
  replace hD : va_D A [(h0, .inr (7, [.ref q1, .int 0, .ref q2, .int 0, .int 0, .int 0, .int 0, .int 0, .int 0, .int 0, .int 0, .int 0, .ref q3, .null, .null, .int 0, .null, .int 0, .int 0, .int 0, .int 0, .null, .int 0, .null, .null, .null, .null, .int 0])), (q1, .inl (cy 1, 515, .inl (fun _ => 0))), (q2, .inl (cy 1, 320, .inl (fun _ => 0))), (q3, .inl (cy 1, 16, .inl a16)), (q4, .inl (cy 1, 61, .inl a75))] := by rw [ea75]; exact hD
  refine lv_dup hx hb dX7_init_471 rfl ?_
  refine lv_bipush (v := 59) hx hb dX7_init_472 (by decide) ?_
  refine lv_bipush (v := 115) hx hb dX7_init_474 (by decide) ?_
  refine va_iast hx hb hK hP hD hS 4 1 rfl rfl (by unfold vp_in; decide) dX7_init_476 (fun H locs hP hD hS => ?_)
  rw [cl_59] at hP hD
  obtain ⟨a76, ea76⟩ : ∃ z : Nat → Int32, z = upd a75 59 115 := ⟨_, rfl⟩
  replace hP : va_P G vwCl [(h0, .inr (7, [.ref q1, .int 0, .ref q2, .int 0, .int 0, .int 0, .int 0, .int 0, .int 0, .int 0, .int 0, .int 0, .ref q3, .null, .null, .int 0, .null, .int 0, .int 0, .int 0, .int 0, .null, .int 0, .null, .null, .null, .null, .int 0])), (q1, .inl (cy 1, 515, .inl (fun _ => 0))), (q2, .inl (cy 1, 320, .inl (fun _ => 0))), (q3, .inl (cy 1, 16, .inl a16)), (q4, .inl (cy 1, 61, .inl a76))] H := by rw [ea76]; exact hP
  replace hD : va_D A [(h0, .inr (7, [.ref q1, .int 0, .ref q2, .int 0, .int 0, .int 0, .int 0, .int 0, .int 0, .int 0, .int 0, .int 0, .ref q3, .null, .null, .int 0, .null, .int 0, .int 0, .int 0, .int 0, .null, .int 0, .null, .null, .null, .null, .int 0])), (q1, .inl (cy 1, 515, .inl (fun _ => 0))), (q2, .inl (cy 1, 320, .inl (fun _ => 0))), (q3, .inl (cy 1, 16, .inl a16)), (q4, .inl (cy 1, 61, .inl a76))] := by rw [ea76]; exact hD
  refine lv_dup hx hb dX7_init_477 rfl ?_
  refine lv_bipush (v := 60) hx hb dX7_init_478 (by decide) ?_
  refine lv_bipush (v := 115) hx hb dX7_init_480 (by decide) ?_
  refine va_iast hx hb hK hP hD hS 4 1 rfl rfl (by unfold vp_in; decide) dX7_init_482 (fun H locs hP hD hS => ?_)
  rw [cl_60] at hP hD
  obtain ⟨a77, ea77⟩ : ∃ z : Nat → Int32, z = upd a76 60 115 := ⟨_, rfl⟩
  replace hP : va_P G vwCl [(h0, .inr (7, [.ref q1, .int 0, .ref q2, .int 0, .int 0, .int 0, .int 0, .int 0, .int 0, .int 0, .int 0, .int 0, .ref q3, .null, .null, .int 0, .null, .int 0, .int 0, .int 0, .int 0, .null, .int 0, .null, .null, .null, .null, .int 0])), (q1, .inl (cy 1, 515, .inl (fun _ => 0))), (q2, .inl (cy 1, 320, .inl (fun _ => 0))), (q3, .inl (cy 1, 16, .inl a16)), (q4, .inl (cy 1, 61, .inl a77))] H := by rw [ea77]; exact hP
  replace hD : va_D A [(h0, .inr (7, [.ref q1, .int 0, .ref q2, .int 0, .int 0, .int 0, .int 0, .int 0, .int 0, .int 0, .int 0, .int 0, .ref q3, .null, .null, .int 0, .null, .int 0, .int 0, .int 0, .int 0, .null, .int 0, .null, .null, .null, .null, .int 0])), (q1, .inl (cy 1, 515, .inl (fun _ => 0))), (q2, .inl (cy 1, 320, .inl (fun _ => 0))), (q3, .inl (cy 1, 16, .inl a16)), (q4, .inl (cy 1, 61, .inl a77))] := by rw [ea77]; exact hD
  refine va_putF (D := G) (ci := 7) (v := .ref q4) (ty := (.array .int)) (C := RX7) (T := TX7) (N := 28) hx hb hts inkX7 tyX7 tyX7_ok nmX7 hown hK hP hD hS 0 rfl rfl 13 (by decide) (hts _ kw_779) (fun _ h9 => h9) rfl hin rfl (by decide +kernel) rfl rfl (Nat.le_of_ble_eq_true rfl) dX7_init_483 (fun H locs hP hD hS => ?_)
  replace hP : va_P G vwCl [(h0, .inr (7, [.ref q1, .int 0, .ref q2, .int 0, .int 0, .int 0, .int 0, .int 0, .int 0, .int 0, .int 0, .int 0, .ref q3, .ref q4, .null, .int 0, .null, .int 0, .int 0, .int 0, .int 0, .null, .int 0, .null, .null, .null, .null, .int 0])), (q1, .inl (cy 1, 515, .inl (fun _ => 0))), (q2, .inl (cy 1, 320, .inl (fun _ => 0))), (q3, .inl (cy 1, 16, .inl a16)), (q4, .inl (cy 1, 61, .inl a77))] H := hP
  replace hD : va_D A [(h0, .inr (7, [.ref q1, .int 0, .ref q2, .int 0, .int 0, .int 0, .int 0, .int 0, .int 0, .int 0, .int 0, .int 0, .ref q3, .ref q4, .null, .int 0, .null, .int 0, .int 0, .int 0, .int 0, .null, .int 0, .null, .null, .null, .null, .int 0])), (q1, .inl (cy 1, 515, .inl (fun _ => 0))), (q2, .inl (cy 1, 320, .inl (fun _ => 0))), (q3, .inl (cy 1, 16, .inl a16)), (q4, .inl (cy 1, 61, .inl a77))] := hD
  refine lv_aload_n hx hb dX7_init_486 rfl (lv_at hl 0 rfl) ?_
  refine lv_bipush (v := 24) hx hb dX7_init_487 (by decide) ?_
  refine s_newa (atype := .int) (ty := .int) rfl hx hb (hts _ kw_153) hK 1 rfl (fun _ h => h) hP hD hS hA (fun _ => rfl) (by decide) (by decide) (Nat.le_of_ble_eq_true rfl) (Nat.le_of_ble_eq_true rfl) (Nat.le_of_ble_eq_true rfl) dX7_init_489 (fun q5 H hP hD hS => ?_)
  refine W.widen (k := 5) (n := 936) (Nat.le_of_ble_eq_true rfl) (Nat.le_of_ble_eq_true rfl) ?_
  replace hP : va_P G vwCl [(h0, .inr (7, [.ref q1, .int 0, .ref q2, .int 0, .int 0, .int 0, .int 0, .int 0, .int 0, .int 0, .int 0, .int 0, .ref q3, .ref q4, .null, .int 0, .null, .int 0, .int 0, .int 0, .int 0, .null, .int 0, .null, .null, .null, .null, .int 0])), (q1, .inl (cy 1, 515, .inl (fun _ => 0))), (q2, .inl (cy 1, 320, .inl (fun _ => 0))), (q3, .inl (cy 1, 16, .inl a16)), (q4, .inl (cy 1, 61, .inl a77)), (q5, .inl (cy 1, 24, .inl (fun _ => 0)))] H := hP
  replace hD : va_D A [(h0, .inr (7, [.ref q1, .int 0, .ref q2, .int 0, .int 0, .int 0, .int 0, .int 0, .int 0, .int 0, .int 0, .int 0, .ref q3, .ref q4, .null, .int 0, .null, .int 0, .int 0, .int 0, .int 0, .null, .int 0, .null, .null, .null, .null, .int 0])), (q1, .inl (cy 1, 515, .inl (fun _ => 0))), (q2, .inl (cy 1, 320, .inl (fun _ => 0))), (q3, .inl (cy 1, 16, .inl a16)), (q4, .inl (cy 1, 61, .inl a77)), (q5, .inl (cy 1, 24, .inl (fun _ => 0)))] := hD
  refine va_putF (D := G) (ci := 7) (v := .ref q5) (ty := (.array .int)) (C := RX7) (T := TX7) (N := 28) hx hb hts inkX7 tyX7 tyX7_ok nmX7 hown hK hP hD hS 0 rfl rfl 14 (by decide) (hts _ kw_780) (fun _ h9 => h9) rfl hin rfl (by decide +kernel) rfl rfl (Nat.le_of_ble_eq_true rfl) dX7_init_491 (fun H locs hP hD hS => ?_)
  replace hP : va_P G vwCl [(h0, .inr (7, [.ref q1, .int 0, .ref q2, .int 0, .int 0, .int 0, .int 0, .int 0, .int 0, .int 0, .int 0, .int 0, .ref q3, .ref q4, .ref q5, .int 0, .null, .int 0, .int 0, .int 0, .int 0, .null, .int 0, .null, .null, .null, .null, .int 0])), (q1, .inl (cy 1, 515, .inl (fun _ => 0))), (q2, .inl (cy 1, 320, .inl (fun _ => 0))), (q3, .inl (cy 1, 16, .inl a16)), (q4, .inl (cy 1, 61, .inl a77)), (q5, .inl (cy 1, 24, .inl (fun _ => 0)))] H := hP
  replace hD : va_D A [(h0, .inr (7, [.ref q1, .int 0, .ref q2, .int 0, .int 0, .int 0, .int 0, .int 0, .int 0, .int 0, .int 0, .int 0, .ref q3, .ref q4, .ref q5, .int 0, .null, .int 0, .int 0, .int 0, .int 0, .null, .int 0, .null, .null, .null, .null, .int 0])), (q1, .inl (cy 1, 515, .inl (fun _ => 0))), (q2, .inl (cy 1, 320, .inl (fun _ => 0))), (q3, .inl (cy 1, 16, .inl a16)), (q4, .inl (cy 1, 61, .inl a77)), (q5, .inl (cy 1, 24, .inl (fun _ => 0)))] := hD
  refine lv_aload_n hx hb dX7_init_494 rfl (lv_at hl 0 rfl) ?_
  refine lv_bipush (v := 24) hx hb dX7_init_495 (by decide) ?_
  refine s_newa (atype := .int) (ty := .int) rfl hx hb (hts _ kw_153) hK 1 rfl (fun _ h => h) hP hD hS hA (fun _ => rfl) (by decide) (by decide) (Nat.le_of_ble_eq_true rfl) (Nat.le_of_ble_eq_true rfl) (Nat.le_of_ble_eq_true rfl) dX7_init_497 (fun q6 H hP hD hS => ?_)
  refine W.widen (k := 6) (n := 960) (Nat.le_of_ble_eq_true rfl) (Nat.le_of_ble_eq_true rfl) ?_
  replace hP : va_P G vwCl [(h0, .inr (7, [.ref q1, .int 0, .ref q2, .int 0, .int 0, .int 0, .int 0, .int 0, .int 0, .int 0, .int 0, .int 0, .ref q3, .ref q4, .ref q5, .int 0, .null, .int 0, .int 0, .int 0, .int 0, .null, .int 0, .null, .null, .null, .null, .int 0])), (q1, .inl (cy 1, 515, .inl (fun _ => 0))), (q2, .inl (cy 1, 320, .inl (fun _ => 0))), (q3, .inl (cy 1, 16, .inl a16)), (q4, .inl (cy 1, 61, .inl a77)), (q5, .inl (cy 1, 24, .inl (fun _ => 0))), (q6, .inl (cy 1, 24, .inl (fun _ => 0)))] H := hP
  replace hD : va_D A [(h0, .inr (7, [.ref q1, .int 0, .ref q2, .int 0, .int 0, .int 0, .int 0, .int 0, .int 0, .int 0, .int 0, .int 0, .ref q3, .ref q4, .ref q5, .int 0, .null, .int 0, .int 0, .int 0, .int 0, .null, .int 0, .null, .null, .null, .null, .int 0])), (q1, .inl (cy 1, 515, .inl (fun _ => 0))), (q2, .inl (cy 1, 320, .inl (fun _ => 0))), (q3, .inl (cy 1, 16, .inl a16)), (q4, .inl (cy 1, 61, .inl a77)), (q5, .inl (cy 1, 24, .inl (fun _ => 0))), (q6, .inl (cy 1, 24, .inl (fun _ => 0)))] := hD
  refine va_putF (D := G) (ci := 7) (v := .ref q6) (ty := (.array .int)) (C := RX7) (T := TX7) (N := 28) hx hb hts inkX7 tyX7 tyX7_ok nmX7 hown hK hP hD hS 0 rfl rfl 16 (by decide) (hts _ kw_782) (fun _ h9 => h9) rfl hin rfl (by decide +kernel) rfl rfl (Nat.le_of_ble_eq_true rfl) dX7_init_499 (fun H locs hP hD hS => ?_)
  replace hP : va_P G vwCl [(h0, .inr (7, [.ref q1, .int 0, .ref q2, .int 0, .int 0, .int 0, .int 0, .int 0, .int 0, .int 0, .int 0, .int 0, .ref q3, .ref q4, .ref q5, .int 0, .ref q6, .int 0, .int 0, .int 0, .int 0, .null, .int 0, .null, .null, .null, .null, .int 0])), (q1, .inl (cy 1, 515, .inl (fun _ => 0))), (q2, .inl (cy 1, 320, .inl (fun _ => 0))), (q3, .inl (cy 1, 16, .inl a16)), (q4, .inl (cy 1, 61, .inl a77)), (q5, .inl (cy 1, 24, .inl (fun _ => 0))), (q6, .inl (cy 1, 24, .inl (fun _ => 0)))] H := hP
  replace hD : va_D A [(h0, .inr (7, [.ref q1, .int 0, .ref q2, .int 0, .int 0, .int 0, .int 0, .int 0, .int 0, .int 0, .int 0, .int 0, .ref q3, .ref q4, .ref q5, .int 0, .ref q6, .int 0, .int 0, .int 0, .int 0, .null, .int 0, .null, .null, .null, .null, .int 0])), (q1, .inl (cy 1, 515, .inl (fun _ => 0))), (q2, .inl (cy 1, 320, .inl (fun _ => 0))), (q3, .inl (cy 1, 16, .inl a16)), (q4, .inl (cy 1, 61, .inl a77)), (q5, .inl (cy 1, 24, .inl (fun _ => 0))), (q6, .inl (cy 1, 24, .inl (fun _ => 0)))] := hD
  refine lv_aload_n hx hb dX7_init_502 rfl (lv_at hl 0 rfl) ?_
  refine lv_bipush (v := 16) hx hb dX7_init_503 (by decide) ?_
  refine s_newa (atype := .int) (ty := .int) rfl hx hb (hts _ kw_153) hK 1 rfl (fun _ h => h) hP hD hS hA (fun _ => rfl) (by decide) (by decide) (Nat.le_of_ble_eq_true rfl) (Nat.le_of_ble_eq_true rfl) (Nat.le_of_ble_eq_true rfl) dX7_init_505 (fun q7 H hP hD hS => ?_)
  refine W.widen (k := 7) (n := 976) (Nat.le_of_ble_eq_true rfl) (Nat.le_of_ble_eq_true rfl) ?_
  replace hP : va_P G vwCl [(h0, .inr (7, [.ref q1, .int 0, .ref q2, .int 0, .int 0, .int 0, .int 0, .int 0, .int 0, .int 0, .int 0, .int 0, .ref q3, .ref q4, .ref q5, .int 0, .ref q6, .int 0, .int 0, .int 0, .int 0, .null, .int 0, .null, .null, .null, .null, .int 0])), (q1, .inl (cy 1, 515, .inl (fun _ => 0))), (q2, .inl (cy 1, 320, .inl (fun _ => 0))), (q3, .inl (cy 1, 16, .inl a16)), (q4, .inl (cy 1, 61, .inl a77)), (q5, .inl (cy 1, 24, .inl (fun _ => 0))), (q6, .inl (cy 1, 24, .inl (fun _ => 0))), (q7, .inl (cy 1, 16, .inl (fun _ => 0)))] H := hP
  replace hD : va_D A [(h0, .inr (7, [.ref q1, .int 0, .ref q2, .int 0, .int 0, .int 0, .int 0, .int 0, .int 0, .int 0, .int 0, .int 0, .ref q3, .ref q4, .ref q5, .int 0, .ref q6, .int 0, .int 0, .int 0, .int 0, .null, .int 0, .null, .null, .null, .null, .int 0])), (q1, .inl (cy 1, 515, .inl (fun _ => 0))), (q2, .inl (cy 1, 320, .inl (fun _ => 0))), (q3, .inl (cy 1, 16, .inl a16)), (q4, .inl (cy 1, 61, .inl a77)), (q5, .inl (cy 1, 24, .inl (fun _ => 0))), (q6, .inl (cy 1, 24, .inl (fun _ => 0))), (q7, .inl (cy 1, 16, .inl (fun _ => 0)))] := hD
  refine va_putF (D := G) (ci := 7) (v := .ref q7) (ty := (.array .int)) (C := RX7) (T := TX7) (N := 28) hx hb hts inkX7 tyX7 tyX7_ok nmX7 hown hK hP hD hS 0 rfl rfl 21 (by decide) (hts _ kw_787) (fun _ h9 => h9) rfl hin rfl (by decide +kernel) rfl rfl (Nat.le_of_ble_eq_true rfl) dX7_init_507 (fun H locs hP hD hS => ?_)
  replace hP : va_P G vwCl [(h0, .inr (7, [.ref q1, .int 0, .ref q2, .int 0, .int 0, .int 0, .int 0, .int 0, .int 0, .int 0, .int 0, .int 0, .ref q3, .ref q4, .ref q5, .int 0, .ref q6, .int 0, .int 0, .int 0, .int 0, .ref q7, .int 0, .null, .null, .null, .null, .int 0])), (q1, .inl (cy 1, 515, .inl (fun _ => 0))), (q2, .inl (cy 1, 320, .inl (fun _ => 0))), (q3, .inl (cy 1, 16, .inl a16)), (q4, .inl (cy 1, 61, .inl a77)), (q5, .inl (cy 1, 24, .inl (fun _ => 0))), (q6, .inl (cy 1, 24, .inl (fun _ => 0))), (q7, .inl (cy 1, 16, .inl (fun _ => 0)))] H := hP
  replace hD : va_D A [(h0, .inr (7, [.ref q1, .int 0, .ref q2, .int 0, .int 0, .int 0, .int 0, .int 0, .int 0, .int 0, .int 0, .int 0, .ref q3, .ref q4, .ref q5, .int 0, .ref q6, .int 0, .int 0, .int 0, .int 0, .ref q7, .int 0, .null, .null, .null, .null, .int 0])), (q1, .inl (cy 1, 515, .inl (fun _ => 0))), (q2, .inl (cy 1, 320, .inl (fun _ => 0))), (q3, .inl (cy 1, 16, .inl a16)), (q4, .inl (cy 1, 61, .inl a77)), (q5, .inl (cy 1, 24, .inl (fun _ => 0))), (q6, .inl (cy 1, 24, .inl (fun _ => 0))), (q7, .inl (cy 1, 16, .inl (fun _ => 0)))] := hD
  refine lv_aload_n hx hb dX7_init_510 rfl (lv_at hl 0 rfl) ?_
  refine lv_iconst (v := 2) hx hb dX7_init_511 (by decide) ?_
  refine s_newa (atype := .boolean) (ty := .boolean) rfl hx hb (hts _ kw_258) hK 2 rfl (fun _ h => h) hP hD hS hA (fun _ => rfl) (by decide) (by decide) (Nat.le_of_ble_eq_true rfl) (Nat.le_of_ble_eq_true rfl) (Nat.le_of_ble_eq_true rfl) dX7_init_512 (fun q8 H hP hD hS => ?_)
  refine W.widen (k := 8) (n := 978) (Nat.le_of_ble_eq_true rfl) (Nat.le_of_ble_eq_true rfl) ?_
  replace hP : va_P G vwCl [(h0, .inr (7, [.ref q1, .int 0, .ref q2, .int 0, .int 0, .int 0, .int 0, .int 0, .int 0, .int 0, .int 0, .int 0, .ref q3, .ref q4, .ref q5, .int 0, .ref q6, .int 0, .int 0, .int 0, .int 0, .ref q7, .int 0, .null, .null, .null, .null, .int 0])), (q1, .inl (cy 1, 515, .inl (fun _ => 0))), (q2, .inl (cy 1, 320, .inl (fun _ => 0))), (q3, .inl (cy 1, 16, .inl a16)), (q4, .inl (cy 1, 61, .inl a77)), (q5, .inl (cy 1, 24, .inl (fun _ => 0))), (q6, .inl (cy 1, 24, .inl (fun _ => 0))), (q7, .inl (cy 1, 16, .inl (fun _ => 0))), (q8, .inl (cy 2, 2, .inl (fun _ => 0)))] H := hP
  replace hD : va_D A [(h0, .inr (7, [.ref q1, .int 0, .ref q2, .int 0, .int 0, .int 0, .int 0, .int 0, .int 0, .int 0, .int 0, .int 0, .ref q3, .ref q4, .ref q5, .int 0, .ref q6, .int 0, .int 0, .int 0, .int 0, .ref q7, .int 0, .null, .null, .null, .null, .int 0])), (q1, .inl (cy 1, 515, .inl (fun _ => 0))), (q2, .inl (cy 1, 320, .inl (fun _ => 0))), (q3, .inl (cy 1, 16, .inl a16)), (q4, .inl (cy 1, 61, .inl a77)), (q5, .inl (cy 1, 24, .inl (fun _ => 0))), (q6, .inl (cy 1, 24, .inl (fun _ => 0))), (q7, .inl (cy 1, 16, .inl (fun _ => 0))), (q8, .inl (cy 2, 2, .inl (fun _ => 0)))] := hD
  refine lv_dup hx hb dX7_init_514 rfl ?_
  refine lv_iconst (v := 0) hx hb dX7_init_515 (by decide) ?_
  refine lv_iconst (v := 0) hx hb dX7_init_516 (by decide) ?_
  refine va_zast hx hb hK hP hD hS 8 2 rfl rfl (by unfold vp_in; decide) dX7_init_517 (fun H locs hP hD hS => ?_)
  rw [cl_0] at hP hD
  obtain ⟨a78, ea78⟩ : ∃ z : Nat → Int32, z = upd (fun _ => 0) 0 (vp_nar .boolean 0) := ⟨_, rfl⟩
  replace hP : va_P G vwCl [(h0, .inr (7, [.ref q1, .int 0, .ref q2, .int 0, .int 0, .int 0, .int 0, .int 0, .int 0, .int 0, .int 0, .int 0, .ref q3, .ref q4, .ref q5, .int 0, .ref q6, .int 0, .int 0, .int 0, .int 0, .ref q7, .int 0, .null, .null, .null, .null, .int 0])), (q1, .inl (cy 1, 515, .inl (fun _ => 0))), (q2, .inl (cy 1, 320, .inl (fun _ => 0))), (q3, .inl (cy 1, 16, .inl a16)), (q4, .inl (cy 1, 61, .inl a77)), (q5, .inl (cy 1, 24, .inl (fun _ => 0))), (q6, .inl (cy 1, 24, .inl (fun _ => 0))), (q7, .inl (cy 1, 16, .inl (fun _ => 0))), (q8, .inl (cy 2, 2, .inl a78))] H := by rw [ea78]; exact hP
  replace hD : va_D A [(h0, .inr (7, [.ref q1, .int 0, .ref q2, .int 0, .int 0, .int 0, .int 0, .int 0, .int 0, .int 0, .int 0, .int 0, .ref q3, .ref q4, .ref q5, .int 0, .ref q6, .int 0, .int 0, .int 0, .int 0, .ref q7, .int 0, .null, .null, .null, .null, .int 0])), (q1, .inl (cy 1, 515, .inl (fun _ => 0))), (q2, .inl (cy 1, 320, .inl (fun _ => 0))), (q3, .inl (cy 1, 16, .inl a16)), (q4, .inl (cy 1, 61, .inl a77)), (q5, .inl (cy 1, 24, .inl (fun _ => 0))), (q6, .inl (cy 1, 24, .inl (fun _ => 0))), (q7, .inl (cy 1, 16, .inl (fun _ => 0))), (q8, .inl (cy 2, 2, .inl a78))] := by rw [ea78]; exact hD
  refine lv_dup hx hb dX7_init_518 rfl ?_
  refine lv_iconst (v := 1) hx hb dX7_init_519 (by decide) ?_
  refine lv_iconst (v := 0) hx hb dX7_init_520 (by decide) ?_
  refine va_zast hx hb hK hP hD hS 8 2 rfl rfl (by unfold vp_in; decide) dX7_init_521 (fun H locs hP hD hS => ?_)
  rw [cl_1] at hP hD
  obtain ⟨a79, ea79⟩ : ∃ z : Nat → Int32, z = upd a78 1 (vp_nar .boolean 0) := ⟨_, rfl⟩
  replace hP : va_P G vwCl [(h0, .inr (7, [.ref q1, .int 0, .ref q2, .int 0, .int 0, .int 0, .int 0, .int 0, .int 0, .int 0, .int 0, .int 0, .ref q3, .ref q4, .ref q5, .int 0, .ref q6, .int 0, .int 0, .int 0, .int 0, .ref q7, .int 0, .null, .null, .null, .null, .int 0])), (q1, .inl (cy 1, 515, .inl (fun _ => 0))), (q2, .inl (cy 1, 320, .inl (fun _ => 0))), (q3, .inl (cy 1, 16, .inl a16)), (q4, .inl (cy 1, 61, .inl a77)), (q5, .inl (cy 1, 24, .inl (fun _ => 0))), (q6, .inl (cy 1, 24, .inl (fun _ => 0))), (q7, .inl (cy 1, 16, .inl (fun _ => 0))), (q8, .inl (cy 2, 2, .inl a79))] H := by rw [ea79]; exact hP
  replace hD : va_D A [(h0, .inr (7, [.ref q1, .int 0, .ref q2, .int 0, .int 0, .int 0, .int 0, .int 0, .int 0, .int 0, .int 0, .int 0, .ref q3, .ref q4, .ref q5, .int 0, .ref q6, .int 0, .int 0, .int 0, .int 0, .ref q7, .int 0, .null, .null, .null, .null, .int 0])), (q1, .inl (cy 1, 515, .inl (fun _ => 0))), (q2, .inl (cy 1, 320, .inl (fun _ => 0))), (q3, .inl (cy 1, 16, .inl a16)), (q4, .inl (cy 1, 61, .inl a77)), (q5, .inl (cy 1, 24, .inl (fun _ => 0))), (q6, .inl (cy 1, 24, .inl (fun _ => 0))), (q7, .inl (cy 1, 16, .inl (fun _ => 0))), (q8, .inl (cy 2, 2, .inl a79))] := by rw [ea79]; exact hD
  refine va_putF (D := G) (ci := 7) (v := .ref q8) (ty := (.array .boolean)) (C := RX7) (T := TX7) (N := 28) hx hb hts inkX7 tyX7 tyX7_ok nmX7 hown hK hP hD hS 0 rfl rfl 23 (by decide) (hts _ kw_789) (fun _ h9 => h9) rfl hin rfl (by decide +kernel) rfl rfl (Nat.le_of_ble_eq_true rfl) dX7_init_522 (fun H locs hP hD hS => ?_)
  replace hP : va_P G vwCl [(h0, .inr (7, [.ref q1, .int 0, .ref q2, .int 0, .int 0, .int 0, .int 0, .int 0, .int 0, .int 0, .int 0, .int 0, .ref q3, .ref q4, .ref q5, .int 0, .ref q6, .int 0, .int 0, .int 0, .int 0, .ref q7, .int 0, .ref q8, .null, .null, .null, .int 0])), (q1, .inl (cy 1, 515, .inl (fun _ => 0))), (q2, .inl (cy 1, 320, .inl (fun _ => 0))), (q3, .inl (cy 1, 16, .inl a16)), (q4, .inl (cy 1, 61, .inl a77)), (q5, .inl (cy 1, 24, .inl (fun _ => 0))), (q6, .inl (cy 1, 24, .inl (fun _ => 0))), (q7, .inl (cy 1, 16, .inl (fun _ => 0))), (q8, .inl (cy 2, 2, .inl a79))] H := hP
  replace hD : va_D A [(h0, .inr (7, [.ref q1, .int 0, .ref q2, .int 0, .int 0, .int 0, .int 0, .int 0, .int 0, .int 0, .int 0, .int 0, .ref q3, .ref q4, .ref q5, .int 0, .ref q6, .int 0, .int 0, .int 0, .int 0, .ref q7, .int 0, .ref q8, .null, .null, .null, .int 0])), (q1, .inl (cy 1, 515, .inl (fun _ => 0))), (q2, .inl (cy 1, 320, .inl (fun _ => 0))), (q3, .inl (cy 1, 16, .inl a16)), (q4, .inl (cy 1, 61, .inl a77)), (q5, .inl (cy 1, 24, .inl (fun _ => 0))), (q6, .inl (cy 1, 24, .inl (fun _ => 0))), (q7, .inl (cy 1, 16, .inl (fun _ => 0))), (q8, .inl (cy 2, 2, .inl a79))] := hD
  refine lv_aload_n hx hb dX7_init_525 rfl (lv_at hl 0 rfl) ?_
  refine lv_iconst (v := 4) hx hb dX7_init_526 (by decide) ?_
  refine s_newa (atype := .int) (ty := .int) rfl hx hb (hts _ kw_153) hK 1 rfl (fun _ h => h) hP hD hS hA (fun _ => rfl) (by decide) (by decide) (Nat.le_of_ble_eq_true rfl) (Nat.le_of_ble_eq_true rfl) (Nat.le_of_ble_eq_true rfl) dX7_init_527 (fun q9 H hP hD hS => ?_)
  refine W.widen (k := 9) (n := 982) (Nat.le_of_ble_eq_true rfl) (Nat.le_of_ble_eq_true rfl) ?_
  replace hP : va_P G vwCl [(h0, .inr (7, [.ref q1, .int 0, .ref q2, .int 0, .int 0, .int 0, .int 0, .int 0, .int 0, .int 0, .int 0, .int 0, .ref q3, .ref q4, .ref q5, .int 0, .ref q6, .int 0, .int 0, .int 0, .int 0, .ref q7, .int 0, .ref q8, .null, .null, .null, .int 0])), (q1, .inl (cy 1, 515, .inl (fun _ => 0))), (q2, .inl (cy 1, 320, .inl (fun _ => 0))), (q3, .inl (cy 1, 16, .inl a16)), (q4, .inl (cy 1, 61, .inl a77)), (q5, .inl (cy 1, 24, .inl (fun _ => 0))), (q6, .inl (cy 1, 24, .inl (fun _ => 0))), (q7, .inl (cy 1, 16, .inl (fun _ => 0))), (q8, .inl (cy 2, 2, .inl a79)), (q9, .inl (cy 1, 4, .inl (fun _ => 0)))] H := hP
  replace hD : va_D A [(h0, .inr (7, [.ref q1, .int 0, .ref q2, .int 0, .int 0, .int 0, .int 0, .int 0, .int 0, .int 0, .int 0, .int 0, .ref q3, .ref q4, .ref q5, .int 0, .ref q6, .int 0, .int 0, .int 0, .int 0, .ref q7, .int 0, .ref q8, .null, .null, .null, .int 0])), (q1, .inl (cy 1, 515, .inl (fun _ => 0))), (q2, .inl (cy 1, 320, .inl (fun _ => 0))), (q3, .inl (cy 1, 16, .inl a16)), (q4, .inl (cy 1, 61, .inl a77)), (q5, .inl (cy 1, 24, .inl (fun _ => 0))), (q6, .inl (cy 1, 24, .inl (fun _ => 0))), (q7, .inl (cy 1, 16, .inl (fun _ => 0))), (q8, .inl (cy 2, 2, .inl a79)), (q9, .inl (cy 1, 4, .inl (fun _ => 0)))] := hD
  refine lv_dup hx hb dX7_init_529 rfl ?_
  refine lv_iconst (v := 0) hx hb dX7_init_530 (by decide) ?_
  refine lv_bipush (v := -4) hx hb dX7_init_531 (by decide) ?_
  refine va_iast hx hb hK hP hD hS 9 1 rfl rfl (by unfold vp_in; decide) dX7_init_533 (fun H locs hP hD hS => ?_)
  rw [cl_0] at hP hD
  obtain ⟨a80, ea80⟩ : ∃ z : Nat → Int32, z = upd (fun _ => 0) 0 (-4) := ⟨_, rfl⟩
  replace hP : va_P G vwCl [(h0, .inr (7, [.ref q1, .int 0, .ref q2, .int 0, .int 0, .int 0, .int 0, .int 0, .int 0, .int 0, .int 0, .int 0, .ref q3, .ref q4, .ref q5, .int 0, .ref q6, .int 0, .int 0, .int 0, .int 0, .ref q7, .int 0, .ref q8, .null, .null, .null, .int 0])), (q1, .inl (cy 1, 515, .inl (fun _ => 0))), (q2, .inl (cy 1, 320, .inl (fun _ => 0))), (q3, .inl (cy 1, 16, .inl a16)), (q4, .inl (cy 1, 61, .inl a77)), (q5, .inl (cy 1, 24, .inl (fun _ => 0))), (q6, .inl (cy 1, 24, .inl (fun _ => 0))), (q7, .inl (cy 1, 16, .inl (fun _ => 0))), (q8, .inl (cy 2, 2, .inl a79)), (q9, .inl (cy 1, 4, .inl a80))] H := by rw [ea80]; exact hP
  replace hD : va_D A [(h0, .inr (7, [.ref q1, .int 0, .ref q2, .int 0, .int 0, .int 0, .int 0, .int 0, .int 0, .int 0, .int 0, .int 0, .ref q3, .ref q4, .ref q5, .int 0, .ref q6, .int 0, .int 0, .int 0, .int 0, .ref q7, .int 0, .ref q8, .null, .null, .null, .int 0])), (q1, .inl (cy 1, 515, .inl (fun _ => 0))), (q2, .inl (cy 1, 320, .inl (fun _ => 0))), (q3, .inl (cy 1, 16, .inl a16)), (q4, .inl (cy 1, 61, .inl a77)), (q5, .inl (cy 1, 24, .inl (fun _ => 0))), (q6, .inl (cy 1, 24, .inl (fun _ => 0))), (q7, .inl (cy 1, 16, .inl (fun _ => 0))), (q8, .inl (cy 2, 2, .inl a79)), (q9, .inl (cy 1, 4, .inl a80))] := by rw [ea80]; exact hD
  refine lv_dup hx hb dX7_init_534 rfl ?_
  refine lv_iconst (v := 1) hx hb dX7_init_535 (by decide) ?_
  refine lv_bipush (v := -4) hx hb dX7_init_536 (by decide) ?_
  refine va_iast hx hb hK hP hD hS 9 1 rfl rfl (by unfold vp_in; decide) dX7_init_538 (fun H locs hP hD hS => ?_)
  rw [cl_1] at hP hD
  obtain ⟨a81, ea81⟩ : ∃ z : Nat → Int32, z = upd a80 1 (-4) := ⟨_, rfl⟩
  replace hP : va_P G vwCl [(h0, .inr (7, [.ref q1, .int 0, .ref q2, .int 0, .int 0, .int 0, .int 0, .int 0, .int 0, .int 0, .int 0, .int 0, .ref q3, .ref q4, .ref q5, .int 0, .ref q6, .int 0, .int 0, .int 0, .int 0, .ref q7, .int 0, .ref q8, .null, .null, .null, .int 0])), (q1, .inl (cy 1, 515, .inl (fun _ => 0))), (q2, .inl (cy 1, 320, .inl (fun _ => 0))), (q3, .inl (cy 1, 16, .inl a16)), (q4, .inl (cy 1, 61, .inl a77)), (q5, .inl (cy 1, 24, .inl (fun _ => 0))), (q6, .inl (cy 1, 24, .inl (fun _ => 0))), (q7, .inl (cy 1, 16, .inl (fun _ => 0))), (q8, .inl (cy 2, 2, .inl a79)), (q9, .inl (cy 1, 4, .inl a81))] H := by rw [ea81]; exact hP
  replace hD : va_D A [(h0, .inr (7, [.ref q1, .int 0, .ref q2, .int 0, .int 0, .int 0, .int 0, .int 0, .int 0, .int 0, .int 0, .int 0, .ref q3, .ref q4, .ref q5, .int 0, .ref q6, .int 0, .int 0, .int 0, .int 0, .ref q7, .int 0, .ref q8, .null, .null, .null, .int 0])), (q1, .inl (cy 1, 515, .inl (fun _ => 0))), (q2, .inl (cy 1, 320, .inl (fun _ => 0))), (q3, .inl (cy 1, 16, .inl a16)), (q4, .inl (cy 1, 61, .inl a77)), (q5, .inl (cy 1, 24, .inl (fun _ => 0))), (q6, .inl (cy 1, 24, .inl (fun _ => 0))), (q7, .inl (cy 1, 16, .inl (fun _ => 0))), (q8, .inl (cy 2, 2, .inl a79)), (q9, .inl (cy 1, 4, .inl a81))] := by rw [ea81]; exact hD
  refine lv_dup hx hb dX7_init_539 rfl ?_
  refine lv_iconst (v := 2) hx hb dX7_init_540 (by decide) ?_
  refine lv_bipush (v := -4) hx hb dX7_init_541 (by decide) ?_
  refine va_iast hx hb hK hP hD hS 9 1 rfl rfl (by unfold vp_in; decide) dX7_init_543 (fun H locs hP hD hS => ?_)
  rw [cl_2] at hP hD
  obtain ⟨a82, ea82⟩ : ∃ z : Nat → Int32, z = upd a81 2 (-4) := ⟨_, rfl⟩
  replace hP : va_P G vwCl [(h0, .inr (7, [.ref q1, .int 0, .ref q2, .int 0, .int 0, .int 0, .int 0, .int 0, .int 0, .int 0, .int 0, .int 0, .ref q3, .ref q4, .ref q5, .int 0, .ref q6, .int 0, .int 0, .int 0, .int 0, .ref q7, .int 0, .ref q8, .null, .null, .null, .int 0])), (q1, .inl (cy 1, 515, .inl (fun _ => 0))), (q2, .inl (cy 1, 320, .inl (fun _ => 0))), (q3, .inl (cy 1, 16, .inl a16)), (q4, .inl (cy 1, 61, .inl a77)), (q5, .inl (cy 1, 24, .inl (fun _ => 0))), (q6, .inl (cy 1, 24, .inl (fun _ => 0))), (q7, .inl (cy 1, 16, .inl (fun _ => 0))), (q8, .inl (cy 2, 2, .inl a79)), (q9, .inl (cy 1, 4, .inl a82))] H := by rw [ea82]; exact hP
  replace hD : va_D A [(h0, .inr (7, [.ref q1, .int 0, .ref q2, .int 0, .int 0, .int 0, .int 0, .int 0, .int 0, .int 0, .int 0, .int 0, .ref q3, .ref q4, .ref q5, .int 0, .ref q6, .int 0, .int 0, .int 0, .int 0, .ref q7, .int 0, .ref q8, .null, .null, .null, .int 0])), (q1, .inl (cy 1, 515, .inl (fun _ => 0))), (q2, .inl (cy 1, 320, .inl (fun _ => 0))), (q3, .inl (cy 1, 16, .inl a16)), (q4, .inl (cy 1, 61, .inl a77)), (q5, .inl (cy 1, 24, .inl (fun _ => 0))), (q6, .inl (cy 1, 24, .inl (fun _ => 0))), (q7, .inl (cy 1, 16, .inl (fun _ => 0))), (q8, .inl (cy 2, 2, .inl a79)), (q9, .inl (cy 1, 4, .inl a82))] := by rw [ea82]; exact hD
  refine lv_dup hx hb dX7_init_544 rfl ?_
  refine lv_iconst (v := 3) hx hb dX7_init_545 (by decide) ?_
  refine lv_bipush (v := -4) hx hb dX7_init_546 (by decide) ?_
  refine va_iast hx hb hK hP hD hS 9 1 rfl rfl (by unfold vp_in; decide) dX7_init_548 (fun H locs hP hD hS => ?_)
  rw [cl_3] at hP hD
  obtain ⟨a83, ea83⟩ : ∃ z : Nat → Int32, z = upd a82 3 (-4) := ⟨_, rfl⟩
  replace hP : va_P G vwCl [(h0, .inr (7, [.ref q1, .int 0, .ref q2, .int 0, .int 0, .int 0, .int 0, .int 0, .int 0, .int 0, .int 0, .int 0, .ref q3, .ref q4, .ref q5, .int 0, .ref q6, .int 0, .int 0, .int 0, .int 0, .ref q7, .int 0, .ref q8, .null, .null, .null, .int 0])), (q1, .inl (cy 1, 515, .inl (fun _ => 0))), (q2, .inl (cy 1, 320, .inl (fun _ => 0))), (q3, .inl (cy 1, 16, .inl a16)), (q4, .inl (cy 1, 61, .inl a77)), (q5, .inl (cy 1, 24, .inl (fun _ => 0))), (q6, .inl (cy 1, 24, .inl (fun _ => 0))), (q7, .inl (cy 1, 16, .inl (fun _ => 0))), (q8, .inl (cy 2, 2, .inl a79)), (q9, .inl (cy 1, 4, .inl a83))] H := by rw [ea83]; exact hP
  replace hD : va_D A [(h0, .inr (7, [.ref q1, .int 0, .ref q2, .int 0, .int 0, .int 0, .int 0, .int 0, .int 0, .int 0, .int 0, .int 0, .ref q3, .ref q4, .ref q5, .int 0, .ref q6, .int 0, .int 0, .int 0, .int 0, .ref q7, .int 0, .ref q8, .null, .null, .null, .int 0])), (q1, .inl (cy 1, 515, .inl (fun _ => 0))), (q2, .inl (cy 1, 320, .inl (fun _ => 0))), (q3, .inl (cy 1, 16, .inl a16)), (q4, .inl (cy 1, 61, .inl a77)), (q5, .inl (cy 1, 24, .inl (fun _ => 0))), (q6, .inl (cy 1, 24, .inl (fun _ => 0))), (q7, .inl (cy 1, 16, .inl (fun _ => 0))), (q8, .inl (cy 2, 2, .inl a79)), (q9, .inl (cy 1, 4, .inl a83))] := by rw [ea83]; exact hD
  refine va_putF (D := G) (ci := 7) (v := .ref q9) (ty := (.array .int)) (C := RX7) (T := TX7) (N := 28) hx hb hts inkX7 tyX7 tyX7_ok nmX7 hown hK hP hD hS 0 rfl rfl 24 (by decide) (hts _ kw_790) (fun _ h9 => h9) rfl hin rfl (by decide +kernel) rfl rfl (Nat.le_of_ble_eq_true rfl) dX7_init_549 (fun H locs hP hD hS => ?_)
  replace hP : va_P G vwCl [(h0, .inr (7, [.ref q1, .int 0, .ref q2, .int 0, .int 0, .int 0, .int 0, .int 0, .int 0, .int 0, .int 0, .int 0, .ref q3, .ref q4, .ref q5, .int 0, .ref q6, .int 0, .int 0, .int 0, .int 0, .ref q7, .int 0, .ref q8, .ref q9, .null, .null, .int 0])), (q1, .inl (cy 1, 515, .inl (fun _ => 0))), (q2, .inl (cy 1, 320, .inl (fun _ => 0))), (q3, .inl (cy 1, 16, .inl a16)), (q4, .inl (cy 1, 61, .inl a77)), (q5, .inl (cy 1, 24, .inl (fun _ => 0))), (q6, .inl (cy 1, 24, .inl (fun _ => 0))), (q7, .inl (cy 1, 16, .inl (fun _ => 0))), (q8, .inl (cy 2, 2, .inl a79)), (q9, .inl (cy 1, 4, .inl a83))] H := hP
  replace hD : va_D A [(h0, .inr (7, [.ref q1, .int 0, .ref q2, .int 0, .int 0, .int 0, .int 0, .int 0, .int 0, .int 0, .int 0, .int 0, .ref q3, .ref q4, .ref q5, .int 0, .ref q6, .int 0, .int 0, .int 0, .int 0, .ref q7, .int 0, .ref q8, .ref q9, .null, .null, .int 0])), (q1, .inl (cy 1, 515, .inl (fun _ => 0))), (q2, .inl (cy 1, 320, .inl (fun _ => 0))), (q3, .inl (cy 1, 16, .inl a16)), (q4, .inl (cy 1, 61, .inl a77)), (q5, .inl (cy 1, 24, .inl (fun _ => 0))), (q6, .inl (cy 1, 24, .inl (fun _ => 0))), (q7, .inl (cy 1, 16, .inl (fun _ => 0))), (q8, .inl (cy 2, 2, .inl a79)), (q9, .inl (cy 1, 4, .inl a83))] := hD
  refine lv_aload_n hx hb dX7_init_552 rfl (lv_at hl 0 rfl) ?_
  refine lv_iconst (v := 4) hx hb dX7_init_553 (by decide) ?_
  refine s_newa (atype := .int) (ty := .int) rfl hx hb (hts _ kw_153) hK 1 rfl (fun _ h => h) hP hD hS hA (fun _ => rfl) (by decide) (by decide) (Nat.le_of_ble_eq_true rfl) (Nat.le_of_ble_eq_true rfl) (Nat.le_of_ble_eq_true rfl) dX7_init_554 (fun q10 H hP hD hS => ?_)
  refine W.widen (k := 10) (n := 986) (Nat.le_of_ble_eq_true rfl) (Nat.le_of_ble_eq_true rfl) ?_
  replace hP : va_P G vwCl [(h0, .inr (7, [.ref q1, .int 0, .ref q2, .int 0, .int 0, .int 0, .int 0, .int 0, .int 0, .int 0, .int 0, .int 0, .ref q3, .ref q4, .ref q5, .int 0, .ref q6, .int 0, .int 0, .int 0, .int 0, .ref q7, .int 0, .ref q8, .ref q9, .null, .null, .int 0])), (q1, .inl (cy 1, 515, .inl (fun _ => 0))), (q2, .inl (cy 1, 320, .inl (fun _ => 0))), (q3, .inl (cy 1, 16, .inl a16)), (q4, .inl (cy 1, 61, .inl a77)), (q5, .inl (cy 1, 24, .inl (fun _ => 0))), (q6, .inl (cy 1, 24, .inl (fun _ => 0))), (q7, .inl (cy 1, 16, .inl (fun _ => 0))), (q8, .inl (cy 2, 2, .inl a79)), (q9, .inl (cy 1, 4, .inl a83)), (q10, .inl (cy 1, 4, .inl (fun _ => 0)))] H := hP
  replace hD : va_D A [(h0, .inr (7, [.ref q1, .int 0, .ref q2, .int 0, .int 0, .int 0, .int 0, .int 0, .int 0, .int 0, .int 0, .int 0, .ref q3, .ref q4, .ref q5, .int 0, .ref q6, .int 0, .int 0, .int 0, .int 0, .ref q7, .int 0, .ref q8, .ref q9, .null, .null, .int 0])), (q1, .inl (cy 1, 515, .inl (fun _ => 0))), (q2, .inl (cy 1, 320, .inl (fun _ => 0))), (q3, .inl (cy 1, 16, .inl a16)), (q4, .inl (cy 1, 61, .inl a77)), (q5, .inl (cy 1, 24, .inl (fun _ => 0))), (q6, .inl (cy 1, 24, .inl (fun _ => 0))), (q7, .inl (cy 1, 16, .inl (fun _ => 0))), (q8, .inl (cy 2, 2, .inl a79)), (q9, .inl (cy 1, 4, .inl a83)), (q10, .inl (cy 1, 4, .inl (fun _ => 0)))] := hD
  refine lv_dup hx hb dX7_init_556 rfl ?_
  refine lv_iconst (v := 0) hx hb dX7_init_557 (by decide) ?_
  refine lv_iconst (v := 0) hx hb dX7_init_558 (by decide) ?_
  refine va_iast hx hb hK hP hD hS 10 1 rfl rfl (by unfold vp_in; decide) dX7_init_559 (fun H locs hP hD hS => ?_)
  rw [cl_0] at hP hD
  obtain ⟨a84, ea84⟩ : ∃ z : Nat → Int32, z = upd (fun _ => 0) 0 0 := ⟨_, rfl⟩
  replace hP : va_P G vwCl [(h0, .inr (7, [.ref q1, .int 0, .ref q2, .int 0, .int 0, .int 0, .int 0, .int 0, .int 0, .int 0, .int 0, .int 0, .ref q3, .ref q4, .ref q5, .int 0, .ref q6, .int 0, .int 0, .int 0, .int 0, .ref q7, .int 0, .ref q8, .ref q9, .null, .null, .int 0])), (q1, .inl (cy 1, 515, .inl (fun _ => 0))), (q2, .inl (cy 1, 320, .inl (fun _ => 0))), (q3, .inl (cy 1, 16, .inl a16)), (q4, .inl (cy 1, 61, .inl a77)), (q5, .inl (cy 1, 24, .inl (fun _ => 0))), (q6, .inl (cy 1, 24, .inl (fun _ => 0))), (q7, .inl (cy 1, 16, .inl (fun _ => 0))), (q8, .inl (cy 2, 2, .inl a79)), (q9, .inl (cy 1, 4, .inl a83)), (q10, .inl (cy 1, 4, .inl a84))] H := by rw [ea84]; exact hP
  replace hD : va_D A [(h0, .inr (7, [.ref q1, .int 0, .ref q2, .int 0, .int 0, .int 0, .int 0, .int 0, .int 0, .int 0, .int 0, .int 0, .ref q3, .ref q4, .ref q5, .int 0, .ref q6, .int 0, .int 0, .int 0, .int 0, .ref q7, .int 0, .ref q8, .ref q9, .null, .null, .int 0])), (q1, .inl (cy 1, 515, .inl (fun _ => 0))), (q2, .inl (cy 1, 320, .inl (fun _ => 0))), (q3, .inl (cy 1, 16, .inl a16)), (q4, .inl (cy 1, 61, .inl a77)), (q5, .inl (cy 1, 24, .inl (fun _ => 0))), (q6, .inl (cy 1, 24, .inl (fun _ => 0))), (q7, .inl (cy 1, 16, .inl (fun _ => 0))), (q8, .inl (cy 2, 2, .inl a79)), (q9, .inl (cy 1, 4, .inl a83)), (q10, .inl (cy 1, 4, .inl a84))] := by rw [ea84]; exact hD
  refine lv_dup hx hb dX7_init_560 rfl ?_
  refine lv_iconst (v := 1) hx hb dX7_init_561 (by decide) ?_
  refine lv_iconst (v := 0) hx hb dX7_init_562 (by decide) ?_
  refine va_iast hx hb hK hP hD hS 10 1 rfl rfl (by unfold vp_in; decide) dX7_init_563 (fun H locs hP hD hS => ?_)
  rw [cl_1] at hP hD
  obtain ⟨a85, ea85⟩ : ∃ z : Nat → Int32, z = upd a84 1 0 := ⟨_, rfl⟩
  replace hP : va_P G vwCl [(h0, .inr (7, [.ref q1, .int 0, .ref q2, .int 0, .int 0, .int 0, .int 0, .int 0, .int 0, .int 0, .int 0, .int 0, .ref q3, .ref q4, .ref q5, .int 0, .ref q6, .int 0, .int 0, .int 0, .int 0, .ref q7, .int 0, .ref q8, .ref q9, .null, .null, .int 0])), (q1, .inl (cy 1, 515, .inl (fun _ => 0))), (q2, .inl (cy 1, 320, .inl (fun _ => 0))), (q3, .inl (cy 1, 16, .inl a16)), (q4, .inl (cy 1, 61, .inl a77)), (q5, .inl (cy 1, 24, .inl (fun _ => 0))), (q6, .inl (cy 1, 24, .inl (fun _ => 0))), (q7, .inl (cy 1, 16, .inl (fun _ => 0))), (q8, .inl (cy 2, 2, .inl a79)), (q9, .inl (cy 1, 4, .inl a83)), (q10, .inl (cy 1, 4, .inl a85))] H := by rw [ea85]; exact hP
  replace hD : va_D A [(h0, .inr (7, [.ref q1, .int 0, .ref q2, .int 0, .int 0, .int 0, .int 0, .int 0, .int 0, .int 0, .int 0, .int 0, .ref q3, .ref q4, .ref q5, .int 0, .ref q6, .int 0, .int 0, .int 0, .int 0, .ref q7, .int 0, .ref q8, .ref q9, .null, .null, .int 0])), (q1, .inl (cy 1, 515, .inl (fun _ => 0))), (q2, .inl (cy 1, 320, .inl (fun _ => 0))), (q3, .inl (cy 1, 16, .inl a16)), (q4, .inl (cy 1, 61, .inl a77)), (q5, .inl (cy 1, 24, .inl (fun _ => 0))), (q6, .inl (cy 1, 24, .inl (fun _ => 0))), (q7, .inl (cy 1, 16, .inl (fun _ => 0))), (q8, .inl (cy 2, 2, .inl a79)), (q9, .inl (cy 1, 4, .inl a83)), (q10, .inl (cy 1, 4, .inl a85))] := by rw [ea85]; exact hD
  refine lv_dup hx hb dX7_init_564 rfl ?_
  refine lv_iconst (v := 2) hx hb dX7_init_565 (by decide) ?_
  refine lv_iconst (v := 0) hx hb dX7_init_566 (by decide) ?_
  refine va_iast hx hb hK hP hD hS 10 1 rfl rfl (by unfold vp_in; decide) dX7_init_567 (fun H locs hP hD hS => ?_)
  rw [cl_2] at hP hD
  obtain ⟨a86, ea86⟩ : ∃ z : Nat → Int32, z = upd a85 2 0 := ⟨_, rfl⟩
  replace hP : va_P G vwCl [(h0, .inr (7, [.ref q1, .int 0, .ref q2, .int 0, .int 0, .int 0, .int 0, .int 0, .int 0, .int 0, .int 0, .int 0, .ref q3, .ref q4, .ref q5, .int 0, .ref q6, .int 0, .int 0, .int 0, .int 0, .ref q7, .int 0, .ref q8, .ref q9, .null, .null, .int 0])), (q1, .inl (cy 1, 515, .inl (fun _ => 0))), (q2, .inl (cy 1, 320, .inl (fun _ => 0))), (q3, .inl (cy 1, 16, .inl a16)), (q4, .inl (cy 1, 61, .inl a77)), (q5, .inl (cy 1, 24, .inl (fun _ => 0))), (q6, .inl (cy 1, 24, .inl (fun _ => 0))), (q7, .inl (cy 1, 16, .inl (fun _ => 0))), (q8, .inl (cy 2, 2, .inl a79)), (q9, .inl (cy 1, 4, .inl a83)), (q10, .inl (cy 1, 4, .inl a86))] H := by rw [ea86]; exact hP
  replace hD : va_D A [(h0, .inr (7, [.ref q1, .int 0, .ref q2, .int 0, .int 0, .int 0, .int 0, .int 0, .int 0, .int 0, .int 0, .int 0, .ref q3, .ref q4, .ref q5, .int 0, .ref q6, .int 0, .int 0, .int 0, .int 0, .ref q7, .int 0, .ref q8, .ref q9, .null, .null, .int 0])), (q1, .inl (cy 1, 515, .inl (fun _ => 0))), (q2, .inl (cy 1, 320, .inl (fun _ => 0))), (q3, .inl (cy 1, 16, .inl a16)), (q4, .inl (cy 1, 61, .inl a77)), (q5, .inl (cy 1, 24, .inl (fun _ => 0))), (q6, .inl (cy 1, 24, .inl (fun _ => 0))), (q7, .inl (cy 1, 16, .inl (fun _ => 0))), (q8, .inl (cy 2, 2, .inl a79)), (q9, .inl (cy 1, 4, .inl a83)), (q10, .inl (cy 1, 4, .inl a86))] := by rw [ea86]; exact hD
  refine lv_dup hx hb dX7_init_568 rfl ?_
  refine lv_iconst (v := 3) hx hb dX7_init_569 (by decide) ?_
  refine lv_iconst (v := 0) hx hb dX7_init_570 (by decide) ?_
  refine va_iast hx hb hK hP hD hS 10 1 rfl rfl (by unfold vp_in; decide) dX7_init_571 (fun H locs hP hD hS => ?_)
  rw [cl_3] at hP hD
  obtain ⟨a87, ea87⟩ : ∃ z : Nat → Int32, z = upd a86 3 0 := ⟨_, rfl⟩
  replace hP : va_P G vwCl [(h0, .inr (7, [.ref q1, .int 0, .ref q2, .int 0, .int 0, .int 0, .int 0, .int 0, .int 0, .int 0, .int 0, .int 0, .ref q3, .ref q4, .ref q5, .int 0, .ref q6, .int 0, .int 0, .int 0, .int 0, .ref q7, .int 0, .ref q8, .ref q9, .null, .null, .int 0])), (q1, .inl (cy 1, 515, .inl (fun _ => 0))), (q2, .inl (cy 1, 320, .inl (fun _ => 0))), (q3, .inl (cy 1, 16, .inl a16)), (q4, .inl (cy 1, 61, .inl a77)), (q5, .inl (cy 1, 24, .inl (fun _ => 0))), (q6, .inl (cy 1, 24, .inl (fun _ => 0))), (q7, .inl (cy 1, 16, .inl (fun _ => 0))), (q8, .inl (cy 2, 2, .inl a79)), (q9, .inl (cy 1, 4, .inl a83)), (q10, .inl (cy 1, 4, .inl a87))] H := by rw [ea87]; exact hP
  replace hD : va_D A [(h0, .inr (7, [.ref q1, .int 0, .ref q2, .int 0, .int 0, .int 0, .int 0, .int 0, .int 0, .int 0, .int 0, .int 0, .ref q3, .ref q4, .ref q5, .int 0, .ref q6, .int 0, .int 0, .int 0, .int 0, .ref q7, .int 0, .ref q8, .ref q9, .null, .null, .int 0])), (q1, .inl (cy 1, 515, .inl (fun _ => 0))), (q2, .inl (cy 1, 320, .inl (fun _ => 0))), (q3, .inl (cy 1, 16, .inl a16)), (q4, .inl (cy 1, 61, .inl a77)), (q5, .inl (cy 1, 24, .inl (fun _ => 0))), (q6, .inl (cy 1, 24, .inl (fun _ => 0))), (q7, .inl (cy 1, 16, .inl (fun _ => 0))), (q8, .inl (cy 2, 2, .inl a79)), (q9, .inl (cy 1, 4, .inl a83)), (q10, .inl (cy 1, 4, .inl a87))] := by rw [ea87]; exact hD
  refine va_putF (D := G) (ci := 7) (v := .ref q10) (ty := (.array .int)) (C := RX7) (T := TX7) (N := 28) hx hb hts inkX7 tyX7 tyX7_ok nmX7 hown hK hP hD hS 0 rfl rfl 25 (by decide) (hts _ kw_791) (fun _ h9 => h9) rfl hin rfl (by decide +kernel) rfl rfl (Nat.le_of_ble_eq_true rfl) dX7_init_572 (fun H locs hP hD hS => ?_)
  replace hP : va_P G vwCl [(h0, .inr (7, [.ref q1, .int 0, .ref q2, .int 0, .int 0, .int 0, .int 0, .int 0, .int 0, .int 0, .int 0, .int 0, .ref q3, .ref q4, .ref q5, .int 0, .ref q6, .int 0, .int 0, .int 0, .int 0, .ref q7, .int 0, .ref q8, .ref q9, .ref q10, .null, .int 0])), (q1, .inl (cy 1, 515, .inl (fun _ => 0))), (q2, .inl (cy 1, 320, .inl (fun _ => 0))), (q3, .inl (cy 1, 16, .inl a16)), (q4, .inl (cy 1, 61, .inl a77)), (q5, .inl (cy 1, 24, .inl (fun _ => 0))), (q6, .inl (cy 1, 24, .inl (fun _ => 0))), (q7, .inl (cy 1, 16, .inl (fun _ => 0))), (q8, .inl (cy 2, 2, .inl a79)), (q9, .inl (cy 1, 4, .inl a83)), (q10, .inl (cy 1, 4, .inl a87))] H := hP
  replace hD : va_D A [(h0, .inr (7, [.ref q1, .int 0, .ref q2, .int 0, .int 0, .int 0, .int 0, .int 0, .int 0, .int 0, .int 0, .int 0, .ref q3, .ref q4, .ref q5, .int 0, .ref q6, .int 0, .int 0, .int 0, .int 0, .ref q7, .int 0, .ref q8, .ref q9, .ref q10, .null, .int 0])), (q1, .inl (cy 1, 515, .inl (fun _ => 0))), (q2, .inl (cy 1, 320, .inl (fun _ => 0))), (q3, .inl (cy 1, 16, .inl a16)), (q4, .inl (cy 1, 61, .inl a77)), (q5, .inl (cy 1, 24, .inl (fun _ => 0))), (q6, .inl (cy 1, 24, .inl (fun _ => 0))), (q7, .inl (cy 1, 16, .inl (fun _ => 0))), (q8, .inl (cy 2, 2, .inl a79)), (q9, .inl (cy 1, 4, .inl a83)), (q10, .inl (cy 1, 4, .inl a87))] := hD
  refine lv_aload_n hx hb dX7_init_575 rfl (lv_at hl 0 rfl) ?_
  refine lv_sipush (v := 160) hx hb dX7_init_576 (by decide) ?_
  refine s_newa (atype := .int) (ty := .int) rfl hx hb (hts _ kw_153) hK 1 rfl (fun _ h => h) hP hD hS hA (fun _ => rfl) (by decide) (by decide) (Nat.le_of_ble_eq_true rfl) (Nat.le_of_ble_eq_true rfl) (Nat.le_of_ble_eq_true rfl) dX7_init_579 (fun q11 H hP hD hS => ?_)
  refine W.widen (k := 11) (n := 1146) (Nat.le_of_ble_eq_true rfl) (Nat.le_of_ble_eq_true rfl) ?_
  replace hP : va_P G vwCl [(h0, .inr (7, [.ref q1, .int 0, .ref q2, .int 0, .int 0, .int 0, .int 0, .int 0, .int 0, .int 0, .int 0, .int 0, .ref q3, .ref q4, .ref q5, .int 0, .ref q6, .int 0, .int 0, .int 0, .int 0, .ref q7, .int 0, .ref q8, .ref q9, .ref q10, .null, .int 0])), (q1, .inl (cy 1, 515, .inl (fun _ => 0))), (q2, .inl (cy 1, 320, .inl (fun _ => 0))), (q3, .inl (cy 1, 16, .inl a16)), (q4, .inl (cy 1, 61, .inl a77)), (q5, .inl (cy 1, 24, .inl (fun _ => 0))), (q6, .inl (cy 1, 24, .inl (fun _ => 0))), (q7, .inl (cy 1, 16, .inl (fun _ => 0))), (q8, .inl (cy 2, 2, .inl a79)), (q9, .inl (cy 1, 4, .inl a83)), (q10, .inl (cy 1, 4, .inl a87)), (q11, .inl (cy 1, 160, .inl (fun _ => 0)))] H := hP
  replace hD : va_D A [(h0, .inr (7, [.ref q1, .int 0, .ref q2, .int 0, .int 0, .int 0, .int 0, .int 0, .int 0, .int 0, .int 0, .int 0, .ref q3, .ref q4, .ref q5, .int 0, .ref q6, .int 0, .int 0, .int 0, .int 0, .ref q7, .int 0, .ref q8, .ref q9, .ref q10, .null, .int 0])), (q1, .inl (cy 1, 515, .inl (fun _ => 0))), (q2, .inl (cy 1, 320, .inl (fun _ => 0))), (q3, .inl (cy 1, 16, .inl a16)), (q4, .inl (cy 1, 61, .inl a77)), (q5, .inl (cy 1, 24, .inl (fun _ => 0))), (q6, .inl (cy 1, 24, .inl (fun _ => 0))), (q7, .inl (cy 1, 16, .inl (fun _ => 0))), (q8, .inl (cy 2, 2, .inl a79)), (q9, .inl (cy 1, 4, .inl a83)), (q10, .inl (cy 1, 4, .inl a87)), (q11, .inl (cy 1, 160, .inl (fun _ => 0)))] := hD
  refine va_putF (D := G) (ci := 7) (v := .ref q11) (ty := (.array .int)) (C := RX7) (T := TX7) (N := 28) hx hb hts inkX7 tyX7 tyX7_ok nmX7 hown hK hP hD hS 0 rfl rfl 26 (by decide) (hts _ kw_792) (fun _ h9 => h9) rfl hin rfl (by decide +kernel) rfl rfl (Nat.le_of_ble_eq_true rfl) dX7_init_581 (fun H locs hP hD hS => ?_)
  replace hP : va_P G vwCl [(h0, .inr (7, [.ref q1, .int 0, .ref q2, .int 0, .int 0, .int 0, .int 0, .int 0, .int 0, .int 0, .int 0, .int 0, .ref q3, .ref q4, .ref q5, .int 0, .ref q6, .int 0, .int 0, .int 0, .int 0, .ref q7, .int 0, .ref q8, .ref q9, .ref q10, .ref q11, .int 0])), (q1, .inl (cy 1, 515, .inl (fun _ => 0))), (q2, .inl (cy 1, 320, .inl (fun _ => 0))), (q3, .inl (cy 1, 16, .inl a16)), (q4, .inl (cy 1, 61, .inl a77)), (q5, .inl (cy 1, 24, .inl (fun _ => 0))), (q6, .inl (cy 1, 24, .inl (fun _ => 0))), (q7, .inl (cy 1, 16, .inl (fun _ => 0))), (q8, .inl (cy 2, 2, .inl a79)), (q9, .inl (cy 1, 4, .inl a83)), (q10, .inl (cy 1, 4, .inl a87)), (q11, .inl (cy 1, 160, .inl (fun _ => 0)))] H := hP
  replace hD : va_D A [(h0, .inr (7, [.ref q1, .int 0, .ref q2, .int 0, .int 0, .int 0, .int 0, .int 0, .int 0, .int 0, .int 0, .int 0, .ref q3, .ref q4, .ref q5, .int 0, .ref q6, .int 0, .int 0, .int 0, .int 0, .ref q7, .int 0, .ref q8, .ref q9, .ref q10, .ref q11, .int 0])), (q1, .inl (cy 1, 515, .inl (fun _ => 0))), (q2, .inl (cy 1, 320, .inl (fun _ => 0))), (q3, .inl (cy 1, 16, .inl a16)), (q4, .inl (cy 1, 61, .inl a77)), (q5, .inl (cy 1, 24, .inl (fun _ => 0))), (q6, .inl (cy 1, 24, .inl (fun _ => 0))), (q7, .inl (cy 1, 16, .inl (fun _ => 0))), (q8, .inl (cy 2, 2, .inl a79)), (q9, .inl (cy 1, 4, .inl a83)), (q10, .inl (cy 1, 4, .inl a87)), (q11, .inl (cy 1, 160, .inl (fun _ => 0)))] := hD
  subst ea87 ea86 ea85 ea84 ea83 ea82 ea81 ea80 ea79 ea78 ea77 ea76 ea75 ea74 ea73 ea72 ea71 ea70 ea69 ea68 ea67 ea66 ea65 ea64 ea63 ea62 ea61 ea60 ea59 ea58 ea57 ea56 ea55 ea54 ea53 ea52 ea51 ea50 ea49 ea48 ea47 ea46 ea45 ea44 ea43 ea42 ea41 ea40 ea39 ea38 ea37 ea36 ea35 ea34 ea33 ea32 ea31 ea30 ea29 ea28 ea27 ea26 ea25 ea24 ea23 ea22 ea21 ea20 ea19 ea18 ea17 ea16 ea15 ea14 ea13 ea12 ea11 ea10 ea9 ea8 ea7 ea6 ea5 ea4 ea3 ea2 ea1
  exact W.vret hx hb hr (fun t ht hW => ⟨⟨(fun k => [h0, q1, q2, q3, q4, q5, q6, q7, q8, q9, q10, q11].getD k 0), rfl, rfl, by rw [ht]; exact ⟨hP, hD⟩⟩, hS.F ht⟩) hS.2.2 dX7_init_584 hlk
