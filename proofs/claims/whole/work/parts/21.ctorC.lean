/-! constructors: explicit cells, laid by ctor.py -/
def s_Pk (G : va_G) (cy : Nat → ClassId) (ex : State → Prop) (av : List Value) (sz : Nat) (w : va_W) : Array Value → State → Prop :=
  va_Pc av (fun U => U.heap.size = sz ∧ va_P G vwCl w U.heap ∧ va_K G vwCl (s_ty cy) U ∧ va_D (fun _ => True) w ∧ ex U)
theorem s_Pk_blind {G : va_G} {cy : Nat → ClassId} {av : List Value} {sz : Nat} {w : va_W} : FrameBlind (s_Pk G cy (fun _ => True) av sz w) := by
  intro a U g mk q
  obtain ⟨q0, q1, qP, qK, qD, -⟩ := q
  exact ⟨q0, q1, qP, va_K.moved (u := U) (U := U.calling g mk a) (Vm.Alike.refl U.vm) qK, qD, trivial⟩
def s_N6 (U : State) : Prop := va_Nw (.methodLinkNest "SlidingRanks" 9 ({ cls := "SlidingRanks$Tape", name := "<init>", desc := "()V" } : Jvm.MethodName) "SlidingRanks") U ∧ va_Nw (.methodLinkNest "SlidingRanks" 18 ({ cls := "SlidingRanks$Teller", name := "<init>", desc := "()V" } : Jvm.MethodName) "SlidingRanks") U ∧ va_Nw (.methodLinkNest "SlidingRanks" 41 ({ cls := "SlidingRanks$Words", name := "<init>", desc := "()V" } : Jvm.MethodName) "SlidingRanks") U ∧ va_AO "SlidingRanks$Series" U ∧ va_AO "SlidingRanks$Sheet" U
def s_ser0 : Nat → Int32 := fun i => match i with
  | 2 => 5
  | 3 => 1
  | 4 => 1
  | 5 => 2
  | _ => 0
def s_tel0 : Nat → Int32 := fun i => match i with
  | 1 => 12
  | 8 => -4
  | _ => 0
def s_C0 : Sg := fun p => match p with
  | 3 => s_tel0
  | 4 => s_ser0
  | 6 => s_ser0
  | 13 => s_ser0
  | 15 => s_ser0
  | _ => fun _ => 0
def s_M0 : Sg := fun p => match p with
  | 3 => (upd (upd (upd (upd (upd (upd (upd (upd (upd (upd (upd (upd (upd (upd (upd (upd (fun _ => 0) 0 0) 1 5) 2 9) 3 13) 4 17) 5 21) 6 24) 7 27) 8 31) 9 35) 10 39) 11 43) 12 48) 13 53) 14 57) 15 61)
  | 4 => (upd (upd (upd (upd (upd (upd (upd (upd (upd (upd (upd (upd (upd (upd (upd (upd (upd (upd (upd (upd (upd (upd (upd (upd (upd (upd (upd (upd (upd (upd (upd (upd (upd (upd (upd (upd (upd (upd (upd (upd (upd (upd (upd (upd (upd (upd (upd (upd (upd (upd (upd (upd (upd (upd (upd (upd (upd (upd (upd (upd (upd (fun _ => 0) 0 119) 1 105) 2 100) 3 116) 4 104) 5 110) 6 101) 7 101) 8 100) 9 112) 10 97) 11 114) 12 116) 13 114) 14 117) 15 108) 16 101) 17 102) 18 111) 19 114) 20 109) 21 112) 22 117) 23 116) 24 108) 25 111) 26 119) 27 104) 28 105) 29 103) 30 104) 31 110) 32 101) 33 97) 34 114) 35 109) 36 101) 37 97) 38 110) 39 108) 40 105) 41 110) 42 101) 43 112) 44 108) 45 97) 46 105) 47 110) 48 99) 49 101) 50 110) 51 116) 52 115) 53 115) 54 105) 55 103) 56 110) 57 109) 58 105) 59 115) 60 115)
  | 8 => (upd (upd (fun _ => 0) 0 (vp_nar .boolean 0)) 1 (vp_nar .boolean 0))
  | 9 => (upd (upd (upd (upd (fun _ => 0) 0 (-4)) 1 (-4)) 2 (-4)) 3 (-4))
  | 10 => (upd (upd (upd (upd (fun _ => 0) 0 0) 1 0) 2 0) 3 0)
  | _ => fun _ => 0
section SNEW
variable {p : Program} {l : Launch} {e : Env} {R : Room} {s : State} {m : MethodId} {args : Array Value} {below : List Frame} {meth : Method} {c : Code} {H : Heap} {locs : List Loc} {cells slots : Nat} {Q : State → Prop}
variable {cc : ByteArray} {pc : Nat} {ls : Array Slot} {rest : List Value} {G : va_G} {A : Nat → Prop} {cy : Nat → ClassId} {ws : va_W} {H0 : Heap}
theorem s_newa {atype : ArrayType} {ty : FieldType} (hty : newarray.typeOf atype = ty) (hx : p.tables.exec = Jvm.exec) (hb : c.code = cc) (harr : (Cond.arrayClass (newarray.typeOf atype)).before args s = true) (hK : va_K G vwCl (s_ty cy) s) (t0 : Nat) {cA0 : ClassId} (ht0 : (s_ty cy)[t0]? = some (cA0, ty)) (hra : ∀ z : ClassId, va_RA s z ty → s.vm.findClass ("[" ++ ty.toString) = some z) (hP : va_P G vwCl ws H) (hD : va_D A ws) (hS : va_S A H0 H locs) (hA : ∀ q, H0.size ≤ q → A q)
    {n : Int32} {N' : Nat} (ha : ∀ cA : ClassId, vp_cell cA (N', .inl (fun _ => 0)) = arrV cA N' (fun _ => defaultValue ty)) (hn : ¬ n < 0) (hN : n.toNatClampNeg = N') (hbytes : N' * componentBytes ty ≤ 536870912) (hcells : cells + 1 ≤ R.cells) (hslots : slots + N' ≤ R.slots) (hdg : decode cc pc = .ok (.newarray atype, 2))
    (kk : ∀ (q : Nat) (H1 : Heap), va_P G vwCl (ws ++ [(q, .inl (cA0, N', .inl (fun _ => 0)))]) H1 → va_D A (ws ++ [(q, .inl (cA0, N', .inl (fun _ => 0)))]) → va_S A H0 H1 locs → W p l e R s m args below meth c H1 locs (cells + 1) (slots + N') Q (F0 m (pc + 2) ls (.ref q :: rest))) : W p l e R s m args below meth c H locs cells slots Q (F0 m pc ls (.int n :: rest)) := by
  refine va_newa hx hb harr hty hK hP hD hS hA ha hn hN hbytes hcells hslots hdg (fun q cA H1 hK1 hP hD hS => ?_)
  have e : cA = cA0 := by
    have h1 := hra _ (hK1.2 5 (cA, ty) rfl).2
    have h2 := hra _ (hK.2 t0 _ ht0).2
    exact Option.some.inj (h1.symm.trans h2)
  subst e
  exact kk q H1 hP hD hS
theorem s_newq {own C : String} {index : Nat} (hx : p.tables.exec = Jvm.exec) (hb : c.code = cc) (hown : s.vm.findClass own = some m.cls) (hclink : (Cond.classLink own index C).before args s = true) (hover : va_AO C s) (hK : va_K G vwCl (s_ty cy) s) (t0 : Nat) {cA0 : ClassId} (ht0 : (s_ty cy)[t0]? = some (cA0, .object C)) (hP : va_P G vwCl ws H) (hD : va_D A ws) (hS : va_S A H0 H locs) (hA : ∀ q, H0.size ≤ q → A q)
    {n : Int32} {N' : Nat} (hn : ¬ n < 0) (hN : n.toNatClampNeg = N') (hbytes : N' * 4 ≤ 536870912) (hcells : cells + 1 ≤ R.cells) (hslots : slots + N' ≤ R.slots) (hdg : decode cc pc = .ok (.anewarray index, 3))
    (kk : ∀ (q : Nat) (H1 : Heap), va_P G vwCl (ws ++ [(q, .inl (cA0, N', .inr (.inr (.inr (.inr (fun _ => none))))))]) H1 → va_D A (ws ++ [(q, .inl (cA0, N', .inr (.inr (.inr (.inr (fun _ => none))))))]) → va_S A H0 H1 locs → W p l e R s m args below meth c H1 locs (cells + 1) (slots + N') Q (F0 m (pc + 3) ls (.ref q :: rest))) : W p l e R s m args below meth c H locs cells slots Q (F0 m pc ls (.int n :: rest)) := by
  refine va_newq hx hb hown hclink hover hK hP hD hS hA hn hN hbytes hcells hslots hdg (fun q cA H1 hK1 hP hD hS => ?_)
  have e : cA = cA0 := by
    obtain ⟨_, _, _, _, _, h1⟩ := (hK1.2 5 (cA, .object C) rfl).2
    obtain ⟨_, _, _, _, _, h2⟩ := (hK.2 t0 _ ht0).2
    exact Option.some.inj (h1.symm.trans h2)
  subst e
  exact kk q H1 hP hD hS
end SNEW
set_option maxRecDepth 100000 in
set_option maxHeartbeats 8000000 in
theorem kcK_reset {l : Launch} {G : va_G} {cy : Nat → ClassId} (sz : Nat) (h0 h1 : Nat) (v1 v2 v3 v4 v5 v6 v7 : Int32) : Met l yX1_reset (kW yX1_reset cX1_reset 1 none) ({ frames := 0, cells := 0, slots := 0, locals := 0 } : Room) (s_Pk G cy (fun _ => True) [.ref h0] sz [(h0, .inr (1, [.ref h1, .int v1, .int v2, .int v3, .int v4, .int v5, .int v6, .int v7]))]) (va_Qv (fun (_ : Unit) => True) (fun u t => va_P G vwCl [(h0, .inr (1, [.ref h1, .int 0, .int 5, .int 1, .int 1, .int 2, .int 0, .int 0]))] t.heap ∧ va_D (va_A [(h0, .inr (1, [.ref h1, .int v1, .int v2, .int v3, .int v4, .int v5, .int v6, .int v7]))] sz) [(h0, .inr (1, [.ref h1, .int 0, .int 5, .int 1, .int 1, .int 2, .int 0, .int 0]))]) (va_A [(h0, .inr (1, [.ref h1, .int v1, .int v2, .int v3, .int v4, .int v5, .int v6, .int v7]))] sz)) 0 0 (va_A [(h0, .inr (1, [.ref h1, .int v1, .int v2, .int v3, .int v4, .int v5, .int v6, .int v7]))] sz) := by
  refine Met.ofW (cc := cX1_reset) (maxL := 1) (ret := none) (by decide) rfl ?_
  intro p e s m args below meth c s₁ B hml hv
  obtain ⟨rfl, hsz, hP, hK, hD0, -⟩ := hv
  have hx := B.exec
  have hb := B.bytes
  have hr := B.returns
  have hts0 := atoms_spec (ws := kW yX1_reset cX1_reset 1 none) B.pre
  have hts : ∀ w ∈ kwL, w.before [.ref h0].toArray s = true := fun w h => hts0 w (List.mem_cons_of_mem _ h)
  have hown : s.vm.findClass RX1 = some m.cls := findClass_of_methodNamed B.named
  have hlk := B.notSynchronized
  have hin : meth.name = "reset" := (name_of_methodNamed B.named B.method).1
  subst hsz
  have hD := hD0.self (sz := s.heap.size)
  generalize hAe : va_A [(h0, .inr (1, [.ref h1, .int v1, .int v2, .int v3, .int v4, .int v5, .int v6, .int v7]))] s.heap.size = A at hD ⊢
  have hA : ∀ q : Nat, s.heap.size ≤ q → A q := fun q h => by rw [← hAe]; exact Or.inr h
  have hS : va_S A s.heap s.heap [] := va_S.rf
  replace hP : va_P G vwCl [(h0, .inr (1, [.ref h1, .int v1, .int v2, .int v3, .int v4, .int v5, .int v6, .int v7]))] s.heap := hP
  have hl := lv_entry ([.ref h0]) (n := 1) (Nat.le_of_ble_eq_true rfl)
  rw [lg_entry_eq]
  generalize (lg_sl ([.ref h0]) ++ List.replicate (1 - (lg_sl ([.ref h0])).length) Slot.unset).toArray = ls at hl ⊢
  replace hl : lv_has ls 1 [(0, .ref h0)] := hl
  have hSt := hS
  refine lv_aload_n hx hb dX1_reset_0 rfl (lv_at hl 0 rfl) ?_
  refine lv_iconst (v := 0) hx hb dX1_reset_1 (by decide) ?_
  refine va_put (D := G) (ci := 1) (v := .int 0) (ty := .int) (C := RX1) (T := TX1) (N := 8) hx hb hts inkX1 tyX1 tyX1_ok nmX1 hown hK hP hD hS 0 rfl rfl 1 (by decide) (hts _ kw_110) (fun _ h9 => h9) rfl (by decide +kernel) rfl rfl (Nat.le_of_ble_eq_true rfl) dX1_reset_2 (fun H locs hP hD hS => ?_)
  replace hP : va_P G vwCl [(h0, .inr (1, [.ref h1, .int 0, .int v2, .int v3, .int v4, .int v5, .int v6, .int v7]))] H := hP
  replace hD : va_D A [(h0, .inr (1, [.ref h1, .int 0, .int v2, .int v3, .int v4, .int v5, .int v6, .int v7]))] := hD
  refine lv_aload_n hx hb dX1_reset_5 rfl (lv_at hl 0 rfl) ?_
  refine lv_iconst (v := 5) hx hb dX1_reset_6 (by decide) ?_
  refine va_put (D := G) (ci := 1) (v := .int 5) (ty := .int) (C := RX1) (T := TX1) (N := 8) hx hb hts inkX1 tyX1 tyX1_ok nmX1 hown hK hP hD hS 0 rfl rfl 2 (by decide) (hts _ kw_113) (fun _ h9 => h9) rfl (by decide +kernel) rfl rfl (Nat.le_of_ble_eq_true rfl) dX1_reset_7 (fun H locs hP hD hS => ?_)
  replace hP : va_P G vwCl [(h0, .inr (1, [.ref h1, .int 0, .int 5, .int v3, .int v4, .int v5, .int v6, .int v7]))] H := hP
  replace hD : va_D A [(h0, .inr (1, [.ref h1, .int 0, .int 5, .int v3, .int v4, .int v5, .int v6, .int v7]))] := hD
  refine lv_aload_n hx hb dX1_reset_10 rfl (lv_at hl 0 rfl) ?_
  refine lv_iconst (v := 1) hx hb dX1_reset_11 (by decide) ?_
  refine va_put (D := G) (ci := 1) (v := .int 1) (ty := .int) (C := RX1) (T := TX1) (N := 8) hx hb hts inkX1 tyX1 tyX1_ok nmX1 hown hK hP hD hS 0 rfl rfl 3 (by decide) (hts _ kw_117) (fun _ h9 => h9) rfl (by decide +kernel) rfl rfl (Nat.le_of_ble_eq_true rfl) dX1_reset_12 (fun H locs hP hD hS => ?_)
  replace hP : va_P G vwCl [(h0, .inr (1, [.ref h1, .int 0, .int 5, .int 1, .int v4, .int v5, .int v6, .int v7]))] H := hP
  replace hD : va_D A [(h0, .inr (1, [.ref h1, .int 0, .int 5, .int 1, .int v4, .int v5, .int v6, .int v7]))] := hD
  refine lv_aload_n hx hb dX1_reset_15 rfl (lv_at hl 0 rfl) ?_
  refine lv_iconst (v := 1) hx hb dX1_reset_16 (by decide) ?_
  refine va_put (D := G) (ci := 1) (v := .int 1) (ty := .int) (C := RX1) (T := TX1) (N := 8) hx hb hts inkX1 tyX1 tyX1_ok nmX1 hown hK hP hD hS 0 rfl rfl 4 (by decide) (hts _ kw_121) (fun _ h9 => h9) rfl (by decide +kernel) rfl rfl (Nat.le_of_ble_eq_true rfl) dX1_reset_17 (fun H locs hP hD hS => ?_)
  replace hP : va_P G vwCl [(h0, .inr (1, [.ref h1, .int 0, .int 5, .int 1, .int 1, .int v5, .int v6, .int v7]))] H := hP
  replace hD : va_D A [(h0, .inr (1, [.ref h1, .int 0, .int 5, .int 1, .int 1, .int v5, .int v6, .int v7]))] := hD
  refine lv_aload_n hx hb dX1_reset_20 rfl (lv_at hl 0 rfl) ?_
  refine lv_iconst (v := 2) hx hb dX1_reset_21 (by decide) ?_
  refine va_put (D := G) (ci := 1) (v := .int 2) (ty := .int) (C := RX1) (T := TX1) (N := 8) hx hb hts inkX1 tyX1 tyX1_ok nmX1 hown hK hP hD hS 0 rfl rfl 5 (by decide) (hts _ kw_125) (fun _ h9 => h9) rfl (by decide +kernel) rfl rfl (Nat.le_of_ble_eq_true rfl) dX1_reset_22 (fun H locs hP hD hS => ?_)
  replace hP : va_P G vwCl [(h0, .inr (1, [.ref h1, .int 0, .int 5, .int 1, .int 1, .int 2, .int v6, .int v7]))] H := hP
  replace hD : va_D A [(h0, .inr (1, [.ref h1, .int 0, .int 5, .int 1, .int 1, .int 2, .int v6, .int v7]))] := hD
  refine lv_aload_n hx hb dX1_reset_25 rfl (lv_at hl 0 rfl) ?_
  refine lv_iconst (v := 0) hx hb dX1_reset_26 (by decide) ?_
  refine va_put (D := G) (ci := 1) (v := .int 0) (ty := .int) (C := RX1) (T := TX1) (N := 8) hx hb hts inkX1 tyX1 tyX1_ok nmX1 hown hK hP hD hS 0 rfl rfl 6 (by decide) (hts _ kw_129) (fun _ h9 => h9) rfl (by decide +kernel) rfl rfl (Nat.le_of_ble_eq_true rfl) dX1_reset_27 (fun H locs hP hD hS => ?_)
  replace hP : va_P G vwCl [(h0, .inr (1, [.ref h1, .int 0, .int 5, .int 1, .int 1, .int 2, .int 0, .int v7]))] H := hP
  replace hD : va_D A [(h0, .inr (1, [.ref h1, .int 0, .int 5, .int 1, .int 1, .int 2, .int 0, .int v7]))] := hD
  refine lv_aload_n hx hb dX1_reset_30 rfl (lv_at hl 0 rfl) ?_
  refine lv_iconst (v := 0) hx hb dX1_reset_31 (by decide) ?_
  refine va_put (D := G) (ci := 1) (v := .int 0) (ty := .int) (C := RX1) (T := TX1) (N := 8) hx hb hts inkX1 tyX1 tyX1_ok nmX1 hown hK hP hD hS 0 rfl rfl 7 (by decide) (hts _ kw_133) (fun _ h9 => h9) rfl (by decide +kernel) rfl rfl (Nat.le_of_ble_eq_true rfl) dX1_reset_32 (fun H locs hP hD hS => ?_)
  replace hP : va_P G vwCl [(h0, .inr (1, [.ref h1, .int 0, .int 5, .int 1, .int 1, .int 2, .int 0, .int 0]))] H := hP
  replace hD : va_D A [(h0, .inr (1, [.ref h1, .int 0, .int 5, .int 1, .int 1, .int 2, .int 0, .int 0]))] := hD
  exact W.vret hx hb hr (fun t ht hW => ⟨⟨(), rfl, trivial, by rw [ht]; exact hP, hD⟩, hS.F ht⟩) hS.2.2 dX1_reset_35 hlk
set_option maxRecDepth 100000 in
set_option maxHeartbeats 8000000 in
theorem kcK_Series {l : Launch} {G : va_G} {cy : Nat → ClassId} (sz : Nat) (h0 : Nat) : Met l yX1_init (kW yX1_init cX1_init 1 none) ({ frames := 1, cells := 1, slots := 96, locals := 20 } : Room) (s_Pk G cy (fun _ => True) [.ref h0] sz [(h0, .inr (1, [.null, .int 0, .int 0, .int 0, .int 0, .int 0, .int 0, .int 0]))]) (va_Qv (fun (_ : Nat) => True) (fun u t => va_P G vwCl [(h0, .inr (1, [.ref u, .int 0, .int 5, .int 1, .int 1, .int 2, .int 0, .int 0])), (u, .inl (cy 1, 96, .inl (fun _ => 0)))] t.heap ∧ va_D (va_A [(h0, .inr (1, [.null, .int 0, .int 0, .int 0, .int 0, .int 0, .int 0, .int 0]))] sz) [(h0, .inr (1, [.ref u, .int 0, .int 5, .int 1, .int 1, .int 2, .int 0, .int 0])), (u, .inl (cy 1, 96, .inl (fun _ => 0)))]) (va_A [(h0, .inr (1, [.null, .int 0, .int 0, .int 0, .int 0, .int 0, .int 0, .int 0]))] sz)) 1 96 (va_A [(h0, .inr (1, [.null, .int 0, .int 0, .int 0, .int 0, .int 0, .int 0, .int 0]))] sz) := by
  refine Met.ofW (cc := cX1_init) (maxL := 1) (ret := none) (by decide) rfl ?_
  intro p e s m args below meth c s₁ B hml hv
  obtain ⟨rfl, hsz, hP, hK, hD0, -⟩ := hv
  have hx := B.exec
  have hb := B.bytes
  have hr := B.returns
  have hts0 := atoms_spec (ws := kW yX1_init cX1_init 1 none) B.pre
  have hts : ∀ w ∈ kwL, w.before [.ref h0].toArray s = true := fun w h => hts0 w (List.mem_cons_of_mem _ h)
  have hown : s.vm.findClass RX1 = some m.cls := findClass_of_methodNamed B.named
  have hlk := B.notSynchronized
  have hin : meth.name = "<init>" := (name_of_methodNamed B.named B.method).1
  subst hsz
  have hD := hD0.self (sz := s.heap.size)
  generalize hAe : va_A [(h0, .inr (1, [.null, .int 0, .int 0, .int 0, .int 0, .int 0, .int 0, .int 0]))] s.heap.size = A at hD ⊢
  have hA : ∀ q : Nat, s.heap.size ≤ q → A q := fun q h => by rw [← hAe]; exact Or.inr h
  have hS : va_S A s.heap s.heap [] := va_S.rf
  replace hP : va_P G vwCl [(h0, .inr (1, [.null, .int 0, .int 0, .int 0, .int 0, .int 0, .int 0, .int 0]))] s.heap := hP
  have hl := lv_entry ([.ref h0]) (n := 1) (Nat.le_of_ble_eq_true rfl)
  rw [lg_entry_eq]
  generalize (lg_sl ([.ref h0]) ++ List.replicate (1 - (lg_sl ([.ref h0])).length) Slot.unset).toArray = ls at hl ⊢
  replace hl : lv_has ls 1 [(0, .ref h0)] := hl
  have hSt := hS
  refine lv_aload_n hx hb dX1_init_0 rfl (lv_at hl 0 rfl) ?_
  refine W.objInit hx hb hown (hts _ kw_104) (hts _ kw_75) (hts _ kw_76) rfl (by rw [hml]; exact hl.1) rfl dX1_init_1 (Nat.le_of_ble_eq_true rfl) (Nat.le_of_ble_eq_true rfl) ?_
  refine W.eq (g2 := F0 m 4 ls []) rfl ?_
  refine lv_aload_n hx hb dX1_init_4 rfl (lv_at hl 0 rfl) ?_
  refine lv_bipush (v := 96) hx hb dX1_init_5 (by decide) ?_
  refine s_newa (N' := 96) (atype := .int) (ty := .int) rfl hx hb (hts _ kw_153) hK 1 rfl (fun _ h => h) hP hD hS hA (fun _ => rfl) (by decide) (by decide) (Nat.le_of_ble_eq_true rfl) (Nat.le_of_ble_eq_true rfl) (Nat.le_of_ble_eq_true rfl) dX1_init_7 (fun q1 H hP hD hS => ?_)
  refine W.widen (k := 1) (n := 96) (Nat.le_of_ble_eq_true rfl) (Nat.le_of_ble_eq_true rfl) ?_
  replace hP : va_P G vwCl [(h0, .inr (1, [.null, .int 0, .int 0, .int 0, .int 0, .int 0, .int 0, .int 0])), (q1, .inl (cy 1, 96, .inl (fun _ => 0)))] H := hP
  replace hD : va_D A [(h0, .inr (1, [.null, .int 0, .int 0, .int 0, .int 0, .int 0, .int 0, .int 0])), (q1, .inl (cy 1, 96, .inl (fun _ => 0)))] := hD
  refine va_putF (D := G) (ci := 1) (v := .ref q1) (ty := (.array .int)) (C := RX1) (T := TX1) (N := 8) hx hb hts inkX1 tyX1 tyX1_ok nmX1 hown hK hP hD hS 0 rfl rfl 0 (by decide) (hts _ kw_109) (fun _ h9 => h9) rfl hin rfl (by decide +kernel) rfl rfl (Nat.le_of_ble_eq_true rfl) dX1_init_9 (fun H locs hP hD hS => ?_)
  replace hP : va_P G vwCl [(h0, .inr (1, [.ref q1, .int 0, .int 0, .int 0, .int 0, .int 0, .int 0, .int 0])), (q1, .inl (cy 1, 96, .inl (fun _ => 0)))] H := hP
  replace hD : va_D A [(h0, .inr (1, [.ref q1, .int 0, .int 0, .int 0, .int 0, .int 0, .int 0, .int 0])), (q1, .inl (cy 1, 96, .inl (fun _ => 0)))] := hD
  refine lv_aload_n hx hb dX1_init_12 rfl (lv_at hl 0 rfl) ?_
  have hPc := hP.sub (ws' := [(h0, .inr (1, [.ref q1, .int 0, .int 0, .int 0, .int 0, .int 0, .int 0, .int 0]))]) [0] rfl
  have hDc := hD.sub (ws' := [(h0, .inr (1, [.ref q1, .int 0, .int 0, .int 0, .int 0, .int 0, .int 0, .int 0]))]) [0] (by decide) rfl
  have hFc := va_free (wc := [(h0, .inr (1, [.ref q1, .int 0, .int 0, .int 0, .int 0, .int 0, .int 0, .int 0]))]) hD hS hA [0] rfl
  refine va_callv (va_runV (As := []) (rest := []) ⟨hx, hb, hml, hown, hts⟩ (kcK_reset H.size h0 q1 0 0 0 0 0 0 0) (cwV 0 hts gk_X1_15 rfl rfl rfl (by decide +kernel) ⟨Nat.le_of_ble_eq_true rfl, Nat.le_of_ble_eq_true rfl⟩) ⟨s_Pk_blind, va_recv hK hPc (ci := 1) (q0 := 0) rfl rfl, fun U hU hW => ⟨rfl, by rw [hU], by rw [hU]; exact hPc, va_K.moved hW.alike hK, hDc.weaken (fun _ _ _ _ => trivial), trivial⟩⟩ rfl rfl hl.1 rfl (lv_room (Nat.le_of_ble_eq_true rfl)) dX1_init_13 ⟨Nat.le_of_ble_eq_true rfl, Nat.le_of_ble_eq_true rfl⟩) hS (fun q _ h => hFc q h) hFc (fun u t H locs ht hvm hw hB hz1 hk1 hS => ?_)
  obtain ⟨hP1, hD1⟩ := hB
  rw [ht] at hP1
  obtain ⟨hP, hD⟩ := va_join (wr := [(q1, .inl (cy 1, 96, .inl (fun _ => 0)))]) (w1 := [(h0, .inr (1, [.ref q1, .int 0, .int 5, .int 1, .int 1, .int 2, .int 0, .int 0]))]) hP hD [0] [1] rfl rfl (by decide) (by decide) hk1 hFc hP1 hD1
  replace hP : va_P G vwCl [(q1, .inl (cy 1, 96, .inl (fun _ => 0))), (h0, .inr (1, [.ref q1, .int 0, .int 5, .int 1, .int 1, .int 2, .int 0, .int 0]))] H := hP
  replace hD : va_D A [(q1, .inl (cy 1, 96, .inl (fun _ => 0))), (h0, .inr (1, [.ref q1, .int 0, .int 5, .int 1, .int 1, .int 2, .int 0, .int 0]))] := hD
  refine W.widen (k := 1) (n := 96) (Nat.le_of_ble_eq_true rfl) (Nat.le_of_ble_eq_true rfl) ?_
  exact W.vret hx hb hr (fun t ht hW => ⟨⟨q1, rfl, trivial, by rw [ht]; exact hP.sub [1, 0] rfl, hD.sub [1, 0] (by decide) rfl⟩, hS.F ht⟩) hS.2.2 dX1_init_16 hlk
set_option maxRecDepth 100000 in
set_option maxHeartbeats 8000000 in
theorem kcK_Tape {l : Launch} {G : va_G} {cy : Nat → ClassId} (sz : Nat) (h0 : Nat) : Met l yX3_init (kW yX3_init cX3_init 1 none) ({ frames := 1, cells := 1, slots := 320, locals := 20 } : Room) (s_Pk G cy (fun _ => True) [.ref h0] sz [(h0, .inr (3, [.null, .int 0]))]) (va_Qv (fun (_ : Nat) => True) (fun u t => va_P G vwCl [(h0, .inr (3, [.ref u, .int 0])), (u, .inl (cy 0, 320, .inl (fun _ => 0)))] t.heap ∧ va_D (va_A [(h0, .inr (3, [.null, .int 0]))] sz) [(h0, .inr (3, [.ref u, .int 0])), (u, .inl (cy 0, 320, .inl (fun _ => 0)))]) (va_A [(h0, .inr (3, [.null, .int 0]))] sz)) 1 320 (va_A [(h0, .inr (3, [.null, .int 0]))] sz) := by
  refine Met.ofW (cc := cX3_init) (maxL := 1) (ret := none) (by decide) rfl ?_
  intro p e s m args below meth c s₁ B hml hv
  obtain ⟨rfl, hsz, hP, hK, hD0, -⟩ := hv
  have hx := B.exec
  have hb := B.bytes
  have hr := B.returns
  have hts0 := atoms_spec (ws := kW yX3_init cX3_init 1 none) B.pre
  have hts : ∀ w ∈ kwL, w.before [.ref h0].toArray s = true := fun w h => hts0 w (List.mem_cons_of_mem _ h)
  have hown : s.vm.findClass RX3 = some m.cls := findClass_of_methodNamed B.named
  have hlk := B.notSynchronized
  have hin : meth.name = "<init>" := (name_of_methodNamed B.named B.method).1
  subst hsz
  have hD := hD0.self (sz := s.heap.size)
  generalize hAe : va_A [(h0, .inr (3, [.null, .int 0]))] s.heap.size = A at hD ⊢
  have hA : ∀ q : Nat, s.heap.size ≤ q → A q := fun q h => by rw [← hAe]; exact Or.inr h
  have hS : va_S A s.heap s.heap [] := va_S.rf
  replace hP : va_P G vwCl [(h0, .inr (3, [.null, .int 0]))] s.heap := hP
  have hl := lv_entry ([.ref h0]) (n := 1) (Nat.le_of_ble_eq_true rfl)
  rw [lg_entry_eq]
  generalize (lg_sl ([.ref h0]) ++ List.replicate (1 - (lg_sl ([.ref h0])).length) Slot.unset).toArray = ls at hl ⊢
  replace hl : lv_has ls 1 [(0, .ref h0)] := hl
  have hSt := hS
  refine lv_aload_n hx hb dX3_init_0 rfl (lv_at hl 0 rfl) ?_
  refine W.objInit hx hb hown (hts _ kw_82) (hts _ kw_75) (hts _ kw_76) rfl (by rw [hml]; exact hl.1) rfl dX3_init_1 (Nat.le_of_ble_eq_true rfl) (Nat.le_of_ble_eq_true rfl) ?_
  refine W.eq (g2 := F0 m 4 ls []) rfl ?_
  refine lv_aload_n hx hb dX3_init_4 rfl (lv_at hl 0 rfl) ?_
  refine lv_sipush (v := 320) hx hb dX3_init_5 (by decide) ?_
  refine s_newa (N' := 320) (atype := .byte) (ty := .byte) rfl hx hb (hts _ kw_92) hK 0 rfl (fun _ h => h) hP hD hS hA (fun _ => rfl) (by decide) (by decide) (Nat.le_of_ble_eq_true rfl) (Nat.le_of_ble_eq_true rfl) (Nat.le_of_ble_eq_true rfl) dX3_init_8 (fun q1 H hP hD hS => ?_)
  refine W.widen (k := 1) (n := 320) (Nat.le_of_ble_eq_true rfl) (Nat.le_of_ble_eq_true rfl) ?_
  replace hP : va_P G vwCl [(h0, .inr (3, [.null, .int 0])), (q1, .inl (cy 0, 320, .inl (fun _ => 0)))] H := hP
  replace hD : va_D A [(h0, .inr (3, [.null, .int 0])), (q1, .inl (cy 0, 320, .inl (fun _ => 0)))] := hD
  refine va_putF (D := G) (ci := 3) (v := .ref q1) (ty := (.array .byte)) (C := RX3) (T := TX3) (N := 2) hx hb hts inkX3 tyX3 tyX3_ok nmX3 hown hK hP hD hS 0 rfl rfl 0 (by decide) (hts _ kw_83) (fun _ h9 => h9) rfl hin rfl (by decide +kernel) rfl rfl (Nat.le_of_ble_eq_true rfl) dX3_init_10 (fun H locs hP hD hS => ?_)
  replace hP : va_P G vwCl [(h0, .inr (3, [.ref q1, .int 0])), (q1, .inl (cy 0, 320, .inl (fun _ => 0)))] H := hP
  replace hD : va_D A [(h0, .inr (3, [.ref q1, .int 0])), (q1, .inl (cy 0, 320, .inl (fun _ => 0)))] := hD
  refine lv_aload_n hx hb dX3_init_13 rfl (lv_at hl 0 rfl) ?_
  refine lv_iconst (v := 0) hx hb dX3_init_14 (by decide) ?_
  refine va_put (D := G) (ci := 3) (v := .int 0) (ty := .int) (C := RX3) (T := TX3) (N := 2) hx hb hts inkX3 tyX3 tyX3_ok nmX3 hown hK hP hD hS 0 rfl rfl 1 (by decide) (hts _ kw_84) (fun _ h9 => h9) rfl (by decide +kernel) rfl rfl (Nat.le_of_ble_eq_true rfl) dX3_init_15 (fun H locs hP hD hS => ?_)
  replace hP : va_P G vwCl [(h0, .inr (3, [.ref q1, .int 0])), (q1, .inl (cy 0, 320, .inl (fun _ => 0)))] H := hP
  replace hD : va_D A [(h0, .inr (3, [.ref q1, .int 0])), (q1, .inl (cy 0, 320, .inl (fun _ => 0)))] := hD
  exact W.vret hx hb hr (fun t ht hW => ⟨⟨q1, rfl, trivial, by rw [ht]; exact hP, hD⟩, hS.F ht⟩) hS.2.2 dX3_init_18 hlk
set_option maxRecDepth 100000 in
set_option maxHeartbeats 8000000 in
theorem kcK_Words {l : Launch} {G : va_G} {cy : Nat → ClassId} (sz : Nat) (h0 : Nat) : Met l yX5_init (kW yX5_init cX5_init 1 none) ({ frames := 1, cells := 1, slots := 8, locals := 20 } : Room) (s_Pk G cy (fun _ => True) [.ref h0] sz [(h0, .inr (5, [.null, .int 0]))]) (va_Qv (fun (_ : Nat) => True) (fun u t => va_P G vwCl [(h0, .inr (5, [.ref u, .int 0])), (u, .inl (cy 0, 8, .inl (fun _ => 0)))] t.heap ∧ va_D (va_A [(h0, .inr (5, [.null, .int 0]))] sz) [(h0, .inr (5, [.ref u, .int 0])), (u, .inl (cy 0, 8, .inl (fun _ => 0)))]) (va_A [(h0, .inr (5, [.null, .int 0]))] sz)) 1 8 (va_A [(h0, .inr (5, [.null, .int 0]))] sz) := by
  refine Met.ofW (cc := cX5_init) (maxL := 1) (ret := none) (by decide) rfl ?_
  intro p e s m args below meth c s₁ B hml hv
  obtain ⟨rfl, hsz, hP, hK, hD0, -⟩ := hv
  have hx := B.exec
  have hb := B.bytes
  have hr := B.returns
  have hts0 := atoms_spec (ws := kW yX5_init cX5_init 1 none) B.pre
  have hts : ∀ w ∈ kwL, w.before [.ref h0].toArray s = true := fun w h => hts0 w (List.mem_cons_of_mem _ h)
  have hown : s.vm.findClass RX5 = some m.cls := findClass_of_methodNamed B.named
  have hlk := B.notSynchronized
  have hin : meth.name = "<init>" := (name_of_methodNamed B.named B.method).1
  subst hsz
  have hD := hD0.self (sz := s.heap.size)
  generalize hAe : va_A [(h0, .inr (5, [.null, .int 0]))] s.heap.size = A at hD ⊢
  have hA : ∀ q : Nat, s.heap.size ≤ q → A q := fun q h => by rw [← hAe]; exact Or.inr h
  have hS : va_S A s.heap s.heap [] := va_S.rf
  replace hP : va_P G vwCl [(h0, .inr (5, [.null, .int 0]))] s.heap := hP
  have hl := lv_entry ([.ref h0]) (n := 1) (Nat.le_of_ble_eq_true rfl)
  rw [lg_entry_eq]
  generalize (lg_sl ([.ref h0]) ++ List.replicate (1 - (lg_sl ([.ref h0])).length) Slot.unset).toArray = ls at hl ⊢
  replace hl : lv_has ls 1 [(0, .ref h0)] := hl
  have hSt := hS
  refine lv_aload_n hx hb dX5_init_0 rfl (lv_at hl 0 rfl) ?_
  refine W.objInit hx hb hown (hts _ kw_218) (hts _ kw_75) (hts _ kw_76) rfl (by rw [hml]; exact hl.1) rfl dX5_init_1 (Nat.le_of_ble_eq_true rfl) (Nat.le_of_ble_eq_true rfl) ?_
  refine W.eq (g2 := F0 m 4 ls []) rfl ?_
  refine lv_aload_n hx hb dX5_init_4 rfl (lv_at hl 0 rfl) ?_
  refine lv_bipush (v := 8) hx hb dX5_init_5 (by decide) ?_
  refine s_newa (N' := 8) (atype := .byte) (ty := .byte) rfl hx hb (hts _ kw_92) hK 0 rfl (fun _ h => h) hP hD hS hA (fun _ => rfl) (by decide) (by decide) (Nat.le_of_ble_eq_true rfl) (Nat.le_of_ble_eq_true rfl) (Nat.le_of_ble_eq_true rfl) dX5_init_7 (fun q1 H hP hD hS => ?_)
  refine W.widen (k := 1) (n := 8) (Nat.le_of_ble_eq_true rfl) (Nat.le_of_ble_eq_true rfl) ?_
  replace hP : va_P G vwCl [(h0, .inr (5, [.null, .int 0])), (q1, .inl (cy 0, 8, .inl (fun _ => 0)))] H := hP
  replace hD : va_D A [(h0, .inr (5, [.null, .int 0])), (q1, .inl (cy 0, 8, .inl (fun _ => 0)))] := hD
  refine va_putF (D := G) (ci := 5) (v := .ref q1) (ty := (.array .byte)) (C := RX5) (T := TX5) (N := 2) hx hb hts inkX5 tyX5 tyX5_ok nmX5 hown hK hP hD hS 0 rfl rfl 0 (by decide) (hts _ kw_219) (fun _ h9 => h9) rfl hin rfl (by decide +kernel) rfl rfl (Nat.le_of_ble_eq_true rfl) dX5_init_9 (fun H locs hP hD hS => ?_)
  replace hP : va_P G vwCl [(h0, .inr (5, [.ref q1, .int 0])), (q1, .inl (cy 0, 8, .inl (fun _ => 0)))] H := hP
  replace hD : va_D A [(h0, .inr (5, [.ref q1, .int 0])), (q1, .inl (cy 0, 8, .inl (fun _ => 0)))] := hD
  refine lv_aload_n hx hb dX5_init_12 rfl (lv_at hl 0 rfl) ?_
  refine lv_iconst (v := 0) hx hb dX5_init_13 (by decide) ?_
  refine va_put (D := G) (ci := 5) (v := .int 0) (ty := .int) (C := RX5) (T := TX5) (N := 2) hx hb hts inkX5 tyX5 tyX5_ok nmX5 hown hK hP hD hS 0 rfl rfl 1 (by decide) (hts _ kw_220) (fun _ h9 => h9) rfl (by decide +kernel) rfl rfl (Nat.le_of_ble_eq_true rfl) dX5_init_14 (fun H locs hP hD hS => ?_)
  replace hP : va_P G vwCl [(h0, .inr (5, [.ref q1, .int 0])), (q1, .inl (cy 0, 8, .inl (fun _ => 0)))] H := hP
  replace hD : va_D A [(h0, .inr (5, [.ref q1, .int 0])), (q1, .inl (cy 0, 8, .inl (fun _ => 0)))] := hD
  exact W.vret hx hb hr (fun t ht hW => ⟨⟨q1, rfl, trivial, by rw [ht]; exact hP, hD⟩, hS.F ht⟩) hS.2.2 dX5_init_17 hlk
set_option maxRecDepth 100000 in
set_option maxHeartbeats 8000000 in
theorem kcK_Row {l : Launch} {G : va_G} {cy : Nat → ClassId} (sz : Nat) (h0 h1 : Nat) : Met l yX0_init (kW yX0_init cX0_init 2 none) ({ frames := 1, cells := 1, slots := 24, locals := 20 } : Room) (s_Pk G cy (fun _ => True) [.ref h0, .ref h1] sz [(h0, .inr (0, [.null, .null, .int 0]))]) (va_Qv (fun (_ : Nat) => True) (fun u t => va_P G vwCl [(h0, .inr (0, [.ref h1, .ref u, .int 0])), (u, .inl (cy 1, 24, .inl (fun _ => 0)))] t.heap ∧ va_D (va_A [(h0, .inr (0, [.null, .null, .int 0]))] sz) [(h0, .inr (0, [.ref h1, .ref u, .int 0])), (u, .inl (cy 1, 24, .inl (fun _ => 0)))]) (va_A [(h0, .inr (0, [.null, .null, .int 0]))] sz)) 1 24 (va_A [(h0, .inr (0, [.null, .null, .int 0]))] sz) := by
  refine Met.ofW (cc := cX0_init) (maxL := 2) (ret := none) (by decide) rfl ?_
  intro p e s m args below meth c s₁ B hml hv
  obtain ⟨rfl, hsz, hP, hK, hD0, -⟩ := hv
  have hx := B.exec
  have hb := B.bytes
  have hr := B.returns
  have hts0 := atoms_spec (ws := kW yX0_init cX0_init 2 none) B.pre
  have hts : ∀ w ∈ kwL, w.before [.ref h0, .ref h1].toArray s = true := fun w h => hts0 w (List.mem_cons_of_mem _ h)
  have hown : s.vm.findClass RX0 = some m.cls := findClass_of_methodNamed B.named
  have hlk := B.notSynchronized
  have hin : meth.name = "<init>" := (name_of_methodNamed B.named B.method).1
  subst hsz
  have hD := hD0.self (sz := s.heap.size)
  generalize hAe : va_A [(h0, .inr (0, [.null, .null, .int 0]))] s.heap.size = A at hD ⊢
  have hA : ∀ q : Nat, s.heap.size ≤ q → A q := fun q h => by rw [← hAe]; exact Or.inr h
  have hS : va_S A s.heap s.heap [] := va_S.rf
  replace hP : va_P G vwCl [(h0, .inr (0, [.null, .null, .int 0]))] s.heap := hP
  have hl := lv_entry ([.ref h0, .ref h1]) (n := 2) (Nat.le_of_ble_eq_true rfl)
  rw [lg_entry_eq]
  generalize (lg_sl ([.ref h0, .ref h1]) ++ List.replicate (2 - (lg_sl ([.ref h0, .ref h1])).length) Slot.unset).toArray = ls at hl ⊢
  replace hl : lv_has ls 2 [(0, .ref h0), (1, .ref h1)] := hl
  have hSt := hS
  refine lv_aload_n hx hb dX0_init_0 rfl (lv_at hl 0 rfl) ?_
  refine W.objInit hx hb hown (hts _ kw_201) (hts _ kw_75) (hts _ kw_76) rfl (by rw [hml]; exact hl.1) rfl dX0_init_1 (Nat.le_of_ble_eq_true rfl) (Nat.le_of_ble_eq_true rfl) ?_
  refine W.eq (g2 := F0 m 4 ls []) rfl ?_
  refine lv_aload_n hx hb dX0_init_4 rfl (lv_at hl 0 rfl) ?_
  refine lv_bipush (v := 24) hx hb dX0_init_5 (by decide) ?_
  refine s_newa (N' := 24) (atype := .int) (ty := .int) rfl hx hb (hts _ kw_153) hK 1 rfl (fun _ h => h) hP hD hS hA (fun _ => rfl) (by decide) (by decide) (Nat.le_of_ble_eq_true rfl) (Nat.le_of_ble_eq_true rfl) (Nat.le_of_ble_eq_true rfl) dX0_init_7 (fun q1 H hP hD hS => ?_)
  refine W.widen (k := 1) (n := 24) (Nat.le_of_ble_eq_true rfl) (Nat.le_of_ble_eq_true rfl) ?_
  replace hP : va_P G vwCl [(h0, .inr (0, [.null, .null, .int 0])), (q1, .inl (cy 1, 24, .inl (fun _ => 0)))] H := hP
  replace hD : va_D A [(h0, .inr (0, [.null, .null, .int 0])), (q1, .inl (cy 1, 24, .inl (fun _ => 0)))] := hD
  refine va_putF (D := G) (ci := 0) (v := .ref q1) (ty := (.array .int)) (C := RX0) (T := TX0) (N := 3) hx hb hts inkX0 tyX0 tyX0_ok nmX0 hown hK hP hD hS 0 rfl rfl 1 (by decide) (hts _ kw_203) (fun _ h9 => h9) rfl hin rfl (by decide +kernel) rfl rfl (Nat.le_of_ble_eq_true rfl) dX0_init_9 (fun H locs hP hD hS => ?_)
  replace hP : va_P G vwCl [(h0, .inr (0, [.null, .ref q1, .int 0])), (q1, .inl (cy 1, 24, .inl (fun _ => 0)))] H := hP
  replace hD : va_D A [(h0, .inr (0, [.null, .ref q1, .int 0])), (q1, .inl (cy 1, 24, .inl (fun _ => 0)))] := hD
  refine lv_aload_n hx hb dX0_init_12 rfl (lv_at hl 0 rfl) ?_
  refine lv_iconst (v := 0) hx hb dX0_init_13 (by decide) ?_
  refine va_put (D := G) (ci := 0) (v := .int 0) (ty := .int) (C := RX0) (T := TX0) (N := 3) hx hb hts inkX0 tyX0 tyX0_ok nmX0 hown hK hP hD hS 0 rfl rfl 2 (by decide) (hts _ kw_204) (fun _ h9 => h9) rfl (by decide +kernel) rfl rfl (Nat.le_of_ble_eq_true rfl) dX0_init_14 (fun H locs hP hD hS => ?_)
  replace hP : va_P G vwCl [(h0, .inr (0, [.null, .ref q1, .int 0])), (q1, .inl (cy 1, 24, .inl (fun _ => 0)))] H := hP
  replace hD : va_D A [(h0, .inr (0, [.null, .ref q1, .int 0])), (q1, .inl (cy 1, 24, .inl (fun _ => 0)))] := hD
  refine lv_aload_n hx hb dX0_init_17 rfl (lv_at hl 0 rfl) ?_
  refine lv_aload_n hx hb dX0_init_18 rfl (lv_at hl 1 rfl) ?_
  refine va_putF (D := G) (ci := 0) (v := .ref h1) (ty := (.object "SlidingRanks$Series")) (C := RX0) (T := TX0) (N := 3) hx hb hts inkX0 tyX0 tyX0_ok nmX0 hown hK hP hD hS 0 rfl rfl 0 (by decide) (hts _ kw_202) (fun _ h9 => h9) rfl hin rfl (by decide +kernel) rfl rfl (Nat.le_of_ble_eq_true rfl) dX0_init_19 (fun H locs hP hD hS => ?_)
  replace hP : va_P G vwCl [(h0, .inr (0, [.ref h1, .ref q1, .int 0])), (q1, .inl (cy 1, 24, .inl (fun _ => 0)))] H := hP
  replace hD : va_D A [(h0, .inr (0, [.ref h1, .ref q1, .int 0])), (q1, .inl (cy 1, 24, .inl (fun _ => 0)))] := hD
  exact W.vret hx hb hr (fun t ht hW => ⟨⟨q1, rfl, trivial, by rw [ht]; exact hP, hD⟩, hS.F ht⟩) hS.2.2 dX0_init_22 hlk
set_option maxRecDepth 100000 in
set_option maxHeartbeats 8000000 in
theorem kcK_Teller {l : Launch} {G : va_G} {cy : Nat → ClassId} (sz : Nat) (h0 : Nat) : Met l yX4_init (kW yX4_init cX4_init 1 none) ({ frames := 2, cells := 2, slots := 104, locals := 40 } : Room) (s_Pk G cy (fun _ => True) [.ref h0] sz [(h0, .inr (4, [.null, .int 0, .int 0, .int 0, .int 0, .int 0, .int 0, .int 0, .int 0, .int 0, .int 0, .int 0]))]) (va_Qv (fun (_ : Nat × Nat) => True) (fun u t => va_P G vwCl [(h0, .inr (4, [.ref u.1, .int 12, .int 0, .int 0, .int 0, .int 0, .int 0, .int 0, .int (-4), .int 0, .int 0, .int 0])), (u.1, .inr (1, [.ref u.2, .int 0, .int 5, .int 1, .int 1, .int 2, .int 0, .int 0])), (u.2, .inl (cy 1, 96, .inl (fun _ => 0)))] t.heap ∧ va_D (va_A [(h0, .inr (4, [.null, .int 0, .int 0, .int 0, .int 0, .int 0, .int 0, .int 0, .int 0, .int 0, .int 0, .int 0]))] sz) [(h0, .inr (4, [.ref u.1, .int 12, .int 0, .int 0, .int 0, .int 0, .int 0, .int 0, .int (-4), .int 0, .int 0, .int 0])), (u.1, .inr (1, [.ref u.2, .int 0, .int 5, .int 1, .int 1, .int 2, .int 0, .int 0])), (u.2, .inl (cy 1, 96, .inl (fun _ => 0)))]) (va_A [(h0, .inr (4, [.null, .int 0, .int 0, .int 0, .int 0, .int 0, .int 0, .int 0, .int 0, .int 0, .int 0, .int 0]))] sz)) 2 104 (va_A [(h0, .inr (4, [.null, .int 0, .int 0, .int 0, .int 0, .int 0, .int 0, .int 0, .int 0, .int 0, .int 0, .int 0]))] sz) := by
  refine Met.ofW (cc := cX4_init) (maxL := 1) (ret := none) (by decide) rfl ?_
  intro p e s m args below meth c s₁ B hml hv
  obtain ⟨rfl, hsz, hP, hK, hD0, -⟩ := hv
  have hx := B.exec
  have hb := B.bytes
  have hr := B.returns
  have hts0 := atoms_spec (ws := kW yX4_init cX4_init 1 none) B.pre
  have hts : ∀ w ∈ kwL, w.before [.ref h0].toArray s = true := fun w h => hts0 w (List.mem_cons_of_mem _ h)
  have hown : s.vm.findClass RX4 = some m.cls := findClass_of_methodNamed B.named
  have hlk := B.notSynchronized
  have hin : meth.name = "<init>" := (name_of_methodNamed B.named B.method).1
  subst hsz
  have hD := hD0.self (sz := s.heap.size)
  generalize hAe : va_A [(h0, .inr (4, [.null, .int 0, .int 0, .int 0, .int 0, .int 0, .int 0, .int 0, .int 0, .int 0, .int 0, .int 0]))] s.heap.size = A at hD ⊢
  have hA : ∀ q : Nat, s.heap.size ≤ q → A q := fun q h => by rw [← hAe]; exact Or.inr h
  have hS : va_S A s.heap s.heap [] := va_S.rf
  replace hP : va_P G vwCl [(h0, .inr (4, [.null, .int 0, .int 0, .int 0, .int 0, .int 0, .int 0, .int 0, .int 0, .int 0, .int 0, .int 0]))] s.heap := hP
  have hl := lv_entry ([.ref h0]) (n := 1) (Nat.le_of_ble_eq_true rfl)
  rw [lg_entry_eq]
  generalize (lg_sl ([.ref h0]) ++ List.replicate (1 - (lg_sl ([.ref h0])).length) Slot.unset).toArray = ls at hl ⊢
  replace hl : lv_has ls 1 [(0, .ref h0)] := hl
  have hSt := hS
  refine lv_aload_n hx hb dX4_init_0 rfl (lv_at hl 0 rfl) ?_
  refine W.objInit hx hb hown (hts _ kw_98) (hts _ kw_75) (hts _ kw_76) rfl (by rw [hml]; exact hl.1) rfl dX4_init_1 (Nat.le_of_ble_eq_true rfl) (Nat.le_of_ble_eq_true rfl) ?_
  refine W.eq (g2 := F0 m 4 ls []) rfl ?_
  refine lv_aload_n hx hb dX4_init_4 rfl (lv_at hl 0 rfl) ?_
  refine va_new (ci := 1) (fs := [.null, .int 0, .int 0, .int 0, .int 0, .int 0, .int 0, .int 0]) (C := RX1) (T := TX1) (N := 8) hx hb hts inkX1 tyX1 tyX1_ok hown (hts _ kw_99) (hts _ kw_100) (hts _ kw_58) hK hP hD hS hA rfl (by intro j hj; match j, hj with | 0, _ => rfl | 1, _ => rfl | 2, _ => rfl | 3, _ => rfl | 4, _ => rfl | 5, _ => rfl | 6, _ => rfl | 7, _ => rfl) (Nat.le_of_ble_eq_true rfl) (Nat.le_of_ble_eq_true rfl) dX4_init_5 (fun q1 H hP hD hS => ?_)
  refine W.widen (k := 1) (n := 8) (Nat.le_of_ble_eq_true rfl) (Nat.le_of_ble_eq_true rfl) ?_
  replace hP : va_P G vwCl [(h0, .inr (4, [.null, .int 0, .int 0, .int 0, .int 0, .int 0, .int 0, .int 0, .int 0, .int 0, .int 0, .int 0])), (q1, .inr (1, [.null, .int 0, .int 0, .int 0, .int 0, .int 0, .int 0, .int 0]))] H := hP
  replace hD : va_D A [(h0, .inr (4, [.null, .int 0, .int 0, .int 0, .int 0, .int 0, .int 0, .int 0, .int 0, .int 0, .int 0, .int 0])), (q1, .inr (1, [.null, .int 0, .int 0, .int 0, .int 0, .int 0, .int 0, .int 0]))] := hD
  refine lv_dup hx hb dX4_init_8 rfl ?_
  have hPc := hP.sub (ws' := [(q1, .inr (1, [.null, .int 0, .int 0, .int 0, .int 0, .int 0, .int 0, .int 0]))]) [1] rfl
  have hDc := hD.sub (ws' := [(q1, .inr (1, [.null, .int 0, .int 0, .int 0, .int 0, .int 0, .int 0, .int 0]))]) [1] (by decide) rfl
  have hFc := va_free (wc := [(q1, .inr (1, [.null, .int 0, .int 0, .int 0, .int 0, .int 0, .int 0, .int 0]))]) hD hS hA [1] rfl
  refine va_callv (va_runI (As := []) (rest := [.ref q1, .ref h0]) ⟨hx, hb, hml, hown, hts⟩ (kcK_Series H.size q1) (cwI 0 hts (kG_i kw_103) rfl rfl rfl (hts _ kw_58) (hts _ kw_101) (hts _ kw_102) rfl (by decide +kernel) ⟨Nat.le_of_ble_eq_true rfl, Nat.le_of_ble_eq_true rfl⟩) ⟨s_Pk_blind, fun U hU hW => ⟨rfl, by rw [hU], by rw [hU]; exact hPc, va_K.moved hW.alike hK, hDc.weaken (fun _ _ _ _ => trivial), trivial⟩⟩ rfl rfl hl.1 rfl (lv_room (Nat.le_of_ble_eq_true rfl)) dX4_init_9 ⟨Nat.le_of_ble_eq_true rfl, Nat.le_of_ble_eq_true rfl⟩) hS (fun q _ h => hFc q h) hFc (fun u t H locs ht hvm hw hB hz1 hk1 hS => ?_)
  obtain ⟨n1, rfl⟩ : ∃ z, z = u := ⟨_, rfl⟩
  obtain ⟨hP1, hD1⟩ := hB
  rw [ht] at hP1
  obtain ⟨hP, hD⟩ := va_join (wr := [(h0, .inr (4, [.null, .int 0, .int 0, .int 0, .int 0, .int 0, .int 0, .int 0, .int 0, .int 0, .int 0, .int 0]))]) (w1 := [(q1, .inr (1, [.ref n1, .int 0, .int 5, .int 1, .int 1, .int 2, .int 0, .int 0])), (n1, .inl (cy 1, 96, .inl (fun _ => 0)))]) hP hD [1] [0] rfl rfl (by decide) (by decide) hk1 hFc hP1 hD1
  replace hP : va_P G vwCl [(h0, .inr (4, [.null, .int 0, .int 0, .int 0, .int 0, .int 0, .int 0, .int 0, .int 0, .int 0, .int 0, .int 0])), (q1, .inr (1, [.ref n1, .int 0, .int 5, .int 1, .int 1, .int 2, .int 0, .int 0])), (n1, .inl (cy 1, 96, .inl (fun _ => 0)))] H := hP
  replace hD : va_D A [(h0, .inr (4, [.null, .int 0, .int 0, .int 0, .int 0, .int 0, .int 0, .int 0, .int 0, .int 0, .int 0, .int 0])), (q1, .inr (1, [.ref n1, .int 0, .int 5, .int 1, .int 1, .int 2, .int 0, .int 0])), (n1, .inl (cy 1, 96, .inl (fun _ => 0)))] := hD
  refine W.widen (k := 2) (n := 104) (Nat.le_of_ble_eq_true rfl) (Nat.le_of_ble_eq_true rfl) ?_
  refine va_putF (D := G) (ci := 4) (v := .ref q1) (ty := (.object "SlidingRanks$Series")) (C := RX4) (T := TX4) (N := 12) hx hb hts inkX4 tyX4 tyX4_ok nmX4 hown hK hP hD hS 0 rfl rfl 0 (by decide) (hts _ kw_154) (fun _ h9 => h9) rfl hin rfl (by decide +kernel) rfl rfl (Nat.le_of_ble_eq_true rfl) dX4_init_12 (fun H locs hP hD hS => ?_)
  replace hP : va_P G vwCl [(h0, .inr (4, [.ref q1, .int 0, .int 0, .int 0, .int 0, .int 0, .int 0, .int 0, .int 0, .int 0, .int 0, .int 0])), (q1, .inr (1, [.ref n1, .int 0, .int 5, .int 1, .int 1, .int 2, .int 0, .int 0])), (n1, .inl (cy 1, 96, .inl (fun _ => 0)))] H := hP
  replace hD : va_D A [(h0, .inr (4, [.ref q1, .int 0, .int 0, .int 0, .int 0, .int 0, .int 0, .int 0, .int 0, .int 0, .int 0, .int 0])), (q1, .inr (1, [.ref n1, .int 0, .int 5, .int 1, .int 1, .int 2, .int 0, .int 0])), (n1, .inl (cy 1, 96, .inl (fun _ => 0)))] := hD
  refine lv_aload_n hx hb dX4_init_15 rfl (lv_at hl 0 rfl) ?_
  refine lv_bipush (v := 12) hx hb dX4_init_16 (by decide) ?_
  refine va_put (D := G) (ci := 4) (v := .int 12) (ty := .int) (C := RX4) (T := TX4) (N := 12) hx hb hts inkX4 tyX4 tyX4_ok nmX4 hown hK hP hD hS 0 rfl rfl 1 (by decide) (hts _ kw_156) (fun _ h9 => h9) rfl (by decide +kernel) rfl rfl (Nat.le_of_ble_eq_true rfl) dX4_init_18 (fun H locs hP hD hS => ?_)
  replace hP : va_P G vwCl [(h0, .inr (4, [.ref q1, .int 12, .int 0, .int 0, .int 0, .int 0, .int 0, .int 0, .int 0, .int 0, .int 0, .int 0])), (q1, .inr (1, [.ref n1, .int 0, .int 5, .int 1, .int 1, .int 2, .int 0, .int 0])), (n1, .inl (cy 1, 96, .inl (fun _ => 0)))] H := hP
  replace hD : va_D A [(h0, .inr (4, [.ref q1, .int 12, .int 0, .int 0, .int 0, .int 0, .int 0, .int 0, .int 0, .int 0, .int 0, .int 0])), (q1, .inr (1, [.ref n1, .int 0, .int 5, .int 1, .int 1, .int 2, .int 0, .int 0])), (n1, .inl (cy 1, 96, .inl (fun _ => 0)))] := hD
  refine lv_aload_n hx hb dX4_init_21 rfl (lv_at hl 0 rfl) ?_
  refine lv_iconst (v := 0) hx hb dX4_init_22 (by decide) ?_
  refine va_put (D := G) (ci := 4) (v := .int 0) (ty := .int) (C := RX4) (T := TX4) (N := 12) hx hb hts inkX4 tyX4 tyX4_ok nmX4 hown hK hP hD hS 0 rfl rfl 2 (by decide) (hts _ kw_157) (fun _ h9 => h9) rfl (by decide +kernel) rfl rfl (Nat.le_of_ble_eq_true rfl) dX4_init_23 (fun H locs hP hD hS => ?_)
  replace hP : va_P G vwCl [(h0, .inr (4, [.ref q1, .int 12, .int 0, .int 0, .int 0, .int 0, .int 0, .int 0, .int 0, .int 0, .int 0, .int 0])), (q1, .inr (1, [.ref n1, .int 0, .int 5, .int 1, .int 1, .int 2, .int 0, .int 0])), (n1, .inl (cy 1, 96, .inl (fun _ => 0)))] H := hP
  replace hD : va_D A [(h0, .inr (4, [.ref q1, .int 12, .int 0, .int 0, .int 0, .int 0, .int 0, .int 0, .int 0, .int 0, .int 0, .int 0])), (q1, .inr (1, [.ref n1, .int 0, .int 5, .int 1, .int 1, .int 2, .int 0, .int 0])), (n1, .inl (cy 1, 96, .inl (fun _ => 0)))] := hD
  refine lv_aload_n hx hb dX4_init_26 rfl (lv_at hl 0 rfl) ?_
  refine lv_iconst (v := 0) hx hb dX4_init_27 (by decide) ?_
  refine va_put (D := G) (ci := 4) (v := .int 0) (ty := .boolean) (C := RX4) (T := TX4) (N := 12) hx hb hts inkX4 tyX4 tyX4_ok nmX4 hown hK hP hD hS 0 rfl rfl 3 (by decide) (hts _ kw_158) (fun _ h9 => h9) rfl (by decide +kernel) rfl rfl (Nat.le_of_ble_eq_true rfl) dX4_init_28 (fun H locs hP hD hS => ?_)
  replace hP : va_P G vwCl [(h0, .inr (4, [.ref q1, .int 12, .int 0, .int 0, .int 0, .int 0, .int 0, .int 0, .int 0, .int 0, .int 0, .int 0])), (q1, .inr (1, [.ref n1, .int 0, .int 5, .int 1, .int 1, .int 2, .int 0, .int 0])), (n1, .inl (cy 1, 96, .inl (fun _ => 0)))] H := hP
  replace hD : va_D A [(h0, .inr (4, [.ref q1, .int 12, .int 0, .int 0, .int 0, .int 0, .int 0, .int 0, .int 0, .int 0, .int 0, .int 0])), (q1, .inr (1, [.ref n1, .int 0, .int 5, .int 1, .int 1, .int 2, .int 0, .int 0])), (n1, .inl (cy 1, 96, .inl (fun _ => 0)))] := hD
  refine lv_aload_n hx hb dX4_init_31 rfl (lv_at hl 0 rfl) ?_
  refine lv_iconst (v := 0) hx hb dX4_init_32 (by decide) ?_
  refine va_put (D := G) (ci := 4) (v := .int 0) (ty := .int) (C := RX4) (T := TX4) (N := 12) hx hb hts inkX4 tyX4 tyX4_ok nmX4 hown hK hP hD hS 0 rfl rfl 4 (by decide) (hts _ kw_159) (fun _ h9 => h9) rfl (by decide +kernel) rfl rfl (Nat.le_of_ble_eq_true rfl) dX4_init_33 (fun H locs hP hD hS => ?_)
  replace hP : va_P G vwCl [(h0, .inr (4, [.ref q1, .int 12, .int 0, .int 0, .int 0, .int 0, .int 0, .int 0, .int 0, .int 0, .int 0, .int 0])), (q1, .inr (1, [.ref n1, .int 0, .int 5, .int 1, .int 1, .int 2, .int 0, .int 0])), (n1, .inl (cy 1, 96, .inl (fun _ => 0)))] H := hP
  replace hD : va_D A [(h0, .inr (4, [.ref q1, .int 12, .int 0, .int 0, .int 0, .int 0, .int 0, .int 0, .int 0, .int 0, .int 0, .int 0])), (q1, .inr (1, [.ref n1, .int 0, .int 5, .int 1, .int 1, .int 2, .int 0, .int 0])), (n1, .inl (cy 1, 96, .inl (fun _ => 0)))] := hD
  refine lv_aload_n hx hb dX4_init_36 rfl (lv_at hl 0 rfl) ?_
  refine lv_iconst (v := 0) hx hb dX4_init_37 (by decide) ?_
  refine va_put (D := G) (ci := 4) (v := .int 0) (ty := .int) (C := RX4) (T := TX4) (N := 12) hx hb hts inkX4 tyX4 tyX4_ok nmX4 hown hK hP hD hS 0 rfl rfl 5 (by decide) (hts _ kw_160) (fun _ h9 => h9) rfl (by decide +kernel) rfl rfl (Nat.le_of_ble_eq_true rfl) dX4_init_38 (fun H locs hP hD hS => ?_)
  replace hP : va_P G vwCl [(h0, .inr (4, [.ref q1, .int 12, .int 0, .int 0, .int 0, .int 0, .int 0, .int 0, .int 0, .int 0, .int 0, .int 0])), (q1, .inr (1, [.ref n1, .int 0, .int 5, .int 1, .int 1, .int 2, .int 0, .int 0])), (n1, .inl (cy 1, 96, .inl (fun _ => 0)))] H := hP
  replace hD : va_D A [(h0, .inr (4, [.ref q1, .int 12, .int 0, .int 0, .int 0, .int 0, .int 0, .int 0, .int 0, .int 0, .int 0, .int 0])), (q1, .inr (1, [.ref n1, .int 0, .int 5, .int 1, .int 1, .int 2, .int 0, .int 0])), (n1, .inl (cy 1, 96, .inl (fun _ => 0)))] := hD
  refine lv_aload_n hx hb dX4_init_41 rfl (lv_at hl 0 rfl) ?_
  refine lv_iconst (v := 0) hx hb dX4_init_42 (by decide) ?_
  refine va_put (D := G) (ci := 4) (v := .int 0) (ty := .int) (C := RX4) (T := TX4) (N := 12) hx hb hts inkX4 tyX4 tyX4_ok nmX4 hown hK hP hD hS 0 rfl rfl 6 (by decide) (hts _ kw_161) (fun _ h9 => h9) rfl (by decide +kernel) rfl rfl (Nat.le_of_ble_eq_true rfl) dX4_init_43 (fun H locs hP hD hS => ?_)
  replace hP : va_P G vwCl [(h0, .inr (4, [.ref q1, .int 12, .int 0, .int 0, .int 0, .int 0, .int 0, .int 0, .int 0, .int 0, .int 0, .int 0])), (q1, .inr (1, [.ref n1, .int 0, .int 5, .int 1, .int 1, .int 2, .int 0, .int 0])), (n1, .inl (cy 1, 96, .inl (fun _ => 0)))] H := hP
  replace hD : va_D A [(h0, .inr (4, [.ref q1, .int 12, .int 0, .int 0, .int 0, .int 0, .int 0, .int 0, .int 0, .int 0, .int 0, .int 0])), (q1, .inr (1, [.ref n1, .int 0, .int 5, .int 1, .int 1, .int 2, .int 0, .int 0])), (n1, .inl (cy 1, 96, .inl (fun _ => 0)))] := hD
  refine lv_aload_n hx hb dX4_init_46 rfl (lv_at hl 0 rfl) ?_
  refine lv_iconst (v := 0) hx hb dX4_init_47 (by decide) ?_
  refine va_put (D := G) (ci := 4) (v := .int 0) (ty := .int) (C := RX4) (T := TX4) (N := 12) hx hb hts inkX4 tyX4 tyX4_ok nmX4 hown hK hP hD hS 0 rfl rfl 7 (by decide) (hts _ kw_162) (fun _ h9 => h9) rfl (by decide +kernel) rfl rfl (Nat.le_of_ble_eq_true rfl) dX4_init_48 (fun H locs hP hD hS => ?_)
  replace hP : va_P G vwCl [(h0, .inr (4, [.ref q1, .int 12, .int 0, .int 0, .int 0, .int 0, .int 0, .int 0, .int 0, .int 0, .int 0, .int 0])), (q1, .inr (1, [.ref n1, .int 0, .int 5, .int 1, .int 1, .int 2, .int 0, .int 0])), (n1, .inl (cy 1, 96, .inl (fun _ => 0)))] H := hP
  replace hD : va_D A [(h0, .inr (4, [.ref q1, .int 12, .int 0, .int 0, .int 0, .int 0, .int 0, .int 0, .int 0, .int 0, .int 0, .int 0])), (q1, .inr (1, [.ref n1, .int 0, .int 5, .int 1, .int 1, .int 2, .int 0, .int 0])), (n1, .inl (cy 1, 96, .inl (fun _ => 0)))] := hD
  refine lv_aload_n hx hb dX4_init_51 rfl (lv_at hl 0 rfl) ?_
  refine lv_bipush (v := -4) hx hb dX4_init_52 (by decide) ?_
  refine va_put (D := G) (ci := 4) (v := .int (-4)) (ty := .int) (C := RX4) (T := TX4) (N := 12) hx hb hts inkX4 tyX4 tyX4_ok nmX4 hown hK hP hD hS 0 rfl rfl 8 (by decide) (hts _ kw_163) (fun _ h9 => h9) rfl (by decide +kernel) rfl rfl (Nat.le_of_ble_eq_true rfl) dX4_init_54 (fun H locs hP hD hS => ?_)
  replace hP : va_P G vwCl [(h0, .inr (4, [.ref q1, .int 12, .int 0, .int 0, .int 0, .int 0, .int 0, .int 0, .int (-4), .int 0, .int 0, .int 0])), (q1, .inr (1, [.ref n1, .int 0, .int 5, .int 1, .int 1, .int 2, .int 0, .int 0])), (n1, .inl (cy 1, 96, .inl (fun _ => 0)))] H := hP
  replace hD : va_D A [(h0, .inr (4, [.ref q1, .int 12, .int 0, .int 0, .int 0, .int 0, .int 0, .int 0, .int (-4), .int 0, .int 0, .int 0])), (q1, .inr (1, [.ref n1, .int 0, .int 5, .int 1, .int 1, .int 2, .int 0, .int 0])), (n1, .inl (cy 1, 96, .inl (fun _ => 0)))] := hD
  refine lv_aload_n hx hb dX4_init_57 rfl (lv_at hl 0 rfl) ?_
  refine lv_iconst (v := 0) hx hb dX4_init_58 (by decide) ?_
  refine va_put (D := G) (ci := 4) (v := .int 0) (ty := .int) (C := RX4) (T := TX4) (N := 12) hx hb hts inkX4 tyX4 tyX4_ok nmX4 hown hK hP hD hS 0 rfl rfl 9 (by decide) (hts _ kw_164) (fun _ h9 => h9) rfl (by decide +kernel) rfl rfl (Nat.le_of_ble_eq_true rfl) dX4_init_59 (fun H locs hP hD hS => ?_)
  replace hP : va_P G vwCl [(h0, .inr (4, [.ref q1, .int 12, .int 0, .int 0, .int 0, .int 0, .int 0, .int 0, .int (-4), .int 0, .int 0, .int 0])), (q1, .inr (1, [.ref n1, .int 0, .int 5, .int 1, .int 1, .int 2, .int 0, .int 0])), (n1, .inl (cy 1, 96, .inl (fun _ => 0)))] H := hP
  replace hD : va_D A [(h0, .inr (4, [.ref q1, .int 12, .int 0, .int 0, .int 0, .int 0, .int 0, .int 0, .int (-4), .int 0, .int 0, .int 0])), (q1, .inr (1, [.ref n1, .int 0, .int 5, .int 1, .int 1, .int 2, .int 0, .int 0])), (n1, .inl (cy 1, 96, .inl (fun _ => 0)))] := hD
  refine lv_aload_n hx hb dX4_init_62 rfl (lv_at hl 0 rfl) ?_
  refine lv_iconst (v := 0) hx hb dX4_init_63 (by decide) ?_
  refine va_put (D := G) (ci := 4) (v := .int 0) (ty := .int) (C := RX4) (T := TX4) (N := 12) hx hb hts inkX4 tyX4 tyX4_ok nmX4 hown hK hP hD hS 0 rfl rfl 10 (by decide) (hts _ kw_165) (fun _ h9 => h9) rfl (by decide +kernel) rfl rfl (Nat.le_of_ble_eq_true rfl) dX4_init_64 (fun H locs hP hD hS => ?_)
  replace hP : va_P G vwCl [(h0, .inr (4, [.ref q1, .int 12, .int 0, .int 0, .int 0, .int 0, .int 0, .int 0, .int (-4), .int 0, .int 0, .int 0])), (q1, .inr (1, [.ref n1, .int 0, .int 5, .int 1, .int 1, .int 2, .int 0, .int 0])), (n1, .inl (cy 1, 96, .inl (fun _ => 0)))] H := hP
  replace hD : va_D A [(h0, .inr (4, [.ref q1, .int 12, .int 0, .int 0, .int 0, .int 0, .int 0, .int 0, .int (-4), .int 0, .int 0, .int 0])), (q1, .inr (1, [.ref n1, .int 0, .int 5, .int 1, .int 1, .int 2, .int 0, .int 0])), (n1, .inl (cy 1, 96, .inl (fun _ => 0)))] := hD
  refine lv_aload_n hx hb dX4_init_67 rfl (lv_at hl 0 rfl) ?_
  refine lv_iconst (v := 0) hx hb dX4_init_68 (by decide) ?_
  refine va_put (D := G) (ci := 4) (v := .int 0) (ty := .int) (C := RX4) (T := TX4) (N := 12) hx hb hts inkX4 tyX4 tyX4_ok nmX4 hown hK hP hD hS 0 rfl rfl 11 (by decide) (hts _ kw_167) (fun _ h9 => h9) rfl (by decide +kernel) rfl rfl (Nat.le_of_ble_eq_true rfl) dX4_init_69 (fun H locs hP hD hS => ?_)
  replace hP : va_P G vwCl [(h0, .inr (4, [.ref q1, .int 12, .int 0, .int 0, .int 0, .int 0, .int 0, .int 0, .int (-4), .int 0, .int 0, .int 0])), (q1, .inr (1, [.ref n1, .int 0, .int 5, .int 1, .int 1, .int 2, .int 0, .int 0])), (n1, .inl (cy 1, 96, .inl (fun _ => 0)))] H := hP
  replace hD : va_D A [(h0, .inr (4, [.ref q1, .int 12, .int 0, .int 0, .int 0, .int 0, .int 0, .int 0, .int (-4), .int 0, .int 0, .int 0])), (q1, .inr (1, [.ref n1, .int 0, .int 5, .int 1, .int 1, .int 2, .int 0, .int 0])), (n1, .inl (cy 1, 96, .inl (fun _ => 0)))] := hD
  exact W.vret hx hb hr (fun t ht hW => ⟨⟨(q1, n1), rfl, trivial, by rw [ht]; exact hP, hD⟩, hS.F ht⟩) hS.2.2 dX4_init_72 hlk
set_option maxRecDepth 100000 in
set_option maxHeartbeats 8000000 in
theorem kcK_SR {l : Launch} {G : va_G} {cy : Nat → ClassId} (sz : Nat) (h0 : Nat) : Met l yX6_init (kW yX6_init cX6_init 1 none) ({ frames := 3, cells := 18, slots := 795, locals := 60 } : Room) (s_Pk G cy s_N6 [.ref h0] sz [(h0, .inr (6, [.null, .null, .null, .null, .null, .null, .null, .null, .int 0]))]) (va_Qv (fun (ad : Nat → Nat) => ad 0 = h0) (fun ad t => va_P G vwCl (s_WC cy ad (fun _ => none) s_C0) t.heap ∧ va_D (va_A [(h0, .inr (6, [.null, .null, .null, .null, .null, .null, .null, .null, .int 0]))] sz) (s_WC cy ad (fun _ => none) s_C0)) (va_A [(h0, .inr (6, [.null, .null, .null, .null, .null, .null, .null, .null, .int 0]))] sz)) 18 795 (va_A [(h0, .inr (6, [.null, .null, .null, .null, .null, .null, .null, .null, .int 0]))] sz) := by
  refine Met.ofW (cc := cX6_init) (maxL := 1) (ret := none) (by decide) rfl ?_
  intro p e s m args below meth c s₁ B hml hv
  obtain ⟨rfl, hsz, hP, hK, hD0, hex⟩ := hv
  have hx := B.exec
  have hb := B.bytes
  have hr := B.returns
  have hts0 := atoms_spec (ws := kW yX6_init cX6_init 1 none) B.pre
  have hts : ∀ w ∈ kwL, w.before [.ref h0].toArray s = true := fun w h => hts0 w (List.mem_cons_of_mem _ h)
  have hown : s.vm.findClass RX6 = some m.cls := findClass_of_methodNamed B.named
  have hlk := B.notSynchronized
  have hin : meth.name = "<init>" := (name_of_methodNamed B.named B.method).1
  subst hsz
  have hD := hD0.self (sz := s.heap.size)
  obtain ⟨hN9, hN18, hN41, hA3, hA4⟩ := hex
  generalize hAe : va_A [(h0, .inr (6, [.null, .null, .null, .null, .null, .null, .null, .null, .int 0]))] s.heap.size = A at hD ⊢
  have hA : ∀ q : Nat, s.heap.size ≤ q → A q := fun q h => by rw [← hAe]; exact Or.inr h
  have hS : va_S A s.heap s.heap [] := va_S.rf
  replace hP : va_P G vwCl [(h0, .inr (6, [.null, .null, .null, .null, .null, .null, .null, .null, .int 0]))] s.heap := hP
  have hl := lv_entry ([.ref h0]) (n := 1) (Nat.le_of_ble_eq_true rfl)
  rw [lg_entry_eq]
  generalize (lg_sl ([.ref h0]) ++ List.replicate (1 - (lg_sl ([.ref h0])).length) Slot.unset).toArray = ls at hl ⊢
  replace hl : lv_has ls 1 [(0, .ref h0)] := hl
  have hSt := hS
  refine lv_aload_n hx hb dX6_init_0 rfl (lv_at hl 0 rfl) ?_
  refine W.objInit hx hb hown (hts _ kw_74) (hts _ kw_75) (hts _ kw_76) rfl (by rw [hml]; exact hl.1) rfl dX6_init_1 (Nat.le_of_ble_eq_true rfl) (Nat.le_of_ble_eq_true rfl) ?_
  refine W.eq (g2 := F0 m 4 ls []) rfl ?_
  refine lv_aload_n hx hb dX6_init_4 rfl (lv_at hl 0 rfl) ?_
  refine va_new (ci := 3) (fs := [.null, .int 0]) (C := RX3) (T := TX3) (N := 2) hx hb hts inkX3 tyX3 tyX3_ok hown (hts _ kw_77) (hts _ kw_78) (hts _ kw_56) hK hP hD hS hA rfl (by intro j hj; match j, hj with | 0, _ => rfl | 1, _ => rfl) (Nat.le_of_ble_eq_true rfl) (Nat.le_of_ble_eq_true rfl) dX6_init_5 (fun q1 H hP hD hS => ?_)
  refine W.widen (k := 1) (n := 2) (Nat.le_of_ble_eq_true rfl) (Nat.le_of_ble_eq_true rfl) ?_
  replace hP : va_P G vwCl [(h0, .inr (6, [.null, .null, .null, .null, .null, .null, .null, .null, .int 0])), (q1, .inr (3, [.null, .int 0]))] H := hP
  replace hD : va_D A [(h0, .inr (6, [.null, .null, .null, .null, .null, .null, .null, .null, .int 0])), (q1, .inr (3, [.null, .int 0]))] := hD
  refine lv_dup hx hb dX6_init_8 rfl ?_
  have hPc := hP.sub (ws' := [(q1, .inr (3, [.null, .int 0]))]) [1] rfl
  have hDc := hD.sub (ws' := [(q1, .inr (3, [.null, .int 0]))]) [1] (by decide) rfl
  have hFc := va_free (wc := [(q1, .inr (3, [.null, .int 0]))]) hD hS hA [1] rfl
  refine va_callv (va_runIN (As := []) (rest := [.ref q1, .ref h0]) ⟨hx, hb, hml, hown, hts⟩ (kcK_Tape H.size q1) ⟨va_cnB 0 hts (kG_i kw_81) rfl rfl rfl hN9 (hts _ kw_56) (by decide +kernel) ⟨Nat.le_of_ble_eq_true rfl, Nat.le_of_ble_eq_true rfl⟩, rfl, hts _ kw_80⟩ ⟨s_Pk_blind, fun U hU hW => ⟨rfl, by rw [hU], by rw [hU]; exact hPc, va_K.moved hW.alike hK, hDc.weaken (fun _ _ _ _ => trivial), trivial⟩⟩ rfl rfl hl.1 rfl (lv_room (Nat.le_of_ble_eq_true rfl)) dX6_init_9 ⟨Nat.le_of_ble_eq_true rfl, Nat.le_of_ble_eq_true rfl⟩) hS (fun q _ h => hFc q h) hFc (fun u t H locs ht hvm hw hB hz1 hk1 hS => ?_)
  obtain ⟨n1, rfl⟩ : ∃ z, z = u := ⟨_, rfl⟩
  obtain ⟨hP1, hD1⟩ := hB
  rw [ht] at hP1
  obtain ⟨hP, hD⟩ := va_join (wr := [(h0, .inr (6, [.null, .null, .null, .null, .null, .null, .null, .null, .int 0]))]) (w1 := [(q1, .inr (3, [.ref n1, .int 0])), (n1, .inl (cy 0, 320, .inl (fun _ => 0)))]) hP hD [1] [0] rfl rfl (by decide) (by decide) hk1 hFc hP1 hD1
  replace hP : va_P G vwCl [(h0, .inr (6, [.null, .null, .null, .null, .null, .null, .null, .null, .int 0])), (q1, .inr (3, [.ref n1, .int 0])), (n1, .inl (cy 0, 320, .inl (fun _ => 0)))] H := hP
  replace hD : va_D A [(h0, .inr (6, [.null, .null, .null, .null, .null, .null, .null, .null, .int 0])), (q1, .inr (3, [.ref n1, .int 0])), (n1, .inl (cy 0, 320, .inl (fun _ => 0)))] := hD
  refine W.widen (k := 2) (n := 322) (Nat.le_of_ble_eq_true rfl) (Nat.le_of_ble_eq_true rfl) ?_
  refine va_putF (D := G) (ci := 6) (v := .ref q1) (ty := (.object "SlidingRanks$Tape")) (C := RX6) (T := TX6) (N := 9) hx hb hts inkX6 tyX6 tyX6_ok nmX6 hown hK hP hD hS 0 rfl rfl 0 (by decide) (hts _ kw_230) (fun _ h9 => h9) rfl hin rfl (by decide +kernel) rfl rfl (Nat.le_of_ble_eq_true rfl) dX6_init_12 (fun H locs hP hD hS => ?_)
  replace hP : va_P G vwCl [(h0, .inr (6, [.ref q1, .null, .null, .null, .null, .null, .null, .null, .int 0])), (q1, .inr (3, [.ref n1, .int 0])), (n1, .inl (cy 0, 320, .inl (fun _ => 0)))] H := hP
  replace hD : va_D A [(h0, .inr (6, [.ref q1, .null, .null, .null, .null, .null, .null, .null, .int 0])), (q1, .inr (3, [.ref n1, .int 0])), (n1, .inl (cy 0, 320, .inl (fun _ => 0)))] := hD
  refine lv_aload_n hx hb dX6_init_15 rfl (lv_at hl 0 rfl) ?_
  refine va_new (ci := 4) (fs := [.null, .int 0, .int 0, .int 0, .int 0, .int 0, .int 0, .int 0, .int 0, .int 0, .int 0, .int 0]) (C := RX4) (T := TX4) (N := 12) hx hb hts inkX4 tyX4 tyX4_ok hown (hts _ kw_93) (hts _ kw_94) (hts _ kw_57) hK hP hD hS hA rfl (by intro j hj; match j, hj with | 0, _ => rfl | 1, _ => rfl | 2, _ => rfl | 3, _ => rfl | 4, _ => rfl | 5, _ => rfl | 6, _ => rfl | 7, _ => rfl | 8, _ => rfl | 9, _ => rfl | 10, _ => rfl | 11, _ => rfl) (Nat.le_of_ble_eq_true rfl) (Nat.le_of_ble_eq_true rfl) dX6_init_16 (fun q2 H hP hD hS => ?_)
  refine W.widen (k := 3) (n := 334) (Nat.le_of_ble_eq_true rfl) (Nat.le_of_ble_eq_true rfl) ?_
  replace hP : va_P G vwCl [(h0, .inr (6, [.ref q1, .null, .null, .null, .null, .null, .null, .null, .int 0])), (q1, .inr (3, [.ref n1, .int 0])), (n1, .inl (cy 0, 320, .inl (fun _ => 0))), (q2, .inr (4, [.null, .int 0, .int 0, .int 0, .int 0, .int 0, .int 0, .int 0, .int 0, .int 0, .int 0, .int 0]))] H := hP
  replace hD : va_D A [(h0, .inr (6, [.ref q1, .null, .null, .null, .null, .null, .null, .null, .int 0])), (q1, .inr (3, [.ref n1, .int 0])), (n1, .inl (cy 0, 320, .inl (fun _ => 0))), (q2, .inr (4, [.null, .int 0, .int 0, .int 0, .int 0, .int 0, .int 0, .int 0, .int 0, .int 0, .int 0, .int 0]))] := hD
  refine lv_dup hx hb dX6_init_19 rfl ?_
  have hPc := hP.sub (ws' := [(q2, .inr (4, [.null, .int 0, .int 0, .int 0, .int 0, .int 0, .int 0, .int 0, .int 0, .int 0, .int 0, .int 0]))]) [3] rfl
  have hDc := hD.sub (ws' := [(q2, .inr (4, [.null, .int 0, .int 0, .int 0, .int 0, .int 0, .int 0, .int 0, .int 0, .int 0, .int 0, .int 0]))]) [3] (by decide) rfl
  have hFc := va_free (wc := [(q2, .inr (4, [.null, .int 0, .int 0, .int 0, .int 0, .int 0, .int 0, .int 0, .int 0, .int 0, .int 0, .int 0]))]) hD hS hA [3] rfl
  refine va_callv (va_runIN (As := []) (rest := [.ref q2, .ref h0]) ⟨hx, hb, hml, hown, hts⟩ (kcK_Teller H.size q2) ⟨va_cnB 0 hts (kG_i kw_97) rfl rfl rfl hN18 (hts _ kw_57) (by decide +kernel) ⟨Nat.le_of_ble_eq_true rfl, Nat.le_of_ble_eq_true rfl⟩, rfl, hts _ kw_96⟩ ⟨s_Pk_blind, fun U hU hW => ⟨rfl, by rw [hU], by rw [hU]; exact hPc, va_K.moved hW.alike hK, hDc.weaken (fun _ _ _ _ => trivial), trivial⟩⟩ rfl rfl hl.1 rfl (lv_room (Nat.le_of_ble_eq_true rfl)) dX6_init_20 ⟨Nat.le_of_ble_eq_true rfl, Nat.le_of_ble_eq_true rfl⟩) hS (fun q _ h => hFc q h) hFc (fun u t H locs ht hvm hw hB hz1 hk1 hS => ?_)
  obtain ⟨n2, n3⟩ := u
  obtain ⟨hP1, hD1⟩ := hB
  rw [ht] at hP1
  obtain ⟨hP, hD⟩ := va_join (wr := [(h0, .inr (6, [.ref q1, .null, .null, .null, .null, .null, .null, .null, .int 0])), (q1, .inr (3, [.ref n1, .int 0])), (n1, .inl (cy 0, 320, .inl (fun _ => 0)))]) (w1 := [(q2, .inr (4, [.ref n2, .int 12, .int 0, .int 0, .int 0, .int 0, .int 0, .int 0, .int (-4), .int 0, .int 0, .int 0])), (n2, .inr (1, [.ref n3, .int 0, .int 5, .int 1, .int 1, .int 2, .int 0, .int 0])), (n3, .inl (cy 1, 96, .inl (fun _ => 0)))]) hP hD [3] [0, 1, 2] rfl rfl (by decide) (by decide) hk1 hFc hP1 hD1
  replace hP : va_P G vwCl [(h0, .inr (6, [.ref q1, .null, .null, .null, .null, .null, .null, .null, .int 0])), (q1, .inr (3, [.ref n1, .int 0])), (n1, .inl (cy 0, 320, .inl (fun _ => 0))), (q2, .inr (4, [.ref n2, .int 12, .int 0, .int 0, .int 0, .int 0, .int 0, .int 0, .int (-4), .int 0, .int 0, .int 0])), (n2, .inr (1, [.ref n3, .int 0, .int 5, .int 1, .int 1, .int 2, .int 0, .int 0])), (n3, .inl (cy 1, 96, .inl (fun _ => 0)))] H := hP
  replace hD : va_D A [(h0, .inr (6, [.ref q1, .null, .null, .null, .null, .null, .null, .null, .int 0])), (q1, .inr (3, [.ref n1, .int 0])), (n1, .inl (cy 0, 320, .inl (fun _ => 0))), (q2, .inr (4, [.ref n2, .int 12, .int 0, .int 0, .int 0, .int 0, .int 0, .int 0, .int (-4), .int 0, .int 0, .int 0])), (n2, .inr (1, [.ref n3, .int 0, .int 5, .int 1, .int 1, .int 2, .int 0, .int 0])), (n3, .inl (cy 1, 96, .inl (fun _ => 0)))] := hD
  refine W.widen (k := 5) (n := 438) (Nat.le_of_ble_eq_true rfl) (Nat.le_of_ble_eq_true rfl) ?_
  refine va_putF (D := G) (ci := 6) (v := .ref q2) (ty := (.object "SlidingRanks$Teller")) (C := RX6) (T := TX6) (N := 9) hx hb hts inkX6 tyX6 tyX6_ok nmX6 hown hK hP hD hS 0 rfl rfl 1 (by decide) (hts _ kw_231) (fun _ h9 => h9) rfl hin rfl (by decide +kernel) rfl rfl (Nat.le_of_ble_eq_true rfl) dX6_init_23 (fun H locs hP hD hS => ?_)
  replace hP : va_P G vwCl [(h0, .inr (6, [.ref q1, .ref q2, .null, .null, .null, .null, .null, .null, .int 0])), (q1, .inr (3, [.ref n1, .int 0])), (n1, .inl (cy 0, 320, .inl (fun _ => 0))), (q2, .inr (4, [.ref n2, .int 12, .int 0, .int 0, .int 0, .int 0, .int 0, .int 0, .int (-4), .int 0, .int 0, .int 0])), (n2, .inr (1, [.ref n3, .int 0, .int 5, .int 1, .int 1, .int 2, .int 0, .int 0])), (n3, .inl (cy 1, 96, .inl (fun _ => 0)))] H := hP
  replace hD : va_D A [(h0, .inr (6, [.ref q1, .ref q2, .null, .null, .null, .null, .null, .null, .int 0])), (q1, .inr (3, [.ref n1, .int 0])), (n1, .inl (cy 0, 320, .inl (fun _ => 0))), (q2, .inr (4, [.ref n2, .int 12, .int 0, .int 0, .int 0, .int 0, .int 0, .int 0, .int (-4), .int 0, .int 0, .int 0])), (n2, .inr (1, [.ref n3, .int 0, .int 5, .int 1, .int 1, .int 2, .int 0, .int 0])), (n3, .inl (cy 1, 96, .inl (fun _ => 0)))] := hD
  refine lv_aload_n hx hb dX6_init_26 rfl (lv_at hl 0 rfl) ?_
  refine va_new (ci := 1) (fs := [.null, .int 0, .int 0, .int 0, .int 0, .int 0, .int 0, .int 0]) (C := RX1) (T := TX1) (N := 8) hx hb hts inkX1 tyX1 tyX1_ok hown (hts _ kw_194) (hts _ kw_100) (hts _ kw_58) hK hP hD hS hA rfl (by intro j hj; match j, hj with | 0, _ => rfl | 1, _ => rfl | 2, _ => rfl | 3, _ => rfl | 4, _ => rfl | 5, _ => rfl | 6, _ => rfl | 7, _ => rfl) (Nat.le_of_ble_eq_true rfl) (Nat.le_of_ble_eq_true rfl) dX6_init_27 (fun q3 H hP hD hS => ?_)
  refine W.widen (k := 6) (n := 446) (Nat.le_of_ble_eq_true rfl) (Nat.le_of_ble_eq_true rfl) ?_
  replace hP : va_P G vwCl [(h0, .inr (6, [.ref q1, .ref q2, .null, .null, .null, .null, .null, .null, .int 0])), (q1, .inr (3, [.ref n1, .int 0])), (n1, .inl (cy 0, 320, .inl (fun _ => 0))), (q2, .inr (4, [.ref n2, .int 12, .int 0, .int 0, .int 0, .int 0, .int 0, .int 0, .int (-4), .int 0, .int 0, .int 0])), (n2, .inr (1, [.ref n3, .int 0, .int 5, .int 1, .int 1, .int 2, .int 0, .int 0])), (n3, .inl (cy 1, 96, .inl (fun _ => 0))), (q3, .inr (1, [.null, .int 0, .int 0, .int 0, .int 0, .int 0, .int 0, .int 0]))] H := hP
  replace hD : va_D A [(h0, .inr (6, [.ref q1, .ref q2, .null, .null, .null, .null, .null, .null, .int 0])), (q1, .inr (3, [.ref n1, .int 0])), (n1, .inl (cy 0, 320, .inl (fun _ => 0))), (q2, .inr (4, [.ref n2, .int 12, .int 0, .int 0, .int 0, .int 0, .int 0, .int 0, .int (-4), .int 0, .int 0, .int 0])), (n2, .inr (1, [.ref n3, .int 0, .int 5, .int 1, .int 1, .int 2, .int 0, .int 0])), (n3, .inl (cy 1, 96, .inl (fun _ => 0))), (q3, .inr (1, [.null, .int 0, .int 0, .int 0, .int 0, .int 0, .int 0, .int 0]))] := hD
  refine lv_dup hx hb dX6_init_30 rfl ?_
  have hPc := hP.sub (ws' := [(q3, .inr (1, [.null, .int 0, .int 0, .int 0, .int 0, .int 0, .int 0, .int 0]))]) [6] rfl
  have hDc := hD.sub (ws' := [(q3, .inr (1, [.null, .int 0, .int 0, .int 0, .int 0, .int 0, .int 0, .int 0]))]) [6] (by decide) rfl
  have hFc := va_free (wc := [(q3, .inr (1, [.null, .int 0, .int 0, .int 0, .int 0, .int 0, .int 0, .int 0]))]) hD hS hA [6] rfl
  refine va_callv (va_runI (As := []) (rest := [.ref q3, .ref h0]) ⟨hx, hb, hml, hown, hts⟩ (kcK_Series H.size q3) (cwI 0 hts (kG_i kw_103) rfl rfl rfl (hts _ kw_58) (hts _ kw_195) (hts _ kw_102) rfl (by decide +kernel) ⟨Nat.le_of_ble_eq_true rfl, Nat.le_of_ble_eq_true rfl⟩) ⟨s_Pk_blind, fun U hU hW => ⟨rfl, by rw [hU], by rw [hU]; exact hPc, va_K.moved hW.alike hK, hDc.weaken (fun _ _ _ _ => trivial), trivial⟩⟩ rfl rfl hl.1 rfl (lv_room (Nat.le_of_ble_eq_true rfl)) dX6_init_31 ⟨Nat.le_of_ble_eq_true rfl, Nat.le_of_ble_eq_true rfl⟩) hS (fun q _ h => hFc q h) hFc (fun u t H locs ht hvm hw hB hz1 hk1 hS => ?_)
  obtain ⟨n4, rfl⟩ : ∃ z, z = u := ⟨_, rfl⟩
  obtain ⟨hP1, hD1⟩ := hB
  rw [ht] at hP1
  obtain ⟨hP, hD⟩ := va_join (wr := [(h0, .inr (6, [.ref q1, .ref q2, .null, .null, .null, .null, .null, .null, .int 0])), (q1, .inr (3, [.ref n1, .int 0])), (n1, .inl (cy 0, 320, .inl (fun _ => 0))), (q2, .inr (4, [.ref n2, .int 12, .int 0, .int 0, .int 0, .int 0, .int 0, .int 0, .int (-4), .int 0, .int 0, .int 0])), (n2, .inr (1, [.ref n3, .int 0, .int 5, .int 1, .int 1, .int 2, .int 0, .int 0])), (n3, .inl (cy 1, 96, .inl (fun _ => 0)))]) (w1 := [(q3, .inr (1, [.ref n4, .int 0, .int 5, .int 1, .int 1, .int 2, .int 0, .int 0])), (n4, .inl (cy 1, 96, .inl (fun _ => 0)))]) hP hD [6] [0, 1, 2, 3, 4, 5] rfl rfl (by decide) (by decide) hk1 hFc hP1 hD1
  replace hP : va_P G vwCl [(h0, .inr (6, [.ref q1, .ref q2, .null, .null, .null, .null, .null, .null, .int 0])), (q1, .inr (3, [.ref n1, .int 0])), (n1, .inl (cy 0, 320, .inl (fun _ => 0))), (q2, .inr (4, [.ref n2, .int 12, .int 0, .int 0, .int 0, .int 0, .int 0, .int 0, .int (-4), .int 0, .int 0, .int 0])), (n2, .inr (1, [.ref n3, .int 0, .int 5, .int 1, .int 1, .int 2, .int 0, .int 0])), (n3, .inl (cy 1, 96, .inl (fun _ => 0))), (q3, .inr (1, [.ref n4, .int 0, .int 5, .int 1, .int 1, .int 2, .int 0, .int 0])), (n4, .inl (cy 1, 96, .inl (fun _ => 0)))] H := hP
  replace hD : va_D A [(h0, .inr (6, [.ref q1, .ref q2, .null, .null, .null, .null, .null, .null, .int 0])), (q1, .inr (3, [.ref n1, .int 0])), (n1, .inl (cy 0, 320, .inl (fun _ => 0))), (q2, .inr (4, [.ref n2, .int 12, .int 0, .int 0, .int 0, .int 0, .int 0, .int 0, .int (-4), .int 0, .int 0, .int 0])), (n2, .inr (1, [.ref n3, .int 0, .int 5, .int 1, .int 1, .int 2, .int 0, .int 0])), (n3, .inl (cy 1, 96, .inl (fun _ => 0))), (q3, .inr (1, [.ref n4, .int 0, .int 5, .int 1, .int 1, .int 2, .int 0, .int 0])), (n4, .inl (cy 1, 96, .inl (fun _ => 0)))] := hD
  refine W.widen (k := 7) (n := 542) (Nat.le_of_ble_eq_true rfl) (Nat.le_of_ble_eq_true rfl) ?_
  refine va_putF (D := G) (ci := 6) (v := .ref q3) (ty := (.object "SlidingRanks$Series")) (C := RX6) (T := TX6) (N := 9) hx hb hts inkX6 tyX6 tyX6_ok nmX6 hown hK hP hD hS 0 rfl rfl 2 (by decide) (hts _ kw_232) (fun _ h9 => h9) rfl hin rfl (by decide +kernel) rfl rfl (Nat.le_of_ble_eq_true rfl) dX6_init_34 (fun H locs hP hD hS => ?_)
  replace hP : va_P G vwCl [(h0, .inr (6, [.ref q1, .ref q2, .ref q3, .null, .null, .null, .null, .null, .int 0])), (q1, .inr (3, [.ref n1, .int 0])), (n1, .inl (cy 0, 320, .inl (fun _ => 0))), (q2, .inr (4, [.ref n2, .int 12, .int 0, .int 0, .int 0, .int 0, .int 0, .int 0, .int (-4), .int 0, .int 0, .int 0])), (n2, .inr (1, [.ref n3, .int 0, .int 5, .int 1, .int 1, .int 2, .int 0, .int 0])), (n3, .inl (cy 1, 96, .inl (fun _ => 0))), (q3, .inr (1, [.ref n4, .int 0, .int 5, .int 1, .int 1, .int 2, .int 0, .int 0])), (n4, .inl (cy 1, 96, .inl (fun _ => 0)))] H := hP
  replace hD : va_D A [(h0, .inr (6, [.ref q1, .ref q2, .ref q3, .null, .null, .null, .null, .null, .int 0])), (q1, .inr (3, [.ref n1, .int 0])), (n1, .inl (cy 0, 320, .inl (fun _ => 0))), (q2, .inr (4, [.ref n2, .int 12, .int 0, .int 0, .int 0, .int 0, .int 0, .int 0, .int (-4), .int 0, .int 0, .int 0])), (n2, .inr (1, [.ref n3, .int 0, .int 5, .int 1, .int 1, .int 2, .int 0, .int 0])), (n3, .inl (cy 1, 96, .inl (fun _ => 0))), (q3, .inr (1, [.ref n4, .int 0, .int 5, .int 1, .int 1, .int 2, .int 0, .int 0])), (n4, .inl (cy 1, 96, .inl (fun _ => 0)))] := hD
  refine lv_aload_n hx hb dX6_init_37 rfl (lv_at hl 0 rfl) ?_
  refine va_new (ci := 0) (fs := [.null, .null, .int 0]) (C := RX0) (T := TX0) (N := 3) hx hb hts inkX0 tyX0 tyX0_ok hown (hts _ kw_196) (hts _ kw_197) (hts _ kw_59) hK hP hD hS hA rfl (by intro j hj; match j, hj with | 0, _ => rfl | 1, _ => rfl | 2, _ => rfl) (Nat.le_of_ble_eq_true rfl) (Nat.le_of_ble_eq_true rfl) dX6_init_38 (fun q4 H hP hD hS => ?_)
  refine W.widen (k := 8) (n := 545) (Nat.le_of_ble_eq_true rfl) (Nat.le_of_ble_eq_true rfl) ?_
  replace hP : va_P G vwCl [(h0, .inr (6, [.ref q1, .ref q2, .ref q3, .null, .null, .null, .null, .null, .int 0])), (q1, .inr (3, [.ref n1, .int 0])), (n1, .inl (cy 0, 320, .inl (fun _ => 0))), (q2, .inr (4, [.ref n2, .int 12, .int 0, .int 0, .int 0, .int 0, .int 0, .int 0, .int (-4), .int 0, .int 0, .int 0])), (n2, .inr (1, [.ref n3, .int 0, .int 5, .int 1, .int 1, .int 2, .int 0, .int 0])), (n3, .inl (cy 1, 96, .inl (fun _ => 0))), (q3, .inr (1, [.ref n4, .int 0, .int 5, .int 1, .int 1, .int 2, .int 0, .int 0])), (n4, .inl (cy 1, 96, .inl (fun _ => 0))), (q4, .inr (0, [.null, .null, .int 0]))] H := hP
  replace hD : va_D A [(h0, .inr (6, [.ref q1, .ref q2, .ref q3, .null, .null, .null, .null, .null, .int 0])), (q1, .inr (3, [.ref n1, .int 0])), (n1, .inl (cy 0, 320, .inl (fun _ => 0))), (q2, .inr (4, [.ref n2, .int 12, .int 0, .int 0, .int 0, .int 0, .int 0, .int 0, .int (-4), .int 0, .int 0, .int 0])), (n2, .inr (1, [.ref n3, .int 0, .int 5, .int 1, .int 1, .int 2, .int 0, .int 0])), (n3, .inl (cy 1, 96, .inl (fun _ => 0))), (q3, .inr (1, [.ref n4, .int 0, .int 5, .int 1, .int 1, .int 2, .int 0, .int 0])), (n4, .inl (cy 1, 96, .inl (fun _ => 0))), (q4, .inr (0, [.null, .null, .int 0]))] := hD
  refine lv_dup hx hb dX6_init_41 rfl ?_
  refine lv_aload_n hx hb dX6_init_42 rfl (lv_at hl 0 rfl) ?_
  refine va_get (D := G) (ci := 6) (v := .ref q3) (C := RX6) (T := TX6) (N := 9) hx hb hts inkX6 hown hK hP 0 rfl rfl 2 (by decide) (hts _ kw_232) (fun _ h9 => h9) rfl dX6_init_43 ?_
  have hPc := hP.sub (ws' := [(q4, .inr (0, [.null, .null, .int 0]))]) [8] rfl
  have hDc := hD.sub (ws' := [(q4, .inr (0, [.null, .null, .int 0]))]) [8] (by decide) rfl
  have hFc := va_free (wc := [(q4, .inr (0, [.null, .null, .int 0]))]) hD hS hA [8] rfl
  refine va_callv (va_runI (As := [.ref q3]) (rest := [.ref q4, .ref h0]) ⟨hx, hb, hml, hown, hts⟩ (kcK_Row H.size q4 q3) (cwI 1 hts (kG_i kw_200) rfl rfl rfl (hts _ kw_59) (hts _ kw_198) (hts _ kw_199) rfl (by decide +kernel) ⟨Nat.le_of_ble_eq_true rfl, Nat.le_of_ble_eq_true rfl⟩) ⟨s_Pk_blind, fun U hU hW => ⟨rfl, by rw [hU], by rw [hU]; exact hPc, va_K.moved hW.alike hK, hDc.weaken (fun _ _ _ _ => trivial), trivial⟩⟩ rfl rfl hl.1 rfl (lv_room (Nat.le_of_ble_eq_true rfl)) dX6_init_46 ⟨Nat.le_of_ble_eq_true rfl, Nat.le_of_ble_eq_true rfl⟩) hS (fun q _ h => hFc q h) hFc (fun u t H locs ht hvm hw hB hz1 hk1 hS => ?_)
  obtain ⟨n5, rfl⟩ : ∃ z, z = u := ⟨_, rfl⟩
  obtain ⟨hP1, hD1⟩ := hB
  rw [ht] at hP1
  obtain ⟨hP, hD⟩ := va_join (wr := [(h0, .inr (6, [.ref q1, .ref q2, .ref q3, .null, .null, .null, .null, .null, .int 0])), (q1, .inr (3, [.ref n1, .int 0])), (n1, .inl (cy 0, 320, .inl (fun _ => 0))), (q2, .inr (4, [.ref n2, .int 12, .int 0, .int 0, .int 0, .int 0, .int 0, .int 0, .int (-4), .int 0, .int 0, .int 0])), (n2, .inr (1, [.ref n3, .int 0, .int 5, .int 1, .int 1, .int 2, .int 0, .int 0])), (n3, .inl (cy 1, 96, .inl (fun _ => 0))), (q3, .inr (1, [.ref n4, .int 0, .int 5, .int 1, .int 1, .int 2, .int 0, .int 0])), (n4, .inl (cy 1, 96, .inl (fun _ => 0)))]) (w1 := [(q4, .inr (0, [.ref q3, .ref n5, .int 0])), (n5, .inl (cy 1, 24, .inl (fun _ => 0)))]) hP hD [8] [0, 1, 2, 3, 4, 5, 6, 7] rfl rfl (by decide) (by decide) hk1 hFc hP1 hD1
  replace hP : va_P G vwCl [(h0, .inr (6, [.ref q1, .ref q2, .ref q3, .null, .null, .null, .null, .null, .int 0])), (q1, .inr (3, [.ref n1, .int 0])), (n1, .inl (cy 0, 320, .inl (fun _ => 0))), (q2, .inr (4, [.ref n2, .int 12, .int 0, .int 0, .int 0, .int 0, .int 0, .int 0, .int (-4), .int 0, .int 0, .int 0])), (n2, .inr (1, [.ref n3, .int 0, .int 5, .int 1, .int 1, .int 2, .int 0, .int 0])), (n3, .inl (cy 1, 96, .inl (fun _ => 0))), (q3, .inr (1, [.ref n4, .int 0, .int 5, .int 1, .int 1, .int 2, .int 0, .int 0])), (n4, .inl (cy 1, 96, .inl (fun _ => 0))), (q4, .inr (0, [.ref q3, .ref n5, .int 0])), (n5, .inl (cy 1, 24, .inl (fun _ => 0)))] H := hP
  replace hD : va_D A [(h0, .inr (6, [.ref q1, .ref q2, .ref q3, .null, .null, .null, .null, .null, .int 0])), (q1, .inr (3, [.ref n1, .int 0])), (n1, .inl (cy 0, 320, .inl (fun _ => 0))), (q2, .inr (4, [.ref n2, .int 12, .int 0, .int 0, .int 0, .int 0, .int 0, .int 0, .int (-4), .int 0, .int 0, .int 0])), (n2, .inr (1, [.ref n3, .int 0, .int 5, .int 1, .int 1, .int 2, .int 0, .int 0])), (n3, .inl (cy 1, 96, .inl (fun _ => 0))), (q3, .inr (1, [.ref n4, .int 0, .int 5, .int 1, .int 1, .int 2, .int 0, .int 0])), (n4, .inl (cy 1, 96, .inl (fun _ => 0))), (q4, .inr (0, [.ref q3, .ref n5, .int 0])), (n5, .inl (cy 1, 24, .inl (fun _ => 0)))] := hD
  refine W.widen (k := 9) (n := 569) (Nat.le_of_ble_eq_true rfl) (Nat.le_of_ble_eq_true rfl) ?_
  refine va_putF (D := G) (ci := 6) (v := .ref q4) (ty := (.object "SlidingRanks$Row")) (C := RX6) (T := TX6) (N := 9) hx hb hts inkX6 tyX6 tyX6_ok nmX6 hown hK hP hD hS 0 rfl rfl 3 (by decide) (hts _ kw_233) (fun _ h9 => h9) rfl hin rfl (by decide +kernel) rfl rfl (Nat.le_of_ble_eq_true rfl) dX6_init_49 (fun H locs hP hD hS => ?_)
  replace hP : va_P G vwCl [(h0, .inr (6, [.ref q1, .ref q2, .ref q3, .ref q4, .null, .null, .null, .null, .int 0])), (q1, .inr (3, [.ref n1, .int 0])), (n1, .inl (cy 0, 320, .inl (fun _ => 0))), (q2, .inr (4, [.ref n2, .int 12, .int 0, .int 0, .int 0, .int 0, .int 0, .int 0, .int (-4), .int 0, .int 0, .int 0])), (n2, .inr (1, [.ref n3, .int 0, .int 5, .int 1, .int 1, .int 2, .int 0, .int 0])), (n3, .inl (cy 1, 96, .inl (fun _ => 0))), (q3, .inr (1, [.ref n4, .int 0, .int 5, .int 1, .int 1, .int 2, .int 0, .int 0])), (n4, .inl (cy 1, 96, .inl (fun _ => 0))), (q4, .inr (0, [.ref q3, .ref n5, .int 0])), (n5, .inl (cy 1, 24, .inl (fun _ => 0)))] H := hP
  replace hD : va_D A [(h0, .inr (6, [.ref q1, .ref q2, .ref q3, .ref q4, .null, .null, .null, .null, .int 0])), (q1, .inr (3, [.ref n1, .int 0])), (n1, .inl (cy 0, 320, .inl (fun _ => 0))), (q2, .inr (4, [.ref n2, .int 12, .int 0, .int 0, .int 0, .int 0, .int 0, .int 0, .int (-4), .int 0, .int 0, .int 0])), (n2, .inr (1, [.ref n3, .int 0, .int 5, .int 1, .int 1, .int 2, .int 0, .int 0])), (n3, .inl (cy 1, 96, .inl (fun _ => 0))), (q3, .inr (1, [.ref n4, .int 0, .int 5, .int 1, .int 1, .int 2, .int 0, .int 0])), (n4, .inl (cy 1, 96, .inl (fun _ => 0))), (q4, .inr (0, [.ref q3, .ref n5, .int 0])), (n5, .inl (cy 1, 24, .inl (fun _ => 0)))] := hD
  refine lv_aload_n hx hb dX6_init_52 rfl (lv_at hl 0 rfl) ?_
  refine va_new (ci := 5) (fs := [.null, .int 0]) (C := RX5) (T := TX5) (N := 2) hx hb hts inkX5 tyX5 tyX5_ok hown (hts _ kw_213) (hts _ kw_214) (hts _ kw_60) hK hP hD hS hA rfl (by intro j hj; match j, hj with | 0, _ => rfl | 1, _ => rfl) (Nat.le_of_ble_eq_true rfl) (Nat.le_of_ble_eq_true rfl) dX6_init_53 (fun q5 H hP hD hS => ?_)
  refine W.widen (k := 10) (n := 571) (Nat.le_of_ble_eq_true rfl) (Nat.le_of_ble_eq_true rfl) ?_
  replace hP : va_P G vwCl [(h0, .inr (6, [.ref q1, .ref q2, .ref q3, .ref q4, .null, .null, .null, .null, .int 0])), (q1, .inr (3, [.ref n1, .int 0])), (n1, .inl (cy 0, 320, .inl (fun _ => 0))), (q2, .inr (4, [.ref n2, .int 12, .int 0, .int 0, .int 0, .int 0, .int 0, .int 0, .int (-4), .int 0, .int 0, .int 0])), (n2, .inr (1, [.ref n3, .int 0, .int 5, .int 1, .int 1, .int 2, .int 0, .int 0])), (n3, .inl (cy 1, 96, .inl (fun _ => 0))), (q3, .inr (1, [.ref n4, .int 0, .int 5, .int 1, .int 1, .int 2, .int 0, .int 0])), (n4, .inl (cy 1, 96, .inl (fun _ => 0))), (q4, .inr (0, [.ref q3, .ref n5, .int 0])), (n5, .inl (cy 1, 24, .inl (fun _ => 0))), (q5, .inr (5, [.null, .int 0]))] H := hP
  replace hD : va_D A [(h0, .inr (6, [.ref q1, .ref q2, .ref q3, .ref q4, .null, .null, .null, .null, .int 0])), (q1, .inr (3, [.ref n1, .int 0])), (n1, .inl (cy 0, 320, .inl (fun _ => 0))), (q2, .inr (4, [.ref n2, .int 12, .int 0, .int 0, .int 0, .int 0, .int 0, .int 0, .int (-4), .int 0, .int 0, .int 0])), (n2, .inr (1, [.ref n3, .int 0, .int 5, .int 1, .int 1, .int 2, .int 0, .int 0])), (n3, .inl (cy 1, 96, .inl (fun _ => 0))), (q3, .inr (1, [.ref n4, .int 0, .int 5, .int 1, .int 1, .int 2, .int 0, .int 0])), (n4, .inl (cy 1, 96, .inl (fun _ => 0))), (q4, .inr (0, [.ref q3, .ref n5, .int 0])), (n5, .inl (cy 1, 24, .inl (fun _ => 0))), (q5, .inr (5, [.null, .int 0]))] := hD
  refine lv_dup hx hb dX6_init_56 rfl ?_
  have hPc := hP.sub (ws' := [(q5, .inr (5, [.null, .int 0]))]) [10] rfl
  have hDc := hD.sub (ws' := [(q5, .inr (5, [.null, .int 0]))]) [10] (by decide) rfl
  have hFc := va_free (wc := [(q5, .inr (5, [.null, .int 0]))]) hD hS hA [10] rfl
  refine va_callv (va_runIN (As := []) (rest := [.ref q5, .ref h0]) ⟨hx, hb, hml, hown, hts⟩ (kcK_Words H.size q5) ⟨va_cnB 0 hts (kG_i kw_217) rfl rfl rfl hN41 (hts _ kw_60) (by decide +kernel) ⟨Nat.le_of_ble_eq_true rfl, Nat.le_of_ble_eq_true rfl⟩, rfl, hts _ kw_216⟩ ⟨s_Pk_blind, fun U hU hW => ⟨rfl, by rw [hU], by rw [hU]; exact hPc, va_K.moved hW.alike hK, hDc.weaken (fun _ _ _ _ => trivial), trivial⟩⟩ rfl rfl hl.1 rfl (lv_room (Nat.le_of_ble_eq_true rfl)) dX6_init_57 ⟨Nat.le_of_ble_eq_true rfl, Nat.le_of_ble_eq_true rfl⟩) hS (fun q _ h => hFc q h) hFc (fun u t H locs ht hvm hw hB hz1 hk1 hS => ?_)
  obtain ⟨n6, rfl⟩ : ∃ z, z = u := ⟨_, rfl⟩
  obtain ⟨hP1, hD1⟩ := hB
  rw [ht] at hP1
  obtain ⟨hP, hD⟩ := va_join (wr := [(h0, .inr (6, [.ref q1, .ref q2, .ref q3, .ref q4, .null, .null, .null, .null, .int 0])), (q1, .inr (3, [.ref n1, .int 0])), (n1, .inl (cy 0, 320, .inl (fun _ => 0))), (q2, .inr (4, [.ref n2, .int 12, .int 0, .int 0, .int 0, .int 0, .int 0, .int 0, .int (-4), .int 0, .int 0, .int 0])), (n2, .inr (1, [.ref n3, .int 0, .int 5, .int 1, .int 1, .int 2, .int 0, .int 0])), (n3, .inl (cy 1, 96, .inl (fun _ => 0))), (q3, .inr (1, [.ref n4, .int 0, .int 5, .int 1, .int 1, .int 2, .int 0, .int 0])), (n4, .inl (cy 1, 96, .inl (fun _ => 0))), (q4, .inr (0, [.ref q3, .ref n5, .int 0])), (n5, .inl (cy 1, 24, .inl (fun _ => 0)))]) (w1 := [(q5, .inr (5, [.ref n6, .int 0])), (n6, .inl (cy 0, 8, .inl (fun _ => 0)))]) hP hD [10] [0, 1, 2, 3, 4, 5, 6, 7, 8, 9] rfl rfl (by decide) (by decide) hk1 hFc hP1 hD1
  replace hP : va_P G vwCl [(h0, .inr (6, [.ref q1, .ref q2, .ref q3, .ref q4, .null, .null, .null, .null, .int 0])), (q1, .inr (3, [.ref n1, .int 0])), (n1, .inl (cy 0, 320, .inl (fun _ => 0))), (q2, .inr (4, [.ref n2, .int 12, .int 0, .int 0, .int 0, .int 0, .int 0, .int 0, .int (-4), .int 0, .int 0, .int 0])), (n2, .inr (1, [.ref n3, .int 0, .int 5, .int 1, .int 1, .int 2, .int 0, .int 0])), (n3, .inl (cy 1, 96, .inl (fun _ => 0))), (q3, .inr (1, [.ref n4, .int 0, .int 5, .int 1, .int 1, .int 2, .int 0, .int 0])), (n4, .inl (cy 1, 96, .inl (fun _ => 0))), (q4, .inr (0, [.ref q3, .ref n5, .int 0])), (n5, .inl (cy 1, 24, .inl (fun _ => 0))), (q5, .inr (5, [.ref n6, .int 0])), (n6, .inl (cy 0, 8, .inl (fun _ => 0)))] H := hP
  replace hD : va_D A [(h0, .inr (6, [.ref q1, .ref q2, .ref q3, .ref q4, .null, .null, .null, .null, .int 0])), (q1, .inr (3, [.ref n1, .int 0])), (n1, .inl (cy 0, 320, .inl (fun _ => 0))), (q2, .inr (4, [.ref n2, .int 12, .int 0, .int 0, .int 0, .int 0, .int 0, .int 0, .int (-4), .int 0, .int 0, .int 0])), (n2, .inr (1, [.ref n3, .int 0, .int 5, .int 1, .int 1, .int 2, .int 0, .int 0])), (n3, .inl (cy 1, 96, .inl (fun _ => 0))), (q3, .inr (1, [.ref n4, .int 0, .int 5, .int 1, .int 1, .int 2, .int 0, .int 0])), (n4, .inl (cy 1, 96, .inl (fun _ => 0))), (q4, .inr (0, [.ref q3, .ref n5, .int 0])), (n5, .inl (cy 1, 24, .inl (fun _ => 0))), (q5, .inr (5, [.ref n6, .int 0])), (n6, .inl (cy 0, 8, .inl (fun _ => 0)))] := hD
  refine W.widen (k := 11) (n := 579) (Nat.le_of_ble_eq_true rfl) (Nat.le_of_ble_eq_true rfl) ?_
  refine va_putF (D := G) (ci := 6) (v := .ref q5) (ty := (.object "SlidingRanks$Words")) (C := RX6) (T := TX6) (N := 9) hx hb hts inkX6 tyX6 tyX6_ok nmX6 hown hK hP hD hS 0 rfl rfl 4 (by decide) (hts _ kw_234) (fun _ h9 => h9) rfl hin rfl (by decide +kernel) rfl rfl (Nat.le_of_ble_eq_true rfl) dX6_init_60 (fun H locs hP hD hS => ?_)
  replace hP : va_P G vwCl [(h0, .inr (6, [.ref q1, .ref q2, .ref q3, .ref q4, .ref q5, .null, .null, .null, .int 0])), (q1, .inr (3, [.ref n1, .int 0])), (n1, .inl (cy 0, 320, .inl (fun _ => 0))), (q2, .inr (4, [.ref n2, .int 12, .int 0, .int 0, .int 0, .int 0, .int 0, .int 0, .int (-4), .int 0, .int 0, .int 0])), (n2, .inr (1, [.ref n3, .int 0, .int 5, .int 1, .int 1, .int 2, .int 0, .int 0])), (n3, .inl (cy 1, 96, .inl (fun _ => 0))), (q3, .inr (1, [.ref n4, .int 0, .int 5, .int 1, .int 1, .int 2, .int 0, .int 0])), (n4, .inl (cy 1, 96, .inl (fun _ => 0))), (q4, .inr (0, [.ref q3, .ref n5, .int 0])), (n5, .inl (cy 1, 24, .inl (fun _ => 0))), (q5, .inr (5, [.ref n6, .int 0])), (n6, .inl (cy 0, 8, .inl (fun _ => 0)))] H := hP
  replace hD : va_D A [(h0, .inr (6, [.ref q1, .ref q2, .ref q3, .ref q4, .ref q5, .null, .null, .null, .int 0])), (q1, .inr (3, [.ref n1, .int 0])), (n1, .inl (cy 0, 320, .inl (fun _ => 0))), (q2, .inr (4, [.ref n2, .int 12, .int 0, .int 0, .int 0, .int 0, .int 0, .int 0, .int (-4), .int 0, .int 0, .int 0])), (n2, .inr (1, [.ref n3, .int 0, .int 5, .int 1, .int 1, .int 2, .int 0, .int 0])), (n3, .inl (cy 1, 96, .inl (fun _ => 0))), (q3, .inr (1, [.ref n4, .int 0, .int 5, .int 1, .int 1, .int 2, .int 0, .int 0])), (n4, .inl (cy 1, 96, .inl (fun _ => 0))), (q4, .inr (0, [.ref q3, .ref n5, .int 0])), (n5, .inl (cy 1, 24, .inl (fun _ => 0))), (q5, .inr (5, [.ref n6, .int 0])), (n6, .inl (cy 0, 8, .inl (fun _ => 0)))] := hD
  refine lv_aload_n hx hb dX6_init_63 rfl (lv_at hl 0 rfl) ?_
  refine lv_iconst (v := 2) hx hb dX6_init_64 (by decide) ?_
  refine s_newq (N' := 2) hx hb hown (hts _ kw_194) hA3 hK 3 rfl hP hD hS hA (by decide) (by decide) (Nat.le_of_ble_eq_true rfl) (Nat.le_of_ble_eq_true rfl) (Nat.le_of_ble_eq_true rfl) dX6_init_65 (fun q6 H hP hD hS => ?_)
  refine W.widen (k := 12) (n := 581) (Nat.le_of_ble_eq_true rfl) (Nat.le_of_ble_eq_true rfl) ?_
  replace hP : va_P G vwCl [(h0, .inr (6, [.ref q1, .ref q2, .ref q3, .ref q4, .ref q5, .null, .null, .null, .int 0])), (q1, .inr (3, [.ref n1, .int 0])), (n1, .inl (cy 0, 320, .inl (fun _ => 0))), (q2, .inr (4, [.ref n2, .int 12, .int 0, .int 0, .int 0, .int 0, .int 0, .int 0, .int (-4), .int 0, .int 0, .int 0])), (n2, .inr (1, [.ref n3, .int 0, .int 5, .int 1, .int 1, .int 2, .int 0, .int 0])), (n3, .inl (cy 1, 96, .inl (fun _ => 0))), (q3, .inr (1, [.ref n4, .int 0, .int 5, .int 1, .int 1, .int 2, .int 0, .int 0])), (n4, .inl (cy 1, 96, .inl (fun _ => 0))), (q4, .inr (0, [.ref q3, .ref n5, .int 0])), (n5, .inl (cy 1, 24, .inl (fun _ => 0))), (q5, .inr (5, [.ref n6, .int 0])), (n6, .inl (cy 0, 8, .inl (fun _ => 0))), (q6, .inl (cy 3, 2, .inr (.inr (.inr (.inr (fun _ => none))))))] H := hP
  replace hD : va_D A [(h0, .inr (6, [.ref q1, .ref q2, .ref q3, .ref q4, .ref q5, .null, .null, .null, .int 0])), (q1, .inr (3, [.ref n1, .int 0])), (n1, .inl (cy 0, 320, .inl (fun _ => 0))), (q2, .inr (4, [.ref n2, .int 12, .int 0, .int 0, .int 0, .int 0, .int 0, .int 0, .int (-4), .int 0, .int 0, .int 0])), (n2, .inr (1, [.ref n3, .int 0, .int 5, .int 1, .int 1, .int 2, .int 0, .int 0])), (n3, .inl (cy 1, 96, .inl (fun _ => 0))), (q3, .inr (1, [.ref n4, .int 0, .int 5, .int 1, .int 1, .int 2, .int 0, .int 0])), (n4, .inl (cy 1, 96, .inl (fun _ => 0))), (q4, .inr (0, [.ref q3, .ref n5, .int 0])), (n5, .inl (cy 1, 24, .inl (fun _ => 0))), (q5, .inr (5, [.ref n6, .int 0])), (n6, .inl (cy 0, 8, .inl (fun _ => 0))), (q6, .inl (cy 3, 2, .inr (.inr (.inr (.inr (fun _ => none))))))] := hD
  refine lv_dup hx hb dX6_init_68 rfl ?_
  refine lv_iconst (v := 0) hx hb dX6_init_69 (by decide) ?_
  refine va_new (ci := 1) (fs := [.null, .int 0, .int 0, .int 0, .int 0, .int 0, .int 0, .int 0]) (C := RX1) (T := TX1) (N := 8) hx hb hts inkX1 tyX1 tyX1_ok hown (hts _ kw_194) (hts _ kw_100) (hts _ kw_58) hK hP hD hS hA rfl (by intro j hj; match j, hj with | 0, _ => rfl | 1, _ => rfl | 2, _ => rfl | 3, _ => rfl | 4, _ => rfl | 5, _ => rfl | 6, _ => rfl | 7, _ => rfl) (Nat.le_of_ble_eq_true rfl) (Nat.le_of_ble_eq_true rfl) dX6_init_70 (fun q7 H hP hD hS => ?_)
  refine W.widen (k := 13) (n := 589) (Nat.le_of_ble_eq_true rfl) (Nat.le_of_ble_eq_true rfl) ?_
  replace hP : va_P G vwCl [(h0, .inr (6, [.ref q1, .ref q2, .ref q3, .ref q4, .ref q5, .null, .null, .null, .int 0])), (q1, .inr (3, [.ref n1, .int 0])), (n1, .inl (cy 0, 320, .inl (fun _ => 0))), (q2, .inr (4, [.ref n2, .int 12, .int 0, .int 0, .int 0, .int 0, .int 0, .int 0, .int (-4), .int 0, .int 0, .int 0])), (n2, .inr (1, [.ref n3, .int 0, .int 5, .int 1, .int 1, .int 2, .int 0, .int 0])), (n3, .inl (cy 1, 96, .inl (fun _ => 0))), (q3, .inr (1, [.ref n4, .int 0, .int 5, .int 1, .int 1, .int 2, .int 0, .int 0])), (n4, .inl (cy 1, 96, .inl (fun _ => 0))), (q4, .inr (0, [.ref q3, .ref n5, .int 0])), (n5, .inl (cy 1, 24, .inl (fun _ => 0))), (q5, .inr (5, [.ref n6, .int 0])), (n6, .inl (cy 0, 8, .inl (fun _ => 0))), (q6, .inl (cy 3, 2, .inr (.inr (.inr (.inr (fun _ => none)))))), (q7, .inr (1, [.null, .int 0, .int 0, .int 0, .int 0, .int 0, .int 0, .int 0]))] H := hP
  replace hD : va_D A [(h0, .inr (6, [.ref q1, .ref q2, .ref q3, .ref q4, .ref q5, .null, .null, .null, .int 0])), (q1, .inr (3, [.ref n1, .int 0])), (n1, .inl (cy 0, 320, .inl (fun _ => 0))), (q2, .inr (4, [.ref n2, .int 12, .int 0, .int 0, .int 0, .int 0, .int 0, .int 0, .int (-4), .int 0, .int 0, .int 0])), (n2, .inr (1, [.ref n3, .int 0, .int 5, .int 1, .int 1, .int 2, .int 0, .int 0])), (n3, .inl (cy 1, 96, .inl (fun _ => 0))), (q3, .inr (1, [.ref n4, .int 0, .int 5, .int 1, .int 1, .int 2, .int 0, .int 0])), (n4, .inl (cy 1, 96, .inl (fun _ => 0))), (q4, .inr (0, [.ref q3, .ref n5, .int 0])), (n5, .inl (cy 1, 24, .inl (fun _ => 0))), (q5, .inr (5, [.ref n6, .int 0])), (n6, .inl (cy 0, 8, .inl (fun _ => 0))), (q6, .inl (cy 3, 2, .inr (.inr (.inr (.inr (fun _ => none)))))), (q7, .inr (1, [.null, .int 0, .int 0, .int 0, .int 0, .int 0, .int 0, .int 0]))] := hD
  refine lv_dup hx hb dX6_init_73 rfl ?_
  have hPc := hP.sub (ws' := [(q7, .inr (1, [.null, .int 0, .int 0, .int 0, .int 0, .int 0, .int 0, .int 0]))]) [13] rfl
  have hDc := hD.sub (ws' := [(q7, .inr (1, [.null, .int 0, .int 0, .int 0, .int 0, .int 0, .int 0, .int 0]))]) [13] (by decide) rfl
  have hFc := va_free (wc := [(q7, .inr (1, [.null, .int 0, .int 0, .int 0, .int 0, .int 0, .int 0, .int 0]))]) hD hS hA [13] rfl
  refine va_callv (va_runI (As := []) (rest := [.ref q7, .int 0, .ref q6, .ref q6, .ref h0]) ⟨hx, hb, hml, hown, hts⟩ (kcK_Series H.size q7) (cwI 0 hts (kG_i kw_103) rfl rfl rfl (hts _ kw_58) (hts _ kw_195) (hts _ kw_102) rfl (by decide +kernel) ⟨Nat.le_of_ble_eq_true rfl, Nat.le_of_ble_eq_true rfl⟩) ⟨s_Pk_blind, fun U hU hW => ⟨rfl, by rw [hU], by rw [hU]; exact hPc, va_K.moved hW.alike hK, hDc.weaken (fun _ _ _ _ => trivial), trivial⟩⟩ rfl rfl hl.1 rfl (lv_room (Nat.le_of_ble_eq_true rfl)) dX6_init_74 ⟨Nat.le_of_ble_eq_true rfl, Nat.le_of_ble_eq_true rfl⟩) hS (fun q _ h => hFc q h) hFc (fun u t H locs ht hvm hw hB hz1 hk1 hS => ?_)
  obtain ⟨n7, rfl⟩ : ∃ z, z = u := ⟨_, rfl⟩
  obtain ⟨hP1, hD1⟩ := hB
  rw [ht] at hP1
  obtain ⟨hP, hD⟩ := va_join (wr := [(h0, .inr (6, [.ref q1, .ref q2, .ref q3, .ref q4, .ref q5, .null, .null, .null, .int 0])), (q1, .inr (3, [.ref n1, .int 0])), (n1, .inl (cy 0, 320, .inl (fun _ => 0))), (q2, .inr (4, [.ref n2, .int 12, .int 0, .int 0, .int 0, .int 0, .int 0, .int 0, .int (-4), .int 0, .int 0, .int 0])), (n2, .inr (1, [.ref n3, .int 0, .int 5, .int 1, .int 1, .int 2, .int 0, .int 0])), (n3, .inl (cy 1, 96, .inl (fun _ => 0))), (q3, .inr (1, [.ref n4, .int 0, .int 5, .int 1, .int 1, .int 2, .int 0, .int 0])), (n4, .inl (cy 1, 96, .inl (fun _ => 0))), (q4, .inr (0, [.ref q3, .ref n5, .int 0])), (n5, .inl (cy 1, 24, .inl (fun _ => 0))), (q5, .inr (5, [.ref n6, .int 0])), (n6, .inl (cy 0, 8, .inl (fun _ => 0))), (q6, .inl (cy 3, 2, .inr (.inr (.inr (.inr (fun _ => none))))))]) (w1 := [(q7, .inr (1, [.ref n7, .int 0, .int 5, .int 1, .int 1, .int 2, .int 0, .int 0])), (n7, .inl (cy 1, 96, .inl (fun _ => 0)))]) hP hD [13] [0, 1, 2, 3, 4, 5, 6, 7, 8, 9, 10, 11, 12] rfl rfl (by decide) (by decide) hk1 hFc hP1 hD1
  replace hP : va_P G vwCl [(h0, .inr (6, [.ref q1, .ref q2, .ref q3, .ref q4, .ref q5, .null, .null, .null, .int 0])), (q1, .inr (3, [.ref n1, .int 0])), (n1, .inl (cy 0, 320, .inl (fun _ => 0))), (q2, .inr (4, [.ref n2, .int 12, .int 0, .int 0, .int 0, .int 0, .int 0, .int 0, .int (-4), .int 0, .int 0, .int 0])), (n2, .inr (1, [.ref n3, .int 0, .int 5, .int 1, .int 1, .int 2, .int 0, .int 0])), (n3, .inl (cy 1, 96, .inl (fun _ => 0))), (q3, .inr (1, [.ref n4, .int 0, .int 5, .int 1, .int 1, .int 2, .int 0, .int 0])), (n4, .inl (cy 1, 96, .inl (fun _ => 0))), (q4, .inr (0, [.ref q3, .ref n5, .int 0])), (n5, .inl (cy 1, 24, .inl (fun _ => 0))), (q5, .inr (5, [.ref n6, .int 0])), (n6, .inl (cy 0, 8, .inl (fun _ => 0))), (q6, .inl (cy 3, 2, .inr (.inr (.inr (.inr (fun _ => none)))))), (q7, .inr (1, [.ref n7, .int 0, .int 5, .int 1, .int 1, .int 2, .int 0, .int 0])), (n7, .inl (cy 1, 96, .inl (fun _ => 0)))] H := hP
  replace hD : va_D A [(h0, .inr (6, [.ref q1, .ref q2, .ref q3, .ref q4, .ref q5, .null, .null, .null, .int 0])), (q1, .inr (3, [.ref n1, .int 0])), (n1, .inl (cy 0, 320, .inl (fun _ => 0))), (q2, .inr (4, [.ref n2, .int 12, .int 0, .int 0, .int 0, .int 0, .int 0, .int 0, .int (-4), .int 0, .int 0, .int 0])), (n2, .inr (1, [.ref n3, .int 0, .int 5, .int 1, .int 1, .int 2, .int 0, .int 0])), (n3, .inl (cy 1, 96, .inl (fun _ => 0))), (q3, .inr (1, [.ref n4, .int 0, .int 5, .int 1, .int 1, .int 2, .int 0, .int 0])), (n4, .inl (cy 1, 96, .inl (fun _ => 0))), (q4, .inr (0, [.ref q3, .ref n5, .int 0])), (n5, .inl (cy 1, 24, .inl (fun _ => 0))), (q5, .inr (5, [.ref n6, .int 0])), (n6, .inl (cy 0, 8, .inl (fun _ => 0))), (q6, .inl (cy 3, 2, .inr (.inr (.inr (.inr (fun _ => none)))))), (q7, .inr (1, [.ref n7, .int 0, .int 5, .int 1, .int 1, .int 2, .int 0, .int 0])), (n7, .inl (cy 1, 96, .inl (fun _ => 0)))] := hD
  refine W.widen (k := 14) (n := 685) (Nat.le_of_ble_eq_true rfl) (Nat.le_of_ble_eq_true rfl) ?_
  refine va_astq hx hb hK hP hD hS 12 3 13 1 rfl rfl rfl rfl (by unfold vp_in; decide) dX6_init_77 (fun H locs hP hD hS => ?_)
  rw [cl_0] at hP hD
  replace hP : va_P G vwCl [(h0, .inr (6, [.ref q1, .ref q2, .ref q3, .ref q4, .ref q5, .null, .null, .null, .int 0])), (q1, .inr (3, [.ref n1, .int 0])), (n1, .inl (cy 0, 320, .inl (fun _ => 0))), (q2, .inr (4, [.ref n2, .int 12, .int 0, .int 0, .int 0, .int 0, .int 0, .int 0, .int (-4), .int 0, .int 0, .int 0])), (n2, .inr (1, [.ref n3, .int 0, .int 5, .int 1, .int 1, .int 2, .int 0, .int 0])), (n3, .inl (cy 1, 96, .inl (fun _ => 0))), (q3, .inr (1, [.ref n4, .int 0, .int 5, .int 1, .int 1, .int 2, .int 0, .int 0])), (n4, .inl (cy 1, 96, .inl (fun _ => 0))), (q4, .inr (0, [.ref q3, .ref n5, .int 0])), (n5, .inl (cy 1, 24, .inl (fun _ => 0))), (q5, .inr (5, [.ref n6, .int 0])), (n6, .inl (cy 0, 8, .inl (fun _ => 0))), (q6, .inl (cy 3, 2, .inr (.inr (.inr (.inr (va_up (fun _ => none) 0 (some q7))))))), (q7, .inr (1, [.ref n7, .int 0, .int 5, .int 1, .int 1, .int 2, .int 0, .int 0])), (n7, .inl (cy 1, 96, .inl (fun _ => 0)))] H := hP
  replace hD : va_D A [(h0, .inr (6, [.ref q1, .ref q2, .ref q3, .ref q4, .ref q5, .null, .null, .null, .int 0])), (q1, .inr (3, [.ref n1, .int 0])), (n1, .inl (cy 0, 320, .inl (fun _ => 0))), (q2, .inr (4, [.ref n2, .int 12, .int 0, .int 0, .int 0, .int 0, .int 0, .int 0, .int (-4), .int 0, .int 0, .int 0])), (n2, .inr (1, [.ref n3, .int 0, .int 5, .int 1, .int 1, .int 2, .int 0, .int 0])), (n3, .inl (cy 1, 96, .inl (fun _ => 0))), (q3, .inr (1, [.ref n4, .int 0, .int 5, .int 1, .int 1, .int 2, .int 0, .int 0])), (n4, .inl (cy 1, 96, .inl (fun _ => 0))), (q4, .inr (0, [.ref q3, .ref n5, .int 0])), (n5, .inl (cy 1, 24, .inl (fun _ => 0))), (q5, .inr (5, [.ref n6, .int 0])), (n6, .inl (cy 0, 8, .inl (fun _ => 0))), (q6, .inl (cy 3, 2, .inr (.inr (.inr (.inr (va_up (fun _ => none) 0 (some q7))))))), (q7, .inr (1, [.ref n7, .int 0, .int 5, .int 1, .int 1, .int 2, .int 0, .int 0])), (n7, .inl (cy 1, 96, .inl (fun _ => 0)))] := hD
  refine lv_dup hx hb dX6_init_78 rfl ?_
  refine lv_iconst (v := 1) hx hb dX6_init_79 (by decide) ?_
  refine va_new (ci := 1) (fs := [.null, .int 0, .int 0, .int 0, .int 0, .int 0, .int 0, .int 0]) (C := RX1) (T := TX1) (N := 8) hx hb hts inkX1 tyX1 tyX1_ok hown (hts _ kw_194) (hts _ kw_100) (hts _ kw_58) hK hP hD hS hA rfl (by intro j hj; match j, hj with | 0, _ => rfl | 1, _ => rfl | 2, _ => rfl | 3, _ => rfl | 4, _ => rfl | 5, _ => rfl | 6, _ => rfl | 7, _ => rfl) (Nat.le_of_ble_eq_true rfl) (Nat.le_of_ble_eq_true rfl) dX6_init_80 (fun q8 H hP hD hS => ?_)
  refine W.widen (k := 15) (n := 693) (Nat.le_of_ble_eq_true rfl) (Nat.le_of_ble_eq_true rfl) ?_
  replace hP : va_P G vwCl [(h0, .inr (6, [.ref q1, .ref q2, .ref q3, .ref q4, .ref q5, .null, .null, .null, .int 0])), (q1, .inr (3, [.ref n1, .int 0])), (n1, .inl (cy 0, 320, .inl (fun _ => 0))), (q2, .inr (4, [.ref n2, .int 12, .int 0, .int 0, .int 0, .int 0, .int 0, .int 0, .int (-4), .int 0, .int 0, .int 0])), (n2, .inr (1, [.ref n3, .int 0, .int 5, .int 1, .int 1, .int 2, .int 0, .int 0])), (n3, .inl (cy 1, 96, .inl (fun _ => 0))), (q3, .inr (1, [.ref n4, .int 0, .int 5, .int 1, .int 1, .int 2, .int 0, .int 0])), (n4, .inl (cy 1, 96, .inl (fun _ => 0))), (q4, .inr (0, [.ref q3, .ref n5, .int 0])), (n5, .inl (cy 1, 24, .inl (fun _ => 0))), (q5, .inr (5, [.ref n6, .int 0])), (n6, .inl (cy 0, 8, .inl (fun _ => 0))), (q6, .inl (cy 3, 2, .inr (.inr (.inr (.inr (va_up (fun _ => none) 0 (some q7))))))), (q7, .inr (1, [.ref n7, .int 0, .int 5, .int 1, .int 1, .int 2, .int 0, .int 0])), (n7, .inl (cy 1, 96, .inl (fun _ => 0))), (q8, .inr (1, [.null, .int 0, .int 0, .int 0, .int 0, .int 0, .int 0, .int 0]))] H := hP
  replace hD : va_D A [(h0, .inr (6, [.ref q1, .ref q2, .ref q3, .ref q4, .ref q5, .null, .null, .null, .int 0])), (q1, .inr (3, [.ref n1, .int 0])), (n1, .inl (cy 0, 320, .inl (fun _ => 0))), (q2, .inr (4, [.ref n2, .int 12, .int 0, .int 0, .int 0, .int 0, .int 0, .int 0, .int (-4), .int 0, .int 0, .int 0])), (n2, .inr (1, [.ref n3, .int 0, .int 5, .int 1, .int 1, .int 2, .int 0, .int 0])), (n3, .inl (cy 1, 96, .inl (fun _ => 0))), (q3, .inr (1, [.ref n4, .int 0, .int 5, .int 1, .int 1, .int 2, .int 0, .int 0])), (n4, .inl (cy 1, 96, .inl (fun _ => 0))), (q4, .inr (0, [.ref q3, .ref n5, .int 0])), (n5, .inl (cy 1, 24, .inl (fun _ => 0))), (q5, .inr (5, [.ref n6, .int 0])), (n6, .inl (cy 0, 8, .inl (fun _ => 0))), (q6, .inl (cy 3, 2, .inr (.inr (.inr (.inr (va_up (fun _ => none) 0 (some q7))))))), (q7, .inr (1, [.ref n7, .int 0, .int 5, .int 1, .int 1, .int 2, .int 0, .int 0])), (n7, .inl (cy 1, 96, .inl (fun _ => 0))), (q8, .inr (1, [.null, .int 0, .int 0, .int 0, .int 0, .int 0, .int 0, .int 0]))] := hD
  refine lv_dup hx hb dX6_init_83 rfl ?_
  have hPc := hP.sub (ws' := [(q8, .inr (1, [.null, .int 0, .int 0, .int 0, .int 0, .int 0, .int 0, .int 0]))]) [15] rfl
  have hDc := hD.sub (ws' := [(q8, .inr (1, [.null, .int 0, .int 0, .int 0, .int 0, .int 0, .int 0, .int 0]))]) [15] (by decide) rfl
  have hFc := va_free (wc := [(q8, .inr (1, [.null, .int 0, .int 0, .int 0, .int 0, .int 0, .int 0, .int 0]))]) hD hS hA [15] rfl
  refine va_callv (va_runI (As := []) (rest := [.ref q8, .int 1, .ref q6, .ref q6, .ref h0]) ⟨hx, hb, hml, hown, hts⟩ (kcK_Series H.size q8) (cwI 0 hts (kG_i kw_103) rfl rfl rfl (hts _ kw_58) (hts _ kw_195) (hts _ kw_102) rfl (by decide +kernel) ⟨Nat.le_of_ble_eq_true rfl, Nat.le_of_ble_eq_true rfl⟩) ⟨s_Pk_blind, fun U hU hW => ⟨rfl, by rw [hU], by rw [hU]; exact hPc, va_K.moved hW.alike hK, hDc.weaken (fun _ _ _ _ => trivial), trivial⟩⟩ rfl rfl hl.1 rfl (lv_room (Nat.le_of_ble_eq_true rfl)) dX6_init_84 ⟨Nat.le_of_ble_eq_true rfl, Nat.le_of_ble_eq_true rfl⟩) hS (fun q _ h => hFc q h) hFc (fun u t H locs ht hvm hw hB hz1 hk1 hS => ?_)
  obtain ⟨n8, rfl⟩ : ∃ z, z = u := ⟨_, rfl⟩
  obtain ⟨hP1, hD1⟩ := hB
  rw [ht] at hP1
  obtain ⟨hP, hD⟩ := va_join (wr := [(h0, .inr (6, [.ref q1, .ref q2, .ref q3, .ref q4, .ref q5, .null, .null, .null, .int 0])), (q1, .inr (3, [.ref n1, .int 0])), (n1, .inl (cy 0, 320, .inl (fun _ => 0))), (q2, .inr (4, [.ref n2, .int 12, .int 0, .int 0, .int 0, .int 0, .int 0, .int 0, .int (-4), .int 0, .int 0, .int 0])), (n2, .inr (1, [.ref n3, .int 0, .int 5, .int 1, .int 1, .int 2, .int 0, .int 0])), (n3, .inl (cy 1, 96, .inl (fun _ => 0))), (q3, .inr (1, [.ref n4, .int 0, .int 5, .int 1, .int 1, .int 2, .int 0, .int 0])), (n4, .inl (cy 1, 96, .inl (fun _ => 0))), (q4, .inr (0, [.ref q3, .ref n5, .int 0])), (n5, .inl (cy 1, 24, .inl (fun _ => 0))), (q5, .inr (5, [.ref n6, .int 0])), (n6, .inl (cy 0, 8, .inl (fun _ => 0))), (q6, .inl (cy 3, 2, .inr (.inr (.inr (.inr (va_up (fun _ => none) 0 (some q7))))))), (q7, .inr (1, [.ref n7, .int 0, .int 5, .int 1, .int 1, .int 2, .int 0, .int 0])), (n7, .inl (cy 1, 96, .inl (fun _ => 0)))]) (w1 := [(q8, .inr (1, [.ref n8, .int 0, .int 5, .int 1, .int 1, .int 2, .int 0, .int 0])), (n8, .inl (cy 1, 96, .inl (fun _ => 0)))]) hP hD [15] [0, 1, 2, 3, 4, 5, 6, 7, 8, 9, 10, 11, 12, 13, 14] rfl rfl (by decide) (by decide) hk1 hFc hP1 hD1
  replace hP : va_P G vwCl [(h0, .inr (6, [.ref q1, .ref q2, .ref q3, .ref q4, .ref q5, .null, .null, .null, .int 0])), (q1, .inr (3, [.ref n1, .int 0])), (n1, .inl (cy 0, 320, .inl (fun _ => 0))), (q2, .inr (4, [.ref n2, .int 12, .int 0, .int 0, .int 0, .int 0, .int 0, .int 0, .int (-4), .int 0, .int 0, .int 0])), (n2, .inr (1, [.ref n3, .int 0, .int 5, .int 1, .int 1, .int 2, .int 0, .int 0])), (n3, .inl (cy 1, 96, .inl (fun _ => 0))), (q3, .inr (1, [.ref n4, .int 0, .int 5, .int 1, .int 1, .int 2, .int 0, .int 0])), (n4, .inl (cy 1, 96, .inl (fun _ => 0))), (q4, .inr (0, [.ref q3, .ref n5, .int 0])), (n5, .inl (cy 1, 24, .inl (fun _ => 0))), (q5, .inr (5, [.ref n6, .int 0])), (n6, .inl (cy 0, 8, .inl (fun _ => 0))), (q6, .inl (cy 3, 2, .inr (.inr (.inr (.inr (va_up (fun _ => none) 0 (some q7))))))), (q7, .inr (1, [.ref n7, .int 0, .int 5, .int 1, .int 1, .int 2, .int 0, .int 0])), (n7, .inl (cy 1, 96, .inl (fun _ => 0))), (q8, .inr (1, [.ref n8, .int 0, .int 5, .int 1, .int 1, .int 2, .int 0, .int 0])), (n8, .inl (cy 1, 96, .inl (fun _ => 0)))] H := hP
  replace hD : va_D A [(h0, .inr (6, [.ref q1, .ref q2, .ref q3, .ref q4, .ref q5, .null, .null, .null, .int 0])), (q1, .inr (3, [.ref n1, .int 0])), (n1, .inl (cy 0, 320, .inl (fun _ => 0))), (q2, .inr (4, [.ref n2, .int 12, .int 0, .int 0, .int 0, .int 0, .int 0, .int 0, .int (-4), .int 0, .int 0, .int 0])), (n2, .inr (1, [.ref n3, .int 0, .int 5, .int 1, .int 1, .int 2, .int 0, .int 0])), (n3, .inl (cy 1, 96, .inl (fun _ => 0))), (q3, .inr (1, [.ref n4, .int 0, .int 5, .int 1, .int 1, .int 2, .int 0, .int 0])), (n4, .inl (cy 1, 96, .inl (fun _ => 0))), (q4, .inr (0, [.ref q3, .ref n5, .int 0])), (n5, .inl (cy 1, 24, .inl (fun _ => 0))), (q5, .inr (5, [.ref n6, .int 0])), (n6, .inl (cy 0, 8, .inl (fun _ => 0))), (q6, .inl (cy 3, 2, .inr (.inr (.inr (.inr (va_up (fun _ => none) 0 (some q7))))))), (q7, .inr (1, [.ref n7, .int 0, .int 5, .int 1, .int 1, .int 2, .int 0, .int 0])), (n7, .inl (cy 1, 96, .inl (fun _ => 0))), (q8, .inr (1, [.ref n8, .int 0, .int 5, .int 1, .int 1, .int 2, .int 0, .int 0])), (n8, .inl (cy 1, 96, .inl (fun _ => 0)))] := hD
  refine W.widen (k := 16) (n := 789) (Nat.le_of_ble_eq_true rfl) (Nat.le_of_ble_eq_true rfl) ?_
  refine va_astq hx hb hK hP hD hS 12 3 15 1 rfl rfl rfl rfl (by unfold vp_in; decide) dX6_init_87 (fun H locs hP hD hS => ?_)
  rw [cl_1] at hP hD
  replace hP : va_P G vwCl [(h0, .inr (6, [.ref q1, .ref q2, .ref q3, .ref q4, .ref q5, .null, .null, .null, .int 0])), (q1, .inr (3, [.ref n1, .int 0])), (n1, .inl (cy 0, 320, .inl (fun _ => 0))), (q2, .inr (4, [.ref n2, .int 12, .int 0, .int 0, .int 0, .int 0, .int 0, .int 0, .int (-4), .int 0, .int 0, .int 0])), (n2, .inr (1, [.ref n3, .int 0, .int 5, .int 1, .int 1, .int 2, .int 0, .int 0])), (n3, .inl (cy 1, 96, .inl (fun _ => 0))), (q3, .inr (1, [.ref n4, .int 0, .int 5, .int 1, .int 1, .int 2, .int 0, .int 0])), (n4, .inl (cy 1, 96, .inl (fun _ => 0))), (q4, .inr (0, [.ref q3, .ref n5, .int 0])), (n5, .inl (cy 1, 24, .inl (fun _ => 0))), (q5, .inr (5, [.ref n6, .int 0])), (n6, .inl (cy 0, 8, .inl (fun _ => 0))), (q6, .inl (cy 3, 2, .inr (.inr (.inr (.inr (va_up (va_up (fun _ => none) 0 (some q7)) 1 (some q8))))))), (q7, .inr (1, [.ref n7, .int 0, .int 5, .int 1, .int 1, .int 2, .int 0, .int 0])), (n7, .inl (cy 1, 96, .inl (fun _ => 0))), (q8, .inr (1, [.ref n8, .int 0, .int 5, .int 1, .int 1, .int 2, .int 0, .int 0])), (n8, .inl (cy 1, 96, .inl (fun _ => 0)))] H := hP
  replace hD : va_D A [(h0, .inr (6, [.ref q1, .ref q2, .ref q3, .ref q4, .ref q5, .null, .null, .null, .int 0])), (q1, .inr (3, [.ref n1, .int 0])), (n1, .inl (cy 0, 320, .inl (fun _ => 0))), (q2, .inr (4, [.ref n2, .int 12, .int 0, .int 0, .int 0, .int 0, .int 0, .int 0, .int (-4), .int 0, .int 0, .int 0])), (n2, .inr (1, [.ref n3, .int 0, .int 5, .int 1, .int 1, .int 2, .int 0, .int 0])), (n3, .inl (cy 1, 96, .inl (fun _ => 0))), (q3, .inr (1, [.ref n4, .int 0, .int 5, .int 1, .int 1, .int 2, .int 0, .int 0])), (n4, .inl (cy 1, 96, .inl (fun _ => 0))), (q4, .inr (0, [.ref q3, .ref n5, .int 0])), (n5, .inl (cy 1, 24, .inl (fun _ => 0))), (q5, .inr (5, [.ref n6, .int 0])), (n6, .inl (cy 0, 8, .inl (fun _ => 0))), (q6, .inl (cy 3, 2, .inr (.inr (.inr (.inr (va_up (va_up (fun _ => none) 0 (some q7)) 1 (some q8))))))), (q7, .inr (1, [.ref n7, .int 0, .int 5, .int 1, .int 1, .int 2, .int 0, .int 0])), (n7, .inl (cy 1, 96, .inl (fun _ => 0))), (q8, .inr (1, [.ref n8, .int 0, .int 5, .int 1, .int 1, .int 2, .int 0, .int 0])), (n8, .inl (cy 1, 96, .inl (fun _ => 0)))] := hD
  refine va_putF (D := G) (ci := 6) (v := .ref q6) (ty := (.array (.object "SlidingRanks$Series"))) (C := RX6) (T := TX6) (N := 9) hx hb hts inkX6 tyX6 tyX6_ok nmX6 hown hK hP hD hS 0 rfl rfl 5 (by decide) (hts _ kw_235) (fun _ h9 => h9) rfl hin rfl (by decide +kernel) rfl rfl (Nat.le_of_ble_eq_true rfl) dX6_init_88 (fun H locs hP hD hS => ?_)
  replace hP : va_P G vwCl [(h0, .inr (6, [.ref q1, .ref q2, .ref q3, .ref q4, .ref q5, .ref q6, .null, .null, .int 0])), (q1, .inr (3, [.ref n1, .int 0])), (n1, .inl (cy 0, 320, .inl (fun _ => 0))), (q2, .inr (4, [.ref n2, .int 12, .int 0, .int 0, .int 0, .int 0, .int 0, .int 0, .int (-4), .int 0, .int 0, .int 0])), (n2, .inr (1, [.ref n3, .int 0, .int 5, .int 1, .int 1, .int 2, .int 0, .int 0])), (n3, .inl (cy 1, 96, .inl (fun _ => 0))), (q3, .inr (1, [.ref n4, .int 0, .int 5, .int 1, .int 1, .int 2, .int 0, .int 0])), (n4, .inl (cy 1, 96, .inl (fun _ => 0))), (q4, .inr (0, [.ref q3, .ref n5, .int 0])), (n5, .inl (cy 1, 24, .inl (fun _ => 0))), (q5, .inr (5, [.ref n6, .int 0])), (n6, .inl (cy 0, 8, .inl (fun _ => 0))), (q6, .inl (cy 3, 2, .inr (.inr (.inr (.inr (va_up (va_up (fun _ => none) 0 (some q7)) 1 (some q8))))))), (q7, .inr (1, [.ref n7, .int 0, .int 5, .int 1, .int 1, .int 2, .int 0, .int 0])), (n7, .inl (cy 1, 96, .inl (fun _ => 0))), (q8, .inr (1, [.ref n8, .int 0, .int 5, .int 1, .int 1, .int 2, .int 0, .int 0])), (n8, .inl (cy 1, 96, .inl (fun _ => 0)))] H := hP
  replace hD : va_D A [(h0, .inr (6, [.ref q1, .ref q2, .ref q3, .ref q4, .ref q5, .ref q6, .null, .null, .int 0])), (q1, .inr (3, [.ref n1, .int 0])), (n1, .inl (cy 0, 320, .inl (fun _ => 0))), (q2, .inr (4, [.ref n2, .int 12, .int 0, .int 0, .int 0, .int 0, .int 0, .int 0, .int (-4), .int 0, .int 0, .int 0])), (n2, .inr (1, [.ref n3, .int 0, .int 5, .int 1, .int 1, .int 2, .int 0, .int 0])), (n3, .inl (cy 1, 96, .inl (fun _ => 0))), (q3, .inr (1, [.ref n4, .int 0, .int 5, .int 1, .int 1, .int 2, .int 0, .int 0])), (n4, .inl (cy 1, 96, .inl (fun _ => 0))), (q4, .inr (0, [.ref q3, .ref n5, .int 0])), (n5, .inl (cy 1, 24, .inl (fun _ => 0))), (q5, .inr (5, [.ref n6, .int 0])), (n6, .inl (cy 0, 8, .inl (fun _ => 0))), (q6, .inl (cy 3, 2, .inr (.inr (.inr (.inr (va_up (va_up (fun _ => none) 0 (some q7)) 1 (some q8))))))), (q7, .inr (1, [.ref n7, .int 0, .int 5, .int 1, .int 1, .int 2, .int 0, .int 0])), (n7, .inl (cy 1, 96, .inl (fun _ => 0))), (q8, .inr (1, [.ref n8, .int 0, .int 5, .int 1, .int 1, .int 2, .int 0, .int 0])), (n8, .inl (cy 1, 96, .inl (fun _ => 0)))] := hD
  refine lv_aload_n hx hb dX6_init_91 rfl (lv_at hl 0 rfl) ?_
  refine lv_iconst (v := 2) hx hb dX6_init_92 (by decide) ?_
  refine s_newa (N' := 2) (atype := .boolean) (ty := .boolean) rfl hx hb (hts _ kw_258) hK 2 rfl (fun _ h => h) hP hD hS hA (fun _ => rfl) (by decide) (by decide) (Nat.le_of_ble_eq_true rfl) (Nat.le_of_ble_eq_true rfl) (Nat.le_of_ble_eq_true rfl) dX6_init_93 (fun q9 H hP hD hS => ?_)
  refine W.widen (k := 17) (n := 791) (Nat.le_of_ble_eq_true rfl) (Nat.le_of_ble_eq_true rfl) ?_
  replace hP : va_P G vwCl [(h0, .inr (6, [.ref q1, .ref q2, .ref q3, .ref q4, .ref q5, .ref q6, .null, .null, .int 0])), (q1, .inr (3, [.ref n1, .int 0])), (n1, .inl (cy 0, 320, .inl (fun _ => 0))), (q2, .inr (4, [.ref n2, .int 12, .int 0, .int 0, .int 0, .int 0, .int 0, .int 0, .int (-4), .int 0, .int 0, .int 0])), (n2, .inr (1, [.ref n3, .int 0, .int 5, .int 1, .int 1, .int 2, .int 0, .int 0])), (n3, .inl (cy 1, 96, .inl (fun _ => 0))), (q3, .inr (1, [.ref n4, .int 0, .int 5, .int 1, .int 1, .int 2, .int 0, .int 0])), (n4, .inl (cy 1, 96, .inl (fun _ => 0))), (q4, .inr (0, [.ref q3, .ref n5, .int 0])), (n5, .inl (cy 1, 24, .inl (fun _ => 0))), (q5, .inr (5, [.ref n6, .int 0])), (n6, .inl (cy 0, 8, .inl (fun _ => 0))), (q6, .inl (cy 3, 2, .inr (.inr (.inr (.inr (va_up (va_up (fun _ => none) 0 (some q7)) 1 (some q8))))))), (q7, .inr (1, [.ref n7, .int 0, .int 5, .int 1, .int 1, .int 2, .int 0, .int 0])), (n7, .inl (cy 1, 96, .inl (fun _ => 0))), (q8, .inr (1, [.ref n8, .int 0, .int 5, .int 1, .int 1, .int 2, .int 0, .int 0])), (n8, .inl (cy 1, 96, .inl (fun _ => 0))), (q9, .inl (cy 2, 2, .inl (fun _ => 0)))] H := hP
  replace hD : va_D A [(h0, .inr (6, [.ref q1, .ref q2, .ref q3, .ref q4, .ref q5, .ref q6, .null, .null, .int 0])), (q1, .inr (3, [.ref n1, .int 0])), (n1, .inl (cy 0, 320, .inl (fun _ => 0))), (q2, .inr (4, [.ref n2, .int 12, .int 0, .int 0, .int 0, .int 0, .int 0, .int 0, .int (-4), .int 0, .int 0, .int 0])), (n2, .inr (1, [.ref n3, .int 0, .int 5, .int 1, .int 1, .int 2, .int 0, .int 0])), (n3, .inl (cy 1, 96, .inl (fun _ => 0))), (q3, .inr (1, [.ref n4, .int 0, .int 5, .int 1, .int 1, .int 2, .int 0, .int 0])), (n4, .inl (cy 1, 96, .inl (fun _ => 0))), (q4, .inr (0, [.ref q3, .ref n5, .int 0])), (n5, .inl (cy 1, 24, .inl (fun _ => 0))), (q5, .inr (5, [.ref n6, .int 0])), (n6, .inl (cy 0, 8, .inl (fun _ => 0))), (q6, .inl (cy 3, 2, .inr (.inr (.inr (.inr (va_up (va_up (fun _ => none) 0 (some q7)) 1 (some q8))))))), (q7, .inr (1, [.ref n7, .int 0, .int 5, .int 1, .int 1, .int 2, .int 0, .int 0])), (n7, .inl (cy 1, 96, .inl (fun _ => 0))), (q8, .inr (1, [.ref n8, .int 0, .int 5, .int 1, .int 1, .int 2, .int 0, .int 0])), (n8, .inl (cy 1, 96, .inl (fun _ => 0))), (q9, .inl (cy 2, 2, .inl (fun _ => 0)))] := hD
  refine va_putF (D := G) (ci := 6) (v := .ref q9) (ty := (.array .boolean)) (C := RX6) (T := TX6) (N := 9) hx hb hts inkX6 tyX6 tyX6_ok nmX6 hown hK hP hD hS 0 rfl rfl 6 (by decide) (hts _ kw_236) (fun _ h9 => h9) rfl hin rfl (by decide +kernel) rfl rfl (Nat.le_of_ble_eq_true rfl) dX6_init_95 (fun H locs hP hD hS => ?_)
  replace hP : va_P G vwCl [(h0, .inr (6, [.ref q1, .ref q2, .ref q3, .ref q4, .ref q5, .ref q6, .ref q9, .null, .int 0])), (q1, .inr (3, [.ref n1, .int 0])), (n1, .inl (cy 0, 320, .inl (fun _ => 0))), (q2, .inr (4, [.ref n2, .int 12, .int 0, .int 0, .int 0, .int 0, .int 0, .int 0, .int (-4), .int 0, .int 0, .int 0])), (n2, .inr (1, [.ref n3, .int 0, .int 5, .int 1, .int 1, .int 2, .int 0, .int 0])), (n3, .inl (cy 1, 96, .inl (fun _ => 0))), (q3, .inr (1, [.ref n4, .int 0, .int 5, .int 1, .int 1, .int 2, .int 0, .int 0])), (n4, .inl (cy 1, 96, .inl (fun _ => 0))), (q4, .inr (0, [.ref q3, .ref n5, .int 0])), (n5, .inl (cy 1, 24, .inl (fun _ => 0))), (q5, .inr (5, [.ref n6, .int 0])), (n6, .inl (cy 0, 8, .inl (fun _ => 0))), (q6, .inl (cy 3, 2, .inr (.inr (.inr (.inr (va_up (va_up (fun _ => none) 0 (some q7)) 1 (some q8))))))), (q7, .inr (1, [.ref n7, .int 0, .int 5, .int 1, .int 1, .int 2, .int 0, .int 0])), (n7, .inl (cy 1, 96, .inl (fun _ => 0))), (q8, .inr (1, [.ref n8, .int 0, .int 5, .int 1, .int 1, .int 2, .int 0, .int 0])), (n8, .inl (cy 1, 96, .inl (fun _ => 0))), (q9, .inl (cy 2, 2, .inl (fun _ => 0)))] H := hP
  replace hD : va_D A [(h0, .inr (6, [.ref q1, .ref q2, .ref q3, .ref q4, .ref q5, .ref q6, .ref q9, .null, .int 0])), (q1, .inr (3, [.ref n1, .int 0])), (n1, .inl (cy 0, 320, .inl (fun _ => 0))), (q2, .inr (4, [.ref n2, .int 12, .int 0, .int 0, .int 0, .int 0, .int 0, .int 0, .int (-4), .int 0, .int 0, .int 0])), (n2, .inr (1, [.ref n3, .int 0, .int 5, .int 1, .int 1, .int 2, .int 0, .int 0])), (n3, .inl (cy 1, 96, .inl (fun _ => 0))), (q3, .inr (1, [.ref n4, .int 0, .int 5, .int 1, .int 1, .int 2, .int 0, .int 0])), (n4, .inl (cy 1, 96, .inl (fun _ => 0))), (q4, .inr (0, [.ref q3, .ref n5, .int 0])), (n5, .inl (cy 1, 24, .inl (fun _ => 0))), (q5, .inr (5, [.ref n6, .int 0])), (n6, .inl (cy 0, 8, .inl (fun _ => 0))), (q6, .inl (cy 3, 2, .inr (.inr (.inr (.inr (va_up (va_up (fun _ => none) 0 (some q7)) 1 (some q8))))))), (q7, .inr (1, [.ref n7, .int 0, .int 5, .int 1, .int 1, .int 2, .int 0, .int 0])), (n7, .inl (cy 1, 96, .inl (fun _ => 0))), (q8, .inr (1, [.ref n8, .int 0, .int 5, .int 1, .int 1, .int 2, .int 0, .int 0])), (n8, .inl (cy 1, 96, .inl (fun _ => 0))), (q9, .inl (cy 2, 2, .inl (fun _ => 0)))] := hD
  refine lv_aload_n hx hb dX6_init_98 rfl (lv_at hl 0 rfl) ?_
  refine lv_iconst (v := 4) hx hb dX6_init_99 (by decide) ?_
  refine s_newq (N' := 4) hx hb hown (hts _ kw_228) hA4 hK 4 rfl hP hD hS hA (by decide) (by decide) (Nat.le_of_ble_eq_true rfl) (Nat.le_of_ble_eq_true rfl) (Nat.le_of_ble_eq_true rfl) dX6_init_100 (fun q10 H hP hD hS => ?_)
  refine W.widen (k := 18) (n := 795) (Nat.le_of_ble_eq_true rfl) (Nat.le_of_ble_eq_true rfl) ?_
  replace hP : va_P G vwCl [(h0, .inr (6, [.ref q1, .ref q2, .ref q3, .ref q4, .ref q5, .ref q6, .ref q9, .null, .int 0])), (q1, .inr (3, [.ref n1, .int 0])), (n1, .inl (cy 0, 320, .inl (fun _ => 0))), (q2, .inr (4, [.ref n2, .int 12, .int 0, .int 0, .int 0, .int 0, .int 0, .int 0, .int (-4), .int 0, .int 0, .int 0])), (n2, .inr (1, [.ref n3, .int 0, .int 5, .int 1, .int 1, .int 2, .int 0, .int 0])), (n3, .inl (cy 1, 96, .inl (fun _ => 0))), (q3, .inr (1, [.ref n4, .int 0, .int 5, .int 1, .int 1, .int 2, .int 0, .int 0])), (n4, .inl (cy 1, 96, .inl (fun _ => 0))), (q4, .inr (0, [.ref q3, .ref n5, .int 0])), (n5, .inl (cy 1, 24, .inl (fun _ => 0))), (q5, .inr (5, [.ref n6, .int 0])), (n6, .inl (cy 0, 8, .inl (fun _ => 0))), (q6, .inl (cy 3, 2, .inr (.inr (.inr (.inr (va_up (va_up (fun _ => none) 0 (some q7)) 1 (some q8))))))), (q7, .inr (1, [.ref n7, .int 0, .int 5, .int 1, .int 1, .int 2, .int 0, .int 0])), (n7, .inl (cy 1, 96, .inl (fun _ => 0))), (q8, .inr (1, [.ref n8, .int 0, .int 5, .int 1, .int 1, .int 2, .int 0, .int 0])), (n8, .inl (cy 1, 96, .inl (fun _ => 0))), (q9, .inl (cy 2, 2, .inl (fun _ => 0))), (q10, .inl (cy 4, 4, .inr (.inr (.inr (.inr (fun _ => none))))))] H := hP
  replace hD : va_D A [(h0, .inr (6, [.ref q1, .ref q2, .ref q3, .ref q4, .ref q5, .ref q6, .ref q9, .null, .int 0])), (q1, .inr (3, [.ref n1, .int 0])), (n1, .inl (cy 0, 320, .inl (fun _ => 0))), (q2, .inr (4, [.ref n2, .int 12, .int 0, .int 0, .int 0, .int 0, .int 0, .int 0, .int (-4), .int 0, .int 0, .int 0])), (n2, .inr (1, [.ref n3, .int 0, .int 5, .int 1, .int 1, .int 2, .int 0, .int 0])), (n3, .inl (cy 1, 96, .inl (fun _ => 0))), (q3, .inr (1, [.ref n4, .int 0, .int 5, .int 1, .int 1, .int 2, .int 0, .int 0])), (n4, .inl (cy 1, 96, .inl (fun _ => 0))), (q4, .inr (0, [.ref q3, .ref n5, .int 0])), (n5, .inl (cy 1, 24, .inl (fun _ => 0))), (q5, .inr (5, [.ref n6, .int 0])), (n6, .inl (cy 0, 8, .inl (fun _ => 0))), (q6, .inl (cy 3, 2, .inr (.inr (.inr (.inr (va_up (va_up (fun _ => none) 0 (some q7)) 1 (some q8))))))), (q7, .inr (1, [.ref n7, .int 0, .int 5, .int 1, .int 1, .int 2, .int 0, .int 0])), (n7, .inl (cy 1, 96, .inl (fun _ => 0))), (q8, .inr (1, [.ref n8, .int 0, .int 5, .int 1, .int 1, .int 2, .int 0, .int 0])), (n8, .inl (cy 1, 96, .inl (fun _ => 0))), (q9, .inl (cy 2, 2, .inl (fun _ => 0))), (q10, .inl (cy 4, 4, .inr (.inr (.inr (.inr (fun _ => none))))))] := hD
  refine va_putF (D := G) (ci := 6) (v := .ref q10) (ty := (.array (.object "SlidingRanks$Sheet"))) (C := RX6) (T := TX6) (N := 9) hx hb hts inkX6 tyX6 tyX6_ok nmX6 hown hK hP hD hS 0 rfl rfl 7 (by decide) (hts _ kw_237) (fun _ h9 => h9) rfl hin rfl (by decide +kernel) rfl rfl (Nat.le_of_ble_eq_true rfl) dX6_init_103 (fun H locs hP hD hS => ?_)
  replace hP : va_P G vwCl [(h0, .inr (6, [.ref q1, .ref q2, .ref q3, .ref q4, .ref q5, .ref q6, .ref q9, .ref q10, .int 0])), (q1, .inr (3, [.ref n1, .int 0])), (n1, .inl (cy 0, 320, .inl (fun _ => 0))), (q2, .inr (4, [.ref n2, .int 12, .int 0, .int 0, .int 0, .int 0, .int 0, .int 0, .int (-4), .int 0, .int 0, .int 0])), (n2, .inr (1, [.ref n3, .int 0, .int 5, .int 1, .int 1, .int 2, .int 0, .int 0])), (n3, .inl (cy 1, 96, .inl (fun _ => 0))), (q3, .inr (1, [.ref n4, .int 0, .int 5, .int 1, .int 1, .int 2, .int 0, .int 0])), (n4, .inl (cy 1, 96, .inl (fun _ => 0))), (q4, .inr (0, [.ref q3, .ref n5, .int 0])), (n5, .inl (cy 1, 24, .inl (fun _ => 0))), (q5, .inr (5, [.ref n6, .int 0])), (n6, .inl (cy 0, 8, .inl (fun _ => 0))), (q6, .inl (cy 3, 2, .inr (.inr (.inr (.inr (va_up (va_up (fun _ => none) 0 (some q7)) 1 (some q8))))))), (q7, .inr (1, [.ref n7, .int 0, .int 5, .int 1, .int 1, .int 2, .int 0, .int 0])), (n7, .inl (cy 1, 96, .inl (fun _ => 0))), (q8, .inr (1, [.ref n8, .int 0, .int 5, .int 1, .int 1, .int 2, .int 0, .int 0])), (n8, .inl (cy 1, 96, .inl (fun _ => 0))), (q9, .inl (cy 2, 2, .inl (fun _ => 0))), (q10, .inl (cy 4, 4, .inr (.inr (.inr (.inr (fun _ => none))))))] H := hP
  replace hD : va_D A [(h0, .inr (6, [.ref q1, .ref q2, .ref q3, .ref q4, .ref q5, .ref q6, .ref q9, .ref q10, .int 0])), (q1, .inr (3, [.ref n1, .int 0])), (n1, .inl (cy 0, 320, .inl (fun _ => 0))), (q2, .inr (4, [.ref n2, .int 12, .int 0, .int 0, .int 0, .int 0, .int 0, .int 0, .int (-4), .int 0, .int 0, .int 0])), (n2, .inr (1, [.ref n3, .int 0, .int 5, .int 1, .int 1, .int 2, .int 0, .int 0])), (n3, .inl (cy 1, 96, .inl (fun _ => 0))), (q3, .inr (1, [.ref n4, .int 0, .int 5, .int 1, .int 1, .int 2, .int 0, .int 0])), (n4, .inl (cy 1, 96, .inl (fun _ => 0))), (q4, .inr (0, [.ref q3, .ref n5, .int 0])), (n5, .inl (cy 1, 24, .inl (fun _ => 0))), (q5, .inr (5, [.ref n6, .int 0])), (n6, .inl (cy 0, 8, .inl (fun _ => 0))), (q6, .inl (cy 3, 2, .inr (.inr (.inr (.inr (va_up (va_up (fun _ => none) 0 (some q7)) 1 (some q8))))))), (q7, .inr (1, [.ref n7, .int 0, .int 5, .int 1, .int 1, .int 2, .int 0, .int 0])), (n7, .inl (cy 1, 96, .inl (fun _ => 0))), (q8, .inr (1, [.ref n8, .int 0, .int 5, .int 1, .int 1, .int 2, .int 0, .int 0])), (n8, .inl (cy 1, 96, .inl (fun _ => 0))), (q9, .inl (cy 2, 2, .inl (fun _ => 0))), (q10, .inl (cy 4, 4, .inr (.inr (.inr (.inr (fun _ => none))))))] := hD
  refine lv_aload_n hx hb dX6_init_106 rfl (lv_at hl 0 rfl) ?_
  refine lv_iconst (v := 0) hx hb dX6_init_107 (by decide) ?_
  refine va_put (D := G) (ci := 6) (v := .int 0) (ty := .int) (C := RX6) (T := TX6) (N := 9) hx hb hts inkX6 tyX6 tyX6_ok nmX6 hown hK hP hD hS 0 rfl rfl 8 (by decide) (hts _ kw_238) (fun _ h9 => h9) rfl (by decide +kernel) rfl rfl (Nat.le_of_ble_eq_true rfl) dX6_init_108 (fun H locs hP hD hS => ?_)
  replace hP : va_P G vwCl [(h0, .inr (6, [.ref q1, .ref q2, .ref q3, .ref q4, .ref q5, .ref q6, .ref q9, .ref q10, .int 0])), (q1, .inr (3, [.ref n1, .int 0])), (n1, .inl (cy 0, 320, .inl (fun _ => 0))), (q2, .inr (4, [.ref n2, .int 12, .int 0, .int 0, .int 0, .int 0, .int 0, .int 0, .int (-4), .int 0, .int 0, .int 0])), (n2, .inr (1, [.ref n3, .int 0, .int 5, .int 1, .int 1, .int 2, .int 0, .int 0])), (n3, .inl (cy 1, 96, .inl (fun _ => 0))), (q3, .inr (1, [.ref n4, .int 0, .int 5, .int 1, .int 1, .int 2, .int 0, .int 0])), (n4, .inl (cy 1, 96, .inl (fun _ => 0))), (q4, .inr (0, [.ref q3, .ref n5, .int 0])), (n5, .inl (cy 1, 24, .inl (fun _ => 0))), (q5, .inr (5, [.ref n6, .int 0])), (n6, .inl (cy 0, 8, .inl (fun _ => 0))), (q6, .inl (cy 3, 2, .inr (.inr (.inr (.inr (va_up (va_up (fun _ => none) 0 (some q7)) 1 (some q8))))))), (q7, .inr (1, [.ref n7, .int 0, .int 5, .int 1, .int 1, .int 2, .int 0, .int 0])), (n7, .inl (cy 1, 96, .inl (fun _ => 0))), (q8, .inr (1, [.ref n8, .int 0, .int 5, .int 1, .int 1, .int 2, .int 0, .int 0])), (n8, .inl (cy 1, 96, .inl (fun _ => 0))), (q9, .inl (cy 2, 2, .inl (fun _ => 0))), (q10, .inl (cy 4, 4, .inr (.inr (.inr (.inr (fun _ => none))))))] H := hP
  replace hD : va_D A [(h0, .inr (6, [.ref q1, .ref q2, .ref q3, .ref q4, .ref q5, .ref q6, .ref q9, .ref q10, .int 0])), (q1, .inr (3, [.ref n1, .int 0])), (n1, .inl (cy 0, 320, .inl (fun _ => 0))), (q2, .inr (4, [.ref n2, .int 12, .int 0, .int 0, .int 0, .int 0, .int 0, .int 0, .int (-4), .int 0, .int 0, .int 0])), (n2, .inr (1, [.ref n3, .int 0, .int 5, .int 1, .int 1, .int 2, .int 0, .int 0])), (n3, .inl (cy 1, 96, .inl (fun _ => 0))), (q3, .inr (1, [.ref n4, .int 0, .int 5, .int 1, .int 1, .int 2, .int 0, .int 0])), (n4, .inl (cy 1, 96, .inl (fun _ => 0))), (q4, .inr (0, [.ref q3, .ref n5, .int 0])), (n5, .inl (cy 1, 24, .inl (fun _ => 0))), (q5, .inr (5, [.ref n6, .int 0])), (n6, .inl (cy 0, 8, .inl (fun _ => 0))), (q6, .inl (cy 3, 2, .inr (.inr (.inr (.inr (va_up (va_up (fun _ => none) 0 (some q7)) 1 (some q8))))))), (q7, .inr (1, [.ref n7, .int 0, .int 5, .int 1, .int 1, .int 2, .int 0, .int 0])), (n7, .inl (cy 1, 96, .inl (fun _ => 0))), (q8, .inr (1, [.ref n8, .int 0, .int 5, .int 1, .int 1, .int 2, .int 0, .int 0])), (n8, .inl (cy 1, 96, .inl (fun _ => 0))), (q9, .inl (cy 2, 2, .inl (fun _ => 0))), (q10, .inl (cy 4, 4, .inr (.inr (.inr (.inr (fun _ => none))))))] := hD
  exact W.vret hx hb hr (fun t ht hW => ⟨⟨(fun k => [h0, q1, n1, q2, n2, n3, q3, n4, q4, n5, q5, n6, q6, q7, n7, q8, n8, q9, q10].getD k 0), rfl, rfl, by rw [ht]; exact hP, hD⟩, hS.F ht⟩) hS.2.2 dX6_init_111 hlk
