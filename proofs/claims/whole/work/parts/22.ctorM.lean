set_option maxRecDepth 100000 in
set_option maxHeartbeats 8000000 in
theorem kcK_MO {l : Launch} {G : va_G} {cy : Nat → ClassId} (sz : Nat) (h0 : Nat) : Met l yX7_init (kW yX7_init cX7_init 1 none) ({ frames := 1, cells := 11, slots := 1146, locals := 20 } : Room) (s_Pk G cy (fun _ => True) [.ref h0] sz [(h0, .inr (7, [.null, .int 0, .null, .int 0, .int 0, .int 0, .int 0, .int 0, .int 0, .int 0, .int 0, .int 0, .null, .null, .null, .int 0, .null, .int 0, .int 0, .int 0, .int 0, .null, .int 0, .null, .null, .null, .null, .int 0]))]) (va_Qv (fun (ad : Nat → Nat) => ad 0 = h0) (fun ad t => va_P G vwCl (s_WM cy ad s_M0) t.heap ∧ va_D (va_A [(h0, .inr (7, [.null, .int 0, .null, .int 0, .int 0, .int 0, .int 0, .int 0, .int 0, .int 0, .int 0, .int 0, .null, .null, .null, .int 0, .null, .int 0, .int 0, .int 0, .int 0, .null, .int 0, .null, .null, .null, .null, .int 0]))] sz) (s_WM cy ad s_M0)) (va_A [(h0, .inr (7, [.null, .int 0, .null, .int 0, .int 0, .int 0, .int 0, .int 0, .int 0, .int 0, .int 0, .int 0, .null, .null, .null, .int 0, .null, .int 0, .int 0, .int 0, .int 0, .null, .int 0, .null, .null, .null, .null, .int 0]))] sz)) 11 1146 (va_A [(h0, .inr (7, [.null, .int 0, .null, .int 0, .int 0, .int 0, .int 0, .int 0, .int 0, .int 0, .int 0, .int 0, .null, .null, .null, .int 0, .null, .int 0, .int 0, .int 0, .int 0, .null, .int 0, .null, .null, .null, .null, .int 0]))] sz) := by
  refine Met.ofW (cc := cX7_init) (maxL := 1) (ret := none) (by decide) rfl ?_
  intro p e s m args below meth c s₁ B hml hv
  obtain ⟨rfl, hsz, hP, hK, hD0, -⟩ := hv
  have hx := B.exec
  have hb := B.bytes
  have hr := B.returns
  have hts0 := atoms_spec (ws := kW yX7_init cX7_init 1 none) B.pre
  have hts : ∀ w ∈ kwL, w.before [.ref h0].toArray s = true := fun w h => hts0 w (List.mem_cons_of_mem _ h)
  have hown : s.vm.findClass RX7 = some m.cls := findClass_of_methodNamed B.named
  have hlk := B.notSynchronized
  have hin : meth.name = "<init>" := (name_of_methodNamed B.named B.method).1
  subst hsz
  have hD := hD0.self (sz := s.heap.size)
  generalize hAe : va_A [(h0, .inr (7, [.null, .int 0, .null, .int 0, .int 0, .int 0, .int 0, .int 0, .int 0, .int 0, .int 0, .int 0, .null, .null, .null, .int 0, .null, .int 0, .int 0, .int 0, .int 0, .null, .int 0, .null, .null, .null, .null, .int 0]))] s.heap.size = A at hD ⊢
  have hA : ∀ q : Nat, s.heap.size ≤ q → A q := fun q h => by rw [← hAe]; exact Or.inr h
  have hS : va_S A s.heap s.heap [] := va_S.rf
  replace hP : va_P G vwCl [(h0, .inr (7, [.null, .int 0, .null, .int 0, .int 0, .int 0, .int 0, .int 0, .int 0, .int 0, .int 0, .int 0, .null, .null, .null, .int 0, .null, .int 0, .int 0, .int 0, .int 0, .null, .int 0, .null, .null, .null, .null, .int 0]))] s.heap := hP
  have hl := lv_entry ([.ref h0]) (n := 1) (Nat.le_of_ble_eq_true rfl)
  rw [lg_entry_eq]
  generalize (lg_sl ([.ref h0]) ++ List.replicate (1 - (lg_sl ([.ref h0])).length) Slot.unset).toArray = ls at hl ⊢
  replace hl : lv_has ls 1 [(0, .ref h0)] := hl
  have hSt := hS
  refine lv_aload_n hx hb dX7_init_0 rfl (lv_at hl 0 rfl) ?_
  refine W.objInit hx hb hown (hts _ kw_781) (hts _ kw_77) (hts _ kw_78) rfl (by rw [hml]; exact hl.1) rfl dX7_init_1 (Nat.le_of_ble_eq_true rfl) (Nat.le_of_ble_eq_true rfl) ?_
  refine W.eq (g2 := F0 m 4 ls []) rfl ?_
  refine lv_aload_n hx hb dX7_init_4 rfl (lv_at hl 0 rfl) ?_
  refine lv_sipush (v := 515) hx hb dX7_init_5 (by decide) ?_
  refine s_newa (N' := 515) (atype := .int) (ty := .int) rfl hx hb (hts _ kw_155) hK 1 rfl (fun _ h => h) hP hD hS hA (fun _ => rfl) (by decide) (by decide) (Nat.le_of_ble_eq_true rfl) (Nat.le_of_ble_eq_true rfl) (Nat.le_of_ble_eq_true rfl) dX7_init_8 (fun q1 H hP hD hS => ?_)
  refine W.widen (k := 1) (n := 515) (Nat.le_of_ble_eq_true rfl) (Nat.le_of_ble_eq_true rfl) ?_
  replace hP : va_P G vwCl [(h0, .inr (7, [.null, .int 0, .null, .int 0, .int 0, .int 0, .int 0, .int 0, .int 0, .int 0, .int 0, .int 0, .null, .null, .null, .int 0, .null, .int 0, .int 0, .int 0, .int 0, .null, .int 0, .null, .null, .null, .null, .int 0])), (q1, .inl (cy 1, 515, .inl (fun _ => 0)))] H := hP
  replace hD : va_D A [(h0, .inr (7, [.null, .int 0, .null, .int 0, .int 0, .int 0, .int 0, .int 0, .int 0, .int 0, .int 0, .int 0, .null, .null, .null, .int 0, .null, .int 0, .int 0, .int 0, .int 0, .null, .int 0, .null, .null, .null, .null, .int 0])), (q1, .inl (cy 1, 515, .inl (fun _ => 0)))] := hD
  refine va_putF (D := G) (ci := 7) (v := .ref q1) (ty := (.array .int)) (C := RX7) (T := TX7) (N := 28) hx hb hts inkX7 tyX7 tyX7_ok nmX7 hown hK hP hD hS 0 rfl rfl 0 (by decide) (hts _ kw_782) (fun _ h9 => h9) rfl hin rfl (by decide +kernel) rfl rfl (Nat.le_of_ble_eq_true rfl) dX7_init_10 (fun H locs hP hD hS => ?_)
  replace hP : va_P G vwCl [(h0, .inr (7, [.ref q1, .int 0, .null, .int 0, .int 0, .int 0, .int 0, .int 0, .int 0, .int 0, .int 0, .int 0, .null, .null, .null, .int 0, .null, .int 0, .int 0, .int 0, .int 0, .null, .int 0, .null, .null, .null, .null, .int 0])), (q1, .inl (cy 1, 515, .inl (fun _ => 0)))] H := hP
  replace hD : va_D A [(h0, .inr (7, [.ref q1, .int 0, .null, .int 0, .int 0, .int 0, .int 0, .int 0, .int 0, .int 0, .int 0, .int 0, .null, .null, .null, .int 0, .null, .int 0, .int 0, .int 0, .int 0, .null, .int 0, .null, .null, .null, .null, .int 0])), (q1, .inl (cy 1, 515, .inl (fun _ => 0)))] := hD
  refine lv_aload_n hx hb dX7_init_13 rfl (lv_at hl 0 rfl) ?_
  refine lv_sipush (v := 320) hx hb dX7_init_14 (by decide) ?_
  refine s_newa (N' := 320) (atype := .int) (ty := .int) rfl hx hb (hts _ kw_155) hK 1 rfl (fun _ h => h) hP hD hS hA (fun _ => rfl) (by decide) (by decide) (Nat.le_of_ble_eq_true rfl) (Nat.le_of_ble_eq_true rfl) (Nat.le_of_ble_eq_true rfl) dX7_init_17 (fun q2 H hP hD hS => ?_)
  refine W.widen (k := 2) (n := 835) (Nat.le_of_ble_eq_true rfl) (Nat.le_of_ble_eq_true rfl) ?_
  replace hP : va_P G vwCl [(h0, .inr (7, [.ref q1, .int 0, .null, .int 0, .int 0, .int 0, .int 0, .int 0, .int 0, .int 0, .int 0, .int 0, .null, .null, .null, .int 0, .null, .int 0, .int 0, .int 0, .int 0, .null, .int 0, .null, .null, .null, .null, .int 0])), (q1, .inl (cy 1, 515, .inl (fun _ => 0))), (q2, .inl (cy 1, 320, .inl (fun _ => 0)))] H := hP
  replace hD : va_D A [(h0, .inr (7, [.ref q1, .int 0, .null, .int 0, .int 0, .int 0, .int 0, .int 0, .int 0, .int 0, .int 0, .int 0, .null, .null, .null, .int 0, .null, .int 0, .int 0, .int 0, .int 0, .null, .int 0, .null, .null, .null, .null, .int 0])), (q1, .inl (cy 1, 515, .inl (fun _ => 0))), (q2, .inl (cy 1, 320, .inl (fun _ => 0)))] := hD
  refine va_putF (D := G) (ci := 7) (v := .ref q2) (ty := (.array .int)) (C := RX7) (T := TX7) (N := 28) hx hb hts inkX7 tyX7 tyX7_ok nmX7 hown hK hP hD hS 0 rfl rfl 2 (by decide) (hts _ kw_784) (fun _ h9 => h9) rfl hin rfl (by decide +kernel) rfl rfl (Nat.le_of_ble_eq_true rfl) dX7_init_19 (fun H locs hP hD hS => ?_)
  replace hP : va_P G vwCl [(h0, .inr (7, [.ref q1, .int 0, .ref q2, .int 0, .int 0, .int 0, .int 0, .int 0, .int 0, .int 0, .int 0, .int 0, .null, .null, .null, .int 0, .null, .int 0, .int 0, .int 0, .int 0, .null, .int 0, .null, .null, .null, .null, .int 0])), (q1, .inl (cy 1, 515, .inl (fun _ => 0))), (q2, .inl (cy 1, 320, .inl (fun _ => 0)))] H := hP
  replace hD : va_D A [(h0, .inr (7, [.ref q1, .int 0, .ref q2, .int 0, .int 0, .int 0, .int 0, .int 0, .int 0, .int 0, .int 0, .int 0, .null, .null, .null, .int 0, .null, .int 0, .int 0, .int 0, .int 0, .null, .int 0, .null, .null, .null, .null, .int 0])), (q1, .inl (cy 1, 515, .inl (fun _ => 0))), (q2, .inl (cy 1, 320, .inl (fun _ => 0)))] := hD
  refine lv_aload_n hx hb dX7_init_22 rfl (lv_at hl 0 rfl) ?_
  refine lv_bipush (v := 16) hx hb dX7_init_23 (by decide) ?_
  refine s_newa (N' := 16) (atype := .int) (ty := .int) rfl hx hb (hts _ kw_155) hK 1 rfl (fun _ h => h) hP hD hS hA (fun _ => rfl) (by decide) (by decide) (Nat.le_of_ble_eq_true rfl) (Nat.le_of_ble_eq_true rfl) (Nat.le_of_ble_eq_true rfl) dX7_init_25 (fun q3 H hP hD hS => ?_)
  refine W.widen (k := 3) (n := 851) (Nat.le_of_ble_eq_true rfl) (Nat.le_of_ble_eq_true rfl) ?_
  replace hP : va_P G vwCl [(h0, .inr (7, [.ref q1, .int 0, .ref q2, .int 0, .int 0, .int 0, .int 0, .int 0, .int 0, .int 0, .int 0, .int 0, .null, .null, .null, .int 0, .null, .int 0, .int 0, .int 0, .int 0, .null, .int 0, .null, .null, .null, .null, .int 0])), (q1, .inl (cy 1, 515, .inl (fun _ => 0))), (q2, .inl (cy 1, 320, .inl (fun _ => 0))), (q3, .inl (cy 1, 16, .inl (fun _ => 0)))] H := hP
  replace hD : va_D A [(h0, .inr (7, [.ref q1, .int 0, .ref q2, .int 0, .int 0, .int 0, .int 0, .int 0, .int 0, .int 0, .int 0, .int 0, .null, .null, .null, .int 0, .null, .int 0, .int 0, .int 0, .int 0, .null, .int 0, .null, .null, .null, .null, .int 0])), (q1, .inl (cy 1, 515, .inl (fun _ => 0))), (q2, .inl (cy 1, 320, .inl (fun _ => 0))), (q3, .inl (cy 1, 16, .inl (fun _ => 0)))] := hD
  refine lv_dup hx hb dX7_init_27 rfl ?_
  refine lv_iconst (v := 0) hx hb dX7_init_28 (by decide) ?_
  refine lv_iconst (v := 0) hx hb dX7_init_29 (by decide) ?_
  refine va_iast hx hb hK hP hD hS 3 1 rfl rfl (by unfold vp_in; decide) dX7_init_30 (fun H locs hP hD hS => ?_)
  rw [cl_0] at hP hD
  obtain ⟨a1, ea1⟩ : ∃ z : Nat → Int32, z = upd (fun _ => 0) 0 0 := ⟨_, rfl⟩
  replace hP : va_P G vwCl [(h0, .inr (7, [.ref q1, .int 0, .ref q2, .int 0, .int 0, .int 0, .int 0, .int 0, .int 0, .int 0, .int 0, .int 0, .null, .null, .null, .int 0, .null, .int 0, .int 0, .int 0, .int 0, .null, .int 0, .null, .null, .null, .null, .int 0])), (q1, .inl (cy 1, 515, .inl (fun _ => 0))), (q2, .inl (cy 1, 320, .inl (fun _ => 0))), (q3, .inl (cy 1, 16, .inl a1))] H := by rw [ea1]; exact hP
  replace hD : va_D A [(h0, .inr (7, [.ref q1, .int 0, .ref q2, .int 0, .int 0, .int 0, .int 0, .int 0, .int 0, .int 0, .int 0, .int 0, .null, .null, .null, .int 0, .null, .int 0, .int 0, .int 0, .int 0, .null, .int 0, .null, .null, .null, .null, .int 0])), (q1, .inl (cy 1, 515, .inl (fun _ => 0))), (q2, .inl (cy 1, 320, .inl (fun _ => 0))), (q3, .inl (cy 1, 16, .inl a1))] := by rw [ea1]; exact hD
  refine lv_dup hx hb dX7_init_31 rfl ?_
  refine lv_iconst (v := 1) hx hb dX7_init_32 (by decide) ?_
  refine lv_iconst (v := 5) hx hb dX7_init_33 (by decide) ?_
  refine va_iast hx hb hK hP hD hS 3 1 rfl rfl (by unfold vp_in; decide) dX7_init_34 (fun H locs hP hD hS => ?_)
  rw [cl_1] at hP hD
  obtain ⟨a2, ea2⟩ : ∃ z : Nat → Int32, z = upd a1 1 5 := ⟨_, rfl⟩
  replace hP : va_P G vwCl [(h0, .inr (7, [.ref q1, .int 0, .ref q2, .int 0, .int 0, .int 0, .int 0, .int 0, .int 0, .int 0, .int 0, .int 0, .null, .null, .null, .int 0, .null, .int 0, .int 0, .int 0, .int 0, .null, .int 0, .null, .null, .null, .null, .int 0])), (q1, .inl (cy 1, 515, .inl (fun _ => 0))), (q2, .inl (cy 1, 320, .inl (fun _ => 0))), (q3, .inl (cy 1, 16, .inl a2))] H := by rw [ea2]; exact hP
  replace hD : va_D A [(h0, .inr (7, [.ref q1, .int 0, .ref q2, .int 0, .int 0, .int 0, .int 0, .int 0, .int 0, .int 0, .int 0, .int 0, .null, .null, .null, .int 0, .null, .int 0, .int 0, .int 0, .int 0, .null, .int 0, .null, .null, .null, .null, .int 0])), (q1, .inl (cy 1, 515, .inl (fun _ => 0))), (q2, .inl (cy 1, 320, .inl (fun _ => 0))), (q3, .inl (cy 1, 16, .inl a2))] := by rw [ea2]; exact hD
  refine lv_dup hx hb dX7_init_35 rfl ?_
  refine lv_iconst (v := 2) hx hb dX7_init_36 (by decide) ?_
  refine lv_bipush (v := 9) hx hb dX7_init_37 (by decide) ?_
  refine va_iast hx hb hK hP hD hS 3 1 rfl rfl (by unfold vp_in; decide) dX7_init_39 (fun H locs hP hD hS => ?_)
  rw [cl_2] at hP hD
  obtain ⟨a3, ea3⟩ : ∃ z : Nat → Int32, z = upd a2 2 9 := ⟨_, rfl⟩
  replace hP : va_P G vwCl [(h0, .inr (7, [.ref q1, .int 0, .ref q2, .int 0, .int 0, .int 0, .int 0, .int 0, .int 0, .int 0, .int 0, .int 0, .null, .null, .null, .int 0, .null, .int 0, .int 0, .int 0, .int 0, .null, .int 0, .null, .null, .null, .null, .int 0])), (q1, .inl (cy 1, 515, .inl (fun _ => 0))), (q2, .inl (cy 1, 320, .inl (fun _ => 0))), (q3, .inl (cy 1, 16, .inl a3))] H := by rw [ea3]; exact hP
  replace hD : va_D A [(h0, .inr (7, [.ref q1, .int 0, .ref q2, .int 0, .int 0, .int 0, .int 0, .int 0, .int 0, .int 0, .int 0, .int 0, .null, .null, .null, .int 0, .null, .int 0, .int 0, .int 0, .int 0, .null, .int 0, .null, .null, .null, .null, .int 0])), (q1, .inl (cy 1, 515, .inl (fun _ => 0))), (q2, .inl (cy 1, 320, .inl (fun _ => 0))), (q3, .inl (cy 1, 16, .inl a3))] := by rw [ea3]; exact hD
  refine lv_dup hx hb dX7_init_40 rfl ?_
  refine lv_iconst (v := 3) hx hb dX7_init_41 (by decide) ?_
  refine lv_bipush (v := 13) hx hb dX7_init_42 (by decide) ?_
  refine va_iast hx hb hK hP hD hS 3 1 rfl rfl (by unfold vp_in; decide) dX7_init_44 (fun H locs hP hD hS => ?_)
  rw [cl_3] at hP hD
  obtain ⟨a4, ea4⟩ : ∃ z : Nat → Int32, z = upd a3 3 13 := ⟨_, rfl⟩
  replace hP : va_P G vwCl [(h0, .inr (7, [.ref q1, .int 0, .ref q2, .int 0, .int 0, .int 0, .int 0, .int 0, .int 0, .int 0, .int 0, .int 0, .null, .null, .null, .int 0, .null, .int 0, .int 0, .int 0, .int 0, .null, .int 0, .null, .null, .null, .null, .int 0])), (q1, .inl (cy 1, 515, .inl (fun _ => 0))), (q2, .inl (cy 1, 320, .inl (fun _ => 0))), (q3, .inl (cy 1, 16, .inl a4))] H := by rw [ea4]; exact hP
  replace hD : va_D A [(h0, .inr (7, [.ref q1, .int 0, .ref q2, .int 0, .int 0, .int 0, .int 0, .int 0, .int 0, .int 0, .int 0, .int 0, .null, .null, .null, .int 0, .null, .int 0, .int 0, .int 0, .int 0, .null, .int 0, .null, .null, .null, .null, .int 0])), (q1, .inl (cy 1, 515, .inl (fun _ => 0))), (q2, .inl (cy 1, 320, .inl (fun _ => 0))), (q3, .inl (cy 1, 16, .inl a4))] := by rw [ea4]; exact hD
  refine lv_dup hx hb dX7_init_45 rfl ?_
  refine lv_iconst (v := 4) hx hb dX7_init_46 (by decide) ?_
  refine lv_bipush (v := 17) hx hb dX7_init_47 (by decide) ?_
  refine va_iast hx hb hK hP hD hS 3 1 rfl rfl (by unfold vp_in; decide) dX7_init_49 (fun H locs hP hD hS => ?_)
  rw [cl_4] at hP hD
  obtain ⟨a5, ea5⟩ : ∃ z : Nat → Int32, z = upd a4 4 17 := ⟨_, rfl⟩
  replace hP : va_P G vwCl [(h0, .inr (7, [.ref q1, .int 0, .ref q2, .int 0, .int 0, .int 0, .int 0, .int 0, .int 0, .int 0, .int 0, .int 0, .null, .null, .null, .int 0, .null, .int 0, .int 0, .int 0, .int 0, .null, .int 0, .null, .null, .null, .null, .int 0])), (q1, .inl (cy 1, 515, .inl (fun _ => 0))), (q2, .inl (cy 1, 320, .inl (fun _ => 0))), (q3, .inl (cy 1, 16, .inl a5))] H := by rw [ea5]; exact hP
  replace hD : va_D A [(h0, .inr (7, [.ref q1, .int 0, .ref q2, .int 0, .int 0, .int 0, .int 0, .int 0, .int 0, .int 0, .int 0, .int 0, .null, .null, .null, .int 0, .null, .int 0, .int 0, .int 0, .int 0, .null, .int 0, .null, .null, .null, .null, .int 0])), (q1, .inl (cy 1, 515, .inl (fun _ => 0))), (q2, .inl (cy 1, 320, .inl (fun _ => 0))), (q3, .inl (cy 1, 16, .inl a5))] := by rw [ea5]; exact hD
  refine lv_dup hx hb dX7_init_50 rfl ?_
  refine lv_iconst (v := 5) hx hb dX7_init_51 (by decide) ?_
  refine lv_bipush (v := 21) hx hb dX7_init_52 (by decide) ?_
  refine va_iast hx hb hK hP hD hS 3 1 rfl rfl (by unfold vp_in; decide) dX7_init_54 (fun H locs hP hD hS => ?_)
  rw [cl_5] at hP hD
  obtain ⟨a6, ea6⟩ : ∃ z : Nat → Int32, z = upd a5 5 21 := ⟨_, rfl⟩
  replace hP : va_P G vwCl [(h0, .inr (7, [.ref q1, .int 0, .ref q2, .int 0, .int 0, .int 0, .int 0, .int 0, .int 0, .int 0, .int 0, .int 0, .null, .null, .null, .int 0, .null, .int 0, .int 0, .int 0, .int 0, .null, .int 0, .null, .null, .null, .null, .int 0])), (q1, .inl (cy 1, 515, .inl (fun _ => 0))), (q2, .inl (cy 1, 320, .inl (fun _ => 0))), (q3, .inl (cy 1, 16, .inl a6))] H := by rw [ea6]; exact hP
  replace hD : va_D A [(h0, .inr (7, [.ref q1, .int 0, .ref q2, .int 0, .int 0, .int 0, .int 0, .int 0, .int 0, .int 0, .int 0, .int 0, .null, .null, .null, .int 0, .null, .int 0, .int 0, .int 0, .int 0, .null, .int 0, .null, .null, .null, .null, .int 0])), (q1, .inl (cy 1, 515, .inl (fun _ => 0))), (q2, .inl (cy 1, 320, .inl (fun _ => 0))), (q3, .inl (cy 1, 16, .inl a6))] := by rw [ea6]; exact hD
  refine lv_dup hx hb dX7_init_55 rfl ?_
  refine lv_bipush (v := 6) hx hb dX7_init_56 (by decide) ?_
  refine lv_bipush (v := 24) hx hb dX7_init_58 (by decide) ?_
  refine va_iast hx hb hK hP hD hS 3 1 rfl rfl (by unfold vp_in; decide) dX7_init_60 (fun H locs hP hD hS => ?_)
  rw [cl_6] at hP hD
  obtain ⟨a7, ea7⟩ : ∃ z : Nat → Int32, z = upd a6 6 24 := ⟨_, rfl⟩
  replace hP : va_P G vwCl [(h0, .inr (7, [.ref q1, .int 0, .ref q2, .int 0, .int 0, .int 0, .int 0, .int 0, .int 0, .int 0, .int 0, .int 0, .null, .null, .null, .int 0, .null, .int 0, .int 0, .int 0, .int 0, .null, .int 0, .null, .null, .null, .null, .int 0])), (q1, .inl (cy 1, 515, .inl (fun _ => 0))), (q2, .inl (cy 1, 320, .inl (fun _ => 0))), (q3, .inl (cy 1, 16, .inl a7))] H := by rw [ea7]; exact hP
  replace hD : va_D A [(h0, .inr (7, [.ref q1, .int 0, .ref q2, .int 0, .int 0, .int 0, .int 0, .int 0, .int 0, .int 0, .int 0, .int 0, .null, .null, .null, .int 0, .null, .int 0, .int 0, .int 0, .int 0, .null, .int 0, .null, .null, .null, .null, .int 0])), (q1, .inl (cy 1, 515, .inl (fun _ => 0))), (q2, .inl (cy 1, 320, .inl (fun _ => 0))), (q3, .inl (cy 1, 16, .inl a7))] := by rw [ea7]; exact hD
  refine lv_dup hx hb dX7_init_61 rfl ?_
  refine lv_bipush (v := 7) hx hb dX7_init_62 (by decide) ?_
  refine lv_bipush (v := 27) hx hb dX7_init_64 (by decide) ?_
  refine va_iast hx hb hK hP hD hS 3 1 rfl rfl (by unfold vp_in; decide) dX7_init_66 (fun H locs hP hD hS => ?_)
  rw [cl_7] at hP hD
  obtain ⟨a8, ea8⟩ : ∃ z : Nat → Int32, z = upd a7 7 27 := ⟨_, rfl⟩
  replace hP : va_P G vwCl [(h0, .inr (7, [.ref q1, .int 0, .ref q2, .int 0, .int 0, .int 0, .int 0, .int 0, .int 0, .int 0, .int 0, .int 0, .null, .null, .null, .int 0, .null, .int 0, .int 0, .int 0, .int 0, .null, .int 0, .null, .null, .null, .null, .int 0])), (q1, .inl (cy 1, 515, .inl (fun _ => 0))), (q2, .inl (cy 1, 320, .inl (fun _ => 0))), (q3, .inl (cy 1, 16, .inl a8))] H := by rw [ea8]; exact hP
  replace hD : va_D A [(h0, .inr (7, [.ref q1, .int 0, .ref q2, .int 0, .int 0, .int 0, .int 0, .int 0, .int 0, .int 0, .int 0, .int 0, .null, .null, .null, .int 0, .null, .int 0, .int 0, .int 0, .int 0, .null, .int 0, .null, .null, .null, .null, .int 0])), (q1, .inl (cy 1, 515, .inl (fun _ => 0))), (q2, .inl (cy 1, 320, .inl (fun _ => 0))), (q3, .inl (cy 1, 16, .inl a8))] := by rw [ea8]; exact hD
  refine lv_dup hx hb dX7_init_67 rfl ?_
  refine lv_bipush (v := 8) hx hb dX7_init_68 (by decide) ?_
  refine lv_bipush (v := 31) hx hb dX7_init_70 (by decide) ?_
  refine va_iast hx hb hK hP hD hS 3 1 rfl rfl (by unfold vp_in; decide) dX7_init_72 (fun H locs hP hD hS => ?_)
  rw [cl_8] at hP hD
  obtain ⟨a9, ea9⟩ : ∃ z : Nat → Int32, z = upd a8 8 31 := ⟨_, rfl⟩
  replace hP : va_P G vwCl [(h0, .inr (7, [.ref q1, .int 0, .ref q2, .int 0, .int 0, .int 0, .int 0, .int 0, .int 0, .int 0, .int 0, .int 0, .null, .null, .null, .int 0, .null, .int 0, .int 0, .int 0, .int 0, .null, .int 0, .null, .null, .null, .null, .int 0])), (q1, .inl (cy 1, 515, .inl (fun _ => 0))), (q2, .inl (cy 1, 320, .inl (fun _ => 0))), (q3, .inl (cy 1, 16, .inl a9))] H := by rw [ea9]; exact hP
  replace hD : va_D A [(h0, .inr (7, [.ref q1, .int 0, .ref q2, .int 0, .int 0, .int 0, .int 0, .int 0, .int 0, .int 0, .int 0, .int 0, .null, .null, .null, .int 0, .null, .int 0, .int 0, .int 0, .int 0, .null, .int 0, .null, .null, .null, .null, .int 0])), (q1, .inl (cy 1, 515, .inl (fun _ => 0))), (q2, .inl (cy 1, 320, .inl (fun _ => 0))), (q3, .inl (cy 1, 16, .inl a9))] := by rw [ea9]; exact hD
  refine lv_dup hx hb dX7_init_73 rfl ?_
  refine lv_bipush (v := 9) hx hb dX7_init_74 (by decide) ?_
  refine lv_bipush (v := 35) hx hb dX7_init_76 (by decide) ?_
  refine va_iast hx hb hK hP hD hS 3 1 rfl rfl (by unfold vp_in; decide) dX7_init_78 (fun H locs hP hD hS => ?_)
  rw [cl_9] at hP hD
  obtain ⟨a10, ea10⟩ : ∃ z : Nat → Int32, z = upd a9 9 35 := ⟨_, rfl⟩
  replace hP : va_P G vwCl [(h0, .inr (7, [.ref q1, .int 0, .ref q2, .int 0, .int 0, .int 0, .int 0, .int 0, .int 0, .int 0, .int 0, .int 0, .null, .null, .null, .int 0, .null, .int 0, .int 0, .int 0, .int 0, .null, .int 0, .null, .null, .null, .null, .int 0])), (q1, .inl (cy 1, 515, .inl (fun _ => 0))), (q2, .inl (cy 1, 320, .inl (fun _ => 0))), (q3, .inl (cy 1, 16, .inl a10))] H := by rw [ea10]; exact hP
  replace hD : va_D A [(h0, .inr (7, [.ref q1, .int 0, .ref q2, .int 0, .int 0, .int 0, .int 0, .int 0, .int 0, .int 0, .int 0, .int 0, .null, .null, .null, .int 0, .null, .int 0, .int 0, .int 0, .int 0, .null, .int 0, .null, .null, .null, .null, .int 0])), (q1, .inl (cy 1, 515, .inl (fun _ => 0))), (q2, .inl (cy 1, 320, .inl (fun _ => 0))), (q3, .inl (cy 1, 16, .inl a10))] := by rw [ea10]; exact hD
  refine lv_dup hx hb dX7_init_79 rfl ?_
  refine lv_bipush (v := 10) hx hb dX7_init_80 (by decide) ?_
  refine lv_bipush (v := 39) hx hb dX7_init_82 (by decide) ?_
  refine va_iast hx hb hK hP hD hS 3 1 rfl rfl (by unfold vp_in; decide) dX7_init_84 (fun H locs hP hD hS => ?_)
  rw [cl_10] at hP hD
  obtain ⟨a11, ea11⟩ : ∃ z : Nat → Int32, z = upd a10 10 39 := ⟨_, rfl⟩
  replace hP : va_P G vwCl [(h0, .inr (7, [.ref q1, .int 0, .ref q2, .int 0, .int 0, .int 0, .int 0, .int 0, .int 0, .int 0, .int 0, .int 0, .null, .null, .null, .int 0, .null, .int 0, .int 0, .int 0, .int 0, .null, .int 0, .null, .null, .null, .null, .int 0])), (q1, .inl (cy 1, 515, .inl (fun _ => 0))), (q2, .inl (cy 1, 320, .inl (fun _ => 0))), (q3, .inl (cy 1, 16, .inl a11))] H := by rw [ea11]; exact hP
  replace hD : va_D A [(h0, .inr (7, [.ref q1, .int 0, .ref q2, .int 0, .int 0, .int 0, .int 0, .int 0, .int 0, .int 0, .int 0, .int 0, .null, .null, .null, .int 0, .null, .int 0, .int 0, .int 0, .int 0, .null, .int 0, .null, .null, .null, .null, .int 0])), (q1, .inl (cy 1, 515, .inl (fun _ => 0))), (q2, .inl (cy 1, 320, .inl (fun _ => 0))), (q3, .inl (cy 1, 16, .inl a11))] := by rw [ea11]; exact hD
  refine lv_dup hx hb dX7_init_85 rfl ?_
  refine lv_bipush (v := 11) hx hb dX7_init_86 (by decide) ?_
  refine lv_bipush (v := 43) hx hb dX7_init_88 (by decide) ?_
  refine va_iast hx hb hK hP hD hS 3 1 rfl rfl (by unfold vp_in; decide) dX7_init_90 (fun H locs hP hD hS => ?_)
  rw [cl_11] at hP hD
  obtain ⟨a12, ea12⟩ : ∃ z : Nat → Int32, z = upd a11 11 43 := ⟨_, rfl⟩
  replace hP : va_P G vwCl [(h0, .inr (7, [.ref q1, .int 0, .ref q2, .int 0, .int 0, .int 0, .int 0, .int 0, .int 0, .int 0, .int 0, .int 0, .null, .null, .null, .int 0, .null, .int 0, .int 0, .int 0, .int 0, .null, .int 0, .null, .null, .null, .null, .int 0])), (q1, .inl (cy 1, 515, .inl (fun _ => 0))), (q2, .inl (cy 1, 320, .inl (fun _ => 0))), (q3, .inl (cy 1, 16, .inl a12))] H := by rw [ea12]; exact hP
  replace hD : va_D A [(h0, .inr (7, [.ref q1, .int 0, .ref q2, .int 0, .int 0, .int 0, .int 0, .int 0, .int 0, .int 0, .int 0, .int 0, .null, .null, .null, .int 0, .null, .int 0, .int 0, .int 0, .int 0, .null, .int 0, .null, .null, .null, .null, .int 0])), (q1, .inl (cy 1, 515, .inl (fun _ => 0))), (q2, .inl (cy 1, 320, .inl (fun _ => 0))), (q3, .inl (cy 1, 16, .inl a12))] := by rw [ea12]; exact hD
  refine lv_dup hx hb dX7_init_91 rfl ?_
  refine lv_bipush (v := 12) hx hb dX7_init_92 (by decide) ?_
  refine lv_bipush (v := 48) hx hb dX7_init_94 (by decide) ?_
  refine va_iast hx hb hK hP hD hS 3 1 rfl rfl (by unfold vp_in; decide) dX7_init_96 (fun H locs hP hD hS => ?_)
  rw [cl_12] at hP hD
  obtain ⟨a13, ea13⟩ : ∃ z : Nat → Int32, z = upd a12 12 48 := ⟨_, rfl⟩
  replace hP : va_P G vwCl [(h0, .inr (7, [.ref q1, .int 0, .ref q2, .int 0, .int 0, .int 0, .int 0, .int 0, .int 0, .int 0, .int 0, .int 0, .null, .null, .null, .int 0, .null, .int 0, .int 0, .int 0, .int 0, .null, .int 0, .null, .null, .null, .null, .int 0])), (q1, .inl (cy 1, 515, .inl (fun _ => 0))), (q2, .inl (cy 1, 320, .inl (fun _ => 0))), (q3, .inl (cy 1, 16, .inl a13))] H := by rw [ea13]; exact hP
  replace hD : va_D A [(h0, .inr (7, [.ref q1, .int 0, .ref q2, .int 0, .int 0, .int 0, .int 0, .int 0, .int 0, .int 0, .int 0, .int 0, .null, .null, .null, .int 0, .null, .int 0, .int 0, .int 0, .int 0, .null, .int 0, .null, .null, .null, .null, .int 0])), (q1, .inl (cy 1, 515, .inl (fun _ => 0))), (q2, .inl (cy 1, 320, .inl (fun _ => 0))), (q3, .inl (cy 1, 16, .inl a13))] := by rw [ea13]; exact hD
  refine lv_dup hx hb dX7_init_97 rfl ?_
  refine lv_bipush (v := 13) hx hb dX7_init_98 (by decide) ?_
  refine lv_bipush (v := 53) hx hb dX7_init_100 (by decide) ?_
  refine va_iast hx hb hK hP hD hS 3 1 rfl rfl (by unfold vp_in; decide) dX7_init_102 (fun H locs hP hD hS => ?_)
  rw [cl_13] at hP hD
  obtain ⟨a14, ea14⟩ : ∃ z : Nat → Int32, z = upd a13 13 53 := ⟨_, rfl⟩
  replace hP : va_P G vwCl [(h0, .inr (7, [.ref q1, .int 0, .ref q2, .int 0, .int 0, .int 0, .int 0, .int 0, .int 0, .int 0, .int 0, .int 0, .null, .null, .null, .int 0, .null, .int 0, .int 0, .int 0, .int 0, .null, .int 0, .null, .null, .null, .null, .int 0])), (q1, .inl (cy 1, 515, .inl (fun _ => 0))), (q2, .inl (cy 1, 320, .inl (fun _ => 0))), (q3, .inl (cy 1, 16, .inl a14))] H := by rw [ea14]; exact hP
  replace hD : va_D A [(h0, .inr (7, [.ref q1, .int 0, .ref q2, .int 0, .int 0, .int 0, .int 0, .int 0, .int 0, .int 0, .int 0, .int 0, .null, .null, .null, .int 0, .null, .int 0, .int 0, .int 0, .int 0, .null, .int 0, .null, .null, .null, .null, .int 0])), (q1, .inl (cy 1, 515, .inl (fun _ => 0))), (q2, .inl (cy 1, 320, .inl (fun _ => 0))), (q3, .inl (cy 1, 16, .inl a14))] := by rw [ea14]; exact hD
  refine lv_dup hx hb dX7_init_103 rfl ?_
  refine lv_bipush (v := 14) hx hb dX7_init_104 (by decide) ?_
  refine lv_bipush (v := 57) hx hb dX7_init_106 (by decide) ?_
  refine va_iast hx hb hK hP hD hS 3 1 rfl rfl (by unfold vp_in; decide) dX7_init_108 (fun H locs hP hD hS => ?_)
  rw [cl_14] at hP hD
  obtain ⟨a15, ea15⟩ : ∃ z : Nat → Int32, z = upd a14 14 57 := ⟨_, rfl⟩
  replace hP : va_P G vwCl [(h0, .inr (7, [.ref q1, .int 0, .ref q2, .int 0, .int 0, .int 0, .int 0, .int 0, .int 0, .int 0, .int 0, .int 0, .null, .null, .null, .int 0, .null, .int 0, .int 0, .int 0, .int 0, .null, .int 0, .null, .null, .null, .null, .int 0])), (q1, .inl (cy 1, 515, .inl (fun _ => 0))), (q2, .inl (cy 1, 320, .inl (fun _ => 0))), (q3, .inl (cy 1, 16, .inl a15))] H := by rw [ea15]; exact hP
  replace hD : va_D A [(h0, .inr (7, [.ref q1, .int 0, .ref q2, .int 0, .int 0, .int 0, .int 0, .int 0, .int 0, .int 0, .int 0, .int 0, .null, .null, .null, .int 0, .null, .int 0, .int 0, .int 0, .int 0, .null, .int 0, .null, .null, .null, .null, .int 0])), (q1, .inl (cy 1, 515, .inl (fun _ => 0))), (q2, .inl (cy 1, 320, .inl (fun _ => 0))), (q3, .inl (cy 1, 16, .inl a15))] := by rw [ea15]; exact hD
  refine lv_dup hx hb dX7_init_109 rfl ?_
  refine lv_bipush (v := 15) hx hb dX7_init_110 (by decide) ?_
  refine lv_bipush (v := 61) hx hb dX7_init_112 (by decide) ?_
  refine va_iast hx hb hK hP hD hS 3 1 rfl rfl (by unfold vp_in; decide) dX7_init_114 (fun H locs hP hD hS => ?_)
  rw [cl_15] at hP hD
  obtain ⟨a16, ea16⟩ : ∃ z : Nat → Int32, z = upd a15 15 61 := ⟨_, rfl⟩
  replace hP : va_P G vwCl [(h0, .inr (7, [.ref q1, .int 0, .ref q2, .int 0, .int 0, .int 0, .int 0, .int 0, .int 0, .int 0, .int 0, .int 0, .null, .null, .null, .int 0, .null, .int 0, .int 0, .int 0, .int 0, .null, .int 0, .null, .null, .null, .null, .int 0])), (q1, .inl (cy 1, 515, .inl (fun _ => 0))), (q2, .inl (cy 1, 320, .inl (fun _ => 0))), (q3, .inl (cy 1, 16, .inl a16))] H := by rw [ea16]; exact hP
  replace hD : va_D A [(h0, .inr (7, [.ref q1, .int 0, .ref q2, .int 0, .int 0, .int 0, .int 0, .int 0, .int 0, .int 0, .int 0, .int 0, .null, .null, .null, .int 0, .null, .int 0, .int 0, .int 0, .int 0, .null, .int 0, .null, .null, .null, .null, .int 0])), (q1, .inl (cy 1, 515, .inl (fun _ => 0))), (q2, .inl (cy 1, 320, .inl (fun _ => 0))), (q3, .inl (cy 1, 16, .inl a16))] := by rw [ea16]; exact hD
  refine va_putF (D := G) (ci := 7) (v := .ref q3) (ty := (.array .int)) (C := RX7) (T := TX7) (N := 28) hx hb hts inkX7 tyX7 tyX7_ok nmX7 hown hK hP hD hS 0 rfl rfl 12 (by decide) (hts _ kw_794) (fun _ h9 => h9) rfl hin rfl (by decide +kernel) rfl rfl (Nat.le_of_ble_eq_true rfl) dX7_init_115 (fun H locs hP hD hS => ?_)
  replace hP : va_P G vwCl [(h0, .inr (7, [.ref q1, .int 0, .ref q2, .int 0, .int 0, .int 0, .int 0, .int 0, .int 0, .int 0, .int 0, .int 0, .ref q3, .null, .null, .int 0, .null, .int 0, .int 0, .int 0, .int 0, .null, .int 0, .null, .null, .null, .null, .int 0])), (q1, .inl (cy 1, 515, .inl (fun _ => 0))), (q2, .inl (cy 1, 320, .inl (fun _ => 0))), (q3, .inl (cy 1, 16, .inl a16))] H := hP
  replace hD : va_D A [(h0, .inr (7, [.ref q1, .int 0, .ref q2, .int 0, .int 0, .int 0, .int 0, .int 0, .int 0, .int 0, .int 0, .int 0, .ref q3, .null, .null, .int 0, .null, .int 0, .int 0, .int 0, .int 0, .null, .int 0, .null, .null, .null, .null, .int 0])), (q1, .inl (cy 1, 515, .inl (fun _ => 0))), (q2, .inl (cy 1, 320, .inl (fun _ => 0))), (q3, .inl (cy 1, 16, .inl a16))] := hD
  refine lv_aload_n hx hb dX7_init_118 rfl (lv_at hl 0 rfl) ?_
  refine lv_bipush (v := 61) hx hb dX7_init_119 (by decide) ?_
  refine s_newa (N' := 61) (atype := .int) (ty := .int) rfl hx hb (hts _ kw_155) hK 1 rfl (fun _ h => h) hP hD hS hA (fun _ => rfl) (by decide) (by decide) (Nat.le_of_ble_eq_true rfl) (Nat.le_of_ble_eq_true rfl) (Nat.le_of_ble_eq_true rfl) dX7_init_121 (fun q4 H hP hD hS => ?_)
  refine W.widen (k := 4) (n := 912) (Nat.le_of_ble_eq_true rfl) (Nat.le_of_ble_eq_true rfl) ?_
  replace hP : va_P G vwCl [(h0, .inr (7, [.ref q1, .int 0, .ref q2, .int 0, .int 0, .int 0, .int 0, .int 0, .int 0, .int 0, .int 0, .int 0, .ref q3, .null, .null, .int 0, .null, .int 0, .int 0, .int 0, .int 0, .null, .int 0, .null, .null, .null, .null, .int 0])), (q1, .inl (cy 1, 515, .inl (fun _ => 0))), (q2, .inl (cy 1, 320, .inl (fun _ => 0))), (q3, .inl (cy 1, 16, .inl a16)), (q4, .inl (cy 1, 61, .inl (fun _ => 0)))] H := hP
  replace hD : va_D A [(h0, .inr (7, [.ref q1, .int 0, .ref q2, .int 0, .int 0, .int 0, .int 0, .int 0, .int 0, .int 0, .int 0, .int 0, .ref q3, .null, .null, .int 0, .null, .int 0, .int 0, .int 0, .int 0, .null, .int 0, .null, .null, .null, .null, .int 0])), (q1, .inl (cy 1, 515, .inl (fun _ => 0))), (q2, .inl (cy 1, 320, .inl (fun _ => 0))), (q3, .inl (cy 1, 16, .inl a16)), (q4, .inl (cy 1, 61, .inl (fun _ => 0)))] := hD
  refine lv_dup hx hb dX7_init_123 rfl ?_
  refine lv_iconst (v := 0) hx hb dX7_init_124 (by decide) ?_
  refine lv_bipush (v := 119) hx hb dX7_init_125 (by decide) ?_
  refine va_iast hx hb hK hP hD hS 4 1 rfl rfl (by unfold vp_in; decide) dX7_init_127 (fun H locs hP hD hS => ?_)
  rw [cl_0] at hP hD
  obtain ⟨a17, ea17⟩ : ∃ z : Nat → Int32, z = upd (fun _ => 0) 0 119 := ⟨_, rfl⟩
  replace hP : va_P G vwCl [(h0, .inr (7, [.ref q1, .int 0, .ref q2, .int 0, .int 0, .int 0, .int 0, .int 0, .int 0, .int 0, .int 0, .int 0, .ref q3, .null, .null, .int 0, .null, .int 0, .int 0, .int 0, .int 0, .null, .int 0, .null, .null, .null, .null, .int 0])), (q1, .inl (cy 1, 515, .inl (fun _ => 0))), (q2, .inl (cy 1, 320, .inl (fun _ => 0))), (q3, .inl (cy 1, 16, .inl a16)), (q4, .inl (cy 1, 61, .inl a17))] H := by rw [ea17]; exact hP
  replace hD : va_D A [(h0, .inr (7, [.ref q1, .int 0, .ref q2, .int 0, .int 0, .int 0, .int 0, .int 0, .int 0, .int 0, .int 0, .int 0, .ref q3, .null, .null, .int 0, .null, .int 0, .int 0, .int 0, .int 0, .null, .int 0, .null, .null, .null, .null, .int 0])), (q1, .inl (cy 1, 515, .inl (fun _ => 0))), (q2, .inl (cy 1, 320, .inl (fun _ => 0))), (q3, .inl (cy 1, 16, .inl a16)), (q4, .inl (cy 1, 61, .inl a17))] := by rw [ea17]; exact hD
  refine lv_dup hx hb dX7_init_128 rfl ?_
  refine lv_iconst (v := 1) hx hb dX7_init_129 (by decide) ?_
  refine lv_bipush (v := 105) hx hb dX7_init_130 (by decide) ?_
  refine va_iast hx hb hK hP hD hS 4 1 rfl rfl (by unfold vp_in; decide) dX7_init_132 (fun H locs hP hD hS => ?_)
  rw [cl_1] at hP hD
  obtain ⟨a18, ea18⟩ : ∃ z : Nat → Int32, z = upd a17 1 105 := ⟨_, rfl⟩
  replace hP : va_P G vwCl [(h0, .inr (7, [.ref q1, .int 0, .ref q2, .int 0, .int 0, .int 0, .int 0, .int 0, .int 0, .int 0, .int 0, .int 0, .ref q3, .null, .null, .int 0, .null, .int 0, .int 0, .int 0, .int 0, .null, .int 0, .null, .null, .null, .null, .int 0])), (q1, .inl (cy 1, 515, .inl (fun _ => 0))), (q2, .inl (cy 1, 320, .inl (fun _ => 0))), (q3, .inl (cy 1, 16, .inl a16)), (q4, .inl (cy 1, 61, .inl a18))] H := by rw [ea18]; exact hP
  replace hD : va_D A [(h0, .inr (7, [.ref q1, .int 0, .ref q2, .int 0, .int 0, .int 0, .int 0, .int 0, .int 0, .int 0, .int 0, .int 0, .ref q3, .null, .null, .int 0, .null, .int 0, .int 0, .int 0, .int 0, .null, .int 0, .null, .null, .null, .null, .int 0])), (q1, .inl (cy 1, 515, .inl (fun _ => 0))), (q2, .inl (cy 1, 320, .inl (fun _ => 0))), (q3, .inl (cy 1, 16, .inl a16)), (q4, .inl (cy 1, 61, .inl a18))] := by rw [ea18]; exact hD
  refine lv_dup hx hb dX7_init_133 rfl ?_
  refine lv_iconst (v := 2) hx hb dX7_init_134 (by decide) ?_
  refine lv_bipush (v := 100) hx hb dX7_init_135 (by decide) ?_
  refine va_iast hx hb hK hP hD hS 4 1 rfl rfl (by unfold vp_in; decide) dX7_init_137 (fun H locs hP hD hS => ?_)
  rw [cl_2] at hP hD
  obtain ⟨a19, ea19⟩ : ∃ z : Nat → Int32, z = upd a18 2 100 := ⟨_, rfl⟩
  replace hP : va_P G vwCl [(h0, .inr (7, [.ref q1, .int 0, .ref q2, .int 0, .int 0, .int 0, .int 0, .int 0, .int 0, .int 0, .int 0, .int 0, .ref q3, .null, .null, .int 0, .null, .int 0, .int 0, .int 0, .int 0, .null, .int 0, .null, .null, .null, .null, .int 0])), (q1, .inl (cy 1, 515, .inl (fun _ => 0))), (q2, .inl (cy 1, 320, .inl (fun _ => 0))), (q3, .inl (cy 1, 16, .inl a16)), (q4, .inl (cy 1, 61, .inl a19))] H := by rw [ea19]; exact hP
  replace hD : va_D A [(h0, .inr (7, [.ref q1, .int 0, .ref q2, .int 0, .int 0, .int 0, .int 0, .int 0, .int 0, .int 0, .int 0, .int 0, .ref q3, .null, .null, .int 0, .null, .int 0, .int 0, .int 0, .int 0, .null, .int 0, .null, .null, .null, .null, .int 0])), (q1, .inl (cy 1, 515, .inl (fun _ => 0))), (q2, .inl (cy 1, 320, .inl (fun _ => 0))), (q3, .inl (cy 1, 16, .inl a16)), (q4, .inl (cy 1, 61, .inl a19))] := by rw [ea19]; exact hD
  refine lv_dup hx hb dX7_init_138 rfl ?_
  refine lv_iconst (v := 3) hx hb dX7_init_139 (by decide) ?_
  refine lv_bipush (v := 116) hx hb dX7_init_140 (by decide) ?_
  refine va_iast hx hb hK hP hD hS 4 1 rfl rfl (by unfold vp_in; decide) dX7_init_142 (fun H locs hP hD hS => ?_)
  rw [cl_3] at hP hD
  obtain ⟨a20, ea20⟩ : ∃ z : Nat → Int32, z = upd a19 3 116 := ⟨_, rfl⟩
  replace hP : va_P G vwCl [(h0, .inr (7, [.ref q1, .int 0, .ref q2, .int 0, .int 0, .int 0, .int 0, .int 0, .int 0, .int 0, .int 0, .int 0, .ref q3, .null, .null, .int 0, .null, .int 0, .int 0, .int 0, .int 0, .null, .int 0, .null, .null, .null, .null, .int 0])), (q1, .inl (cy 1, 515, .inl (fun _ => 0))), (q2, .inl (cy 1, 320, .inl (fun _ => 0))), (q3, .inl (cy 1, 16, .inl a16)), (q4, .inl (cy 1, 61, .inl a20))] H := by rw [ea20]; exact hP
  replace hD : va_D A [(h0, .inr (7, [.ref q1, .int 0, .ref q2, .int 0, .int 0, .int 0, .int 0, .int 0, .int 0, .int 0, .int 0, .int 0, .ref q3, .null, .null, .int 0, .null, .int 0, .int 0, .int 0, .int 0, .null, .int 0, .null, .null, .null, .null, .int 0])), (q1, .inl (cy 1, 515, .inl (fun _ => 0))), (q2, .inl (cy 1, 320, .inl (fun _ => 0))), (q3, .inl (cy 1, 16, .inl a16)), (q4, .inl (cy 1, 61, .inl a20))] := by rw [ea20]; exact hD
  refine lv_dup hx hb dX7_init_143 rfl ?_
  refine lv_iconst (v := 4) hx hb dX7_init_144 (by decide) ?_
  refine lv_bipush (v := 104) hx hb dX7_init_145 (by decide) ?_
  refine va_iast hx hb hK hP hD hS 4 1 rfl rfl (by unfold vp_in; decide) dX7_init_147 (fun H locs hP hD hS => ?_)
  rw [cl_4] at hP hD
  obtain ⟨a21, ea21⟩ : ∃ z : Nat → Int32, z = upd a20 4 104 := ⟨_, rfl⟩
  replace hP : va_P G vwCl [(h0, .inr (7, [.ref q1, .int 0, .ref q2, .int 0, .int 0, .int 0, .int 0, .int 0, .int 0, .int 0, .int 0, .int 0, .ref q3, .null, .null, .int 0, .null, .int 0, .int 0, .int 0, .int 0, .null, .int 0, .null, .null, .null, .null, .int 0])), (q1, .inl (cy 1, 515, .inl (fun _ => 0))), (q2, .inl (cy 1, 320, .inl (fun _ => 0))), (q3, .inl (cy 1, 16, .inl a16)), (q4, .inl (cy 1, 61, .inl a21))] H := by rw [ea21]; exact hP
  replace hD : va_D A [(h0, .inr (7, [.ref q1, .int 0, .ref q2, .int 0, .int 0, .int 0, .int 0, .int 0, .int 0, .int 0, .int 0, .int 0, .ref q3, .null, .null, .int 0, .null, .int 0, .int 0, .int 0, .int 0, .null, .int 0, .null, .null, .null, .null, .int 0])), (q1, .inl (cy 1, 515, .inl (fun _ => 0))), (q2, .inl (cy 1, 320, .inl (fun _ => 0))), (q3, .inl (cy 1, 16, .inl a16)), (q4, .inl (cy 1, 61, .inl a21))] := by rw [ea21]; exact hD
  refine lv_dup hx hb dX7_init_148 rfl ?_
  refine lv_iconst (v := 5) hx hb dX7_init_149 (by decide) ?_
  refine lv_bipush (v := 110) hx hb dX7_init_150 (by decide) ?_
  refine va_iast hx hb hK hP hD hS 4 1 rfl rfl (by unfold vp_in; decide) dX7_init_152 (fun H locs hP hD hS => ?_)
  rw [cl_5] at hP hD
  obtain ⟨a22, ea22⟩ : ∃ z : Nat → Int32, z = upd a21 5 110 := ⟨_, rfl⟩
  replace hP : va_P G vwCl [(h0, .inr (7, [.ref q1, .int 0, .ref q2, .int 0, .int 0, .int 0, .int 0, .int 0, .int 0, .int 0, .int 0, .int 0, .ref q3, .null, .null, .int 0, .null, .int 0, .int 0, .int 0, .int 0, .null, .int 0, .null, .null, .null, .null, .int 0])), (q1, .inl (cy 1, 515, .inl (fun _ => 0))), (q2, .inl (cy 1, 320, .inl (fun _ => 0))), (q3, .inl (cy 1, 16, .inl a16)), (q4, .inl (cy 1, 61, .inl a22))] H := by rw [ea22]; exact hP
  replace hD : va_D A [(h0, .inr (7, [.ref q1, .int 0, .ref q2, .int 0, .int 0, .int 0, .int 0, .int 0, .int 0, .int 0, .int 0, .int 0, .ref q3, .null, .null, .int 0, .null, .int 0, .int 0, .int 0, .int 0, .null, .int 0, .null, .null, .null, .null, .int 0])), (q1, .inl (cy 1, 515, .inl (fun _ => 0))), (q2, .inl (cy 1, 320, .inl (fun _ => 0))), (q3, .inl (cy 1, 16, .inl a16)), (q4, .inl (cy 1, 61, .inl a22))] := by rw [ea22]; exact hD
  refine lv_dup hx hb dX7_init_153 rfl ?_
  refine lv_bipush (v := 6) hx hb dX7_init_154 (by decide) ?_
  refine lv_bipush (v := 101) hx hb dX7_init_156 (by decide) ?_
  refine va_iast hx hb hK hP hD hS 4 1 rfl rfl (by unfold vp_in; decide) dX7_init_158 (fun H locs hP hD hS => ?_)
  rw [cl_6] at hP hD
  obtain ⟨a23, ea23⟩ : ∃ z : Nat → Int32, z = upd a22 6 101 := ⟨_, rfl⟩
  replace hP : va_P G vwCl [(h0, .inr (7, [.ref q1, .int 0, .ref q2, .int 0, .int 0, .int 0, .int 0, .int 0, .int 0, .int 0, .int 0, .int 0, .ref q3, .null, .null, .int 0, .null, .int 0, .int 0, .int 0, .int 0, .null, .int 0, .null, .null, .null, .null, .int 0])), (q1, .inl (cy 1, 515, .inl (fun _ => 0))), (q2, .inl (cy 1, 320, .inl (fun _ => 0))), (q3, .inl (cy 1, 16, .inl a16)), (q4, .inl (cy 1, 61, .inl a23))] H := by rw [ea23]; exact hP
  replace hD : va_D A [(h0, .inr (7, [.ref q1, .int 0, .ref q2, .int 0, .int 0, .int 0, .int 0, .int 0, .int 0, .int 0, .int 0, .int 0, .ref q3, .null, .null, .int 0, .null, .int 0, .int 0, .int 0, .int 0, .null, .int 0, .null, .null, .null, .null, .int 0])), (q1, .inl (cy 1, 515, .inl (fun _ => 0))), (q2, .inl (cy 1, 320, .inl (fun _ => 0))), (q3, .inl (cy 1, 16, .inl a16)), (q4, .inl (cy 1, 61, .inl a23))] := by rw [ea23]; exact hD
  refine lv_dup hx hb dX7_init_159 rfl ?_
  refine lv_bipush (v := 7) hx hb dX7_init_160 (by decide) ?_
  refine lv_bipush (v := 101) hx hb dX7_init_162 (by decide) ?_
  refine va_iast hx hb hK hP hD hS 4 1 rfl rfl (by unfold vp_in; decide) dX7_init_164 (fun H locs hP hD hS => ?_)
  rw [cl_7] at hP hD
  obtain ⟨a24, ea24⟩ : ∃ z : Nat → Int32, z = upd a23 7 101 := ⟨_, rfl⟩
  replace hP : va_P G vwCl [(h0, .inr (7, [.ref q1, .int 0, .ref q2, .int 0, .int 0, .int 0, .int 0, .int 0, .int 0, .int 0, .int 0, .int 0, .ref q3, .null, .null, .int 0, .null, .int 0, .int 0, .int 0, .int 0, .null, .int 0, .null, .null, .null, .null, .int 0])), (q1, .inl (cy 1, 515, .inl (fun _ => 0))), (q2, .inl (cy 1, 320, .inl (fun _ => 0))), (q3, .inl (cy 1, 16, .inl a16)), (q4, .inl (cy 1, 61, .inl a24))] H := by rw [ea24]; exact hP
  replace hD : va_D A [(h0, .inr (7, [.ref q1, .int 0, .ref q2, .int 0, .int 0, .int 0, .int 0, .int 0, .int 0, .int 0, .int 0, .int 0, .ref q3, .null, .null, .int 0, .null, .int 0, .int 0, .int 0, .int 0, .null, .int 0, .null, .null, .null, .null, .int 0])), (q1, .inl (cy 1, 515, .inl (fun _ => 0))), (q2, .inl (cy 1, 320, .inl (fun _ => 0))), (q3, .inl (cy 1, 16, .inl a16)), (q4, .inl (cy 1, 61, .inl a24))] := by rw [ea24]; exact hD
  refine lv_dup hx hb dX7_init_165 rfl ?_
  refine lv_bipush (v := 8) hx hb dX7_init_166 (by decide) ?_
  refine lv_bipush (v := 100) hx hb dX7_init_168 (by decide) ?_
  refine va_iast hx hb hK hP hD hS 4 1 rfl rfl (by unfold vp_in; decide) dX7_init_170 (fun H locs hP hD hS => ?_)
  rw [cl_8] at hP hD
  obtain ⟨a25, ea25⟩ : ∃ z : Nat → Int32, z = upd a24 8 100 := ⟨_, rfl⟩
  replace hP : va_P G vwCl [(h0, .inr (7, [.ref q1, .int 0, .ref q2, .int 0, .int 0, .int 0, .int 0, .int 0, .int 0, .int 0, .int 0, .int 0, .ref q3, .null, .null, .int 0, .null, .int 0, .int 0, .int 0, .int 0, .null, .int 0, .null, .null, .null, .null, .int 0])), (q1, .inl (cy 1, 515, .inl (fun _ => 0))), (q2, .inl (cy 1, 320, .inl (fun _ => 0))), (q3, .inl (cy 1, 16, .inl a16)), (q4, .inl (cy 1, 61, .inl a25))] H := by rw [ea25]; exact hP
  replace hD : va_D A [(h0, .inr (7, [.ref q1, .int 0, .ref q2, .int 0, .int 0, .int 0, .int 0, .int 0, .int 0, .int 0, .int 0, .int 0, .ref q3, .null, .null, .int 0, .null, .int 0, .int 0, .int 0, .int 0, .null, .int 0, .null, .null, .null, .null, .int 0])), (q1, .inl (cy 1, 515, .inl (fun _ => 0))), (q2, .inl (cy 1, 320, .inl (fun _ => 0))), (q3, .inl (cy 1, 16, .inl a16)), (q4, .inl (cy 1, 61, .inl a25))] := by rw [ea25]; exact hD
  refine lv_dup hx hb dX7_init_171 rfl ?_
  refine lv_bipush (v := 9) hx hb dX7_init_172 (by decide) ?_
  refine lv_bipush (v := 112) hx hb dX7_init_174 (by decide) ?_
  refine va_iast hx hb hK hP hD hS 4 1 rfl rfl (by unfold vp_in; decide) dX7_init_176 (fun H locs hP hD hS => ?_)
  rw [cl_9] at hP hD
  obtain ⟨a26, ea26⟩ : ∃ z : Nat → Int32, z = upd a25 9 112 := ⟨_, rfl⟩
  replace hP : va_P G vwCl [(h0, .inr (7, [.ref q1, .int 0, .ref q2, .int 0, .int 0, .int 0, .int 0, .int 0, .int 0, .int 0, .int 0, .int 0, .ref q3, .null, .null, .int 0, .null, .int 0, .int 0, .int 0, .int 0, .null, .int 0, .null, .null, .null, .null, .int 0])), (q1, .inl (cy 1, 515, .inl (fun _ => 0))), (q2, .inl (cy 1, 320, .inl (fun _ => 0))), (q3, .inl (cy 1, 16, .inl a16)), (q4, .inl (cy 1, 61, .inl a26))] H := by rw [ea26]; exact hP
  replace hD : va_D A [(h0, .inr (7, [.ref q1, .int 0, .ref q2, .int 0, .int 0, .int 0, .int 0, .int 0, .int 0, .int 0, .int 0, .int 0, .ref q3, .null, .null, .int 0, .null, .int 0, .int 0, .int 0, .int 0, .null, .int 0, .null, .null, .null, .null, .int 0])), (q1, .inl (cy 1, 515, .inl (fun _ => 0))), (q2, .inl (cy 1, 320, .inl (fun _ => 0))), (q3, .inl (cy 1, 16, .inl a16)), (q4, .inl (cy 1, 61, .inl a26))] := by rw [ea26]; exact hD
  refine lv_dup hx hb dX7_init_177 rfl ?_
  refine lv_bipush (v := 10) hx hb dX7_init_178 (by decide) ?_
  refine lv_bipush (v := 97) hx hb dX7_init_180 (by decide) ?_
  refine va_iast hx hb hK hP hD hS 4 1 rfl rfl (by unfold vp_in; decide) dX7_init_182 (fun H locs hP hD hS => ?_)
  rw [cl_10] at hP hD
  obtain ⟨a27, ea27⟩ : ∃ z : Nat → Int32, z = upd a26 10 97 := ⟨_, rfl⟩
  replace hP : va_P G vwCl [(h0, .inr (7, [.ref q1, .int 0, .ref q2, .int 0, .int 0, .int 0, .int 0, .int 0, .int 0, .int 0, .int 0, .int 0, .ref q3, .null, .null, .int 0, .null, .int 0, .int 0, .int 0, .int 0, .null, .int 0, .null, .null, .null, .null, .int 0])), (q1, .inl (cy 1, 515, .inl (fun _ => 0))), (q2, .inl (cy 1, 320, .inl (fun _ => 0))), (q3, .inl (cy 1, 16, .inl a16)), (q4, .inl (cy 1, 61, .inl a27))] H := by rw [ea27]; exact hP
  replace hD : va_D A [(h0, .inr (7, [.ref q1, .int 0, .ref q2, .int 0, .int 0, .int 0, .int 0, .int 0, .int 0, .int 0, .int 0, .int 0, .ref q3, .null, .null, .int 0, .null, .int 0, .int 0, .int 0, .int 0, .null, .int 0, .null, .null, .null, .null, .int 0])), (q1, .inl (cy 1, 515, .inl (fun _ => 0))), (q2, .inl (cy 1, 320, .inl (fun _ => 0))), (q3, .inl (cy 1, 16, .inl a16)), (q4, .inl (cy 1, 61, .inl a27))] := by rw [ea27]; exact hD
  refine lv_dup hx hb dX7_init_183 rfl ?_
  refine lv_bipush (v := 11) hx hb dX7_init_184 (by decide) ?_
  refine lv_bipush (v := 114) hx hb dX7_init_186 (by decide) ?_
  refine va_iast hx hb hK hP hD hS 4 1 rfl rfl (by unfold vp_in; decide) dX7_init_188 (fun H locs hP hD hS => ?_)
  rw [cl_11] at hP hD
  obtain ⟨a28, ea28⟩ : ∃ z : Nat → Int32, z = upd a27 11 114 := ⟨_, rfl⟩
  replace hP : va_P G vwCl [(h0, .inr (7, [.ref q1, .int 0, .ref q2, .int 0, .int 0, .int 0, .int 0, .int 0, .int 0, .int 0, .int 0, .int 0, .ref q3, .null, .null, .int 0, .null, .int 0, .int 0, .int 0, .int 0, .null, .int 0, .null, .null, .null, .null, .int 0])), (q1, .inl (cy 1, 515, .inl (fun _ => 0))), (q2, .inl (cy 1, 320, .inl (fun _ => 0))), (q3, .inl (cy 1, 16, .inl a16)), (q4, .inl (cy 1, 61, .inl a28))] H := by rw [ea28]; exact hP
  replace hD : va_D A [(h0, .inr (7, [.ref q1, .int 0, .ref q2, .int 0, .int 0, .int 0, .int 0, .int 0, .int 0, .int 0, .int 0, .int 0, .ref q3, .null, .null, .int 0, .null, .int 0, .int 0, .int 0, .int 0, .null, .int 0, .null, .null, .null, .null, .int 0])), (q1, .inl (cy 1, 515, .inl (fun _ => 0))), (q2, .inl (cy 1, 320, .inl (fun _ => 0))), (q3, .inl (cy 1, 16, .inl a16)), (q4, .inl (cy 1, 61, .inl a28))] := by rw [ea28]; exact hD
  refine lv_dup hx hb dX7_init_189 rfl ?_
  refine lv_bipush (v := 12) hx hb dX7_init_190 (by decide) ?_
  refine lv_bipush (v := 116) hx hb dX7_init_192 (by decide) ?_
  refine va_iast hx hb hK hP hD hS 4 1 rfl rfl (by unfold vp_in; decide) dX7_init_194 (fun H locs hP hD hS => ?_)
  rw [cl_12] at hP hD
  obtain ⟨a29, ea29⟩ : ∃ z : Nat → Int32, z = upd a28 12 116 := ⟨_, rfl⟩
  replace hP : va_P G vwCl [(h0, .inr (7, [.ref q1, .int 0, .ref q2, .int 0, .int 0, .int 0, .int 0, .int 0, .int 0, .int 0, .int 0, .int 0, .ref q3, .null, .null, .int 0, .null, .int 0, .int 0, .int 0, .int 0, .null, .int 0, .null, .null, .null, .null, .int 0])), (q1, .inl (cy 1, 515, .inl (fun _ => 0))), (q2, .inl (cy 1, 320, .inl (fun _ => 0))), (q3, .inl (cy 1, 16, .inl a16)), (q4, .inl (cy 1, 61, .inl a29))] H := by rw [ea29]; exact hP
  replace hD : va_D A [(h0, .inr (7, [.ref q1, .int 0, .ref q2, .int 0, .int 0, .int 0, .int 0, .int 0, .int 0, .int 0, .int 0, .int 0, .ref q3, .null, .null, .int 0, .null, .int 0, .int 0, .int 0, .int 0, .null, .int 0, .null, .null, .null, .null, .int 0])), (q1, .inl (cy 1, 515, .inl (fun _ => 0))), (q2, .inl (cy 1, 320, .inl (fun _ => 0))), (q3, .inl (cy 1, 16, .inl a16)), (q4, .inl (cy 1, 61, .inl a29))] := by rw [ea29]; exact hD
  refine lv_dup hx hb dX7_init_195 rfl ?_
  refine lv_bipush (v := 13) hx hb dX7_init_196 (by decide) ?_
  refine lv_bipush (v := 114) hx hb dX7_init_198 (by decide) ?_
  refine va_iast hx hb hK hP hD hS 4 1 rfl rfl (by unfold vp_in; decide) dX7_init_200 (fun H locs hP hD hS => ?_)
  rw [cl_13] at hP hD
  obtain ⟨a30, ea30⟩ : ∃ z : Nat → Int32, z = upd a29 13 114 := ⟨_, rfl⟩
  replace hP : va_P G vwCl [(h0, .inr (7, [.ref q1, .int 0, .ref q2, .int 0, .int 0, .int 0, .int 0, .int 0, .int 0, .int 0, .int 0, .int 0, .ref q3, .null, .null, .int 0, .null, .int 0, .int 0, .int 0, .int 0, .null, .int 0, .null, .null, .null, .null, .int 0])), (q1, .inl (cy 1, 515, .inl (fun _ => 0))), (q2, .inl (cy 1, 320, .inl (fun _ => 0))), (q3, .inl (cy 1, 16, .inl a16)), (q4, .inl (cy 1, 61, .inl a30))] H := by rw [ea30]; exact hP
  replace hD : va_D A [(h0, .inr (7, [.ref q1, .int 0, .ref q2, .int 0, .int 0, .int 0, .int 0, .int 0, .int 0, .int 0, .int 0, .int 0, .ref q3, .null, .null, .int 0, .null, .int 0, .int 0, .int 0, .int 0, .null, .int 0, .null, .null, .null, .null, .int 0])), (q1, .inl (cy 1, 515, .inl (fun _ => 0))), (q2, .inl (cy 1, 320, .inl (fun _ => 0))), (q3, .inl (cy 1, 16, .inl a16)), (q4, .inl (cy 1, 61, .inl a30))] := by rw [ea30]; exact hD
  refine lv_dup hx hb dX7_init_201 rfl ?_
  refine lv_bipush (v := 14) hx hb dX7_init_202 (by decide) ?_
  refine lv_bipush (v := 117) hx hb dX7_init_204 (by decide) ?_
  refine va_iast hx hb hK hP hD hS 4 1 rfl rfl (by unfold vp_in; decide) dX7_init_206 (fun H locs hP hD hS => ?_)
  rw [cl_14] at hP hD
  obtain ⟨a31, ea31⟩ : ∃ z : Nat → Int32, z = upd a30 14 117 := ⟨_, rfl⟩
  replace hP : va_P G vwCl [(h0, .inr (7, [.ref q1, .int 0, .ref q2, .int 0, .int 0, .int 0, .int 0, .int 0, .int 0, .int 0, .int 0, .int 0, .ref q3, .null, .null, .int 0, .null, .int 0, .int 0, .int 0, .int 0, .null, .int 0, .null, .null, .null, .null, .int 0])), (q1, .inl (cy 1, 515, .inl (fun _ => 0))), (q2, .inl (cy 1, 320, .inl (fun _ => 0))), (q3, .inl (cy 1, 16, .inl a16)), (q4, .inl (cy 1, 61, .inl a31))] H := by rw [ea31]; exact hP
  replace hD : va_D A [(h0, .inr (7, [.ref q1, .int 0, .ref q2, .int 0, .int 0, .int 0, .int 0, .int 0, .int 0, .int 0, .int 0, .int 0, .ref q3, .null, .null, .int 0, .null, .int 0, .int 0, .int 0, .int 0, .null, .int 0, .null, .null, .null, .null, .int 0])), (q1, .inl (cy 1, 515, .inl (fun _ => 0))), (q2, .inl (cy 1, 320, .inl (fun _ => 0))), (q3, .inl (cy 1, 16, .inl a16)), (q4, .inl (cy 1, 61, .inl a31))] := by rw [ea31]; exact hD
  refine lv_dup hx hb dX7_init_207 rfl ?_
  refine lv_bipush (v := 15) hx hb dX7_init_208 (by decide) ?_
  refine lv_bipush (v := 108) hx hb dX7_init_210 (by decide) ?_
  refine va_iast hx hb hK hP hD hS 4 1 rfl rfl (by unfold vp_in; decide) dX7_init_212 (fun H locs hP hD hS => ?_)
  rw [cl_15] at hP hD
  obtain ⟨a32, ea32⟩ : ∃ z : Nat → Int32, z = upd a31 15 108 := ⟨_, rfl⟩
  replace hP : va_P G vwCl [(h0, .inr (7, [.ref q1, .int 0, .ref q2, .int 0, .int 0, .int 0, .int 0, .int 0, .int 0, .int 0, .int 0, .int 0, .ref q3, .null, .null, .int 0, .null, .int 0, .int 0, .int 0, .int 0, .null, .int 0, .null, .null, .null, .null, .int 0])), (q1, .inl (cy 1, 515, .inl (fun _ => 0))), (q2, .inl (cy 1, 320, .inl (fun _ => 0))), (q3, .inl (cy 1, 16, .inl a16)), (q4, .inl (cy 1, 61, .inl a32))] H := by rw [ea32]; exact hP
  replace hD : va_D A [(h0, .inr (7, [.ref q1, .int 0, .ref q2, .int 0, .int 0, .int 0, .int 0, .int 0, .int 0, .int 0, .int 0, .int 0, .ref q3, .null, .null, .int 0, .null, .int 0, .int 0, .int 0, .int 0, .null, .int 0, .null, .null, .null, .null, .int 0])), (q1, .inl (cy 1, 515, .inl (fun _ => 0))), (q2, .inl (cy 1, 320, .inl (fun _ => 0))), (q3, .inl (cy 1, 16, .inl a16)), (q4, .inl (cy 1, 61, .inl a32))] := by rw [ea32]; exact hD
  refine lv_dup hx hb dX7_init_213 rfl ?_
  refine lv_bipush (v := 16) hx hb dX7_init_214 (by decide) ?_
  refine lv_bipush (v := 101) hx hb dX7_init_216 (by decide) ?_
  refine va_iast hx hb hK hP hD hS 4 1 rfl rfl (by unfold vp_in; decide) dX7_init_218 (fun H locs hP hD hS => ?_)
  rw [cl_16] at hP hD
  obtain ⟨a33, ea33⟩ : ∃ z : Nat → Int32, z = upd a32 16 101 := ⟨_, rfl⟩
  replace hP : va_P G vwCl [(h0, .inr (7, [.ref q1, .int 0, .ref q2, .int 0, .int 0, .int 0, .int 0, .int 0, .int 0, .int 0, .int 0, .int 0, .ref q3, .null, .null, .int 0, .null, .int 0, .int 0, .int 0, .int 0, .null, .int 0, .null, .null, .null, .null, .int 0])), (q1, .inl (cy 1, 515, .inl (fun _ => 0))), (q2, .inl (cy 1, 320, .inl (fun _ => 0))), (q3, .inl (cy 1, 16, .inl a16)), (q4, .inl (cy 1, 61, .inl a33))] H := by rw [ea33]; exact hP
  replace hD : va_D A [(h0, .inr (7, [.ref q1, .int 0, .ref q2, .int 0, .int 0, .int 0, .int 0, .int 0, .int 0, .int 0, .int 0, .int 0, .ref q3, .null, .null, .int 0, .null, .int 0, .int 0, .int 0, .int 0, .null, .int 0, .null, .null, .null, .null, .int 0])), (q1, .inl (cy 1, 515, .inl (fun _ => 0))), (q2, .inl (cy 1, 320, .inl (fun _ => 0))), (q3, .inl (cy 1, 16, .inl a16)), (q4, .inl (cy 1, 61, .inl a33))] := by rw [ea33]; exact hD
  refine lv_dup hx hb dX7_init_219 rfl ?_
  refine lv_bipush (v := 17) hx hb dX7_init_220 (by decide) ?_
  refine lv_bipush (v := 102) hx hb dX7_init_222 (by decide) ?_
  refine va_iast hx hb hK hP hD hS 4 1 rfl rfl (by unfold vp_in; decide) dX7_init_224 (fun H locs hP hD hS => ?_)
  rw [cl_17] at hP hD
  obtain ⟨a34, ea34⟩ : ∃ z : Nat → Int32, z = upd a33 17 102 := ⟨_, rfl⟩
  replace hP : va_P G vwCl [(h0, .inr (7, [.ref q1, .int 0, .ref q2, .int 0, .int 0, .int 0, .int 0, .int 0, .int 0, .int 0, .int 0, .int 0, .ref q3, .null, .null, .int 0, .null, .int 0, .int 0, .int 0, .int 0, .null, .int 0, .null, .null, .null, .null, .int 0])), (q1, .inl (cy 1, 515, .inl (fun _ => 0))), (q2, .inl (cy 1, 320, .inl (fun _ => 0))), (q3, .inl (cy 1, 16, .inl a16)), (q4, .inl (cy 1, 61, .inl a34))] H := by rw [ea34]; exact hP
  replace hD : va_D A [(h0, .inr (7, [.ref q1, .int 0, .ref q2, .int 0, .int 0, .int 0, .int 0, .int 0, .int 0, .int 0, .int 0, .int 0, .ref q3, .null, .null, .int 0, .null, .int 0, .int 0, .int 0, .int 0, .null, .int 0, .null, .null, .null, .null, .int 0])), (q1, .inl (cy 1, 515, .inl (fun _ => 0))), (q2, .inl (cy 1, 320, .inl (fun _ => 0))), (q3, .inl (cy 1, 16, .inl a16)), (q4, .inl (cy 1, 61, .inl a34))] := by rw [ea34]; exact hD
  refine lv_dup hx hb dX7_init_225 rfl ?_
  refine lv_bipush (v := 18) hx hb dX7_init_226 (by decide) ?_
  refine lv_bipush (v := 111) hx hb dX7_init_228 (by decide) ?_
  refine va_iast hx hb hK hP hD hS 4 1 rfl rfl (by unfold vp_in; decide) dX7_init_230 (fun H locs hP hD hS => ?_)
  rw [cl_18] at hP hD
  obtain ⟨a35, ea35⟩ : ∃ z : Nat → Int32, z = upd a34 18 111 := ⟨_, rfl⟩
  replace hP : va_P G vwCl [(h0, .inr (7, [.ref q1, .int 0, .ref q2, .int 0, .int 0, .int 0, .int 0, .int 0, .int 0, .int 0, .int 0, .int 0, .ref q3, .null, .null, .int 0, .null, .int 0, .int 0, .int 0, .int 0, .null, .int 0, .null, .null, .null, .null, .int 0])), (q1, .inl (cy 1, 515, .inl (fun _ => 0))), (q2, .inl (cy 1, 320, .inl (fun _ => 0))), (q3, .inl (cy 1, 16, .inl a16)), (q4, .inl (cy 1, 61, .inl a35))] H := by rw [ea35]; exact hP
  replace hD : va_D A [(h0, .inr (7, [.ref q1, .int 0, .ref q2, .int 0, .int 0, .int 0, .int 0, .int 0, .int 0, .int 0, .int 0, .int 0, .ref q3, .null, .null, .int 0, .null, .int 0, .int 0, .int 0, .int 0, .null, .int 0, .null, .null, .null, .null, .int 0])), (q1, .inl (cy 1, 515, .inl (fun _ => 0))), (q2, .inl (cy 1, 320, .inl (fun _ => 0))), (q3, .inl (cy 1, 16, .inl a16)), (q4, .inl (cy 1, 61, .inl a35))] := by rw [ea35]; exact hD
  refine lv_dup hx hb dX7_init_231 rfl ?_
  refine lv_bipush (v := 19) hx hb dX7_init_232 (by decide) ?_
  refine lv_bipush (v := 114) hx hb dX7_init_234 (by decide) ?_
  refine va_iast hx hb hK hP hD hS 4 1 rfl rfl (by unfold vp_in; decide) dX7_init_236 (fun H locs hP hD hS => ?_)
  rw [cl_19] at hP hD
  obtain ⟨a36, ea36⟩ : ∃ z : Nat → Int32, z = upd a35 19 114 := ⟨_, rfl⟩
  replace hP : va_P G vwCl [(h0, .inr (7, [.ref q1, .int 0, .ref q2, .int 0, .int 0, .int 0, .int 0, .int 0, .int 0, .int 0, .int 0, .int 0, .ref q3, .null, .null, .int 0, .null, .int 0, .int 0, .int 0, .int 0, .null, .int 0, .null, .null, .null, .null, .int 0])), (q1, .inl (cy 1, 515, .inl (fun _ => 0))), (q2, .inl (cy 1, 320, .inl (fun _ => 0))), (q3, .inl (cy 1, 16, .inl a16)), (q4, .inl (cy 1, 61, .inl a36))] H := by rw [ea36]; exact hP
  replace hD : va_D A [(h0, .inr (7, [.ref q1, .int 0, .ref q2, .int 0, .int 0, .int 0, .int 0, .int 0, .int 0, .int 0, .int 0, .int 0, .ref q3, .null, .null, .int 0, .null, .int 0, .int 0, .int 0, .int 0, .null, .int 0, .null, .null, .null, .null, .int 0])), (q1, .inl (cy 1, 515, .inl (fun _ => 0))), (q2, .inl (cy 1, 320, .inl (fun _ => 0))), (q3, .inl (cy 1, 16, .inl a16)), (q4, .inl (cy 1, 61, .inl a36))] := by rw [ea36]; exact hD
  refine lv_dup hx hb dX7_init_237 rfl ?_
  refine lv_bipush (v := 20) hx hb dX7_init_238 (by decide) ?_
  refine lv_bipush (v := 109) hx hb dX7_init_240 (by decide) ?_
  refine va_iast hx hb hK hP hD hS 4 1 rfl rfl (by unfold vp_in; decide) dX7_init_242 (fun H locs hP hD hS => ?_)
  rw [cl_20] at hP hD
  obtain ⟨a37, ea37⟩ : ∃ z : Nat → Int32, z = upd a36 20 109 := ⟨_, rfl⟩
  replace hP : va_P G vwCl [(h0, .inr (7, [.ref q1, .int 0, .ref q2, .int 0, .int 0, .int 0, .int 0, .int 0, .int 0, .int 0, .int 0, .int 0, .ref q3, .null, .null, .int 0, .null, .int 0, .int 0, .int 0, .int 0, .null, .int 0, .null, .null, .null, .null, .int 0])), (q1, .inl (cy 1, 515, .inl (fun _ => 0))), (q2, .inl (cy 1, 320, .inl (fun _ => 0))), (q3, .inl (cy 1, 16, .inl a16)), (q4, .inl (cy 1, 61, .inl a37))] H := by rw [ea37]; exact hP
  replace hD : va_D A [(h0, .inr (7, [.ref q1, .int 0, .ref q2, .int 0, .int 0, .int 0, .int 0, .int 0, .int 0, .int 0, .int 0, .int 0, .ref q3, .null, .null, .int 0, .null, .int 0, .int 0, .int 0, .int 0, .null, .int 0, .null, .null, .null, .null, .int 0])), (q1, .inl (cy 1, 515, .inl (fun _ => 0))), (q2, .inl (cy 1, 320, .inl (fun _ => 0))), (q3, .inl (cy 1, 16, .inl a16)), (q4, .inl (cy 1, 61, .inl a37))] := by rw [ea37]; exact hD
  refine lv_dup hx hb dX7_init_243 rfl ?_
  refine lv_bipush (v := 21) hx hb dX7_init_244 (by decide) ?_
  refine lv_bipush (v := 112) hx hb dX7_init_246 (by decide) ?_
  refine va_iast hx hb hK hP hD hS 4 1 rfl rfl (by unfold vp_in; decide) dX7_init_248 (fun H locs hP hD hS => ?_)
  rw [cl_21] at hP hD
  obtain ⟨a38, ea38⟩ : ∃ z : Nat → Int32, z = upd a37 21 112 := ⟨_, rfl⟩
  replace hP : va_P G vwCl [(h0, .inr (7, [.ref q1, .int 0, .ref q2, .int 0, .int 0, .int 0, .int 0, .int 0, .int 0, .int 0, .int 0, .int 0, .ref q3, .null, .null, .int 0, .null, .int 0, .int 0, .int 0, .int 0, .null, .int 0, .null, .null, .null, .null, .int 0])), (q1, .inl (cy 1, 515, .inl (fun _ => 0))), (q2, .inl (cy 1, 320, .inl (fun _ => 0))), (q3, .inl (cy 1, 16, .inl a16)), (q4, .inl (cy 1, 61, .inl a38))] H := by rw [ea38]; exact hP
  replace hD : va_D A [(h0, .inr (7, [.ref q1, .int 0, .ref q2, .int 0, .int 0, .int 0, .int 0, .int 0, .int 0, .int 0, .int 0, .int 0, .ref q3, .null, .null, .int 0, .null, .int 0, .int 0, .int 0, .int 0, .null, .int 0, .null, .null, .null, .null, .int 0])), (q1, .inl (cy 1, 515, .inl (fun _ => 0))), (q2, .inl (cy 1, 320, .inl (fun _ => 0))), (q3, .inl (cy 1, 16, .inl a16)), (q4, .inl (cy 1, 61, .inl a38))] := by rw [ea38]; exact hD
  refine lv_dup hx hb dX7_init_249 rfl ?_
  refine lv_bipush (v := 22) hx hb dX7_init_250 (by decide) ?_
  refine lv_bipush (v := 117) hx hb dX7_init_252 (by decide) ?_
  refine va_iast hx hb hK hP hD hS 4 1 rfl rfl (by unfold vp_in; decide) dX7_init_254 (fun H locs hP hD hS => ?_)
  rw [cl_22] at hP hD
  obtain ⟨a39, ea39⟩ : ∃ z : Nat → Int32, z = upd a38 22 117 := ⟨_, rfl⟩
  replace hP : va_P G vwCl [(h0, .inr (7, [.ref q1, .int 0, .ref q2, .int 0, .int 0, .int 0, .int 0, .int 0, .int 0, .int 0, .int 0, .int 0, .ref q3, .null, .null, .int 0, .null, .int 0, .int 0, .int 0, .int 0, .null, .int 0, .null, .null, .null, .null, .int 0])), (q1, .inl (cy 1, 515, .inl (fun _ => 0))), (q2, .inl (cy 1, 320, .inl (fun _ => 0))), (q3, .inl (cy 1, 16, .inl a16)), (q4, .inl (cy 1, 61, .inl a39))] H := by rw [ea39]; exact hP
  replace hD : va_D A [(h0, .inr (7, [.ref q1, .int 0, .ref q2, .int 0, .int 0, .int 0, .int 0, .int 0, .int 0, .int 0, .int 0, .int 0, .ref q3, .null, .null, .int 0, .null, .int 0, .int 0, .int 0, .int 0, .null, .int 0, .null, .null, .null, .null, .int 0])), (q1, .inl (cy 1, 515, .inl (fun _ => 0))), (q2, .inl (cy 1, 320, .inl (fun _ => 0))), (q3, .inl (cy 1, 16, .inl a16)), (q4, .inl (cy 1, 61, .inl a39))] := by rw [ea39]; exact hD
  refine lv_dup hx hb dX7_init_255 rfl ?_
  refine lv_bipush (v := 23) hx hb dX7_init_256 (by decide) ?_
  refine lv_bipush (v := 116) hx hb dX7_init_258 (by decide) ?_
  refine va_iast hx hb hK hP hD hS 4 1 rfl rfl (by unfold vp_in; decide) dX7_init_260 (fun H locs hP hD hS => ?_)
  rw [cl_23] at hP hD
  obtain ⟨a40, ea40⟩ : ∃ z : Nat → Int32, z = upd a39 23 116 := ⟨_, rfl⟩
  replace hP : va_P G vwCl [(h0, .inr (7, [.ref q1, .int 0, .ref q2, .int 0, .int 0, .int 0, .int 0, .int 0, .int 0, .int 0, .int 0, .int 0, .ref q3, .null, .null, .int 0, .null, .int 0, .int 0, .int 0, .int 0, .null, .int 0, .null, .null, .null, .null, .int 0])), (q1, .inl (cy 1, 515, .inl (fun _ => 0))), (q2, .inl (cy 1, 320, .inl (fun _ => 0))), (q3, .inl (cy 1, 16, .inl a16)), (q4, .inl (cy 1, 61, .inl a40))] H := by rw [ea40]; exact hP
  replace hD : va_D A [(h0, .inr (7, [.ref q1, .int 0, .ref q2, .int 0, .int 0, .int 0, .int 0, .int 0, .int 0, .int 0, .int 0, .int 0, .ref q3, .null, .null, .int 0, .null, .int 0, .int 0, .int 0, .int 0, .null, .int 0, .null, .null, .null, .null, .int 0])), (q1, .inl (cy 1, 515, .inl (fun _ => 0))), (q2, .inl (cy 1, 320, .inl (fun _ => 0))), (q3, .inl (cy 1, 16, .inl a16)), (q4, .inl (cy 1, 61, .inl a40))] := by rw [ea40]; exact hD
  refine lv_dup hx hb dX7_init_261 rfl ?_
  refine lv_bipush (v := 24) hx hb dX7_init_262 (by decide) ?_
  refine lv_bipush (v := 108) hx hb dX7_init_264 (by decide) ?_
  refine va_iast hx hb hK hP hD hS 4 1 rfl rfl (by unfold vp_in; decide) dX7_init_266 (fun H locs hP hD hS => ?_)
  rw [cl_24] at hP hD
  obtain ⟨a41, ea41⟩ : ∃ z : Nat → Int32, z = upd a40 24 108 := ⟨_, rfl⟩
  replace hP : va_P G vwCl [(h0, .inr (7, [.ref q1, .int 0, .ref q2, .int 0, .int 0, .int 0, .int 0, .int 0, .int 0, .int 0, .int 0, .int 0, .ref q3, .null, .null, .int 0, .null, .int 0, .int 0, .int 0, .int 0, .null, .int 0, .null, .null, .null, .null, .int 0])), (q1, .inl (cy 1, 515, .inl (fun _ => 0))), (q2, .inl (cy 1, 320, .inl (fun _ => 0))), (q3, .inl (cy 1, 16, .inl a16)), (q4, .inl (cy 1, 61, .inl a41))] H := by rw [ea41]; exact hP
  replace hD : va_D A [(h0, .inr (7, [.ref q1, .int 0, .ref q2, .int 0, .int 0, .int 0, .int 0, .int 0, .int 0, .int 0, .int 0, .int 0, .ref q3, .null, .null, .int 0, .null, .int 0, .int 0, .int 0, .int 0, .null, .int 0, .null, .null, .null, .null, .int 0])), (q1, .inl (cy 1, 515, .inl (fun _ => 0))), (q2, .inl (cy 1, 320, .inl (fun _ => 0))), (q3, .inl (cy 1, 16, .inl a16)), (q4, .inl (cy 1, 61, .inl a41))] := by rw [ea41]; exact hD
  refine lv_dup hx hb dX7_init_267 rfl ?_
  refine lv_bipush (v := 25) hx hb dX7_init_268 (by decide) ?_
  refine lv_bipush (v := 111) hx hb dX7_init_270 (by decide) ?_
  refine va_iast hx hb hK hP hD hS 4 1 rfl rfl (by unfold vp_in; decide) dX7_init_272 (fun H locs hP hD hS => ?_)
  rw [cl_25] at hP hD
  obtain ⟨a42, ea42⟩ : ∃ z : Nat → Int32, z = upd a41 25 111 := ⟨_, rfl⟩
  replace hP : va_P G vwCl [(h0, .inr (7, [.ref q1, .int 0, .ref q2, .int 0, .int 0, .int 0, .int 0, .int 0, .int 0, .int 0, .int 0, .int 0, .ref q3, .null, .null, .int 0, .null, .int 0, .int 0, .int 0, .int 0, .null, .int 0, .null, .null, .null, .null, .int 0])), (q1, .inl (cy 1, 515, .inl (fun _ => 0))), (q2, .inl (cy 1, 320, .inl (fun _ => 0))), (q3, .inl (cy 1, 16, .inl a16)), (q4, .inl (cy 1, 61, .inl a42))] H := by rw [ea42]; exact hP
  replace hD : va_D A [(h0, .inr (7, [.ref q1, .int 0, .ref q2, .int 0, .int 0, .int 0, .int 0, .int 0, .int 0, .int 0, .int 0, .int 0, .ref q3, .null, .null, .int 0, .null, .int 0, .int 0, .int 0, .int 0, .null, .int 0, .null, .null, .null, .null, .int 0])), (q1, .inl (cy 1, 515, .inl (fun _ => 0))), (q2, .inl (cy 1, 320, .inl (fun _ => 0))), (q3, .inl (cy 1, 16, .inl a16)), (q4, .inl (cy 1, 61, .inl a42))] := by rw [ea42]; exact hD
  refine lv_dup hx hb dX7_init_273 rfl ?_
  refine lv_bipush (v := 26) hx hb dX7_init_274 (by decide) ?_
  refine lv_bipush (v := 119) hx hb dX7_init_276 (by decide) ?_
  refine va_iast hx hb hK hP hD hS 4 1 rfl rfl (by unfold vp_in; decide) dX7_init_278 (fun H locs hP hD hS => ?_)
  rw [cl_26] at hP hD
  obtain ⟨a43, ea43⟩ : ∃ z : Nat → Int32, z = upd a42 26 119 := ⟨_, rfl⟩
  replace hP : va_P G vwCl [(h0, .inr (7, [.ref q1, .int 0, .ref q2, .int 0, .int 0, .int 0, .int 0, .int 0, .int 0, .int 0, .int 0, .int 0, .ref q3, .null, .null, .int 0, .null, .int 0, .int 0, .int 0, .int 0, .null, .int 0, .null, .null, .null, .null, .int 0])), (q1, .inl (cy 1, 515, .inl (fun _ => 0))), (q2, .inl (cy 1, 320, .inl (fun _ => 0))), (q3, .inl (cy 1, 16, .inl a16)), (q4, .inl (cy 1, 61, .inl a43))] H := by rw [ea43]; exact hP
  replace hD : va_D A [(h0, .inr (7, [.ref q1, .int 0, .ref q2, .int 0, .int 0, .int 0, .int 0, .int 0, .int 0, .int 0, .int 0, .int 0, .ref q3, .null, .null, .int 0, .null, .int 0, .int 0, .int 0, .int 0, .null, .int 0, .null, .null, .null, .null, .int 0])), (q1, .inl (cy 1, 515, .inl (fun _ => 0))), (q2, .inl (cy 1, 320, .inl (fun _ => 0))), (q3, .inl (cy 1, 16, .inl a16)), (q4, .inl (cy 1, 61, .inl a43))] := by rw [ea43]; exact hD
  refine lv_dup hx hb dX7_init_279 rfl ?_
  refine lv_bipush (v := 27) hx hb dX7_init_280 (by decide) ?_
  refine lv_bipush (v := 104) hx hb dX7_init_282 (by decide) ?_
  refine va_iast hx hb hK hP hD hS 4 1 rfl rfl (by unfold vp_in; decide) dX7_init_284 (fun H locs hP hD hS => ?_)
  rw [cl_27] at hP hD
  obtain ⟨a44, ea44⟩ : ∃ z : Nat → Int32, z = upd a43 27 104 := ⟨_, rfl⟩
  replace hP : va_P G vwCl [(h0, .inr (7, [.ref q1, .int 0, .ref q2, .int 0, .int 0, .int 0, .int 0, .int 0, .int 0, .int 0, .int 0, .int 0, .ref q3, .null, .null, .int 0, .null, .int 0, .int 0, .int 0, .int 0, .null, .int 0, .null, .null, .null, .null, .int 0])), (q1, .inl (cy 1, 515, .inl (fun _ => 0))), (q2, .inl (cy 1, 320, .inl (fun _ => 0))), (q3, .inl (cy 1, 16, .inl a16)), (q4, .inl (cy 1, 61, .inl a44))] H := by rw [ea44]; exact hP
  replace hD : va_D A [(h0, .inr (7, [.ref q1, .int 0, .ref q2, .int 0, .int 0, .int 0, .int 0, .int 0, .int 0, .int 0, .int 0, .int 0, .ref q3, .null, .null, .int 0, .null, .int 0, .int 0, .int 0, .int 0, .null, .int 0, .null, .null, .null, .null, .int 0])), (q1, .inl (cy 1, 515, .inl (fun _ => 0))), (q2, .inl (cy 1, 320, .inl (fun _ => 0))), (q3, .inl (cy 1, 16, .inl a16)), (q4, .inl (cy 1, 61, .inl a44))] := by rw [ea44]; exact hD
  refine lv_dup hx hb dX7_init_285 rfl ?_
  refine lv_bipush (v := 28) hx hb dX7_init_286 (by decide) ?_
  refine lv_bipush (v := 105) hx hb dX7_init_288 (by decide) ?_
  refine va_iast hx hb hK hP hD hS 4 1 rfl rfl (by unfold vp_in; decide) dX7_init_290 (fun H locs hP hD hS => ?_)
  rw [cl_28] at hP hD
  obtain ⟨a45, ea45⟩ : ∃ z : Nat → Int32, z = upd a44 28 105 := ⟨_, rfl⟩
  replace hP : va_P G vwCl [(h0, .inr (7, [.ref q1, .int 0, .ref q2, .int 0, .int 0, .int 0, .int 0, .int 0, .int 0, .int 0, .int 0, .int 0, .ref q3, .null, .null, .int 0, .null, .int 0, .int 0, .int 0, .int 0, .null, .int 0, .null, .null, .null, .null, .int 0])), (q1, .inl (cy 1, 515, .inl (fun _ => 0))), (q2, .inl (cy 1, 320, .inl (fun _ => 0))), (q3, .inl (cy 1, 16, .inl a16)), (q4, .inl (cy 1, 61, .inl a45))] H := by rw [ea45]; exact hP
  replace hD : va_D A [(h0, .inr (7, [.ref q1, .int 0, .ref q2, .int 0, .int 0, .int 0, .int 0, .int 0, .int 0, .int 0, .int 0, .int 0, .ref q3, .null, .null, .int 0, .null, .int 0, .int 0, .int 0, .int 0, .null, .int 0, .null, .null, .null, .null, .int 0])), (q1, .inl (cy 1, 515, .inl (fun _ => 0))), (q2, .inl (cy 1, 320, .inl (fun _ => 0))), (q3, .inl (cy 1, 16, .inl a16)), (q4, .inl (cy 1, 61, .inl a45))] := by rw [ea45]; exact hD
  refine lv_dup hx hb dX7_init_291 rfl ?_
  refine lv_bipush (v := 29) hx hb dX7_init_292 (by decide) ?_
  refine lv_bipush (v := 103) hx hb dX7_init_294 (by decide) ?_
  refine va_iast hx hb hK hP hD hS 4 1 rfl rfl (by unfold vp_in; decide) dX7_init_296 (fun H locs hP hD hS => ?_)
  rw [cl_29] at hP hD
  obtain ⟨a46, ea46⟩ : ∃ z : Nat → Int32, z = upd a45 29 103 := ⟨_, rfl⟩
  replace hP : va_P G vwCl [(h0, .inr (7, [.ref q1, .int 0, .ref q2, .int 0, .int 0, .int 0, .int 0, .int 0, .int 0, .int 0, .int 0, .int 0, .ref q3, .null, .null, .int 0, .null, .int 0, .int 0, .int 0, .int 0, .null, .int 0, .null, .null, .null, .null, .int 0])), (q1, .inl (cy 1, 515, .inl (fun _ => 0))), (q2, .inl (cy 1, 320, .inl (fun _ => 0))), (q3, .inl (cy 1, 16, .inl a16)), (q4, .inl (cy 1, 61, .inl a46))] H := by rw [ea46]; exact hP
  replace hD : va_D A [(h0, .inr (7, [.ref q1, .int 0, .ref q2, .int 0, .int 0, .int 0, .int 0, .int 0, .int 0, .int 0, .int 0, .int 0, .ref q3, .null, .null, .int 0, .null, .int 0, .int 0, .int 0, .int 0, .null, .int 0, .null, .null, .null, .null, .int 0])), (q1, .inl (cy 1, 515, .inl (fun _ => 0))), (q2, .inl (cy 1, 320, .inl (fun _ => 0))), (q3, .inl (cy 1, 16, .inl a16)), (q4, .inl (cy 1, 61, .inl a46))] := by rw [ea46]; exact hD
  refine lv_dup hx hb dX7_init_297 rfl ?_
  refine lv_bipush (v := 30) hx hb dX7_init_298 (by decide) ?_
  refine lv_bipush (v := 104) hx hb dX7_init_300 (by decide) ?_
  refine va_iast hx hb hK hP hD hS 4 1 rfl rfl (by unfold vp_in; decide) dX7_init_302 (fun H locs hP hD hS => ?_)
  rw [cl_30] at hP hD
  obtain ⟨a47, ea47⟩ : ∃ z : Nat → Int32, z = upd a46 30 104 := ⟨_, rfl⟩
  replace hP : va_P G vwCl [(h0, .inr (7, [.ref q1, .int 0, .ref q2, .int 0, .int 0, .int 0, .int 0, .int 0, .int 0, .int 0, .int 0, .int 0, .ref q3, .null, .null, .int 0, .null, .int 0, .int 0, .int 0, .int 0, .null, .int 0, .null, .null, .null, .null, .int 0])), (q1, .inl (cy 1, 515, .inl (fun _ => 0))), (q2, .inl (cy 1, 320, .inl (fun _ => 0))), (q3, .inl (cy 1, 16, .inl a16)), (q4, .inl (cy 1, 61, .inl a47))] H := by rw [ea47]; exact hP
  replace hD : va_D A [(h0, .inr (7, [.ref q1, .int 0, .ref q2, .int 0, .int 0, .int 0, .int 0, .int 0, .int 0, .int 0, .int 0, .int 0, .ref q3, .null, .null, .int 0, .null, .int 0, .int 0, .int 0, .int 0, .null, .int 0, .null, .null, .null, .null, .int 0])), (q1, .inl (cy 1, 515, .inl (fun _ => 0))), (q2, .inl (cy 1, 320, .inl (fun _ => 0))), (q3, .inl (cy 1, 16, .inl a16)), (q4, .inl (cy 1, 61, .inl a47))] := by rw [ea47]; exact hD
  refine lv_dup hx hb dX7_init_303 rfl ?_
  refine lv_bipush (v := 31) hx hb dX7_init_304 (by decide) ?_
  refine lv_bipush (v := 110) hx hb dX7_init_306 (by decide) ?_
  refine va_iast hx hb hK hP hD hS 4 1 rfl rfl (by unfold vp_in; decide) dX7_init_308 (fun H locs hP hD hS => ?_)
  rw [cl_31] at hP hD
  obtain ⟨a48, ea48⟩ : ∃ z : Nat → Int32, z = upd a47 31 110 := ⟨_, rfl⟩
  replace hP : va_P G vwCl [(h0, .inr (7, [.ref q1, .int 0, .ref q2, .int 0, .int 0, .int 0, .int 0, .int 0, .int 0, .int 0, .int 0, .int 0, .ref q3, .null, .null, .int 0, .null, .int 0, .int 0, .int 0, .int 0, .null, .int 0, .null, .null, .null, .null, .int 0])), (q1, .inl (cy 1, 515, .inl (fun _ => 0))), (q2, .inl (cy 1, 320, .inl (fun _ => 0))), (q3, .inl (cy 1, 16, .inl a16)), (q4, .inl (cy 1, 61, .inl a48))] H := by rw [ea48]; exact hP
  replace hD : va_D A [(h0, .inr (7, [.ref q1, .int 0, .ref q2, .int 0, .int 0, .int 0, .int 0, .int 0, .int 0, .int 0, .int 0, .int 0, .ref q3, .null, .null, .int 0, .null, .int 0, .int 0, .int 0, .int 0, .null, .int 0, .null, .null, .null, .null, .int 0])), (q1, .inl (cy 1, 515, .inl (fun _ => 0))), (q2, .inl (cy 1, 320, .inl (fun _ => 0))), (q3, .inl (cy 1, 16, .inl a16)), (q4, .inl (cy 1, 61, .inl a48))] := by rw [ea48]; exact hD
  refine lv_dup hx hb dX7_init_309 rfl ?_
  refine lv_bipush (v := 32) hx hb dX7_init_310 (by decide) ?_
  refine lv_bipush (v := 101) hx hb dX7_init_312 (by decide) ?_
  refine va_iast hx hb hK hP hD hS 4 1 rfl rfl (by unfold vp_in; decide) dX7_init_314 (fun H locs hP hD hS => ?_)
  rw [cl_32] at hP hD
  obtain ⟨a49, ea49⟩ : ∃ z : Nat → Int32, z = upd a48 32 101 := ⟨_, rfl⟩
  replace hP : va_P G vwCl [(h0, .inr (7, [.ref q1, .int 0, .ref q2, .int 0, .int 0, .int 0, .int 0, .int 0, .int 0, .int 0, .int 0, .int 0, .ref q3, .null, .null, .int 0, .null, .int 0, .int 0, .int 0, .int 0, .null, .int 0, .null, .null, .null, .null, .int 0])), (q1, .inl (cy 1, 515, .inl (fun _ => 0))), (q2, .inl (cy 1, 320, .inl (fun _ => 0))), (q3, .inl (cy 1, 16, .inl a16)), (q4, .inl (cy 1, 61, .inl a49))] H := by rw [ea49]; exact hP
  replace hD : va_D A [(h0, .inr (7, [.ref q1, .int 0, .ref q2, .int 0, .int 0, .int 0, .int 0, .int 0, .int 0, .int 0, .int 0, .int 0, .ref q3, .null, .null, .int 0, .null, .int 0, .int 0, .int 0, .int 0, .null, .int 0, .null, .null, .null, .null, .int 0])), (q1, .inl (cy 1, 515, .inl (fun _ => 0))), (q2, .inl (cy 1, 320, .inl (fun _ => 0))), (q3, .inl (cy 1, 16, .inl a16)), (q4, .inl (cy 1, 61, .inl a49))] := by rw [ea49]; exact hD
  refine lv_dup hx hb dX7_init_315 rfl ?_
  refine lv_bipush (v := 33) hx hb dX7_init_316 (by decide) ?_
  refine lv_bipush (v := 97) hx hb dX7_init_318 (by decide) ?_
  refine va_iast hx hb hK hP hD hS 4 1 rfl rfl (by unfold vp_in; decide) dX7_init_320 (fun H locs hP hD hS => ?_)
  rw [cl_33] at hP hD
  obtain ⟨a50, ea50⟩ : ∃ z : Nat → Int32, z = upd a49 33 97 := ⟨_, rfl⟩
  replace hP : va_P G vwCl [(h0, .inr (7, [.ref q1, .int 0, .ref q2, .int 0, .int 0, .int 0, .int 0, .int 0, .int 0, .int 0, .int 0, .int 0, .ref q3, .null, .null, .int 0, .null, .int 0, .int 0, .int 0, .int 0, .null, .int 0, .null, .null, .null, .null, .int 0])), (q1, .inl (cy 1, 515, .inl (fun _ => 0))), (q2, .inl (cy 1, 320, .inl (fun _ => 0))), (q3, .inl (cy 1, 16, .inl a16)), (q4, .inl (cy 1, 61, .inl a50))] H := by rw [ea50]; exact hP
  replace hD : va_D A [(h0, .inr (7, [.ref q1, .int 0, .ref q2, .int 0, .int 0, .int 0, .int 0, .int 0, .int 0, .int 0, .int 0, .int 0, .ref q3, .null, .null, .int 0, .null, .int 0, .int 0, .int 0, .int 0, .null, .int 0, .null, .null, .null, .null, .int 0])), (q1, .inl (cy 1, 515, .inl (fun _ => 0))), (q2, .inl (cy 1, 320, .inl (fun _ => 0))), (q3, .inl (cy 1, 16, .inl a16)), (q4, .inl (cy 1, 61, .inl a50))] := by rw [ea50]; exact hD
  refine lv_dup hx hb dX7_init_321 rfl ?_
  refine lv_bipush (v := 34) hx hb dX7_init_322 (by decide) ?_
  refine lv_bipush (v := 114) hx hb dX7_init_324 (by decide) ?_
  refine va_iast hx hb hK hP hD hS 4 1 rfl rfl (by unfold vp_in; decide) dX7_init_326 (fun H locs hP hD hS => ?_)
  rw [cl_34] at hP hD
  obtain ⟨a51, ea51⟩ : ∃ z : Nat → Int32, z = upd a50 34 114 := ⟨_, rfl⟩
  replace hP : va_P G vwCl [(h0, .inr (7, [.ref q1, .int 0, .ref q2, .int 0, .int 0, .int 0, .int 0, .int 0, .int 0, .int 0, .int 0, .int 0, .ref q3, .null, .null, .int 0, .null, .int 0, .int 0, .int 0, .int 0, .null, .int 0, .null, .null, .null, .null, .int 0])), (q1, .inl (cy 1, 515, .inl (fun _ => 0))), (q2, .inl (cy 1, 320, .inl (fun _ => 0))), (q3, .inl (cy 1, 16, .inl a16)), (q4, .inl (cy 1, 61, .inl a51))] H := by rw [ea51]; exact hP
  replace hD : va_D A [(h0, .inr (7, [.ref q1, .int 0, .ref q2, .int 0, .int 0, .int 0, .int 0, .int 0, .int 0, .int 0, .int 0, .int 0, .ref q3, .null, .null, .int 0, .null, .int 0, .int 0, .int 0, .int 0, .null, .int 0, .null, .null, .null, .null, .int 0])), (q1, .inl (cy 1, 515, .inl (fun _ => 0))), (q2, .inl (cy 1, 320, .inl (fun _ => 0))), (q3, .inl (cy 1, 16, .inl a16)), (q4, .inl (cy 1, 61, .inl a51))] := by rw [ea51]; exact hD
  refine lv_dup hx hb dX7_init_327 rfl ?_
  refine lv_bipush (v := 35) hx hb dX7_init_328 (by decide) ?_
  refine lv_bipush (v := 109) hx hb dX7_init_330 (by decide) ?_
  refine va_iast hx hb hK hP hD hS 4 1 rfl rfl (by unfold vp_in; decide) dX7_init_332 (fun H locs hP hD hS => ?_)
  rw [cl_35] at hP hD
  obtain ⟨a52, ea52⟩ : ∃ z : Nat → Int32, z = upd a51 35 109 := ⟨_, rfl⟩
  replace hP : va_P G vwCl [(h0, .inr (7, [.ref q1, .int 0, .ref q2, .int 0, .int 0, .int 0, .int 0, .int 0, .int 0, .int 0, .int 0, .int 0, .ref q3, .null, .null, .int 0, .null, .int 0, .int 0, .int 0, .int 0, .null, .int 0, .null, .null, .null, .null, .int 0])), (q1, .inl (cy 1, 515, .inl (fun _ => 0))), (q2, .inl (cy 1, 320, .inl (fun _ => 0))), (q3, .inl (cy 1, 16, .inl a16)), (q4, .inl (cy 1, 61, .inl a52))] H := by rw [ea52]; exact hP
  replace hD : va_D A [(h0, .inr (7, [.ref q1, .int 0, .ref q2, .int 0, .int 0, .int 0, .int 0, .int 0, .int 0, .int 0, .int 0, .int 0, .ref q3, .null, .null, .int 0, .null, .int 0, .int 0, .int 0, .int 0, .null, .int 0, .null, .null, .null, .null, .int 0])), (q1, .inl (cy 1, 515, .inl (fun _ => 0))), (q2, .inl (cy 1, 320, .inl (fun _ => 0))), (q3, .inl (cy 1, 16, .inl a16)), (q4, .inl (cy 1, 61, .inl a52))] := by rw [ea52]; exact hD
  refine lv_dup hx hb dX7_init_333 rfl ?_
  refine lv_bipush (v := 36) hx hb dX7_init_334 (by decide) ?_
  refine lv_bipush (v := 101) hx hb dX7_init_336 (by decide) ?_
  refine va_iast hx hb hK hP hD hS 4 1 rfl rfl (by unfold vp_in; decide) dX7_init_338 (fun H locs hP hD hS => ?_)
  rw [cl_36] at hP hD
  obtain ⟨a53, ea53⟩ : ∃ z : Nat → Int32, z = upd a52 36 101 := ⟨_, rfl⟩
  replace hP : va_P G vwCl [(h0, .inr (7, [.ref q1, .int 0, .ref q2, .int 0, .int 0, .int 0, .int 0, .int 0, .int 0, .int 0, .int 0, .int 0, .ref q3, .null, .null, .int 0, .null, .int 0, .int 0, .int 0, .int 0, .null, .int 0, .null, .null, .null, .null, .int 0])), (q1, .inl (cy 1, 515, .inl (fun _ => 0))), (q2, .inl (cy 1, 320, .inl (fun _ => 0))), (q3, .inl (cy 1, 16, .inl a16)), (q4, .inl (cy 1, 61, .inl a53))] H := by rw [ea53]; exact hP
  replace hD : va_D A [(h0, .inr (7, [.ref q1, .int 0, .ref q2, .int 0, .int 0, .int 0, .int 0, .int 0, .int 0, .int 0, .int 0, .int 0, .ref q3, .null, .null, .int 0, .null, .int 0, .int 0, .int 0, .int 0, .null, .int 0, .null, .null, .null, .null, .int 0])), (q1, .inl (cy 1, 515, .inl (fun _ => 0))), (q2, .inl (cy 1, 320, .inl (fun _ => 0))), (q3, .inl (cy 1, 16, .inl a16)), (q4, .inl (cy 1, 61, .inl a53))] := by rw [ea53]; exact hD
  refine lv_dup hx hb dX7_init_339 rfl ?_
  refine lv_bipush (v := 37) hx hb dX7_init_340 (by decide) ?_
  refine lv_bipush (v := 97) hx hb dX7_init_342 (by decide) ?_
  refine va_iast hx hb hK hP hD hS 4 1 rfl rfl (by unfold vp_in; decide) dX7_init_344 (fun H locs hP hD hS => ?_)
  rw [cl_37] at hP hD
  obtain ⟨a54, ea54⟩ : ∃ z : Nat → Int32, z = upd a53 37 97 := ⟨_, rfl⟩
  replace hP : va_P G vwCl [(h0, .inr (7, [.ref q1, .int 0, .ref q2, .int 0, .int 0, .int 0, .int 0, .int 0, .int 0, .int 0, .int 0, .int 0, .ref q3, .null, .null, .int 0, .null, .int 0, .int 0, .int 0, .int 0, .null, .int 0, .null, .null, .null, .null, .int 0])), (q1, .inl (cy 1, 515, .inl (fun _ => 0))), (q2, .inl (cy 1, 320, .inl (fun _ => 0))), (q3, .inl (cy 1, 16, .inl a16)), (q4, .inl (cy 1, 61, .inl a54))] H := by rw [ea54]; exact hP
  replace hD : va_D A [(h0, .inr (7, [.ref q1, .int 0, .ref q2, .int 0, .int 0, .int 0, .int 0, .int 0, .int 0, .int 0, .int 0, .int 0, .ref q3, .null, .null, .int 0, .null, .int 0, .int 0, .int 0, .int 0, .null, .int 0, .null, .null, .null, .null, .int 0])), (q1, .inl (cy 1, 515, .inl (fun _ => 0))), (q2, .inl (cy 1, 320, .inl (fun _ => 0))), (q3, .inl (cy 1, 16, .inl a16)), (q4, .inl (cy 1, 61, .inl a54))] := by rw [ea54]; exact hD
  refine lv_dup hx hb dX7_init_345 rfl ?_
  refine lv_bipush (v := 38) hx hb dX7_init_346 (by decide) ?_
  refine lv_bipush (v := 110) hx hb dX7_init_348 (by decide) ?_
  refine va_iast hx hb hK hP hD hS 4 1 rfl rfl (by unfold vp_in; decide) dX7_init_350 (fun H locs hP hD hS => ?_)
  rw [cl_38] at hP hD
  obtain ⟨a55, ea55⟩ : ∃ z : Nat → Int32, z = upd a54 38 110 := ⟨_, rfl⟩
  replace hP : va_P G vwCl [(h0, .inr (7, [.ref q1, .int 0, .ref q2, .int 0, .int 0, .int 0, .int 0, .int 0, .int 0, .int 0, .int 0, .int 0, .ref q3, .null, .null, .int 0, .null, .int 0, .int 0, .int 0, .int 0, .null, .int 0, .null, .null, .null, .null, .int 0])), (q1, .inl (cy 1, 515, .inl (fun _ => 0))), (q2, .inl (cy 1, 320, .inl (fun _ => 0))), (q3, .inl (cy 1, 16, .inl a16)), (q4, .inl (cy 1, 61, .inl a55))] H := by rw [ea55]; exact hP
  replace hD : va_D A [(h0, .inr (7, [.ref q1, .int 0, .ref q2, .int 0, .int 0, .int 0, .int 0, .int 0, .int 0, .int 0, .int 0, .int 0, .ref q3, .null, .null, .int 0, .null, .int 0, .int 0, .int 0, .int 0, .null, .int 0, .null, .null, .null, .null, .int 0])), (q1, .inl (cy 1, 515, .inl (fun _ => 0))), (q2, .inl (cy 1, 320, .inl (fun _ => 0))), (q3, .inl (cy 1, 16, .inl a16)), (q4, .inl (cy 1, 61, .inl a55))] := by rw [ea55]; exact hD
  refine lv_dup hx hb dX7_init_351 rfl ?_
  refine lv_bipush (v := 39) hx hb dX7_init_352 (by decide) ?_
  refine lv_bipush (v := 108) hx hb dX7_init_354 (by decide) ?_
  refine va_iast hx hb hK hP hD hS 4 1 rfl rfl (by unfold vp_in; decide) dX7_init_356 (fun H locs hP hD hS => ?_)
  rw [cl_39] at hP hD
  obtain ⟨a56, ea56⟩ : ∃ z : Nat → Int32, z = upd a55 39 108 := ⟨_, rfl⟩
  replace hP : va_P G vwCl [(h0, .inr (7, [.ref q1, .int 0, .ref q2, .int 0, .int 0, .int 0, .int 0, .int 0, .int 0, .int 0, .int 0, .int 0, .ref q3, .null, .null, .int 0, .null, .int 0, .int 0, .int 0, .int 0, .null, .int 0, .null, .null, .null, .null, .int 0])), (q1, .inl (cy 1, 515, .inl (fun _ => 0))), (q2, .inl (cy 1, 320, .inl (fun _ => 0))), (q3, .inl (cy 1, 16, .inl a16)), (q4, .inl (cy 1, 61, .inl a56))] H := by rw [ea56]; exact hP
  replace hD : va_D A [(h0, .inr (7, [.ref q1, .int 0, .ref q2, .int 0, .int 0, .int 0, .int 0, .int 0, .int 0, .int 0, .int 0, .int 0, .ref q3, .null, .null, .int 0, .null, .int 0, .int 0, .int 0, .int 0, .null, .int 0, .null, .null, .null, .null, .int 0])), (q1, .inl (cy 1, 515, .inl (fun _ => 0))), (q2, .inl (cy 1, 320, .inl (fun _ => 0))), (q3, .inl (cy 1, 16, .inl a16)), (q4, .inl (cy 1, 61, .inl a56))] := by rw [ea56]; exact hD
  refine lv_dup hx hb dX7_init_357 rfl ?_
  refine lv_bipush (v := 40) hx hb dX7_init_358 (by decide) ?_
  refine lv_bipush (v := 105) hx hb dX7_init_360 (by decide) ?_
  refine va_iast hx hb hK hP hD hS 4 1 rfl rfl (by unfold vp_in; decide) dX7_init_362 (fun H locs hP hD hS => ?_)
  rw [cl_40] at hP hD
  obtain ⟨a57, ea57⟩ : ∃ z : Nat → Int32, z = upd a56 40 105 := ⟨_, rfl⟩
  replace hP : va_P G vwCl [(h0, .inr (7, [.ref q1, .int 0, .ref q2, .int 0, .int 0, .int 0, .int 0, .int 0, .int 0, .int 0, .int 0, .int 0, .ref q3, .null, .null, .int 0, .null, .int 0, .int 0, .int 0, .int 0, .null, .int 0, .null, .null, .null, .null, .int 0])), (q1, .inl (cy 1, 515, .inl (fun _ => 0))), (q2, .inl (cy 1, 320, .inl (fun _ => 0))), (q3, .inl (cy 1, 16, .inl a16)), (q4, .inl (cy 1, 61, .inl a57))] H := by rw [ea57]; exact hP
  replace hD : va_D A [(h0, .inr (7, [.ref q1, .int 0, .ref q2, .int 0, .int 0, .int 0, .int 0, .int 0, .int 0, .int 0, .int 0, .int 0, .ref q3, .null, .null, .int 0, .null, .int 0, .int 0, .int 0, .int 0, .null, .int 0, .null, .null, .null, .null, .int 0])), (q1, .inl (cy 1, 515, .inl (fun _ => 0))), (q2, .inl (cy 1, 320, .inl (fun _ => 0))), (q3, .inl (cy 1, 16, .inl a16)), (q4, .inl (cy 1, 61, .inl a57))] := by rw [ea57]; exact hD
  refine lv_dup hx hb dX7_init_363 rfl ?_
  refine lv_bipush (v := 41) hx hb dX7_init_364 (by decide) ?_
  refine lv_bipush (v := 110) hx hb dX7_init_366 (by decide) ?_
  refine va_iast hx hb hK hP hD hS 4 1 rfl rfl (by unfold vp_in; decide) dX7_init_368 (fun H locs hP hD hS => ?_)
  rw [cl_41] at hP hD
  obtain ⟨a58, ea58⟩ : ∃ z : Nat → Int32, z = upd a57 41 110 := ⟨_, rfl⟩
  replace hP : va_P G vwCl [(h0, .inr (7, [.ref q1, .int 0, .ref q2, .int 0, .int 0, .int 0, .int 0, .int 0, .int 0, .int 0, .int 0, .int 0, .ref q3, .null, .null, .int 0, .null, .int 0, .int 0, .int 0, .int 0, .null, .int 0, .null, .null, .null, .null, .int 0])), (q1, .inl (cy 1, 515, .inl (fun _ => 0))), (q2, .inl (cy 1, 320, .inl (fun _ => 0))), (q3, .inl (cy 1, 16, .inl a16)), (q4, .inl (cy 1, 61, .inl a58))] H := by rw [ea58]; exact hP
  replace hD : va_D A [(h0, .inr (7, [.ref q1, .int 0, .ref q2, .int 0, .int 0, .int 0, .int 0, .int 0, .int 0, .int 0, .int 0, .int 0, .ref q3, .null, .null, .int 0, .null, .int 0, .int 0, .int 0, .int 0, .null, .int 0, .null, .null, .null, .null, .int 0])), (q1, .inl (cy 1, 515, .inl (fun _ => 0))), (q2, .inl (cy 1, 320, .inl (fun _ => 0))), (q3, .inl (cy 1, 16, .inl a16)), (q4, .inl (cy 1, 61, .inl a58))] := by rw [ea58]; exact hD
  refine lv_dup hx hb dX7_init_369 rfl ?_
  refine lv_bipush (v := 42) hx hb dX7_init_370 (by decide) ?_
  refine lv_bipush (v := 101) hx hb dX7_init_372 (by decide) ?_
  refine va_iast hx hb hK hP hD hS 4 1 rfl rfl (by unfold vp_in; decide) dX7_init_374 (fun H locs hP hD hS => ?_)
  rw [cl_42] at hP hD
  obtain ⟨a59, ea59⟩ : ∃ z : Nat → Int32, z = upd a58 42 101 := ⟨_, rfl⟩
  replace hP : va_P G vwCl [(h0, .inr (7, [.ref q1, .int 0, .ref q2, .int 0, .int 0, .int 0, .int 0, .int 0, .int 0, .int 0, .int 0, .int 0, .ref q3, .null, .null, .int 0, .null, .int 0, .int 0, .int 0, .int 0, .null, .int 0, .null, .null, .null, .null, .int 0])), (q1, .inl (cy 1, 515, .inl (fun _ => 0))), (q2, .inl (cy 1, 320, .inl (fun _ => 0))), (q3, .inl (cy 1, 16, .inl a16)), (q4, .inl (cy 1, 61, .inl a59))] H := by rw [ea59]; exact hP
  replace hD : va_D A [(h0, .inr (7, [.ref q1, .int 0, .ref q2, .int 0, .int 0, .int 0, .int 0, .int 0, .int 0, .int 0, .int 0, .int 0, .ref q3, .null, .null, .int 0, .null, .int 0, .int 0, .int 0, .int 0, .null, .int 0, .null, .null, .null, .null, .int 0])), (q1, .inl (cy 1, 515, .inl (fun _ => 0))), (q2, .inl (cy 1, 320, .inl (fun _ => 0))), (q3, .inl (cy 1, 16, .inl a16)), (q4, .inl (cy 1, 61, .inl a59))] := by rw [ea59]; exact hD
  refine lv_dup hx hb dX7_init_375 rfl ?_
  refine lv_bipush (v := 43) hx hb dX7_init_376 (by decide) ?_
  refine lv_bipush (v := 112) hx hb dX7_init_378 (by decide) ?_
  refine va_iast hx hb hK hP hD hS 4 1 rfl rfl (by unfold vp_in; decide) dX7_init_380 (fun H locs hP hD hS => ?_)
  rw [cl_43] at hP hD
  obtain ⟨a60, ea60⟩ : ∃ z : Nat → Int32, z = upd a59 43 112 := ⟨_, rfl⟩
  replace hP : va_P G vwCl [(h0, .inr (7, [.ref q1, .int 0, .ref q2, .int 0, .int 0, .int 0, .int 0, .int 0, .int 0, .int 0, .int 0, .int 0, .ref q3, .null, .null, .int 0, .null, .int 0, .int 0, .int 0, .int 0, .null, .int 0, .null, .null, .null, .null, .int 0])), (q1, .inl (cy 1, 515, .inl (fun _ => 0))), (q2, .inl (cy 1, 320, .inl (fun _ => 0))), (q3, .inl (cy 1, 16, .inl a16)), (q4, .inl (cy 1, 61, .inl a60))] H := by rw [ea60]; exact hP
  replace hD : va_D A [(h0, .inr (7, [.ref q1, .int 0, .ref q2, .int 0, .int 0, .int 0, .int 0, .int 0, .int 0, .int 0, .int 0, .int 0, .ref q3, .null, .null, .int 0, .null, .int 0, .int 0, .int 0, .int 0, .null, .int 0, .null, .null, .null, .null, .int 0])), (q1, .inl (cy 1, 515, .inl (fun _ => 0))), (q2, .inl (cy 1, 320, .inl (fun _ => 0))), (q3, .inl (cy 1, 16, .inl a16)), (q4, .inl (cy 1, 61, .inl a60))] := by rw [ea60]; exact hD
  refine lv_dup hx hb dX7_init_381 rfl ?_
  refine lv_bipush (v := 44) hx hb dX7_init_382 (by decide) ?_
  refine lv_bipush (v := 108) hx hb dX7_init_384 (by decide) ?_
  refine va_iast hx hb hK hP hD hS 4 1 rfl rfl (by unfold vp_in; decide) dX7_init_386 (fun H locs hP hD hS => ?_)
  rw [cl_44] at hP hD
  obtain ⟨a61, ea61⟩ : ∃ z : Nat → Int32, z = upd a60 44 108 := ⟨_, rfl⟩
  replace hP : va_P G vwCl [(h0, .inr (7, [.ref q1, .int 0, .ref q2, .int 0, .int 0, .int 0, .int 0, .int 0, .int 0, .int 0, .int 0, .int 0, .ref q3, .null, .null, .int 0, .null, .int 0, .int 0, .int 0, .int 0, .null, .int 0, .null, .null, .null, .null, .int 0])), (q1, .inl (cy 1, 515, .inl (fun _ => 0))), (q2, .inl (cy 1, 320, .inl (fun _ => 0))), (q3, .inl (cy 1, 16, .inl a16)), (q4, .inl (cy 1, 61, .inl a61))] H := by rw [ea61]; exact hP
  replace hD : va_D A [(h0, .inr (7, [.ref q1, .int 0, .ref q2, .int 0, .int 0, .int 0, .int 0, .int 0, .int 0, .int 0, .int 0, .int 0, .ref q3, .null, .null, .int 0, .null, .int 0, .int 0, .int 0, .int 0, .null, .int 0, .null, .null, .null, .null, .int 0])), (q1, .inl (cy 1, 515, .inl (fun _ => 0))), (q2, .inl (cy 1, 320, .inl (fun _ => 0))), (q3, .inl (cy 1, 16, .inl a16)), (q4, .inl (cy 1, 61, .inl a61))] := by rw [ea61]; exact hD
  refine lv_dup hx hb dX7_init_387 rfl ?_
  refine lv_bipush (v := 45) hx hb dX7_init_388 (by decide) ?_
  refine lv_bipush (v := 97) hx hb dX7_init_390 (by decide) ?_
  refine va_iast hx hb hK hP hD hS 4 1 rfl rfl (by unfold vp_in; decide) dX7_init_392 (fun H locs hP hD hS => ?_)
  rw [cl_45] at hP hD
  obtain ⟨a62, ea62⟩ : ∃ z : Nat → Int32, z = upd a61 45 97 := ⟨_, rfl⟩
  replace hP : va_P G vwCl [(h0, .inr (7, [.ref q1, .int 0, .ref q2, .int 0, .int 0, .int 0, .int 0, .int 0, .int 0, .int 0, .int 0, .int 0, .ref q3, .null, .null, .int 0, .null, .int 0, .int 0, .int 0, .int 0, .null, .int 0, .null, .null, .null, .null, .int 0])), (q1, .inl (cy 1, 515, .inl (fun _ => 0))), (q2, .inl (cy 1, 320, .inl (fun _ => 0))), (q3, .inl (cy 1, 16, .inl a16)), (q4, .inl (cy 1, 61, .inl a62))] H := by rw [ea62]; exact hP
  replace hD : va_D A [(h0, .inr (7, [.ref q1, .int 0, .ref q2, .int 0, .int 0, .int 0, .int 0, .int 0, .int 0, .int 0, .int 0, .int 0, .ref q3, .null, .null, .int 0, .null, .int 0, .int 0, .int 0, .int 0, .null, .int 0, .null, .null, .null, .null, .int 0])), (q1, .inl (cy 1, 515, .inl (fun _ => 0))), (q2, .inl (cy 1, 320, .inl (fun _ => 0))), (q3, .inl (cy 1, 16, .inl a16)), (q4, .inl (cy 1, 61, .inl a62))] := by rw [ea62]; exact hD
  refine lv_dup hx hb dX7_init_393 rfl ?_
  refine lv_bipush (v := 46) hx hb dX7_init_394 (by decide) ?_
  refine lv_bipush (v := 105) hx hb dX7_init_396 (by decide) ?_
  refine va_iast hx hb hK hP hD hS 4 1 rfl rfl (by unfold vp_in; decide) dX7_init_398 (fun H locs hP hD hS => ?_)
  rw [cl_46] at hP hD
  obtain ⟨a63, ea63⟩ : ∃ z : Nat → Int32, z = upd a62 46 105 := ⟨_, rfl⟩
  replace hP : va_P G vwCl [(h0, .inr (7, [.ref q1, .int 0, .ref q2, .int 0, .int 0, .int 0, .int 0, .int 0, .int 0, .int 0, .int 0, .int 0, .ref q3, .null, .null, .int 0, .null, .int 0, .int 0, .int 0, .int 0, .null, .int 0, .null, .null, .null, .null, .int 0])), (q1, .inl (cy 1, 515, .inl (fun _ => 0))), (q2, .inl (cy 1, 320, .inl (fun _ => 0))), (q3, .inl (cy 1, 16, .inl a16)), (q4, .inl (cy 1, 61, .inl a63))] H := by rw [ea63]; exact hP
  replace hD : va_D A [(h0, .inr (7, [.ref q1, .int 0, .ref q2, .int 0, .int 0, .int 0, .int 0, .int 0, .int 0, .int 0, .int 0, .int 0, .ref q3, .null, .null, .int 0, .null, .int 0, .int 0, .int 0, .int 0, .null, .int 0, .null, .null, .null, .null, .int 0])), (q1, .inl (cy 1, 515, .inl (fun _ => 0))), (q2, .inl (cy 1, 320, .inl (fun _ => 0))), (q3, .inl (cy 1, 16, .inl a16)), (q4, .inl (cy 1, 61, .inl a63))] := by rw [ea63]; exact hD
  refine lv_dup hx hb dX7_init_399 rfl ?_
  refine lv_bipush (v := 47) hx hb dX7_init_400 (by decide) ?_
  refine lv_bipush (v := 110) hx hb dX7_init_402 (by decide) ?_
  refine va_iast hx hb hK hP hD hS 4 1 rfl rfl (by unfold vp_in; decide) dX7_init_404 (fun H locs hP hD hS => ?_)
  rw [cl_47] at hP hD
  obtain ⟨a64, ea64⟩ : ∃ z : Nat → Int32, z = upd a63 47 110 := ⟨_, rfl⟩
  replace hP : va_P G vwCl [(h0, .inr (7, [.ref q1, .int 0, .ref q2, .int 0, .int 0, .int 0, .int 0, .int 0, .int 0, .int 0, .int 0, .int 0, .ref q3, .null, .null, .int 0, .null, .int 0, .int 0, .int 0, .int 0, .null, .int 0, .null, .null, .null, .null, .int 0])), (q1, .inl (cy 1, 515, .inl (fun _ => 0))), (q2, .inl (cy 1, 320, .inl (fun _ => 0))), (q3, .inl (cy 1, 16, .inl a16)), (q4, .inl (cy 1, 61, .inl a64))] H := by rw [ea64]; exact hP
  replace hD : va_D A [(h0, .inr (7, [.ref q1, .int 0, .ref q2, .int 0, .int 0, .int 0, .int 0, .int 0, .int 0, .int 0, .int 0, .int 0, .ref q3, .null, .null, .int 0, .null, .int 0, .int 0, .int 0, .int 0, .null, .int 0, .null, .null, .null, .null, .int 0])), (q1, .inl (cy 1, 515, .inl (fun _ => 0))), (q2, .inl (cy 1, 320, .inl (fun _ => 0))), (q3, .inl (cy 1, 16, .inl a16)), (q4, .inl (cy 1, 61, .inl a64))] := by rw [ea64]; exact hD
  refine lv_dup hx hb dX7_init_405 rfl ?_
  refine lv_bipush (v := 48) hx hb dX7_init_406 (by decide) ?_
  refine lv_bipush (v := 99) hx hb dX7_init_408 (by decide) ?_
  refine va_iast hx hb hK hP hD hS 4 1 rfl rfl (by unfold vp_in; decide) dX7_init_410 (fun H locs hP hD hS => ?_)
  rw [cl_48] at hP hD
  obtain ⟨a65, ea65⟩ : ∃ z : Nat → Int32, z = upd a64 48 99 := ⟨_, rfl⟩
  replace hP : va_P G vwCl [(h0, .inr (7, [.ref q1, .int 0, .ref q2, .int 0, .int 0, .int 0, .int 0, .int 0, .int 0, .int 0, .int 0, .int 0, .ref q3, .null, .null, .int 0, .null, .int 0, .int 0, .int 0, .int 0, .null, .int 0, .null, .null, .null, .null, .int 0])), (q1, .inl (cy 1, 515, .inl (fun _ => 0))), (q2, .inl (cy 1, 320, .inl (fun _ => 0))), (q3, .inl (cy 1, 16, .inl a16)), (q4, .inl (cy 1, 61, .inl a65))] H := by rw [ea65]; exact hP
  replace hD : va_D A [(h0, .inr (7, [.ref q1, .int 0, .ref q2, .int 0, .int 0, .int 0, .int 0, .int 0, .int 0, .int 0, .int 0, .int 0, .ref q3, .null, .null, .int 0, .null, .int 0, .int 0, .int 0, .int 0, .null, .int 0, .null, .null, .null, .null, .int 0])), (q1, .inl (cy 1, 515, .inl (fun _ => 0))), (q2, .inl (cy 1, 320, .inl (fun _ => 0))), (q3, .inl (cy 1, 16, .inl a16)), (q4, .inl (cy 1, 61, .inl a65))] := by rw [ea65]; exact hD
  refine lv_dup hx hb dX7_init_411 rfl ?_
  refine lv_bipush (v := 49) hx hb dX7_init_412 (by decide) ?_
  refine lv_bipush (v := 101) hx hb dX7_init_414 (by decide) ?_
  refine va_iast hx hb hK hP hD hS 4 1 rfl rfl (by unfold vp_in; decide) dX7_init_416 (fun H locs hP hD hS => ?_)
  rw [cl_49] at hP hD
  obtain ⟨a66, ea66⟩ : ∃ z : Nat → Int32, z = upd a65 49 101 := ⟨_, rfl⟩
  replace hP : va_P G vwCl [(h0, .inr (7, [.ref q1, .int 0, .ref q2, .int 0, .int 0, .int 0, .int 0, .int 0, .int 0, .int 0, .int 0, .int 0, .ref q3, .null, .null, .int 0, .null, .int 0, .int 0, .int 0, .int 0, .null, .int 0, .null, .null, .null, .null, .int 0])), (q1, .inl (cy 1, 515, .inl (fun _ => 0))), (q2, .inl (cy 1, 320, .inl (fun _ => 0))), (q3, .inl (cy 1, 16, .inl a16)), (q4, .inl (cy 1, 61, .inl a66))] H := by rw [ea66]; exact hP
  replace hD : va_D A [(h0, .inr (7, [.ref q1, .int 0, .ref q2, .int 0, .int 0, .int 0, .int 0, .int 0, .int 0, .int 0, .int 0, .int 0, .ref q3, .null, .null, .int 0, .null, .int 0, .int 0, .int 0, .int 0, .null, .int 0, .null, .null, .null, .null, .int 0])), (q1, .inl (cy 1, 515, .inl (fun _ => 0))), (q2, .inl (cy 1, 320, .inl (fun _ => 0))), (q3, .inl (cy 1, 16, .inl a16)), (q4, .inl (cy 1, 61, .inl a66))] := by rw [ea66]; exact hD
  refine lv_dup hx hb dX7_init_417 rfl ?_
  refine lv_bipush (v := 50) hx hb dX7_init_418 (by decide) ?_
  refine lv_bipush (v := 110) hx hb dX7_init_420 (by decide) ?_
  refine va_iast hx hb hK hP hD hS 4 1 rfl rfl (by unfold vp_in; decide) dX7_init_422 (fun H locs hP hD hS => ?_)
  rw [cl_50] at hP hD
  obtain ⟨a67, ea67⟩ : ∃ z : Nat → Int32, z = upd a66 50 110 := ⟨_, rfl⟩
  replace hP : va_P G vwCl [(h0, .inr (7, [.ref q1, .int 0, .ref q2, .int 0, .int 0, .int 0, .int 0, .int 0, .int 0, .int 0, .int 0, .int 0, .ref q3, .null, .null, .int 0, .null, .int 0, .int 0, .int 0, .int 0, .null, .int 0, .null, .null, .null, .null, .int 0])), (q1, .inl (cy 1, 515, .inl (fun _ => 0))), (q2, .inl (cy 1, 320, .inl (fun _ => 0))), (q3, .inl (cy 1, 16, .inl a16)), (q4, .inl (cy 1, 61, .inl a67))] H := by rw [ea67]; exact hP
  replace hD : va_D A [(h0, .inr (7, [.ref q1, .int 0, .ref q2, .int 0, .int 0, .int 0, .int 0, .int 0, .int 0, .int 0, .int 0, .int 0, .ref q3, .null, .null, .int 0, .null, .int 0, .int 0, .int 0, .int 0, .null, .int 0, .null, .null, .null, .null, .int 0])), (q1, .inl (cy 1, 515, .inl (fun _ => 0))), (q2, .inl (cy 1, 320, .inl (fun _ => 0))), (q3, .inl (cy 1, 16, .inl a16)), (q4, .inl (cy 1, 61, .inl a67))] := by rw [ea67]; exact hD
  refine lv_dup hx hb dX7_init_423 rfl ?_
  refine lv_bipush (v := 51) hx hb dX7_init_424 (by decide) ?_
  refine lv_bipush (v := 116) hx hb dX7_init_426 (by decide) ?_
  refine va_iast hx hb hK hP hD hS 4 1 rfl rfl (by unfold vp_in; decide) dX7_init_428 (fun H locs hP hD hS => ?_)
  rw [cl_51] at hP hD
  obtain ⟨a68, ea68⟩ : ∃ z : Nat → Int32, z = upd a67 51 116 := ⟨_, rfl⟩
  replace hP : va_P G vwCl [(h0, .inr (7, [.ref q1, .int 0, .ref q2, .int 0, .int 0, .int 0, .int 0, .int 0, .int 0, .int 0, .int 0, .int 0, .ref q3, .null, .null, .int 0, .null, .int 0, .int 0, .int 0, .int 0, .null, .int 0, .null, .null, .null, .null, .int 0])), (q1, .inl (cy 1, 515, .inl (fun _ => 0))), (q2, .inl (cy 1, 320, .inl (fun _ => 0))), (q3, .inl (cy 1, 16, .inl a16)), (q4, .inl (cy 1, 61, .inl a68))] H := by rw [ea68]; exact hP
  replace hD : va_D A [(h0, .inr (7, [.ref q1, .int 0, .ref q2, .int 0, .int 0, .int 0, .int 0, .int 0, .int 0, .int 0, .int 0, .int 0, .ref q3, .null, .null, .int 0, .null, .int 0, .int 0, .int 0, .int 0, .null, .int 0, .null, .null, .null, .null, .int 0])), (q1, .inl (cy 1, 515, .inl (fun _ => 0))), (q2, .inl (cy 1, 320, .inl (fun _ => 0))), (q3, .inl (cy 1, 16, .inl a16)), (q4, .inl (cy 1, 61, .inl a68))] := by rw [ea68]; exact hD
  refine lv_dup hx hb dX7_init_429 rfl ?_
  refine lv_bipush (v := 52) hx hb dX7_init_430 (by decide) ?_
  refine lv_bipush (v := 115) hx hb dX7_init_432 (by decide) ?_
  refine va_iast hx hb hK hP hD hS 4 1 rfl rfl (by unfold vp_in; decide) dX7_init_434 (fun H locs hP hD hS => ?_)
  rw [cl_52] at hP hD
  obtain ⟨a69, ea69⟩ : ∃ z : Nat → Int32, z = upd a68 52 115 := ⟨_, rfl⟩
  replace hP : va_P G vwCl [(h0, .inr (7, [.ref q1, .int 0, .ref q2, .int 0, .int 0, .int 0, .int 0, .int 0, .int 0, .int 0, .int 0, .int 0, .ref q3, .null, .null, .int 0, .null, .int 0, .int 0, .int 0, .int 0, .null, .int 0, .null, .null, .null, .null, .int 0])), (q1, .inl (cy 1, 515, .inl (fun _ => 0))), (q2, .inl (cy 1, 320, .inl (fun _ => 0))), (q3, .inl (cy 1, 16, .inl a16)), (q4, .inl (cy 1, 61, .inl a69))] H := by rw [ea69]; exact hP
  replace hD : va_D A [(h0, .inr (7, [.ref q1, .int 0, .ref q2, .int 0, .int 0, .int 0, .int 0, .int 0, .int 0, .int 0, .int 0, .int 0, .ref q3, .null, .null, .int 0, .null, .int 0, .int 0, .int 0, .int 0, .null, .int 0, .null, .null, .null, .null, .int 0])), (q1, .inl (cy 1, 515, .inl (fun _ => 0))), (q2, .inl (cy 1, 320, .inl (fun _ => 0))), (q3, .inl (cy 1, 16, .inl a16)), (q4, .inl (cy 1, 61, .inl a69))] := by rw [ea69]; exact hD
  refine lv_dup hx hb dX7_init_435 rfl ?_
  refine lv_bipush (v := 53) hx hb dX7_init_436 (by decide) ?_
  refine lv_bipush (v := 115) hx hb dX7_init_438 (by decide) ?_
  refine va_iast hx hb hK hP hD hS 4 1 rfl rfl (by unfold vp_in; decide) dX7_init_440 (fun H locs hP hD hS => ?_)
  rw [cl_53] at hP hD
  obtain ⟨a70, ea70⟩ : ∃ z : Nat → Int32, z = upd a69 53 115 := ⟨_, rfl⟩
  replace hP : va_P G vwCl [(h0, .inr (7, [.ref q1, .int 0, .ref q2, .int 0, .int 0, .int 0, .int 0, .int 0, .int 0, .int 0, .int 0, .int 0, .ref q3, .null, .null, .int 0, .null, .int 0, .int 0, .int 0, .int 0, .null, .int 0, .null, .null, .null, .null, .int 0])), (q1, .inl (cy 1, 515, .inl (fun _ => 0))), (q2, .inl (cy 1, 320, .inl (fun _ => 0))), (q3, .inl (cy 1, 16, .inl a16)), (q4, .inl (cy 1, 61, .inl a70))] H := by rw [ea70]; exact hP
  replace hD : va_D A [(h0, .inr (7, [.ref q1, .int 0, .ref q2, .int 0, .int 0, .int 0, .int 0, .int 0, .int 0, .int 0, .int 0, .int 0, .ref q3, .null, .null, .int 0, .null, .int 0, .int 0, .int 0, .int 0, .null, .int 0, .null, .null, .null, .null, .int 0])), (q1, .inl (cy 1, 515, .inl (fun _ => 0))), (q2, .inl (cy 1, 320, .inl (fun _ => 0))), (q3, .inl (cy 1, 16, .inl a16)), (q4, .inl (cy 1, 61, .inl a70))] := by rw [ea70]; exact hD
  refine lv_dup hx hb dX7_init_441 rfl ?_
  refine lv_bipush (v := 54) hx hb dX7_init_442 (by decide) ?_
  refine lv_bipush (v := 105) hx hb dX7_init_444 (by decide) ?_
  refine va_iast hx hb hK hP hD hS 4 1 rfl rfl (by unfold vp_in; decide) dX7_init_446 (fun H locs hP hD hS => ?_)
  rw [cl_54] at hP hD
  obtain ⟨a71, ea71⟩ : ∃ z : Nat → Int32, z = upd a70 54 105 := ⟨_, rfl⟩
  replace hP : va_P G vwCl [(h0, .inr (7, [.ref q1, .int 0, .ref q2, .int 0, .int 0, .int 0, .int 0, .int 0, .int 0, .int 0, .int 0, .int 0, .ref q3, .null, .null, .int 0, .null, .int 0, .int 0, .int 0, .int 0, .null, .int 0, .null, .null, .null, .null, .int 0])), (q1, .inl (cy 1, 515, .inl (fun _ => 0))), (q2, .inl (cy 1, 320, .inl (fun _ => 0))), (q3, .inl (cy 1, 16, .inl a16)), (q4, .inl (cy 1, 61, .inl a71))] H := by rw [ea71]; exact hP
  replace hD : va_D A [(h0, .inr (7, [.ref q1, .int 0, .ref q2, .int 0, .int 0, .int 0, .int 0, .int 0, .int 0, .int 0, .int 0, .int 0, .ref q3, .null, .null, .int 0, .null, .int 0, .int 0, .int 0, .int 0, .null, .int 0, .null, .null, .null, .null, .int 0])), (q1, .inl (cy 1, 515, .inl (fun _ => 0))), (q2, .inl (cy 1, 320, .inl (fun _ => 0))), (q3, .inl (cy 1, 16, .inl a16)), (q4, .inl (cy 1, 61, .inl a71))] := by rw [ea71]; exact hD
  refine lv_dup hx hb dX7_init_447 rfl ?_
  refine lv_bipush (v := 55) hx hb dX7_init_448 (by decide) ?_
  refine lv_bipush (v := 103) hx hb dX7_init_450 (by decide) ?_
  refine va_iast hx hb hK hP hD hS 4 1 rfl rfl (by unfold vp_in; decide) dX7_init_452 (fun H locs hP hD hS => ?_)
  rw [cl_55] at hP hD
  obtain ⟨a72, ea72⟩ : ∃ z : Nat → Int32, z = upd a71 55 103 := ⟨_, rfl⟩
  replace hP : va_P G vwCl [(h0, .inr (7, [.ref q1, .int 0, .ref q2, .int 0, .int 0, .int 0, .int 0, .int 0, .int 0, .int 0, .int 0, .int 0, .ref q3, .null, .null, .int 0, .null, .int 0, .int 0, .int 0, .int 0, .null, .int 0, .null, .null, .null, .null, .int 0])), (q1, .inl (cy 1, 515, .inl (fun _ => 0))), (q2, .inl (cy 1, 320, .inl (fun _ => 0))), (q3, .inl (cy 1, 16, .inl a16)), (q4, .inl (cy 1, 61, .inl a72))] H := by rw [ea72]; exact hP
  replace hD : va_D A [(h0, .inr (7, [.ref q1, .int 0, .ref q2, .int 0, .int 0, .int 0, .int 0, .int 0, .int 0, .int 0, .int 0, .int 0, .ref q3, .null, .null, .int 0, .null, .int 0, .int 0, .int 0, .int 0, .null, .int 0, .null, .null, .null, .null, .int 0])), (q1, .inl (cy 1, 515, .inl (fun _ => 0))), (q2, .inl (cy 1, 320, .inl (fun _ => 0))), (q3, .inl (cy 1, 16, .inl a16)), (q4, .inl (cy 1, 61, .inl a72))] := by rw [ea72]; exact hD
  refine lv_dup hx hb dX7_init_453 rfl ?_
  refine lv_bipush (v := 56) hx hb dX7_init_454 (by decide) ?_
  refine lv_bipush (v := 110) hx hb dX7_init_456 (by decide) ?_
  refine va_iast hx hb hK hP hD hS 4 1 rfl rfl (by unfold vp_in; decide) dX7_init_458 (fun H locs hP hD hS => ?_)
  rw [cl_56] at hP hD
  obtain ⟨a73, ea73⟩ : ∃ z : Nat → Int32, z = upd a72 56 110 := ⟨_, rfl⟩
  replace hP : va_P G vwCl [(h0, .inr (7, [.ref q1, .int 0, .ref q2, .int 0, .int 0, .int 0, .int 0, .int 0, .int 0, .int 0, .int 0, .int 0, .ref q3, .null, .null, .int 0, .null, .int 0, .int 0, .int 0, .int 0, .null, .int 0, .null, .null, .null, .null, .int 0])), (q1, .inl (cy 1, 515, .inl (fun _ => 0))), (q2, .inl (cy 1, 320, .inl (fun _ => 0))), (q3, .inl (cy 1, 16, .inl a16)), (q4, .inl (cy 1, 61, .inl a73))] H := by rw [ea73]; exact hP
  replace hD : va_D A [(h0, .inr (7, [.ref q1, .int 0, .ref q2, .int 0, .int 0, .int 0, .int 0, .int 0, .int 0, .int 0, .int 0, .int 0, .ref q3, .null, .null, .int 0, .null, .int 0, .int 0, .int 0, .int 0, .null, .int 0, .null, .null, .null, .null, .int 0])), (q1, .inl (cy 1, 515, .inl (fun _ => 0))), (q2, .inl (cy 1, 320, .inl (fun _ => 0))), (q3, .inl (cy 1, 16, .inl a16)), (q4, .inl (cy 1, 61, .inl a73))] := by rw [ea73]; exact hD
  refine lv_dup hx hb dX7_init_459 rfl ?_
  refine lv_bipush (v := 57) hx hb dX7_init_460 (by decide) ?_
  refine lv_bipush (v := 109) hx hb dX7_init_462 (by decide) ?_
  refine va_iast hx hb hK hP hD hS 4 1 rfl rfl (by unfold vp_in; decide) dX7_init_464 (fun H locs hP hD hS => ?_)
  rw [cl_57] at hP hD
  obtain ⟨a74, ea74⟩ : ∃ z : Nat → Int32, z = upd a73 57 109 := ⟨_, rfl⟩
  replace hP : va_P G vwCl [(h0, .inr (7, [.ref q1, .int 0, .ref q2, .int 0, .int 0, .int 0, .int 0, .int 0, .int 0, .int 0, .int 0, .int 0, .ref q3, .null, .null, .int 0, .null, .int 0, .int 0, .int 0, .int 0, .null, .int 0, .null, .null, .null, .null, .int 0])), (q1, .inl (cy 1, 515, .inl (fun _ => 0))), (q2, .inl (cy 1, 320, .inl (fun _ => 0))), (q3, .inl (cy 1, 16, .inl a16)), (q4, .inl (cy 1, 61, .inl a74))] H := by rw [ea74]; exact hP
  replace hD : va_D A [(h0, .inr (7, [.ref q1, .int 0, .ref q2, .int 0, .int 0, .int 0, .int 0, .int 0, .int 0, .int 0, .int 0, .int 0, .ref q3, .null, .null, .int 0, .null, .int 0, .int 0, .int 0, .int 0, .null, .int 0, .null, .null, .null, .null, .int 0])), (q1, .inl (cy 1, 515, .inl (fun _ => 0))), (q2, .inl (cy 1, 320, .inl (fun _ => 0))), (q3, .inl (cy 1, 16, .inl a16)), (q4, .inl (cy 1, 61, .inl a74))] := by rw [ea74]; exact hD
  refine lv_dup hx hb dX7_init_465 rfl ?_
  refine lv_bipush (v := 58) hx hb dX7_init_466 (by decide) ?_
  refine lv_bipush (v := 105) hx hb dX7_init_468 (by decide) ?_
  refine va_iast hx hb hK hP hD hS 4 1 rfl rfl (by unfold vp_in; decide) dX7_init_470 (fun H locs hP hD hS => ?_)
  rw [cl_58] at hP hD
  obtain ⟨a75, ea75⟩ : ∃ z : Nat → Int32, z = upd a74 58 105 := ⟨_, rfl⟩
  replace hP : va_P G vwCl [(h0, .inr (7, [.ref q1, .int 0, .ref q2, .int 0, .int 0, .int 0, .int 0, .int 0, .int 0, .int 0, .int 0, .int 0, .ref q3, .null, .null, .int 0, .null, .int 0, .int 0, .int 0, .int 0, .null, .int 0, .null, .null, .null, .null, .int 0])), (q1, .inl (cy 1, 515, .inl (fun _ => 0))), (q2, .inl (cy 1, 320, .inl (fun _ => 0))), (q3, .inl (cy 1, 16, .inl a16)), (q4, .inl (cy 1, 61, .inl a75))] H := by rw [ea75]; exact hP
  replace hD : va_D A [(h0, .inr (7, [.ref q1, .int 0, .ref q2, .int 0, .int 0, .int 0, .int 0, .int 0, .int 0, .int 0, .int 0, .int 0, .ref q3, .null, .null, .int 0, .null, .int 0, .int 0, .int 0, .int 0, .null, .int 0, .null, .null, .null, .null, .int 0])), (q1, .inl (cy 1, 515, .inl (fun _ => 0))), (q2, .inl (cy 1, 320, .inl (fun _ => 0))), (q3, .inl (cy 1, 16, .inl a16)), (q4, .inl (cy 1, 61, .inl a75))] := by rw [ea75]; exact hD
  refine lv_dup hx hb dX7_init_471 rfl ?_
  refine lv_bipush (v := 59) hx hb dX7_init_472 (by decide) ?_
  refine lv_bipush (v := 115) hx hb dX7_init_474 (by decide) ?_
  refine va_iast hx hb hK hP hD hS 4 1 rfl rfl (by unfold vp_in; decide) dX7_init_476 (fun H locs hP hD hS => ?_)
  rw [cl_59] at hP hD
  obtain ⟨a76, ea76⟩ : ∃ z : Nat → Int32, z = upd a75 59 115 := ⟨_, rfl⟩
  replace hP : va_P G vwCl [(h0, .inr (7, [.ref q1, .int 0, .ref q2, .int 0, .int 0, .int 0, .int 0, .int 0, .int 0, .int 0, .int 0, .int 0, .ref q3, .null, .null, .int 0, .null, .int 0, .int 0, .int 0, .int 0, .null, .int 0, .null, .null, .null, .null, .int 0])), (q1, .inl (cy 1, 515, .inl (fun _ => 0))), (q2, .inl (cy 1, 320, .inl (fun _ => 0))), (q3, .inl (cy 1, 16, .inl a16)), (q4, .inl (cy 1, 61, .inl a76))] H := by rw [ea76]; exact hP
  replace hD : va_D A [(h0, .inr (7, [.ref q1, .int 0, .ref q2, .int 0, .int 0, .int 0, .int 0, .int 0, .int 0, .int 0, .int 0, .int 0, .ref q3, .null, .null, .int 0, .null, .int 0, .int 0, .int 0, .int 0, .null, .int 0, .null, .null, .null, .null, .int 0])), (q1, .inl (cy 1, 515, .inl (fun _ => 0))), (q2, .inl (cy 1, 320, .inl (fun _ => 0))), (q3, .inl (cy 1, 16, .inl a16)), (q4, .inl (cy 1, 61, .inl a76))] := by rw [ea76]; exact hD
  refine lv_dup hx hb dX7_init_477 rfl ?_
  refine lv_bipush (v := 60) hx hb dX7_init_478 (by decide) ?_
  refine lv_bipush (v := 115) hx hb dX7_init_480 (by decide) ?_
  refine va_iast hx hb hK hP hD hS 4 1 rfl rfl (by unfold vp_in; decide) dX7_init_482 (fun H locs hP hD hS => ?_)
  rw [cl_60] at hP hD
  obtain ⟨a77, ea77⟩ : ∃ z : Nat → Int32, z = upd a76 60 115 := ⟨_, rfl⟩
  replace hP : va_P G vwCl [(h0, .inr (7, [.ref q1, .int 0, .ref q2, .int 0, .int 0, .int 0, .int 0, .int 0, .int 0, .int 0, .int 0, .int 0, .ref q3, .null, .null, .int 0, .null, .int 0, .int 0, .int 0, .int 0, .null, .int 0, .null, .null, .null, .null, .int 0])), (q1, .inl (cy 1, 515, .inl (fun _ => 0))), (q2, .inl (cy 1, 320, .inl (fun _ => 0))), (q3, .inl (cy 1, 16, .inl a16)), (q4, .inl (cy 1, 61, .inl a77))] H := by rw [ea77]; exact hP
  replace hD : va_D A [(h0, .inr (7, [.ref q1, .int 0, .ref q2, .int 0, .int 0, .int 0, .int 0, .int 0, .int 0, .int 0, .int 0, .int 0, .ref q3, .null, .null, .int 0, .null, .int 0, .int 0, .int 0, .int 0, .null, .int 0, .null, .null, .null, .null, .int 0])), (q1, .inl (cy 1, 515, .inl (fun _ => 0))), (q2, .inl (cy 1, 320, .inl (fun _ => 0))), (q3, .inl (cy 1, 16, .inl a16)), (q4, .inl (cy 1, 61, .inl a77))] := by rw [ea77]; exact hD
  refine va_putF (D := G) (ci := 7) (v := .ref q4) (ty := (.array .int)) (C := RX7) (T := TX7) (N := 28) hx hb hts inkX7 tyX7 tyX7_ok nmX7 hown hK hP hD hS 0 rfl rfl 13 (by decide) (hts _ kw_795) (fun _ h9 => h9) rfl hin rfl (by decide +kernel) rfl rfl (Nat.le_of_ble_eq_true rfl) dX7_init_483 (fun H locs hP hD hS => ?_)
  replace hP : va_P G vwCl [(h0, .inr (7, [.ref q1, .int 0, .ref q2, .int 0, .int 0, .int 0, .int 0, .int 0, .int 0, .int 0, .int 0, .int 0, .ref q3, .ref q4, .null, .int 0, .null, .int 0, .int 0, .int 0, .int 0, .null, .int 0, .null, .null, .null, .null, .int 0])), (q1, .inl (cy 1, 515, .inl (fun _ => 0))), (q2, .inl (cy 1, 320, .inl (fun _ => 0))), (q3, .inl (cy 1, 16, .inl a16)), (q4, .inl (cy 1, 61, .inl a77))] H := hP
  replace hD : va_D A [(h0, .inr (7, [.ref q1, .int 0, .ref q2, .int 0, .int 0, .int 0, .int 0, .int 0, .int 0, .int 0, .int 0, .int 0, .ref q3, .ref q4, .null, .int 0, .null, .int 0, .int 0, .int 0, .int 0, .null, .int 0, .null, .null, .null, .null, .int 0])), (q1, .inl (cy 1, 515, .inl (fun _ => 0))), (q2, .inl (cy 1, 320, .inl (fun _ => 0))), (q3, .inl (cy 1, 16, .inl a16)), (q4, .inl (cy 1, 61, .inl a77))] := hD
  refine lv_aload_n hx hb dX7_init_486 rfl (lv_at hl 0 rfl) ?_
  refine lv_bipush (v := 24) hx hb dX7_init_487 (by decide) ?_
  refine s_newa (N' := 24) (atype := .int) (ty := .int) rfl hx hb (hts _ kw_155) hK 1 rfl (fun _ h => h) hP hD hS hA (fun _ => rfl) (by decide) (by decide) (Nat.le_of_ble_eq_true rfl) (Nat.le_of_ble_eq_true rfl) (Nat.le_of_ble_eq_true rfl) dX7_init_489 (fun q5 H hP hD hS => ?_)
  refine W.widen (k := 5) (n := 936) (Nat.le_of_ble_eq_true rfl) (Nat.le_of_ble_eq_true rfl) ?_
  replace hP : va_P G vwCl [(h0, .inr (7, [.ref q1, .int 0, .ref q2, .int 0, .int 0, .int 0, .int 0, .int 0, .int 0, .int 0, .int 0, .int 0, .ref q3, .ref q4, .null, .int 0, .null, .int 0, .int 0, .int 0, .int 0, .null, .int 0, .null, .null, .null, .null, .int 0])), (q1, .inl (cy 1, 515, .inl (fun _ => 0))), (q2, .inl (cy 1, 320, .inl (fun _ => 0))), (q3, .inl (cy 1, 16, .inl a16)), (q4, .inl (cy 1, 61, .inl a77)), (q5, .inl (cy 1, 24, .inl (fun _ => 0)))] H := hP
  replace hD : va_D A [(h0, .inr (7, [.ref q1, .int 0, .ref q2, .int 0, .int 0, .int 0, .int 0, .int 0, .int 0, .int 0, .int 0, .int 0, .ref q3, .ref q4, .null, .int 0, .null, .int 0, .int 0, .int 0, .int 0, .null, .int 0, .null, .null, .null, .null, .int 0])), (q1, .inl (cy 1, 515, .inl (fun _ => 0))), (q2, .inl (cy 1, 320, .inl (fun _ => 0))), (q3, .inl (cy 1, 16, .inl a16)), (q4, .inl (cy 1, 61, .inl a77)), (q5, .inl (cy 1, 24, .inl (fun _ => 0)))] := hD
  refine va_putF (D := G) (ci := 7) (v := .ref q5) (ty := (.array .int)) (C := RX7) (T := TX7) (N := 28) hx hb hts inkX7 tyX7 tyX7_ok nmX7 hown hK hP hD hS 0 rfl rfl 14 (by decide) (hts _ kw_796) (fun _ h9 => h9) rfl hin rfl (by decide +kernel) rfl rfl (Nat.le_of_ble_eq_true rfl) dX7_init_491 (fun H locs hP hD hS => ?_)
  replace hP : va_P G vwCl [(h0, .inr (7, [.ref q1, .int 0, .ref q2, .int 0, .int 0, .int 0, .int 0, .int 0, .int 0, .int 0, .int 0, .int 0, .ref q3, .ref q4, .ref q5, .int 0, .null, .int 0, .int 0, .int 0, .int 0, .null, .int 0, .null, .null, .null, .null, .int 0])), (q1, .inl (cy 1, 515, .inl (fun _ => 0))), (q2, .inl (cy 1, 320, .inl (fun _ => 0))), (q3, .inl (cy 1, 16, .inl a16)), (q4, .inl (cy 1, 61, .inl a77)), (q5, .inl (cy 1, 24, .inl (fun _ => 0)))] H := hP
  replace hD : va_D A [(h0, .inr (7, [.ref q1, .int 0, .ref q2, .int 0, .int 0, .int 0, .int 0, .int 0, .int 0, .int 0, .int 0, .int 0, .ref q3, .ref q4, .ref q5, .int 0, .null, .int 0, .int 0, .int 0, .int 0, .null, .int 0, .null, .null, .null, .null, .int 0])), (q1, .inl (cy 1, 515, .inl (fun _ => 0))), (q2, .inl (cy 1, 320, .inl (fun _ => 0))), (q3, .inl (cy 1, 16, .inl a16)), (q4, .inl (cy 1, 61, .inl a77)), (q5, .inl (cy 1, 24, .inl (fun _ => 0)))] := hD
  refine lv_aload_n hx hb dX7_init_494 rfl (lv_at hl 0 rfl) ?_
  refine lv_bipush (v := 24) hx hb dX7_init_495 (by decide) ?_
  refine s_newa (N' := 24) (atype := .int) (ty := .int) rfl hx hb (hts _ kw_155) hK 1 rfl (fun _ h => h) hP hD hS hA (fun _ => rfl) (by decide) (by decide) (Nat.le_of_ble_eq_true rfl) (Nat.le_of_ble_eq_true rfl) (Nat.le_of_ble_eq_true rfl) dX7_init_497 (fun q6 H hP hD hS => ?_)
  refine W.widen (k := 6) (n := 960) (Nat.le_of_ble_eq_true rfl) (Nat.le_of_ble_eq_true rfl) ?_
  replace hP : va_P G vwCl [(h0, .inr (7, [.ref q1, .int 0, .ref q2, .int 0, .int 0, .int 0, .int 0, .int 0, .int 0, .int 0, .int 0, .int 0, .ref q3, .ref q4, .ref q5, .int 0, .null, .int 0, .int 0, .int 0, .int 0, .null, .int 0, .null, .null, .null, .null, .int 0])), (q1, .inl (cy 1, 515, .inl (fun _ => 0))), (q2, .inl (cy 1, 320, .inl (fun _ => 0))), (q3, .inl (cy 1, 16, .inl a16)), (q4, .inl (cy 1, 61, .inl a77)), (q5, .inl (cy 1, 24, .inl (fun _ => 0))), (q6, .inl (cy 1, 24, .inl (fun _ => 0)))] H := hP
  replace hD : va_D A [(h0, .inr (7, [.ref q1, .int 0, .ref q2, .int 0, .int 0, .int 0, .int 0, .int 0, .int 0, .int 0, .int 0, .int 0, .ref q3, .ref q4, .ref q5, .int 0, .null, .int 0, .int 0, .int 0, .int 0, .null, .int 0, .null, .null, .null, .null, .int 0])), (q1, .inl (cy 1, 515, .inl (fun _ => 0))), (q2, .inl (cy 1, 320, .inl (fun _ => 0))), (q3, .inl (cy 1, 16, .inl a16)), (q4, .inl (cy 1, 61, .inl a77)), (q5, .inl (cy 1, 24, .inl (fun _ => 0))), (q6, .inl (cy 1, 24, .inl (fun _ => 0)))] := hD
  refine va_putF (D := G) (ci := 7) (v := .ref q6) (ty := (.array .int)) (C := RX7) (T := TX7) (N := 28) hx hb hts inkX7 tyX7 tyX7_ok nmX7 hown hK hP hD hS 0 rfl rfl 16 (by decide) (hts _ kw_798) (fun _ h9 => h9) rfl hin rfl (by decide +kernel) rfl rfl (Nat.le_of_ble_eq_true rfl) dX7_init_499 (fun H locs hP hD hS => ?_)
  replace hP : va_P G vwCl [(h0, .inr (7, [.ref q1, .int 0, .ref q2, .int 0, .int 0, .int 0, .int 0, .int 0, .int 0, .int 0, .int 0, .int 0, .ref q3, .ref q4, .ref q5, .int 0, .ref q6, .int 0, .int 0, .int 0, .int 0, .null, .int 0, .null, .null, .null, .null, .int 0])), (q1, .inl (cy 1, 515, .inl (fun _ => 0))), (q2, .inl (cy 1, 320, .inl (fun _ => 0))), (q3, .inl (cy 1, 16, .inl a16)), (q4, .inl (cy 1, 61, .inl a77)), (q5, .inl (cy 1, 24, .inl (fun _ => 0))), (q6, .inl (cy 1, 24, .inl (fun _ => 0)))] H := hP
  replace hD : va_D A [(h0, .inr (7, [.ref q1, .int 0, .ref q2, .int 0, .int 0, .int 0, .int 0, .int 0, .int 0, .int 0, .int 0, .int 0, .ref q3, .ref q4, .ref q5, .int 0, .ref q6, .int 0, .int 0, .int 0, .int 0, .null, .int 0, .null, .null, .null, .null, .int 0])), (q1, .inl (cy 1, 515, .inl (fun _ => 0))), (q2, .inl (cy 1, 320, .inl (fun _ => 0))), (q3, .inl (cy 1, 16, .inl a16)), (q4, .inl (cy 1, 61, .inl a77)), (q5, .inl (cy 1, 24, .inl (fun _ => 0))), (q6, .inl (cy 1, 24, .inl (fun _ => 0)))] := hD
  refine lv_aload_n hx hb dX7_init_502 rfl (lv_at hl 0 rfl) ?_
  refine lv_bipush (v := 16) hx hb dX7_init_503 (by decide) ?_
  refine s_newa (N' := 16) (atype := .int) (ty := .int) rfl hx hb (hts _ kw_155) hK 1 rfl (fun _ h => h) hP hD hS hA (fun _ => rfl) (by decide) (by decide) (Nat.le_of_ble_eq_true rfl) (Nat.le_of_ble_eq_true rfl) (Nat.le_of_ble_eq_true rfl) dX7_init_505 (fun q7 H hP hD hS => ?_)
  refine W.widen (k := 7) (n := 976) (Nat.le_of_ble_eq_true rfl) (Nat.le_of_ble_eq_true rfl) ?_
  replace hP : va_P G vwCl [(h0, .inr (7, [.ref q1, .int 0, .ref q2, .int 0, .int 0, .int 0, .int 0, .int 0, .int 0, .int 0, .int 0, .int 0, .ref q3, .ref q4, .ref q5, .int 0, .ref q6, .int 0, .int 0, .int 0, .int 0, .null, .int 0, .null, .null, .null, .null, .int 0])), (q1, .inl (cy 1, 515, .inl (fun _ => 0))), (q2, .inl (cy 1, 320, .inl (fun _ => 0))), (q3, .inl (cy 1, 16, .inl a16)), (q4, .inl (cy 1, 61, .inl a77)), (q5, .inl (cy 1, 24, .inl (fun _ => 0))), (q6, .inl (cy 1, 24, .inl (fun _ => 0))), (q7, .inl (cy 1, 16, .inl (fun _ => 0)))] H := hP
  replace hD : va_D A [(h0, .inr (7, [.ref q1, .int 0, .ref q2, .int 0, .int 0, .int 0, .int 0, .int 0, .int 0, .int 0, .int 0, .int 0, .ref q3, .ref q4, .ref q5, .int 0, .ref q6, .int 0, .int 0, .int 0, .int 0, .null, .int 0, .null, .null, .null, .null, .int 0])), (q1, .inl (cy 1, 515, .inl (fun _ => 0))), (q2, .inl (cy 1, 320, .inl (fun _ => 0))), (q3, .inl (cy 1, 16, .inl a16)), (q4, .inl (cy 1, 61, .inl a77)), (q5, .inl (cy 1, 24, .inl (fun _ => 0))), (q6, .inl (cy 1, 24, .inl (fun _ => 0))), (q7, .inl (cy 1, 16, .inl (fun _ => 0)))] := hD
  refine va_putF (D := G) (ci := 7) (v := .ref q7) (ty := (.array .int)) (C := RX7) (T := TX7) (N := 28) hx hb hts inkX7 tyX7 tyX7_ok nmX7 hown hK hP hD hS 0 rfl rfl 21 (by decide) (hts _ kw_803) (fun _ h9 => h9) rfl hin rfl (by decide +kernel) rfl rfl (Nat.le_of_ble_eq_true rfl) dX7_init_507 (fun H locs hP hD hS => ?_)
  replace hP : va_P G vwCl [(h0, .inr (7, [.ref q1, .int 0, .ref q2, .int 0, .int 0, .int 0, .int 0, .int 0, .int 0, .int 0, .int 0, .int 0, .ref q3, .ref q4, .ref q5, .int 0, .ref q6, .int 0, .int 0, .int 0, .int 0, .ref q7, .int 0, .null, .null, .null, .null, .int 0])), (q1, .inl (cy 1, 515, .inl (fun _ => 0))), (q2, .inl (cy 1, 320, .inl (fun _ => 0))), (q3, .inl (cy 1, 16, .inl a16)), (q4, .inl (cy 1, 61, .inl a77)), (q5, .inl (cy 1, 24, .inl (fun _ => 0))), (q6, .inl (cy 1, 24, .inl (fun _ => 0))), (q7, .inl (cy 1, 16, .inl (fun _ => 0)))] H := hP
  replace hD : va_D A [(h0, .inr (7, [.ref q1, .int 0, .ref q2, .int 0, .int 0, .int 0, .int 0, .int 0, .int 0, .int 0, .int 0, .int 0, .ref q3, .ref q4, .ref q5, .int 0, .ref q6, .int 0, .int 0, .int 0, .int 0, .ref q7, .int 0, .null, .null, .null, .null, .int 0])), (q1, .inl (cy 1, 515, .inl (fun _ => 0))), (q2, .inl (cy 1, 320, .inl (fun _ => 0))), (q3, .inl (cy 1, 16, .inl a16)), (q4, .inl (cy 1, 61, .inl a77)), (q5, .inl (cy 1, 24, .inl (fun _ => 0))), (q6, .inl (cy 1, 24, .inl (fun _ => 0))), (q7, .inl (cy 1, 16, .inl (fun _ => 0)))] := hD
  refine lv_aload_n hx hb dX7_init_510 rfl (lv_at hl 0 rfl) ?_
  refine lv_iconst (v := 2) hx hb dX7_init_511 (by decide) ?_
  refine s_newa (N' := 2) (atype := .boolean) (ty := .boolean) rfl hx hb (hts _ kw_249) hK 2 rfl (fun _ h => h) hP hD hS hA (fun _ => rfl) (by decide) (by decide) (Nat.le_of_ble_eq_true rfl) (Nat.le_of_ble_eq_true rfl) (Nat.le_of_ble_eq_true rfl) dX7_init_512 (fun q8 H hP hD hS => ?_)
  refine W.widen (k := 8) (n := 978) (Nat.le_of_ble_eq_true rfl) (Nat.le_of_ble_eq_true rfl) ?_
  replace hP : va_P G vwCl [(h0, .inr (7, [.ref q1, .int 0, .ref q2, .int 0, .int 0, .int 0, .int 0, .int 0, .int 0, .int 0, .int 0, .int 0, .ref q3, .ref q4, .ref q5, .int 0, .ref q6, .int 0, .int 0, .int 0, .int 0, .ref q7, .int 0, .null, .null, .null, .null, .int 0])), (q1, .inl (cy 1, 515, .inl (fun _ => 0))), (q2, .inl (cy 1, 320, .inl (fun _ => 0))), (q3, .inl (cy 1, 16, .inl a16)), (q4, .inl (cy 1, 61, .inl a77)), (q5, .inl (cy 1, 24, .inl (fun _ => 0))), (q6, .inl (cy 1, 24, .inl (fun _ => 0))), (q7, .inl (cy 1, 16, .inl (fun _ => 0))), (q8, .inl (cy 2, 2, .inl (fun _ => 0)))] H := hP
  replace hD : va_D A [(h0, .inr (7, [.ref q1, .int 0, .ref q2, .int 0, .int 0, .int 0, .int 0, .int 0, .int 0, .int 0, .int 0, .int 0, .ref q3, .ref q4, .ref q5, .int 0, .ref q6, .int 0, .int 0, .int 0, .int 0, .ref q7, .int 0, .null, .null, .null, .null, .int 0])), (q1, .inl (cy 1, 515, .inl (fun _ => 0))), (q2, .inl (cy 1, 320, .inl (fun _ => 0))), (q3, .inl (cy 1, 16, .inl a16)), (q4, .inl (cy 1, 61, .inl a77)), (q5, .inl (cy 1, 24, .inl (fun _ => 0))), (q6, .inl (cy 1, 24, .inl (fun _ => 0))), (q7, .inl (cy 1, 16, .inl (fun _ => 0))), (q8, .inl (cy 2, 2, .inl (fun _ => 0)))] := hD
  refine lv_dup hx hb dX7_init_514 rfl ?_
  refine lv_iconst (v := 0) hx hb dX7_init_515 (by decide) ?_
  refine lv_iconst (v := 0) hx hb dX7_init_516 (by decide) ?_
  refine va_zast hx hb hK hP hD hS 8 2 rfl rfl (by unfold vp_in; decide) dX7_init_517 (fun H locs hP hD hS => ?_)
  rw [cl_0] at hP hD
  obtain ⟨a78, ea78⟩ : ∃ z : Nat → Int32, z = upd (fun _ => 0) 0 (vp_nar .boolean 0) := ⟨_, rfl⟩
  replace hP : va_P G vwCl [(h0, .inr (7, [.ref q1, .int 0, .ref q2, .int 0, .int 0, .int 0, .int 0, .int 0, .int 0, .int 0, .int 0, .int 0, .ref q3, .ref q4, .ref q5, .int 0, .ref q6, .int 0, .int 0, .int 0, .int 0, .ref q7, .int 0, .null, .null, .null, .null, .int 0])), (q1, .inl (cy 1, 515, .inl (fun _ => 0))), (q2, .inl (cy 1, 320, .inl (fun _ => 0))), (q3, .inl (cy 1, 16, .inl a16)), (q4, .inl (cy 1, 61, .inl a77)), (q5, .inl (cy 1, 24, .inl (fun _ => 0))), (q6, .inl (cy 1, 24, .inl (fun _ => 0))), (q7, .inl (cy 1, 16, .inl (fun _ => 0))), (q8, .inl (cy 2, 2, .inl a78))] H := by rw [ea78]; exact hP
  replace hD : va_D A [(h0, .inr (7, [.ref q1, .int 0, .ref q2, .int 0, .int 0, .int 0, .int 0, .int 0, .int 0, .int 0, .int 0, .int 0, .ref q3, .ref q4, .ref q5, .int 0, .ref q6, .int 0, .int 0, .int 0, .int 0, .ref q7, .int 0, .null, .null, .null, .null, .int 0])), (q1, .inl (cy 1, 515, .inl (fun _ => 0))), (q2, .inl (cy 1, 320, .inl (fun _ => 0))), (q3, .inl (cy 1, 16, .inl a16)), (q4, .inl (cy 1, 61, .inl a77)), (q5, .inl (cy 1, 24, .inl (fun _ => 0))), (q6, .inl (cy 1, 24, .inl (fun _ => 0))), (q7, .inl (cy 1, 16, .inl (fun _ => 0))), (q8, .inl (cy 2, 2, .inl a78))] := by rw [ea78]; exact hD
  refine lv_dup hx hb dX7_init_518 rfl ?_
  refine lv_iconst (v := 1) hx hb dX7_init_519 (by decide) ?_
  refine lv_iconst (v := 0) hx hb dX7_init_520 (by decide) ?_
  refine va_zast hx hb hK hP hD hS 8 2 rfl rfl (by unfold vp_in; decide) dX7_init_521 (fun H locs hP hD hS => ?_)
  rw [cl_1] at hP hD
  obtain ⟨a79, ea79⟩ : ∃ z : Nat → Int32, z = upd a78 1 (vp_nar .boolean 0) := ⟨_, rfl⟩
  replace hP : va_P G vwCl [(h0, .inr (7, [.ref q1, .int 0, .ref q2, .int 0, .int 0, .int 0, .int 0, .int 0, .int 0, .int 0, .int 0, .int 0, .ref q3, .ref q4, .ref q5, .int 0, .ref q6, .int 0, .int 0, .int 0, .int 0, .ref q7, .int 0, .null, .null, .null, .null, .int 0])), (q1, .inl (cy 1, 515, .inl (fun _ => 0))), (q2, .inl (cy 1, 320, .inl (fun _ => 0))), (q3, .inl (cy 1, 16, .inl a16)), (q4, .inl (cy 1, 61, .inl a77)), (q5, .inl (cy 1, 24, .inl (fun _ => 0))), (q6, .inl (cy 1, 24, .inl (fun _ => 0))), (q7, .inl (cy 1, 16, .inl (fun _ => 0))), (q8, .inl (cy 2, 2, .inl a79))] H := by rw [ea79]; exact hP
  replace hD : va_D A [(h0, .inr (7, [.ref q1, .int 0, .ref q2, .int 0, .int 0, .int 0, .int 0, .int 0, .int 0, .int 0, .int 0, .int 0, .ref q3, .ref q4, .ref q5, .int 0, .ref q6, .int 0, .int 0, .int 0, .int 0, .ref q7, .int 0, .null, .null, .null, .null, .int 0])), (q1, .inl (cy 1, 515, .inl (fun _ => 0))), (q2, .inl (cy 1, 320, .inl (fun _ => 0))), (q3, .inl (cy 1, 16, .inl a16)), (q4, .inl (cy 1, 61, .inl a77)), (q5, .inl (cy 1, 24, .inl (fun _ => 0))), (q6, .inl (cy 1, 24, .inl (fun _ => 0))), (q7, .inl (cy 1, 16, .inl (fun _ => 0))), (q8, .inl (cy 2, 2, .inl a79))] := by rw [ea79]; exact hD
  refine va_putF (D := G) (ci := 7) (v := .ref q8) (ty := (.array .boolean)) (C := RX7) (T := TX7) (N := 28) hx hb hts inkX7 tyX7 tyX7_ok nmX7 hown hK hP hD hS 0 rfl rfl 23 (by decide) (hts _ kw_805) (fun _ h9 => h9) rfl hin rfl (by decide +kernel) rfl rfl (Nat.le_of_ble_eq_true rfl) dX7_init_522 (fun H locs hP hD hS => ?_)
  replace hP : va_P G vwCl [(h0, .inr (7, [.ref q1, .int 0, .ref q2, .int 0, .int 0, .int 0, .int 0, .int 0, .int 0, .int 0, .int 0, .int 0, .ref q3, .ref q4, .ref q5, .int 0, .ref q6, .int 0, .int 0, .int 0, .int 0, .ref q7, .int 0, .ref q8, .null, .null, .null, .int 0])), (q1, .inl (cy 1, 515, .inl (fun _ => 0))), (q2, .inl (cy 1, 320, .inl (fun _ => 0))), (q3, .inl (cy 1, 16, .inl a16)), (q4, .inl (cy 1, 61, .inl a77)), (q5, .inl (cy 1, 24, .inl (fun _ => 0))), (q6, .inl (cy 1, 24, .inl (fun _ => 0))), (q7, .inl (cy 1, 16, .inl (fun _ => 0))), (q8, .inl (cy 2, 2, .inl a79))] H := hP
  replace hD : va_D A [(h0, .inr (7, [.ref q1, .int 0, .ref q2, .int 0, .int 0, .int 0, .int 0, .int 0, .int 0, .int 0, .int 0, .int 0, .ref q3, .ref q4, .ref q5, .int 0, .ref q6, .int 0, .int 0, .int 0, .int 0, .ref q7, .int 0, .ref q8, .null, .null, .null, .int 0])), (q1, .inl (cy 1, 515, .inl (fun _ => 0))), (q2, .inl (cy 1, 320, .inl (fun _ => 0))), (q3, .inl (cy 1, 16, .inl a16)), (q4, .inl (cy 1, 61, .inl a77)), (q5, .inl (cy 1, 24, .inl (fun _ => 0))), (q6, .inl (cy 1, 24, .inl (fun _ => 0))), (q7, .inl (cy 1, 16, .inl (fun _ => 0))), (q8, .inl (cy 2, 2, .inl a79))] := hD
  refine lv_aload_n hx hb dX7_init_525 rfl (lv_at hl 0 rfl) ?_
  refine lv_iconst (v := 4) hx hb dX7_init_526 (by decide) ?_
  refine s_newa (N' := 4) (atype := .int) (ty := .int) rfl hx hb (hts _ kw_155) hK 1 rfl (fun _ h => h) hP hD hS hA (fun _ => rfl) (by decide) (by decide) (Nat.le_of_ble_eq_true rfl) (Nat.le_of_ble_eq_true rfl) (Nat.le_of_ble_eq_true rfl) dX7_init_527 (fun q9 H hP hD hS => ?_)
  refine W.widen (k := 9) (n := 982) (Nat.le_of_ble_eq_true rfl) (Nat.le_of_ble_eq_true rfl) ?_
  replace hP : va_P G vwCl [(h0, .inr (7, [.ref q1, .int 0, .ref q2, .int 0, .int 0, .int 0, .int 0, .int 0, .int 0, .int 0, .int 0, .int 0, .ref q3, .ref q4, .ref q5, .int 0, .ref q6, .int 0, .int 0, .int 0, .int 0, .ref q7, .int 0, .ref q8, .null, .null, .null, .int 0])), (q1, .inl (cy 1, 515, .inl (fun _ => 0))), (q2, .inl (cy 1, 320, .inl (fun _ => 0))), (q3, .inl (cy 1, 16, .inl a16)), (q4, .inl (cy 1, 61, .inl a77)), (q5, .inl (cy 1, 24, .inl (fun _ => 0))), (q6, .inl (cy 1, 24, .inl (fun _ => 0))), (q7, .inl (cy 1, 16, .inl (fun _ => 0))), (q8, .inl (cy 2, 2, .inl a79)), (q9, .inl (cy 1, 4, .inl (fun _ => 0)))] H := hP
  replace hD : va_D A [(h0, .inr (7, [.ref q1, .int 0, .ref q2, .int 0, .int 0, .int 0, .int 0, .int 0, .int 0, .int 0, .int 0, .int 0, .ref q3, .ref q4, .ref q5, .int 0, .ref q6, .int 0, .int 0, .int 0, .int 0, .ref q7, .int 0, .ref q8, .null, .null, .null, .int 0])), (q1, .inl (cy 1, 515, .inl (fun _ => 0))), (q2, .inl (cy 1, 320, .inl (fun _ => 0))), (q3, .inl (cy 1, 16, .inl a16)), (q4, .inl (cy 1, 61, .inl a77)), (q5, .inl (cy 1, 24, .inl (fun _ => 0))), (q6, .inl (cy 1, 24, .inl (fun _ => 0))), (q7, .inl (cy 1, 16, .inl (fun _ => 0))), (q8, .inl (cy 2, 2, .inl a79)), (q9, .inl (cy 1, 4, .inl (fun _ => 0)))] := hD
  refine lv_dup hx hb dX7_init_529 rfl ?_
  refine lv_iconst (v := 0) hx hb dX7_init_530 (by decide) ?_
  refine lv_bipush (v := -4) hx hb dX7_init_531 (by decide) ?_
  refine va_iast hx hb hK hP hD hS 9 1 rfl rfl (by unfold vp_in; decide) dX7_init_533 (fun H locs hP hD hS => ?_)
  rw [cl_0] at hP hD
  obtain ⟨a80, ea80⟩ : ∃ z : Nat → Int32, z = upd (fun _ => 0) 0 (-4) := ⟨_, rfl⟩
  replace hP : va_P G vwCl [(h0, .inr (7, [.ref q1, .int 0, .ref q2, .int 0, .int 0, .int 0, .int 0, .int 0, .int 0, .int 0, .int 0, .int 0, .ref q3, .ref q4, .ref q5, .int 0, .ref q6, .int 0, .int 0, .int 0, .int 0, .ref q7, .int 0, .ref q8, .null, .null, .null, .int 0])), (q1, .inl (cy 1, 515, .inl (fun _ => 0))), (q2, .inl (cy 1, 320, .inl (fun _ => 0))), (q3, .inl (cy 1, 16, .inl a16)), (q4, .inl (cy 1, 61, .inl a77)), (q5, .inl (cy 1, 24, .inl (fun _ => 0))), (q6, .inl (cy 1, 24, .inl (fun _ => 0))), (q7, .inl (cy 1, 16, .inl (fun _ => 0))), (q8, .inl (cy 2, 2, .inl a79)), (q9, .inl (cy 1, 4, .inl a80))] H := by rw [ea80]; exact hP
  replace hD : va_D A [(h0, .inr (7, [.ref q1, .int 0, .ref q2, .int 0, .int 0, .int 0, .int 0, .int 0, .int 0, .int 0, .int 0, .int 0, .ref q3, .ref q4, .ref q5, .int 0, .ref q6, .int 0, .int 0, .int 0, .int 0, .ref q7, .int 0, .ref q8, .null, .null, .null, .int 0])), (q1, .inl (cy 1, 515, .inl (fun _ => 0))), (q2, .inl (cy 1, 320, .inl (fun _ => 0))), (q3, .inl (cy 1, 16, .inl a16)), (q4, .inl (cy 1, 61, .inl a77)), (q5, .inl (cy 1, 24, .inl (fun _ => 0))), (q6, .inl (cy 1, 24, .inl (fun _ => 0))), (q7, .inl (cy 1, 16, .inl (fun _ => 0))), (q8, .inl (cy 2, 2, .inl a79)), (q9, .inl (cy 1, 4, .inl a80))] := by rw [ea80]; exact hD
  refine lv_dup hx hb dX7_init_534 rfl ?_
  refine lv_iconst (v := 1) hx hb dX7_init_535 (by decide) ?_
  refine lv_bipush (v := -4) hx hb dX7_init_536 (by decide) ?_
  refine va_iast hx hb hK hP hD hS 9 1 rfl rfl (by unfold vp_in; decide) dX7_init_538 (fun H locs hP hD hS => ?_)
  rw [cl_1] at hP hD
  obtain ⟨a81, ea81⟩ : ∃ z : Nat → Int32, z = upd a80 1 (-4) := ⟨_, rfl⟩
  replace hP : va_P G vwCl [(h0, .inr (7, [.ref q1, .int 0, .ref q2, .int 0, .int 0, .int 0, .int 0, .int 0, .int 0, .int 0, .int 0, .int 0, .ref q3, .ref q4, .ref q5, .int 0, .ref q6, .int 0, .int 0, .int 0, .int 0, .ref q7, .int 0, .ref q8, .null, .null, .null, .int 0])), (q1, .inl (cy 1, 515, .inl (fun _ => 0))), (q2, .inl (cy 1, 320, .inl (fun _ => 0))), (q3, .inl (cy 1, 16, .inl a16)), (q4, .inl (cy 1, 61, .inl a77)), (q5, .inl (cy 1, 24, .inl (fun _ => 0))), (q6, .inl (cy 1, 24, .inl (fun _ => 0))), (q7, .inl (cy 1, 16, .inl (fun _ => 0))), (q8, .inl (cy 2, 2, .inl a79)), (q9, .inl (cy 1, 4, .inl a81))] H := by rw [ea81]; exact hP
  replace hD : va_D A [(h0, .inr (7, [.ref q1, .int 0, .ref q2, .int 0, .int 0, .int 0, .int 0, .int 0, .int 0, .int 0, .int 0, .int 0, .ref q3, .ref q4, .ref q5, .int 0, .ref q6, .int 0, .int 0, .int 0, .int 0, .ref q7, .int 0, .ref q8, .null, .null, .null, .int 0])), (q1, .inl (cy 1, 515, .inl (fun _ => 0))), (q2, .inl (cy 1, 320, .inl (fun _ => 0))), (q3, .inl (cy 1, 16, .inl a16)), (q4, .inl (cy 1, 61, .inl a77)), (q5, .inl (cy 1, 24, .inl (fun _ => 0))), (q6, .inl (cy 1, 24, .inl (fun _ => 0))), (q7, .inl (cy 1, 16, .inl (fun _ => 0))), (q8, .inl (cy 2, 2, .inl a79)), (q9, .inl (cy 1, 4, .inl a81))] := by rw [ea81]; exact hD
  refine lv_dup hx hb dX7_init_539 rfl ?_
  refine lv_iconst (v := 2) hx hb dX7_init_540 (by decide) ?_
  refine lv_bipush (v := -4) hx hb dX7_init_541 (by decide) ?_
  refine va_iast hx hb hK hP hD hS 9 1 rfl rfl (by unfold vp_in; decide) dX7_init_543 (fun H locs hP hD hS => ?_)
  rw [cl_2] at hP hD
  obtain ⟨a82, ea82⟩ : ∃ z : Nat → Int32, z = upd a81 2 (-4) := ⟨_, rfl⟩
  replace hP : va_P G vwCl [(h0, .inr (7, [.ref q1, .int 0, .ref q2, .int 0, .int 0, .int 0, .int 0, .int 0, .int 0, .int 0, .int 0, .int 0, .ref q3, .ref q4, .ref q5, .int 0, .ref q6, .int 0, .int 0, .int 0, .int 0, .ref q7, .int 0, .ref q8, .null, .null, .null, .int 0])), (q1, .inl (cy 1, 515, .inl (fun _ => 0))), (q2, .inl (cy 1, 320, .inl (fun _ => 0))), (q3, .inl (cy 1, 16, .inl a16)), (q4, .inl (cy 1, 61, .inl a77)), (q5, .inl (cy 1, 24, .inl (fun _ => 0))), (q6, .inl (cy 1, 24, .inl (fun _ => 0))), (q7, .inl (cy 1, 16, .inl (fun _ => 0))), (q8, .inl (cy 2, 2, .inl a79)), (q9, .inl (cy 1, 4, .inl a82))] H := by rw [ea82]; exact hP
  replace hD : va_D A [(h0, .inr (7, [.ref q1, .int 0, .ref q2, .int 0, .int 0, .int 0, .int 0, .int 0, .int 0, .int 0, .int 0, .int 0, .ref q3, .ref q4, .ref q5, .int 0, .ref q6, .int 0, .int 0, .int 0, .int 0, .ref q7, .int 0, .ref q8, .null, .null, .null, .int 0])), (q1, .inl (cy 1, 515, .inl (fun _ => 0))), (q2, .inl (cy 1, 320, .inl (fun _ => 0))), (q3, .inl (cy 1, 16, .inl a16)), (q4, .inl (cy 1, 61, .inl a77)), (q5, .inl (cy 1, 24, .inl (fun _ => 0))), (q6, .inl (cy 1, 24, .inl (fun _ => 0))), (q7, .inl (cy 1, 16, .inl (fun _ => 0))), (q8, .inl (cy 2, 2, .inl a79)), (q9, .inl (cy 1, 4, .inl a82))] := by rw [ea82]; exact hD
  refine lv_dup hx hb dX7_init_544 rfl ?_
  refine lv_iconst (v := 3) hx hb dX7_init_545 (by decide) ?_
  refine lv_bipush (v := -4) hx hb dX7_init_546 (by decide) ?_
  refine va_iast hx hb hK hP hD hS 9 1 rfl rfl (by unfold vp_in; decide) dX7_init_548 (fun H locs hP hD hS => ?_)
  rw [cl_3] at hP hD
  obtain ⟨a83, ea83⟩ : ∃ z : Nat → Int32, z = upd a82 3 (-4) := ⟨_, rfl⟩
  replace hP : va_P G vwCl [(h0, .inr (7, [.ref q1, .int 0, .ref q2, .int 0, .int 0, .int 0, .int 0, .int 0, .int 0, .int 0, .int 0, .int 0, .ref q3, .ref q4, .ref q5, .int 0, .ref q6, .int 0, .int 0, .int 0, .int 0, .ref q7, .int 0, .ref q8, .null, .null, .null, .int 0])), (q1, .inl (cy 1, 515, .inl (fun _ => 0))), (q2, .inl (cy 1, 320, .inl (fun _ => 0))), (q3, .inl (cy 1, 16, .inl a16)), (q4, .inl (cy 1, 61, .inl a77)), (q5, .inl (cy 1, 24, .inl (fun _ => 0))), (q6, .inl (cy 1, 24, .inl (fun _ => 0))), (q7, .inl (cy 1, 16, .inl (fun _ => 0))), (q8, .inl (cy 2, 2, .inl a79)), (q9, .inl (cy 1, 4, .inl a83))] H := by rw [ea83]; exact hP
  replace hD : va_D A [(h0, .inr (7, [.ref q1, .int 0, .ref q2, .int 0, .int 0, .int 0, .int 0, .int 0, .int 0, .int 0, .int 0, .int 0, .ref q3, .ref q4, .ref q5, .int 0, .ref q6, .int 0, .int 0, .int 0, .int 0, .ref q7, .int 0, .ref q8, .null, .null, .null, .int 0])), (q1, .inl (cy 1, 515, .inl (fun _ => 0))), (q2, .inl (cy 1, 320, .inl (fun _ => 0))), (q3, .inl (cy 1, 16, .inl a16)), (q4, .inl (cy 1, 61, .inl a77)), (q5, .inl (cy 1, 24, .inl (fun _ => 0))), (q6, .inl (cy 1, 24, .inl (fun _ => 0))), (q7, .inl (cy 1, 16, .inl (fun _ => 0))), (q8, .inl (cy 2, 2, .inl a79)), (q9, .inl (cy 1, 4, .inl a83))] := by rw [ea83]; exact hD
  refine va_putF (D := G) (ci := 7) (v := .ref q9) (ty := (.array .int)) (C := RX7) (T := TX7) (N := 28) hx hb hts inkX7 tyX7 tyX7_ok nmX7 hown hK hP hD hS 0 rfl rfl 24 (by decide) (hts _ kw_806) (fun _ h9 => h9) rfl hin rfl (by decide +kernel) rfl rfl (Nat.le_of_ble_eq_true rfl) dX7_init_549 (fun H locs hP hD hS => ?_)
  replace hP : va_P G vwCl [(h0, .inr (7, [.ref q1, .int 0, .ref q2, .int 0, .int 0, .int 0, .int 0, .int 0, .int 0, .int 0, .int 0, .int 0, .ref q3, .ref q4, .ref q5, .int 0, .ref q6, .int 0, .int 0, .int 0, .int 0, .ref q7, .int 0, .ref q8, .ref q9, .null, .null, .int 0])), (q1, .inl (cy 1, 515, .inl (fun _ => 0))), (q2, .inl (cy 1, 320, .inl (fun _ => 0))), (q3, .inl (cy 1, 16, .inl a16)), (q4, .inl (cy 1, 61, .inl a77)), (q5, .inl (cy 1, 24, .inl (fun _ => 0))), (q6, .inl (cy 1, 24, .inl (fun _ => 0))), (q7, .inl (cy 1, 16, .inl (fun _ => 0))), (q8, .inl (cy 2, 2, .inl a79)), (q9, .inl (cy 1, 4, .inl a83))] H := hP
  replace hD : va_D A [(h0, .inr (7, [.ref q1, .int 0, .ref q2, .int 0, .int 0, .int 0, .int 0, .int 0, .int 0, .int 0, .int 0, .int 0, .ref q3, .ref q4, .ref q5, .int 0, .ref q6, .int 0, .int 0, .int 0, .int 0, .ref q7, .int 0, .ref q8, .ref q9, .null, .null, .int 0])), (q1, .inl (cy 1, 515, .inl (fun _ => 0))), (q2, .inl (cy 1, 320, .inl (fun _ => 0))), (q3, .inl (cy 1, 16, .inl a16)), (q4, .inl (cy 1, 61, .inl a77)), (q5, .inl (cy 1, 24, .inl (fun _ => 0))), (q6, .inl (cy 1, 24, .inl (fun _ => 0))), (q7, .inl (cy 1, 16, .inl (fun _ => 0))), (q8, .inl (cy 2, 2, .inl a79)), (q9, .inl (cy 1, 4, .inl a83))] := hD
  refine lv_aload_n hx hb dX7_init_552 rfl (lv_at hl 0 rfl) ?_
  refine lv_iconst (v := 4) hx hb dX7_init_553 (by decide) ?_
  refine s_newa (N' := 4) (atype := .int) (ty := .int) rfl hx hb (hts _ kw_155) hK 1 rfl (fun _ h => h) hP hD hS hA (fun _ => rfl) (by decide) (by decide) (Nat.le_of_ble_eq_true rfl) (Nat.le_of_ble_eq_true rfl) (Nat.le_of_ble_eq_true rfl) dX7_init_554 (fun q10 H hP hD hS => ?_)
  refine W.widen (k := 10) (n := 986) (Nat.le_of_ble_eq_true rfl) (Nat.le_of_ble_eq_true rfl) ?_
  replace hP : va_P G vwCl [(h0, .inr (7, [.ref q1, .int 0, .ref q2, .int 0, .int 0, .int 0, .int 0, .int 0, .int 0, .int 0, .int 0, .int 0, .ref q3, .ref q4, .ref q5, .int 0, .ref q6, .int 0, .int 0, .int 0, .int 0, .ref q7, .int 0, .ref q8, .ref q9, .null, .null, .int 0])), (q1, .inl (cy 1, 515, .inl (fun _ => 0))), (q2, .inl (cy 1, 320, .inl (fun _ => 0))), (q3, .inl (cy 1, 16, .inl a16)), (q4, .inl (cy 1, 61, .inl a77)), (q5, .inl (cy 1, 24, .inl (fun _ => 0))), (q6, .inl (cy 1, 24, .inl (fun _ => 0))), (q7, .inl (cy 1, 16, .inl (fun _ => 0))), (q8, .inl (cy 2, 2, .inl a79)), (q9, .inl (cy 1, 4, .inl a83)), (q10, .inl (cy 1, 4, .inl (fun _ => 0)))] H := hP
  replace hD : va_D A [(h0, .inr (7, [.ref q1, .int 0, .ref q2, .int 0, .int 0, .int 0, .int 0, .int 0, .int 0, .int 0, .int 0, .int 0, .ref q3, .ref q4, .ref q5, .int 0, .ref q6, .int 0, .int 0, .int 0, .int 0, .ref q7, .int 0, .ref q8, .ref q9, .null, .null, .int 0])), (q1, .inl (cy 1, 515, .inl (fun _ => 0))), (q2, .inl (cy 1, 320, .inl (fun _ => 0))), (q3, .inl (cy 1, 16, .inl a16)), (q4, .inl (cy 1, 61, .inl a77)), (q5, .inl (cy 1, 24, .inl (fun _ => 0))), (q6, .inl (cy 1, 24, .inl (fun _ => 0))), (q7, .inl (cy 1, 16, .inl (fun _ => 0))), (q8, .inl (cy 2, 2, .inl a79)), (q9, .inl (cy 1, 4, .inl a83)), (q10, .inl (cy 1, 4, .inl (fun _ => 0)))] := hD
  refine lv_dup hx hb dX7_init_556 rfl ?_
  refine lv_iconst (v := 0) hx hb dX7_init_557 (by decide) ?_
  refine lv_iconst (v := 0) hx hb dX7_init_558 (by decide) ?_
  refine va_iast hx hb hK hP hD hS 10 1 rfl rfl (by unfold vp_in; decide) dX7_init_559 (fun H locs hP hD hS => ?_)
  rw [cl_0] at hP hD
  obtain ⟨a84, ea84⟩ : ∃ z : Nat → Int32, z = upd (fun _ => 0) 0 0 := ⟨_, rfl⟩
  replace hP : va_P G vwCl [(h0, .inr (7, [.ref q1, .int 0, .ref q2, .int 0, .int 0, .int 0, .int 0, .int 0, .int 0, .int 0, .int 0, .int 0, .ref q3, .ref q4, .ref q5, .int 0, .ref q6, .int 0, .int 0, .int 0, .int 0, .ref q7, .int 0, .ref q8, .ref q9, .null, .null, .int 0])), (q1, .inl (cy 1, 515, .inl (fun _ => 0))), (q2, .inl (cy 1, 320, .inl (fun _ => 0))), (q3, .inl (cy 1, 16, .inl a16)), (q4, .inl (cy 1, 61, .inl a77)), (q5, .inl (cy 1, 24, .inl (fun _ => 0))), (q6, .inl (cy 1, 24, .inl (fun _ => 0))), (q7, .inl (cy 1, 16, .inl (fun _ => 0))), (q8, .inl (cy 2, 2, .inl a79)), (q9, .inl (cy 1, 4, .inl a83)), (q10, .inl (cy 1, 4, .inl a84))] H := by rw [ea84]; exact hP
  replace hD : va_D A [(h0, .inr (7, [.ref q1, .int 0, .ref q2, .int 0, .int 0, .int 0, .int 0, .int 0, .int 0, .int 0, .int 0, .int 0, .ref q3, .ref q4, .ref q5, .int 0, .ref q6, .int 0, .int 0, .int 0, .int 0, .ref q7, .int 0, .ref q8, .ref q9, .null, .null, .int 0])), (q1, .inl (cy 1, 515, .inl (fun _ => 0))), (q2, .inl (cy 1, 320, .inl (fun _ => 0))), (q3, .inl (cy 1, 16, .inl a16)), (q4, .inl (cy 1, 61, .inl a77)), (q5, .inl (cy 1, 24, .inl (fun _ => 0))), (q6, .inl (cy 1, 24, .inl (fun _ => 0))), (q7, .inl (cy 1, 16, .inl (fun _ => 0))), (q8, .inl (cy 2, 2, .inl a79)), (q9, .inl (cy 1, 4, .inl a83)), (q10, .inl (cy 1, 4, .inl a84))] := by rw [ea84]; exact hD
  refine lv_dup hx hb dX7_init_560 rfl ?_
  refine lv_iconst (v := 1) hx hb dX7_init_561 (by decide) ?_
  refine lv_iconst (v := 0) hx hb dX7_init_562 (by decide) ?_
  refine va_iast hx hb hK hP hD hS 10 1 rfl rfl (by unfold vp_in; decide) dX7_init_563 (fun H locs hP hD hS => ?_)
  rw [cl_1] at hP hD
  obtain ⟨a85, ea85⟩ : ∃ z : Nat → Int32, z = upd a84 1 0 := ⟨_, rfl⟩
  replace hP : va_P G vwCl [(h0, .inr (7, [.ref q1, .int 0, .ref q2, .int 0, .int 0, .int 0, .int 0, .int 0, .int 0, .int 0, .int 0, .int 0, .ref q3, .ref q4, .ref q5, .int 0, .ref q6, .int 0, .int 0, .int 0, .int 0, .ref q7, .int 0, .ref q8, .ref q9, .null, .null, .int 0])), (q1, .inl (cy 1, 515, .inl (fun _ => 0))), (q2, .inl (cy 1, 320, .inl (fun _ => 0))), (q3, .inl (cy 1, 16, .inl a16)), (q4, .inl (cy 1, 61, .inl a77)), (q5, .inl (cy 1, 24, .inl (fun _ => 0))), (q6, .inl (cy 1, 24, .inl (fun _ => 0))), (q7, .inl (cy 1, 16, .inl (fun _ => 0))), (q8, .inl (cy 2, 2, .inl a79)), (q9, .inl (cy 1, 4, .inl a83)), (q10, .inl (cy 1, 4, .inl a85))] H := by rw [ea85]; exact hP
  replace hD : va_D A [(h0, .inr (7, [.ref q1, .int 0, .ref q2, .int 0, .int 0, .int 0, .int 0, .int 0, .int 0, .int 0, .int 0, .int 0, .ref q3, .ref q4, .ref q5, .int 0, .ref q6, .int 0, .int 0, .int 0, .int 0, .ref q7, .int 0, .ref q8, .ref q9, .null, .null, .int 0])), (q1, .inl (cy 1, 515, .inl (fun _ => 0))), (q2, .inl (cy 1, 320, .inl (fun _ => 0))), (q3, .inl (cy 1, 16, .inl a16)), (q4, .inl (cy 1, 61, .inl a77)), (q5, .inl (cy 1, 24, .inl (fun _ => 0))), (q6, .inl (cy 1, 24, .inl (fun _ => 0))), (q7, .inl (cy 1, 16, .inl (fun _ => 0))), (q8, .inl (cy 2, 2, .inl a79)), (q9, .inl (cy 1, 4, .inl a83)), (q10, .inl (cy 1, 4, .inl a85))] := by rw [ea85]; exact hD
  refine lv_dup hx hb dX7_init_564 rfl ?_
  refine lv_iconst (v := 2) hx hb dX7_init_565 (by decide) ?_
  refine lv_iconst (v := 0) hx hb dX7_init_566 (by decide) ?_
  refine va_iast hx hb hK hP hD hS 10 1 rfl rfl (by unfold vp_in; decide) dX7_init_567 (fun H locs hP hD hS => ?_)
  rw [cl_2] at hP hD
  obtain ⟨a86, ea86⟩ : ∃ z : Nat → Int32, z = upd a85 2 0 := ⟨_, rfl⟩
  replace hP : va_P G vwCl [(h0, .inr (7, [.ref q1, .int 0, .ref q2, .int 0, .int 0, .int 0, .int 0, .int 0, .int 0, .int 0, .int 0, .int 0, .ref q3, .ref q4, .ref q5, .int 0, .ref q6, .int 0, .int 0, .int 0, .int 0, .ref q7, .int 0, .ref q8, .ref q9, .null, .null, .int 0])), (q1, .inl (cy 1, 515, .inl (fun _ => 0))), (q2, .inl (cy 1, 320, .inl (fun _ => 0))), (q3, .inl (cy 1, 16, .inl a16)), (q4, .inl (cy 1, 61, .inl a77)), (q5, .inl (cy 1, 24, .inl (fun _ => 0))), (q6, .inl (cy 1, 24, .inl (fun _ => 0))), (q7, .inl (cy 1, 16, .inl (fun _ => 0))), (q8, .inl (cy 2, 2, .inl a79)), (q9, .inl (cy 1, 4, .inl a83)), (q10, .inl (cy 1, 4, .inl a86))] H := by rw [ea86]; exact hP
  replace hD : va_D A [(h0, .inr (7, [.ref q1, .int 0, .ref q2, .int 0, .int 0, .int 0, .int 0, .int 0, .int 0, .int 0, .int 0, .int 0, .ref q3, .ref q4, .ref q5, .int 0, .ref q6, .int 0, .int 0, .int 0, .int 0, .ref q7, .int 0, .ref q8, .ref q9, .null, .null, .int 0])), (q1, .inl (cy 1, 515, .inl (fun _ => 0))), (q2, .inl (cy 1, 320, .inl (fun _ => 0))), (q3, .inl (cy 1, 16, .inl a16)), (q4, .inl (cy 1, 61, .inl a77)), (q5, .inl (cy 1, 24, .inl (fun _ => 0))), (q6, .inl (cy 1, 24, .inl (fun _ => 0))), (q7, .inl (cy 1, 16, .inl (fun _ => 0))), (q8, .inl (cy 2, 2, .inl a79)), (q9, .inl (cy 1, 4, .inl a83)), (q10, .inl (cy 1, 4, .inl a86))] := by rw [ea86]; exact hD
  refine lv_dup hx hb dX7_init_568 rfl ?_
  refine lv_iconst (v := 3) hx hb dX7_init_569 (by decide) ?_
  refine lv_iconst (v := 0) hx hb dX7_init_570 (by decide) ?_
  refine va_iast hx hb hK hP hD hS 10 1 rfl rfl (by unfold vp_in; decide) dX7_init_571 (fun H locs hP hD hS => ?_)
  rw [cl_3] at hP hD
  obtain ⟨a87, ea87⟩ : ∃ z : Nat → Int32, z = upd a86 3 0 := ⟨_, rfl⟩
  replace hP : va_P G vwCl [(h0, .inr (7, [.ref q1, .int 0, .ref q2, .int 0, .int 0, .int 0, .int 0, .int 0, .int 0, .int 0, .int 0, .int 0, .ref q3, .ref q4, .ref q5, .int 0, .ref q6, .int 0, .int 0, .int 0, .int 0, .ref q7, .int 0, .ref q8, .ref q9, .null, .null, .int 0])), (q1, .inl (cy 1, 515, .inl (fun _ => 0))), (q2, .inl (cy 1, 320, .inl (fun _ => 0))), (q3, .inl (cy 1, 16, .inl a16)), (q4, .inl (cy 1, 61, .inl a77)), (q5, .inl (cy 1, 24, .inl (fun _ => 0))), (q6, .inl (cy 1, 24, .inl (fun _ => 0))), (q7, .inl (cy 1, 16, .inl (fun _ => 0))), (q8, .inl (cy 2, 2, .inl a79)), (q9, .inl (cy 1, 4, .inl a83)), (q10, .inl (cy 1, 4, .inl a87))] H := by rw [ea87]; exact hP
  replace hD : va_D A [(h0, .inr (7, [.ref q1, .int 0, .ref q2, .int 0, .int 0, .int 0, .int 0, .int 0, .int 0, .int 0, .int 0, .int 0, .ref q3, .ref q4, .ref q5, .int 0, .ref q6, .int 0, .int 0, .int 0, .int 0, .ref q7, .int 0, .ref q8, .ref q9, .null, .null, .int 0])), (q1, .inl (cy 1, 515, .inl (fun _ => 0))), (q2, .inl (cy 1, 320, .inl (fun _ => 0))), (q3, .inl (cy 1, 16, .inl a16)), (q4, .inl (cy 1, 61, .inl a77)), (q5, .inl (cy 1, 24, .inl (fun _ => 0))), (q6, .inl (cy 1, 24, .inl (fun _ => 0))), (q7, .inl (cy 1, 16, .inl (fun _ => 0))), (q8, .inl (cy 2, 2, .inl a79)), (q9, .inl (cy 1, 4, .inl a83)), (q10, .inl (cy 1, 4, .inl a87))] := by rw [ea87]; exact hD
  refine va_putF (D := G) (ci := 7) (v := .ref q10) (ty := (.array .int)) (C := RX7) (T := TX7) (N := 28) hx hb hts inkX7 tyX7 tyX7_ok nmX7 hown hK hP hD hS 0 rfl rfl 25 (by decide) (hts _ kw_807) (fun _ h9 => h9) rfl hin rfl (by decide +kernel) rfl rfl (Nat.le_of_ble_eq_true rfl) dX7_init_572 (fun H locs hP hD hS => ?_)
  replace hP : va_P G vwCl [(h0, .inr (7, [.ref q1, .int 0, .ref q2, .int 0, .int 0, .int 0, .int 0, .int 0, .int 0, .int 0, .int 0, .int 0, .ref q3, .ref q4, .ref q5, .int 0, .ref q6, .int 0, .int 0, .int 0, .int 0, .ref q7, .int 0, .ref q8, .ref q9, .ref q10, .null, .int 0])), (q1, .inl (cy 1, 515, .inl (fun _ => 0))), (q2, .inl (cy 1, 320, .inl (fun _ => 0))), (q3, .inl (cy 1, 16, .inl a16)), (q4, .inl (cy 1, 61, .inl a77)), (q5, .inl (cy 1, 24, .inl (fun _ => 0))), (q6, .inl (cy 1, 24, .inl (fun _ => 0))), (q7, .inl (cy 1, 16, .inl (fun _ => 0))), (q8, .inl (cy 2, 2, .inl a79)), (q9, .inl (cy 1, 4, .inl a83)), (q10, .inl (cy 1, 4, .inl a87))] H := hP
  replace hD : va_D A [(h0, .inr (7, [.ref q1, .int 0, .ref q2, .int 0, .int 0, .int 0, .int 0, .int 0, .int 0, .int 0, .int 0, .int 0, .ref q3, .ref q4, .ref q5, .int 0, .ref q6, .int 0, .int 0, .int 0, .int 0, .ref q7, .int 0, .ref q8, .ref q9, .ref q10, .null, .int 0])), (q1, .inl (cy 1, 515, .inl (fun _ => 0))), (q2, .inl (cy 1, 320, .inl (fun _ => 0))), (q3, .inl (cy 1, 16, .inl a16)), (q4, .inl (cy 1, 61, .inl a77)), (q5, .inl (cy 1, 24, .inl (fun _ => 0))), (q6, .inl (cy 1, 24, .inl (fun _ => 0))), (q7, .inl (cy 1, 16, .inl (fun _ => 0))), (q8, .inl (cy 2, 2, .inl a79)), (q9, .inl (cy 1, 4, .inl a83)), (q10, .inl (cy 1, 4, .inl a87))] := hD
  refine lv_aload_n hx hb dX7_init_575 rfl (lv_at hl 0 rfl) ?_
  refine lv_sipush (v := 160) hx hb dX7_init_576 (by decide) ?_
  refine s_newa (N' := 160) (atype := .int) (ty := .int) rfl hx hb (hts _ kw_155) hK 1 rfl (fun _ h => h) hP hD hS hA (fun _ => rfl) (by decide) (by decide) (Nat.le_of_ble_eq_true rfl) (Nat.le_of_ble_eq_true rfl) (Nat.le_of_ble_eq_true rfl) dX7_init_579 (fun q11 H hP hD hS => ?_)
  refine W.widen (k := 11) (n := 1146) (Nat.le_of_ble_eq_true rfl) (Nat.le_of_ble_eq_true rfl) ?_
  replace hP : va_P G vwCl [(h0, .inr (7, [.ref q1, .int 0, .ref q2, .int 0, .int 0, .int 0, .int 0, .int 0, .int 0, .int 0, .int 0, .int 0, .ref q3, .ref q4, .ref q5, .int 0, .ref q6, .int 0, .int 0, .int 0, .int 0, .ref q7, .int 0, .ref q8, .ref q9, .ref q10, .null, .int 0])), (q1, .inl (cy 1, 515, .inl (fun _ => 0))), (q2, .inl (cy 1, 320, .inl (fun _ => 0))), (q3, .inl (cy 1, 16, .inl a16)), (q4, .inl (cy 1, 61, .inl a77)), (q5, .inl (cy 1, 24, .inl (fun _ => 0))), (q6, .inl (cy 1, 24, .inl (fun _ => 0))), (q7, .inl (cy 1, 16, .inl (fun _ => 0))), (q8, .inl (cy 2, 2, .inl a79)), (q9, .inl (cy 1, 4, .inl a83)), (q10, .inl (cy 1, 4, .inl a87)), (q11, .inl (cy 1, 160, .inl (fun _ => 0)))] H := hP
  replace hD : va_D A [(h0, .inr (7, [.ref q1, .int 0, .ref q2, .int 0, .int 0, .int 0, .int 0, .int 0, .int 0, .int 0, .int 0, .int 0, .ref q3, .ref q4, .ref q5, .int 0, .ref q6, .int 0, .int 0, .int 0, .int 0, .ref q7, .int 0, .ref q8, .ref q9, .ref q10, .null, .int 0])), (q1, .inl (cy 1, 515, .inl (fun _ => 0))), (q2, .inl (cy 1, 320, .inl (fun _ => 0))), (q3, .inl (cy 1, 16, .inl a16)), (q4, .inl (cy 1, 61, .inl a77)), (q5, .inl (cy 1, 24, .inl (fun _ => 0))), (q6, .inl (cy 1, 24, .inl (fun _ => 0))), (q7, .inl (cy 1, 16, .inl (fun _ => 0))), (q8, .inl (cy 2, 2, .inl a79)), (q9, .inl (cy 1, 4, .inl a83)), (q10, .inl (cy 1, 4, .inl a87)), (q11, .inl (cy 1, 160, .inl (fun _ => 0)))] := hD
  refine va_putF (D := G) (ci := 7) (v := .ref q11) (ty := (.array .int)) (C := RX7) (T := TX7) (N := 28) hx hb hts inkX7 tyX7 tyX7_ok nmX7 hown hK hP hD hS 0 rfl rfl 26 (by decide) (hts _ kw_808) (fun _ h9 => h9) rfl hin rfl (by decide +kernel) rfl rfl (Nat.le_of_ble_eq_true rfl) dX7_init_581 (fun H locs hP hD hS => ?_)
  replace hP : va_P G vwCl [(h0, .inr (7, [.ref q1, .int 0, .ref q2, .int 0, .int 0, .int 0, .int 0, .int 0, .int 0, .int 0, .int 0, .int 0, .ref q3, .ref q4, .ref q5, .int 0, .ref q6, .int 0, .int 0, .int 0, .int 0, .ref q7, .int 0, .ref q8, .ref q9, .ref q10, .ref q11, .int 0])), (q1, .inl (cy 1, 515, .inl (fun _ => 0))), (q2, .inl (cy 1, 320, .inl (fun _ => 0))), (q3, .inl (cy 1, 16, .inl a16)), (q4, .inl (cy 1, 61, .inl a77)), (q5, .inl (cy 1, 24, .inl (fun _ => 0))), (q6, .inl (cy 1, 24, .inl (fun _ => 0))), (q7, .inl (cy 1, 16, .inl (fun _ => 0))), (q8, .inl (cy 2, 2, .inl a79)), (q9, .inl (cy 1, 4, .inl a83)), (q10, .inl (cy 1, 4, .inl a87)), (q11, .inl (cy 1, 160, .inl (fun _ => 0)))] H := hP
  replace hD : va_D A [(h0, .inr (7, [.ref q1, .int 0, .ref q2, .int 0, .int 0, .int 0, .int 0, .int 0, .int 0, .int 0, .int 0, .int 0, .ref q3, .ref q4, .ref q5, .int 0, .ref q6, .int 0, .int 0, .int 0, .int 0, .ref q7, .int 0, .ref q8, .ref q9, .ref q10, .ref q11, .int 0])), (q1, .inl (cy 1, 515, .inl (fun _ => 0))), (q2, .inl (cy 1, 320, .inl (fun _ => 0))), (q3, .inl (cy 1, 16, .inl a16)), (q4, .inl (cy 1, 61, .inl a77)), (q5, .inl (cy 1, 24, .inl (fun _ => 0))), (q6, .inl (cy 1, 24, .inl (fun _ => 0))), (q7, .inl (cy 1, 16, .inl (fun _ => 0))), (q8, .inl (cy 2, 2, .inl a79)), (q9, .inl (cy 1, 4, .inl a83)), (q10, .inl (cy 1, 4, .inl a87)), (q11, .inl (cy 1, 160, .inl (fun _ => 0)))] := hD
  subst ea87 ea86 ea85 ea84 ea83 ea82 ea81 ea80 ea79 ea78 ea77 ea76 ea75 ea74 ea73 ea72 ea71 ea70 ea69 ea68 ea67 ea66 ea65 ea64 ea63 ea62 ea61 ea60 ea59 ea58 ea57 ea56 ea55 ea54 ea53 ea52 ea51 ea50 ea49 ea48 ea47 ea46 ea45 ea44 ea43 ea42 ea41 ea40 ea39 ea38 ea37 ea36 ea35 ea34 ea33 ea32 ea31 ea30 ea29 ea28 ea27 ea26 ea25 ea24 ea23 ea22 ea21 ea20 ea19 ea18 ea17 ea16 ea15 ea14 ea13 ea12 ea11 ea10 ea9 ea8 ea7 ea6 ea5 ea4 ea3 ea2 ea1
  exact W.vret hx hb hr (fun t ht hW => ⟨⟨(fun k => [h0, q1, q2, q3, q4, q5, q6, q7, q8, q9, q10, q11].getD k 0), rfl, rfl, by rw [ht]; exact hP, hD⟩, hS.F ht⟩) hS.2.2 dX7_init_584 hlk
