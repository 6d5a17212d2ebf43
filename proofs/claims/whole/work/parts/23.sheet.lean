def fX6_sheet_x_b20 (σ : Sg) : Option (Int32 × Sg) := (some ((-1 : Int32), σ))
def fX6_sheet_x (σ : Sg) (x1 : Int32) (x2 : Int32) (x3 : Int32) : Option (Int32 × Sg) := (s_bi (fX6_isSheet σ x1) (fun r3 σ1 => (if r3 = 0 then (fX6_sheet_x_b20 σ1) else (s_bi (fX6_isLane σ1 x2) (fun r7 σ5 => (if r7 = 0 then (fX6_sheet_x_b20 σ5) else (if x3 ≤ (40 : Int32) then (if 0 ≤ x3 then none else (some ((-14 : Int32), σ5))) else (fX6_sheet_x_b20 σ5))))))))
section
variable {p : Program} {l : Launch} {e : Env} {s : State} {m : MethodId} {below : List Frame} {meth : Method} {c : Code} {G : va_G} {cy : Nat → ClassId} {sa : Nat × Nat} {ad : Nat → Nat} {args : Array Value} {re : Int32} {σe : Sg} {sh : Nat → Option Nat}
set_option maxRecDepth 100000 in
set_option maxHeartbeats 4000000 in
theorem kX6_sheet_x_b20 (C : s_X p s m meth c args cX6_sheet (some .int) 4 RX6 G cy sa ad 19) (σ : Sg) (ls : Array Slot) (H : Heap) (locs : List Loc) (hl : lv_has ls 4 []) (hP : va_P G vwCl ((s_WC cy ad sh) σ) H) (hS : va_S (s_A ad 19 s.heap.size) s.heap H locs) (hf : fX6_sheet_x_b20 σ = some (re, σe)) : W p l e ({ frames := 1, cells := 0, slots := 0, locals := 20 } : Room) s m args below meth c H locs 0 0 (MQ below (s_Qi (s_WC cy ad sh) G (s_A ad 19 s.heap.size) re σe) args s 0 0 (s_A ad 19 s.heap.size)) (F0 m 20 ls []) := by
  obtain ⟨hx, hb, hr, hml, hown, hts, hlk, hK, hE, hI⟩ := id C
  have hD : ∀ σ : Sg, va_D (s_A ad 19 s.heap.size) ((s_WC cy ad sh) σ) := fun σ => s_D (s_WC_ad cy ad sh σ) hI (fun k hk => Or.inl ⟨k, hk, rfl⟩)
  unfold fX6_sheet_x_b20 at hf
  refine lv_iconst (v := -1) hx hb dX6_sheet_20 (by decide) ?_
  obtain ⟨he1, he2⟩ := s_ret hf
  exact W.iret hx hb hr (fun t ht hW => ⟨⟨_, (), rfl, he1, s_fin (Wd := (s_WC cy ad sh)) ht he2 hP⟩, hS.F ht⟩) hS.2.2 dX6_sheet_21 hlk
set_option maxRecDepth 100000 in
set_option maxHeartbeats 4000000 in
theorem kX6_sheet_x (C : s_X p s m meth c args cX6_sheet (some .int) 4 RX6 G cy sa ad 19) (σ : Sg) (x1 : Int32) (x2 : Int32) (x3 : Int32) (ls : Array Slot) (H : Heap) (locs : List Loc) (hl : lv_has ls 4 [(0, .ref (ad 0)), (1, .int x1), (2, .int x2), (3, .int x3)]) (hP : va_P G vwCl ((s_WC cy ad sh) σ) H) (hS : va_S (s_A ad 19 s.heap.size) s.heap H locs) (hf : fX6_sheet_x σ x1 x2 x3 = some (re, σe)) : W p l e ({ frames := 1, cells := 0, slots := 0, locals := 20 } : Room) s m args below meth c H locs 0 0 (MQ below (s_Qi (s_WC cy ad sh) G (s_A ad 19 s.heap.size) re σe) args s 0 0 (s_A ad 19 s.heap.size)) (F0 m 0 ls []) := by
  obtain ⟨hx, hb, hr, hml, hown, hts, hlk, hK, hE, hI⟩ := id C
  have hD : ∀ σ : Sg, va_D (s_A ad 19 s.heap.size) ((s_WC cy ad sh) σ) := fun σ => s_D (s_WC_ad cy ad sh σ) hI (fun k hk => Or.inl ⟨k, hk, rfl⟩)
  unfold fX6_sheet_x at hf
  refine lv_iload_n hx hb dX6_sheet_0 rfl (lv_at hl 1 rfl) ?_
  replace hf := s_bi_some hf
  obtain ⟨r3, σ1, hz2, hf⟩ := hf
  refine s_calliS (nn := 1) C (kcX6_isSheet (l := l) (G := G) (cy := cy) (sa := sa) (sh := sh) hI (sz := H.size) σ x1 hz2) gk_X6_222 rfl rfl (by decide +kernel) ⟨Nat.le_of_ble_eq_true rfl, Nat.le_of_ble_eq_true rfl⟩ hP hS (As := [.int x1]) (rest := []) rfl rfl hl.1 (Nat.le_of_ble_eq_true rfl) dX6_sheet_1 (fun H locs hP hS => ?_)
  refine lv_if_eq (tgt := 20) hx hb dX6_sheet_4 (by decide) (fun c4 => ?_) (fun c4 => ?_)
  · rw [if_pos c4] at hf
    exact kX6_sheet_x_b20 C σ1 _ _ _ (lv_sub hl [] rfl) hP hS hf
  · rw [if_neg c4] at hf
    refine lv_iload_n hx hb dX6_sheet_7 rfl (lv_at hl 2 rfl) ?_
    replace hf := s_bi_some hf
    obtain ⟨r7, σ5, hz6, hf⟩ := hf
    refine s_calliS (nn := 1) C (kcX6_isLane (l := l) (G := G) (cy := cy) (sa := sa) (sh := sh) hI (sz := H.size) σ1 x2 hz6) gk_X6_225 rfl rfl (by decide +kernel) ⟨Nat.le_of_ble_eq_true rfl, Nat.le_of_ble_eq_true rfl⟩ hP hS (As := [.int x2]) (rest := []) rfl rfl hl.1 (Nat.le_of_ble_eq_true rfl) dX6_sheet_8 (fun H locs hP hS => ?_)
    refine lv_if_eq (tgt := 20) hx hb dX6_sheet_11 (by decide) (fun c8 => ?_) (fun c8 => ?_)
    · rw [if_pos c8] at hf
      exact kX6_sheet_x_b20 C σ5 _ _ _ (lv_sub hl [] rfl) hP hS hf
    · rw [if_neg c8] at hf
      refine lv_iload_n hx hb dX6_sheet_14 rfl (lv_at hl 3 rfl) ?_
      refine lv_bipush (v := 40) hx hb dX6_sheet_15 (by decide) ?_
      refine lv_icmp_le (tgt := 22) hx hb dX6_sheet_17 (by decide) (fun c9 => ?_) (fun c9 => ?_)
      · rw [if_pos c9] at hf
        refine lv_iload_n hx hb dX6_sheet_22 rfl (lv_at hl 3 rfl) ?_
        refine lv_if_ge (tgt := 29) hx hb dX6_sheet_23 (by decide) (fun c10 => ?_) (fun c10 => ?_)
        · rw [if_pos c10] at hf
          refine lv_aload_n hx hb dX6_sheet_29 rfl (lv_at hl 0 rfl) ?_
          refine va_get (D := G) (ci := 6) (v := .ref (ad 18)) (C := RX6) (T := TX6) (N := 9) hx hb hts inkX6 hown hK hP 0 rfl rfl 7 (by decide) (hts _ kw_237) (fun _ h9 => h9) rfl dX6_sheet_30 ?_
          refine lv_iload_n hx hb dX6_sheet_33 rfl (lv_at hl 1 rfl) ?_
          cases hf
        · rw [if_neg c10] at hf
          refine lv_bipush (v := -14) hx hb dX6_sheet_26 (by decide) ?_
          obtain ⟨he1, he2⟩ := s_ret hf
          exact W.iret hx hb hr (fun t ht hW => ⟨⟨_, (), rfl, he1, s_fin (Wd := (s_WC cy ad sh)) ht he2 hP⟩, hS.F ht⟩) hS.2.2 dX6_sheet_28 hlk
      · rw [if_neg c9] at hf
        exact kX6_sheet_x_b20 C σ5 _ _ _ (lv_sub hl [] rfl) hP hS hf
theorem kcX6_sheet_x {l : Launch} {G : va_G} {cy : Nat → ClassId} {sa : Nat × Nat} {ad : Nat → Nat} {sh : Nat → Option Nat} {sz : Nat} (hI : s_inj ad 19) (σ : Sg) (x1 : Int32) (x2 : Int32) (x3 : Int32) {re : Int32} {σe : Sg} (hf : fX6_sheet_x σ x1 x2 x3 = some (re, σe)) : Met l yX6_sheet (kW yX6_sheet cX6_sheet 4 (some .int)) ({ frames := 1, cells := 0, slots := 0, locals := 20 } : Room) (s_P (s_WC cy ad sh) G cy sa ad 19 [.ref (ad 0), .int x1, .int x2, .int x3] sz σ) (s_Qi (s_WC cy ad sh) G (s_A ad 19 sz) re σe) 0 0 (s_A ad 19 sz) := by
  refine s_met (own := RX6) (by decide) rfl hI (Nat.le_of_ble_eq_true rfl) (fun p e s m below meth c ls hsz C hP hl => ?_)
  subst hsz
  exact kX6_sheet_x C σ x1 x2 x3 ls _ _ hl hP va_S.rf hf
end
theorem s_met2 {l : Launch} {y : MethodName} {cc : ByteArray} {maxL : Nat} {rt : Option FieldType} {own : String} {rm : Room} {Wd : Sg → va_W} {G : va_G} {cy : Nat → ClassId} {sa : Nat × Nat} {ad : Nat → Nat} {n mc ms : Nat} {av : List Value} {sz : Nat} {σ : Sg} {Qc : Array Value → State → Outcome → State → Prop} (hy : plainName y.cls = true) (ho : y.cls = own) (hI : s_inj ad n) (hlen : (lg_sl av).length ≤ maxL)
    (body : ∀ (p : Program) (e : Env) (s : State) (m : MethodId) (below : List Frame) (meth : Method) (c : Code) (ls : Array Slot), s.heap.size = sz → s_X p s m meth c av.toArray cc rt maxL own G cy sa ad n → va_P G vwCl (Wd σ) s.heap → lv_has ls maxL (lv_args 0 av) → W p l e rm s m av.toArray below meth c s.heap [] 0 0 (MQ below Qc av.toArray s mc ms (s_A ad n sz)) (F0 m 0 ls [])) :
    Met l y (kW y cc maxL rt) rm (s_P Wd G cy sa ad n av sz σ) Qc mc ms (s_A ad n sz) := by
  refine Met.ofW (cc := cc) (maxL := maxL) (ret := rt) hy rfl ?_
  intro p e s m args below meth c s₁ B hml hv
  obtain ⟨rfl, hsz, hP, hK, hE⟩ := hv
  have hts := atoms_spec (ws := kW y cc maxL rt) B.pre
  have hown : s.vm.findClass y.cls = some m.cls := findClass_of_methodNamed B.named
  have hl := lv_entry av (n := maxL) hlen
  rw [lg_entry_eq]
  generalize (lg_sl av ++ List.replicate (maxL - (lg_sl av).length) Slot.unset).toArray = ls at hl ⊢
  subst hsz
  exact body p e s m below meth c ls rfl ⟨B.exec, B.bytes, B.returns, hml, by rw [← ho]; exact hown, fun w h => hts w (List.mem_cons_of_mem _ h), B.notSynchronized, hK, hE, hI⟩ hP hl
theorem s_max0 {x : Int32} (h : 0 ≤ x) : (if (0 : Int32) < x then x else 0) = x := by
  by_cases hx : 0 < x
  · rw [if_pos hx]
  · rw [if_neg hx]
    exact (Int32.le_antisymm (Int32.not_lt.mp hx) h).symm
set_option maxRecDepth 100000 in
set_option maxHeartbeats 4000000 in
theorem kcK_Sheet {l : Launch} {G : va_G} {cy : Nat → ClassId} (sz h0 : Nat) (x1 x2 : Int32) (hx0 : 0 ≤ x2) (hx40 : (Int32.toNatClampNeg x2) ≤ 40) : Met l yX2_init (kW yX2_init cX2_init 3 none) ({ frames := 1, cells := 1, slots := 40, locals := 21 } : Room) (s_Pk G cy (fun _ => True) [.ref h0, .int x1, .int x2] sz [(h0, .inr (2, [.int 0, .null]))]) (va_Qv (fun (_ : Nat) => True) (fun u t => va_P G vwCl [(h0, .inr (2, [.int x1, .ref u])), (u, .inl (cy 1, Int32.toNatClampNeg x2, .inl (fun _ => 0)))] t.heap ∧ va_D (va_A [(h0, .inr (2, [.int 0, .null]))] sz) [(h0, .inr (2, [.int x1, .ref u])), (u, .inl (cy 1, Int32.toNatClampNeg x2, .inl (fun _ => 0)))]) (va_A [(h0, .inr (2, [.int 0, .null]))] sz)) 1 40 (va_A [(h0, .inr (2, [.int 0, .null]))] sz) := by
  refine Met.ofW (cc := cX2_init) (maxL := 3) (ret := none) (by decide) rfl ?_
  intro p e s m args below meth c s₁ B hml hv
  obtain ⟨rfl, hsz, hP, hK, hD0, -⟩ := hv
  have hx := B.exec
  have hb := B.bytes
  have hr := B.returns
  have hts0 := atoms_spec (ws := kW yX2_init cX2_init 3 none) B.pre
  have hts : ∀ w ∈ kwL, w.before [Value.ref h0, Value.int x1, Value.int x2].toArray s = true := fun w h => hts0 w (List.mem_cons_of_mem _ h)
  have hown : s.vm.findClass RX2 = some m.cls := findClass_of_methodNamed B.named
  have hlk := B.notSynchronized
  have hin : meth.name = "<init>" := (name_of_methodNamed B.named B.method).1
  subst hsz
  have hD := hD0.self (sz := s.heap.size)
  generalize hAe : va_A [(h0, .inr (2, [.int 0, .null]))] s.heap.size = A at hD ⊢
  have hA : ∀ q : Nat, s.heap.size ≤ q → A q := fun q h => by rw [← hAe]; exact Or.inr h
  have hS : va_S A s.heap s.heap [] := va_S.rf
  replace hP : va_P G vwCl [(h0, .inr (2, [.int 0, .null]))] s.heap := hP
  have hl := lv_entry ([.ref h0, .int x1, .int x2]) (n := 3) (Nat.le_of_ble_eq_true rfl)
  rw [lg_entry_eq]
  generalize (lg_sl ([.ref h0, .int x1, .int x2]) ++ List.replicate (3 - (lg_sl ([.ref h0, .int x1, .int x2])).length) Slot.unset).toArray = ls at hl ⊢
  replace hl : lv_has ls 3 [(0, .ref h0), (1, .int x1), (2, .int x2)] := hl
  refine lv_aload_n hx hb dX2_init_0 rfl (lv_at hl 0 rfl) ?_
  refine W.objInit hx hb hown (hts _ kw_709) (hts _ kw_75) (hts _ kw_76) rfl (by rw [hml]; exact hl.1) rfl dX2_init_1 (Nat.le_of_ble_eq_true rfl) (Nat.le_of_ble_eq_true rfl) ?_
  refine W.eq (g2 := F0 m 4 ls []) rfl ?_
  refine lv_aload_n hx hb dX2_init_4 rfl (lv_at hl 0 rfl) ?_
  refine lv_iload_n hx hb dX2_init_5 rfl (lv_at hl 1 rfl) ?_
  refine va_putF (D := G) (ci := 2) (v := .int x1) (ty := .int) (C := RX2) (T := TX2) (N := 2) hx hb hts inkX2 tyX2 tyX2_ok nmX2 hown hK hP hD hS 0 rfl rfl 0 (by decide) (hts _ kw_711) (fun _ h9 => h9) rfl hin rfl (by decide +kernel) rfl rfl (Nat.le_of_ble_eq_true rfl) dX2_init_6 (fun H locs hP hD hS => ?_)
  replace hP : va_P G vwCl [(h0, .inr (2, [.int x1, .null]))] H := hP
  replace hD : va_D A [(h0, .inr (2, [.int x1, .null]))] := hD
  refine lv_aload_n hx hb dX2_init_9 rfl (lv_at hl 0 rfl) ?_
  refine lv_iconst (v := 0) hx hb dX2_init_10 (by decide) ?_
  refine lv_iload_n hx hb dX2_init_11 rfl (lv_at hl 2 rfl) ?_
  refine va_mmax hx hb (hml.trans hl.1.symm) hown (hts _ kw_710) (hts _ kw_377) (hts _ kw_66) (hts _ kw_378) (Nat.le_of_ble_eq_true rfl) (Nat.le_of_ble_eq_true rfl) (Nat.zero_le _) (Nat.zero_le _) dX2_init_12 ?_
  rw [s_max0 hx0]
  refine s_newa (N' := Int32.toNatClampNeg x2) (atype := .int) (ty := .int) rfl hx hb (hts _ kw_153) hK 1 rfl (fun _ h => h) hP hD hS hA (fun _ => rfl) (Int32.not_lt.mpr hx0) rfl (by show Int32.toNatClampNeg x2 * 4 ≤ 536870912; omega) (Nat.le_of_ble_eq_true rfl) (by show 0 + Int32.toNatClampNeg x2 ≤ 40; omega) dX2_init_15 (fun q1 H hP hD hS => ?_)
  refine W.widen (k := 1) (n := 40) (Nat.le_of_ble_eq_true rfl) (by omega) ?_
  replace hP : va_P G vwCl [(h0, .inr (2, [.int x1, .null])), (q1, .inl (cy 1, Int32.toNatClampNeg x2, .inl (fun _ => 0)))] H := hP
  replace hD : va_D A [(h0, .inr (2, [.int x1, .null])), (q1, .inl (cy 1, Int32.toNatClampNeg x2, .inl (fun _ => 0)))] := hD
  refine va_putF (D := G) (ci := 2) (v := .ref q1) (ty := (.array .int)) (C := RX2) (T := TX2) (N := 2) hx hb hts inkX2 tyX2 tyX2_ok nmX2 hown hK hP hD hS 0 rfl rfl 1 (by decide) (hts _ kw_713) (fun _ h9 => h9) rfl hin rfl (by decide +kernel) rfl rfl (Nat.le_of_ble_eq_true rfl) dX2_init_17 (fun H locs hP hD hS => ?_)
  exact W.vret hx hb hr (fun t ht hW => ⟨⟨q1, rfl, trivial, by rw [ht]; exact hP, hD⟩, hS.F ht⟩) hS.2.2 dX2_init_20 hlk
set_option maxRecDepth 100000 in
set_option maxHeartbeats 4000000 in
theorem kcK_sheet {l : Launch} {G : va_G} {cy : Nat → ClassId} {sa : Nat × Nat} {ad : Nat → Nat} {sh : Nat → Option Nat} {sz : Nat} (hI : s_inj ad 19) (σ : Sg) (x1 x2 x3 : Int32) (hz1 : fX6_isSheet σ x1 = some (1, σ)) (hz2 : fX6_isLane σ x2 = some (1, σ)) (hk : vp_in x1 4) (hn0 : 0 ≤ x3) (hn : x3 ≤ 40) (hn40 : (Int32.toNatClampNeg x3) ≤ 40) : Met l yX6_sheet (kW yX6_sheet cX6_sheet 4 (some .int)) ({ frames := 2, cells := 2, slots := 42, locals := 43 } : Room) (s_P (s_WC cy ad sh) G cy sa ad 19 [.ref (ad 0), .int x1, .int x2, .int x3] sz σ) (va_Qi (fun r (_ : Nat × Nat) => r = 1) (fun u t => va_P G vwCl (s_WC cy ad (va_up sh (Int32.toNatClampNeg x1) (some u.1)) σ ++ [(u.1, .inr (2, [.int x2, .ref u.2])), (u.2, .inl (cy 1, Int32.toNatClampNeg x3, .inl (fun _ => 0)))]) t.heap ∧ va_D (s_A ad 19 sz) (s_WC cy ad (va_up sh (Int32.toNatClampNeg x1) (some u.1)) σ ++ [(u.1, .inr (2, [.int x2, .ref u.2])), (u.2, .inl (cy 1, Int32.toNatClampNeg x3, .inl (fun _ => 0)))])) (s_A ad 19 sz)) 2 42 (s_A ad 19 sz) := by
  refine s_met2 (own := RX6) (by decide) rfl hI (Nat.le_of_ble_eq_true rfl) (fun p e s m below meth c ls hsz C hP hl => ?_)
  subst hsz
  obtain ⟨hx, hb, hr, hml, hown, hts, hlk, hK, hE, hI⟩ := id C
  replace hl : lv_has ls 4 [(0, .ref (ad 0)), (1, .int x1), (2, .int x2), (3, .int x3)] := hl
  have hS : va_S (s_A ad 19 s.heap.size) s.heap s.heap [] := va_S.rf
  have hA : ∀ q : Nat, s.heap.size ≤ q → s_A ad 19 s.heap.size q := fun q h => Or.inr h
  have hD : va_D (s_A ad 19 s.heap.size) (s_WC cy ad sh σ) := s_D (s_WC_ad cy ad sh σ) hI (fun k hk => Or.inl ⟨k, hk, rfl⟩)
  obtain ⟨H, hHe⟩ : ∃ z : Heap, z = s.heap := ⟨_, rfl⟩
  suffices K : ∀ (H : Heap) (locs : List Loc), va_P G vwCl (s_WC cy ad sh σ) H → va_S (s_A ad 19 s.heap.size) s.heap H locs → W p l e ({ frames := 2, cells := 2, slots := 42, locals := 43 } : Room) s m [Value.ref (ad 0), Value.int x1, Value.int x2, Value.int x3].toArray below meth c H locs 0 0 (MQ below (va_Qi (fun r (_ : Nat × Nat) => r = 1) (fun u t => va_P G vwCl (s_WC cy ad (va_up sh (Int32.toNatClampNeg x1) (some u.1)) σ ++ [(u.1, .inr (2, [.int x2, .ref u.2])), (u.2, .inl (cy 1, Int32.toNatClampNeg x3, .inl (fun _ => 0)))]) t.heap ∧ va_D (s_A ad 19 s.heap.size) (s_WC cy ad (va_up sh (Int32.toNatClampNeg x1) (some u.1)) σ ++ [(u.1, .inr (2, [.int x2, .ref u.2])), (u.2, .inl (cy 1, Int32.toNatClampNeg x3, .inl (fun _ => 0)))])) (s_A ad 19 s.heap.size)) [Value.ref (ad 0), Value.int x1, Value.int x2, Value.int x3].toArray s 2 42 (s_A ad 19 s.heap.size)) (F0 m 0 ls []) from K s.heap [] hP hS
  clear hHe H hS hP
  intro H locs hP hS
  refine lv_iload_n hx hb dX6_sheet_0 rfl (lv_at hl 1 rfl) ?_
  refine s_calliS (nn := 1) C (kcX6_isSheet (l := l) (G := G) (cy := cy) (sa := sa) (sh := sh) hI (sz := H.size) σ x1 hz1) gk_X6_222 rfl rfl (by decide +kernel) ⟨Nat.le_of_ble_eq_true rfl, Nat.le_of_ble_eq_true rfl⟩ hP hS (As := [.int x1]) (rest := []) rfl rfl hl.1 (Nat.le_of_ble_eq_true rfl) dX6_sheet_1 (fun H locs hP hS => ?_)
  refine lv_if_eq (tgt := 20) hx hb dX6_sheet_4 (by decide) (fun c1 => absurd c1 (by decide)) (fun _ => ?_)
  refine lv_iload_n hx hb dX6_sheet_7 rfl (lv_at hl 2 rfl) ?_
  refine s_calliS (nn := 1) C (kcX6_isLane (l := l) (G := G) (cy := cy) (sa := sa) (sh := sh) hI (sz := H.size) σ x2 hz2) gk_X6_225 rfl rfl (by decide +kernel) ⟨Nat.le_of_ble_eq_true rfl, Nat.le_of_ble_eq_true rfl⟩ hP hS (As := [.int x2]) (rest := []) rfl rfl hl.1 (Nat.le_of_ble_eq_true rfl) dX6_sheet_8 (fun H locs hP hS => ?_)
  refine lv_if_eq (tgt := 20) hx hb dX6_sheet_11 (by decide) (fun c1 => absurd c1 (by decide)) (fun _ => ?_)
  refine lv_iload_n hx hb dX6_sheet_14 rfl (lv_at hl 3 rfl) ?_
  refine lv_bipush (v := 40) hx hb dX6_sheet_15 (by decide) ?_
  refine lv_icmp_le (tgt := 22) hx hb dX6_sheet_17 (by decide) (fun _ => ?_) (fun c1 => absurd hn c1)
  refine lv_iload_n hx hb dX6_sheet_22 rfl (lv_at hl 3 rfl) ?_
  refine lv_if_ge (tgt := 29) hx hb dX6_sheet_23 (by decide) (fun _ => ?_) (fun c1 => absurd hn0 c1)
  refine lv_aload_n hx hb dX6_sheet_29 rfl (lv_at hl 0 rfl) ?_
  refine va_get (D := G) (ci := 6) (v := .ref (ad 18)) (C := RX6) (T := TX6) (N := 9) hx hb hts inkX6 hown hK hP 0 rfl rfl 7 (by decide) (hts _ kw_237) (fun _ h9 => h9) rfl dX6_sheet_30 ?_
  refine lv_iload_n hx hb dX6_sheet_33 rfl (lv_at hl 1 rfl) ?_
  refine va_new (ci := 2) (fs := [.int 0, .null]) (C := RX2) (T := TX2) (N := 2) hx hb hts inkX2 tyX2 tyX2_ok hown (hts _ kw_228) (hts _ kw_705) (hts _ kw_68) hK hP hD hS hA rfl (by intro j hj; match j, hj with | 0, _ => rfl | 1, _ => rfl) (Nat.le_of_ble_eq_true rfl) (Nat.le_of_ble_eq_true rfl) dX6_sheet_34 (fun q1 H hP hD hS => ?_)
  refine W.widen (k := 1) (n := 2) (Nat.le_of_ble_eq_true rfl) (Nat.le_of_ble_eq_true rfl) ?_
  refine lv_dup hx hb dX6_sheet_37 rfl ?_
  refine lv_iload_n hx hb dX6_sheet_38 rfl (lv_at hl 2 rfl) ?_
  refine lv_iload_n hx hb dX6_sheet_39 rfl (lv_at hl 3 rfl) ?_
  have hPc := hP.sub (ws' := [(q1, .inr (2, [.int 0, .null]))]) [19] rfl
  have hDc := hD.sub (ws' := [(q1, .inr (2, [.int 0, .null]))]) [19] (by decide) rfl
  have hFc := va_free (wc := [(q1, .inr (2, [.int 0, .null]))]) hD hS hA [19] rfl
  refine va_callv (va_runI (As := [.int x2, .int x3]) (rest := [.ref q1, .int x1, .ref (ad 18)]) ⟨hx, hb, hml, hown, hts⟩ (kcK_Sheet H.size q1 x2 x3 hn0 hn40) (cwI 2 hts (kG_i kw_708) rfl rfl rfl (hts _ kw_68) (hts _ kw_706) (hts _ kw_707) rfl (by decide +kernel) ⟨Nat.le_of_ble_eq_true rfl, Nat.le_of_ble_eq_true rfl⟩) ⟨s_Pk_blind, fun U hU hW => ⟨rfl, by rw [hU], by rw [hU]; exact hPc, va_K.moved hW.alike hK, hDc.weaken (fun _ _ _ _ => trivial), trivial⟩⟩ rfl rfl hl.1 rfl (lv_room (Nat.le_of_ble_eq_true rfl)) dX6_sheet_40 ⟨Nat.le_of_ble_eq_true rfl, Nat.le_of_ble_eq_true rfl⟩) hS (fun q _ h => hFc q h) hFc (fun u t H locs ht hvm hw hB hz1 hk1 hS => ?_)
  obtain ⟨hP1, hD1⟩ := hB
  rw [ht] at hP1
  obtain ⟨hP, hD⟩ := va_join (wr := s_WC cy ad sh σ) (w1 := [(q1, .inr (2, [.int x2, .ref u])), (u, .inl (cy 1, Int32.toNatClampNeg x3, .inl (fun _ => 0)))]) hP hD [19] [0, 1, 2, 3, 4, 5, 6, 7, 8, 9, 10, 11, 12, 13, 14, 15, 16, 17, 18] rfl rfl (by decide) (by decide) hk1 hFc hP1 hD1
  refine W.widen (k := 2) (n := 42) (Nat.le_of_ble_eq_true rfl) (Nat.le_of_ble_eq_true rfl) ?_
  refine va_astq hx hb hK hP hD hS 18 4 19 2 rfl rfl rfl rfl hk dX6_sheet_43 (fun H locs hP hD hS => ?_)
  refine lv_iconst (v := 1) hx hb dX6_sheet_44 (by decide) ?_
  exact W.iret hx hb hr (fun t ht hW => ⟨⟨_, (q1, u), rfl, rfl, by rw [ht]; exact hP, hD⟩, hS.F ht⟩) hS.2.2 dX6_sheet_45 hlk
