theorem s_Pk_blind6 {G : va_G} {cy : Nat → ClassId} {av : List Value} {sz : Nat} {w : va_W} : FrameBlind (s_Pk G cy s_N6 av sz w) := by
  intro a U g mk q
  obtain ⟨q0, q1, qP, qK, qD, h1, h2, h3, h6, h4, h5⟩ := q
  exact ⟨q0, q1, qP, va_K.moved (u := U) (U := U.calling g mk a) (Vm.Alike.refl U.vm) qK, qD, h1.same rfl rfl, h2.same rfl rfl, h3.same rfl rfl, h6.same rfl rfl, h4.moved (Vm.Alike.refl U.vm), h5.moved (Vm.Alike.refl U.vm)⟩
theorem s_N6.warm {s U : State} (hW : s.WarmedH U.vm) (h : s_N6 s) : s_N6 U := by
  obtain ⟨h1, h2, h3, h6, h4, h5⟩ := h
  exact ⟨h1.warmM hW, h2.warmM hW, h3.warmM hW, h6.warmM hW, h4.moved hW.alike, h5.moved hW.alike⟩
set_option maxRecDepth 100000 in
theorem s_nestmem : ∀ q ∈ s_nest, (Cond.fieldLinkNest q.1 q.2.1 q.2.2.1 q.2.2.2.1 q.2.2.2.2.1 q.2.2.2.2.2) ∈ lw_tbl := by
  unfold s_nest
  refine List.forall_mem_cons.mpr ⟨List.mem_of_getElem? (i := 87) rfl, ?_⟩
  refine List.forall_mem_cons.mpr ⟨List.mem_of_getElem? (i := 88) rfl, ?_⟩
  refine List.forall_mem_cons.mpr ⟨List.mem_of_getElem? (i := 113) rfl, ?_⟩
  refine List.forall_mem_cons.mpr ⟨List.mem_of_getElem? (i := 114) rfl, ?_⟩
  refine List.forall_mem_cons.mpr ⟨List.mem_of_getElem? (i := 116) rfl, ?_⟩
  refine List.forall_mem_cons.mpr ⟨List.mem_of_getElem? (i := 117) rfl, ?_⟩
  refine List.forall_mem_cons.mpr ⟨List.mem_of_getElem? (i := 118) rfl, ?_⟩
  refine List.forall_mem_cons.mpr ⟨List.mem_of_getElem? (i := 120) rfl, ?_⟩
  refine List.forall_mem_cons.mpr ⟨List.mem_of_getElem? (i := 121) rfl, ?_⟩
  refine List.forall_mem_cons.mpr ⟨List.mem_of_getElem? (i := 122) rfl, ?_⟩
  refine List.forall_mem_cons.mpr ⟨List.mem_of_getElem? (i := 124) rfl, ?_⟩
  refine List.forall_mem_cons.mpr ⟨List.mem_of_getElem? (i := 125) rfl, ?_⟩
  refine List.forall_mem_cons.mpr ⟨List.mem_of_getElem? (i := 126) rfl, ?_⟩
  refine List.forall_mem_cons.mpr ⟨List.mem_of_getElem? (i := 128) rfl, ?_⟩
  refine List.forall_mem_cons.mpr ⟨List.mem_of_getElem? (i := 129) rfl, ?_⟩
  refine List.forall_mem_cons.mpr ⟨List.mem_of_getElem? (i := 130) rfl, ?_⟩
  refine List.forall_mem_cons.mpr ⟨List.mem_of_getElem? (i := 132) rfl, ?_⟩
  refine List.forall_mem_cons.mpr ⟨List.mem_of_getElem? (i := 133) rfl, ?_⟩
  refine List.forall_mem_cons.mpr ⟨List.mem_of_getElem? (i := 134) rfl, ?_⟩
  refine List.forall_mem_cons.mpr ⟨List.mem_of_getElem? (i := 136) rfl, ?_⟩
  refine List.forall_mem_cons.mpr ⟨List.mem_of_getElem? (i := 137) rfl, ?_⟩
  refine List.forall_mem_cons.mpr ⟨List.mem_of_getElem? (i := 157) rfl, ?_⟩
  refine List.forall_mem_cons.mpr ⟨List.mem_of_getElem? (i := 168) rfl, ?_⟩
  refine List.forall_mem_cons.mpr ⟨List.mem_of_getElem? (i := 170) rfl, ?_⟩
  refine List.forall_mem_cons.mpr ⟨List.mem_of_getElem? (i := 207) rfl, ?_⟩
  refine List.forall_mem_cons.mpr ⟨List.mem_of_getElem? (i := 223) rfl, ?_⟩
  refine List.forall_mem_cons.mpr ⟨List.mem_of_getElem? (i := 239) rfl, ?_⟩
  refine List.forall_mem_cons.mpr ⟨List.mem_of_getElem? (i := 241) rfl, ?_⟩
  exact fun _ h => absurd h List.not_mem_nil
set_option maxRecDepth 100000 in
theorem s_strmem : ∀ j : Nat, j < 76 → (Cond.eq (.elem (.field (.string "SlidingRanks$Teller" 154) "java/lang/String" "value" "[B") (.int (Int32.ofNat j))) (.int (s_byt.getD j 0))) ∈ flatC (Jvm.Cond.and given_1 narrow_1) := by decide +kernel
set_option maxRecDepth 100000 in
set_option maxHeartbeats 8000000 in
theorem whole_open {p : Program} {e : Env} {s : State} {m : MethodId} {below : List Frame} {meth : Method} {c : Code} (l : Launch) {b L : Nat} {xs : Nat → Int32} (hL : L ≤ 2560) (C0 : lw_At p s m meth c b L xs) {Rel : Sg → Sg → Prop} (hpu : s_PURE Rel) : W p l e room_1 s m #[Value.ref b] below meth c s.heap [] 0 0 (lw_Z below #[Value.ref b] s) (entryFrame m ([Value.ref b] : List Value).toArray 4) := by
  obtain ⟨hx, hb, hr, hml, hown, hts0, hX, hbl, hlocks, hgv⟩ := id C0
  have hts : ∀ w ∈ kwL, w.before #[Value.ref b] s = true := fun w h => hts0 w (kw_tbl h)
  obtain ⟨c0, i0, hKn0⟩ := u_known (C := RX0) (T := TX0) (N := 3) (n := 3) hts inkX0 (hts _ kw_199)
  obtain ⟨c1, i1, hKn1⟩ := u_known (C := RX1) (T := TX1) (N := 8) (n := 8) hts inkX1 (hts _ kw_102)
  obtain ⟨c2, i2, hKn2⟩ := u_known (C := RX2) (T := TX2) (N := 3) (n := 3) hts inkX2 (hts _ kw_232)
  obtain ⟨c3, i3, hKn3⟩ := u_known (C := RX3) (T := TX3) (N := 2) (n := 2) hts inkX3 (hts _ kw_80)
  obtain ⟨c4, i4, hKn4⟩ := u_known (C := RX4) (T := TX4) (N := 12) (n := 12) hts inkX4 (hts _ kw_96)
  obtain ⟨c5, i5, hKn5⟩ := u_known (C := RX5) (T := TX5) (N := 2) (n := 2) hts inkX5 (hts _ kw_216)
  obtain ⟨c6, i6, hKn6⟩ := u_known (C := RX6) (T := TX6) (N := 9) (n := 9) hts inkX6 (hts _ kw_72)
  obtain ⟨c7, i7, hKn7⟩ := u_known (C := RX7) (T := TX7) (N := 28) (n := 28) hts inkX7 (hts _ kw_777)
  obtain ⟨dC, dI, hKc⟩ : ∃ (dC : Nat → ClassId) (dI : Nat → Nat → Nat), ∀ (k : Nat) (q : vw_C), vwCl[k]? = some q → u_Kn s q.1 q.2.1 q.2.2 (dC k) (dI k) := by
    refine ⟨fun k => [c0, c1, c2, c3, c4, c5, c6, c7].getD k 0, fun k => [i0, i1, i2, i3, i4, i5, i6, i7].getD k (fun _ => 0), ?_⟩
    intro k q hq
    match k, hq with
    | 0, hq => cases hq; exact hKn0
    | 1, hq => cases hq; exact hKn1
    | 2, hq => cases hq; exact hKn2
    | 3, hq => cases hq; exact hKn3
    | 4, hq => cases hq; exact hKn4
    | 5, hq => cases hq; exact hKn5
    | 6, hq => cases hq; exact hKn6
    | 7, hq => cases hq; exact hKn7
    | k + 8, hq => simp [vwCl] at hq
  obtain ⟨a0, ka0, pa0, f0, g0, h0⟩ := Cond.arrayClass_spec (hts _ kw_94)
  obtain ⟨a1, ka1, pa1, f1, g1, h1⟩ := Cond.arrayClass_spec (hts _ kw_155)
  obtain ⟨a2, ka2, pa2, f2, g2, h2⟩ := Cond.arrayClass_spec (hts _ kw_249)
  obtain ⟨pa3, a3, ka3, e3, -, g3, h3, f3⟩ := Cond.arrayOver_spec (hts0 _ (List.mem_of_getElem? (i := 229) rfl))
  obtain ⟨pa4, a4, ka4, e4, -, g4, h4, f4⟩ := Cond.arrayOver_spec (hts0 _ (List.mem_of_getElem? (i := 231) rfl))
  obtain ⟨cy, ecy⟩ : ∃ z : Nat → ClassId, z = (fun k => [a0, a1, a2, a3, a4].getD k 0) := ⟨_, rfl⟩
  have hK : va_K (dC, dI) vwCl (s_ty cy) s := by
    rw [ecy]
    refine ⟨hKc, fun k q h => ?_⟩
    match k, h with
    | 0, h => cases h; exact ⟨fun n z => ⟨fun k h => (by cases h), ka0, g0, pa0, h0⟩, f0⟩
    | 1, h => cases h; exact ⟨fun n z => ⟨fun k h => (by cases h), ka1, g1, pa1, h1⟩, f1⟩
    | 2, h => cases h; exact ⟨fun n z => ⟨fun k h => (by cases h), ka2, g2, pa2, h2⟩, f2⟩
    | 3, h => cases h; exact ⟨fun n z => ⟨fun k h => (by cases h), ka3, g3, pa3, h3⟩, ka3, pa3, g3, h3, e3, f3⟩
    | 4, h => cases h; exact ⟨fun n z => ⟨fun k h => (by cases h), ka4, g4, pa4, h4⟩, ka4, pa4, g4, h4, e4, f4⟩
    | k + 5, h => simp [s_ty] at h
  have hnA : ∀ a : Nat, a < s.heap.size → ¬ (fun q : Nat => s.heap.size ≤ q) a := fun a h => Nat.not_le.mpr h
  have hfl := flat_of_before _ hgv
  obtain ⟨adK, adV, hvk, hev⟩ := vk_Sof (N := 1) (tm := fun _ => .string "SlidingRanks$Teller" 154) (len := [76]) (byt := [s_byt]) (A := (fun q : Nat => s.heap.size ≤ q)) (s := s) (args := #[Value.ref b]) (fun i hi => by have : i = 0 := (by omega); subst this; decide) (fun i hi => hfl _ (by decide +kernel)) (fun i hi => hfl _ (by decide +kernel)) (fun i hi => hfl _ (by decide +kernel)) (fun i hi => by have : i = 0 := (by omega); subst this; exact hfl _ (by decide +kernel)) (fun i hi j hj => by have : i = 0 := (by omega); subst this; exact hfl _ (s_strmem j hj)) (fun i j hi hj h => absurd (by omega) h) hnA
  obtain ⟨sa, esa⟩ : ∃ z : Nat × Nat, z = (adK 0, adV 0) := ⟨_, rfl⟩
  have hE : s_E sa (fun q : Nat => s.heap.size ≤ q) s s.heap := by
    rw [esa]
    refine ⟨fun q hq => ?_, vk_R.of (hts0 _ (List.mem_of_getElem? (i := 323) rfl)) (hev 0 (by decide)), ?_, va_Zof (hts0 _ (List.mem_of_getElem? (i := 333) rfl)) (hts _ kw_65) (va_eqt (hfl _ (by decide +kernel))) hnA, va_Zqof (hts0 _ (List.mem_of_getElem? (i := 349) rfl)) (hts _ kw_67) (hfl _ (by decide +kernel)) hnA⟩
    · exact va_Nw.of rfl (hts0 _ (s_nestmem q hq))
    · refine ⟨fun i hi => ?_, fun i j hi hj _ => by omega⟩
      have : i = 0 := by omega
      subst this
      exact hvk.1 0 hi
  have hN6 : s_N6 s := ⟨va_Nw.of rfl (hts0 _ (List.mem_of_getElem? (i := 81) rfl)), va_Nw.of rfl (hts0 _ (List.mem_of_getElem? (i := 97) rfl)), va_Nw.of rfl (hts0 _ (List.mem_of_getElem? (i := 217) rfl)), va_Nw.of rfl (hts0 _ (List.mem_of_getElem? (i := 233) rfl)), va_AO.of (hts0 _ (List.mem_of_getElem? (i := 229) rfl)), va_AO.of (hts0 _ (List.mem_of_getElem? (i := 231) rfl))⟩
  have hS : va_S (fun q : Nat => s.heap.size ≤ q) s.heap s.heap [] := va_S.rf
  have hA : ∀ q : Nat, s.heap.size ≤ q → (fun q : Nat => s.heap.size ≤ q) q := fun _ h => h
  have hP : va_P (dC, dI) vwCl [] s.heap := fun k q h => by simp at h
  have hD : va_D (fun q : Nat => s.heap.size ≤ q) [] := ⟨fun i j p q h => by simp at h, fun k q h => by simp at h⟩
  have hl := lv_entry ([.ref b]) (n := 4) (Nat.le_of_ble_eq_true rfl)
  rw [lg_entry_eq]
  generalize (lg_sl ([.ref b]) ++ List.replicate (4 - (lg_sl ([.ref b])).length) Slot.unset).toArray = ls at hl ⊢
  replace hl : lv_has ls 4 [(0, .ref b)] := hl
  refine va_new (ci := 6) (fs := [.null, .null, .null, .null, .null, .null, .null, .null, .int 0]) (C := RX6) (T := TX6) (N := 9) hx hb hts inkX6 tyX6 tyX6_ok hown (hts _ kw_71) (hts _ kw_72) (hts _ kw_57) hK hP hD hS hA rfl (by intro j hj; match j, hj with | 0, _ => rfl | 1, _ => rfl | 2, _ => rfl | 3, _ => rfl | 4, _ => rfl | 5, _ => rfl | 6, _ => rfl | 7, _ => rfl | 8, _ => rfl | k + 9, h => exact absurd h (by omega)) (Nat.le_of_ble_eq_true rfl) (Nat.le_of_ble_eq_true rfl) dL_law_0 (fun q0 H hP hD hS => ?_)
  replace hP : va_P (dC, dI) vwCl [(q0, .inr (6, [.null, .null, .null, .null, .null, .null, .null, .null, .int 0]))] H := hP
  replace hD : va_D (fun q : Nat => s.heap.size ≤ q) [(q0, .inr (6, [.null, .null, .null, .null, .null, .null, .null, .null, .int 0]))] := hD
  refine W.widen (k := 1) (n := 9) (Nat.le_of_ble_eq_true rfl) (Nat.le_of_ble_eq_true rfl) ?_
  refine lv_dup hx hb dL_law_3 rfl ?_
  have hFc := va_free (wc := [(q0, .inr (6, [.null, .null, .null, .null, .null, .null, .null, .null, .int 0]))]) hD hS hA [0] rfl
  refine va_callv (va_runI (As := []) (rest := [.ref q0]) ⟨hx, hb, hml, hown, hts⟩ (kcK_SR (l := l) (G := (dC, dI)) (cy := cy) H.size q0) (cwI 0 hts (kG_i kw_75) rfl rfl rfl (hts _ kw_57) (hts _ kw_73) (hts _ kw_74) rfl (by decide +kernel) ⟨Nat.le_of_ble_eq_true rfl, Nat.le_of_ble_eq_true rfl⟩) ⟨s_Pk_blind6, fun U hU hW => ⟨rfl, by rw [hU], by rw [hU]; exact hP, va_K.moved hW.alike hK, hD.weaken (fun _ _ _ _ => trivial), hN6.warm hW⟩⟩ rfl rfl hl.1 rfl (lv_room (Nat.le_of_ble_eq_true rfl)) dL_law_4 ⟨Nat.le_of_ble_eq_true rfl, Nat.le_of_ble_eq_true rfl⟩) hS (fun q _ h => hFc q h) hFc (fun adC t H locs ht hvm hw hB hz1 hk1 hS => ?_)
  obtain ⟨hP1, hD1⟩ := hB
  rw [ht] at hP1
  clear hP hD
  have hP := hP1
  have hD := hD1.weaken (fun _ q _ h => hFc q.1 h)
  clear hP1 hD1 hFc
  refine W.widen (k := 27) (n := 976) (Nat.le_of_ble_eq_true rfl) (Nat.le_of_ble_eq_true rfl) ?_
  refine lv_astore_n (lv' := [(1, .ref q0), (0, .ref b)]) hx hb dL_law_7 rfl hl (by decide) rfl (fun ls hl => ?_)
  refine va_new (ci := 7) (fs := [.null, .int 0, .null, .int 0, .int 0, .int 0, .int 0, .int 0, .int 0, .int 0, .int 0, .int 0, .null, .null, .null, .int 0, .null, .int 0, .int 0, .int 0, .int 0, .null, .int 0, .null, .null, .null, .null, .int 0]) (C := RX7) (T := TX7) (N := 28) hx hb hts inkX7 tyX7 tyX7_ok hown (hts _ kw_776) (hts _ kw_777) (hts _ kw_64) hK hP hD hS hA rfl (by intro j hj; match j, hj with | 0, _ => rfl | 1, _ => rfl | 2, _ => rfl | 3, _ => rfl | 4, _ => rfl | 5, _ => rfl | 6, _ => rfl | 7, _ => rfl | 8, _ => rfl | 9, _ => rfl | 10, _ => rfl | 11, _ => rfl | 12, _ => rfl | 13, _ => rfl | 14, _ => rfl | 15, _ => rfl | 16, _ => rfl | 17, _ => rfl | 18, _ => rfl | 19, _ => rfl | 20, _ => rfl | 21, _ => rfl | 22, _ => rfl | 23, _ => rfl | 24, _ => rfl | 25, _ => rfl | 26, _ => rfl | 27, _ => rfl | k + 28, h => exact absurd h (by omega)) (Nat.le_of_ble_eq_true rfl) (Nat.le_of_ble_eq_true rfl) dL_law_8 (fun q1 H hP hD hS => ?_)
  refine W.widen (k := 28) (n := 1004) (Nat.le_of_ble_eq_true rfl) (Nat.le_of_ble_eq_true rfl) ?_
  refine lv_dup hx hb dL_law_11 rfl ?_
  have hPc := hP.sub (ws' := [(q1, .inr (7, [.null, .int 0, .null, .int 0, .int 0, .int 0, .int 0, .int 0, .int 0, .int 0, .int 0, .int 0, .null, .null, .null, .int 0, .null, .int 0, .int 0, .int 0, .int 0, .null, .int 0, .null, .null, .null, .null, .int 0]))]) [27] rfl
  have hDc := hD.sub (ws' := [(q1, .inr (7, [.null, .int 0, .null, .int 0, .int 0, .int 0, .int 0, .int 0, .int 0, .int 0, .int 0, .int 0, .null, .null, .null, .int 0, .null, .int 0, .int 0, .int 0, .int 0, .null, .int 0, .null, .null, .null, .null, .int 0]))]) [27] (by decide) rfl
  have hFc := va_free (wc := [(q1, .inr (7, [.null, .int 0, .null, .int 0, .int 0, .int 0, .int 0, .int 0, .int 0, .int 0, .int 0, .int 0, .null, .null, .null, .int 0, .null, .int 0, .int 0, .int 0, .int 0, .null, .int 0, .null, .null, .null, .null, .int 0]))]) hD hS hA [27] rfl
  refine va_callv (va_runI (As := []) (rest := [.ref q1]) ⟨hx, hb, hml, hown, hts⟩ (kcK_MO (l := l) (G := (dC, dI)) (cy := cy) H.size q1) (cwI 0 hts (kG_i kw_780) rfl rfl rfl (hts _ kw_64) (hts _ kw_778) (hts _ kw_779) rfl (by decide +kernel) ⟨Nat.le_of_ble_eq_true rfl, Nat.le_of_ble_eq_true rfl⟩) ⟨s_Pk_blind, fun U hU hW => ⟨rfl, by rw [hU], by rw [hU]; exact hPc, va_K.moved hW.alike hK, hDc.weaken (fun _ _ _ _ => trivial), trivial⟩⟩ rfl rfl hl.1 rfl (lv_room (Nat.le_of_ble_eq_true rfl)) dL_law_12 ⟨Nat.le_of_ble_eq_true rfl, Nat.le_of_ble_eq_true rfl⟩) hS (fun q _ h => hFc q h) hFc (fun adM t H locs ht hvm hw2 hB hz1 hk1 hS => ?_)
  obtain ⟨hP1, hD1⟩ := hB
  rw [ht] at hP1
  obtain ⟨hP, hD⟩ := va_join (wr := s_WC cy adC s_C0) (w1 := s_WM cy adM s_M0) hP hD [27] [0, 1, 2, 3, 4, 5, 6, 7, 8, 9, 10, 11, 12, 13, 14, 15, 16, 17, 18, 19, 20, 21, 22, 23, 24, 25, 26] rfl rfl (by decide) (by decide) hk1 hFc hP1 hD1
  refine W.widen (k := 39) (n := 2150) (Nat.le_of_ble_eq_true rfl) (Nat.le_of_ble_eq_true rfl) ?_
  refine lv_astore_n (lv' := [(2, .ref q1), (1, .ref q0), (0, .ref b)]) hx hb dL_law_15 rfl hl (by decide) rfl (fun ls hl => ?_)
  refine lv_iconst (v := 0) hx hb dL_law_16 (by decide) ?_
  refine lv_istore_n (lv' := [(3, .int 0), (2, .ref q1), (1, .ref q0), (0, .ref b)]) hx hb dL_law_17 rfl hl (by decide) rfl (fun ls hl => ?_)
  have hLS : s_LS Rel (dC, dI) cy (fun q : Nat => s.heap.size ≤ q) H q0 q1 := ⟨adC, adM, s_C0, s_M0, hw, hw2, hpu.1, hP, hD⟩
  exact law_loop hpu hL hx hb hr hlocks hml hown hts hK hE hX hbl (L + 6) 0 0 (by omega) (by omega) nI_0.symm H locs ls hLS hS (lv_sub hl [3, 2, 1, 0] rfl)
