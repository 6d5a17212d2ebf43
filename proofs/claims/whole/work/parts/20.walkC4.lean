section
variable {p : Program} {l : Launch} {e : Env} {s : State} {m : MethodId} {below : List Frame} {meth : Method} {c : Code} {G : va_G} {cy : Nat → ClassId} {sa : Nat × Nat} {ad : Nat → Nat} {args : Array Value} {re : Int32} {σe : Sg} {sh : Nat → Option Nat}
set_option maxRecDepth 100000 in
set_option maxHeartbeats 4000000 in
theorem kX6_drop_b15 (C : s_X p s m meth c args cX6_drop (some .int) 2 RX6 G cy sa ad 19) (σ : Sg) (ls : Array Slot) (H : Heap) (locs : List Loc) (hl : lv_has ls 2 []) (hP : va_P G vwCl ((s_WC cy ad sh) σ) H) (hS : va_S (s_A ad 19 s.heap.size) s.heap H locs) (hf : fX6_drop_b15 σ = some (re, σe)) : W p l e ({ frames := 2, cells := 0, slots := 0, locals := 81 } : Room) s m args below meth c H locs 0 0 (MQ below (s_Qi (s_WC cy ad sh) G (s_A ad 19 s.heap.size) re σe) args s 0 0 (s_A ad 19 s.heap.size)) (F0 m 15 ls []) := by
  obtain ⟨hx, hb, hr, hml, hown, hts, hlk, hK, hE, hI⟩ := id C
  have hD : ∀ σ : Sg, va_D (s_A ad 19 s.heap.size) ((s_WC cy ad sh) σ) := fun σ => s_D (s_WC_ad cy ad sh σ) hI (fun k hk => Or.inl ⟨k, hk, rfl⟩)
  unfold fX6_drop_b15 at hf
  refine lv_iconst (v := -1) hx hb dX6_drop_15 (by decide) ?_
  obtain ⟨he1, he2⟩ := s_ret hf
  exact W.iret hx hb hr (fun t ht hW => ⟨⟨_, (), rfl, he1, s_fin (Wd := (s_WC cy ad sh)) ht he2 hP⟩, hS.F ht⟩) hS.2.2 dX6_drop_16 hlk
set_option maxRecDepth 100000 in
set_option maxHeartbeats 4000000 in
theorem kX6_drop (C : s_X p s m meth c args cX6_drop (some .int) 2 RX6 G cy sa ad 19) (σ : Sg) (x1 : Int32) (ls : Array Slot) (H : Heap) (locs : List Loc) (hl : lv_has ls 2 [(0, .ref (ad 0)), (1, .int x1)]) (hP : va_P G vwCl ((s_WC cy ad sh) σ) H) (hS : va_S (s_A ad 19 s.heap.size) s.heap H locs) (hf : fX6_drop σ x1 = some (re, σe)) : W p l e ({ frames := 2, cells := 0, slots := 0, locals := 81 } : Room) s m args below meth c H locs 0 0 (MQ below (s_Qi (s_WC cy ad sh) G (s_A ad 19 s.heap.size) re σe) args s 0 0 (s_A ad 19 s.heap.size)) (F0 m 0 ls []) := by
  obtain ⟨hx, hb, hr, hml, hown, hts, hlk, hK, hE, hI⟩ := id C
  have hD : ∀ σ : Sg, va_D (s_A ad 19 s.heap.size) ((s_WC cy ad sh) σ) := fun σ => s_D (s_WC_ad cy ad sh σ) hI (fun k hk => Or.inl ⟨k, hk, rfl⟩)
  unfold fX6_drop at hf
  refine lv_iload_n hx hb dX6_drop_0 rfl (lv_at hl 1 rfl) ?_
  refine lv_if_lt (tgt := 15) hx hb dX6_drop_1 (by decide) (fun c1 => ?_) (fun c1 => ?_)
  · rw [if_pos c1] at hf
    exact kX6_drop_b15 C σ _ _ _ (lv_sub hl [] rfl) hP hS hf
  · rw [if_neg c1] at hf
    refine lv_iload_n hx hb dX6_drop_4 rfl (lv_at hl 1 rfl) ?_
    refine lv_aload_n hx hb dX6_drop_5 rfl (lv_at hl 0 rfl) ?_
    refine va_get (D := G) (ci := 6) (v := .ref (ad 6)) (C := RX6) (T := TX6) (N := 9) hx hb hts inkX6 hown hK hP 0 rfl rfl 2 (by decide) (hts _ kw_232) (fun _ h9 => h9) rfl dX6_drop_6 ?_
    refine va_getN (D := G) (ci := 1) (v := .int (σ 6 1)) (C := RX1) (T := TX1) (N := 8) hx hb hts inkX1 hown hK hP 6 rfl rfl 1 (by decide) (kn_X6_88 hE) (fun _ h9 => h9) rfl dX6_drop_9 ?_
    refine lv_icmp_le (tgt := 17) hx hb dX6_drop_12 (by decide) (fun c2 => ?_) (fun c2 => ?_)
    · rw [if_pos c2] at hf
      refine lv_aload_n hx hb dX6_drop_17 rfl (lv_at hl 0 rfl) ?_
      refine va_get (D := G) (ci := 6) (v := .ref (ad 6)) (C := RX6) (T := TX6) (N := 9) hx hb hts inkX6 hown hK hP 0 rfl rfl 2 (by decide) (hts _ kw_232) (fun _ h9 => h9) rfl dX6_drop_18 ?_
      refine lv_iload_n hx hb dX6_drop_21 rfl (lv_at hl 1 rfl) ?_
      replace hf := s_bv_some hf
      obtain ⟨σ3, hz4, hf⟩ := hf
      refine s_callv (nn := 1) C (kcX1_dropFirst_6 (l := l) (G := G) (cy := cy) (sa := sa) (sh := sh) hI (sz := H.size) σ x1 hz4) gk_X6_205 rfl rfl (by decide +kernel) ⟨Nat.le_of_ble_eq_true rfl, Nat.le_of_ble_eq_true rfl⟩ hP hS (q0 := 6) (ci := 1) rfl rfl rfl (As := [.int x1]) (rest := []) rfl rfl hl.1 (Nat.le_of_ble_eq_true rfl) dX6_drop_22 (fun H locs hP hS => ?_)
      refine lv_aload_n hx hb dX6_drop_25 rfl (lv_at hl 0 rfl) ?_
      refine va_get (D := G) (ci := 6) (v := .ref (ad 6)) (C := RX6) (T := TX6) (N := 9) hx hb hts inkX6 hown hK hP 0 rfl rfl 2 (by decide) (hts _ kw_232) (fun _ h9 => h9) rfl dX6_drop_26 ?_
      refine va_getN (D := G) (ci := 1) (v := .int (σ3 6 1)) (C := RX1) (T := TX1) (N := 8) hx hb hts inkX1 hown hK hP 6 rfl rfl 1 (by decide) (kn_X6_88 hE) (fun _ h9 => h9) rfl dX6_drop_29 ?_
      obtain ⟨he1, he2⟩ := s_ret hf
      exact W.iret hx hb hr (fun t ht hW => ⟨⟨_, (), rfl, he1, s_fin (Wd := (s_WC cy ad sh)) ht he2 hP⟩, hS.F ht⟩) hS.2.2 dX6_drop_32 hlk
    · rw [if_neg c2] at hf
      exact kX6_drop_b15 C σ _ _ _ (lv_sub hl [] rfl) hP hS hf
theorem kcX6_drop {l : Launch} {G : va_G} {cy : Nat → ClassId} {sa : Nat × Nat} {ad : Nat → Nat} {sh : Nat → Option Nat} {sz : Nat} (hI : s_inj ad 19) (σ : Sg) (x1 : Int32) {re : Int32} {σe : Sg} (hf : fX6_drop σ x1 = some (re, σe)) : Met l yX6_drop (kW yX6_drop cX6_drop 2 (some .int)) ({ frames := 2, cells := 0, slots := 0, locals := 81 } : Room) (s_P (s_WC cy ad sh) G cy sa ad 19 [.ref (ad 0), .int x1] sz σ) (s_Qi (s_WC cy ad sh) G (s_A ad 19 sz) re σe) 0 0 (s_A ad 19 sz) := by
  refine s_met (own := RX6) (by decide) rfl hI (Nat.le_of_ble_eq_true rfl) (fun p e s m below meth c ls hsz C hP hl => ?_)
  subst hsz
  exact kX6_drop C σ x1 ls _ _ hl hP va_S.rf hf
set_option maxRecDepth 100000 in
set_option maxHeartbeats 4000000 in
theorem kX6_width_b11 (C : s_X p s m meth c args cX6_width (some .int) 3 RX6 G cy sa ad 19) (σ : Sg) (ls : Array Slot) (H : Heap) (locs : List Loc) (hl : lv_has ls 3 []) (hP : va_P G vwCl ((s_WC cy ad sh) σ) H) (hS : va_S (s_A ad 19 s.heap.size) s.heap H locs) (hf : fX6_width_b11 σ = some (re, σe)) : W p l e ({ frames := 0, cells := 0, slots := 0, locals := 0 } : Room) s m args below meth c H locs 0 0 (MQ below (s_Qi (s_WC cy ad sh) G (s_A ad 19 s.heap.size) re σe) args s 0 0 (s_A ad 19 s.heap.size)) (F0 m 11 ls []) := by
  obtain ⟨hx, hb, hr, hml, hown, hts, hlk, hK, hE, hI⟩ := id C
  have hD : ∀ σ : Sg, va_D (s_A ad 19 s.heap.size) ((s_WC cy ad sh) σ) := fun σ => s_D (s_WC_ad cy ad sh σ) hI (fun k hk => Or.inl ⟨k, hk, rfl⟩)
  unfold fX6_width_b11 at hf
  refine lv_iconst (v := -1) hx hb dX6_width_11 (by decide) ?_
  obtain ⟨he1, he2⟩ := s_ret hf
  exact W.iret hx hb hr (fun t ht hW => ⟨⟨_, (), rfl, he1, s_fin (Wd := (s_WC cy ad sh)) ht he2 hP⟩, hS.F ht⟩) hS.2.2 dX6_width_12 hlk
set_option maxRecDepth 100000 in
set_option maxHeartbeats 4000000 in
theorem kX6_width (C : s_X p s m meth c args cX6_width (some .int) 3 RX6 G cy sa ad 19) (σ : Sg) (x1 : Int32) (ls : Array Slot) (H : Heap) (locs : List Loc) (hl : lv_has ls 3 [(0, .ref (ad 0)), (1, .int x1)]) (hP : va_P G vwCl ((s_WC cy ad sh) σ) H) (hS : va_S (s_A ad 19 s.heap.size) s.heap H locs) (hf : fX6_width σ x1 = some (re, σe)) : W p l e ({ frames := 0, cells := 0, slots := 0, locals := 0 } : Room) s m args below meth c H locs 0 0 (MQ below (s_Qi (s_WC cy ad sh) G (s_A ad 19 s.heap.size) re σe) args s 0 0 (s_A ad 19 s.heap.size)) (F0 m 0 ls []) := by
  obtain ⟨hx, hb, hr, hml, hown, hts, hlk, hK, hE, hI⟩ := id C
  have hD : ∀ σ : Sg, va_D (s_A ad 19 s.heap.size) ((s_WC cy ad sh) σ) := fun σ => s_D (s_WC_ad cy ad sh σ) hI (fun k hk => Or.inl ⟨k, hk, rfl⟩)
  unfold fX6_width at hf
  refine lv_iload_n hx hb dX6_width_0 rfl (lv_at hl 1 rfl) ?_
  refine lv_iconst (v := 1) hx hb dX6_width_1 (by decide) ?_
  refine lv_icmp_lt (tgt := 11) hx hb dX6_width_2 (by decide) (fun c1 => ?_) (fun c1 => ?_)
  · rw [if_pos c1] at hf
    exact kX6_width_b11 C σ _ _ _ (lv_sub hl [] rfl) hP hS hf
  · rw [if_neg c1] at hf
    refine lv_iload_n hx hb dX6_width_5 rfl (lv_at hl 1 rfl) ?_
    refine lv_bipush (v := 24) hx hb dX6_width_6 (by decide) ?_
    refine lv_icmp_le (tgt := 13) hx hb dX6_width_8 (by decide) (fun c2 => ?_) (fun c2 => ?_)
    · rw [if_pos c2] at hf
      refine lv_aload_n hx hb dX6_width_13 rfl (lv_at hl 0 rfl) ?_
      refine va_get (D := G) (ci := 6) (v := .ref (ad 6)) (C := RX6) (T := TX6) (N := 9) hx hb hts inkX6 hown hK hP 0 rfl rfl 2 (by decide) (hts _ kw_232) (fun _ h9 => h9) rfl dX6_width_14 ?_
      refine va_getN (D := G) (ci := 1) (v := .int (σ 6 2)) (C := RX1) (T := TX1) (N := 8) hx hb hts inkX1 hown hK hP 6 rfl rfl 2 (by decide) (kn_X6_98 hE) (fun _ h9 => h9) rfl dX6_width_17 ?_
      refine lv_topi (fun t3 et3 => ?_)
      replace hf := s_lt_at et3 hf
      refine lv_istore_n (lv' := [(2, .int t3), (0, .ref (ad 0)), (1, .int x1)]) hx hb dX6_width_20 rfl hl (by decide) rfl (fun ls hl => ?_)
      refine lv_aload_n hx hb dX6_width_21 rfl (lv_at hl 1 rfl) ?_
      refine va_get (D := G) (ci := 6) (v := .ref (ad 6)) (C := RX6) (T := TX6) (N := 9) hx hb hts inkX6 hown hK hP 0 rfl rfl 2 (by decide) (hts _ kw_232) (fun _ h9 => h9) rfl dX6_width_22 ?_
      refine lv_iload_n hx hb dX6_width_25 rfl (lv_at hl 2 rfl) ?_
      refine va_putN (D := G) (ci := 1) (v := .int x1) (ty := .int) (C := RX1) (T := TX1) (N := 8) hx hb hts inkX1 tyX1 tyX1_ok nmX1 hown hK hP (hD _) hS 6 rfl rfl 2 (by decide) (kn_X6_98 hE) (fun _ h9 => h9) rfl (by decide +kernel) rfl rfl (Nat.le_of_ble_eq_true rfl) dX6_width_26 (fun H locs hP _ hS => ?_)
      obtain ⟨σ4, eσ4⟩ : ∃ z : Sg, z = (s_up σ 6 2 x1) := ⟨_, rfl⟩
      replace hf := s_lt_at eσ4 hf
      replace hP : va_P G vwCl ((s_WC cy ad sh) σ4) H := by rw [eσ4]; exact hP
      refine lv_iload_n hx hb dX6_width_29 rfl (lv_at hl 0 rfl) ?_
      obtain ⟨he1, he2⟩ := s_ret hf
      exact W.iret hx hb hr (fun t ht hW => ⟨⟨_, (), rfl, he1, s_fin (Wd := (s_WC cy ad sh)) ht he2 hP⟩, hS.F ht⟩) hS.2.2 dX6_width_30 hlk
    · rw [if_neg c2] at hf
      exact kX6_width_b11 C σ _ _ _ (lv_sub hl [] rfl) hP hS hf
theorem kcX6_width {l : Launch} {G : va_G} {cy : Nat → ClassId} {sa : Nat × Nat} {ad : Nat → Nat} {sh : Nat → Option Nat} {sz : Nat} (hI : s_inj ad 19) (σ : Sg) (x1 : Int32) {re : Int32} {σe : Sg} (hf : fX6_width σ x1 = some (re, σe)) : Met l yX6_width (kW yX6_width cX6_width 3 (some .int)) ({ frames := 0, cells := 0, slots := 0, locals := 0 } : Room) (s_P (s_WC cy ad sh) G cy sa ad 19 [.ref (ad 0), .int x1] sz σ) (s_Qi (s_WC cy ad sh) G (s_A ad 19 sz) re σe) 0 0 (s_A ad 19 sz) := by
  refine s_met (own := RX6) (by decide) rfl hI (Nat.le_of_ble_eq_true rfl) (fun p e s m below meth c ls hsz C hP hl => ?_)
  subst hsz
  exact kX6_width C σ x1 ls _ _ hl hP va_S.rf hf
set_option maxRecDepth 100000 in
set_option maxHeartbeats 4000000 in
theorem kX6_need_b11 (C : s_X p s m meth c args cX6_need (some .int) 3 RX6 G cy sa ad 19) (σ : Sg) (ls : Array Slot) (H : Heap) (locs : List Loc) (hl : lv_has ls 3 []) (hP : va_P G vwCl ((s_WC cy ad sh) σ) H) (hS : va_S (s_A ad 19 s.heap.size) s.heap H locs) (hf : fX6_need_b11 σ = some (re, σe)) : W p l e ({ frames := 0, cells := 0, slots := 0, locals := 0 } : Room) s m args below meth c H locs 0 0 (MQ below (s_Qi (s_WC cy ad sh) G (s_A ad 19 s.heap.size) re σe) args s 0 0 (s_A ad 19 s.heap.size)) (F0 m 11 ls []) := by
  obtain ⟨hx, hb, hr, hml, hown, hts, hlk, hK, hE, hI⟩ := id C
  have hD : ∀ σ : Sg, va_D (s_A ad 19 s.heap.size) ((s_WC cy ad sh) σ) := fun σ => s_D (s_WC_ad cy ad sh σ) hI (fun k hk => Or.inl ⟨k, hk, rfl⟩)
  unfold fX6_need_b11 at hf
  refine lv_iconst (v := -1) hx hb dX6_need_11 (by decide) ?_
  obtain ⟨he1, he2⟩ := s_ret hf
  exact W.iret hx hb hr (fun t ht hW => ⟨⟨_, (), rfl, he1, s_fin (Wd := (s_WC cy ad sh)) ht he2 hP⟩, hS.F ht⟩) hS.2.2 dX6_need_12 hlk
set_option maxRecDepth 100000 in
set_option maxHeartbeats 4000000 in
theorem kX6_need (C : s_X p s m meth c args cX6_need (some .int) 3 RX6 G cy sa ad 19) (σ : Sg) (x1 : Int32) (ls : Array Slot) (H : Heap) (locs : List Loc) (hl : lv_has ls 3 [(0, .ref (ad 0)), (1, .int x1)]) (hP : va_P G vwCl ((s_WC cy ad sh) σ) H) (hS : va_S (s_A ad 19 s.heap.size) s.heap H locs) (hf : fX6_need σ x1 = some (re, σe)) : W p l e ({ frames := 0, cells := 0, slots := 0, locals := 0 } : Room) s m args below meth c H locs 0 0 (MQ below (s_Qi (s_WC cy ad sh) G (s_A ad 19 s.heap.size) re σe) args s 0 0 (s_A ad 19 s.heap.size)) (F0 m 0 ls []) := by
  obtain ⟨hx, hb, hr, hml, hown, hts, hlk, hK, hE, hI⟩ := id C
  have hD : ∀ σ : Sg, va_D (s_A ad 19 s.heap.size) ((s_WC cy ad sh) σ) := fun σ => s_D (s_WC_ad cy ad sh σ) hI (fun k hk => Or.inl ⟨k, hk, rfl⟩)
  unfold fX6_need at hf
  refine lv_iload_n hx hb dX6_need_0 rfl (lv_at hl 1 rfl) ?_
  refine lv_iconst (v := 1) hx hb dX6_need_1 (by decide) ?_
  refine lv_icmp_lt (tgt := 11) hx hb dX6_need_2 (by decide) (fun c1 => ?_) (fun c1 => ?_)
  · rw [if_pos c1] at hf
    exact kX6_need_b11 C σ _ _ _ (lv_sub hl [] rfl) hP hS hf
  · rw [if_neg c1] at hf
    refine lv_iload_n hx hb dX6_need_5 rfl (lv_at hl 1 rfl) ?_
    refine lv_bipush (v := 24) hx hb dX6_need_6 (by decide) ?_
    refine lv_icmp_le (tgt := 13) hx hb dX6_need_8 (by decide) (fun c2 => ?_) (fun c2 => ?_)
    · rw [if_pos c2] at hf
      refine lv_aload_n hx hb dX6_need_13 rfl (lv_at hl 0 rfl) ?_
      refine va_get (D := G) (ci := 6) (v := .ref (ad 6)) (C := RX6) (T := TX6) (N := 9) hx hb hts inkX6 hown hK hP 0 rfl rfl 2 (by decide) (hts _ kw_232) (fun _ h9 => h9) rfl dX6_need_14 ?_
      refine va_getN (D := G) (ci := 1) (v := .int (σ 6 3)) (C := RX1) (T := TX1) (N := 8) hx hb hts inkX1 hown hK hP 6 rfl rfl 3 (by decide) (kn_X6_101 hE) (fun _ h9 => h9) rfl dX6_need_17 ?_
      refine lv_topi (fun t3 et3 => ?_)
      replace hf := s_lt_at et3 hf
      refine lv_istore_n (lv' := [(2, .int t3), (0, .ref (ad 0)), (1, .int x1)]) hx hb dX6_need_20 rfl hl (by decide) rfl (fun ls hl => ?_)
      refine lv_aload_n hx hb dX6_need_21 rfl (lv_at hl 1 rfl) ?_
      refine va_get (D := G) (ci := 6) (v := .ref (ad 6)) (C := RX6) (T := TX6) (N := 9) hx hb hts inkX6 hown hK hP 0 rfl rfl 2 (by decide) (hts _ kw_232) (fun _ h9 => h9) rfl dX6_need_22 ?_
      refine lv_iload_n hx hb dX6_need_25 rfl (lv_at hl 2 rfl) ?_
      refine va_putN (D := G) (ci := 1) (v := .int x1) (ty := .int) (C := RX1) (T := TX1) (N := 8) hx hb hts inkX1 tyX1 tyX1_ok nmX1 hown hK hP (hD _) hS 6 rfl rfl 3 (by decide) (kn_X6_101 hE) (fun _ h9 => h9) rfl (by decide +kernel) rfl rfl (Nat.le_of_ble_eq_true rfl) dX6_need_26 (fun H locs hP _ hS => ?_)
      obtain ⟨σ4, eσ4⟩ : ∃ z : Sg, z = (s_up σ 6 3 x1) := ⟨_, rfl⟩
      replace hf := s_lt_at eσ4 hf
      replace hP : va_P G vwCl ((s_WC cy ad sh) σ4) H := by rw [eσ4]; exact hP
      refine lv_iload_n hx hb dX6_need_29 rfl (lv_at hl 0 rfl) ?_
      obtain ⟨he1, he2⟩ := s_ret hf
      exact W.iret hx hb hr (fun t ht hW => ⟨⟨_, (), rfl, he1, s_fin (Wd := (s_WC cy ad sh)) ht he2 hP⟩, hS.F ht⟩) hS.2.2 dX6_need_30 hlk
    · rw [if_neg c2] at hf
      exact kX6_need_b11 C σ _ _ _ (lv_sub hl [] rfl) hP hS hf
theorem kcX6_need {l : Launch} {G : va_G} {cy : Nat → ClassId} {sa : Nat × Nat} {ad : Nat → Nat} {sh : Nat → Option Nat} {sz : Nat} (hI : s_inj ad 19) (σ : Sg) (x1 : Int32) {re : Int32} {σe : Sg} (hf : fX6_need σ x1 = some (re, σe)) : Met l yX6_need (kW yX6_need cX6_need 3 (some .int)) ({ frames := 0, cells := 0, slots := 0, locals := 0 } : Room) (s_P (s_WC cy ad sh) G cy sa ad 19 [.ref (ad 0), .int x1] sz σ) (s_Qi (s_WC cy ad sh) G (s_A ad 19 sz) re σe) 0 0 (s_A ad 19 sz) := by
  refine s_met (own := RX6) (by decide) rfl hI (Nat.le_of_ble_eq_true rfl) (fun p e s m below meth c ls hsz C hP hl => ?_)
  subst hsz
  exact kX6_need C σ x1 ls _ _ hl hP va_S.rf hf
set_option maxRecDepth 100000 in
set_option maxHeartbeats 4000000 in
theorem kX6_part_b20 (C : s_X p s m meth c args cX6_part (some .int) 4 RX6 G cy sa ad 19) (σ : Sg) (ls : Array Slot) (H : Heap) (locs : List Loc) (hl : lv_has ls 4 []) (hP : va_P G vwCl ((s_WC cy ad sh) σ) H) (hS : va_S (s_A ad 19 s.heap.size) s.heap H locs) (hf : fX6_part_b20 σ = some (re, σe)) : W p l e ({ frames := 0, cells := 0, slots := 0, locals := 0 } : Room) s m args below meth c H locs 0 0 (MQ below (s_Qi (s_WC cy ad sh) G (s_A ad 19 s.heap.size) re σe) args s 0 0 (s_A ad 19 s.heap.size)) (F0 m 20 ls []) := by
  obtain ⟨hx, hb, hr, hml, hown, hts, hlk, hK, hE, hI⟩ := id C
  have hD : ∀ σ : Sg, va_D (s_A ad 19 s.heap.size) ((s_WC cy ad sh) σ) := fun σ => s_D (s_WC_ad cy ad sh σ) hI (fun k hk => Or.inl ⟨k, hk, rfl⟩)
  unfold fX6_part_b20 at hf
  refine lv_iconst (v := -1) hx hb dX6_part_20 (by decide) ?_
  obtain ⟨he1, he2⟩ := s_ret hf
  exact W.iret hx hb hr (fun t ht hW => ⟨⟨_, (), rfl, he1, s_fin (Wd := (s_WC cy ad sh)) ht he2 hP⟩, hS.F ht⟩) hS.2.2 dX6_part_21 hlk
set_option maxRecDepth 100000 in
set_option maxHeartbeats 4000000 in
theorem kX6_part (C : s_X p s m meth c args cX6_part (some .int) 4 RX6 G cy sa ad 19) (σ : Sg) (x1 : Int32) (x2 : Int32) (ls : Array Slot) (H : Heap) (locs : List Loc) (hl : lv_has ls 4 [(0, .ref (ad 0)), (1, .int x1), (2, .int x2)]) (hP : va_P G vwCl ((s_WC cy ad sh) σ) H) (hS : va_S (s_A ad 19 s.heap.size) s.heap H locs) (hf : fX6_part σ x1 x2 = some (re, σe)) : W p l e ({ frames := 0, cells := 0, slots := 0, locals := 0 } : Room) s m args below meth c H locs 0 0 (MQ below (s_Qi (s_WC cy ad sh) G (s_A ad 19 s.heap.size) re σe) args s 0 0 (s_A ad 19 s.heap.size)) (F0 m 0 ls []) := by
  obtain ⟨hx, hb, hr, hml, hown, hts, hlk, hK, hE, hI⟩ := id C
  have hD : ∀ σ : Sg, va_D (s_A ad 19 s.heap.size) ((s_WC cy ad sh) σ) := fun σ => s_D (s_WC_ad cy ad sh σ) hI (fun k hk => Or.inl ⟨k, hk, rfl⟩)
  unfold fX6_part at hf
  refine lv_iload_n hx hb dX6_part_0 rfl (lv_at hl 2 rfl) ?_
  refine lv_iconst (v := 1) hx hb dX6_part_1 (by decide) ?_
  refine lv_icmp_lt (tgt := 20) hx hb dX6_part_2 (by decide) (fun c1 => ?_) (fun c1 => ?_)
  · rw [if_pos c1] at hf
    exact kX6_part_b20 C σ _ _ _ (lv_sub hl [] rfl) hP hS hf
  · rw [if_neg c1] at hf
    refine lv_iload_n hx hb dX6_part_5 rfl (lv_at hl 2 rfl) ?_
    refine lv_bipush (v := 100) hx hb dX6_part_6 (by decide) ?_
    refine lv_icmp_gt (tgt := 20) hx hb dX6_part_8 (by decide) (fun c2 => ?_) (fun c2 => ?_)
    · rw [if_pos c2] at hf
      exact kX6_part_b20 C σ _ _ _ (lv_sub hl [] rfl) hP hS hf
    · rw [if_neg c2] at hf
      refine lv_iload_n hx hb dX6_part_11 rfl (lv_at hl 1 rfl) ?_
      refine lv_if_lt (tgt := 20) hx hb dX6_part_12 (by decide) (fun c3 => ?_) (fun c3 => ?_)
      · rw [if_pos c3] at hf
        exact kX6_part_b20 C σ _ _ _ (lv_sub hl [] rfl) hP hS hf
      · rw [if_neg c3] at hf
        refine lv_iload_n hx hb dX6_part_15 rfl (lv_at hl 1 rfl) ?_
        refine lv_iload_n hx hb dX6_part_16 rfl (lv_at hl 2 rfl) ?_
        refine lv_icmp_le (tgt := 22) hx hb dX6_part_17 (by decide) (fun c4 => ?_) (fun c4 => ?_)
        · rw [if_pos c4] at hf
          refine lv_sipush (v := 1000) hx hb dX6_part_22 (by decide) ?_
          refine lv_aload_n hx hb dX6_part_25 rfl (lv_at hl 0 rfl) ?_
          refine va_get (D := G) (ci := 6) (v := .ref (ad 6)) (C := RX6) (T := TX6) (N := 9) hx hb hts inkX6 hown hK hP 0 rfl rfl 2 (by decide) (hts _ kw_232) (fun _ h9 => h9) rfl dX6_part_26 ?_
          refine va_getN (D := G) (ci := 1) (v := .int (σ 6 4)) (C := RX1) (T := TX1) (N := 8) hx hb hts inkX1 hown hK hP 6 rfl rfl 4 (by decide) (kn_X6_104 hE) (fun _ h9 => h9) rfl dX6_part_29 ?_
          refine lv_imul hx hb dX6_part_32 ?_
          refine lv_aload_n hx hb dX6_part_33 rfl (lv_at hl 0 rfl) ?_
          refine va_get (D := G) (ci := 6) (v := .ref (ad 6)) (C := RX6) (T := TX6) (N := 9) hx hb hts inkX6 hown hK hP 0 rfl rfl 2 (by decide) (hts _ kw_232) (fun _ h9 => h9) rfl dX6_part_34 ?_
          refine va_getN (D := G) (ci := 1) (v := .int (σ 6 5)) (C := RX1) (T := TX1) (N := 8) hx hb hts inkX1 hown hK hP 6 rfl rfl 5 (by decide) (kn_X6_107 hE) (fun _ h9 => h9) rfl dX6_part_37 ?_
          refine lv_iadd hx hb dX6_part_40 ?_
          refine lv_topi (fun t5 et5 => ?_)
          replace hf := s_lt_at et5 hf
          refine lv_istore_n (lv' := [(3, .int t5), (0, .ref (ad 0)), (1, .int x1), (2, .int x2)]) hx hb dX6_part_41 rfl hl (by decide) rfl (fun ls hl => ?_)
          refine lv_aload_n hx hb dX6_part_42 rfl (lv_at hl 1 rfl) ?_
          refine va_get (D := G) (ci := 6) (v := .ref (ad 6)) (C := RX6) (T := TX6) (N := 9) hx hb hts inkX6 hown hK hP 0 rfl rfl 2 (by decide) (hts _ kw_232) (fun _ h9 => h9) rfl dX6_part_43 ?_
          refine lv_iload_n hx hb dX6_part_46 rfl (lv_at hl 2 rfl) ?_
          refine va_putN (D := G) (ci := 1) (v := .int x1) (ty := .int) (C := RX1) (T := TX1) (N := 8) hx hb hts inkX1 tyX1 tyX1_ok nmX1 hown hK hP (hD _) hS 6 rfl rfl 4 (by decide) (kn_X6_104 hE) (fun _ h9 => h9) rfl (by decide +kernel) rfl rfl (Nat.le_of_ble_eq_true rfl) dX6_part_47 (fun H locs hP _ hS => ?_)
          obtain ⟨σ6, eσ6⟩ : ∃ z : Sg, z = (s_up σ 6 4 x1) := ⟨_, rfl⟩
          replace hf := s_lt_at eσ6 hf
          replace hP : va_P G vwCl ((s_WC cy ad sh) σ6) H := by rw [eσ6]; exact hP
          refine lv_aload_n hx hb dX6_part_50 rfl (lv_at hl 1 rfl) ?_
          refine va_get (D := G) (ci := 6) (v := .ref (ad 6)) (C := RX6) (T := TX6) (N := 9) hx hb hts inkX6 hown hK hP 0 rfl rfl 2 (by decide) (hts _ kw_232) (fun _ h9 => h9) rfl dX6_part_51 ?_
          refine lv_iload_n hx hb dX6_part_54 rfl (lv_at hl 3 rfl) ?_
          refine va_putN (D := G) (ci := 1) (v := .int x2) (ty := .int) (C := RX1) (T := TX1) (N := 8) hx hb hts inkX1 tyX1 tyX1_ok nmX1 hown hK hP (hD _) hS 6 rfl rfl 5 (by decide) (kn_X6_107 hE) (fun _ h9 => h9) rfl (by decide +kernel) rfl rfl (Nat.le_of_ble_eq_true rfl) dX6_part_55 (fun H locs hP _ hS => ?_)
          obtain ⟨σ7, eσ7⟩ : ∃ z : Sg, z = (s_up σ6 6 5 x2) := ⟨_, rfl⟩
          replace hf := s_lt_at eσ7 hf
          replace hP : va_P G vwCl ((s_WC cy ad sh) σ7) H := by rw [eσ7]; exact hP
          refine lv_iload_n hx hb dX6_part_58 rfl (lv_at hl 0 rfl) ?_
          obtain ⟨he1, he2⟩ := s_ret hf
          exact W.iret hx hb hr (fun t ht hW => ⟨⟨_, (), rfl, he1, s_fin (Wd := (s_WC cy ad sh)) ht he2 hP⟩, hS.F ht⟩) hS.2.2 dX6_part_59 hlk
        · rw [if_neg c4] at hf
          exact kX6_part_b20 C σ _ _ _ (lv_sub hl [] rfl) hP hS hf
theorem kcX6_part {l : Launch} {G : va_G} {cy : Nat → ClassId} {sa : Nat × Nat} {ad : Nat → Nat} {sh : Nat → Option Nat} {sz : Nat} (hI : s_inj ad 19) (σ : Sg) (x1 : Int32) (x2 : Int32) {re : Int32} {σe : Sg} (hf : fX6_part σ x1 x2 = some (re, σe)) : Met l yX6_part (kW yX6_part cX6_part 4 (some .int)) ({ frames := 0, cells := 0, slots := 0, locals := 0 } : Room) (s_P (s_WC cy ad sh) G cy sa ad 19 [.ref (ad 0), .int x1, .int x2] sz σ) (s_Qi (s_WC cy ad sh) G (s_A ad 19 sz) re σe) 0 0 (s_A ad 19 sz) := by
  refine s_met (own := RX6) (by decide) rfl hI (Nat.le_of_ble_eq_true rfl) (fun p e s m below meth c ls hsz C hP hl => ?_)
  subst hsz
  exact kX6_part C σ x1 x2 ls _ _ hl hP va_S.rf hf
set_option maxRecDepth 100000 in
set_option maxHeartbeats 4000000 in
theorem kX6_choose_b9 (C : s_X p s m meth c args cX6_choose (some .int) 3 RX6 G cy sa ad 19) (σ : Sg) (ls : Array Slot) (H : Heap) (locs : List Loc) (hl : lv_has ls 3 []) (hP : va_P G vwCl ((s_WC cy ad sh) σ) H) (hS : va_S (s_A ad 19 s.heap.size) s.heap H locs) (hf : fX6_choose_b9 σ = some (re, σe)) : W p l e ({ frames := 0, cells := 0, slots := 0, locals := 0 } : Room) s m args below meth c H locs 0 0 (MQ below (s_Qi (s_WC cy ad sh) G (s_A ad 19 s.heap.size) re σe) args s 0 0 (s_A ad 19 s.heap.size)) (F0 m 9 ls []) := by
  obtain ⟨hx, hb, hr, hml, hown, hts, hlk, hK, hE, hI⟩ := id C
  have hD : ∀ σ : Sg, va_D (s_A ad 19 s.heap.size) ((s_WC cy ad sh) σ) := fun σ => s_D (s_WC_ad cy ad sh σ) hI (fun k hk => Or.inl ⟨k, hk, rfl⟩)
  unfold fX6_choose_b9 at hf
  refine lv_iconst (v := -1) hx hb dX6_choose_9 (by decide) ?_
  obtain ⟨he1, he2⟩ := s_ret hf
  exact W.iret hx hb hr (fun t ht hW => ⟨⟨_, (), rfl, he1, s_fin (Wd := (s_WC cy ad sh)) ht he2 hP⟩, hS.F ht⟩) hS.2.2 dX6_choose_10 hlk
set_option maxRecDepth 100000 in
set_option maxHeartbeats 4000000 in
theorem kX6_choose (C : s_X p s m meth c args cX6_choose (some .int) 3 RX6 G cy sa ad 19) (σ : Sg) (x1 : Int32) (ls : Array Slot) (H : Heap) (locs : List Loc) (hl : lv_has ls 3 [(0, .ref (ad 0)), (1, .int x1)]) (hP : va_P G vwCl ((s_WC cy ad sh) σ) H) (hS : va_S (s_A ad 19 s.heap.size) s.heap H locs) (hf : fX6_choose σ x1 = some (re, σe)) : W p l e ({ frames := 0, cells := 0, slots := 0, locals := 0 } : Room) s m args below meth c H locs 0 0 (MQ below (s_Qi (s_WC cy ad sh) G (s_A ad 19 s.heap.size) re σe) args s 0 0 (s_A ad 19 s.heap.size)) (F0 m 0 ls []) := by
  obtain ⟨hx, hb, hr, hml, hown, hts, hlk, hK, hE, hI⟩ := id C
  have hD : ∀ σ : Sg, va_D (s_A ad 19 s.heap.size) ((s_WC cy ad sh) σ) := fun σ => s_D (s_WC_ad cy ad sh σ) hI (fun k hk => Or.inl ⟨k, hk, rfl⟩)
  unfold fX6_choose at hf
  refine lv_iload_n hx hb dX6_choose_0 rfl (lv_at hl 1 rfl) ?_
  refine lv_if_lt (tgt := 9) hx hb dX6_choose_1 (by decide) (fun c1 => ?_) (fun c1 => ?_)
  · rw [if_pos c1] at hf
    exact kX6_choose_b9 C σ _ _ _ (lv_sub hl [] rfl) hP hS hf
  · rw [if_neg c1] at hf
    refine lv_iload_n hx hb dX6_choose_4 rfl (lv_at hl 1 rfl) ?_
    refine lv_iconst (v := 4) hx hb dX6_choose_5 (by decide) ?_
    refine lv_icmp_le (tgt := 11) hx hb dX6_choose_6 (by decide) (fun c2 => ?_) (fun c2 => ?_)
    · rw [if_pos c2] at hf
      refine lv_aload_n hx hb dX6_choose_11 rfl (lv_at hl 0 rfl) ?_
      refine va_get (D := G) (ci := 6) (v := .ref (ad 6)) (C := RX6) (T := TX6) (N := 9) hx hb hts inkX6 hown hK hP 0 rfl rfl 2 (by decide) (hts _ kw_232) (fun _ h9 => h9) rfl dX6_choose_12 ?_
      refine va_getN (D := G) (ci := 1) (v := .int (σ 6 6)) (C := RX1) (T := TX1) (N := 8) hx hb hts inkX1 hown hK hP 6 rfl rfl 6 (by decide) (kn_X6_110 hE) (fun _ h9 => h9) rfl dX6_choose_15 ?_
      refine lv_topi (fun t3 et3 => ?_)
      replace hf := s_lt_at et3 hf
      refine lv_istore_n (lv' := [(2, .int t3), (0, .ref (ad 0)), (1, .int x1)]) hx hb dX6_choose_18 rfl hl (by decide) rfl (fun ls hl => ?_)
      refine lv_aload_n hx hb dX6_choose_19 rfl (lv_at hl 1 rfl) ?_
      refine va_get (D := G) (ci := 6) (v := .ref (ad 6)) (C := RX6) (T := TX6) (N := 9) hx hb hts inkX6 hown hK hP 0 rfl rfl 2 (by decide) (hts _ kw_232) (fun _ h9 => h9) rfl dX6_choose_20 ?_
      refine lv_iload_n hx hb dX6_choose_23 rfl (lv_at hl 2 rfl) ?_
      refine va_putN (D := G) (ci := 1) (v := .int x1) (ty := .int) (C := RX1) (T := TX1) (N := 8) hx hb hts inkX1 tyX1 tyX1_ok nmX1 hown hK hP (hD _) hS 6 rfl rfl 6 (by decide) (kn_X6_110 hE) (fun _ h9 => h9) rfl (by decide +kernel) rfl rfl (Nat.le_of_ble_eq_true rfl) dX6_choose_24 (fun H locs hP _ hS => ?_)
      obtain ⟨σ4, eσ4⟩ : ∃ z : Sg, z = (s_up σ 6 6 x1) := ⟨_, rfl⟩
      replace hf := s_lt_at eσ4 hf
      replace hP : va_P G vwCl ((s_WC cy ad sh) σ4) H := by rw [eσ4]; exact hP
      refine lv_iload_n hx hb dX6_choose_27 rfl (lv_at hl 0 rfl) ?_
      obtain ⟨he1, he2⟩ := s_ret hf
      exact W.iret hx hb hr (fun t ht hW => ⟨⟨_, (), rfl, he1, s_fin (Wd := (s_WC cy ad sh)) ht he2 hP⟩, hS.F ht⟩) hS.2.2 dX6_choose_28 hlk
    · rw [if_neg c2] at hf
      exact kX6_choose_b9 C σ _ _ _ (lv_sub hl [] rfl) hP hS hf
theorem kcX6_choose {l : Launch} {G : va_G} {cy : Nat → ClassId} {sa : Nat × Nat} {ad : Nat → Nat} {sh : Nat → Option Nat} {sz : Nat} (hI : s_inj ad 19) (σ : Sg) (x1 : Int32) {re : Int32} {σe : Sg} (hf : fX6_choose σ x1 = some (re, σe)) : Met l yX6_choose (kW yX6_choose cX6_choose 3 (some .int)) ({ frames := 0, cells := 0, slots := 0, locals := 0 } : Room) (s_P (s_WC cy ad sh) G cy sa ad 19 [.ref (ad 0), .int x1] sz σ) (s_Qi (s_WC cy ad sh) G (s_A ad 19 sz) re σe) 0 0 (s_A ad 19 sz) := by
  refine s_met (own := RX6) (by decide) rfl hI (Nat.le_of_ble_eq_true rfl) (fun p e s m below meth c ls hsz C hP hl => ?_)
  subst hsz
  exact kX6_choose C σ x1 ls _ _ hl hP va_S.rf hf
set_option maxRecDepth 100000 in
set_option maxHeartbeats 4000000 in
theorem kX6_form_b9 (C : s_X p s m meth c args cX6_form (some .int) 3 RX6 G cy sa ad 19) (σ : Sg) (ls : Array Slot) (H : Heap) (locs : List Loc) (hl : lv_has ls 3 []) (hP : va_P G vwCl ((s_WC cy ad sh) σ) H) (hS : va_S (s_A ad 19 s.heap.size) s.heap H locs) (hf : fX6_form_b9 σ = some (re, σe)) : W p l e ({ frames := 0, cells := 0, slots := 0, locals := 0 } : Room) s m args below meth c H locs 0 0 (MQ below (s_Qi (s_WC cy ad sh) G (s_A ad 19 s.heap.size) re σe) args s 0 0 (s_A ad 19 s.heap.size)) (F0 m 9 ls []) := by
  obtain ⟨hx, hb, hr, hml, hown, hts, hlk, hK, hE, hI⟩ := id C
  have hD : ∀ σ : Sg, va_D (s_A ad 19 s.heap.size) ((s_WC cy ad sh) σ) := fun σ => s_D (s_WC_ad cy ad sh σ) hI (fun k hk => Or.inl ⟨k, hk, rfl⟩)
  unfold fX6_form_b9 at hf
  refine lv_iconst (v := -1) hx hb dX6_form_9 (by decide) ?_
  obtain ⟨he1, he2⟩ := s_ret hf
  exact W.iret hx hb hr (fun t ht hW => ⟨⟨_, (), rfl, he1, s_fin (Wd := (s_WC cy ad sh)) ht he2 hP⟩, hS.F ht⟩) hS.2.2 dX6_form_10 hlk
set_option maxRecDepth 100000 in
set_option maxHeartbeats 4000000 in
theorem kX6_form (C : s_X p s m meth c args cX6_form (some .int) 3 RX6 G cy sa ad 19) (σ : Sg) (x1 : Int32) (ls : Array Slot) (H : Heap) (locs : List Loc) (hl : lv_has ls 3 [(0, .ref (ad 0)), (1, .int x1)]) (hP : va_P G vwCl ((s_WC cy ad sh) σ) H) (hS : va_S (s_A ad 19 s.heap.size) s.heap H locs) (hf : fX6_form σ x1 = some (re, σe)) : W p l e ({ frames := 0, cells := 0, slots := 0, locals := 0 } : Room) s m args below meth c H locs 0 0 (MQ below (s_Qi (s_WC cy ad sh) G (s_A ad 19 s.heap.size) re σe) args s 0 0 (s_A ad 19 s.heap.size)) (F0 m 0 ls []) := by
  obtain ⟨hx, hb, hr, hml, hown, hts, hlk, hK, hE, hI⟩ := id C
  have hD : ∀ σ : Sg, va_D (s_A ad 19 s.heap.size) ((s_WC cy ad sh) σ) := fun σ => s_D (s_WC_ad cy ad sh σ) hI (fun k hk => Or.inl ⟨k, hk, rfl⟩)
  unfold fX6_form at hf
  refine lv_iload_n hx hb dX6_form_0 rfl (lv_at hl 1 rfl) ?_
  refine lv_if_lt (tgt := 9) hx hb dX6_form_1 (by decide) (fun c1 => ?_) (fun c1 => ?_)
  · rw [if_pos c1] at hf
    exact kX6_form_b9 C σ _ _ _ (lv_sub hl [] rfl) hP hS hf
  · rw [if_neg c1] at hf
    refine lv_iload_n hx hb dX6_form_4 rfl (lv_at hl 1 rfl) ?_
    refine lv_iconst (v := 2) hx hb dX6_form_5 (by decide) ?_
    refine lv_icmp_le (tgt := 11) hx hb dX6_form_6 (by decide) (fun c2 => ?_) (fun c2 => ?_)
    · rw [if_pos c2] at hf
      refine lv_aload_n hx hb dX6_form_11 rfl (lv_at hl 0 rfl) ?_
      refine va_get (D := G) (ci := 6) (v := .ref (ad 6)) (C := RX6) (T := TX6) (N := 9) hx hb hts inkX6 hown hK hP 0 rfl rfl 2 (by decide) (hts _ kw_232) (fun _ h9 => h9) rfl dX6_form_12 ?_
      refine va_getN (D := G) (ci := 1) (v := .int (σ 6 7)) (C := RX1) (T := TX1) (N := 8) hx hb hts inkX1 hown hK hP 6 rfl rfl 7 (by decide) (kn_X6_113 hE) (fun _ h9 => h9) rfl dX6_form_15 ?_
      refine lv_topi (fun t3 et3 => ?_)
      replace hf := s_lt_at et3 hf
      refine lv_istore_n (lv' := [(2, .int t3), (0, .ref (ad 0)), (1, .int x1)]) hx hb dX6_form_18 rfl hl (by decide) rfl (fun ls hl => ?_)
      refine lv_aload_n hx hb dX6_form_19 rfl (lv_at hl 1 rfl) ?_
      refine va_get (D := G) (ci := 6) (v := .ref (ad 6)) (C := RX6) (T := TX6) (N := 9) hx hb hts inkX6 hown hK hP 0 rfl rfl 2 (by decide) (hts _ kw_232) (fun _ h9 => h9) rfl dX6_form_20 ?_
      refine lv_iload_n hx hb dX6_form_23 rfl (lv_at hl 2 rfl) ?_
      refine va_putN (D := G) (ci := 1) (v := .int x1) (ty := .int) (C := RX1) (T := TX1) (N := 8) hx hb hts inkX1 tyX1 tyX1_ok nmX1 hown hK hP (hD _) hS 6 rfl rfl 7 (by decide) (kn_X6_113 hE) (fun _ h9 => h9) rfl (by decide +kernel) rfl rfl (Nat.le_of_ble_eq_true rfl) dX6_form_24 (fun H locs hP _ hS => ?_)
      obtain ⟨σ4, eσ4⟩ : ∃ z : Sg, z = (s_up σ 6 7 x1) := ⟨_, rfl⟩
      replace hf := s_lt_at eσ4 hf
      replace hP : va_P G vwCl ((s_WC cy ad sh) σ4) H := by rw [eσ4]; exact hP
      refine lv_iload_n hx hb dX6_form_27 rfl (lv_at hl 0 rfl) ?_
      obtain ⟨he1, he2⟩ := s_ret hf
      exact W.iret hx hb hr (fun t ht hW => ⟨⟨_, (), rfl, he1, s_fin (Wd := (s_WC cy ad sh)) ht he2 hP⟩, hS.F ht⟩) hS.2.2 dX6_form_28 hlk
    · rw [if_neg c2] at hf
      exact kX6_form_b9 C σ _ _ _ (lv_sub hl [] rfl) hP hS hf
theorem kcX6_form {l : Launch} {G : va_G} {cy : Nat → ClassId} {sa : Nat × Nat} {ad : Nat → Nat} {sh : Nat → Option Nat} {sz : Nat} (hI : s_inj ad 19) (σ : Sg) (x1 : Int32) {re : Int32} {σe : Sg} (hf : fX6_form σ x1 = some (re, σe)) : Met l yX6_form (kW yX6_form cX6_form 3 (some .int)) ({ frames := 0, cells := 0, slots := 0, locals := 0 } : Room) (s_P (s_WC cy ad sh) G cy sa ad 19 [.ref (ad 0), .int x1] sz σ) (s_Qi (s_WC cy ad sh) G (s_A ad 19 sz) re σe) 0 0 (s_A ad 19 sz) := by
  refine s_met (own := RX6) (by decide) rfl hI (Nat.le_of_ble_eq_true rfl) (fun p e s m below meth c ls hsz C hP hl => ?_)
  subst hsz
  exact kX6_form C σ x1 ls _ _ hl hP va_S.rf hf
set_option maxRecDepth 100000 in
set_option maxHeartbeats 4000000 in
theorem kX1_latestValue_6_b7 (C : s_X p s m meth c args cX1_latestValue (some .int) 2 RX1 G cy sa ad 19) (k7 : Sg → Int32 → Option (Int32 × Sg)) (hk7 : ∀ (σ : Sg) (x1 : Int32) (ls : Array Slot) (H : Heap) (locs : List Loc), lv_has ls 2 [(0, .ref (ad 6)), (1, .int x1)] → va_P G vwCl ((s_WC cy ad sh) σ) H → va_S (s_A ad 19 s.heap.size) s.heap H locs → k7 σ x1 = some (re, σe) → W p l e ({ frames := 0, cells := 0, slots := 0, locals := 0 } : Room) s m args below meth c H locs 0 0 (MQ below (s_Qi (s_WC cy ad sh) G (s_A ad 19 s.heap.size) re σe) args s 0 0 (s_A ad 19 s.heap.size)) (F0 m 7 ls [])) (σ : Sg) (x1 : Int32) (ls : Array Slot) (H : Heap) (locs : List Loc) (hl : lv_has ls 2 [(0, .ref (ad 6)), (1, .int x1)]) (hP : va_P G vwCl ((s_WC cy ad sh) σ) H) (hS : va_S (s_A ad 19 s.heap.size) s.heap H locs) (hf : fX1_latestValue_6_b7 k7 σ x1 = some (re, σe)) : W p l e ({ frames := 0, cells := 0, slots := 0, locals := 0 } : Room) s m args below meth c H locs 0 0 (MQ below (s_Qi (s_WC cy ad sh) G (s_A ad 19 s.heap.size) re σe) args s 0 0 (s_A ad 19 s.heap.size)) (F0 m 7 ls []) := by
  obtain ⟨hx, hb, hr, hml, hown, hts, hlk, hK, hE, hI⟩ := id C
  have hD : ∀ σ : Sg, va_D (s_A ad 19 s.heap.size) ((s_WC cy ad sh) σ) := fun σ => s_D (s_WC_ad cy ad sh σ) hI (fun k hk => Or.inl ⟨k, hk, rfl⟩)
  unfold fX1_latestValue_6_b7 at hf
  refine lv_iload_n hx hb dX1_latestValue_7 rfl (lv_at hl 1 rfl) ?_
  refine lv_if_lt (tgt := 35) hx hb dX1_latestValue_8 (by decide) (fun c1 => ?_) (fun c1 => ?_)
  · rw [if_pos c1] at hf
    refine lv_iconst (v := 0) hx hb dX1_latestValue_35 (by decide) ?_
    obtain ⟨he1, he2⟩ := s_ret hf
    exact W.iret hx hb hr (fun t ht hW => ⟨⟨_, (), rfl, he1, s_fin (Wd := (s_WC cy ad sh)) ht he2 hP⟩, hS.F ht⟩) hS.2.2 dX1_latestValue_36 hlk
  · rw [if_neg c1] at hf
    refine lv_aload_n hx hb dX1_latestValue_11 rfl (lv_at hl 0 rfl) ?_
    refine va_get (D := G) (ci := 1) (v := .ref (ad 7)) (C := RX1) (T := TX1) (N := 8) hx hb hts inkX1 hown hK hP 6 rfl rfl 0 (by decide) (hts _ kw_109) (fun _ h9 => h9) rfl dX1_latestValue_12 ?_
    refine lv_iload_n hx hb dX1_latestValue_15 rfl (lv_at hl 1 rfl) ?_
    replace hf := s_gd_some hf
    obtain ⟨g2, hf⟩ := hf
    refine va_iald hx hb hK hP 7 1 rfl rfl (s_in_of g2) dX1_latestValue_16 ?_
    refine lv_ldc (v := 100000000) hx hb hown (hts _ kw_436) dX1_latestValue_17 ?_
    refine lv_icmp_eq (tgt := 29) hx hb dX1_latestValue_19 (by decide) (fun c3 => ?_) (fun c3 => ?_)
    · rw [if_pos c3] at hf
      obtain ⟨t4, et4⟩ : ∃ z : Int32, z = (x1 + (-1)) := ⟨_, rfl⟩
      replace hf := s_lt_at et4 hf
      refine lv_iinc (v := t4) (lv' := [(1, .int t4), (0, .ref (ad 6))]) hx hb dX1_latestValue_29 hl (k := 1) rfl (by rw [et4]; rfl) (by decide) rfl (fun ls hl => ?_)
      refine lv_goto (tgt := 7) hx hb dX1_latestValue_32 (by decide) ?_
      exact hk7 σ t4 _ _ _ (lv_sub hl [1, 0] rfl) hP hS hf
    · rw [if_neg c3] at hf
      refine lv_aload_n hx hb dX1_latestValue_22 rfl (lv_at hl 0 rfl) ?_
      refine va_get (D := G) (ci := 1) (v := .ref (ad 7)) (C := RX1) (T := TX1) (N := 8) hx hb hts inkX1 hown hK hP 6 rfl rfl 0 (by decide) (hts _ kw_109) (fun _ h9 => h9) rfl dX1_latestValue_23 ?_
      refine lv_iload_n hx hb dX1_latestValue_26 rfl (lv_at hl 1 rfl) ?_
      replace hf := s_gd_some hf
      obtain ⟨g5, hf⟩ := hf
      refine va_iald hx hb hK hP 7 1 rfl rfl (s_in_of g5) dX1_latestValue_27 ?_
      obtain ⟨he1, he2⟩ := s_ret hf
      exact W.iret hx hb hr (fun t ht hW => ⟨⟨_, (), rfl, he1, s_fin (Wd := (s_WC cy ad sh)) ht he2 hP⟩, hS.F ht⟩) hS.2.2 dX1_latestValue_28 hlk
set_option maxRecDepth 100000 in
set_option maxHeartbeats 4000000 in
theorem kX1_latestValue_6_b7_L (C : s_X p s m meth c args cX1_latestValue (some .int) 2 RX1 G cy sa ad 19) : ∀ (n : Nat), ∀ (σ : Sg) (x1 : Int32) (ls : Array Slot) (H : Heap) (locs : List Loc), lv_has ls 2 [(0, .ref (ad 6)), (1, .int x1)] → va_P G vwCl ((s_WC cy ad sh) σ) H → va_S (s_A ad 19 s.heap.size) s.heap H locs → fX1_latestValue_6_b7_L n σ x1 = some (re, σe) → W p l e ({ frames := 0, cells := 0, slots := 0, locals := 0 } : Room) s m args below meth c H locs 0 0 (MQ below (s_Qi (s_WC cy ad sh) G (s_A ad 19 s.heap.size) re σe) args s 0 0 (s_A ad 19 s.heap.size)) (F0 m 7 ls []) := by
  intro n
  induction n with
  | zero => intro σ x1 ls H locs hl hP hS hf; exact absurd (show (none : Option (Int32 × Sg)) = some (re, σe) from hf) (by intro h; cases h)
  | succ n ih => intro σ x1 ls H locs hl hP hS hf; exact kX1_latestValue_6_b7 C (fX1_latestValue_6_b7_L n) ih σ x1 ls H locs hl hP hS hf
set_option maxRecDepth 100000 in
set_option maxHeartbeats 4000000 in
theorem kX1_latestValue_6 (C : s_X p s m meth c args cX1_latestValue (some .int) 2 RX1 G cy sa ad 19) (σ : Sg) (ls : Array Slot) (H : Heap) (locs : List Loc) (hl : lv_has ls 2 [(0, .ref (ad 6))]) (hP : va_P G vwCl ((s_WC cy ad sh) σ) H) (hS : va_S (s_A ad 19 s.heap.size) s.heap H locs) (hf : fX1_latestValue_6 σ = some (re, σe)) : W p l e ({ frames := 0, cells := 0, slots := 0, locals := 0 } : Room) s m args below meth c H locs 0 0 (MQ below (s_Qi (s_WC cy ad sh) G (s_A ad 19 s.heap.size) re σe) args s 0 0 (s_A ad 19 s.heap.size)) (F0 m 0 ls []) := by
  obtain ⟨hx, hb, hr, hml, hown, hts, hlk, hK, hE, hI⟩ := id C
  have hD : ∀ σ : Sg, va_D (s_A ad 19 s.heap.size) ((s_WC cy ad sh) σ) := fun σ => s_D (s_WC_ad cy ad sh σ) hI (fun k hk => Or.inl ⟨k, hk, rfl⟩)
  unfold fX1_latestValue_6 at hf
  refine lv_aload_n hx hb dX1_latestValue_0 rfl (lv_at hl 0 rfl) ?_
  refine va_get (D := G) (ci := 1) (v := .int (σ 6 1)) (C := RX1) (T := TX1) (N := 8) hx hb hts inkX1 hown hK hP 6 rfl rfl 1 (by decide) (hts _ kw_110) (fun _ h9 => h9) rfl dX1_latestValue_1 ?_
  refine lv_iconst (v := 1) hx hb dX1_latestValue_4 (by decide) ?_
  refine lv_isub hx hb dX1_latestValue_5 ?_
  refine lv_topi (fun t1 et1 => ?_)
  replace hf := s_lt_at et1 hf
  refine lv_istore_n (lv' := [(1, .int t1), (0, .ref (ad 6))]) hx hb dX1_latestValue_6 rfl hl (by decide) rfl (fun ls hl => ?_)
  exact kX1_latestValue_6_b7_L C s_fu σ t1 _ _ _ (lv_sub hl [1, 0] rfl) hP hS hf
theorem kcX1_latestValue_6 {l : Launch} {G : va_G} {cy : Nat → ClassId} {sa : Nat × Nat} {ad : Nat → Nat} {sh : Nat → Option Nat} {sz : Nat} (hI : s_inj ad 19) (σ : Sg) {re : Int32} {σe : Sg} (hf : fX1_latestValue_6 σ = some (re, σe)) : Met l yX1_latestValue (kW yX1_latestValue cX1_latestValue 2 (some .int)) ({ frames := 0, cells := 0, slots := 0, locals := 0 } : Room) (s_P (s_WC cy ad sh) G cy sa ad 19 [.ref (ad 6)] sz σ) (s_Qi (s_WC cy ad sh) G (s_A ad 19 sz) re σe) 0 0 (s_A ad 19 sz) := by
  refine s_met (own := RX1) (by decide) rfl hI (Nat.le_of_ble_eq_true rfl) (fun p e s m below meth c ls hsz C hP hl => ?_)
  subst hsz
  exact kX1_latestValue_6 C σ ls _ _ hl hP va_S.rf hf
set_option maxRecDepth 100000 in
set_option maxHeartbeats 4000000 in
theorem kX6_drift_b11 (C : s_X p s m meth c args cX6_drift (some .int) 8 RX6 G cy sa ad 19) (σ : Sg) (ls : Array Slot) (H : Heap) (locs : List Loc) (hl : lv_has ls 8 []) (hP : va_P G vwCl ((s_WC cy ad sh) σ) H) (hS : va_S (s_A ad 19 s.heap.size) s.heap H locs) (hf : fX6_drift_b11 σ = some (re, σe)) : W p l e ({ frames := 2, cells := 0, slots := 0, locals := 41 } : Room) s m args below meth c H locs 0 0 (MQ below (s_Qi (s_WC cy ad sh) G (s_A ad 19 s.heap.size) re σe) args s 0 0 (s_A ad 19 s.heap.size)) (F0 m 11 ls []) := by
  obtain ⟨hx, hb, hr, hml, hown, hts, hlk, hK, hE, hI⟩ := id C
  have hD : ∀ σ : Sg, va_D (s_A ad 19 s.heap.size) ((s_WC cy ad sh) σ) := fun σ => s_D (s_WC_ad cy ad sh σ) hI (fun k hk => Or.inl ⟨k, hk, rfl⟩)
  unfold fX6_drift_b11 at hf
  refine lv_iconst (v := -1) hx hb dX6_drift_11 (by decide) ?_
  obtain ⟨he1, he2⟩ := s_ret hf
  exact W.iret hx hb hr (fun t ht hW => ⟨⟨_, (), rfl, he1, s_fin (Wd := (s_WC cy ad sh)) ht he2 hP⟩, hS.F ht⟩) hS.2.2 dX6_drift_12 hlk
set_option maxRecDepth 100000 in
set_option maxHeartbeats 4000000 in
theorem kX6_drift_b129 (C : s_X p s m meth c args cX6_drift (some .int) 8 RX6 G cy sa ad 19) (σ : Sg) (x4 : Int32) (ls : Array Slot) (H : Heap) (locs : List Loc) (hl : lv_has ls 8 [(4, .int x4)]) (hP : va_P G vwCl ((s_WC cy ad sh) σ) H) (hS : va_S (s_A ad 19 s.heap.size) s.heap H locs) (hf : fX6_drift_b129 σ x4 = some (re, σe)) : W p l e ({ frames := 2, cells := 0, slots := 0, locals := 41 } : Room) s m args below meth c H locs 0 0 (MQ below (s_Qi (s_WC cy ad sh) G (s_A ad 19 s.heap.size) re σe) args s 0 0 (s_A ad 19 s.heap.size)) (F0 m 129 ls []) := by
  obtain ⟨hx, hb, hr, hml, hown, hts, hlk, hK, hE, hI⟩ := id C
  have hD : ∀ σ : Sg, va_D (s_A ad 19 s.heap.size) ((s_WC cy ad sh) σ) := fun σ => s_D (s_WC_ad cy ad sh σ) hI (fun k hk => Or.inl ⟨k, hk, rfl⟩)
  unfold fX6_drift_b129 at hf
  refine lv_iload hx hb dX6_drift_129 (lv_at hl 0 rfl) ?_
  obtain ⟨he1, he2⟩ := s_ret hf
  exact W.iret hx hb hr (fun t ht hW => ⟨⟨_, (), rfl, he1, s_fin (Wd := (s_WC cy ad sh)) ht he2 hP⟩, hS.F ht⟩) hS.2.2 dX6_drift_131 hlk
set_option maxRecDepth 100000 in
set_option maxHeartbeats 4000000 in
theorem kX6_drift_b120 (C : s_X p s m meth c args cX6_drift (some .int) 8 RX6 G cy sa ad 19) (k27 : Sg → Int32 → Int32 → Int32 → Int32 → Int32 → Option (Int32 × Sg)) (hk27 : ∀ (σ : Sg) (x1 : Int32) (x2 : Int32) (x3 : Int32) (x4 : Int32) (x5 : Int32) (ls : Array Slot) (H : Heap) (locs : List Loc), lv_has ls 8 [(0, .ref (ad 0)), (1, .int x1), (2, .int x2), (3, .int x3), (4, .int x4), (5, .int x5)] → va_P G vwCl ((s_WC cy ad sh) σ) H → va_S (s_A ad 19 s.heap.size) s.heap H locs → k27 σ x1 x2 x3 x4 x5 = some (re, σe) → W p l e ({ frames := 2, cells := 0, slots := 0, locals := 41 } : Room) s m args below meth c H locs 0 0 (MQ below (s_Qi (s_WC cy ad sh) G (s_A ad 19 s.heap.size) re σe) args s 0 0 (s_A ad 19 s.heap.size)) (F0 m 27 ls [])) (σ : Sg) (x1 : Int32) (x2 : Int32) (x3 : Int32) (x4 : Int32) (x5 : Int32) (ls : Array Slot) (H : Heap) (locs : List Loc) (hl : lv_has ls 8 [(0, .ref (ad 0)), (1, .int x1), (2, .int x2), (3, .int x3), (4, .int x4), (5, .int x5)]) (hP : va_P G vwCl ((s_WC cy ad sh) σ) H) (hS : va_S (s_A ad 19 s.heap.size) s.heap H locs) (hf : fX6_drift_b120 k27 σ x1 x2 x3 x4 x5 = some (re, σe)) : W p l e ({ frames := 2, cells := 0, slots := 0, locals := 41 } : Room) s m args below meth c H locs 0 0 (MQ below (s_Qi (s_WC cy ad sh) G (s_A ad 19 s.heap.size) re σe) args s 0 0 (s_A ad 19 s.heap.size)) (F0 m 120 ls []) := by
  obtain ⟨hx, hb, hr, hml, hown, hts, hlk, hK, hE, hI⟩ := id C
  have hD : ∀ σ : Sg, va_D (s_A ad 19 s.heap.size) ((s_WC cy ad sh) σ) := fun σ => s_D (s_WC_ad cy ad sh σ) hI (fun k hk => Or.inl ⟨k, hk, rfl⟩)
  unfold fX6_drift_b120 at hf
  obtain ⟨t1, et1⟩ : ∃ z : Int32, z = (x4 + 1) := ⟨_, rfl⟩
  replace hf := s_lt_at et1 hf
  refine lv_iinc (v := t1) (lv' := [(4, .int t1), (0, .ref (ad 0)), (1, .int x1), (2, .int x2), (3, .int x3), (5, .int x5)]) hx hb dX6_drift_120 hl (k := 4) rfl (by rw [et1]; rfl) (by decide) rfl (fun ls hl => ?_)
  obtain ⟨t2, et2⟩ : ∃ z : Int32, z = (x5 + 1) := ⟨_, rfl⟩
  replace hf := s_lt_at et2 hf
  refine lv_iinc (v := t2) (lv' := [(5, .int t2), (4, .int t1), (0, .ref (ad 0)), (1, .int x1), (2, .int x2), (3, .int x3)]) hx hb dX6_drift_123 hl (k := 5) rfl (by rw [et2]; rfl) (by decide) rfl (fun ls hl => ?_)
  refine lv_goto (tgt := 27) hx hb dX6_drift_126 (by decide) ?_
  exact hk27 σ x1 x2 x3 t1 t2 _ _ _ (lv_sub hl [2, 3, 4, 5, 1, 0] rfl) hP hS hf
set_option maxRecDepth 100000 in
set_option maxHeartbeats 4000000 in
theorem kX6_drift_b27 (C : s_X p s m meth c args cX6_drift (some .int) 8 RX6 G cy sa ad 19) (k27 : Sg → Int32 → Int32 → Int32 → Int32 → Int32 → Option (Int32 × Sg)) (hk27 : ∀ (σ : Sg) (x1 : Int32) (x2 : Int32) (x3 : Int32) (x4 : Int32) (x5 : Int32) (ls : Array Slot) (H : Heap) (locs : List Loc), lv_has ls 8 [(0, .ref (ad 0)), (1, .int x1), (2, .int x2), (3, .int x3), (4, .int x4), (5, .int x5)] → va_P G vwCl ((s_WC cy ad sh) σ) H → va_S (s_A ad 19 s.heap.size) s.heap H locs → k27 σ x1 x2 x3 x4 x5 = some (re, σe) → W p l e ({ frames := 2, cells := 0, slots := 0, locals := 41 } : Room) s m args below meth c H locs 0 0 (MQ below (s_Qi (s_WC cy ad sh) G (s_A ad 19 s.heap.size) re σe) args s 0 0 (s_A ad 19 s.heap.size)) (F0 m 27 ls [])) (σ : Sg) (x1 : Int32) (x2 : Int32) (x3 : Int32) (x4 : Int32) (x5 : Int32) (ls : Array Slot) (H : Heap) (locs : List Loc) (hl : lv_has ls 8 [(0, .ref (ad 0)), (1, .int x1), (2, .int x2), (3, .int x3), (4, .int x4), (5, .int x5)]) (hP : va_P G vwCl ((s_WC cy ad sh) σ) H) (hS : va_S (s_A ad 19 s.heap.size) s.heap H locs) (hf : fX6_drift_b27 k27 σ x1 x2 x3 x4 x5 = some (re, σe)) : W p l e ({ frames := 2, cells := 0, slots := 0, locals := 41 } : Room) s m args below meth c H locs 0 0 (MQ below (s_Qi (s_WC cy ad sh) G (s_A ad 19 s.heap.size) re σe) args s 0 0 (s_A ad 19 s.heap.size)) (F0 m 27 ls []) := by
  obtain ⟨hx, hb, hr, hml, hown, hts, hlk, hK, hE, hI⟩ := id C
  have hD : ∀ σ : Sg, va_D (s_A ad 19 s.heap.size) ((s_WC cy ad sh) σ) := fun σ => s_D (s_WC_ad cy ad sh σ) hI (fun k hk => Or.inl ⟨k, hk, rfl⟩)
  unfold fX6_drift_b27 at hf
  refine lv_iload hx hb dX6_drift_27 (lv_at hl 5 rfl) ?_
  refine lv_iload_n hx hb dX6_drift_29 rfl (lv_at hl 2 rfl) ?_
  refine lv_icmp_ge (tgt := 129) hx hb dX6_drift_30 (by decide) (fun c1 => ?_) (fun c1 => ?_)
  · rw [if_pos c1] at hf
    exact kX6_drift_b129 C σ x4 _ _ _ (lv_sub hl [4] rfl) hP hS hf
  · rw [if_neg c1] at hf
    refine lv_aload_n hx hb dX6_drift_33 rfl (lv_at hl 0 rfl) ?_
    refine va_get (D := G) (ci := 6) (v := .ref (ad 6)) (C := RX6) (T := TX6) (N := 9) hx hb hts inkX6 hown hK hP 0 rfl rfl 2 (by decide) (hts _ kw_232) (fun _ h9 => h9) rfl dX6_drift_34 ?_
    replace hf := s_bi_some hf
    obtain ⟨r4, σ2, hz3, hf⟩ := hf
    refine s_calli (nn := 0) C (kcX1_isFull_6 (l := l) (G := G) (cy := cy) (sa := sa) (sh := sh) hI (sz := H.size) σ hz3) gk_X6_211 rfl rfl (by decide +kernel) ⟨Nat.le_of_ble_eq_true rfl, Nat.le_of_ble_eq_true rfl⟩ hP hS (q0 := 6) (ci := 1) rfl rfl rfl (As := []) (rest := []) rfl rfl hl.1 (Nat.le_of_ble_eq_true rfl) dX6_drift_37 (fun H locs hP hS => ?_)
    refine lv_if_ne (tgt := 129) hx hb dX6_drift_40 (by decide) (fun c5 => ?_) (fun c5 => ?_)
    · rw [if_neg c5] at hf
      exact kX6_drift_b129 C σ2 x4 _ _ _ (lv_sub hl [4] rfl) hP hS hf
    · rw [if_pos c5] at hf
      refine lv_iload_n hx hb dX6_drift_43 rfl (lv_at hl 1 rfl) ?_
      refine lv_ldc (v := 1103515245) hx hb hown (hts _ kw_680) dX6_drift_44 ?_
      refine lv_imul hx hb dX6_drift_46 ?_
      refine lv_sipush (v := 12345) hx hb dX6_drift_47 (by decide) ?_
      refine lv_iadd hx hb dX6_drift_50 ?_
      refine lv_topi (fun t6 et6 => ?_)
      replace hf := s_lt_at et6 hf
      refine lv_istore_n (lv' := [(1, .int t6), (0, .ref (ad 0)), (2, .int x2), (3, .int x3), (4, .int x4), (5, .int x5)]) hx hb dX6_drift_51 rfl hl (by decide) rfl (fun ls hl => ?_)
      refine lv_iload_n hx hb dX6_drift_52 rfl (lv_at hl 0 rfl) ?_
      refine lv_bipush (v := 16) hx hb dX6_drift_53 (by decide) ?_
      refine lv_iushr (v := (s_ushr t6 (16 : Int32))) hx hb dX6_drift_55 rfl ?_
      refine lv_sipush (v := 32767) hx hb dX6_drift_56 (by decide) ?_
      refine lv_iand hx hb dX6_drift_59 ?_
      refine lv_topi (fun t7 et7 => ?_)
      replace hf := s_lt_at et7 hf
      refine lv_istore (lv' := [(6, .int t7), (1, .int t6), (0, .ref (ad 0)), (2, .int x2), (3, .int x3), (4, .int x4), (5, .int x5)]) hx hb dX6_drift_60 hl (by decide) rfl (fun ls hl => ?_)
      refine lv_iload hx hb dX6_drift_62 (lv_at hl 0 rfl) ?_
      refine lv_bipush (v := 9) hx hb dX6_drift_64 (by decide) ?_
      refine lv_irem hx hb dX6_drift_66 (by decide) ?_
      refine lv_topi (fun t8 et8 => ?_)
      replace hf := s_lt_at et8 hf
      refine lv_if_ne (tgt := 82) hx hb dX6_drift_67 (by decide) (fun c9 => ?_) (fun c9 => ?_)
      · rw [if_neg c9] at hf
        refine lv_iload_n hx hb dX6_drift_82 rfl (lv_at hl 4 rfl) ?_
        refine lv_iload hx hb dX6_drift_83 (lv_at hl 0 rfl) ?_
        refine lv_bipush (v := 16) hx hb dX6_drift_85 (by decide) ?_
        refine lv_idiv hx hb dX6_drift_87 (by decide) ?_
        refine lv_sipush (v := 401) hx hb dX6_drift_88 (by decide) ?_
        refine lv_irem hx hb dX6_drift_91 (by decide) ?_
        refine lv_topi (fun t10 et10 => ?_)
        replace hf := s_lt_at et10 hf
        refine lv_iadd hx hb dX6_drift_92 ?_
        refine lv_sipush (v := 200) hx hb dX6_drift_93 (by decide) ?_
        refine lv_isub hx hb dX6_drift_96 ?_
        refine lv_topi (fun t11 et11 => ?_)
        replace hf := s_lt_at et11 hf
        refine lv_istore (lv' := [(7, .int t11), (6, .int t7), (1, .int t6), (0, .ref (ad 0)), (2, .int x2), (3, .int x3), (4, .int x4), (5, .int x5)]) hx hb dX6_drift_97 hl (by decide) rfl (fun ls hl => ?_)
        refine lv_ldc (v := -999999) hx hb hown (hts _ kw_619) dX6_drift_99 ?_
        refine lv_ldc (v := 999999) hx hb hown (hts _ kw_620) dX6_drift_101 ?_
        refine lv_iload hx hb dX6_drift_103 (lv_at hl 0 rfl) ?_
        refine va_mmin hx hb (hml.trans hl.1.symm) hown (hts _ kw_681) (hts _ kw_682) (hts _ kw_66) (hts _ kw_683) (Nat.le_of_ble_eq_true rfl) (Nat.le_of_ble_eq_true rfl) (Nat.zero_le _) (Nat.zero_le _) dX6_drift_105 ?_
        refine lv_topi (fun t12 et12 => ?_)
        replace hf := s_lt_at et12 hf
        refine va_mmax hx hb (hml.trans hl.1.symm) hown (hts _ kw_607) (hts _ kw_377) (hts _ kw_66) (hts _ kw_378) (Nat.le_of_ble_eq_true rfl) (Nat.le_of_ble_eq_true rfl) (Nat.zero_le _) (Nat.zero_le _) dX6_drift_108 ?_
        refine lv_topi (fun t13 et13 => ?_)
        replace hf := s_lt_at et13 hf
        refine lv_istore_n (lv' := [(3, .int t13), (7, .int t11), (6, .int t7), (1, .int t6), (0, .ref (ad 0)), (2, .int x2), (4, .int x4), (5, .int x5)]) hx hb dX6_drift_111 rfl hl (by decide) rfl (fun ls hl => ?_)
        refine lv_aload_n hx hb dX6_drift_112 rfl (lv_at hl 4 rfl) ?_
        refine va_get (D := G) (ci := 6) (v := .ref (ad 6)) (C := RX6) (T := TX6) (N := 9) hx hb hts inkX6 hown hK hP 0 rfl rfl 2 (by decide) (hts _ kw_232) (fun _ h9 => h9) rfl dX6_drift_113 ?_
        refine lv_iload_n hx hb dX6_drift_116 rfl (lv_at hl 0 rfl) ?_
        replace hf := s_bv_some hf
        obtain ⟨σ14, hz15, hf⟩ := hf
        refine s_callv (nn := 1) C (kcX1_append_6 (l := l) (G := G) (cy := cy) (sa := sa) (sh := sh) hI (sz := H.size) σ2 t13 hz15) gk_X6_213 rfl rfl (by decide +kernel) ⟨Nat.le_of_ble_eq_true rfl, Nat.le_of_ble_eq_true rfl⟩ hP hS (q0 := 6) (ci := 1) rfl rfl rfl (As := [.int t13]) (rest := []) rfl rfl hl.1 (Nat.le_of_ble_eq_true rfl) dX6_drift_117 (fun H locs hP hS => ?_)
        exact kX6_drift_b120 C k27 hk27 σ14 t6 x2 t13 x4 x5 _ _ _ (lv_sub hl [4, 3, 5, 0, 6, 7] rfl) hP hS hf
      · rw [if_pos c9] at hf
        refine lv_aload_n hx hb dX6_drift_70 rfl (lv_at hl 2 rfl) ?_
        refine va_get (D := G) (ci := 6) (v := .ref (ad 6)) (C := RX6) (T := TX6) (N := 9) hx hb hts inkX6 hown hK hP 0 rfl rfl 2 (by decide) (hts _ kw_232) (fun _ h9 => h9) rfl dX6_drift_71 ?_
        refine lv_ldc (v := 100000000) hx hb hown (hts _ kw_498) dX6_drift_74 ?_
        replace hf := s_bv_some hf
        obtain ⟨σ16, hz17, hf⟩ := hf
        refine s_callv (nn := 1) C (kcX1_append_6 (l := l) (G := G) (cy := cy) (sa := sa) (sh := sh) hI (sz := H.size) σ2 (100000000 : Int32) hz17) gk_X6_213 rfl rfl (by decide +kernel) ⟨Nat.le_of_ble_eq_true rfl, Nat.le_of_ble_eq_true rfl⟩ hP hS (q0 := 6) (ci := 1) rfl rfl rfl (As := [.int (100000000 : Int32)]) (rest := []) rfl rfl hl.1 (Nat.le_of_ble_eq_true rfl) dX6_drift_76 (fun H locs hP hS => ?_)
        refine lv_goto (tgt := 120) hx hb dX6_drift_79 (by decide) ?_
        exact kX6_drift_b120 C k27 hk27 σ16 t6 x2 x3 x4 x5 _ _ _ (lv_sub hl [2, 1, 3, 4, 5, 6] rfl) hP hS hf
set_option maxRecDepth 100000 in
set_option maxHeartbeats 4000000 in
theorem kX6_drift_b27_L (C : s_X p s m meth c args cX6_drift (some .int) 8 RX6 G cy sa ad 19) : ∀ (n : Nat), ∀ (σ : Sg) (x1 : Int32) (x2 : Int32) (x3 : Int32) (x4 : Int32) (x5 : Int32) (ls : Array Slot) (H : Heap) (locs : List Loc), lv_has ls 8 [(0, .ref (ad 0)), (1, .int x1), (2, .int x2), (3, .int x3), (4, .int x4), (5, .int x5)] → va_P G vwCl ((s_WC cy ad sh) σ) H → va_S (s_A ad 19 s.heap.size) s.heap H locs → fX6_drift_b27_L n σ x1 x2 x3 x4 x5 = some (re, σe) → W p l e ({ frames := 2, cells := 0, slots := 0, locals := 41 } : Room) s m args below meth c H locs 0 0 (MQ below (s_Qi (s_WC cy ad sh) G (s_A ad 19 s.heap.size) re σe) args s 0 0 (s_A ad 19 s.heap.size)) (F0 m 27 ls []) := by
  intro n
  induction n with
  | zero => intro σ x1 x2 x3 x4 x5 ls H locs hl hP hS hf; exact absurd (show (none : Option (Int32 × Sg)) = some (re, σe) from hf) (by intro h; cases h)
  | succ n ih => intro σ x1 x2 x3 x4 x5 ls H locs hl hP hS hf; exact kX6_drift_b27 C (fX6_drift_b27_L n) ih σ x1 x2 x3 x4 x5 ls H locs hl hP hS hf
set_option maxRecDepth 100000 in
set_option maxHeartbeats 4000000 in
theorem kX6_drift (C : s_X p s m meth c args cX6_drift (some .int) 8 RX6 G cy sa ad 19) (σ : Sg) (x1 : Int32) (x2 : Int32) (ls : Array Slot) (H : Heap) (locs : List Loc) (hl : lv_has ls 8 [(0, .ref (ad 0)), (1, .int x1), (2, .int x2)]) (hP : va_P G vwCl ((s_WC cy ad sh) σ) H) (hS : va_S (s_A ad 19 s.heap.size) s.heap H locs) (hf : fX6_drift σ x1 x2 = some (re, σe)) : W p l e ({ frames := 2, cells := 0, slots := 0, locals := 41 } : Room) s m args below meth c H locs 0 0 (MQ below (s_Qi (s_WC cy ad sh) G (s_A ad 19 s.heap.size) re σe) args s 0 0 (s_A ad 19 s.heap.size)) (F0 m 0 ls []) := by
  obtain ⟨hx, hb, hr, hml, hown, hts, hlk, hK, hE, hI⟩ := id C
  have hD : ∀ σ : Sg, va_D (s_A ad 19 s.heap.size) ((s_WC cy ad sh) σ) := fun σ => s_D (s_WC_ad cy ad sh σ) hI (fun k hk => Or.inl ⟨k, hk, rfl⟩)
  unfold fX6_drift at hf
  refine lv_iload_n hx hb dX6_drift_0 rfl (lv_at hl 2 rfl) ?_
  refine lv_iconst (v := 1) hx hb dX6_drift_1 (by decide) ?_
  refine lv_icmp_lt (tgt := 11) hx hb dX6_drift_2 (by decide) (fun c1 => ?_) (fun c1 => ?_)
  · rw [if_pos c1] at hf
    exact kX6_drift_b11 C σ _ _ _ (lv_sub hl [] rfl) hP hS hf
  · rw [if_neg c1] at hf
    refine lv_iload_n hx hb dX6_drift_5 rfl (lv_at hl 2 rfl) ?_
    refine lv_bipush (v := 48) hx hb dX6_drift_6 (by decide) ?_
    refine lv_icmp_le (tgt := 13) hx hb dX6_drift_8 (by decide) (fun c2 => ?_) (fun c2 => ?_)
    · rw [if_pos c2] at hf
      refine lv_aload_n hx hb dX6_drift_13 rfl (lv_at hl 0 rfl) ?_
      refine va_get (D := G) (ci := 6) (v := .ref (ad 6)) (C := RX6) (T := TX6) (N := 9) hx hb hts inkX6 hown hK hP 0 rfl rfl 2 (by decide) (hts _ kw_232) (fun _ h9 => h9) rfl dX6_drift_14 ?_
      replace hf := s_bi_some hf
      obtain ⟨r5, σ3, hz4, hf⟩ := hf
      refine s_calli (nn := 0) C (kcX1_latestValue_6 (l := l) (G := G) (cy := cy) (sa := sa) (sh := sh) hI (sz := H.size) σ hz4) gk_X6_208 rfl rfl (by decide +kernel) ⟨Nat.le_of_ble_eq_true rfl, Nat.le_of_ble_eq_true rfl⟩ hP hS (q0 := 6) (ci := 1) rfl rfl rfl (As := []) (rest := []) rfl rfl hl.1 (Nat.le_of_ble_eq_true rfl) dX6_drift_17 (fun H locs hP hS => ?_)
      refine lv_istore_n (lv' := [(3, .int r5), (0, .ref (ad 0)), (1, .int x1), (2, .int x2)]) hx hb dX6_drift_20 rfl hl (by decide) rfl (fun ls hl => ?_)
      refine lv_iconst (v := 0) hx hb dX6_drift_21 (by decide) ?_
      refine lv_istore (lv' := [(4, .int (0 : Int32)), (3, .int r5), (0, .ref (ad 0)), (1, .int x1), (2, .int x2)]) hx hb dX6_drift_22 hl (by decide) rfl (fun ls hl => ?_)
      refine lv_iconst (v := 0) hx hb dX6_drift_24 (by decide) ?_
      refine lv_istore (lv' := [(5, .int (0 : Int32)), (4, .int (0 : Int32)), (3, .int r5), (0, .ref (ad 0)), (1, .int x1), (2, .int x2)]) hx hb dX6_drift_25 hl (by decide) rfl (fun ls hl => ?_)
      exact kX6_drift_b27_L C s_fu σ3 x1 x2 r5 (0 : Int32) (0 : Int32) _ _ _ (lv_sub hl [3, 4, 5, 2, 1, 0] rfl) hP hS hf
    · rw [if_neg c2] at hf
      exact kX6_drift_b11 C σ _ _ _ (lv_sub hl [] rfl) hP hS hf
theorem kcX6_drift {l : Launch} {G : va_G} {cy : Nat → ClassId} {sa : Nat × Nat} {ad : Nat → Nat} {sh : Nat → Option Nat} {sz : Nat} (hI : s_inj ad 19) (σ : Sg) (x1 : Int32) (x2 : Int32) {re : Int32} {σe : Sg} (hf : fX6_drift σ x1 x2 = some (re, σe)) : Met l yX6_drift (kW yX6_drift cX6_drift 8 (some .int)) ({ frames := 2, cells := 0, slots := 0, locals := 41 } : Room) (s_P (s_WC cy ad sh) G cy sa ad 19 [.ref (ad 0), .int x1, .int x2] sz σ) (s_Qi (s_WC cy ad sh) G (s_A ad 19 sz) re σe) 0 0 (s_A ad 19 sz) := by
  refine s_met (own := RX6) (by decide) rfl hI (Nat.le_of_ble_eq_true rfl) (fun p e s m below meth c ls hsz C hP hl => ?_)
  subst hsz
  exact kX6_drift C σ x1 x2 ls _ _ hl hP va_S.rf hf
set_option maxRecDepth 100000 in
set_option maxHeartbeats 4000000 in
theorem kX6_isImage_b13 (C : s_X p s m meth c args cX6_isImage (some .boolean) 1 RX6 G cy sa ad 19) (σ : Sg) (ls : Array Slot) (H : Heap) (locs : List Loc) (hl : lv_has ls 1 []) (hP : va_P G vwCl ((s_WC cy ad sh) σ) H) (hS : va_S (s_A ad 19 s.heap.size) s.heap H locs) (hf : fX6_isImage_b13 σ = some (re, σe)) : W p l e ({ frames := 0, cells := 0, slots := 0, locals := 0 } : Room) s m args below meth c H locs 0 0 (MQ below (s_Qi (s_WC cy ad sh) G (s_A ad 19 s.heap.size) re σe) args s 0 0 (s_A ad 19 s.heap.size)) (F0 m 13 ls []) := by
  obtain ⟨hx, hb, hr, hml, hown, hts, hlk, hK, hE, hI⟩ := id C
  have hD : ∀ σ : Sg, va_D (s_A ad 19 s.heap.size) ((s_WC cy ad sh) σ) := fun σ => s_D (s_WC_ad cy ad sh σ) hI (fun k hk => Or.inl ⟨k, hk, rfl⟩)
  unfold fX6_isImage_b13 at hf
  refine lv_iconst (v := 0) hx hb dX6_isImage_13 (by decide) ?_
  obtain ⟨he1, he2⟩ := s_ret hf
  exact W.zret hx hb hr rfl (fun t ht hW => ⟨⟨_, (), rfl, he1, s_fin (Wd := (s_WC cy ad sh)) ht he2 hP⟩, hS.F ht⟩) hS.2.2 dX6_isImage_14 hlk
set_option maxRecDepth 100000 in
set_option maxHeartbeats 4000000 in
theorem kX6_isImage (C : s_X p s m meth c args cX6_isImage (some .boolean) 1 RX6 G cy sa ad 19) (σ : Sg) (x0 : Int32) (ls : Array Slot) (H : Heap) (locs : List Loc) (hl : lv_has ls 1 [(0, .int x0)]) (hP : va_P G vwCl ((s_WC cy ad sh) σ) H) (hS : va_S (s_A ad 19 s.heap.size) s.heap H locs) (hf : fX6_isImage σ x0 = some (re, σe)) : W p l e ({ frames := 0, cells := 0, slots := 0, locals := 0 } : Room) s m args below meth c H locs 0 0 (MQ below (s_Qi (s_WC cy ad sh) G (s_A ad 19 s.heap.size) re σe) args s 0 0 (s_A ad 19 s.heap.size)) (F0 m 0 ls []) := by
  obtain ⟨hx, hb, hr, hml, hown, hts, hlk, hK, hE, hI⟩ := id C
  have hD : ∀ σ : Sg, va_D (s_A ad 19 s.heap.size) ((s_WC cy ad sh) σ) := fun σ => s_D (s_WC_ad cy ad sh σ) hI (fun k hk => Or.inl ⟨k, hk, rfl⟩)
  unfold fX6_isImage at hf
  refine lv_iload_n hx hb dX6_isImage_0 rfl (lv_at hl 0 rfl) ?_
  refine lv_if_lt (tgt := 13) hx hb dX6_isImage_1 (by decide) (fun c1 => ?_) (fun c1 => ?_)
  · rw [if_pos c1] at hf
    exact kX6_isImage_b13 C σ _ _ _ (lv_sub hl [] rfl) hP hS hf
  · rw [if_neg c1] at hf
    refine lv_iload_n hx hb dX6_isImage_4 rfl (lv_at hl 0 rfl) ?_
    refine lv_iconst (v := 2) hx hb dX6_isImage_5 (by decide) ?_
    refine lv_icmp_ge (tgt := 13) hx hb dX6_isImage_6 (by decide) (fun c2 => ?_) (fun c2 => ?_)
    · rw [if_pos c2] at hf
      exact kX6_isImage_b13 C σ _ _ _ (lv_sub hl [] rfl) hP hS hf
    · rw [if_neg c2] at hf
      refine lv_iconst (v := 1) hx hb dX6_isImage_9 (by decide) ?_
      refine lv_goto (tgt := 14) hx hb dX6_isImage_10 (by decide) ?_
      obtain ⟨he1, he2⟩ := s_ret hf
      exact W.zret hx hb hr rfl (fun t ht hW => ⟨⟨_, (), rfl, he1, s_fin (Wd := (s_WC cy ad sh)) ht he2 hP⟩, hS.F ht⟩) hS.2.2 dX6_isImage_14 hlk
theorem kcX6_isImage {l : Launch} {G : va_G} {cy : Nat → ClassId} {sa : Nat × Nat} {ad : Nat → Nat} {sh : Nat → Option Nat} {sz : Nat} (hI : s_inj ad 19) (σ : Sg) (x0 : Int32) {re : Int32} {σe : Sg} (hf : fX6_isImage σ x0 = some (re, σe)) : Met l yX6_isImage (kW yX6_isImage cX6_isImage 1 (some .boolean)) ({ frames := 0, cells := 0, slots := 0, locals := 0 } : Room) (s_P (s_WC cy ad sh) G cy sa ad 19 [.int x0] sz σ) (s_Qi (s_WC cy ad sh) G (s_A ad 19 sz) re σe) 0 0 (s_A ad 19 sz) := by
  refine s_met (own := RX6) (by decide) rfl hI (Nat.le_of_ble_eq_true rfl) (fun p e s m below meth c ls hsz C hP hl => ?_)
  subst hsz
  exact kX6_isImage C σ x0 ls _ _ hl hP va_S.rf hf
set_option maxRecDepth 100000 in
set_option maxHeartbeats 4000000 in
theorem kX1_copyFrom_13_6 (C : s_X p s m meth c args cX1_copyFrom none 2 RX1 G cy sa ad 19) (σ : Sg) (ls : Array Slot) (H : Heap) (locs : List Loc) (hl : lv_has ls 2 [(0, .ref (ad 13)), (1, .ref (ad 6))]) (hP : va_P G vwCl ((s_WC cy ad sh) σ) H) (hS : va_S (s_A ad 19 s.heap.size) s.heap H locs) (hf : fX1_copyFrom_13_6 σ = some σe) : W p l e ({ frames := 1, cells := 0, slots := 0, locals := 60 } : Room) s m args below meth c H locs 0 0 (MQ below (s_Qv (s_WC cy ad sh) G (s_A ad 19 s.heap.size) σe) args s 0 0 (s_A ad 19 s.heap.size)) (F0 m 0 ls []) := by
  obtain ⟨hx, hb, hr, hml, hown, hts, hlk, hK, hE, hI⟩ := id C
  have hD : ∀ σ : Sg, va_D (s_A ad 19 s.heap.size) ((s_WC cy ad sh) σ) := fun σ => s_D (s_WC_ad cy ad sh σ) hI (fun k hk => Or.inl ⟨k, hk, rfl⟩)
  unfold fX1_copyFrom_13_6 at hf
  refine lv_aload_n hx hb dX1_copyFrom_0 rfl (lv_at hl 1 rfl) ?_
  refine va_get (D := G) (ci := 1) (v := .ref (ad 7)) (C := RX1) (T := TX1) (N := 8) hx hb hts inkX1 hown hK hP 6 rfl rfl 0 (by decide) (hts _ kw_109) (fun _ h9 => h9) rfl dX1_copyFrom_1 ?_
  refine lv_iconst (v := 0) hx hb dX1_copyFrom_4 (by decide) ?_
  refine lv_aload_n hx hb dX1_copyFrom_5 rfl (lv_at hl 0 rfl) ?_
  refine va_get (D := G) (ci := 1) (v := .ref (ad 14)) (C := RX1) (T := TX1) (N := 8) hx hb hts inkX1 hown hK hP 13 rfl rfl 0 (by decide) (hts _ kw_109) (fun _ h9 => h9) rfl dX1_copyFrom_6 ?_
  refine lv_iconst (v := 0) hx hb dX1_copyFrom_9 (by decide) ?_
  refine lv_aload_n hx hb dX1_copyFrom_10 rfl (lv_at hl 1 rfl) ?_
  refine va_get (D := G) (ci := 1) (v := .int (σ 6 1)) (C := RX1) (T := TX1) (N := 8) hx hb hts inkX1 hown hK hP 6 rfl rfl 1 (by decide) (hts _ kw_110) (fun _ h9 => h9) rfl dX1_copyFrom_11 ?_
  replace hf := s_gd_some hf
  obtain ⟨g2, hf⟩ := hf
  obtain ⟨g2a, g2b, g2c, g2d, g2e⟩ := s_cpok_of g2
  refine va_copyi hx hb (hml.trans hl.1.symm) hown (hts _ kw_421) (hts _ kw_423) (hts _ kw_422) (hts _ kw_67) hK hP (hD _) hS 7 14 1 1 rfl rfl rfl rfl rfl g2a g2b g2c g2d g2e (fun _ _ => rfl) (Nat.le_of_ble_eq_true rfl) (by decide +kernel) dX1_copyFrom_14 (fun H locs hP _ hS => ?_)
  obtain ⟨σ1, eσ1⟩ : ∃ z : Sg, z = (s_upr σ 14 (va_cpy (σ 7) (σ 14) (Int32.toNatClampNeg (0 : Int32)) (Int32.toNatClampNeg (0 : Int32)) (Int32.toNatClampNeg (σ 6 1)))) := ⟨_, rfl⟩
  replace hf := s_lt_at eσ1 hf
  replace hP : va_P G vwCl ((s_WC cy ad sh) σ1) H := by rw [eσ1]; exact hP
  refine lv_aload_n hx hb dX1_copyFrom_17 rfl (lv_at hl 0 rfl) ?_
  refine lv_aload_n hx hb dX1_copyFrom_18 rfl (lv_at hl 1 rfl) ?_
  refine va_get (D := G) (ci := 1) (v := .int (σ1 6 1)) (C := RX1) (T := TX1) (N := 8) hx hb hts inkX1 hown hK hP 6 rfl rfl 1 (by decide) (hts _ kw_110) (fun _ h9 => h9) rfl dX1_copyFrom_19 ?_
  refine va_put (D := G) (ci := 1) (v := .int (σ1 6 1)) (ty := .int) (C := RX1) (T := TX1) (N := 8) hx hb hts inkX1 tyX1 tyX1_ok nmX1 hown hK hP (hD _) hS 13 rfl rfl 1 (by decide) (hts _ kw_110) (fun _ h9 => h9) rfl (by decide +kernel) rfl rfl (Nat.le_of_ble_eq_true rfl) dX1_copyFrom_22 (fun H locs hP _ hS => ?_)
  obtain ⟨σ3, eσ3⟩ : ∃ z : Sg, z = (s_up σ1 13 1 (σ1 6 1)) := ⟨_, rfl⟩
  replace hf := s_lt_at eσ3 hf
  replace hP : va_P G vwCl ((s_WC cy ad sh) σ3) H := by rw [eσ3]; exact hP
  refine lv_aload_n hx hb dX1_copyFrom_25 rfl (lv_at hl 0 rfl) ?_
  refine lv_aload_n hx hb dX1_copyFrom_26 rfl (lv_at hl 1 rfl) ?_
  refine va_get (D := G) (ci := 1) (v := .int (σ3 6 2)) (C := RX1) (T := TX1) (N := 8) hx hb hts inkX1 hown hK hP 6 rfl rfl 2 (by decide) (hts _ kw_113) (fun _ h9 => h9) rfl dX1_copyFrom_27 ?_
  refine va_put (D := G) (ci := 1) (v := .int (σ3 6 2)) (ty := .int) (C := RX1) (T := TX1) (N := 8) hx hb hts inkX1 tyX1 tyX1_ok nmX1 hown hK hP (hD _) hS 13 rfl rfl 2 (by decide) (hts _ kw_113) (fun _ h9 => h9) rfl (by decide +kernel) rfl rfl (Nat.le_of_ble_eq_true rfl) dX1_copyFrom_30 (fun H locs hP _ hS => ?_)
  obtain ⟨σ4, eσ4⟩ : ∃ z : Sg, z = (s_up σ3 13 2 (σ3 6 2)) := ⟨_, rfl⟩
  replace hf := s_lt_at eσ4 hf
  replace hP : va_P G vwCl ((s_WC cy ad sh) σ4) H := by rw [eσ4]; exact hP
  refine lv_aload_n hx hb dX1_copyFrom_33 rfl (lv_at hl 0 rfl) ?_
  refine lv_aload_n hx hb dX1_copyFrom_34 rfl (lv_at hl 1 rfl) ?_
  refine va_get (D := G) (ci := 1) (v := .int (σ4 6 3)) (C := RX1) (T := TX1) (N := 8) hx hb hts inkX1 hown hK hP 6 rfl rfl 3 (by decide) (hts _ kw_117) (fun _ h9 => h9) rfl dX1_copyFrom_35 ?_
  refine va_put (D := G) (ci := 1) (v := .int (σ4 6 3)) (ty := .int) (C := RX1) (T := TX1) (N := 8) hx hb hts inkX1 tyX1 tyX1_ok nmX1 hown hK hP (hD _) hS 13 rfl rfl 3 (by decide) (hts _ kw_117) (fun _ h9 => h9) rfl (by decide +kernel) rfl rfl (Nat.le_of_ble_eq_true rfl) dX1_copyFrom_38 (fun H locs hP _ hS => ?_)
  obtain ⟨σ5, eσ5⟩ : ∃ z : Sg, z = (s_up σ4 13 3 (σ4 6 3)) := ⟨_, rfl⟩
  replace hf := s_lt_at eσ5 hf
  replace hP : va_P G vwCl ((s_WC cy ad sh) σ5) H := by rw [eσ5]; exact hP
  refine lv_aload_n hx hb dX1_copyFrom_41 rfl (lv_at hl 0 rfl) ?_
  refine lv_aload_n hx hb dX1_copyFrom_42 rfl (lv_at hl 1 rfl) ?_
  refine va_get (D := G) (ci := 1) (v := .int (σ5 6 4)) (C := RX1) (T := TX1) (N := 8) hx hb hts inkX1 hown hK hP 6 rfl rfl 4 (by decide) (hts _ kw_121) (fun _ h9 => h9) rfl dX1_copyFrom_43 ?_
  refine va_put (D := G) (ci := 1) (v := .int (σ5 6 4)) (ty := .int) (C := RX1) (T := TX1) (N := 8) hx hb hts inkX1 tyX1 tyX1_ok nmX1 hown hK hP (hD _) hS 13 rfl rfl 4 (by decide) (hts _ kw_121) (fun _ h9 => h9) rfl (by decide +kernel) rfl rfl (Nat.le_of_ble_eq_true rfl) dX1_copyFrom_46 (fun H locs hP _ hS => ?_)
  obtain ⟨σ6, eσ6⟩ : ∃ z : Sg, z = (s_up σ5 13 4 (σ5 6 4)) := ⟨_, rfl⟩
  replace hf := s_lt_at eσ6 hf
  replace hP : va_P G vwCl ((s_WC cy ad sh) σ6) H := by rw [eσ6]; exact hP
  refine lv_aload_n hx hb dX1_copyFrom_49 rfl (lv_at hl 0 rfl) ?_
  refine lv_aload_n hx hb dX1_copyFrom_50 rfl (lv_at hl 1 rfl) ?_
  refine va_get (D := G) (ci := 1) (v := .int (σ6 6 5)) (C := RX1) (T := TX1) (N := 8) hx hb hts inkX1 hown hK hP 6 rfl rfl 5 (by decide) (hts _ kw_125) (fun _ h9 => h9) rfl dX1_copyFrom_51 ?_
  refine va_put (D := G) (ci := 1) (v := .int (σ6 6 5)) (ty := .int) (C := RX1) (T := TX1) (N := 8) hx hb hts inkX1 tyX1 tyX1_ok nmX1 hown hK hP (hD _) hS 13 rfl rfl 5 (by decide) (hts _ kw_125) (fun _ h9 => h9) rfl (by decide +kernel) rfl rfl (Nat.le_of_ble_eq_true rfl) dX1_copyFrom_54 (fun H locs hP _ hS => ?_)
  obtain ⟨σ7, eσ7⟩ : ∃ z : Sg, z = (s_up σ6 13 5 (σ6 6 5)) := ⟨_, rfl⟩
  replace hf := s_lt_at eσ7 hf
  replace hP : va_P G vwCl ((s_WC cy ad sh) σ7) H := by rw [eσ7]; exact hP
  refine lv_aload_n hx hb dX1_copyFrom_57 rfl (lv_at hl 0 rfl) ?_
  refine lv_aload_n hx hb dX1_copyFrom_58 rfl (lv_at hl 1 rfl) ?_
  refine va_get (D := G) (ci := 1) (v := .int (σ7 6 6)) (C := RX1) (T := TX1) (N := 8) hx hb hts inkX1 hown hK hP 6 rfl rfl 6 (by decide) (hts _ kw_129) (fun _ h9 => h9) rfl dX1_copyFrom_59 ?_
  refine va_put (D := G) (ci := 1) (v := .int (σ7 6 6)) (ty := .int) (C := RX1) (T := TX1) (N := 8) hx hb hts inkX1 tyX1 tyX1_ok nmX1 hown hK hP (hD _) hS 13 rfl rfl 6 (by decide) (hts _ kw_129) (fun _ h9 => h9) rfl (by decide +kernel) rfl rfl (Nat.le_of_ble_eq_true rfl) dX1_copyFrom_62 (fun H locs hP _ hS => ?_)
  obtain ⟨σ8, eσ8⟩ : ∃ z : Sg, z = (s_up σ7 13 6 (σ7 6 6)) := ⟨_, rfl⟩
  replace hf := s_lt_at eσ8 hf
  replace hP : va_P G vwCl ((s_WC cy ad sh) σ8) H := by rw [eσ8]; exact hP
  refine lv_aload_n hx hb dX1_copyFrom_65 rfl (lv_at hl 0 rfl) ?_
  refine lv_aload_n hx hb dX1_copyFrom_66 rfl (lv_at hl 1 rfl) ?_
  refine va_get (D := G) (ci := 1) (v := .int (σ8 6 7)) (C := RX1) (T := TX1) (N := 8) hx hb hts inkX1 hown hK hP 6 rfl rfl 7 (by decide) (hts _ kw_133) (fun _ h9 => h9) rfl dX1_copyFrom_67 ?_
  refine va_put (D := G) (ci := 1) (v := .int (σ8 6 7)) (ty := .int) (C := RX1) (T := TX1) (N := 8) hx hb hts inkX1 tyX1 tyX1_ok nmX1 hown hK hP (hD _) hS 13 rfl rfl 7 (by decide) (hts _ kw_133) (fun _ h9 => h9) rfl (by decide +kernel) rfl rfl (Nat.le_of_ble_eq_true rfl) dX1_copyFrom_70 (fun H locs hP _ hS => ?_)
  obtain ⟨σ9, eσ9⟩ : ∃ z : Sg, z = (s_up σ8 13 7 (σ8 6 7)) := ⟨_, rfl⟩
  replace hf := s_lt_at eσ9 hf
  replace hP : va_P G vwCl ((s_WC cy ad sh) σ9) H := by rw [eσ9]; exact hP
  have he2 := Option.some.inj hf
  exact W.vret hx hb hr (fun t ht hW => ⟨⟨(), rfl, trivial, s_fin (Wd := (s_WC cy ad sh)) ht he2 hP⟩, hS.F ht⟩) hS.2.2 dX1_copyFrom_73 hlk
theorem kcX1_copyFrom_13_6 {l : Launch} {G : va_G} {cy : Nat → ClassId} {sa : Nat × Nat} {ad : Nat → Nat} {sh : Nat → Option Nat} {sz : Nat} (hI : s_inj ad 19) (σ : Sg) {σe : Sg} (hf : fX1_copyFrom_13_6 σ = some σe) : Met l yX1_copyFrom (kW yX1_copyFrom cX1_copyFrom 2 none) ({ frames := 1, cells := 0, slots := 0, locals := 60 } : Room) (s_P (s_WC cy ad sh) G cy sa ad 19 [.ref (ad 13), .ref (ad 6)] sz σ) (s_Qv (s_WC cy ad sh) G (s_A ad 19 sz) σe) 0 0 (s_A ad 19 sz) := by
  refine s_met (own := RX1) (by decide) rfl hI (Nat.le_of_ble_eq_true rfl) (fun p e s m below meth c ls hsz C hP hl => ?_)
  subst hsz
  exact kX1_copyFrom_13_6 C σ ls _ _ hl hP va_S.rf hf
set_option maxRecDepth 100000 in
set_option maxHeartbeats 4000000 in
theorem kX1_copyFrom_15_6 (C : s_X p s m meth c args cX1_copyFrom none 2 RX1 G cy sa ad 19) (σ : Sg) (ls : Array Slot) (H : Heap) (locs : List Loc) (hl : lv_has ls 2 [(0, .ref (ad 15)), (1, .ref (ad 6))]) (hP : va_P G vwCl ((s_WC cy ad sh) σ) H) (hS : va_S (s_A ad 19 s.heap.size) s.heap H locs) (hf : fX1_copyFrom_15_6 σ = some σe) : W p l e ({ frames := 1, cells := 0, slots := 0, locals := 60 } : Room) s m args below meth c H locs 0 0 (MQ below (s_Qv (s_WC cy ad sh) G (s_A ad 19 s.heap.size) σe) args s 0 0 (s_A ad 19 s.heap.size)) (F0 m 0 ls []) := by
  obtain ⟨hx, hb, hr, hml, hown, hts, hlk, hK, hE, hI⟩ := id C
  have hD : ∀ σ : Sg, va_D (s_A ad 19 s.heap.size) ((s_WC cy ad sh) σ) := fun σ => s_D (s_WC_ad cy ad sh σ) hI (fun k hk => Or.inl ⟨k, hk, rfl⟩)
  unfold fX1_copyFrom_15_6 at hf
  refine lv_aload_n hx hb dX1_copyFrom_0 rfl (lv_at hl 1 rfl) ?_
  refine va_get (D := G) (ci := 1) (v := .ref (ad 7)) (C := RX1) (T := TX1) (N := 8) hx hb hts inkX1 hown hK hP 6 rfl rfl 0 (by decide) (hts _ kw_109) (fun _ h9 => h9) rfl dX1_copyFrom_1 ?_
  refine lv_iconst (v := 0) hx hb dX1_copyFrom_4 (by decide) ?_
  refine lv_aload_n hx hb dX1_copyFrom_5 rfl (lv_at hl 0 rfl) ?_
  refine va_get (D := G) (ci := 1) (v := .ref (ad 16)) (C := RX1) (T := TX1) (N := 8) hx hb hts inkX1 hown hK hP 15 rfl rfl 0 (by decide) (hts _ kw_109) (fun _ h9 => h9) rfl dX1_copyFrom_6 ?_
  refine lv_iconst (v := 0) hx hb dX1_copyFrom_9 (by decide) ?_
  refine lv_aload_n hx hb dX1_copyFrom_10 rfl (lv_at hl 1 rfl) ?_
  refine va_get (D := G) (ci := 1) (v := .int (σ 6 1)) (C := RX1) (T := TX1) (N := 8) hx hb hts inkX1 hown hK hP 6 rfl rfl 1 (by decide) (hts _ kw_110) (fun _ h9 => h9) rfl dX1_copyFrom_11 ?_
  replace hf := s_gd_some hf
  obtain ⟨g2, hf⟩ := hf
  obtain ⟨g2a, g2b, g2c, g2d, g2e⟩ := s_cpok_of g2
  refine va_copyi hx hb (hml.trans hl.1.symm) hown (hts _ kw_421) (hts _ kw_423) (hts _ kw_422) (hts _ kw_67) hK hP (hD _) hS 7 16 1 1 rfl rfl rfl rfl rfl g2a g2b g2c g2d g2e (fun _ _ => rfl) (Nat.le_of_ble_eq_true rfl) (by decide +kernel) dX1_copyFrom_14 (fun H locs hP _ hS => ?_)
  obtain ⟨σ1, eσ1⟩ : ∃ z : Sg, z = (s_upr σ 16 (va_cpy (σ 7) (σ 16) (Int32.toNatClampNeg (0 : Int32)) (Int32.toNatClampNeg (0 : Int32)) (Int32.toNatClampNeg (σ 6 1)))) := ⟨_, rfl⟩
  replace hf := s_lt_at eσ1 hf
  replace hP : va_P G vwCl ((s_WC cy ad sh) σ1) H := by rw [eσ1]; exact hP
  refine lv_aload_n hx hb dX1_copyFrom_17 rfl (lv_at hl 0 rfl) ?_
  refine lv_aload_n hx hb dX1_copyFrom_18 rfl (lv_at hl 1 rfl) ?_
  refine va_get (D := G) (ci := 1) (v := .int (σ1 6 1)) (C := RX1) (T := TX1) (N := 8) hx hb hts inkX1 hown hK hP 6 rfl rfl 1 (by decide) (hts _ kw_110) (fun _ h9 => h9) rfl dX1_copyFrom_19 ?_
  refine va_put (D := G) (ci := 1) (v := .int (σ1 6 1)) (ty := .int) (C := RX1) (T := TX1) (N := 8) hx hb hts inkX1 tyX1 tyX1_ok nmX1 hown hK hP (hD _) hS 15 rfl rfl 1 (by decide) (hts _ kw_110) (fun _ h9 => h9) rfl (by decide +kernel) rfl rfl (Nat.le_of_ble_eq_true rfl) dX1_copyFrom_22 (fun H locs hP _ hS => ?_)
  obtain ⟨σ3, eσ3⟩ : ∃ z : Sg, z = (s_up σ1 15 1 (σ1 6 1)) := ⟨_, rfl⟩
  replace hf := s_lt_at eσ3 hf
  replace hP : va_P G vwCl ((s_WC cy ad sh) σ3) H := by rw [eσ3]; exact hP
  refine lv_aload_n hx hb dX1_copyFrom_25 rfl (lv_at hl 0 rfl) ?_
  refine lv_aload_n hx hb dX1_copyFrom_26 rfl (lv_at hl 1 rfl) ?_
  refine va_get (D := G) (ci := 1) (v := .int (σ3 6 2)) (C := RX1) (T := TX1) (N := 8) hx hb hts inkX1 hown hK hP 6 rfl rfl 2 (by decide) (hts _ kw_113) (fun _ h9 => h9) rfl dX1_copyFrom_27 ?_
  refine va_put (D := G) (ci := 1) (v := .int (σ3 6 2)) (ty := .int) (C := RX1) (T := TX1) (N := 8) hx hb hts inkX1 tyX1 tyX1_ok nmX1 hown hK hP (hD _) hS 15 rfl rfl 2 (by decide) (hts _ kw_113) (fun _ h9 => h9) rfl (by decide +kernel) rfl rfl (Nat.le_of_ble_eq_true rfl) dX1_copyFrom_30 (fun H locs hP _ hS => ?_)
  obtain ⟨σ4, eσ4⟩ : ∃ z : Sg, z = (s_up σ3 15 2 (σ3 6 2)) := ⟨_, rfl⟩
  replace hf := s_lt_at eσ4 hf
  replace hP : va_P G vwCl ((s_WC cy ad sh) σ4) H := by rw [eσ4]; exact hP
  refine lv_aload_n hx hb dX1_copyFrom_33 rfl (lv_at hl 0 rfl) ?_
  refine lv_aload_n hx hb dX1_copyFrom_34 rfl (lv_at hl 1 rfl) ?_
  refine va_get (D := G) (ci := 1) (v := .int (σ4 6 3)) (C := RX1) (T := TX1) (N := 8) hx hb hts inkX1 hown hK hP 6 rfl rfl 3 (by decide) (hts _ kw_117) (fun _ h9 => h9) rfl dX1_copyFrom_35 ?_
  refine va_put (D := G) (ci := 1) (v := .int (σ4 6 3)) (ty := .int) (C := RX1) (T := TX1) (N := 8) hx hb hts inkX1 tyX1 tyX1_ok nmX1 hown hK hP (hD _) hS 15 rfl rfl 3 (by decide) (hts _ kw_117) (fun _ h9 => h9) rfl (by decide +kernel) rfl rfl (Nat.le_of_ble_eq_true rfl) dX1_copyFrom_38 (fun H locs hP _ hS => ?_)
  obtain ⟨σ5, eσ5⟩ : ∃ z : Sg, z = (s_up σ4 15 3 (σ4 6 3)) := ⟨_, rfl⟩
  replace hf := s_lt_at eσ5 hf
  replace hP : va_P G vwCl ((s_WC cy ad sh) σ5) H := by rw [eσ5]; exact hP
  refine lv_aload_n hx hb dX1_copyFrom_41 rfl (lv_at hl 0 rfl) ?_
  refine lv_aload_n hx hb dX1_copyFrom_42 rfl (lv_at hl 1 rfl) ?_
  refine va_get (D := G) (ci := 1) (v := .int (σ5 6 4)) (C := RX1) (T := TX1) (N := 8) hx hb hts inkX1 hown hK hP 6 rfl rfl 4 (by decide) (hts _ kw_121) (fun _ h9 => h9) rfl dX1_copyFrom_43 ?_
  refine va_put (D := G) (ci := 1) (v := .int (σ5 6 4)) (ty := .int) (C := RX1) (T := TX1) (N := 8) hx hb hts inkX1 tyX1 tyX1_ok nmX1 hown hK hP (hD _) hS 15 rfl rfl 4 (by decide) (hts _ kw_121) (fun _ h9 => h9) rfl (by decide +kernel) rfl rfl (Nat.le_of_ble_eq_true rfl) dX1_copyFrom_46 (fun H locs hP _ hS => ?_)
  obtain ⟨σ6, eσ6⟩ : ∃ z : Sg, z = (s_up σ5 15 4 (σ5 6 4)) := ⟨_, rfl⟩
  replace hf := s_lt_at eσ6 hf
  replace hP : va_P G vwCl ((s_WC cy ad sh) σ6) H := by rw [eσ6]; exact hP
  refine lv_aload_n hx hb dX1_copyFrom_49 rfl (lv_at hl 0 rfl) ?_
  refine lv_aload_n hx hb dX1_copyFrom_50 rfl (lv_at hl 1 rfl) ?_
  refine va_get (D := G) (ci := 1) (v := .int (σ6 6 5)) (C := RX1) (T := TX1) (N := 8) hx hb hts inkX1 hown hK hP 6 rfl rfl 5 (by decide) (hts _ kw_125) (fun _ h9 => h9) rfl dX1_copyFrom_51 ?_
  refine va_put (D := G) (ci := 1) (v := .int (σ6 6 5)) (ty := .int) (C := RX1) (T := TX1) (N := 8) hx hb hts inkX1 tyX1 tyX1_ok nmX1 hown hK hP (hD _) hS 15 rfl rfl 5 (by decide) (hts _ kw_125) (fun _ h9 => h9) rfl (by decide +kernel) rfl rfl (Nat.le_of_ble_eq_true rfl) dX1_copyFrom_54 (fun H locs hP _ hS => ?_)
  obtain ⟨σ7, eσ7⟩ : ∃ z : Sg, z = (s_up σ6 15 5 (σ6 6 5)) := ⟨_, rfl⟩
  replace hf := s_lt_at eσ7 hf
  replace hP : va_P G vwCl ((s_WC cy ad sh) σ7) H := by rw [eσ7]; exact hP
  refine lv_aload_n hx hb dX1_copyFrom_57 rfl (lv_at hl 0 rfl) ?_
  refine lv_aload_n hx hb dX1_copyFrom_58 rfl (lv_at hl 1 rfl) ?_
  refine va_get (D := G) (ci := 1) (v := .int (σ7 6 6)) (C := RX1) (T := TX1) (N := 8) hx hb hts inkX1 hown hK hP 6 rfl rfl 6 (by decide) (hts _ kw_129) (fun _ h9 => h9) rfl dX1_copyFrom_59 ?_
  refine va_put (D := G) (ci := 1) (v := .int (σ7 6 6)) (ty := .int) (C := RX1) (T := TX1) (N := 8) hx hb hts inkX1 tyX1 tyX1_ok nmX1 hown hK hP (hD _) hS 15 rfl rfl 6 (by decide) (hts _ kw_129) (fun _ h9 => h9) rfl (by decide +kernel) rfl rfl (Nat.le_of_ble_eq_true rfl) dX1_copyFrom_62 (fun H locs hP _ hS => ?_)
  obtain ⟨σ8, eσ8⟩ : ∃ z : Sg, z = (s_up σ7 15 6 (σ7 6 6)) := ⟨_, rfl⟩
  replace hf := s_lt_at eσ8 hf
  replace hP : va_P G vwCl ((s_WC cy ad sh) σ8) H := by rw [eσ8]; exact hP
  refine lv_aload_n hx hb dX1_copyFrom_65 rfl (lv_at hl 0 rfl) ?_
  refine lv_aload_n hx hb dX1_copyFrom_66 rfl (lv_at hl 1 rfl) ?_
  refine va_get (D := G) (ci := 1) (v := .int (σ8 6 7)) (C := RX1) (T := TX1) (N := 8) hx hb hts inkX1 hown hK hP 6 rfl rfl 7 (by decide) (hts _ kw_133) (fun _ h9 => h9) rfl dX1_copyFrom_67 ?_
  refine va_put (D := G) (ci := 1) (v := .int (σ8 6 7)) (ty := .int) (C := RX1) (T := TX1) (N := 8) hx hb hts inkX1 tyX1 tyX1_ok nmX1 hown hK hP (hD _) hS 15 rfl rfl 7 (by decide) (hts _ kw_133) (fun _ h9 => h9) rfl (by decide +kernel) rfl rfl (Nat.le_of_ble_eq_true rfl) dX1_copyFrom_70 (fun H locs hP _ hS => ?_)
  obtain ⟨σ9, eσ9⟩ : ∃ z : Sg, z = (s_up σ8 15 7 (σ8 6 7)) := ⟨_, rfl⟩
  replace hf := s_lt_at eσ9 hf
  replace hP : va_P G vwCl ((s_WC cy ad sh) σ9) H := by rw [eσ9]; exact hP
  have he2 := Option.some.inj hf
  exact W.vret hx hb hr (fun t ht hW => ⟨⟨(), rfl, trivial, s_fin (Wd := (s_WC cy ad sh)) ht he2 hP⟩, hS.F ht⟩) hS.2.2 dX1_copyFrom_73 hlk
theorem kcX1_copyFrom_15_6 {l : Launch} {G : va_G} {cy : Nat → ClassId} {sa : Nat × Nat} {ad : Nat → Nat} {sh : Nat → Option Nat} {sz : Nat} (hI : s_inj ad 19) (σ : Sg) {σe : Sg} (hf : fX1_copyFrom_15_6 σ = some σe) : Met l yX1_copyFrom (kW yX1_copyFrom cX1_copyFrom 2 none) ({ frames := 1, cells := 0, slots := 0, locals := 60 } : Room) (s_P (s_WC cy ad sh) G cy sa ad 19 [.ref (ad 15), .ref (ad 6)] sz σ) (s_Qv (s_WC cy ad sh) G (s_A ad 19 sz) σe) 0 0 (s_A ad 19 sz) := by
  refine s_met (own := RX1) (by decide) rfl hI (Nat.le_of_ble_eq_true rfl) (fun p e s m below meth c ls hsz C hP hl => ?_)
  subst hsz
  exact kX1_copyFrom_15_6 C σ ls _ _ hl hP va_S.rf hf
set_option maxRecDepth 100000 in
set_option maxHeartbeats 4000000 in
theorem kX6_keep_b23 (C : s_X p s m meth c args cX6_keep (some .int) 3 RX6 G cy sa ad 19) (σ : Sg) (x1 : Int32) (y0 : Int32) (ls : Array Slot) (H : Heap) (locs : List Loc) (hl : lv_has ls 3 [(0, .ref (ad 0)), (1, .int x1)]) (hP : va_P G vwCl ((s_WC cy ad sh) σ) H) (hS : va_S (s_A ad 19 s.heap.size) s.heap H locs) (hf : fX6_keep_b23 σ x1 y0 = some (re, σe)) : W p l e ({ frames := 2, cells := 0, slots := 0, locals := 81 } : Room) s m args below meth c H locs 0 0 (MQ below (s_Qi (s_WC cy ad sh) G (s_A ad 19 s.heap.size) re σe) args s 0 0 (s_A ad 19 s.heap.size)) (F0 m 23 ls [.int y0]) := by
  obtain ⟨hx, hb, hr, hml, hown, hts, hlk, hK, hE, hI⟩ := id C
  have hD : ∀ σ : Sg, va_D (s_A ad 19 s.heap.size) ((s_WC cy ad sh) σ) := fun σ => s_D (s_WC_ad cy ad sh σ) hI (fun k hk => Or.inl ⟨k, hk, rfl⟩)
  unfold fX6_keep_b23 at hf
  refine lv_istore_n (lv' := [(2, .int y0), (0, .ref (ad 0)), (1, .int x1)]) hx hb dX6_keep_23 rfl hl (by decide) rfl (fun ls hl => ?_)
  refine lv_aload_n hx hb dX6_keep_24 rfl (lv_at hl 1 rfl) ?_
  refine va_get (D := G) (ci := 6) (v := .ref (ad 12)) (C := RX6) (T := TX6) (N := 9) hx hb hts inkX6 hown hK hP 0 rfl rfl 5 (by decide) (hts _ kw_235) (fun _ h9 => h9) rfl dX6_keep_25 ?_
  refine lv_iload_n hx hb dX6_keep_28 rfl (lv_at hl 2 rfl) ?_
  by_cases c1 : x1 = 0
  · rw [if_pos c1] at hf
    refine va_aldq hx hb hK hP 12 3 rfl rfl (by rw [c1]; unfold vp_in; decide) dX6_keep_29 ?_
    refine W.eq (g2 := F0 m 30 ls [.ref (ad 13)]) (by rw [c1]; rfl) ?_
    refine lv_aload_n hx hb dX6_keep_30 rfl (lv_at hl 1 rfl) ?_
    refine va_get (D := G) (ci := 6) (v := .ref (ad 6)) (C := RX6) (T := TX6) (N := 9) hx hb hts inkX6 hown hK hP 0 rfl rfl 2 (by decide) (hts _ kw_232) (fun _ h9 => h9) rfl dX6_keep_31 ?_
    replace hf := s_bv_some hf
    obtain ⟨σ3, hz4, hf⟩ := hf
    refine s_callv (nn := 1) C (kcX1_copyFrom_13_6 (l := l) (G := G) (cy := cy) (sa := sa) (sh := sh) hI (sz := H.size) σ hz4) gk_X6_85 rfl rfl (by decide +kernel) ⟨Nat.le_of_ble_eq_true rfl, Nat.le_of_ble_eq_true rfl⟩ hP hS (q0 := 13) (ci := 1) rfl rfl rfl (As := [.ref (ad 6)]) (rest := []) rfl rfl hl.1 (Nat.le_of_ble_eq_true rfl) dX6_keep_34 (fun H locs hP hS => ?_)
    refine lv_aload_n hx hb dX6_keep_37 rfl (lv_at hl 1 rfl) ?_
    refine va_get (D := G) (ci := 6) (v := .ref (ad 17)) (C := RX6) (T := TX6) (N := 9) hx hb hts inkX6 hown hK hP 0 rfl rfl 6 (by decide) (hts _ kw_236) (fun _ h9 => h9) rfl dX6_keep_38 ?_
    refine lv_iload_n hx hb dX6_keep_41 rfl (lv_at hl 2 rfl) ?_
    refine lv_iconst (v := 1) hx hb dX6_keep_42 (by decide) ?_
    replace hf := s_gd_some hf
    obtain ⟨g5, hf⟩ := hf
    refine va_zast hx hb hK hP (hD _) hS 17 2 rfl rfl (s_in_of g5) dX6_keep_43 (fun H locs hP _ hS => ?_)
    obtain ⟨σ6, eσ6⟩ : ∃ z : Sg, z = (s_up σ3 17 (Int32.toNatClampNeg x1) (vp_nar .boolean (1 : Int32))) := ⟨_, rfl⟩
    replace hf := s_lt_at eσ6 hf
    replace hP : va_P G vwCl ((s_WC cy ad sh) σ6) H := by rw [eσ6]; exact hP
    refine lv_iload_n hx hb dX6_keep_44 rfl (lv_at hl 0 rfl) ?_
    obtain ⟨he1, he2⟩ := s_ret hf
    exact W.iret hx hb hr (fun t ht hW => ⟨⟨_, (), rfl, he1, s_fin (Wd := (s_WC cy ad sh)) ht he2 hP⟩, hS.F ht⟩) hS.2.2 dX6_keep_45 hlk
  · rw [if_neg c1] at hf
    by_cases c2 : x1 = 1
    · rw [if_pos c2] at hf
      refine va_aldq hx hb hK hP 12 3 rfl rfl (by rw [c2]; unfold vp_in; decide) dX6_keep_29 ?_
      refine W.eq (g2 := F0 m 30 ls [.ref (ad 15)]) (by rw [c2]; rfl) ?_
      refine lv_aload_n hx hb dX6_keep_30 rfl (lv_at hl 1 rfl) ?_
      refine va_get (D := G) (ci := 6) (v := .ref (ad 6)) (C := RX6) (T := TX6) (N := 9) hx hb hts inkX6 hown hK hP 0 rfl rfl 2 (by decide) (hts _ kw_232) (fun _ h9 => h9) rfl dX6_keep_31 ?_
      replace hf := s_bv_some hf
      obtain ⟨σ7, hz8, hf⟩ := hf
      refine s_callv (nn := 1) C (kcX1_copyFrom_15_6 (l := l) (G := G) (cy := cy) (sa := sa) (sh := sh) hI (sz := H.size) σ hz8) gk_X6_85 rfl rfl (by decide +kernel) ⟨Nat.le_of_ble_eq_true rfl, Nat.le_of_ble_eq_true rfl⟩ hP hS (q0 := 15) (ci := 1) rfl rfl rfl (As := [.ref (ad 6)]) (rest := []) rfl rfl hl.1 (Nat.le_of_ble_eq_true rfl) dX6_keep_34 (fun H locs hP hS => ?_)
      refine lv_aload_n hx hb dX6_keep_37 rfl (lv_at hl 1 rfl) ?_
      refine va_get (D := G) (ci := 6) (v := .ref (ad 17)) (C := RX6) (T := TX6) (N := 9) hx hb hts inkX6 hown hK hP 0 rfl rfl 6 (by decide) (hts _ kw_236) (fun _ h9 => h9) rfl dX6_keep_38 ?_
      refine lv_iload_n hx hb dX6_keep_41 rfl (lv_at hl 2 rfl) ?_
      refine lv_iconst (v := 1) hx hb dX6_keep_42 (by decide) ?_
      replace hf := s_gd_some hf
      obtain ⟨g9, hf⟩ := hf
      refine va_zast hx hb hK hP (hD _) hS 17 2 rfl rfl (s_in_of g9) dX6_keep_43 (fun H locs hP _ hS => ?_)
      obtain ⟨σ10, eσ10⟩ : ∃ z : Sg, z = (s_up σ7 17 (Int32.toNatClampNeg x1) (vp_nar .boolean (1 : Int32))) := ⟨_, rfl⟩
      replace hf := s_lt_at eσ10 hf
      replace hP : va_P G vwCl ((s_WC cy ad sh) σ10) H := by rw [eσ10]; exact hP
      refine lv_iload_n hx hb dX6_keep_44 rfl (lv_at hl 0 rfl) ?_
      obtain ⟨he1, he2⟩ := s_ret hf
      exact W.iret hx hb hr (fun t ht hW => ⟨⟨_, (), rfl, he1, s_fin (Wd := (s_WC cy ad sh)) ht he2 hP⟩, hS.F ht⟩) hS.2.2 dX6_keep_45 hlk
    · rw [if_neg c2] at hf
      cases hf
set_option maxRecDepth 100000 in
set_option maxHeartbeats 4000000 in
theorem kX6_keep (C : s_X p s m meth c args cX6_keep (some .int) 3 RX6 G cy sa ad 19) (σ : Sg) (x1 : Int32) (ls : Array Slot) (H : Heap) (locs : List Loc) (hl : lv_has ls 3 [(0, .ref (ad 0)), (1, .int x1)]) (hP : va_P G vwCl ((s_WC cy ad sh) σ) H) (hS : va_S (s_A ad 19 s.heap.size) s.heap H locs) (hf : fX6_keep σ x1 = some (re, σe)) : W p l e ({ frames := 2, cells := 0, slots := 0, locals := 81 } : Room) s m args below meth c H locs 0 0 (MQ below (s_Qi (s_WC cy ad sh) G (s_A ad 19 s.heap.size) re σe) args s 0 0 (s_A ad 19 s.heap.size)) (F0 m 0 ls []) := by
  obtain ⟨hx, hb, hr, hml, hown, hts, hlk, hK, hE, hI⟩ := id C
  have hD : ∀ σ : Sg, va_D (s_A ad 19 s.heap.size) ((s_WC cy ad sh) σ) := fun σ => s_D (s_WC_ad cy ad sh σ) hI (fun k hk => Or.inl ⟨k, hk, rfl⟩)
  unfold fX6_keep at hf
  refine lv_iload_n hx hb dX6_keep_0 rfl (lv_at hl 1 rfl) ?_
  replace hf := s_bi_some hf
  obtain ⟨r3, σ1, hz2, hf⟩ := hf
  refine s_calliS (nn := 1) C (kcX6_isImage (l := l) (G := G) (cy := cy) (sa := sa) (sh := sh) hI (sz := H.size) σ x1 hz2) gk_X6_219 rfl rfl (by decide +kernel) ⟨Nat.le_of_ble_eq_true rfl, Nat.le_of_ble_eq_true rfl⟩ hP hS (As := [.int x1]) (rest := []) rfl rfl hl.1 (Nat.le_of_ble_eq_true rfl) dX6_keep_1 (fun H locs hP hS => ?_)
  refine lv_if_ne (tgt := 9) hx hb dX6_keep_4 (by decide) (fun c4 => ?_) (fun c4 => ?_)
  · rw [if_neg c4] at hf
    refine lv_aload_n hx hb dX6_keep_9 rfl (lv_at hl 0 rfl) ?_
    refine va_get (D := G) (ci := 6) (v := .ref (ad 17)) (C := RX6) (T := TX6) (N := 9) hx hb hts inkX6 hown hK hP 0 rfl rfl 6 (by decide) (hts _ kw_236) (fun _ h9 => h9) rfl dX6_keep_10 ?_
    refine lv_iload_n hx hb dX6_keep_13 rfl (lv_at hl 1 rfl) ?_
    replace hf := s_gd_some hf
    obtain ⟨g5, hf⟩ := hf
    refine va_zald hx hb hK hP 17 2 rfl rfl (s_in_of g5) dX6_keep_14 ?_
    refine lv_if_eq (tgt := 22) hx hb dX6_keep_15 (by decide) (fun c6 => ?_) (fun c6 => ?_)
    · rw [if_pos c6] at hf
      refine lv_iconst (v := 0) hx hb dX6_keep_22 (by decide) ?_
      exact kX6_keep_b23 C σ1 x1 (0 : Int32) _ _ _ (lv_sub hl [0, 1] rfl) hP hS hf
    · rw [if_neg c6] at hf
      refine lv_iconst (v := 1) hx hb dX6_keep_18 (by decide) ?_
      refine lv_goto (tgt := 23) hx hb dX6_keep_19 (by decide) ?_
      exact kX6_keep_b23 C σ1 x1 (1 : Int32) _ _ _ (lv_sub hl [0, 1] rfl) hP hS hf
  · rw [if_pos c4] at hf
    refine lv_iconst (v := -1) hx hb dX6_keep_7 (by decide) ?_
    obtain ⟨he1, he2⟩ := s_ret hf
    exact W.iret hx hb hr (fun t ht hW => ⟨⟨_, (), rfl, he1, s_fin (Wd := (s_WC cy ad sh)) ht he2 hP⟩, hS.F ht⟩) hS.2.2 dX6_keep_8 hlk
theorem kcX6_keep {l : Launch} {G : va_G} {cy : Nat → ClassId} {sa : Nat × Nat} {ad : Nat → Nat} {sh : Nat → Option Nat} {sz : Nat} (hI : s_inj ad 19) (σ : Sg) (x1 : Int32) {re : Int32} {σe : Sg} (hf : fX6_keep σ x1 = some (re, σe)) : Met l yX6_keep (kW yX6_keep cX6_keep 3 (some .int)) ({ frames := 2, cells := 0, slots := 0, locals := 81 } : Room) (s_P (s_WC cy ad sh) G cy sa ad 19 [.ref (ad 0), .int x1] sz σ) (s_Qi (s_WC cy ad sh) G (s_A ad 19 sz) re σe) 0 0 (s_A ad 19 sz) := by
  refine s_met (own := RX6) (by decide) rfl hI (Nat.le_of_ble_eq_true rfl) (fun p e s m below meth c ls hsz C hP hl => ?_)
  subst hsz
  exact kX6_keep C σ x1 ls _ _ hl hP va_S.rf hf
set_option maxRecDepth 100000 in
set_option maxHeartbeats 4000000 in
theorem kX1_copyFrom_6_13 (C : s_X p s m meth c args cX1_copyFrom none 2 RX1 G cy sa ad 19) (σ : Sg) (ls : Array Slot) (H : Heap) (locs : List Loc) (hl : lv_has ls 2 [(0, .ref (ad 6)), (1, .ref (ad 13))]) (hP : va_P G vwCl ((s_WC cy ad sh) σ) H) (hS : va_S (s_A ad 19 s.heap.size) s.heap H locs) (hf : fX1_copyFrom_6_13 σ = some σe) : W p l e ({ frames := 1, cells := 0, slots := 0, locals := 60 } : Room) s m args below meth c H locs 0 0 (MQ below (s_Qv (s_WC cy ad sh) G (s_A ad 19 s.heap.size) σe) args s 0 0 (s_A ad 19 s.heap.size)) (F0 m 0 ls []) := by
  obtain ⟨hx, hb, hr, hml, hown, hts, hlk, hK, hE, hI⟩ := id C
  have hD : ∀ σ : Sg, va_D (s_A ad 19 s.heap.size) ((s_WC cy ad sh) σ) := fun σ => s_D (s_WC_ad cy ad sh σ) hI (fun k hk => Or.inl ⟨k, hk, rfl⟩)
  unfold fX1_copyFrom_6_13 at hf
  refine lv_aload_n hx hb dX1_copyFrom_0 rfl (lv_at hl 1 rfl) ?_
  refine va_get (D := G) (ci := 1) (v := .ref (ad 14)) (C := RX1) (T := TX1) (N := 8) hx hb hts inkX1 hown hK hP 13 rfl rfl 0 (by decide) (hts _ kw_109) (fun _ h9 => h9) rfl dX1_copyFrom_1 ?_
  refine lv_iconst (v := 0) hx hb dX1_copyFrom_4 (by decide) ?_
  refine lv_aload_n hx hb dX1_copyFrom_5 rfl (lv_at hl 0 rfl) ?_
  refine va_get (D := G) (ci := 1) (v := .ref (ad 7)) (C := RX1) (T := TX1) (N := 8) hx hb hts inkX1 hown hK hP 6 rfl rfl 0 (by decide) (hts _ kw_109) (fun _ h9 => h9) rfl dX1_copyFrom_6 ?_
  refine lv_iconst (v := 0) hx hb dX1_copyFrom_9 (by decide) ?_
  refine lv_aload_n hx hb dX1_copyFrom_10 rfl (lv_at hl 1 rfl) ?_
  refine va_get (D := G) (ci := 1) (v := .int (σ 13 1)) (C := RX1) (T := TX1) (N := 8) hx hb hts inkX1 hown hK hP 13 rfl rfl 1 (by decide) (hts _ kw_110) (fun _ h9 => h9) rfl dX1_copyFrom_11 ?_
  replace hf := s_gd_some hf
  obtain ⟨g2, hf⟩ := hf
  obtain ⟨g2a, g2b, g2c, g2d, g2e⟩ := s_cpok_of g2
  refine va_copyi hx hb (hml.trans hl.1.symm) hown (hts _ kw_421) (hts _ kw_423) (hts _ kw_422) (hts _ kw_67) hK hP (hD _) hS 14 7 1 1 rfl rfl rfl rfl rfl g2a g2b g2c g2d g2e (fun _ _ => rfl) (Nat.le_of_ble_eq_true rfl) (by decide +kernel) dX1_copyFrom_14 (fun H locs hP _ hS => ?_)
  obtain ⟨σ1, eσ1⟩ : ∃ z : Sg, z = (s_upr σ 7 (va_cpy (σ 14) (σ 7) (Int32.toNatClampNeg (0 : Int32)) (Int32.toNatClampNeg (0 : Int32)) (Int32.toNatClampNeg (σ 13 1)))) := ⟨_, rfl⟩
  replace hf := s_lt_at eσ1 hf
  replace hP : va_P G vwCl ((s_WC cy ad sh) σ1) H := by rw [eσ1]; exact hP
  refine lv_aload_n hx hb dX1_copyFrom_17 rfl (lv_at hl 0 rfl) ?_
  refine lv_aload_n hx hb dX1_copyFrom_18 rfl (lv_at hl 1 rfl) ?_
  refine va_get (D := G) (ci := 1) (v := .int (σ1 13 1)) (C := RX1) (T := TX1) (N := 8) hx hb hts inkX1 hown hK hP 13 rfl rfl 1 (by decide) (hts _ kw_110) (fun _ h9 => h9) rfl dX1_copyFrom_19 ?_
  refine va_put (D := G) (ci := 1) (v := .int (σ1 13 1)) (ty := .int) (C := RX1) (T := TX1) (N := 8) hx hb hts inkX1 tyX1 tyX1_ok nmX1 hown hK hP (hD _) hS 6 rfl rfl 1 (by decide) (hts _ kw_110) (fun _ h9 => h9) rfl (by decide +kernel) rfl rfl (Nat.le_of_ble_eq_true rfl) dX1_copyFrom_22 (fun H locs hP _ hS => ?_)
  obtain ⟨σ3, eσ3⟩ : ∃ z : Sg, z = (s_up σ1 6 1 (σ1 13 1)) := ⟨_, rfl⟩
  replace hf := s_lt_at eσ3 hf
  replace hP : va_P G vwCl ((s_WC cy ad sh) σ3) H := by rw [eσ3]; exact hP
  refine lv_aload_n hx hb dX1_copyFrom_25 rfl (lv_at hl 0 rfl) ?_
  refine lv_aload_n hx hb dX1_copyFrom_26 rfl (lv_at hl 1 rfl) ?_
  refine va_get (D := G) (ci := 1) (v := .int (σ3 13 2)) (C := RX1) (T := TX1) (N := 8) hx hb hts inkX1 hown hK hP 13 rfl rfl 2 (by decide) (hts _ kw_113) (fun _ h9 => h9) rfl dX1_copyFrom_27 ?_
  refine va_put (D := G) (ci := 1) (v := .int (σ3 13 2)) (ty := .int) (C := RX1) (T := TX1) (N := 8) hx hb hts inkX1 tyX1 tyX1_ok nmX1 hown hK hP (hD _) hS 6 rfl rfl 2 (by decide) (hts _ kw_113) (fun _ h9 => h9) rfl (by decide +kernel) rfl rfl (Nat.le_of_ble_eq_true rfl) dX1_copyFrom_30 (fun H locs hP _ hS => ?_)
  obtain ⟨σ4, eσ4⟩ : ∃ z : Sg, z = (s_up σ3 6 2 (σ3 13 2)) := ⟨_, rfl⟩
  replace hf := s_lt_at eσ4 hf
  replace hP : va_P G vwCl ((s_WC cy ad sh) σ4) H := by rw [eσ4]; exact hP
  refine lv_aload_n hx hb dX1_copyFrom_33 rfl (lv_at hl 0 rfl) ?_
  refine lv_aload_n hx hb dX1_copyFrom_34 rfl (lv_at hl 1 rfl) ?_
  refine va_get (D := G) (ci := 1) (v := .int (σ4 13 3)) (C := RX1) (T := TX1) (N := 8) hx hb hts inkX1 hown hK hP 13 rfl rfl 3 (by decide) (hts _ kw_117) (fun _ h9 => h9) rfl dX1_copyFrom_35 ?_
  refine va_put (D := G) (ci := 1) (v := .int (σ4 13 3)) (ty := .int) (C := RX1) (T := TX1) (N := 8) hx hb hts inkX1 tyX1 tyX1_ok nmX1 hown hK hP (hD _) hS 6 rfl rfl 3 (by decide) (hts _ kw_117) (fun _ h9 => h9) rfl (by decide +kernel) rfl rfl (Nat.le_of_ble_eq_true rfl) dX1_copyFrom_38 (fun H locs hP _ hS => ?_)
  obtain ⟨σ5, eσ5⟩ : ∃ z : Sg, z = (s_up σ4 6 3 (σ4 13 3)) := ⟨_, rfl⟩
  replace hf := s_lt_at eσ5 hf
  replace hP : va_P G vwCl ((s_WC cy ad sh) σ5) H := by rw [eσ5]; exact hP
  refine lv_aload_n hx hb dX1_copyFrom_41 rfl (lv_at hl 0 rfl) ?_
  refine lv_aload_n hx hb dX1_copyFrom_42 rfl (lv_at hl 1 rfl) ?_
  refine va_get (D := G) (ci := 1) (v := .int (σ5 13 4)) (C := RX1) (T := TX1) (N := 8) hx hb hts inkX1 hown hK hP 13 rfl rfl 4 (by decide) (hts _ kw_121) (fun _ h9 => h9) rfl dX1_copyFrom_43 ?_
  refine va_put (D := G) (ci := 1) (v := .int (σ5 13 4)) (ty := .int) (C := RX1) (T := TX1) (N := 8) hx hb hts inkX1 tyX1 tyX1_ok nmX1 hown hK hP (hD _) hS 6 rfl rfl 4 (by decide) (hts _ kw_121) (fun _ h9 => h9) rfl (by decide +kernel) rfl rfl (Nat.le_of_ble_eq_true rfl) dX1_copyFrom_46 (fun H locs hP _ hS => ?_)
  obtain ⟨σ6, eσ6⟩ : ∃ z : Sg, z = (s_up σ5 6 4 (σ5 13 4)) := ⟨_, rfl⟩
  replace hf := s_lt_at eσ6 hf
  replace hP : va_P G vwCl ((s_WC cy ad sh) σ6) H := by rw [eσ6]; exact hP
  refine lv_aload_n hx hb dX1_copyFrom_49 rfl (lv_at hl 0 rfl) ?_
  refine lv_aload_n hx hb dX1_copyFrom_50 rfl (lv_at hl 1 rfl) ?_
  refine va_get (D := G) (ci := 1) (v := .int (σ6 13 5)) (C := RX1) (T := TX1) (N := 8) hx hb hts inkX1 hown hK hP 13 rfl rfl 5 (by decide) (hts _ kw_125) (fun _ h9 => h9) rfl dX1_copyFrom_51 ?_
  refine va_put (D := G) (ci := 1) (v := .int (σ6 13 5)) (ty := .int) (C := RX1) (T := TX1) (N := 8) hx hb hts inkX1 tyX1 tyX1_ok nmX1 hown hK hP (hD _) hS 6 rfl rfl 5 (by decide) (hts _ kw_125) (fun _ h9 => h9) rfl (by decide +kernel) rfl rfl (Nat.le_of_ble_eq_true rfl) dX1_copyFrom_54 (fun H locs hP _ hS => ?_)
  obtain ⟨σ7, eσ7⟩ : ∃ z : Sg, z = (s_up σ6 6 5 (σ6 13 5)) := ⟨_, rfl⟩
  replace hf := s_lt_at eσ7 hf
  replace hP : va_P G vwCl ((s_WC cy ad sh) σ7) H := by rw [eσ7]; exact hP
  refine lv_aload_n hx hb dX1_copyFrom_57 rfl (lv_at hl 0 rfl) ?_
  refine lv_aload_n hx hb dX1_copyFrom_58 rfl (lv_at hl 1 rfl) ?_
  refine va_get (D := G) (ci := 1) (v := .int (σ7 13 6)) (C := RX1) (T := TX1) (N := 8) hx hb hts inkX1 hown hK hP 13 rfl rfl 6 (by decide) (hts _ kw_129) (fun _ h9 => h9) rfl dX1_copyFrom_59 ?_
  refine va_put (D := G) (ci := 1) (v := .int (σ7 13 6)) (ty := .int) (C := RX1) (T := TX1) (N := 8) hx hb hts inkX1 tyX1 tyX1_ok nmX1 hown hK hP (hD _) hS 6 rfl rfl 6 (by decide) (hts _ kw_129) (fun _ h9 => h9) rfl (by decide +kernel) rfl rfl (Nat.le_of_ble_eq_true rfl) dX1_copyFrom_62 (fun H locs hP _ hS => ?_)
  obtain ⟨σ8, eσ8⟩ : ∃ z : Sg, z = (s_up σ7 6 6 (σ7 13 6)) := ⟨_, rfl⟩
  replace hf := s_lt_at eσ8 hf
  replace hP : va_P G vwCl ((s_WC cy ad sh) σ8) H := by rw [eσ8]; exact hP
  refine lv_aload_n hx hb dX1_copyFrom_65 rfl (lv_at hl 0 rfl) ?_
  refine lv_aload_n hx hb dX1_copyFrom_66 rfl (lv_at hl 1 rfl) ?_
  refine va_get (D := G) (ci := 1) (v := .int (σ8 13 7)) (C := RX1) (T := TX1) (N := 8) hx hb hts inkX1 hown hK hP 13 rfl rfl 7 (by decide) (hts _ kw_133) (fun _ h9 => h9) rfl dX1_copyFrom_67 ?_
  refine va_put (D := G) (ci := 1) (v := .int (σ8 13 7)) (ty := .int) (C := RX1) (T := TX1) (N := 8) hx hb hts inkX1 tyX1 tyX1_ok nmX1 hown hK hP (hD _) hS 6 rfl rfl 7 (by decide) (hts _ kw_133) (fun _ h9 => h9) rfl (by decide +kernel) rfl rfl (Nat.le_of_ble_eq_true rfl) dX1_copyFrom_70 (fun H locs hP _ hS => ?_)
  obtain ⟨σ9, eσ9⟩ : ∃ z : Sg, z = (s_up σ8 6 7 (σ8 13 7)) := ⟨_, rfl⟩
  replace hf := s_lt_at eσ9 hf
  replace hP : va_P G vwCl ((s_WC cy ad sh) σ9) H := by rw [eσ9]; exact hP
  have he2 := Option.some.inj hf
  exact W.vret hx hb hr (fun t ht hW => ⟨⟨(), rfl, trivial, s_fin (Wd := (s_WC cy ad sh)) ht he2 hP⟩, hS.F ht⟩) hS.2.2 dX1_copyFrom_73 hlk
theorem kcX1_copyFrom_6_13 {l : Launch} {G : va_G} {cy : Nat → ClassId} {sa : Nat × Nat} {ad : Nat → Nat} {sh : Nat → Option Nat} {sz : Nat} (hI : s_inj ad 19) (σ : Sg) {σe : Sg} (hf : fX1_copyFrom_6_13 σ = some σe) : Met l yX1_copyFrom (kW yX1_copyFrom cX1_copyFrom 2 none) ({ frames := 1, cells := 0, slots := 0, locals := 60 } : Room) (s_P (s_WC cy ad sh) G cy sa ad 19 [.ref (ad 6), .ref (ad 13)] sz σ) (s_Qv (s_WC cy ad sh) G (s_A ad 19 sz) σe) 0 0 (s_A ad 19 sz) := by
  refine s_met (own := RX1) (by decide) rfl hI (Nat.le_of_ble_eq_true rfl) (fun p e s m below meth c ls hsz C hP hl => ?_)
  subst hsz
  exact kX1_copyFrom_6_13 C σ ls _ _ hl hP va_S.rf hf
set_option maxRecDepth 100000 in
set_option maxHeartbeats 4000000 in
theorem kX1_copyFrom_6_15 (C : s_X p s m meth c args cX1_copyFrom none 2 RX1 G cy sa ad 19) (σ : Sg) (ls : Array Slot) (H : Heap) (locs : List Loc) (hl : lv_has ls 2 [(0, .ref (ad 6)), (1, .ref (ad 15))]) (hP : va_P G vwCl ((s_WC cy ad sh) σ) H) (hS : va_S (s_A ad 19 s.heap.size) s.heap H locs) (hf : fX1_copyFrom_6_15 σ = some σe) : W p l e ({ frames := 1, cells := 0, slots := 0, locals := 60 } : Room) s m args below meth c H locs 0 0 (MQ below (s_Qv (s_WC cy ad sh) G (s_A ad 19 s.heap.size) σe) args s 0 0 (s_A ad 19 s.heap.size)) (F0 m 0 ls []) := by
  obtain ⟨hx, hb, hr, hml, hown, hts, hlk, hK, hE, hI⟩ := id C
  have hD : ∀ σ : Sg, va_D (s_A ad 19 s.heap.size) ((s_WC cy ad sh) σ) := fun σ => s_D (s_WC_ad cy ad sh σ) hI (fun k hk => Or.inl ⟨k, hk, rfl⟩)
  unfold fX1_copyFrom_6_15 at hf
  refine lv_aload_n hx hb dX1_copyFrom_0 rfl (lv_at hl 1 rfl) ?_
  refine va_get (D := G) (ci := 1) (v := .ref (ad 16)) (C := RX1) (T := TX1) (N := 8) hx hb hts inkX1 hown hK hP 15 rfl rfl 0 (by decide) (hts _ kw_109) (fun _ h9 => h9) rfl dX1_copyFrom_1 ?_
  refine lv_iconst (v := 0) hx hb dX1_copyFrom_4 (by decide) ?_
  refine lv_aload_n hx hb dX1_copyFrom_5 rfl (lv_at hl 0 rfl) ?_
  refine va_get (D := G) (ci := 1) (v := .ref (ad 7)) (C := RX1) (T := TX1) (N := 8) hx hb hts inkX1 hown hK hP 6 rfl rfl 0 (by decide) (hts _ kw_109) (fun _ h9 => h9) rfl dX1_copyFrom_6 ?_
  refine lv_iconst (v := 0) hx hb dX1_copyFrom_9 (by decide) ?_
  refine lv_aload_n hx hb dX1_copyFrom_10 rfl (lv_at hl 1 rfl) ?_
  refine va_get (D := G) (ci := 1) (v := .int (σ 15 1)) (C := RX1) (T := TX1) (N := 8) hx hb hts inkX1 hown hK hP 15 rfl rfl 1 (by decide) (hts _ kw_110) (fun _ h9 => h9) rfl dX1_copyFrom_11 ?_
  replace hf := s_gd_some hf
  obtain ⟨g2, hf⟩ := hf
  obtain ⟨g2a, g2b, g2c, g2d, g2e⟩ := s_cpok_of g2
  refine va_copyi hx hb (hml.trans hl.1.symm) hown (hts _ kw_421) (hts _ kw_423) (hts _ kw_422) (hts _ kw_67) hK hP (hD _) hS 16 7 1 1 rfl rfl rfl rfl rfl g2a g2b g2c g2d g2e (fun _ _ => rfl) (Nat.le_of_ble_eq_true rfl) (by decide +kernel) dX1_copyFrom_14 (fun H locs hP _ hS => ?_)
  obtain ⟨σ1, eσ1⟩ : ∃ z : Sg, z = (s_upr σ 7 (va_cpy (σ 16) (σ 7) (Int32.toNatClampNeg (0 : Int32)) (Int32.toNatClampNeg (0 : Int32)) (Int32.toNatClampNeg (σ 15 1)))) := ⟨_, rfl⟩
  replace hf := s_lt_at eσ1 hf
  replace hP : va_P G vwCl ((s_WC cy ad sh) σ1) H := by rw [eσ1]; exact hP
  refine lv_aload_n hx hb dX1_copyFrom_17 rfl (lv_at hl 0 rfl) ?_
  refine lv_aload_n hx hb dX1_copyFrom_18 rfl (lv_at hl 1 rfl) ?_
  refine va_get (D := G) (ci := 1) (v := .int (σ1 15 1)) (C := RX1) (T := TX1) (N := 8) hx hb hts inkX1 hown hK hP 15 rfl rfl 1 (by decide) (hts _ kw_110) (fun _ h9 => h9) rfl dX1_copyFrom_19 ?_
  refine va_put (D := G) (ci := 1) (v := .int (σ1 15 1)) (ty := .int) (C := RX1) (T := TX1) (N := 8) hx hb hts inkX1 tyX1 tyX1_ok nmX1 hown hK hP (hD _) hS 6 rfl rfl 1 (by decide) (hts _ kw_110) (fun _ h9 => h9) rfl (by decide +kernel) rfl rfl (Nat.le_of_ble_eq_true rfl) dX1_copyFrom_22 (fun H locs hP _ hS => ?_)
  obtain ⟨σ3, eσ3⟩ : ∃ z : Sg, z = (s_up σ1 6 1 (σ1 15 1)) := ⟨_, rfl⟩
  replace hf := s_lt_at eσ3 hf
  replace hP : va_P G vwCl ((s_WC cy ad sh) σ3) H := by rw [eσ3]; exact hP
  refine lv_aload_n hx hb dX1_copyFrom_25 rfl (lv_at hl 0 rfl) ?_
  refine lv_aload_n hx hb dX1_copyFrom_26 rfl (lv_at hl 1 rfl) ?_
  refine va_get (D := G) (ci := 1) (v := .int (σ3 15 2)) (C := RX1) (T := TX1) (N := 8) hx hb hts inkX1 hown hK hP 15 rfl rfl 2 (by decide) (hts _ kw_113) (fun _ h9 => h9) rfl dX1_copyFrom_27 ?_
  refine va_put (D := G) (ci := 1) (v := .int (σ3 15 2)) (ty := .int) (C := RX1) (T := TX1) (N := 8) hx hb hts inkX1 tyX1 tyX1_ok nmX1 hown hK hP (hD _) hS 6 rfl rfl 2 (by decide) (hts _ kw_113) (fun _ h9 => h9) rfl (by decide +kernel) rfl rfl (Nat.le_of_ble_eq_true rfl) dX1_copyFrom_30 (fun H locs hP _ hS => ?_)
  obtain ⟨σ4, eσ4⟩ : ∃ z : Sg, z = (s_up σ3 6 2 (σ3 15 2)) := ⟨_, rfl⟩
  replace hf := s_lt_at eσ4 hf
  replace hP : va_P G vwCl ((s_WC cy ad sh) σ4) H := by rw [eσ4]; exact hP
  refine lv_aload_n hx hb dX1_copyFrom_33 rfl (lv_at hl 0 rfl) ?_
  refine lv_aload_n hx hb dX1_copyFrom_34 rfl (lv_at hl 1 rfl) ?_
  refine va_get (D := G) (ci := 1) (v := .int (σ4 15 3)) (C := RX1) (T := TX1) (N := 8) hx hb hts inkX1 hown hK hP 15 rfl rfl 3 (by decide) (hts _ kw_117) (fun _ h9 => h9) rfl dX1_copyFrom_35 ?_
  refine va_put (D := G) (ci := 1) (v := .int (σ4 15 3)) (ty := .int) (C := RX1) (T := TX1) (N := 8) hx hb hts inkX1 tyX1 tyX1_ok nmX1 hown hK hP (hD _) hS 6 rfl rfl 3 (by decide) (hts _ kw_117) (fun _ h9 => h9) rfl (by decide +kernel) rfl rfl (Nat.le_of_ble_eq_true rfl) dX1_copyFrom_38 (fun H locs hP _ hS => ?_)
  obtain ⟨σ5, eσ5⟩ : ∃ z : Sg, z = (s_up σ4 6 3 (σ4 15 3)) := ⟨_, rfl⟩
  replace hf := s_lt_at eσ5 hf
  replace hP : va_P G vwCl ((s_WC cy ad sh) σ5) H := by rw [eσ5]; exact hP
  refine lv_aload_n hx hb dX1_copyFrom_41 rfl (lv_at hl 0 rfl) ?_
  refine lv_aload_n hx hb dX1_copyFrom_42 rfl (lv_at hl 1 rfl) ?_
  refine va_get (D := G) (ci := 1) (v := .int (σ5 15 4)) (C := RX1) (T := TX1) (N := 8) hx hb hts inkX1 hown hK hP 15 rfl rfl 4 (by decide) (hts _ kw_121) (fun _ h9 => h9) rfl dX1_copyFrom_43 ?_
  refine va_put (D := G) (ci := 1) (v := .int (σ5 15 4)) (ty := .int) (C := RX1) (T := TX1) (N := 8) hx hb hts inkX1 tyX1 tyX1_ok nmX1 hown hK hP (hD _) hS 6 rfl rfl 4 (by decide) (hts _ kw_121) (fun _ h9 => h9) rfl (by decide +kernel) rfl rfl (Nat.le_of_ble_eq_true rfl) dX1_copyFrom_46 (fun H locs hP _ hS => ?_)
  obtain ⟨σ6, eσ6⟩ : ∃ z : Sg, z = (s_up σ5 6 4 (σ5 15 4)) := ⟨_, rfl⟩
  replace hf := s_lt_at eσ6 hf
  replace hP : va_P G vwCl ((s_WC cy ad sh) σ6) H := by rw [eσ6]; exact hP
  refine lv_aload_n hx hb dX1_copyFrom_49 rfl (lv_at hl 0 rfl) ?_
  refine lv_aload_n hx hb dX1_copyFrom_50 rfl (lv_at hl 1 rfl) ?_
  refine va_get (D := G) (ci := 1) (v := .int (σ6 15 5)) (C := RX1) (T := TX1) (N := 8) hx hb hts inkX1 hown hK hP 15 rfl rfl 5 (by decide) (hts _ kw_125) (fun _ h9 => h9) rfl dX1_copyFrom_51 ?_
  refine va_put (D := G) (ci := 1) (v := .int (σ6 15 5)) (ty := .int) (C := RX1) (T := TX1) (N := 8) hx hb hts inkX1 tyX1 tyX1_ok nmX1 hown hK hP (hD _) hS 6 rfl rfl 5 (by decide) (hts _ kw_125) (fun _ h9 => h9) rfl (by decide +kernel) rfl rfl (Nat.le_of_ble_eq_true rfl) dX1_copyFrom_54 (fun H locs hP _ hS => ?_)
  obtain ⟨σ7, eσ7⟩ : ∃ z : Sg, z = (s_up σ6 6 5 (σ6 15 5)) := ⟨_, rfl⟩
  replace hf := s_lt_at eσ7 hf
  replace hP : va_P G vwCl ((s_WC cy ad sh) σ7) H := by rw [eσ7]; exact hP
  refine lv_aload_n hx hb dX1_copyFrom_57 rfl (lv_at hl 0 rfl) ?_
  refine lv_aload_n hx hb dX1_copyFrom_58 rfl (lv_at hl 1 rfl) ?_
  refine va_get (D := G) (ci := 1) (v := .int (σ7 15 6)) (C := RX1) (T := TX1) (N := 8) hx hb hts inkX1 hown hK hP 15 rfl rfl 6 (by decide) (hts _ kw_129) (fun _ h9 => h9) rfl dX1_copyFrom_59 ?_
  refine va_put (D := G) (ci := 1) (v := .int (σ7 15 6)) (ty := .int) (C := RX1) (T := TX1) (N := 8) hx hb hts inkX1 tyX1 tyX1_ok nmX1 hown hK hP (hD _) hS 6 rfl rfl 6 (by decide) (hts _ kw_129) (fun _ h9 => h9) rfl (by decide +kernel) rfl rfl (Nat.le_of_ble_eq_true rfl) dX1_copyFrom_62 (fun H locs hP _ hS => ?_)
  obtain ⟨σ8, eσ8⟩ : ∃ z : Sg, z = (s_up σ7 6 6 (σ7 15 6)) := ⟨_, rfl⟩
  replace hf := s_lt_at eσ8 hf
  replace hP : va_P G vwCl ((s_WC cy ad sh) σ8) H := by rw [eσ8]; exact hP
  refine lv_aload_n hx hb dX1_copyFrom_65 rfl (lv_at hl 0 rfl) ?_
  refine lv_aload_n hx hb dX1_copyFrom_66 rfl (lv_at hl 1 rfl) ?_
  refine va_get (D := G) (ci := 1) (v := .int (σ8 15 7)) (C := RX1) (T := TX1) (N := 8) hx hb hts inkX1 hown hK hP 15 rfl rfl 7 (by decide) (hts _ kw_133) (fun _ h9 => h9) rfl dX1_copyFrom_67 ?_
  refine va_put (D := G) (ci := 1) (v := .int (σ8 15 7)) (ty := .int) (C := RX1) (T := TX1) (N := 8) hx hb hts inkX1 tyX1 tyX1_ok nmX1 hown hK hP (hD _) hS 6 rfl rfl 7 (by decide) (hts _ kw_133) (fun _ h9 => h9) rfl (by decide +kernel) rfl rfl (Nat.le_of_ble_eq_true rfl) dX1_copyFrom_70 (fun H locs hP _ hS => ?_)
  obtain ⟨σ9, eσ9⟩ : ∃ z : Sg, z = (s_up σ8 6 7 (σ8 15 7)) := ⟨_, rfl⟩
  replace hf := s_lt_at eσ9 hf
  replace hP : va_P G vwCl ((s_WC cy ad sh) σ9) H := by rw [eσ9]; exact hP
  have he2 := Option.some.inj hf
  exact W.vret hx hb hr (fun t ht hW => ⟨⟨(), rfl, trivial, s_fin (Wd := (s_WC cy ad sh)) ht he2 hP⟩, hS.F ht⟩) hS.2.2 dX1_copyFrom_73 hlk
theorem kcX1_copyFrom_6_15 {l : Launch} {G : va_G} {cy : Nat → ClassId} {sa : Nat × Nat} {ad : Nat → Nat} {sh : Nat → Option Nat} {sz : Nat} (hI : s_inj ad 19) (σ : Sg) {σe : Sg} (hf : fX1_copyFrom_6_15 σ = some σe) : Met l yX1_copyFrom (kW yX1_copyFrom cX1_copyFrom 2 none) ({ frames := 1, cells := 0, slots := 0, locals := 60 } : Room) (s_P (s_WC cy ad sh) G cy sa ad 19 [.ref (ad 6), .ref (ad 15)] sz σ) (s_Qv (s_WC cy ad sh) G (s_A ad 19 sz) σe) 0 0 (s_A ad 19 sz) := by
  refine s_met (own := RX1) (by decide) rfl hI (Nat.le_of_ble_eq_true rfl) (fun p e s m below meth c ls hsz C hP hl => ?_)
  subst hsz
  exact kX1_copyFrom_6_15 C σ ls _ _ hl hP va_S.rf hf
set_option maxRecDepth 100000 in
set_option maxHeartbeats 4000000 in
theorem kX6_back (C : s_X p s m meth c args cX6_back (some .int) 2 RX6 G cy sa ad 19) (σ : Sg) (x1 : Int32) (ls : Array Slot) (H : Heap) (locs : List Loc) (hl : lv_has ls 2 [(0, .ref (ad 0)), (1, .int x1)]) (hP : va_P G vwCl ((s_WC cy ad sh) σ) H) (hS : va_S (s_A ad 19 s.heap.size) s.heap H locs) (hf : fX6_back σ x1 = some (re, σe)) : W p l e ({ frames := 2, cells := 0, slots := 0, locals := 81 } : Room) s m args below meth c H locs 0 0 (MQ below (s_Qi (s_WC cy ad sh) G (s_A ad 19 s.heap.size) re σe) args s 0 0 (s_A ad 19 s.heap.size)) (F0 m 0 ls []) := by
  obtain ⟨hx, hb, hr, hml, hown, hts, hlk, hK, hE, hI⟩ := id C
  have hD : ∀ σ : Sg, va_D (s_A ad 19 s.heap.size) ((s_WC cy ad sh) σ) := fun σ => s_D (s_WC_ad cy ad sh σ) hI (fun k hk => Or.inl ⟨k, hk, rfl⟩)
  unfold fX6_back at hf
  refine lv_iload_n hx hb dX6_back_0 rfl (lv_at hl 1 rfl) ?_
  replace hf := s_bi_some hf
  obtain ⟨r3, σ1, hz2, hf⟩ := hf
  refine s_calliS (nn := 1) C (kcX6_isImage (l := l) (G := G) (cy := cy) (sa := sa) (sh := sh) hI (sz := H.size) σ x1 hz2) gk_X6_219 rfl rfl (by decide +kernel) ⟨Nat.le_of_ble_eq_true rfl, Nat.le_of_ble_eq_true rfl⟩ hP hS (As := [.int x1]) (rest := []) rfl rfl hl.1 (Nat.le_of_ble_eq_true rfl) dX6_back_1 (fun H locs hP hS => ?_)
  refine lv_if_ne (tgt := 9) hx hb dX6_back_4 (by decide) (fun c4 => ?_) (fun c4 => ?_)
  · rw [if_neg c4] at hf
    refine lv_aload_n hx hb dX6_back_9 rfl (lv_at hl 0 rfl) ?_
    refine va_get (D := G) (ci := 6) (v := .ref (ad 17)) (C := RX6) (T := TX6) (N := 9) hx hb hts inkX6 hown hK hP 0 rfl rfl 6 (by decide) (hts _ kw_236) (fun _ h9 => h9) rfl dX6_back_10 ?_
    refine lv_iload_n hx hb dX6_back_13 rfl (lv_at hl 1 rfl) ?_
    replace hf := s_gd_some hf
    obtain ⟨g5, hf⟩ := hf
    refine va_zald hx hb hK hP 17 2 rfl rfl (s_in_of g5) dX6_back_14 ?_
    refine lv_if_ne (tgt := 21) hx hb dX6_back_15 (by decide) (fun c6 => ?_) (fun c6 => ?_)
    · rw [if_neg c6] at hf
      refine lv_aload_n hx hb dX6_back_21 rfl (lv_at hl 0 rfl) ?_
      refine va_get (D := G) (ci := 6) (v := .ref (ad 6)) (C := RX6) (T := TX6) (N := 9) hx hb hts inkX6 hown hK hP 0 rfl rfl 2 (by decide) (hts _ kw_232) (fun _ h9 => h9) rfl dX6_back_22 ?_
      refine lv_aload_n hx hb dX6_back_25 rfl (lv_at hl 0 rfl) ?_
      refine va_get (D := G) (ci := 6) (v := .ref (ad 12)) (C := RX6) (T := TX6) (N := 9) hx hb hts inkX6 hown hK hP 0 rfl rfl 5 (by decide) (hts _ kw_235) (fun _ h9 => h9) rfl dX6_back_26 ?_
      refine lv_iload_n hx hb dX6_back_29 rfl (lv_at hl 1 rfl) ?_
      by_cases c7 : x1 = 0
      · rw [if_pos c7] at hf
        refine va_aldq hx hb hK hP 12 3 rfl rfl (by rw [c7]; unfold vp_in; decide) dX6_back_30 ?_
        refine W.eq (g2 := F0 m 31 ls [.ref (ad 13), .ref (ad 6)]) (by rw [c7]; rfl) ?_
        replace hf := s_bv_some hf
        obtain ⟨σ9, hz10, hf⟩ := hf
        refine s_callv (nn := 1) C (kcX1_copyFrom_6_13 (l := l) (G := G) (cy := cy) (sa := sa) (sh := sh) hI (sz := H.size) σ1 hz10) gk_X6_85 rfl rfl (by decide +kernel) ⟨Nat.le_of_ble_eq_true rfl, Nat.le_of_ble_eq_true rfl⟩ hP hS (q0 := 6) (ci := 1) rfl rfl rfl (As := [.ref (ad 13)]) (rest := []) rfl rfl hl.1 (Nat.le_of_ble_eq_true rfl) dX6_back_31 (fun H locs hP hS => ?_)
        refine lv_aload_n hx hb dX6_back_34 rfl (lv_at hl 0 rfl) ?_
        refine va_get (D := G) (ci := 6) (v := .ref (ad 6)) (C := RX6) (T := TX6) (N := 9) hx hb hts inkX6 hown hK hP 0 rfl rfl 2 (by decide) (hts _ kw_232) (fun _ h9 => h9) rfl dX6_back_35 ?_
        refine va_getN (D := G) (ci := 1) (v := .int (σ9 6 1)) (C := RX1) (T := TX1) (N := 8) hx hb hts inkX1 hown hK hP 6 rfl rfl 1 (by decide) (kn_X6_88 hE) (fun _ h9 => h9) rfl dX6_back_38 ?_
        obtain ⟨he1, he2⟩ := s_ret hf
        exact W.iret hx hb hr (fun t ht hW => ⟨⟨_, (), rfl, he1, s_fin (Wd := (s_WC cy ad sh)) ht he2 hP⟩, hS.F ht⟩) hS.2.2 dX6_back_41 hlk
      · rw [if_neg c7] at hf
        by_cases c8 : x1 = 1
        · rw [if_pos c8] at hf
          refine va_aldq hx hb hK hP 12 3 rfl rfl (by rw [c8]; unfold vp_in; decide) dX6_back_30 ?_
          refine W.eq (g2 := F0 m 31 ls [.ref (ad 15), .ref (ad 6)]) (by rw [c8]; rfl) ?_
          replace hf := s_bv_some hf
          obtain ⟨σ11, hz12, hf⟩ := hf
          refine s_callv (nn := 1) C (kcX1_copyFrom_6_15 (l := l) (G := G) (cy := cy) (sa := sa) (sh := sh) hI (sz := H.size) σ1 hz12) gk_X6_85 rfl rfl (by decide +kernel) ⟨Nat.le_of_ble_eq_true rfl, Nat.le_of_ble_eq_true rfl⟩ hP hS (q0 := 6) (ci := 1) rfl rfl rfl (As := [.ref (ad 15)]) (rest := []) rfl rfl hl.1 (Nat.le_of_ble_eq_true rfl) dX6_back_31 (fun H locs hP hS => ?_)
          refine lv_aload_n hx hb dX6_back_34 rfl (lv_at hl 0 rfl) ?_
          refine va_get (D := G) (ci := 6) (v := .ref (ad 6)) (C := RX6) (T := TX6) (N := 9) hx hb hts inkX6 hown hK hP 0 rfl rfl 2 (by decide) (hts _ kw_232) (fun _ h9 => h9) rfl dX6_back_35 ?_
          refine va_getN (D := G) (ci := 1) (v := .int (σ11 6 1)) (C := RX1) (T := TX1) (N := 8) hx hb hts inkX1 hown hK hP 6 rfl rfl 1 (by decide) (kn_X6_88 hE) (fun _ h9 => h9) rfl dX6_back_38 ?_
          obtain ⟨he1, he2⟩ := s_ret hf
          exact W.iret hx hb hr (fun t ht hW => ⟨⟨_, (), rfl, he1, s_fin (Wd := (s_WC cy ad sh)) ht he2 hP⟩, hS.F ht⟩) hS.2.2 dX6_back_41 hlk
        · rw [if_neg c8] at hf
          cases hf
    · rw [if_pos c6] at hf
      refine lv_bipush (v := -2) hx hb dX6_back_18 (by decide) ?_
      obtain ⟨he1, he2⟩ := s_ret hf
      exact W.iret hx hb hr (fun t ht hW => ⟨⟨_, (), rfl, he1, s_fin (Wd := (s_WC cy ad sh)) ht he2 hP⟩, hS.F ht⟩) hS.2.2 dX6_back_20 hlk
  · rw [if_pos c4] at hf
    refine lv_iconst (v := -1) hx hb dX6_back_7 (by decide) ?_
    obtain ⟨he1, he2⟩ := s_ret hf
    exact W.iret hx hb hr (fun t ht hW => ⟨⟨_, (), rfl, he1, s_fin (Wd := (s_WC cy ad sh)) ht he2 hP⟩, hS.F ht⟩) hS.2.2 dX6_back_8 hlk
theorem kcX6_back {l : Launch} {G : va_G} {cy : Nat → ClassId} {sa : Nat × Nat} {ad : Nat → Nat} {sh : Nat → Option Nat} {sz : Nat} (hI : s_inj ad 19) (σ : Sg) (x1 : Int32) {re : Int32} {σe : Sg} (hf : fX6_back σ x1 = some (re, σe)) : Met l yX6_back (kW yX6_back cX6_back 2 (some .int)) ({ frames := 2, cells := 0, slots := 0, locals := 81 } : Room) (s_P (s_WC cy ad sh) G cy sa ad 19 [.ref (ad 0), .int x1] sz σ) (s_Qi (s_WC cy ad sh) G (s_A ad 19 sz) re σe) 0 0 (s_A ad 19 sz) := by
  refine s_met (own := RX6) (by decide) rfl hI (Nat.le_of_ble_eq_true rfl) (fun p e s m below meth c ls hsz C hP hl => ?_)
  subst hsz
  exact kX6_back C σ x1 ls _ _ hl hP va_S.rf hf
set_option maxRecDepth 100000 in
set_option maxHeartbeats 4000000 in
theorem kX6_isSheet_b13 (C : s_X p s m meth c args cX6_isSheet (some .boolean) 1 RX6 G cy sa ad 19) (σ : Sg) (ls : Array Slot) (H : Heap) (locs : List Loc) (hl : lv_has ls 1 []) (hP : va_P G vwCl ((s_WC cy ad sh) σ) H) (hS : va_S (s_A ad 19 s.heap.size) s.heap H locs) (hf : fX6_isSheet_b13 σ = some (re, σe)) : W p l e ({ frames := 0, cells := 0, slots := 0, locals := 0 } : Room) s m args below meth c H locs 0 0 (MQ below (s_Qi (s_WC cy ad sh) G (s_A ad 19 s.heap.size) re σe) args s 0 0 (s_A ad 19 s.heap.size)) (F0 m 13 ls []) := by
  obtain ⟨hx, hb, hr, hml, hown, hts, hlk, hK, hE, hI⟩ := id C
  have hD : ∀ σ : Sg, va_D (s_A ad 19 s.heap.size) ((s_WC cy ad sh) σ) := fun σ => s_D (s_WC_ad cy ad sh σ) hI (fun k hk => Or.inl ⟨k, hk, rfl⟩)
  unfold fX6_isSheet_b13 at hf
  refine lv_iconst (v := 0) hx hb dX6_isSheet_13 (by decide) ?_
  obtain ⟨he1, he2⟩ := s_ret hf
  exact W.zret hx hb hr rfl (fun t ht hW => ⟨⟨_, (), rfl, he1, s_fin (Wd := (s_WC cy ad sh)) ht he2 hP⟩, hS.F ht⟩) hS.2.2 dX6_isSheet_14 hlk
set_option maxRecDepth 100000 in
set_option maxHeartbeats 4000000 in
theorem kX6_isSheet (C : s_X p s m meth c args cX6_isSheet (some .boolean) 1 RX6 G cy sa ad 19) (σ : Sg) (x0 : Int32) (ls : Array Slot) (H : Heap) (locs : List Loc) (hl : lv_has ls 1 [(0, .int x0)]) (hP : va_P G vwCl ((s_WC cy ad sh) σ) H) (hS : va_S (s_A ad 19 s.heap.size) s.heap H locs) (hf : fX6_isSheet σ x0 = some (re, σe)) : W p l e ({ frames := 0, cells := 0, slots := 0, locals := 0 } : Room) s m args below meth c H locs 0 0 (MQ below (s_Qi (s_WC cy ad sh) G (s_A ad 19 s.heap.size) re σe) args s 0 0 (s_A ad 19 s.heap.size)) (F0 m 0 ls []) := by
  obtain ⟨hx, hb, hr, hml, hown, hts, hlk, hK, hE, hI⟩ := id C
  have hD : ∀ σ : Sg, va_D (s_A ad 19 s.heap.size) ((s_WC cy ad sh) σ) := fun σ => s_D (s_WC_ad cy ad sh σ) hI (fun k hk => Or.inl ⟨k, hk, rfl⟩)
  unfold fX6_isSheet at hf
  refine lv_iload_n hx hb dX6_isSheet_0 rfl (lv_at hl 0 rfl) ?_
  refine lv_if_lt (tgt := 13) hx hb dX6_isSheet_1 (by decide) (fun c1 => ?_) (fun c1 => ?_)
  · rw [if_pos c1] at hf
    exact kX6_isSheet_b13 C σ _ _ _ (lv_sub hl [] rfl) hP hS hf
  · rw [if_neg c1] at hf
    refine lv_iload_n hx hb dX6_isSheet_4 rfl (lv_at hl 0 rfl) ?_
    refine lv_iconst (v := 4) hx hb dX6_isSheet_5 (by decide) ?_
    refine lv_icmp_ge (tgt := 13) hx hb dX6_isSheet_6 (by decide) (fun c2 => ?_) (fun c2 => ?_)
    · rw [if_pos c2] at hf
      exact kX6_isSheet_b13 C σ _ _ _ (lv_sub hl [] rfl) hP hS hf
    · rw [if_neg c2] at hf
      refine lv_iconst (v := 1) hx hb dX6_isSheet_9 (by decide) ?_
      refine lv_goto (tgt := 14) hx hb dX6_isSheet_10 (by decide) ?_
      obtain ⟨he1, he2⟩ := s_ret hf
      exact W.zret hx hb hr rfl (fun t ht hW => ⟨⟨_, (), rfl, he1, s_fin (Wd := (s_WC cy ad sh)) ht he2 hP⟩, hS.F ht⟩) hS.2.2 dX6_isSheet_14 hlk
theorem kcX6_isSheet {l : Launch} {G : va_G} {cy : Nat → ClassId} {sa : Nat × Nat} {ad : Nat → Nat} {sh : Nat → Option Nat} {sz : Nat} (hI : s_inj ad 19) (σ : Sg) (x0 : Int32) {re : Int32} {σe : Sg} (hf : fX6_isSheet σ x0 = some (re, σe)) : Met l yX6_isSheet (kW yX6_isSheet cX6_isSheet 1 (some .boolean)) ({ frames := 0, cells := 0, slots := 0, locals := 0 } : Room) (s_P (s_WC cy ad sh) G cy sa ad 19 [.int x0] sz σ) (s_Qi (s_WC cy ad sh) G (s_A ad 19 sz) re σe) 0 0 (s_A ad 19 sz) := by
  refine s_met (own := RX6) (by decide) rfl hI (Nat.le_of_ble_eq_true rfl) (fun p e s m below meth c ls hsz C hP hl => ?_)
  subst hsz
  exact kX6_isSheet C σ x0 ls _ _ hl hP va_S.rf hf
set_option maxRecDepth 100000 in
set_option maxHeartbeats 4000000 in
theorem kX6_isLane_b13 (C : s_X p s m meth c args cX6_isLane (some .boolean) 1 RX6 G cy sa ad 19) (σ : Sg) (ls : Array Slot) (H : Heap) (locs : List Loc) (hl : lv_has ls 1 []) (hP : va_P G vwCl ((s_WC cy ad sh) σ) H) (hS : va_S (s_A ad 19 s.heap.size) s.heap H locs) (hf : fX6_isLane_b13 σ = some (re, σe)) : W p l e ({ frames := 0, cells := 0, slots := 0, locals := 0 } : Room) s m args below meth c H locs 0 0 (MQ below (s_Qi (s_WC cy ad sh) G (s_A ad 19 s.heap.size) re σe) args s 0 0 (s_A ad 19 s.heap.size)) (F0 m 13 ls []) := by
  obtain ⟨hx, hb, hr, hml, hown, hts, hlk, hK, hE, hI⟩ := id C
  have hD : ∀ σ : Sg, va_D (s_A ad 19 s.heap.size) ((s_WC cy ad sh) σ) := fun σ => s_D (s_WC_ad cy ad sh σ) hI (fun k hk => Or.inl ⟨k, hk, rfl⟩)
  unfold fX6_isLane_b13 at hf
  refine lv_iconst (v := 0) hx hb dX6_isLane_13 (by decide) ?_
  obtain ⟨he1, he2⟩ := s_ret hf
  exact W.zret hx hb hr rfl (fun t ht hW => ⟨⟨_, (), rfl, he1, s_fin (Wd := (s_WC cy ad sh)) ht he2 hP⟩, hS.F ht⟩) hS.2.2 dX6_isLane_14 hlk
set_option maxRecDepth 100000 in
set_option maxHeartbeats 4000000 in
theorem kX6_isLane (C : s_X p s m meth c args cX6_isLane (some .boolean) 1 RX6 G cy sa ad 19) (σ : Sg) (x0 : Int32) (ls : Array Slot) (H : Heap) (locs : List Loc) (hl : lv_has ls 1 [(0, .int x0)]) (hP : va_P G vwCl ((s_WC cy ad sh) σ) H) (hS : va_S (s_A ad 19 s.heap.size) s.heap H locs) (hf : fX6_isLane σ x0 = some (re, σe)) : W p l e ({ frames := 0, cells := 0, slots := 0, locals := 0 } : Room) s m args below meth c H locs 0 0 (MQ below (s_Qi (s_WC cy ad sh) G (s_A ad 19 s.heap.size) re σe) args s 0 0 (s_A ad 19 s.heap.size)) (F0 m 0 ls []) := by
  obtain ⟨hx, hb, hr, hml, hown, hts, hlk, hK, hE, hI⟩ := id C
  have hD : ∀ σ : Sg, va_D (s_A ad 19 s.heap.size) ((s_WC cy ad sh) σ) := fun σ => s_D (s_WC_ad cy ad sh σ) hI (fun k hk => Or.inl ⟨k, hk, rfl⟩)
  unfold fX6_isLane at hf
  refine lv_iload_n hx hb dX6_isLane_0 rfl (lv_at hl 0 rfl) ?_
  refine lv_if_lt (tgt := 13) hx hb dX6_isLane_1 (by decide) (fun c1 => ?_) (fun c1 => ?_)
  · rw [if_pos c1] at hf
    exact kX6_isLane_b13 C σ _ _ _ (lv_sub hl [] rfl) hP hS hf
  · rw [if_neg c1] at hf
    refine lv_iload_n hx hb dX6_isLane_4 rfl (lv_at hl 0 rfl) ?_
    refine lv_iconst (v := 2) hx hb dX6_isLane_5 (by decide) ?_
    refine lv_icmp_gt (tgt := 13) hx hb dX6_isLane_6 (by decide) (fun c2 => ?_) (fun c2 => ?_)
    · rw [if_pos c2] at hf
      exact kX6_isLane_b13 C σ _ _ _ (lv_sub hl [] rfl) hP hS hf
    · rw [if_neg c2] at hf
      refine lv_iconst (v := 1) hx hb dX6_isLane_9 (by decide) ?_
      refine lv_goto (tgt := 14) hx hb dX6_isLane_10 (by decide) ?_
      obtain ⟨he1, he2⟩ := s_ret hf
      exact W.zret hx hb hr rfl (fun t ht hW => ⟨⟨_, (), rfl, he1, s_fin (Wd := (s_WC cy ad sh)) ht he2 hP⟩, hS.F ht⟩) hS.2.2 dX6_isLane_14 hlk
theorem kcX6_isLane {l : Launch} {G : va_G} {cy : Nat → ClassId} {sa : Nat × Nat} {ad : Nat → Nat} {sh : Nat → Option Nat} {sz : Nat} (hI : s_inj ad 19) (σ : Sg) (x0 : Int32) {re : Int32} {σe : Sg} (hf : fX6_isLane σ x0 = some (re, σe)) : Met l yX6_isLane (kW yX6_isLane cX6_isLane 1 (some .boolean)) ({ frames := 0, cells := 0, slots := 0, locals := 0 } : Room) (s_P (s_WC cy ad sh) G cy sa ad 19 [.int x0] sz σ) (s_Qi (s_WC cy ad sh) G (s_A ad 19 sz) re σe) 0 0 (s_A ad 19 sz) := by
  refine s_met (own := RX6) (by decide) rfl hI (Nat.le_of_ble_eq_true rfl) (fun p e s m below meth c ls hsz C hP hl => ?_)
  subst hsz
  exact kX6_isLane C σ x0 ls _ _ hl hP va_S.rf hf
set_option maxRecDepth 100000 in
set_option maxHeartbeats 4000000 in
theorem kX6_torn (C : s_X p s m meth c args cX6_torn (some .int) 1 RX6 G cy sa ad 19) (σ : Sg) (ls : Array Slot) (H : Heap) (locs : List Loc) (hl : lv_has ls 1 [(0, .ref (ad 0))]) (hP : va_P G vwCl ((s_WC cy ad sh) σ) H) (hS : va_S (s_A ad 19 s.heap.size) s.heap H locs) (hf : fX6_torn σ = some (re, σe)) : W p l e ({ frames := 0, cells := 0, slots := 0, locals := 0 } : Room) s m args below meth c H locs 0 0 (MQ below (s_Qi (s_WC cy ad sh) G (s_A ad 19 s.heap.size) re σe) args s 0 0 (s_A ad 19 s.heap.size)) (F0 m 0 ls []) := by
  obtain ⟨hx, hb, hr, hml, hown, hts, hlk, hK, hE, hI⟩ := id C
  have hD : ∀ σ : Sg, va_D (s_A ad 19 s.heap.size) ((s_WC cy ad sh) σ) := fun σ => s_D (s_WC_ad cy ad sh σ) hI (fun k hk => Or.inl ⟨k, hk, rfl⟩)
  unfold fX6_torn at hf
  refine lv_aload_n hx hb dX6_torn_0 rfl (lv_at hl 0 rfl) ?_
  refine va_get (D := G) (ci := 6) (v := .int (σ 0 8)) (C := RX6) (T := TX6) (N := 9) hx hb hts inkX6 hown hK hP 0 rfl rfl 8 (by decide) (hts _ kw_238) (fun _ h9 => h9) rfl dX6_torn_1 ?_
  obtain ⟨he1, he2⟩ := s_ret hf
  exact W.iret hx hb hr (fun t ht hW => ⟨⟨_, (), rfl, he1, s_fin (Wd := (s_WC cy ad sh)) ht he2 hP⟩, hS.F ht⟩) hS.2.2 dX6_torn_4 hlk
theorem kcX6_torn {l : Launch} {G : va_G} {cy : Nat → ClassId} {sa : Nat × Nat} {ad : Nat → Nat} {sh : Nat → Option Nat} {sz : Nat} (hI : s_inj ad 19) (σ : Sg) {re : Int32} {σe : Sg} (hf : fX6_torn σ = some (re, σe)) : Met l yX6_torn (kW yX6_torn cX6_torn 1 (some .int)) ({ frames := 0, cells := 0, slots := 0, locals := 0 } : Room) (s_P (s_WC cy ad sh) G cy sa ad 19 [.ref (ad 0)] sz σ) (s_Qi (s_WC cy ad sh) G (s_A ad 19 sz) re σe) 0 0 (s_A ad 19 sz) := by
  refine s_met (own := RX6) (by decide) rfl hI (Nat.le_of_ble_eq_true rfl) (fun p e s m below meth c ls hsz C hP hl => ?_)
  subst hsz
  exact kX6_torn C σ ls _ _ hl hP va_S.rf hf
set_option maxRecDepth 100000 in
set_option maxHeartbeats 4000000 in
theorem kX6_countImages_b25 (C : s_X p s m meth c args cX6_countImages (some .int) 3 RX6 G cy sa ad 19) (k4 : Sg → Int32 → Int32 → Option (Int32 × Sg)) (hk4 : ∀ (σ : Sg) (x1 : Int32) (x2 : Int32) (ls : Array Slot) (H : Heap) (locs : List Loc), lv_has ls 3 [(0, .ref (ad 0)), (1, .int x1), (2, .int x2)] → va_P G vwCl ((s_WC cy ad sh) σ) H → va_S (s_A ad 19 s.heap.size) s.heap H locs → k4 σ x1 x2 = some (re, σe) → W p l e ({ frames := 0, cells := 0, slots := 0, locals := 0 } : Room) s m args below meth c H locs 0 0 (MQ below (s_Qi (s_WC cy ad sh) G (s_A ad 19 s.heap.size) re σe) args s 0 0 (s_A ad 19 s.heap.size)) (F0 m 4 ls [])) (σ : Sg) (x1 : Int32) (x2 : Int32) (ls : Array Slot) (H : Heap) (locs : List Loc) (hl : lv_has ls 3 [(0, .ref (ad 0)), (1, .int x1), (2, .int x2)]) (hP : va_P G vwCl ((s_WC cy ad sh) σ) H) (hS : va_S (s_A ad 19 s.heap.size) s.heap H locs) (hf : fX6_countImages_b25 k4 σ x1 x2 = some (re, σe)) : W p l e ({ frames := 0, cells := 0, slots := 0, locals := 0 } : Room) s m args below meth c H locs 0 0 (MQ below (s_Qi (s_WC cy ad sh) G (s_A ad 19 s.heap.size) re σe) args s 0 0 (s_A ad 19 s.heap.size)) (F0 m 25 ls []) := by
  obtain ⟨hx, hb, hr, hml, hown, hts, hlk, hK, hE, hI⟩ := id C
  have hD : ∀ σ : Sg, va_D (s_A ad 19 s.heap.size) ((s_WC cy ad sh) σ) := fun σ => s_D (s_WC_ad cy ad sh σ) hI (fun k hk => Or.inl ⟨k, hk, rfl⟩)
  unfold fX6_countImages_b25 at hf
  obtain ⟨t1, et1⟩ : ∃ z : Int32, z = (x2 + 1) := ⟨_, rfl⟩
  replace hf := s_lt_at et1 hf
  refine lv_iinc (v := t1) (lv' := [(2, .int t1), (0, .ref (ad 0)), (1, .int x1)]) hx hb dX6_countImages_25 hl (k := 2) rfl (by rw [et1]; rfl) (by decide) rfl (fun ls hl => ?_)
  refine lv_goto (tgt := 4) hx hb dX6_countImages_28 (by decide) ?_
  exact hk4 σ x1 t1 _ _ _ (lv_sub hl [1, 2, 0] rfl) hP hS hf
set_option maxRecDepth 100000 in
set_option maxHeartbeats 4000000 in
theorem kX6_countImages_b4 (C : s_X p s m meth c args cX6_countImages (some .int) 3 RX6 G cy sa ad 19) (k4 : Sg → Int32 → Int32 → Option (Int32 × Sg)) (hk4 : ∀ (σ : Sg) (x1 : Int32) (x2 : Int32) (ls : Array Slot) (H : Heap) (locs : List Loc), lv_has ls 3 [(0, .ref (ad 0)), (1, .int x1), (2, .int x2)] → va_P G vwCl ((s_WC cy ad sh) σ) H → va_S (s_A ad 19 s.heap.size) s.heap H locs → k4 σ x1 x2 = some (re, σe) → W p l e ({ frames := 0, cells := 0, slots := 0, locals := 0 } : Room) s m args below meth c H locs 0 0 (MQ below (s_Qi (s_WC cy ad sh) G (s_A ad 19 s.heap.size) re σe) args s 0 0 (s_A ad 19 s.heap.size)) (F0 m 4 ls [])) (σ : Sg) (x1 : Int32) (x2 : Int32) (ls : Array Slot) (H : Heap) (locs : List Loc) (hl : lv_has ls 3 [(0, .ref (ad 0)), (1, .int x1), (2, .int x2)]) (hP : va_P G vwCl ((s_WC cy ad sh) σ) H) (hS : va_S (s_A ad 19 s.heap.size) s.heap H locs) (hf : fX6_countImages_b4 k4 σ x1 x2 = some (re, σe)) : W p l e ({ frames := 0, cells := 0, slots := 0, locals := 0 } : Room) s m args below meth c H locs 0 0 (MQ below (s_Qi (s_WC cy ad sh) G (s_A ad 19 s.heap.size) re σe) args s 0 0 (s_A ad 19 s.heap.size)) (F0 m 4 ls []) := by
  obtain ⟨hx, hb, hr, hml, hown, hts, hlk, hK, hE, hI⟩ := id C
  have hD : ∀ σ : Sg, va_D (s_A ad 19 s.heap.size) ((s_WC cy ad sh) σ) := fun σ => s_D (s_WC_ad cy ad sh σ) hI (fun k hk => Or.inl ⟨k, hk, rfl⟩)
  unfold fX6_countImages_b4 at hf
  refine lv_iload_n hx hb dX6_countImages_4 rfl (lv_at hl 2 rfl) ?_
  refine lv_aload_n hx hb dX6_countImages_5 rfl (lv_at hl 0 rfl) ?_
  refine va_get (D := G) (ci := 6) (v := .ref (ad 17)) (C := RX6) (T := TX6) (N := 9) hx hb hts inkX6 hown hK hP 0 rfl rfl 6 (by decide) (hts _ kw_236) (fun _ h9 => h9) rfl dX6_countImages_6 ?_
  refine va_alen (v := (2 : Int32)) hx hb hK hP 17 2 rfl rfl (by show Int32.ofNat 2 = 2; decide) dX6_countImages_9 ?_
  refine lv_icmp_ge (tgt := 31) hx hb dX6_countImages_10 (by decide) (fun c1 => ?_) (fun c1 => ?_)
  · rw [if_pos c1] at hf
    refine lv_iload_n hx hb dX6_countImages_31 rfl (lv_at hl 1 rfl) ?_
    obtain ⟨he1, he2⟩ := s_ret hf
    exact W.iret hx hb hr (fun t ht hW => ⟨⟨_, (), rfl, he1, s_fin (Wd := (s_WC cy ad sh)) ht he2 hP⟩, hS.F ht⟩) hS.2.2 dX6_countImages_32 hlk
  · rw [if_neg c1] at hf
    refine lv_aload_n hx hb dX6_countImages_13 rfl (lv_at hl 0 rfl) ?_
    refine va_get (D := G) (ci := 6) (v := .ref (ad 17)) (C := RX6) (T := TX6) (N := 9) hx hb hts inkX6 hown hK hP 0 rfl rfl 6 (by decide) (hts _ kw_236) (fun _ h9 => h9) rfl dX6_countImages_14 ?_
    refine lv_iload_n hx hb dX6_countImages_17 rfl (lv_at hl 2 rfl) ?_
    replace hf := s_gd_some hf
    obtain ⟨g2, hf⟩ := hf
    refine va_zald hx hb hK hP 17 2 rfl rfl (s_in_of g2) dX6_countImages_18 ?_
    refine lv_if_eq (tgt := 25) hx hb dX6_countImages_19 (by decide) (fun c3 => ?_) (fun c3 => ?_)
    · rw [if_pos c3] at hf
      exact kX6_countImages_b25 C k4 hk4 σ x1 x2 _ _ _ (lv_sub hl [0, 1, 2] rfl) hP hS hf
    · rw [if_neg c3] at hf
      obtain ⟨t4, et4⟩ : ∃ z : Int32, z = (x1 + 1) := ⟨_, rfl⟩
      replace hf := s_lt_at et4 hf
      refine lv_iinc (v := t4) (lv' := [(1, .int t4), (0, .ref (ad 0)), (2, .int x2)]) hx hb dX6_countImages_22 hl (k := 1) rfl (by rw [et4]; rfl) (by decide) rfl (fun ls hl => ?_)
      exact kX6_countImages_b25 C k4 hk4 σ t4 x2 _ _ _ (lv_sub hl [1, 0, 2] rfl) hP hS hf
set_option maxRecDepth 100000 in
set_option maxHeartbeats 4000000 in
theorem kX6_countImages_b4_L (C : s_X p s m meth c args cX6_countImages (some .int) 3 RX6 G cy sa ad 19) : ∀ (n : Nat), ∀ (σ : Sg) (x1 : Int32) (x2 : Int32) (ls : Array Slot) (H : Heap) (locs : List Loc), lv_has ls 3 [(0, .ref (ad 0)), (1, .int x1), (2, .int x2)] → va_P G vwCl ((s_WC cy ad sh) σ) H → va_S (s_A ad 19 s.heap.size) s.heap H locs → fX6_countImages_b4_L n σ x1 x2 = some (re, σe) → W p l e ({ frames := 0, cells := 0, slots := 0, locals := 0 } : Room) s m args below meth c H locs 0 0 (MQ below (s_Qi (s_WC cy ad sh) G (s_A ad 19 s.heap.size) re σe) args s 0 0 (s_A ad 19 s.heap.size)) (F0 m 4 ls []) := by
  intro n
  induction n with
  | zero => intro σ x1 x2 ls H locs hl hP hS hf; exact absurd (show (none : Option (Int32 × Sg)) = some (re, σe) from hf) (by intro h; cases h)
  | succ n ih => intro σ x1 x2 ls H locs hl hP hS hf; exact kX6_countImages_b4 C (fX6_countImages_b4_L n) ih σ x1 x2 ls H locs hl hP hS hf
set_option maxRecDepth 100000 in
set_option maxHeartbeats 4000000 in
theorem kX6_countImages (C : s_X p s m meth c args cX6_countImages (some .int) 3 RX6 G cy sa ad 19) (σ : Sg) (ls : Array Slot) (H : Heap) (locs : List Loc) (hl : lv_has ls 3 [(0, .ref (ad 0))]) (hP : va_P G vwCl ((s_WC cy ad sh) σ) H) (hS : va_S (s_A ad 19 s.heap.size) s.heap H locs) (hf : fX6_countImages σ = some (re, σe)) : W p l e ({ frames := 0, cells := 0, slots := 0, locals := 0 } : Room) s m args below meth c H locs 0 0 (MQ below (s_Qi (s_WC cy ad sh) G (s_A ad 19 s.heap.size) re σe) args s 0 0 (s_A ad 19 s.heap.size)) (F0 m 0 ls []) := by
  obtain ⟨hx, hb, hr, hml, hown, hts, hlk, hK, hE, hI⟩ := id C
  have hD : ∀ σ : Sg, va_D (s_A ad 19 s.heap.size) ((s_WC cy ad sh) σ) := fun σ => s_D (s_WC_ad cy ad sh σ) hI (fun k hk => Or.inl ⟨k, hk, rfl⟩)
  unfold fX6_countImages at hf
  refine lv_iconst (v := 0) hx hb dX6_countImages_0 (by decide) ?_
  refine lv_istore_n (lv' := [(1, .int (0 : Int32)), (0, .ref (ad 0))]) hx hb dX6_countImages_1 rfl hl (by decide) rfl (fun ls hl => ?_)
  refine lv_iconst (v := 0) hx hb dX6_countImages_2 (by decide) ?_
  refine lv_istore_n (lv' := [(2, .int (0 : Int32)), (1, .int (0 : Int32)), (0, .ref (ad 0))]) hx hb dX6_countImages_3 rfl hl (by decide) rfl (fun ls hl => ?_)
  exact kX6_countImages_b4_L C s_fu σ (0 : Int32) (0 : Int32) _ _ _ (lv_sub hl [2, 1, 0] rfl) hP hS hf
theorem kcX6_countImages {l : Launch} {G : va_G} {cy : Nat → ClassId} {sa : Nat × Nat} {ad : Nat → Nat} {sh : Nat → Option Nat} {sz : Nat} (hI : s_inj ad 19) (σ : Sg) {re : Int32} {σe : Sg} (hf : fX6_countImages σ = some (re, σe)) : Met l yX6_countImages (kW yX6_countImages cX6_countImages 3 (some .int)) ({ frames := 0, cells := 0, slots := 0, locals := 0 } : Room) (s_P (s_WC cy ad sh) G cy sa ad 19 [.ref (ad 0)] sz σ) (s_Qi (s_WC cy ad sh) G (s_A ad 19 sz) re σe) 0 0 (s_A ad 19 sz) := by
  refine s_met (own := RX6) (by decide) rfl hI (Nat.le_of_ble_eq_true rfl) (fun p e s m below meth c ls hsz C hP hl => ?_)
  subst hsz
  exact kX6_countImages C σ ls _ _ hl hP va_S.rf hf
set_option maxRecDepth 100000 in
set_option maxHeartbeats 4000000 in
theorem kX6_countShownBytes_b11 (C : s_X p s m meth c args cX6_countShownBytes (some .int) 3 RX6 G cy sa ad 19) (k11 : Sg → Int32 → Int32 → Option (Int32 × Sg)) (hk11 : ∀ (σ : Sg) (x1 : Int32) (x2 : Int32) (ls : Array Slot) (H : Heap) (locs : List Loc), lv_has ls 3 [(0, .ref (ad 0)), (1, .int x1), (2, .int x2)] → va_P G vwCl ((s_WC cy ad sh) σ) H → va_S (s_A ad 19 s.heap.size) s.heap H locs → k11 σ x1 x2 = some (re, σe) → W p l e ({ frames := 4, cells := 0, slots := 0, locals := 89 } : Room) s m args below meth c H locs 0 0 (MQ below (s_Qi (s_WC cy ad sh) G (s_A ad 19 s.heap.size) re σe) args s 0 0 (s_A ad 19 s.heap.size)) (F0 m 11 ls [])) (σ : Sg) (x1 : Int32) (x2 : Int32) (ls : Array Slot) (H : Heap) (locs : List Loc) (hl : lv_has ls 3 [(0, .ref (ad 0)), (1, .int x1), (2, .int x2)]) (hP : va_P G vwCl ((s_WC cy ad sh) σ) H) (hS : va_S (s_A ad 19 s.heap.size) s.heap H locs) (hf : fX6_countShownBytes_b11 k11 σ x1 x2 = some (re, σe)) : W p l e ({ frames := 4, cells := 0, slots := 0, locals := 89 } : Room) s m args below meth c H locs 0 0 (MQ below (s_Qi (s_WC cy ad sh) G (s_A ad 19 s.heap.size) re σe) args s 0 0 (s_A ad 19 s.heap.size)) (F0 m 11 ls []) := by
  obtain ⟨hx, hb, hr, hml, hown, hts, hlk, hK, hE, hI⟩ := id C
  have hD : ∀ σ : Sg, va_D (s_A ad 19 s.heap.size) ((s_WC cy ad sh) σ) := fun σ => s_D (s_WC_ad cy ad sh σ) hI (fun k hk => Or.inl ⟨k, hk, rfl⟩)
  unfold fX6_countShownBytes_b11 at hf
  refine lv_iload_n hx hb dX6_countShownBytes_11 rfl (lv_at hl 2 rfl) ?_
  refine lv_aload_n hx hb dX6_countShownBytes_12 rfl (lv_at hl 0 rfl) ?_
  refine va_get (D := G) (ci := 6) (v := .ref (ad 6)) (C := RX6) (T := TX6) (N := 9) hx hb hts inkX6 hown hK hP 0 rfl rfl 2 (by decide) (hts _ kw_232) (fun _ h9 => h9) rfl dX6_countShownBytes_13 ?_
  refine va_getN (D := G) (ci := 1) (v := .int (σ 6 1)) (C := RX1) (T := TX1) (N := 8) hx hb hts inkX1 hown hK hP 6 rfl rfl 1 (by decide) (kn_X6_88 hE) (fun _ h9 => h9) rfl dX6_countShownBytes_16 ?_
  refine lv_icmp_ge (tgt := 50) hx hb dX6_countShownBytes_19 (by decide) (fun c1 => ?_) (fun c1 => ?_)
  · rw [if_pos c1] at hf
    refine lv_iload_n hx hb dX6_countShownBytes_50 rfl (lv_at hl 1 rfl) ?_
    obtain ⟨he1, he2⟩ := s_ret hf
    exact W.iret hx hb hr (fun t ht hW => ⟨⟨_, (), rfl, he1, s_fin (Wd := (s_WC cy ad sh)) ht he2 hP⟩, hS.F ht⟩) hS.2.2 dX6_countShownBytes_51 hlk
  · rw [if_neg c1] at hf
    refine lv_aload_n hx hb dX6_countShownBytes_22 rfl (lv_at hl 0 rfl) ?_
    refine va_get (D := G) (ci := 6) (v := .ref (ad 8)) (C := RX6) (T := TX6) (N := 9) hx hb hts inkX6 hown hK hP 0 rfl rfl 3 (by decide) (hts _ kw_233) (fun _ h9 => h9) rfl dX6_countShownBytes_23 ?_
    refine lv_iload_n hx hb dX6_countShownBytes_26 rfl (lv_at hl 2 rfl) ?_
    replace hf := s_bv_some hf
    obtain ⟨σ2, hz3, hf⟩ := hf
    refine s_callv (nn := 1) C (kcX0_slideTo (l := l) (G := G) (cy := cy) (sa := sa) (sh := sh) hI (sz := H.size) σ x2 hz3) gk_X6_184 rfl rfl (by decide +kernel) ⟨Nat.le_of_ble_eq_true rfl, Nat.le_of_ble_eq_true rfl⟩ hP hS (q0 := 8) (ci := 0) rfl rfl rfl (As := [.int x2]) (rest := []) rfl rfl hl.1 (Nat.le_of_ble_eq_true rfl) dX6_countShownBytes_27 (fun H locs hP hS => ?_)
    refine lv_aload_n hx hb dX6_countShownBytes_30 rfl (lv_at hl 0 rfl) ?_
    replace hf := s_bv_some hf
    obtain ⟨σ4, hz5, hf⟩ := hf
    refine s_callv (nn := 0) C (kcX6_writeWords (l := l) (G := G) (cy := cy) (sa := sa) (sh := sh) hI (sz := H.size) σ2 hz5) gk_X6_161 rfl rfl (by decide +kernel) ⟨Nat.le_of_ble_eq_true rfl, Nat.le_of_ble_eq_true rfl⟩ hP hS (q0 := 0) (ci := 6) rfl rfl rfl (As := []) (rest := []) rfl rfl hl.1 (Nat.le_of_ble_eq_true rfl) dX6_countShownBytes_31 (fun H locs hP hS => ?_)
    refine lv_iload_n hx hb dX6_countShownBytes_34 rfl (lv_at hl 1 rfl) ?_
    refine lv_aload_n hx hb dX6_countShownBytes_35 rfl (lv_at hl 0 rfl) ?_
    refine va_get (D := G) (ci := 6) (v := .ref (ad 10)) (C := RX6) (T := TX6) (N := 9) hx hb hts inkX6 hown hK hP 0 rfl rfl 4 (by decide) (hts _ kw_234) (fun _ h9 => h9) rfl dX6_countShownBytes_36 ?_
    refine va_getN (D := G) (ci := 5) (v := .int (σ4 10 1)) (C := RX5) (T := TX5) (N := 2) hx hb hts inkX5 hown hK hP 10 rfl rfl 1 (by decide) (kn_X6_164 hE) (fun _ h9 => h9) rfl dX6_countShownBytes_39 ?_
    refine lv_iadd hx hb dX6_countShownBytes_42 ?_
    refine lv_topi (fun t6 et6 => ?_)
    replace hf := s_lt_at et6 hf
    refine lv_istore_n (lv' := [(1, .int t6), (0, .ref (ad 0)), (2, .int x2)]) hx hb dX6_countShownBytes_43 rfl hl (by decide) rfl (fun ls hl => ?_)
    obtain ⟨t7, et7⟩ : ∃ z : Int32, z = (x2 + 1) := ⟨_, rfl⟩
    replace hf := s_lt_at et7 hf
    refine lv_iinc (v := t7) (lv' := [(2, .int t7), (1, .int t6), (0, .ref (ad 0))]) hx hb dX6_countShownBytes_44 hl (k := 2) rfl (by rw [et7]; rfl) (by decide) rfl (fun ls hl => ?_)
    refine lv_goto (tgt := 11) hx hb dX6_countShownBytes_47 (by decide) ?_
    exact hk11 σ4 t6 t7 _ _ _ (lv_sub hl [2, 1, 0] rfl) hP hS hf
set_option maxRecDepth 100000 in
set_option maxHeartbeats 4000000 in
theorem kX6_countShownBytes_b11_L (C : s_X p s m meth c args cX6_countShownBytes (some .int) 3 RX6 G cy sa ad 19) : ∀ (n : Nat), ∀ (σ : Sg) (x1 : Int32) (x2 : Int32) (ls : Array Slot) (H : Heap) (locs : List Loc), lv_has ls 3 [(0, .ref (ad 0)), (1, .int x1), (2, .int x2)] → va_P G vwCl ((s_WC cy ad sh) σ) H → va_S (s_A ad 19 s.heap.size) s.heap H locs → fX6_countShownBytes_b11_L n σ x1 x2 = some (re, σe) → W p l e ({ frames := 4, cells := 0, slots := 0, locals := 89 } : Room) s m args below meth c H locs 0 0 (MQ below (s_Qi (s_WC cy ad sh) G (s_A ad 19 s.heap.size) re σe) args s 0 0 (s_A ad 19 s.heap.size)) (F0 m 11 ls []) := by
  intro n
  induction n with
  | zero => intro σ x1 x2 ls H locs hl hP hS hf; exact absurd (show (none : Option (Int32 × Sg)) = some (re, σe) from hf) (by intro h; cases h)
  | succ n ih => intro σ x1 x2 ls H locs hl hP hS hf; exact kX6_countShownBytes_b11 C (fX6_countShownBytes_b11_L n) ih σ x1 x2 ls H locs hl hP hS hf
set_option maxRecDepth 100000 in
set_option maxHeartbeats 4000000 in
theorem kX6_countShownBytes (C : s_X p s m meth c args cX6_countShownBytes (some .int) 3 RX6 G cy sa ad 19) (σ : Sg) (ls : Array Slot) (H : Heap) (locs : List Loc) (hl : lv_has ls 3 [(0, .ref (ad 0))]) (hP : va_P G vwCl ((s_WC cy ad sh) σ) H) (hS : va_S (s_A ad 19 s.heap.size) s.heap H locs) (hf : fX6_countShownBytes σ = some (re, σe)) : W p l e ({ frames := 4, cells := 0, slots := 0, locals := 89 } : Room) s m args below meth c H locs 0 0 (MQ below (s_Qi (s_WC cy ad sh) G (s_A ad 19 s.heap.size) re σe) args s 0 0 (s_A ad 19 s.heap.size)) (F0 m 0 ls []) := by
  obtain ⟨hx, hb, hr, hml, hown, hts, hlk, hK, hE, hI⟩ := id C
  have hD : ∀ σ : Sg, va_D (s_A ad 19 s.heap.size) ((s_WC cy ad sh) σ) := fun σ => s_D (s_WC_ad cy ad sh σ) hI (fun k hk => Or.inl ⟨k, hk, rfl⟩)
  unfold fX6_countShownBytes at hf
  refine lv_iconst (v := 0) hx hb dX6_countShownBytes_0 (by decide) ?_
  refine lv_istore_n (lv' := [(1, .int (0 : Int32)), (0, .ref (ad 0))]) hx hb dX6_countShownBytes_1 rfl hl (by decide) rfl (fun ls hl => ?_)
  refine lv_aload_n hx hb dX6_countShownBytes_2 rfl (lv_at hl 1 rfl) ?_
  refine va_get (D := G) (ci := 6) (v := .ref (ad 8)) (C := RX6) (T := TX6) (N := 9) hx hb hts inkX6 hown hK hP 0 rfl rfl 3 (by decide) (hts _ kw_233) (fun _ h9 => h9) rfl dX6_countShownBytes_3 ?_
  replace hf := s_bv_some hf
  obtain ⟨σ1, hz2, hf⟩ := hf
  refine s_callv (nn := 0) C (kcX0_clear (l := l) (G := G) (cy := cy) (sa := sa) (sh := sh) hI (sz := H.size) σ hz2) gk_X6_181 rfl rfl (by decide +kernel) ⟨Nat.le_of_ble_eq_true rfl, Nat.le_of_ble_eq_true rfl⟩ hP hS (q0 := 8) (ci := 0) rfl rfl rfl (As := []) (rest := []) rfl rfl hl.1 (Nat.le_of_ble_eq_true rfl) dX6_countShownBytes_6 (fun H locs hP hS => ?_)
  refine lv_iconst (v := 0) hx hb dX6_countShownBytes_9 (by decide) ?_
  refine lv_istore_n (lv' := [(2, .int (0 : Int32)), (1, .int (0 : Int32)), (0, .ref (ad 0))]) hx hb dX6_countShownBytes_10 rfl hl (by decide) rfl (fun ls hl => ?_)
  exact kX6_countShownBytes_b11_L C s_fu σ1 (0 : Int32) (0 : Int32) _ _ _ (lv_sub hl [2, 1, 0] rfl) hP hS hf
theorem kcX6_countShownBytes {l : Launch} {G : va_G} {cy : Nat → ClassId} {sa : Nat × Nat} {ad : Nat → Nat} {sh : Nat → Option Nat} {sz : Nat} (hI : s_inj ad 19) (σ : Sg) {re : Int32} {σe : Sg} (hf : fX6_countShownBytes σ = some (re, σe)) : Met l yX6_countShownBytes (kW yX6_countShownBytes cX6_countShownBytes 3 (some .int)) ({ frames := 4, cells := 0, slots := 0, locals := 89 } : Room) (s_P (s_WC cy ad sh) G cy sa ad 19 [.ref (ad 0)] sz σ) (s_Qi (s_WC cy ad sh) G (s_A ad 19 sz) re σe) 0 0 (s_A ad 19 sz) := by
  refine s_met (own := RX6) (by decide) rfl hI (Nat.le_of_ble_eq_true rfl) (fun p e s m below meth c ls hsz C hP hl => ?_)
  subst hsz
  exact kX6_countShownBytes C σ ls _ _ hl hP va_S.rf hf
end
