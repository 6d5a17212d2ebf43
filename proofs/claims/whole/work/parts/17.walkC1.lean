section
variable {p : Program} {l : Launch} {e : Env} {s : State} {m : MethodId} {below : List Frame} {meth : Method} {c : Code} {G : va_G} {cy : Nat → ClassId} {sa : Nat × Nat} {ad : Nat → Nat} {args : Array Value} {re : Int32} {σe : Sg} {sh : Nat → Option Nat}
set_option maxRecDepth 100000 in
set_option maxHeartbeats 4000000 in
theorem kX3_isFull (C : s_X p s m meth c args cX3_isFull (some .boolean) 1 RX3 G cy sa ad 19) (σ : Sg) (ls : Array Slot) (H : Heap) (locs : List Loc) (hl : lv_has ls 1 [(0, .ref (ad 1))]) (hP : va_P G vwCl ((s_WC cy ad sh) σ) H) (hS : va_S (s_A ad 19 s.heap.size) s.heap H locs) (hf : fX3_isFull σ = some (re, σe)) : W p l e ({ frames := 0, cells := 0, slots := 0, locals := 0 } : Room) s m args below meth c H locs 0 0 (MQ below (s_Qi (s_WC cy ad sh) G (s_A ad 19 s.heap.size) re σe) args s 0 0 (s_A ad 19 s.heap.size)) (F0 m 0 ls []) := by
  obtain ⟨hx, hb, hr, hml, hown, hts, hlk, hK, hE, hI⟩ := id C
  have hD : ∀ σ : Sg, va_D (s_A ad 19 s.heap.size) ((s_WC cy ad sh) σ) := fun σ => s_D (s_WC_ad cy ad sh σ) hI (fun k hk => Or.inl ⟨k, hk, rfl⟩)
  unfold fX3_isFull at hf
  refine lv_aload_n hx hb dX3_isFull_0 rfl (lv_at hl 0 rfl) ?_
  refine va_get (D := G) (ci := 3) (v := .int (σ 1 1)) (C := RX3) (T := TX3) (N := 2) hx hb hts inkX3 hown hK hP 1 rfl rfl 1 (by decide) (hts _ kw_84) (fun _ h9 => h9) rfl dX3_isFull_1 ?_
  refine lv_sipush (v := 320) hx hb dX3_isFull_4 (by decide) ?_
  refine lv_icmp_lt (tgt := 14) hx hb dX3_isFull_7 (by decide) (fun c1 => ?_) (fun c1 => ?_)
  · rw [if_pos c1] at hf
    refine lv_iconst (v := 0) hx hb dX3_isFull_14 (by decide) ?_
    obtain ⟨he1, he2⟩ := s_ret hf
    exact W.zret hx hb hr rfl (fun t ht hW => ⟨⟨_, (), rfl, he1, s_fin (Wd := (s_WC cy ad sh)) ht he2 hP⟩, hS.F ht⟩) hS.2.2 dX3_isFull_15 hlk
  · rw [if_neg c1] at hf
    refine lv_iconst (v := 1) hx hb dX3_isFull_10 (by decide) ?_
    refine lv_goto (tgt := 15) hx hb dX3_isFull_11 (by decide) ?_
    obtain ⟨he1, he2⟩ := s_ret hf
    exact W.zret hx hb hr rfl (fun t ht hW => ⟨⟨_, (), rfl, he1, s_fin (Wd := (s_WC cy ad sh)) ht he2 hP⟩, hS.F ht⟩) hS.2.2 dX3_isFull_15 hlk
theorem kcX3_isFull {l : Launch} {G : va_G} {cy : Nat → ClassId} {sa : Nat × Nat} {ad : Nat → Nat} {sh : Nat → Option Nat} {sz : Nat} (hI : s_inj ad 19) (σ : Sg) {re : Int32} {σe : Sg} (hf : fX3_isFull σ = some (re, σe)) : Met l yX3_isFull (kW yX3_isFull cX3_isFull 1 (some .boolean)) ({ frames := 0, cells := 0, slots := 0, locals := 0 } : Room) (s_P (s_WC cy ad sh) G cy sa ad 19 [.ref (ad 1)] sz σ) (s_Qi (s_WC cy ad sh) G (s_A ad 19 sz) re σe) 0 0 (s_A ad 19 sz) := by
  refine s_met (own := RX3) (by decide) rfl hI (Nat.le_of_ble_eq_true rfl) (fun p e s m below meth c ls hsz C hP hl => ?_)
  subst hsz
  exact kX3_isFull C σ ls _ _ hl hP va_S.rf hf
set_option maxRecDepth 100000 in
set_option maxHeartbeats 4000000 in
theorem kX3_append (C : s_X p s m meth c args cX3_append none 2 RX3 G cy sa ad 19) (σ : Sg) (x1 : Int32) (ls : Array Slot) (H : Heap) (locs : List Loc) (hl : lv_has ls 2 [(0, .ref (ad 1)), (1, .int x1)]) (hP : va_P G vwCl ((s_WC cy ad sh) σ) H) (hS : va_S (s_A ad 19 s.heap.size) s.heap H locs) (hf : fX3_append σ x1 = some σe) : W p l e ({ frames := 1, cells := 0, slots := 0, locals := 20 } : Room) s m args below meth c H locs 0 0 (MQ below (s_Qv (s_WC cy ad sh) G (s_A ad 19 s.heap.size) σe) args s 0 0 (s_A ad 19 s.heap.size)) (F0 m 0 ls []) := by
  obtain ⟨hx, hb, hr, hml, hown, hts, hlk, hK, hE, hI⟩ := id C
  have hD : ∀ σ : Sg, va_D (s_A ad 19 s.heap.size) ((s_WC cy ad sh) σ) := fun σ => s_D (s_WC_ad cy ad sh σ) hI (fun k hk => Or.inl ⟨k, hk, rfl⟩)
  unfold fX3_append at hf
  refine lv_aload_n hx hb dX3_append_0 rfl (lv_at hl 0 rfl) ?_
  replace hf := s_bi_some hf
  obtain ⟨r3, σ1, hz2, hf⟩ := hf
  refine s_calli (nn := 0) C (kcX3_isFull (l := l) (G := G) (cy := cy) (sa := sa) (sh := sh) hI (sz := H.size) σ hz2) gk_X3_19 rfl rfl (by decide +kernel) ⟨Nat.le_of_ble_eq_true rfl, Nat.le_of_ble_eq_true rfl⟩ hP hS (q0 := 1) (ci := 3) rfl rfl rfl (As := []) (rest := []) rfl rfl hl.1 (Nat.le_of_ble_eq_true rfl) dX3_append_1 (fun H locs hP hS => ?_)
  refine lv_if_ne (tgt := 28) hx hb dX3_append_4 (by decide) (fun c4 => ?_) (fun c4 => ?_)
  · rw [if_neg c4] at hf
    have he2 := Option.some.inj hf
    exact W.vret hx hb hr (fun t ht hW => ⟨⟨(), rfl, trivial, s_fin (Wd := (s_WC cy ad sh)) ht he2 hP⟩, hS.F ht⟩) hS.2.2 dX3_append_28 hlk
  · rw [if_pos c4] at hf
    refine lv_aload_n hx hb dX3_append_7 rfl (lv_at hl 0 rfl) ?_
    refine va_get (D := G) (ci := 3) (v := .ref (ad 2)) (C := RX3) (T := TX3) (N := 2) hx hb hts inkX3 hown hK hP 1 rfl rfl 0 (by decide) (hts _ kw_83) (fun _ h9 => h9) rfl dX3_append_8 ?_
    refine lv_aload_n hx hb dX3_append_11 rfl (lv_at hl 0 rfl) ?_
    refine va_get (D := G) (ci := 3) (v := .int (σ1 1 1)) (C := RX3) (T := TX3) (N := 2) hx hb hts inkX3 hown hK hP 1 rfl rfl 1 (by decide) (hts _ kw_84) (fun _ h9 => h9) rfl dX3_append_12 ?_
    refine lv_iload_n hx hb dX3_append_15 rfl (lv_at hl 1 rfl) ?_
    refine lv_i2b (v := (Int8.toInt32 (Int32.toInt8 x1))) hx hb dX3_append_16 rfl ?_
    replace hf := s_gd_some hf
    obtain ⟨g5, hf⟩ := hf
    refine va_bast hx hb hK hP (hD _) hS 2 0 rfl rfl (s_in_of g5) dX3_append_17 (fun H locs hP _ hS => ?_)
    obtain ⟨σ6, eσ6⟩ : ∃ z : Sg, z = (s_up σ1 2 (Int32.toNatClampNeg (σ1 1 1)) (vp_nar .byte (Int8.toInt32 (Int32.toInt8 x1)))) := ⟨_, rfl⟩
    replace hf := s_lt_at eσ6 hf
    replace hP : va_P G vwCl ((s_WC cy ad sh) σ6) H := by rw [eσ6]; exact hP
    refine lv_aload_n hx hb dX3_append_18 rfl (lv_at hl 0 rfl) ?_
    refine lv_dup hx hb dX3_append_19 rfl ?_
    refine va_get (D := G) (ci := 3) (v := .int (σ6 1 1)) (C := RX3) (T := TX3) (N := 2) hx hb hts inkX3 hown hK hP 1 rfl rfl 1 (by decide) (hts _ kw_84) (fun _ h9 => h9) rfl dX3_append_20 ?_
    refine lv_iconst (v := 1) hx hb dX3_append_23 (by decide) ?_
    refine lv_iadd hx hb dX3_append_24 ?_
    refine va_put (D := G) (ci := 3) (v := .int ((σ6 1 1) + (1 : Int32))) (ty := .int) (C := RX3) (T := TX3) (N := 2) hx hb hts inkX3 tyX3 tyX3_ok nmX3 hown hK hP (hD _) hS 1 rfl rfl 1 (by decide) (hts _ kw_84) (fun _ h9 => h9) rfl (by decide +kernel) rfl rfl (Nat.le_of_ble_eq_true rfl) dX3_append_25 (fun H locs hP _ hS => ?_)
    obtain ⟨σ7, eσ7⟩ : ∃ z : Sg, z = (s_up σ6 1 1 ((σ6 1 1) + (1 : Int32))) := ⟨_, rfl⟩
    replace hf := s_lt_at eσ7 hf
    replace hP : va_P G vwCl ((s_WC cy ad sh) σ7) H := by rw [eσ7]; exact hP
    have he2 := Option.some.inj hf
    exact W.vret hx hb hr (fun t ht hW => ⟨⟨(), rfl, trivial, s_fin (Wd := (s_WC cy ad sh)) ht he2 hP⟩, hS.F ht⟩) hS.2.2 dX3_append_28 hlk
theorem kcX3_append {l : Launch} {G : va_G} {cy : Nat → ClassId} {sa : Nat × Nat} {ad : Nat → Nat} {sh : Nat → Option Nat} {sz : Nat} (hI : s_inj ad 19) (σ : Sg) (x1 : Int32) {σe : Sg} (hf : fX3_append σ x1 = some σe) : Met l yX3_append (kW yX3_append cX3_append 2 none) ({ frames := 1, cells := 0, slots := 0, locals := 20 } : Room) (s_P (s_WC cy ad sh) G cy sa ad 19 [.ref (ad 1), .int x1] sz σ) (s_Qv (s_WC cy ad sh) G (s_A ad 19 sz) σe) 0 0 (s_A ad 19 sz) := by
  refine s_met (own := RX3) (by decide) rfl hI (Nat.le_of_ble_eq_true rfl) (fun p e s m below meth c ls hsz C hP hl => ?_)
  subst hsz
  exact kX3_append C σ x1 ls _ _ hl hP va_S.rf hf
set_option maxRecDepth 100000 in
set_option maxHeartbeats 4000000 in
theorem kX6_feed_b10 (C : s_X p s m meth c args cX6_feed (some .int) 2 RX6 G cy sa ad 19) (σ : Sg) (ls : Array Slot) (H : Heap) (locs : List Loc) (hl : lv_has ls 2 []) (hP : va_P G vwCl ((s_WC cy ad sh) σ) H) (hS : va_S (s_A ad 19 s.heap.size) s.heap H locs) (hf : fX6_feed_b10 σ = some (re, σe)) : W p l e ({ frames := 2, cells := 0, slots := 0, locals := 41 } : Room) s m args below meth c H locs 0 0 (MQ below (s_Qi (s_WC cy ad sh) G (s_A ad 19 s.heap.size) re σe) args s 0 0 (s_A ad 19 s.heap.size)) (F0 m 10 ls []) := by
  obtain ⟨hx, hb, hr, hml, hown, hts, hlk, hK, hE, hI⟩ := id C
  have hD : ∀ σ : Sg, va_D (s_A ad 19 s.heap.size) ((s_WC cy ad sh) σ) := fun σ => s_D (s_WC_ad cy ad sh σ) hI (fun k hk => Or.inl ⟨k, hk, rfl⟩)
  unfold fX6_feed_b10 at hf
  refine lv_iconst (v := -1) hx hb dX6_feed_10 (by decide) ?_
  obtain ⟨he1, he2⟩ := s_ret hf
  exact W.iret hx hb hr (fun t ht hW => ⟨⟨_, (), rfl, he1, s_fin (Wd := (s_WC cy ad sh)) ht he2 hP⟩, hS.F ht⟩) hS.2.2 dX6_feed_11 hlk
set_option maxRecDepth 100000 in
set_option maxHeartbeats 4000000 in
theorem kX6_feed (C : s_X p s m meth c args cX6_feed (some .int) 2 RX6 G cy sa ad 19) (σ : Sg) (x1 : Int32) (ls : Array Slot) (H : Heap) (locs : List Loc) (hl : lv_has ls 2 [(0, .ref (ad 0)), (1, .int x1)]) (hP : va_P G vwCl ((s_WC cy ad sh) σ) H) (hS : va_S (s_A ad 19 s.heap.size) s.heap H locs) (hf : fX6_feed σ x1 = some (re, σe)) : W p l e ({ frames := 2, cells := 0, slots := 0, locals := 41 } : Room) s m args below meth c H locs 0 0 (MQ below (s_Qi (s_WC cy ad sh) G (s_A ad 19 s.heap.size) re σe) args s 0 0 (s_A ad 19 s.heap.size)) (F0 m 0 ls []) := by
  obtain ⟨hx, hb, hr, hml, hown, hts, hlk, hK, hE, hI⟩ := id C
  have hD : ∀ σ : Sg, va_D (s_A ad 19 s.heap.size) ((s_WC cy ad sh) σ) := fun σ => s_D (s_WC_ad cy ad sh σ) hI (fun k hk => Or.inl ⟨k, hk, rfl⟩)
  unfold fX6_feed at hf
  refine lv_iload_n hx hb dX6_feed_0 rfl (lv_at hl 1 rfl) ?_
  refine lv_if_lt (tgt := 10) hx hb dX6_feed_1 (by decide) (fun c1 => ?_) (fun c1 => ?_)
  · rw [if_pos c1] at hf
    exact kX6_feed_b10 C σ _ _ _ (lv_sub hl [] rfl) hP hS hf
  · rw [if_neg c1] at hf
    refine lv_iload_n hx hb dX6_feed_4 rfl (lv_at hl 1 rfl) ?_
    refine lv_bipush (v := 127) hx hb dX6_feed_5 (by decide) ?_
    refine lv_icmp_le (tgt := 12) hx hb dX6_feed_7 (by decide) (fun c2 => ?_) (fun c2 => ?_)
    · rw [if_pos c2] at hf
      refine lv_aload_n hx hb dX6_feed_12 rfl (lv_at hl 0 rfl) ?_
      refine va_get (D := G) (ci := 6) (v := .ref (ad 1)) (C := RX6) (T := TX6) (N := 9) hx hb hts inkX6 hown hK hP 0 rfl rfl 0 (by decide) (hts _ kw_230) (fun _ h9 => h9) rfl dX6_feed_13 ?_
      replace hf := s_bi_some hf
      obtain ⟨r5, σ3, hz4, hf⟩ := hf
      refine s_calli (nn := 0) C (kcX3_isFull (l := l) (G := G) (cy := cy) (sa := sa) (sh := sh) hI (sz := H.size) σ hz4) gk_X6_64 rfl rfl (by decide +kernel) ⟨Nat.le_of_ble_eq_true rfl, Nat.le_of_ble_eq_true rfl⟩ hP hS (q0 := 1) (ci := 3) rfl rfl rfl (As := []) (rest := []) rfl rfl hl.1 (Nat.le_of_ble_eq_true rfl) dX6_feed_16 (fun H locs hP hS => ?_)
      refine lv_if_eq (tgt := 25) hx hb dX6_feed_19 (by decide) (fun c6 => ?_) (fun c6 => ?_)
      · rw [if_pos c6] at hf
        refine lv_aload_n hx hb dX6_feed_25 rfl (lv_at hl 0 rfl) ?_
        refine va_get (D := G) (ci := 6) (v := .ref (ad 1)) (C := RX6) (T := TX6) (N := 9) hx hb hts inkX6 hown hK hP 0 rfl rfl 0 (by decide) (hts _ kw_230) (fun _ h9 => h9) rfl dX6_feed_26 ?_
        refine lv_iload_n hx hb dX6_feed_29 rfl (lv_at hl 1 rfl) ?_
        replace hf := s_bv_some hf
        obtain ⟨σ7, hz8, hf⟩ := hf
        refine s_callv (nn := 1) C (kcX3_append (l := l) (G := G) (cy := cy) (sa := sa) (sh := sh) hI (sz := H.size) σ3 x1 hz8) gk_X6_68 rfl rfl (by decide +kernel) ⟨Nat.le_of_ble_eq_true rfl, Nat.le_of_ble_eq_true rfl⟩ hP hS (q0 := 1) (ci := 3) rfl rfl rfl (As := [.int x1]) (rest := []) rfl rfl hl.1 (Nat.le_of_ble_eq_true rfl) dX6_feed_30 (fun H locs hP hS => ?_)
        refine lv_aload_n hx hb dX6_feed_33 rfl (lv_at hl 0 rfl) ?_
        refine va_get (D := G) (ci := 6) (v := .ref (ad 1)) (C := RX6) (T := TX6) (N := 9) hx hb hts inkX6 hown hK hP 0 rfl rfl 0 (by decide) (hts _ kw_230) (fun _ h9 => h9) rfl dX6_feed_34 ?_
        refine va_getN (D := G) (ci := 3) (v := .int (σ7 1 1)) (C := RX3) (T := TX3) (N := 2) hx hb hts inkX3 hown hK hP 1 rfl rfl 1 (by decide) (kn_X6_72 hE) (fun _ h9 => h9) rfl dX6_feed_37 ?_
        obtain ⟨he1, he2⟩ := s_ret hf
        exact W.iret hx hb hr (fun t ht hW => ⟨⟨_, (), rfl, he1, s_fin (Wd := (s_WC cy ad sh)) ht he2 hP⟩, hS.F ht⟩) hS.2.2 dX6_feed_40 hlk
      · rw [if_neg c6] at hf
        refine lv_bipush (v := -3) hx hb dX6_feed_22 (by decide) ?_
        obtain ⟨he1, he2⟩ := s_ret hf
        exact W.iret hx hb hr (fun t ht hW => ⟨⟨_, (), rfl, he1, s_fin (Wd := (s_WC cy ad sh)) ht he2 hP⟩, hS.F ht⟩) hS.2.2 dX6_feed_24 hlk
    · rw [if_neg c2] at hf
      exact kX6_feed_b10 C σ _ _ _ (lv_sub hl [] rfl) hP hS hf
theorem kcX6_feed {l : Launch} {G : va_G} {cy : Nat → ClassId} {sa : Nat × Nat} {ad : Nat → Nat} {sh : Nat → Option Nat} {sz : Nat} (hI : s_inj ad 19) (σ : Sg) (x1 : Int32) {re : Int32} {σe : Sg} (hf : fX6_feed σ x1 = some (re, σe)) : Met l yX6_feed (kW yX6_feed cX6_feed 2 (some .int)) ({ frames := 2, cells := 0, slots := 0, locals := 41 } : Room) (s_P (s_WC cy ad sh) G cy sa ad 19 [.ref (ad 0), .int x1] sz σ) (s_Qi (s_WC cy ad sh) G (s_A ad 19 sz) re σe) 0 0 (s_A ad 19 sz) := by
  refine s_met (own := RX6) (by decide) rfl hI (Nat.le_of_ble_eq_true rfl) (fun p e s m below meth c ls hsz C hP hl => ?_)
  subst hsz
  exact kX6_feed C σ x1 ls _ _ hl hP va_S.rf hf
set_option maxRecDepth 100000 in
set_option maxHeartbeats 4000000 in
theorem kX6_end_b17 (C : s_X p s m meth c args cX6_end (some .int) 3 RX6 G cy sa ad 19) (σ : Sg) (ls : Array Slot) (H : Heap) (locs : List Loc) (hl : lv_has ls 3 []) (hP : va_P G vwCl ((s_WC cy ad sh) σ) H) (hS : va_S (s_A ad 19 s.heap.size) s.heap H locs) (hf : fX6_end_b17 σ = some (re, σe)) : W p l e ({ frames := 0, cells := 0, slots := 0, locals := 0 } : Room) s m args below meth c H locs 0 0 (MQ below (s_Qi (s_WC cy ad sh) G (s_A ad 19 s.heap.size) re σe) args s 0 0 (s_A ad 19 s.heap.size)) (F0 m 17 ls []) := by
  obtain ⟨hx, hb, hr, hml, hown, hts, hlk, hK, hE, hI⟩ := id C
  have hD : ∀ σ : Sg, va_D (s_A ad 19 s.heap.size) ((s_WC cy ad sh) σ) := fun σ => s_D (s_WC_ad cy ad sh σ) hI (fun k hk => Or.inl ⟨k, hk, rfl⟩)
  unfold fX6_end_b17 at hf
  refine lv_iconst (v := -1) hx hb dX6_end_17 (by decide) ?_
  obtain ⟨he1, he2⟩ := s_ret hf
  exact W.iret hx hb hr (fun t ht hW => ⟨⟨_, (), rfl, he1, s_fin (Wd := (s_WC cy ad sh)) ht he2 hP⟩, hS.F ht⟩) hS.2.2 dX6_end_18 hlk
set_option maxRecDepth 100000 in
set_option maxHeartbeats 4000000 in
theorem kX6_end (C : s_X p s m meth c args cX6_end (some .int) 3 RX6 G cy sa ad 19) (σ : Sg) (x1 : Int32) (ls : Array Slot) (H : Heap) (locs : List Loc) (hl : lv_has ls 3 [(0, .ref (ad 0)), (1, .int x1)]) (hP : va_P G vwCl ((s_WC cy ad sh) σ) H) (hS : va_S (s_A ad 19 s.heap.size) s.heap H locs) (hf : fX6_end σ x1 = some (re, σe)) : W p l e ({ frames := 0, cells := 0, slots := 0, locals := 0 } : Room) s m args below meth c H locs 0 0 (MQ below (s_Qi (s_WC cy ad sh) G (s_A ad 19 s.heap.size) re σe) args s 0 0 (s_A ad 19 s.heap.size)) (F0 m 0 ls []) := by
  obtain ⟨hx, hb, hr, hml, hown, hts, hlk, hK, hE, hI⟩ := id C
  have hD : ∀ σ : Sg, va_D (s_A ad 19 s.heap.size) ((s_WC cy ad sh) σ) := fun σ => s_D (s_WC_ad cy ad sh σ) hI (fun k hk => Or.inl ⟨k, hk, rfl⟩)
  unfold fX6_end at hf
  refine lv_aload_n hx hb dX6_end_0 rfl (lv_at hl 0 rfl) ?_
  refine va_get (D := G) (ci := 6) (v := .ref (ad 1)) (C := RX6) (T := TX6) (N := 9) hx hb hts inkX6 hown hK hP 0 rfl rfl 0 (by decide) (hts _ kw_230) (fun _ h9 => h9) rfl dX6_end_1 ?_
  refine va_getN (D := G) (ci := 3) (v := .int (σ 1 1)) (C := RX3) (T := TX3) (N := 2) hx hb hts inkX3 hown hK hP 1 rfl rfl 1 (by decide) (kn_X6_72 hE) (fun _ h9 => h9) rfl dX6_end_4 ?_
  refine lv_topi (fun t1 et1 => ?_)
  replace hf := s_lt_at et1 hf
  refine lv_istore_n (lv' := [(2, .int t1), (0, .ref (ad 0)), (1, .int x1)]) hx hb dX6_end_7 rfl hl (by decide) rfl (fun ls hl => ?_)
  refine lv_iload_n hx hb dX6_end_8 rfl (lv_at hl 2 rfl) ?_
  refine lv_if_lt (tgt := 17) hx hb dX6_end_9 (by decide) (fun c2 => ?_) (fun c2 => ?_)
  · rw [if_pos c2] at hf
    exact kX6_end_b17 C σ _ _ _ (lv_sub hl [] rfl) hP hS hf
  · rw [if_neg c2] at hf
    refine lv_iload_n hx hb dX6_end_12 rfl (lv_at hl 2 rfl) ?_
    refine lv_iload_n hx hb dX6_end_13 rfl (lv_at hl 0 rfl) ?_
    refine lv_icmp_le (tgt := 19) hx hb dX6_end_14 (by decide) (fun c3 => ?_) (fun c3 => ?_)
    · rw [if_pos c3] at hf
      refine lv_aload_n hx hb dX6_end_19 rfl (lv_at hl 1 rfl) ?_
      refine va_get (D := G) (ci := 6) (v := .ref (ad 1)) (C := RX6) (T := TX6) (N := 9) hx hb hts inkX6 hown hK hP 0 rfl rfl 0 (by decide) (hts _ kw_230) (fun _ h9 => h9) rfl dX6_end_20 ?_
      refine lv_iload_n hx hb dX6_end_23 rfl (lv_at hl 2 rfl) ?_
      refine va_putN (D := G) (ci := 3) (v := .int x1) (ty := .int) (C := RX3) (T := TX3) (N := 2) hx hb hts inkX3 tyX3 tyX3_ok nmX3 hown hK hP (hD _) hS 1 rfl rfl 1 (by decide) (kn_X6_72 hE) (fun _ h9 => h9) rfl (by decide +kernel) rfl rfl (Nat.le_of_ble_eq_true rfl) dX6_end_24 (fun H locs hP _ hS => ?_)
      obtain ⟨σ4, eσ4⟩ : ∃ z : Sg, z = (s_up σ 1 1 x1) := ⟨_, rfl⟩
      replace hf := s_lt_at eσ4 hf
      replace hP : va_P G vwCl ((s_WC cy ad sh) σ4) H := by rw [eσ4]; exact hP
      refine lv_iload_n hx hb dX6_end_27 rfl (lv_at hl 0 rfl) ?_
      obtain ⟨he1, he2⟩ := s_ret hf
      exact W.iret hx hb hr (fun t ht hW => ⟨⟨_, (), rfl, he1, s_fin (Wd := (s_WC cy ad sh)) ht he2 hP⟩, hS.F ht⟩) hS.2.2 dX6_end_28 hlk
    · rw [if_neg c3] at hf
      exact kX6_end_b17 C σ _ _ _ (lv_sub hl [] rfl) hP hS hf
theorem kcX6_end {l : Launch} {G : va_G} {cy : Nat → ClassId} {sa : Nat × Nat} {ad : Nat → Nat} {sh : Nat → Option Nat} {sz : Nat} (hI : s_inj ad 19) (σ : Sg) (x1 : Int32) {re : Int32} {σe : Sg} (hf : fX6_end σ x1 = some (re, σe)) : Met l yX6_end (kW yX6_end cX6_end 3 (some .int)) ({ frames := 0, cells := 0, slots := 0, locals := 0 } : Room) (s_P (s_WC cy ad sh) G cy sa ad 19 [.ref (ad 0), .int x1] sz σ) (s_Qi (s_WC cy ad sh) G (s_A ad 19 sz) re σe) 0 0 (s_A ad 19 sz) := by
  refine s_met (own := RX6) (by decide) rfl hI (Nat.le_of_ble_eq_true rfl) (fun p e s m below meth c ls hsz C hP hl => ?_)
  subst hsz
  exact kX6_end C σ x1 ls _ _ hl hP va_S.rf hf
set_option maxRecDepth 100000 in
set_option maxHeartbeats 4000000 in
theorem kX1_reset_4 (C : s_X p s m meth c args cX1_reset none 1 RX1 G cy sa ad 19) (σ : Sg) (ls : Array Slot) (H : Heap) (locs : List Loc) (hl : lv_has ls 1 [(0, .ref (ad 4))]) (hP : va_P G vwCl ((s_WC cy ad sh) σ) H) (hS : va_S (s_A ad 19 s.heap.size) s.heap H locs) (hf : fX1_reset_4 σ = some σe) : W p l e ({ frames := 0, cells := 0, slots := 0, locals := 0 } : Room) s m args below meth c H locs 0 0 (MQ below (s_Qv (s_WC cy ad sh) G (s_A ad 19 s.heap.size) σe) args s 0 0 (s_A ad 19 s.heap.size)) (F0 m 0 ls []) := by
  obtain ⟨hx, hb, hr, hml, hown, hts, hlk, hK, hE, hI⟩ := id C
  have hD : ∀ σ : Sg, va_D (s_A ad 19 s.heap.size) ((s_WC cy ad sh) σ) := fun σ => s_D (s_WC_ad cy ad sh σ) hI (fun k hk => Or.inl ⟨k, hk, rfl⟩)
  unfold fX1_reset_4 at hf
  refine lv_aload_n hx hb dX1_reset_0 rfl (lv_at hl 0 rfl) ?_
  refine lv_iconst (v := 0) hx hb dX1_reset_1 (by decide) ?_
  refine va_put (D := G) (ci := 1) (v := .int (0 : Int32)) (ty := .int) (C := RX1) (T := TX1) (N := 8) hx hb hts inkX1 tyX1 tyX1_ok nmX1 hown hK hP (hD _) hS 4 rfl rfl 1 (by decide) (hts _ kw_110) (fun _ h9 => h9) rfl (by decide +kernel) rfl rfl (Nat.le_of_ble_eq_true rfl) dX1_reset_2 (fun H locs hP _ hS => ?_)
  obtain ⟨σ1, eσ1⟩ : ∃ z : Sg, z = (s_up σ 4 1 (0 : Int32)) := ⟨_, rfl⟩
  replace hf := s_lt_at eσ1 hf
  replace hP : va_P G vwCl ((s_WC cy ad sh) σ1) H := by rw [eσ1]; exact hP
  refine lv_aload_n hx hb dX1_reset_5 rfl (lv_at hl 0 rfl) ?_
  refine lv_iconst (v := 5) hx hb dX1_reset_6 (by decide) ?_
  refine va_put (D := G) (ci := 1) (v := .int (5 : Int32)) (ty := .int) (C := RX1) (T := TX1) (N := 8) hx hb hts inkX1 tyX1 tyX1_ok nmX1 hown hK hP (hD _) hS 4 rfl rfl 2 (by decide) (hts _ kw_113) (fun _ h9 => h9) rfl (by decide +kernel) rfl rfl (Nat.le_of_ble_eq_true rfl) dX1_reset_7 (fun H locs hP _ hS => ?_)
  obtain ⟨σ2, eσ2⟩ : ∃ z : Sg, z = (s_up σ1 4 2 (5 : Int32)) := ⟨_, rfl⟩
  replace hf := s_lt_at eσ2 hf
  replace hP : va_P G vwCl ((s_WC cy ad sh) σ2) H := by rw [eσ2]; exact hP
  refine lv_aload_n hx hb dX1_reset_10 rfl (lv_at hl 0 rfl) ?_
  refine lv_iconst (v := 1) hx hb dX1_reset_11 (by decide) ?_
  refine va_put (D := G) (ci := 1) (v := .int (1 : Int32)) (ty := .int) (C := RX1) (T := TX1) (N := 8) hx hb hts inkX1 tyX1 tyX1_ok nmX1 hown hK hP (hD _) hS 4 rfl rfl 3 (by decide) (hts _ kw_117) (fun _ h9 => h9) rfl (by decide +kernel) rfl rfl (Nat.le_of_ble_eq_true rfl) dX1_reset_12 (fun H locs hP _ hS => ?_)
  obtain ⟨σ3, eσ3⟩ : ∃ z : Sg, z = (s_up σ2 4 3 (1 : Int32)) := ⟨_, rfl⟩
  replace hf := s_lt_at eσ3 hf
  replace hP : va_P G vwCl ((s_WC cy ad sh) σ3) H := by rw [eσ3]; exact hP
  refine lv_aload_n hx hb dX1_reset_15 rfl (lv_at hl 0 rfl) ?_
  refine lv_iconst (v := 1) hx hb dX1_reset_16 (by decide) ?_
  refine va_put (D := G) (ci := 1) (v := .int (1 : Int32)) (ty := .int) (C := RX1) (T := TX1) (N := 8) hx hb hts inkX1 tyX1 tyX1_ok nmX1 hown hK hP (hD _) hS 4 rfl rfl 4 (by decide) (hts _ kw_121) (fun _ h9 => h9) rfl (by decide +kernel) rfl rfl (Nat.le_of_ble_eq_true rfl) dX1_reset_17 (fun H locs hP _ hS => ?_)
  obtain ⟨σ4, eσ4⟩ : ∃ z : Sg, z = (s_up σ3 4 4 (1 : Int32)) := ⟨_, rfl⟩
  replace hf := s_lt_at eσ4 hf
  replace hP : va_P G vwCl ((s_WC cy ad sh) σ4) H := by rw [eσ4]; exact hP
  refine lv_aload_n hx hb dX1_reset_20 rfl (lv_at hl 0 rfl) ?_
  refine lv_iconst (v := 2) hx hb dX1_reset_21 (by decide) ?_
  refine va_put (D := G) (ci := 1) (v := .int (2 : Int32)) (ty := .int) (C := RX1) (T := TX1) (N := 8) hx hb hts inkX1 tyX1 tyX1_ok nmX1 hown hK hP (hD _) hS 4 rfl rfl 5 (by decide) (hts _ kw_125) (fun _ h9 => h9) rfl (by decide +kernel) rfl rfl (Nat.le_of_ble_eq_true rfl) dX1_reset_22 (fun H locs hP _ hS => ?_)
  obtain ⟨σ5, eσ5⟩ : ∃ z : Sg, z = (s_up σ4 4 5 (2 : Int32)) := ⟨_, rfl⟩
  replace hf := s_lt_at eσ5 hf
  replace hP : va_P G vwCl ((s_WC cy ad sh) σ5) H := by rw [eσ5]; exact hP
  refine lv_aload_n hx hb dX1_reset_25 rfl (lv_at hl 0 rfl) ?_
  refine lv_iconst (v := 0) hx hb dX1_reset_26 (by decide) ?_
  refine va_put (D := G) (ci := 1) (v := .int (0 : Int32)) (ty := .int) (C := RX1) (T := TX1) (N := 8) hx hb hts inkX1 tyX1 tyX1_ok nmX1 hown hK hP (hD _) hS 4 rfl rfl 6 (by decide) (hts _ kw_129) (fun _ h9 => h9) rfl (by decide +kernel) rfl rfl (Nat.le_of_ble_eq_true rfl) dX1_reset_27 (fun H locs hP _ hS => ?_)
  obtain ⟨σ6, eσ6⟩ : ∃ z : Sg, z = (s_up σ5 4 6 (0 : Int32)) := ⟨_, rfl⟩
  replace hf := s_lt_at eσ6 hf
  replace hP : va_P G vwCl ((s_WC cy ad sh) σ6) H := by rw [eσ6]; exact hP
  refine lv_aload_n hx hb dX1_reset_30 rfl (lv_at hl 0 rfl) ?_
  refine lv_iconst (v := 0) hx hb dX1_reset_31 (by decide) ?_
  refine va_put (D := G) (ci := 1) (v := .int (0 : Int32)) (ty := .int) (C := RX1) (T := TX1) (N := 8) hx hb hts inkX1 tyX1 tyX1_ok nmX1 hown hK hP (hD _) hS 4 rfl rfl 7 (by decide) (hts _ kw_133) (fun _ h9 => h9) rfl (by decide +kernel) rfl rfl (Nat.le_of_ble_eq_true rfl) dX1_reset_32 (fun H locs hP _ hS => ?_)
  obtain ⟨σ7, eσ7⟩ : ∃ z : Sg, z = (s_up σ6 4 7 (0 : Int32)) := ⟨_, rfl⟩
  replace hf := s_lt_at eσ7 hf
  replace hP : va_P G vwCl ((s_WC cy ad sh) σ7) H := by rw [eσ7]; exact hP
  have he2 := Option.some.inj hf
  exact W.vret hx hb hr (fun t ht hW => ⟨⟨(), rfl, trivial, s_fin (Wd := (s_WC cy ad sh)) ht he2 hP⟩, hS.F ht⟩) hS.2.2 dX1_reset_35 hlk
theorem kcX1_reset_4 {l : Launch} {G : va_G} {cy : Nat → ClassId} {sa : Nat × Nat} {ad : Nat → Nat} {sh : Nat → Option Nat} {sz : Nat} (hI : s_inj ad 19) (σ : Sg) {σe : Sg} (hf : fX1_reset_4 σ = some σe) : Met l yX1_reset (kW yX1_reset cX1_reset 1 none) ({ frames := 0, cells := 0, slots := 0, locals := 0 } : Room) (s_P (s_WC cy ad sh) G cy sa ad 19 [.ref (ad 4)] sz σ) (s_Qv (s_WC cy ad sh) G (s_A ad 19 sz) σe) 0 0 (s_A ad 19 sz) := by
  refine s_met (own := RX1) (by decide) rfl hI (Nat.le_of_ble_eq_true rfl) (fun p e s m below meth c ls hsz C hP hl => ?_)
  subst hsz
  exact kX1_reset_4 C σ ls _ _ hl hP va_S.rf hf
set_option maxRecDepth 100000 in
set_option maxHeartbeats 4000000 in
theorem kX3_byteAt_b21 (C : s_X p s m meth c args cX3_byteAt (some .int) 2 RX3 G cy sa ad 19) (σ : Sg) (ls : Array Slot) (H : Heap) (locs : List Loc) (hl : lv_has ls 2 []) (hP : va_P G vwCl ((s_WC cy ad sh) σ) H) (hS : va_S (s_A ad 19 s.heap.size) s.heap H locs) (hf : fX3_byteAt_b21 σ = some (re, σe)) : W p l e ({ frames := 0, cells := 0, slots := 0, locals := 0 } : Room) s m args below meth c H locs 0 0 (MQ below (s_Qi (s_WC cy ad sh) G (s_A ad 19 s.heap.size) re σe) args s 0 0 (s_A ad 19 s.heap.size)) (F0 m 21 ls []) := by
  obtain ⟨hx, hb, hr, hml, hown, hts, hlk, hK, hE, hI⟩ := id C
  have hD : ∀ σ : Sg, va_D (s_A ad 19 s.heap.size) ((s_WC cy ad sh) σ) := fun σ => s_D (s_WC_ad cy ad sh σ) hI (fun k hk => Or.inl ⟨k, hk, rfl⟩)
  unfold fX3_byteAt_b21 at hf
  refine lv_iconst (v := -1) hx hb dX3_byteAt_21 (by decide) ?_
  obtain ⟨he1, he2⟩ := s_ret hf
  exact W.iret hx hb hr (fun t ht hW => ⟨⟨_, (), rfl, he1, s_fin (Wd := (s_WC cy ad sh)) ht he2 hP⟩, hS.F ht⟩) hS.2.2 dX3_byteAt_22 hlk
set_option maxRecDepth 100000 in
set_option maxHeartbeats 4000000 in
theorem kX3_byteAt (C : s_X p s m meth c args cX3_byteAt (some .int) 2 RX3 G cy sa ad 19) (σ : Sg) (x1 : Int32) (ls : Array Slot) (H : Heap) (locs : List Loc) (hl : lv_has ls 2 [(0, .ref (ad 1)), (1, .int x1)]) (hP : va_P G vwCl ((s_WC cy ad sh) σ) H) (hS : va_S (s_A ad 19 s.heap.size) s.heap H locs) (hf : fX3_byteAt σ x1 = some (re, σe)) : W p l e ({ frames := 0, cells := 0, slots := 0, locals := 0 } : Room) s m args below meth c H locs 0 0 (MQ below (s_Qi (s_WC cy ad sh) G (s_A ad 19 s.heap.size) re σe) args s 0 0 (s_A ad 19 s.heap.size)) (F0 m 0 ls []) := by
  obtain ⟨hx, hb, hr, hml, hown, hts, hlk, hK, hE, hI⟩ := id C
  have hD : ∀ σ : Sg, va_D (s_A ad 19 s.heap.size) ((s_WC cy ad sh) σ) := fun σ => s_D (s_WC_ad cy ad sh σ) hI (fun k hk => Or.inl ⟨k, hk, rfl⟩)
  unfold fX3_byteAt at hf
  refine lv_iload_n hx hb dX3_byteAt_0 rfl (lv_at hl 1 rfl) ?_
  refine lv_if_lt (tgt := 21) hx hb dX3_byteAt_1 (by decide) (fun c1 => ?_) (fun c1 => ?_)
  · rw [if_pos c1] at hf
    exact kX3_byteAt_b21 C σ _ _ _ (lv_sub hl [] rfl) hP hS hf
  · rw [if_neg c1] at hf
    refine lv_iload_n hx hb dX3_byteAt_4 rfl (lv_at hl 1 rfl) ?_
    refine lv_aload_n hx hb dX3_byteAt_5 rfl (lv_at hl 0 rfl) ?_
    refine va_get (D := G) (ci := 3) (v := .int (σ 1 1)) (C := RX3) (T := TX3) (N := 2) hx hb hts inkX3 hown hK hP 1 rfl rfl 1 (by decide) (hts _ kw_84) (fun _ h9 => h9) rfl dX3_byteAt_6 ?_
    refine lv_icmp_ge (tgt := 21) hx hb dX3_byteAt_9 (by decide) (fun c2 => ?_) (fun c2 => ?_)
    · rw [if_pos c2] at hf
      exact kX3_byteAt_b21 C σ _ _ _ (lv_sub hl [] rfl) hP hS hf
    · rw [if_neg c2] at hf
      refine lv_aload_n hx hb dX3_byteAt_12 rfl (lv_at hl 0 rfl) ?_
      refine va_get (D := G) (ci := 3) (v := .ref (ad 2)) (C := RX3) (T := TX3) (N := 2) hx hb hts inkX3 hown hK hP 1 rfl rfl 0 (by decide) (hts _ kw_83) (fun _ h9 => h9) rfl dX3_byteAt_13 ?_
      refine lv_iload_n hx hb dX3_byteAt_16 rfl (lv_at hl 1 rfl) ?_
      replace hf := s_gd_some hf
      obtain ⟨g3, hf⟩ := hf
      refine va_bald hx hb hK hP 2 0 rfl rfl (s_in_of g3) dX3_byteAt_17 ?_
      refine lv_goto (tgt := 22) hx hb dX3_byteAt_18 (by decide) ?_
      obtain ⟨he1, he2⟩ := s_ret hf
      exact W.iret hx hb hr (fun t ht hW => ⟨⟨_, (), rfl, he1, s_fin (Wd := (s_WC cy ad sh)) ht he2 hP⟩, hS.F ht⟩) hS.2.2 dX3_byteAt_22 hlk
theorem kcX3_byteAt {l : Launch} {G : va_G} {cy : Nat → ClassId} {sa : Nat × Nat} {ad : Nat → Nat} {sh : Nat → Option Nat} {sz : Nat} (hI : s_inj ad 19) (σ : Sg) (x1 : Int32) {re : Int32} {σe : Sg} (hf : fX3_byteAt σ x1 = some (re, σe)) : Met l yX3_byteAt (kW yX3_byteAt cX3_byteAt 2 (some .int)) ({ frames := 0, cells := 0, slots := 0, locals := 0 } : Room) (s_P (s_WC cy ad sh) G cy sa ad 19 [.ref (ad 1), .int x1] sz σ) (s_Qi (s_WC cy ad sh) G (s_A ad 19 sz) re σe) 0 0 (s_A ad 19 sz) := by
  refine s_met (own := RX3) (by decide) rfl hI (Nat.le_of_ble_eq_true rfl) (fun p e s m below meth c ls hsz C hP hl => ?_)
  subst hsz
  exact kX3_byteAt C σ x1 ls _ _ hl hP va_S.rf hf
set_option maxRecDepth 100000 in
set_option maxHeartbeats 4000000 in
theorem kX4_isLetter_b16 (C : s_X p s m meth c args cX4_isLetter (some .boolean) 1 RX4 G cy sa ad 19) (σ : Sg) (ls : Array Slot) (H : Heap) (locs : List Loc) (hl : lv_has ls 1 []) (hP : va_P G vwCl ((s_WC cy ad sh) σ) H) (hS : va_S (s_A ad 19 s.heap.size) s.heap H locs) (hf : fX4_isLetter_b16 σ = some (re, σe)) : W p l e ({ frames := 0, cells := 0, slots := 0, locals := 0 } : Room) s m args below meth c H locs 0 0 (MQ below (s_Qi (s_WC cy ad sh) G (s_A ad 19 s.heap.size) re σe) args s 0 0 (s_A ad 19 s.heap.size)) (F0 m 16 ls []) := by
  obtain ⟨hx, hb, hr, hml, hown, hts, hlk, hK, hE, hI⟩ := id C
  have hD : ∀ σ : Sg, va_D (s_A ad 19 s.heap.size) ((s_WC cy ad sh) σ) := fun σ => s_D (s_WC_ad cy ad sh σ) hI (fun k hk => Or.inl ⟨k, hk, rfl⟩)
  unfold fX4_isLetter_b16 at hf
  refine lv_iconst (v := 0) hx hb dX4_isLetter_16 (by decide) ?_
  obtain ⟨he1, he2⟩ := s_ret hf
  exact W.zret hx hb hr rfl (fun t ht hW => ⟨⟨_, (), rfl, he1, s_fin (Wd := (s_WC cy ad sh)) ht he2 hP⟩, hS.F ht⟩) hS.2.2 dX4_isLetter_17 hlk
set_option maxRecDepth 100000 in
set_option maxHeartbeats 4000000 in
theorem kX4_isLetter (C : s_X p s m meth c args cX4_isLetter (some .boolean) 1 RX4 G cy sa ad 19) (σ : Sg) (x0 : Int32) (ls : Array Slot) (H : Heap) (locs : List Loc) (hl : lv_has ls 1 [(0, .int x0)]) (hP : va_P G vwCl ((s_WC cy ad sh) σ) H) (hS : va_S (s_A ad 19 s.heap.size) s.heap H locs) (hf : fX4_isLetter σ x0 = some (re, σe)) : W p l e ({ frames := 0, cells := 0, slots := 0, locals := 0 } : Room) s m args below meth c H locs 0 0 (MQ below (s_Qi (s_WC cy ad sh) G (s_A ad 19 s.heap.size) re σe) args s 0 0 (s_A ad 19 s.heap.size)) (F0 m 0 ls []) := by
  obtain ⟨hx, hb, hr, hml, hown, hts, hlk, hK, hE, hI⟩ := id C
  have hD : ∀ σ : Sg, va_D (s_A ad 19 s.heap.size) ((s_WC cy ad sh) σ) := fun σ => s_D (s_WC_ad cy ad sh σ) hI (fun k hk => Or.inl ⟨k, hk, rfl⟩)
  unfold fX4_isLetter at hf
  refine lv_iload_n hx hb dX4_isLetter_0 rfl (lv_at hl 0 rfl) ?_
  refine lv_bipush (v := 97) hx hb dX4_isLetter_1 (by decide) ?_
  refine lv_icmp_lt (tgt := 16) hx hb dX4_isLetter_3 (by decide) (fun c1 => ?_) (fun c1 => ?_)
  · rw [if_pos c1] at hf
    exact kX4_isLetter_b16 C σ _ _ _ (lv_sub hl [] rfl) hP hS hf
  · rw [if_neg c1] at hf
    refine lv_iload_n hx hb dX4_isLetter_6 rfl (lv_at hl 0 rfl) ?_
    refine lv_bipush (v := 122) hx hb dX4_isLetter_7 (by decide) ?_
    refine lv_icmp_gt (tgt := 16) hx hb dX4_isLetter_9 (by decide) (fun c2 => ?_) (fun c2 => ?_)
    · rw [if_pos c2] at hf
      exact kX4_isLetter_b16 C σ _ _ _ (lv_sub hl [] rfl) hP hS hf
    · rw [if_neg c2] at hf
      refine lv_iconst (v := 1) hx hb dX4_isLetter_12 (by decide) ?_
      refine lv_goto (tgt := 17) hx hb dX4_isLetter_13 (by decide) ?_
      obtain ⟨he1, he2⟩ := s_ret hf
      exact W.zret hx hb hr rfl (fun t ht hW => ⟨⟨_, (), rfl, he1, s_fin (Wd := (s_WC cy ad sh)) ht he2 hP⟩, hS.F ht⟩) hS.2.2 dX4_isLetter_17 hlk
theorem kcX4_isLetter {l : Launch} {G : va_G} {cy : Nat → ClassId} {sa : Nat × Nat} {ad : Nat → Nat} {sh : Nat → Option Nat} {sz : Nat} (hI : s_inj ad 19) (σ : Sg) (x0 : Int32) {re : Int32} {σe : Sg} (hf : fX4_isLetter σ x0 = some (re, σe)) : Met l yX4_isLetter (kW yX4_isLetter cX4_isLetter 1 (some .boolean)) ({ frames := 0, cells := 0, slots := 0, locals := 0 } : Room) (s_P (s_WC cy ad sh) G cy sa ad 19 [.int x0] sz σ) (s_Qi (s_WC cy ad sh) G (s_A ad 19 sz) re σe) 0 0 (s_A ad 19 sz) := by
  refine s_met (own := RX4) (by decide) rfl hI (Nat.le_of_ble_eq_true rfl) (fun p e s m below meth c ls hsz C hP hl => ?_)
  subst hsz
  exact kX4_isLetter C σ x0 ls _ _ hl hP va_S.rf hf
set_option maxRecDepth 100000 in
set_option maxHeartbeats 4000000 in
theorem kX4_isFigure_b16 (C : s_X p s m meth c args cX4_isFigure (some .boolean) 1 RX4 G cy sa ad 19) (σ : Sg) (ls : Array Slot) (H : Heap) (locs : List Loc) (hl : lv_has ls 1 []) (hP : va_P G vwCl ((s_WC cy ad sh) σ) H) (hS : va_S (s_A ad 19 s.heap.size) s.heap H locs) (hf : fX4_isFigure_b16 σ = some (re, σe)) : W p l e ({ frames := 0, cells := 0, slots := 0, locals := 0 } : Room) s m args below meth c H locs 0 0 (MQ below (s_Qi (s_WC cy ad sh) G (s_A ad 19 s.heap.size) re σe) args s 0 0 (s_A ad 19 s.heap.size)) (F0 m 16 ls []) := by
  obtain ⟨hx, hb, hr, hml, hown, hts, hlk, hK, hE, hI⟩ := id C
  have hD : ∀ σ : Sg, va_D (s_A ad 19 s.heap.size) ((s_WC cy ad sh) σ) := fun σ => s_D (s_WC_ad cy ad sh σ) hI (fun k hk => Or.inl ⟨k, hk, rfl⟩)
  unfold fX4_isFigure_b16 at hf
  refine lv_iconst (v := 0) hx hb dX4_isFigure_16 (by decide) ?_
  obtain ⟨he1, he2⟩ := s_ret hf
  exact W.zret hx hb hr rfl (fun t ht hW => ⟨⟨_, (), rfl, he1, s_fin (Wd := (s_WC cy ad sh)) ht he2 hP⟩, hS.F ht⟩) hS.2.2 dX4_isFigure_17 hlk
set_option maxRecDepth 100000 in
set_option maxHeartbeats 4000000 in
theorem kX4_isFigure (C : s_X p s m meth c args cX4_isFigure (some .boolean) 1 RX4 G cy sa ad 19) (σ : Sg) (x0 : Int32) (ls : Array Slot) (H : Heap) (locs : List Loc) (hl : lv_has ls 1 [(0, .int x0)]) (hP : va_P G vwCl ((s_WC cy ad sh) σ) H) (hS : va_S (s_A ad 19 s.heap.size) s.heap H locs) (hf : fX4_isFigure σ x0 = some (re, σe)) : W p l e ({ frames := 0, cells := 0, slots := 0, locals := 0 } : Room) s m args below meth c H locs 0 0 (MQ below (s_Qi (s_WC cy ad sh) G (s_A ad 19 s.heap.size) re σe) args s 0 0 (s_A ad 19 s.heap.size)) (F0 m 0 ls []) := by
  obtain ⟨hx, hb, hr, hml, hown, hts, hlk, hK, hE, hI⟩ := id C
  have hD : ∀ σ : Sg, va_D (s_A ad 19 s.heap.size) ((s_WC cy ad sh) σ) := fun σ => s_D (s_WC_ad cy ad sh σ) hI (fun k hk => Or.inl ⟨k, hk, rfl⟩)
  unfold fX4_isFigure at hf
  refine lv_iload_n hx hb dX4_isFigure_0 rfl (lv_at hl 0 rfl) ?_
  refine lv_bipush (v := 48) hx hb dX4_isFigure_1 (by decide) ?_
  refine lv_icmp_lt (tgt := 16) hx hb dX4_isFigure_3 (by decide) (fun c1 => ?_) (fun c1 => ?_)
  · rw [if_pos c1] at hf
    exact kX4_isFigure_b16 C σ _ _ _ (lv_sub hl [] rfl) hP hS hf
  · rw [if_neg c1] at hf
    refine lv_iload_n hx hb dX4_isFigure_6 rfl (lv_at hl 0 rfl) ?_
    refine lv_bipush (v := 57) hx hb dX4_isFigure_7 (by decide) ?_
    refine lv_icmp_gt (tgt := 16) hx hb dX4_isFigure_9 (by decide) (fun c2 => ?_) (fun c2 => ?_)
    · rw [if_pos c2] at hf
      exact kX4_isFigure_b16 C σ _ _ _ (lv_sub hl [] rfl) hP hS hf
    · rw [if_neg c2] at hf
      refine lv_iconst (v := 1) hx hb dX4_isFigure_12 (by decide) ?_
      refine lv_goto (tgt := 17) hx hb dX4_isFigure_13 (by decide) ?_
      obtain ⟨he1, he2⟩ := s_ret hf
      exact W.zret hx hb hr rfl (fun t ht hW => ⟨⟨_, (), rfl, he1, s_fin (Wd := (s_WC cy ad sh)) ht he2 hP⟩, hS.F ht⟩) hS.2.2 dX4_isFigure_17 hlk
theorem kcX4_isFigure {l : Launch} {G : va_G} {cy : Nat → ClassId} {sa : Nat × Nat} {ad : Nat → Nat} {sh : Nat → Option Nat} {sz : Nat} (hI : s_inj ad 19) (σ : Sg) (x0 : Int32) {re : Int32} {σe : Sg} (hf : fX4_isFigure σ x0 = some (re, σe)) : Met l yX4_isFigure (kW yX4_isFigure cX4_isFigure 1 (some .boolean)) ({ frames := 0, cells := 0, slots := 0, locals := 0 } : Room) (s_P (s_WC cy ad sh) G cy sa ad 19 [.int x0] sz σ) (s_Qi (s_WC cy ad sh) G (s_A ad 19 sz) re σe) 0 0 (s_A ad 19 sz) := by
  refine s_met (own := RX4) (by decide) rfl hI (Nat.le_of_ble_eq_true rfl) (fun p e s m below meth c ls hsz C hP hl => ?_)
  subst hsz
  exact kX4_isFigure C σ x0 ls _ _ hl hP va_S.rf hf
set_option maxRecDepth 100000 in
set_option maxHeartbeats 4000000 in
theorem kX4_refuse (C : s_X p s m meth c args cX4_refuse none 2 RX4 G cy sa ad 19) (σ : Sg) (x1 : Int32) (ls : Array Slot) (H : Heap) (locs : List Loc) (hl : lv_has ls 2 [(0, .ref (ad 3)), (1, .int x1)]) (hP : va_P G vwCl ((s_WC cy ad sh) σ) H) (hS : va_S (s_A ad 19 s.heap.size) s.heap H locs) (hf : fX4_refuse σ x1 = some σe) : W p l e ({ frames := 0, cells := 0, slots := 0, locals := 0 } : Room) s m args below meth c H locs 0 0 (MQ below (s_Qv (s_WC cy ad sh) G (s_A ad 19 s.heap.size) σe) args s 0 0 (s_A ad 19 s.heap.size)) (F0 m 0 ls []) := by
  obtain ⟨hx, hb, hr, hml, hown, hts, hlk, hK, hE, hI⟩ := id C
  have hD : ∀ σ : Sg, va_D (s_A ad 19 s.heap.size) ((s_WC cy ad sh) σ) := fun σ => s_D (s_WC_ad cy ad sh σ) hI (fun k hk => Or.inl ⟨k, hk, rfl⟩)
  unfold fX4_refuse at hf
  refine lv_aload_n hx hb dX4_refuse_0 rfl (lv_at hl 0 rfl) ?_
  refine lv_iload_n hx hb dX4_refuse_1 rfl (lv_at hl 1 rfl) ?_
  refine va_put (D := G) (ci := 4) (v := .int x1) (ty := .int) (C := RX4) (T := TX4) (N := 12) hx hb hts inkX4 tyX4 tyX4_ok nmX4 hown hK hP (hD _) hS 3 rfl rfl 10 (by decide) (hts _ kw_165) (fun _ h9 => h9) rfl (by decide +kernel) rfl rfl (Nat.le_of_ble_eq_true rfl) dX4_refuse_2 (fun H locs hP _ hS => ?_)
  obtain ⟨σ1, eσ1⟩ : ∃ z : Sg, z = (s_up σ 3 10 x1) := ⟨_, rfl⟩
  replace hf := s_lt_at eσ1 hf
  replace hP : va_P G vwCl ((s_WC cy ad sh) σ1) H := by rw [eσ1]; exact hP
  refine lv_aload_n hx hb dX4_refuse_5 rfl (lv_at hl 0 rfl) ?_
  refine lv_aload_n hx hb dX4_refuse_6 rfl (lv_at hl 0 rfl) ?_
  refine va_get (D := G) (ci := 4) (v := .int (σ1 3 6)) (C := RX4) (T := TX4) (N := 12) hx hb hts inkX4 hown hK hP 3 rfl rfl 6 (by decide) (hts _ kw_161) (fun _ h9 => h9) rfl dX4_refuse_7 ?_
  refine va_put (D := G) (ci := 4) (v := .int (σ1 3 6)) (ty := .int) (C := RX4) (T := TX4) (N := 12) hx hb hts inkX4 tyX4 tyX4_ok nmX4 hown hK hP (hD _) hS 3 rfl rfl 11 (by decide) (hts _ kw_167) (fun _ h9 => h9) rfl (by decide +kernel) rfl rfl (Nat.le_of_ble_eq_true rfl) dX4_refuse_10 (fun H locs hP _ hS => ?_)
  obtain ⟨σ2, eσ2⟩ : ∃ z : Sg, z = (s_up σ1 3 11 (σ1 3 6)) := ⟨_, rfl⟩
  replace hf := s_lt_at eσ2 hf
  replace hP : va_P G vwCl ((s_WC cy ad sh) σ2) H := by rw [eσ2]; exact hP
  have he2 := Option.some.inj hf
  exact W.vret hx hb hr (fun t ht hW => ⟨⟨(), rfl, trivial, s_fin (Wd := (s_WC cy ad sh)) ht he2 hP⟩, hS.F ht⟩) hS.2.2 dX4_refuse_13 hlk
theorem kcX4_refuse {l : Launch} {G : va_G} {cy : Nat → ClassId} {sa : Nat × Nat} {ad : Nat → Nat} {sh : Nat → Option Nat} {sz : Nat} (hI : s_inj ad 19) (σ : Sg) (x1 : Int32) {σe : Sg} (hf : fX4_refuse σ x1 = some σe) : Met l yX4_refuse (kW yX4_refuse cX4_refuse 2 none) ({ frames := 0, cells := 0, slots := 0, locals := 0 } : Room) (s_P (s_WC cy ad sh) G cy sa ad 19 [.ref (ad 3), .int x1] sz σ) (s_Qv (s_WC cy ad sh) G (s_A ad 19 sz) σe) 0 0 (s_A ad 19 sz) := by
  refine s_met (own := RX4) (by decide) rfl hI (Nat.le_of_ble_eq_true rfl) (fun p e s m below meth c ls hsz C hP hl => ?_)
  subst hsz
  exact kX4_refuse C σ x1 ls _ _ hl hP va_S.rf hf
set_option maxRecDepth 100000 in
set_option maxHeartbeats 4000000 in
theorem kX4_scanNumber_b84 (C : s_X p s m meth c args cX4_scanNumber none 2 RX4 G cy sa ad 19) (σ : Sg) (ls : Array Slot) (H : Heap) (locs : List Loc) (hl : lv_has ls 2 [(0, .ref (ad 3))]) (hP : va_P G vwCl ((s_WC cy ad sh) σ) H) (hS : va_S (s_A ad 19 s.heap.size) s.heap H locs) (hf : fX4_scanNumber_b84 σ = some σe) : W p l e ({ frames := 1, cells := 0, slots := 0, locals := 21 } : Room) s m args below meth c H locs 0 0 (MQ below (s_Qv (s_WC cy ad sh) G (s_A ad 19 s.heap.size) σe) args s 0 0 (s_A ad 19 s.heap.size)) (F0 m 84 ls []) := by
  obtain ⟨hx, hb, hr, hml, hown, hts, hlk, hK, hE, hI⟩ := id C
  have hD : ∀ σ : Sg, va_D (s_A ad 19 s.heap.size) ((s_WC cy ad sh) σ) := fun σ => s_D (s_WC_ad cy ad sh σ) hI (fun k hk => Or.inl ⟨k, hk, rfl⟩)
  unfold fX4_scanNumber_b84 at hf
  refine lv_aload_n hx hb dX4_scanNumber_84 rfl (lv_at hl 0 rfl) ?_
  refine va_get (D := G) (ci := 4) (v := .int (σ 3 7)) (C := RX4) (T := TX4) (N := 12) hx hb hts inkX4 hown hK hP 3 rfl rfl 7 (by decide) (hts _ kw_162) (fun _ h9 => h9) rfl dX4_scanNumber_85 ?_
  refine lv_aload_n hx hb dX4_scanNumber_88 rfl (lv_at hl 0 rfl) ?_
  refine va_get (D := G) (ci := 4) (v := .int (σ 3 6)) (C := RX4) (T := TX4) (N := 12) hx hb hts inkX4 hown hK hP 3 rfl rfl 6 (by decide) (hts _ kw_161) (fun _ h9 => h9) rfl dX4_scanNumber_89 ?_
  refine lv_isub hx hb dX4_scanNumber_92 ?_
  refine lv_iconst (v := 4) hx hb dX4_scanNumber_93 (by decide) ?_
  refine lv_icmp_le (tgt := 102) hx hb dX4_scanNumber_94 (by decide) (fun c1 => ?_) (fun c1 => ?_)
  · rw [if_pos c1] at hf
    have he2 := Option.some.inj hf
    exact W.vret hx hb hr (fun t ht hW => ⟨⟨(), rfl, trivial, s_fin (Wd := (s_WC cy ad sh)) ht he2 hP⟩, hS.F ht⟩) hS.2.2 dX4_scanNumber_102 hlk
  · rw [if_neg c1] at hf
    refine lv_aload_n hx hb dX4_scanNumber_97 rfl (lv_at hl 0 rfl) ?_
    refine lv_iconst (v := 1) hx hb dX4_scanNumber_98 (by decide) ?_
    replace hf := s_bv_some hf
    obtain ⟨σ2, hz3, hf⟩ := hf
    refine s_callv (nn := 1) C (kcX4_refuse (l := l) (G := G) (cy := cy) (sa := sa) (sh := sh) hI (sz := H.size) σ (1 : Int32) hz3) gk_X4_70 rfl rfl (by decide +kernel) ⟨Nat.le_of_ble_eq_true rfl, Nat.le_of_ble_eq_true rfl⟩ hP hS (q0 := 3) (ci := 4) rfl rfl rfl (As := [.int (1 : Int32)]) (rest := []) rfl rfl hl.1 (Nat.le_of_ble_eq_true rfl) dX4_scanNumber_99 (fun H locs hP hS => ?_)
    have he2 := Option.some.inj hf
    exact W.vret hx hb hr (fun t ht hW => ⟨⟨(), rfl, trivial, s_fin (Wd := (s_WC cy ad sh)) ht he2 hP⟩, hS.F ht⟩) hS.2.2 dX4_scanNumber_102 hlk
set_option maxRecDepth 100000 in
set_option maxHeartbeats 4000000 in
theorem kX4_scanNumber_b71 (C : s_X p s m meth c args cX4_scanNumber none 2 RX4 G cy sa ad 19) (k10 : Sg → Option Sg) (hk10 : ∀ (σ : Sg) (ls : Array Slot) (H : Heap) (locs : List Loc), lv_has ls 2 [(0, .ref (ad 3)), (1, .ref (ad 1))] → va_P G vwCl ((s_WC cy ad sh) σ) H → va_S (s_A ad 19 s.heap.size) s.heap H locs → k10 σ = some σe → W p l e ({ frames := 1, cells := 0, slots := 0, locals := 21 } : Room) s m args below meth c H locs 0 0 (MQ below (s_Qv (s_WC cy ad sh) G (s_A ad 19 s.heap.size) σe) args s 0 0 (s_A ad 19 s.heap.size)) (F0 m 10 ls [])) (σ : Sg) (ls : Array Slot) (H : Heap) (locs : List Loc) (hl : lv_has ls 2 [(0, .ref (ad 3)), (1, .ref (ad 1))]) (hP : va_P G vwCl ((s_WC cy ad sh) σ) H) (hS : va_S (s_A ad 19 s.heap.size) s.heap H locs) (hf : fX4_scanNumber_b71 k10 σ = some σe) : W p l e ({ frames := 1, cells := 0, slots := 0, locals := 21 } : Room) s m args below meth c H locs 0 0 (MQ below (s_Qv (s_WC cy ad sh) G (s_A ad 19 s.heap.size) σe) args s 0 0 (s_A ad 19 s.heap.size)) (F0 m 71 ls []) := by
  obtain ⟨hx, hb, hr, hml, hown, hts, hlk, hK, hE, hI⟩ := id C
  have hD : ∀ σ : Sg, va_D (s_A ad 19 s.heap.size) ((s_WC cy ad sh) σ) := fun σ => s_D (s_WC_ad cy ad sh σ) hI (fun k hk => Or.inl ⟨k, hk, rfl⟩)
  unfold fX4_scanNumber_b71 at hf
  refine lv_aload_n hx hb dX4_scanNumber_71 rfl (lv_at hl 0 rfl) ?_
  refine lv_dup hx hb dX4_scanNumber_72 rfl ?_
  refine va_get (D := G) (ci := 4) (v := .int (σ 3 7)) (C := RX4) (T := TX4) (N := 12) hx hb hts inkX4 hown hK hP 3 rfl rfl 7 (by decide) (hts _ kw_162) (fun _ h9 => h9) rfl dX4_scanNumber_73 ?_
  refine lv_iconst (v := 1) hx hb dX4_scanNumber_76 (by decide) ?_
  refine lv_iadd hx hb dX4_scanNumber_77 ?_
  refine va_put (D := G) (ci := 4) (v := .int ((σ 3 7) + (1 : Int32))) (ty := .int) (C := RX4) (T := TX4) (N := 12) hx hb hts inkX4 tyX4 tyX4_ok nmX4 hown hK hP (hD _) hS 3 rfl rfl 7 (by decide) (hts _ kw_162) (fun _ h9 => h9) rfl (by decide +kernel) rfl rfl (Nat.le_of_ble_eq_true rfl) dX4_scanNumber_78 (fun H locs hP _ hS => ?_)
  obtain ⟨σ1, eσ1⟩ : ∃ z : Sg, z = (s_up σ 3 7 ((σ 3 7) + (1 : Int32))) := ⟨_, rfl⟩
  replace hf := s_lt_at eσ1 hf
  replace hP : va_P G vwCl ((s_WC cy ad sh) σ1) H := by rw [eσ1]; exact hP
  refine lv_goto (tgt := 10) hx hb dX4_scanNumber_81 (by decide) ?_
  exact hk10 σ1 _ _ _ (lv_sub hl [0, 1] rfl) hP hS hf
set_option maxRecDepth 100000 in
set_option maxHeartbeats 4000000 in
theorem kX4_scanNumber_b10 (C : s_X p s m meth c args cX4_scanNumber none 2 RX4 G cy sa ad 19) (k10 : Sg → Option Sg) (hk10 : ∀ (σ : Sg) (ls : Array Slot) (H : Heap) (locs : List Loc), lv_has ls 2 [(0, .ref (ad 3)), (1, .ref (ad 1))] → va_P G vwCl ((s_WC cy ad sh) σ) H → va_S (s_A ad 19 s.heap.size) s.heap H locs → k10 σ = some σe → W p l e ({ frames := 1, cells := 0, slots := 0, locals := 21 } : Room) s m args below meth c H locs 0 0 (MQ below (s_Qv (s_WC cy ad sh) G (s_A ad 19 s.heap.size) σe) args s 0 0 (s_A ad 19 s.heap.size)) (F0 m 10 ls [])) (σ : Sg) (ls : Array Slot) (H : Heap) (locs : List Loc) (hl : lv_has ls 2 [(0, .ref (ad 3)), (1, .ref (ad 1))]) (hP : va_P G vwCl ((s_WC cy ad sh) σ) H) (hS : va_S (s_A ad 19 s.heap.size) s.heap H locs) (hf : fX4_scanNumber_b10 k10 σ = some σe) : W p l e ({ frames := 1, cells := 0, slots := 0, locals := 21 } : Room) s m args below meth c H locs 0 0 (MQ below (s_Qv (s_WC cy ad sh) G (s_A ad 19 s.heap.size) σe) args s 0 0 (s_A ad 19 s.heap.size)) (F0 m 10 ls []) := by
  obtain ⟨hx, hb, hr, hml, hown, hts, hlk, hK, hE, hI⟩ := id C
  have hD : ∀ σ : Sg, va_D (s_A ad 19 s.heap.size) ((s_WC cy ad sh) σ) := fun σ => s_D (s_WC_ad cy ad sh σ) hI (fun k hk => Or.inl ⟨k, hk, rfl⟩)
  unfold fX4_scanNumber_b10 at hf
  refine lv_aload_n hx hb dX4_scanNumber_10 rfl (lv_at hl 0 rfl) ?_
  refine va_get (D := G) (ci := 4) (v := .int (σ 3 7)) (C := RX4) (T := TX4) (N := 12) hx hb hts inkX4 hown hK hP 3 rfl rfl 7 (by decide) (hts _ kw_162) (fun _ h9 => h9) rfl dX4_scanNumber_11 ?_
  refine lv_aload_n hx hb dX4_scanNumber_14 rfl (lv_at hl 1 rfl) ?_
  refine va_getN (D := G) (ci := 3) (v := .int (σ 1 1)) (C := RX3) (T := TX3) (N := 2) hx hb hts inkX3 hown hK hP 1 rfl rfl 1 (by decide) (kn_X4_134 hE) (fun _ h9 => h9) rfl dX4_scanNumber_15 ?_
  refine lv_icmp_ge (tgt := 84) hx hb dX4_scanNumber_18 (by decide) (fun c1 => ?_) (fun c1 => ?_)
  · rw [if_pos c1] at hf
    exact kX4_scanNumber_b84 C σ _ _ _ (lv_sub hl [0] rfl) hP hS hf
  · rw [if_neg c1] at hf
    refine lv_aload_n hx hb dX4_scanNumber_21 rfl (lv_at hl 1 rfl) ?_
    refine lv_aload_n hx hb dX4_scanNumber_22 rfl (lv_at hl 0 rfl) ?_
    refine va_get (D := G) (ci := 4) (v := .int (σ 3 7)) (C := RX4) (T := TX4) (N := 12) hx hb hts inkX4 hown hK hP 3 rfl rfl 7 (by decide) (hts _ kw_162) (fun _ h9 => h9) rfl dX4_scanNumber_23 ?_
    replace hf := s_bi_some hf
    obtain ⟨r4, σ2, hz3, hf⟩ := hf
    refine s_calli (nn := 1) C (kcX3_byteAt (l := l) (G := G) (cy := cy) (sa := sa) (sh := sh) hI (sz := H.size) σ (σ 3 7) hz3) gk_X4_60 rfl rfl (by decide +kernel) ⟨Nat.le_of_ble_eq_true rfl, Nat.le_of_ble_eq_true rfl⟩ hP hS (q0 := 1) (ci := 3) rfl rfl rfl (As := [.int (σ 3 7)]) (rest := []) rfl rfl hl.1 (Nat.le_of_ble_eq_true rfl) dX4_scanNumber_26 (fun H locs hP hS => ?_)
    replace hf := s_bi_some hf
    obtain ⟨r7, σ5, hz6, hf⟩ := hf
    refine s_calliS (nn := 1) C (kcX4_isFigure (l := l) (G := G) (cy := cy) (sa := sa) (sh := sh) hI (sz := H.size) σ2 r4 hz6) gk_X4_144 rfl rfl (by decide +kernel) ⟨Nat.le_of_ble_eq_true rfl, Nat.le_of_ble_eq_true rfl⟩ hP hS (As := [.int r4]) (rest := []) rfl rfl hl.1 (Nat.le_of_ble_eq_true rfl) dX4_scanNumber_29 (fun H locs hP hS => ?_)
    refine lv_if_eq (tgt := 84) hx hb dX4_scanNumber_32 (by decide) (fun c8 => ?_) (fun c8 => ?_)
    · rw [if_pos c8] at hf
      exact kX4_scanNumber_b84 C σ5 _ _ _ (lv_sub hl [0] rfl) hP hS hf
    · rw [if_neg c8] at hf
      refine lv_aload_n hx hb dX4_scanNumber_35 rfl (lv_at hl 0 rfl) ?_
      refine va_get (D := G) (ci := 4) (v := .int (σ5 3 7)) (C := RX4) (T := TX4) (N := 12) hx hb hts inkX4 hown hK hP 3 rfl rfl 7 (by decide) (hts _ kw_162) (fun _ h9 => h9) rfl dX4_scanNumber_36 ?_
      refine lv_aload_n hx hb dX4_scanNumber_39 rfl (lv_at hl 0 rfl) ?_
      refine va_get (D := G) (ci := 4) (v := .int (σ5 3 6)) (C := RX4) (T := TX4) (N := 12) hx hb hts inkX4 hown hK hP 3 rfl rfl 6 (by decide) (hts _ kw_161) (fun _ h9 => h9) rfl dX4_scanNumber_40 ?_
      refine lv_isub hx hb dX4_scanNumber_43 ?_
      refine lv_iconst (v := 4) hx hb dX4_scanNumber_44 (by decide) ?_
      refine lv_icmp_ge (tgt := 71) hx hb dX4_scanNumber_45 (by decide) (fun c9 => ?_) (fun c9 => ?_)
      · rw [if_pos c9] at hf
        exact kX4_scanNumber_b71 C k10 hk10 σ5 _ _ _ (lv_sub hl [0, 1] rfl) hP hS hf
      · rw [if_neg c9] at hf
        refine lv_aload_n hx hb dX4_scanNumber_48 rfl (lv_at hl 0 rfl) ?_
        refine lv_bipush (v := 10) hx hb dX4_scanNumber_49 (by decide) ?_
        refine lv_aload_n hx hb dX4_scanNumber_51 rfl (lv_at hl 0 rfl) ?_
        refine va_get (D := G) (ci := 4) (v := .int (σ5 3 9)) (C := RX4) (T := TX4) (N := 12) hx hb hts inkX4 hown hK hP 3 rfl rfl 9 (by decide) (hts _ kw_164) (fun _ h9 => h9) rfl dX4_scanNumber_52 ?_
        refine lv_imul hx hb dX4_scanNumber_55 ?_
        refine lv_aload_n hx hb dX4_scanNumber_56 rfl (lv_at hl 1 rfl) ?_
        refine lv_aload_n hx hb dX4_scanNumber_57 rfl (lv_at hl 0 rfl) ?_
        refine va_get (D := G) (ci := 4) (v := .int (σ5 3 7)) (C := RX4) (T := TX4) (N := 12) hx hb hts inkX4 hown hK hP 3 rfl rfl 7 (by decide) (hts _ kw_162) (fun _ h9 => h9) rfl dX4_scanNumber_58 ?_
        replace hf := s_bi_some hf
        obtain ⟨r12, σ10, hz11, hf⟩ := hf
        refine s_calli (nn := 1) C (kcX3_byteAt (l := l) (G := G) (cy := cy) (sa := sa) (sh := sh) hI (sz := H.size) σ5 (σ5 3 7) hz11) gk_X4_60 rfl rfl (by decide +kernel) ⟨Nat.le_of_ble_eq_true rfl, Nat.le_of_ble_eq_true rfl⟩ hP hS (q0 := 1) (ci := 3) rfl rfl rfl (As := [.int (σ5 3 7)]) (rest := [.int ((10 : Int32) * (σ5 3 9)), .ref (ad 3)]) rfl rfl hl.1 (Nat.le_of_ble_eq_true rfl) dX4_scanNumber_61 (fun H locs hP hS => ?_)
        refine lv_iadd hx hb dX4_scanNumber_64 ?_
        refine lv_bipush (v := 48) hx hb dX4_scanNumber_65 (by decide) ?_
        refine lv_isub hx hb dX4_scanNumber_67 ?_
        refine va_put (D := G) (ci := 4) (v := .int ((((10 : Int32) * (σ5 3 9)) + r12) - (48 : Int32))) (ty := .int) (C := RX4) (T := TX4) (N := 12) hx hb hts inkX4 tyX4 tyX4_ok nmX4 hown hK hP (hD _) hS 3 rfl rfl 9 (by decide) (hts _ kw_164) (fun _ h9 => h9) rfl (by decide +kernel) rfl rfl (Nat.le_of_ble_eq_true rfl) dX4_scanNumber_68 (fun H locs hP _ hS => ?_)
        obtain ⟨σ13, eσ13⟩ : ∃ z : Sg, z = (s_up σ10 3 9 ((((10 : Int32) * (σ5 3 9)) + r12) - (48 : Int32))) := ⟨_, rfl⟩
        replace hf := s_lt_at eσ13 hf
        replace hP : va_P G vwCl ((s_WC cy ad sh) σ13) H := by rw [eσ13]; exact hP
        exact kX4_scanNumber_b71 C k10 hk10 σ13 _ _ _ (lv_sub hl [0, 1] rfl) hP hS hf
set_option maxRecDepth 100000 in
set_option maxHeartbeats 4000000 in
theorem kX4_scanNumber_b10_L (C : s_X p s m meth c args cX4_scanNumber none 2 RX4 G cy sa ad 19) : ∀ (n : Nat), ∀ (σ : Sg) (ls : Array Slot) (H : Heap) (locs : List Loc), lv_has ls 2 [(0, .ref (ad 3)), (1, .ref (ad 1))] → va_P G vwCl ((s_WC cy ad sh) σ) H → va_S (s_A ad 19 s.heap.size) s.heap H locs → fX4_scanNumber_b10_L n σ = some σe → W p l e ({ frames := 1, cells := 0, slots := 0, locals := 21 } : Room) s m args below meth c H locs 0 0 (MQ below (s_Qv (s_WC cy ad sh) G (s_A ad 19 s.heap.size) σe) args s 0 0 (s_A ad 19 s.heap.size)) (F0 m 10 ls []) := by
  intro n
  induction n with
  | zero => intro σ  ls H locs hl hP hS hf; exact absurd (show (none : Option Sg) = some σe from hf) (by intro h; cases h)
  | succ n ih => intro σ  ls H locs hl hP hS hf; exact kX4_scanNumber_b10 C (fX4_scanNumber_b10_L n) ih σ  ls H locs hl hP hS hf
set_option maxRecDepth 100000 in
set_option maxHeartbeats 4000000 in
theorem kX4_scanNumber (C : s_X p s m meth c args cX4_scanNumber none 2 RX4 G cy sa ad 19) (σ : Sg) (ls : Array Slot) (H : Heap) (locs : List Loc) (hl : lv_has ls 2 [(0, .ref (ad 3)), (1, .ref (ad 1))]) (hP : va_P G vwCl ((s_WC cy ad sh) σ) H) (hS : va_S (s_A ad 19 s.heap.size) s.heap H locs) (hf : fX4_scanNumber σ = some σe) : W p l e ({ frames := 1, cells := 0, slots := 0, locals := 21 } : Room) s m args below meth c H locs 0 0 (MQ below (s_Qv (s_WC cy ad sh) G (s_A ad 19 s.heap.size) σe) args s 0 0 (s_A ad 19 s.heap.size)) (F0 m 0 ls []) := by
  obtain ⟨hx, hb, hr, hml, hown, hts, hlk, hK, hE, hI⟩ := id C
  have hD : ∀ σ : Sg, va_D (s_A ad 19 s.heap.size) ((s_WC cy ad sh) σ) := fun σ => s_D (s_WC_ad cy ad sh σ) hI (fun k hk => Or.inl ⟨k, hk, rfl⟩)
  unfold fX4_scanNumber at hf
  refine lv_aload_n hx hb dX4_scanNumber_0 rfl (lv_at hl 0 rfl) ?_
  refine lv_iconst (v := 2) hx hb dX4_scanNumber_1 (by decide) ?_
  refine va_put (D := G) (ci := 4) (v := .int (2 : Int32)) (ty := .int) (C := RX4) (T := TX4) (N := 12) hx hb hts inkX4 tyX4 tyX4_ok nmX4 hown hK hP (hD _) hS 3 rfl rfl 5 (by decide) (hts _ kw_160) (fun _ h9 => h9) rfl (by decide +kernel) rfl rfl (Nat.le_of_ble_eq_true rfl) dX4_scanNumber_2 (fun H locs hP _ hS => ?_)
  obtain ⟨σ1, eσ1⟩ : ∃ z : Sg, z = (s_up σ 3 5 (2 : Int32)) := ⟨_, rfl⟩
  replace hf := s_lt_at eσ1 hf
  replace hP : va_P G vwCl ((s_WC cy ad sh) σ1) H := by rw [eσ1]; exact hP
  refine lv_aload_n hx hb dX4_scanNumber_5 rfl (lv_at hl 0 rfl) ?_
  refine lv_iconst (v := 0) hx hb dX4_scanNumber_6 (by decide) ?_
  refine va_put (D := G) (ci := 4) (v := .int (0 : Int32)) (ty := .int) (C := RX4) (T := TX4) (N := 12) hx hb hts inkX4 tyX4 tyX4_ok nmX4 hown hK hP (hD _) hS 3 rfl rfl 9 (by decide) (hts _ kw_164) (fun _ h9 => h9) rfl (by decide +kernel) rfl rfl (Nat.le_of_ble_eq_true rfl) dX4_scanNumber_7 (fun H locs hP _ hS => ?_)
  obtain ⟨σ2, eσ2⟩ : ∃ z : Sg, z = (s_up σ1 3 9 (0 : Int32)) := ⟨_, rfl⟩
  replace hf := s_lt_at eσ2 hf
  replace hP : va_P G vwCl ((s_WC cy ad sh) σ2) H := by rw [eσ2]; exact hP
  exact kX4_scanNumber_b10_L C s_fu σ2 _ _ _ (lv_sub hl [0, 1] rfl) hP hS hf
theorem kcX4_scanNumber {l : Launch} {G : va_G} {cy : Nat → ClassId} {sa : Nat × Nat} {ad : Nat → Nat} {sh : Nat → Option Nat} {sz : Nat} (hI : s_inj ad 19) (σ : Sg) {σe : Sg} (hf : fX4_scanNumber σ = some σe) : Met l yX4_scanNumber (kW yX4_scanNumber cX4_scanNumber 2 none) ({ frames := 1, cells := 0, slots := 0, locals := 21 } : Room) (s_P (s_WC cy ad sh) G cy sa ad 19 [.ref (ad 3), .ref (ad 1)] sz σ) (s_Qv (s_WC cy ad sh) G (s_A ad 19 sz) σe) 0 0 (s_A ad 19 sz) := by
  refine s_met (own := RX4) (by decide) rfl hI (Nat.le_of_ble_eq_true rfl) (fun p e s m below meth c ls hsz C hP hl => ?_)
  subst hsz
  exact kX4_scanNumber C σ ls _ _ hl hP va_S.rf hf
set_option maxRecDepth 100000 in
set_option maxHeartbeats 4000000 in
theorem kX6_fault (C : s_X p s m meth c args cX6_fault (some .int) 1 RX6 G cy sa ad 19) (σ : Sg) (ls : Array Slot) (H : Heap) (locs : List Loc) (hl : lv_has ls 1 [(0, .ref (ad 0))]) (hP : va_P G vwCl ((s_WC cy ad sh) σ) H) (hS : va_S (s_A ad 19 s.heap.size) s.heap H locs) (hf : fX6_fault σ = some (re, σe)) : W p l e ({ frames := 0, cells := 0, slots := 0, locals := 0 } : Room) s m args below meth c H locs 0 0 (MQ below (s_Qi (s_WC cy ad sh) G (s_A ad 19 s.heap.size) re σe) args s 0 0 (s_A ad 19 s.heap.size)) (F0 m 0 ls []) := by
  obtain ⟨hx, hb, hr, hml, hown, hts, hlk, hK, hE, hI⟩ := id C
  have hD : ∀ σ : Sg, va_D (s_A ad 19 s.heap.size) ((s_WC cy ad sh) σ) := fun σ => s_D (s_WC_ad cy ad sh σ) hI (fun k hk => Or.inl ⟨k, hk, rfl⟩)
  unfold fX6_fault at hf
  refine lv_aload_n hx hb dX6_fault_0 rfl (lv_at hl 0 rfl) ?_
  refine va_get (D := G) (ci := 6) (v := .ref (ad 3)) (C := RX6) (T := TX6) (N := 9) hx hb hts inkX6 hown hK hP 0 rfl rfl 1 (by decide) (hts _ kw_231) (fun _ h9 => h9) rfl dX6_fault_1 ?_
  refine va_getN (D := G) (ci := 4) (v := .int (σ 3 10)) (C := RX4) (T := TX4) (N := 12) hx hb hts inkX4 hown hK hP 3 rfl rfl 10 (by decide) (kn_X6_91 hE) (fun _ h9 => h9) rfl dX6_fault_4 ?_
  obtain ⟨he1, he2⟩ := s_ret hf
  exact W.iret hx hb hr (fun t ht hW => ⟨⟨_, (), rfl, he1, s_fin (Wd := (s_WC cy ad sh)) ht he2 hP⟩, hS.F ht⟩) hS.2.2 dX6_fault_7 hlk
theorem kcX6_fault {l : Launch} {G : va_G} {cy : Nat → ClassId} {sa : Nat × Nat} {ad : Nat → Nat} {sh : Nat → Option Nat} {sz : Nat} (hI : s_inj ad 19) (σ : Sg) {re : Int32} {σe : Sg} (hf : fX6_fault σ = some (re, σe)) : Met l yX6_fault (kW yX6_fault cX6_fault 1 (some .int)) ({ frames := 0, cells := 0, slots := 0, locals := 0 } : Room) (s_P (s_WC cy ad sh) G cy sa ad 19 [.ref (ad 0)] sz σ) (s_Qi (s_WC cy ad sh) G (s_A ad 19 sz) re σe) 0 0 (s_A ad 19 sz) := by
  refine s_met (own := RX6) (by decide) rfl hI (Nat.le_of_ble_eq_true rfl) (fun p e s m below meth c ls hsz C hP hl => ?_)
  subst hsz
  exact kX6_fault C σ ls _ _ hl hP va_S.rf hf
set_option maxRecDepth 100000 in
set_option maxHeartbeats 4000000 in
theorem kX1_countMissing_6_b26 (C : s_X p s m meth c args cX1_countMissing (some .int) 3 RX1 G cy sa ad 19) (k4 : Sg → Int32 → Int32 → Option (Int32 × Sg)) (hk4 : ∀ (σ : Sg) (x1 : Int32) (x2 : Int32) (ls : Array Slot) (H : Heap) (locs : List Loc), lv_has ls 3 [(0, .ref (ad 6)), (1, .int x1), (2, .int x2)] → va_P G vwCl ((s_WC cy ad sh) σ) H → va_S (s_A ad 19 s.heap.size) s.heap H locs → k4 σ x1 x2 = some (re, σe) → W p l e ({ frames := 0, cells := 0, slots := 0, locals := 0 } : Room) s m args below meth c H locs 0 0 (MQ below (s_Qi (s_WC cy ad sh) G (s_A ad 19 s.heap.size) re σe) args s 0 0 (s_A ad 19 s.heap.size)) (F0 m 4 ls [])) (σ : Sg) (x1 : Int32) (x2 : Int32) (ls : Array Slot) (H : Heap) (locs : List Loc) (hl : lv_has ls 3 [(0, .ref (ad 6)), (1, .int x1), (2, .int x2)]) (hP : va_P G vwCl ((s_WC cy ad sh) σ) H) (hS : va_S (s_A ad 19 s.heap.size) s.heap H locs) (hf : fX1_countMissing_6_b26 k4 σ x1 x2 = some (re, σe)) : W p l e ({ frames := 0, cells := 0, slots := 0, locals := 0 } : Room) s m args below meth c H locs 0 0 (MQ below (s_Qi (s_WC cy ad sh) G (s_A ad 19 s.heap.size) re σe) args s 0 0 (s_A ad 19 s.heap.size)) (F0 m 26 ls []) := by
  obtain ⟨hx, hb, hr, hml, hown, hts, hlk, hK, hE, hI⟩ := id C
  have hD : ∀ σ : Sg, va_D (s_A ad 19 s.heap.size) ((s_WC cy ad sh) σ) := fun σ => s_D (s_WC_ad cy ad sh σ) hI (fun k hk => Or.inl ⟨k, hk, rfl⟩)
  unfold fX1_countMissing_6_b26 at hf
  obtain ⟨t1, et1⟩ : ∃ z : Int32, z = (x2 + 1) := ⟨_, rfl⟩
  replace hf := s_lt_at et1 hf
  refine lv_iinc (v := t1) (lv' := [(2, .int t1), (0, .ref (ad 6)), (1, .int x1)]) hx hb dX1_countMissing_26 hl (k := 2) rfl (by rw [et1]; rfl) (by decide) rfl (fun ls hl => ?_)
  refine lv_goto (tgt := 4) hx hb dX1_countMissing_29 (by decide) ?_
  exact hk4 σ x1 t1 _ _ _ (lv_sub hl [1, 2, 0] rfl) hP hS hf
set_option maxRecDepth 100000 in
set_option maxHeartbeats 4000000 in
theorem kX1_countMissing_6_b4 (C : s_X p s m meth c args cX1_countMissing (some .int) 3 RX1 G cy sa ad 19) (k4 : Sg → Int32 → Int32 → Option (Int32 × Sg)) (hk4 : ∀ (σ : Sg) (x1 : Int32) (x2 : Int32) (ls : Array Slot) (H : Heap) (locs : List Loc), lv_has ls 3 [(0, .ref (ad 6)), (1, .int x1), (2, .int x2)] → va_P G vwCl ((s_WC cy ad sh) σ) H → va_S (s_A ad 19 s.heap.size) s.heap H locs → k4 σ x1 x2 = some (re, σe) → W p l e ({ frames := 0, cells := 0, slots := 0, locals := 0 } : Room) s m args below meth c H locs 0 0 (MQ below (s_Qi (s_WC cy ad sh) G (s_A ad 19 s.heap.size) re σe) args s 0 0 (s_A ad 19 s.heap.size)) (F0 m 4 ls [])) (σ : Sg) (x1 : Int32) (x2 : Int32) (ls : Array Slot) (H : Heap) (locs : List Loc) (hl : lv_has ls 3 [(0, .ref (ad 6)), (1, .int x1), (2, .int x2)]) (hP : va_P G vwCl ((s_WC cy ad sh) σ) H) (hS : va_S (s_A ad 19 s.heap.size) s.heap H locs) (hf : fX1_countMissing_6_b4 k4 σ x1 x2 = some (re, σe)) : W p l e ({ frames := 0, cells := 0, slots := 0, locals := 0 } : Room) s m args below meth c H locs 0 0 (MQ below (s_Qi (s_WC cy ad sh) G (s_A ad 19 s.heap.size) re σe) args s 0 0 (s_A ad 19 s.heap.size)) (F0 m 4 ls []) := by
  obtain ⟨hx, hb, hr, hml, hown, hts, hlk, hK, hE, hI⟩ := id C
  have hD : ∀ σ : Sg, va_D (s_A ad 19 s.heap.size) ((s_WC cy ad sh) σ) := fun σ => s_D (s_WC_ad cy ad sh σ) hI (fun k hk => Or.inl ⟨k, hk, rfl⟩)
  unfold fX1_countMissing_6_b4 at hf
  refine lv_iload_n hx hb dX1_countMissing_4 rfl (lv_at hl 2 rfl) ?_
  refine lv_aload_n hx hb dX1_countMissing_5 rfl (lv_at hl 0 rfl) ?_
  refine va_get (D := G) (ci := 1) (v := .int (σ 6 1)) (C := RX1) (T := TX1) (N := 8) hx hb hts inkX1 hown hK hP 6 rfl rfl 1 (by decide) (hts _ kw_110) (fun _ h9 => h9) rfl dX1_countMissing_6 ?_
  refine lv_icmp_ge (tgt := 32) hx hb dX1_countMissing_9 (by decide) (fun c1 => ?_) (fun c1 => ?_)
  · rw [if_pos c1] at hf
    refine lv_iload_n hx hb dX1_countMissing_32 rfl (lv_at hl 1 rfl) ?_
    obtain ⟨he1, he2⟩ := s_ret hf
    exact W.iret hx hb hr (fun t ht hW => ⟨⟨_, (), rfl, he1, s_fin (Wd := (s_WC cy ad sh)) ht he2 hP⟩, hS.F ht⟩) hS.2.2 dX1_countMissing_33 hlk
  · rw [if_neg c1] at hf
    refine lv_aload_n hx hb dX1_countMissing_12 rfl (lv_at hl 0 rfl) ?_
    refine va_get (D := G) (ci := 1) (v := .ref (ad 7)) (C := RX1) (T := TX1) (N := 8) hx hb hts inkX1 hown hK hP 6 rfl rfl 0 (by decide) (hts _ kw_109) (fun _ h9 => h9) rfl dX1_countMissing_13 ?_
    refine lv_iload_n hx hb dX1_countMissing_16 rfl (lv_at hl 2 rfl) ?_
    replace hf := s_gd_some hf
    obtain ⟨g2, hf⟩ := hf
    refine va_iald hx hb hK hP 7 1 rfl rfl (s_in_of g2) dX1_countMissing_17 ?_
    refine lv_ldc (v := 100000000) hx hb hown (hts _ kw_436) dX1_countMissing_18 ?_
    refine lv_icmp_ne (tgt := 26) hx hb dX1_countMissing_20 (by decide) (fun c3 => ?_) (fun c3 => ?_)
    · rw [if_neg c3] at hf
      exact kX1_countMissing_6_b26 C k4 hk4 σ x1 x2 _ _ _ (lv_sub hl [0, 1, 2] rfl) hP hS hf
    · rw [if_pos c3] at hf
      obtain ⟨t4, et4⟩ : ∃ z : Int32, z = (x1 + 1) := ⟨_, rfl⟩
      replace hf := s_lt_at et4 hf
      refine lv_iinc (v := t4) (lv' := [(1, .int t4), (0, .ref (ad 6)), (2, .int x2)]) hx hb dX1_countMissing_23 hl (k := 1) rfl (by rw [et4]; rfl) (by decide) rfl (fun ls hl => ?_)
      exact kX1_countMissing_6_b26 C k4 hk4 σ t4 x2 _ _ _ (lv_sub hl [1, 0, 2] rfl) hP hS hf
set_option maxRecDepth 100000 in
set_option maxHeartbeats 4000000 in
theorem kX1_countMissing_6_b4_L (C : s_X p s m meth c args cX1_countMissing (some .int) 3 RX1 G cy sa ad 19) : ∀ (n : Nat), ∀ (σ : Sg) (x1 : Int32) (x2 : Int32) (ls : Array Slot) (H : Heap) (locs : List Loc), lv_has ls 3 [(0, .ref (ad 6)), (1, .int x1), (2, .int x2)] → va_P G vwCl ((s_WC cy ad sh) σ) H → va_S (s_A ad 19 s.heap.size) s.heap H locs → fX1_countMissing_6_b4_L n σ x1 x2 = some (re, σe) → W p l e ({ frames := 0, cells := 0, slots := 0, locals := 0 } : Room) s m args below meth c H locs 0 0 (MQ below (s_Qi (s_WC cy ad sh) G (s_A ad 19 s.heap.size) re σe) args s 0 0 (s_A ad 19 s.heap.size)) (F0 m 4 ls []) := by
  intro n
  induction n with
  | zero => intro σ x1 x2 ls H locs hl hP hS hf; exact absurd (show (none : Option (Int32 × Sg)) = some (re, σe) from hf) (by intro h; cases h)
  | succ n ih => intro σ x1 x2 ls H locs hl hP hS hf; exact kX1_countMissing_6_b4 C (fX1_countMissing_6_b4_L n) ih σ x1 x2 ls H locs hl hP hS hf
set_option maxRecDepth 100000 in
set_option maxHeartbeats 4000000 in
theorem kX1_countMissing_6 (C : s_X p s m meth c args cX1_countMissing (some .int) 3 RX1 G cy sa ad 19) (σ : Sg) (ls : Array Slot) (H : Heap) (locs : List Loc) (hl : lv_has ls 3 [(0, .ref (ad 6))]) (hP : va_P G vwCl ((s_WC cy ad sh) σ) H) (hS : va_S (s_A ad 19 s.heap.size) s.heap H locs) (hf : fX1_countMissing_6 σ = some (re, σe)) : W p l e ({ frames := 0, cells := 0, slots := 0, locals := 0 } : Room) s m args below meth c H locs 0 0 (MQ below (s_Qi (s_WC cy ad sh) G (s_A ad 19 s.heap.size) re σe) args s 0 0 (s_A ad 19 s.heap.size)) (F0 m 0 ls []) := by
  obtain ⟨hx, hb, hr, hml, hown, hts, hlk, hK, hE, hI⟩ := id C
  have hD : ∀ σ : Sg, va_D (s_A ad 19 s.heap.size) ((s_WC cy ad sh) σ) := fun σ => s_D (s_WC_ad cy ad sh σ) hI (fun k hk => Or.inl ⟨k, hk, rfl⟩)
  unfold fX1_countMissing_6 at hf
  refine lv_iconst (v := 0) hx hb dX1_countMissing_0 (by decide) ?_
  refine lv_istore_n (lv' := [(1, .int (0 : Int32)), (0, .ref (ad 6))]) hx hb dX1_countMissing_1 rfl hl (by decide) rfl (fun ls hl => ?_)
  refine lv_iconst (v := 0) hx hb dX1_countMissing_2 (by decide) ?_
  refine lv_istore_n (lv' := [(2, .int (0 : Int32)), (1, .int (0 : Int32)), (0, .ref (ad 6))]) hx hb dX1_countMissing_3 rfl hl (by decide) rfl (fun ls hl => ?_)
  exact kX1_countMissing_6_b4_L C s_fu σ (0 : Int32) (0 : Int32) _ _ _ (lv_sub hl [2, 1, 0] rfl) hP hS hf
theorem kcX1_countMissing_6 {l : Launch} {G : va_G} {cy : Nat → ClassId} {sa : Nat × Nat} {ad : Nat → Nat} {sh : Nat → Option Nat} {sz : Nat} (hI : s_inj ad 19) (σ : Sg) {re : Int32} {σe : Sg} (hf : fX1_countMissing_6 σ = some (re, σe)) : Met l yX1_countMissing (kW yX1_countMissing cX1_countMissing 3 (some .int)) ({ frames := 0, cells := 0, slots := 0, locals := 0 } : Room) (s_P (s_WC cy ad sh) G cy sa ad 19 [.ref (ad 6)] sz σ) (s_Qi (s_WC cy ad sh) G (s_A ad 19 sz) re σe) 0 0 (s_A ad 19 sz) := by
  refine s_met (own := RX1) (by decide) rfl hI (Nat.le_of_ble_eq_true rfl) (fun p e s m below meth c ls hsz C hP hl => ?_)
  subst hsz
  exact kX1_countMissing_6 C σ ls _ _ hl hP va_S.rf hf
set_option maxRecDepth 100000 in
set_option maxHeartbeats 4000000 in
theorem kX0_clear (C : s_X p s m meth c args cX0_clear none 1 RX0 G cy sa ad 19) (σ : Sg) (ls : Array Slot) (H : Heap) (locs : List Loc) (hl : lv_has ls 1 [(0, .ref (ad 8))]) (hP : va_P G vwCl ((s_WC cy ad sh) σ) H) (hS : va_S (s_A ad 19 s.heap.size) s.heap H locs) (hf : fX0_clear σ = some σe) : W p l e ({ frames := 0, cells := 0, slots := 0, locals := 0 } : Room) s m args below meth c H locs 0 0 (MQ below (s_Qv (s_WC cy ad sh) G (s_A ad 19 s.heap.size) σe) args s 0 0 (s_A ad 19 s.heap.size)) (F0 m 0 ls []) := by
  obtain ⟨hx, hb, hr, hml, hown, hts, hlk, hK, hE, hI⟩ := id C
  have hD : ∀ σ : Sg, va_D (s_A ad 19 s.heap.size) ((s_WC cy ad sh) σ) := fun σ => s_D (s_WC_ad cy ad sh σ) hI (fun k hk => Or.inl ⟨k, hk, rfl⟩)
  unfold fX0_clear at hf
  refine lv_aload_n hx hb dX0_clear_0 rfl (lv_at hl 0 rfl) ?_
  refine lv_iconst (v := 0) hx hb dX0_clear_1 (by decide) ?_
  refine va_put (D := G) (ci := 0) (v := .int (0 : Int32)) (ty := .int) (C := RX0) (T := TX0) (N := 3) hx hb hts inkX0 tyX0 tyX0_ok nmX0 hown hK hP (hD _) hS 8 rfl rfl 2 (by decide) (hts _ kw_204) (fun _ h9 => h9) rfl (by decide +kernel) rfl rfl (Nat.le_of_ble_eq_true rfl) dX0_clear_2 (fun H locs hP _ hS => ?_)
  obtain ⟨σ1, eσ1⟩ : ∃ z : Sg, z = (s_up σ 8 2 (0 : Int32)) := ⟨_, rfl⟩
  replace hf := s_lt_at eσ1 hf
  replace hP : va_P G vwCl ((s_WC cy ad sh) σ1) H := by rw [eσ1]; exact hP
  have he2 := Option.some.inj hf
  exact W.vret hx hb hr (fun t ht hW => ⟨⟨(), rfl, trivial, s_fin (Wd := (s_WC cy ad sh)) ht he2 hP⟩, hS.F ht⟩) hS.2.2 dX0_clear_5 hlk
theorem kcX0_clear {l : Launch} {G : va_G} {cy : Nat → ClassId} {sa : Nat × Nat} {ad : Nat → Nat} {sh : Nat → Option Nat} {sz : Nat} (hI : s_inj ad 19) (σ : Sg) {σe : Sg} (hf : fX0_clear σ = some σe) : Met l yX0_clear (kW yX0_clear cX0_clear 1 none) ({ frames := 0, cells := 0, slots := 0, locals := 0 } : Room) (s_P (s_WC cy ad sh) G cy sa ad 19 [.ref (ad 8)] sz σ) (s_Qv (s_WC cy ad sh) G (s_A ad 19 sz) σe) 0 0 (s_A ad 19 sz) := by
  refine s_met (own := RX0) (by decide) rfl hI (Nat.le_of_ble_eq_true rfl) (fun p e s m below meth c ls hsz C hP hl => ?_)
  subst hsz
  exact kX0_clear C σ ls _ _ hl hP va_S.rf hf
set_option maxRecDepth 100000 in
set_option maxHeartbeats 4000000 in
theorem kX1_has_6_b16 (C : s_X p s m meth c args cX1_has (some .boolean) 2 RX1 G cy sa ad 19) (σ : Sg) (ls : Array Slot) (H : Heap) (locs : List Loc) (hl : lv_has ls 2 []) (hP : va_P G vwCl ((s_WC cy ad sh) σ) H) (hS : va_S (s_A ad 19 s.heap.size) s.heap H locs) (hf : fX1_has_6_b16 σ = some (re, σe)) : W p l e ({ frames := 0, cells := 0, slots := 0, locals := 0 } : Room) s m args below meth c H locs 0 0 (MQ below (s_Qi (s_WC cy ad sh) G (s_A ad 19 s.heap.size) re σe) args s 0 0 (s_A ad 19 s.heap.size)) (F0 m 16 ls []) := by
  obtain ⟨hx, hb, hr, hml, hown, hts, hlk, hK, hE, hI⟩ := id C
  have hD : ∀ σ : Sg, va_D (s_A ad 19 s.heap.size) ((s_WC cy ad sh) σ) := fun σ => s_D (s_WC_ad cy ad sh σ) hI (fun k hk => Or.inl ⟨k, hk, rfl⟩)
  unfold fX1_has_6_b16 at hf
  refine lv_iconst (v := 0) hx hb dX1_has_16 (by decide) ?_
  obtain ⟨he1, he2⟩ := s_ret hf
  exact W.zret hx hb hr rfl (fun t ht hW => ⟨⟨_, (), rfl, he1, s_fin (Wd := (s_WC cy ad sh)) ht he2 hP⟩, hS.F ht⟩) hS.2.2 dX1_has_17 hlk
set_option maxRecDepth 100000 in
set_option maxHeartbeats 4000000 in
theorem kX1_has_6 (C : s_X p s m meth c args cX1_has (some .boolean) 2 RX1 G cy sa ad 19) (σ : Sg) (x1 : Int32) (ls : Array Slot) (H : Heap) (locs : List Loc) (hl : lv_has ls 2 [(0, .ref (ad 6)), (1, .int x1)]) (hP : va_P G vwCl ((s_WC cy ad sh) σ) H) (hS : va_S (s_A ad 19 s.heap.size) s.heap H locs) (hf : fX1_has_6 σ x1 = some (re, σe)) : W p l e ({ frames := 0, cells := 0, slots := 0, locals := 0 } : Room) s m args below meth c H locs 0 0 (MQ below (s_Qi (s_WC cy ad sh) G (s_A ad 19 s.heap.size) re σe) args s 0 0 (s_A ad 19 s.heap.size)) (F0 m 0 ls []) := by
  obtain ⟨hx, hb, hr, hml, hown, hts, hlk, hK, hE, hI⟩ := id C
  have hD : ∀ σ : Sg, va_D (s_A ad 19 s.heap.size) ((s_WC cy ad sh) σ) := fun σ => s_D (s_WC_ad cy ad sh σ) hI (fun k hk => Or.inl ⟨k, hk, rfl⟩)
  unfold fX1_has_6 at hf
  refine lv_iload_n hx hb dX1_has_0 rfl (lv_at hl 1 rfl) ?_
  refine lv_if_lt (tgt := 16) hx hb dX1_has_1 (by decide) (fun c1 => ?_) (fun c1 => ?_)
  · rw [if_pos c1] at hf
    exact kX1_has_6_b16 C σ _ _ _ (lv_sub hl [] rfl) hP hS hf
  · rw [if_neg c1] at hf
    refine lv_iload_n hx hb dX1_has_4 rfl (lv_at hl 1 rfl) ?_
    refine lv_aload_n hx hb dX1_has_5 rfl (lv_at hl 0 rfl) ?_
    refine va_get (D := G) (ci := 1) (v := .int (σ 6 1)) (C := RX1) (T := TX1) (N := 8) hx hb hts inkX1 hown hK hP 6 rfl rfl 1 (by decide) (hts _ kw_110) (fun _ h9 => h9) rfl dX1_has_6 ?_
    refine lv_icmp_ge (tgt := 16) hx hb dX1_has_9 (by decide) (fun c2 => ?_) (fun c2 => ?_)
    · rw [if_pos c2] at hf
      exact kX1_has_6_b16 C σ _ _ _ (lv_sub hl [] rfl) hP hS hf
    · rw [if_neg c2] at hf
      refine lv_iconst (v := 1) hx hb dX1_has_12 (by decide) ?_
      refine lv_goto (tgt := 17) hx hb dX1_has_13 (by decide) ?_
      obtain ⟨he1, he2⟩ := s_ret hf
      exact W.zret hx hb hr rfl (fun t ht hW => ⟨⟨_, (), rfl, he1, s_fin (Wd := (s_WC cy ad sh)) ht he2 hP⟩, hS.F ht⟩) hS.2.2 dX1_has_17 hlk
theorem kcX1_has_6 {l : Launch} {G : va_G} {cy : Nat → ClassId} {sa : Nat × Nat} {ad : Nat → Nat} {sh : Nat → Option Nat} {sz : Nat} (hI : s_inj ad 19) (σ : Sg) (x1 : Int32) {re : Int32} {σe : Sg} (hf : fX1_has_6 σ x1 = some (re, σe)) : Met l yX1_has (kW yX1_has cX1_has 2 (some .boolean)) ({ frames := 0, cells := 0, slots := 0, locals := 0 } : Room) (s_P (s_WC cy ad sh) G cy sa ad 19 [.ref (ad 6), .int x1] sz σ) (s_Qi (s_WC cy ad sh) G (s_A ad 19 sz) re σe) 0 0 (s_A ad 19 sz) := by
  refine s_met (own := RX1) (by decide) rfl hI (Nat.le_of_ble_eq_true rfl) (fun p e s m below meth c ls hsz C hP hl => ?_)
  subst hsz
  exact kX1_has_6 C σ x1 ls _ _ hl hP va_S.rf hf
set_option maxRecDepth 100000 in
set_option maxHeartbeats 4000000 in
theorem kX1_valueAt_6 (C : s_X p s m meth c args cX1_valueAt (some .int) 2 RX1 G cy sa ad 19) (σ : Sg) (x1 : Int32) (ls : Array Slot) (H : Heap) (locs : List Loc) (hl : lv_has ls 2 [(0, .ref (ad 6)), (1, .int x1)]) (hP : va_P G vwCl ((s_WC cy ad sh) σ) H) (hS : va_S (s_A ad 19 s.heap.size) s.heap H locs) (hf : fX1_valueAt_6 σ x1 = some (re, σe)) : W p l e ({ frames := 1, cells := 0, slots := 0, locals := 21 } : Room) s m args below meth c H locs 0 0 (MQ below (s_Qi (s_WC cy ad sh) G (s_A ad 19 s.heap.size) re σe) args s 0 0 (s_A ad 19 s.heap.size)) (F0 m 0 ls []) := by
  obtain ⟨hx, hb, hr, hml, hown, hts, hlk, hK, hE, hI⟩ := id C
  have hD : ∀ σ : Sg, va_D (s_A ad 19 s.heap.size) ((s_WC cy ad sh) σ) := fun σ => s_D (s_WC_ad cy ad sh σ) hI (fun k hk => Or.inl ⟨k, hk, rfl⟩)
  unfold fX1_valueAt_6 at hf
  refine lv_aload_n hx hb dX1_valueAt_0 rfl (lv_at hl 0 rfl) ?_
  refine lv_iload_n hx hb dX1_valueAt_1 rfl (lv_at hl 1 rfl) ?_
  replace hf := s_bi_some hf
  obtain ⟨r3, σ1, hz2, hf⟩ := hf
  refine s_calli (nn := 1) C (kcX1_has_6 (l := l) (G := G) (cy := cy) (sa := sa) (sh := sh) hI (sz := H.size) σ x1 hz2) gk_X1_46 rfl rfl (by decide +kernel) ⟨Nat.le_of_ble_eq_true rfl, Nat.le_of_ble_eq_true rfl⟩ hP hS (q0 := 6) (ci := 1) rfl rfl rfl (As := [.int x1]) (rest := []) rfl rfl hl.1 (Nat.le_of_ble_eq_true rfl) dX1_valueAt_2 (fun H locs hP hS => ?_)
  refine lv_if_eq (tgt := 17) hx hb dX1_valueAt_5 (by decide) (fun c4 => ?_) (fun c4 => ?_)
  · rw [if_pos c4] at hf
    refine lv_ldc (v := 100000000) hx hb hown (hts _ kw_436) dX1_valueAt_17 ?_
    obtain ⟨he1, he2⟩ := s_ret hf
    exact W.iret hx hb hr (fun t ht hW => ⟨⟨_, (), rfl, he1, s_fin (Wd := (s_WC cy ad sh)) ht he2 hP⟩, hS.F ht⟩) hS.2.2 dX1_valueAt_19 hlk
  · rw [if_neg c4] at hf
    refine lv_aload_n hx hb dX1_valueAt_8 rfl (lv_at hl 0 rfl) ?_
    refine va_get (D := G) (ci := 1) (v := .ref (ad 7)) (C := RX1) (T := TX1) (N := 8) hx hb hts inkX1 hown hK hP 6 rfl rfl 0 (by decide) (hts _ kw_109) (fun _ h9 => h9) rfl dX1_valueAt_9 ?_
    refine lv_iload_n hx hb dX1_valueAt_12 rfl (lv_at hl 1 rfl) ?_
    replace hf := s_gd_some hf
    obtain ⟨g5, hf⟩ := hf
    refine va_iald hx hb hK hP 7 1 rfl rfl (s_in_of g5) dX1_valueAt_13 ?_
    refine lv_goto (tgt := 19) hx hb dX1_valueAt_14 (by decide) ?_
    obtain ⟨he1, he2⟩ := s_ret hf
    exact W.iret hx hb hr (fun t ht hW => ⟨⟨_, (), rfl, he1, s_fin (Wd := (s_WC cy ad sh)) ht he2 hP⟩, hS.F ht⟩) hS.2.2 dX1_valueAt_19 hlk
theorem kcX1_valueAt_6 {l : Launch} {G : va_G} {cy : Nat → ClassId} {sa : Nat × Nat} {ad : Nat → Nat} {sh : Nat → Option Nat} {sz : Nat} (hI : s_inj ad 19) (σ : Sg) (x1 : Int32) {re : Int32} {σe : Sg} (hf : fX1_valueAt_6 σ x1 = some (re, σe)) : Met l yX1_valueAt (kW yX1_valueAt cX1_valueAt 2 (some .int)) ({ frames := 1, cells := 0, slots := 0, locals := 21 } : Room) (s_P (s_WC cy ad sh) G cy sa ad 19 [.ref (ad 6), .int x1] sz σ) (s_Qi (s_WC cy ad sh) G (s_A ad 19 sz) re σe) 0 0 (s_A ad 19 sz) := by
  refine s_met (own := RX1) (by decide) rfl hI (Nat.le_of_ble_eq_true rfl) (fun p e s m below meth c ls hsz C hP hl => ?_)
  subst hsz
  exact kX1_valueAt_6 C σ x1 ls _ _ hl hP va_S.rf hf
set_option maxRecDepth 100000 in
set_option maxHeartbeats 4000000 in
theorem kX0_countLess_b26 (C : s_X p s m meth c args cX0_countLess (some .int) 3 RX0 G cy sa ad 19) (σ : Sg) (x2 : Int32) (ls : Array Slot) (H : Heap) (locs : List Loc) (hl : lv_has ls 3 [(2, .int x2)]) (hP : va_P G vwCl ((s_WC cy ad sh) σ) H) (hS : va_S (s_A ad 19 s.heap.size) s.heap H locs) (hf : fX0_countLess_b26 σ x2 = some (re, σe)) : W p l e ({ frames := 0, cells := 0, slots := 0, locals := 0 } : Room) s m args below meth c H locs 0 0 (MQ below (s_Qi (s_WC cy ad sh) G (s_A ad 19 s.heap.size) re σe) args s 0 0 (s_A ad 19 s.heap.size)) (F0 m 26 ls []) := by
  obtain ⟨hx, hb, hr, hml, hown, hts, hlk, hK, hE, hI⟩ := id C
  have hD : ∀ σ : Sg, va_D (s_A ad 19 s.heap.size) ((s_WC cy ad sh) σ) := fun σ => s_D (s_WC_ad cy ad sh σ) hI (fun k hk => Or.inl ⟨k, hk, rfl⟩)
  unfold fX0_countLess_b26 at hf
  refine lv_iload_n hx hb dX0_countLess_26 rfl (lv_at hl 0 rfl) ?_
  obtain ⟨he1, he2⟩ := s_ret hf
  exact W.iret hx hb hr (fun t ht hW => ⟨⟨_, (), rfl, he1, s_fin (Wd := (s_WC cy ad sh)) ht he2 hP⟩, hS.F ht⟩) hS.2.2 dX0_countLess_27 hlk
set_option maxRecDepth 100000 in
set_option maxHeartbeats 4000000 in
theorem kX0_countLess_b2 (C : s_X p s m meth c args cX0_countLess (some .int) 3 RX0 G cy sa ad 19) (k2 : Sg → Int32 → Int32 → Option (Int32 × Sg)) (hk2 : ∀ (σ : Sg) (x1 : Int32) (x2 : Int32) (ls : Array Slot) (H : Heap) (locs : List Loc), lv_has ls 3 [(0, .ref (ad 8)), (1, .int x1), (2, .int x2)] → va_P G vwCl ((s_WC cy ad sh) σ) H → va_S (s_A ad 19 s.heap.size) s.heap H locs → k2 σ x1 x2 = some (re, σe) → W p l e ({ frames := 0, cells := 0, slots := 0, locals := 0 } : Room) s m args below meth c H locs 0 0 (MQ below (s_Qi (s_WC cy ad sh) G (s_A ad 19 s.heap.size) re σe) args s 0 0 (s_A ad 19 s.heap.size)) (F0 m 2 ls [])) (σ : Sg) (x1 : Int32) (x2 : Int32) (ls : Array Slot) (H : Heap) (locs : List Loc) (hl : lv_has ls 3 [(0, .ref (ad 8)), (1, .int x1), (2, .int x2)]) (hP : va_P G vwCl ((s_WC cy ad sh) σ) H) (hS : va_S (s_A ad 19 s.heap.size) s.heap H locs) (hf : fX0_countLess_b2 k2 σ x1 x2 = some (re, σe)) : W p l e ({ frames := 0, cells := 0, slots := 0, locals := 0 } : Room) s m args below meth c H locs 0 0 (MQ below (s_Qi (s_WC cy ad sh) G (s_A ad 19 s.heap.size) re σe) args s 0 0 (s_A ad 19 s.heap.size)) (F0 m 2 ls []) := by
  obtain ⟨hx, hb, hr, hml, hown, hts, hlk, hK, hE, hI⟩ := id C
  have hD : ∀ σ : Sg, va_D (s_A ad 19 s.heap.size) ((s_WC cy ad sh) σ) := fun σ => s_D (s_WC_ad cy ad sh σ) hI (fun k hk => Or.inl ⟨k, hk, rfl⟩)
  unfold fX0_countLess_b2 at hf
  refine lv_iload_n hx hb dX0_countLess_2 rfl (lv_at hl 2 rfl) ?_
  refine lv_aload_n hx hb dX0_countLess_3 rfl (lv_at hl 0 rfl) ?_
  refine va_get (D := G) (ci := 0) (v := .int (σ 8 2)) (C := RX0) (T := TX0) (N := 3) hx hb hts inkX0 hown hK hP 8 rfl rfl 2 (by decide) (hts _ kw_204) (fun _ h9 => h9) rfl dX0_countLess_4 ?_
  refine lv_icmp_ge (tgt := 26) hx hb dX0_countLess_7 (by decide) (fun c1 => ?_) (fun c1 => ?_)
  · rw [if_pos c1] at hf
    exact kX0_countLess_b26 C σ x2 _ _ _ (lv_sub hl [2] rfl) hP hS hf
  · rw [if_neg c1] at hf
    refine lv_aload_n hx hb dX0_countLess_10 rfl (lv_at hl 0 rfl) ?_
    refine va_get (D := G) (ci := 0) (v := .ref (ad 9)) (C := RX0) (T := TX0) (N := 3) hx hb hts inkX0 hown hK hP 8 rfl rfl 1 (by decide) (hts _ kw_203) (fun _ h9 => h9) rfl dX0_countLess_11 ?_
    refine lv_iload_n hx hb dX0_countLess_14 rfl (lv_at hl 2 rfl) ?_
    replace hf := s_gd_some hf
    obtain ⟨g2, hf⟩ := hf
    refine va_iald hx hb hK hP 9 1 rfl rfl (s_in_of g2) dX0_countLess_15 ?_
    refine lv_iload_n hx hb dX0_countLess_16 rfl (lv_at hl 1 rfl) ?_
    refine lv_icmp_ge (tgt := 26) hx hb dX0_countLess_17 (by decide) (fun c3 => ?_) (fun c3 => ?_)
    · rw [if_pos c3] at hf
      exact kX0_countLess_b26 C σ x2 _ _ _ (lv_sub hl [2] rfl) hP hS hf
    · rw [if_neg c3] at hf
      obtain ⟨t4, et4⟩ : ∃ z : Int32, z = (x2 + 1) := ⟨_, rfl⟩
      replace hf := s_lt_at et4 hf
      refine lv_iinc (v := t4) (lv' := [(2, .int t4), (0, .ref (ad 8)), (1, .int x1)]) hx hb dX0_countLess_20 hl (k := 2) rfl (by rw [et4]; rfl) (by decide) rfl (fun ls hl => ?_)
      refine lv_goto (tgt := 2) hx hb dX0_countLess_23 (by decide) ?_
      exact hk2 σ x1 t4 _ _ _ (lv_sub hl [1, 2, 0] rfl) hP hS hf
set_option maxRecDepth 100000 in
set_option maxHeartbeats 4000000 in
theorem kX0_countLess_b2_L (C : s_X p s m meth c args cX0_countLess (some .int) 3 RX0 G cy sa ad 19) : ∀ (n : Nat), ∀ (σ : Sg) (x1 : Int32) (x2 : Int32) (ls : Array Slot) (H : Heap) (locs : List Loc), lv_has ls 3 [(0, .ref (ad 8)), (1, .int x1), (2, .int x2)] → va_P G vwCl ((s_WC cy ad sh) σ) H → va_S (s_A ad 19 s.heap.size) s.heap H locs → fX0_countLess_b2_L n σ x1 x2 = some (re, σe) → W p l e ({ frames := 0, cells := 0, slots := 0, locals := 0 } : Room) s m args below meth c H locs 0 0 (MQ below (s_Qi (s_WC cy ad sh) G (s_A ad 19 s.heap.size) re σe) args s 0 0 (s_A ad 19 s.heap.size)) (F0 m 2 ls []) := by
  intro n
  induction n with
  | zero => intro σ x1 x2 ls H locs hl hP hS hf; exact absurd (show (none : Option (Int32 × Sg)) = some (re, σe) from hf) (by intro h; cases h)
  | succ n ih => intro σ x1 x2 ls H locs hl hP hS hf; exact kX0_countLess_b2 C (fX0_countLess_b2_L n) ih σ x1 x2 ls H locs hl hP hS hf
set_option maxRecDepth 100000 in
set_option maxHeartbeats 4000000 in
theorem kX0_countLess (C : s_X p s m meth c args cX0_countLess (some .int) 3 RX0 G cy sa ad 19) (σ : Sg) (x1 : Int32) (ls : Array Slot) (H : Heap) (locs : List Loc) (hl : lv_has ls 3 [(0, .ref (ad 8)), (1, .int x1)]) (hP : va_P G vwCl ((s_WC cy ad sh) σ) H) (hS : va_S (s_A ad 19 s.heap.size) s.heap H locs) (hf : fX0_countLess σ x1 = some (re, σe)) : W p l e ({ frames := 0, cells := 0, slots := 0, locals := 0 } : Room) s m args below meth c H locs 0 0 (MQ below (s_Qi (s_WC cy ad sh) G (s_A ad 19 s.heap.size) re σe) args s 0 0 (s_A ad 19 s.heap.size)) (F0 m 0 ls []) := by
  obtain ⟨hx, hb, hr, hml, hown, hts, hlk, hK, hE, hI⟩ := id C
  have hD : ∀ σ : Sg, va_D (s_A ad 19 s.heap.size) ((s_WC cy ad sh) σ) := fun σ => s_D (s_WC_ad cy ad sh σ) hI (fun k hk => Or.inl ⟨k, hk, rfl⟩)
  unfold fX0_countLess at hf
  refine lv_iconst (v := 0) hx hb dX0_countLess_0 (by decide) ?_
  refine lv_istore_n (lv' := [(2, .int (0 : Int32)), (0, .ref (ad 8)), (1, .int x1)]) hx hb dX0_countLess_1 rfl hl (by decide) rfl (fun ls hl => ?_)
  exact kX0_countLess_b2_L C s_fu σ x1 (0 : Int32) _ _ _ (lv_sub hl [1, 2, 0] rfl) hP hS hf
theorem kcX0_countLess {l : Launch} {G : va_G} {cy : Nat → ClassId} {sa : Nat × Nat} {ad : Nat → Nat} {sh : Nat → Option Nat} {sz : Nat} (hI : s_inj ad 19) (σ : Sg) (x1 : Int32) {re : Int32} {σe : Sg} (hf : fX0_countLess σ x1 = some (re, σe)) : Met l yX0_countLess (kW yX0_countLess cX0_countLess 3 (some .int)) ({ frames := 0, cells := 0, slots := 0, locals := 0 } : Room) (s_P (s_WC cy ad sh) G cy sa ad 19 [.ref (ad 8), .int x1] sz σ) (s_Qi (s_WC cy ad sh) G (s_A ad 19 sz) re σe) 0 0 (s_A ad 19 sz) := by
  refine s_met (own := RX0) (by decide) rfl hI (Nat.le_of_ble_eq_true rfl) (fun p e s m below meth c ls hsz C hP hl => ?_)
  subst hsz
  exact kX0_countLess C σ x1 ls _ _ hl hP va_S.rf hf
set_option maxRecDepth 100000 in
set_option maxHeartbeats 4000000 in
theorem kX0_takeOut_b35 (C : s_X p s m meth c args cX0_takeOut none 3 RX0 G cy sa ad 19) (k35 : Sg → Int32 → Option Sg) (hk35 : ∀ (σ : Sg) (x2 : Int32) (ls : Array Slot) (H : Heap) (locs : List Loc), lv_has ls 3 [(0, .ref (ad 8)), (2, .int x2)] → va_P G vwCl ((s_WC cy ad sh) σ) H → va_S (s_A ad 19 s.heap.size) s.heap H locs → k35 σ x2 = some σe → W p l e ({ frames := 1, cells := 0, slots := 0, locals := 22 } : Room) s m args below meth c H locs 0 0 (MQ below (s_Qv (s_WC cy ad sh) G (s_A ad 19 s.heap.size) σe) args s 0 0 (s_A ad 19 s.heap.size)) (F0 m 35 ls [])) (σ : Sg) (x2 : Int32) (ls : Array Slot) (H : Heap) (locs : List Loc) (hl : lv_has ls 3 [(0, .ref (ad 8)), (2, .int x2)]) (hP : va_P G vwCl ((s_WC cy ad sh) σ) H) (hS : va_S (s_A ad 19 s.heap.size) s.heap H locs) (hf : fX0_takeOut_b35 k35 σ x2 = some σe) : W p l e ({ frames := 1, cells := 0, slots := 0, locals := 22 } : Room) s m args below meth c H locs 0 0 (MQ below (s_Qv (s_WC cy ad sh) G (s_A ad 19 s.heap.size) σe) args s 0 0 (s_A ad 19 s.heap.size)) (F0 m 35 ls []) := by
  obtain ⟨hx, hb, hr, hml, hown, hts, hlk, hK, hE, hI⟩ := id C
  have hD : ∀ σ : Sg, va_D (s_A ad 19 s.heap.size) ((s_WC cy ad sh) σ) := fun σ => s_D (s_WC_ad cy ad sh σ) hI (fun k hk => Or.inl ⟨k, hk, rfl⟩)
  unfold fX0_takeOut_b35 at hf
  refine lv_iload_n hx hb dX0_takeOut_35 rfl (lv_at hl 1 rfl) ?_
  refine lv_aload_n hx hb dX0_takeOut_36 rfl (lv_at hl 0 rfl) ?_
  refine va_get (D := G) (ci := 0) (v := .int (σ 8 2)) (C := RX0) (T := TX0) (N := 3) hx hb hts inkX0 hown hK hP 8 rfl rfl 2 (by decide) (hts _ kw_204) (fun _ h9 => h9) rfl dX0_takeOut_37 ?_
  refine lv_icmp_ge (tgt := 63) hx hb dX0_takeOut_40 (by decide) (fun c1 => ?_) (fun c1 => ?_)
  · rw [if_pos c1] at hf
    have he2 := Option.some.inj hf
    exact W.vret hx hb hr (fun t ht hW => ⟨⟨(), rfl, trivial, s_fin (Wd := (s_WC cy ad sh)) ht he2 hP⟩, hS.F ht⟩) hS.2.2 dX0_takeOut_63 hlk
  · rw [if_neg c1] at hf
    refine lv_aload_n hx hb dX0_takeOut_43 rfl (lv_at hl 0 rfl) ?_
    refine va_get (D := G) (ci := 0) (v := .ref (ad 9)) (C := RX0) (T := TX0) (N := 3) hx hb hts inkX0 hown hK hP 8 rfl rfl 1 (by decide) (hts _ kw_203) (fun _ h9 => h9) rfl dX0_takeOut_44 ?_
    refine lv_iload_n hx hb dX0_takeOut_47 rfl (lv_at hl 1 rfl) ?_
    refine lv_aload_n hx hb dX0_takeOut_48 rfl (lv_at hl 0 rfl) ?_
    refine va_get (D := G) (ci := 0) (v := .ref (ad 9)) (C := RX0) (T := TX0) (N := 3) hx hb hts inkX0 hown hK hP 8 rfl rfl 1 (by decide) (hts _ kw_203) (fun _ h9 => h9) rfl dX0_takeOut_49 ?_
    refine lv_iload_n hx hb dX0_takeOut_52 rfl (lv_at hl 1 rfl) ?_
    refine lv_iconst (v := 1) hx hb dX0_takeOut_53 (by decide) ?_
    refine lv_iadd hx hb dX0_takeOut_54 ?_
    replace hf := s_gd_some hf
    obtain ⟨g2, hf⟩ := hf
    refine va_iald hx hb hK hP 9 1 rfl rfl (s_in_of g2) dX0_takeOut_55 ?_
    replace hf := s_gd_some hf
    obtain ⟨g3, hf⟩ := hf
    refine va_iast hx hb hK hP (hD _) hS 9 1 rfl rfl (s_in_of g3) dX0_takeOut_56 (fun H locs hP _ hS => ?_)
    obtain ⟨σ4, eσ4⟩ : ∃ z : Sg, z = (s_up σ 9 (Int32.toNatClampNeg x2) (σ 9 (Int32.toNatClampNeg (x2 + (1 : Int32))))) := ⟨_, rfl⟩
    replace hf := s_lt_at eσ4 hf
    replace hP : va_P G vwCl ((s_WC cy ad sh) σ4) H := by rw [eσ4]; exact hP
    obtain ⟨t5, et5⟩ : ∃ z : Int32, z = (x2 + 1) := ⟨_, rfl⟩
    replace hf := s_lt_at et5 hf
    refine lv_iinc (v := t5) (lv' := [(2, .int t5), (0, .ref (ad 8))]) hx hb dX0_takeOut_57 hl (k := 1) rfl (by rw [et5]; rfl) (by decide) rfl (fun ls hl => ?_)
    refine lv_goto (tgt := 35) hx hb dX0_takeOut_60 (by decide) ?_
    exact hk35 σ4 t5 _ _ _ (lv_sub hl [1, 0] rfl) hP hS hf
set_option maxRecDepth 100000 in
set_option maxHeartbeats 4000000 in
theorem kX0_takeOut_b35_L (C : s_X p s m meth c args cX0_takeOut none 3 RX0 G cy sa ad 19) : ∀ (n : Nat), ∀ (σ : Sg) (x2 : Int32) (ls : Array Slot) (H : Heap) (locs : List Loc), lv_has ls 3 [(0, .ref (ad 8)), (2, .int x2)] → va_P G vwCl ((s_WC cy ad sh) σ) H → va_S (s_A ad 19 s.heap.size) s.heap H locs → fX0_takeOut_b35_L n σ x2 = some σe → W p l e ({ frames := 1, cells := 0, slots := 0, locals := 22 } : Room) s m args below meth c H locs 0 0 (MQ below (s_Qv (s_WC cy ad sh) G (s_A ad 19 s.heap.size) σe) args s 0 0 (s_A ad 19 s.heap.size)) (F0 m 35 ls []) := by
  intro n
  induction n with
  | zero => intro σ x2 ls H locs hl hP hS hf; exact absurd (show (none : Option Sg) = some σe from hf) (by intro h; cases h)
  | succ n ih => intro σ x2 ls H locs hl hP hS hf; exact kX0_takeOut_b35 C (fX0_takeOut_b35_L n) ih σ x2 ls H locs hl hP hS hf
set_option maxRecDepth 100000 in
set_option maxHeartbeats 4000000 in
theorem kX0_takeOut (C : s_X p s m meth c args cX0_takeOut none 3 RX0 G cy sa ad 19) (σ : Sg) (x1 : Int32) (ls : Array Slot) (H : Heap) (locs : List Loc) (hl : lv_has ls 3 [(0, .ref (ad 8)), (1, .int x1)]) (hP : va_P G vwCl ((s_WC cy ad sh) σ) H) (hS : va_S (s_A ad 19 s.heap.size) s.heap H locs) (hf : fX0_takeOut σ x1 = some σe) : W p l e ({ frames := 1, cells := 0, slots := 0, locals := 22 } : Room) s m args below meth c H locs 0 0 (MQ below (s_Qv (s_WC cy ad sh) G (s_A ad 19 s.heap.size) σe) args s 0 0 (s_A ad 19 s.heap.size)) (F0 m 0 ls []) := by
  obtain ⟨hx, hb, hr, hml, hown, hts, hlk, hK, hE, hI⟩ := id C
  have hD : ∀ σ : Sg, va_D (s_A ad 19 s.heap.size) ((s_WC cy ad sh) σ) := fun σ => s_D (s_WC_ad cy ad sh σ) hI (fun k hk => Or.inl ⟨k, hk, rfl⟩)
  unfold fX0_takeOut at hf
  refine lv_aload_n hx hb dX0_takeOut_0 rfl (lv_at hl 0 rfl) ?_
  refine lv_iload_n hx hb dX0_takeOut_1 rfl (lv_at hl 1 rfl) ?_
  replace hf := s_bi_some hf
  obtain ⟨r3, σ1, hz2, hf⟩ := hf
  refine s_calli (nn := 1) C (kcX0_countLess (l := l) (G := G) (cy := cy) (sa := sa) (sh := sh) hI (sz := H.size) σ x1 hz2) gk_X0_49 rfl rfl (by decide +kernel) ⟨Nat.le_of_ble_eq_true rfl, Nat.le_of_ble_eq_true rfl⟩ hP hS (q0 := 8) (ci := 0) rfl rfl rfl (As := [.int x1]) (rest := []) rfl rfl hl.1 (Nat.le_of_ble_eq_true rfl) dX0_takeOut_2 (fun H locs hP hS => ?_)
  refine lv_istore_n (lv' := [(2, .int r3), (0, .ref (ad 8)), (1, .int x1)]) hx hb dX0_takeOut_5 rfl hl (by decide) rfl (fun ls hl => ?_)
  refine lv_iload_n hx hb dX0_takeOut_6 rfl (lv_at hl 0 rfl) ?_
  refine lv_aload_n hx hb dX0_takeOut_7 rfl (lv_at hl 1 rfl) ?_
  refine va_get (D := G) (ci := 0) (v := .int (σ1 8 2)) (C := RX0) (T := TX0) (N := 3) hx hb hts inkX0 hown hK hP 8 rfl rfl 2 (by decide) (hts _ kw_204) (fun _ h9 => h9) rfl dX0_takeOut_8 ?_
  refine lv_icmp_ge (tgt := 24) hx hb dX0_takeOut_11 (by decide) (fun c4 => ?_) (fun c4 => ?_)
  · rw [if_pos c4] at hf
    have he2 := Option.some.inj hf
    exact W.vret hx hb hr (fun t ht hW => ⟨⟨(), rfl, trivial, s_fin (Wd := (s_WC cy ad sh)) ht he2 hP⟩, hS.F ht⟩) hS.2.2 dX0_takeOut_24 hlk
  · rw [if_neg c4] at hf
    refine lv_aload_n hx hb dX0_takeOut_14 rfl (lv_at hl 1 rfl) ?_
    refine va_get (D := G) (ci := 0) (v := .ref (ad 9)) (C := RX0) (T := TX0) (N := 3) hx hb hts inkX0 hown hK hP 8 rfl rfl 1 (by decide) (hts _ kw_203) (fun _ h9 => h9) rfl dX0_takeOut_15 ?_
    refine lv_iload_n hx hb dX0_takeOut_18 rfl (lv_at hl 0 rfl) ?_
    replace hf := s_gd_some hf
    obtain ⟨g5, hf⟩ := hf
    refine va_iald hx hb hK hP 9 1 rfl rfl (s_in_of g5) dX0_takeOut_19 ?_
    refine lv_iload_n hx hb dX0_takeOut_20 rfl (lv_at hl 2 rfl) ?_
    refine lv_icmp_eq (tgt := 25) hx hb dX0_takeOut_21 (by decide) (fun c6 => ?_) (fun c6 => ?_)
    · rw [if_pos c6] at hf
      refine lv_aload_n hx hb dX0_takeOut_25 rfl (lv_at hl 1 rfl) ?_
      refine lv_dup hx hb dX0_takeOut_26 rfl ?_
      refine va_get (D := G) (ci := 0) (v := .int (σ1 8 2)) (C := RX0) (T := TX0) (N := 3) hx hb hts inkX0 hown hK hP 8 rfl rfl 2 (by decide) (hts _ kw_204) (fun _ h9 => h9) rfl dX0_takeOut_27 ?_
      refine lv_iconst (v := 1) hx hb dX0_takeOut_30 (by decide) ?_
      refine lv_isub hx hb dX0_takeOut_31 ?_
      refine va_put (D := G) (ci := 0) (v := .int ((σ1 8 2) - (1 : Int32))) (ty := .int) (C := RX0) (T := TX0) (N := 3) hx hb hts inkX0 tyX0 tyX0_ok nmX0 hown hK hP (hD _) hS 8 rfl rfl 2 (by decide) (hts _ kw_204) (fun _ h9 => h9) rfl (by decide +kernel) rfl rfl (Nat.le_of_ble_eq_true rfl) dX0_takeOut_32 (fun H locs hP _ hS => ?_)
      obtain ⟨σ7, eσ7⟩ : ∃ z : Sg, z = (s_up σ1 8 2 ((σ1 8 2) - (1 : Int32))) := ⟨_, rfl⟩
      replace hf := s_lt_at eσ7 hf
      replace hP : va_P G vwCl ((s_WC cy ad sh) σ7) H := by rw [eσ7]; exact hP
      exact kX0_takeOut_b35_L C s_fu σ7 r3 _ _ _ (lv_sub hl [1, 0] rfl) hP hS hf
    · rw [if_neg c6] at hf
      have he2 := Option.some.inj hf
      exact W.vret hx hb hr (fun t ht hW => ⟨⟨(), rfl, trivial, s_fin (Wd := (s_WC cy ad sh)) ht he2 hP⟩, hS.F ht⟩) hS.2.2 dX0_takeOut_24 hlk
theorem kcX0_takeOut {l : Launch} {G : va_G} {cy : Nat → ClassId} {sa : Nat × Nat} {ad : Nat → Nat} {sh : Nat → Option Nat} {sz : Nat} (hI : s_inj ad 19) (σ : Sg) (x1 : Int32) {σe : Sg} (hf : fX0_takeOut σ x1 = some σe) : Met l yX0_takeOut (kW yX0_takeOut cX0_takeOut 3 none) ({ frames := 1, cells := 0, slots := 0, locals := 22 } : Room) (s_P (s_WC cy ad sh) G cy sa ad 19 [.ref (ad 8), .int x1] sz σ) (s_Qv (s_WC cy ad sh) G (s_A ad 19 sz) σe) 0 0 (s_A ad 19 sz) := by
  refine s_met (own := RX0) (by decide) rfl hI (Nat.le_of_ble_eq_true rfl) (fun p e s m below meth c ls hsz C hP hl => ?_)
  subst hsz
  exact kX0_takeOut C σ x1 ls _ _ hl hP va_S.rf hf
set_option maxRecDepth 100000 in
set_option maxHeartbeats 4000000 in
theorem kX0_putIn_b60 (C : s_X p s m meth c args cX0_putIn none 3 RX0 G cy sa ad 19) (σ : Sg) (x1 : Int32) (x2 : Int32) (ls : Array Slot) (H : Heap) (locs : List Loc) (hl : lv_has ls 3 [(0, .ref (ad 8)), (1, .int x1), (2, .int x2)]) (hP : va_P G vwCl ((s_WC cy ad sh) σ) H) (hS : va_S (s_A ad 19 s.heap.size) s.heap H locs) (hf : fX0_putIn_b60 σ x1 x2 = some σe) : W p l e ({ frames := 0, cells := 0, slots := 0, locals := 0 } : Room) s m args below meth c H locs 0 0 (MQ below (s_Qv (s_WC cy ad sh) G (s_A ad 19 s.heap.size) σe) args s 0 0 (s_A ad 19 s.heap.size)) (F0 m 60 ls []) := by
  obtain ⟨hx, hb, hr, hml, hown, hts, hlk, hK, hE, hI⟩ := id C
  have hD : ∀ σ : Sg, va_D (s_A ad 19 s.heap.size) ((s_WC cy ad sh) σ) := fun σ => s_D (s_WC_ad cy ad sh σ) hI (fun k hk => Or.inl ⟨k, hk, rfl⟩)
  unfold fX0_putIn_b60 at hf
  refine lv_aload_n hx hb dX0_putIn_60 rfl (lv_at hl 0 rfl) ?_
  refine va_get (D := G) (ci := 0) (v := .ref (ad 9)) (C := RX0) (T := TX0) (N := 3) hx hb hts inkX0 hown hK hP 8 rfl rfl 1 (by decide) (hts _ kw_203) (fun _ h9 => h9) rfl dX0_putIn_61 ?_
  refine lv_iload_n hx hb dX0_putIn_64 rfl (lv_at hl 2 rfl) ?_
  refine lv_iload_n hx hb dX0_putIn_65 rfl (lv_at hl 1 rfl) ?_
  replace hf := s_gd_some hf
  obtain ⟨g1, hf⟩ := hf
  refine va_iast hx hb hK hP (hD _) hS 9 1 rfl rfl (s_in_of g1) dX0_putIn_66 (fun H locs hP _ hS => ?_)
  obtain ⟨σ2, eσ2⟩ : ∃ z : Sg, z = (s_up σ 9 (Int32.toNatClampNeg x2) x1) := ⟨_, rfl⟩
  replace hf := s_lt_at eσ2 hf
  replace hP : va_P G vwCl ((s_WC cy ad sh) σ2) H := by rw [eσ2]; exact hP
  refine lv_aload_n hx hb dX0_putIn_67 rfl (lv_at hl 0 rfl) ?_
  refine lv_dup hx hb dX0_putIn_68 rfl ?_
  refine va_get (D := G) (ci := 0) (v := .int (σ2 8 2)) (C := RX0) (T := TX0) (N := 3) hx hb hts inkX0 hown hK hP 8 rfl rfl 2 (by decide) (hts _ kw_204) (fun _ h9 => h9) rfl dX0_putIn_69 ?_
  refine lv_iconst (v := 1) hx hb dX0_putIn_72 (by decide) ?_
  refine lv_iadd hx hb dX0_putIn_73 ?_
  refine va_put (D := G) (ci := 0) (v := .int ((σ2 8 2) + (1 : Int32))) (ty := .int) (C := RX0) (T := TX0) (N := 3) hx hb hts inkX0 tyX0 tyX0_ok nmX0 hown hK hP (hD _) hS 8 rfl rfl 2 (by decide) (hts _ kw_204) (fun _ h9 => h9) rfl (by decide +kernel) rfl rfl (Nat.le_of_ble_eq_true rfl) dX0_putIn_74 (fun H locs hP _ hS => ?_)
  obtain ⟨σ3, eσ3⟩ : ∃ z : Sg, z = (s_up σ2 8 2 ((σ2 8 2) + (1 : Int32))) := ⟨_, rfl⟩
  replace hf := s_lt_at eσ3 hf
  replace hP : va_P G vwCl ((s_WC cy ad sh) σ3) H := by rw [eσ3]; exact hP
  have he2 := Option.some.inj hf
  exact W.vret hx hb hr (fun t ht hW => ⟨⟨(), rfl, trivial, s_fin (Wd := (s_WC cy ad sh)) ht he2 hP⟩, hS.F ht⟩) hS.2.2 dX0_putIn_77 hlk
set_option maxRecDepth 100000 in
set_option maxHeartbeats 4000000 in
theorem kX0_putIn_b24 (C : s_X p s m meth c args cX0_putIn none 3 RX0 G cy sa ad 19) (k24 : Sg → Int32 → Int32 → Option Sg) (hk24 : ∀ (σ : Sg) (x1 : Int32) (x2 : Int32) (ls : Array Slot) (H : Heap) (locs : List Loc), lv_has ls 3 [(0, .ref (ad 8)), (1, .int x1), (2, .int x2)] → va_P G vwCl ((s_WC cy ad sh) σ) H → va_S (s_A ad 19 s.heap.size) s.heap H locs → k24 σ x1 x2 = some σe → W p l e ({ frames := 0, cells := 0, slots := 0, locals := 0 } : Room) s m args below meth c H locs 0 0 (MQ below (s_Qv (s_WC cy ad sh) G (s_A ad 19 s.heap.size) σe) args s 0 0 (s_A ad 19 s.heap.size)) (F0 m 24 ls [])) (σ : Sg) (x1 : Int32) (x2 : Int32) (ls : Array Slot) (H : Heap) (locs : List Loc) (hl : lv_has ls 3 [(0, .ref (ad 8)), (1, .int x1), (2, .int x2)]) (hP : va_P G vwCl ((s_WC cy ad sh) σ) H) (hS : va_S (s_A ad 19 s.heap.size) s.heap H locs) (hf : fX0_putIn_b24 k24 σ x1 x2 = some σe) : W p l e ({ frames := 0, cells := 0, slots := 0, locals := 0 } : Room) s m args below meth c H locs 0 0 (MQ below (s_Qv (s_WC cy ad sh) G (s_A ad 19 s.heap.size) σe) args s 0 0 (s_A ad 19 s.heap.size)) (F0 m 24 ls []) := by
  obtain ⟨hx, hb, hr, hml, hown, hts, hlk, hK, hE, hI⟩ := id C
  have hD : ∀ σ : Sg, va_D (s_A ad 19 s.heap.size) ((s_WC cy ad sh) σ) := fun σ => s_D (s_WC_ad cy ad sh σ) hI (fun k hk => Or.inl ⟨k, hk, rfl⟩)
  unfold fX0_putIn_b24 at hf
  refine lv_iload_n hx hb dX0_putIn_24 rfl (lv_at hl 2 rfl) ?_
  refine lv_if_le (tgt := 60) hx hb dX0_putIn_25 (by decide) (fun c1 => ?_) (fun c1 => ?_)
  · rw [if_pos c1] at hf
    exact kX0_putIn_b60 C σ x1 x2 _ _ _ (lv_sub hl [0, 1, 2] rfl) hP hS hf
  · rw [if_neg c1] at hf
    refine lv_aload_n hx hb dX0_putIn_28 rfl (lv_at hl 0 rfl) ?_
    refine va_get (D := G) (ci := 0) (v := .ref (ad 9)) (C := RX0) (T := TX0) (N := 3) hx hb hts inkX0 hown hK hP 8 rfl rfl 1 (by decide) (hts _ kw_203) (fun _ h9 => h9) rfl dX0_putIn_29 ?_
    refine lv_iload_n hx hb dX0_putIn_32 rfl (lv_at hl 2 rfl) ?_
    refine lv_iconst (v := 1) hx hb dX0_putIn_33 (by decide) ?_
    refine lv_isub hx hb dX0_putIn_34 ?_
    replace hf := s_gd_some hf
    obtain ⟨g2, hf⟩ := hf
    refine va_iald hx hb hK hP 9 1 rfl rfl (s_in_of g2) dX0_putIn_35 ?_
    refine lv_iload_n hx hb dX0_putIn_36 rfl (lv_at hl 1 rfl) ?_
    refine lv_icmp_le (tgt := 60) hx hb dX0_putIn_37 (by decide) (fun c3 => ?_) (fun c3 => ?_)
    · rw [if_pos c3] at hf
      exact kX0_putIn_b60 C σ x1 x2 _ _ _ (lv_sub hl [0, 1, 2] rfl) hP hS hf
    · rw [if_neg c3] at hf
      refine lv_aload_n hx hb dX0_putIn_40 rfl (lv_at hl 0 rfl) ?_
      refine va_get (D := G) (ci := 0) (v := .ref (ad 9)) (C := RX0) (T := TX0) (N := 3) hx hb hts inkX0 hown hK hP 8 rfl rfl 1 (by decide) (hts _ kw_203) (fun _ h9 => h9) rfl dX0_putIn_41 ?_
      refine lv_iload_n hx hb dX0_putIn_44 rfl (lv_at hl 2 rfl) ?_
      refine lv_aload_n hx hb dX0_putIn_45 rfl (lv_at hl 0 rfl) ?_
      refine va_get (D := G) (ci := 0) (v := .ref (ad 9)) (C := RX0) (T := TX0) (N := 3) hx hb hts inkX0 hown hK hP 8 rfl rfl 1 (by decide) (hts _ kw_203) (fun _ h9 => h9) rfl dX0_putIn_46 ?_
      refine lv_iload_n hx hb dX0_putIn_49 rfl (lv_at hl 2 rfl) ?_
      refine lv_iconst (v := 1) hx hb dX0_putIn_50 (by decide) ?_
      refine lv_isub hx hb dX0_putIn_51 ?_
      replace hf := s_gd_some hf
      obtain ⟨g4, hf⟩ := hf
      refine va_iald hx hb hK hP 9 1 rfl rfl (s_in_of g4) dX0_putIn_52 ?_
      replace hf := s_gd_some hf
      obtain ⟨g5, hf⟩ := hf
      refine va_iast hx hb hK hP (hD _) hS 9 1 rfl rfl (s_in_of g5) dX0_putIn_53 (fun H locs hP _ hS => ?_)
      obtain ⟨σ6, eσ6⟩ : ∃ z : Sg, z = (s_up σ 9 (Int32.toNatClampNeg x2) (σ 9 (Int32.toNatClampNeg (x2 - (1 : Int32))))) := ⟨_, rfl⟩
      replace hf := s_lt_at eσ6 hf
      replace hP : va_P G vwCl ((s_WC cy ad sh) σ6) H := by rw [eσ6]; exact hP
      obtain ⟨t7, et7⟩ : ∃ z : Int32, z = (x2 + (-1)) := ⟨_, rfl⟩
      replace hf := s_lt_at et7 hf
      refine lv_iinc (v := t7) (lv' := [(2, .int t7), (0, .ref (ad 8)), (1, .int x1)]) hx hb dX0_putIn_54 hl (k := 2) rfl (by rw [et7]; rfl) (by decide) rfl (fun ls hl => ?_)
      refine lv_goto (tgt := 24) hx hb dX0_putIn_57 (by decide) ?_
      exact hk24 σ6 x1 t7 _ _ _ (lv_sub hl [1, 2, 0] rfl) hP hS hf
set_option maxRecDepth 100000 in
set_option maxHeartbeats 4000000 in
theorem kX0_putIn_b24_L (C : s_X p s m meth c args cX0_putIn none 3 RX0 G cy sa ad 19) : ∀ (n : Nat), ∀ (σ : Sg) (x1 : Int32) (x2 : Int32) (ls : Array Slot) (H : Heap) (locs : List Loc), lv_has ls 3 [(0, .ref (ad 8)), (1, .int x1), (2, .int x2)] → va_P G vwCl ((s_WC cy ad sh) σ) H → va_S (s_A ad 19 s.heap.size) s.heap H locs → fX0_putIn_b24_L n σ x1 x2 = some σe → W p l e ({ frames := 0, cells := 0, slots := 0, locals := 0 } : Room) s m args below meth c H locs 0 0 (MQ below (s_Qv (s_WC cy ad sh) G (s_A ad 19 s.heap.size) σe) args s 0 0 (s_A ad 19 s.heap.size)) (F0 m 24 ls []) := by
  intro n
  induction n with
  | zero => intro σ x1 x2 ls H locs hl hP hS hf; exact absurd (show (none : Option Sg) = some σe from hf) (by intro h; cases h)
  | succ n ih => intro σ x1 x2 ls H locs hl hP hS hf; exact kX0_putIn_b24 C (fX0_putIn_b24_L n) ih σ x1 x2 ls H locs hl hP hS hf
set_option maxRecDepth 100000 in
set_option maxHeartbeats 4000000 in
theorem kX0_putIn (C : s_X p s m meth c args cX0_putIn none 3 RX0 G cy sa ad 19) (σ : Sg) (x1 : Int32) (ls : Array Slot) (H : Heap) (locs : List Loc) (hl : lv_has ls 3 [(0, .ref (ad 8)), (1, .int x1)]) (hP : va_P G vwCl ((s_WC cy ad sh) σ) H) (hS : va_S (s_A ad 19 s.heap.size) s.heap H locs) (hf : fX0_putIn σ x1 = some σe) : W p l e ({ frames := 0, cells := 0, slots := 0, locals := 0 } : Room) s m args below meth c H locs 0 0 (MQ below (s_Qv (s_WC cy ad sh) G (s_A ad 19 s.heap.size) σe) args s 0 0 (s_A ad 19 s.heap.size)) (F0 m 0 ls []) := by
  obtain ⟨hx, hb, hr, hml, hown, hts, hlk, hK, hE, hI⟩ := id C
  have hD : ∀ σ : Sg, va_D (s_A ad 19 s.heap.size) ((s_WC cy ad sh) σ) := fun σ => s_D (s_WC_ad cy ad sh σ) hI (fun k hk => Or.inl ⟨k, hk, rfl⟩)
  unfold fX0_putIn at hf
  refine lv_iload_n hx hb dX0_putIn_0 rfl (lv_at hl 1 rfl) ?_
  refine lv_ldc (v := 100000000) hx hb hown (hts _ kw_465) dX0_putIn_1 ?_
  refine lv_icmp_eq (tgt := 18) hx hb dX0_putIn_3 (by decide) (fun c1 => ?_) (fun c1 => ?_)
  · rw [if_pos c1] at hf
    have he2 := Option.some.inj hf
    exact W.vret hx hb hr (fun t ht hW => ⟨⟨(), rfl, trivial, s_fin (Wd := (s_WC cy ad sh)) ht he2 hP⟩, hS.F ht⟩) hS.2.2 dX0_putIn_18 hlk
  · rw [if_neg c1] at hf
    refine lv_aload_n hx hb dX0_putIn_6 rfl (lv_at hl 0 rfl) ?_
    refine va_get (D := G) (ci := 0) (v := .int (σ 8 2)) (C := RX0) (T := TX0) (N := 3) hx hb hts inkX0 hown hK hP 8 rfl rfl 2 (by decide) (hts _ kw_204) (fun _ h9 => h9) rfl dX0_putIn_7 ?_
    refine lv_aload_n hx hb dX0_putIn_10 rfl (lv_at hl 0 rfl) ?_
    refine va_get (D := G) (ci := 0) (v := .ref (ad 9)) (C := RX0) (T := TX0) (N := 3) hx hb hts inkX0 hown hK hP 8 rfl rfl 1 (by decide) (hts _ kw_203) (fun _ h9 => h9) rfl dX0_putIn_11 ?_
    refine va_alen (v := (24 : Int32)) hx hb hK hP 9 1 rfl rfl (by show Int32.ofNat 24 = 24; decide) dX0_putIn_14 ?_
    refine lv_icmp_lt (tgt := 19) hx hb dX0_putIn_15 (by decide) (fun c2 => ?_) (fun c2 => ?_)
    · rw [if_pos c2] at hf
      refine lv_aload_n hx hb dX0_putIn_19 rfl (lv_at hl 0 rfl) ?_
      refine va_get (D := G) (ci := 0) (v := .int (σ 8 2)) (C := RX0) (T := TX0) (N := 3) hx hb hts inkX0 hown hK hP 8 rfl rfl 2 (by decide) (hts _ kw_204) (fun _ h9 => h9) rfl dX0_putIn_20 ?_
      refine lv_topi (fun t3 et3 => ?_)
      replace hf := s_lt_at et3 hf
      refine lv_istore_n (lv' := [(2, .int t3), (0, .ref (ad 8)), (1, .int x1)]) hx hb dX0_putIn_23 rfl hl (by decide) rfl (fun ls hl => ?_)
      exact kX0_putIn_b24_L C s_fu σ x1 t3 _ _ _ (lv_sub hl [1, 2, 0] rfl) hP hS hf
    · rw [if_neg c2] at hf
      have he2 := Option.some.inj hf
      exact W.vret hx hb hr (fun t ht hW => ⟨⟨(), rfl, trivial, s_fin (Wd := (s_WC cy ad sh)) ht he2 hP⟩, hS.F ht⟩) hS.2.2 dX0_putIn_18 hlk
theorem kcX0_putIn {l : Launch} {G : va_G} {cy : Nat → ClassId} {sa : Nat × Nat} {ad : Nat → Nat} {sh : Nat → Option Nat} {sz : Nat} (hI : s_inj ad 19) (σ : Sg) (x1 : Int32) {σe : Sg} (hf : fX0_putIn σ x1 = some σe) : Met l yX0_putIn (kW yX0_putIn cX0_putIn 3 none) ({ frames := 0, cells := 0, slots := 0, locals := 0 } : Room) (s_P (s_WC cy ad sh) G cy sa ad 19 [.ref (ad 8), .int x1] sz σ) (s_Qv (s_WC cy ad sh) G (s_A ad 19 sz) σe) 0 0 (s_A ad 19 sz) := by
  refine s_met (own := RX0) (by decide) rfl hI (Nat.le_of_ble_eq_true rfl) (fun p e s m below meth c ls hsz C hP hl => ?_)
  subst hsz
  exact kX0_putIn C σ x1 ls _ _ hl hP va_S.rf hf
set_option maxRecDepth 100000 in
set_option maxHeartbeats 4000000 in
theorem kX0_slideTo (C : s_X p s m meth c args cX0_slideTo none 2 RX0 G cy sa ad 19) (σ : Sg) (x1 : Int32) (ls : Array Slot) (H : Heap) (locs : List Loc) (hl : lv_has ls 2 [(0, .ref (ad 8)), (1, .int x1)]) (hP : va_P G vwCl ((s_WC cy ad sh) σ) H) (hS : va_S (s_A ad 19 s.heap.size) s.heap H locs) (hf : fX0_slideTo σ x1 = some σe) : W p l e ({ frames := 2, cells := 0, slots := 0, locals := 44 } : Room) s m args below meth c H locs 0 0 (MQ below (s_Qv (s_WC cy ad sh) G (s_A ad 19 s.heap.size) σe) args s 0 0 (s_A ad 19 s.heap.size)) (F0 m 0 ls []) := by
  obtain ⟨hx, hb, hr, hml, hown, hts, hlk, hK, hE, hI⟩ := id C
  have hD : ∀ σ : Sg, va_D (s_A ad 19 s.heap.size) ((s_WC cy ad sh) σ) := fun σ => s_D (s_WC_ad cy ad sh σ) hI (fun k hk => Or.inl ⟨k, hk, rfl⟩)
  unfold fX0_slideTo at hf
  refine lv_aload_n hx hb dX0_slideTo_0 rfl (lv_at hl 0 rfl) ?_
  refine lv_aload_n hx hb dX0_slideTo_1 rfl (lv_at hl 0 rfl) ?_
  refine va_get (D := G) (ci := 0) (v := .ref (ad 6)) (C := RX0) (T := TX0) (N := 3) hx hb hts inkX0 hown hK hP 8 rfl rfl 0 (by decide) (hts _ kw_202) (fun _ h9 => h9) rfl dX0_slideTo_2 ?_
  refine lv_iload_n hx hb dX0_slideTo_5 rfl (lv_at hl 1 rfl) ?_
  refine lv_aload_n hx hb dX0_slideTo_6 rfl (lv_at hl 0 rfl) ?_
  refine va_get (D := G) (ci := 0) (v := .ref (ad 6)) (C := RX0) (T := TX0) (N := 3) hx hb hts inkX0 hown hK hP 8 rfl rfl 0 (by decide) (hts _ kw_202) (fun _ h9 => h9) rfl dX0_slideTo_7 ?_
  refine va_getN (D := G) (ci := 1) (v := .int (σ 6 2)) (C := RX1) (T := TX1) (N := 8) hx hb hts inkX1 hown hK hP 6 rfl rfl 2 (by decide) (kn_X0_26 hE) (fun _ h9 => h9) rfl dX0_slideTo_10 ?_
  refine lv_isub hx hb dX0_slideTo_13 ?_
  replace hf := s_bi_some hf
  obtain ⟨r3, σ1, hz2, hf⟩ := hf
  refine s_calli (nn := 1) C (kcX1_valueAt_6 (l := l) (G := G) (cy := cy) (sa := sa) (sh := sh) hI (sz := H.size) σ (x1 - (σ 6 2)) hz2) gk_X0_37 rfl rfl (by decide +kernel) ⟨Nat.le_of_ble_eq_true rfl, Nat.le_of_ble_eq_true rfl⟩ hP hS (q0 := 6) (ci := 1) rfl rfl rfl (As := [.int (x1 - (σ 6 2))]) (rest := [.ref (ad 8)]) rfl rfl hl.1 (Nat.le_of_ble_eq_true rfl) dX0_slideTo_14 (fun H locs hP hS => ?_)
  replace hf := s_bv_some hf
  obtain ⟨σ4, hz5, hf⟩ := hf
  refine s_callv (nn := 1) C (kcX0_takeOut (l := l) (G := G) (cy := cy) (sa := sa) (sh := sh) hI (sz := H.size) σ1 r3 hz5) gk_X0_45 rfl rfl (by decide +kernel) ⟨Nat.le_of_ble_eq_true rfl, Nat.le_of_ble_eq_true rfl⟩ hP hS (q0 := 8) (ci := 0) rfl rfl rfl (As := [.int r3]) (rest := []) rfl rfl hl.1 (Nat.le_of_ble_eq_true rfl) dX0_slideTo_17 (fun H locs hP hS => ?_)
  refine lv_aload_n hx hb dX0_slideTo_20 rfl (lv_at hl 0 rfl) ?_
  refine lv_aload_n hx hb dX0_slideTo_21 rfl (lv_at hl 0 rfl) ?_
  refine va_get (D := G) (ci := 0) (v := .ref (ad 6)) (C := RX0) (T := TX0) (N := 3) hx hb hts inkX0 hown hK hP 8 rfl rfl 0 (by decide) (hts _ kw_202) (fun _ h9 => h9) rfl dX0_slideTo_22 ?_
  refine lv_iload_n hx hb dX0_slideTo_25 rfl (lv_at hl 1 rfl) ?_
  replace hf := s_bi_some hf
  obtain ⟨r8, σ6, hz7, hf⟩ := hf
  refine s_calli (nn := 1) C (kcX1_valueAt_6 (l := l) (G := G) (cy := cy) (sa := sa) (sh := sh) hI (sz := H.size) σ4 x1 hz7) gk_X0_37 rfl rfl (by decide +kernel) ⟨Nat.le_of_ble_eq_true rfl, Nat.le_of_ble_eq_true rfl⟩ hP hS (q0 := 6) (ci := 1) rfl rfl rfl (As := [.int x1]) (rest := [.ref (ad 8)]) rfl rfl hl.1 (Nat.le_of_ble_eq_true rfl) dX0_slideTo_26 (fun H locs hP hS => ?_)
  replace hf := s_bv_some hf
  obtain ⟨σ9, hz10, hf⟩ := hf
  refine s_callv (nn := 1) C (kcX0_putIn (l := l) (G := G) (cy := cy) (sa := sa) (sh := sh) hI (sz := H.size) σ6 r8 hz10) gk_X0_41 rfl rfl (by decide +kernel) ⟨Nat.le_of_ble_eq_true rfl, Nat.le_of_ble_eq_true rfl⟩ hP hS (q0 := 8) (ci := 0) rfl rfl rfl (As := [.int r8]) (rest := []) rfl rfl hl.1 (Nat.le_of_ble_eq_true rfl) dX0_slideTo_29 (fun H locs hP hS => ?_)
  have he2 := Option.some.inj hf
  exact W.vret hx hb hr (fun t ht hW => ⟨⟨(), rfl, trivial, s_fin (Wd := (s_WC cy ad sh)) ht he2 hP⟩, hS.F ht⟩) hS.2.2 dX0_slideTo_32 hlk
theorem kcX0_slideTo {l : Launch} {G : va_G} {cy : Nat → ClassId} {sa : Nat × Nat} {ad : Nat → Nat} {sh : Nat → Option Nat} {sz : Nat} (hI : s_inj ad 19) (σ : Sg) (x1 : Int32) {σe : Sg} (hf : fX0_slideTo σ x1 = some σe) : Met l yX0_slideTo (kW yX0_slideTo cX0_slideTo 2 none) ({ frames := 2, cells := 0, slots := 0, locals := 44 } : Room) (s_P (s_WC cy ad sh) G cy sa ad 19 [.ref (ad 8), .int x1] sz σ) (s_Qv (s_WC cy ad sh) G (s_A ad 19 sz) σe) 0 0 (s_A ad 19 sz) := by
  refine s_met (own := RX0) (by decide) rfl hI (Nat.le_of_ble_eq_true rfl) (fun p e s m below meth c ls hsz C hP hl => ?_)
  subst hsz
  exact kX0_slideTo C σ x1 ls _ _ hl hP va_S.rf hf
set_option maxRecDepth 100000 in
set_option maxHeartbeats 4000000 in
theorem kX0_hasResult_b25 (C : s_X p s m meth c args cX0_hasResult (some .boolean) 1 RX0 G cy sa ad 19) (σ : Sg) (ls : Array Slot) (H : Heap) (locs : List Loc) (hl : lv_has ls 1 []) (hP : va_P G vwCl ((s_WC cy ad sh) σ) H) (hS : va_S (s_A ad 19 s.heap.size) s.heap H locs) (hf : fX0_hasResult_b25 σ = some (re, σe)) : W p l e ({ frames := 0, cells := 0, slots := 0, locals := 0 } : Room) s m args below meth c H locs 0 0 (MQ below (s_Qi (s_WC cy ad sh) G (s_A ad 19 s.heap.size) re σe) args s 0 0 (s_A ad 19 s.heap.size)) (F0 m 25 ls []) := by
  obtain ⟨hx, hb, hr, hml, hown, hts, hlk, hK, hE, hI⟩ := id C
  have hD : ∀ σ : Sg, va_D (s_A ad 19 s.heap.size) ((s_WC cy ad sh) σ) := fun σ => s_D (s_WC_ad cy ad sh σ) hI (fun k hk => Or.inl ⟨k, hk, rfl⟩)
  unfold fX0_hasResult_b25 at hf
  refine lv_iconst (v := 0) hx hb dX0_hasResult_25 (by decide) ?_
  obtain ⟨he1, he2⟩ := s_ret hf
  exact W.zret hx hb hr rfl (fun t ht hW => ⟨⟨_, (), rfl, he1, s_fin (Wd := (s_WC cy ad sh)) ht he2 hP⟩, hS.F ht⟩) hS.2.2 dX0_hasResult_26 hlk
set_option maxRecDepth 100000 in
set_option maxHeartbeats 4000000 in
theorem kX0_hasResult (C : s_X p s m meth c args cX0_hasResult (some .boolean) 1 RX0 G cy sa ad 19) (σ : Sg) (ls : Array Slot) (H : Heap) (locs : List Loc) (hl : lv_has ls 1 [(0, .ref (ad 8))]) (hP : va_P G vwCl ((s_WC cy ad sh) σ) H) (hS : va_S (s_A ad 19 s.heap.size) s.heap H locs) (hf : fX0_hasResult σ = some (re, σe)) : W p l e ({ frames := 0, cells := 0, slots := 0, locals := 0 } : Room) s m args below meth c H locs 0 0 (MQ below (s_Qi (s_WC cy ad sh) G (s_A ad 19 s.heap.size) re σe) args s 0 0 (s_A ad 19 s.heap.size)) (F0 m 0 ls []) := by
  obtain ⟨hx, hb, hr, hml, hown, hts, hlk, hK, hE, hI⟩ := id C
  have hD : ∀ σ : Sg, va_D (s_A ad 19 s.heap.size) ((s_WC cy ad sh) σ) := fun σ => s_D (s_WC_ad cy ad sh σ) hI (fun k hk => Or.inl ⟨k, hk, rfl⟩)
  unfold fX0_hasResult at hf
  refine lv_aload_n hx hb dX0_hasResult_0 rfl (lv_at hl 0 rfl) ?_
  refine va_get (D := G) (ci := 0) (v := .int (σ 8 2)) (C := RX0) (T := TX0) (N := 3) hx hb hts inkX0 hown hK hP 8 rfl rfl 2 (by decide) (hts _ kw_204) (fun _ h9 => h9) rfl dX0_hasResult_1 ?_
  refine lv_if_le (tgt := 25) hx hb dX0_hasResult_4 (by decide) (fun c1 => ?_) (fun c1 => ?_)
  · rw [if_pos c1] at hf
    exact kX0_hasResult_b25 C σ _ _ _ (lv_sub hl [] rfl) hP hS hf
  · rw [if_neg c1] at hf
    refine lv_aload_n hx hb dX0_hasResult_7 rfl (lv_at hl 0 rfl) ?_
    refine va_get (D := G) (ci := 0) (v := .int (σ 8 2)) (C := RX0) (T := TX0) (N := 3) hx hb hts inkX0 hown hK hP 8 rfl rfl 2 (by decide) (hts _ kw_204) (fun _ h9 => h9) rfl dX0_hasResult_8 ?_
    refine lv_aload_n hx hb dX0_hasResult_11 rfl (lv_at hl 0 rfl) ?_
    refine va_get (D := G) (ci := 0) (v := .ref (ad 6)) (C := RX0) (T := TX0) (N := 3) hx hb hts inkX0 hown hK hP 8 rfl rfl 0 (by decide) (hts _ kw_202) (fun _ h9 => h9) rfl dX0_hasResult_12 ?_
    refine va_getN (D := G) (ci := 1) (v := .int (σ 6 3)) (C := RX1) (T := TX1) (N := 8) hx hb hts inkX1 hown hK hP 6 rfl rfl 3 (by decide) (kn_X0_52 hE) (fun _ h9 => h9) rfl dX0_hasResult_15 ?_
    refine lv_icmp_lt (tgt := 25) hx hb dX0_hasResult_18 (by decide) (fun c2 => ?_) (fun c2 => ?_)
    · rw [if_pos c2] at hf
      exact kX0_hasResult_b25 C σ _ _ _ (lv_sub hl [] rfl) hP hS hf
    · rw [if_neg c2] at hf
      refine lv_iconst (v := 1) hx hb dX0_hasResult_21 (by decide) ?_
      refine lv_goto (tgt := 26) hx hb dX0_hasResult_22 (by decide) ?_
      obtain ⟨he1, he2⟩ := s_ret hf
      exact W.zret hx hb hr rfl (fun t ht hW => ⟨⟨_, (), rfl, he1, s_fin (Wd := (s_WC cy ad sh)) ht he2 hP⟩, hS.F ht⟩) hS.2.2 dX0_hasResult_26 hlk
theorem kcX0_hasResult {l : Launch} {G : va_G} {cy : Nat → ClassId} {sa : Nat × Nat} {ad : Nat → Nat} {sh : Nat → Option Nat} {sz : Nat} (hI : s_inj ad 19) (σ : Sg) {re : Int32} {σe : Sg} (hf : fX0_hasResult σ = some (re, σe)) : Met l yX0_hasResult (kW yX0_hasResult cX0_hasResult 1 (some .boolean)) ({ frames := 0, cells := 0, slots := 0, locals := 0 } : Room) (s_P (s_WC cy ad sh) G cy sa ad 19 [.ref (ad 8)] sz σ) (s_Qi (s_WC cy ad sh) G (s_A ad 19 sz) re σe) 0 0 (s_A ad 19 sz) := by
  refine s_met (own := RX0) (by decide) rfl hI (Nat.le_of_ble_eq_true rfl) (fun p e s m below meth c ls hsz C hP hl => ?_)
  subst hsz
  exact kX0_hasResult C σ ls _ _ hl hP va_S.rf hf
set_option maxRecDepth 100000 in
set_option maxHeartbeats 4000000 in
theorem kX6_countResults_b43 (C : s_X p s m meth c args cX6_countResults (some .int) 3 RX6 G cy sa ad 19) (k11 : Sg → Int32 → Int32 → Option (Int32 × Sg)) (hk11 : ∀ (σ : Sg) (x1 : Int32) (x2 : Int32) (ls : Array Slot) (H : Heap) (locs : List Loc), lv_has ls 3 [(0, .ref (ad 0)), (1, .int x1), (2, .int x2)] → va_P G vwCl ((s_WC cy ad sh) σ) H → va_S (s_A ad 19 s.heap.size) s.heap H locs → k11 σ x1 x2 = some (re, σe) → W p l e ({ frames := 3, cells := 0, slots := 0, locals := 65 } : Room) s m args below meth c H locs 0 0 (MQ below (s_Qi (s_WC cy ad sh) G (s_A ad 19 s.heap.size) re σe) args s 0 0 (s_A ad 19 s.heap.size)) (F0 m 11 ls [])) (σ : Sg) (x1 : Int32) (x2 : Int32) (ls : Array Slot) (H : Heap) (locs : List Loc) (hl : lv_has ls 3 [(0, .ref (ad 0)), (1, .int x1), (2, .int x2)]) (hP : va_P G vwCl ((s_WC cy ad sh) σ) H) (hS : va_S (s_A ad 19 s.heap.size) s.heap H locs) (hf : fX6_countResults_b43 k11 σ x1 x2 = some (re, σe)) : W p l e ({ frames := 3, cells := 0, slots := 0, locals := 65 } : Room) s m args below meth c H locs 0 0 (MQ below (s_Qi (s_WC cy ad sh) G (s_A ad 19 s.heap.size) re σe) args s 0 0 (s_A ad 19 s.heap.size)) (F0 m 43 ls []) := by
  obtain ⟨hx, hb, hr, hml, hown, hts, hlk, hK, hE, hI⟩ := id C
  have hD : ∀ σ : Sg, va_D (s_A ad 19 s.heap.size) ((s_WC cy ad sh) σ) := fun σ => s_D (s_WC_ad cy ad sh σ) hI (fun k hk => Or.inl ⟨k, hk, rfl⟩)
  unfold fX6_countResults_b43 at hf
  obtain ⟨t1, et1⟩ : ∃ z : Int32, z = (x2 + 1) := ⟨_, rfl⟩
  replace hf := s_lt_at et1 hf
  refine lv_iinc (v := t1) (lv' := [(2, .int t1), (0, .ref (ad 0)), (1, .int x1)]) hx hb dX6_countResults_43 hl (k := 2) rfl (by rw [et1]; rfl) (by decide) rfl (fun ls hl => ?_)
  refine lv_goto (tgt := 11) hx hb dX6_countResults_46 (by decide) ?_
  exact hk11 σ x1 t1 _ _ _ (lv_sub hl [1, 2, 0] rfl) hP hS hf
set_option maxRecDepth 100000 in
set_option maxHeartbeats 4000000 in
theorem kX6_countResults_b11 (C : s_X p s m meth c args cX6_countResults (some .int) 3 RX6 G cy sa ad 19) (k11 : Sg → Int32 → Int32 → Option (Int32 × Sg)) (hk11 : ∀ (σ : Sg) (x1 : Int32) (x2 : Int32) (ls : Array Slot) (H : Heap) (locs : List Loc), lv_has ls 3 [(0, .ref (ad 0)), (1, .int x1), (2, .int x2)] → va_P G vwCl ((s_WC cy ad sh) σ) H → va_S (s_A ad 19 s.heap.size) s.heap H locs → k11 σ x1 x2 = some (re, σe) → W p l e ({ frames := 3, cells := 0, slots := 0, locals := 65 } : Room) s m args below meth c H locs 0 0 (MQ below (s_Qi (s_WC cy ad sh) G (s_A ad 19 s.heap.size) re σe) args s 0 0 (s_A ad 19 s.heap.size)) (F0 m 11 ls [])) (σ : Sg) (x1 : Int32) (x2 : Int32) (ls : Array Slot) (H : Heap) (locs : List Loc) (hl : lv_has ls 3 [(0, .ref (ad 0)), (1, .int x1), (2, .int x2)]) (hP : va_P G vwCl ((s_WC cy ad sh) σ) H) (hS : va_S (s_A ad 19 s.heap.size) s.heap H locs) (hf : fX6_countResults_b11 k11 σ x1 x2 = some (re, σe)) : W p l e ({ frames := 3, cells := 0, slots := 0, locals := 65 } : Room) s m args below meth c H locs 0 0 (MQ below (s_Qi (s_WC cy ad sh) G (s_A ad 19 s.heap.size) re σe) args s 0 0 (s_A ad 19 s.heap.size)) (F0 m 11 ls []) := by
  obtain ⟨hx, hb, hr, hml, hown, hts, hlk, hK, hE, hI⟩ := id C
  have hD : ∀ σ : Sg, va_D (s_A ad 19 s.heap.size) ((s_WC cy ad sh) σ) := fun σ => s_D (s_WC_ad cy ad sh σ) hI (fun k hk => Or.inl ⟨k, hk, rfl⟩)
  unfold fX6_countResults_b11 at hf
  refine lv_iload_n hx hb dX6_countResults_11 rfl (lv_at hl 2 rfl) ?_
  refine lv_aload_n hx hb dX6_countResults_12 rfl (lv_at hl 0 rfl) ?_
  refine va_get (D := G) (ci := 6) (v := .ref (ad 6)) (C := RX6) (T := TX6) (N := 9) hx hb hts inkX6 hown hK hP 0 rfl rfl 2 (by decide) (hts _ kw_232) (fun _ h9 => h9) rfl dX6_countResults_13 ?_
  refine va_getN (D := G) (ci := 1) (v := .int (σ 6 1)) (C := RX1) (T := TX1) (N := 8) hx hb hts inkX1 hown hK hP 6 rfl rfl 1 (by decide) (kn_X6_88 hE) (fun _ h9 => h9) rfl dX6_countResults_16 ?_
  refine lv_icmp_ge (tgt := 49) hx hb dX6_countResults_19 (by decide) (fun c1 => ?_) (fun c1 => ?_)
  · rw [if_pos c1] at hf
    refine lv_iload_n hx hb dX6_countResults_49 rfl (lv_at hl 1 rfl) ?_
    obtain ⟨he1, he2⟩ := s_ret hf
    exact W.iret hx hb hr (fun t ht hW => ⟨⟨_, (), rfl, he1, s_fin (Wd := (s_WC cy ad sh)) ht he2 hP⟩, hS.F ht⟩) hS.2.2 dX6_countResults_50 hlk
  · rw [if_neg c1] at hf
    refine lv_aload_n hx hb dX6_countResults_22 rfl (lv_at hl 0 rfl) ?_
    refine va_get (D := G) (ci := 6) (v := .ref (ad 8)) (C := RX6) (T := TX6) (N := 9) hx hb hts inkX6 hown hK hP 0 rfl rfl 3 (by decide) (hts _ kw_233) (fun _ h9 => h9) rfl dX6_countResults_23 ?_
    refine lv_iload_n hx hb dX6_countResults_26 rfl (lv_at hl 2 rfl) ?_
    replace hf := s_bv_some hf
    obtain ⟨σ2, hz3, hf⟩ := hf
    refine s_callv (nn := 1) C (kcX0_slideTo (l := l) (G := G) (cy := cy) (sa := sa) (sh := sh) hI (sz := H.size) σ x2 hz3) gk_X6_184 rfl rfl (by decide +kernel) ⟨Nat.le_of_ble_eq_true rfl, Nat.le_of_ble_eq_true rfl⟩ hP hS (q0 := 8) (ci := 0) rfl rfl rfl (As := [.int x2]) (rest := []) rfl rfl hl.1 (Nat.le_of_ble_eq_true rfl) dX6_countResults_27 (fun H locs hP hS => ?_)
    refine lv_aload_n hx hb dX6_countResults_30 rfl (lv_at hl 0 rfl) ?_
    refine va_get (D := G) (ci := 6) (v := .ref (ad 8)) (C := RX6) (T := TX6) (N := 9) hx hb hts inkX6 hown hK hP 0 rfl rfl 3 (by decide) (hts _ kw_233) (fun _ h9 => h9) rfl dX6_countResults_31 ?_
    replace hf := s_bi_some hf
    obtain ⟨r6, σ4, hz5, hf⟩ := hf
    refine s_calli (nn := 0) C (kcX0_hasResult (l := l) (G := G) (cy := cy) (sa := sa) (sh := sh) hI (sz := H.size) σ2 hz5) gk_X6_133 rfl rfl (by decide +kernel) ⟨Nat.le_of_ble_eq_true rfl, Nat.le_of_ble_eq_true rfl⟩ hP hS (q0 := 8) (ci := 0) rfl rfl rfl (As := []) (rest := []) rfl rfl hl.1 (Nat.le_of_ble_eq_true rfl) dX6_countResults_34 (fun H locs hP hS => ?_)
    refine lv_if_eq (tgt := 43) hx hb dX6_countResults_37 (by decide) (fun c7 => ?_) (fun c7 => ?_)
    · rw [if_pos c7] at hf
      exact kX6_countResults_b43 C k11 hk11 σ4 x1 x2 _ _ _ (lv_sub hl [0, 1, 2] rfl) hP hS hf
    · rw [if_neg c7] at hf
      obtain ⟨t8, et8⟩ : ∃ z : Int32, z = (x1 + 1) := ⟨_, rfl⟩
      replace hf := s_lt_at et8 hf
      refine lv_iinc (v := t8) (lv' := [(1, .int t8), (0, .ref (ad 0)), (2, .int x2)]) hx hb dX6_countResults_40 hl (k := 1) rfl (by rw [et8]; rfl) (by decide) rfl (fun ls hl => ?_)
      exact kX6_countResults_b43 C k11 hk11 σ4 t8 x2 _ _ _ (lv_sub hl [1, 0, 2] rfl) hP hS hf
set_option maxRecDepth 100000 in
set_option maxHeartbeats 4000000 in
theorem kX6_countResults_b11_L (C : s_X p s m meth c args cX6_countResults (some .int) 3 RX6 G cy sa ad 19) : ∀ (n : Nat), ∀ (σ : Sg) (x1 : Int32) (x2 : Int32) (ls : Array Slot) (H : Heap) (locs : List Loc), lv_has ls 3 [(0, .ref (ad 0)), (1, .int x1), (2, .int x2)] → va_P G vwCl ((s_WC cy ad sh) σ) H → va_S (s_A ad 19 s.heap.size) s.heap H locs → fX6_countResults_b11_L n σ x1 x2 = some (re, σe) → W p l e ({ frames := 3, cells := 0, slots := 0, locals := 65 } : Room) s m args below meth c H locs 0 0 (MQ below (s_Qi (s_WC cy ad sh) G (s_A ad 19 s.heap.size) re σe) args s 0 0 (s_A ad 19 s.heap.size)) (F0 m 11 ls []) := by
  intro n
  induction n with
  | zero => intro σ x1 x2 ls H locs hl hP hS hf; exact absurd (show (none : Option (Int32 × Sg)) = some (re, σe) from hf) (by intro h; cases h)
  | succ n ih => intro σ x1 x2 ls H locs hl hP hS hf; exact kX6_countResults_b11 C (fX6_countResults_b11_L n) ih σ x1 x2 ls H locs hl hP hS hf
set_option maxRecDepth 100000 in
set_option maxHeartbeats 4000000 in
theorem kX6_countResults (C : s_X p s m meth c args cX6_countResults (some .int) 3 RX6 G cy sa ad 19) (σ : Sg) (ls : Array Slot) (H : Heap) (locs : List Loc) (hl : lv_has ls 3 [(0, .ref (ad 0))]) (hP : va_P G vwCl ((s_WC cy ad sh) σ) H) (hS : va_S (s_A ad 19 s.heap.size) s.heap H locs) (hf : fX6_countResults σ = some (re, σe)) : W p l e ({ frames := 3, cells := 0, slots := 0, locals := 65 } : Room) s m args below meth c H locs 0 0 (MQ below (s_Qi (s_WC cy ad sh) G (s_A ad 19 s.heap.size) re σe) args s 0 0 (s_A ad 19 s.heap.size)) (F0 m 0 ls []) := by
  obtain ⟨hx, hb, hr, hml, hown, hts, hlk, hK, hE, hI⟩ := id C
  have hD : ∀ σ : Sg, va_D (s_A ad 19 s.heap.size) ((s_WC cy ad sh) σ) := fun σ => s_D (s_WC_ad cy ad sh σ) hI (fun k hk => Or.inl ⟨k, hk, rfl⟩)
  unfold fX6_countResults at hf
  refine lv_iconst (v := 0) hx hb dX6_countResults_0 (by decide) ?_
  refine lv_istore_n (lv' := [(1, .int (0 : Int32)), (0, .ref (ad 0))]) hx hb dX6_countResults_1 rfl hl (by decide) rfl (fun ls hl => ?_)
  refine lv_aload_n hx hb dX6_countResults_2 rfl (lv_at hl 1 rfl) ?_
  refine va_get (D := G) (ci := 6) (v := .ref (ad 8)) (C := RX6) (T := TX6) (N := 9) hx hb hts inkX6 hown hK hP 0 rfl rfl 3 (by decide) (hts _ kw_233) (fun _ h9 => h9) rfl dX6_countResults_3 ?_
  replace hf := s_bv_some hf
  obtain ⟨σ1, hz2, hf⟩ := hf
  refine s_callv (nn := 0) C (kcX0_clear (l := l) (G := G) (cy := cy) (sa := sa) (sh := sh) hI (sz := H.size) σ hz2) gk_X6_181 rfl rfl (by decide +kernel) ⟨Nat.le_of_ble_eq_true rfl, Nat.le_of_ble_eq_true rfl⟩ hP hS (q0 := 8) (ci := 0) rfl rfl rfl (As := []) (rest := []) rfl rfl hl.1 (Nat.le_of_ble_eq_true rfl) dX6_countResults_6 (fun H locs hP hS => ?_)
  refine lv_iconst (v := 0) hx hb dX6_countResults_9 (by decide) ?_
  refine lv_istore_n (lv' := [(2, .int (0 : Int32)), (1, .int (0 : Int32)), (0, .ref (ad 0))]) hx hb dX6_countResults_10 rfl hl (by decide) rfl (fun ls hl => ?_)
  exact kX6_countResults_b11_L C s_fu σ1 (0 : Int32) (0 : Int32) _ _ _ (lv_sub hl [2, 1, 0] rfl) hP hS hf
theorem kcX6_countResults {l : Launch} {G : va_G} {cy : Nat → ClassId} {sa : Nat × Nat} {ad : Nat → Nat} {sh : Nat → Option Nat} {sz : Nat} (hI : s_inj ad 19) (σ : Sg) {re : Int32} {σe : Sg} (hf : fX6_countResults σ = some (re, σe)) : Met l yX6_countResults (kW yX6_countResults cX6_countResults 3 (some .int)) ({ frames := 3, cells := 0, slots := 0, locals := 65 } : Room) (s_P (s_WC cy ad sh) G cy sa ad 19 [.ref (ad 0)] sz σ) (s_Qi (s_WC cy ad sh) G (s_A ad 19 sz) re σe) 0 0 (s_A ad 19 sz) := by
  refine s_met (own := RX6) (by decide) rfl hI (Nat.le_of_ble_eq_true rfl) (fun p e s m below meth c ls hsz C hP hl => ?_)
  subst hsz
  exact kX6_countResults C σ ls _ _ hl hP va_S.rf hf
set_option maxRecDepth 100000 in
set_option maxHeartbeats 4000000 in
theorem kX6_rule (C : s_X p s m meth c args cX6_rule (some .int) 2 RX6 G cy sa ad 19) (σ : Sg) (x1 : Int32) (ls : Array Slot) (H : Heap) (locs : List Loc) (hl : lv_has ls 2 [(0, .ref (ad 0)), (1, .int x1)]) (hP : va_P G vwCl ((s_WC cy ad sh) σ) H) (hS : va_S (s_A ad 19 s.heap.size) s.heap H locs) (hf : fX6_rule σ x1 = some (re, σe)) : W p l e ({ frames := 4, cells := 0, slots := 0, locals := 87 } : Room) s m args below meth c H locs 0 0 (MQ below (s_Qi (s_WC cy ad sh) G (s_A ad 19 s.heap.size) re σe) args s 0 0 (s_A ad 19 s.heap.size)) (F0 m 0 ls []) := by
  obtain ⟨hx, hb, hr, hml, hown, hts, hlk, hK, hE, hI⟩ := id C
  have hD : ∀ σ : Sg, va_D (s_A ad 19 s.heap.size) ((s_WC cy ad sh) σ) := fun σ => s_D (s_WC_ad cy ad sh σ) hI (fun k hk => Or.inl ⟨k, hk, rfl⟩)
  unfold fX6_rule at hf
  refine lv_iload_n hx hb dX6_rule_0 rfl (lv_at hl 1 rfl) ?_
  by_cases c1 : x1 = 0
  · rw [if_pos c1] at hf
    refine lv_tableIn (off := 51) (tgt := 52) hx hb dX6_rule_1 (by rw [c1]; decide) (by rw [c1]; decide) (by rw [c1]; rfl) (by decide) ?_
    refine lv_aload_n hx hb dX6_rule_52 rfl (lv_at hl 0 rfl) ?_
    refine va_get (D := G) (ci := 6) (v := .ref (ad 6)) (C := RX6) (T := TX6) (N := 9) hx hb hts inkX6 hown hK hP 0 rfl rfl 2 (by decide) (hts _ kw_232) (fun _ h9 => h9) rfl dX6_rule_53 ?_
    refine va_getN (D := G) (ci := 1) (v := .int (σ 6 1)) (C := RX1) (T := TX1) (N := 8) hx hb hts inkX1 hown hK hP 6 rfl rfl 1 (by decide) (kn_X6_88 hE) (fun _ h9 => h9) rfl dX6_rule_56 ?_
    obtain ⟨he1, he2⟩ := s_ret hf
    exact W.iret hx hb hr (fun t ht hW => ⟨⟨_, (), rfl, he1, s_fin (Wd := (s_WC cy ad sh)) ht he2 hP⟩, hS.F ht⟩) hS.2.2 dX6_rule_59 hlk
  · rw [if_neg c1] at hf
    by_cases c2 : x1 = 1
    · rw [if_pos c2] at hf
      refine lv_tableIn (off := 59) (tgt := 60) hx hb dX6_rule_1 (by rw [c2]; decide) (by rw [c2]; decide) (by rw [c2]; rfl) (by decide) ?_
      refine lv_aload_n hx hb dX6_rule_60 rfl (lv_at hl 0 rfl) ?_
      refine va_get (D := G) (ci := 6) (v := .ref (ad 6)) (C := RX6) (T := TX6) (N := 9) hx hb hts inkX6 hown hK hP 0 rfl rfl 2 (by decide) (hts _ kw_232) (fun _ h9 => h9) rfl dX6_rule_61 ?_
      replace hf := s_bi_some hf
      obtain ⟨r5, σ3, hz4, hf⟩ := hf
      refine s_calli (nn := 0) C (kcX1_countMissing_6 (l := l) (G := G) (cy := cy) (sa := sa) (sh := sh) hI (sz := H.size) σ hz4) gk_X6_94 rfl rfl (by decide +kernel) ⟨Nat.le_of_ble_eq_true rfl, Nat.le_of_ble_eq_true rfl⟩ hP hS (q0 := 6) (ci := 1) rfl rfl rfl (As := []) (rest := []) rfl rfl hl.1 (Nat.le_of_ble_eq_true rfl) dX6_rule_64 (fun H locs hP hS => ?_)
      obtain ⟨he1, he2⟩ := s_ret hf
      exact W.iret hx hb hr (fun t ht hW => ⟨⟨_, (), rfl, he1, s_fin (Wd := (s_WC cy ad sh)) ht he2 hP⟩, hS.F ht⟩) hS.2.2 dX6_rule_67 hlk
    · rw [if_neg c2] at hf
      by_cases c6 : x1 = 2
      · rw [if_pos c6] at hf
        refine lv_tableIn (off := 67) (tgt := 68) hx hb dX6_rule_1 (by rw [c6]; decide) (by rw [c6]; decide) (by rw [c6]; rfl) (by decide) ?_
        refine lv_aload_n hx hb dX6_rule_68 rfl (lv_at hl 0 rfl) ?_
        refine va_get (D := G) (ci := 6) (v := .ref (ad 6)) (C := RX6) (T := TX6) (N := 9) hx hb hts inkX6 hown hK hP 0 rfl rfl 2 (by decide) (hts _ kw_232) (fun _ h9 => h9) rfl dX6_rule_69 ?_
        refine va_getN (D := G) (ci := 1) (v := .int (σ 6 2)) (C := RX1) (T := TX1) (N := 8) hx hb hts inkX1 hown hK hP 6 rfl rfl 2 (by decide) (kn_X6_98 hE) (fun _ h9 => h9) rfl dX6_rule_72 ?_
        obtain ⟨he1, he2⟩ := s_ret hf
        exact W.iret hx hb hr (fun t ht hW => ⟨⟨_, (), rfl, he1, s_fin (Wd := (s_WC cy ad sh)) ht he2 hP⟩, hS.F ht⟩) hS.2.2 dX6_rule_75 hlk
      · rw [if_neg c6] at hf
        by_cases c7 : x1 = 3
        · rw [if_pos c7] at hf
          refine lv_tableIn (off := 75) (tgt := 76) hx hb dX6_rule_1 (by rw [c7]; decide) (by rw [c7]; decide) (by rw [c7]; rfl) (by decide) ?_
          refine lv_aload_n hx hb dX6_rule_76 rfl (lv_at hl 0 rfl) ?_
          refine va_get (D := G) (ci := 6) (v := .ref (ad 6)) (C := RX6) (T := TX6) (N := 9) hx hb hts inkX6 hown hK hP 0 rfl rfl 2 (by decide) (hts _ kw_232) (fun _ h9 => h9) rfl dX6_rule_77 ?_
          refine va_getN (D := G) (ci := 1) (v := .int (σ 6 3)) (C := RX1) (T := TX1) (N := 8) hx hb hts inkX1 hown hK hP 6 rfl rfl 3 (by decide) (kn_X6_101 hE) (fun _ h9 => h9) rfl dX6_rule_80 ?_
          obtain ⟨he1, he2⟩ := s_ret hf
          exact W.iret hx hb hr (fun t ht hW => ⟨⟨_, (), rfl, he1, s_fin (Wd := (s_WC cy ad sh)) ht he2 hP⟩, hS.F ht⟩) hS.2.2 dX6_rule_83 hlk
        · rw [if_neg c7] at hf
          by_cases c8 : x1 = 4
          · rw [if_pos c8] at hf
            refine lv_tableIn (off := 83) (tgt := 84) hx hb dX6_rule_1 (by rw [c8]; decide) (by rw [c8]; decide) (by rw [c8]; rfl) (by decide) ?_
            refine lv_aload_n hx hb dX6_rule_84 rfl (lv_at hl 0 rfl) ?_
            refine va_get (D := G) (ci := 6) (v := .ref (ad 6)) (C := RX6) (T := TX6) (N := 9) hx hb hts inkX6 hown hK hP 0 rfl rfl 2 (by decide) (hts _ kw_232) (fun _ h9 => h9) rfl dX6_rule_85 ?_
            refine va_getN (D := G) (ci := 1) (v := .int (σ 6 4)) (C := RX1) (T := TX1) (N := 8) hx hb hts inkX1 hown hK hP 6 rfl rfl 4 (by decide) (kn_X6_104 hE) (fun _ h9 => h9) rfl dX6_rule_88 ?_
            obtain ⟨he1, he2⟩ := s_ret hf
            exact W.iret hx hb hr (fun t ht hW => ⟨⟨_, (), rfl, he1, s_fin (Wd := (s_WC cy ad sh)) ht he2 hP⟩, hS.F ht⟩) hS.2.2 dX6_rule_91 hlk
          · rw [if_neg c8] at hf
            by_cases c9 : x1 = 5
            · rw [if_pos c9] at hf
              refine lv_tableIn (off := 91) (tgt := 92) hx hb dX6_rule_1 (by rw [c9]; decide) (by rw [c9]; decide) (by rw [c9]; rfl) (by decide) ?_
              refine lv_aload_n hx hb dX6_rule_92 rfl (lv_at hl 0 rfl) ?_
              refine va_get (D := G) (ci := 6) (v := .ref (ad 6)) (C := RX6) (T := TX6) (N := 9) hx hb hts inkX6 hown hK hP 0 rfl rfl 2 (by decide) (hts _ kw_232) (fun _ h9 => h9) rfl dX6_rule_93 ?_
              refine va_getN (D := G) (ci := 1) (v := .int (σ 6 5)) (C := RX1) (T := TX1) (N := 8) hx hb hts inkX1 hown hK hP 6 rfl rfl 5 (by decide) (kn_X6_107 hE) (fun _ h9 => h9) rfl dX6_rule_96 ?_
              obtain ⟨he1, he2⟩ := s_ret hf
              exact W.iret hx hb hr (fun t ht hW => ⟨⟨_, (), rfl, he1, s_fin (Wd := (s_WC cy ad sh)) ht he2 hP⟩, hS.F ht⟩) hS.2.2 dX6_rule_99 hlk
            · rw [if_neg c9] at hf
              by_cases c10 : x1 = 6
              · rw [if_pos c10] at hf
                refine lv_tableIn (off := 99) (tgt := 100) hx hb dX6_rule_1 (by rw [c10]; decide) (by rw [c10]; decide) (by rw [c10]; rfl) (by decide) ?_
                refine lv_aload_n hx hb dX6_rule_100 rfl (lv_at hl 0 rfl) ?_
                refine va_get (D := G) (ci := 6) (v := .ref (ad 6)) (C := RX6) (T := TX6) (N := 9) hx hb hts inkX6 hown hK hP 0 rfl rfl 2 (by decide) (hts _ kw_232) (fun _ h9 => h9) rfl dX6_rule_101 ?_
                refine va_getN (D := G) (ci := 1) (v := .int (σ 6 6)) (C := RX1) (T := TX1) (N := 8) hx hb hts inkX1 hown hK hP 6 rfl rfl 6 (by decide) (kn_X6_110 hE) (fun _ h9 => h9) rfl dX6_rule_104 ?_
                obtain ⟨he1, he2⟩ := s_ret hf
                exact W.iret hx hb hr (fun t ht hW => ⟨⟨_, (), rfl, he1, s_fin (Wd := (s_WC cy ad sh)) ht he2 hP⟩, hS.F ht⟩) hS.2.2 dX6_rule_107 hlk
              · rw [if_neg c10] at hf
                by_cases c11 : x1 = 7
                · rw [if_pos c11] at hf
                  refine lv_tableIn (off := 107) (tgt := 108) hx hb dX6_rule_1 (by rw [c11]; decide) (by rw [c11]; decide) (by rw [c11]; rfl) (by decide) ?_
                  refine lv_aload_n hx hb dX6_rule_108 rfl (lv_at hl 0 rfl) ?_
                  refine va_get (D := G) (ci := 6) (v := .ref (ad 6)) (C := RX6) (T := TX6) (N := 9) hx hb hts inkX6 hown hK hP 0 rfl rfl 2 (by decide) (hts _ kw_232) (fun _ h9 => h9) rfl dX6_rule_109 ?_
                  refine va_getN (D := G) (ci := 1) (v := .int (σ 6 7)) (C := RX1) (T := TX1) (N := 8) hx hb hts inkX1 hown hK hP 6 rfl rfl 7 (by decide) (kn_X6_113 hE) (fun _ h9 => h9) rfl dX6_rule_112 ?_
                  obtain ⟨he1, he2⟩ := s_ret hf
                  exact W.iret hx hb hr (fun t ht hW => ⟨⟨_, (), rfl, he1, s_fin (Wd := (s_WC cy ad sh)) ht he2 hP⟩, hS.F ht⟩) hS.2.2 dX6_rule_115 hlk
                · rw [if_neg c11] at hf
                  by_cases c12 : x1 = 8
                  · rw [if_pos c12] at hf
                    refine lv_tableIn (off := 115) (tgt := 116) hx hb dX6_rule_1 (by rw [c12]; decide) (by rw [c12]; decide) (by rw [c12]; rfl) (by decide) ?_
                    refine lv_aload_n hx hb dX6_rule_116 rfl (lv_at hl 0 rfl) ?_
                    replace hf := s_bi_some hf
                    obtain ⟨r15, σ13, hz14, hf⟩ := hf
                    refine s_calli (nn := 0) C (kcX6_countResults (l := l) (G := G) (cy := cy) (sa := sa) (sh := sh) hI (sz := H.size) σ hz14) gk_X6_116 rfl rfl (by decide +kernel) ⟨Nat.le_of_ble_eq_true rfl, Nat.le_of_ble_eq_true rfl⟩ hP hS (q0 := 0) (ci := 6) rfl rfl rfl (As := []) (rest := []) rfl rfl hl.1 (Nat.le_of_ble_eq_true rfl) dX6_rule_117 (fun H locs hP hS => ?_)
                    obtain ⟨he1, he2⟩ := s_ret hf
                    exact W.iret hx hb hr (fun t ht hW => ⟨⟨_, (), rfl, he1, s_fin (Wd := (s_WC cy ad sh)) ht he2 hP⟩, hS.F ht⟩) hS.2.2 dX6_rule_120 hlk
                  · rw [if_neg c12] at hf
                    have qc1 := lv_neT c1 (a := 0) (by decide)
                    have qc2 := lv_neT c2 (a := 1) (by decide)
                    have qc6 := lv_neT c6 (a := 2) (by decide)
                    have qc7 := lv_neT c7 (a := 3) (by decide)
                    have qc8 := lv_neT c8 (a := 4) (by decide)
                    have qc9 := lv_neT c9 (a := 5) (by decide)
                    have qc10 := lv_neT c10 (a := 6) (by decide)
                    have qc11 := lv_neT c11 (a := 7) (by decide)
                    have qc12 := lv_neT c12 (a := 8) (by decide)
                    refine lv_tableOut (tgt := 121) hx hb dX6_rule_1 (by omega) (by decide) ?_
                    refine lv_iconst (v := -1) hx hb dX6_rule_121 (by decide) ?_
                    obtain ⟨he1, he2⟩ := s_ret hf
                    exact W.iret hx hb hr (fun t ht hW => ⟨⟨_, (), rfl, he1, s_fin (Wd := (s_WC cy ad sh)) ht he2 hP⟩, hS.F ht⟩) hS.2.2 dX6_rule_122 hlk
theorem kcX6_rule {l : Launch} {G : va_G} {cy : Nat → ClassId} {sa : Nat × Nat} {ad : Nat → Nat} {sh : Nat → Option Nat} {sz : Nat} (hI : s_inj ad 19) (σ : Sg) (x1 : Int32) {re : Int32} {σe : Sg} (hf : fX6_rule σ x1 = some (re, σe)) : Met l yX6_rule (kW yX6_rule cX6_rule 2 (some .int)) ({ frames := 4, cells := 0, slots := 0, locals := 87 } : Room) (s_P (s_WC cy ad sh) G cy sa ad 19 [.ref (ad 0), .int x1] sz σ) (s_Qi (s_WC cy ad sh) G (s_A ad 19 sz) re σe) 0 0 (s_A ad 19 sz) := by
  refine s_met (own := RX6) (by decide) rfl hI (Nat.le_of_ble_eq_true rfl) (fun p e s m below meth c ls hsz C hP hl => ?_)
  subst hsz
  exact kX6_rule C σ x1 ls _ _ hl hP va_S.rf hf
set_option maxRecDepth 100000 in
set_option maxHeartbeats 4000000 in
theorem kX6_reading (C : s_X p s m meth c args cX6_reading (some .int) 2 RX6 G cy sa ad 19) (σ : Sg) (x1 : Int32) (ls : Array Slot) (H : Heap) (locs : List Loc) (hl : lv_has ls 2 [(0, .ref (ad 0)), (1, .int x1)]) (hP : va_P G vwCl ((s_WC cy ad sh) σ) H) (hS : va_S (s_A ad 19 s.heap.size) s.heap H locs) (hf : fX6_reading σ x1 = some (re, σe)) : W p l e ({ frames := 2, cells := 0, slots := 0, locals := 42 } : Room) s m args below meth c H locs 0 0 (MQ below (s_Qi (s_WC cy ad sh) G (s_A ad 19 s.heap.size) re σe) args s 0 0 (s_A ad 19 s.heap.size)) (F0 m 0 ls []) := by
  obtain ⟨hx, hb, hr, hml, hown, hts, hlk, hK, hE, hI⟩ := id C
  have hD : ∀ σ : Sg, va_D (s_A ad 19 s.heap.size) ((s_WC cy ad sh) σ) := fun σ => s_D (s_WC_ad cy ad sh σ) hI (fun k hk => Or.inl ⟨k, hk, rfl⟩)
  unfold fX6_reading at hf
  refine lv_aload_n hx hb dX6_reading_0 rfl (lv_at hl 0 rfl) ?_
  refine va_get (D := G) (ci := 6) (v := .ref (ad 6)) (C := RX6) (T := TX6) (N := 9) hx hb hts inkX6 hown hK hP 0 rfl rfl 2 (by decide) (hts _ kw_232) (fun _ h9 => h9) rfl dX6_reading_1 ?_
  refine lv_iload_n hx hb dX6_reading_4 rfl (lv_at hl 1 rfl) ?_
  replace hf := s_bi_some hf
  obtain ⟨r3, σ1, hz2, hf⟩ := hf
  refine s_calli (nn := 1) C (kcX1_valueAt_6 (l := l) (G := G) (cy := cy) (sa := sa) (sh := sh) hI (sz := H.size) σ x1 hz2) gk_X6_119 rfl rfl (by decide +kernel) ⟨Nat.le_of_ble_eq_true rfl, Nat.le_of_ble_eq_true rfl⟩ hP hS (q0 := 6) (ci := 1) rfl rfl rfl (As := [.int x1]) (rest := []) rfl rfl hl.1 (Nat.le_of_ble_eq_true rfl) dX6_reading_5 (fun H locs hP hS => ?_)
  obtain ⟨he1, he2⟩ := s_ret hf
  exact W.iret hx hb hr (fun t ht hW => ⟨⟨_, (), rfl, he1, s_fin (Wd := (s_WC cy ad sh)) ht he2 hP⟩, hS.F ht⟩) hS.2.2 dX6_reading_8 hlk
theorem kcX6_reading {l : Launch} {G : va_G} {cy : Nat → ClassId} {sa : Nat × Nat} {ad : Nat → Nat} {sh : Nat → Option Nat} {sz : Nat} (hI : s_inj ad 19) (σ : Sg) (x1 : Int32) {re : Int32} {σe : Sg} (hf : fX6_reading σ x1 = some (re, σe)) : Met l yX6_reading (kW yX6_reading cX6_reading 2 (some .int)) ({ frames := 2, cells := 0, slots := 0, locals := 42 } : Room) (s_P (s_WC cy ad sh) G cy sa ad 19 [.ref (ad 0), .int x1] sz σ) (s_Qi (s_WC cy ad sh) G (s_A ad 19 sz) re σe) 0 0 (s_A ad 19 sz) := by
  refine s_met (own := RX6) (by decide) rfl hI (Nat.le_of_ble_eq_true rfl) (fun p e s m below meth c ls hsz C hP hl => ?_)
  subst hsz
  exact kX6_reading C σ x1 ls _ _ hl hP va_S.rf hf
set_option maxRecDepth 100000 in
set_option maxHeartbeats 4000000 in
theorem kX0_load_b20 (C : s_X p s m meth c args cX0_load none 3 RX0 G cy sa ad 19) (k20 : Sg → Int32 → Int32 → Option Sg) (hk20 : ∀ (σ : Sg) (x1 : Int32) (x2 : Int32) (ls : Array Slot) (H : Heap) (locs : List Loc), lv_has ls 3 [(0, .ref (ad 8)), (1, .int x1), (2, .int x2)] → va_P G vwCl ((s_WC cy ad sh) σ) H → va_S (s_A ad 19 s.heap.size) s.heap H locs → k20 σ x1 x2 = some σe → W p l e ({ frames := 2, cells := 0, slots := 0, locals := 42 } : Room) s m args below meth c H locs 0 0 (MQ below (s_Qv (s_WC cy ad sh) G (s_A ad 19 s.heap.size) σe) args s 0 0 (s_A ad 19 s.heap.size)) (F0 m 20 ls [])) (σ : Sg) (x1 : Int32) (x2 : Int32) (ls : Array Slot) (H : Heap) (locs : List Loc) (hl : lv_has ls 3 [(0, .ref (ad 8)), (1, .int x1), (2, .int x2)]) (hP : va_P G vwCl ((s_WC cy ad sh) σ) H) (hS : va_S (s_A ad 19 s.heap.size) s.heap H locs) (hf : fX0_load_b20 k20 σ x1 x2 = some σe) : W p l e ({ frames := 2, cells := 0, slots := 0, locals := 42 } : Room) s m args below meth c H locs 0 0 (MQ below (s_Qv (s_WC cy ad sh) G (s_A ad 19 s.heap.size) σe) args s 0 0 (s_A ad 19 s.heap.size)) (F0 m 20 ls []) := by
  obtain ⟨hx, hb, hr, hml, hown, hts, hlk, hK, hE, hI⟩ := id C
  have hD : ∀ σ : Sg, va_D (s_A ad 19 s.heap.size) ((s_WC cy ad sh) σ) := fun σ => s_D (s_WC_ad cy ad sh σ) hI (fun k hk => Or.inl ⟨k, hk, rfl⟩)
  unfold fX0_load_b20 at hf
  refine lv_iload_n hx hb dX0_load_20 rfl (lv_at hl 2 rfl) ?_
  refine lv_iload_n hx hb dX0_load_21 rfl (lv_at hl 1 rfl) ?_
  refine lv_icmp_gt (tgt := 43) hx hb dX0_load_22 (by decide) (fun c1 => ?_) (fun c1 => ?_)
  · rw [if_pos c1] at hf
    have he2 := Option.some.inj hf
    exact W.vret hx hb hr (fun t ht hW => ⟨⟨(), rfl, trivial, s_fin (Wd := (s_WC cy ad sh)) ht he2 hP⟩, hS.F ht⟩) hS.2.2 dX0_load_43 hlk
  · rw [if_neg c1] at hf
    refine lv_aload_n hx hb dX0_load_25 rfl (lv_at hl 0 rfl) ?_
    refine lv_aload_n hx hb dX0_load_26 rfl (lv_at hl 0 rfl) ?_
    refine va_get (D := G) (ci := 0) (v := .ref (ad 6)) (C := RX0) (T := TX0) (N := 3) hx hb hts inkX0 hown hK hP 8 rfl rfl 0 (by decide) (hts _ kw_202) (fun _ h9 => h9) rfl dX0_load_27 ?_
    refine lv_iload_n hx hb dX0_load_30 rfl (lv_at hl 2 rfl) ?_
    replace hf := s_bi_some hf
    obtain ⟨r4, σ2, hz3, hf⟩ := hf
    refine s_calli (nn := 1) C (kcX1_valueAt_6 (l := l) (G := G) (cy := cy) (sa := sa) (sh := sh) hI (sz := H.size) σ x2 hz3) gk_X0_37 rfl rfl (by decide +kernel) ⟨Nat.le_of_ble_eq_true rfl, Nat.le_of_ble_eq_true rfl⟩ hP hS (q0 := 6) (ci := 1) rfl rfl rfl (As := [.int x2]) (rest := [.ref (ad 8)]) rfl rfl hl.1 (Nat.le_of_ble_eq_true rfl) dX0_load_31 (fun H locs hP hS => ?_)
    replace hf := s_bv_some hf
    obtain ⟨σ5, hz6, hf⟩ := hf
    refine s_callv (nn := 1) C (kcX0_putIn (l := l) (G := G) (cy := cy) (sa := sa) (sh := sh) hI (sz := H.size) σ2 r4 hz6) gk_X0_41 rfl rfl (by decide +kernel) ⟨Nat.le_of_ble_eq_true rfl, Nat.le_of_ble_eq_true rfl⟩ hP hS (q0 := 8) (ci := 0) rfl rfl rfl (As := [.int r4]) (rest := []) rfl rfl hl.1 (Nat.le_of_ble_eq_true rfl) dX0_load_34 (fun H locs hP hS => ?_)
    obtain ⟨t7, et7⟩ : ∃ z : Int32, z = (x2 + 1) := ⟨_, rfl⟩
    replace hf := s_lt_at et7 hf
    refine lv_iinc (v := t7) (lv' := [(2, .int t7), (0, .ref (ad 8)), (1, .int x1)]) hx hb dX0_load_37 hl (k := 2) rfl (by rw [et7]; rfl) (by decide) rfl (fun ls hl => ?_)
    refine lv_goto (tgt := 20) hx hb dX0_load_40 (by decide) ?_
    exact hk20 σ5 x1 t7 _ _ _ (lv_sub hl [1, 2, 0] rfl) hP hS hf
set_option maxRecDepth 100000 in
set_option maxHeartbeats 4000000 in
theorem kX0_load_b20_L (C : s_X p s m meth c args cX0_load none 3 RX0 G cy sa ad 19) : ∀ (n : Nat), ∀ (σ : Sg) (x1 : Int32) (x2 : Int32) (ls : Array Slot) (H : Heap) (locs : List Loc), lv_has ls 3 [(0, .ref (ad 8)), (1, .int x1), (2, .int x2)] → va_P G vwCl ((s_WC cy ad sh) σ) H → va_S (s_A ad 19 s.heap.size) s.heap H locs → fX0_load_b20_L n σ x1 x2 = some σe → W p l e ({ frames := 2, cells := 0, slots := 0, locals := 42 } : Room) s m args below meth c H locs 0 0 (MQ below (s_Qv (s_WC cy ad sh) G (s_A ad 19 s.heap.size) σe) args s 0 0 (s_A ad 19 s.heap.size)) (F0 m 20 ls []) := by
  intro n
  induction n with
  | zero => intro σ x1 x2 ls H locs hl hP hS hf; exact absurd (show (none : Option Sg) = some σe from hf) (by intro h; cases h)
  | succ n ih => intro σ x1 x2 ls H locs hl hP hS hf; exact kX0_load_b20 C (fX0_load_b20_L n) ih σ x1 x2 ls H locs hl hP hS hf
set_option maxRecDepth 100000 in
set_option maxHeartbeats 4000000 in
theorem kX0_load (C : s_X p s m meth c args cX0_load none 3 RX0 G cy sa ad 19) (σ : Sg) (x1 : Int32) (ls : Array Slot) (H : Heap) (locs : List Loc) (hl : lv_has ls 3 [(0, .ref (ad 8)), (1, .int x1)]) (hP : va_P G vwCl ((s_WC cy ad sh) σ) H) (hS : va_S (s_A ad 19 s.heap.size) s.heap H locs) (hf : fX0_load σ x1 = some σe) : W p l e ({ frames := 2, cells := 0, slots := 0, locals := 42 } : Room) s m args below meth c H locs 0 0 (MQ below (s_Qv (s_WC cy ad sh) G (s_A ad 19 s.heap.size) σe) args s 0 0 (s_A ad 19 s.heap.size)) (F0 m 0 ls []) := by
  obtain ⟨hx, hb, hr, hml, hown, hts, hlk, hK, hE, hI⟩ := id C
  have hD : ∀ σ : Sg, va_D (s_A ad 19 s.heap.size) ((s_WC cy ad sh) σ) := fun σ => s_D (s_WC_ad cy ad sh σ) hI (fun k hk => Or.inl ⟨k, hk, rfl⟩)
  unfold fX0_load at hf
  refine lv_aload_n hx hb dX0_load_0 rfl (lv_at hl 0 rfl) ?_
  replace hf := s_bv_some hf
  obtain ⟨σ1, hz2, hf⟩ := hf
  refine s_callv (nn := 0) C (kcX0_clear (l := l) (G := G) (cy := cy) (sa := sa) (sh := sh) hI (sz := H.size) σ hz2) gk_X0_23 rfl rfl (by decide +kernel) ⟨Nat.le_of_ble_eq_true rfl, Nat.le_of_ble_eq_true rfl⟩ hP hS (q0 := 8) (ci := 0) rfl rfl rfl (As := []) (rest := []) rfl rfl hl.1 (Nat.le_of_ble_eq_true rfl) dX0_load_1 (fun H locs hP hS => ?_)
  refine lv_iconst (v := 0) hx hb dX0_load_4 (by decide) ?_
  refine lv_iload_n hx hb dX0_load_5 rfl (lv_at hl 1 rfl) ?_
  refine lv_aload_n hx hb dX0_load_6 rfl (lv_at hl 0 rfl) ?_
  refine va_get (D := G) (ci := 0) (v := .ref (ad 6)) (C := RX0) (T := TX0) (N := 3) hx hb hts inkX0 hown hK hP 8 rfl rfl 0 (by decide) (hts _ kw_202) (fun _ h9 => h9) rfl dX0_load_7 ?_
  refine va_getN (D := G) (ci := 1) (v := .int (σ1 6 2)) (C := RX1) (T := TX1) (N := 8) hx hb hts inkX1 hown hK hP 6 rfl rfl 2 (by decide) (kn_X0_26 hE) (fun _ h9 => h9) rfl dX0_load_10 ?_
  refine lv_isub hx hb dX0_load_13 ?_
  refine lv_iconst (v := 1) hx hb dX0_load_14 (by decide) ?_
  refine lv_iadd hx hb dX0_load_15 ?_
  refine va_mmax hx hb (hml.trans hl.1.symm) hown (hts _ kw_485) (hts _ kw_377) (hts _ kw_66) (hts _ kw_378) (Nat.le_of_ble_eq_true rfl) (Nat.le_of_ble_eq_true rfl) (Nat.zero_le _) (Nat.zero_le _) dX0_load_16 ?_
  refine lv_topi (fun t3 et3 => ?_)
  replace hf := s_lt_at et3 hf
  refine lv_istore_n (lv' := [(2, .int t3), (0, .ref (ad 8)), (1, .int x1)]) hx hb dX0_load_19 rfl hl (by decide) rfl (fun ls hl => ?_)
  exact kX0_load_b20_L C s_fu σ1 x1 t3 _ _ _ (lv_sub hl [1, 2, 0] rfl) hP hS hf
theorem kcX0_load {l : Launch} {G : va_G} {cy : Nat → ClassId} {sa : Nat × Nat} {ad : Nat → Nat} {sh : Nat → Option Nat} {sz : Nat} (hI : s_inj ad 19) (σ : Sg) (x1 : Int32) {σe : Sg} (hf : fX0_load σ x1 = some σe) : Met l yX0_load (kW yX0_load cX0_load 3 none) ({ frames := 2, cells := 0, slots := 0, locals := 42 } : Room) (s_P (s_WC cy ad sh) G cy sa ad 19 [.ref (ad 8), .int x1] sz σ) (s_Qv (s_WC cy ad sh) G (s_A ad 19 sz) σe) 0 0 (s_A ad 19 sz) := by
  refine s_met (own := RX0) (by decide) rfl hI (Nat.le_of_ble_eq_true rfl) (fun p e s m below meth c ls hsz C hP hl => ?_)
  subst hsz
  exact kX0_load C σ x1 ls _ _ hl hP va_S.rf hf
end
