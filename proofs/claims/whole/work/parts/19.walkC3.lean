section
variable {p : Program} {l : Launch} {e : Env} {s : State} {m : MethodId} {below : List Frame} {meth : Method} {c : Code} {G : va_G} {cy : Nat → ClassId} {sa : Nat × Nat} {ad : Nat → Nat} {args : Array Value} {re : Int32} {σe : Sg}
set_option maxRecDepth 100000 in
set_option maxHeartbeats 4000000 in
theorem kX0_middleValue (C : s_X p s m meth c args cX0_middleValue (some .int) 1 RX0 G cy sa ad 27) (σ : Sg) (ls : Array Slot) (H : Heap) (locs : List Loc) (hl : lv_has ls 1 [(0, .ref (ad 8))]) (hP : va_P G vwCl ((s_WC cy ad) σ) H) (hS : va_S (s_A ad 27 s.heap.size) s.heap H locs) (hf : fX0_middleValue σ = some (re, σe)) : W p l e ({ frames := 1, cells := 0, slots := 0, locals := 21 } : Room) s m args below meth c H locs 0 0 (MQ below (s_Qi (s_WC cy ad) G (s_A ad 27 s.heap.size) re σe) args s 0 0 (s_A ad 27 s.heap.size)) (F0 m 0 ls []) := by
  obtain ⟨hx, hb, hr, hml, hown, hts, hlk, hK, hE, hI⟩ := id C
  have hD : ∀ σ : Sg, va_D (s_A ad 27 s.heap.size) ((s_WC cy ad) σ) := fun σ => s_D (s_WC_ad cy ad σ) hI (fun k hk => Or.inl ⟨k, hk, rfl⟩)
  unfold fX0_middleValue at hf
  refine lv_aload_n hx hb dX0_middleValue_0 rfl (lv_at hl 0 rfl) ?_
  refine lv_aload_n hx hb dX0_middleValue_1 rfl (lv_at hl 0 rfl) ?_
  refine va_get (D := G) (ci := 0) (v := .int (σ 8 2)) (C := RX0) (T := TX0) (N := 3) hx hb hts inkX0 hown hK hP 8 rfl rfl 2 (by decide) (hts _ kw_206) (fun _ h9 => h9) rfl dX0_middleValue_2 ?_
  refine lv_iconst (v := 1) hx hb dX0_middleValue_5 (by decide) ?_
  refine lv_isub hx hb dX0_middleValue_6 ?_
  refine lv_iconst (v := 2) hx hb dX0_middleValue_7 (by decide) ?_
  refine lv_idiv hx hb dX0_middleValue_8 (by decide) ?_
  replace hf := s_bi_some hf
  obtain ⟨r3, σ1, hz2, hf⟩ := hf
  refine s_calli (nn := 1) C (kcX0_at (l := l) (G := G) (cy := cy) (sa := sa) hI (sz := H.size) σ (((σ 8 2) - (1 : Int32)) / (2 : Int32)) hz2) gk_X0_68 rfl rfl (by decide +kernel) ⟨Nat.le_of_ble_eq_true rfl, Nat.le_of_ble_eq_true rfl⟩ hP hS (q0 := 8) (ci := 0) rfl rfl rfl (As := [.int (((σ 8 2) - (1 : Int32)) / (2 : Int32))]) (rest := []) rfl rfl hl.1 (Nat.le_of_ble_eq_true rfl) dX0_middleValue_9 (fun H locs hP hS => ?_)
  obtain ⟨he1, he2⟩ := s_ret hf
  exact W.iret hx hb hr (fun t ht hW => ⟨⟨_, (), rfl, he1, s_fin (Wd := (s_WC cy ad)) ht he2 hP⟩, hS.F ht⟩) hS.2.2 dX0_middleValue_12 hlk
theorem kcX0_middleValue {l : Launch} {G : va_G} {cy : Nat → ClassId} {sa : Nat × Nat} {ad : Nat → Nat}  {sz : Nat} (hI : s_inj ad 27) (σ : Sg) {re : Int32} {σe : Sg} (hf : fX0_middleValue σ = some (re, σe)) : Met l yX0_middleValue (kW yX0_middleValue cX0_middleValue 1 (some .int)) ({ frames := 1, cells := 0, slots := 0, locals := 21 } : Room) (s_P (s_WC cy ad) G cy sa ad 27 [.ref (ad 8)] sz σ) (s_Qi (s_WC cy ad) G (s_A ad 27 sz) re σe) 0 0 (s_A ad 27 sz) := by
  refine s_met (own := RX0) (by decide) rfl hI (Nat.le_of_ble_eq_true rfl) (fun p e s m below meth c ls hsz C hP hl => ?_)
  subst hsz
  exact kX0_middleValue C σ ls _ _ hl hP va_S.rf hf
set_option maxRecDepth 100000 in
set_option maxHeartbeats 4000000 in
theorem kX6_middle_b20 (C : s_X p s m meth c args cX6_middle (some .int) 3 RX6 G cy sa ad 27) (σ : Sg) (ls : Array Slot) (H : Heap) (locs : List Loc) (hl : lv_has ls 3 []) (hP : va_P G vwCl ((s_WC cy ad) σ) H) (hS : va_S (s_A ad 27 s.heap.size) s.heap H locs) (hf : fX6_middle_b20 σ = some (re, σe)) : W p l e ({ frames := 3, cells := 0, slots := 0, locals := 64 } : Room) s m args below meth c H locs 0 0 (MQ below (s_Qi (s_WC cy ad) G (s_A ad 27 s.heap.size) re σe) args s 0 0 (s_A ad 27 s.heap.size)) (F0 m 20 ls []) := by
  obtain ⟨hx, hb, hr, hml, hown, hts, hlk, hK, hE, hI⟩ := id C
  have hD : ∀ σ : Sg, va_D (s_A ad 27 s.heap.size) ((s_WC cy ad) σ) := fun σ => s_D (s_WC_ad cy ad σ) hI (fun k hk => Or.inl ⟨k, hk, rfl⟩)
  unfold fX6_middle_b20 at hf
  refine lv_ldc (v := 100000000) hx hb hown (hts _ kw_517) dX6_middle_20 ?_
  obtain ⟨he1, he2⟩ := s_ret hf
  exact W.iret hx hb hr (fun t ht hW => ⟨⟨_, (), rfl, he1, s_fin (Wd := (s_WC cy ad)) ht he2 hP⟩, hS.F ht⟩) hS.2.2 dX6_middle_22 hlk
set_option maxRecDepth 100000 in
set_option maxHeartbeats 4000000 in
theorem kX6_middle (C : s_X p s m meth c args cX6_middle (some .int) 3 RX6 G cy sa ad 27) (σ : Sg) (x1 : Int32) (x2 : Int32) (ls : Array Slot) (H : Heap) (locs : List Loc) (hl : lv_has ls 3 [(0, .ref (ad 0)), (1, .int x1), (2, .int x2)]) (hP : va_P G vwCl ((s_WC cy ad) σ) H) (hS : va_S (s_A ad 27 s.heap.size) s.heap H locs) (hf : fX6_middle σ x1 x2 = some (re, σe)) : W p l e ({ frames := 3, cells := 0, slots := 0, locals := 64 } : Room) s m args below meth c H locs 0 0 (MQ below (s_Qi (s_WC cy ad) G (s_A ad 27 s.heap.size) re σe) args s 0 0 (s_A ad 27 s.heap.size)) (F0 m 0 ls []) := by
  obtain ⟨hx, hb, hr, hml, hown, hts, hlk, hK, hE, hI⟩ := id C
  have hD : ∀ σ : Sg, va_D (s_A ad 27 s.heap.size) ((s_WC cy ad) σ) := fun σ => s_D (s_WC_ad cy ad σ) hI (fun k hk => Or.inl ⟨k, hk, rfl⟩)
  unfold fX6_middle at hf
  refine lv_aload_n hx hb dX6_middle_0 rfl (lv_at hl 0 rfl) ?_
  refine va_get (D := G) (ci := 6) (v := .ref (ad 6)) (C := RX6) (T := TX6) (N := 9) hx hb hts inkX6 hown hK hP 0 rfl rfl 2 (by decide) (hts _ kw_252) (fun _ h9 => h9) rfl dX6_middle_1 ?_
  refine lv_iload_n hx hb dX6_middle_4 rfl (lv_at hl 1 rfl) ?_
  replace hf := s_bi_some hf
  obtain ⟨r3, σ1, hz2, hf⟩ := hf
  refine s_calli (nn := 1) C (kcX1_has_6 (l := l) (G := G) (cy := cy) (sa := sa) hI (sz := H.size) σ x1 hz2) gk_X6_124 rfl rfl (by decide +kernel) ⟨Nat.le_of_ble_eq_true rfl, Nat.le_of_ble_eq_true rfl⟩ hP hS (q0 := 6) (ci := 1) rfl rfl rfl (As := [.int x1]) (rest := []) rfl rfl hl.1 (Nat.le_of_ble_eq_true rfl) dX6_middle_5 (fun H locs hP hS => ?_)
  refine lv_if_eq (tgt := 20) hx hb dX6_middle_8 (by decide) (fun c4 => ?_) (fun c4 => ?_)
  · rw [if_pos c4] at hf
    exact kX6_middle_b20 C σ1 _ _ _ (lv_sub hl [] rfl) hP hS hf
  · rw [if_neg c4] at hf
    refine lv_iload_n hx hb dX6_middle_11 rfl (lv_at hl 2 rfl) ?_
    refine lv_if_lt (tgt := 20) hx hb dX6_middle_12 (by decide) (fun c5 => ?_) (fun c5 => ?_)
    · rw [if_pos c5] at hf
      exact kX6_middle_b20 C σ1 _ _ _ (lv_sub hl [] rfl) hP hS hf
    · rw [if_neg c5] at hf
      refine lv_iload_n hx hb dX6_middle_15 rfl (lv_at hl 2 rfl) ?_
      refine lv_iconst (v := 1) hx hb dX6_middle_16 (by decide) ?_
      refine lv_icmp_le (tgt := 23) hx hb dX6_middle_17 (by decide) (fun c6 => ?_) (fun c6 => ?_)
      · rw [if_pos c6] at hf
        refine lv_aload_n hx hb dX6_middle_23 rfl (lv_at hl 0 rfl) ?_
        refine va_get (D := G) (ci := 6) (v := .ref (ad 8)) (C := RX6) (T := TX6) (N := 9) hx hb hts inkX6 hown hK hP 0 rfl rfl 3 (by decide) (hts _ kw_253) (fun _ h9 => h9) rfl dX6_middle_24 ?_
        refine lv_iload_n hx hb dX6_middle_27 rfl (lv_at hl 1 rfl) ?_
        replace hf := s_bv_some hf
        obtain ⟨σ7, hz8, hf⟩ := hf
        refine s_callv (nn := 1) C (kcX0_load (l := l) (G := G) (cy := cy) (sa := sa) hI (sz := H.size) σ1 x1 hz8) gk_X6_128 rfl rfl (by decide +kernel) ⟨Nat.le_of_ble_eq_true rfl, Nat.le_of_ble_eq_true rfl⟩ hP hS (q0 := 8) (ci := 0) rfl rfl rfl (As := [.int x1]) (rest := []) rfl rfl hl.1 (Nat.le_of_ble_eq_true rfl) dX6_middle_28 (fun H locs hP hS => ?_)
        refine lv_aload_n hx hb dX6_middle_31 rfl (lv_at hl 0 rfl) ?_
        refine va_get (D := G) (ci := 6) (v := .ref (ad 8)) (C := RX6) (T := TX6) (N := 9) hx hb hts inkX6 hown hK hP 0 rfl rfl 3 (by decide) (hts _ kw_253) (fun _ h9 => h9) rfl dX6_middle_32 ?_
        refine va_getN (D := G) (ci := 0) (v := .int (σ7 8 2)) (C := RX0) (T := TX0) (N := 3) hx hb hts inkX0 hown hK hP 8 rfl rfl 2 (by decide) (kn_X6_131 hE) (fun _ h9 => h9) rfl dX6_middle_35 ?_
        refine lv_if_ne (tgt := 44) hx hb dX6_middle_38 (by decide) (fun c9 => ?_) (fun c9 => ?_)
        · rw [if_neg c9] at hf
          refine lv_iload_n hx hb dX6_middle_44 rfl (lv_at hl 2 rfl) ?_
          refine lv_if_ne (tgt := 58) hx hb dX6_middle_45 (by decide) (fun c10 => ?_) (fun c10 => ?_)
          · rw [if_neg c10] at hf
            refine lv_aload_n hx hb dX6_middle_58 rfl (lv_at hl 0 rfl) ?_
            refine va_get (D := G) (ci := 6) (v := .ref (ad 8)) (C := RX6) (T := TX6) (N := 9) hx hb hts inkX6 hown hK hP 0 rfl rfl 3 (by decide) (hts _ kw_253) (fun _ h9 => h9) rfl dX6_middle_59 ?_
            replace hf := s_bi_some hf
            obtain ⟨r13, σ11, hz12, hf⟩ := hf
            refine s_calli (nn := 0) C (kcX0_spread (l := l) (G := G) (cy := cy) (sa := sa) hI (sz := H.size) σ7 hz12) gk_X6_172 rfl rfl (by decide +kernel) ⟨Nat.le_of_ble_eq_true rfl, Nat.le_of_ble_eq_true rfl⟩ hP hS (q0 := 8) (ci := 0) rfl rfl rfl (As := []) (rest := []) rfl rfl hl.1 (Nat.le_of_ble_eq_true rfl) dX6_middle_62 (fun H locs hP hS => ?_)
            obtain ⟨he1, he2⟩ := s_ret hf
            exact W.iret hx hb hr (fun t ht hW => ⟨⟨_, (), rfl, he1, s_fin (Wd := (s_WC cy ad)) ht he2 hP⟩, hS.F ht⟩) hS.2.2 dX6_middle_65 hlk
          · rw [if_pos c10] at hf
            refine lv_aload_n hx hb dX6_middle_48 rfl (lv_at hl 0 rfl) ?_
            refine va_get (D := G) (ci := 6) (v := .ref (ad 8)) (C := RX6) (T := TX6) (N := 9) hx hb hts inkX6 hown hK hP 0 rfl rfl 3 (by decide) (hts _ kw_253) (fun _ h9 => h9) rfl dX6_middle_49 ?_
            replace hf := s_bi_some hf
            obtain ⟨r16, σ14, hz15, hf⟩ := hf
            refine s_calli (nn := 0) C (kcX0_middleValue (l := l) (G := G) (cy := cy) (sa := sa) hI (sz := H.size) σ7 hz15) gk_X6_169 rfl rfl (by decide +kernel) ⟨Nat.le_of_ble_eq_true rfl, Nat.le_of_ble_eq_true rfl⟩ hP hS (q0 := 8) (ci := 0) rfl rfl rfl (As := []) (rest := []) rfl rfl hl.1 (Nat.le_of_ble_eq_true rfl) dX6_middle_52 (fun H locs hP hS => ?_)
            refine lv_goto (tgt := 65) hx hb dX6_middle_55 (by decide) ?_
            obtain ⟨he1, he2⟩ := s_ret hf
            exact W.iret hx hb hr (fun t ht hW => ⟨⟨_, (), rfl, he1, s_fin (Wd := (s_WC cy ad)) ht he2 hP⟩, hS.F ht⟩) hS.2.2 dX6_middle_65 hlk
        · rw [if_pos c9] at hf
          refine lv_ldc (v := 100000000) hx hb hown (hts _ kw_517) dX6_middle_41 ?_
          obtain ⟨he1, he2⟩ := s_ret hf
          exact W.iret hx hb hr (fun t ht hW => ⟨⟨_, (), rfl, he1, s_fin (Wd := (s_WC cy ad)) ht he2 hP⟩, hS.F ht⟩) hS.2.2 dX6_middle_43 hlk
      · rw [if_neg c6] at hf
        exact kX6_middle_b20 C σ1 _ _ _ (lv_sub hl [] rfl) hP hS hf
theorem kcX6_middle {l : Launch} {G : va_G} {cy : Nat → ClassId} {sa : Nat × Nat} {ad : Nat → Nat}  {sz : Nat} (hI : s_inj ad 27) (σ : Sg) (x1 : Int32) (x2 : Int32) {re : Int32} {σe : Sg} (hf : fX6_middle σ x1 x2 = some (re, σe)) : Met l yX6_middle (kW yX6_middle cX6_middle 3 (some .int)) ({ frames := 3, cells := 0, slots := 0, locals := 64 } : Room) (s_P (s_WC cy ad) G cy sa ad 27 [.ref (ad 0), .int x1, .int x2] sz σ) (s_Qi (s_WC cy ad) G (s_A ad 27 sz) re σe) 0 0 (s_A ad 27 sz) := by
  refine s_met (own := RX6) (by decide) rfl hI (Nat.le_of_ble_eq_true rfl) (fun p e s m below meth c ls hsz C hP hl => ?_)
  subst hsz
  exact kX6_middle C σ x1 x2 ls _ _ hl hP va_S.rf hf
set_option maxRecDepth 100000 in
set_option maxHeartbeats 4000000 in
theorem kX6_isFactor_b15 (C : s_X p s m meth c args cX6_isFactor (some .boolean) 1 RX6 G cy sa ad 27) (σ : Sg) (ls : Array Slot) (H : Heap) (locs : List Loc) (hl : lv_has ls 1 []) (hP : va_P G vwCl ((s_WC cy ad) σ) H) (hS : va_S (s_A ad 27 s.heap.size) s.heap H locs) (hf : fX6_isFactor_b15 σ = some (re, σe)) : W p l e ({ frames := 0, cells := 0, slots := 0, locals := 0 } : Room) s m args below meth c H locs 0 0 (MQ below (s_Qi (s_WC cy ad) G (s_A ad 27 s.heap.size) re σe) args s 0 0 (s_A ad 27 s.heap.size)) (F0 m 15 ls []) := by
  obtain ⟨hx, hb, hr, hml, hown, hts, hlk, hK, hE, hI⟩ := id C
  have hD : ∀ σ : Sg, va_D (s_A ad 27 s.heap.size) ((s_WC cy ad) σ) := fun σ => s_D (s_WC_ad cy ad σ) hI (fun k hk => Or.inl ⟨k, hk, rfl⟩)
  unfold fX6_isFactor_b15 at hf
  refine lv_iconst (v := 0) hx hb dX6_isFactor_15 (by decide) ?_
  obtain ⟨he1, he2⟩ := s_ret hf
  exact W.zret hx hb hr rfl (fun t ht hW => ⟨⟨_, (), rfl, he1, s_fin (Wd := (s_WC cy ad)) ht he2 hP⟩, hS.F ht⟩) hS.2.2 dX6_isFactor_16 hlk
set_option maxRecDepth 100000 in
set_option maxHeartbeats 4000000 in
theorem kX6_isFactor (C : s_X p s m meth c args cX6_isFactor (some .boolean) 1 RX6 G cy sa ad 27) (σ : Sg) (x0 : Int32) (ls : Array Slot) (H : Heap) (locs : List Loc) (hl : lv_has ls 1 [(0, .int x0)]) (hP : va_P G vwCl ((s_WC cy ad) σ) H) (hS : va_S (s_A ad 27 s.heap.size) s.heap H locs) (hf : fX6_isFactor σ x0 = some (re, σe)) : W p l e ({ frames := 0, cells := 0, slots := 0, locals := 0 } : Room) s m args below meth c H locs 0 0 (MQ below (s_Qi (s_WC cy ad) G (s_A ad 27 s.heap.size) re σe) args s 0 0 (s_A ad 27 s.heap.size)) (F0 m 0 ls []) := by
  obtain ⟨hx, hb, hr, hml, hown, hts, hlk, hK, hE, hI⟩ := id C
  have hD : ∀ σ : Sg, va_D (s_A ad 27 s.heap.size) ((s_WC cy ad) σ) := fun σ => s_D (s_WC_ad cy ad σ) hI (fun k hk => Or.inl ⟨k, hk, rfl⟩)
  unfold fX6_isFactor at hf
  refine lv_iload_n hx hb dX6_isFactor_0 rfl (lv_at hl 0 rfl) ?_
  refine lv_iconst (v := 1) hx hb dX6_isFactor_1 (by decide) ?_
  refine lv_icmp_lt (tgt := 15) hx hb dX6_isFactor_2 (by decide) (fun c1 => ?_) (fun c1 => ?_)
  · rw [if_pos c1] at hf
    exact kX6_isFactor_b15 C σ _ _ _ (lv_sub hl [] rfl) hP hS hf
  · rw [if_neg c1] at hf
    refine lv_iload_n hx hb dX6_isFactor_5 rfl (lv_at hl 0 rfl) ?_
    refine lv_bipush (v := 20) hx hb dX6_isFactor_6 (by decide) ?_
    refine lv_icmp_gt (tgt := 15) hx hb dX6_isFactor_8 (by decide) (fun c2 => ?_) (fun c2 => ?_)
    · rw [if_pos c2] at hf
      exact kX6_isFactor_b15 C σ _ _ _ (lv_sub hl [] rfl) hP hS hf
    · rw [if_neg c2] at hf
      refine lv_iconst (v := 1) hx hb dX6_isFactor_11 (by decide) ?_
      refine lv_goto (tgt := 16) hx hb dX6_isFactor_12 (by decide) ?_
      obtain ⟨he1, he2⟩ := s_ret hf
      exact W.zret hx hb hr rfl (fun t ht hW => ⟨⟨_, (), rfl, he1, s_fin (Wd := (s_WC cy ad)) ht he2 hP⟩, hS.F ht⟩) hS.2.2 dX6_isFactor_16 hlk
theorem kcX6_isFactor {l : Launch} {G : va_G} {cy : Nat → ClassId} {sa : Nat × Nat} {ad : Nat → Nat}  {sz : Nat} (hI : s_inj ad 27) (σ : Sg) (x0 : Int32) {re : Int32} {σe : Sg} (hf : fX6_isFactor σ x0 = some (re, σe)) : Met l yX6_isFactor (kW yX6_isFactor cX6_isFactor 1 (some .boolean)) ({ frames := 0, cells := 0, slots := 0, locals := 0 } : Room) (s_P (s_WC cy ad) G cy sa ad 27 [.int x0] sz σ) (s_Qi (s_WC cy ad) G (s_A ad 27 sz) re σe) 0 0 (s_A ad 27 sz) := by
  refine s_met (own := RX6) (by decide) rfl hI (Nat.le_of_ble_eq_true rfl) (fun p e s m below meth c ls hsz C hP hl => ?_)
  subst hsz
  exact kX6_isFactor C σ x0 ls _ _ hl hP va_S.rf hf
set_option maxRecDepth 100000 in
set_option maxHeartbeats 4000000 in
theorem kX0_isFar_b28 (C : s_X p s m meth c args cX0_isFar (some .boolean) 3 RX0 G cy sa ad 27) (σ : Sg) (ls : Array Slot) (H : Heap) (locs : List Loc) (hl : lv_has ls 3 []) (hP : va_P G vwCl ((s_WC cy ad) σ) H) (hS : va_S (s_A ad 27 s.heap.size) s.heap H locs) (hf : fX0_isFar_b28 σ = some (re, σe)) : W p l e ({ frames := 2, cells := 0, slots := 0, locals := 48 } : Room) s m args below meth c H locs 0 0 (MQ below (s_Qi (s_WC cy ad) G (s_A ad 27 s.heap.size) re σe) args s 0 0 (s_A ad 27 s.heap.size)) (F0 m 28 ls []) := by
  obtain ⟨hx, hb, hr, hml, hown, hts, hlk, hK, hE, hI⟩ := id C
  have hD : ∀ σ : Sg, va_D (s_A ad 27 s.heap.size) ((s_WC cy ad) σ) := fun σ => s_D (s_WC_ad cy ad σ) hI (fun k hk => Or.inl ⟨k, hk, rfl⟩)
  unfold fX0_isFar_b28 at hf
  refine lv_iconst (v := 0) hx hb dX0_isFar_28 (by decide) ?_
  obtain ⟨he1, he2⟩ := s_ret hf
  exact W.zret hx hb hr rfl (fun t ht hW => ⟨⟨_, (), rfl, he1, s_fin (Wd := (s_WC cy ad)) ht he2 hP⟩, hS.F ht⟩) hS.2.2 dX0_isFar_29 hlk
set_option maxRecDepth 100000 in
set_option maxHeartbeats 4000000 in
theorem kX0_isFar (C : s_X p s m meth c args cX0_isFar (some .boolean) 3 RX0 G cy sa ad 27) (σ : Sg) (x1 : Int32) (x2 : Int32) (ls : Array Slot) (H : Heap) (locs : List Loc) (hl : lv_has ls 3 [(0, .ref (ad 8)), (1, .int x1), (2, .int x2)]) (hP : va_P G vwCl ((s_WC cy ad) σ) H) (hS : va_S (s_A ad 27 s.heap.size) s.heap H locs) (hf : fX0_isFar σ x1 x2 = some (re, σe)) : W p l e ({ frames := 2, cells := 0, slots := 0, locals := 48 } : Room) s m args below meth c H locs 0 0 (MQ below (s_Qi (s_WC cy ad) G (s_A ad 27 s.heap.size) re σe) args s 0 0 (s_A ad 27 s.heap.size)) (F0 m 0 ls []) := by
  obtain ⟨hx, hb, hr, hml, hown, hts, hlk, hK, hE, hI⟩ := id C
  have hD : ∀ σ : Sg, va_D (s_A ad 27 s.heap.size) ((s_WC cy ad) σ) := fun σ => s_D (s_WC_ad cy ad σ) hI (fun k hk => Or.inl ⟨k, hk, rfl⟩)
  unfold fX0_isFar at hf
  refine lv_iload_n hx hb dX0_isFar_0 rfl (lv_at hl 1 rfl) ?_
  refine lv_ldc (v := 100000000) hx hb hown (hts _ kw_484) dX0_isFar_1 ?_
  refine lv_icmp_eq (tgt := 28) hx hb dX0_isFar_3 (by decide) (fun c1 => ?_) (fun c1 => ?_)
  · rw [if_pos c1] at hf
    exact kX0_isFar_b28 C σ _ _ _ (lv_sub hl [] rfl) hP hS hf
  · rw [if_neg c1] at hf
    refine lv_iload_n hx hb dX0_isFar_6 rfl (lv_at hl 1 rfl) ?_
    refine lv_aload_n hx hb dX0_isFar_7 rfl (lv_at hl 0 rfl) ?_
    replace hf := s_bi_some hf
    obtain ⟨r4, σ2, hz3, hf⟩ := hf
    refine s_calli (nn := 0) C (kcX0_middleValue (l := l) (G := G) (cy := cy) (sa := sa) hI (sz := H.size) σ hz3) gk_X0_91 rfl rfl (by decide +kernel) ⟨Nat.le_of_ble_eq_true rfl, Nat.le_of_ble_eq_true rfl⟩ hP hS (q0 := 8) (ci := 0) rfl rfl rfl (As := []) (rest := [.int x1]) rfl rfl hl.1 (Nat.le_of_ble_eq_true rfl) dX0_isFar_8 (fun H locs hP hS => ?_)
    refine lv_isub hx hb dX0_isFar_11 ?_
    refine va_mabs hx hb (hml.trans hl.1.symm) hown (hts _ kw_547) (hts _ kw_548) (hts _ kw_69) (hts _ kw_549) (Nat.le_of_ble_eq_true rfl) (Nat.le_of_ble_eq_true rfl) (Nat.zero_le _) (Nat.zero_le _) dX0_isFar_12 ?_
    refine lv_topi (fun t5 et5 => ?_)
    replace hf := s_lt_at et5 hf
    refine lv_iload_n hx hb dX0_isFar_15 rfl (lv_at hl 2 rfl) ?_
    refine lv_aload_n hx hb dX0_isFar_16 rfl (lv_at hl 0 rfl) ?_
    replace hf := s_bi_some hf
    obtain ⟨r8, σ6, hz7, hf⟩ := hf
    refine s_calli (nn := 0) C (kcX0_spread (l := l) (G := G) (cy := cy) (sa := sa) hI (sz := H.size) σ2 hz7) gk_X0_94 rfl rfl (by decide +kernel) ⟨Nat.le_of_ble_eq_true rfl, Nat.le_of_ble_eq_true rfl⟩ hP hS (q0 := 8) (ci := 0) rfl rfl rfl (As := []) (rest := [.int x2, .int t5]) rfl rfl hl.1 (Nat.le_of_ble_eq_true rfl) dX0_isFar_17 (fun H locs hP hS => ?_)
    refine lv_imul hx hb dX0_isFar_20 ?_
    refine lv_icmp_le (tgt := 28) hx hb dX0_isFar_21 (by decide) (fun c9 => ?_) (fun c9 => ?_)
    · rw [if_pos c9] at hf
      exact kX0_isFar_b28 C σ6 _ _ _ (lv_sub hl [] rfl) hP hS hf
    · rw [if_neg c9] at hf
      refine lv_iconst (v := 1) hx hb dX0_isFar_24 (by decide) ?_
      refine lv_goto (tgt := 29) hx hb dX0_isFar_25 (by decide) ?_
      obtain ⟨he1, he2⟩ := s_ret hf
      exact W.zret hx hb hr rfl (fun t ht hW => ⟨⟨_, (), rfl, he1, s_fin (Wd := (s_WC cy ad)) ht he2 hP⟩, hS.F ht⟩) hS.2.2 dX0_isFar_29 hlk
theorem kcX0_isFar {l : Launch} {G : va_G} {cy : Nat → ClassId} {sa : Nat × Nat} {ad : Nat → Nat}  {sz : Nat} (hI : s_inj ad 27) (σ : Sg) (x1 : Int32) (x2 : Int32) {re : Int32} {σe : Sg} (hf : fX0_isFar σ x1 x2 = some (re, σe)) : Met l yX0_isFar (kW yX0_isFar cX0_isFar 3 (some .boolean)) ({ frames := 2, cells := 0, slots := 0, locals := 48 } : Room) (s_P (s_WC cy ad) G cy sa ad 27 [.ref (ad 8), .int x1, .int x2] sz σ) (s_Qi (s_WC cy ad) G (s_A ad 27 sz) re σe) 0 0 (s_A ad 27 sz) := by
  refine s_met (own := RX0) (by decide) rfl hI (Nat.le_of_ble_eq_true rfl) (fun p e s m below meth c ls hsz C hP hl => ?_)
  subst hsz
  exact kX0_isFar C σ x1 x2 ls _ _ hl hP va_S.rf hf
set_option maxRecDepth 100000 in
set_option maxHeartbeats 4000000 in
theorem kX6_far_b18 (C : s_X p s m meth c args cX6_far (some .int) 3 RX6 G cy sa ad 27) (σ : Sg) (ls : Array Slot) (H : Heap) (locs : List Loc) (hl : lv_has ls 3 []) (hP : va_P G vwCl ((s_WC cy ad) σ) H) (hS : va_S (s_A ad 27 s.heap.size) s.heap H locs) (hf : fX6_far_b18 σ = some (re, σe)) : W p l e ({ frames := 3, cells := 0, slots := 0, locals := 70 } : Room) s m args below meth c H locs 0 0 (MQ below (s_Qi (s_WC cy ad) G (s_A ad 27 s.heap.size) re σe) args s 0 0 (s_A ad 27 s.heap.size)) (F0 m 18 ls []) := by
  obtain ⟨hx, hb, hr, hml, hown, hts, hlk, hK, hE, hI⟩ := id C
  have hD : ∀ σ : Sg, va_D (s_A ad 27 s.heap.size) ((s_WC cy ad) σ) := fun σ => s_D (s_WC_ad cy ad σ) hI (fun k hk => Or.inl ⟨k, hk, rfl⟩)
  unfold fX6_far_b18 at hf
  refine lv_iconst (v := -1) hx hb dX6_far_18 (by decide) ?_
  obtain ⟨he1, he2⟩ := s_ret hf
  exact W.iret hx hb hr (fun t ht hW => ⟨⟨_, (), rfl, he1, s_fin (Wd := (s_WC cy ad)) ht he2 hP⟩, hS.F ht⟩) hS.2.2 dX6_far_19 hlk
set_option maxRecDepth 100000 in
set_option maxHeartbeats 4000000 in
theorem kX6_far (C : s_X p s m meth c args cX6_far (some .int) 3 RX6 G cy sa ad 27) (σ : Sg) (x1 : Int32) (x2 : Int32) (ls : Array Slot) (H : Heap) (locs : List Loc) (hl : lv_has ls 3 [(0, .ref (ad 0)), (1, .int x1), (2, .int x2)]) (hP : va_P G vwCl ((s_WC cy ad) σ) H) (hS : va_S (s_A ad 27 s.heap.size) s.heap H locs) (hf : fX6_far σ x1 x2 = some (re, σe)) : W p l e ({ frames := 3, cells := 0, slots := 0, locals := 70 } : Room) s m args below meth c H locs 0 0 (MQ below (s_Qi (s_WC cy ad) G (s_A ad 27 s.heap.size) re σe) args s 0 0 (s_A ad 27 s.heap.size)) (F0 m 0 ls []) := by
  obtain ⟨hx, hb, hr, hml, hown, hts, hlk, hK, hE, hI⟩ := id C
  have hD : ∀ σ : Sg, va_D (s_A ad 27 s.heap.size) ((s_WC cy ad) σ) := fun σ => s_D (s_WC_ad cy ad σ) hI (fun k hk => Or.inl ⟨k, hk, rfl⟩)
  unfold fX6_far at hf
  refine lv_aload_n hx hb dX6_far_0 rfl (lv_at hl 0 rfl) ?_
  refine va_get (D := G) (ci := 6) (v := .ref (ad 6)) (C := RX6) (T := TX6) (N := 9) hx hb hts inkX6 hown hK hP 0 rfl rfl 2 (by decide) (hts _ kw_252) (fun _ h9 => h9) rfl dX6_far_1 ?_
  refine lv_iload_n hx hb dX6_far_4 rfl (lv_at hl 1 rfl) ?_
  replace hf := s_bi_some hf
  obtain ⟨r3, σ1, hz2, hf⟩ := hf
  refine s_calli (nn := 1) C (kcX1_has_6 (l := l) (G := G) (cy := cy) (sa := sa) hI (sz := H.size) σ x1 hz2) gk_X6_124 rfl rfl (by decide +kernel) ⟨Nat.le_of_ble_eq_true rfl, Nat.le_of_ble_eq_true rfl⟩ hP hS (q0 := 6) (ci := 1) rfl rfl rfl (As := [.int x1]) (rest := []) rfl rfl hl.1 (Nat.le_of_ble_eq_true rfl) dX6_far_5 (fun H locs hP hS => ?_)
  refine lv_if_eq (tgt := 18) hx hb dX6_far_8 (by decide) (fun c4 => ?_) (fun c4 => ?_)
  · rw [if_pos c4] at hf
    exact kX6_far_b18 C σ1 _ _ _ (lv_sub hl [] rfl) hP hS hf
  · rw [if_neg c4] at hf
    refine lv_iload_n hx hb dX6_far_11 rfl (lv_at hl 2 rfl) ?_
    replace hf := s_bi_some hf
    obtain ⟨r7, σ5, hz6, hf⟩ := hf
    refine s_calliS (nn := 1) C (kcX6_isFactor (l := l) (G := G) (cy := cy) (sa := sa) hI (sz := H.size) σ1 x2 hz6) gk_X6_175 rfl rfl (by decide +kernel) ⟨Nat.le_of_ble_eq_true rfl, Nat.le_of_ble_eq_true rfl⟩ hP hS (As := [.int x2]) (rest := []) rfl rfl hl.1 (Nat.le_of_ble_eq_true rfl) dX6_far_12 (fun H locs hP hS => ?_)
    refine lv_if_ne (tgt := 20) hx hb dX6_far_15 (by decide) (fun c8 => ?_) (fun c8 => ?_)
    · rw [if_neg c8] at hf
      refine lv_aload_n hx hb dX6_far_20 rfl (lv_at hl 0 rfl) ?_
      refine va_get (D := G) (ci := 6) (v := .ref (ad 8)) (C := RX6) (T := TX6) (N := 9) hx hb hts inkX6 hown hK hP 0 rfl rfl 3 (by decide) (hts _ kw_253) (fun _ h9 => h9) rfl dX6_far_21 ?_
      refine lv_iload_n hx hb dX6_far_24 rfl (lv_at hl 1 rfl) ?_
      replace hf := s_bv_some hf
      obtain ⟨σ9, hz10, hf⟩ := hf
      refine s_callv (nn := 1) C (kcX0_load (l := l) (G := G) (cy := cy) (sa := sa) hI (sz := H.size) σ5 x1 hz10) gk_X6_128 rfl rfl (by decide +kernel) ⟨Nat.le_of_ble_eq_true rfl, Nat.le_of_ble_eq_true rfl⟩ hP hS (q0 := 8) (ci := 0) rfl rfl rfl (As := [.int x1]) (rest := []) rfl rfl hl.1 (Nat.le_of_ble_eq_true rfl) dX6_far_25 (fun H locs hP hS => ?_)
      refine lv_aload_n hx hb dX6_far_28 rfl (lv_at hl 0 rfl) ?_
      refine va_get (D := G) (ci := 6) (v := .ref (ad 8)) (C := RX6) (T := TX6) (N := 9) hx hb hts inkX6 hown hK hP 0 rfl rfl 3 (by decide) (hts _ kw_253) (fun _ h9 => h9) rfl dX6_far_29 ?_
      refine lv_aload_n hx hb dX6_far_32 rfl (lv_at hl 0 rfl) ?_
      refine va_get (D := G) (ci := 6) (v := .ref (ad 6)) (C := RX6) (T := TX6) (N := 9) hx hb hts inkX6 hown hK hP 0 rfl rfl 2 (by decide) (hts _ kw_252) (fun _ h9 => h9) rfl dX6_far_33 ?_
      refine lv_iload_n hx hb dX6_far_36 rfl (lv_at hl 1 rfl) ?_
      replace hf := s_bi_some hf
      obtain ⟨r13, σ11, hz12, hf⟩ := hf
      refine s_calli (nn := 1) C (kcX1_valueAt_6 (l := l) (G := G) (cy := cy) (sa := sa) hI (sz := H.size) σ9 x1 hz12) gk_X6_120 rfl rfl (by decide +kernel) ⟨Nat.le_of_ble_eq_true rfl, Nat.le_of_ble_eq_true rfl⟩ hP hS (q0 := 6) (ci := 1) rfl rfl rfl (As := [.int x1]) (rest := [.ref (ad 8)]) rfl rfl hl.1 (Nat.le_of_ble_eq_true rfl) dX6_far_37 (fun H locs hP hS => ?_)
      refine lv_iload_n hx hb dX6_far_40 rfl (lv_at hl 2 rfl) ?_
      replace hf := s_bi_some hf
      obtain ⟨r16, σ14, hz15, hf⟩ := hf
      refine s_calli (nn := 2) C (kcX0_isFar (l := l) (G := G) (cy := cy) (sa := sa) hI (sz := H.size) σ11 r13 x2 hz15) gk_X6_178 rfl rfl (by decide +kernel) ⟨Nat.le_of_ble_eq_true rfl, Nat.le_of_ble_eq_true rfl⟩ hP hS (q0 := 8) (ci := 0) rfl rfl rfl (As := [.int r13, .int x2]) (rest := []) rfl rfl hl.1 (Nat.le_of_ble_eq_true rfl) dX6_far_41 (fun H locs hP hS => ?_)
      refine lv_if_eq (tgt := 51) hx hb dX6_far_44 (by decide) (fun c17 => ?_) (fun c17 => ?_)
      · rw [if_pos c17] at hf
        refine lv_iconst (v := 0) hx hb dX6_far_51 (by decide) ?_
        obtain ⟨he1, he2⟩ := s_ret hf
        exact W.iret hx hb hr (fun t ht hW => ⟨⟨_, (), rfl, he1, s_fin (Wd := (s_WC cy ad)) ht he2 hP⟩, hS.F ht⟩) hS.2.2 dX6_far_52 hlk
      · rw [if_neg c17] at hf
        refine lv_iconst (v := 1) hx hb dX6_far_47 (by decide) ?_
        refine lv_goto (tgt := 52) hx hb dX6_far_48 (by decide) ?_
        obtain ⟨he1, he2⟩ := s_ret hf
        exact W.iret hx hb hr (fun t ht hW => ⟨⟨_, (), rfl, he1, s_fin (Wd := (s_WC cy ad)) ht he2 hP⟩, hS.F ht⟩) hS.2.2 dX6_far_52 hlk
    · rw [if_pos c8] at hf
      exact kX6_far_b18 C σ5 _ _ _ (lv_sub hl [] rfl) hP hS hf
theorem kcX6_far {l : Launch} {G : va_G} {cy : Nat → ClassId} {sa : Nat × Nat} {ad : Nat → Nat}  {sz : Nat} (hI : s_inj ad 27) (σ : Sg) (x1 : Int32) (x2 : Int32) {re : Int32} {σe : Sg} (hf : fX6_far σ x1 x2 = some (re, σe)) : Met l yX6_far (kW yX6_far cX6_far 3 (some .int)) ({ frames := 3, cells := 0, slots := 0, locals := 70 } : Room) (s_P (s_WC cy ad) G cy sa ad 27 [.ref (ad 0), .int x1, .int x2] sz σ) (s_Qi (s_WC cy ad) G (s_A ad 27 sz) re σe) 0 0 (s_A ad 27 sz) := by
  refine s_met (own := RX6) (by decide) rfl hI (Nat.le_of_ble_eq_true rfl) (fun p e s m below meth c ls hsz C hP hl => ?_)
  subst hsz
  exact kX6_far C σ x1 x2 ls _ _ hl hP va_S.rf hf
set_option maxRecDepth 100000 in
set_option maxHeartbeats 4000000 in
theorem kX6_fars_b61 (C : s_X p s m meth c args cX6_fars (some .int) 4 RX6 G cy sa ad 27) (k20 : Sg → Int32 → Int32 → Int32 → Option (Int32 × Sg)) (hk20 : ∀ (σ : Sg) (x1 : Int32) (x2 : Int32) (x3 : Int32) (ls : Array Slot) (H : Heap) (locs : List Loc), lv_has ls 4 [(0, .ref (ad 0)), (1, .int x1), (2, .int x2), (3, .int x3)] → va_P G vwCl ((s_WC cy ad) σ) H → va_S (s_A ad 27 s.heap.size) s.heap H locs → k20 σ x1 x2 x3 = some (re, σe) → W p l e ({ frames := 3, cells := 0, slots := 0, locals := 70 } : Room) s m args below meth c H locs 0 0 (MQ below (s_Qi (s_WC cy ad) G (s_A ad 27 s.heap.size) re σe) args s 0 0 (s_A ad 27 s.heap.size)) (F0 m 20 ls [])) (σ : Sg) (x1 : Int32) (x2 : Int32) (x3 : Int32) (ls : Array Slot) (H : Heap) (locs : List Loc) (hl : lv_has ls 4 [(0, .ref (ad 0)), (1, .int x1), (2, .int x2), (3, .int x3)]) (hP : va_P G vwCl ((s_WC cy ad) σ) H) (hS : va_S (s_A ad 27 s.heap.size) s.heap H locs) (hf : fX6_fars_b61 k20 σ x1 x2 x3 = some (re, σe)) : W p l e ({ frames := 3, cells := 0, slots := 0, locals := 70 } : Room) s m args below meth c H locs 0 0 (MQ below (s_Qi (s_WC cy ad) G (s_A ad 27 s.heap.size) re σe) args s 0 0 (s_A ad 27 s.heap.size)) (F0 m 61 ls []) := by
  obtain ⟨hx, hb, hr, hml, hown, hts, hlk, hK, hE, hI⟩ := id C
  have hD : ∀ σ : Sg, va_D (s_A ad 27 s.heap.size) ((s_WC cy ad) σ) := fun σ => s_D (s_WC_ad cy ad σ) hI (fun k hk => Or.inl ⟨k, hk, rfl⟩)
  unfold fX6_fars_b61 at hf
  obtain ⟨t1, et1⟩ : ∃ z : Int32, z = (x3 + 1) := ⟨_, rfl⟩
  replace hf := s_lt_at et1 hf
  refine lv_iinc (v := t1) (lv' := [(3, .int t1), (0, .ref (ad 0)), (1, .int x1), (2, .int x2)]) hx hb dX6_fars_61 hl (k := 3) rfl (by rw [et1]; rfl) (by decide) rfl (fun ls hl => ?_)
  refine lv_goto (tgt := 20) hx hb dX6_fars_64 (by decide) ?_
  exact hk20 σ x1 x2 t1 _ _ _ (lv_sub hl [1, 2, 3, 0] rfl) hP hS hf
set_option maxRecDepth 100000 in
set_option maxHeartbeats 4000000 in
theorem kX6_fars_b20 (C : s_X p s m meth c args cX6_fars (some .int) 4 RX6 G cy sa ad 27) (k20 : Sg → Int32 → Int32 → Int32 → Option (Int32 × Sg)) (hk20 : ∀ (σ : Sg) (x1 : Int32) (x2 : Int32) (x3 : Int32) (ls : Array Slot) (H : Heap) (locs : List Loc), lv_has ls 4 [(0, .ref (ad 0)), (1, .int x1), (2, .int x2), (3, .int x3)] → va_P G vwCl ((s_WC cy ad) σ) H → va_S (s_A ad 27 s.heap.size) s.heap H locs → k20 σ x1 x2 x3 = some (re, σe) → W p l e ({ frames := 3, cells := 0, slots := 0, locals := 70 } : Room) s m args below meth c H locs 0 0 (MQ below (s_Qi (s_WC cy ad) G (s_A ad 27 s.heap.size) re σe) args s 0 0 (s_A ad 27 s.heap.size)) (F0 m 20 ls [])) (σ : Sg) (x1 : Int32) (x2 : Int32) (x3 : Int32) (ls : Array Slot) (H : Heap) (locs : List Loc) (hl : lv_has ls 4 [(0, .ref (ad 0)), (1, .int x1), (2, .int x2), (3, .int x3)]) (hP : va_P G vwCl ((s_WC cy ad) σ) H) (hS : va_S (s_A ad 27 s.heap.size) s.heap H locs) (hf : fX6_fars_b20 k20 σ x1 x2 x3 = some (re, σe)) : W p l e ({ frames := 3, cells := 0, slots := 0, locals := 70 } : Room) s m args below meth c H locs 0 0 (MQ below (s_Qi (s_WC cy ad) G (s_A ad 27 s.heap.size) re σe) args s 0 0 (s_A ad 27 s.heap.size)) (F0 m 20 ls []) := by
  obtain ⟨hx, hb, hr, hml, hown, hts, hlk, hK, hE, hI⟩ := id C
  have hD : ∀ σ : Sg, va_D (s_A ad 27 s.heap.size) ((s_WC cy ad) σ) := fun σ => s_D (s_WC_ad cy ad σ) hI (fun k hk => Or.inl ⟨k, hk, rfl⟩)
  unfold fX6_fars_b20 at hf
  refine lv_iload_n hx hb dX6_fars_20 rfl (lv_at hl 3 rfl) ?_
  refine lv_aload_n hx hb dX6_fars_21 rfl (lv_at hl 0 rfl) ?_
  refine va_get (D := G) (ci := 6) (v := .ref (ad 6)) (C := RX6) (T := TX6) (N := 9) hx hb hts inkX6 hown hK hP 0 rfl rfl 2 (by decide) (hts _ kw_252) (fun _ h9 => h9) rfl dX6_fars_22 ?_
  refine va_getN (D := G) (ci := 1) (v := .int (σ 6 1)) (C := RX1) (T := TX1) (N := 8) hx hb hts inkX1 hown hK hP 6 rfl rfl 1 (by decide) (kn_X6_89 hE) (fun _ h9 => h9) rfl dX6_fars_25 ?_
  refine lv_icmp_ge (tgt := 67) hx hb dX6_fars_28 (by decide) (fun c1 => ?_) (fun c1 => ?_)
  · rw [if_pos c1] at hf
    refine lv_iload_n hx hb dX6_fars_67 rfl (lv_at hl 2 rfl) ?_
    obtain ⟨he1, he2⟩ := s_ret hf
    exact W.iret hx hb hr (fun t ht hW => ⟨⟨_, (), rfl, he1, s_fin (Wd := (s_WC cy ad)) ht he2 hP⟩, hS.F ht⟩) hS.2.2 dX6_fars_68 hlk
  · rw [if_neg c1] at hf
    refine lv_aload_n hx hb dX6_fars_31 rfl (lv_at hl 0 rfl) ?_
    refine va_get (D := G) (ci := 6) (v := .ref (ad 8)) (C := RX6) (T := TX6) (N := 9) hx hb hts inkX6 hown hK hP 0 rfl rfl 3 (by decide) (hts _ kw_253) (fun _ h9 => h9) rfl dX6_fars_32 ?_
    refine lv_iload_n hx hb dX6_fars_35 rfl (lv_at hl 3 rfl) ?_
    replace hf := s_bv_some hf
    obtain ⟨σ2, hz3, hf⟩ := hf
    refine s_callv (nn := 1) C (kcX0_slideTo (l := l) (G := G) (cy := cy) (sa := sa) hI (sz := H.size) σ x3 hz3) gk_X6_185 rfl rfl (by decide +kernel) ⟨Nat.le_of_ble_eq_true rfl, Nat.le_of_ble_eq_true rfl⟩ hP hS (q0 := 8) (ci := 0) rfl rfl rfl (As := [.int x3]) (rest := []) rfl rfl hl.1 (Nat.le_of_ble_eq_true rfl) dX6_fars_36 (fun H locs hP hS => ?_)
    refine lv_aload_n hx hb dX6_fars_39 rfl (lv_at hl 0 rfl) ?_
    refine va_get (D := G) (ci := 6) (v := .ref (ad 8)) (C := RX6) (T := TX6) (N := 9) hx hb hts inkX6 hown hK hP 0 rfl rfl 3 (by decide) (hts _ kw_253) (fun _ h9 => h9) rfl dX6_fars_40 ?_
    refine lv_aload_n hx hb dX6_fars_43 rfl (lv_at hl 0 rfl) ?_
    refine va_get (D := G) (ci := 6) (v := .ref (ad 6)) (C := RX6) (T := TX6) (N := 9) hx hb hts inkX6 hown hK hP 0 rfl rfl 2 (by decide) (hts _ kw_252) (fun _ h9 => h9) rfl dX6_fars_44 ?_
    refine lv_iload_n hx hb dX6_fars_47 rfl (lv_at hl 3 rfl) ?_
    replace hf := s_bi_some hf
    obtain ⟨r6, σ4, hz5, hf⟩ := hf
    refine s_calli (nn := 1) C (kcX1_valueAt_6 (l := l) (G := G) (cy := cy) (sa := sa) hI (sz := H.size) σ2 x3 hz5) gk_X6_120 rfl rfl (by decide +kernel) ⟨Nat.le_of_ble_eq_true rfl, Nat.le_of_ble_eq_true rfl⟩ hP hS (q0 := 6) (ci := 1) rfl rfl rfl (As := [.int x3]) (rest := [.ref (ad 8)]) rfl rfl hl.1 (Nat.le_of_ble_eq_true rfl) dX6_fars_48 (fun H locs hP hS => ?_)
    refine lv_iload_n hx hb dX6_fars_51 rfl (lv_at hl 1 rfl) ?_
    replace hf := s_bi_some hf
    obtain ⟨r9, σ7, hz8, hf⟩ := hf
    refine s_calli (nn := 2) C (kcX0_isFar (l := l) (G := G) (cy := cy) (sa := sa) hI (sz := H.size) σ4 r6 x1 hz8) gk_X6_178 rfl rfl (by decide +kernel) ⟨Nat.le_of_ble_eq_true rfl, Nat.le_of_ble_eq_true rfl⟩ hP hS (q0 := 8) (ci := 0) rfl rfl rfl (As := [.int r6, .int x1]) (rest := []) rfl rfl hl.1 (Nat.le_of_ble_eq_true rfl) dX6_fars_52 (fun H locs hP hS => ?_)
    refine lv_if_eq (tgt := 61) hx hb dX6_fars_55 (by decide) (fun c10 => ?_) (fun c10 => ?_)
    · rw [if_pos c10] at hf
      exact kX6_fars_b61 C k20 hk20 σ7 x1 x2 x3 _ _ _ (lv_sub hl [0, 1, 2, 3] rfl) hP hS hf
    · rw [if_neg c10] at hf
      obtain ⟨t11, et11⟩ : ∃ z : Int32, z = (x2 + 1) := ⟨_, rfl⟩
      replace hf := s_lt_at et11 hf
      refine lv_iinc (v := t11) (lv' := [(2, .int t11), (0, .ref (ad 0)), (1, .int x1), (3, .int x3)]) hx hb dX6_fars_58 hl (k := 2) rfl (by rw [et11]; rfl) (by decide) rfl (fun ls hl => ?_)
      exact kX6_fars_b61 C k20 hk20 σ7 x1 t11 x3 _ _ _ (lv_sub hl [1, 2, 0, 3] rfl) hP hS hf
set_option maxRecDepth 100000 in
set_option maxHeartbeats 4000000 in
theorem kX6_fars_b20_L (C : s_X p s m meth c args cX6_fars (some .int) 4 RX6 G cy sa ad 27) : ∀ (n : Nat), ∀ (σ : Sg) (x1 : Int32) (x2 : Int32) (x3 : Int32) (ls : Array Slot) (H : Heap) (locs : List Loc), lv_has ls 4 [(0, .ref (ad 0)), (1, .int x1), (2, .int x2), (3, .int x3)] → va_P G vwCl ((s_WC cy ad) σ) H → va_S (s_A ad 27 s.heap.size) s.heap H locs → fX6_fars_b20_L n σ x1 x2 x3 = some (re, σe) → W p l e ({ frames := 3, cells := 0, slots := 0, locals := 70 } : Room) s m args below meth c H locs 0 0 (MQ below (s_Qi (s_WC cy ad) G (s_A ad 27 s.heap.size) re σe) args s 0 0 (s_A ad 27 s.heap.size)) (F0 m 20 ls []) := by
  intro n
  induction n with
  | zero => intro σ x1 x2 x3 ls H locs hl hP hS hf; exact absurd (show (none : Option (Int32 × Sg)) = some (re, σe) from hf) (by intro h; cases h)
  | succ n ih => intro σ x1 x2 x3 ls H locs hl hP hS hf; exact kX6_fars_b20 C (fX6_fars_b20_L n) ih σ x1 x2 x3 ls H locs hl hP hS hf
set_option maxRecDepth 100000 in
set_option maxHeartbeats 4000000 in
theorem kX6_fars (C : s_X p s m meth c args cX6_fars (some .int) 4 RX6 G cy sa ad 27) (σ : Sg) (x1 : Int32) (ls : Array Slot) (H : Heap) (locs : List Loc) (hl : lv_has ls 4 [(0, .ref (ad 0)), (1, .int x1)]) (hP : va_P G vwCl ((s_WC cy ad) σ) H) (hS : va_S (s_A ad 27 s.heap.size) s.heap H locs) (hf : fX6_fars σ x1 = some (re, σe)) : W p l e ({ frames := 3, cells := 0, slots := 0, locals := 70 } : Room) s m args below meth c H locs 0 0 (MQ below (s_Qi (s_WC cy ad) G (s_A ad 27 s.heap.size) re σe) args s 0 0 (s_A ad 27 s.heap.size)) (F0 m 0 ls []) := by
  obtain ⟨hx, hb, hr, hml, hown, hts, hlk, hK, hE, hI⟩ := id C
  have hD : ∀ σ : Sg, va_D (s_A ad 27 s.heap.size) ((s_WC cy ad) σ) := fun σ => s_D (s_WC_ad cy ad σ) hI (fun k hk => Or.inl ⟨k, hk, rfl⟩)
  unfold fX6_fars at hf
  refine lv_iload_n hx hb dX6_fars_0 rfl (lv_at hl 1 rfl) ?_
  replace hf := s_bi_some hf
  obtain ⟨r3, σ1, hz2, hf⟩ := hf
  refine s_calliS (nn := 1) C (kcX6_isFactor (l := l) (G := G) (cy := cy) (sa := sa) hI (sz := H.size) σ x1 hz2) gk_X6_175 rfl rfl (by decide +kernel) ⟨Nat.le_of_ble_eq_true rfl, Nat.le_of_ble_eq_true rfl⟩ hP hS (As := [.int x1]) (rest := []) rfl rfl hl.1 (Nat.le_of_ble_eq_true rfl) dX6_fars_1 (fun H locs hP hS => ?_)
  refine lv_if_ne (tgt := 9) hx hb dX6_fars_4 (by decide) (fun c4 => ?_) (fun c4 => ?_)
  · rw [if_neg c4] at hf
    refine lv_iconst (v := 0) hx hb dX6_fars_9 (by decide) ?_
    refine lv_istore_n (lv' := [(2, .int (0 : Int32)), (0, .ref (ad 0)), (1, .int x1)]) hx hb dX6_fars_10 rfl hl (by decide) rfl (fun ls hl => ?_)
    refine lv_aload_n hx hb dX6_fars_11 rfl (lv_at hl 1 rfl) ?_
    refine va_get (D := G) (ci := 6) (v := .ref (ad 8)) (C := RX6) (T := TX6) (N := 9) hx hb hts inkX6 hown hK hP 0 rfl rfl 3 (by decide) (hts _ kw_253) (fun _ h9 => h9) rfl dX6_fars_12 ?_
    replace hf := s_bv_some hf
    obtain ⟨σ5, hz6, hf⟩ := hf
    refine s_callv (nn := 0) C (kcX0_clear (l := l) (G := G) (cy := cy) (sa := sa) hI (sz := H.size) σ1 hz6) gk_X6_182 rfl rfl (by decide +kernel) ⟨Nat.le_of_ble_eq_true rfl, Nat.le_of_ble_eq_true rfl⟩ hP hS (q0 := 8) (ci := 0) rfl rfl rfl (As := []) (rest := []) rfl rfl hl.1 (Nat.le_of_ble_eq_true rfl) dX6_fars_15 (fun H locs hP hS => ?_)
    refine lv_iconst (v := 0) hx hb dX6_fars_18 (by decide) ?_
    refine lv_istore_n (lv' := [(3, .int (0 : Int32)), (2, .int (0 : Int32)), (0, .ref (ad 0)), (1, .int x1)]) hx hb dX6_fars_19 rfl hl (by decide) rfl (fun ls hl => ?_)
    exact kX6_fars_b20_L C s_fu σ5 x1 (0 : Int32) (0 : Int32) _ _ _ (lv_sub hl [2, 3, 1, 0] rfl) hP hS hf
  · rw [if_pos c4] at hf
    refine lv_iconst (v := -1) hx hb dX6_fars_7 (by decide) ?_
    obtain ⟨he1, he2⟩ := s_ret hf
    exact W.iret hx hb hr (fun t ht hW => ⟨⟨_, (), rfl, he1, s_fin (Wd := (s_WC cy ad)) ht he2 hP⟩, hS.F ht⟩) hS.2.2 dX6_fars_8 hlk
theorem kcX6_fars {l : Launch} {G : va_G} {cy : Nat → ClassId} {sa : Nat × Nat} {ad : Nat → Nat}  {sz : Nat} (hI : s_inj ad 27) (σ : Sg) (x1 : Int32) {re : Int32} {σe : Sg} (hf : fX6_fars σ x1 = some (re, σe)) : Met l yX6_fars (kW yX6_fars cX6_fars 4 (some .int)) ({ frames := 3, cells := 0, slots := 0, locals := 70 } : Room) (s_P (s_WC cy ad) G cy sa ad 27 [.ref (ad 0), .int x1] sz σ) (s_Qi (s_WC cy ad) G (s_A ad 27 sz) re σe) 0 0 (s_A ad 27 sz) := by
  refine s_met (own := RX6) (by decide) rfl hI (Nat.le_of_ble_eq_true rfl) (fun p e s m below meth c ls hsz C hP hl => ?_)
  subst hsz
  exact kX6_fars C σ x1 ls _ _ hl hP va_S.rf hf
set_option maxRecDepth 100000 in
set_option maxHeartbeats 4000000 in
theorem kX0_isAbove_b28 (C : s_X p s m meth c args cX0_isAbove (some .boolean) 2 RX0 G cy sa ad 27) (σ : Sg) (ls : Array Slot) (H : Heap) (locs : List Loc) (hl : lv_has ls 2 []) (hP : va_P G vwCl ((s_WC cy ad) σ) H) (hS : va_S (s_A ad 27 s.heap.size) s.heap H locs) (hf : fX0_isAbove_b28 σ = some (re, σe)) : W p l e ({ frames := 2, cells := 0, slots := 0, locals := 46 } : Room) s m args below meth c H locs 0 0 (MQ below (s_Qi (s_WC cy ad) G (s_A ad 27 s.heap.size) re σe) args s 0 0 (s_A ad 27 s.heap.size)) (F0 m 28 ls []) := by
  obtain ⟨hx, hb, hr, hml, hown, hts, hlk, hK, hE, hI⟩ := id C
  have hD : ∀ σ : Sg, va_D (s_A ad 27 s.heap.size) ((s_WC cy ad) σ) := fun σ => s_D (s_WC_ad cy ad σ) hI (fun k hk => Or.inl ⟨k, hk, rfl⟩)
  unfold fX0_isAbove_b28 at hf
  refine lv_iconst (v := 0) hx hb dX0_isAbove_28 (by decide) ?_
  obtain ⟨he1, he2⟩ := s_ret hf
  exact W.zret hx hb hr rfl (fun t ht hW => ⟨⟨_, (), rfl, he1, s_fin (Wd := (s_WC cy ad)) ht he2 hP⟩, hS.F ht⟩) hS.2.2 dX0_isAbove_29 hlk
set_option maxRecDepth 100000 in
set_option maxHeartbeats 4000000 in
theorem kX0_isAbove (C : s_X p s m meth c args cX0_isAbove (some .boolean) 2 RX0 G cy sa ad 27) (σ : Sg) (x1 : Int32) (ls : Array Slot) (H : Heap) (locs : List Loc) (hl : lv_has ls 2 [(0, .ref (ad 8)), (1, .int x1)]) (hP : va_P G vwCl ((s_WC cy ad) σ) H) (hS : va_S (s_A ad 27 s.heap.size) s.heap H locs) (hf : fX0_isAbove σ x1 = some (re, σe)) : W p l e ({ frames := 2, cells := 0, slots := 0, locals := 46 } : Room) s m args below meth c H locs 0 0 (MQ below (s_Qi (s_WC cy ad) G (s_A ad 27 s.heap.size) re σe) args s 0 0 (s_A ad 27 s.heap.size)) (F0 m 0 ls []) := by
  obtain ⟨hx, hb, hr, hml, hown, hts, hlk, hK, hE, hI⟩ := id C
  have hD : ∀ σ : Sg, va_D (s_A ad 27 s.heap.size) ((s_WC cy ad) σ) := fun σ => s_D (s_WC_ad cy ad σ) hI (fun k hk => Or.inl ⟨k, hk, rfl⟩)
  unfold fX0_isAbove at hf
  refine lv_aload_n hx hb dX0_isAbove_0 rfl (lv_at hl 0 rfl) ?_
  replace hf := s_bi_some hf
  obtain ⟨r3, σ1, hz2, hf⟩ := hf
  refine s_calli (nn := 0) C (kcX0_hasResult (l := l) (G := G) (cy := cy) (sa := sa) hI (sz := H.size) σ hz2) gk_X0_87 rfl rfl (by decide +kernel) ⟨Nat.le_of_ble_eq_true rfl, Nat.le_of_ble_eq_true rfl⟩ hP hS (q0 := 8) (ci := 0) rfl rfl rfl (As := []) (rest := []) rfl rfl hl.1 (Nat.le_of_ble_eq_true rfl) dX0_isAbove_1 (fun H locs hP hS => ?_)
  refine lv_if_eq (tgt := 28) hx hb dX0_isAbove_4 (by decide) (fun c4 => ?_) (fun c4 => ?_)
  · rw [if_pos c4] at hf
    exact kX0_isAbove_b28 C σ1 _ _ _ (lv_sub hl [] rfl) hP hS hf
  · rw [if_neg c4] at hf
    refine lv_aload_n hx hb dX0_isAbove_7 rfl (lv_at hl 0 rfl) ?_
    replace hf := s_bi_some hf
    obtain ⟨r7, σ5, hz6, hf⟩ := hf
    refine s_calli (nn := 0) C (kcX0_numerator (l := l) (G := G) (cy := cy) (sa := sa) hI (sz := H.size) σ1 hz6) gk_X0_78 rfl rfl (by decide +kernel) ⟨Nat.le_of_ble_eq_true rfl, Nat.le_of_ble_eq_true rfl⟩ hP hS (q0 := 8) (ci := 0) rfl rfl rfl (As := []) (rest := []) rfl rfl hl.1 (Nat.le_of_ble_eq_true rfl) dX0_isAbove_8 (fun H locs hP hS => ?_)
    refine lv_i2l (v := (Int32.toInt64 r7)) hx hb dX0_isAbove_11 rfl ?_
    refine lv_iload_n hx hb dX0_isAbove_12 rfl (lv_at hl 1 rfl) ?_
    refine lv_i2l (v := (Int32.toInt64 x1)) hx hb dX0_isAbove_13 rfl ?_
    refine lv_aload_n hx hb dX0_isAbove_14 rfl (lv_at hl 0 rfl) ?_
    replace hf := s_bi_some hf
    obtain ⟨r10, σ8, hz9, hf⟩ := hf
    refine s_calli (nn := 0) C (kcX0_denominator (l := l) (G := G) (cy := cy) (sa := sa) hI (sz := H.size) σ5 hz9) gk_X0_81 rfl rfl (by decide +kernel) ⟨Nat.le_of_ble_eq_true rfl, Nat.le_of_ble_eq_true rfl⟩ hP hS (q0 := 8) (ci := 0) rfl rfl rfl (As := []) (rest := [.long (Int32.toInt64 x1), .long (Int32.toInt64 r7)]) rfl rfl hl.1 (Nat.le_of_ble_eq_true rfl) dX0_isAbove_15 (fun H locs hP hS => ?_)
    refine lv_i2l (v := (Int32.toInt64 r10)) hx hb dX0_isAbove_18 rfl ?_
    refine lv_lmul hx hb dX0_isAbove_19 ?_
    refine W.lcmp hx hb dX0_isAbove_20 ?_
    refine lv_if_le (tgt := 28) hx hb dX0_isAbove_21 (by decide) (fun c11 => ?_) (fun c11 => ?_)
    · rw [if_pos c11] at hf
      exact kX0_isAbove_b28 C σ8 _ _ _ (lv_sub hl [] rfl) hP hS hf
    · rw [if_neg c11] at hf
      refine lv_iconst (v := 1) hx hb dX0_isAbove_24 (by decide) ?_
      refine lv_goto (tgt := 29) hx hb dX0_isAbove_25 (by decide) ?_
      obtain ⟨he1, he2⟩ := s_ret hf
      exact W.zret hx hb hr rfl (fun t ht hW => ⟨⟨_, (), rfl, he1, s_fin (Wd := (s_WC cy ad)) ht he2 hP⟩, hS.F ht⟩) hS.2.2 dX0_isAbove_29 hlk
theorem kcX0_isAbove {l : Launch} {G : va_G} {cy : Nat → ClassId} {sa : Nat × Nat} {ad : Nat → Nat}  {sz : Nat} (hI : s_inj ad 27) (σ : Sg) (x1 : Int32) {re : Int32} {σe : Sg} (hf : fX0_isAbove σ x1 = some (re, σe)) : Met l yX0_isAbove (kW yX0_isAbove cX0_isAbove 2 (some .boolean)) ({ frames := 2, cells := 0, slots := 0, locals := 46 } : Room) (s_P (s_WC cy ad) G cy sa ad 27 [.ref (ad 8), .int x1] sz σ) (s_Qi (s_WC cy ad) G (s_A ad 27 sz) re σe) 0 0 (s_A ad 27 sz) := by
  refine s_met (own := RX0) (by decide) rfl hI (Nat.le_of_ble_eq_true rfl) (fun p e s m below meth c ls hsz C hP hl => ?_)
  subst hsz
  exact kX0_isAbove C σ x1 ls _ _ hl hP va_S.rf hf
set_option maxRecDepth 100000 in
set_option maxHeartbeats 4000000 in
theorem kX6_above_b9 (C : s_X p s m meth c args cX6_above (some .int) 9 RX6 G cy sa ad 27) (σ : Sg) (ls : Array Slot) (H : Heap) (locs : List Loc) (hl : lv_has ls 9 []) (hP : va_P G vwCl ((s_WC cy ad) σ) H) (hS : va_S (s_A ad 27 s.heap.size) s.heap H locs) (hf : fX6_above_b9 σ = some (re, σe)) : W p l e ({ frames := 3, cells := 0, slots := 0, locals := 67 } : Room) s m args below meth c H locs 0 0 (MQ below (s_Qi (s_WC cy ad) G (s_A ad 27 s.heap.size) re σe) args s 0 0 (s_A ad 27 s.heap.size)) (F0 m 9 ls []) := by
  obtain ⟨hx, hb, hr, hml, hown, hts, hlk, hK, hE, hI⟩ := id C
  have hD : ∀ σ : Sg, va_D (s_A ad 27 s.heap.size) ((s_WC cy ad) σ) := fun σ => s_D (s_WC_ad cy ad σ) hI (fun k hk => Or.inl ⟨k, hk, rfl⟩)
  unfold fX6_above_b9 at hf
  refine lv_iconst (v := -1) hx hb dX6_above_9 (by decide) ?_
  obtain ⟨he1, he2⟩ := s_ret hf
  exact W.iret hx hb hr (fun t ht hW => ⟨⟨_, (), rfl, he1, s_fin (Wd := (s_WC cy ad)) ht he2 hP⟩, hS.F ht⟩) hS.2.2 dX6_above_10 hlk
set_option maxRecDepth 100000 in
set_option maxHeartbeats 4000000 in
theorem kX6_above_b107 (C : s_X p s m meth c args cX6_above (some .int) 9 RX6 G cy sa ad 27) (k37 : Sg → Int32 → Int32 → Int32 → Int32 → Int32 → Int32 → Int32 → Int32 → Option (Int32 × Sg)) (hk37 : ∀ (σ : Sg) (x1 : Int32) (x2 : Int32) (x3 : Int32) (x4 : Int32) (x5 : Int32) (x6 : Int32) (x7 : Int32) (x8 : Int32) (ls : Array Slot) (H : Heap) (locs : List Loc), lv_has ls 9 [(0, .ref (ad 0)), (1, .int x1), (2, .int x2), (3, .int x3), (4, .int x4), (5, .int x5), (6, .int x6), (7, .int x7), (8, .int x8)] → va_P G vwCl ((s_WC cy ad) σ) H → va_S (s_A ad 27 s.heap.size) s.heap H locs → k37 σ x1 x2 x3 x4 x5 x6 x7 x8 = some (re, σe) → W p l e ({ frames := 3, cells := 0, slots := 0, locals := 67 } : Room) s m args below meth c H locs 0 0 (MQ below (s_Qi (s_WC cy ad) G (s_A ad 27 s.heap.size) re σe) args s 0 0 (s_A ad 27 s.heap.size)) (F0 m 37 ls [])) (σ : Sg) (x1 : Int32) (x2 : Int32) (x3 : Int32) (x4 : Int32) (x5 : Int32) (x6 : Int32) (x7 : Int32) (x8 : Int32) (ls : Array Slot) (H : Heap) (locs : List Loc) (hl : lv_has ls 9 [(0, .ref (ad 0)), (1, .int x1), (2, .int x2), (3, .int x3), (4, .int x4), (5, .int x5), (6, .int x6), (7, .int x7), (8, .int x8)]) (hP : va_P G vwCl ((s_WC cy ad) σ) H) (hS : va_S (s_A ad 27 s.heap.size) s.heap H locs) (hf : fX6_above_b107 k37 σ x1 x2 x3 x4 x5 x6 x7 x8 = some (re, σe)) : W p l e ({ frames := 3, cells := 0, slots := 0, locals := 67 } : Room) s m args below meth c H locs 0 0 (MQ below (s_Qi (s_WC cy ad) G (s_A ad 27 s.heap.size) re σe) args s 0 0 (s_A ad 27 s.heap.size)) (F0 m 107 ls []) := by
  obtain ⟨hx, hb, hr, hml, hown, hts, hlk, hK, hE, hI⟩ := id C
  have hD : ∀ σ : Sg, va_D (s_A ad 27 s.heap.size) ((s_WC cy ad) σ) := fun σ => s_D (s_WC_ad cy ad σ) hI (fun k hk => Or.inl ⟨k, hk, rfl⟩)
  unfold fX6_above_b107 at hf
  obtain ⟨t1, et1⟩ : ∃ z : Int32, z = (x8 + 1) := ⟨_, rfl⟩
  replace hf := s_lt_at et1 hf
  refine lv_iinc (v := t1) (lv' := [(8, .int t1), (0, .ref (ad 0)), (1, .int x1), (2, .int x2), (3, .int x3), (4, .int x4), (5, .int x5), (6, .int x6), (7, .int x7)]) hx hb dX6_above_107 hl (k := 8) rfl (by rw [et1]; rfl) (by decide) rfl (fun ls hl => ?_)
  refine lv_goto (tgt := 37) hx hb dX6_above_110 (by decide) ?_
  exact hk37 σ x1 x2 x3 x4 x5 x6 x7 t1 _ _ _ (lv_sub hl [1, 2, 3, 4, 5, 6, 7, 8, 0] rfl) hP hS hf
set_option maxRecDepth 100000 in
set_option maxHeartbeats 4000000 in
theorem kX6_above_b80 (C : s_X p s m meth c args cX6_above (some .int) 9 RX6 G cy sa ad 27) (k37 : Sg → Int32 → Int32 → Int32 → Int32 → Int32 → Int32 → Int32 → Int32 → Option (Int32 × Sg)) (hk37 : ∀ (σ : Sg) (x1 : Int32) (x2 : Int32) (x3 : Int32) (x4 : Int32) (x5 : Int32) (x6 : Int32) (x7 : Int32) (x8 : Int32) (ls : Array Slot) (H : Heap) (locs : List Loc), lv_has ls 9 [(0, .ref (ad 0)), (1, .int x1), (2, .int x2), (3, .int x3), (4, .int x4), (5, .int x5), (6, .int x6), (7, .int x7), (8, .int x8)] → va_P G vwCl ((s_WC cy ad) σ) H → va_S (s_A ad 27 s.heap.size) s.heap H locs → k37 σ x1 x2 x3 x4 x5 x6 x7 x8 = some (re, σe) → W p l e ({ frames := 3, cells := 0, slots := 0, locals := 67 } : Room) s m args below meth c H locs 0 0 (MQ below (s_Qi (s_WC cy ad) G (s_A ad 27 s.heap.size) re σe) args s 0 0 (s_A ad 27 s.heap.size)) (F0 m 37 ls [])) (σ : Sg) (x1 : Int32) (x2 : Int32) (x3 : Int32) (x6 : Int32) (x7 : Int32) (x8 : Int32) (y0 : Int32) (ls : Array Slot) (H : Heap) (locs : List Loc) (hl : lv_has ls 9 [(0, .ref (ad 0)), (1, .int x1), (2, .int x2), (3, .int x3), (6, .int x6), (7, .int x7), (8, .int x8)]) (hP : va_P G vwCl ((s_WC cy ad) σ) H) (hS : va_S (s_A ad 27 s.heap.size) s.heap H locs) (hf : fX6_above_b80 k37 σ x1 x2 x3 x6 x7 x8 y0 = some (re, σe)) : W p l e ({ frames := 3, cells := 0, slots := 0, locals := 67 } : Room) s m args below meth c H locs 0 0 (MQ below (s_Qi (s_WC cy ad) G (s_A ad 27 s.heap.size) re σe) args s 0 0 (s_A ad 27 s.heap.size)) (F0 m 80 ls [.int y0]) := by
  obtain ⟨hx, hb, hr, hml, hown, hts, hlk, hK, hE, hI⟩ := id C
  have hD : ∀ σ : Sg, va_D (s_A ad 27 s.heap.size) ((s_WC cy ad) σ) := fun σ => s_D (s_WC_ad cy ad σ) hI (fun k hk => Or.inl ⟨k, hk, rfl⟩)
  unfold fX6_above_b80 at hf
  refine lv_istore (lv' := [(4, .int y0), (0, .ref (ad 0)), (1, .int x1), (2, .int x2), (3, .int x3), (6, .int x6), (7, .int x7), (8, .int x8)]) hx hb dX6_above_80 hl (by decide) rfl (fun ls hl => ?_)
  refine lv_iload hx hb dX6_above_82 (lv_at hl 7 rfl) ?_
  refine lv_istore (lv' := [(5, .int x8), (4, .int y0), (0, .ref (ad 0)), (1, .int x1), (2, .int x2), (3, .int x3), (6, .int x6), (7, .int x7), (8, .int x8)]) hx hb dX6_above_84 hl (by decide) rfl (fun ls hl => ?_)
  obtain ⟨t1, et1⟩ : ∃ z : Int32, z = (x3 + 1) := ⟨_, rfl⟩
  replace hf := s_lt_at et1 hf
  refine lv_iinc (v := t1) (lv' := [(3, .int t1), (5, .int x8), (4, .int y0), (0, .ref (ad 0)), (1, .int x1), (2, .int x2), (6, .int x6), (7, .int x7), (8, .int x8)]) hx hb dX6_above_86 hl (k := 5) rfl (by rw [et1]; rfl) (by decide) rfl (fun ls hl => ?_)
  obtain ⟨t2, et2⟩ : ∃ z : Int32, z = (x6 + 1) := ⟨_, rfl⟩
  replace hf := s_lt_at et2 hf
  refine lv_iinc (v := t2) (lv' := [(6, .int t2), (3, .int t1), (5, .int x8), (4, .int y0), (0, .ref (ad 0)), (1, .int x1), (2, .int x2), (7, .int x7), (8, .int x8)]) hx hb dX6_above_89 hl (k := 6) rfl (by rw [et2]; rfl) (by decide) rfl (fun ls hl => ?_)
  refine lv_iload hx hb dX6_above_92 (lv_at hl 7 rfl) ?_
  refine lv_iload hx hb dX6_above_94 (lv_at hl 0 rfl) ?_
  refine va_mmax hx hb (hml.trans hl.1.symm) hown (hts _ kw_626) (hts _ kw_396) (hts _ kw_69) (hts _ kw_397) (Nat.le_of_ble_eq_true rfl) (Nat.le_of_ble_eq_true rfl) (Nat.zero_le _) (Nat.zero_le _) dX6_above_96 ?_
  refine lv_topi (fun t3 et3 => ?_)
  replace hf := s_lt_at et3 hf
  refine lv_istore (lv' := [(7, .int t3), (6, .int t2), (3, .int t1), (5, .int x8), (4, .int y0), (0, .ref (ad 0)), (1, .int x1), (2, .int x2), (8, .int x8)]) hx hb dX6_above_99 hl (by decide) rfl (fun ls hl => ?_)
  refine lv_goto (tgt := 107) hx hb dX6_above_101 (by decide) ?_
  exact kX6_above_b107 C k37 hk37 σ x1 x2 t1 y0 x8 t2 t3 x8 _ _ _ (lv_sub hl [5, 6, 7, 2, 4, 3, 1, 0, 8] rfl) hP hS hf
set_option maxRecDepth 100000 in
set_option maxHeartbeats 4000000 in
theorem kX6_above_b37 (C : s_X p s m meth c args cX6_above (some .int) 9 RX6 G cy sa ad 27) (k37 : Sg → Int32 → Int32 → Int32 → Int32 → Int32 → Int32 → Int32 → Int32 → Option (Int32 × Sg)) (hk37 : ∀ (σ : Sg) (x1 : Int32) (x2 : Int32) (x3 : Int32) (x4 : Int32) (x5 : Int32) (x6 : Int32) (x7 : Int32) (x8 : Int32) (ls : Array Slot) (H : Heap) (locs : List Loc), lv_has ls 9 [(0, .ref (ad 0)), (1, .int x1), (2, .int x2), (3, .int x3), (4, .int x4), (5, .int x5), (6, .int x6), (7, .int x7), (8, .int x8)] → va_P G vwCl ((s_WC cy ad) σ) H → va_S (s_A ad 27 s.heap.size) s.heap H locs → k37 σ x1 x2 x3 x4 x5 x6 x7 x8 = some (re, σe) → W p l e ({ frames := 3, cells := 0, slots := 0, locals := 67 } : Room) s m args below meth c H locs 0 0 (MQ below (s_Qi (s_WC cy ad) G (s_A ad 27 s.heap.size) re σe) args s 0 0 (s_A ad 27 s.heap.size)) (F0 m 37 ls [])) (σ : Sg) (x1 : Int32) (x2 : Int32) (x3 : Int32) (x4 : Int32) (x5 : Int32) (x6 : Int32) (x7 : Int32) (x8 : Int32) (ls : Array Slot) (H : Heap) (locs : List Loc) (hl : lv_has ls 9 [(0, .ref (ad 0)), (1, .int x1), (2, .int x2), (3, .int x3), (4, .int x4), (5, .int x5), (6, .int x6), (7, .int x7), (8, .int x8)]) (hP : va_P G vwCl ((s_WC cy ad) σ) H) (hS : va_S (s_A ad 27 s.heap.size) s.heap H locs) (hf : fX6_above_b37 k37 σ x1 x2 x3 x4 x5 x6 x7 x8 = some (re, σe)) : W p l e ({ frames := 3, cells := 0, slots := 0, locals := 67 } : Room) s m args below meth c H locs 0 0 (MQ below (s_Qi (s_WC cy ad) G (s_A ad 27 s.heap.size) re σe) args s 0 0 (s_A ad 27 s.heap.size)) (F0 m 37 ls []) := by
  obtain ⟨hx, hb, hr, hml, hown, hts, hlk, hK, hE, hI⟩ := id C
  have hD : ∀ σ : Sg, va_D (s_A ad 27 s.heap.size) ((s_WC cy ad) σ) := fun σ => s_D (s_WC_ad cy ad σ) hI (fun k hk => Or.inl ⟨k, hk, rfl⟩)
  unfold fX6_above_b37 at hf
  refine lv_iload hx hb dX6_above_37 (lv_at hl 8 rfl) ?_
  refine lv_aload_n hx hb dX6_above_39 rfl (lv_at hl 0 rfl) ?_
  refine va_get (D := G) (ci := 6) (v := .ref (ad 6)) (C := RX6) (T := TX6) (N := 9) hx hb hts inkX6 hown hK hP 0 rfl rfl 2 (by decide) (hts _ kw_252) (fun _ h9 => h9) rfl dX6_above_40 ?_
  refine va_getN (D := G) (ci := 1) (v := .int (σ 6 1)) (C := RX1) (T := TX1) (N := 8) hx hb hts inkX1 hown hK hP 6 rfl rfl 1 (by decide) (kn_X6_89 hE) (fun _ h9 => h9) rfl dX6_above_43 ?_
  refine lv_icmp_ge (tgt := 113) hx hb dX6_above_46 (by decide) (fun c1 => ?_) (fun c1 => ?_)
  · rw [if_pos c1] at hf
    refine lv_iload_n hx hb dX6_above_113 rfl (lv_at hl 2 rfl) ?_
    by_cases c2 : x2 = 0
    · rw [if_pos c2] at hf
      refine lv_tableIn (off := 26) (tgt := 140) hx hb dX6_above_114 (by rw [c2]; decide) (by rw [c2]; decide) (by rw [c2]; rfl) (by decide) ?_
      refine lv_iload_n hx hb dX6_above_140 rfl (lv_at hl 3 rfl) ?_
      obtain ⟨he1, he2⟩ := s_ret hf
      exact W.iret hx hb hr (fun t ht hW => ⟨⟨_, (), rfl, he1, s_fin (Wd := (s_WC cy ad)) ht he2 hP⟩, hS.F ht⟩) hS.2.2 dX6_above_141 hlk
    · rw [if_neg c2] at hf
      by_cases c3 : x2 = 1
      · rw [if_pos c3] at hf
        refine lv_tableIn (off := 28) (tgt := 142) hx hb dX6_above_114 (by rw [c3]; decide) (by rw [c3]; decide) (by rw [c3]; rfl) (by decide) ?_
        refine lv_iload hx hb dX6_above_142 (lv_at hl 4 rfl) ?_
        obtain ⟨he1, he2⟩ := s_ret hf
        exact W.iret hx hb hr (fun t ht hW => ⟨⟨_, (), rfl, he1, s_fin (Wd := (s_WC cy ad)) ht he2 hP⟩, hS.F ht⟩) hS.2.2 dX6_above_144 hlk
      · rw [if_neg c3] at hf
        by_cases c4 : x2 = 2
        · rw [if_pos c4] at hf
          refine lv_tableIn (off := 31) (tgt := 145) hx hb dX6_above_114 (by rw [c4]; decide) (by rw [c4]; decide) (by rw [c4]; rfl) (by decide) ?_
          refine lv_iload hx hb dX6_above_145 (lv_at hl 5 rfl) ?_
          obtain ⟨he1, he2⟩ := s_ret hf
          exact W.iret hx hb hr (fun t ht hW => ⟨⟨_, (), rfl, he1, s_fin (Wd := (s_WC cy ad)) ht he2 hP⟩, hS.F ht⟩) hS.2.2 dX6_above_147 hlk
        · rw [if_neg c4] at hf
          have qc2 := lv_neT c2 (a := 0) (by decide)
          have qc3 := lv_neT c3 (a := 1) (by decide)
          have qc4 := lv_neT c4 (a := 2) (by decide)
          refine lv_tableOut (tgt := 148) hx hb dX6_above_114 (by omega) (by decide) ?_
          refine lv_iload hx hb dX6_above_148 (lv_at hl 7 rfl) ?_
          obtain ⟨he1, he2⟩ := s_ret hf
          exact W.iret hx hb hr (fun t ht hW => ⟨⟨_, (), rfl, he1, s_fin (Wd := (s_WC cy ad)) ht he2 hP⟩, hS.F ht⟩) hS.2.2 dX6_above_150 hlk
  · rw [if_neg c1] at hf
    refine lv_aload_n hx hb dX6_above_49 rfl (lv_at hl 0 rfl) ?_
    refine va_get (D := G) (ci := 6) (v := .ref (ad 8)) (C := RX6) (T := TX6) (N := 9) hx hb hts inkX6 hown hK hP 0 rfl rfl 3 (by decide) (hts _ kw_253) (fun _ h9 => h9) rfl dX6_above_50 ?_
    refine lv_iload hx hb dX6_above_53 (lv_at hl 8 rfl) ?_
    replace hf := s_bv_some hf
    obtain ⟨σ5, hz6, hf⟩ := hf
    refine s_callv (nn := 1) C (kcX0_slideTo (l := l) (G := G) (cy := cy) (sa := sa) hI (sz := H.size) σ x8 hz6) gk_X6_185 rfl rfl (by decide +kernel) ⟨Nat.le_of_ble_eq_true rfl, Nat.le_of_ble_eq_true rfl⟩ hP hS (q0 := 8) (ci := 0) rfl rfl rfl (As := [.int x8]) (rest := []) rfl rfl hl.1 (Nat.le_of_ble_eq_true rfl) dX6_above_55 (fun H locs hP hS => ?_)
    refine lv_aload_n hx hb dX6_above_58 rfl (lv_at hl 0 rfl) ?_
    refine va_get (D := G) (ci := 6) (v := .ref (ad 8)) (C := RX6) (T := TX6) (N := 9) hx hb hts inkX6 hown hK hP 0 rfl rfl 3 (by decide) (hts _ kw_253) (fun _ h9 => h9) rfl dX6_above_59 ?_
    refine lv_iload_n hx hb dX6_above_62 rfl (lv_at hl 1 rfl) ?_
    replace hf := s_bi_some hf
    obtain ⟨r9, σ7, hz8, hf⟩ := hf
    refine s_calli (nn := 1) C (kcX0_isAbove (l := l) (G := G) (cy := cy) (sa := sa) hI (sz := H.size) σ5 x1 hz8) gk_X6_188 rfl rfl (by decide +kernel) ⟨Nat.le_of_ble_eq_true rfl, Nat.le_of_ble_eq_true rfl⟩ hP hS (q0 := 8) (ci := 0) rfl rfl rfl (As := [.int x1]) (rest := []) rfl rfl hl.1 (Nat.le_of_ble_eq_true rfl) dX6_above_63 (fun H locs hP hS => ?_)
    refine lv_if_eq (tgt := 104) hx hb dX6_above_66 (by decide) (fun c10 => ?_) (fun c10 => ?_)
    · rw [if_pos c10] at hf
      refine lv_iconst (v := 0) hx hb dX6_above_104 (by decide) ?_
      refine lv_istore (lv' := [(6, .int (0 : Int32)), (0, .ref (ad 0)), (1, .int x1), (2, .int x2), (3, .int x3), (4, .int x4), (5, .int x5), (7, .int x7), (8, .int x8)]) hx hb dX6_above_105 hl (by decide) rfl (fun ls hl => ?_)
      exact kX6_above_b107 C k37 hk37 σ7 x1 x2 x3 x4 x5 (0 : Int32) x7 x8 _ _ _ (lv_sub hl [1, 2, 3, 4, 5, 6, 0, 7, 8] rfl) hP hS hf
    · rw [if_neg c10] at hf
      refine lv_iload_n hx hb dX6_above_69 rfl (lv_at hl 3 rfl) ?_
      refine lv_if_ne (tgt := 78) hx hb dX6_above_70 (by decide) (fun c11 => ?_) (fun c11 => ?_)
      · rw [if_neg c11] at hf
        refine lv_iload hx hb dX6_above_78 (lv_at hl 4 rfl) ?_
        exact kX6_above_b80 C k37 hk37 σ7 x1 x2 x3 x6 x7 x8 x4 _ _ _ (lv_sub hl [0, 1, 2, 3, 6, 7, 8] rfl) hP hS hf
      · rw [if_pos c11] at hf
        refine lv_iload hx hb dX6_above_73 (lv_at hl 8 rfl) ?_
        refine lv_goto (tgt := 80) hx hb dX6_above_75 (by decide) ?_
        exact kX6_above_b80 C k37 hk37 σ7 x1 x2 x3 x6 x7 x8 x8 _ _ _ (lv_sub hl [0, 1, 2, 3, 6, 7, 8] rfl) hP hS hf
set_option maxRecDepth 100000 in
set_option maxHeartbeats 4000000 in
theorem kX6_above_b37_L (C : s_X p s m meth c args cX6_above (some .int) 9 RX6 G cy sa ad 27) : ∀ (n : Nat), ∀ (σ : Sg) (x1 : Int32) (x2 : Int32) (x3 : Int32) (x4 : Int32) (x5 : Int32) (x6 : Int32) (x7 : Int32) (x8 : Int32) (ls : Array Slot) (H : Heap) (locs : List Loc), lv_has ls 9 [(0, .ref (ad 0)), (1, .int x1), (2, .int x2), (3, .int x3), (4, .int x4), (5, .int x5), (6, .int x6), (7, .int x7), (8, .int x8)] → va_P G vwCl ((s_WC cy ad) σ) H → va_S (s_A ad 27 s.heap.size) s.heap H locs → fX6_above_b37_L n σ x1 x2 x3 x4 x5 x6 x7 x8 = some (re, σe) → W p l e ({ frames := 3, cells := 0, slots := 0, locals := 67 } : Room) s m args below meth c H locs 0 0 (MQ below (s_Qi (s_WC cy ad) G (s_A ad 27 s.heap.size) re σe) args s 0 0 (s_A ad 27 s.heap.size)) (F0 m 37 ls []) := by
  intro n
  induction n with
  | zero => intro σ x1 x2 x3 x4 x5 x6 x7 x8 ls H locs hl hP hS hf; exact absurd (show (none : Option (Int32 × Sg)) = some (re, σe) from hf) (by intro h; cases h)
  | succ n ih => intro σ x1 x2 x3 x4 x5 x6 x7 x8 ls H locs hl hP hS hf; exact kX6_above_b37 C (fX6_above_b37_L n) ih σ x1 x2 x3 x4 x5 x6 x7 x8 ls H locs hl hP hS hf
set_option maxRecDepth 100000 in
set_option maxHeartbeats 4000000 in
theorem kX6_above (C : s_X p s m meth c args cX6_above (some .int) 9 RX6 G cy sa ad 27) (σ : Sg) (x1 : Int32) (x2 : Int32) (ls : Array Slot) (H : Heap) (locs : List Loc) (hl : lv_has ls 9 [(0, .ref (ad 0)), (1, .int x1), (2, .int x2)]) (hP : va_P G vwCl ((s_WC cy ad) σ) H) (hS : va_S (s_A ad 27 s.heap.size) s.heap H locs) (hf : fX6_above σ x1 x2 = some (re, σe)) : W p l e ({ frames := 3, cells := 0, slots := 0, locals := 67 } : Room) s m args below meth c H locs 0 0 (MQ below (s_Qi (s_WC cy ad) G (s_A ad 27 s.heap.size) re σe) args s 0 0 (s_A ad 27 s.heap.size)) (F0 m 0 ls []) := by
  obtain ⟨hx, hb, hr, hml, hown, hts, hlk, hK, hE, hI⟩ := id C
  have hD : ∀ σ : Sg, va_D (s_A ad 27 s.heap.size) ((s_WC cy ad) σ) := fun σ => s_D (s_WC_ad cy ad σ) hI (fun k hk => Or.inl ⟨k, hk, rfl⟩)
  unfold fX6_above at hf
  refine lv_iload_n hx hb dX6_above_0 rfl (lv_at hl 2 rfl) ?_
  refine lv_if_lt (tgt := 9) hx hb dX6_above_1 (by decide) (fun c1 => ?_) (fun c1 => ?_)
  · rw [if_pos c1] at hf
    exact kX6_above_b9 C σ _ _ _ (lv_sub hl [] rfl) hP hS hf
  · rw [if_neg c1] at hf
    refine lv_iload_n hx hb dX6_above_4 rfl (lv_at hl 2 rfl) ?_
    refine lv_iconst (v := 3) hx hb dX6_above_5 (by decide) ?_
    refine lv_icmp_le (tgt := 11) hx hb dX6_above_6 (by decide) (fun c2 => ?_) (fun c2 => ?_)
    · rw [if_pos c2] at hf
      refine lv_iconst (v := 0) hx hb dX6_above_11 (by decide) ?_
      refine lv_istore_n (lv' := [(3, .int (0 : Int32)), (0, .ref (ad 0)), (1, .int x1), (2, .int x2)]) hx hb dX6_above_12 rfl hl (by decide) rfl (fun ls hl => ?_)
      refine lv_bipush (v := -4) hx hb dX6_above_13 (by decide) ?_
      refine lv_istore (lv' := [(4, .int (-4 : Int32)), (3, .int (0 : Int32)), (0, .ref (ad 0)), (1, .int x1), (2, .int x2)]) hx hb dX6_above_15 hl (by decide) rfl (fun ls hl => ?_)
      refine lv_bipush (v := -4) hx hb dX6_above_17 (by decide) ?_
      refine lv_istore (lv' := [(5, .int (-4 : Int32)), (4, .int (-4 : Int32)), (3, .int (0 : Int32)), (0, .ref (ad 0)), (1, .int x1), (2, .int x2)]) hx hb dX6_above_19 hl (by decide) rfl (fun ls hl => ?_)
      refine lv_iconst (v := 0) hx hb dX6_above_21 (by decide) ?_
      refine lv_istore (lv' := [(6, .int (0 : Int32)), (5, .int (-4 : Int32)), (4, .int (-4 : Int32)), (3, .int (0 : Int32)), (0, .ref (ad 0)), (1, .int x1), (2, .int x2)]) hx hb dX6_above_22 hl (by decide) rfl (fun ls hl => ?_)
      refine lv_iconst (v := 0) hx hb dX6_above_24 (by decide) ?_
      refine lv_istore (lv' := [(7, .int (0 : Int32)), (6, .int (0 : Int32)), (5, .int (-4 : Int32)), (4, .int (-4 : Int32)), (3, .int (0 : Int32)), (0, .ref (ad 0)), (1, .int x1), (2, .int x2)]) hx hb dX6_above_25 hl (by decide) rfl (fun ls hl => ?_)
      refine lv_aload_n hx hb dX6_above_27 rfl (lv_at hl 5 rfl) ?_
      refine va_get (D := G) (ci := 6) (v := .ref (ad 8)) (C := RX6) (T := TX6) (N := 9) hx hb hts inkX6 hown hK hP 0 rfl rfl 3 (by decide) (hts _ kw_253) (fun _ h9 => h9) rfl dX6_above_28 ?_
      replace hf := s_bv_some hf
      obtain ⟨σ3, hz4, hf⟩ := hf
      refine s_callv (nn := 0) C (kcX0_clear (l := l) (G := G) (cy := cy) (sa := sa) hI (sz := H.size) σ hz4) gk_X6_182 rfl rfl (by decide +kernel) ⟨Nat.le_of_ble_eq_true rfl, Nat.le_of_ble_eq_true rfl⟩ hP hS (q0 := 8) (ci := 0) rfl rfl rfl (As := []) (rest := []) rfl rfl hl.1 (Nat.le_of_ble_eq_true rfl) dX6_above_31 (fun H locs hP hS => ?_)
      refine lv_iconst (v := 0) hx hb dX6_above_34 (by decide) ?_
      refine lv_istore (lv' := [(8, .int (0 : Int32)), (7, .int (0 : Int32)), (6, .int (0 : Int32)), (5, .int (-4 : Int32)), (4, .int (-4 : Int32)), (3, .int (0 : Int32)), (0, .ref (ad 0)), (1, .int x1), (2, .int x2)]) hx hb dX6_above_35 hl (by decide) rfl (fun ls hl => ?_)
      exact kX6_above_b37_L C s_fu σ3 x1 x2 (0 : Int32) (-4 : Int32) (-4 : Int32) (0 : Int32) (0 : Int32) (0 : Int32) _ _ _ (lv_sub hl [6, 7, 8, 5, 4, 3, 2, 1, 0] rfl) hP hS hf
    · rw [if_neg c2] at hf
      exact kX6_above_b9 C σ _ _ _ (lv_sub hl [] rfl) hP hS hf
theorem kcX6_above {l : Launch} {G : va_G} {cy : Nat → ClassId} {sa : Nat × Nat} {ad : Nat → Nat}  {sz : Nat} (hI : s_inj ad 27) (σ : Sg) (x1 : Int32) (x2 : Int32) {re : Int32} {σe : Sg} (hf : fX6_above σ x1 x2 = some (re, σe)) : Met l yX6_above (kW yX6_above cX6_above 9 (some .int)) ({ frames := 3, cells := 0, slots := 0, locals := 67 } : Room) (s_P (s_WC cy ad) G cy sa ad 27 [.ref (ad 0), .int x1, .int x2] sz σ) (s_Qi (s_WC cy ad) G (s_A ad 27 sz) re σe) 0 0 (s_A ad 27 sz) := by
  refine s_met (own := RX6) (by decide) rfl hI (Nat.le_of_ble_eq_true rfl) (fun p e s m below meth c ls hsz C hP hl => ?_)
  subst hsz
  exact kX6_above C σ x1 x2 ls _ _ hl hP va_S.rf hf
set_option maxRecDepth 100000 in
set_option maxHeartbeats 4000000 in
theorem kX6_most_b9 (C : s_X p s m meth c args cX6_most (some .int) 7 RX6 G cy sa ad 27) (σ : Sg) (ls : Array Slot) (H : Heap) (locs : List Loc) (hl : lv_has ls 7 []) (hP : va_P G vwCl ((s_WC cy ad) σ) H) (hS : va_S (s_A ad 27 s.heap.size) s.heap H locs) (hf : fX6_most_b9 σ = some (re, σe)) : W p l e ({ frames := 3, cells := 0, slots := 0, locals := 65 } : Room) s m args below meth c H locs 0 0 (MQ below (s_Qi (s_WC cy ad) G (s_A ad 27 s.heap.size) re σe) args s 0 0 (s_A ad 27 s.heap.size)) (F0 m 9 ls []) := by
  obtain ⟨hx, hb, hr, hml, hown, hts, hlk, hK, hE, hI⟩ := id C
  have hD : ∀ σ : Sg, va_D (s_A ad 27 s.heap.size) ((s_WC cy ad) σ) := fun σ => s_D (s_WC_ad cy ad σ) hI (fun k hk => Or.inl ⟨k, hk, rfl⟩)
  unfold fX6_most_b9 at hf
  refine lv_iconst (v := -1) hx hb dX6_most_9 (by decide) ?_
  obtain ⟨he1, he2⟩ := s_ret hf
  exact W.iret hx hb hr (fun t ht hW => ⟨⟨_, (), rfl, he1, s_fin (Wd := (s_WC cy ad)) ht he2 hP⟩, hS.F ht⟩) hS.2.2 dX6_most_10 hlk
set_option maxRecDepth 100000 in
set_option maxHeartbeats 4000000 in
theorem kX6_most_b114 (C : s_X p s m meth c args cX6_most (some .int) 7 RX6 G cy sa ad 27) (k26 : Sg → Int32 → Int32 → Int32 → Int32 → Option (Int32 × Sg)) (hk26 : ∀ (σ : Sg) (x1 : Int32) (x2 : Int32) (x3 : Int32) (x4 : Int32) (ls : Array Slot) (H : Heap) (locs : List Loc), lv_has ls 7 [(0, .ref (ad 0)), (1, .int x1), (2, .int x2), (3, .int x3), (4, .int x4)] → va_P G vwCl ((s_WC cy ad) σ) H → va_S (s_A ad 27 s.heap.size) s.heap H locs → k26 σ x1 x2 x3 x4 = some (re, σe) → W p l e ({ frames := 3, cells := 0, slots := 0, locals := 65 } : Room) s m args below meth c H locs 0 0 (MQ below (s_Qi (s_WC cy ad) G (s_A ad 27 s.heap.size) re σe) args s 0 0 (s_A ad 27 s.heap.size)) (F0 m 26 ls [])) (σ : Sg) (x1 : Int32) (x2 : Int32) (x3 : Int32) (x4 : Int32) (ls : Array Slot) (H : Heap) (locs : List Loc) (hl : lv_has ls 7 [(0, .ref (ad 0)), (1, .int x1), (2, .int x2), (3, .int x3), (4, .int x4)]) (hP : va_P G vwCl ((s_WC cy ad) σ) H) (hS : va_S (s_A ad 27 s.heap.size) s.heap H locs) (hf : fX6_most_b114 k26 σ x1 x2 x3 x4 = some (re, σe)) : W p l e ({ frames := 3, cells := 0, slots := 0, locals := 65 } : Room) s m args below meth c H locs 0 0 (MQ below (s_Qi (s_WC cy ad) G (s_A ad 27 s.heap.size) re σe) args s 0 0 (s_A ad 27 s.heap.size)) (F0 m 114 ls []) := by
  obtain ⟨hx, hb, hr, hml, hown, hts, hlk, hK, hE, hI⟩ := id C
  have hD : ∀ σ : Sg, va_D (s_A ad 27 s.heap.size) ((s_WC cy ad) σ) := fun σ => s_D (s_WC_ad cy ad σ) hI (fun k hk => Or.inl ⟨k, hk, rfl⟩)
  unfold fX6_most_b114 at hf
  obtain ⟨t1, et1⟩ : ∃ z : Int32, z = (x4 + 1) := ⟨_, rfl⟩
  replace hf := s_lt_at et1 hf
  refine lv_iinc (v := t1) (lv' := [(4, .int t1), (0, .ref (ad 0)), (1, .int x1), (2, .int x2), (3, .int x3)]) hx hb dX6_most_114 hl (k := 4) rfl (by rw [et1]; rfl) (by decide) rfl (fun ls hl => ?_)
  refine lv_goto (tgt := 26) hx hb dX6_most_117 (by decide) ?_
  exact hk26 σ x1 x2 x3 t1 _ _ _ (lv_sub hl [1, 2, 3, 4, 0] rfl) hP hS hf
set_option maxRecDepth 100000 in
set_option maxHeartbeats 4000000 in
theorem kX6_most_b108 (C : s_X p s m meth c args cX6_most (some .int) 7 RX6 G cy sa ad 27) (k26 : Sg → Int32 → Int32 → Int32 → Int32 → Option (Int32 × Sg)) (hk26 : ∀ (σ : Sg) (x1 : Int32) (x2 : Int32) (x3 : Int32) (x4 : Int32) (ls : Array Slot) (H : Heap) (locs : List Loc), lv_has ls 7 [(0, .ref (ad 0)), (1, .int x1), (2, .int x2), (3, .int x3), (4, .int x4)] → va_P G vwCl ((s_WC cy ad) σ) H → va_S (s_A ad 27 s.heap.size) s.heap H locs → k26 σ x1 x2 x3 x4 = some (re, σe) → W p l e ({ frames := 3, cells := 0, slots := 0, locals := 65 } : Room) s m args below meth c H locs 0 0 (MQ below (s_Qi (s_WC cy ad) G (s_A ad 27 s.heap.size) re σe) args s 0 0 (s_A ad 27 s.heap.size)) (F0 m 26 ls [])) (σ : Sg) (x1 : Int32) (x4 : Int32) (x5 : Int32) (ls : Array Slot) (H : Heap) (locs : List Loc) (hl : lv_has ls 7 [(0, .ref (ad 0)), (1, .int x1), (4, .int x4), (5, .int x5)]) (hP : va_P G vwCl ((s_WC cy ad) σ) H) (hS : va_S (s_A ad 27 s.heap.size) s.heap H locs) (hf : fX6_most_b108 k26 σ x1 x4 x5 = some (re, σe)) : W p l e ({ frames := 3, cells := 0, slots := 0, locals := 65 } : Room) s m args below meth c H locs 0 0 (MQ below (s_Qi (s_WC cy ad) G (s_A ad 27 s.heap.size) re σe) args s 0 0 (s_A ad 27 s.heap.size)) (F0 m 108 ls []) := by
  obtain ⟨hx, hb, hr, hml, hown, hts, hlk, hK, hE, hI⟩ := id C
  have hD : ∀ σ : Sg, va_D (s_A ad 27 s.heap.size) ((s_WC cy ad) σ) := fun σ => s_D (s_WC_ad cy ad σ) hI (fun k hk => Or.inl ⟨k, hk, rfl⟩)
  unfold fX6_most_b108 at hf
  refine lv_iload hx hb dX6_most_108 (lv_at hl 2 rfl) ?_
  refine lv_istore_n (lv' := [(2, .int x4), (0, .ref (ad 0)), (1, .int x1), (4, .int x4), (5, .int x5)]) hx hb dX6_most_110 rfl hl (by decide) rfl (fun ls hl => ?_)
  refine lv_iload hx hb dX6_most_111 (lv_at hl 4 rfl) ?_
  refine lv_istore_n (lv' := [(3, .int x5), (2, .int x4), (0, .ref (ad 0)), (1, .int x1), (4, .int x4), (5, .int x5)]) hx hb dX6_most_113 rfl hl (by decide) rfl (fun ls hl => ?_)
  exact kX6_most_b114 C k26 hk26 σ x1 x4 x5 x4 _ _ _ (lv_sub hl [2, 3, 1, 0, 4] rfl) hP hS hf
set_option maxRecDepth 100000 in
set_option maxHeartbeats 4000000 in
theorem kX6_most_b95 (C : s_X p s m meth c args cX6_most (some .int) 7 RX6 G cy sa ad 27) (k26 : Sg → Int32 → Int32 → Int32 → Int32 → Option (Int32 × Sg)) (hk26 : ∀ (σ : Sg) (x1 : Int32) (x2 : Int32) (x3 : Int32) (x4 : Int32) (ls : Array Slot) (H : Heap) (locs : List Loc), lv_has ls 7 [(0, .ref (ad 0)), (1, .int x1), (2, .int x2), (3, .int x3), (4, .int x4)] → va_P G vwCl ((s_WC cy ad) σ) H → va_S (s_A ad 27 s.heap.size) s.heap H locs → k26 σ x1 x2 x3 x4 = some (re, σe) → W p l e ({ frames := 3, cells := 0, slots := 0, locals := 65 } : Room) s m args below meth c H locs 0 0 (MQ below (s_Qi (s_WC cy ad) G (s_A ad 27 s.heap.size) re σe) args s 0 0 (s_A ad 27 s.heap.size)) (F0 m 26 ls [])) (σ : Sg) (x1 : Int32) (x2 : Int32) (x3 : Int32) (x4 : Int32) (x5 : Int32) (y0 : Int32) (ls : Array Slot) (H : Heap) (locs : List Loc) (hl : lv_has ls 7 [(0, .ref (ad 0)), (1, .int x1), (2, .int x2), (3, .int x3), (4, .int x4), (5, .int x5)]) (hP : va_P G vwCl ((s_WC cy ad) σ) H) (hS : va_S (s_A ad 27 s.heap.size) s.heap H locs) (hf : fX6_most_b95 k26 σ x1 x2 x3 x4 x5 y0 = some (re, σe)) : W p l e ({ frames := 3, cells := 0, slots := 0, locals := 65 } : Room) s m args below meth c H locs 0 0 (MQ below (s_Qi (s_WC cy ad) G (s_A ad 27 s.heap.size) re σe) args s 0 0 (s_A ad 27 s.heap.size)) (F0 m 95 ls [.int y0]) := by
  obtain ⟨hx, hb, hr, hml, hown, hts, hlk, hK, hE, hI⟩ := id C
  have hD : ∀ σ : Sg, va_D (s_A ad 27 s.heap.size) ((s_WC cy ad) σ) := fun σ => s_D (s_WC_ad cy ad σ) hI (fun k hk => Or.inl ⟨k, hk, rfl⟩)
  unfold fX6_most_b95 at hf
  refine lv_istore (lv' := [(6, .int y0), (0, .ref (ad 0)), (1, .int x1), (2, .int x2), (3, .int x3), (4, .int x4), (5, .int x5)]) hx hb dX6_most_95 hl (by decide) rfl (fun ls hl => ?_)
  refine lv_iload_n hx hb dX6_most_97 rfl (lv_at hl 3 rfl) ?_
  refine lv_bipush (v := -4) hx hb dX6_most_98 (by decide) ?_
  refine lv_icmp_eq (tgt := 108) hx hb dX6_most_100 (by decide) (fun c1 => ?_) (fun c1 => ?_)
  · rw [if_pos c1] at hf
    exact kX6_most_b108 C k26 hk26 σ x1 x4 x5 _ _ _ (lv_sub hl [1, 2, 5, 6] rfl) hP hS hf
  · rw [if_neg c1] at hf
    refine lv_iload hx hb dX6_most_103 (lv_at hl 0 rfl) ?_
    refine lv_if_eq (tgt := 114) hx hb dX6_most_105 (by decide) (fun c2 => ?_) (fun c2 => ?_)
    · rw [if_pos c2] at hf
      exact kX6_most_b114 C k26 hk26 σ x1 x2 x3 x4 _ _ _ (lv_sub hl [1, 2, 3, 4, 5] rfl) hP hS hf
    · rw [if_neg c2] at hf
      exact kX6_most_b108 C k26 hk26 σ x1 x4 x5 _ _ _ (lv_sub hl [1, 2, 5, 6] rfl) hP hS hf
set_option maxRecDepth 100000 in
set_option maxHeartbeats 4000000 in
theorem kX6_most_b26 (C : s_X p s m meth c args cX6_most (some .int) 7 RX6 G cy sa ad 27) (k26 : Sg → Int32 → Int32 → Int32 → Int32 → Option (Int32 × Sg)) (hk26 : ∀ (σ : Sg) (x1 : Int32) (x2 : Int32) (x3 : Int32) (x4 : Int32) (ls : Array Slot) (H : Heap) (locs : List Loc), lv_has ls 7 [(0, .ref (ad 0)), (1, .int x1), (2, .int x2), (3, .int x3), (4, .int x4)] → va_P G vwCl ((s_WC cy ad) σ) H → va_S (s_A ad 27 s.heap.size) s.heap H locs → k26 σ x1 x2 x3 x4 = some (re, σe) → W p l e ({ frames := 3, cells := 0, slots := 0, locals := 65 } : Room) s m args below meth c H locs 0 0 (MQ below (s_Qi (s_WC cy ad) G (s_A ad 27 s.heap.size) re σe) args s 0 0 (s_A ad 27 s.heap.size)) (F0 m 26 ls [])) (σ : Sg) (x1 : Int32) (x2 : Int32) (x3 : Int32) (x4 : Int32) (ls : Array Slot) (H : Heap) (locs : List Loc) (hl : lv_has ls 7 [(0, .ref (ad 0)), (1, .int x1), (2, .int x2), (3, .int x3), (4, .int x4)]) (hP : va_P G vwCl ((s_WC cy ad) σ) H) (hS : va_S (s_A ad 27 s.heap.size) s.heap H locs) (hf : fX6_most_b26 k26 σ x1 x2 x3 x4 = some (re, σe)) : W p l e ({ frames := 3, cells := 0, slots := 0, locals := 65 } : Room) s m args below meth c H locs 0 0 (MQ below (s_Qi (s_WC cy ad) G (s_A ad 27 s.heap.size) re σe) args s 0 0 (s_A ad 27 s.heap.size)) (F0 m 26 ls []) := by
  obtain ⟨hx, hb, hr, hml, hown, hts, hlk, hK, hE, hI⟩ := id C
  have hD : ∀ σ : Sg, va_D (s_A ad 27 s.heap.size) ((s_WC cy ad) σ) := fun σ => s_D (s_WC_ad cy ad σ) hI (fun k hk => Or.inl ⟨k, hk, rfl⟩)
  unfold fX6_most_b26 at hf
  refine lv_iload hx hb dX6_most_26 (lv_at hl 4 rfl) ?_
  refine lv_aload_n hx hb dX6_most_28 rfl (lv_at hl 0 rfl) ?_
  refine va_get (D := G) (ci := 6) (v := .ref (ad 6)) (C := RX6) (T := TX6) (N := 9) hx hb hts inkX6 hown hK hP 0 rfl rfl 2 (by decide) (hts _ kw_252) (fun _ h9 => h9) rfl dX6_most_29 ?_
  refine va_getN (D := G) (ci := 1) (v := .int (σ 6 1)) (C := RX1) (T := TX1) (N := 8) hx hb hts inkX1 hown hK hP 6 rfl rfl 1 (by decide) (kn_X6_89 hE) (fun _ h9 => h9) rfl dX6_most_32 ?_
  refine lv_icmp_ge (tgt := 120) hx hb dX6_most_35 (by decide) (fun c1 => ?_) (fun c1 => ?_)
  · rw [if_pos c1] at hf
    refine lv_iload_n hx hb dX6_most_120 rfl (lv_at hl 2 rfl) ?_
    obtain ⟨he1, he2⟩ := s_ret hf
    exact W.iret hx hb hr (fun t ht hW => ⟨⟨_, (), rfl, he1, s_fin (Wd := (s_WC cy ad)) ht he2 hP⟩, hS.F ht⟩) hS.2.2 dX6_most_121 hlk
  · rw [if_neg c1] at hf
    refine lv_aload_n hx hb dX6_most_38 rfl (lv_at hl 0 rfl) ?_
    refine va_get (D := G) (ci := 6) (v := .ref (ad 8)) (C := RX6) (T := TX6) (N := 9) hx hb hts inkX6 hown hK hP 0 rfl rfl 3 (by decide) (hts _ kw_253) (fun _ h9 => h9) rfl dX6_most_39 ?_
    refine lv_iload hx hb dX6_most_42 (lv_at hl 4 rfl) ?_
    replace hf := s_bv_some hf
    obtain ⟨σ2, hz3, hf⟩ := hf
    refine s_callv (nn := 1) C (kcX0_slideTo (l := l) (G := G) (cy := cy) (sa := sa) hI (sz := H.size) σ x4 hz3) gk_X6_185 rfl rfl (by decide +kernel) ⟨Nat.le_of_ble_eq_true rfl, Nat.le_of_ble_eq_true rfl⟩ hP hS (q0 := 8) (ci := 0) rfl rfl rfl (As := [.int x4]) (rest := []) rfl rfl hl.1 (Nat.le_of_ble_eq_true rfl) dX6_most_44 (fun H locs hP hS => ?_)
    refine lv_aload_n hx hb dX6_most_47 rfl (lv_at hl 0 rfl) ?_
    refine va_get (D := G) (ci := 6) (v := .ref (ad 8)) (C := RX6) (T := TX6) (N := 9) hx hb hts inkX6 hown hK hP 0 rfl rfl 3 (by decide) (hts _ kw_253) (fun _ h9 => h9) rfl dX6_most_48 ?_
    replace hf := s_bi_some hf
    obtain ⟨r6, σ4, hz5, hf⟩ := hf
    refine s_calli (nn := 0) C (kcX0_hasResult (l := l) (G := G) (cy := cy) (sa := sa) hI (sz := H.size) σ2 hz5) gk_X6_134 rfl rfl (by decide +kernel) ⟨Nat.le_of_ble_eq_true rfl, Nat.le_of_ble_eq_true rfl⟩ hP hS (q0 := 8) (ci := 0) rfl rfl rfl (As := []) (rest := []) rfl rfl hl.1 (Nat.le_of_ble_eq_true rfl) dX6_most_51 (fun H locs hP hS => ?_)
    refine lv_if_eq (tgt := 114) hx hb dX6_most_54 (by decide) (fun c7 => ?_) (fun c7 => ?_)
    · rw [if_pos c7] at hf
      exact kX6_most_b114 C k26 hk26 σ4 x1 x2 x3 x4 _ _ _ (lv_sub hl [0, 1, 2, 3, 4] rfl) hP hS hf
    · rw [if_neg c7] at hf
      refine lv_aload_n hx hb dX6_most_57 rfl (lv_at hl 0 rfl) ?_
      refine va_get (D := G) (ci := 6) (v := .ref (ad 8)) (C := RX6) (T := TX6) (N := 9) hx hb hts inkX6 hown hK hP 0 rfl rfl 3 (by decide) (hts _ kw_253) (fun _ h9 => h9) rfl dX6_most_58 ?_
      replace hf := s_bi_some hf
      obtain ⟨r10, σ8, hz9, hf⟩ := hf
      refine s_calli (nn := 0) C (kcX0_numerator (l := l) (G := G) (cy := cy) (sa := sa) hI (sz := H.size) σ4 hz9) gk_X6_147 rfl rfl (by decide +kernel) ⟨Nat.le_of_ble_eq_true rfl, Nat.le_of_ble_eq_true rfl⟩ hP hS (q0 := 8) (ci := 0) rfl rfl rfl (As := []) (rest := []) rfl rfl hl.1 (Nat.le_of_ble_eq_true rfl) dX6_most_61 (fun H locs hP hS => ?_)
      refine lv_istore (lv' := [(5, .int r10), (0, .ref (ad 0)), (1, .int x1), (2, .int x2), (3, .int x3), (4, .int x4)]) hx hb dX6_most_64 hl (by decide) rfl (fun ls hl => ?_)
      refine lv_iload_n hx hb dX6_most_66 rfl (lv_at hl 2 rfl) ?_
      refine lv_if_ne (tgt := 84) hx hb dX6_most_67 (by decide) (fun c11 => ?_) (fun c11 => ?_)
      · rw [if_neg c11] at hf
        refine lv_iload hx hb dX6_most_84 (lv_at hl 0 rfl) ?_
        refine lv_iload_n hx hb dX6_most_86 rfl (lv_at hl 4 rfl) ?_
        refine lv_icmp_le (tgt := 94) hx hb dX6_most_87 (by decide) (fun c12 => ?_) (fun c12 => ?_)
        · rw [if_pos c12] at hf
          refine lv_iconst (v := 0) hx hb dX6_most_94 (by decide) ?_
          exact kX6_most_b95 C k26 hk26 σ8 x1 x2 x3 x4 r10 (0 : Int32) _ _ _ (lv_sub hl [1, 2, 3, 4, 5, 0] rfl) hP hS hf
        · rw [if_neg c12] at hf
          refine lv_iconst (v := 1) hx hb dX6_most_90 (by decide) ?_
          refine lv_goto (tgt := 95) hx hb dX6_most_91 (by decide) ?_
          exact kX6_most_b95 C k26 hk26 σ8 x1 x2 x3 x4 r10 (1 : Int32) _ _ _ (lv_sub hl [1, 2, 3, 4, 5, 0] rfl) hP hS hf
      · rw [if_pos c11] at hf
        refine lv_iload hx hb dX6_most_70 (lv_at hl 0 rfl) ?_
        refine lv_iload_n hx hb dX6_most_72 rfl (lv_at hl 4 rfl) ?_
        refine lv_icmp_ge (tgt := 80) hx hb dX6_most_73 (by decide) (fun c13 => ?_) (fun c13 => ?_)
        · rw [if_pos c13] at hf
          refine lv_iconst (v := 0) hx hb dX6_most_80 (by decide) ?_
          refine lv_goto (tgt := 95) hx hb dX6_most_81 (by decide) ?_
          exact kX6_most_b95 C k26 hk26 σ8 x1 x2 x3 x4 r10 (0 : Int32) _ _ _ (lv_sub hl [1, 2, 3, 4, 5, 0] rfl) hP hS hf
        · rw [if_neg c13] at hf
          refine lv_iconst (v := 1) hx hb dX6_most_76 (by decide) ?_
          refine lv_goto (tgt := 95) hx hb dX6_most_77 (by decide) ?_
          exact kX6_most_b95 C k26 hk26 σ8 x1 x2 x3 x4 r10 (1 : Int32) _ _ _ (lv_sub hl [1, 2, 3, 4, 5, 0] rfl) hP hS hf
set_option maxRecDepth 100000 in
set_option maxHeartbeats 4000000 in
theorem kX6_most_b26_L (C : s_X p s m meth c args cX6_most (some .int) 7 RX6 G cy sa ad 27) : ∀ (n : Nat), ∀ (σ : Sg) (x1 : Int32) (x2 : Int32) (x3 : Int32) (x4 : Int32) (ls : Array Slot) (H : Heap) (locs : List Loc), lv_has ls 7 [(0, .ref (ad 0)), (1, .int x1), (2, .int x2), (3, .int x3), (4, .int x4)] → va_P G vwCl ((s_WC cy ad) σ) H → va_S (s_A ad 27 s.heap.size) s.heap H locs → fX6_most_b26_L n σ x1 x2 x3 x4 = some (re, σe) → W p l e ({ frames := 3, cells := 0, slots := 0, locals := 65 } : Room) s m args below meth c H locs 0 0 (MQ below (s_Qi (s_WC cy ad) G (s_A ad 27 s.heap.size) re σe) args s 0 0 (s_A ad 27 s.heap.size)) (F0 m 26 ls []) := by
  intro n
  induction n with
  | zero => intro σ x1 x2 x3 x4 ls H locs hl hP hS hf; exact absurd (show (none : Option (Int32 × Sg)) = some (re, σe) from hf) (by intro h; cases h)
  | succ n ih => intro σ x1 x2 x3 x4 ls H locs hl hP hS hf; exact kX6_most_b26 C (fX6_most_b26_L n) ih σ x1 x2 x3 x4 ls H locs hl hP hS hf
set_option maxRecDepth 100000 in
set_option maxHeartbeats 4000000 in
theorem kX6_most (C : s_X p s m meth c args cX6_most (some .int) 7 RX6 G cy sa ad 27) (σ : Sg) (x1 : Int32) (ls : Array Slot) (H : Heap) (locs : List Loc) (hl : lv_has ls 7 [(0, .ref (ad 0)), (1, .int x1)]) (hP : va_P G vwCl ((s_WC cy ad) σ) H) (hS : va_S (s_A ad 27 s.heap.size) s.heap H locs) (hf : fX6_most σ x1 = some (re, σe)) : W p l e ({ frames := 3, cells := 0, slots := 0, locals := 65 } : Room) s m args below meth c H locs 0 0 (MQ below (s_Qi (s_WC cy ad) G (s_A ad 27 s.heap.size) re σe) args s 0 0 (s_A ad 27 s.heap.size)) (F0 m 0 ls []) := by
  obtain ⟨hx, hb, hr, hml, hown, hts, hlk, hK, hE, hI⟩ := id C
  have hD : ∀ σ : Sg, va_D (s_A ad 27 s.heap.size) ((s_WC cy ad) σ) := fun σ => s_D (s_WC_ad cy ad σ) hI (fun k hk => Or.inl ⟨k, hk, rfl⟩)
  unfold fX6_most at hf
  refine lv_iload_n hx hb dX6_most_0 rfl (lv_at hl 1 rfl) ?_
  refine lv_if_lt (tgt := 9) hx hb dX6_most_1 (by decide) (fun c1 => ?_) (fun c1 => ?_)
  · rw [if_pos c1] at hf
    exact kX6_most_b9 C σ _ _ _ (lv_sub hl [] rfl) hP hS hf
  · rw [if_neg c1] at hf
    refine lv_iload_n hx hb dX6_most_4 rfl (lv_at hl 1 rfl) ?_
    refine lv_iconst (v := 1) hx hb dX6_most_5 (by decide) ?_
    refine lv_icmp_le (tgt := 11) hx hb dX6_most_6 (by decide) (fun c2 => ?_) (fun c2 => ?_)
    · rw [if_pos c2] at hf
      refine lv_bipush (v := -4) hx hb dX6_most_11 (by decide) ?_
      refine lv_istore_n (lv' := [(2, .int (-4 : Int32)), (0, .ref (ad 0)), (1, .int x1)]) hx hb dX6_most_13 rfl hl (by decide) rfl (fun ls hl => ?_)
      refine lv_iconst (v := 0) hx hb dX6_most_14 (by decide) ?_
      refine lv_istore_n (lv' := [(3, .int (0 : Int32)), (2, .int (-4 : Int32)), (0, .ref (ad 0)), (1, .int x1)]) hx hb dX6_most_15 rfl hl (by decide) rfl (fun ls hl => ?_)
      refine lv_aload_n hx hb dX6_most_16 rfl (lv_at hl 2 rfl) ?_
      refine va_get (D := G) (ci := 6) (v := .ref (ad 8)) (C := RX6) (T := TX6) (N := 9) hx hb hts inkX6 hown hK hP 0 rfl rfl 3 (by decide) (hts _ kw_253) (fun _ h9 => h9) rfl dX6_most_17 ?_
      replace hf := s_bv_some hf
      obtain ⟨σ3, hz4, hf⟩ := hf
      refine s_callv (nn := 0) C (kcX0_clear (l := l) (G := G) (cy := cy) (sa := sa) hI (sz := H.size) σ hz4) gk_X6_182 rfl rfl (by decide +kernel) ⟨Nat.le_of_ble_eq_true rfl, Nat.le_of_ble_eq_true rfl⟩ hP hS (q0 := 8) (ci := 0) rfl rfl rfl (As := []) (rest := []) rfl rfl hl.1 (Nat.le_of_ble_eq_true rfl) dX6_most_20 (fun H locs hP hS => ?_)
      refine lv_iconst (v := 0) hx hb dX6_most_23 (by decide) ?_
      refine lv_istore (lv' := [(4, .int (0 : Int32)), (3, .int (0 : Int32)), (2, .int (-4 : Int32)), (0, .ref (ad 0)), (1, .int x1)]) hx hb dX6_most_24 hl (by decide) rfl (fun ls hl => ?_)
      exact kX6_most_b26_L C s_fu σ3 x1 (-4 : Int32) (0 : Int32) (0 : Int32) _ _ _ (lv_sub hl [3, 4, 2, 1, 0] rfl) hP hS hf
    · rw [if_neg c2] at hf
      exact kX6_most_b9 C σ _ _ _ (lv_sub hl [] rfl) hP hS hf
theorem kcX6_most {l : Launch} {G : va_G} {cy : Nat → ClassId} {sa : Nat × Nat} {ad : Nat → Nat}  {sz : Nat} (hI : s_inj ad 27) (σ : Sg) (x1 : Int32) {re : Int32} {σe : Sg} (hf : fX6_most σ x1 = some (re, σe)) : Met l yX6_most (kW yX6_most cX6_most 7 (some .int)) ({ frames := 3, cells := 0, slots := 0, locals := 65 } : Room) (s_P (s_WC cy ad) G cy sa ad 27 [.ref (ad 0), .int x1] sz σ) (s_Qi (s_WC cy ad) G (s_A ad 27 sz) re σe) 0 0 (s_A ad 27 sz) := by
  refine s_met (own := RX6) (by decide) rfl hI (Nat.le_of_ble_eq_true rfl) (fun p e s m below meth c ls hsz C hP hl => ?_)
  subst hsz
  exact kX6_most C σ x1 ls _ _ hl hP va_S.rf hf
set_option maxRecDepth 100000 in
set_option maxHeartbeats 4000000 in
theorem kX6_isHundredths_b16 (C : s_X p s m meth c args cX6_isHundredths (some .boolean) 1 RX6 G cy sa ad 27) (σ : Sg) (ls : Array Slot) (H : Heap) (locs : List Loc) (hl : lv_has ls 1 []) (hP : va_P G vwCl ((s_WC cy ad) σ) H) (hS : va_S (s_A ad 27 s.heap.size) s.heap H locs) (hf : fX6_isHundredths_b16 σ = some (re, σe)) : W p l e ({ frames := 0, cells := 0, slots := 0, locals := 0 } : Room) s m args below meth c H locs 0 0 (MQ below (s_Qi (s_WC cy ad) G (s_A ad 27 s.heap.size) re σe) args s 0 0 (s_A ad 27 s.heap.size)) (F0 m 16 ls []) := by
  obtain ⟨hx, hb, hr, hml, hown, hts, hlk, hK, hE, hI⟩ := id C
  have hD : ∀ σ : Sg, va_D (s_A ad 27 s.heap.size) ((s_WC cy ad) σ) := fun σ => s_D (s_WC_ad cy ad σ) hI (fun k hk => Or.inl ⟨k, hk, rfl⟩)
  unfold fX6_isHundredths_b16 at hf
  refine lv_iconst (v := 0) hx hb dX6_isHundredths_16 (by decide) ?_
  obtain ⟨he1, he2⟩ := s_ret hf
  exact W.zret hx hb hr rfl (fun t ht hW => ⟨⟨_, (), rfl, he1, s_fin (Wd := (s_WC cy ad)) ht he2 hP⟩, hS.F ht⟩) hS.2.2 dX6_isHundredths_17 hlk
set_option maxRecDepth 100000 in
set_option maxHeartbeats 4000000 in
theorem kX6_isHundredths (C : s_X p s m meth c args cX6_isHundredths (some .boolean) 1 RX6 G cy sa ad 27) (σ : Sg) (x0 : Int32) (ls : Array Slot) (H : Heap) (locs : List Loc) (hl : lv_has ls 1 [(0, .int x0)]) (hP : va_P G vwCl ((s_WC cy ad) σ) H) (hS : va_S (s_A ad 27 s.heap.size) s.heap H locs) (hf : fX6_isHundredths σ x0 = some (re, σe)) : W p l e ({ frames := 0, cells := 0, slots := 0, locals := 0 } : Room) s m args below meth c H locs 0 0 (MQ below (s_Qi (s_WC cy ad) G (s_A ad 27 s.heap.size) re σe) args s 0 0 (s_A ad 27 s.heap.size)) (F0 m 0 ls []) := by
  obtain ⟨hx, hb, hr, hml, hown, hts, hlk, hK, hE, hI⟩ := id C
  have hD : ∀ σ : Sg, va_D (s_A ad 27 s.heap.size) ((s_WC cy ad) σ) := fun σ => s_D (s_WC_ad cy ad σ) hI (fun k hk => Or.inl ⟨k, hk, rfl⟩)
  unfold fX6_isHundredths at hf
  refine lv_iload_n hx hb dX6_isHundredths_0 rfl (lv_at hl 0 rfl) ?_
  refine lv_ldc (v := -999999) hx hb hown (hts _ kw_638) dX6_isHundredths_1 ?_
  refine lv_icmp_lt (tgt := 16) hx hb dX6_isHundredths_3 (by decide) (fun c1 => ?_) (fun c1 => ?_)
  · rw [if_pos c1] at hf
    exact kX6_isHundredths_b16 C σ _ _ _ (lv_sub hl [] rfl) hP hS hf
  · rw [if_neg c1] at hf
    refine lv_iload_n hx hb dX6_isHundredths_6 rfl (lv_at hl 0 rfl) ?_
    refine lv_ldc (v := 999999) hx hb hown (hts _ kw_639) dX6_isHundredths_7 ?_
    refine lv_icmp_gt (tgt := 16) hx hb dX6_isHundredths_9 (by decide) (fun c2 => ?_) (fun c2 => ?_)
    · rw [if_pos c2] at hf
      exact kX6_isHundredths_b16 C σ _ _ _ (lv_sub hl [] rfl) hP hS hf
    · rw [if_neg c2] at hf
      refine lv_iconst (v := 1) hx hb dX6_isHundredths_12 (by decide) ?_
      refine lv_goto (tgt := 17) hx hb dX6_isHundredths_13 (by decide) ?_
      obtain ⟨he1, he2⟩ := s_ret hf
      exact W.zret hx hb hr rfl (fun t ht hW => ⟨⟨_, (), rfl, he1, s_fin (Wd := (s_WC cy ad)) ht he2 hP⟩, hS.F ht⟩) hS.2.2 dX6_isHundredths_17 hlk
theorem kcX6_isHundredths {l : Launch} {G : va_G} {cy : Nat → ClassId} {sa : Nat × Nat} {ad : Nat → Nat}  {sz : Nat} (hI : s_inj ad 27) (σ : Sg) (x0 : Int32) {re : Int32} {σe : Sg} (hf : fX6_isHundredths σ x0 = some (re, σe)) : Met l yX6_isHundredths (kW yX6_isHundredths cX6_isHundredths 1 (some .boolean)) ({ frames := 0, cells := 0, slots := 0, locals := 0 } : Room) (s_P (s_WC cy ad) G cy sa ad 27 [.int x0] sz σ) (s_Qi (s_WC cy ad) G (s_A ad 27 sz) re σe) 0 0 (s_A ad 27 sz) := by
  refine s_met (own := RX6) (by decide) rfl hI (Nat.le_of_ble_eq_true rfl) (fun p e s m below meth c ls hsz C hP hl => ?_)
  subst hsz
  exact kX6_isHundredths C σ x0 ls _ _ hl hP va_S.rf hf
set_option maxRecDepth 100000 in
set_option maxHeartbeats 4000000 in
theorem kX1_isFull_6 (C : s_X p s m meth c args cX1_isFull (some .boolean) 1 RX1 G cy sa ad 27) (σ : Sg) (ls : Array Slot) (H : Heap) (locs : List Loc) (hl : lv_has ls 1 [(0, .ref (ad 6))]) (hP : va_P G vwCl ((s_WC cy ad) σ) H) (hS : va_S (s_A ad 27 s.heap.size) s.heap H locs) (hf : fX1_isFull_6 σ = some (re, σe)) : W p l e ({ frames := 0, cells := 0, slots := 0, locals := 0 } : Room) s m args below meth c H locs 0 0 (MQ below (s_Qi (s_WC cy ad) G (s_A ad 27 s.heap.size) re σe) args s 0 0 (s_A ad 27 s.heap.size)) (F0 m 0 ls []) := by
  obtain ⟨hx, hb, hr, hml, hown, hts, hlk, hK, hE, hI⟩ := id C
  have hD : ∀ σ : Sg, va_D (s_A ad 27 s.heap.size) ((s_WC cy ad) σ) := fun σ => s_D (s_WC_ad cy ad σ) hI (fun k hk => Or.inl ⟨k, hk, rfl⟩)
  unfold fX1_isFull_6 at hf
  refine lv_aload_n hx hb dX1_isFull_0 rfl (lv_at hl 0 rfl) ?_
  refine va_get (D := G) (ci := 1) (v := .int (σ 6 1)) (C := RX1) (T := TX1) (N := 8) hx hb hts inkX1 hown hK hP 6 rfl rfl 1 (by decide) (hts _ kw_112) (fun _ h9 => h9) rfl dX1_isFull_1 ?_
  refine lv_bipush (v := 96) hx hb dX1_isFull_4 (by decide) ?_
  refine lv_icmp_lt (tgt := 13) hx hb dX1_isFull_6 (by decide) (fun c1 => ?_) (fun c1 => ?_)
  · rw [if_pos c1] at hf
    refine lv_iconst (v := 0) hx hb dX1_isFull_13 (by decide) ?_
    obtain ⟨he1, he2⟩ := s_ret hf
    exact W.zret hx hb hr rfl (fun t ht hW => ⟨⟨_, (), rfl, he1, s_fin (Wd := (s_WC cy ad)) ht he2 hP⟩, hS.F ht⟩) hS.2.2 dX1_isFull_14 hlk
  · rw [if_neg c1] at hf
    refine lv_iconst (v := 1) hx hb dX1_isFull_9 (by decide) ?_
    refine lv_goto (tgt := 14) hx hb dX1_isFull_10 (by decide) ?_
    obtain ⟨he1, he2⟩ := s_ret hf
    exact W.zret hx hb hr rfl (fun t ht hW => ⟨⟨_, (), rfl, he1, s_fin (Wd := (s_WC cy ad)) ht he2 hP⟩, hS.F ht⟩) hS.2.2 dX1_isFull_14 hlk
theorem kcX1_isFull_6 {l : Launch} {G : va_G} {cy : Nat → ClassId} {sa : Nat × Nat} {ad : Nat → Nat}  {sz : Nat} (hI : s_inj ad 27) (σ : Sg) {re : Int32} {σe : Sg} (hf : fX1_isFull_6 σ = some (re, σe)) : Met l yX1_isFull (kW yX1_isFull cX1_isFull 1 (some .boolean)) ({ frames := 0, cells := 0, slots := 0, locals := 0 } : Room) (s_P (s_WC cy ad) G cy sa ad 27 [.ref (ad 6)] sz σ) (s_Qi (s_WC cy ad) G (s_A ad 27 sz) re σe) 0 0 (s_A ad 27 sz) := by
  refine s_met (own := RX1) (by decide) rfl hI (Nat.le_of_ble_eq_true rfl) (fun p e s m below meth c ls hsz C hP hl => ?_)
  subst hsz
  exact kX1_isFull_6 C σ ls _ _ hl hP va_S.rf hf
set_option maxRecDepth 100000 in
set_option maxHeartbeats 4000000 in
theorem kX1_append_6 (C : s_X p s m meth c args cX1_append none 2 RX1 G cy sa ad 27) (σ : Sg) (x1 : Int32) (ls : Array Slot) (H : Heap) (locs : List Loc) (hl : lv_has ls 2 [(0, .ref (ad 6)), (1, .int x1)]) (hP : va_P G vwCl ((s_WC cy ad) σ) H) (hS : va_S (s_A ad 27 s.heap.size) s.heap H locs) (hf : fX1_append_6 σ x1 = some σe) : W p l e ({ frames := 1, cells := 0, slots := 0, locals := 20 } : Room) s m args below meth c H locs 0 0 (MQ below (s_Qv (s_WC cy ad) G (s_A ad 27 s.heap.size) σe) args s 0 0 (s_A ad 27 s.heap.size)) (F0 m 0 ls []) := by
  obtain ⟨hx, hb, hr, hml, hown, hts, hlk, hK, hE, hI⟩ := id C
  have hD : ∀ σ : Sg, va_D (s_A ad 27 s.heap.size) ((s_WC cy ad) σ) := fun σ => s_D (s_WC_ad cy ad σ) hI (fun k hk => Or.inl ⟨k, hk, rfl⟩)
  unfold fX1_append_6 at hf
  refine lv_aload_n hx hb dX1_append_0 rfl (lv_at hl 0 rfl) ?_
  replace hf := s_bi_some hf
  obtain ⟨r3, σ1, hz2, hf⟩ := hf
  refine s_calli (nn := 0) C (kcX1_isFull_6 (l := l) (G := G) (cy := cy) (sa := sa) hI (sz := H.size) σ hz2) gk_X1_51 rfl rfl (by decide +kernel) ⟨Nat.le_of_ble_eq_true rfl, Nat.le_of_ble_eq_true rfl⟩ hP hS (q0 := 6) (ci := 1) rfl rfl rfl (As := []) (rest := []) rfl rfl hl.1 (Nat.le_of_ble_eq_true rfl) dX1_append_1 (fun H locs hP hS => ?_)
  refine lv_if_ne (tgt := 27) hx hb dX1_append_4 (by decide) (fun c4 => ?_) (fun c4 => ?_)
  · rw [if_neg c4] at hf
    have he2 := Option.some.inj hf
    exact W.vret hx hb hr (fun t ht hW => ⟨⟨(), rfl, trivial, s_fin (Wd := (s_WC cy ad)) ht he2 hP⟩, hS.F ht⟩) hS.2.2 dX1_append_27 hlk
  · rw [if_pos c4] at hf
    refine lv_aload_n hx hb dX1_append_7 rfl (lv_at hl 0 rfl) ?_
    refine va_get (D := G) (ci := 1) (v := .ref (ad 7)) (C := RX1) (T := TX1) (N := 8) hx hb hts inkX1 hown hK hP 6 rfl rfl 0 (by decide) (hts _ kw_111) (fun _ h9 => h9) rfl dX1_append_8 ?_
    refine lv_aload_n hx hb dX1_append_11 rfl (lv_at hl 0 rfl) ?_
    refine va_get (D := G) (ci := 1) (v := .int (σ1 6 1)) (C := RX1) (T := TX1) (N := 8) hx hb hts inkX1 hown hK hP 6 rfl rfl 1 (by decide) (hts _ kw_112) (fun _ h9 => h9) rfl dX1_append_12 ?_
    refine lv_iload_n hx hb dX1_append_15 rfl (lv_at hl 1 rfl) ?_
    replace hf := s_gd_some hf
    obtain ⟨g5, hf⟩ := hf
    refine va_iast hx hb hK hP (hD _) hS 7 1 rfl rfl (s_in_of g5) dX1_append_16 (fun H locs hP _ hS => ?_)
    obtain ⟨σ6, eσ6⟩ : ∃ z : Sg, z = (s_up σ1 7 (Int32.toNatClampNeg (σ1 6 1)) x1) := ⟨_, rfl⟩
    replace hf := s_lt_at eσ6 hf
    replace hP : va_P G vwCl ((s_WC cy ad) σ6) H := by rw [eσ6]; exact hP
    refine lv_aload_n hx hb dX1_append_17 rfl (lv_at hl 0 rfl) ?_
    refine lv_dup hx hb dX1_append_18 rfl ?_
    refine va_get (D := G) (ci := 1) (v := .int (σ6 6 1)) (C := RX1) (T := TX1) (N := 8) hx hb hts inkX1 hown hK hP 6 rfl rfl 1 (by decide) (hts _ kw_112) (fun _ h9 => h9) rfl dX1_append_19 ?_
    refine lv_iconst (v := 1) hx hb dX1_append_22 (by decide) ?_
    refine lv_iadd hx hb dX1_append_23 ?_
    refine va_put (D := G) (ci := 1) (v := .int ((σ6 6 1) + (1 : Int32))) (ty := .int) (C := RX1) (T := TX1) (N := 8) hx hb hts inkX1 tyX1 tyX1_ok nmX1 hown hK hP (hD _) hS 6 rfl rfl 1 (by decide) (hts _ kw_112) (fun _ h9 => h9) rfl (by decide +kernel) rfl rfl (Nat.le_of_ble_eq_true rfl) dX1_append_24 (fun H locs hP _ hS => ?_)
    obtain ⟨σ7, eσ7⟩ : ∃ z : Sg, z = (s_up σ6 6 1 ((σ6 6 1) + (1 : Int32))) := ⟨_, rfl⟩
    replace hf := s_lt_at eσ7 hf
    replace hP : va_P G vwCl ((s_WC cy ad) σ7) H := by rw [eσ7]; exact hP
    have he2 := Option.some.inj hf
    exact W.vret hx hb hr (fun t ht hW => ⟨⟨(), rfl, trivial, s_fin (Wd := (s_WC cy ad)) ht he2 hP⟩, hS.F ht⟩) hS.2.2 dX1_append_27 hlk
theorem kcX1_append_6 {l : Launch} {G : va_G} {cy : Nat → ClassId} {sa : Nat × Nat} {ad : Nat → Nat}  {sz : Nat} (hI : s_inj ad 27) (σ : Sg) (x1 : Int32) {σe : Sg} (hf : fX1_append_6 σ x1 = some σe) : Met l yX1_append (kW yX1_append cX1_append 2 none) ({ frames := 1, cells := 0, slots := 0, locals := 20 } : Room) (s_P (s_WC cy ad) G cy sa ad 27 [.ref (ad 6), .int x1] sz σ) (s_Qv (s_WC cy ad) G (s_A ad 27 sz) σe) 0 0 (s_A ad 27 sz) := by
  refine s_met (own := RX1) (by decide) rfl hI (Nat.le_of_ble_eq_true rfl) (fun p e s m below meth c ls hsz C hP hl => ?_)
  subst hsz
  exact kX1_append_6 C σ x1 ls _ _ hl hP va_S.rf hf
set_option maxRecDepth 100000 in
set_option maxHeartbeats 4000000 in
theorem kX6_putBehind (C : s_X p s m meth c args cX6_putBehind (some .int) 2 RX6 G cy sa ad 27) (σ : Sg) (x1 : Int32) (ls : Array Slot) (H : Heap) (locs : List Loc) (hl : lv_has ls 2 [(0, .ref (ad 0)), (1, .int x1)]) (hP : va_P G vwCl ((s_WC cy ad) σ) H) (hS : va_S (s_A ad 27 s.heap.size) s.heap H locs) (hf : fX6_putBehind σ x1 = some (re, σe)) : W p l e ({ frames := 2, cells := 0, slots := 0, locals := 41 } : Room) s m args below meth c H locs 0 0 (MQ below (s_Qi (s_WC cy ad) G (s_A ad 27 s.heap.size) re σe) args s 0 0 (s_A ad 27 s.heap.size)) (F0 m 0 ls []) := by
  obtain ⟨hx, hb, hr, hml, hown, hts, hlk, hK, hE, hI⟩ := id C
  have hD : ∀ σ : Sg, va_D (s_A ad 27 s.heap.size) ((s_WC cy ad) σ) := fun σ => s_D (s_WC_ad cy ad σ) hI (fun k hk => Or.inl ⟨k, hk, rfl⟩)
  unfold fX6_putBehind at hf
  refine lv_aload_n hx hb dX6_putBehind_0 rfl (lv_at hl 0 rfl) ?_
  refine va_get (D := G) (ci := 6) (v := .ref (ad 6)) (C := RX6) (T := TX6) (N := 9) hx hb hts inkX6 hown hK hP 0 rfl rfl 2 (by decide) (hts _ kw_252) (fun _ h9 => h9) rfl dX6_putBehind_1 ?_
  replace hf := s_bi_some hf
  obtain ⟨r3, σ1, hz2, hf⟩ := hf
  refine s_calli (nn := 0) C (kcX1_isFull_6 (l := l) (G := G) (cy := cy) (sa := sa) hI (sz := H.size) σ hz2) gk_X6_212 rfl rfl (by decide +kernel) ⟨Nat.le_of_ble_eq_true rfl, Nat.le_of_ble_eq_true rfl⟩ hP hS (q0 := 6) (ci := 1) rfl rfl rfl (As := []) (rest := []) rfl rfl hl.1 (Nat.le_of_ble_eq_true rfl) dX6_putBehind_4 (fun H locs hP hS => ?_)
  refine lv_if_eq (tgt := 13) hx hb dX6_putBehind_7 (by decide) (fun c4 => ?_) (fun c4 => ?_)
  · rw [if_pos c4] at hf
    refine lv_aload_n hx hb dX6_putBehind_13 rfl (lv_at hl 0 rfl) ?_
    refine va_get (D := G) (ci := 6) (v := .ref (ad 6)) (C := RX6) (T := TX6) (N := 9) hx hb hts inkX6 hown hK hP 0 rfl rfl 2 (by decide) (hts _ kw_252) (fun _ h9 => h9) rfl dX6_putBehind_14 ?_
    refine lv_iload_n hx hb dX6_putBehind_17 rfl (lv_at hl 1 rfl) ?_
    replace hf := s_bv_some hf
    obtain ⟨σ5, hz6, hf⟩ := hf
    refine s_callv (nn := 1) C (kcX1_append_6 (l := l) (G := G) (cy := cy) (sa := sa) hI (sz := H.size) σ1 x1 hz6) gk_X6_214 rfl rfl (by decide +kernel) ⟨Nat.le_of_ble_eq_true rfl, Nat.le_of_ble_eq_true rfl⟩ hP hS (q0 := 6) (ci := 1) rfl rfl rfl (As := [.int x1]) (rest := []) rfl rfl hl.1 (Nat.le_of_ble_eq_true rfl) dX6_putBehind_18 (fun H locs hP hS => ?_)
    refine lv_aload_n hx hb dX6_putBehind_21 rfl (lv_at hl 0 rfl) ?_
    refine va_get (D := G) (ci := 6) (v := .ref (ad 6)) (C := RX6) (T := TX6) (N := 9) hx hb hts inkX6 hown hK hP 0 rfl rfl 2 (by decide) (hts _ kw_252) (fun _ h9 => h9) rfl dX6_putBehind_22 ?_
    refine va_getN (D := G) (ci := 1) (v := .int (σ5 6 1)) (C := RX1) (T := TX1) (N := 8) hx hb hts inkX1 hown hK hP 6 rfl rfl 1 (by decide) (kn_X6_89 hE) (fun _ h9 => h9) rfl dX6_putBehind_25 ?_
    obtain ⟨he1, he2⟩ := s_ret hf
    exact W.iret hx hb hr (fun t ht hW => ⟨⟨_, (), rfl, he1, s_fin (Wd := (s_WC cy ad)) ht he2 hP⟩, hS.F ht⟩) hS.2.2 dX6_putBehind_28 hlk
  · rw [if_neg c4] at hf
    refine lv_bipush (v := -3) hx hb dX6_putBehind_10 (by decide) ?_
    obtain ⟨he1, he2⟩ := s_ret hf
    exact W.iret hx hb hr (fun t ht hW => ⟨⟨_, (), rfl, he1, s_fin (Wd := (s_WC cy ad)) ht he2 hP⟩, hS.F ht⟩) hS.2.2 dX6_putBehind_12 hlk
theorem kcX6_putBehind {l : Launch} {G : va_G} {cy : Nat → ClassId} {sa : Nat × Nat} {ad : Nat → Nat}  {sz : Nat} (hI : s_inj ad 27) (σ : Sg) (x1 : Int32) {re : Int32} {σe : Sg} (hf : fX6_putBehind σ x1 = some (re, σe)) : Met l yX6_putBehind (kW yX6_putBehind cX6_putBehind 2 (some .int)) ({ frames := 2, cells := 0, slots := 0, locals := 41 } : Room) (s_P (s_WC cy ad) G cy sa ad 27 [.ref (ad 0), .int x1] sz σ) (s_Qi (s_WC cy ad) G (s_A ad 27 sz) re σe) 0 0 (s_A ad 27 sz) := by
  refine s_met (own := RX6) (by decide) rfl hI (Nat.le_of_ble_eq_true rfl) (fun p e s m below meth c ls hsz C hP hl => ?_)
  subst hsz
  exact kX6_putBehind C σ x1 ls _ _ hl hP va_S.rf hf
set_option maxRecDepth 100000 in
set_option maxHeartbeats 4000000 in
theorem kX6_add (C : s_X p s m meth c args cX6_add (some .int) 2 RX6 G cy sa ad 27) (σ : Sg) (x1 : Int32) (ls : Array Slot) (H : Heap) (locs : List Loc) (hl : lv_has ls 2 [(0, .ref (ad 0)), (1, .int x1)]) (hP : va_P G vwCl ((s_WC cy ad) σ) H) (hS : va_S (s_A ad 27 s.heap.size) s.heap H locs) (hf : fX6_add σ x1 = some (re, σe)) : W p l e ({ frames := 3, cells := 0, slots := 0, locals := 62 } : Room) s m args below meth c H locs 0 0 (MQ below (s_Qi (s_WC cy ad) G (s_A ad 27 s.heap.size) re σe) args s 0 0 (s_A ad 27 s.heap.size)) (F0 m 0 ls []) := by
  obtain ⟨hx, hb, hr, hml, hown, hts, hlk, hK, hE, hI⟩ := id C
  have hD : ∀ σ : Sg, va_D (s_A ad 27 s.heap.size) ((s_WC cy ad) σ) := fun σ => s_D (s_WC_ad cy ad σ) hI (fun k hk => Or.inl ⟨k, hk, rfl⟩)
  unfold fX6_add at hf
  refine lv_iload_n hx hb dX6_add_0 rfl (lv_at hl 1 rfl) ?_
  replace hf := s_bi_some hf
  obtain ⟨r3, σ1, hz2, hf⟩ := hf
  refine s_calliS (nn := 1) C (kcX6_isHundredths (l := l) (G := G) (cy := cy) (sa := sa) hI (sz := H.size) σ x1 hz2) gk_X6_197 rfl rfl (by decide +kernel) ⟨Nat.le_of_ble_eq_true rfl, Nat.le_of_ble_eq_true rfl⟩ hP hS (As := [.int x1]) (rest := []) rfl rfl hl.1 (Nat.le_of_ble_eq_true rfl) dX6_add_1 (fun H locs hP hS => ?_)
  refine lv_if_ne (tgt := 9) hx hb dX6_add_4 (by decide) (fun c4 => ?_) (fun c4 => ?_)
  · rw [if_neg c4] at hf
    refine lv_aload_n hx hb dX6_add_9 rfl (lv_at hl 0 rfl) ?_
    refine lv_iload_n hx hb dX6_add_10 rfl (lv_at hl 1 rfl) ?_
    replace hf := s_bi_some hf
    obtain ⟨r7, σ5, hz6, hf⟩ := hf
    refine s_calli (nn := 1) C (kcX6_putBehind (l := l) (G := G) (cy := cy) (sa := sa) hI (sz := H.size) σ1 x1 hz6) gk_X6_200 rfl rfl (by decide +kernel) ⟨Nat.le_of_ble_eq_true rfl, Nat.le_of_ble_eq_true rfl⟩ hP hS (q0 := 0) (ci := 6) rfl rfl rfl (As := [.int x1]) (rest := []) rfl rfl hl.1 (Nat.le_of_ble_eq_true rfl) dX6_add_11 (fun H locs hP hS => ?_)
    obtain ⟨he1, he2⟩ := s_ret hf
    exact W.iret hx hb hr (fun t ht hW => ⟨⟨_, (), rfl, he1, s_fin (Wd := (s_WC cy ad)) ht he2 hP⟩, hS.F ht⟩) hS.2.2 dX6_add_14 hlk
  · rw [if_pos c4] at hf
    refine lv_iconst (v := -1) hx hb dX6_add_7 (by decide) ?_
    obtain ⟨he1, he2⟩ := s_ret hf
    exact W.iret hx hb hr (fun t ht hW => ⟨⟨_, (), rfl, he1, s_fin (Wd := (s_WC cy ad)) ht he2 hP⟩, hS.F ht⟩) hS.2.2 dX6_add_8 hlk
theorem kcX6_add {l : Launch} {G : va_G} {cy : Nat → ClassId} {sa : Nat × Nat} {ad : Nat → Nat}  {sz : Nat} (hI : s_inj ad 27) (σ : Sg) (x1 : Int32) {re : Int32} {σe : Sg} (hf : fX6_add σ x1 = some (re, σe)) : Met l yX6_add (kW yX6_add cX6_add 2 (some .int)) ({ frames := 3, cells := 0, slots := 0, locals := 62 } : Room) (s_P (s_WC cy ad) G cy sa ad 27 [.ref (ad 0), .int x1] sz σ) (s_Qi (s_WC cy ad) G (s_A ad 27 sz) re σe) 0 0 (s_A ad 27 sz) := by
  refine s_met (own := RX6) (by decide) rfl hI (Nat.le_of_ble_eq_true rfl) (fun p e s m below meth c ls hsz C hP hl => ?_)
  subst hsz
  exact kX6_add C σ x1 ls _ _ hl hP va_S.rf hf
set_option maxRecDepth 100000 in
set_option maxHeartbeats 4000000 in
theorem kX6_miss (C : s_X p s m meth c args cX6_miss (some .int) 1 RX6 G cy sa ad 27) (σ : Sg) (ls : Array Slot) (H : Heap) (locs : List Loc) (hl : lv_has ls 1 [(0, .ref (ad 0))]) (hP : va_P G vwCl ((s_WC cy ad) σ) H) (hS : va_S (s_A ad 27 s.heap.size) s.heap H locs) (hf : fX6_miss σ = some (re, σe)) : W p l e ({ frames := 3, cells := 0, slots := 0, locals := 62 } : Room) s m args below meth c H locs 0 0 (MQ below (s_Qi (s_WC cy ad) G (s_A ad 27 s.heap.size) re σe) args s 0 0 (s_A ad 27 s.heap.size)) (F0 m 0 ls []) := by
  obtain ⟨hx, hb, hr, hml, hown, hts, hlk, hK, hE, hI⟩ := id C
  have hD : ∀ σ : Sg, va_D (s_A ad 27 s.heap.size) ((s_WC cy ad) σ) := fun σ => s_D (s_WC_ad cy ad σ) hI (fun k hk => Or.inl ⟨k, hk, rfl⟩)
  unfold fX6_miss at hf
  refine lv_aload_n hx hb dX6_miss_0 rfl (lv_at hl 0 rfl) ?_
  refine lv_ldc (v := 100000000) hx hb hown (hts _ kw_517) dX6_miss_1 ?_
  replace hf := s_bi_some hf
  obtain ⟨r3, σ1, hz2, hf⟩ := hf
  refine s_calli (nn := 1) C (kcX6_putBehind (l := l) (G := G) (cy := cy) (sa := sa) hI (sz := H.size) σ (100000000 : Int32) hz2) gk_X6_200 rfl rfl (by decide +kernel) ⟨Nat.le_of_ble_eq_true rfl, Nat.le_of_ble_eq_true rfl⟩ hP hS (q0 := 0) (ci := 6) rfl rfl rfl (As := [.int (100000000 : Int32)]) (rest := []) rfl rfl hl.1 (Nat.le_of_ble_eq_true rfl) dX6_miss_3 (fun H locs hP hS => ?_)
  obtain ⟨he1, he2⟩ := s_ret hf
  exact W.iret hx hb hr (fun t ht hW => ⟨⟨_, (), rfl, he1, s_fin (Wd := (s_WC cy ad)) ht he2 hP⟩, hS.F ht⟩) hS.2.2 dX6_miss_6 hlk
theorem kcX6_miss {l : Launch} {G : va_G} {cy : Nat → ClassId} {sa : Nat × Nat} {ad : Nat → Nat}  {sz : Nat} (hI : s_inj ad 27) (σ : Sg) {re : Int32} {σe : Sg} (hf : fX6_miss σ = some (re, σe)) : Met l yX6_miss (kW yX6_miss cX6_miss 1 (some .int)) ({ frames := 3, cells := 0, slots := 0, locals := 62 } : Room) (s_P (s_WC cy ad) G cy sa ad 27 [.ref (ad 0)] sz σ) (s_Qi (s_WC cy ad) G (s_A ad 27 sz) re σe) 0 0 (s_A ad 27 sz) := by
  refine s_met (own := RX6) (by decide) rfl hI (Nat.le_of_ble_eq_true rfl) (fun p e s m below meth c ls hsz C hP hl => ?_)
  subst hsz
  exact kX6_miss C σ ls _ _ hl hP va_S.rf hf
set_option maxRecDepth 100000 in
set_option maxHeartbeats 4000000 in
theorem kX1_change_6 (C : s_X p s m meth c args cX1_change none 3 RX1 G cy sa ad 27) (σ : Sg) (x1 : Int32) (x2 : Int32) (ls : Array Slot) (H : Heap) (locs : List Loc) (hl : lv_has ls 3 [(0, .ref (ad 6)), (1, .int x1), (2, .int x2)]) (hP : va_P G vwCl ((s_WC cy ad) σ) H) (hS : va_S (s_A ad 27 s.heap.size) s.heap H locs) (hf : fX1_change_6 σ x1 x2 = some σe) : W p l e ({ frames := 1, cells := 0, slots := 0, locals := 21 } : Room) s m args below meth c H locs 0 0 (MQ below (s_Qv (s_WC cy ad) G (s_A ad 27 s.heap.size) σe) args s 0 0 (s_A ad 27 s.heap.size)) (F0 m 0 ls []) := by
  obtain ⟨hx, hb, hr, hml, hown, hts, hlk, hK, hE, hI⟩ := id C
  have hD : ∀ σ : Sg, va_D (s_A ad 27 s.heap.size) ((s_WC cy ad) σ) := fun σ => s_D (s_WC_ad cy ad σ) hI (fun k hk => Or.inl ⟨k, hk, rfl⟩)
  unfold fX1_change_6 at hf
  refine lv_aload_n hx hb dX1_change_0 rfl (lv_at hl 0 rfl) ?_
  refine lv_iload_n hx hb dX1_change_1 rfl (lv_at hl 1 rfl) ?_
  replace hf := s_bi_some hf
  obtain ⟨r3, σ1, hz2, hf⟩ := hf
  refine s_calli (nn := 1) C (kcX1_has_6 (l := l) (G := G) (cy := cy) (sa := sa) hI (sz := H.size) σ x1 hz2) gk_X1_46 rfl rfl (by decide +kernel) ⟨Nat.le_of_ble_eq_true rfl, Nat.le_of_ble_eq_true rfl⟩ hP hS (q0 := 6) (ci := 1) rfl rfl rfl (As := [.int x1]) (rest := []) rfl rfl hl.1 (Nat.le_of_ble_eq_true rfl) dX1_change_2 (fun H locs hP hS => ?_)
  refine lv_if_eq (tgt := 15) hx hb dX1_change_5 (by decide) (fun c4 => ?_) (fun c4 => ?_)
  · rw [if_pos c4] at hf
    have he2 := Option.some.inj hf
    exact W.vret hx hb hr (fun t ht hW => ⟨⟨(), rfl, trivial, s_fin (Wd := (s_WC cy ad)) ht he2 hP⟩, hS.F ht⟩) hS.2.2 dX1_change_15 hlk
  · rw [if_neg c4] at hf
    refine lv_aload_n hx hb dX1_change_8 rfl (lv_at hl 0 rfl) ?_
    refine va_get (D := G) (ci := 1) (v := .ref (ad 7)) (C := RX1) (T := TX1) (N := 8) hx hb hts inkX1 hown hK hP 6 rfl rfl 0 (by decide) (hts _ kw_111) (fun _ h9 => h9) rfl dX1_change_9 ?_
    refine lv_iload_n hx hb dX1_change_12 rfl (lv_at hl 1 rfl) ?_
    refine lv_iload_n hx hb dX1_change_13 rfl (lv_at hl 2 rfl) ?_
    replace hf := s_gd_some hf
    obtain ⟨g5, hf⟩ := hf
    refine va_iast hx hb hK hP (hD _) hS 7 1 rfl rfl (s_in_of g5) dX1_change_14 (fun H locs hP _ hS => ?_)
    obtain ⟨σ6, eσ6⟩ : ∃ z : Sg, z = (s_up σ1 7 (Int32.toNatClampNeg x1) x2) := ⟨_, rfl⟩
    replace hf := s_lt_at eσ6 hf
    replace hP : va_P G vwCl ((s_WC cy ad) σ6) H := by rw [eσ6]; exact hP
    have he2 := Option.some.inj hf
    exact W.vret hx hb hr (fun t ht hW => ⟨⟨(), rfl, trivial, s_fin (Wd := (s_WC cy ad)) ht he2 hP⟩, hS.F ht⟩) hS.2.2 dX1_change_15 hlk
theorem kcX1_change_6 {l : Launch} {G : va_G} {cy : Nat → ClassId} {sa : Nat × Nat} {ad : Nat → Nat}  {sz : Nat} (hI : s_inj ad 27) (σ : Sg) (x1 : Int32) (x2 : Int32) {σe : Sg} (hf : fX1_change_6 σ x1 x2 = some σe) : Met l yX1_change (kW yX1_change cX1_change 3 none) ({ frames := 1, cells := 0, slots := 0, locals := 21 } : Room) (s_P (s_WC cy ad) G cy sa ad 27 [.ref (ad 6), .int x1, .int x2] sz σ) (s_Qv (s_WC cy ad) G (s_A ad 27 sz) σe) 0 0 (s_A ad 27 sz) := by
  refine s_met (own := RX1) (by decide) rfl hI (Nat.le_of_ble_eq_true rfl) (fun p e s m below meth c ls hsz C hP hl => ?_)
  subst hsz
  exact kX1_change_6 C σ x1 x2 ls _ _ hl hP va_S.rf hf
set_option maxRecDepth 100000 in
set_option maxHeartbeats 4000000 in
theorem kX6_replace_b18 (C : s_X p s m meth c args cX6_replace (some .int) 4 RX6 G cy sa ad 27) (σ : Sg) (x1 : Int32) (x2 : Int32) (y0 : Int32) (ls : Array Slot) (H : Heap) (locs : List Loc) (hl : lv_has ls 4 [(0, .ref (ad 0)), (1, .int x1), (2, .int x2)]) (hP : va_P G vwCl ((s_WC cy ad) σ) H) (hS : va_S (s_A ad 27 s.heap.size) s.heap H locs) (hf : fX6_replace_b18 σ x1 x2 y0 = some (re, σe)) : W p l e ({ frames := 2, cells := 0, slots := 0, locals := 43 } : Room) s m args below meth c H locs 0 0 (MQ below (s_Qi (s_WC cy ad) G (s_A ad 27 s.heap.size) re σe) args s 0 0 (s_A ad 27 s.heap.size)) (F0 m 18 ls [.int y0]) := by
  obtain ⟨hx, hb, hr, hml, hown, hts, hlk, hK, hE, hI⟩ := id C
  have hD : ∀ σ : Sg, va_D (s_A ad 27 s.heap.size) ((s_WC cy ad) σ) := fun σ => s_D (s_WC_ad cy ad σ) hI (fun k hk => Or.inl ⟨k, hk, rfl⟩)
  unfold fX6_replace_b18 at hf
  refine lv_istore_n (lv' := [(3, .int y0), (0, .ref (ad 0)), (1, .int x1), (2, .int x2)]) hx hb dX6_replace_18 rfl hl (by decide) rfl (fun ls hl => ?_)
  refine lv_aload_n hx hb dX6_replace_19 rfl (lv_at hl 1 rfl) ?_
  refine va_get (D := G) (ci := 6) (v := .ref (ad 6)) (C := RX6) (T := TX6) (N := 9) hx hb hts inkX6 hown hK hP 0 rfl rfl 2 (by decide) (hts _ kw_252) (fun _ h9 => h9) rfl dX6_replace_20 ?_
  refine lv_iload_n hx hb dX6_replace_23 rfl (lv_at hl 2 rfl) ?_
  refine lv_iload_n hx hb dX6_replace_24 rfl (lv_at hl 3 rfl) ?_
  replace hf := s_bv_some hf
  obtain ⟨σ1, hz2, hf⟩ := hf
  refine s_callv (nn := 2) C (kcX1_change_6 (l := l) (G := G) (cy := cy) (sa := sa) hI (sz := H.size) σ x1 x2 hz2) gk_X6_257 rfl rfl (by decide +kernel) ⟨Nat.le_of_ble_eq_true rfl, Nat.le_of_ble_eq_true rfl⟩ hP hS (q0 := 6) (ci := 1) rfl rfl rfl (As := [.int x1, .int x2]) (rest := []) rfl rfl hl.1 (Nat.le_of_ble_eq_true rfl) dX6_replace_25 (fun H locs hP hS => ?_)
  refine lv_iload_n hx hb dX6_replace_28 rfl (lv_at hl 0 rfl) ?_
  obtain ⟨he1, he2⟩ := s_ret hf
  exact W.iret hx hb hr (fun t ht hW => ⟨⟨_, (), rfl, he1, s_fin (Wd := (s_WC cy ad)) ht he2 hP⟩, hS.F ht⟩) hS.2.2 dX6_replace_29 hlk
set_option maxRecDepth 100000 in
set_option maxHeartbeats 4000000 in
theorem kX6_replace (C : s_X p s m meth c args cX6_replace (some .int) 4 RX6 G cy sa ad 27) (σ : Sg) (x1 : Int32) (x2 : Int32) (ls : Array Slot) (H : Heap) (locs : List Loc) (hl : lv_has ls 4 [(0, .ref (ad 0)), (1, .int x1), (2, .int x2)]) (hP : va_P G vwCl ((s_WC cy ad) σ) H) (hS : va_S (s_A ad 27 s.heap.size) s.heap H locs) (hf : fX6_replace σ x1 x2 = some (re, σe)) : W p l e ({ frames := 2, cells := 0, slots := 0, locals := 43 } : Room) s m args below meth c H locs 0 0 (MQ below (s_Qi (s_WC cy ad) G (s_A ad 27 s.heap.size) re σe) args s 0 0 (s_A ad 27 s.heap.size)) (F0 m 0 ls []) := by
  obtain ⟨hx, hb, hr, hml, hown, hts, hlk, hK, hE, hI⟩ := id C
  have hD : ∀ σ : Sg, va_D (s_A ad 27 s.heap.size) ((s_WC cy ad) σ) := fun σ => s_D (s_WC_ad cy ad σ) hI (fun k hk => Or.inl ⟨k, hk, rfl⟩)
  unfold fX6_replace at hf
  refine lv_aload_n hx hb dX6_replace_0 rfl (lv_at hl 0 rfl) ?_
  refine va_get (D := G) (ci := 6) (v := .ref (ad 6)) (C := RX6) (T := TX6) (N := 9) hx hb hts inkX6 hown hK hP 0 rfl rfl 2 (by decide) (hts _ kw_252) (fun _ h9 => h9) rfl dX6_replace_1 ?_
  refine lv_iload_n hx hb dX6_replace_4 rfl (lv_at hl 1 rfl) ?_
  replace hf := s_bi_some hf
  obtain ⟨r3, σ1, hz2, hf⟩ := hf
  refine s_calli (nn := 1) C (kcX1_valueAt_6 (l := l) (G := G) (cy := cy) (sa := sa) hI (sz := H.size) σ x1 hz2) gk_X6_120 rfl rfl (by decide +kernel) ⟨Nat.le_of_ble_eq_true rfl, Nat.le_of_ble_eq_true rfl⟩ hP hS (q0 := 6) (ci := 1) rfl rfl rfl (As := [.int x1]) (rest := []) rfl rfl hl.1 (Nat.le_of_ble_eq_true rfl) dX6_replace_5 (fun H locs hP hS => ?_)
  refine lv_ldc (v := 100000000) hx hb hown (hts _ kw_517) dX6_replace_8 ?_
  refine lv_icmp_ne (tgt := 17) hx hb dX6_replace_10 (by decide) (fun c4 => ?_) (fun c4 => ?_)
  · rw [if_neg c4] at hf
    refine lv_iconst (v := 0) hx hb dX6_replace_17 (by decide) ?_
    exact kX6_replace_b18 C σ1 x1 x2 (0 : Int32) _ _ _ (lv_sub hl [0, 1, 2] rfl) hP hS hf
  · rw [if_pos c4] at hf
    refine lv_iconst (v := 1) hx hb dX6_replace_13 (by decide) ?_
    refine lv_goto (tgt := 18) hx hb dX6_replace_14 (by decide) ?_
    exact kX6_replace_b18 C σ1 x1 x2 (1 : Int32) _ _ _ (lv_sub hl [0, 1, 2] rfl) hP hS hf
theorem kcX6_replace {l : Launch} {G : va_G} {cy : Nat → ClassId} {sa : Nat × Nat} {ad : Nat → Nat}  {sz : Nat} (hI : s_inj ad 27) (σ : Sg) (x1 : Int32) (x2 : Int32) {re : Int32} {σe : Sg} (hf : fX6_replace σ x1 x2 = some (re, σe)) : Met l yX6_replace (kW yX6_replace cX6_replace 4 (some .int)) ({ frames := 2, cells := 0, slots := 0, locals := 43 } : Room) (s_P (s_WC cy ad) G cy sa ad 27 [.ref (ad 0), .int x1, .int x2] sz σ) (s_Qi (s_WC cy ad) G (s_A ad 27 sz) re σe) 0 0 (s_A ad 27 sz) := by
  refine s_met (own := RX6) (by decide) rfl hI (Nat.le_of_ble_eq_true rfl) (fun p e s m below meth c ls hsz C hP hl => ?_)
  subst hsz
  exact kX6_replace C σ x1 x2 ls _ _ hl hP va_S.rf hf
set_option maxRecDepth 100000 in
set_option maxHeartbeats 4000000 in
theorem kX6_set_b18 (C : s_X p s m meth c args cX6_set (some .int) 3 RX6 G cy sa ad 27) (σ : Sg) (ls : Array Slot) (H : Heap) (locs : List Loc) (hl : lv_has ls 3 []) (hP : va_P G vwCl ((s_WC cy ad) σ) H) (hS : va_S (s_A ad 27 s.heap.size) s.heap H locs) (hf : fX6_set_b18 σ = some (re, σe)) : W p l e ({ frames := 3, cells := 0, slots := 0, locals := 66 } : Room) s m args below meth c H locs 0 0 (MQ below (s_Qi (s_WC cy ad) G (s_A ad 27 s.heap.size) re σe) args s 0 0 (s_A ad 27 s.heap.size)) (F0 m 18 ls []) := by
  obtain ⟨hx, hb, hr, hml, hown, hts, hlk, hK, hE, hI⟩ := id C
  have hD : ∀ σ : Sg, va_D (s_A ad 27 s.heap.size) ((s_WC cy ad) σ) := fun σ => s_D (s_WC_ad cy ad σ) hI (fun k hk => Or.inl ⟨k, hk, rfl⟩)
  unfold fX6_set_b18 at hf
  refine lv_iconst (v := -1) hx hb dX6_set_18 (by decide) ?_
  obtain ⟨he1, he2⟩ := s_ret hf
  exact W.iret hx hb hr (fun t ht hW => ⟨⟨_, (), rfl, he1, s_fin (Wd := (s_WC cy ad)) ht he2 hP⟩, hS.F ht⟩) hS.2.2 dX6_set_19 hlk
set_option maxRecDepth 100000 in
set_option maxHeartbeats 4000000 in
theorem kX6_set (C : s_X p s m meth c args cX6_set (some .int) 3 RX6 G cy sa ad 27) (σ : Sg) (x1 : Int32) (x2 : Int32) (ls : Array Slot) (H : Heap) (locs : List Loc) (hl : lv_has ls 3 [(0, .ref (ad 0)), (1, .int x1), (2, .int x2)]) (hP : va_P G vwCl ((s_WC cy ad) σ) H) (hS : va_S (s_A ad 27 s.heap.size) s.heap H locs) (hf : fX6_set σ x1 x2 = some (re, σe)) : W p l e ({ frames := 3, cells := 0, slots := 0, locals := 66 } : Room) s m args below meth c H locs 0 0 (MQ below (s_Qi (s_WC cy ad) G (s_A ad 27 s.heap.size) re σe) args s 0 0 (s_A ad 27 s.heap.size)) (F0 m 0 ls []) := by
  obtain ⟨hx, hb, hr, hml, hown, hts, hlk, hK, hE, hI⟩ := id C
  have hD : ∀ σ : Sg, va_D (s_A ad 27 s.heap.size) ((s_WC cy ad) σ) := fun σ => s_D (s_WC_ad cy ad σ) hI (fun k hk => Or.inl ⟨k, hk, rfl⟩)
  unfold fX6_set at hf
  refine lv_aload_n hx hb dX6_set_0 rfl (lv_at hl 0 rfl) ?_
  refine va_get (D := G) (ci := 6) (v := .ref (ad 6)) (C := RX6) (T := TX6) (N := 9) hx hb hts inkX6 hown hK hP 0 rfl rfl 2 (by decide) (hts _ kw_252) (fun _ h9 => h9) rfl dX6_set_1 ?_
  refine lv_iload_n hx hb dX6_set_4 rfl (lv_at hl 1 rfl) ?_
  replace hf := s_bi_some hf
  obtain ⟨r3, σ1, hz2, hf⟩ := hf
  refine s_calli (nn := 1) C (kcX1_has_6 (l := l) (G := G) (cy := cy) (sa := sa) hI (sz := H.size) σ x1 hz2) gk_X6_124 rfl rfl (by decide +kernel) ⟨Nat.le_of_ble_eq_true rfl, Nat.le_of_ble_eq_true rfl⟩ hP hS (q0 := 6) (ci := 1) rfl rfl rfl (As := [.int x1]) (rest := []) rfl rfl hl.1 (Nat.le_of_ble_eq_true rfl) dX6_set_5 (fun H locs hP hS => ?_)
  refine lv_if_eq (tgt := 18) hx hb dX6_set_8 (by decide) (fun c4 => ?_) (fun c4 => ?_)
  · rw [if_pos c4] at hf
    exact kX6_set_b18 C σ1 _ _ _ (lv_sub hl [] rfl) hP hS hf
  · rw [if_neg c4] at hf
    refine lv_iload_n hx hb dX6_set_11 rfl (lv_at hl 2 rfl) ?_
    replace hf := s_bi_some hf
    obtain ⟨r7, σ5, hz6, hf⟩ := hf
    refine s_calliS (nn := 1) C (kcX6_isHundredths (l := l) (G := G) (cy := cy) (sa := sa) hI (sz := H.size) σ1 x2 hz6) gk_X6_197 rfl rfl (by decide +kernel) ⟨Nat.le_of_ble_eq_true rfl, Nat.le_of_ble_eq_true rfl⟩ hP hS (As := [.int x2]) (rest := []) rfl rfl hl.1 (Nat.le_of_ble_eq_true rfl) dX6_set_12 (fun H locs hP hS => ?_)
    refine lv_if_ne (tgt := 20) hx hb dX6_set_15 (by decide) (fun c8 => ?_) (fun c8 => ?_)
    · rw [if_neg c8] at hf
      refine lv_aload_n hx hb dX6_set_20 rfl (lv_at hl 0 rfl) ?_
      refine lv_iload_n hx hb dX6_set_21 rfl (lv_at hl 1 rfl) ?_
      refine lv_iload_n hx hb dX6_set_22 rfl (lv_at hl 2 rfl) ?_
      replace hf := s_bi_some hf
      obtain ⟨r11, σ9, hz10, hf⟩ := hf
      refine s_calli (nn := 2) C (kcX6_replace (l := l) (G := G) (cy := cy) (sa := sa) hI (sz := H.size) σ5 x1 x2 hz10) gk_X6_203 rfl rfl (by decide +kernel) ⟨Nat.le_of_ble_eq_true rfl, Nat.le_of_ble_eq_true rfl⟩ hP hS (q0 := 0) (ci := 6) rfl rfl rfl (As := [.int x1, .int x2]) (rest := []) rfl rfl hl.1 (Nat.le_of_ble_eq_true rfl) dX6_set_23 (fun H locs hP hS => ?_)
      obtain ⟨he1, he2⟩ := s_ret hf
      exact W.iret hx hb hr (fun t ht hW => ⟨⟨_, (), rfl, he1, s_fin (Wd := (s_WC cy ad)) ht he2 hP⟩, hS.F ht⟩) hS.2.2 dX6_set_26 hlk
    · rw [if_pos c8] at hf
      exact kX6_set_b18 C σ5 _ _ _ (lv_sub hl [] rfl) hP hS hf
theorem kcX6_set {l : Launch} {G : va_G} {cy : Nat → ClassId} {sa : Nat × Nat} {ad : Nat → Nat}  {sz : Nat} (hI : s_inj ad 27) (σ : Sg) (x1 : Int32) (x2 : Int32) {re : Int32} {σe : Sg} (hf : fX6_set σ x1 x2 = some (re, σe)) : Met l yX6_set (kW yX6_set cX6_set 3 (some .int)) ({ frames := 3, cells := 0, slots := 0, locals := 66 } : Room) (s_P (s_WC cy ad) G cy sa ad 27 [.ref (ad 0), .int x1, .int x2] sz σ) (s_Qi (s_WC cy ad) G (s_A ad 27 sz) re σe) 0 0 (s_A ad 27 sz) := by
  refine s_met (own := RX6) (by decide) rfl hI (Nat.le_of_ble_eq_true rfl) (fun p e s m below meth c ls hsz C hP hl => ?_)
  subst hsz
  exact kX6_set C σ x1 x2 ls _ _ hl hP va_S.rf hf
set_option maxRecDepth 100000 in
set_option maxHeartbeats 4000000 in
theorem kX6_lose (C : s_X p s m meth c args cX6_lose (some .int) 2 RX6 G cy sa ad 27) (σ : Sg) (x1 : Int32) (ls : Array Slot) (H : Heap) (locs : List Loc) (hl : lv_has ls 2 [(0, .ref (ad 0)), (1, .int x1)]) (hP : va_P G vwCl ((s_WC cy ad) σ) H) (hS : va_S (s_A ad 27 s.heap.size) s.heap H locs) (hf : fX6_lose σ x1 = some (re, σe)) : W p l e ({ frames := 3, cells := 0, slots := 0, locals := 66 } : Room) s m args below meth c H locs 0 0 (MQ below (s_Qi (s_WC cy ad) G (s_A ad 27 s.heap.size) re σe) args s 0 0 (s_A ad 27 s.heap.size)) (F0 m 0 ls []) := by
  obtain ⟨hx, hb, hr, hml, hown, hts, hlk, hK, hE, hI⟩ := id C
  have hD : ∀ σ : Sg, va_D (s_A ad 27 s.heap.size) ((s_WC cy ad) σ) := fun σ => s_D (s_WC_ad cy ad σ) hI (fun k hk => Or.inl ⟨k, hk, rfl⟩)
  unfold fX6_lose at hf
  refine lv_aload_n hx hb dX6_lose_0 rfl (lv_at hl 0 rfl) ?_
  refine va_get (D := G) (ci := 6) (v := .ref (ad 6)) (C := RX6) (T := TX6) (N := 9) hx hb hts inkX6 hown hK hP 0 rfl rfl 2 (by decide) (hts _ kw_252) (fun _ h9 => h9) rfl dX6_lose_1 ?_
  refine lv_iload_n hx hb dX6_lose_4 rfl (lv_at hl 1 rfl) ?_
  replace hf := s_bi_some hf
  obtain ⟨r3, σ1, hz2, hf⟩ := hf
  refine s_calli (nn := 1) C (kcX1_has_6 (l := l) (G := G) (cy := cy) (sa := sa) hI (sz := H.size) σ x1 hz2) gk_X6_124 rfl rfl (by decide +kernel) ⟨Nat.le_of_ble_eq_true rfl, Nat.le_of_ble_eq_true rfl⟩ hP hS (q0 := 6) (ci := 1) rfl rfl rfl (As := [.int x1]) (rest := []) rfl rfl hl.1 (Nat.le_of_ble_eq_true rfl) dX6_lose_5 (fun H locs hP hS => ?_)
  refine lv_if_ne (tgt := 13) hx hb dX6_lose_8 (by decide) (fun c4 => ?_) (fun c4 => ?_)
  · rw [if_neg c4] at hf
    refine lv_aload_n hx hb dX6_lose_13 rfl (lv_at hl 0 rfl) ?_
    refine lv_iload_n hx hb dX6_lose_14 rfl (lv_at hl 1 rfl) ?_
    refine lv_ldc (v := 100000000) hx hb hown (hts _ kw_517) dX6_lose_15 ?_
    replace hf := s_bi_some hf
    obtain ⟨r7, σ5, hz6, hf⟩ := hf
    refine s_calli (nn := 2) C (kcX6_replace (l := l) (G := G) (cy := cy) (sa := sa) hI (sz := H.size) σ1 x1 (100000000 : Int32) hz6) gk_X6_203 rfl rfl (by decide +kernel) ⟨Nat.le_of_ble_eq_true rfl, Nat.le_of_ble_eq_true rfl⟩ hP hS (q0 := 0) (ci := 6) rfl rfl rfl (As := [.int x1, .int (100000000 : Int32)]) (rest := []) rfl rfl hl.1 (Nat.le_of_ble_eq_true rfl) dX6_lose_17 (fun H locs hP hS => ?_)
    obtain ⟨he1, he2⟩ := s_ret hf
    exact W.iret hx hb hr (fun t ht hW => ⟨⟨_, (), rfl, he1, s_fin (Wd := (s_WC cy ad)) ht he2 hP⟩, hS.F ht⟩) hS.2.2 dX6_lose_20 hlk
  · rw [if_pos c4] at hf
    refine lv_iconst (v := -1) hx hb dX6_lose_11 (by decide) ?_
    obtain ⟨he1, he2⟩ := s_ret hf
    exact W.iret hx hb hr (fun t ht hW => ⟨⟨_, (), rfl, he1, s_fin (Wd := (s_WC cy ad)) ht he2 hP⟩, hS.F ht⟩) hS.2.2 dX6_lose_12 hlk
theorem kcX6_lose {l : Launch} {G : va_G} {cy : Nat → ClassId} {sa : Nat × Nat} {ad : Nat → Nat}  {sz : Nat} (hI : s_inj ad 27) (σ : Sg) (x1 : Int32) {re : Int32} {σe : Sg} (hf : fX6_lose σ x1 = some (re, σe)) : Met l yX6_lose (kW yX6_lose cX6_lose 2 (some .int)) ({ frames := 3, cells := 0, slots := 0, locals := 66 } : Room) (s_P (s_WC cy ad) G cy sa ad 27 [.ref (ad 0), .int x1] sz σ) (s_Qi (s_WC cy ad) G (s_A ad 27 sz) re σe) 0 0 (s_A ad 27 sz) := by
  refine s_met (own := RX6) (by decide) rfl hI (Nat.le_of_ble_eq_true rfl) (fun p e s m below meth c ls hsz C hP hl => ?_)
  subst hsz
  exact kX6_lose C σ x1 ls _ _ hl hP va_S.rf hf
set_option maxRecDepth 100000 in
set_option maxHeartbeats 4000000 in
theorem kX1_dropFirst_6 (C : s_X p s m meth c args cX1_dropFirst none 2 RX1 G cy sa ad 27) (σ : Sg) (x1 : Int32) (ls : Array Slot) (H : Heap) (locs : List Loc) (hl : lv_has ls 2 [(0, .ref (ad 6)), (1, .int x1)]) (hP : va_P G vwCl ((s_WC cy ad) σ) H) (hS : va_S (s_A ad 27 s.heap.size) s.heap H locs) (hf : fX1_dropFirst_6 σ x1 = some σe) : W p l e ({ frames := 1, cells := 0, slots := 0, locals := 60 } : Room) s m args below meth c H locs 0 0 (MQ below (s_Qv (s_WC cy ad) G (s_A ad 27 s.heap.size) σe) args s 0 0 (s_A ad 27 s.heap.size)) (F0 m 0 ls []) := by
  obtain ⟨hx, hb, hr, hml, hown, hts, hlk, hK, hE, hI⟩ := id C
  have hD : ∀ σ : Sg, va_D (s_A ad 27 s.heap.size) ((s_WC cy ad) σ) := fun σ => s_D (s_WC_ad cy ad σ) hI (fun k hk => Or.inl ⟨k, hk, rfl⟩)
  unfold fX1_dropFirst_6 at hf
  refine lv_iload_n hx hb dX1_dropFirst_0 rfl (lv_at hl 1 rfl) ?_
  refine lv_if_lt (tgt := 41) hx hb dX1_dropFirst_1 (by decide) (fun c1 => ?_) (fun c1 => ?_)
  · rw [if_pos c1] at hf
    have he2 := Option.some.inj hf
    exact W.vret hx hb hr (fun t ht hW => ⟨⟨(), rfl, trivial, s_fin (Wd := (s_WC cy ad)) ht he2 hP⟩, hS.F ht⟩) hS.2.2 dX1_dropFirst_41 hlk
  · rw [if_neg c1] at hf
    refine lv_iload_n hx hb dX1_dropFirst_4 rfl (lv_at hl 1 rfl) ?_
    refine lv_aload_n hx hb dX1_dropFirst_5 rfl (lv_at hl 0 rfl) ?_
    refine va_get (D := G) (ci := 1) (v := .int (σ 6 1)) (C := RX1) (T := TX1) (N := 8) hx hb hts inkX1 hown hK hP 6 rfl rfl 1 (by decide) (hts _ kw_112) (fun _ h9 => h9) rfl dX1_dropFirst_6 ?_
    refine lv_icmp_gt (tgt := 41) hx hb dX1_dropFirst_9 (by decide) (fun c2 => ?_) (fun c2 => ?_)
    · rw [if_pos c2] at hf
      have he2 := Option.some.inj hf
      exact W.vret hx hb hr (fun t ht hW => ⟨⟨(), rfl, trivial, s_fin (Wd := (s_WC cy ad)) ht he2 hP⟩, hS.F ht⟩) hS.2.2 dX1_dropFirst_41 hlk
    · rw [if_neg c2] at hf
      refine lv_aload_n hx hb dX1_dropFirst_12 rfl (lv_at hl 0 rfl) ?_
      refine va_get (D := G) (ci := 1) (v := .ref (ad 7)) (C := RX1) (T := TX1) (N := 8) hx hb hts inkX1 hown hK hP 6 rfl rfl 0 (by decide) (hts _ kw_111) (fun _ h9 => h9) rfl dX1_dropFirst_13 ?_
      refine lv_iload_n hx hb dX1_dropFirst_16 rfl (lv_at hl 1 rfl) ?_
      refine lv_aload_n hx hb dX1_dropFirst_17 rfl (lv_at hl 0 rfl) ?_
      refine va_get (D := G) (ci := 1) (v := .ref (ad 7)) (C := RX1) (T := TX1) (N := 8) hx hb hts inkX1 hown hK hP 6 rfl rfl 0 (by decide) (hts _ kw_111) (fun _ h9 => h9) rfl dX1_dropFirst_18 ?_
      refine lv_iconst (v := 0) hx hb dX1_dropFirst_21 (by decide) ?_
      refine lv_aload_n hx hb dX1_dropFirst_22 rfl (lv_at hl 0 rfl) ?_
      refine va_get (D := G) (ci := 1) (v := .int (σ 6 1)) (C := RX1) (T := TX1) (N := 8) hx hb hts inkX1 hown hK hP 6 rfl rfl 1 (by decide) (hts _ kw_112) (fun _ h9 => h9) rfl dX1_dropFirst_23 ?_
      refine lv_iload_n hx hb dX1_dropFirst_26 rfl (lv_at hl 1 rfl) ?_
      refine lv_isub hx hb dX1_dropFirst_27 ?_
      replace hf := s_gd_some hf
      obtain ⟨g4, hf⟩ := hf
      obtain ⟨g4a, g4b, g4c, g4d, g4e⟩ := s_cpok_of g4
      refine va_copyi hx hb (hml.trans hl.1.symm) hown (hts _ kw_440) (hts _ kw_442) (hts _ kw_441) (hts _ kw_70) hK hP (hD _) hS 7 7 1 1 rfl rfl rfl rfl rfl g4a g4b g4c g4d g4e (fun _ _ => rfl) (Nat.le_of_ble_eq_true rfl) (by decide +kernel) dX1_dropFirst_28 (fun H locs hP _ hS => ?_)
      obtain ⟨σ3, eσ3⟩ : ∃ z : Sg, z = (s_upr σ 7 (va_cpy (σ 7) (σ 7) (Int32.toNatClampNeg x1) (Int32.toNatClampNeg (0 : Int32)) (Int32.toNatClampNeg ((σ 6 1) - x1)))) := ⟨_, rfl⟩
      replace hf := s_lt_at eσ3 hf
      replace hP : va_P G vwCl ((s_WC cy ad) σ3) H := by rw [eσ3]; exact hP
      refine lv_aload_n hx hb dX1_dropFirst_31 rfl (lv_at hl 0 rfl) ?_
      refine lv_dup hx hb dX1_dropFirst_32 rfl ?_
      refine va_get (D := G) (ci := 1) (v := .int (σ3 6 1)) (C := RX1) (T := TX1) (N := 8) hx hb hts inkX1 hown hK hP 6 rfl rfl 1 (by decide) (hts _ kw_112) (fun _ h9 => h9) rfl dX1_dropFirst_33 ?_
      refine lv_iload_n hx hb dX1_dropFirst_36 rfl (lv_at hl 1 rfl) ?_
      refine lv_isub hx hb dX1_dropFirst_37 ?_
      refine va_put (D := G) (ci := 1) (v := .int ((σ3 6 1) - x1)) (ty := .int) (C := RX1) (T := TX1) (N := 8) hx hb hts inkX1 tyX1 tyX1_ok nmX1 hown hK hP (hD _) hS 6 rfl rfl 1 (by decide) (hts _ kw_112) (fun _ h9 => h9) rfl (by decide +kernel) rfl rfl (Nat.le_of_ble_eq_true rfl) dX1_dropFirst_38 (fun H locs hP _ hS => ?_)
      obtain ⟨σ5, eσ5⟩ : ∃ z : Sg, z = (s_up σ3 6 1 ((σ3 6 1) - x1)) := ⟨_, rfl⟩
      replace hf := s_lt_at eσ5 hf
      replace hP : va_P G vwCl ((s_WC cy ad) σ5) H := by rw [eσ5]; exact hP
      have he2 := Option.some.inj hf
      exact W.vret hx hb hr (fun t ht hW => ⟨⟨(), rfl, trivial, s_fin (Wd := (s_WC cy ad)) ht he2 hP⟩, hS.F ht⟩) hS.2.2 dX1_dropFirst_41 hlk
theorem kcX1_dropFirst_6 {l : Launch} {G : va_G} {cy : Nat → ClassId} {sa : Nat × Nat} {ad : Nat → Nat}  {sz : Nat} (hI : s_inj ad 27) (σ : Sg) (x1 : Int32) {σe : Sg} (hf : fX1_dropFirst_6 σ x1 = some σe) : Met l yX1_dropFirst (kW yX1_dropFirst cX1_dropFirst 2 none) ({ frames := 1, cells := 0, slots := 0, locals := 60 } : Room) (s_P (s_WC cy ad) G cy sa ad 27 [.ref (ad 6), .int x1] sz σ) (s_Qv (s_WC cy ad) G (s_A ad 27 sz) σe) 0 0 (s_A ad 27 sz) := by
  refine s_met (own := RX1) (by decide) rfl hI (Nat.le_of_ble_eq_true rfl) (fun p e s m below meth c ls hsz C hP hl => ?_)
  subst hsz
  exact kX1_dropFirst_6 C σ x1 ls _ _ hl hP va_S.rf hf
set_option maxRecDepth 100000 in
set_option maxHeartbeats 4000000 in
theorem kX6_drop_b15 (C : s_X p s m meth c args cX6_drop (some .int) 2 RX6 G cy sa ad 27) (σ : Sg) (ls : Array Slot) (H : Heap) (locs : List Loc) (hl : lv_has ls 2 []) (hP : va_P G vwCl ((s_WC cy ad) σ) H) (hS : va_S (s_A ad 27 s.heap.size) s.heap H locs) (hf : fX6_drop_b15 σ = some (re, σe)) : W p l e ({ frames := 2, cells := 0, slots := 0, locals := 81 } : Room) s m args below meth c H locs 0 0 (MQ below (s_Qi (s_WC cy ad) G (s_A ad 27 s.heap.size) re σe) args s 0 0 (s_A ad 27 s.heap.size)) (F0 m 15 ls []) := by
  obtain ⟨hx, hb, hr, hml, hown, hts, hlk, hK, hE, hI⟩ := id C
  have hD : ∀ σ : Sg, va_D (s_A ad 27 s.heap.size) ((s_WC cy ad) σ) := fun σ => s_D (s_WC_ad cy ad σ) hI (fun k hk => Or.inl ⟨k, hk, rfl⟩)
  unfold fX6_drop_b15 at hf
  refine lv_iconst (v := -1) hx hb dX6_drop_15 (by decide) ?_
  obtain ⟨he1, he2⟩ := s_ret hf
  exact W.iret hx hb hr (fun t ht hW => ⟨⟨_, (), rfl, he1, s_fin (Wd := (s_WC cy ad)) ht he2 hP⟩, hS.F ht⟩) hS.2.2 dX6_drop_16 hlk
set_option maxRecDepth 100000 in
set_option maxHeartbeats 4000000 in
theorem kX6_drop (C : s_X p s m meth c args cX6_drop (some .int) 2 RX6 G cy sa ad 27) (σ : Sg) (x1 : Int32) (ls : Array Slot) (H : Heap) (locs : List Loc) (hl : lv_has ls 2 [(0, .ref (ad 0)), (1, .int x1)]) (hP : va_P G vwCl ((s_WC cy ad) σ) H) (hS : va_S (s_A ad 27 s.heap.size) s.heap H locs) (hf : fX6_drop σ x1 = some (re, σe)) : W p l e ({ frames := 2, cells := 0, slots := 0, locals := 81 } : Room) s m args below meth c H locs 0 0 (MQ below (s_Qi (s_WC cy ad) G (s_A ad 27 s.heap.size) re σe) args s 0 0 (s_A ad 27 s.heap.size)) (F0 m 0 ls []) := by
  obtain ⟨hx, hb, hr, hml, hown, hts, hlk, hK, hE, hI⟩ := id C
  have hD : ∀ σ : Sg, va_D (s_A ad 27 s.heap.size) ((s_WC cy ad) σ) := fun σ => s_D (s_WC_ad cy ad σ) hI (fun k hk => Or.inl ⟨k, hk, rfl⟩)
  unfold fX6_drop at hf
  refine lv_iload_n hx hb dX6_drop_0 rfl (lv_at hl 1 rfl) ?_
  refine lv_if_lt (tgt := 15) hx hb dX6_drop_1 (by decide) (fun c1 => ?_) (fun c1 => ?_)
  · rw [if_pos c1] at hf
    exact kX6_drop_b15 C σ _ _ _ (lv_sub hl [] rfl) hP hS hf
  · rw [if_neg c1] at hf
    refine lv_iload_n hx hb dX6_drop_4 rfl (lv_at hl 1 rfl) ?_
    refine lv_aload_n hx hb dX6_drop_5 rfl (lv_at hl 0 rfl) ?_
    refine va_get (D := G) (ci := 6) (v := .ref (ad 6)) (C := RX6) (T := TX6) (N := 9) hx hb hts inkX6 hown hK hP 0 rfl rfl 2 (by decide) (hts _ kw_252) (fun _ h9 => h9) rfl dX6_drop_6 ?_
    refine va_getN (D := G) (ci := 1) (v := .int (σ 6 1)) (C := RX1) (T := TX1) (N := 8) hx hb hts inkX1 hown hK hP 6 rfl rfl 1 (by decide) (kn_X6_89 hE) (fun _ h9 => h9) rfl dX6_drop_9 ?_
    refine lv_icmp_le (tgt := 17) hx hb dX6_drop_12 (by decide) (fun c2 => ?_) (fun c2 => ?_)
    · rw [if_pos c2] at hf
      refine lv_aload_n hx hb dX6_drop_17 rfl (lv_at hl 0 rfl) ?_
      refine va_get (D := G) (ci := 6) (v := .ref (ad 6)) (C := RX6) (T := TX6) (N := 9) hx hb hts inkX6 hown hK hP 0 rfl rfl 2 (by decide) (hts _ kw_252) (fun _ h9 => h9) rfl dX6_drop_18 ?_
      refine lv_iload_n hx hb dX6_drop_21 rfl (lv_at hl 1 rfl) ?_
      replace hf := s_bv_some hf
      obtain ⟨σ3, hz4, hf⟩ := hf
      refine s_callv (nn := 1) C (kcX1_dropFirst_6 (l := l) (G := G) (cy := cy) (sa := sa) hI (sz := H.size) σ x1 hz4) gk_X6_206 rfl rfl (by decide +kernel) ⟨Nat.le_of_ble_eq_true rfl, Nat.le_of_ble_eq_true rfl⟩ hP hS (q0 := 6) (ci := 1) rfl rfl rfl (As := [.int x1]) (rest := []) rfl rfl hl.1 (Nat.le_of_ble_eq_true rfl) dX6_drop_22 (fun H locs hP hS => ?_)
      refine lv_aload_n hx hb dX6_drop_25 rfl (lv_at hl 0 rfl) ?_
      refine va_get (D := G) (ci := 6) (v := .ref (ad 6)) (C := RX6) (T := TX6) (N := 9) hx hb hts inkX6 hown hK hP 0 rfl rfl 2 (by decide) (hts _ kw_252) (fun _ h9 => h9) rfl dX6_drop_26 ?_
      refine va_getN (D := G) (ci := 1) (v := .int (σ3 6 1)) (C := RX1) (T := TX1) (N := 8) hx hb hts inkX1 hown hK hP 6 rfl rfl 1 (by decide) (kn_X6_89 hE) (fun _ h9 => h9) rfl dX6_drop_29 ?_
      obtain ⟨he1, he2⟩ := s_ret hf
      exact W.iret hx hb hr (fun t ht hW => ⟨⟨_, (), rfl, he1, s_fin (Wd := (s_WC cy ad)) ht he2 hP⟩, hS.F ht⟩) hS.2.2 dX6_drop_32 hlk
    · rw [if_neg c2] at hf
      exact kX6_drop_b15 C σ _ _ _ (lv_sub hl [] rfl) hP hS hf
theorem kcX6_drop {l : Launch} {G : va_G} {cy : Nat → ClassId} {sa : Nat × Nat} {ad : Nat → Nat}  {sz : Nat} (hI : s_inj ad 27) (σ : Sg) (x1 : Int32) {re : Int32} {σe : Sg} (hf : fX6_drop σ x1 = some (re, σe)) : Met l yX6_drop (kW yX6_drop cX6_drop 2 (some .int)) ({ frames := 2, cells := 0, slots := 0, locals := 81 } : Room) (s_P (s_WC cy ad) G cy sa ad 27 [.ref (ad 0), .int x1] sz σ) (s_Qi (s_WC cy ad) G (s_A ad 27 sz) re σe) 0 0 (s_A ad 27 sz) := by
  refine s_met (own := RX6) (by decide) rfl hI (Nat.le_of_ble_eq_true rfl) (fun p e s m below meth c ls hsz C hP hl => ?_)
  subst hsz
  exact kX6_drop C σ x1 ls _ _ hl hP va_S.rf hf
set_option maxRecDepth 100000 in
set_option maxHeartbeats 4000000 in
theorem kX6_width_b11 (C : s_X p s m meth c args cX6_width (some .int) 3 RX6 G cy sa ad 27) (σ : Sg) (ls : Array Slot) (H : Heap) (locs : List Loc) (hl : lv_has ls 3 []) (hP : va_P G vwCl ((s_WC cy ad) σ) H) (hS : va_S (s_A ad 27 s.heap.size) s.heap H locs) (hf : fX6_width_b11 σ = some (re, σe)) : W p l e ({ frames := 0, cells := 0, slots := 0, locals := 0 } : Room) s m args below meth c H locs 0 0 (MQ below (s_Qi (s_WC cy ad) G (s_A ad 27 s.heap.size) re σe) args s 0 0 (s_A ad 27 s.heap.size)) (F0 m 11 ls []) := by
  obtain ⟨hx, hb, hr, hml, hown, hts, hlk, hK, hE, hI⟩ := id C
  have hD : ∀ σ : Sg, va_D (s_A ad 27 s.heap.size) ((s_WC cy ad) σ) := fun σ => s_D (s_WC_ad cy ad σ) hI (fun k hk => Or.inl ⟨k, hk, rfl⟩)
  unfold fX6_width_b11 at hf
  refine lv_iconst (v := -1) hx hb dX6_width_11 (by decide) ?_
  obtain ⟨he1, he2⟩ := s_ret hf
  exact W.iret hx hb hr (fun t ht hW => ⟨⟨_, (), rfl, he1, s_fin (Wd := (s_WC cy ad)) ht he2 hP⟩, hS.F ht⟩) hS.2.2 dX6_width_12 hlk
set_option maxRecDepth 100000 in
set_option maxHeartbeats 4000000 in
theorem kX6_width (C : s_X p s m meth c args cX6_width (some .int) 3 RX6 G cy sa ad 27) (σ : Sg) (x1 : Int32) (ls : Array Slot) (H : Heap) (locs : List Loc) (hl : lv_has ls 3 [(0, .ref (ad 0)), (1, .int x1)]) (hP : va_P G vwCl ((s_WC cy ad) σ) H) (hS : va_S (s_A ad 27 s.heap.size) s.heap H locs) (hf : fX6_width σ x1 = some (re, σe)) : W p l e ({ frames := 0, cells := 0, slots := 0, locals := 0 } : Room) s m args below meth c H locs 0 0 (MQ below (s_Qi (s_WC cy ad) G (s_A ad 27 s.heap.size) re σe) args s 0 0 (s_A ad 27 s.heap.size)) (F0 m 0 ls []) := by
  obtain ⟨hx, hb, hr, hml, hown, hts, hlk, hK, hE, hI⟩ := id C
  have hD : ∀ σ : Sg, va_D (s_A ad 27 s.heap.size) ((s_WC cy ad) σ) := fun σ => s_D (s_WC_ad cy ad σ) hI (fun k hk => Or.inl ⟨k, hk, rfl⟩)
  unfold fX6_width at hf
  refine lv_iload_n hx hb dX6_width_0 rfl (lv_at hl 1 rfl) ?_
  refine lv_iconst (v := 1) hx hb dX6_width_1 (by decide) ?_
  refine lv_icmp_lt (tgt := 11) hx hb dX6_width_2 (by decide) (fun c1 => ?_) (fun c1 => ?_)
  · rw [if_pos c1] at hf
    exact kX6_width_b11 C σ _ _ _ (lv_sub hl [] rfl) hP hS hf
  · rw [if_neg c1] at hf
    refine lv_iload_n hx hb dX6_width_5 rfl (lv_at hl 1 rfl) ?_
    refine lv_bipush (v := 24) hx hb dX6_width_6 (by decide) ?_
    refine lv_icmp_le (tgt := 13) hx hb dX6_width_8 (by decide) (fun c2 => ?_) (fun c2 => ?_)
    · rw [if_pos c2] at hf
      refine lv_aload_n hx hb dX6_width_13 rfl (lv_at hl 0 rfl) ?_
      refine va_get (D := G) (ci := 6) (v := .ref (ad 6)) (C := RX6) (T := TX6) (N := 9) hx hb hts inkX6 hown hK hP 0 rfl rfl 2 (by decide) (hts _ kw_252) (fun _ h9 => h9) rfl dX6_width_14 ?_
      refine va_getN (D := G) (ci := 1) (v := .int (σ 6 2)) (C := RX1) (T := TX1) (N := 8) hx hb hts inkX1 hown hK hP 6 rfl rfl 2 (by decide) (kn_X6_99 hE) (fun _ h9 => h9) rfl dX6_width_17 ?_
      refine lv_topi (fun t3 et3 => ?_)
      replace hf := s_lt_at et3 hf
      refine lv_istore_n (lv' := [(2, .int t3), (0, .ref (ad 0)), (1, .int x1)]) hx hb dX6_width_20 rfl hl (by decide) rfl (fun ls hl => ?_)
      refine lv_aload_n hx hb dX6_width_21 rfl (lv_at hl 1 rfl) ?_
      refine va_get (D := G) (ci := 6) (v := .ref (ad 6)) (C := RX6) (T := TX6) (N := 9) hx hb hts inkX6 hown hK hP 0 rfl rfl 2 (by decide) (hts _ kw_252) (fun _ h9 => h9) rfl dX6_width_22 ?_
      refine lv_iload_n hx hb dX6_width_25 rfl (lv_at hl 2 rfl) ?_
      refine va_putN (D := G) (ci := 1) (v := .int x1) (ty := .int) (C := RX1) (T := TX1) (N := 8) hx hb hts inkX1 tyX1 tyX1_ok nmX1 hown hK hP (hD _) hS 6 rfl rfl 2 (by decide) (kn_X6_99 hE) (fun _ h9 => h9) rfl (by decide +kernel) rfl rfl (Nat.le_of_ble_eq_true rfl) dX6_width_26 (fun H locs hP _ hS => ?_)
      obtain ⟨σ4, eσ4⟩ : ∃ z : Sg, z = (s_up σ 6 2 x1) := ⟨_, rfl⟩
      replace hf := s_lt_at eσ4 hf
      replace hP : va_P G vwCl ((s_WC cy ad) σ4) H := by rw [eσ4]; exact hP
      refine lv_iload_n hx hb dX6_width_29 rfl (lv_at hl 0 rfl) ?_
      obtain ⟨he1, he2⟩ := s_ret hf
      exact W.iret hx hb hr (fun t ht hW => ⟨⟨_, (), rfl, he1, s_fin (Wd := (s_WC cy ad)) ht he2 hP⟩, hS.F ht⟩) hS.2.2 dX6_width_30 hlk
    · rw [if_neg c2] at hf
      exact kX6_width_b11 C σ _ _ _ (lv_sub hl [] rfl) hP hS hf
theorem kcX6_width {l : Launch} {G : va_G} {cy : Nat → ClassId} {sa : Nat × Nat} {ad : Nat → Nat}  {sz : Nat} (hI : s_inj ad 27) (σ : Sg) (x1 : Int32) {re : Int32} {σe : Sg} (hf : fX6_width σ x1 = some (re, σe)) : Met l yX6_width (kW yX6_width cX6_width 3 (some .int)) ({ frames := 0, cells := 0, slots := 0, locals := 0 } : Room) (s_P (s_WC cy ad) G cy sa ad 27 [.ref (ad 0), .int x1] sz σ) (s_Qi (s_WC cy ad) G (s_A ad 27 sz) re σe) 0 0 (s_A ad 27 sz) := by
  refine s_met (own := RX6) (by decide) rfl hI (Nat.le_of_ble_eq_true rfl) (fun p e s m below meth c ls hsz C hP hl => ?_)
  subst hsz
  exact kX6_width C σ x1 ls _ _ hl hP va_S.rf hf
set_option maxRecDepth 100000 in
set_option maxHeartbeats 4000000 in
theorem kX6_need_b11 (C : s_X p s m meth c args cX6_need (some .int) 3 RX6 G cy sa ad 27) (σ : Sg) (ls : Array Slot) (H : Heap) (locs : List Loc) (hl : lv_has ls 3 []) (hP : va_P G vwCl ((s_WC cy ad) σ) H) (hS : va_S (s_A ad 27 s.heap.size) s.heap H locs) (hf : fX6_need_b11 σ = some (re, σe)) : W p l e ({ frames := 0, cells := 0, slots := 0, locals := 0 } : Room) s m args below meth c H locs 0 0 (MQ below (s_Qi (s_WC cy ad) G (s_A ad 27 s.heap.size) re σe) args s 0 0 (s_A ad 27 s.heap.size)) (F0 m 11 ls []) := by
  obtain ⟨hx, hb, hr, hml, hown, hts, hlk, hK, hE, hI⟩ := id C
  have hD : ∀ σ : Sg, va_D (s_A ad 27 s.heap.size) ((s_WC cy ad) σ) := fun σ => s_D (s_WC_ad cy ad σ) hI (fun k hk => Or.inl ⟨k, hk, rfl⟩)
  unfold fX6_need_b11 at hf
  refine lv_iconst (v := -1) hx hb dX6_need_11 (by decide) ?_
  obtain ⟨he1, he2⟩ := s_ret hf
  exact W.iret hx hb hr (fun t ht hW => ⟨⟨_, (), rfl, he1, s_fin (Wd := (s_WC cy ad)) ht he2 hP⟩, hS.F ht⟩) hS.2.2 dX6_need_12 hlk
set_option maxRecDepth 100000 in
set_option maxHeartbeats 4000000 in
theorem kX6_need (C : s_X p s m meth c args cX6_need (some .int) 3 RX6 G cy sa ad 27) (σ : Sg) (x1 : Int32) (ls : Array Slot) (H : Heap) (locs : List Loc) (hl : lv_has ls 3 [(0, .ref (ad 0)), (1, .int x1)]) (hP : va_P G vwCl ((s_WC cy ad) σ) H) (hS : va_S (s_A ad 27 s.heap.size) s.heap H locs) (hf : fX6_need σ x1 = some (re, σe)) : W p l e ({ frames := 0, cells := 0, slots := 0, locals := 0 } : Room) s m args below meth c H locs 0 0 (MQ below (s_Qi (s_WC cy ad) G (s_A ad 27 s.heap.size) re σe) args s 0 0 (s_A ad 27 s.heap.size)) (F0 m 0 ls []) := by
  obtain ⟨hx, hb, hr, hml, hown, hts, hlk, hK, hE, hI⟩ := id C
  have hD : ∀ σ : Sg, va_D (s_A ad 27 s.heap.size) ((s_WC cy ad) σ) := fun σ => s_D (s_WC_ad cy ad σ) hI (fun k hk => Or.inl ⟨k, hk, rfl⟩)
  unfold fX6_need at hf
  refine lv_iload_n hx hb dX6_need_0 rfl (lv_at hl 1 rfl) ?_
  refine lv_iconst (v := 1) hx hb dX6_need_1 (by decide) ?_
  refine lv_icmp_lt (tgt := 11) hx hb dX6_need_2 (by decide) (fun c1 => ?_) (fun c1 => ?_)
  · rw [if_pos c1] at hf
    exact kX6_need_b11 C σ _ _ _ (lv_sub hl [] rfl) hP hS hf
  · rw [if_neg c1] at hf
    refine lv_iload_n hx hb dX6_need_5 rfl (lv_at hl 1 rfl) ?_
    refine lv_bipush (v := 24) hx hb dX6_need_6 (by decide) ?_
    refine lv_icmp_le (tgt := 13) hx hb dX6_need_8 (by decide) (fun c2 => ?_) (fun c2 => ?_)
    · rw [if_pos c2] at hf
      refine lv_aload_n hx hb dX6_need_13 rfl (lv_at hl 0 rfl) ?_
      refine va_get (D := G) (ci := 6) (v := .ref (ad 6)) (C := RX6) (T := TX6) (N := 9) hx hb hts inkX6 hown hK hP 0 rfl rfl 2 (by decide) (hts _ kw_252) (fun _ h9 => h9) rfl dX6_need_14 ?_
      refine va_getN (D := G) (ci := 1) (v := .int (σ 6 3)) (C := RX1) (T := TX1) (N := 8) hx hb hts inkX1 hown hK hP 6 rfl rfl 3 (by decide) (kn_X6_102 hE) (fun _ h9 => h9) rfl dX6_need_17 ?_
      refine lv_topi (fun t3 et3 => ?_)
      replace hf := s_lt_at et3 hf
      refine lv_istore_n (lv' := [(2, .int t3), (0, .ref (ad 0)), (1, .int x1)]) hx hb dX6_need_20 rfl hl (by decide) rfl (fun ls hl => ?_)
      refine lv_aload_n hx hb dX6_need_21 rfl (lv_at hl 1 rfl) ?_
      refine va_get (D := G) (ci := 6) (v := .ref (ad 6)) (C := RX6) (T := TX6) (N := 9) hx hb hts inkX6 hown hK hP 0 rfl rfl 2 (by decide) (hts _ kw_252) (fun _ h9 => h9) rfl dX6_need_22 ?_
      refine lv_iload_n hx hb dX6_need_25 rfl (lv_at hl 2 rfl) ?_
      refine va_putN (D := G) (ci := 1) (v := .int x1) (ty := .int) (C := RX1) (T := TX1) (N := 8) hx hb hts inkX1 tyX1 tyX1_ok nmX1 hown hK hP (hD _) hS 6 rfl rfl 3 (by decide) (kn_X6_102 hE) (fun _ h9 => h9) rfl (by decide +kernel) rfl rfl (Nat.le_of_ble_eq_true rfl) dX6_need_26 (fun H locs hP _ hS => ?_)
      obtain ⟨σ4, eσ4⟩ : ∃ z : Sg, z = (s_up σ 6 3 x1) := ⟨_, rfl⟩
      replace hf := s_lt_at eσ4 hf
      replace hP : va_P G vwCl ((s_WC cy ad) σ4) H := by rw [eσ4]; exact hP
      refine lv_iload_n hx hb dX6_need_29 rfl (lv_at hl 0 rfl) ?_
      obtain ⟨he1, he2⟩ := s_ret hf
      exact W.iret hx hb hr (fun t ht hW => ⟨⟨_, (), rfl, he1, s_fin (Wd := (s_WC cy ad)) ht he2 hP⟩, hS.F ht⟩) hS.2.2 dX6_need_30 hlk
    · rw [if_neg c2] at hf
      exact kX6_need_b11 C σ _ _ _ (lv_sub hl [] rfl) hP hS hf
theorem kcX6_need {l : Launch} {G : va_G} {cy : Nat → ClassId} {sa : Nat × Nat} {ad : Nat → Nat}  {sz : Nat} (hI : s_inj ad 27) (σ : Sg) (x1 : Int32) {re : Int32} {σe : Sg} (hf : fX6_need σ x1 = some (re, σe)) : Met l yX6_need (kW yX6_need cX6_need 3 (some .int)) ({ frames := 0, cells := 0, slots := 0, locals := 0 } : Room) (s_P (s_WC cy ad) G cy sa ad 27 [.ref (ad 0), .int x1] sz σ) (s_Qi (s_WC cy ad) G (s_A ad 27 sz) re σe) 0 0 (s_A ad 27 sz) := by
  refine s_met (own := RX6) (by decide) rfl hI (Nat.le_of_ble_eq_true rfl) (fun p e s m below meth c ls hsz C hP hl => ?_)
  subst hsz
  exact kX6_need C σ x1 ls _ _ hl hP va_S.rf hf
set_option maxRecDepth 100000 in
set_option maxHeartbeats 4000000 in
theorem kX6_part_b20 (C : s_X p s m meth c args cX6_part (some .int) 4 RX6 G cy sa ad 27) (σ : Sg) (ls : Array Slot) (H : Heap) (locs : List Loc) (hl : lv_has ls 4 []) (hP : va_P G vwCl ((s_WC cy ad) σ) H) (hS : va_S (s_A ad 27 s.heap.size) s.heap H locs) (hf : fX6_part_b20 σ = some (re, σe)) : W p l e ({ frames := 0, cells := 0, slots := 0, locals := 0 } : Room) s m args below meth c H locs 0 0 (MQ below (s_Qi (s_WC cy ad) G (s_A ad 27 s.heap.size) re σe) args s 0 0 (s_A ad 27 s.heap.size)) (F0 m 20 ls []) := by
  obtain ⟨hx, hb, hr, hml, hown, hts, hlk, hK, hE, hI⟩ := id C
  have hD : ∀ σ : Sg, va_D (s_A ad 27 s.heap.size) ((s_WC cy ad) σ) := fun σ => s_D (s_WC_ad cy ad σ) hI (fun k hk => Or.inl ⟨k, hk, rfl⟩)
  unfold fX6_part_b20 at hf
  refine lv_iconst (v := -1) hx hb dX6_part_20 (by decide) ?_
  obtain ⟨he1, he2⟩ := s_ret hf
  exact W.iret hx hb hr (fun t ht hW => ⟨⟨_, (), rfl, he1, s_fin (Wd := (s_WC cy ad)) ht he2 hP⟩, hS.F ht⟩) hS.2.2 dX6_part_21 hlk
set_option maxRecDepth 100000 in
set_option maxHeartbeats 4000000 in
theorem kX6_part (C : s_X p s m meth c args cX6_part (some .int) 4 RX6 G cy sa ad 27) (σ : Sg) (x1 : Int32) (x2 : Int32) (ls : Array Slot) (H : Heap) (locs : List Loc) (hl : lv_has ls 4 [(0, .ref (ad 0)), (1, .int x1), (2, .int x2)]) (hP : va_P G vwCl ((s_WC cy ad) σ) H) (hS : va_S (s_A ad 27 s.heap.size) s.heap H locs) (hf : fX6_part σ x1 x2 = some (re, σe)) : W p l e ({ frames := 0, cells := 0, slots := 0, locals := 0 } : Room) s m args below meth c H locs 0 0 (MQ below (s_Qi (s_WC cy ad) G (s_A ad 27 s.heap.size) re σe) args s 0 0 (s_A ad 27 s.heap.size)) (F0 m 0 ls []) := by
  obtain ⟨hx, hb, hr, hml, hown, hts, hlk, hK, hE, hI⟩ := id C
  have hD : ∀ σ : Sg, va_D (s_A ad 27 s.heap.size) ((s_WC cy ad) σ) := fun σ => s_D (s_WC_ad cy ad σ) hI (fun k hk => Or.inl ⟨k, hk, rfl⟩)
  unfold fX6_part at hf
  refine lv_iload_n hx hb dX6_part_0 rfl (lv_at hl 2 rfl) ?_
  refine lv_iconst (v := 1) hx hb dX6_part_1 (by decide) ?_
  refine lv_icmp_lt (tgt := 20) hx hb dX6_part_2 (by decide) (fun c1 => ?_) (fun c1 => ?_)
  · rw [if_pos c1] at hf
    exact kX6_part_b20 C σ _ _ _ (lv_sub hl [] rfl) hP hS hf
  · rw [if_neg c1] at hf
    refine lv_iload_n hx hb dX6_part_5 rfl (lv_at hl 2 rfl) ?_
    refine lv_bipush (v := 100) hx hb dX6_part_6 (by decide) ?_
    refine lv_icmp_gt (tgt := 20) hx hb dX6_part_8 (by decide) (fun c2 => ?_) (fun c2 => ?_)
    · rw [if_pos c2] at hf
      exact kX6_part_b20 C σ _ _ _ (lv_sub hl [] rfl) hP hS hf
    · rw [if_neg c2] at hf
      refine lv_iload_n hx hb dX6_part_11 rfl (lv_at hl 1 rfl) ?_
      refine lv_if_lt (tgt := 20) hx hb dX6_part_12 (by decide) (fun c3 => ?_) (fun c3 => ?_)
      · rw [if_pos c3] at hf
        exact kX6_part_b20 C σ _ _ _ (lv_sub hl [] rfl) hP hS hf
      · rw [if_neg c3] at hf
        refine lv_iload_n hx hb dX6_part_15 rfl (lv_at hl 1 rfl) ?_
        refine lv_iload_n hx hb dX6_part_16 rfl (lv_at hl 2 rfl) ?_
        refine lv_icmp_le (tgt := 22) hx hb dX6_part_17 (by decide) (fun c4 => ?_) (fun c4 => ?_)
        · rw [if_pos c4] at hf
          refine lv_sipush (v := 1000) hx hb dX6_part_22 (by decide) ?_
          refine lv_aload_n hx hb dX6_part_25 rfl (lv_at hl 0 rfl) ?_
          refine va_get (D := G) (ci := 6) (v := .ref (ad 6)) (C := RX6) (T := TX6) (N := 9) hx hb hts inkX6 hown hK hP 0 rfl rfl 2 (by decide) (hts _ kw_252) (fun _ h9 => h9) rfl dX6_part_26 ?_
          refine va_getN (D := G) (ci := 1) (v := .int (σ 6 4)) (C := RX1) (T := TX1) (N := 8) hx hb hts inkX1 hown hK hP 6 rfl rfl 4 (by decide) (kn_X6_105 hE) (fun _ h9 => h9) rfl dX6_part_29 ?_
          refine lv_imul hx hb dX6_part_32 ?_
          refine lv_aload_n hx hb dX6_part_33 rfl (lv_at hl 0 rfl) ?_
          refine va_get (D := G) (ci := 6) (v := .ref (ad 6)) (C := RX6) (T := TX6) (N := 9) hx hb hts inkX6 hown hK hP 0 rfl rfl 2 (by decide) (hts _ kw_252) (fun _ h9 => h9) rfl dX6_part_34 ?_
          refine va_getN (D := G) (ci := 1) (v := .int (σ 6 5)) (C := RX1) (T := TX1) (N := 8) hx hb hts inkX1 hown hK hP 6 rfl rfl 5 (by decide) (kn_X6_108 hE) (fun _ h9 => h9) rfl dX6_part_37 ?_
          refine lv_iadd hx hb dX6_part_40 ?_
          refine lv_topi (fun t5 et5 => ?_)
          replace hf := s_lt_at et5 hf
          refine lv_istore_n (lv' := [(3, .int t5), (0, .ref (ad 0)), (1, .int x1), (2, .int x2)]) hx hb dX6_part_41 rfl hl (by decide) rfl (fun ls hl => ?_)
          refine lv_aload_n hx hb dX6_part_42 rfl (lv_at hl 1 rfl) ?_
          refine va_get (D := G) (ci := 6) (v := .ref (ad 6)) (C := RX6) (T := TX6) (N := 9) hx hb hts inkX6 hown hK hP 0 rfl rfl 2 (by decide) (hts _ kw_252) (fun _ h9 => h9) rfl dX6_part_43 ?_
          refine lv_iload_n hx hb dX6_part_46 rfl (lv_at hl 2 rfl) ?_
          refine va_putN (D := G) (ci := 1) (v := .int x1) (ty := .int) (C := RX1) (T := TX1) (N := 8) hx hb hts inkX1 tyX1 tyX1_ok nmX1 hown hK hP (hD _) hS 6 rfl rfl 4 (by decide) (kn_X6_105 hE) (fun _ h9 => h9) rfl (by decide +kernel) rfl rfl (Nat.le_of_ble_eq_true rfl) dX6_part_47 (fun H locs hP _ hS => ?_)
          obtain ⟨σ6, eσ6⟩ : ∃ z : Sg, z = (s_up σ 6 4 x1) := ⟨_, rfl⟩
          replace hf := s_lt_at eσ6 hf
          replace hP : va_P G vwCl ((s_WC cy ad) σ6) H := by rw [eσ6]; exact hP
          refine lv_aload_n hx hb dX6_part_50 rfl (lv_at hl 1 rfl) ?_
          refine va_get (D := G) (ci := 6) (v := .ref (ad 6)) (C := RX6) (T := TX6) (N := 9) hx hb hts inkX6 hown hK hP 0 rfl rfl 2 (by decide) (hts _ kw_252) (fun _ h9 => h9) rfl dX6_part_51 ?_
          refine lv_iload_n hx hb dX6_part_54 rfl (lv_at hl 3 rfl) ?_
          refine va_putN (D := G) (ci := 1) (v := .int x2) (ty := .int) (C := RX1) (T := TX1) (N := 8) hx hb hts inkX1 tyX1 tyX1_ok nmX1 hown hK hP (hD _) hS 6 rfl rfl 5 (by decide) (kn_X6_108 hE) (fun _ h9 => h9) rfl (by decide +kernel) rfl rfl (Nat.le_of_ble_eq_true rfl) dX6_part_55 (fun H locs hP _ hS => ?_)
          obtain ⟨σ7, eσ7⟩ : ∃ z : Sg, z = (s_up σ6 6 5 x2) := ⟨_, rfl⟩
          replace hf := s_lt_at eσ7 hf
          replace hP : va_P G vwCl ((s_WC cy ad) σ7) H := by rw [eσ7]; exact hP
          refine lv_iload_n hx hb dX6_part_58 rfl (lv_at hl 0 rfl) ?_
          obtain ⟨he1, he2⟩ := s_ret hf
          exact W.iret hx hb hr (fun t ht hW => ⟨⟨_, (), rfl, he1, s_fin (Wd := (s_WC cy ad)) ht he2 hP⟩, hS.F ht⟩) hS.2.2 dX6_part_59 hlk
        · rw [if_neg c4] at hf
          exact kX6_part_b20 C σ _ _ _ (lv_sub hl [] rfl) hP hS hf
theorem kcX6_part {l : Launch} {G : va_G} {cy : Nat → ClassId} {sa : Nat × Nat} {ad : Nat → Nat}  {sz : Nat} (hI : s_inj ad 27) (σ : Sg) (x1 : Int32) (x2 : Int32) {re : Int32} {σe : Sg} (hf : fX6_part σ x1 x2 = some (re, σe)) : Met l yX6_part (kW yX6_part cX6_part 4 (some .int)) ({ frames := 0, cells := 0, slots := 0, locals := 0 } : Room) (s_P (s_WC cy ad) G cy sa ad 27 [.ref (ad 0), .int x1, .int x2] sz σ) (s_Qi (s_WC cy ad) G (s_A ad 27 sz) re σe) 0 0 (s_A ad 27 sz) := by
  refine s_met (own := RX6) (by decide) rfl hI (Nat.le_of_ble_eq_true rfl) (fun p e s m below meth c ls hsz C hP hl => ?_)
  subst hsz
  exact kX6_part C σ x1 x2 ls _ _ hl hP va_S.rf hf
set_option maxRecDepth 100000 in
set_option maxHeartbeats 4000000 in
theorem kX6_choose_b9 (C : s_X p s m meth c args cX6_choose (some .int) 3 RX6 G cy sa ad 27) (σ : Sg) (ls : Array Slot) (H : Heap) (locs : List Loc) (hl : lv_has ls 3 []) (hP : va_P G vwCl ((s_WC cy ad) σ) H) (hS : va_S (s_A ad 27 s.heap.size) s.heap H locs) (hf : fX6_choose_b9 σ = some (re, σe)) : W p l e ({ frames := 0, cells := 0, slots := 0, locals := 0 } : Room) s m args below meth c H locs 0 0 (MQ below (s_Qi (s_WC cy ad) G (s_A ad 27 s.heap.size) re σe) args s 0 0 (s_A ad 27 s.heap.size)) (F0 m 9 ls []) := by
  obtain ⟨hx, hb, hr, hml, hown, hts, hlk, hK, hE, hI⟩ := id C
  have hD : ∀ σ : Sg, va_D (s_A ad 27 s.heap.size) ((s_WC cy ad) σ) := fun σ => s_D (s_WC_ad cy ad σ) hI (fun k hk => Or.inl ⟨k, hk, rfl⟩)
  unfold fX6_choose_b9 at hf
  refine lv_iconst (v := -1) hx hb dX6_choose_9 (by decide) ?_
  obtain ⟨he1, he2⟩ := s_ret hf
  exact W.iret hx hb hr (fun t ht hW => ⟨⟨_, (), rfl, he1, s_fin (Wd := (s_WC cy ad)) ht he2 hP⟩, hS.F ht⟩) hS.2.2 dX6_choose_10 hlk
set_option maxRecDepth 100000 in
set_option maxHeartbeats 4000000 in
theorem kX6_choose (C : s_X p s m meth c args cX6_choose (some .int) 3 RX6 G cy sa ad 27) (σ : Sg) (x1 : Int32) (ls : Array Slot) (H : Heap) (locs : List Loc) (hl : lv_has ls 3 [(0, .ref (ad 0)), (1, .int x1)]) (hP : va_P G vwCl ((s_WC cy ad) σ) H) (hS : va_S (s_A ad 27 s.heap.size) s.heap H locs) (hf : fX6_choose σ x1 = some (re, σe)) : W p l e ({ frames := 0, cells := 0, slots := 0, locals := 0 } : Room) s m args below meth c H locs 0 0 (MQ below (s_Qi (s_WC cy ad) G (s_A ad 27 s.heap.size) re σe) args s 0 0 (s_A ad 27 s.heap.size)) (F0 m 0 ls []) := by
  obtain ⟨hx, hb, hr, hml, hown, hts, hlk, hK, hE, hI⟩ := id C
  have hD : ∀ σ : Sg, va_D (s_A ad 27 s.heap.size) ((s_WC cy ad) σ) := fun σ => s_D (s_WC_ad cy ad σ) hI (fun k hk => Or.inl ⟨k, hk, rfl⟩)
  unfold fX6_choose at hf
  refine lv_iload_n hx hb dX6_choose_0 rfl (lv_at hl 1 rfl) ?_
  refine lv_if_lt (tgt := 9) hx hb dX6_choose_1 (by decide) (fun c1 => ?_) (fun c1 => ?_)
  · rw [if_pos c1] at hf
    exact kX6_choose_b9 C σ _ _ _ (lv_sub hl [] rfl) hP hS hf
  · rw [if_neg c1] at hf
    refine lv_iload_n hx hb dX6_choose_4 rfl (lv_at hl 1 rfl) ?_
    refine lv_iconst (v := 4) hx hb dX6_choose_5 (by decide) ?_
    refine lv_icmp_le (tgt := 11) hx hb dX6_choose_6 (by decide) (fun c2 => ?_) (fun c2 => ?_)
    · rw [if_pos c2] at hf
      refine lv_aload_n hx hb dX6_choose_11 rfl (lv_at hl 0 rfl) ?_
      refine va_get (D := G) (ci := 6) (v := .ref (ad 6)) (C := RX6) (T := TX6) (N := 9) hx hb hts inkX6 hown hK hP 0 rfl rfl 2 (by decide) (hts _ kw_252) (fun _ h9 => h9) rfl dX6_choose_12 ?_
      refine va_getN (D := G) (ci := 1) (v := .int (σ 6 6)) (C := RX1) (T := TX1) (N := 8) hx hb hts inkX1 hown hK hP 6 rfl rfl 6 (by decide) (kn_X6_111 hE) (fun _ h9 => h9) rfl dX6_choose_15 ?_
      refine lv_topi (fun t3 et3 => ?_)
      replace hf := s_lt_at et3 hf
      refine lv_istore_n (lv' := [(2, .int t3), (0, .ref (ad 0)), (1, .int x1)]) hx hb dX6_choose_18 rfl hl (by decide) rfl (fun ls hl => ?_)
      refine lv_aload_n hx hb dX6_choose_19 rfl (lv_at hl 1 rfl) ?_
      refine va_get (D := G) (ci := 6) (v := .ref (ad 6)) (C := RX6) (T := TX6) (N := 9) hx hb hts inkX6 hown hK hP 0 rfl rfl 2 (by decide) (hts _ kw_252) (fun _ h9 => h9) rfl dX6_choose_20 ?_
      refine lv_iload_n hx hb dX6_choose_23 rfl (lv_at hl 2 rfl) ?_
      refine va_putN (D := G) (ci := 1) (v := .int x1) (ty := .int) (C := RX1) (T := TX1) (N := 8) hx hb hts inkX1 tyX1 tyX1_ok nmX1 hown hK hP (hD _) hS 6 rfl rfl 6 (by decide) (kn_X6_111 hE) (fun _ h9 => h9) rfl (by decide +kernel) rfl rfl (Nat.le_of_ble_eq_true rfl) dX6_choose_24 (fun H locs hP _ hS => ?_)
      obtain ⟨σ4, eσ4⟩ : ∃ z : Sg, z = (s_up σ 6 6 x1) := ⟨_, rfl⟩
      replace hf := s_lt_at eσ4 hf
      replace hP : va_P G vwCl ((s_WC cy ad) σ4) H := by rw [eσ4]; exact hP
      refine lv_iload_n hx hb dX6_choose_27 rfl (lv_at hl 0 rfl) ?_
      obtain ⟨he1, he2⟩ := s_ret hf
      exact W.iret hx hb hr (fun t ht hW => ⟨⟨_, (), rfl, he1, s_fin (Wd := (s_WC cy ad)) ht he2 hP⟩, hS.F ht⟩) hS.2.2 dX6_choose_28 hlk
    · rw [if_neg c2] at hf
      exact kX6_choose_b9 C σ _ _ _ (lv_sub hl [] rfl) hP hS hf
theorem kcX6_choose {l : Launch} {G : va_G} {cy : Nat → ClassId} {sa : Nat × Nat} {ad : Nat → Nat}  {sz : Nat} (hI : s_inj ad 27) (σ : Sg) (x1 : Int32) {re : Int32} {σe : Sg} (hf : fX6_choose σ x1 = some (re, σe)) : Met l yX6_choose (kW yX6_choose cX6_choose 3 (some .int)) ({ frames := 0, cells := 0, slots := 0, locals := 0 } : Room) (s_P (s_WC cy ad) G cy sa ad 27 [.ref (ad 0), .int x1] sz σ) (s_Qi (s_WC cy ad) G (s_A ad 27 sz) re σe) 0 0 (s_A ad 27 sz) := by
  refine s_met (own := RX6) (by decide) rfl hI (Nat.le_of_ble_eq_true rfl) (fun p e s m below meth c ls hsz C hP hl => ?_)
  subst hsz
  exact kX6_choose C σ x1 ls _ _ hl hP va_S.rf hf
set_option maxRecDepth 100000 in
set_option maxHeartbeats 4000000 in
theorem kX6_form_b9 (C : s_X p s m meth c args cX6_form (some .int) 3 RX6 G cy sa ad 27) (σ : Sg) (ls : Array Slot) (H : Heap) (locs : List Loc) (hl : lv_has ls 3 []) (hP : va_P G vwCl ((s_WC cy ad) σ) H) (hS : va_S (s_A ad 27 s.heap.size) s.heap H locs) (hf : fX6_form_b9 σ = some (re, σe)) : W p l e ({ frames := 0, cells := 0, slots := 0, locals := 0 } : Room) s m args below meth c H locs 0 0 (MQ below (s_Qi (s_WC cy ad) G (s_A ad 27 s.heap.size) re σe) args s 0 0 (s_A ad 27 s.heap.size)) (F0 m 9 ls []) := by
  obtain ⟨hx, hb, hr, hml, hown, hts, hlk, hK, hE, hI⟩ := id C
  have hD : ∀ σ : Sg, va_D (s_A ad 27 s.heap.size) ((s_WC cy ad) σ) := fun σ => s_D (s_WC_ad cy ad σ) hI (fun k hk => Or.inl ⟨k, hk, rfl⟩)
  unfold fX6_form_b9 at hf
  refine lv_iconst (v := -1) hx hb dX6_form_9 (by decide) ?_
  obtain ⟨he1, he2⟩ := s_ret hf
  exact W.iret hx hb hr (fun t ht hW => ⟨⟨_, (), rfl, he1, s_fin (Wd := (s_WC cy ad)) ht he2 hP⟩, hS.F ht⟩) hS.2.2 dX6_form_10 hlk
set_option maxRecDepth 100000 in
set_option maxHeartbeats 4000000 in
theorem kX6_form (C : s_X p s m meth c args cX6_form (some .int) 3 RX6 G cy sa ad 27) (σ : Sg) (x1 : Int32) (ls : Array Slot) (H : Heap) (locs : List Loc) (hl : lv_has ls 3 [(0, .ref (ad 0)), (1, .int x1)]) (hP : va_P G vwCl ((s_WC cy ad) σ) H) (hS : va_S (s_A ad 27 s.heap.size) s.heap H locs) (hf : fX6_form σ x1 = some (re, σe)) : W p l e ({ frames := 0, cells := 0, slots := 0, locals := 0 } : Room) s m args below meth c H locs 0 0 (MQ below (s_Qi (s_WC cy ad) G (s_A ad 27 s.heap.size) re σe) args s 0 0 (s_A ad 27 s.heap.size)) (F0 m 0 ls []) := by
  obtain ⟨hx, hb, hr, hml, hown, hts, hlk, hK, hE, hI⟩ := id C
  have hD : ∀ σ : Sg, va_D (s_A ad 27 s.heap.size) ((s_WC cy ad) σ) := fun σ => s_D (s_WC_ad cy ad σ) hI (fun k hk => Or.inl ⟨k, hk, rfl⟩)
  unfold fX6_form at hf
  refine lv_iload_n hx hb dX6_form_0 rfl (lv_at hl 1 rfl) ?_
  refine lv_if_lt (tgt := 9) hx hb dX6_form_1 (by decide) (fun c1 => ?_) (fun c1 => ?_)
  · rw [if_pos c1] at hf
    exact kX6_form_b9 C σ _ _ _ (lv_sub hl [] rfl) hP hS hf
  · rw [if_neg c1] at hf
    refine lv_iload_n hx hb dX6_form_4 rfl (lv_at hl 1 rfl) ?_
    refine lv_iconst (v := 2) hx hb dX6_form_5 (by decide) ?_
    refine lv_icmp_le (tgt := 11) hx hb dX6_form_6 (by decide) (fun c2 => ?_) (fun c2 => ?_)
    · rw [if_pos c2] at hf
      refine lv_aload_n hx hb dX6_form_11 rfl (lv_at hl 0 rfl) ?_
      refine va_get (D := G) (ci := 6) (v := .ref (ad 6)) (C := RX6) (T := TX6) (N := 9) hx hb hts inkX6 hown hK hP 0 rfl rfl 2 (by decide) (hts _ kw_252) (fun _ h9 => h9) rfl dX6_form_12 ?_
      refine va_getN (D := G) (ci := 1) (v := .int (σ 6 7)) (C := RX1) (T := TX1) (N := 8) hx hb hts inkX1 hown hK hP 6 rfl rfl 7 (by decide) (kn_X6_114 hE) (fun _ h9 => h9) rfl dX6_form_15 ?_
      refine lv_topi (fun t3 et3 => ?_)
      replace hf := s_lt_at et3 hf
      refine lv_istore_n (lv' := [(2, .int t3), (0, .ref (ad 0)), (1, .int x1)]) hx hb dX6_form_18 rfl hl (by decide) rfl (fun ls hl => ?_)
      refine lv_aload_n hx hb dX6_form_19 rfl (lv_at hl 1 rfl) ?_
      refine va_get (D := G) (ci := 6) (v := .ref (ad 6)) (C := RX6) (T := TX6) (N := 9) hx hb hts inkX6 hown hK hP 0 rfl rfl 2 (by decide) (hts _ kw_252) (fun _ h9 => h9) rfl dX6_form_20 ?_
      refine lv_iload_n hx hb dX6_form_23 rfl (lv_at hl 2 rfl) ?_
      refine va_putN (D := G) (ci := 1) (v := .int x1) (ty := .int) (C := RX1) (T := TX1) (N := 8) hx hb hts inkX1 tyX1 tyX1_ok nmX1 hown hK hP (hD _) hS 6 rfl rfl 7 (by decide) (kn_X6_114 hE) (fun _ h9 => h9) rfl (by decide +kernel) rfl rfl (Nat.le_of_ble_eq_true rfl) dX6_form_24 (fun H locs hP _ hS => ?_)
      obtain ⟨σ4, eσ4⟩ : ∃ z : Sg, z = (s_up σ 6 7 x1) := ⟨_, rfl⟩
      replace hf := s_lt_at eσ4 hf
      replace hP : va_P G vwCl ((s_WC cy ad) σ4) H := by rw [eσ4]; exact hP
      refine lv_iload_n hx hb dX6_form_27 rfl (lv_at hl 0 rfl) ?_
      obtain ⟨he1, he2⟩ := s_ret hf
      exact W.iret hx hb hr (fun t ht hW => ⟨⟨_, (), rfl, he1, s_fin (Wd := (s_WC cy ad)) ht he2 hP⟩, hS.F ht⟩) hS.2.2 dX6_form_28 hlk
    · rw [if_neg c2] at hf
      exact kX6_form_b9 C σ _ _ _ (lv_sub hl [] rfl) hP hS hf
theorem kcX6_form {l : Launch} {G : va_G} {cy : Nat → ClassId} {sa : Nat × Nat} {ad : Nat → Nat}  {sz : Nat} (hI : s_inj ad 27) (σ : Sg) (x1 : Int32) {re : Int32} {σe : Sg} (hf : fX6_form σ x1 = some (re, σe)) : Met l yX6_form (kW yX6_form cX6_form 3 (some .int)) ({ frames := 0, cells := 0, slots := 0, locals := 0 } : Room) (s_P (s_WC cy ad) G cy sa ad 27 [.ref (ad 0), .int x1] sz σ) (s_Qi (s_WC cy ad) G (s_A ad 27 sz) re σe) 0 0 (s_A ad 27 sz) := by
  refine s_met (own := RX6) (by decide) rfl hI (Nat.le_of_ble_eq_true rfl) (fun p e s m below meth c ls hsz C hP hl => ?_)
  subst hsz
  exact kX6_form C σ x1 ls _ _ hl hP va_S.rf hf
set_option maxRecDepth 100000 in
set_option maxHeartbeats 4000000 in
theorem kX1_latestValue_6_b7 (C : s_X p s m meth c args cX1_latestValue (some .int) 2 RX1 G cy sa ad 27) (k7 : Sg → Int32 → Option (Int32 × Sg)) (hk7 : ∀ (σ : Sg) (x1 : Int32) (ls : Array Slot) (H : Heap) (locs : List Loc), lv_has ls 2 [(0, .ref (ad 6)), (1, .int x1)] → va_P G vwCl ((s_WC cy ad) σ) H → va_S (s_A ad 27 s.heap.size) s.heap H locs → k7 σ x1 = some (re, σe) → W p l e ({ frames := 0, cells := 0, slots := 0, locals := 0 } : Room) s m args below meth c H locs 0 0 (MQ below (s_Qi (s_WC cy ad) G (s_A ad 27 s.heap.size) re σe) args s 0 0 (s_A ad 27 s.heap.size)) (F0 m 7 ls [])) (σ : Sg) (x1 : Int32) (ls : Array Slot) (H : Heap) (locs : List Loc) (hl : lv_has ls 2 [(0, .ref (ad 6)), (1, .int x1)]) (hP : va_P G vwCl ((s_WC cy ad) σ) H) (hS : va_S (s_A ad 27 s.heap.size) s.heap H locs) (hf : fX1_latestValue_6_b7 k7 σ x1 = some (re, σe)) : W p l e ({ frames := 0, cells := 0, slots := 0, locals := 0 } : Room) s m args below meth c H locs 0 0 (MQ below (s_Qi (s_WC cy ad) G (s_A ad 27 s.heap.size) re σe) args s 0 0 (s_A ad 27 s.heap.size)) (F0 m 7 ls []) := by
  obtain ⟨hx, hb, hr, hml, hown, hts, hlk, hK, hE, hI⟩ := id C
  have hD : ∀ σ : Sg, va_D (s_A ad 27 s.heap.size) ((s_WC cy ad) σ) := fun σ => s_D (s_WC_ad cy ad σ) hI (fun k hk => Or.inl ⟨k, hk, rfl⟩)
  unfold fX1_latestValue_6_b7 at hf
  refine lv_iload_n hx hb dX1_latestValue_7 rfl (lv_at hl 1 rfl) ?_
  refine lv_if_lt (tgt := 35) hx hb dX1_latestValue_8 (by decide) (fun c1 => ?_) (fun c1 => ?_)
  · rw [if_pos c1] at hf
    refine lv_iconst (v := 0) hx hb dX1_latestValue_35 (by decide) ?_
    obtain ⟨he1, he2⟩ := s_ret hf
    exact W.iret hx hb hr (fun t ht hW => ⟨⟨_, (), rfl, he1, s_fin (Wd := (s_WC cy ad)) ht he2 hP⟩, hS.F ht⟩) hS.2.2 dX1_latestValue_36 hlk
  · rw [if_neg c1] at hf
    refine lv_aload_n hx hb dX1_latestValue_11 rfl (lv_at hl 0 rfl) ?_
    refine va_get (D := G) (ci := 1) (v := .ref (ad 7)) (C := RX1) (T := TX1) (N := 8) hx hb hts inkX1 hown hK hP 6 rfl rfl 0 (by decide) (hts _ kw_111) (fun _ h9 => h9) rfl dX1_latestValue_12 ?_
    refine lv_iload_n hx hb dX1_latestValue_15 rfl (lv_at hl 1 rfl) ?_
    replace hf := s_gd_some hf
    obtain ⟨g2, hf⟩ := hf
    refine va_iald hx hb hK hP 7 1 rfl rfl (s_in_of g2) dX1_latestValue_16 ?_
    refine lv_ldc (v := 100000000) hx hb hown (hts _ kw_455) dX1_latestValue_17 ?_
    refine lv_icmp_eq (tgt := 29) hx hb dX1_latestValue_19 (by decide) (fun c3 => ?_) (fun c3 => ?_)
    · rw [if_pos c3] at hf
      obtain ⟨t4, et4⟩ : ∃ z : Int32, z = (x1 + (-1)) := ⟨_, rfl⟩
      replace hf := s_lt_at et4 hf
      refine lv_iinc (v := t4) (lv' := [(1, .int t4), (0, .ref (ad 6))]) hx hb dX1_latestValue_29 hl (k := 1) rfl (by rw [et4]; rfl) (by decide) rfl (fun ls hl => ?_)
      refine lv_goto (tgt := 7) hx hb dX1_latestValue_32 (by decide) ?_
      exact hk7 σ t4 _ _ _ (lv_sub hl [1, 0] rfl) hP hS hf
    · rw [if_neg c3] at hf
      refine lv_aload_n hx hb dX1_latestValue_22 rfl (lv_at hl 0 rfl) ?_
      refine va_get (D := G) (ci := 1) (v := .ref (ad 7)) (C := RX1) (T := TX1) (N := 8) hx hb hts inkX1 hown hK hP 6 rfl rfl 0 (by decide) (hts _ kw_111) (fun _ h9 => h9) rfl dX1_latestValue_23 ?_
      refine lv_iload_n hx hb dX1_latestValue_26 rfl (lv_at hl 1 rfl) ?_
      replace hf := s_gd_some hf
      obtain ⟨g5, hf⟩ := hf
      refine va_iald hx hb hK hP 7 1 rfl rfl (s_in_of g5) dX1_latestValue_27 ?_
      obtain ⟨he1, he2⟩ := s_ret hf
      exact W.iret hx hb hr (fun t ht hW => ⟨⟨_, (), rfl, he1, s_fin (Wd := (s_WC cy ad)) ht he2 hP⟩, hS.F ht⟩) hS.2.2 dX1_latestValue_28 hlk
set_option maxRecDepth 100000 in
set_option maxHeartbeats 4000000 in
theorem kX1_latestValue_6_b7_L (C : s_X p s m meth c args cX1_latestValue (some .int) 2 RX1 G cy sa ad 27) : ∀ (n : Nat), ∀ (σ : Sg) (x1 : Int32) (ls : Array Slot) (H : Heap) (locs : List Loc), lv_has ls 2 [(0, .ref (ad 6)), (1, .int x1)] → va_P G vwCl ((s_WC cy ad) σ) H → va_S (s_A ad 27 s.heap.size) s.heap H locs → fX1_latestValue_6_b7_L n σ x1 = some (re, σe) → W p l e ({ frames := 0, cells := 0, slots := 0, locals := 0 } : Room) s m args below meth c H locs 0 0 (MQ below (s_Qi (s_WC cy ad) G (s_A ad 27 s.heap.size) re σe) args s 0 0 (s_A ad 27 s.heap.size)) (F0 m 7 ls []) := by
  intro n
  induction n with
  | zero => intro σ x1 ls H locs hl hP hS hf; exact absurd (show (none : Option (Int32 × Sg)) = some (re, σe) from hf) (by intro h; cases h)
  | succ n ih => intro σ x1 ls H locs hl hP hS hf; exact kX1_latestValue_6_b7 C (fX1_latestValue_6_b7_L n) ih σ x1 ls H locs hl hP hS hf
set_option maxRecDepth 100000 in
set_option maxHeartbeats 4000000 in
theorem kX1_latestValue_6 (C : s_X p s m meth c args cX1_latestValue (some .int) 2 RX1 G cy sa ad 27) (σ : Sg) (ls : Array Slot) (H : Heap) (locs : List Loc) (hl : lv_has ls 2 [(0, .ref (ad 6))]) (hP : va_P G vwCl ((s_WC cy ad) σ) H) (hS : va_S (s_A ad 27 s.heap.size) s.heap H locs) (hf : fX1_latestValue_6 σ = some (re, σe)) : W p l e ({ frames := 0, cells := 0, slots := 0, locals := 0 } : Room) s m args below meth c H locs 0 0 (MQ below (s_Qi (s_WC cy ad) G (s_A ad 27 s.heap.size) re σe) args s 0 0 (s_A ad 27 s.heap.size)) (F0 m 0 ls []) := by
  obtain ⟨hx, hb, hr, hml, hown, hts, hlk, hK, hE, hI⟩ := id C
  have hD : ∀ σ : Sg, va_D (s_A ad 27 s.heap.size) ((s_WC cy ad) σ) := fun σ => s_D (s_WC_ad cy ad σ) hI (fun k hk => Or.inl ⟨k, hk, rfl⟩)
  unfold fX1_latestValue_6 at hf
  refine lv_aload_n hx hb dX1_latestValue_0 rfl (lv_at hl 0 rfl) ?_
  refine va_get (D := G) (ci := 1) (v := .int (σ 6 1)) (C := RX1) (T := TX1) (N := 8) hx hb hts inkX1 hown hK hP 6 rfl rfl 1 (by decide) (hts _ kw_112) (fun _ h9 => h9) rfl dX1_latestValue_1 ?_
  refine lv_iconst (v := 1) hx hb dX1_latestValue_4 (by decide) ?_
  refine lv_isub hx hb dX1_latestValue_5 ?_
  refine lv_topi (fun t1 et1 => ?_)
  replace hf := s_lt_at et1 hf
  refine lv_istore_n (lv' := [(1, .int t1), (0, .ref (ad 6))]) hx hb dX1_latestValue_6 rfl hl (by decide) rfl (fun ls hl => ?_)
  exact kX1_latestValue_6_b7_L C s_fu σ t1 _ _ _ (lv_sub hl [1, 0] rfl) hP hS hf
theorem kcX1_latestValue_6 {l : Launch} {G : va_G} {cy : Nat → ClassId} {sa : Nat × Nat} {ad : Nat → Nat}  {sz : Nat} (hI : s_inj ad 27) (σ : Sg) {re : Int32} {σe : Sg} (hf : fX1_latestValue_6 σ = some (re, σe)) : Met l yX1_latestValue (kW yX1_latestValue cX1_latestValue 2 (some .int)) ({ frames := 0, cells := 0, slots := 0, locals := 0 } : Room) (s_P (s_WC cy ad) G cy sa ad 27 [.ref (ad 6)] sz σ) (s_Qi (s_WC cy ad) G (s_A ad 27 sz) re σe) 0 0 (s_A ad 27 sz) := by
  refine s_met (own := RX1) (by decide) rfl hI (Nat.le_of_ble_eq_true rfl) (fun p e s m below meth c ls hsz C hP hl => ?_)
  subst hsz
  exact kX1_latestValue_6 C σ ls _ _ hl hP va_S.rf hf
set_option maxRecDepth 100000 in
set_option maxHeartbeats 4000000 in
theorem kX6_drift_b11 (C : s_X p s m meth c args cX6_drift (some .int) 8 RX6 G cy sa ad 27) (σ : Sg) (ls : Array Slot) (H : Heap) (locs : List Loc) (hl : lv_has ls 8 []) (hP : va_P G vwCl ((s_WC cy ad) σ) H) (hS : va_S (s_A ad 27 s.heap.size) s.heap H locs) (hf : fX6_drift_b11 σ = some (re, σe)) : W p l e ({ frames := 2, cells := 0, slots := 0, locals := 41 } : Room) s m args below meth c H locs 0 0 (MQ below (s_Qi (s_WC cy ad) G (s_A ad 27 s.heap.size) re σe) args s 0 0 (s_A ad 27 s.heap.size)) (F0 m 11 ls []) := by
  obtain ⟨hx, hb, hr, hml, hown, hts, hlk, hK, hE, hI⟩ := id C
  have hD : ∀ σ : Sg, va_D (s_A ad 27 s.heap.size) ((s_WC cy ad) σ) := fun σ => s_D (s_WC_ad cy ad σ) hI (fun k hk => Or.inl ⟨k, hk, rfl⟩)
  unfold fX6_drift_b11 at hf
  refine lv_iconst (v := -1) hx hb dX6_drift_11 (by decide) ?_
  obtain ⟨he1, he2⟩ := s_ret hf
  exact W.iret hx hb hr (fun t ht hW => ⟨⟨_, (), rfl, he1, s_fin (Wd := (s_WC cy ad)) ht he2 hP⟩, hS.F ht⟩) hS.2.2 dX6_drift_12 hlk
set_option maxRecDepth 100000 in
set_option maxHeartbeats 4000000 in
theorem kX6_drift_b129 (C : s_X p s m meth c args cX6_drift (some .int) 8 RX6 G cy sa ad 27) (σ : Sg) (x4 : Int32) (ls : Array Slot) (H : Heap) (locs : List Loc) (hl : lv_has ls 8 [(4, .int x4)]) (hP : va_P G vwCl ((s_WC cy ad) σ) H) (hS : va_S (s_A ad 27 s.heap.size) s.heap H locs) (hf : fX6_drift_b129 σ x4 = some (re, σe)) : W p l e ({ frames := 2, cells := 0, slots := 0, locals := 41 } : Room) s m args below meth c H locs 0 0 (MQ below (s_Qi (s_WC cy ad) G (s_A ad 27 s.heap.size) re σe) args s 0 0 (s_A ad 27 s.heap.size)) (F0 m 129 ls []) := by
  obtain ⟨hx, hb, hr, hml, hown, hts, hlk, hK, hE, hI⟩ := id C
  have hD : ∀ σ : Sg, va_D (s_A ad 27 s.heap.size) ((s_WC cy ad) σ) := fun σ => s_D (s_WC_ad cy ad σ) hI (fun k hk => Or.inl ⟨k, hk, rfl⟩)
  unfold fX6_drift_b129 at hf
  refine lv_iload hx hb dX6_drift_129 (lv_at hl 0 rfl) ?_
  obtain ⟨he1, he2⟩ := s_ret hf
  exact W.iret hx hb hr (fun t ht hW => ⟨⟨_, (), rfl, he1, s_fin (Wd := (s_WC cy ad)) ht he2 hP⟩, hS.F ht⟩) hS.2.2 dX6_drift_131 hlk
set_option maxRecDepth 100000 in
set_option maxHeartbeats 4000000 in
theorem kX6_drift_b120 (C : s_X p s m meth c args cX6_drift (some .int) 8 RX6 G cy sa ad 27) (k27 : Sg → Int32 → Int32 → Int32 → Int32 → Int32 → Option (Int32 × Sg)) (hk27 : ∀ (σ : Sg) (x1 : Int32) (x2 : Int32) (x3 : Int32) (x4 : Int32) (x5 : Int32) (ls : Array Slot) (H : Heap) (locs : List Loc), lv_has ls 8 [(0, .ref (ad 0)), (1, .int x1), (2, .int x2), (3, .int x3), (4, .int x4), (5, .int x5)] → va_P G vwCl ((s_WC cy ad) σ) H → va_S (s_A ad 27 s.heap.size) s.heap H locs → k27 σ x1 x2 x3 x4 x5 = some (re, σe) → W p l e ({ frames := 2, cells := 0, slots := 0, locals := 41 } : Room) s m args below meth c H locs 0 0 (MQ below (s_Qi (s_WC cy ad) G (s_A ad 27 s.heap.size) re σe) args s 0 0 (s_A ad 27 s.heap.size)) (F0 m 27 ls [])) (σ : Sg) (x1 : Int32) (x2 : Int32) (x3 : Int32) (x4 : Int32) (x5 : Int32) (ls : Array Slot) (H : Heap) (locs : List Loc) (hl : lv_has ls 8 [(0, .ref (ad 0)), (1, .int x1), (2, .int x2), (3, .int x3), (4, .int x4), (5, .int x5)]) (hP : va_P G vwCl ((s_WC cy ad) σ) H) (hS : va_S (s_A ad 27 s.heap.size) s.heap H locs) (hf : fX6_drift_b120 k27 σ x1 x2 x3 x4 x5 = some (re, σe)) : W p l e ({ frames := 2, cells := 0, slots := 0, locals := 41 } : Room) s m args below meth c H locs 0 0 (MQ below (s_Qi (s_WC cy ad) G (s_A ad 27 s.heap.size) re σe) args s 0 0 (s_A ad 27 s.heap.size)) (F0 m 120 ls []) := by
  obtain ⟨hx, hb, hr, hml, hown, hts, hlk, hK, hE, hI⟩ := id C
  have hD : ∀ σ : Sg, va_D (s_A ad 27 s.heap.size) ((s_WC cy ad) σ) := fun σ => s_D (s_WC_ad cy ad σ) hI (fun k hk => Or.inl ⟨k, hk, rfl⟩)
  unfold fX6_drift_b120 at hf
  obtain ⟨t1, et1⟩ : ∃ z : Int32, z = (x4 + 1) := ⟨_, rfl⟩
  replace hf := s_lt_at et1 hf
  refine lv_iinc (v := t1) (lv' := [(4, .int t1), (0, .ref (ad 0)), (1, .int x1), (2, .int x2), (3, .int x3), (5, .int x5)]) hx hb dX6_drift_120 hl (k := 4) rfl (by rw [et1]; rfl) (by decide) rfl (fun ls hl => ?_)
  obtain ⟨t2, et2⟩ : ∃ z : Int32, z = (x5 + 1) := ⟨_, rfl⟩
  replace hf := s_lt_at et2 hf
  refine lv_iinc (v := t2) (lv' := [(5, .int t2), (4, .int t1), (0, .ref (ad 0)), (1, .int x1), (2, .int x2), (3, .int x3)]) hx hb dX6_drift_123 hl (k := 5) rfl (by rw [et2]; rfl) (by decide) rfl (fun ls hl => ?_)
  refine lv_goto (tgt := 27) hx hb dX6_drift_126 (by decide) ?_
  exact hk27 σ x1 x2 x3 t1 t2 _ _ _ (lv_sub hl [2, 3, 4, 5, 1, 0] rfl) hP hS hf
set_option maxRecDepth 100000 in
set_option maxHeartbeats 4000000 in
theorem kX6_drift_b27 (C : s_X p s m meth c args cX6_drift (some .int) 8 RX6 G cy sa ad 27) (k27 : Sg → Int32 → Int32 → Int32 → Int32 → Int32 → Option (Int32 × Sg)) (hk27 : ∀ (σ : Sg) (x1 : Int32) (x2 : Int32) (x3 : Int32) (x4 : Int32) (x5 : Int32) (ls : Array Slot) (H : Heap) (locs : List Loc), lv_has ls 8 [(0, .ref (ad 0)), (1, .int x1), (2, .int x2), (3, .int x3), (4, .int x4), (5, .int x5)] → va_P G vwCl ((s_WC cy ad) σ) H → va_S (s_A ad 27 s.heap.size) s.heap H locs → k27 σ x1 x2 x3 x4 x5 = some (re, σe) → W p l e ({ frames := 2, cells := 0, slots := 0, locals := 41 } : Room) s m args below meth c H locs 0 0 (MQ below (s_Qi (s_WC cy ad) G (s_A ad 27 s.heap.size) re σe) args s 0 0 (s_A ad 27 s.heap.size)) (F0 m 27 ls [])) (σ : Sg) (x1 : Int32) (x2 : Int32) (x3 : Int32) (x4 : Int32) (x5 : Int32) (ls : Array Slot) (H : Heap) (locs : List Loc) (hl : lv_has ls 8 [(0, .ref (ad 0)), (1, .int x1), (2, .int x2), (3, .int x3), (4, .int x4), (5, .int x5)]) (hP : va_P G vwCl ((s_WC cy ad) σ) H) (hS : va_S (s_A ad 27 s.heap.size) s.heap H locs) (hf : fX6_drift_b27 k27 σ x1 x2 x3 x4 x5 = some (re, σe)) : W p l e ({ frames := 2, cells := 0, slots := 0, locals := 41 } : Room) s m args below meth c H locs 0 0 (MQ below (s_Qi (s_WC cy ad) G (s_A ad 27 s.heap.size) re σe) args s 0 0 (s_A ad 27 s.heap.size)) (F0 m 27 ls []) := by
  obtain ⟨hx, hb, hr, hml, hown, hts, hlk, hK, hE, hI⟩ := id C
  have hD : ∀ σ : Sg, va_D (s_A ad 27 s.heap.size) ((s_WC cy ad) σ) := fun σ => s_D (s_WC_ad cy ad σ) hI (fun k hk => Or.inl ⟨k, hk, rfl⟩)
  unfold fX6_drift_b27 at hf
  refine lv_iload hx hb dX6_drift_27 (lv_at hl 5 rfl) ?_
  refine lv_iload_n hx hb dX6_drift_29 rfl (lv_at hl 2 rfl) ?_
  refine lv_icmp_ge (tgt := 129) hx hb dX6_drift_30 (by decide) (fun c1 => ?_) (fun c1 => ?_)
  · rw [if_pos c1] at hf
    exact kX6_drift_b129 C σ x4 _ _ _ (lv_sub hl [4] rfl) hP hS hf
  · rw [if_neg c1] at hf
    refine lv_aload_n hx hb dX6_drift_33 rfl (lv_at hl 0 rfl) ?_
    refine va_get (D := G) (ci := 6) (v := .ref (ad 6)) (C := RX6) (T := TX6) (N := 9) hx hb hts inkX6 hown hK hP 0 rfl rfl 2 (by decide) (hts _ kw_252) (fun _ h9 => h9) rfl dX6_drift_34 ?_
    replace hf := s_bi_some hf
    obtain ⟨r4, σ2, hz3, hf⟩ := hf
    refine s_calli (nn := 0) C (kcX1_isFull_6 (l := l) (G := G) (cy := cy) (sa := sa) hI (sz := H.size) σ hz3) gk_X6_212 rfl rfl (by decide +kernel) ⟨Nat.le_of_ble_eq_true rfl, Nat.le_of_ble_eq_true rfl⟩ hP hS (q0 := 6) (ci := 1) rfl rfl rfl (As := []) (rest := []) rfl rfl hl.1 (Nat.le_of_ble_eq_true rfl) dX6_drift_37 (fun H locs hP hS => ?_)
    refine lv_if_ne (tgt := 129) hx hb dX6_drift_40 (by decide) (fun c5 => ?_) (fun c5 => ?_)
    · rw [if_neg c5] at hf
      exact kX6_drift_b129 C σ2 x4 _ _ _ (lv_sub hl [4] rfl) hP hS hf
    · rw [if_pos c5] at hf
      refine lv_iload_n hx hb dX6_drift_43 rfl (lv_at hl 1 rfl) ?_
      refine lv_ldc (v := 1103515245) hx hb hown (hts _ kw_699) dX6_drift_44 ?_
      refine lv_imul hx hb dX6_drift_46 ?_
      refine lv_sipush (v := 12345) hx hb dX6_drift_47 (by decide) ?_
      refine lv_iadd hx hb dX6_drift_50 ?_
      refine lv_topi (fun t6 et6 => ?_)
      replace hf := s_lt_at et6 hf
      refine lv_istore_n (lv' := [(1, .int t6), (0, .ref (ad 0)), (2, .int x2), (3, .int x3), (4, .int x4), (5, .int x5)]) hx hb dX6_drift_51 rfl hl (by decide) rfl (fun ls hl => ?_)
      refine lv_iload_n hx hb dX6_drift_52 rfl (lv_at hl 0 rfl) ?_
      refine lv_bipush (v := 16) hx hb dX6_drift_53 (by decide) ?_
      refine lv_iushr (v := (s_ushr t6 (16 : Int32))) hx hb dX6_drift_55 rfl ?_
      refine lv_sipush (v := 32767) hx hb dX6_drift_56 (by decide) ?_
      refine lv_iand hx hb dX6_drift_59 ?_
      refine lv_topi (fun t7 et7 => ?_)
      replace hf := s_lt_at et7 hf
      refine lv_istore (lv' := [(6, .int t7), (1, .int t6), (0, .ref (ad 0)), (2, .int x2), (3, .int x3), (4, .int x4), (5, .int x5)]) hx hb dX6_drift_60 hl (by decide) rfl (fun ls hl => ?_)
      refine lv_iload hx hb dX6_drift_62 (lv_at hl 0 rfl) ?_
      refine lv_bipush (v := 9) hx hb dX6_drift_64 (by decide) ?_
      refine lv_irem hx hb dX6_drift_66 (by decide) ?_
      refine lv_topi (fun t8 et8 => ?_)
      replace hf := s_lt_at et8 hf
      refine lv_if_ne (tgt := 82) hx hb dX6_drift_67 (by decide) (fun c9 => ?_) (fun c9 => ?_)
      · rw [if_neg c9] at hf
        refine lv_iload_n hx hb dX6_drift_82 rfl (lv_at hl 4 rfl) ?_
        refine lv_iload hx hb dX6_drift_83 (lv_at hl 0 rfl) ?_
        refine lv_bipush (v := 16) hx hb dX6_drift_85 (by decide) ?_
        refine lv_idiv hx hb dX6_drift_87 (by decide) ?_
        refine lv_sipush (v := 401) hx hb dX6_drift_88 (by decide) ?_
        refine lv_irem hx hb dX6_drift_91 (by decide) ?_
        refine lv_topi (fun t10 et10 => ?_)
        replace hf := s_lt_at et10 hf
        refine lv_iadd hx hb dX6_drift_92 ?_
        refine lv_sipush (v := 200) hx hb dX6_drift_93 (by decide) ?_
        refine lv_isub hx hb dX6_drift_96 ?_
        refine lv_topi (fun t11 et11 => ?_)
        replace hf := s_lt_at et11 hf
        refine lv_istore (lv' := [(7, .int t11), (6, .int t7), (1, .int t6), (0, .ref (ad 0)), (2, .int x2), (3, .int x3), (4, .int x4), (5, .int x5)]) hx hb dX6_drift_97 hl (by decide) rfl (fun ls hl => ?_)
        refine lv_ldc (v := -999999) hx hb hown (hts _ kw_638) dX6_drift_99 ?_
        refine lv_ldc (v := 999999) hx hb hown (hts _ kw_639) dX6_drift_101 ?_
        refine lv_iload hx hb dX6_drift_103 (lv_at hl 0 rfl) ?_
        refine va_mmin hx hb (hml.trans hl.1.symm) hown (hts _ kw_700) (hts _ kw_701) (hts _ kw_69) (hts _ kw_702) (Nat.le_of_ble_eq_true rfl) (Nat.le_of_ble_eq_true rfl) (Nat.zero_le _) (Nat.zero_le _) dX6_drift_105 ?_
        refine lv_topi (fun t12 et12 => ?_)
        replace hf := s_lt_at et12 hf
        refine va_mmax hx hb (hml.trans hl.1.symm) hown (hts _ kw_626) (hts _ kw_396) (hts _ kw_69) (hts _ kw_397) (Nat.le_of_ble_eq_true rfl) (Nat.le_of_ble_eq_true rfl) (Nat.zero_le _) (Nat.zero_le _) dX6_drift_108 ?_
        refine lv_topi (fun t13 et13 => ?_)
        replace hf := s_lt_at et13 hf
        refine lv_istore_n (lv' := [(3, .int t13), (7, .int t11), (6, .int t7), (1, .int t6), (0, .ref (ad 0)), (2, .int x2), (4, .int x4), (5, .int x5)]) hx hb dX6_drift_111 rfl hl (by decide) rfl (fun ls hl => ?_)
        refine lv_aload_n hx hb dX6_drift_112 rfl (lv_at hl 4 rfl) ?_
        refine va_get (D := G) (ci := 6) (v := .ref (ad 6)) (C := RX6) (T := TX6) (N := 9) hx hb hts inkX6 hown hK hP 0 rfl rfl 2 (by decide) (hts _ kw_252) (fun _ h9 => h9) rfl dX6_drift_113 ?_
        refine lv_iload_n hx hb dX6_drift_116 rfl (lv_at hl 0 rfl) ?_
        replace hf := s_bv_some hf
        obtain ⟨σ14, hz15, hf⟩ := hf
        refine s_callv (nn := 1) C (kcX1_append_6 (l := l) (G := G) (cy := cy) (sa := sa) hI (sz := H.size) σ2 t13 hz15) gk_X6_214 rfl rfl (by decide +kernel) ⟨Nat.le_of_ble_eq_true rfl, Nat.le_of_ble_eq_true rfl⟩ hP hS (q0 := 6) (ci := 1) rfl rfl rfl (As := [.int t13]) (rest := []) rfl rfl hl.1 (Nat.le_of_ble_eq_true rfl) dX6_drift_117 (fun H locs hP hS => ?_)
        exact kX6_drift_b120 C k27 hk27 σ14 t6 x2 t13 x4 x5 _ _ _ (lv_sub hl [4, 3, 5, 0, 6, 7] rfl) hP hS hf
      · rw [if_pos c9] at hf
        refine lv_aload_n hx hb dX6_drift_70 rfl (lv_at hl 2 rfl) ?_
        refine va_get (D := G) (ci := 6) (v := .ref (ad 6)) (C := RX6) (T := TX6) (N := 9) hx hb hts inkX6 hown hK hP 0 rfl rfl 2 (by decide) (hts _ kw_252) (fun _ h9 => h9) rfl dX6_drift_71 ?_
        refine lv_ldc (v := 100000000) hx hb hown (hts _ kw_517) dX6_drift_74 ?_
        replace hf := s_bv_some hf
        obtain ⟨σ16, hz17, hf⟩ := hf
        refine s_callv (nn := 1) C (kcX1_append_6 (l := l) (G := G) (cy := cy) (sa := sa) hI (sz := H.size) σ2 (100000000 : Int32) hz17) gk_X6_214 rfl rfl (by decide +kernel) ⟨Nat.le_of_ble_eq_true rfl, Nat.le_of_ble_eq_true rfl⟩ hP hS (q0 := 6) (ci := 1) rfl rfl rfl (As := [.int (100000000 : Int32)]) (rest := []) rfl rfl hl.1 (Nat.le_of_ble_eq_true rfl) dX6_drift_76 (fun H locs hP hS => ?_)
        refine lv_goto (tgt := 120) hx hb dX6_drift_79 (by decide) ?_
        exact kX6_drift_b120 C k27 hk27 σ16 t6 x2 x3 x4 x5 _ _ _ (lv_sub hl [2, 1, 3, 4, 5, 6] rfl) hP hS hf
set_option maxRecDepth 100000 in
set_option maxHeartbeats 4000000 in
theorem kX6_drift_b27_L (C : s_X p s m meth c args cX6_drift (some .int) 8 RX6 G cy sa ad 27) : ∀ (n : Nat), ∀ (σ : Sg) (x1 : Int32) (x2 : Int32) (x3 : Int32) (x4 : Int32) (x5 : Int32) (ls : Array Slot) (H : Heap) (locs : List Loc), lv_has ls 8 [(0, .ref (ad 0)), (1, .int x1), (2, .int x2), (3, .int x3), (4, .int x4), (5, .int x5)] → va_P G vwCl ((s_WC cy ad) σ) H → va_S (s_A ad 27 s.heap.size) s.heap H locs → fX6_drift_b27_L n σ x1 x2 x3 x4 x5 = some (re, σe) → W p l e ({ frames := 2, cells := 0, slots := 0, locals := 41 } : Room) s m args below meth c H locs 0 0 (MQ below (s_Qi (s_WC cy ad) G (s_A ad 27 s.heap.size) re σe) args s 0 0 (s_A ad 27 s.heap.size)) (F0 m 27 ls []) := by
  intro n
  induction n with
  | zero => intro σ x1 x2 x3 x4 x5 ls H locs hl hP hS hf; exact absurd (show (none : Option (Int32 × Sg)) = some (re, σe) from hf) (by intro h; cases h)
  | succ n ih => intro σ x1 x2 x3 x4 x5 ls H locs hl hP hS hf; exact kX6_drift_b27 C (fX6_drift_b27_L n) ih σ x1 x2 x3 x4 x5 ls H locs hl hP hS hf
set_option maxRecDepth 100000 in
set_option maxHeartbeats 4000000 in
theorem kX6_drift (C : s_X p s m meth c args cX6_drift (some .int) 8 RX6 G cy sa ad 27) (σ : Sg) (x1 : Int32) (x2 : Int32) (ls : Array Slot) (H : Heap) (locs : List Loc) (hl : lv_has ls 8 [(0, .ref (ad 0)), (1, .int x1), (2, .int x2)]) (hP : va_P G vwCl ((s_WC cy ad) σ) H) (hS : va_S (s_A ad 27 s.heap.size) s.heap H locs) (hf : fX6_drift σ x1 x2 = some (re, σe)) : W p l e ({ frames := 2, cells := 0, slots := 0, locals := 41 } : Room) s m args below meth c H locs 0 0 (MQ below (s_Qi (s_WC cy ad) G (s_A ad 27 s.heap.size) re σe) args s 0 0 (s_A ad 27 s.heap.size)) (F0 m 0 ls []) := by
  obtain ⟨hx, hb, hr, hml, hown, hts, hlk, hK, hE, hI⟩ := id C
  have hD : ∀ σ : Sg, va_D (s_A ad 27 s.heap.size) ((s_WC cy ad) σ) := fun σ => s_D (s_WC_ad cy ad σ) hI (fun k hk => Or.inl ⟨k, hk, rfl⟩)
  unfold fX6_drift at hf
  refine lv_iload_n hx hb dX6_drift_0 rfl (lv_at hl 2 rfl) ?_
  refine lv_iconst (v := 1) hx hb dX6_drift_1 (by decide) ?_
  refine lv_icmp_lt (tgt := 11) hx hb dX6_drift_2 (by decide) (fun c1 => ?_) (fun c1 => ?_)
  · rw [if_pos c1] at hf
    exact kX6_drift_b11 C σ _ _ _ (lv_sub hl [] rfl) hP hS hf
  · rw [if_neg c1] at hf
    refine lv_iload_n hx hb dX6_drift_5 rfl (lv_at hl 2 rfl) ?_
    refine lv_bipush (v := 48) hx hb dX6_drift_6 (by decide) ?_
    refine lv_icmp_le (tgt := 13) hx hb dX6_drift_8 (by decide) (fun c2 => ?_) (fun c2 => ?_)
    · rw [if_pos c2] at hf
      refine lv_aload_n hx hb dX6_drift_13 rfl (lv_at hl 0 rfl) ?_
      refine va_get (D := G) (ci := 6) (v := .ref (ad 6)) (C := RX6) (T := TX6) (N := 9) hx hb hts inkX6 hown hK hP 0 rfl rfl 2 (by decide) (hts _ kw_252) (fun _ h9 => h9) rfl dX6_drift_14 ?_
      replace hf := s_bi_some hf
      obtain ⟨r5, σ3, hz4, hf⟩ := hf
      refine s_calli (nn := 0) C (kcX1_latestValue_6 (l := l) (G := G) (cy := cy) (sa := sa) hI (sz := H.size) σ hz4) gk_X6_209 rfl rfl (by decide +kernel) ⟨Nat.le_of_ble_eq_true rfl, Nat.le_of_ble_eq_true rfl⟩ hP hS (q0 := 6) (ci := 1) rfl rfl rfl (As := []) (rest := []) rfl rfl hl.1 (Nat.le_of_ble_eq_true rfl) dX6_drift_17 (fun H locs hP hS => ?_)
      refine lv_istore_n (lv' := [(3, .int r5), (0, .ref (ad 0)), (1, .int x1), (2, .int x2)]) hx hb dX6_drift_20 rfl hl (by decide) rfl (fun ls hl => ?_)
      refine lv_iconst (v := 0) hx hb dX6_drift_21 (by decide) ?_
      refine lv_istore (lv' := [(4, .int (0 : Int32)), (3, .int r5), (0, .ref (ad 0)), (1, .int x1), (2, .int x2)]) hx hb dX6_drift_22 hl (by decide) rfl (fun ls hl => ?_)
      refine lv_iconst (v := 0) hx hb dX6_drift_24 (by decide) ?_
      refine lv_istore (lv' := [(5, .int (0 : Int32)), (4, .int (0 : Int32)), (3, .int r5), (0, .ref (ad 0)), (1, .int x1), (2, .int x2)]) hx hb dX6_drift_25 hl (by decide) rfl (fun ls hl => ?_)
      exact kX6_drift_b27_L C s_fu σ3 x1 x2 r5 (0 : Int32) (0 : Int32) _ _ _ (lv_sub hl [3, 4, 5, 2, 1, 0] rfl) hP hS hf
    · rw [if_neg c2] at hf
      exact kX6_drift_b11 C σ _ _ _ (lv_sub hl [] rfl) hP hS hf
theorem kcX6_drift {l : Launch} {G : va_G} {cy : Nat → ClassId} {sa : Nat × Nat} {ad : Nat → Nat}  {sz : Nat} (hI : s_inj ad 27) (σ : Sg) (x1 : Int32) (x2 : Int32) {re : Int32} {σe : Sg} (hf : fX6_drift σ x1 x2 = some (re, σe)) : Met l yX6_drift (kW yX6_drift cX6_drift 8 (some .int)) ({ frames := 2, cells := 0, slots := 0, locals := 41 } : Room) (s_P (s_WC cy ad) G cy sa ad 27 [.ref (ad 0), .int x1, .int x2] sz σ) (s_Qi (s_WC cy ad) G (s_A ad 27 sz) re σe) 0 0 (s_A ad 27 sz) := by
  refine s_met (own := RX6) (by decide) rfl hI (Nat.le_of_ble_eq_true rfl) (fun p e s m below meth c ls hsz C hP hl => ?_)
  subst hsz
  exact kX6_drift C σ x1 x2 ls _ _ hl hP va_S.rf hf
set_option maxRecDepth 100000 in
set_option maxHeartbeats 4000000 in
theorem kX6_isImage_b26 (C : s_X p s m meth c args cX6_isImage (some .boolean) 2 RX6 G cy sa ad 27) (σ : Sg) (ls : Array Slot) (H : Heap) (locs : List Loc) (hl : lv_has ls 2 []) (hP : va_P G vwCl ((s_WC cy ad) σ) H) (hS : va_S (s_A ad 27 s.heap.size) s.heap H locs) (hf : fX6_isImage_b26 σ = some (re, σe)) : W p l e ({ frames := 0, cells := 0, slots := 0, locals := 0 } : Room) s m args below meth c H locs 0 0 (MQ below (s_Qi (s_WC cy ad) G (s_A ad 27 s.heap.size) re σe) args s 0 0 (s_A ad 27 s.heap.size)) (F0 m 26 ls []) := by
  obtain ⟨hx, hb, hr, hml, hown, hts, hlk, hK, hE, hI⟩ := id C
  have hD : ∀ σ : Sg, va_D (s_A ad 27 s.heap.size) ((s_WC cy ad) σ) := fun σ => s_D (s_WC_ad cy ad σ) hI (fun k hk => Or.inl ⟨k, hk, rfl⟩)
  unfold fX6_isImage_b26 at hf
  refine lv_iconst (v := 0) hx hb dX6_isImage_26 (by decide) ?_
  obtain ⟨he1, he2⟩ := s_ret hf
  exact W.zret hx hb hr rfl (fun t ht hW => ⟨⟨_, (), rfl, he1, s_fin (Wd := (s_WC cy ad)) ht he2 hP⟩, hS.F ht⟩) hS.2.2 dX6_isImage_27 hlk
set_option maxRecDepth 100000 in
set_option maxHeartbeats 4000000 in
theorem kX6_isImage (C : s_X p s m meth c args cX6_isImage (some .boolean) 2 RX6 G cy sa ad 27) (σ : Sg) (x1 : Int32) (ls : Array Slot) (H : Heap) (locs : List Loc) (hl : lv_has ls 2 [(0, .ref (ad 0)), (1, .int x1)]) (hP : va_P G vwCl ((s_WC cy ad) σ) H) (hS : va_S (s_A ad 27 s.heap.size) s.heap H locs) (hf : fX6_isImage σ x1 = some (re, σe)) : W p l e ({ frames := 0, cells := 0, slots := 0, locals := 0 } : Room) s m args below meth c H locs 0 0 (MQ below (s_Qi (s_WC cy ad) G (s_A ad 27 s.heap.size) re σe) args s 0 0 (s_A ad 27 s.heap.size)) (F0 m 0 ls []) := by
  obtain ⟨hx, hb, hr, hml, hown, hts, hlk, hK, hE, hI⟩ := id C
  have hD : ∀ σ : Sg, va_D (s_A ad 27 s.heap.size) ((s_WC cy ad) σ) := fun σ => s_D (s_WC_ad cy ad σ) hI (fun k hk => Or.inl ⟨k, hk, rfl⟩)
  unfold fX6_isImage at hf
  refine lv_iload_n hx hb dX6_isImage_0 rfl (lv_at hl 1 rfl) ?_
  refine lv_if_lt (tgt := 26) hx hb dX6_isImage_1 (by decide) (fun c1 => ?_) (fun c1 => ?_)
  · rw [if_pos c1] at hf
    exact kX6_isImage_b26 C σ _ _ _ (lv_sub hl [] rfl) hP hS hf
  · rw [if_neg c1] at hf
    refine lv_iload_n hx hb dX6_isImage_4 rfl (lv_at hl 1 rfl) ?_
    refine lv_aload_n hx hb dX6_isImage_5 rfl (lv_at hl 0 rfl) ?_
    refine va_get (D := G) (ci := 6) (v := .ref (ad 17)) (C := RX6) (T := TX6) (N := 9) hx hb hts inkX6 hown hK hP 0 rfl rfl 6 (by decide) (hts _ kw_256) (fun _ h9 => h9) rfl dX6_isImage_6 ?_
    refine va_alen (v := (2 : Int32)) hx hb hK hP 17 2 rfl rfl (by show Int32.ofNat 2 = 2; decide) dX6_isImage_9 ?_
    refine lv_icmp_ge (tgt := 26) hx hb dX6_isImage_10 (by decide) (fun c2 => ?_) (fun c2 => ?_)
    · rw [if_pos c2] at hf
      exact kX6_isImage_b26 C σ _ _ _ (lv_sub hl [] rfl) hP hS hf
    · rw [if_neg c2] at hf
      refine lv_iload_n hx hb dX6_isImage_13 rfl (lv_at hl 1 rfl) ?_
      refine lv_aload_n hx hb dX6_isImage_14 rfl (lv_at hl 0 rfl) ?_
      refine va_get (D := G) (ci := 6) (v := .ref (ad 12)) (C := RX6) (T := TX6) (N := 9) hx hb hts inkX6 hown hK hP 0 rfl rfl 5 (by decide) (hts _ kw_255) (fun _ h9 => h9) rfl dX6_isImage_15 ?_
      refine va_alen (v := (2 : Int32)) hx hb hK hP 12 3 rfl rfl (by show Int32.ofNat 2 = 2; decide) dX6_isImage_18 ?_
      refine lv_icmp_ge (tgt := 26) hx hb dX6_isImage_19 (by decide) (fun c3 => ?_) (fun c3 => ?_)
      · rw [if_pos c3] at hf
        exact kX6_isImage_b26 C σ _ _ _ (lv_sub hl [] rfl) hP hS hf
      · rw [if_neg c3] at hf
        refine lv_iconst (v := 1) hx hb dX6_isImage_22 (by decide) ?_
        refine lv_goto (tgt := 27) hx hb dX6_isImage_23 (by decide) ?_
        obtain ⟨he1, he2⟩ := s_ret hf
        exact W.zret hx hb hr rfl (fun t ht hW => ⟨⟨_, (), rfl, he1, s_fin (Wd := (s_WC cy ad)) ht he2 hP⟩, hS.F ht⟩) hS.2.2 dX6_isImage_27 hlk
theorem kcX6_isImage {l : Launch} {G : va_G} {cy : Nat → ClassId} {sa : Nat × Nat} {ad : Nat → Nat}  {sz : Nat} (hI : s_inj ad 27) (σ : Sg) (x1 : Int32) {re : Int32} {σe : Sg} (hf : fX6_isImage σ x1 = some (re, σe)) : Met l yX6_isImage (kW yX6_isImage cX6_isImage 2 (some .boolean)) ({ frames := 0, cells := 0, slots := 0, locals := 0 } : Room) (s_P (s_WC cy ad) G cy sa ad 27 [.ref (ad 0), .int x1] sz σ) (s_Qi (s_WC cy ad) G (s_A ad 27 sz) re σe) 0 0 (s_A ad 27 sz) := by
  refine s_met (own := RX6) (by decide) rfl hI (Nat.le_of_ble_eq_true rfl) (fun p e s m below meth c ls hsz C hP hl => ?_)
  subst hsz
  exact kX6_isImage C σ x1 ls _ _ hl hP va_S.rf hf
set_option maxRecDepth 100000 in
set_option maxHeartbeats 4000000 in
theorem kX1_copyFrom_13_6 (C : s_X p s m meth c args cX1_copyFrom none 2 RX1 G cy sa ad 27) (σ : Sg) (ls : Array Slot) (H : Heap) (locs : List Loc) (hl : lv_has ls 2 [(0, .ref (ad 13)), (1, .ref (ad 6))]) (hP : va_P G vwCl ((s_WC cy ad) σ) H) (hS : va_S (s_A ad 27 s.heap.size) s.heap H locs) (hf : fX1_copyFrom_13_6 σ = some σe) : W p l e ({ frames := 1, cells := 0, slots := 0, locals := 60 } : Room) s m args below meth c H locs 0 0 (MQ below (s_Qv (s_WC cy ad) G (s_A ad 27 s.heap.size) σe) args s 0 0 (s_A ad 27 s.heap.size)) (F0 m 0 ls []) := by
  obtain ⟨hx, hb, hr, hml, hown, hts, hlk, hK, hE, hI⟩ := id C
  have hD : ∀ σ : Sg, va_D (s_A ad 27 s.heap.size) ((s_WC cy ad) σ) := fun σ => s_D (s_WC_ad cy ad σ) hI (fun k hk => Or.inl ⟨k, hk, rfl⟩)
  unfold fX1_copyFrom_13_6 at hf
  refine lv_aload_n hx hb dX1_copyFrom_0 rfl (lv_at hl 1 rfl) ?_
  refine va_get (D := G) (ci := 1) (v := .ref (ad 7)) (C := RX1) (T := TX1) (N := 8) hx hb hts inkX1 hown hK hP 6 rfl rfl 0 (by decide) (hts _ kw_111) (fun _ h9 => h9) rfl dX1_copyFrom_1 ?_
  refine lv_iconst (v := 0) hx hb dX1_copyFrom_4 (by decide) ?_
  refine lv_aload_n hx hb dX1_copyFrom_5 rfl (lv_at hl 0 rfl) ?_
  refine va_get (D := G) (ci := 1) (v := .ref (ad 14)) (C := RX1) (T := TX1) (N := 8) hx hb hts inkX1 hown hK hP 13 rfl rfl 0 (by decide) (hts _ kw_111) (fun _ h9 => h9) rfl dX1_copyFrom_6 ?_
  refine lv_iconst (v := 0) hx hb dX1_copyFrom_9 (by decide) ?_
  refine lv_aload_n hx hb dX1_copyFrom_10 rfl (lv_at hl 1 rfl) ?_
  refine va_get (D := G) (ci := 1) (v := .int (σ 6 1)) (C := RX1) (T := TX1) (N := 8) hx hb hts inkX1 hown hK hP 6 rfl rfl 1 (by decide) (hts _ kw_112) (fun _ h9 => h9) rfl dX1_copyFrom_11 ?_
  replace hf := s_gd_some hf
  obtain ⟨g2, hf⟩ := hf
  obtain ⟨g2a, g2b, g2c, g2d, g2e⟩ := s_cpok_of g2
  refine va_copyi hx hb (hml.trans hl.1.symm) hown (hts _ kw_440) (hts _ kw_442) (hts _ kw_441) (hts _ kw_70) hK hP (hD _) hS 7 14 1 1 rfl rfl rfl rfl rfl g2a g2b g2c g2d g2e (fun _ _ => rfl) (Nat.le_of_ble_eq_true rfl) (by decide +kernel) dX1_copyFrom_14 (fun H locs hP _ hS => ?_)
  obtain ⟨σ1, eσ1⟩ : ∃ z : Sg, z = (s_upr σ 14 (va_cpy (σ 7) (σ 14) (Int32.toNatClampNeg (0 : Int32)) (Int32.toNatClampNeg (0 : Int32)) (Int32.toNatClampNeg (σ 6 1)))) := ⟨_, rfl⟩
  replace hf := s_lt_at eσ1 hf
  replace hP : va_P G vwCl ((s_WC cy ad) σ1) H := by rw [eσ1]; exact hP
  refine lv_aload_n hx hb dX1_copyFrom_17 rfl (lv_at hl 0 rfl) ?_
  refine lv_aload_n hx hb dX1_copyFrom_18 rfl (lv_at hl 1 rfl) ?_
  refine va_get (D := G) (ci := 1) (v := .int (σ1 6 1)) (C := RX1) (T := TX1) (N := 8) hx hb hts inkX1 hown hK hP 6 rfl rfl 1 (by decide) (hts _ kw_112) (fun _ h9 => h9) rfl dX1_copyFrom_19 ?_
  refine va_put (D := G) (ci := 1) (v := .int (σ1 6 1)) (ty := .int) (C := RX1) (T := TX1) (N := 8) hx hb hts inkX1 tyX1 tyX1_ok nmX1 hown hK hP (hD _) hS 13 rfl rfl 1 (by decide) (hts _ kw_112) (fun _ h9 => h9) rfl (by decide +kernel) rfl rfl (Nat.le_of_ble_eq_true rfl) dX1_copyFrom_22 (fun H locs hP _ hS => ?_)
  obtain ⟨σ3, eσ3⟩ : ∃ z : Sg, z = (s_up σ1 13 1 (σ1 6 1)) := ⟨_, rfl⟩
  replace hf := s_lt_at eσ3 hf
  replace hP : va_P G vwCl ((s_WC cy ad) σ3) H := by rw [eσ3]; exact hP
  refine lv_aload_n hx hb dX1_copyFrom_25 rfl (lv_at hl 0 rfl) ?_
  refine lv_aload_n hx hb dX1_copyFrom_26 rfl (lv_at hl 1 rfl) ?_
  refine va_get (D := G) (ci := 1) (v := .int (σ3 6 2)) (C := RX1) (T := TX1) (N := 8) hx hb hts inkX1 hown hK hP 6 rfl rfl 2 (by decide) (hts _ kw_115) (fun _ h9 => h9) rfl dX1_copyFrom_27 ?_
  refine va_put (D := G) (ci := 1) (v := .int (σ3 6 2)) (ty := .int) (C := RX1) (T := TX1) (N := 8) hx hb hts inkX1 tyX1 tyX1_ok nmX1 hown hK hP (hD _) hS 13 rfl rfl 2 (by decide) (hts _ kw_115) (fun _ h9 => h9) rfl (by decide +kernel) rfl rfl (Nat.le_of_ble_eq_true rfl) dX1_copyFrom_30 (fun H locs hP _ hS => ?_)
  obtain ⟨σ4, eσ4⟩ : ∃ z : Sg, z = (s_up σ3 13 2 (σ3 6 2)) := ⟨_, rfl⟩
  replace hf := s_lt_at eσ4 hf
  replace hP : va_P G vwCl ((s_WC cy ad) σ4) H := by rw [eσ4]; exact hP
  refine lv_aload_n hx hb dX1_copyFrom_33 rfl (lv_at hl 0 rfl) ?_
  refine lv_aload_n hx hb dX1_copyFrom_34 rfl (lv_at hl 1 rfl) ?_
  refine va_get (D := G) (ci := 1) (v := .int (σ4 6 3)) (C := RX1) (T := TX1) (N := 8) hx hb hts inkX1 hown hK hP 6 rfl rfl 3 (by decide) (hts _ kw_119) (fun _ h9 => h9) rfl dX1_copyFrom_35 ?_
  refine va_put (D := G) (ci := 1) (v := .int (σ4 6 3)) (ty := .int) (C := RX1) (T := TX1) (N := 8) hx hb hts inkX1 tyX1 tyX1_ok nmX1 hown hK hP (hD _) hS 13 rfl rfl 3 (by decide) (hts _ kw_119) (fun _ h9 => h9) rfl (by decide +kernel) rfl rfl (Nat.le_of_ble_eq_true rfl) dX1_copyFrom_38 (fun H locs hP _ hS => ?_)
  obtain ⟨σ5, eσ5⟩ : ∃ z : Sg, z = (s_up σ4 13 3 (σ4 6 3)) := ⟨_, rfl⟩
  replace hf := s_lt_at eσ5 hf
  replace hP : va_P G vwCl ((s_WC cy ad) σ5) H := by rw [eσ5]; exact hP
  refine lv_aload_n hx hb dX1_copyFrom_41 rfl (lv_at hl 0 rfl) ?_
  refine lv_aload_n hx hb dX1_copyFrom_42 rfl (lv_at hl 1 rfl) ?_
  refine va_get (D := G) (ci := 1) (v := .int (σ5 6 4)) (C := RX1) (T := TX1) (N := 8) hx hb hts inkX1 hown hK hP 6 rfl rfl 4 (by decide) (hts _ kw_123) (fun _ h9 => h9) rfl dX1_copyFrom_43 ?_
  refine va_put (D := G) (ci := 1) (v := .int (σ5 6 4)) (ty := .int) (C := RX1) (T := TX1) (N := 8) hx hb hts inkX1 tyX1 tyX1_ok nmX1 hown hK hP (hD _) hS 13 rfl rfl 4 (by decide) (hts _ kw_123) (fun _ h9 => h9) rfl (by decide +kernel) rfl rfl (Nat.le_of_ble_eq_true rfl) dX1_copyFrom_46 (fun H locs hP _ hS => ?_)
  obtain ⟨σ6, eσ6⟩ : ∃ z : Sg, z = (s_up σ5 13 4 (σ5 6 4)) := ⟨_, rfl⟩
  replace hf := s_lt_at eσ6 hf
  replace hP : va_P G vwCl ((s_WC cy ad) σ6) H := by rw [eσ6]; exact hP
  refine lv_aload_n hx hb dX1_copyFrom_49 rfl (lv_at hl 0 rfl) ?_
  refine lv_aload_n hx hb dX1_copyFrom_50 rfl (lv_at hl 1 rfl) ?_
  refine va_get (D := G) (ci := 1) (v := .int (σ6 6 5)) (C := RX1) (T := TX1) (N := 8) hx hb hts inkX1 hown hK hP 6 rfl rfl 5 (by decide) (hts _ kw_127) (fun _ h9 => h9) rfl dX1_copyFrom_51 ?_
  refine va_put (D := G) (ci := 1) (v := .int (σ6 6 5)) (ty := .int) (C := RX1) (T := TX1) (N := 8) hx hb hts inkX1 tyX1 tyX1_ok nmX1 hown hK hP (hD _) hS 13 rfl rfl 5 (by decide) (hts _ kw_127) (fun _ h9 => h9) rfl (by decide +kernel) rfl rfl (Nat.le_of_ble_eq_true rfl) dX1_copyFrom_54 (fun H locs hP _ hS => ?_)
  obtain ⟨σ7, eσ7⟩ : ∃ z : Sg, z = (s_up σ6 13 5 (σ6 6 5)) := ⟨_, rfl⟩
  replace hf := s_lt_at eσ7 hf
  replace hP : va_P G vwCl ((s_WC cy ad) σ7) H := by rw [eσ7]; exact hP
  refine lv_aload_n hx hb dX1_copyFrom_57 rfl (lv_at hl 0 rfl) ?_
  refine lv_aload_n hx hb dX1_copyFrom_58 rfl (lv_at hl 1 rfl) ?_
  refine va_get (D := G) (ci := 1) (v := .int (σ7 6 6)) (C := RX1) (T := TX1) (N := 8) hx hb hts inkX1 hown hK hP 6 rfl rfl 6 (by decide) (hts _ kw_131) (fun _ h9 => h9) rfl dX1_copyFrom_59 ?_
  refine va_put (D := G) (ci := 1) (v := .int (σ7 6 6)) (ty := .int) (C := RX1) (T := TX1) (N := 8) hx hb hts inkX1 tyX1 tyX1_ok nmX1 hown hK hP (hD _) hS 13 rfl rfl 6 (by decide) (hts _ kw_131) (fun _ h9 => h9) rfl (by decide +kernel) rfl rfl (Nat.le_of_ble_eq_true rfl) dX1_copyFrom_62 (fun H locs hP _ hS => ?_)
  obtain ⟨σ8, eσ8⟩ : ∃ z : Sg, z = (s_up σ7 13 6 (σ7 6 6)) := ⟨_, rfl⟩
  replace hf := s_lt_at eσ8 hf
  replace hP : va_P G vwCl ((s_WC cy ad) σ8) H := by rw [eσ8]; exact hP
  refine lv_aload_n hx hb dX1_copyFrom_65 rfl (lv_at hl 0 rfl) ?_
  refine lv_aload_n hx hb dX1_copyFrom_66 rfl (lv_at hl 1 rfl) ?_
  refine va_get (D := G) (ci := 1) (v := .int (σ8 6 7)) (C := RX1) (T := TX1) (N := 8) hx hb hts inkX1 hown hK hP 6 rfl rfl 7 (by decide) (hts _ kw_135) (fun _ h9 => h9) rfl dX1_copyFrom_67 ?_
  refine va_put (D := G) (ci := 1) (v := .int (σ8 6 7)) (ty := .int) (C := RX1) (T := TX1) (N := 8) hx hb hts inkX1 tyX1 tyX1_ok nmX1 hown hK hP (hD _) hS 13 rfl rfl 7 (by decide) (hts _ kw_135) (fun _ h9 => h9) rfl (by decide +kernel) rfl rfl (Nat.le_of_ble_eq_true rfl) dX1_copyFrom_70 (fun H locs hP _ hS => ?_)
  obtain ⟨σ9, eσ9⟩ : ∃ z : Sg, z = (s_up σ8 13 7 (σ8 6 7)) := ⟨_, rfl⟩
  replace hf := s_lt_at eσ9 hf
  replace hP : va_P G vwCl ((s_WC cy ad) σ9) H := by rw [eσ9]; exact hP
  have he2 := Option.some.inj hf
  exact W.vret hx hb hr (fun t ht hW => ⟨⟨(), rfl, trivial, s_fin (Wd := (s_WC cy ad)) ht he2 hP⟩, hS.F ht⟩) hS.2.2 dX1_copyFrom_73 hlk
theorem kcX1_copyFrom_13_6 {l : Launch} {G : va_G} {cy : Nat → ClassId} {sa : Nat × Nat} {ad : Nat → Nat}  {sz : Nat} (hI : s_inj ad 27) (σ : Sg) {σe : Sg} (hf : fX1_copyFrom_13_6 σ = some σe) : Met l yX1_copyFrom (kW yX1_copyFrom cX1_copyFrom 2 none) ({ frames := 1, cells := 0, slots := 0, locals := 60 } : Room) (s_P (s_WC cy ad) G cy sa ad 27 [.ref (ad 13), .ref (ad 6)] sz σ) (s_Qv (s_WC cy ad) G (s_A ad 27 sz) σe) 0 0 (s_A ad 27 sz) := by
  refine s_met (own := RX1) (by decide) rfl hI (Nat.le_of_ble_eq_true rfl) (fun p e s m below meth c ls hsz C hP hl => ?_)
  subst hsz
  exact kX1_copyFrom_13_6 C σ ls _ _ hl hP va_S.rf hf
set_option maxRecDepth 100000 in
set_option maxHeartbeats 4000000 in
theorem kX1_copyFrom_15_6 (C : s_X p s m meth c args cX1_copyFrom none 2 RX1 G cy sa ad 27) (σ : Sg) (ls : Array Slot) (H : Heap) (locs : List Loc) (hl : lv_has ls 2 [(0, .ref (ad 15)), (1, .ref (ad 6))]) (hP : va_P G vwCl ((s_WC cy ad) σ) H) (hS : va_S (s_A ad 27 s.heap.size) s.heap H locs) (hf : fX1_copyFrom_15_6 σ = some σe) : W p l e ({ frames := 1, cells := 0, slots := 0, locals := 60 } : Room) s m args below meth c H locs 0 0 (MQ below (s_Qv (s_WC cy ad) G (s_A ad 27 s.heap.size) σe) args s 0 0 (s_A ad 27 s.heap.size)) (F0 m 0 ls []) := by
  obtain ⟨hx, hb, hr, hml, hown, hts, hlk, hK, hE, hI⟩ := id C
  have hD : ∀ σ : Sg, va_D (s_A ad 27 s.heap.size) ((s_WC cy ad) σ) := fun σ => s_D (s_WC_ad cy ad σ) hI (fun k hk => Or.inl ⟨k, hk, rfl⟩)
  unfold fX1_copyFrom_15_6 at hf
  refine lv_aload_n hx hb dX1_copyFrom_0 rfl (lv_at hl 1 rfl) ?_
  refine va_get (D := G) (ci := 1) (v := .ref (ad 7)) (C := RX1) (T := TX1) (N := 8) hx hb hts inkX1 hown hK hP 6 rfl rfl 0 (by decide) (hts _ kw_111) (fun _ h9 => h9) rfl dX1_copyFrom_1 ?_
  refine lv_iconst (v := 0) hx hb dX1_copyFrom_4 (by decide) ?_
  refine lv_aload_n hx hb dX1_copyFrom_5 rfl (lv_at hl 0 rfl) ?_
  refine va_get (D := G) (ci := 1) (v := .ref (ad 16)) (C := RX1) (T := TX1) (N := 8) hx hb hts inkX1 hown hK hP 15 rfl rfl 0 (by decide) (hts _ kw_111) (fun _ h9 => h9) rfl dX1_copyFrom_6 ?_
  refine lv_iconst (v := 0) hx hb dX1_copyFrom_9 (by decide) ?_
  refine lv_aload_n hx hb dX1_copyFrom_10 rfl (lv_at hl 1 rfl) ?_
  refine va_get (D := G) (ci := 1) (v := .int (σ 6 1)) (C := RX1) (T := TX1) (N := 8) hx hb hts inkX1 hown hK hP 6 rfl rfl 1 (by decide) (hts _ kw_112) (fun _ h9 => h9) rfl dX1_copyFrom_11 ?_
  replace hf := s_gd_some hf
  obtain ⟨g2, hf⟩ := hf
  obtain ⟨g2a, g2b, g2c, g2d, g2e⟩ := s_cpok_of g2
  refine va_copyi hx hb (hml.trans hl.1.symm) hown (hts _ kw_440) (hts _ kw_442) (hts _ kw_441) (hts _ kw_70) hK hP (hD _) hS 7 16 1 1 rfl rfl rfl rfl rfl g2a g2b g2c g2d g2e (fun _ _ => rfl) (Nat.le_of_ble_eq_true rfl) (by decide +kernel) dX1_copyFrom_14 (fun H locs hP _ hS => ?_)
  obtain ⟨σ1, eσ1⟩ : ∃ z : Sg, z = (s_upr σ 16 (va_cpy (σ 7) (σ 16) (Int32.toNatClampNeg (0 : Int32)) (Int32.toNatClampNeg (0 : Int32)) (Int32.toNatClampNeg (σ 6 1)))) := ⟨_, rfl⟩
  replace hf := s_lt_at eσ1 hf
  replace hP : va_P G vwCl ((s_WC cy ad) σ1) H := by rw [eσ1]; exact hP
  refine lv_aload_n hx hb dX1_copyFrom_17 rfl (lv_at hl 0 rfl) ?_
  refine lv_aload_n hx hb dX1_copyFrom_18 rfl (lv_at hl 1 rfl) ?_
  refine va_get (D := G) (ci := 1) (v := .int (σ1 6 1)) (C := RX1) (T := TX1) (N := 8) hx hb hts inkX1 hown hK hP 6 rfl rfl 1 (by decide) (hts _ kw_112) (fun _ h9 => h9) rfl dX1_copyFrom_19 ?_
  refine va_put (D := G) (ci := 1) (v := .int (σ1 6 1)) (ty := .int) (C := RX1) (T := TX1) (N := 8) hx hb hts inkX1 tyX1 tyX1_ok nmX1 hown hK hP (hD _) hS 15 rfl rfl 1 (by decide) (hts _ kw_112) (fun _ h9 => h9) rfl (by decide +kernel) rfl rfl (Nat.le_of_ble_eq_true rfl) dX1_copyFrom_22 (fun H locs hP _ hS => ?_)
  obtain ⟨σ3, eσ3⟩ : ∃ z : Sg, z = (s_up σ1 15 1 (σ1 6 1)) := ⟨_, rfl⟩
  replace hf := s_lt_at eσ3 hf
  replace hP : va_P G vwCl ((s_WC cy ad) σ3) H := by rw [eσ3]; exact hP
  refine lv_aload_n hx hb dX1_copyFrom_25 rfl (lv_at hl 0 rfl) ?_
  refine lv_aload_n hx hb dX1_copyFrom_26 rfl (lv_at hl 1 rfl) ?_
  refine va_get (D := G) (ci := 1) (v := .int (σ3 6 2)) (C := RX1) (T := TX1) (N := 8) hx hb hts inkX1 hown hK hP 6 rfl rfl 2 (by decide) (hts _ kw_115) (fun _ h9 => h9) rfl dX1_copyFrom_27 ?_
  refine va_put (D := G) (ci := 1) (v := .int (σ3 6 2)) (ty := .int) (C := RX1) (T := TX1) (N := 8) hx hb hts inkX1 tyX1 tyX1_ok nmX1 hown hK hP (hD _) hS 15 rfl rfl 2 (by decide) (hts _ kw_115) (fun _ h9 => h9) rfl (by decide +kernel) rfl rfl (Nat.le_of_ble_eq_true rfl) dX1_copyFrom_30 (fun H locs hP _ hS => ?_)
  obtain ⟨σ4, eσ4⟩ : ∃ z : Sg, z = (s_up σ3 15 2 (σ3 6 2)) := ⟨_, rfl⟩
  replace hf := s_lt_at eσ4 hf
  replace hP : va_P G vwCl ((s_WC cy ad) σ4) H := by rw [eσ4]; exact hP
  refine lv_aload_n hx hb dX1_copyFrom_33 rfl (lv_at hl 0 rfl) ?_
  refine lv_aload_n hx hb dX1_copyFrom_34 rfl (lv_at hl 1 rfl) ?_
  refine va_get (D := G) (ci := 1) (v := .int (σ4 6 3)) (C := RX1) (T := TX1) (N := 8) hx hb hts inkX1 hown hK hP 6 rfl rfl 3 (by decide) (hts _ kw_119) (fun _ h9 => h9) rfl dX1_copyFrom_35 ?_
  refine va_put (D := G) (ci := 1) (v := .int (σ4 6 3)) (ty := .int) (C := RX1) (T := TX1) (N := 8) hx hb hts inkX1 tyX1 tyX1_ok nmX1 hown hK hP (hD _) hS 15 rfl rfl 3 (by decide) (hts _ kw_119) (fun _ h9 => h9) rfl (by decide +kernel) rfl rfl (Nat.le_of_ble_eq_true rfl) dX1_copyFrom_38 (fun H locs hP _ hS => ?_)
  obtain ⟨σ5, eσ5⟩ : ∃ z : Sg, z = (s_up σ4 15 3 (σ4 6 3)) := ⟨_, rfl⟩
  replace hf := s_lt_at eσ5 hf
  replace hP : va_P G vwCl ((s_WC cy ad) σ5) H := by rw [eσ5]; exact hP
  refine lv_aload_n hx hb dX1_copyFrom_41 rfl (lv_at hl 0 rfl) ?_
  refine lv_aload_n hx hb dX1_copyFrom_42 rfl (lv_at hl 1 rfl) ?_
  refine va_get (D := G) (ci := 1) (v := .int (σ5 6 4)) (C := RX1) (T := TX1) (N := 8) hx hb hts inkX1 hown hK hP 6 rfl rfl 4 (by decide) (hts _ kw_123) (fun _ h9 => h9) rfl dX1_copyFrom_43 ?_
  refine va_put (D := G) (ci := 1) (v := .int (σ5 6 4)) (ty := .int) (C := RX1) (T := TX1) (N := 8) hx hb hts inkX1 tyX1 tyX1_ok nmX1 hown hK hP (hD _) hS 15 rfl rfl 4 (by decide) (hts _ kw_123) (fun _ h9 => h9) rfl (by decide +kernel) rfl rfl (Nat.le_of_ble_eq_true rfl) dX1_copyFrom_46 (fun H locs hP _ hS => ?_)
  obtain ⟨σ6, eσ6⟩ : ∃ z : Sg, z = (s_up σ5 15 4 (σ5 6 4)) := ⟨_, rfl⟩
  replace hf := s_lt_at eσ6 hf
  replace hP : va_P G vwCl ((s_WC cy ad) σ6) H := by rw [eσ6]; exact hP
  refine lv_aload_n hx hb dX1_copyFrom_49 rfl (lv_at hl 0 rfl) ?_
  refine lv_aload_n hx hb dX1_copyFrom_50 rfl (lv_at hl 1 rfl) ?_
  refine va_get (D := G) (ci := 1) (v := .int (σ6 6 5)) (C := RX1) (T := TX1) (N := 8) hx hb hts inkX1 hown hK hP 6 rfl rfl 5 (by decide) (hts _ kw_127) (fun _ h9 => h9) rfl dX1_copyFrom_51 ?_
  refine va_put (D := G) (ci := 1) (v := .int (σ6 6 5)) (ty := .int) (C := RX1) (T := TX1) (N := 8) hx hb hts inkX1 tyX1 tyX1_ok nmX1 hown hK hP (hD _) hS 15 rfl rfl 5 (by decide) (hts _ kw_127) (fun _ h9 => h9) rfl (by decide +kernel) rfl rfl (Nat.le_of_ble_eq_true rfl) dX1_copyFrom_54 (fun H locs hP _ hS => ?_)
  obtain ⟨σ7, eσ7⟩ : ∃ z : Sg, z = (s_up σ6 15 5 (σ6 6 5)) := ⟨_, rfl⟩
  replace hf := s_lt_at eσ7 hf
  replace hP : va_P G vwCl ((s_WC cy ad) σ7) H := by rw [eσ7]; exact hP
  refine lv_aload_n hx hb dX1_copyFrom_57 rfl (lv_at hl 0 rfl) ?_
  refine lv_aload_n hx hb dX1_copyFrom_58 rfl (lv_at hl 1 rfl) ?_
  refine va_get (D := G) (ci := 1) (v := .int (σ7 6 6)) (C := RX1) (T := TX1) (N := 8) hx hb hts inkX1 hown hK hP 6 rfl rfl 6 (by decide) (hts _ kw_131) (fun _ h9 => h9) rfl dX1_copyFrom_59 ?_
  refine va_put (D := G) (ci := 1) (v := .int (σ7 6 6)) (ty := .int) (C := RX1) (T := TX1) (N := 8) hx hb hts inkX1 tyX1 tyX1_ok nmX1 hown hK hP (hD _) hS 15 rfl rfl 6 (by decide) (hts _ kw_131) (fun _ h9 => h9) rfl (by decide +kernel) rfl rfl (Nat.le_of_ble_eq_true rfl) dX1_copyFrom_62 (fun H locs hP _ hS => ?_)
  obtain ⟨σ8, eσ8⟩ : ∃ z : Sg, z = (s_up σ7 15 6 (σ7 6 6)) := ⟨_, rfl⟩
  replace hf := s_lt_at eσ8 hf
  replace hP : va_P G vwCl ((s_WC cy ad) σ8) H := by rw [eσ8]; exact hP
  refine lv_aload_n hx hb dX1_copyFrom_65 rfl (lv_at hl 0 rfl) ?_
  refine lv_aload_n hx hb dX1_copyFrom_66 rfl (lv_at hl 1 rfl) ?_
  refine va_get (D := G) (ci := 1) (v := .int (σ8 6 7)) (C := RX1) (T := TX1) (N := 8) hx hb hts inkX1 hown hK hP 6 rfl rfl 7 (by decide) (hts _ kw_135) (fun _ h9 => h9) rfl dX1_copyFrom_67 ?_
  refine va_put (D := G) (ci := 1) (v := .int (σ8 6 7)) (ty := .int) (C := RX1) (T := TX1) (N := 8) hx hb hts inkX1 tyX1 tyX1_ok nmX1 hown hK hP (hD _) hS 15 rfl rfl 7 (by decide) (hts _ kw_135) (fun _ h9 => h9) rfl (by decide +kernel) rfl rfl (Nat.le_of_ble_eq_true rfl) dX1_copyFrom_70 (fun H locs hP _ hS => ?_)
  obtain ⟨σ9, eσ9⟩ : ∃ z : Sg, z = (s_up σ8 15 7 (σ8 6 7)) := ⟨_, rfl⟩
  replace hf := s_lt_at eσ9 hf
  replace hP : va_P G vwCl ((s_WC cy ad) σ9) H := by rw [eσ9]; exact hP
  have he2 := Option.some.inj hf
  exact W.vret hx hb hr (fun t ht hW => ⟨⟨(), rfl, trivial, s_fin (Wd := (s_WC cy ad)) ht he2 hP⟩, hS.F ht⟩) hS.2.2 dX1_copyFrom_73 hlk
theorem kcX1_copyFrom_15_6 {l : Launch} {G : va_G} {cy : Nat → ClassId} {sa : Nat × Nat} {ad : Nat → Nat}  {sz : Nat} (hI : s_inj ad 27) (σ : Sg) {σe : Sg} (hf : fX1_copyFrom_15_6 σ = some σe) : Met l yX1_copyFrom (kW yX1_copyFrom cX1_copyFrom 2 none) ({ frames := 1, cells := 0, slots := 0, locals := 60 } : Room) (s_P (s_WC cy ad) G cy sa ad 27 [.ref (ad 15), .ref (ad 6)] sz σ) (s_Qv (s_WC cy ad) G (s_A ad 27 sz) σe) 0 0 (s_A ad 27 sz) := by
  refine s_met (own := RX1) (by decide) rfl hI (Nat.le_of_ble_eq_true rfl) (fun p e s m below meth c ls hsz C hP hl => ?_)
  subst hsz
  exact kX1_copyFrom_15_6 C σ ls _ _ hl hP va_S.rf hf
set_option maxRecDepth 100000 in
set_option maxHeartbeats 4000000 in
theorem kX6_keep_b24 (C : s_X p s m meth c args cX6_keep (some .int) 3 RX6 G cy sa ad 27) (σ : Sg) (x1 : Int32) (y0 : Int32) (ls : Array Slot) (H : Heap) (locs : List Loc) (hl : lv_has ls 3 [(0, .ref (ad 0)), (1, .int x1)]) (hP : va_P G vwCl ((s_WC cy ad) σ) H) (hS : va_S (s_A ad 27 s.heap.size) s.heap H locs) (hf : fX6_keep_b24 σ x1 y0 = some (re, σe)) : W p l e ({ frames := 2, cells := 0, slots := 0, locals := 81 } : Room) s m args below meth c H locs 0 0 (MQ below (s_Qi (s_WC cy ad) G (s_A ad 27 s.heap.size) re σe) args s 0 0 (s_A ad 27 s.heap.size)) (F0 m 24 ls [.int y0]) := by
  obtain ⟨hx, hb, hr, hml, hown, hts, hlk, hK, hE, hI⟩ := id C
  have hD : ∀ σ : Sg, va_D (s_A ad 27 s.heap.size) ((s_WC cy ad) σ) := fun σ => s_D (s_WC_ad cy ad σ) hI (fun k hk => Or.inl ⟨k, hk, rfl⟩)
  unfold fX6_keep_b24 at hf
  refine lv_istore_n (lv' := [(2, .int y0), (0, .ref (ad 0)), (1, .int x1)]) hx hb dX6_keep_24 rfl hl (by decide) rfl (fun ls hl => ?_)
  refine lv_aload_n hx hb dX6_keep_25 rfl (lv_at hl 1 rfl) ?_
  refine va_get (D := G) (ci := 6) (v := .ref (ad 12)) (C := RX6) (T := TX6) (N := 9) hx hb hts inkX6 hown hK hP 0 rfl rfl 5 (by decide) (hts _ kw_255) (fun _ h9 => h9) rfl dX6_keep_26 ?_
  refine lv_iload_n hx hb dX6_keep_29 rfl (lv_at hl 2 rfl) ?_
  by_cases c1 : x1 = 0
  · rw [if_pos c1] at hf
    refine va_aldq hx hb hK hP 12 3 rfl rfl (by rw [c1]; unfold vp_in; decide) dX6_keep_30 ?_
    refine W.eq (g2 := F0 m 31 ls [.ref (ad 13)]) (by rw [c1]; rfl) ?_
    refine lv_aload_n hx hb dX6_keep_31 rfl (lv_at hl 1 rfl) ?_
    refine va_get (D := G) (ci := 6) (v := .ref (ad 6)) (C := RX6) (T := TX6) (N := 9) hx hb hts inkX6 hown hK hP 0 rfl rfl 2 (by decide) (hts _ kw_252) (fun _ h9 => h9) rfl dX6_keep_32 ?_
    replace hf := s_bv_some hf
    obtain ⟨σ2, hz3, hf⟩ := hf
    refine s_callv (nn := 1) C (kcX1_copyFrom_13_6 (l := l) (G := G) (cy := cy) (sa := sa) hI (sz := H.size) σ hz3) gk_X6_86 rfl rfl (by decide +kernel) ⟨Nat.le_of_ble_eq_true rfl, Nat.le_of_ble_eq_true rfl⟩ hP hS (q0 := 13) (ci := 1) rfl rfl rfl (As := [.ref (ad 6)]) (rest := []) rfl rfl hl.1 (Nat.le_of_ble_eq_true rfl) dX6_keep_35 (fun H locs hP hS => ?_)
    refine lv_aload_n hx hb dX6_keep_38 rfl (lv_at hl 1 rfl) ?_
    refine va_get (D := G) (ci := 6) (v := .ref (ad 17)) (C := RX6) (T := TX6) (N := 9) hx hb hts inkX6 hown hK hP 0 rfl rfl 6 (by decide) (hts _ kw_256) (fun _ h9 => h9) rfl dX6_keep_39 ?_
    refine lv_iload_n hx hb dX6_keep_42 rfl (lv_at hl 2 rfl) ?_
    refine lv_iconst (v := 1) hx hb dX6_keep_43 (by decide) ?_
    replace hf := s_gd_some hf
    obtain ⟨g4, hf⟩ := hf
    refine va_zast hx hb hK hP (hD _) hS 17 2 rfl rfl (s_in_of g4) dX6_keep_44 (fun H locs hP _ hS => ?_)
    obtain ⟨σ5, eσ5⟩ : ∃ z : Sg, z = (s_up σ2 17 (Int32.toNatClampNeg x1) (vp_nar .boolean (1 : Int32))) := ⟨_, rfl⟩
    replace hf := s_lt_at eσ5 hf
    replace hP : va_P G vwCl ((s_WC cy ad) σ5) H := by rw [eσ5]; exact hP
    refine lv_iload_n hx hb dX6_keep_45 rfl (lv_at hl 0 rfl) ?_
    obtain ⟨he1, he2⟩ := s_ret hf
    exact W.iret hx hb hr (fun t ht hW => ⟨⟨_, (), rfl, he1, s_fin (Wd := (s_WC cy ad)) ht he2 hP⟩, hS.F ht⟩) hS.2.2 dX6_keep_46 hlk
  · rw [if_neg c1] at hf
    by_cases c6 : x1 = 1
    · rw [if_pos c6] at hf
      refine va_aldq hx hb hK hP 12 3 rfl rfl (by rw [c6]; unfold vp_in; decide) dX6_keep_30 ?_
      refine W.eq (g2 := F0 m 31 ls [.ref (ad 15)]) (by rw [c6]; rfl) ?_
      refine lv_aload_n hx hb dX6_keep_31 rfl (lv_at hl 1 rfl) ?_
      refine va_get (D := G) (ci := 6) (v := .ref (ad 6)) (C := RX6) (T := TX6) (N := 9) hx hb hts inkX6 hown hK hP 0 rfl rfl 2 (by decide) (hts _ kw_252) (fun _ h9 => h9) rfl dX6_keep_32 ?_
      replace hf := s_bv_some hf
      obtain ⟨σ7, hz8, hf⟩ := hf
      refine s_callv (nn := 1) C (kcX1_copyFrom_15_6 (l := l) (G := G) (cy := cy) (sa := sa) hI (sz := H.size) σ hz8) gk_X6_86 rfl rfl (by decide +kernel) ⟨Nat.le_of_ble_eq_true rfl, Nat.le_of_ble_eq_true rfl⟩ hP hS (q0 := 15) (ci := 1) rfl rfl rfl (As := [.ref (ad 6)]) (rest := []) rfl rfl hl.1 (Nat.le_of_ble_eq_true rfl) dX6_keep_35 (fun H locs hP hS => ?_)
      refine lv_aload_n hx hb dX6_keep_38 rfl (lv_at hl 1 rfl) ?_
      refine va_get (D := G) (ci := 6) (v := .ref (ad 17)) (C := RX6) (T := TX6) (N := 9) hx hb hts inkX6 hown hK hP 0 rfl rfl 6 (by decide) (hts _ kw_256) (fun _ h9 => h9) rfl dX6_keep_39 ?_
      refine lv_iload_n hx hb dX6_keep_42 rfl (lv_at hl 2 rfl) ?_
      refine lv_iconst (v := 1) hx hb dX6_keep_43 (by decide) ?_
      replace hf := s_gd_some hf
      obtain ⟨g9, hf⟩ := hf
      refine va_zast hx hb hK hP (hD _) hS 17 2 rfl rfl (s_in_of g9) dX6_keep_44 (fun H locs hP _ hS => ?_)
      obtain ⟨σ10, eσ10⟩ : ∃ z : Sg, z = (s_up σ7 17 (Int32.toNatClampNeg x1) (vp_nar .boolean (1 : Int32))) := ⟨_, rfl⟩
      replace hf := s_lt_at eσ10 hf
      replace hP : va_P G vwCl ((s_WC cy ad) σ10) H := by rw [eσ10]; exact hP
      refine lv_iload_n hx hb dX6_keep_45 rfl (lv_at hl 0 rfl) ?_
      obtain ⟨he1, he2⟩ := s_ret hf
      exact W.iret hx hb hr (fun t ht hW => ⟨⟨_, (), rfl, he1, s_fin (Wd := (s_WC cy ad)) ht he2 hP⟩, hS.F ht⟩) hS.2.2 dX6_keep_46 hlk
    · rw [if_neg c6] at hf
      cases hf
set_option maxRecDepth 100000 in
set_option maxHeartbeats 4000000 in
theorem kX6_keep (C : s_X p s m meth c args cX6_keep (some .int) 3 RX6 G cy sa ad 27) (σ : Sg) (x1 : Int32) (ls : Array Slot) (H : Heap) (locs : List Loc) (hl : lv_has ls 3 [(0, .ref (ad 0)), (1, .int x1)]) (hP : va_P G vwCl ((s_WC cy ad) σ) H) (hS : va_S (s_A ad 27 s.heap.size) s.heap H locs) (hf : fX6_keep σ x1 = some (re, σe)) : W p l e ({ frames := 2, cells := 0, slots := 0, locals := 81 } : Room) s m args below meth c H locs 0 0 (MQ below (s_Qi (s_WC cy ad) G (s_A ad 27 s.heap.size) re σe) args s 0 0 (s_A ad 27 s.heap.size)) (F0 m 0 ls []) := by
  obtain ⟨hx, hb, hr, hml, hown, hts, hlk, hK, hE, hI⟩ := id C
  have hD : ∀ σ : Sg, va_D (s_A ad 27 s.heap.size) ((s_WC cy ad) σ) := fun σ => s_D (s_WC_ad cy ad σ) hI (fun k hk => Or.inl ⟨k, hk, rfl⟩)
  unfold fX6_keep at hf
  refine lv_aload_n hx hb dX6_keep_0 rfl (lv_at hl 0 rfl) ?_
  refine lv_iload_n hx hb dX6_keep_1 rfl (lv_at hl 1 rfl) ?_
  replace hf := s_bi_some hf
  obtain ⟨r3, σ1, hz2, hf⟩ := hf
  refine s_calli (nn := 1) C (kcX6_isImage (l := l) (G := G) (cy := cy) (sa := sa) hI (sz := H.size) σ x1 hz2) gk_X6_220 rfl rfl (by decide +kernel) ⟨Nat.le_of_ble_eq_true rfl, Nat.le_of_ble_eq_true rfl⟩ hP hS (q0 := 0) (ci := 6) rfl rfl rfl (As := [.int x1]) (rest := []) rfl rfl hl.1 (Nat.le_of_ble_eq_true rfl) dX6_keep_2 (fun H locs hP hS => ?_)
  refine lv_if_ne (tgt := 10) hx hb dX6_keep_5 (by decide) (fun c4 => ?_) (fun c4 => ?_)
  · rw [if_neg c4] at hf
    refine lv_aload_n hx hb dX6_keep_10 rfl (lv_at hl 0 rfl) ?_
    refine va_get (D := G) (ci := 6) (v := .ref (ad 17)) (C := RX6) (T := TX6) (N := 9) hx hb hts inkX6 hown hK hP 0 rfl rfl 6 (by decide) (hts _ kw_256) (fun _ h9 => h9) rfl dX6_keep_11 ?_
    refine lv_iload_n hx hb dX6_keep_14 rfl (lv_at hl 1 rfl) ?_
    replace hf := s_gd_some hf
    obtain ⟨g5, hf⟩ := hf
    refine va_zald hx hb hK hP 17 2 rfl rfl (s_in_of g5) dX6_keep_15 ?_
    refine lv_if_eq (tgt := 23) hx hb dX6_keep_16 (by decide) (fun c6 => ?_) (fun c6 => ?_)
    · rw [if_pos c6] at hf
      refine lv_iconst (v := 0) hx hb dX6_keep_23 (by decide) ?_
      exact kX6_keep_b24 C σ1 x1 (0 : Int32) _ _ _ (lv_sub hl [0, 1] rfl) hP hS hf
    · rw [if_neg c6] at hf
      refine lv_iconst (v := 1) hx hb dX6_keep_19 (by decide) ?_
      refine lv_goto (tgt := 24) hx hb dX6_keep_20 (by decide) ?_
      exact kX6_keep_b24 C σ1 x1 (1 : Int32) _ _ _ (lv_sub hl [0, 1] rfl) hP hS hf
  · rw [if_pos c4] at hf
    refine lv_iconst (v := -1) hx hb dX6_keep_8 (by decide) ?_
    obtain ⟨he1, he2⟩ := s_ret hf
    exact W.iret hx hb hr (fun t ht hW => ⟨⟨_, (), rfl, he1, s_fin (Wd := (s_WC cy ad)) ht he2 hP⟩, hS.F ht⟩) hS.2.2 dX6_keep_9 hlk
theorem kcX6_keep {l : Launch} {G : va_G} {cy : Nat → ClassId} {sa : Nat × Nat} {ad : Nat → Nat}  {sz : Nat} (hI : s_inj ad 27) (σ : Sg) (x1 : Int32) {re : Int32} {σe : Sg} (hf : fX6_keep σ x1 = some (re, σe)) : Met l yX6_keep (kW yX6_keep cX6_keep 3 (some .int)) ({ frames := 2, cells := 0, slots := 0, locals := 81 } : Room) (s_P (s_WC cy ad) G cy sa ad 27 [.ref (ad 0), .int x1] sz σ) (s_Qi (s_WC cy ad) G (s_A ad 27 sz) re σe) 0 0 (s_A ad 27 sz) := by
  refine s_met (own := RX6) (by decide) rfl hI (Nat.le_of_ble_eq_true rfl) (fun p e s m below meth c ls hsz C hP hl => ?_)
  subst hsz
  exact kX6_keep C σ x1 ls _ _ hl hP va_S.rf hf
set_option maxRecDepth 100000 in
set_option maxHeartbeats 4000000 in
theorem kX1_copyFrom_6_13 (C : s_X p s m meth c args cX1_copyFrom none 2 RX1 G cy sa ad 27) (σ : Sg) (ls : Array Slot) (H : Heap) (locs : List Loc) (hl : lv_has ls 2 [(0, .ref (ad 6)), (1, .ref (ad 13))]) (hP : va_P G vwCl ((s_WC cy ad) σ) H) (hS : va_S (s_A ad 27 s.heap.size) s.heap H locs) (hf : fX1_copyFrom_6_13 σ = some σe) : W p l e ({ frames := 1, cells := 0, slots := 0, locals := 60 } : Room) s m args below meth c H locs 0 0 (MQ below (s_Qv (s_WC cy ad) G (s_A ad 27 s.heap.size) σe) args s 0 0 (s_A ad 27 s.heap.size)) (F0 m 0 ls []) := by
  obtain ⟨hx, hb, hr, hml, hown, hts, hlk, hK, hE, hI⟩ := id C
  have hD : ∀ σ : Sg, va_D (s_A ad 27 s.heap.size) ((s_WC cy ad) σ) := fun σ => s_D (s_WC_ad cy ad σ) hI (fun k hk => Or.inl ⟨k, hk, rfl⟩)
  unfold fX1_copyFrom_6_13 at hf
  refine lv_aload_n hx hb dX1_copyFrom_0 rfl (lv_at hl 1 rfl) ?_
  refine va_get (D := G) (ci := 1) (v := .ref (ad 14)) (C := RX1) (T := TX1) (N := 8) hx hb hts inkX1 hown hK hP 13 rfl rfl 0 (by decide) (hts _ kw_111) (fun _ h9 => h9) rfl dX1_copyFrom_1 ?_
  refine lv_iconst (v := 0) hx hb dX1_copyFrom_4 (by decide) ?_
  refine lv_aload_n hx hb dX1_copyFrom_5 rfl (lv_at hl 0 rfl) ?_
  refine va_get (D := G) (ci := 1) (v := .ref (ad 7)) (C := RX1) (T := TX1) (N := 8) hx hb hts inkX1 hown hK hP 6 rfl rfl 0 (by decide) (hts _ kw_111) (fun _ h9 => h9) rfl dX1_copyFrom_6 ?_
  refine lv_iconst (v := 0) hx hb dX1_copyFrom_9 (by decide) ?_
  refine lv_aload_n hx hb dX1_copyFrom_10 rfl (lv_at hl 1 rfl) ?_
  refine va_get (D := G) (ci := 1) (v := .int (σ 13 1)) (C := RX1) (T := TX1) (N := 8) hx hb hts inkX1 hown hK hP 13 rfl rfl 1 (by decide) (hts _ kw_112) (fun _ h9 => h9) rfl dX1_copyFrom_11 ?_
  replace hf := s_gd_some hf
  obtain ⟨g2, hf⟩ := hf
  obtain ⟨g2a, g2b, g2c, g2d, g2e⟩ := s_cpok_of g2
  refine va_copyi hx hb (hml.trans hl.1.symm) hown (hts _ kw_440) (hts _ kw_442) (hts _ kw_441) (hts _ kw_70) hK hP (hD _) hS 14 7 1 1 rfl rfl rfl rfl rfl g2a g2b g2c g2d g2e (fun _ _ => rfl) (Nat.le_of_ble_eq_true rfl) (by decide +kernel) dX1_copyFrom_14 (fun H locs hP _ hS => ?_)
  obtain ⟨σ1, eσ1⟩ : ∃ z : Sg, z = (s_upr σ 7 (va_cpy (σ 14) (σ 7) (Int32.toNatClampNeg (0 : Int32)) (Int32.toNatClampNeg (0 : Int32)) (Int32.toNatClampNeg (σ 13 1)))) := ⟨_, rfl⟩
  replace hf := s_lt_at eσ1 hf
  replace hP : va_P G vwCl ((s_WC cy ad) σ1) H := by rw [eσ1]; exact hP
  refine lv_aload_n hx hb dX1_copyFrom_17 rfl (lv_at hl 0 rfl) ?_
  refine lv_aload_n hx hb dX1_copyFrom_18 rfl (lv_at hl 1 rfl) ?_
  refine va_get (D := G) (ci := 1) (v := .int (σ1 13 1)) (C := RX1) (T := TX1) (N := 8) hx hb hts inkX1 hown hK hP 13 rfl rfl 1 (by decide) (hts _ kw_112) (fun _ h9 => h9) rfl dX1_copyFrom_19 ?_
  refine va_put (D := G) (ci := 1) (v := .int (σ1 13 1)) (ty := .int) (C := RX1) (T := TX1) (N := 8) hx hb hts inkX1 tyX1 tyX1_ok nmX1 hown hK hP (hD _) hS 6 rfl rfl 1 (by decide) (hts _ kw_112) (fun _ h9 => h9) rfl (by decide +kernel) rfl rfl (Nat.le_of_ble_eq_true rfl) dX1_copyFrom_22 (fun H locs hP _ hS => ?_)
  obtain ⟨σ3, eσ3⟩ : ∃ z : Sg, z = (s_up σ1 6 1 (σ1 13 1)) := ⟨_, rfl⟩
  replace hf := s_lt_at eσ3 hf
  replace hP : va_P G vwCl ((s_WC cy ad) σ3) H := by rw [eσ3]; exact hP
  refine lv_aload_n hx hb dX1_copyFrom_25 rfl (lv_at hl 0 rfl) ?_
  refine lv_aload_n hx hb dX1_copyFrom_26 rfl (lv_at hl 1 rfl) ?_
  refine va_get (D := G) (ci := 1) (v := .int (σ3 13 2)) (C := RX1) (T := TX1) (N := 8) hx hb hts inkX1 hown hK hP 13 rfl rfl 2 (by decide) (hts _ kw_115) (fun _ h9 => h9) rfl dX1_copyFrom_27 ?_
  refine va_put (D := G) (ci := 1) (v := .int (σ3 13 2)) (ty := .int) (C := RX1) (T := TX1) (N := 8) hx hb hts inkX1 tyX1 tyX1_ok nmX1 hown hK hP (hD _) hS 6 rfl rfl 2 (by decide) (hts _ kw_115) (fun _ h9 => h9) rfl (by decide +kernel) rfl rfl (Nat.le_of_ble_eq_true rfl) dX1_copyFrom_30 (fun H locs hP _ hS => ?_)
  obtain ⟨σ4, eσ4⟩ : ∃ z : Sg, z = (s_up σ3 6 2 (σ3 13 2)) := ⟨_, rfl⟩
  replace hf := s_lt_at eσ4 hf
  replace hP : va_P G vwCl ((s_WC cy ad) σ4) H := by rw [eσ4]; exact hP
  refine lv_aload_n hx hb dX1_copyFrom_33 rfl (lv_at hl 0 rfl) ?_
  refine lv_aload_n hx hb dX1_copyFrom_34 rfl (lv_at hl 1 rfl) ?_
  refine va_get (D := G) (ci := 1) (v := .int (σ4 13 3)) (C := RX1) (T := TX1) (N := 8) hx hb hts inkX1 hown hK hP 13 rfl rfl 3 (by decide) (hts _ kw_119) (fun _ h9 => h9) rfl dX1_copyFrom_35 ?_
  refine va_put (D := G) (ci := 1) (v := .int (σ4 13 3)) (ty := .int) (C := RX1) (T := TX1) (N := 8) hx hb hts inkX1 tyX1 tyX1_ok nmX1 hown hK hP (hD _) hS 6 rfl rfl 3 (by decide) (hts _ kw_119) (fun _ h9 => h9) rfl (by decide +kernel) rfl rfl (Nat.le_of_ble_eq_true rfl) dX1_copyFrom_38 (fun H locs hP _ hS => ?_)
  obtain ⟨σ5, eσ5⟩ : ∃ z : Sg, z = (s_up σ4 6 3 (σ4 13 3)) := ⟨_, rfl⟩
  replace hf := s_lt_at eσ5 hf
  replace hP : va_P G vwCl ((s_WC cy ad) σ5) H := by rw [eσ5]; exact hP
  refine lv_aload_n hx hb dX1_copyFrom_41 rfl (lv_at hl 0 rfl) ?_
  refine lv_aload_n hx hb dX1_copyFrom_42 rfl (lv_at hl 1 rfl) ?_
  refine va_get (D := G) (ci := 1) (v := .int (σ5 13 4)) (C := RX1) (T := TX1) (N := 8) hx hb hts inkX1 hown hK hP 13 rfl rfl 4 (by decide) (hts _ kw_123) (fun _ h9 => h9) rfl dX1_copyFrom_43 ?_
  refine va_put (D := G) (ci := 1) (v := .int (σ5 13 4)) (ty := .int) (C := RX1) (T := TX1) (N := 8) hx hb hts inkX1 tyX1 tyX1_ok nmX1 hown hK hP (hD _) hS 6 rfl rfl 4 (by decide) (hts _ kw_123) (fun _ h9 => h9) rfl (by decide +kernel) rfl rfl (Nat.le_of_ble_eq_true rfl) dX1_copyFrom_46 (fun H locs hP _ hS => ?_)
  obtain ⟨σ6, eσ6⟩ : ∃ z : Sg, z = (s_up σ5 6 4 (σ5 13 4)) := ⟨_, rfl⟩
  replace hf := s_lt_at eσ6 hf
  replace hP : va_P G vwCl ((s_WC cy ad) σ6) H := by rw [eσ6]; exact hP
  refine lv_aload_n hx hb dX1_copyFrom_49 rfl (lv_at hl 0 rfl) ?_
  refine lv_aload_n hx hb dX1_copyFrom_50 rfl (lv_at hl 1 rfl) ?_
  refine va_get (D := G) (ci := 1) (v := .int (σ6 13 5)) (C := RX1) (T := TX1) (N := 8) hx hb hts inkX1 hown hK hP 13 rfl rfl 5 (by decide) (hts _ kw_127) (fun _ h9 => h9) rfl dX1_copyFrom_51 ?_
  refine va_put (D := G) (ci := 1) (v := .int (σ6 13 5)) (ty := .int) (C := RX1) (T := TX1) (N := 8) hx hb hts inkX1 tyX1 tyX1_ok nmX1 hown hK hP (hD _) hS 6 rfl rfl 5 (by decide) (hts _ kw_127) (fun _ h9 => h9) rfl (by decide +kernel) rfl rfl (Nat.le_of_ble_eq_true rfl) dX1_copyFrom_54 (fun H locs hP _ hS => ?_)
  obtain ⟨σ7, eσ7⟩ : ∃ z : Sg, z = (s_up σ6 6 5 (σ6 13 5)) := ⟨_, rfl⟩
  replace hf := s_lt_at eσ7 hf
  replace hP : va_P G vwCl ((s_WC cy ad) σ7) H := by rw [eσ7]; exact hP
  refine lv_aload_n hx hb dX1_copyFrom_57 rfl (lv_at hl 0 rfl) ?_
  refine lv_aload_n hx hb dX1_copyFrom_58 rfl (lv_at hl 1 rfl) ?_
  refine va_get (D := G) (ci := 1) (v := .int (σ7 13 6)) (C := RX1) (T := TX1) (N := 8) hx hb hts inkX1 hown hK hP 13 rfl rfl 6 (by decide) (hts _ kw_131) (fun _ h9 => h9) rfl dX1_copyFrom_59 ?_
  refine va_put (D := G) (ci := 1) (v := .int (σ7 13 6)) (ty := .int) (C := RX1) (T := TX1) (N := 8) hx hb hts inkX1 tyX1 tyX1_ok nmX1 hown hK hP (hD _) hS 6 rfl rfl 6 (by decide) (hts _ kw_131) (fun _ h9 => h9) rfl (by decide +kernel) rfl rfl (Nat.le_of_ble_eq_true rfl) dX1_copyFrom_62 (fun H locs hP _ hS => ?_)
  obtain ⟨σ8, eσ8⟩ : ∃ z : Sg, z = (s_up σ7 6 6 (σ7 13 6)) := ⟨_, rfl⟩
  replace hf := s_lt_at eσ8 hf
  replace hP : va_P G vwCl ((s_WC cy ad) σ8) H := by rw [eσ8]; exact hP
  refine lv_aload_n hx hb dX1_copyFrom_65 rfl (lv_at hl 0 rfl) ?_
  refine lv_aload_n hx hb dX1_copyFrom_66 rfl (lv_at hl 1 rfl) ?_
  refine va_get (D := G) (ci := 1) (v := .int (σ8 13 7)) (C := RX1) (T := TX1) (N := 8) hx hb hts inkX1 hown hK hP 13 rfl rfl 7 (by decide) (hts _ kw_135) (fun _ h9 => h9) rfl dX1_copyFrom_67 ?_
  refine va_put (D := G) (ci := 1) (v := .int (σ8 13 7)) (ty := .int) (C := RX1) (T := TX1) (N := 8) hx hb hts inkX1 tyX1 tyX1_ok nmX1 hown hK hP (hD _) hS 6 rfl rfl 7 (by decide) (hts _ kw_135) (fun _ h9 => h9) rfl (by decide +kernel) rfl rfl (Nat.le_of_ble_eq_true rfl) dX1_copyFrom_70 (fun H locs hP _ hS => ?_)
  obtain ⟨σ9, eσ9⟩ : ∃ z : Sg, z = (s_up σ8 6 7 (σ8 13 7)) := ⟨_, rfl⟩
  replace hf := s_lt_at eσ9 hf
  replace hP : va_P G vwCl ((s_WC cy ad) σ9) H := by rw [eσ9]; exact hP
  have he2 := Option.some.inj hf
  exact W.vret hx hb hr (fun t ht hW => ⟨⟨(), rfl, trivial, s_fin (Wd := (s_WC cy ad)) ht he2 hP⟩, hS.F ht⟩) hS.2.2 dX1_copyFrom_73 hlk
theorem kcX1_copyFrom_6_13 {l : Launch} {G : va_G} {cy : Nat → ClassId} {sa : Nat × Nat} {ad : Nat → Nat}  {sz : Nat} (hI : s_inj ad 27) (σ : Sg) {σe : Sg} (hf : fX1_copyFrom_6_13 σ = some σe) : Met l yX1_copyFrom (kW yX1_copyFrom cX1_copyFrom 2 none) ({ frames := 1, cells := 0, slots := 0, locals := 60 } : Room) (s_P (s_WC cy ad) G cy sa ad 27 [.ref (ad 6), .ref (ad 13)] sz σ) (s_Qv (s_WC cy ad) G (s_A ad 27 sz) σe) 0 0 (s_A ad 27 sz) := by
  refine s_met (own := RX1) (by decide) rfl hI (Nat.le_of_ble_eq_true rfl) (fun p e s m below meth c ls hsz C hP hl => ?_)
  subst hsz
  exact kX1_copyFrom_6_13 C σ ls _ _ hl hP va_S.rf hf
set_option maxRecDepth 100000 in
set_option maxHeartbeats 4000000 in
theorem kX1_copyFrom_6_15 (C : s_X p s m meth c args cX1_copyFrom none 2 RX1 G cy sa ad 27) (σ : Sg) (ls : Array Slot) (H : Heap) (locs : List Loc) (hl : lv_has ls 2 [(0, .ref (ad 6)), (1, .ref (ad 15))]) (hP : va_P G vwCl ((s_WC cy ad) σ) H) (hS : va_S (s_A ad 27 s.heap.size) s.heap H locs) (hf : fX1_copyFrom_6_15 σ = some σe) : W p l e ({ frames := 1, cells := 0, slots := 0, locals := 60 } : Room) s m args below meth c H locs 0 0 (MQ below (s_Qv (s_WC cy ad) G (s_A ad 27 s.heap.size) σe) args s 0 0 (s_A ad 27 s.heap.size)) (F0 m 0 ls []) := by
  obtain ⟨hx, hb, hr, hml, hown, hts, hlk, hK, hE, hI⟩ := id C
  have hD : ∀ σ : Sg, va_D (s_A ad 27 s.heap.size) ((s_WC cy ad) σ) := fun σ => s_D (s_WC_ad cy ad σ) hI (fun k hk => Or.inl ⟨k, hk, rfl⟩)
  unfold fX1_copyFrom_6_15 at hf
  refine lv_aload_n hx hb dX1_copyFrom_0 rfl (lv_at hl 1 rfl) ?_
  refine va_get (D := G) (ci := 1) (v := .ref (ad 16)) (C := RX1) (T := TX1) (N := 8) hx hb hts inkX1 hown hK hP 15 rfl rfl 0 (by decide) (hts _ kw_111) (fun _ h9 => h9) rfl dX1_copyFrom_1 ?_
  refine lv_iconst (v := 0) hx hb dX1_copyFrom_4 (by decide) ?_
  refine lv_aload_n hx hb dX1_copyFrom_5 rfl (lv_at hl 0 rfl) ?_
  refine va_get (D := G) (ci := 1) (v := .ref (ad 7)) (C := RX1) (T := TX1) (N := 8) hx hb hts inkX1 hown hK hP 6 rfl rfl 0 (by decide) (hts _ kw_111) (fun _ h9 => h9) rfl dX1_copyFrom_6 ?_
  refine lv_iconst (v := 0) hx hb dX1_copyFrom_9 (by decide) ?_
  refine lv_aload_n hx hb dX1_copyFrom_10 rfl (lv_at hl 1 rfl) ?_
  refine va_get (D := G) (ci := 1) (v := .int (σ 15 1)) (C := RX1) (T := TX1) (N := 8) hx hb hts inkX1 hown hK hP 15 rfl rfl 1 (by decide) (hts _ kw_112) (fun _ h9 => h9) rfl dX1_copyFrom_11 ?_
  replace hf := s_gd_some hf
  obtain ⟨g2, hf⟩ := hf
  obtain ⟨g2a, g2b, g2c, g2d, g2e⟩ := s_cpok_of g2
  refine va_copyi hx hb (hml.trans hl.1.symm) hown (hts _ kw_440) (hts _ kw_442) (hts _ kw_441) (hts _ kw_70) hK hP (hD _) hS 16 7 1 1 rfl rfl rfl rfl rfl g2a g2b g2c g2d g2e (fun _ _ => rfl) (Nat.le_of_ble_eq_true rfl) (by decide +kernel) dX1_copyFrom_14 (fun H locs hP _ hS => ?_)
  obtain ⟨σ1, eσ1⟩ : ∃ z : Sg, z = (s_upr σ 7 (va_cpy (σ 16) (σ 7) (Int32.toNatClampNeg (0 : Int32)) (Int32.toNatClampNeg (0 : Int32)) (Int32.toNatClampNeg (σ 15 1)))) := ⟨_, rfl⟩
  replace hf := s_lt_at eσ1 hf
  replace hP : va_P G vwCl ((s_WC cy ad) σ1) H := by rw [eσ1]; exact hP
  refine lv_aload_n hx hb dX1_copyFrom_17 rfl (lv_at hl 0 rfl) ?_
  refine lv_aload_n hx hb dX1_copyFrom_18 rfl (lv_at hl 1 rfl) ?_
  refine va_get (D := G) (ci := 1) (v := .int (σ1 15 1)) (C := RX1) (T := TX1) (N := 8) hx hb hts inkX1 hown hK hP 15 rfl rfl 1 (by decide) (hts _ kw_112) (fun _ h9 => h9) rfl dX1_copyFrom_19 ?_
  refine va_put (D := G) (ci := 1) (v := .int (σ1 15 1)) (ty := .int) (C := RX1) (T := TX1) (N := 8) hx hb hts inkX1 tyX1 tyX1_ok nmX1 hown hK hP (hD _) hS 6 rfl rfl 1 (by decide) (hts _ kw_112) (fun _ h9 => h9) rfl (by decide +kernel) rfl rfl (Nat.le_of_ble_eq_true rfl) dX1_copyFrom_22 (fun H locs hP _ hS => ?_)
  obtain ⟨σ3, eσ3⟩ : ∃ z : Sg, z = (s_up σ1 6 1 (σ1 15 1)) := ⟨_, rfl⟩
  replace hf := s_lt_at eσ3 hf
  replace hP : va_P G vwCl ((s_WC cy ad) σ3) H := by rw [eσ3]; exact hP
  refine lv_aload_n hx hb dX1_copyFrom_25 rfl (lv_at hl 0 rfl) ?_
  refine lv_aload_n hx hb dX1_copyFrom_26 rfl (lv_at hl 1 rfl) ?_
  refine va_get (D := G) (ci := 1) (v := .int (σ3 15 2)) (C := RX1) (T := TX1) (N := 8) hx hb hts inkX1 hown hK hP 15 rfl rfl 2 (by decide) (hts _ kw_115) (fun _ h9 => h9) rfl dX1_copyFrom_27 ?_
  refine va_put (D := G) (ci := 1) (v := .int (σ3 15 2)) (ty := .int) (C := RX1) (T := TX1) (N := 8) hx hb hts inkX1 tyX1 tyX1_ok nmX1 hown hK hP (hD _) hS 6 rfl rfl 2 (by decide) (hts _ kw_115) (fun _ h9 => h9) rfl (by decide +kernel) rfl rfl (Nat.le_of_ble_eq_true rfl) dX1_copyFrom_30 (fun H locs hP _ hS => ?_)
  obtain ⟨σ4, eσ4⟩ : ∃ z : Sg, z = (s_up σ3 6 2 (σ3 15 2)) := ⟨_, rfl⟩
  replace hf := s_lt_at eσ4 hf
  replace hP : va_P G vwCl ((s_WC cy ad) σ4) H := by rw [eσ4]; exact hP
  refine lv_aload_n hx hb dX1_copyFrom_33 rfl (lv_at hl 0 rfl) ?_
  refine lv_aload_n hx hb dX1_copyFrom_34 rfl (lv_at hl 1 rfl) ?_
  refine va_get (D := G) (ci := 1) (v := .int (σ4 15 3)) (C := RX1) (T := TX1) (N := 8) hx hb hts inkX1 hown hK hP 15 rfl rfl 3 (by decide) (hts _ kw_119) (fun _ h9 => h9) rfl dX1_copyFrom_35 ?_
  refine va_put (D := G) (ci := 1) (v := .int (σ4 15 3)) (ty := .int) (C := RX1) (T := TX1) (N := 8) hx hb hts inkX1 tyX1 tyX1_ok nmX1 hown hK hP (hD _) hS 6 rfl rfl 3 (by decide) (hts _ kw_119) (fun _ h9 => h9) rfl (by decide +kernel) rfl rfl (Nat.le_of_ble_eq_true rfl) dX1_copyFrom_38 (fun H locs hP _ hS => ?_)
  obtain ⟨σ5, eσ5⟩ : ∃ z : Sg, z = (s_up σ4 6 3 (σ4 15 3)) := ⟨_, rfl⟩
  replace hf := s_lt_at eσ5 hf
  replace hP : va_P G vwCl ((s_WC cy ad) σ5) H := by rw [eσ5]; exact hP
  refine lv_aload_n hx hb dX1_copyFrom_41 rfl (lv_at hl 0 rfl) ?_
  refine lv_aload_n hx hb dX1_copyFrom_42 rfl (lv_at hl 1 rfl) ?_
  refine va_get (D := G) (ci := 1) (v := .int (σ5 15 4)) (C := RX1) (T := TX1) (N := 8) hx hb hts inkX1 hown hK hP 15 rfl rfl 4 (by decide) (hts _ kw_123) (fun _ h9 => h9) rfl dX1_copyFrom_43 ?_
  refine va_put (D := G) (ci := 1) (v := .int (σ5 15 4)) (ty := .int) (C := RX1) (T := TX1) (N := 8) hx hb hts inkX1 tyX1 tyX1_ok nmX1 hown hK hP (hD _) hS 6 rfl rfl 4 (by decide) (hts _ kw_123) (fun _ h9 => h9) rfl (by decide +kernel) rfl rfl (Nat.le_of_ble_eq_true rfl) dX1_copyFrom_46 (fun H locs hP _ hS => ?_)
  obtain ⟨σ6, eσ6⟩ : ∃ z : Sg, z = (s_up σ5 6 4 (σ5 15 4)) := ⟨_, rfl⟩
  replace hf := s_lt_at eσ6 hf
  replace hP : va_P G vwCl ((s_WC cy ad) σ6) H := by rw [eσ6]; exact hP
  refine lv_aload_n hx hb dX1_copyFrom_49 rfl (lv_at hl 0 rfl) ?_
  refine lv_aload_n hx hb dX1_copyFrom_50 rfl (lv_at hl 1 rfl) ?_
  refine va_get (D := G) (ci := 1) (v := .int (σ6 15 5)) (C := RX1) (T := TX1) (N := 8) hx hb hts inkX1 hown hK hP 15 rfl rfl 5 (by decide) (hts _ kw_127) (fun _ h9 => h9) rfl dX1_copyFrom_51 ?_
  refine va_put (D := G) (ci := 1) (v := .int (σ6 15 5)) (ty := .int) (C := RX1) (T := TX1) (N := 8) hx hb hts inkX1 tyX1 tyX1_ok nmX1 hown hK hP (hD _) hS 6 rfl rfl 5 (by decide) (hts _ kw_127) (fun _ h9 => h9) rfl (by decide +kernel) rfl rfl (Nat.le_of_ble_eq_true rfl) dX1_copyFrom_54 (fun H locs hP _ hS => ?_)
  obtain ⟨σ7, eσ7⟩ : ∃ z : Sg, z = (s_up σ6 6 5 (σ6 15 5)) := ⟨_, rfl⟩
  replace hf := s_lt_at eσ7 hf
  replace hP : va_P G vwCl ((s_WC cy ad) σ7) H := by rw [eσ7]; exact hP
  refine lv_aload_n hx hb dX1_copyFrom_57 rfl (lv_at hl 0 rfl) ?_
  refine lv_aload_n hx hb dX1_copyFrom_58 rfl (lv_at hl 1 rfl) ?_
  refine va_get (D := G) (ci := 1) (v := .int (σ7 15 6)) (C := RX1) (T := TX1) (N := 8) hx hb hts inkX1 hown hK hP 15 rfl rfl 6 (by decide) (hts _ kw_131) (fun _ h9 => h9) rfl dX1_copyFrom_59 ?_
  refine va_put (D := G) (ci := 1) (v := .int (σ7 15 6)) (ty := .int) (C := RX1) (T := TX1) (N := 8) hx hb hts inkX1 tyX1 tyX1_ok nmX1 hown hK hP (hD _) hS 6 rfl rfl 6 (by decide) (hts _ kw_131) (fun _ h9 => h9) rfl (by decide +kernel) rfl rfl (Nat.le_of_ble_eq_true rfl) dX1_copyFrom_62 (fun H locs hP _ hS => ?_)
  obtain ⟨σ8, eσ8⟩ : ∃ z : Sg, z = (s_up σ7 6 6 (σ7 15 6)) := ⟨_, rfl⟩
  replace hf := s_lt_at eσ8 hf
  replace hP : va_P G vwCl ((s_WC cy ad) σ8) H := by rw [eσ8]; exact hP
  refine lv_aload_n hx hb dX1_copyFrom_65 rfl (lv_at hl 0 rfl) ?_
  refine lv_aload_n hx hb dX1_copyFrom_66 rfl (lv_at hl 1 rfl) ?_
  refine va_get (D := G) (ci := 1) (v := .int (σ8 15 7)) (C := RX1) (T := TX1) (N := 8) hx hb hts inkX1 hown hK hP 15 rfl rfl 7 (by decide) (hts _ kw_135) (fun _ h9 => h9) rfl dX1_copyFrom_67 ?_
  refine va_put (D := G) (ci := 1) (v := .int (σ8 15 7)) (ty := .int) (C := RX1) (T := TX1) (N := 8) hx hb hts inkX1 tyX1 tyX1_ok nmX1 hown hK hP (hD _) hS 6 rfl rfl 7 (by decide) (hts _ kw_135) (fun _ h9 => h9) rfl (by decide +kernel) rfl rfl (Nat.le_of_ble_eq_true rfl) dX1_copyFrom_70 (fun H locs hP _ hS => ?_)
  obtain ⟨σ9, eσ9⟩ : ∃ z : Sg, z = (s_up σ8 6 7 (σ8 15 7)) := ⟨_, rfl⟩
  replace hf := s_lt_at eσ9 hf
  replace hP : va_P G vwCl ((s_WC cy ad) σ9) H := by rw [eσ9]; exact hP
  have he2 := Option.some.inj hf
  exact W.vret hx hb hr (fun t ht hW => ⟨⟨(), rfl, trivial, s_fin (Wd := (s_WC cy ad)) ht he2 hP⟩, hS.F ht⟩) hS.2.2 dX1_copyFrom_73 hlk
theorem kcX1_copyFrom_6_15 {l : Launch} {G : va_G} {cy : Nat → ClassId} {sa : Nat × Nat} {ad : Nat → Nat}  {sz : Nat} (hI : s_inj ad 27) (σ : Sg) {σe : Sg} (hf : fX1_copyFrom_6_15 σ = some σe) : Met l yX1_copyFrom (kW yX1_copyFrom cX1_copyFrom 2 none) ({ frames := 1, cells := 0, slots := 0, locals := 60 } : Room) (s_P (s_WC cy ad) G cy sa ad 27 [.ref (ad 6), .ref (ad 15)] sz σ) (s_Qv (s_WC cy ad) G (s_A ad 27 sz) σe) 0 0 (s_A ad 27 sz) := by
  refine s_met (own := RX1) (by decide) rfl hI (Nat.le_of_ble_eq_true rfl) (fun p e s m below meth c ls hsz C hP hl => ?_)
  subst hsz
  exact kX1_copyFrom_6_15 C σ ls _ _ hl hP va_S.rf hf
set_option maxRecDepth 100000 in
set_option maxHeartbeats 4000000 in
theorem kX6_back (C : s_X p s m meth c args cX6_back (some .int) 2 RX6 G cy sa ad 27) (σ : Sg) (x1 : Int32) (ls : Array Slot) (H : Heap) (locs : List Loc) (hl : lv_has ls 2 [(0, .ref (ad 0)), (1, .int x1)]) (hP : va_P G vwCl ((s_WC cy ad) σ) H) (hS : va_S (s_A ad 27 s.heap.size) s.heap H locs) (hf : fX6_back σ x1 = some (re, σe)) : W p l e ({ frames := 2, cells := 0, slots := 0, locals := 81 } : Room) s m args below meth c H locs 0 0 (MQ below (s_Qi (s_WC cy ad) G (s_A ad 27 s.heap.size) re σe) args s 0 0 (s_A ad 27 s.heap.size)) (F0 m 0 ls []) := by
  obtain ⟨hx, hb, hr, hml, hown, hts, hlk, hK, hE, hI⟩ := id C
  have hD : ∀ σ : Sg, va_D (s_A ad 27 s.heap.size) ((s_WC cy ad) σ) := fun σ => s_D (s_WC_ad cy ad σ) hI (fun k hk => Or.inl ⟨k, hk, rfl⟩)
  unfold fX6_back at hf
  refine lv_aload_n hx hb dX6_back_0 rfl (lv_at hl 0 rfl) ?_
  refine lv_iload_n hx hb dX6_back_1 rfl (lv_at hl 1 rfl) ?_
  replace hf := s_bi_some hf
  obtain ⟨r3, σ1, hz2, hf⟩ := hf
  refine s_calli (nn := 1) C (kcX6_isImage (l := l) (G := G) (cy := cy) (sa := sa) hI (sz := H.size) σ x1 hz2) gk_X6_220 rfl rfl (by decide +kernel) ⟨Nat.le_of_ble_eq_true rfl, Nat.le_of_ble_eq_true rfl⟩ hP hS (q0 := 0) (ci := 6) rfl rfl rfl (As := [.int x1]) (rest := []) rfl rfl hl.1 (Nat.le_of_ble_eq_true rfl) dX6_back_2 (fun H locs hP hS => ?_)
  refine lv_if_ne (tgt := 10) hx hb dX6_back_5 (by decide) (fun c4 => ?_) (fun c4 => ?_)
  · rw [if_neg c4] at hf
    refine lv_aload_n hx hb dX6_back_10 rfl (lv_at hl 0 rfl) ?_
    refine va_get (D := G) (ci := 6) (v := .ref (ad 17)) (C := RX6) (T := TX6) (N := 9) hx hb hts inkX6 hown hK hP 0 rfl rfl 6 (by decide) (hts _ kw_256) (fun _ h9 => h9) rfl dX6_back_11 ?_
    refine lv_iload_n hx hb dX6_back_14 rfl (lv_at hl 1 rfl) ?_
    replace hf := s_gd_some hf
    obtain ⟨g5, hf⟩ := hf
    refine va_zald hx hb hK hP 17 2 rfl rfl (s_in_of g5) dX6_back_15 ?_
    refine lv_if_ne (tgt := 22) hx hb dX6_back_16 (by decide) (fun c6 => ?_) (fun c6 => ?_)
    · rw [if_neg c6] at hf
      refine lv_aload_n hx hb dX6_back_22 rfl (lv_at hl 0 rfl) ?_
      refine va_get (D := G) (ci := 6) (v := .ref (ad 6)) (C := RX6) (T := TX6) (N := 9) hx hb hts inkX6 hown hK hP 0 rfl rfl 2 (by decide) (hts _ kw_252) (fun _ h9 => h9) rfl dX6_back_23 ?_
      refine lv_aload_n hx hb dX6_back_26 rfl (lv_at hl 0 rfl) ?_
      refine va_get (D := G) (ci := 6) (v := .ref (ad 12)) (C := RX6) (T := TX6) (N := 9) hx hb hts inkX6 hown hK hP 0 rfl rfl 5 (by decide) (hts _ kw_255) (fun _ h9 => h9) rfl dX6_back_27 ?_
      refine lv_iload_n hx hb dX6_back_30 rfl (lv_at hl 1 rfl) ?_
      by_cases c7 : x1 = 0
      · rw [if_pos c7] at hf
        refine va_aldq hx hb hK hP 12 3 rfl rfl (by rw [c7]; unfold vp_in; decide) dX6_back_31 ?_
        refine W.eq (g2 := F0 m 32 ls [.ref (ad 13), .ref (ad 6)]) (by rw [c7]; rfl) ?_
        replace hf := s_bv_some hf
        obtain ⟨σ8, hz9, hf⟩ := hf
        refine s_callv (nn := 1) C (kcX1_copyFrom_6_13 (l := l) (G := G) (cy := cy) (sa := sa) hI (sz := H.size) σ1 hz9) gk_X6_86 rfl rfl (by decide +kernel) ⟨Nat.le_of_ble_eq_true rfl, Nat.le_of_ble_eq_true rfl⟩ hP hS (q0 := 6) (ci := 1) rfl rfl rfl (As := [.ref (ad 13)]) (rest := []) rfl rfl hl.1 (Nat.le_of_ble_eq_true rfl) dX6_back_32 (fun H locs hP hS => ?_)
        refine lv_aload_n hx hb dX6_back_35 rfl (lv_at hl 0 rfl) ?_
        refine va_get (D := G) (ci := 6) (v := .ref (ad 6)) (C := RX6) (T := TX6) (N := 9) hx hb hts inkX6 hown hK hP 0 rfl rfl 2 (by decide) (hts _ kw_252) (fun _ h9 => h9) rfl dX6_back_36 ?_
        refine va_getN (D := G) (ci := 1) (v := .int (σ8 6 1)) (C := RX1) (T := TX1) (N := 8) hx hb hts inkX1 hown hK hP 6 rfl rfl 1 (by decide) (kn_X6_89 hE) (fun _ h9 => h9) rfl dX6_back_39 ?_
        obtain ⟨he1, he2⟩ := s_ret hf
        exact W.iret hx hb hr (fun t ht hW => ⟨⟨_, (), rfl, he1, s_fin (Wd := (s_WC cy ad)) ht he2 hP⟩, hS.F ht⟩) hS.2.2 dX6_back_42 hlk
      · rw [if_neg c7] at hf
        by_cases c10 : x1 = 1
        · rw [if_pos c10] at hf
          refine va_aldq hx hb hK hP 12 3 rfl rfl (by rw [c10]; unfold vp_in; decide) dX6_back_31 ?_
          refine W.eq (g2 := F0 m 32 ls [.ref (ad 15), .ref (ad 6)]) (by rw [c10]; rfl) ?_
          replace hf := s_bv_some hf
          obtain ⟨σ11, hz12, hf⟩ := hf
          refine s_callv (nn := 1) C (kcX1_copyFrom_6_15 (l := l) (G := G) (cy := cy) (sa := sa) hI (sz := H.size) σ1 hz12) gk_X6_86 rfl rfl (by decide +kernel) ⟨Nat.le_of_ble_eq_true rfl, Nat.le_of_ble_eq_true rfl⟩ hP hS (q0 := 6) (ci := 1) rfl rfl rfl (As := [.ref (ad 15)]) (rest := []) rfl rfl hl.1 (Nat.le_of_ble_eq_true rfl) dX6_back_32 (fun H locs hP hS => ?_)
          refine lv_aload_n hx hb dX6_back_35 rfl (lv_at hl 0 rfl) ?_
          refine va_get (D := G) (ci := 6) (v := .ref (ad 6)) (C := RX6) (T := TX6) (N := 9) hx hb hts inkX6 hown hK hP 0 rfl rfl 2 (by decide) (hts _ kw_252) (fun _ h9 => h9) rfl dX6_back_36 ?_
          refine va_getN (D := G) (ci := 1) (v := .int (σ11 6 1)) (C := RX1) (T := TX1) (N := 8) hx hb hts inkX1 hown hK hP 6 rfl rfl 1 (by decide) (kn_X6_89 hE) (fun _ h9 => h9) rfl dX6_back_39 ?_
          obtain ⟨he1, he2⟩ := s_ret hf
          exact W.iret hx hb hr (fun t ht hW => ⟨⟨_, (), rfl, he1, s_fin (Wd := (s_WC cy ad)) ht he2 hP⟩, hS.F ht⟩) hS.2.2 dX6_back_42 hlk
        · rw [if_neg c10] at hf
          cases hf
    · rw [if_pos c6] at hf
      refine lv_bipush (v := -2) hx hb dX6_back_19 (by decide) ?_
      obtain ⟨he1, he2⟩ := s_ret hf
      exact W.iret hx hb hr (fun t ht hW => ⟨⟨_, (), rfl, he1, s_fin (Wd := (s_WC cy ad)) ht he2 hP⟩, hS.F ht⟩) hS.2.2 dX6_back_21 hlk
  · rw [if_pos c4] at hf
    refine lv_iconst (v := -1) hx hb dX6_back_8 (by decide) ?_
    obtain ⟨he1, he2⟩ := s_ret hf
    exact W.iret hx hb hr (fun t ht hW => ⟨⟨_, (), rfl, he1, s_fin (Wd := (s_WC cy ad)) ht he2 hP⟩, hS.F ht⟩) hS.2.2 dX6_back_9 hlk
theorem kcX6_back {l : Launch} {G : va_G} {cy : Nat → ClassId} {sa : Nat × Nat} {ad : Nat → Nat}  {sz : Nat} (hI : s_inj ad 27) (σ : Sg) (x1 : Int32) {re : Int32} {σe : Sg} (hf : fX6_back σ x1 = some (re, σe)) : Met l yX6_back (kW yX6_back cX6_back 2 (some .int)) ({ frames := 2, cells := 0, slots := 0, locals := 81 } : Room) (s_P (s_WC cy ad) G cy sa ad 27 [.ref (ad 0), .int x1] sz σ) (s_Qi (s_WC cy ad) G (s_A ad 27 sz) re σe) 0 0 (s_A ad 27 sz) := by
  refine s_met (own := RX6) (by decide) rfl hI (Nat.le_of_ble_eq_true rfl) (fun p e s m below meth c ls hsz C hP hl => ?_)
  subst hsz
  exact kX6_back C σ x1 ls _ _ hl hP va_S.rf hf
set_option maxRecDepth 100000 in
set_option maxHeartbeats 4000000 in
theorem kX6_isSheet_b17 (C : s_X p s m meth c args cX6_isSheet (some .boolean) 2 RX6 G cy sa ad 27) (σ : Sg) (ls : Array Slot) (H : Heap) (locs : List Loc) (hl : lv_has ls 2 []) (hP : va_P G vwCl ((s_WC cy ad) σ) H) (hS : va_S (s_A ad 27 s.heap.size) s.heap H locs) (hf : fX6_isSheet_b17 σ = some (re, σe)) : W p l e ({ frames := 0, cells := 0, slots := 0, locals := 0 } : Room) s m args below meth c H locs 0 0 (MQ below (s_Qi (s_WC cy ad) G (s_A ad 27 s.heap.size) re σe) args s 0 0 (s_A ad 27 s.heap.size)) (F0 m 17 ls []) := by
  obtain ⟨hx, hb, hr, hml, hown, hts, hlk, hK, hE, hI⟩ := id C
  have hD : ∀ σ : Sg, va_D (s_A ad 27 s.heap.size) ((s_WC cy ad) σ) := fun σ => s_D (s_WC_ad cy ad σ) hI (fun k hk => Or.inl ⟨k, hk, rfl⟩)
  unfold fX6_isSheet_b17 at hf
  refine lv_iconst (v := 0) hx hb dX6_isSheet_17 (by decide) ?_
  obtain ⟨he1, he2⟩ := s_ret hf
  exact W.zret hx hb hr rfl (fun t ht hW => ⟨⟨_, (), rfl, he1, s_fin (Wd := (s_WC cy ad)) ht he2 hP⟩, hS.F ht⟩) hS.2.2 dX6_isSheet_18 hlk
set_option maxRecDepth 100000 in
set_option maxHeartbeats 4000000 in
theorem kX6_isSheet (C : s_X p s m meth c args cX6_isSheet (some .boolean) 2 RX6 G cy sa ad 27) (σ : Sg) (x1 : Int32) (ls : Array Slot) (H : Heap) (locs : List Loc) (hl : lv_has ls 2 [(0, .ref (ad 0)), (1, .int x1)]) (hP : va_P G vwCl ((s_WC cy ad) σ) H) (hS : va_S (s_A ad 27 s.heap.size) s.heap H locs) (hf : fX6_isSheet σ x1 = some (re, σe)) : W p l e ({ frames := 0, cells := 0, slots := 0, locals := 0 } : Room) s m args below meth c H locs 0 0 (MQ below (s_Qi (s_WC cy ad) G (s_A ad 27 s.heap.size) re σe) args s 0 0 (s_A ad 27 s.heap.size)) (F0 m 0 ls []) := by
  obtain ⟨hx, hb, hr, hml, hown, hts, hlk, hK, hE, hI⟩ := id C
  have hD : ∀ σ : Sg, va_D (s_A ad 27 s.heap.size) ((s_WC cy ad) σ) := fun σ => s_D (s_WC_ad cy ad σ) hI (fun k hk => Or.inl ⟨k, hk, rfl⟩)
  unfold fX6_isSheet at hf
  refine lv_iload_n hx hb dX6_isSheet_0 rfl (lv_at hl 1 rfl) ?_
  refine lv_if_lt (tgt := 17) hx hb dX6_isSheet_1 (by decide) (fun c1 => ?_) (fun c1 => ?_)
  · rw [if_pos c1] at hf
    exact kX6_isSheet_b17 C σ _ _ _ (lv_sub hl [] rfl) hP hS hf
  · rw [if_neg c1] at hf
    refine lv_iload_n hx hb dX6_isSheet_4 rfl (lv_at hl 1 rfl) ?_
    refine lv_aload_n hx hb dX6_isSheet_5 rfl (lv_at hl 0 rfl) ?_
    refine va_get (D := G) (ci := 6) (v := .ref (ad 18)) (C := RX6) (T := TX6) (N := 9) hx hb hts inkX6 hown hK hP 0 rfl rfl 7 (by decide) (hts _ kw_257) (fun _ h9 => h9) rfl dX6_isSheet_6 ?_
    refine va_alen (v := (4 : Int32)) hx hb hK hP 18 4 rfl rfl (by show Int32.ofNat 4 = 4; decide) dX6_isSheet_9 ?_
    refine lv_icmp_ge (tgt := 17) hx hb dX6_isSheet_10 (by decide) (fun c2 => ?_) (fun c2 => ?_)
    · rw [if_pos c2] at hf
      exact kX6_isSheet_b17 C σ _ _ _ (lv_sub hl [] rfl) hP hS hf
    · rw [if_neg c2] at hf
      refine lv_iconst (v := 1) hx hb dX6_isSheet_13 (by decide) ?_
      refine lv_goto (tgt := 18) hx hb dX6_isSheet_14 (by decide) ?_
      obtain ⟨he1, he2⟩ := s_ret hf
      exact W.zret hx hb hr rfl (fun t ht hW => ⟨⟨_, (), rfl, he1, s_fin (Wd := (s_WC cy ad)) ht he2 hP⟩, hS.F ht⟩) hS.2.2 dX6_isSheet_18 hlk
theorem kcX6_isSheet {l : Launch} {G : va_G} {cy : Nat → ClassId} {sa : Nat × Nat} {ad : Nat → Nat}  {sz : Nat} (hI : s_inj ad 27) (σ : Sg) (x1 : Int32) {re : Int32} {σe : Sg} (hf : fX6_isSheet σ x1 = some (re, σe)) : Met l yX6_isSheet (kW yX6_isSheet cX6_isSheet 2 (some .boolean)) ({ frames := 0, cells := 0, slots := 0, locals := 0 } : Room) (s_P (s_WC cy ad) G cy sa ad 27 [.ref (ad 0), .int x1] sz σ) (s_Qi (s_WC cy ad) G (s_A ad 27 sz) re σe) 0 0 (s_A ad 27 sz) := by
  refine s_met (own := RX6) (by decide) rfl hI (Nat.le_of_ble_eq_true rfl) (fun p e s m below meth c ls hsz C hP hl => ?_)
  subst hsz
  exact kX6_isSheet C σ x1 ls _ _ hl hP va_S.rf hf
set_option maxRecDepth 100000 in
set_option maxHeartbeats 4000000 in
theorem kX6_isLane_b13 (C : s_X p s m meth c args cX6_isLane (some .boolean) 1 RX6 G cy sa ad 27) (σ : Sg) (ls : Array Slot) (H : Heap) (locs : List Loc) (hl : lv_has ls 1 []) (hP : va_P G vwCl ((s_WC cy ad) σ) H) (hS : va_S (s_A ad 27 s.heap.size) s.heap H locs) (hf : fX6_isLane_b13 σ = some (re, σe)) : W p l e ({ frames := 0, cells := 0, slots := 0, locals := 0 } : Room) s m args below meth c H locs 0 0 (MQ below (s_Qi (s_WC cy ad) G (s_A ad 27 s.heap.size) re σe) args s 0 0 (s_A ad 27 s.heap.size)) (F0 m 13 ls []) := by
  obtain ⟨hx, hb, hr, hml, hown, hts, hlk, hK, hE, hI⟩ := id C
  have hD : ∀ σ : Sg, va_D (s_A ad 27 s.heap.size) ((s_WC cy ad) σ) := fun σ => s_D (s_WC_ad cy ad σ) hI (fun k hk => Or.inl ⟨k, hk, rfl⟩)
  unfold fX6_isLane_b13 at hf
  refine lv_iconst (v := 0) hx hb dX6_isLane_13 (by decide) ?_
  obtain ⟨he1, he2⟩ := s_ret hf
  exact W.zret hx hb hr rfl (fun t ht hW => ⟨⟨_, (), rfl, he1, s_fin (Wd := (s_WC cy ad)) ht he2 hP⟩, hS.F ht⟩) hS.2.2 dX6_isLane_14 hlk
set_option maxRecDepth 100000 in
set_option maxHeartbeats 4000000 in
theorem kX6_isLane (C : s_X p s m meth c args cX6_isLane (some .boolean) 1 RX6 G cy sa ad 27) (σ : Sg) (x0 : Int32) (ls : Array Slot) (H : Heap) (locs : List Loc) (hl : lv_has ls 1 [(0, .int x0)]) (hP : va_P G vwCl ((s_WC cy ad) σ) H) (hS : va_S (s_A ad 27 s.heap.size) s.heap H locs) (hf : fX6_isLane σ x0 = some (re, σe)) : W p l e ({ frames := 0, cells := 0, slots := 0, locals := 0 } : Room) s m args below meth c H locs 0 0 (MQ below (s_Qi (s_WC cy ad) G (s_A ad 27 s.heap.size) re σe) args s 0 0 (s_A ad 27 s.heap.size)) (F0 m 0 ls []) := by
  obtain ⟨hx, hb, hr, hml, hown, hts, hlk, hK, hE, hI⟩ := id C
  have hD : ∀ σ : Sg, va_D (s_A ad 27 s.heap.size) ((s_WC cy ad) σ) := fun σ => s_D (s_WC_ad cy ad σ) hI (fun k hk => Or.inl ⟨k, hk, rfl⟩)
  unfold fX6_isLane at hf
  refine lv_iload_n hx hb dX6_isLane_0 rfl (lv_at hl 0 rfl) ?_
  refine lv_if_lt (tgt := 13) hx hb dX6_isLane_1 (by decide) (fun c1 => ?_) (fun c1 => ?_)
  · rw [if_pos c1] at hf
    exact kX6_isLane_b13 C σ _ _ _ (lv_sub hl [] rfl) hP hS hf
  · rw [if_neg c1] at hf
    refine lv_iload_n hx hb dX6_isLane_4 rfl (lv_at hl 0 rfl) ?_
    refine lv_iconst (v := 2) hx hb dX6_isLane_5 (by decide) ?_
    refine lv_icmp_gt (tgt := 13) hx hb dX6_isLane_6 (by decide) (fun c2 => ?_) (fun c2 => ?_)
    · rw [if_pos c2] at hf
      exact kX6_isLane_b13 C σ _ _ _ (lv_sub hl [] rfl) hP hS hf
    · rw [if_neg c2] at hf
      refine lv_iconst (v := 1) hx hb dX6_isLane_9 (by decide) ?_
      refine lv_goto (tgt := 14) hx hb dX6_isLane_10 (by decide) ?_
      obtain ⟨he1, he2⟩ := s_ret hf
      exact W.zret hx hb hr rfl (fun t ht hW => ⟨⟨_, (), rfl, he1, s_fin (Wd := (s_WC cy ad)) ht he2 hP⟩, hS.F ht⟩) hS.2.2 dX6_isLane_14 hlk
theorem kcX6_isLane {l : Launch} {G : va_G} {cy : Nat → ClassId} {sa : Nat × Nat} {ad : Nat → Nat}  {sz : Nat} (hI : s_inj ad 27) (σ : Sg) (x0 : Int32) {re : Int32} {σe : Sg} (hf : fX6_isLane σ x0 = some (re, σe)) : Met l yX6_isLane (kW yX6_isLane cX6_isLane 1 (some .boolean)) ({ frames := 0, cells := 0, slots := 0, locals := 0 } : Room) (s_P (s_WC cy ad) G cy sa ad 27 [.int x0] sz σ) (s_Qi (s_WC cy ad) G (s_A ad 27 sz) re σe) 0 0 (s_A ad 27 sz) := by
  refine s_met (own := RX6) (by decide) rfl hI (Nat.le_of_ble_eq_true rfl) (fun p e s m below meth c ls hsz C hP hl => ?_)
  subst hsz
  exact kX6_isLane C σ x0 ls _ _ hl hP va_S.rf hf
end
