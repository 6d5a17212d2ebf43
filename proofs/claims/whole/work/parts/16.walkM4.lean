section
variable {p : Program} {l : Launch} {e : Env} {s : State} {m : MethodId} {below : List Frame} {meth : Method} {c : Code} {G : va_G} {cy : Nat → ClassId} {sa : Nat × Nat} {ad : Nat → Nat} {args : Array Value} {re : Int32} {σe : Sg}
set_option maxRecDepth 100000 in
set_option maxHeartbeats 4000000 in
theorem kX7_isReading (C : s_X p s m meth c args cX7_isReading (some .boolean) 1 RX7 G cy sa ad 12) (σ : Sg) (x0 : Int32) (ls : Array Slot) (H : Heap) (locs : List Loc) (hl : lv_has ls 1 [(0, .int x0)]) (hP : va_P G vwCl ((s_WM cy ad) σ) H) (hS : va_S (s_A ad 12 s.heap.size) s.heap H locs) (hf : fX7_isReading σ x0 = some (re, σe)) : W p l e ({ frames := 1, cells := 0, slots := 0, locals := 25 } : Room) s m args below meth c H locs 0 0 (MQ below (s_Qi (s_WM cy ad) G (s_A ad 12 s.heap.size) re σe) args s 0 0 (s_A ad 12 s.heap.size)) (F0 m 0 ls []) := by
  obtain ⟨hx, hb, hr, hml, hown, hts, hlk, hK, hE, hI⟩ := id C
  have hD : ∀ σ : Sg, va_D (s_A ad 12 s.heap.size) ((s_WM cy ad) σ) := fun σ => s_D (s_WM_ad cy ad σ) hI (fun k hk => Or.inl ⟨k, hk, rfl⟩)
  unfold fX7_isReading at hf
  refine lv_iload_n hx hb dX7_isReading_0 rfl (lv_at hl 0 rfl) ?_
  refine lv_i2l (v := (Int32.toInt64 x0)) hx hb dX7_isReading_1 rfl ?_
  refine lv_ldc2 (v := -999999) hx hb hown (hts _ kw_1062) dX7_isReading_2 ?_
  refine lv_ldc2 (v := 999999) hx hb hown (hts _ kw_1063) dX7_isReading_5 ?_
  replace hf := s_bi_some hf
  obtain ⟨r3, σ1, hz2, hf⟩ := hf
  refine s_calliS (nn := 3) C (kcX7_in (l := l) (G := G) (cy := cy) (sa := sa) hI (sz := H.size) σ (Int32.toInt64 x0) (-999999 : Int64) (999999 : Int64) hz2) gk_X7_54 rfl rfl (by decide +kernel) ⟨Nat.le_of_ble_eq_true rfl, Nat.le_of_ble_eq_true rfl⟩ hP hS (As := [.long (Int32.toInt64 x0), .long (-999999 : Int64), .long (999999 : Int64)]) (rest := []) rfl rfl hl.1 (Nat.le_of_ble_eq_true rfl) dX7_isReading_8 (fun H locs hP hS => ?_)
  replace hf := s_gd_some hf
  obtain ⟨g4, hf⟩ := hf
  obtain ⟨he1, he2⟩ := s_ret hf
  exact W.zret hx hb hr (s_z_nar g4) (fun t ht hW => ⟨⟨_, (), rfl, he1, s_fin (Wd := (s_WM cy ad)) ht he2 hP⟩, hS.F ht⟩) hS.2.2 dX7_isReading_11 hlk
theorem kcX7_isReading {l : Launch} {G : va_G} {cy : Nat → ClassId} {sa : Nat × Nat} {ad : Nat → Nat}  {sz : Nat} (hI : s_inj ad 12) (σ : Sg) (x0 : Int32) {re : Int32} {σe : Sg} (hf : fX7_isReading σ x0 = some (re, σe)) : Met l yX7_isReading (kW yX7_isReading cX7_isReading 1 (some .boolean)) ({ frames := 1, cells := 0, slots := 0, locals := 25 } : Room) (s_P (s_WM cy ad) G cy sa ad 12 [.int x0] sz σ) (s_Qi (s_WM cy ad) G (s_A ad 12 sz) re σe) 0 0 (s_A ad 12 sz) := by
  refine s_met (own := RX7) (by decide) rfl hI (Nat.le_of_ble_eq_true rfl) (fun p e s m below meth c ls hsz C hP hl => ?_)
  subst hsz
  exact kX7_isReading C σ x0 ls _ _ hl hP va_S.rf hf
set_option maxRecDepth 100000 in
set_option maxHeartbeats 4000000 in
theorem kX7_add (C : s_X p s m meth c args cX7_add (some .int) 2 RX7 G cy sa ad 12) (σ : Sg) (x1 : Int32) (ls : Array Slot) (H : Heap) (locs : List Loc) (hl : lv_has ls 2 [(0, .ref (ad 0)), (1, .int x1)]) (hP : va_P G vwCl ((s_WM cy ad) σ) H) (hS : va_S (s_A ad 12 s.heap.size) s.heap H locs) (hf : fX7_add σ x1 = some (re, σe)) : W p l e ({ frames := 2, cells := 0, slots := 0, locals := 45 } : Room) s m args below meth c H locs 0 0 (MQ below (s_Qi (s_WM cy ad) G (s_A ad 12 s.heap.size) re σe) args s 0 0 (s_A ad 12 s.heap.size)) (F0 m 0 ls []) := by
  obtain ⟨hx, hb, hr, hml, hown, hts, hlk, hK, hE, hI⟩ := id C
  have hD : ∀ σ : Sg, va_D (s_A ad 12 s.heap.size) ((s_WM cy ad) σ) := fun σ => s_D (s_WM_ad cy ad σ) hI (fun k hk => Or.inl ⟨k, hk, rfl⟩)
  unfold fX7_add at hf
  refine lv_aload_n hx hb dX7_add_0 rfl (lv_at hl 0 rfl) ?_
  replace hf := s_bv_some hf
  obtain ⟨σ1, hz2, hf⟩ := hf
  refine s_callv (nn := 0) C (kcX7_starts (l := l) (G := G) (cy := cy) (sa := sa) hI (sz := H.size) σ hz2) gk_X7_128 rfl rfl (by decide +kernel) ⟨Nat.le_of_ble_eq_true rfl, Nat.le_of_ble_eq_true rfl⟩ hP hS (q0 := 0) (ci := 7) rfl rfl rfl (As := []) (rest := []) rfl rfl hl.1 (Nat.le_of_ble_eq_true rfl) dX7_add_1 (fun H locs hP hS => ?_)
  refine lv_iload_n hx hb dX7_add_4 rfl (lv_at hl 1 rfl) ?_
  replace hf := s_bi_some hf
  obtain ⟨r5, σ3, hz4, hf⟩ := hf
  refine s_calliS (nn := 1) C (kcX7_isReading (l := l) (G := G) (cy := cy) (sa := sa) hI (sz := H.size) σ1 x1 hz4) gk_X7_216 rfl rfl (by decide +kernel) ⟨Nat.le_of_ble_eq_true rfl, Nat.le_of_ble_eq_true rfl⟩ hP hS (As := [.int x1]) (rest := []) rfl rfl hl.1 (Nat.le_of_ble_eq_true rfl) dX7_add_5 (fun H locs hP hS => ?_)
  refine lv_if_eq (tgt := 19) hx hb dX7_add_8 (by decide) (fun c6 => ?_) (fun c6 => ?_)
  · rw [if_pos c6] at hf
    refine lv_iconst (v := -1) hx hb dX7_add_19 (by decide) ?_
    obtain ⟨he1, he2⟩ := s_ret hf
    exact W.iret hx hb hr (fun t ht hW => ⟨⟨_, (), rfl, he1, s_fin (Wd := (s_WM cy ad)) ht he2 hP⟩, hS.F ht⟩) hS.2.2 dX7_add_20 hlk
  · rw [if_neg c6] at hf
    refine lv_aload_n hx hb dX7_add_11 rfl (lv_at hl 0 rfl) ?_
    refine lv_iload_n hx hb dX7_add_12 rfl (lv_at hl 1 rfl) ?_
    replace hf := s_bi_some hf
    obtain ⟨r9, σ7, hz8, hf⟩ := hf
    refine s_calli (nn := 1) C (kcX7_comes (l := l) (G := G) (cy := cy) (sa := sa) hI (sz := H.size) σ3 x1 hz8) gk_X7_219 rfl rfl (by decide +kernel) ⟨Nat.le_of_ble_eq_true rfl, Nat.le_of_ble_eq_true rfl⟩ hP hS (q0 := 0) (ci := 7) rfl rfl rfl (As := [.int x1]) (rest := []) rfl rfl hl.1 (Nat.le_of_ble_eq_true rfl) dX7_add_13 (fun H locs hP hS => ?_)
    refine lv_goto (tgt := 20) hx hb dX7_add_16 (by decide) ?_
    obtain ⟨he1, he2⟩ := s_ret hf
    exact W.iret hx hb hr (fun t ht hW => ⟨⟨_, (), rfl, he1, s_fin (Wd := (s_WM cy ad)) ht he2 hP⟩, hS.F ht⟩) hS.2.2 dX7_add_20 hlk
theorem kcX7_add {l : Launch} {G : va_G} {cy : Nat → ClassId} {sa : Nat × Nat} {ad : Nat → Nat}  {sz : Nat} (hI : s_inj ad 12) (σ : Sg) (x1 : Int32) {re : Int32} {σe : Sg} (hf : fX7_add σ x1 = some (re, σe)) : Met l yX7_add (kW yX7_add cX7_add 2 (some .int)) ({ frames := 2, cells := 0, slots := 0, locals := 45 } : Room) (s_P (s_WM cy ad) G cy sa ad 12 [.ref (ad 0), .int x1] sz σ) (s_Qi (s_WM cy ad) G (s_A ad 12 sz) re σe) 0 0 (s_A ad 12 sz) := by
  refine s_met (own := RX7) (by decide) rfl hI (Nat.le_of_ble_eq_true rfl) (fun p e s m below meth c ls hsz C hP hl => ?_)
  subst hsz
  exact kX7_add C σ x1 ls _ _ hl hP va_S.rf hf
set_option maxRecDepth 100000 in
set_option maxHeartbeats 4000000 in
theorem kX7_miss (C : s_X p s m meth c args cX7_miss (some .int) 1 RX7 G cy sa ad 12) (σ : Sg) (ls : Array Slot) (H : Heap) (locs : List Loc) (hl : lv_has ls 1 [(0, .ref (ad 0))]) (hP : va_P G vwCl ((s_WM cy ad) σ) H) (hS : va_S (s_A ad 12 s.heap.size) s.heap H locs) (hf : fX7_miss σ = some (re, σe)) : W p l e ({ frames := 2, cells := 0, slots := 0, locals := 41 } : Room) s m args below meth c H locs 0 0 (MQ below (s_Qi (s_WM cy ad) G (s_A ad 12 s.heap.size) re σe) args s 0 0 (s_A ad 12 s.heap.size)) (F0 m 0 ls []) := by
  obtain ⟨hx, hb, hr, hml, hown, hts, hlk, hK, hE, hI⟩ := id C
  have hD : ∀ σ : Sg, va_D (s_A ad 12 s.heap.size) ((s_WM cy ad) σ) := fun σ => s_D (s_WM_ad cy ad σ) hI (fun k hk => Or.inl ⟨k, hk, rfl⟩)
  unfold fX7_miss at hf
  refine lv_aload_n hx hb dX7_miss_0 rfl (lv_at hl 0 rfl) ?_
  replace hf := s_bv_some hf
  obtain ⟨σ1, hz2, hf⟩ := hf
  refine s_callv (nn := 0) C (kcX7_starts (l := l) (G := G) (cy := cy) (sa := sa) hI (sz := H.size) σ hz2) gk_X7_128 rfl rfl (by decide +kernel) ⟨Nat.le_of_ble_eq_true rfl, Nat.le_of_ble_eq_true rfl⟩ hP hS (q0 := 0) (ci := 7) rfl rfl rfl (As := []) (rest := []) rfl rfl hl.1 (Nat.le_of_ble_eq_true rfl) dX7_miss_1 (fun H locs hP hS => ?_)
  refine lv_aload_n hx hb dX7_miss_4 rfl (lv_at hl 0 rfl) ?_
  refine lv_ldc (v := 100000000) hx hb hown (hts _ kw_936) dX7_miss_5 ?_
  replace hf := s_bi_some hf
  obtain ⟨r5, σ3, hz4, hf⟩ := hf
  refine s_calli (nn := 1) C (kcX7_comes (l := l) (G := G) (cy := cy) (sa := sa) hI (sz := H.size) σ1 (100000000 : Int32) hz4) gk_X7_219 rfl rfl (by decide +kernel) ⟨Nat.le_of_ble_eq_true rfl, Nat.le_of_ble_eq_true rfl⟩ hP hS (q0 := 0) (ci := 7) rfl rfl rfl (As := [.int (100000000 : Int32)]) (rest := []) rfl rfl hl.1 (Nat.le_of_ble_eq_true rfl) dX7_miss_7 (fun H locs hP hS => ?_)
  obtain ⟨he1, he2⟩ := s_ret hf
  exact W.iret hx hb hr (fun t ht hW => ⟨⟨_, (), rfl, he1, s_fin (Wd := (s_WM cy ad)) ht he2 hP⟩, hS.F ht⟩) hS.2.2 dX7_miss_10 hlk
theorem kcX7_miss {l : Launch} {G : va_G} {cy : Nat → ClassId} {sa : Nat × Nat} {ad : Nat → Nat}  {sz : Nat} (hI : s_inj ad 12) (σ : Sg) {re : Int32} {σe : Sg} (hf : fX7_miss σ = some (re, σe)) : Met l yX7_miss (kW yX7_miss cX7_miss 1 (some .int)) ({ frames := 2, cells := 0, slots := 0, locals := 41 } : Room) (s_P (s_WM cy ad) G cy sa ad 12 [.ref (ad 0)] sz σ) (s_Qi (s_WM cy ad) G (s_A ad 12 sz) re σe) 0 0 (s_A ad 12 sz) := by
  refine s_met (own := RX7) (by decide) rfl hI (Nat.le_of_ble_eq_true rfl) (fun p e s m below meth c ls hsz C hP hl => ?_)
  subst hsz
  exact kX7_miss C σ ls _ _ hl hP va_S.rf hf
set_option maxRecDepth 100000 in
set_option maxHeartbeats 4000000 in
theorem kX7_set_b15 (C : s_X p s m meth c args cX7_set (some .int) 4 RX7 G cy sa ad 12) (σ : Sg) (ls : Array Slot) (H : Heap) (locs : List Loc) (hl : lv_has ls 4 []) (hP : va_P G vwCl ((s_WM cy ad) σ) H) (hS : va_S (s_A ad 12 s.heap.size) s.heap H locs) (hf : fX7_set_b15 σ = some (re, σe)) : W p l e ({ frames := 3, cells := 0, slots := 0, locals := 62 } : Room) s m args below meth c H locs 0 0 (MQ below (s_Qi (s_WM cy ad) G (s_A ad 12 s.heap.size) re σe) args s 0 0 (s_A ad 12 s.heap.size)) (F0 m 15 ls []) := by
  obtain ⟨hx, hb, hr, hml, hown, hts, hlk, hK, hE, hI⟩ := id C
  have hD : ∀ σ : Sg, va_D (s_A ad 12 s.heap.size) ((s_WM cy ad) σ) := fun σ => s_D (s_WM_ad cy ad σ) hI (fun k hk => Or.inl ⟨k, hk, rfl⟩)
  unfold fX7_set_b15 at hf
  refine lv_iconst (v := -1) hx hb dX7_set_15 (by decide) ?_
  obtain ⟨he1, he2⟩ := s_ret hf
  exact W.iret hx hb hr (fun t ht hW => ⟨⟨_, (), rfl, he1, s_fin (Wd := (s_WM cy ad)) ht he2 hP⟩, hS.F ht⟩) hS.2.2 dX7_set_16 hlk
set_option maxRecDepth 100000 in
set_option maxHeartbeats 4000000 in
theorem kX7_set_b33 (C : s_X p s m meth c args cX7_set (some .int) 4 RX7 G cy sa ad 12) (σ : Sg) (x1 : Int32) (x2 : Int32) (y0 : Int32) (ls : Array Slot) (H : Heap) (locs : List Loc) (hl : lv_has ls 4 [(0, .ref (ad 0)), (1, .int x1), (2, .int x2)]) (hP : va_P G vwCl ((s_WM cy ad) σ) H) (hS : va_S (s_A ad 12 s.heap.size) s.heap H locs) (hf : fX7_set_b33 σ x1 x2 y0 = some (re, σe)) : W p l e ({ frames := 3, cells := 0, slots := 0, locals := 62 } : Room) s m args below meth c H locs 0 0 (MQ below (s_Qi (s_WM cy ad) G (s_A ad 12 s.heap.size) re σe) args s 0 0 (s_A ad 12 s.heap.size)) (F0 m 33 ls [.int y0]) := by
  obtain ⟨hx, hb, hr, hml, hown, hts, hlk, hK, hE, hI⟩ := id C
  have hD : ∀ σ : Sg, va_D (s_A ad 12 s.heap.size) ((s_WM cy ad) σ) := fun σ => s_D (s_WM_ad cy ad σ) hI (fun k hk => Or.inl ⟨k, hk, rfl⟩)
  unfold fX7_set_b33 at hf
  refine lv_istore_n (lv' := [(3, .int y0), (0, .ref (ad 0)), (1, .int x1), (2, .int x2)]) hx hb dX7_set_33 rfl hl (by decide) rfl (fun ls hl => ?_)
  refine lv_aload_n hx hb dX7_set_34 rfl (lv_at hl 1 rfl) ?_
  refine va_get (D := G) (ci := 7) (v := .ref (ad 1)) (C := RX7) (T := TX7) (N := 28) hx hb hts inkX7 hown hK hP 0 rfl rfl 0 (by decide) (hts _ kw_782) (fun _ h9 => h9) rfl dX7_set_35 ?_
  refine lv_iload_n hx hb dX7_set_38 rfl (lv_at hl 2 rfl) ?_
  refine lv_iload_n hx hb dX7_set_39 rfl (lv_at hl 3 rfl) ?_
  replace hf := s_gd_some hf
  obtain ⟨g1, hf⟩ := hf
  refine va_iast hx hb hK hP (hD _) hS 1 1 rfl rfl (s_in_of g1) dX7_set_40 (fun H locs hP _ hS => ?_)
  obtain ⟨σ2, eσ2⟩ : ∃ z : Sg, z = (s_up σ 1 (Int32.toNatClampNeg x1) x2) := ⟨_, rfl⟩
  replace hf := s_lt_at eσ2 hf
  replace hP : va_P G vwCl ((s_WM cy ad) σ2) H := by rw [eσ2]; exact hP
  refine lv_iload_n hx hb dX7_set_41 rfl (lv_at hl 0 rfl) ?_
  obtain ⟨he1, he2⟩ := s_ret hf
  exact W.iret hx hb hr (fun t ht hW => ⟨⟨_, (), rfl, he1, s_fin (Wd := (s_WM cy ad)) ht he2 hP⟩, hS.F ht⟩) hS.2.2 dX7_set_42 hlk
set_option maxRecDepth 100000 in
set_option maxHeartbeats 4000000 in
theorem kX7_set (C : s_X p s m meth c args cX7_set (some .int) 4 RX7 G cy sa ad 12) (σ : Sg) (x1 : Int32) (x2 : Int32) (ls : Array Slot) (H : Heap) (locs : List Loc) (hl : lv_has ls 4 [(0, .ref (ad 0)), (1, .int x1), (2, .int x2)]) (hP : va_P G vwCl ((s_WM cy ad) σ) H) (hS : va_S (s_A ad 12 s.heap.size) s.heap H locs) (hf : fX7_set σ x1 x2 = some (re, σe)) : W p l e ({ frames := 3, cells := 0, slots := 0, locals := 62 } : Room) s m args below meth c H locs 0 0 (MQ below (s_Qi (s_WM cy ad) G (s_A ad 12 s.heap.size) re σe) args s 0 0 (s_A ad 12 s.heap.size)) (F0 m 0 ls []) := by
  obtain ⟨hx, hb, hr, hml, hown, hts, hlk, hK, hE, hI⟩ := id C
  have hD : ∀ σ : Sg, va_D (s_A ad 12 s.heap.size) ((s_WM cy ad) σ) := fun σ => s_D (s_WM_ad cy ad σ) hI (fun k hk => Or.inl ⟨k, hk, rfl⟩)
  unfold fX7_set at hf
  refine lv_aload_n hx hb dX7_set_0 rfl (lv_at hl 0 rfl) ?_
  refine lv_iload_n hx hb dX7_set_1 rfl (lv_at hl 1 rfl) ?_
  replace hf := s_bi_some hf
  obtain ⟨r3, σ1, hz2, hf⟩ := hf
  refine s_calli (nn := 1) C (kcX7_isThere (l := l) (G := G) (cy := cy) (sa := sa) hI (sz := H.size) σ x1 hz2) gk_X7_180 rfl rfl (by decide +kernel) ⟨Nat.le_of_ble_eq_true rfl, Nat.le_of_ble_eq_true rfl⟩ hP hS (q0 := 0) (ci := 7) rfl rfl rfl (As := [.int x1]) (rest := []) rfl rfl hl.1 (Nat.le_of_ble_eq_true rfl) dX7_set_2 (fun H locs hP hS => ?_)
  refine lv_if_eq (tgt := 15) hx hb dX7_set_5 (by decide) (fun c4 => ?_) (fun c4 => ?_)
  · rw [if_pos c4] at hf
    exact kX7_set_b15 C σ1 _ _ _ (lv_sub hl [] rfl) hP hS hf
  · rw [if_neg c4] at hf
    refine lv_iload_n hx hb dX7_set_8 rfl (lv_at hl 2 rfl) ?_
    replace hf := s_bi_some hf
    obtain ⟨r7, σ5, hz6, hf⟩ := hf
    refine s_calliS (nn := 1) C (kcX7_isReading (l := l) (G := G) (cy := cy) (sa := sa) hI (sz := H.size) σ1 x2 hz6) gk_X7_216 rfl rfl (by decide +kernel) ⟨Nat.le_of_ble_eq_true rfl, Nat.le_of_ble_eq_true rfl⟩ hP hS (As := [.int x2]) (rest := []) rfl rfl hl.1 (Nat.le_of_ble_eq_true rfl) dX7_set_9 (fun H locs hP hS => ?_)
    refine lv_if_ne (tgt := 17) hx hb dX7_set_12 (by decide) (fun c8 => ?_) (fun c8 => ?_)
    · rw [if_neg c8] at hf
      refine lv_aload_n hx hb dX7_set_17 rfl (lv_at hl 0 rfl) ?_
      refine va_get (D := G) (ci := 7) (v := .ref (ad 1)) (C := RX7) (T := TX7) (N := 28) hx hb hts inkX7 hown hK hP 0 rfl rfl 0 (by decide) (hts _ kw_782) (fun _ h9 => h9) rfl dX7_set_18 ?_
      refine lv_iload_n hx hb dX7_set_21 rfl (lv_at hl 1 rfl) ?_
      replace hf := s_gd_some hf
      obtain ⟨g9, hf⟩ := hf
      refine va_iald hx hb hK hP 1 1 rfl rfl (s_in_of g9) dX7_set_22 ?_
      refine lv_ldc (v := 100000000) hx hb hown (hts _ kw_936) dX7_set_23 ?_
      refine lv_icmp_ne (tgt := 32) hx hb dX7_set_25 (by decide) (fun c10 => ?_) (fun c10 => ?_)
      · rw [if_neg c10] at hf
        refine lv_iconst (v := 0) hx hb dX7_set_32 (by decide) ?_
        exact kX7_set_b33 C σ5 x1 x2 (0 : Int32) _ _ _ (lv_sub hl [0, 1, 2] rfl) hP hS hf
      · rw [if_pos c10] at hf
        refine lv_iconst (v := 1) hx hb dX7_set_28 (by decide) ?_
        refine lv_goto (tgt := 33) hx hb dX7_set_29 (by decide) ?_
        exact kX7_set_b33 C σ5 x1 x2 (1 : Int32) _ _ _ (lv_sub hl [0, 1, 2] rfl) hP hS hf
    · rw [if_pos c8] at hf
      exact kX7_set_b15 C σ5 _ _ _ (lv_sub hl [] rfl) hP hS hf
theorem kcX7_set {l : Launch} {G : va_G} {cy : Nat → ClassId} {sa : Nat × Nat} {ad : Nat → Nat}  {sz : Nat} (hI : s_inj ad 12) (σ : Sg) (x1 : Int32) (x2 : Int32) {re : Int32} {σe : Sg} (hf : fX7_set σ x1 x2 = some (re, σe)) : Met l yX7_set (kW yX7_set cX7_set 4 (some .int)) ({ frames := 3, cells := 0, slots := 0, locals := 62 } : Room) (s_P (s_WM cy ad) G cy sa ad 12 [.ref (ad 0), .int x1, .int x2] sz σ) (s_Qi (s_WM cy ad) G (s_A ad 12 sz) re σe) 0 0 (s_A ad 12 sz) := by
  refine s_met (own := RX7) (by decide) rfl hI (Nat.le_of_ble_eq_true rfl) (fun p e s m below meth c ls hsz C hP hl => ?_)
  subst hsz
  exact kX7_set C σ x1 x2 ls _ _ hl hP va_S.rf hf
set_option maxRecDepth 100000 in
set_option maxHeartbeats 4000000 in
theorem kX7_lose_b26 (C : s_X p s m meth c args cX7_lose (some .int) 3 RX7 G cy sa ad 12) (σ : Sg) (x1 : Int32) (y0 : Int32) (ls : Array Slot) (H : Heap) (locs : List Loc) (hl : lv_has ls 3 [(0, .ref (ad 0)), (1, .int x1)]) (hP : va_P G vwCl ((s_WM cy ad) σ) H) (hS : va_S (s_A ad 12 s.heap.size) s.heap H locs) (hf : fX7_lose_b26 σ x1 y0 = some (re, σe)) : W p l e ({ frames := 3, cells := 0, slots := 0, locals := 62 } : Room) s m args below meth c H locs 0 0 (MQ below (s_Qi (s_WM cy ad) G (s_A ad 12 s.heap.size) re σe) args s 0 0 (s_A ad 12 s.heap.size)) (F0 m 26 ls [.int y0]) := by
  obtain ⟨hx, hb, hr, hml, hown, hts, hlk, hK, hE, hI⟩ := id C
  have hD : ∀ σ : Sg, va_D (s_A ad 12 s.heap.size) ((s_WM cy ad) σ) := fun σ => s_D (s_WM_ad cy ad σ) hI (fun k hk => Or.inl ⟨k, hk, rfl⟩)
  unfold fX7_lose_b26 at hf
  refine lv_istore_n (lv' := [(2, .int y0), (0, .ref (ad 0)), (1, .int x1)]) hx hb dX7_lose_26 rfl hl (by decide) rfl (fun ls hl => ?_)
  refine lv_aload_n hx hb dX7_lose_27 rfl (lv_at hl 1 rfl) ?_
  refine va_get (D := G) (ci := 7) (v := .ref (ad 1)) (C := RX7) (T := TX7) (N := 28) hx hb hts inkX7 hown hK hP 0 rfl rfl 0 (by decide) (hts _ kw_782) (fun _ h9 => h9) rfl dX7_lose_28 ?_
  refine lv_iload_n hx hb dX7_lose_31 rfl (lv_at hl 2 rfl) ?_
  refine lv_ldc (v := 100000000) hx hb hown (hts _ kw_936) dX7_lose_32 ?_
  replace hf := s_gd_some hf
  obtain ⟨g1, hf⟩ := hf
  refine va_iast hx hb hK hP (hD _) hS 1 1 rfl rfl (s_in_of g1) dX7_lose_34 (fun H locs hP _ hS => ?_)
  obtain ⟨σ2, eσ2⟩ : ∃ z : Sg, z = (s_up σ 1 (Int32.toNatClampNeg x1) (100000000 : Int32)) := ⟨_, rfl⟩
  replace hf := s_lt_at eσ2 hf
  replace hP : va_P G vwCl ((s_WM cy ad) σ2) H := by rw [eσ2]; exact hP
  refine lv_iload_n hx hb dX7_lose_35 rfl (lv_at hl 0 rfl) ?_
  obtain ⟨he1, he2⟩ := s_ret hf
  exact W.iret hx hb hr (fun t ht hW => ⟨⟨_, (), rfl, he1, s_fin (Wd := (s_WM cy ad)) ht he2 hP⟩, hS.F ht⟩) hS.2.2 dX7_lose_36 hlk
set_option maxRecDepth 100000 in
set_option maxHeartbeats 4000000 in
theorem kX7_lose (C : s_X p s m meth c args cX7_lose (some .int) 3 RX7 G cy sa ad 12) (σ : Sg) (x1 : Int32) (ls : Array Slot) (H : Heap) (locs : List Loc) (hl : lv_has ls 3 [(0, .ref (ad 0)), (1, .int x1)]) (hP : va_P G vwCl ((s_WM cy ad) σ) H) (hS : va_S (s_A ad 12 s.heap.size) s.heap H locs) (hf : fX7_lose σ x1 = some (re, σe)) : W p l e ({ frames := 3, cells := 0, slots := 0, locals := 62 } : Room) s m args below meth c H locs 0 0 (MQ below (s_Qi (s_WM cy ad) G (s_A ad 12 s.heap.size) re σe) args s 0 0 (s_A ad 12 s.heap.size)) (F0 m 0 ls []) := by
  obtain ⟨hx, hb, hr, hml, hown, hts, hlk, hK, hE, hI⟩ := id C
  have hD : ∀ σ : Sg, va_D (s_A ad 12 s.heap.size) ((s_WM cy ad) σ) := fun σ => s_D (s_WM_ad cy ad σ) hI (fun k hk => Or.inl ⟨k, hk, rfl⟩)
  unfold fX7_lose at hf
  refine lv_aload_n hx hb dX7_lose_0 rfl (lv_at hl 0 rfl) ?_
  refine lv_iload_n hx hb dX7_lose_1 rfl (lv_at hl 1 rfl) ?_
  replace hf := s_bi_some hf
  obtain ⟨r3, σ1, hz2, hf⟩ := hf
  refine s_calli (nn := 1) C (kcX7_isThere (l := l) (G := G) (cy := cy) (sa := sa) hI (sz := H.size) σ x1 hz2) gk_X7_180 rfl rfl (by decide +kernel) ⟨Nat.le_of_ble_eq_true rfl, Nat.le_of_ble_eq_true rfl⟩ hP hS (q0 := 0) (ci := 7) rfl rfl rfl (As := [.int x1]) (rest := []) rfl rfl hl.1 (Nat.le_of_ble_eq_true rfl) dX7_lose_2 (fun H locs hP hS => ?_)
  refine lv_if_ne (tgt := 10) hx hb dX7_lose_5 (by decide) (fun c4 => ?_) (fun c4 => ?_)
  · rw [if_neg c4] at hf
    refine lv_aload_n hx hb dX7_lose_10 rfl (lv_at hl 0 rfl) ?_
    refine va_get (D := G) (ci := 7) (v := .ref (ad 1)) (C := RX7) (T := TX7) (N := 28) hx hb hts inkX7 hown hK hP 0 rfl rfl 0 (by decide) (hts _ kw_782) (fun _ h9 => h9) rfl dX7_lose_11 ?_
    refine lv_iload_n hx hb dX7_lose_14 rfl (lv_at hl 1 rfl) ?_
    replace hf := s_gd_some hf
    obtain ⟨g5, hf⟩ := hf
    refine va_iald hx hb hK hP 1 1 rfl rfl (s_in_of g5) dX7_lose_15 ?_
    refine lv_ldc (v := 100000000) hx hb hown (hts _ kw_936) dX7_lose_16 ?_
    refine lv_icmp_ne (tgt := 25) hx hb dX7_lose_18 (by decide) (fun c6 => ?_) (fun c6 => ?_)
    · rw [if_neg c6] at hf
      refine lv_iconst (v := 0) hx hb dX7_lose_25 (by decide) ?_
      exact kX7_lose_b26 C σ1 x1 (0 : Int32) _ _ _ (lv_sub hl [0, 1] rfl) hP hS hf
    · rw [if_pos c6] at hf
      refine lv_iconst (v := 1) hx hb dX7_lose_21 (by decide) ?_
      refine lv_goto (tgt := 26) hx hb dX7_lose_22 (by decide) ?_
      exact kX7_lose_b26 C σ1 x1 (1 : Int32) _ _ _ (lv_sub hl [0, 1] rfl) hP hS hf
  · rw [if_pos c4] at hf
    refine lv_iconst (v := -1) hx hb dX7_lose_8 (by decide) ?_
    obtain ⟨he1, he2⟩ := s_ret hf
    exact W.iret hx hb hr (fun t ht hW => ⟨⟨_, (), rfl, he1, s_fin (Wd := (s_WM cy ad)) ht he2 hP⟩, hS.F ht⟩) hS.2.2 dX7_lose_9 hlk
theorem kcX7_lose {l : Launch} {G : va_G} {cy : Nat → ClassId} {sa : Nat × Nat} {ad : Nat → Nat}  {sz : Nat} (hI : s_inj ad 12) (σ : Sg) (x1 : Int32) {re : Int32} {σe : Sg} (hf : fX7_lose σ x1 = some (re, σe)) : Met l yX7_lose (kW yX7_lose cX7_lose 3 (some .int)) ({ frames := 3, cells := 0, slots := 0, locals := 62 } : Room) (s_P (s_WM cy ad) G cy sa ad 12 [.ref (ad 0), .int x1] sz σ) (s_Qi (s_WM cy ad) G (s_A ad 12 sz) re σe) 0 0 (s_A ad 12 sz) := by
  refine s_met (own := RX7) (by decide) rfl hI (Nat.le_of_ble_eq_true rfl) (fun p e s m below meth c ls hsz C hP hl => ?_)
  subst hsz
  exact kX7_lose C σ x1 ls _ _ hl hP va_S.rf hf
set_option maxRecDepth 100000 in
set_option maxHeartbeats 4000000 in
theorem kX7_drop_b33 (C : s_X p s m meth c args cX7_drop (some .int) 3 RX7 G cy sa ad 12) (k33 : Sg → Int32 → Int32 → Option (Int32 × Sg)) (hk33 : ∀ (σ : Sg) (x1 : Int32) (x2 : Int32) (ls : Array Slot) (H : Heap) (locs : List Loc), lv_has ls 3 [(0, .ref (ad 0)), (1, .int x1), (2, .int x2)] → va_P G vwCl ((s_WM cy ad) σ) H → va_S (s_A ad 12 s.heap.size) s.heap H locs → k33 σ x1 x2 = some (re, σe) → W p l e ({ frames := 2, cells := 0, slots := 0, locals := 41 } : Room) s m args below meth c H locs 0 0 (MQ below (s_Qi (s_WM cy ad) G (s_A ad 12 s.heap.size) re σe) args s 0 0 (s_A ad 12 s.heap.size)) (F0 m 33 ls [])) (σ : Sg) (x1 : Int32) (x2 : Int32) (ls : Array Slot) (H : Heap) (locs : List Loc) (hl : lv_has ls 3 [(0, .ref (ad 0)), (1, .int x1), (2, .int x2)]) (hP : va_P G vwCl ((s_WM cy ad) σ) H) (hS : va_S (s_A ad 12 s.heap.size) s.heap H locs) (hf : fX7_drop_b33 k33 σ x1 x2 = some (re, σe)) : W p l e ({ frames := 2, cells := 0, slots := 0, locals := 41 } : Room) s m args below meth c H locs 0 0 (MQ below (s_Qi (s_WM cy ad) G (s_A ad 12 s.heap.size) re σe) args s 0 0 (s_A ad 12 s.heap.size)) (F0 m 33 ls []) := by
  obtain ⟨hx, hb, hr, hml, hown, hts, hlk, hK, hE, hI⟩ := id C
  have hD : ∀ σ : Sg, va_D (s_A ad 12 s.heap.size) ((s_WM cy ad) σ) := fun σ => s_D (s_WM_ad cy ad σ) hI (fun k hk => Or.inl ⟨k, hk, rfl⟩)
  unfold fX7_drop_b33 at hf
  refine lv_iload_n hx hb dX7_drop_33 rfl (lv_at hl 2 rfl) ?_
  refine lv_aload_n hx hb dX7_drop_34 rfl (lv_at hl 0 rfl) ?_
  replace hf := s_bi_some hf
  obtain ⟨r3, σ1, hz2, hf⟩ := hf
  refine s_calli (nn := 0) C (kcX7_many (l := l) (G := G) (cy := cy) (sa := sa) hI (sz := H.size) σ hz2) gk_X7_141 rfl rfl (by decide +kernel) ⟨Nat.le_of_ble_eq_true rfl, Nat.le_of_ble_eq_true rfl⟩ hP hS (q0 := 0) (ci := 7) rfl rfl rfl (As := []) (rest := [.int x2]) rfl rfl hl.1 (Nat.le_of_ble_eq_true rfl) dX7_drop_35 (fun H locs hP hS => ?_)
  refine lv_icmp_ge (tgt := 61) hx hb dX7_drop_38 (by decide) (fun c4 => ?_) (fun c4 => ?_)
  · rw [if_pos c4] at hf
    refine lv_aload_n hx hb dX7_drop_61 rfl (lv_at hl 0 rfl) ?_
    replace hf := s_bi_some hf
    obtain ⟨r7, σ5, hz6, hf⟩ := hf
    refine s_calli (nn := 0) C (kcX7_many (l := l) (G := G) (cy := cy) (sa := sa) hI (sz := H.size) σ1 hz6) gk_X7_141 rfl rfl (by decide +kernel) ⟨Nat.le_of_ble_eq_true rfl, Nat.le_of_ble_eq_true rfl⟩ hP hS (q0 := 0) (ci := 7) rfl rfl rfl (As := []) (rest := []) rfl rfl hl.1 (Nat.le_of_ble_eq_true rfl) dX7_drop_62 (fun H locs hP hS => ?_)
    obtain ⟨he1, he2⟩ := s_ret hf
    exact W.iret hx hb hr (fun t ht hW => ⟨⟨_, (), rfl, he1, s_fin (Wd := (s_WM cy ad)) ht he2 hP⟩, hS.F ht⟩) hS.2.2 dX7_drop_65 hlk
  · rw [if_neg c4] at hf
    refine lv_aload_n hx hb dX7_drop_41 rfl (lv_at hl 0 rfl) ?_
    refine va_get (D := G) (ci := 7) (v := .ref (ad 1)) (C := RX7) (T := TX7) (N := 28) hx hb hts inkX7 hown hK hP 0 rfl rfl 0 (by decide) (hts _ kw_782) (fun _ h9 => h9) rfl dX7_drop_42 ?_
    refine lv_iload_n hx hb dX7_drop_45 rfl (lv_at hl 2 rfl) ?_
    refine lv_aload_n hx hb dX7_drop_46 rfl (lv_at hl 0 rfl) ?_
    refine va_get (D := G) (ci := 7) (v := .ref (ad 1)) (C := RX7) (T := TX7) (N := 28) hx hb hts inkX7 hown hK hP 0 rfl rfl 0 (by decide) (hts _ kw_782) (fun _ h9 => h9) rfl dX7_drop_47 ?_
    refine lv_iload_n hx hb dX7_drop_50 rfl (lv_at hl 2 rfl) ?_
    refine lv_iload_n hx hb dX7_drop_51 rfl (lv_at hl 1 rfl) ?_
    refine lv_iadd hx hb dX7_drop_52 ?_
    replace hf := s_gd_some hf
    obtain ⟨g8, hf⟩ := hf
    refine va_iald hx hb hK hP 1 1 rfl rfl (s_in_of g8) dX7_drop_53 ?_
    replace hf := s_gd_some hf
    obtain ⟨g9, hf⟩ := hf
    refine va_iast hx hb hK hP (hD _) hS 1 1 rfl rfl (s_in_of g9) dX7_drop_54 (fun H locs hP _ hS => ?_)
    obtain ⟨σ10, eσ10⟩ : ∃ z : Sg, z = (s_up σ1 1 (Int32.toNatClampNeg x2) (σ1 1 (Int32.toNatClampNeg (x2 + x1)))) := ⟨_, rfl⟩
    replace hf := s_lt_at eσ10 hf
    replace hP : va_P G vwCl ((s_WM cy ad) σ10) H := by rw [eσ10]; exact hP
    obtain ⟨t11, et11⟩ : ∃ z : Int32, z = (x2 + 1) := ⟨_, rfl⟩
    replace hf := s_lt_at et11 hf
    refine lv_iinc (v := t11) (lv' := [(2, .int t11), (0, .ref (ad 0)), (1, .int x1)]) hx hb dX7_drop_55 hl (k := 2) rfl (by rw [et11]; rfl) (by decide) rfl (fun ls hl => ?_)
    refine lv_goto (tgt := 33) hx hb dX7_drop_58 (by decide) ?_
    exact hk33 σ10 x1 t11 _ _ _ (lv_sub hl [1, 2, 0] rfl) hP hS hf
set_option maxRecDepth 100000 in
set_option maxHeartbeats 4000000 in
theorem kX7_drop_b33_L (C : s_X p s m meth c args cX7_drop (some .int) 3 RX7 G cy sa ad 12) : ∀ (n : Nat), ∀ (σ : Sg) (x1 : Int32) (x2 : Int32) (ls : Array Slot) (H : Heap) (locs : List Loc), lv_has ls 3 [(0, .ref (ad 0)), (1, .int x1), (2, .int x2)] → va_P G vwCl ((s_WM cy ad) σ) H → va_S (s_A ad 12 s.heap.size) s.heap H locs → fX7_drop_b33_L n σ x1 x2 = some (re, σe) → W p l e ({ frames := 2, cells := 0, slots := 0, locals := 41 } : Room) s m args below meth c H locs 0 0 (MQ below (s_Qi (s_WM cy ad) G (s_A ad 12 s.heap.size) re σe) args s 0 0 (s_A ad 12 s.heap.size)) (F0 m 33 ls []) := by
  intro n
  induction n with
  | zero => intro σ x1 x2 ls H locs hl hP hS hf; exact absurd (show (none : Option (Int32 × Sg)) = some (re, σe) from hf) (by intro h; cases h)
  | succ n ih => intro σ x1 x2 ls H locs hl hP hS hf; exact kX7_drop_b33 C (fX7_drop_b33_L n) ih σ x1 x2 ls H locs hl hP hS hf
set_option maxRecDepth 100000 in
set_option maxHeartbeats 4000000 in
theorem kX7_drop (C : s_X p s m meth c args cX7_drop (some .int) 3 RX7 G cy sa ad 12) (σ : Sg) (x1 : Int32) (ls : Array Slot) (H : Heap) (locs : List Loc) (hl : lv_has ls 3 [(0, .ref (ad 0)), (1, .int x1)]) (hP : va_P G vwCl ((s_WM cy ad) σ) H) (hS : va_S (s_A ad 12 s.heap.size) s.heap H locs) (hf : fX7_drop σ x1 = some (re, σe)) : W p l e ({ frames := 2, cells := 0, slots := 0, locals := 41 } : Room) s m args below meth c H locs 0 0 (MQ below (s_Qi (s_WM cy ad) G (s_A ad 12 s.heap.size) re σe) args s 0 0 (s_A ad 12 s.heap.size)) (F0 m 0 ls []) := by
  obtain ⟨hx, hb, hr, hml, hown, hts, hlk, hK, hE, hI⟩ := id C
  have hD : ∀ σ : Sg, va_D (s_A ad 12 s.heap.size) ((s_WM cy ad) σ) := fun σ => s_D (s_WM_ad cy ad σ) hI (fun k hk => Or.inl ⟨k, hk, rfl⟩)
  unfold fX7_drop at hf
  refine lv_aload_n hx hb dX7_drop_0 rfl (lv_at hl 0 rfl) ?_
  replace hf := s_bv_some hf
  obtain ⟨σ1, hz2, hf⟩ := hf
  refine s_callv (nn := 0) C (kcX7_starts (l := l) (G := G) (cy := cy) (sa := sa) hI (sz := H.size) σ hz2) gk_X7_128 rfl rfl (by decide +kernel) ⟨Nat.le_of_ble_eq_true rfl, Nat.le_of_ble_eq_true rfl⟩ hP hS (q0 := 0) (ci := 7) rfl rfl rfl (As := []) (rest := []) rfl rfl hl.1 (Nat.le_of_ble_eq_true rfl) dX7_drop_1 (fun H locs hP hS => ?_)
  refine lv_iload_n hx hb dX7_drop_4 rfl (lv_at hl 1 rfl) ?_
  refine lv_i2l (v := (Int32.toInt64 x1)) hx hb dX7_drop_5 rfl ?_
  refine lv_lconst (v := 0) hx hb dX7_drop_6 (by decide) ?_
  refine lv_aload_n hx hb dX7_drop_7 rfl (lv_at hl 0 rfl) ?_
  replace hf := s_bi_some hf
  obtain ⟨r5, σ3, hz4, hf⟩ := hf
  refine s_calli (nn := 0) C (kcX7_many (l := l) (G := G) (cy := cy) (sa := sa) hI (sz := H.size) σ1 hz4) gk_X7_141 rfl rfl (by decide +kernel) ⟨Nat.le_of_ble_eq_true rfl, Nat.le_of_ble_eq_true rfl⟩ hP hS (q0 := 0) (ci := 7) rfl rfl rfl (As := []) (rest := [.long (0 : Int64), .long (Int32.toInt64 x1)]) rfl rfl hl.1 (Nat.le_of_ble_eq_true rfl) dX7_drop_8 (fun H locs hP hS => ?_)
  refine lv_i2l (v := (Int32.toInt64 r5)) hx hb dX7_drop_11 rfl ?_
  replace hf := s_bi_some hf
  obtain ⟨r8, σ6, hz7, hf⟩ := hf
  refine s_calliS (nn := 3) C (kcX7_in (l := l) (G := G) (cy := cy) (sa := sa) hI (sz := H.size) σ3 (Int32.toInt64 x1) (0 : Int64) (Int32.toInt64 r5) hz7) gk_X7_54 rfl rfl (by decide +kernel) ⟨Nat.le_of_ble_eq_true rfl, Nat.le_of_ble_eq_true rfl⟩ hP hS (As := [.long (Int32.toInt64 x1), .long (0 : Int64), .long (Int32.toInt64 r5)]) (rest := []) rfl rfl hl.1 (Nat.le_of_ble_eq_true rfl) dX7_drop_12 (fun H locs hP hS => ?_)
  refine lv_if_ne (tgt := 20) hx hb dX7_drop_15 (by decide) (fun c9 => ?_) (fun c9 => ?_)
  · rw [if_neg c9] at hf
    refine lv_aload_n hx hb dX7_drop_20 rfl (lv_at hl 0 rfl) ?_
    refine va_get (D := G) (ci := 7) (v := .ref (ad 1)) (C := RX7) (T := TX7) (N := 28) hx hb hts inkX7 hown hK hP 0 rfl rfl 0 (by decide) (hts _ kw_782) (fun _ h9 => h9) rfl dX7_drop_21 ?_
    refine lv_bipush (v := 102) hx hb dX7_drop_24 (by decide) ?_
    refine lv_dup2_11 hx hb dX7_drop_26 rfl rfl ?_
    refine va_iald hx hb hK hP 1 1 rfl rfl (by unfold vp_in; decide) dX7_drop_27 ?_
    rw [cl_102]
    refine lv_iload_n hx hb dX7_drop_28 rfl (lv_at hl 1 rfl) ?_
    refine lv_isub hx hb dX7_drop_29 ?_
    refine va_iast hx hb hK hP (hD _) hS 1 1 rfl rfl (by unfold vp_in; decide) dX7_drop_30 (fun H locs hP _ hS => ?_)
    rw [cl_102] at hP
    obtain ⟨σ10, eσ10⟩ : ∃ z : Sg, z = (s_up σ6 1 102 ((σ6 1 102) - x1)) := ⟨_, rfl⟩
    replace hf := s_lt_at eσ10 hf
    replace hP : va_P G vwCl ((s_WM cy ad) σ10) H := by rw [eσ10]; exact hP
    refine lv_iconst (v := 0) hx hb dX7_drop_31 (by decide) ?_
    refine lv_istore_n (lv' := [(2, .int (0 : Int32)), (0, .ref (ad 0)), (1, .int x1)]) hx hb dX7_drop_32 rfl hl (by decide) rfl (fun ls hl => ?_)
    exact kX7_drop_b33_L C s_fu σ10 x1 (0 : Int32) _ _ _ (lv_sub hl [1, 2, 0] rfl) hP hS hf
  · rw [if_pos c9] at hf
    refine lv_iconst (v := -1) hx hb dX7_drop_18 (by decide) ?_
    obtain ⟨he1, he2⟩ := s_ret hf
    exact W.iret hx hb hr (fun t ht hW => ⟨⟨_, (), rfl, he1, s_fin (Wd := (s_WM cy ad)) ht he2 hP⟩, hS.F ht⟩) hS.2.2 dX7_drop_19 hlk
theorem kcX7_drop {l : Launch} {G : va_G} {cy : Nat → ClassId} {sa : Nat × Nat} {ad : Nat → Nat}  {sz : Nat} (hI : s_inj ad 12) (σ : Sg) (x1 : Int32) {re : Int32} {σe : Sg} (hf : fX7_drop σ x1 = some (re, σe)) : Met l yX7_drop (kW yX7_drop cX7_drop 3 (some .int)) ({ frames := 2, cells := 0, slots := 0, locals := 41 } : Room) (s_P (s_WM cy ad) G cy sa ad 12 [.ref (ad 0), .int x1] sz σ) (s_Qi (s_WM cy ad) G (s_A ad 12 sz) re σe) 0 0 (s_A ad 12 sz) := by
  refine s_met (own := RX7) (by decide) rfl hI (Nat.le_of_ble_eq_true rfl) (fun p e s m below meth c ls hsz C hP hl => ?_)
  subst hsz
  exact kX7_drop C σ x1 ls _ _ hl hP va_S.rf hf
set_option maxRecDepth 100000 in
set_option maxHeartbeats 4000000 in
theorem kX7_becomes (C : s_X p s m meth c args cX7_becomes (some .int) 5 RX7 G cy sa ad 12) (σ : Sg) (x1 : Int32) (x2 : Int32) (x3 : Int32) (ls : Array Slot) (H : Heap) (locs : List Loc) (hl : lv_has ls 5 [(0, .ref (ad 0)), (1, .int x1), (2, .int x2), (3, .int x3)]) (hP : va_P G vwCl ((s_WM cy ad) σ) H) (hS : va_S (s_A ad 12 s.heap.size) s.heap H locs) (hf : fX7_becomes σ x1 x2 x3 = some (re, σe)) : W p l e ({ frames := 2, cells := 0, slots := 0, locals := 41 } : Room) s m args below meth c H locs 0 0 (MQ below (s_Qi (s_WM cy ad) G (s_A ad 12 s.heap.size) re σe) args s 0 0 (s_A ad 12 s.heap.size)) (F0 m 0 ls []) := by
  obtain ⟨hx, hb, hr, hml, hown, hts, hlk, hK, hE, hI⟩ := id C
  have hD : ∀ σ : Sg, va_D (s_A ad 12 s.heap.size) ((s_WM cy ad) σ) := fun σ => s_D (s_WM_ad cy ad σ) hI (fun k hk => Or.inl ⟨k, hk, rfl⟩)
  unfold fX7_becomes at hf
  refine lv_aload_n hx hb dX7_becomes_0 rfl (lv_at hl 0 rfl) ?_
  replace hf := s_bv_some hf
  obtain ⟨σ1, hz2, hf⟩ := hf
  refine s_callv (nn := 0) C (kcX7_starts (l := l) (G := G) (cy := cy) (sa := sa) hI (sz := H.size) σ hz2) gk_X7_128 rfl rfl (by decide +kernel) ⟨Nat.le_of_ble_eq_true rfl, Nat.le_of_ble_eq_true rfl⟩ hP hS (q0 := 0) (ci := 7) rfl rfl rfl (As := []) (rest := []) rfl rfl hl.1 (Nat.le_of_ble_eq_true rfl) dX7_becomes_1 (fun H locs hP hS => ?_)
  refine lv_iload_n hx hb dX7_becomes_4 rfl (lv_at hl 1 rfl) ?_
  refine lv_if_ne (tgt := 10) hx hb dX7_becomes_5 (by decide) (fun c3 => ?_) (fun c3 => ?_)
  · rw [if_neg c3] at hf
    refine lv_aload_n hx hb dX7_becomes_10 rfl (lv_at hl 0 rfl) ?_
    refine va_get (D := G) (ci := 7) (v := .ref (ad 1)) (C := RX7) (T := TX7) (N := 28) hx hb hts inkX7 hown hK hP 0 rfl rfl 0 (by decide) (hts _ kw_782) (fun _ h9 => h9) rfl dX7_becomes_11 ?_
    refine lv_iload_n hx hb dX7_becomes_14 rfl (lv_at hl 2 rfl) ?_
    replace hf := s_gd_some hf
    obtain ⟨g4, hf⟩ := hf
    refine va_iald hx hb hK hP 1 1 rfl rfl (s_in_of g4) dX7_becomes_15 ?_
    refine lv_topi (fun t5 et5 => ?_)
    replace hf := s_lt_at et5 hf
    refine lv_istore (lv' := [(4, .int t5), (0, .ref (ad 0)), (1, .int x1), (2, .int x2), (3, .int x3)]) hx hb dX7_becomes_16 hl (by decide) rfl (fun ls hl => ?_)
    refine lv_aload_n hx hb dX7_becomes_18 rfl (lv_at hl 1 rfl) ?_
    refine va_get (D := G) (ci := 7) (v := .ref (ad 1)) (C := RX7) (T := TX7) (N := 28) hx hb hts inkX7 hown hK hP 0 rfl rfl 0 (by decide) (hts _ kw_782) (fun _ h9 => h9) rfl dX7_becomes_19 ?_
    refine lv_iload_n hx hb dX7_becomes_22 rfl (lv_at hl 3 rfl) ?_
    refine lv_iload_n hx hb dX7_becomes_23 rfl (lv_at hl 4 rfl) ?_
    replace hf := s_gd_some hf
    obtain ⟨g6, hf⟩ := hf
    refine va_iast hx hb hK hP (hD _) hS 1 1 rfl rfl (s_in_of g6) dX7_becomes_24 (fun H locs hP _ hS => ?_)
    obtain ⟨σ7, eσ7⟩ : ∃ z : Sg, z = (s_up σ1 1 (Int32.toNatClampNeg x2) x3) := ⟨_, rfl⟩
    replace hf := s_lt_at eσ7 hf
    replace hP : va_P G vwCl ((s_WM cy ad) σ7) H := by rw [eσ7]; exact hP
    refine lv_iload hx hb dX7_becomes_25 (lv_at hl 0 rfl) ?_
    obtain ⟨he1, he2⟩ := s_ret hf
    exact W.iret hx hb hr (fun t ht hW => ⟨⟨_, (), rfl, he1, s_fin (Wd := (s_WM cy ad)) ht he2 hP⟩, hS.F ht⟩) hS.2.2 dX7_becomes_27 hlk
  · rw [if_pos c3] at hf
    refine lv_iconst (v := -1) hx hb dX7_becomes_8 (by decide) ?_
    obtain ⟨he1, he2⟩ := s_ret hf
    exact W.iret hx hb hr (fun t ht hW => ⟨⟨_, (), rfl, he1, s_fin (Wd := (s_WM cy ad)) ht he2 hP⟩, hS.F ht⟩) hS.2.2 dX7_becomes_9 hlk
theorem kcX7_becomes {l : Launch} {G : va_G} {cy : Nat → ClassId} {sa : Nat × Nat} {ad : Nat → Nat}  {sz : Nat} (hI : s_inj ad 12) (σ : Sg) (x1 : Int32) (x2 : Int32) (x3 : Int32) {re : Int32} {σe : Sg} (hf : fX7_becomes σ x1 x2 x3 = some (re, σe)) : Met l yX7_becomes (kW yX7_becomes cX7_becomes 5 (some .int)) ({ frames := 2, cells := 0, slots := 0, locals := 41 } : Room) (s_P (s_WM cy ad) G cy sa ad 12 [.ref (ad 0), .int x1, .int x2, .int x3] sz σ) (s_Qi (s_WM cy ad) G (s_A ad 12 sz) re σe) 0 0 (s_A ad 12 sz) := by
  refine s_met (own := RX7) (by decide) rfl hI (Nat.le_of_ble_eq_true rfl) (fun p e s m below meth c ls hsz C hP hl => ?_)
  subst hsz
  exact kX7_becomes C σ x1 x2 x3 ls _ _ hl hP va_S.rf hf
set_option maxRecDepth 100000 in
set_option maxHeartbeats 4000000 in
theorem kX7_width (C : s_X p s m meth c args cX7_width (some .int) 2 RX7 G cy sa ad 12) (σ : Sg) (x1 : Int32) (ls : Array Slot) (H : Heap) (locs : List Loc) (hl : lv_has ls 2 [(0, .ref (ad 0)), (1, .int x1)]) (hP : va_P G vwCl ((s_WM cy ad) σ) H) (hS : va_S (s_A ad 12 s.heap.size) s.heap H locs) (hf : fX7_width σ x1 = some (re, σe)) : W p l e ({ frames := 3, cells := 0, slots := 0, locals := 65 } : Room) s m args below meth c H locs 0 0 (MQ below (s_Qi (s_WM cy ad) G (s_A ad 12 s.heap.size) re σe) args s 0 0 (s_A ad 12 s.heap.size)) (F0 m 0 ls []) := by
  obtain ⟨hx, hb, hr, hml, hown, hts, hlk, hK, hE, hI⟩ := id C
  have hD : ∀ σ : Sg, va_D (s_A ad 12 s.heap.size) ((s_WM cy ad) σ) := fun σ => s_D (s_WM_ad cy ad σ) hI (fun k hk => Or.inl ⟨k, hk, rfl⟩)
  unfold fX7_width at hf
  refine lv_aload_n hx hb dX7_width_0 rfl (lv_at hl 0 rfl) ?_
  refine lv_iload_n hx hb dX7_width_1 rfl (lv_at hl 1 rfl) ?_
  refine lv_i2l (v := (Int32.toInt64 x1)) hx hb dX7_width_2 rfl ?_
  refine lv_lconst (v := 1) hx hb dX7_width_3 (by decide) ?_
  refine lv_ldc2 (v := 24) hx hb hown (hts _ kw_1088) dX7_width_4 ?_
  replace hf := s_bi_some hf
  obtain ⟨r3, σ1, hz2, hf⟩ := hf
  refine s_calliS (nn := 3) C (kcX7_in (l := l) (G := G) (cy := cy) (sa := sa) hI (sz := H.size) σ (Int32.toInt64 x1) (1 : Int64) (24 : Int64) hz2) gk_X7_54 rfl rfl (by decide +kernel) ⟨Nat.le_of_ble_eq_true rfl, Nat.le_of_ble_eq_true rfl⟩ hP hS (As := [.long (Int32.toInt64 x1), .long (1 : Int64), .long (24 : Int64)]) (rest := [.ref (ad 0)]) rfl rfl hl.1 (Nat.le_of_ble_eq_true rfl) dX7_width_7 (fun H locs hP hS => ?_)
  refine lv_bipush (v := 96) hx hb dX7_width_10 (by decide) ?_
  refine lv_iload_n hx hb dX7_width_12 rfl (lv_at hl 1 rfl) ?_
  replace hf := s_bi_some hf
  obtain ⟨r6, σ4, hz5, hf⟩ := hf
  refine s_calli (nn := 3) C (kcX7_becomes (l := l) (G := G) (cy := cy) (sa := sa) hI (sz := H.size) σ1 r3 (96 : Int32) x1 hz5) gk_X7_224 rfl rfl (by decide +kernel) ⟨Nat.le_of_ble_eq_true rfl, Nat.le_of_ble_eq_true rfl⟩ hP hS (q0 := 0) (ci := 7) rfl rfl rfl (As := [.int r3, .int (96 : Int32), .int x1]) (rest := []) rfl rfl hl.1 (Nat.le_of_ble_eq_true rfl) dX7_width_13 (fun H locs hP hS => ?_)
  obtain ⟨he1, he2⟩ := s_ret hf
  exact W.iret hx hb hr (fun t ht hW => ⟨⟨_, (), rfl, he1, s_fin (Wd := (s_WM cy ad)) ht he2 hP⟩, hS.F ht⟩) hS.2.2 dX7_width_16 hlk
theorem kcX7_width {l : Launch} {G : va_G} {cy : Nat → ClassId} {sa : Nat × Nat} {ad : Nat → Nat}  {sz : Nat} (hI : s_inj ad 12) (σ : Sg) (x1 : Int32) {re : Int32} {σe : Sg} (hf : fX7_width σ x1 = some (re, σe)) : Met l yX7_width (kW yX7_width cX7_width 2 (some .int)) ({ frames := 3, cells := 0, slots := 0, locals := 65 } : Room) (s_P (s_WM cy ad) G cy sa ad 12 [.ref (ad 0), .int x1] sz σ) (s_Qi (s_WM cy ad) G (s_A ad 12 sz) re σe) 0 0 (s_A ad 12 sz) := by
  refine s_met (own := RX7) (by decide) rfl hI (Nat.le_of_ble_eq_true rfl) (fun p e s m below meth c ls hsz C hP hl => ?_)
  subst hsz
  exact kX7_width C σ x1 ls _ _ hl hP va_S.rf hf
set_option maxRecDepth 100000 in
set_option maxHeartbeats 4000000 in
theorem kX7_need (C : s_X p s m meth c args cX7_need (some .int) 2 RX7 G cy sa ad 12) (σ : Sg) (x1 : Int32) (ls : Array Slot) (H : Heap) (locs : List Loc) (hl : lv_has ls 2 [(0, .ref (ad 0)), (1, .int x1)]) (hP : va_P G vwCl ((s_WM cy ad) σ) H) (hS : va_S (s_A ad 12 s.heap.size) s.heap H locs) (hf : fX7_need σ x1 = some (re, σe)) : W p l e ({ frames := 3, cells := 0, slots := 0, locals := 65 } : Room) s m args below meth c H locs 0 0 (MQ below (s_Qi (s_WM cy ad) G (s_A ad 12 s.heap.size) re σe) args s 0 0 (s_A ad 12 s.heap.size)) (F0 m 0 ls []) := by
  obtain ⟨hx, hb, hr, hml, hown, hts, hlk, hK, hE, hI⟩ := id C
  have hD : ∀ σ : Sg, va_D (s_A ad 12 s.heap.size) ((s_WM cy ad) σ) := fun σ => s_D (s_WM_ad cy ad σ) hI (fun k hk => Or.inl ⟨k, hk, rfl⟩)
  unfold fX7_need at hf
  refine lv_aload_n hx hb dX7_need_0 rfl (lv_at hl 0 rfl) ?_
  refine lv_iload_n hx hb dX7_need_1 rfl (lv_at hl 1 rfl) ?_
  refine lv_i2l (v := (Int32.toInt64 x1)) hx hb dX7_need_2 rfl ?_
  refine lv_lconst (v := 1) hx hb dX7_need_3 (by decide) ?_
  refine lv_ldc2 (v := 24) hx hb hown (hts _ kw_1088) dX7_need_4 ?_
  replace hf := s_bi_some hf
  obtain ⟨r3, σ1, hz2, hf⟩ := hf
  refine s_calliS (nn := 3) C (kcX7_in (l := l) (G := G) (cy := cy) (sa := sa) hI (sz := H.size) σ (Int32.toInt64 x1) (1 : Int64) (24 : Int64) hz2) gk_X7_54 rfl rfl (by decide +kernel) ⟨Nat.le_of_ble_eq_true rfl, Nat.le_of_ble_eq_true rfl⟩ hP hS (As := [.long (Int32.toInt64 x1), .long (1 : Int64), .long (24 : Int64)]) (rest := [.ref (ad 0)]) rfl rfl hl.1 (Nat.le_of_ble_eq_true rfl) dX7_need_7 (fun H locs hP hS => ?_)
  refine lv_bipush (v := 97) hx hb dX7_need_10 (by decide) ?_
  refine lv_iload_n hx hb dX7_need_12 rfl (lv_at hl 1 rfl) ?_
  replace hf := s_bi_some hf
  obtain ⟨r6, σ4, hz5, hf⟩ := hf
  refine s_calli (nn := 3) C (kcX7_becomes (l := l) (G := G) (cy := cy) (sa := sa) hI (sz := H.size) σ1 r3 (97 : Int32) x1 hz5) gk_X7_224 rfl rfl (by decide +kernel) ⟨Nat.le_of_ble_eq_true rfl, Nat.le_of_ble_eq_true rfl⟩ hP hS (q0 := 0) (ci := 7) rfl rfl rfl (As := [.int r3, .int (97 : Int32), .int x1]) (rest := []) rfl rfl hl.1 (Nat.le_of_ble_eq_true rfl) dX7_need_13 (fun H locs hP hS => ?_)
  obtain ⟨he1, he2⟩ := s_ret hf
  exact W.iret hx hb hr (fun t ht hW => ⟨⟨_, (), rfl, he1, s_fin (Wd := (s_WM cy ad)) ht he2 hP⟩, hS.F ht⟩) hS.2.2 dX7_need_16 hlk
theorem kcX7_need {l : Launch} {G : va_G} {cy : Nat → ClassId} {sa : Nat × Nat} {ad : Nat → Nat}  {sz : Nat} (hI : s_inj ad 12) (σ : Sg) (x1 : Int32) {re : Int32} {σe : Sg} (hf : fX7_need σ x1 = some (re, σe)) : Met l yX7_need (kW yX7_need cX7_need 2 (some .int)) ({ frames := 3, cells := 0, slots := 0, locals := 65 } : Room) (s_P (s_WM cy ad) G cy sa ad 12 [.ref (ad 0), .int x1] sz σ) (s_Qi (s_WM cy ad) G (s_A ad 12 sz) re σe) 0 0 (s_A ad 12 sz) := by
  refine s_met (own := RX7) (by decide) rfl hI (Nat.le_of_ble_eq_true rfl) (fun p e s m below meth c ls hsz C hP hl => ?_)
  subst hsz
  exact kX7_need C σ x1 ls _ _ hl hP va_S.rf hf
set_option maxRecDepth 100000 in
set_option maxHeartbeats 4000000 in
theorem kX7_part_b23 (C : s_X p s m meth c args cX7_part (some .int) 4 RX7 G cy sa ad 12) (σ : Sg) (ls : Array Slot) (H : Heap) (locs : List Loc) (hl : lv_has ls 4 []) (hP : va_P G vwCl ((s_WM cy ad) σ) H) (hS : va_S (s_A ad 12 s.heap.size) s.heap H locs) (hf : fX7_part_b23 σ = some (re, σe)) : W p l e ({ frames := 3, cells := 0, slots := 0, locals := 65 } : Room) s m args below meth c H locs 0 0 (MQ below (s_Qi (s_WM cy ad) G (s_A ad 12 s.heap.size) re σe) args s 0 0 (s_A ad 12 s.heap.size)) (F0 m 23 ls []) := by
  obtain ⟨hx, hb, hr, hml, hown, hts, hlk, hK, hE, hI⟩ := id C
  have hD : ∀ σ : Sg, va_D (s_A ad 12 s.heap.size) ((s_WM cy ad) σ) := fun σ => s_D (s_WM_ad cy ad σ) hI (fun k hk => Or.inl ⟨k, hk, rfl⟩)
  unfold fX7_part_b23 at hf
  refine lv_iconst (v := -1) hx hb dX7_part_23 (by decide) ?_
  obtain ⟨he1, he2⟩ := s_ret hf
  exact W.iret hx hb hr (fun t ht hW => ⟨⟨_, (), rfl, he1, s_fin (Wd := (s_WM cy ad)) ht he2 hP⟩, hS.F ht⟩) hS.2.2 dX7_part_24 hlk
set_option maxRecDepth 100000 in
set_option maxHeartbeats 4000000 in
theorem kX7_part (C : s_X p s m meth c args cX7_part (some .int) 4 RX7 G cy sa ad 12) (σ : Sg) (x1 : Int32) (x2 : Int32) (ls : Array Slot) (H : Heap) (locs : List Loc) (hl : lv_has ls 4 [(0, .ref (ad 0)), (1, .int x1), (2, .int x2)]) (hP : va_P G vwCl ((s_WM cy ad) σ) H) (hS : va_S (s_A ad 12 s.heap.size) s.heap H locs) (hf : fX7_part σ x1 x2 = some (re, σe)) : W p l e ({ frames := 3, cells := 0, slots := 0, locals := 65 } : Room) s m args below meth c H locs 0 0 (MQ below (s_Qi (s_WM cy ad) G (s_A ad 12 s.heap.size) re σe) args s 0 0 (s_A ad 12 s.heap.size)) (F0 m 0 ls []) := by
  obtain ⟨hx, hb, hr, hml, hown, hts, hlk, hK, hE, hI⟩ := id C
  have hD : ∀ σ : Sg, va_D (s_A ad 12 s.heap.size) ((s_WM cy ad) σ) := fun σ => s_D (s_WM_ad cy ad σ) hI (fun k hk => Or.inl ⟨k, hk, rfl⟩)
  unfold fX7_part at hf
  refine lv_iload_n hx hb dX7_part_0 rfl (lv_at hl 2 rfl) ?_
  refine lv_i2l (v := (Int32.toInt64 x2)) hx hb dX7_part_1 rfl ?_
  refine lv_lconst (v := 1) hx hb dX7_part_2 (by decide) ?_
  refine lv_ldc2 (v := 100) hx hb hown (hts _ kw_1101) dX7_part_3 ?_
  replace hf := s_bi_some hf
  obtain ⟨r3, σ1, hz2, hf⟩ := hf
  refine s_calliS (nn := 3) C (kcX7_in (l := l) (G := G) (cy := cy) (sa := sa) hI (sz := H.size) σ (Int32.toInt64 x2) (1 : Int64) (100 : Int64) hz2) gk_X7_54 rfl rfl (by decide +kernel) ⟨Nat.le_of_ble_eq_true rfl, Nat.le_of_ble_eq_true rfl⟩ hP hS (As := [.long (Int32.toInt64 x2), .long (1 : Int64), .long (100 : Int64)]) (rest := []) rfl rfl hl.1 (Nat.le_of_ble_eq_true rfl) dX7_part_6 (fun H locs hP hS => ?_)
  refine lv_if_eq (tgt := 23) hx hb dX7_part_9 (by decide) (fun c4 => ?_) (fun c4 => ?_)
  · rw [if_pos c4] at hf
    exact kX7_part_b23 C σ1 _ _ _ (lv_sub hl [] rfl) hP hS hf
  · rw [if_neg c4] at hf
    refine lv_iload_n hx hb dX7_part_12 rfl (lv_at hl 1 rfl) ?_
    refine lv_i2l (v := (Int32.toInt64 x1)) hx hb dX7_part_13 rfl ?_
    refine lv_lconst (v := 0) hx hb dX7_part_14 (by decide) ?_
    refine lv_iload_n hx hb dX7_part_15 rfl (lv_at hl 2 rfl) ?_
    refine lv_i2l (v := (Int32.toInt64 x2)) hx hb dX7_part_16 rfl ?_
    replace hf := s_bi_some hf
    obtain ⟨r7, σ5, hz6, hf⟩ := hf
    refine s_calliS (nn := 3) C (kcX7_in (l := l) (G := G) (cy := cy) (sa := sa) hI (sz := H.size) σ1 (Int32.toInt64 x1) (0 : Int64) (Int32.toInt64 x2) hz6) gk_X7_54 rfl rfl (by decide +kernel) ⟨Nat.le_of_ble_eq_true rfl, Nat.le_of_ble_eq_true rfl⟩ hP hS (As := [.long (Int32.toInt64 x1), .long (0 : Int64), .long (Int32.toInt64 x2)]) (rest := []) rfl rfl hl.1 (Nat.le_of_ble_eq_true rfl) dX7_part_17 (fun H locs hP hS => ?_)
    refine lv_if_ne (tgt := 25) hx hb dX7_part_20 (by decide) (fun c8 => ?_) (fun c8 => ?_)
    · rw [if_neg c8] at hf
      refine lv_aload_n hx hb dX7_part_25 rfl (lv_at hl 0 rfl) ?_
      refine lv_iconst (v := 1) hx hb dX7_part_26 (by decide) ?_
      refine lv_bipush (v := 98) hx hb dX7_part_27 (by decide) ?_
      refine lv_iload_n hx hb dX7_part_29 rfl (lv_at hl 1 rfl) ?_
      replace hf := s_bi_some hf
      obtain ⟨r11, σ9, hz10, hf⟩ := hf
      refine s_calli (nn := 3) C (kcX7_becomes (l := l) (G := G) (cy := cy) (sa := sa) hI (sz := H.size) σ5 (1 : Int32) (98 : Int32) x1 hz10) gk_X7_224 rfl rfl (by decide +kernel) ⟨Nat.le_of_ble_eq_true rfl, Nat.le_of_ble_eq_true rfl⟩ hP hS (q0 := 0) (ci := 7) rfl rfl rfl (As := [.int (1 : Int32), .int (98 : Int32), .int x1]) (rest := []) rfl rfl hl.1 (Nat.le_of_ble_eq_true rfl) dX7_part_30 (fun H locs hP hS => ?_)
      refine lv_istore_n (lv' := [(3, .int r11), (0, .ref (ad 0)), (1, .int x1), (2, .int x2)]) hx hb dX7_part_33 rfl hl (by decide) rfl (fun ls hl => ?_)
      refine lv_sipush (v := 1000) hx hb dX7_part_34 (by decide) ?_
      refine lv_iload_n hx hb dX7_part_37 rfl (lv_at hl 0 rfl) ?_
      refine lv_imul hx hb dX7_part_38 ?_
      refine lv_aload_n hx hb dX7_part_39 rfl (lv_at hl 1 rfl) ?_
      refine lv_iconst (v := 1) hx hb dX7_part_40 (by decide) ?_
      refine lv_bipush (v := 99) hx hb dX7_part_41 (by decide) ?_
      refine lv_iload_n hx hb dX7_part_43 rfl (lv_at hl 3 rfl) ?_
      replace hf := s_bi_some hf
      obtain ⟨r14, σ12, hz13, hf⟩ := hf
      refine s_calli (nn := 3) C (kcX7_becomes (l := l) (G := G) (cy := cy) (sa := sa) hI (sz := H.size) σ9 (1 : Int32) (99 : Int32) x2 hz13) gk_X7_224 rfl rfl (by decide +kernel) ⟨Nat.le_of_ble_eq_true rfl, Nat.le_of_ble_eq_true rfl⟩ hP hS (q0 := 0) (ci := 7) rfl rfl rfl (As := [.int (1 : Int32), .int (99 : Int32), .int x2]) (rest := [.int ((1000 : Int32) * r11)]) rfl rfl hl.1 (Nat.le_of_ble_eq_true rfl) dX7_part_44 (fun H locs hP hS => ?_)
      refine lv_iadd hx hb dX7_part_47 ?_
      obtain ⟨he1, he2⟩ := s_ret hf
      exact W.iret hx hb hr (fun t ht hW => ⟨⟨_, (), rfl, he1, s_fin (Wd := (s_WM cy ad)) ht he2 hP⟩, hS.F ht⟩) hS.2.2 dX7_part_48 hlk
    · rw [if_pos c8] at hf
      exact kX7_part_b23 C σ5 _ _ _ (lv_sub hl [] rfl) hP hS hf
theorem kcX7_part {l : Launch} {G : va_G} {cy : Nat → ClassId} {sa : Nat × Nat} {ad : Nat → Nat}  {sz : Nat} (hI : s_inj ad 12) (σ : Sg) (x1 : Int32) (x2 : Int32) {re : Int32} {σe : Sg} (hf : fX7_part σ x1 x2 = some (re, σe)) : Met l yX7_part (kW yX7_part cX7_part 4 (some .int)) ({ frames := 3, cells := 0, slots := 0, locals := 65 } : Room) (s_P (s_WM cy ad) G cy sa ad 12 [.ref (ad 0), .int x1, .int x2] sz σ) (s_Qi (s_WM cy ad) G (s_A ad 12 sz) re σe) 0 0 (s_A ad 12 sz) := by
  refine s_met (own := RX7) (by decide) rfl hI (Nat.le_of_ble_eq_true rfl) (fun p e s m below meth c ls hsz C hP hl => ?_)
  subst hsz
  exact kX7_part C σ x1 x2 ls _ _ hl hP va_S.rf hf
set_option maxRecDepth 100000 in
set_option maxHeartbeats 4000000 in
theorem kX7_choose (C : s_X p s m meth c args cX7_choose (some .int) 2 RX7 G cy sa ad 12) (σ : Sg) (x1 : Int32) (ls : Array Slot) (H : Heap) (locs : List Loc) (hl : lv_has ls 2 [(0, .ref (ad 0)), (1, .int x1)]) (hP : va_P G vwCl ((s_WM cy ad) σ) H) (hS : va_S (s_A ad 12 s.heap.size) s.heap H locs) (hf : fX7_choose σ x1 = some (re, σe)) : W p l e ({ frames := 3, cells := 0, slots := 0, locals := 65 } : Room) s m args below meth c H locs 0 0 (MQ below (s_Qi (s_WM cy ad) G (s_A ad 12 s.heap.size) re σe) args s 0 0 (s_A ad 12 s.heap.size)) (F0 m 0 ls []) := by
  obtain ⟨hx, hb, hr, hml, hown, hts, hlk, hK, hE, hI⟩ := id C
  have hD : ∀ σ : Sg, va_D (s_A ad 12 s.heap.size) ((s_WM cy ad) σ) := fun σ => s_D (s_WM_ad cy ad σ) hI (fun k hk => Or.inl ⟨k, hk, rfl⟩)
  unfold fX7_choose at hf
  refine lv_aload_n hx hb dX7_choose_0 rfl (lv_at hl 0 rfl) ?_
  refine lv_iload_n hx hb dX7_choose_1 rfl (lv_at hl 1 rfl) ?_
  refine lv_i2l (v := (Int32.toInt64 x1)) hx hb dX7_choose_2 rfl ?_
  refine lv_lconst (v := 0) hx hb dX7_choose_3 (by decide) ?_
  refine lv_ldc2 (v := 4) hx hb hown (hts _ kw_1106) dX7_choose_4 ?_
  replace hf := s_bi_some hf
  obtain ⟨r3, σ1, hz2, hf⟩ := hf
  refine s_calliS (nn := 3) C (kcX7_in (l := l) (G := G) (cy := cy) (sa := sa) hI (sz := H.size) σ (Int32.toInt64 x1) (0 : Int64) (4 : Int64) hz2) gk_X7_54 rfl rfl (by decide +kernel) ⟨Nat.le_of_ble_eq_true rfl, Nat.le_of_ble_eq_true rfl⟩ hP hS (As := [.long (Int32.toInt64 x1), .long (0 : Int64), .long (4 : Int64)]) (rest := [.ref (ad 0)]) rfl rfl hl.1 (Nat.le_of_ble_eq_true rfl) dX7_choose_7 (fun H locs hP hS => ?_)
  refine lv_bipush (v := 100) hx hb dX7_choose_10 (by decide) ?_
  refine lv_iload_n hx hb dX7_choose_12 rfl (lv_at hl 1 rfl) ?_
  replace hf := s_bi_some hf
  obtain ⟨r6, σ4, hz5, hf⟩ := hf
  refine s_calli (nn := 3) C (kcX7_becomes (l := l) (G := G) (cy := cy) (sa := sa) hI (sz := H.size) σ1 r3 (100 : Int32) x1 hz5) gk_X7_224 rfl rfl (by decide +kernel) ⟨Nat.le_of_ble_eq_true rfl, Nat.le_of_ble_eq_true rfl⟩ hP hS (q0 := 0) (ci := 7) rfl rfl rfl (As := [.int r3, .int (100 : Int32), .int x1]) (rest := []) rfl rfl hl.1 (Nat.le_of_ble_eq_true rfl) dX7_choose_13 (fun H locs hP hS => ?_)
  obtain ⟨he1, he2⟩ := s_ret hf
  exact W.iret hx hb hr (fun t ht hW => ⟨⟨_, (), rfl, he1, s_fin (Wd := (s_WM cy ad)) ht he2 hP⟩, hS.F ht⟩) hS.2.2 dX7_choose_16 hlk
theorem kcX7_choose {l : Launch} {G : va_G} {cy : Nat → ClassId} {sa : Nat × Nat} {ad : Nat → Nat}  {sz : Nat} (hI : s_inj ad 12) (σ : Sg) (x1 : Int32) {re : Int32} {σe : Sg} (hf : fX7_choose σ x1 = some (re, σe)) : Met l yX7_choose (kW yX7_choose cX7_choose 2 (some .int)) ({ frames := 3, cells := 0, slots := 0, locals := 65 } : Room) (s_P (s_WM cy ad) G cy sa ad 12 [.ref (ad 0), .int x1] sz σ) (s_Qi (s_WM cy ad) G (s_A ad 12 sz) re σe) 0 0 (s_A ad 12 sz) := by
  refine s_met (own := RX7) (by decide) rfl hI (Nat.le_of_ble_eq_true rfl) (fun p e s m below meth c ls hsz C hP hl => ?_)
  subst hsz
  exact kX7_choose C σ x1 ls _ _ hl hP va_S.rf hf
set_option maxRecDepth 100000 in
set_option maxHeartbeats 4000000 in
theorem kX7_form (C : s_X p s m meth c args cX7_form (some .int) 2 RX7 G cy sa ad 12) (σ : Sg) (x1 : Int32) (ls : Array Slot) (H : Heap) (locs : List Loc) (hl : lv_has ls 2 [(0, .ref (ad 0)), (1, .int x1)]) (hP : va_P G vwCl ((s_WM cy ad) σ) H) (hS : va_S (s_A ad 12 s.heap.size) s.heap H locs) (hf : fX7_form σ x1 = some (re, σe)) : W p l e ({ frames := 3, cells := 0, slots := 0, locals := 65 } : Room) s m args below meth c H locs 0 0 (MQ below (s_Qi (s_WM cy ad) G (s_A ad 12 s.heap.size) re σe) args s 0 0 (s_A ad 12 s.heap.size)) (F0 m 0 ls []) := by
  obtain ⟨hx, hb, hr, hml, hown, hts, hlk, hK, hE, hI⟩ := id C
  have hD : ∀ σ : Sg, va_D (s_A ad 12 s.heap.size) ((s_WM cy ad) σ) := fun σ => s_D (s_WM_ad cy ad σ) hI (fun k hk => Or.inl ⟨k, hk, rfl⟩)
  unfold fX7_form at hf
  refine lv_aload_n hx hb dX7_form_0 rfl (lv_at hl 0 rfl) ?_
  refine lv_iload_n hx hb dX7_form_1 rfl (lv_at hl 1 rfl) ?_
  refine lv_i2l (v := (Int32.toInt64 x1)) hx hb dX7_form_2 rfl ?_
  refine lv_lconst (v := 0) hx hb dX7_form_3 (by decide) ?_
  refine lv_ldc2 (v := 2) hx hb hown (hts _ kw_976) dX7_form_4 ?_
  replace hf := s_bi_some hf
  obtain ⟨r3, σ1, hz2, hf⟩ := hf
  refine s_calliS (nn := 3) C (kcX7_in (l := l) (G := G) (cy := cy) (sa := sa) hI (sz := H.size) σ (Int32.toInt64 x1) (0 : Int64) (2 : Int64) hz2) gk_X7_54 rfl rfl (by decide +kernel) ⟨Nat.le_of_ble_eq_true rfl, Nat.le_of_ble_eq_true rfl⟩ hP hS (As := [.long (Int32.toInt64 x1), .long (0 : Int64), .long (2 : Int64)]) (rest := [.ref (ad 0)]) rfl rfl hl.1 (Nat.le_of_ble_eq_true rfl) dX7_form_7 (fun H locs hP hS => ?_)
  refine lv_bipush (v := 101) hx hb dX7_form_10 (by decide) ?_
  refine lv_iload_n hx hb dX7_form_12 rfl (lv_at hl 1 rfl) ?_
  replace hf := s_bi_some hf
  obtain ⟨r6, σ4, hz5, hf⟩ := hf
  refine s_calli (nn := 3) C (kcX7_becomes (l := l) (G := G) (cy := cy) (sa := sa) hI (sz := H.size) σ1 r3 (101 : Int32) x1 hz5) gk_X7_224 rfl rfl (by decide +kernel) ⟨Nat.le_of_ble_eq_true rfl, Nat.le_of_ble_eq_true rfl⟩ hP hS (q0 := 0) (ci := 7) rfl rfl rfl (As := [.int r3, .int (101 : Int32), .int x1]) (rest := []) rfl rfl hl.1 (Nat.le_of_ble_eq_true rfl) dX7_form_13 (fun H locs hP hS => ?_)
  obtain ⟨he1, he2⟩ := s_ret hf
  exact W.iret hx hb hr (fun t ht hW => ⟨⟨_, (), rfl, he1, s_fin (Wd := (s_WM cy ad)) ht he2 hP⟩, hS.F ht⟩) hS.2.2 dX7_form_16 hlk
theorem kcX7_form {l : Launch} {G : va_G} {cy : Nat → ClassId} {sa : Nat × Nat} {ad : Nat → Nat}  {sz : Nat} (hI : s_inj ad 12) (σ : Sg) (x1 : Int32) {re : Int32} {σe : Sg} (hf : fX7_form σ x1 = some (re, σe)) : Met l yX7_form (kW yX7_form cX7_form 2 (some .int)) ({ frames := 3, cells := 0, slots := 0, locals := 65 } : Room) (s_P (s_WM cy ad) G cy sa ad 12 [.ref (ad 0), .int x1] sz σ) (s_Qi (s_WM cy ad) G (s_A ad 12 sz) re σe) 0 0 (s_A ad 12 sz) := by
  refine s_met (own := RX7) (by decide) rfl hI (Nat.le_of_ble_eq_true rfl) (fun p e s m below meth c ls hsz C hP hl => ?_)
  subst hsz
  exact kX7_form C σ x1 ls _ _ hl hP va_S.rf hf
set_option maxRecDepth 100000 in
set_option maxHeartbeats 4000000 in
theorem kX7_latest_b7 (C : s_X p s m meth c args cX7_latest (some .int) 2 RX7 G cy sa ad 12) (k7 : Sg → Int32 → Option (Int32 × Sg)) (hk7 : ∀ (σ : Sg) (x1 : Int32) (ls : Array Slot) (H : Heap) (locs : List Loc), lv_has ls 2 [(0, .ref (ad 0)), (1, .int x1)] → va_P G vwCl ((s_WM cy ad) σ) H → va_S (s_A ad 12 s.heap.size) s.heap H locs → k7 σ x1 = some (re, σe) → W p l e ({ frames := 1, cells := 0, slots := 0, locals := 20 } : Room) s m args below meth c H locs 0 0 (MQ below (s_Qi (s_WM cy ad) G (s_A ad 12 s.heap.size) re σe) args s 0 0 (s_A ad 12 s.heap.size)) (F0 m 7 ls [])) (σ : Sg) (x1 : Int32) (ls : Array Slot) (H : Heap) (locs : List Loc) (hl : lv_has ls 2 [(0, .ref (ad 0)), (1, .int x1)]) (hP : va_P G vwCl ((s_WM cy ad) σ) H) (hS : va_S (s_A ad 12 s.heap.size) s.heap H locs) (hf : fX7_latest_b7 k7 σ x1 = some (re, σe)) : W p l e ({ frames := 1, cells := 0, slots := 0, locals := 20 } : Room) s m args below meth c H locs 0 0 (MQ below (s_Qi (s_WM cy ad) G (s_A ad 12 s.heap.size) re σe) args s 0 0 (s_A ad 12 s.heap.size)) (F0 m 7 ls []) := by
  obtain ⟨hx, hb, hr, hml, hown, hts, hlk, hK, hE, hI⟩ := id C
  have hD : ∀ σ : Sg, va_D (s_A ad 12 s.heap.size) ((s_WM cy ad) σ) := fun σ => s_D (s_WM_ad cy ad σ) hI (fun k hk => Or.inl ⟨k, hk, rfl⟩)
  unfold fX7_latest_b7 at hf
  refine lv_iload_n hx hb dX7_latest_7 rfl (lv_at hl 1 rfl) ?_
  refine lv_if_lt (tgt := 35) hx hb dX7_latest_8 (by decide) (fun c1 => ?_) (fun c1 => ?_)
  · rw [if_pos c1] at hf
    refine lv_iconst (v := 0) hx hb dX7_latest_35 (by decide) ?_
    obtain ⟨he1, he2⟩ := s_ret hf
    exact W.iret hx hb hr (fun t ht hW => ⟨⟨_, (), rfl, he1, s_fin (Wd := (s_WM cy ad)) ht he2 hP⟩, hS.F ht⟩) hS.2.2 dX7_latest_36 hlk
  · rw [if_neg c1] at hf
    refine lv_aload_n hx hb dX7_latest_11 rfl (lv_at hl 0 rfl) ?_
    refine va_get (D := G) (ci := 7) (v := .ref (ad 1)) (C := RX7) (T := TX7) (N := 28) hx hb hts inkX7 hown hK hP 0 rfl rfl 0 (by decide) (hts _ kw_782) (fun _ h9 => h9) rfl dX7_latest_12 ?_
    refine lv_iload_n hx hb dX7_latest_15 rfl (lv_at hl 1 rfl) ?_
    replace hf := s_gd_some hf
    obtain ⟨g2, hf⟩ := hf
    refine va_iald hx hb hK hP 1 1 rfl rfl (s_in_of g2) dX7_latest_16 ?_
    refine lv_ldc (v := 100000000) hx hb hown (hts _ kw_936) dX7_latest_17 ?_
    refine lv_icmp_eq (tgt := 29) hx hb dX7_latest_19 (by decide) (fun c3 => ?_) (fun c3 => ?_)
    · rw [if_pos c3] at hf
      obtain ⟨t4, et4⟩ : ∃ z : Int32, z = (x1 + (-1)) := ⟨_, rfl⟩
      replace hf := s_lt_at et4 hf
      refine lv_iinc (v := t4) (lv' := [(1, .int t4), (0, .ref (ad 0))]) hx hb dX7_latest_29 hl (k := 1) rfl (by rw [et4]; rfl) (by decide) rfl (fun ls hl => ?_)
      refine lv_goto (tgt := 7) hx hb dX7_latest_32 (by decide) ?_
      exact hk7 σ t4 _ _ _ (lv_sub hl [1, 0] rfl) hP hS hf
    · rw [if_neg c3] at hf
      refine lv_aload_n hx hb dX7_latest_22 rfl (lv_at hl 0 rfl) ?_
      refine va_get (D := G) (ci := 7) (v := .ref (ad 1)) (C := RX7) (T := TX7) (N := 28) hx hb hts inkX7 hown hK hP 0 rfl rfl 0 (by decide) (hts _ kw_782) (fun _ h9 => h9) rfl dX7_latest_23 ?_
      refine lv_iload_n hx hb dX7_latest_26 rfl (lv_at hl 1 rfl) ?_
      replace hf := s_gd_some hf
      obtain ⟨g5, hf⟩ := hf
      refine va_iald hx hb hK hP 1 1 rfl rfl (s_in_of g5) dX7_latest_27 ?_
      obtain ⟨he1, he2⟩ := s_ret hf
      exact W.iret hx hb hr (fun t ht hW => ⟨⟨_, (), rfl, he1, s_fin (Wd := (s_WM cy ad)) ht he2 hP⟩, hS.F ht⟩) hS.2.2 dX7_latest_28 hlk
set_option maxRecDepth 100000 in
set_option maxHeartbeats 4000000 in
theorem kX7_latest_b7_L (C : s_X p s m meth c args cX7_latest (some .int) 2 RX7 G cy sa ad 12) : ∀ (n : Nat), ∀ (σ : Sg) (x1 : Int32) (ls : Array Slot) (H : Heap) (locs : List Loc), lv_has ls 2 [(0, .ref (ad 0)), (1, .int x1)] → va_P G vwCl ((s_WM cy ad) σ) H → va_S (s_A ad 12 s.heap.size) s.heap H locs → fX7_latest_b7_L n σ x1 = some (re, σe) → W p l e ({ frames := 1, cells := 0, slots := 0, locals := 20 } : Room) s m args below meth c H locs 0 0 (MQ below (s_Qi (s_WM cy ad) G (s_A ad 12 s.heap.size) re σe) args s 0 0 (s_A ad 12 s.heap.size)) (F0 m 7 ls []) := by
  intro n
  induction n with
  | zero => intro σ x1 ls H locs hl hP hS hf; exact absurd (show (none : Option (Int32 × Sg)) = some (re, σe) from hf) (by intro h; cases h)
  | succ n ih => intro σ x1 ls H locs hl hP hS hf; exact kX7_latest_b7 C (fX7_latest_b7_L n) ih σ x1 ls H locs hl hP hS hf
set_option maxRecDepth 100000 in
set_option maxHeartbeats 4000000 in
theorem kX7_latest (C : s_X p s m meth c args cX7_latest (some .int) 2 RX7 G cy sa ad 12) (σ : Sg) (ls : Array Slot) (H : Heap) (locs : List Loc) (hl : lv_has ls 2 [(0, .ref (ad 0))]) (hP : va_P G vwCl ((s_WM cy ad) σ) H) (hS : va_S (s_A ad 12 s.heap.size) s.heap H locs) (hf : fX7_latest σ = some (re, σe)) : W p l e ({ frames := 1, cells := 0, slots := 0, locals := 20 } : Room) s m args below meth c H locs 0 0 (MQ below (s_Qi (s_WM cy ad) G (s_A ad 12 s.heap.size) re σe) args s 0 0 (s_A ad 12 s.heap.size)) (F0 m 0 ls []) := by
  obtain ⟨hx, hb, hr, hml, hown, hts, hlk, hK, hE, hI⟩ := id C
  have hD : ∀ σ : Sg, va_D (s_A ad 12 s.heap.size) ((s_WM cy ad) σ) := fun σ => s_D (s_WM_ad cy ad σ) hI (fun k hk => Or.inl ⟨k, hk, rfl⟩)
  unfold fX7_latest at hf
  refine lv_aload_n hx hb dX7_latest_0 rfl (lv_at hl 0 rfl) ?_
  replace hf := s_bi_some hf
  obtain ⟨r3, σ1, hz2, hf⟩ := hf
  refine s_calli (nn := 0) C (kcX7_many (l := l) (G := G) (cy := cy) (sa := sa) hI (sz := H.size) σ hz2) gk_X7_141 rfl rfl (by decide +kernel) ⟨Nat.le_of_ble_eq_true rfl, Nat.le_of_ble_eq_true rfl⟩ hP hS (q0 := 0) (ci := 7) rfl rfl rfl (As := []) (rest := []) rfl rfl hl.1 (Nat.le_of_ble_eq_true rfl) dX7_latest_1 (fun H locs hP hS => ?_)
  refine lv_iconst (v := 1) hx hb dX7_latest_4 (by decide) ?_
  refine lv_isub hx hb dX7_latest_5 ?_
  refine lv_topi (fun t4 et4 => ?_)
  replace hf := s_lt_at et4 hf
  refine lv_istore_n (lv' := [(1, .int t4), (0, .ref (ad 0))]) hx hb dX7_latest_6 rfl hl (by decide) rfl (fun ls hl => ?_)
  exact kX7_latest_b7_L C s_fu σ1 t4 _ _ _ (lv_sub hl [1, 0] rfl) hP hS hf
theorem kcX7_latest {l : Launch} {G : va_G} {cy : Nat → ClassId} {sa : Nat × Nat} {ad : Nat → Nat}  {sz : Nat} (hI : s_inj ad 12) (σ : Sg) {re : Int32} {σe : Sg} (hf : fX7_latest σ = some (re, σe)) : Met l yX7_latest (kW yX7_latest cX7_latest 2 (some .int)) ({ frames := 1, cells := 0, slots := 0, locals := 20 } : Room) (s_P (s_WM cy ad) G cy sa ad 12 [.ref (ad 0)] sz σ) (s_Qi (s_WM cy ad) G (s_A ad 12 sz) re σe) 0 0 (s_A ad 12 sz) := by
  refine s_met (own := RX7) (by decide) rfl hI (Nat.le_of_ble_eq_true rfl) (fun p e s m below meth c ls hsz C hP hl => ?_)
  subst hsz
  exact kX7_latest C σ ls _ _ hl hP va_S.rf hf
set_option maxRecDepth 100000 in
set_option maxHeartbeats 4000000 in
theorem kX7_drift_b131 (C : s_X p s m meth c args cX7_drift (some .int) 7 RX7 G cy sa ad 12) (σ : Sg) (x4 : Int32) (ls : Array Slot) (H : Heap) (locs : List Loc) (hl : lv_has ls 7 [(4, .int x4)]) (hP : va_P G vwCl ((s_WM cy ad) σ) H) (hS : va_S (s_A ad 12 s.heap.size) s.heap H locs) (hf : fX7_drift_b131 σ x4 = some (re, σe)) : W p l e ({ frames := 2, cells := 0, slots := 0, locals := 41 } : Room) s m args below meth c H locs 0 0 (MQ below (s_Qi (s_WM cy ad) G (s_A ad 12 s.heap.size) re σe) args s 0 0 (s_A ad 12 s.heap.size)) (F0 m 131 ls []) := by
  obtain ⟨hx, hb, hr, hml, hown, hts, hlk, hK, hE, hI⟩ := id C
  have hD : ∀ σ : Sg, va_D (s_A ad 12 s.heap.size) ((s_WM cy ad) σ) := fun σ => s_D (s_WM_ad cy ad σ) hI (fun k hk => Or.inl ⟨k, hk, rfl⟩)
  unfold fX7_drift_b131 at hf
  refine lv_iload hx hb dX7_drift_131 (lv_at hl 0 rfl) ?_
  obtain ⟨he1, he2⟩ := s_ret hf
  exact W.iret hx hb hr (fun t ht hW => ⟨⟨_, (), rfl, he1, s_fin (Wd := (s_WM cy ad)) ht he2 hP⟩, hS.F ht⟩) hS.2.2 dX7_drift_133 hlk
set_option maxRecDepth 100000 in
set_option maxHeartbeats 4000000 in
theorem kX7_drift_b121 (C : s_X p s m meth c args cX7_drift (some .int) 7 RX7 G cy sa ad 12) (k23 : Sg → Int32 → Int32 → Int32 → Option (Int32 × Sg)) (hk23 : ∀ (σ : Sg) (x2 : Int32) (x3 : Int32) (x4 : Int32) (ls : Array Slot) (H : Heap) (locs : List Loc), lv_has ls 7 [(0, .ref (ad 0)), (2, .int x2), (3, .int x3), (4, .int x4)] → va_P G vwCl ((s_WM cy ad) σ) H → va_S (s_A ad 12 s.heap.size) s.heap H locs → k23 σ x2 x3 x4 = some (re, σe) → W p l e ({ frames := 2, cells := 0, slots := 0, locals := 41 } : Room) s m args below meth c H locs 0 0 (MQ below (s_Qi (s_WM cy ad) G (s_A ad 12 s.heap.size) re σe) args s 0 0 (s_A ad 12 s.heap.size)) (F0 m 23 ls [])) (σ : Sg) (x2 : Int32) (x3 : Int32) (x4 : Int32) (y1 : Int32) (ls : Array Slot) (H : Heap) (locs : List Loc) (hl : lv_has ls 7 [(0, .ref (ad 0)), (2, .int x2), (3, .int x3), (4, .int x4)]) (hP : va_P G vwCl ((s_WM cy ad) σ) H) (hS : va_S (s_A ad 12 s.heap.size) s.heap H locs) (hf : fX7_drift_b121 k23 σ x2 x3 x4 y1 = some (re, σe)) : W p l e ({ frames := 2, cells := 0, slots := 0, locals := 41 } : Room) s m args below meth c H locs 0 0 (MQ below (s_Qi (s_WM cy ad) G (s_A ad 12 s.heap.size) re σe) args s 0 0 (s_A ad 12 s.heap.size)) (F0 m 121 ls [.int y1, .ref (ad 0)]) := by
  obtain ⟨hx, hb, hr, hml, hown, hts, hlk, hK, hE, hI⟩ := id C
  have hD : ∀ σ : Sg, va_D (s_A ad 12 s.heap.size) ((s_WM cy ad) σ) := fun σ => s_D (s_WM_ad cy ad σ) hI (fun k hk => Or.inl ⟨k, hk, rfl⟩)
  unfold fX7_drift_b121 at hf
  replace hf := s_bi_some hf
  obtain ⟨r3, σ1, hz2, hf⟩ := hf
  refine s_calli (nn := 1) C (kcX7_comes (l := l) (G := G) (cy := cy) (sa := sa) hI (sz := H.size) σ y1 hz2) gk_X7_219 rfl rfl (by decide +kernel) ⟨Nat.le_of_ble_eq_true rfl, Nat.le_of_ble_eq_true rfl⟩ hP hS (q0 := 0) (ci := 7) rfl rfl rfl (As := [.int y1]) (rest := []) rfl rfl hl.1 (Nat.le_of_ble_eq_true rfl) dX7_drift_121 (fun H locs hP hS => ?_)
  refine lv_pop hx hb dX7_drift_124 rfl ?_
  obtain ⟨t4, et4⟩ : ∃ z : Int32, z = (x4 + 1) := ⟨_, rfl⟩
  replace hf := s_lt_at et4 hf
  refine lv_iinc (v := t4) (lv' := [(4, .int t4), (0, .ref (ad 0)), (2, .int x2), (3, .int x3)]) hx hb dX7_drift_125 hl (k := 3) rfl (by rw [et4]; rfl) (by decide) rfl (fun ls hl => ?_)
  refine lv_goto (tgt := 23) hx hb dX7_drift_128 (by decide) ?_
  exact hk23 σ1 x2 x3 t4 _ _ _ (lv_sub hl [1, 2, 3, 0] rfl) hP hS hf
set_option maxRecDepth 100000 in
set_option maxHeartbeats 4000000 in
theorem kX7_drift_b103 (C : s_X p s m meth c args cX7_drift (some .int) 7 RX7 G cy sa ad 12) (k23 : Sg → Int32 → Int32 → Int32 → Option (Int32 × Sg)) (hk23 : ∀ (σ : Sg) (x2 : Int32) (x3 : Int32) (x4 : Int32) (ls : Array Slot) (H : Heap) (locs : List Loc), lv_has ls 7 [(0, .ref (ad 0)), (2, .int x2), (3, .int x3), (4, .int x4)] → va_P G vwCl ((s_WM cy ad) σ) H → va_S (s_A ad 12 s.heap.size) s.heap H locs → k23 σ x2 x3 x4 = some (re, σe) → W p l e ({ frames := 2, cells := 0, slots := 0, locals := 41 } : Room) s m args below meth c H locs 0 0 (MQ below (s_Qi (s_WM cy ad) G (s_A ad 12 s.heap.size) re σe) args s 0 0 (s_A ad 12 s.heap.size)) (F0 m 23 ls [])) (σ : Sg) (x2 : Int32) (x3 : Int32) (x4 : Int32) (x5 : Int32) (y0 : Int32) (ls : Array Slot) (H : Heap) (locs : List Loc) (hl : lv_has ls 7 [(0, .ref (ad 0)), (2, .int x2), (3, .int x3), (4, .int x4), (5, .int x5)]) (hP : va_P G vwCl ((s_WM cy ad) σ) H) (hS : va_S (s_A ad 12 s.heap.size) s.heap H locs) (hf : fX7_drift_b103 k23 σ x2 x3 x4 x5 y0 = some (re, σe)) : W p l e ({ frames := 2, cells := 0, slots := 0, locals := 41 } : Room) s m args below meth c H locs 0 0 (MQ below (s_Qi (s_WM cy ad) G (s_A ad 12 s.heap.size) re σe) args s 0 0 (s_A ad 12 s.heap.size)) (F0 m 103 ls [.int y0]) := by
  obtain ⟨hx, hb, hr, hml, hown, hts, hlk, hK, hE, hI⟩ := id C
  have hD : ∀ σ : Sg, va_D (s_A ad 12 s.heap.size) ((s_WM cy ad) σ) := fun σ => s_D (s_WM_ad cy ad σ) hI (fun k hk => Or.inl ⟨k, hk, rfl⟩)
  unfold fX7_drift_b103 at hf
  refine lv_istore (lv' := [(6, .int y0), (0, .ref (ad 0)), (2, .int x2), (3, .int x3), (4, .int x4), (5, .int x5)]) hx hb dX7_drift_103 hl (by decide) rfl (fun ls hl => ?_)
  refine lv_aload_n hx hb dX7_drift_105 rfl (lv_at hl 1 rfl) ?_
  refine lv_iload hx hb dX7_drift_106 (lv_at hl 5 rfl) ?_
  refine lv_bipush (v := 9) hx hb dX7_drift_108 (by decide) ?_
  refine lv_irem hx hb dX7_drift_110 (by decide) ?_
  refine lv_topi (fun t1 et1 => ?_)
  replace hf := s_lt_at et1 hf
  refine lv_if_ne (tgt := 119) hx hb dX7_drift_111 (by decide) (fun c2 => ?_) (fun c2 => ?_)
  · rw [if_neg c2] at hf
    refine lv_iload hx hb dX7_drift_119 (lv_at hl 0 rfl) ?_
    exact kX7_drift_b121 C k23 hk23 σ x2 x3 x4 y0 _ _ _ (lv_sub hl [1, 2, 3, 4] rfl) hP hS hf
  · rw [if_pos c2] at hf
    refine lv_ldc (v := 100000000) hx hb hown (hts _ kw_936) dX7_drift_114 ?_
    refine lv_goto (tgt := 121) hx hb dX7_drift_116 (by decide) ?_
    exact kX7_drift_b121 C k23 hk23 σ x2 x3 x4 (100000000 : Int32) _ _ _ (lv_sub hl [1, 2, 3, 4] rfl) hP hS hf
set_option maxRecDepth 100000 in
set_option maxHeartbeats 4000000 in
theorem kX7_drift_b23 (C : s_X p s m meth c args cX7_drift (some .int) 7 RX7 G cy sa ad 12) (k23 : Sg → Int32 → Int32 → Int32 → Option (Int32 × Sg)) (hk23 : ∀ (σ : Sg) (x2 : Int32) (x3 : Int32) (x4 : Int32) (ls : Array Slot) (H : Heap) (locs : List Loc), lv_has ls 7 [(0, .ref (ad 0)), (2, .int x2), (3, .int x3), (4, .int x4)] → va_P G vwCl ((s_WM cy ad) σ) H → va_S (s_A ad 12 s.heap.size) s.heap H locs → k23 σ x2 x3 x4 = some (re, σe) → W p l e ({ frames := 2, cells := 0, slots := 0, locals := 41 } : Room) s m args below meth c H locs 0 0 (MQ below (s_Qi (s_WM cy ad) G (s_A ad 12 s.heap.size) re σe) args s 0 0 (s_A ad 12 s.heap.size)) (F0 m 23 ls [])) (σ : Sg) (x2 : Int32) (x3 : Int32) (x4 : Int32) (ls : Array Slot) (H : Heap) (locs : List Loc) (hl : lv_has ls 7 [(0, .ref (ad 0)), (2, .int x2), (3, .int x3), (4, .int x4)]) (hP : va_P G vwCl ((s_WM cy ad) σ) H) (hS : va_S (s_A ad 12 s.heap.size) s.heap H locs) (hf : fX7_drift_b23 k23 σ x2 x3 x4 = some (re, σe)) : W p l e ({ frames := 2, cells := 0, slots := 0, locals := 41 } : Room) s m args below meth c H locs 0 0 (MQ below (s_Qi (s_WM cy ad) G (s_A ad 12 s.heap.size) re σe) args s 0 0 (s_A ad 12 s.heap.size)) (F0 m 23 ls []) := by
  obtain ⟨hx, hb, hr, hml, hown, hts, hlk, hK, hE, hI⟩ := id C
  have hD : ∀ σ : Sg, va_D (s_A ad 12 s.heap.size) ((s_WM cy ad) σ) := fun σ => s_D (s_WM_ad cy ad σ) hI (fun k hk => Or.inl ⟨k, hk, rfl⟩)
  unfold fX7_drift_b23 at hf
  refine lv_iload hx hb dX7_drift_23 (lv_at hl 3 rfl) ?_
  refine lv_iload_n hx hb dX7_drift_25 rfl (lv_at hl 1 rfl) ?_
  refine lv_icmp_ge (tgt := 131) hx hb dX7_drift_26 (by decide) (fun c1 => ?_) (fun c1 => ?_)
  · rw [if_pos c1] at hf
    exact kX7_drift_b131 C σ x4 _ _ _ (lv_sub hl [3] rfl) hP hS hf
  · rw [if_neg c1] at hf
    refine lv_aload_n hx hb dX7_drift_29 rfl (lv_at hl 0 rfl) ?_
    replace hf := s_bi_some hf
    obtain ⟨r4, σ2, hz3, hf⟩ := hf
    refine s_calli (nn := 0) C (kcX7_many (l := l) (G := G) (cy := cy) (sa := sa) hI (sz := H.size) σ hz3) gk_X7_141 rfl rfl (by decide +kernel) ⟨Nat.le_of_ble_eq_true rfl, Nat.le_of_ble_eq_true rfl⟩ hP hS (q0 := 0) (ci := 7) rfl rfl rfl (As := []) (rest := []) rfl rfl hl.1 (Nat.le_of_ble_eq_true rfl) dX7_drift_30 (fun H locs hP hS => ?_)
    refine lv_bipush (v := 96) hx hb dX7_drift_33 (by decide) ?_
    refine lv_icmp_ge (tgt := 131) hx hb dX7_drift_35 (by decide) (fun c5 => ?_) (fun c5 => ?_)
    · rw [if_pos c5] at hf
      exact kX7_drift_b131 C σ2 x4 _ _ _ (lv_sub hl [3] rfl) hP hS hf
    · rw [if_neg c5] at hf
      refine lv_iload_n hx hb dX7_drift_38 rfl (lv_at hl 2 rfl) ?_
      refine lv_ldc (v := 1103515245) hx hb hown (hts _ kw_1115) dX7_drift_39 ?_
      refine lv_imul hx hb dX7_drift_41 ?_
      refine lv_sipush (v := 12345) hx hb dX7_drift_42 (by decide) ?_
      refine lv_iadd hx hb dX7_drift_45 ?_
      refine lv_topi (fun t6 et6 => ?_)
      replace hf := s_lt_at et6 hf
      refine lv_istore_n (lv' := [(3, .int t6), (0, .ref (ad 0)), (2, .int x2), (4, .int x4)]) hx hb dX7_drift_46 rfl hl (by decide) rfl (fun ls hl => ?_)
      refine lv_iload_n hx hb dX7_drift_47 rfl (lv_at hl 0 rfl) ?_
      refine lv_bipush (v := 16) hx hb dX7_drift_48 (by decide) ?_
      refine lv_ishr hx hb dX7_drift_50 ?_
      refine lv_sipush (v := 32767) hx hb dX7_drift_51 (by decide) ?_
      refine lv_iand hx hb dX7_drift_54 ?_
      refine lv_topi (fun t7 et7 => ?_)
      replace hf := s_lt_at et7 hf
      refine lv_istore (lv' := [(5, .int t7), (3, .int t6), (0, .ref (ad 0)), (2, .int x2), (4, .int x4)]) hx hb dX7_drift_55 hl (by decide) rfl (fun ls hl => ?_)
      refine lv_aload_n hx hb dX7_drift_57 rfl (lv_at hl 2 rfl) ?_
      replace hf := s_bi_some hf
      obtain ⟨r10, σ8, hz9, hf⟩ := hf
      refine s_calli (nn := 0) C (kcX7_latest (l := l) (G := G) (cy := cy) (sa := sa) hI (sz := H.size) σ2 hz9) gk_X7_233 rfl rfl (by decide +kernel) ⟨Nat.le_of_ble_eq_true rfl, Nat.le_of_ble_eq_true rfl⟩ hP hS (q0 := 0) (ci := 7) rfl rfl rfl (As := []) (rest := []) rfl rfl hl.1 (Nat.le_of_ble_eq_true rfl) dX7_drift_58 (fun H locs hP hS => ?_)
      refine lv_iload hx hb dX7_drift_61 (lv_at hl 0 rfl) ?_
      refine lv_bipush (v := 16) hx hb dX7_drift_63 (by decide) ?_
      refine lv_idiv hx hb dX7_drift_65 (by decide) ?_
      refine lv_sipush (v := 401) hx hb dX7_drift_66 (by decide) ?_
      refine lv_irem hx hb dX7_drift_69 (by decide) ?_
      refine lv_topi (fun t11 et11 => ?_)
      replace hf := s_lt_at et11 hf
      refine lv_iadd hx hb dX7_drift_70 ?_
      refine lv_sipush (v := 200) hx hb dX7_drift_71 (by decide) ?_
      refine lv_isub hx hb dX7_drift_74 ?_
      refine lv_topi (fun t12 et12 => ?_)
      replace hf := s_lt_at et12 hf
      refine lv_istore (lv' := [(6, .int t12), (5, .int t7), (3, .int t6), (0, .ref (ad 0)), (2, .int x2), (4, .int x4)]) hx hb dX7_drift_75 hl (by decide) rfl (fun ls hl => ?_)
      refine lv_iload hx hb dX7_drift_77 (lv_at hl 0 rfl) ?_
      refine lv_ldc (v := -999999) hx hb hown (hts _ kw_1120) dX7_drift_79 ?_
      refine lv_icmp_ge (tgt := 89) hx hb dX7_drift_81 (by decide) (fun c13 => ?_) (fun c13 => ?_)
      · rw [if_pos c13] at hf
        refine lv_iload hx hb dX7_drift_89 (lv_at hl 0 rfl) ?_
        refine lv_ldc (v := 999999) hx hb hown (hts _ kw_1121) dX7_drift_91 ?_
        refine lv_icmp_le (tgt := 101) hx hb dX7_drift_93 (by decide) (fun c14 => ?_) (fun c14 => ?_)
        · rw [if_pos c14] at hf
          refine lv_iload hx hb dX7_drift_101 (lv_at hl 0 rfl) ?_
          exact kX7_drift_b103 C k23 hk23 σ8 x2 t6 x4 t7 t12 _ _ _ (lv_sub hl [3, 4, 2, 5, 1] rfl) hP hS hf
        · rw [if_neg c14] at hf
          refine lv_ldc (v := 999999) hx hb hown (hts _ kw_1121) dX7_drift_96 ?_
          refine lv_goto (tgt := 103) hx hb dX7_drift_98 (by decide) ?_
          exact kX7_drift_b103 C k23 hk23 σ8 x2 t6 x4 t7 (999999 : Int32) _ _ _ (lv_sub hl [3, 4, 2, 5, 1] rfl) hP hS hf
      · rw [if_neg c13] at hf
        refine lv_ldc (v := -999999) hx hb hown (hts _ kw_1120) dX7_drift_84 ?_
        refine lv_goto (tgt := 103) hx hb dX7_drift_86 (by decide) ?_
        exact kX7_drift_b103 C k23 hk23 σ8 x2 t6 x4 t7 (-999999 : Int32) _ _ _ (lv_sub hl [3, 4, 2, 5, 1] rfl) hP hS hf
set_option maxRecDepth 100000 in
set_option maxHeartbeats 4000000 in
theorem kX7_drift_b23_L (C : s_X p s m meth c args cX7_drift (some .int) 7 RX7 G cy sa ad 12) : ∀ (n : Nat), ∀ (σ : Sg) (x2 : Int32) (x3 : Int32) (x4 : Int32) (ls : Array Slot) (H : Heap) (locs : List Loc), lv_has ls 7 [(0, .ref (ad 0)), (2, .int x2), (3, .int x3), (4, .int x4)] → va_P G vwCl ((s_WM cy ad) σ) H → va_S (s_A ad 12 s.heap.size) s.heap H locs → fX7_drift_b23_L n σ x2 x3 x4 = some (re, σe) → W p l e ({ frames := 2, cells := 0, slots := 0, locals := 41 } : Room) s m args below meth c H locs 0 0 (MQ below (s_Qi (s_WM cy ad) G (s_A ad 12 s.heap.size) re σe) args s 0 0 (s_A ad 12 s.heap.size)) (F0 m 23 ls []) := by
  intro n
  induction n with
  | zero => intro σ x2 x3 x4 ls H locs hl hP hS hf; exact absurd (show (none : Option (Int32 × Sg)) = some (re, σe) from hf) (by intro h; cases h)
  | succ n ih => intro σ x2 x3 x4 ls H locs hl hP hS hf; exact kX7_drift_b23 C (fX7_drift_b23_L n) ih σ x2 x3 x4 ls H locs hl hP hS hf
set_option maxRecDepth 100000 in
set_option maxHeartbeats 4000000 in
theorem kX7_drift (C : s_X p s m meth c args cX7_drift (some .int) 7 RX7 G cy sa ad 12) (σ : Sg) (x1 : Int32) (x2 : Int32) (ls : Array Slot) (H : Heap) (locs : List Loc) (hl : lv_has ls 7 [(0, .ref (ad 0)), (1, .int x1), (2, .int x2)]) (hP : va_P G vwCl ((s_WM cy ad) σ) H) (hS : va_S (s_A ad 12 s.heap.size) s.heap H locs) (hf : fX7_drift σ x1 x2 = some (re, σe)) : W p l e ({ frames := 2, cells := 0, slots := 0, locals := 41 } : Room) s m args below meth c H locs 0 0 (MQ below (s_Qi (s_WM cy ad) G (s_A ad 12 s.heap.size) re σe) args s 0 0 (s_A ad 12 s.heap.size)) (F0 m 0 ls []) := by
  obtain ⟨hx, hb, hr, hml, hown, hts, hlk, hK, hE, hI⟩ := id C
  have hD : ∀ σ : Sg, va_D (s_A ad 12 s.heap.size) ((s_WM cy ad) σ) := fun σ => s_D (s_WM_ad cy ad σ) hI (fun k hk => Or.inl ⟨k, hk, rfl⟩)
  unfold fX7_drift at hf
  refine lv_aload_n hx hb dX7_drift_0 rfl (lv_at hl 0 rfl) ?_
  replace hf := s_bv_some hf
  obtain ⟨σ1, hz2, hf⟩ := hf
  refine s_callv (nn := 0) C (kcX7_starts (l := l) (G := G) (cy := cy) (sa := sa) hI (sz := H.size) σ hz2) gk_X7_128 rfl rfl (by decide +kernel) ⟨Nat.le_of_ble_eq_true rfl, Nat.le_of_ble_eq_true rfl⟩ hP hS (q0 := 0) (ci := 7) rfl rfl rfl (As := []) (rest := []) rfl rfl hl.1 (Nat.le_of_ble_eq_true rfl) dX7_drift_1 (fun H locs hP hS => ?_)
  refine lv_iload_n hx hb dX7_drift_4 rfl (lv_at hl 2 rfl) ?_
  refine lv_i2l (v := (Int32.toInt64 x2)) hx hb dX7_drift_5 rfl ?_
  refine lv_lconst (v := 1) hx hb dX7_drift_6 (by decide) ?_
  refine lv_ldc2 (v := 48) hx hb hown (hts _ kw_901) dX7_drift_7 ?_
  replace hf := s_bi_some hf
  obtain ⟨r5, σ3, hz4, hf⟩ := hf
  refine s_calliS (nn := 3) C (kcX7_in (l := l) (G := G) (cy := cy) (sa := sa) hI (sz := H.size) σ1 (Int32.toInt64 x2) (1 : Int64) (48 : Int64) hz4) gk_X7_54 rfl rfl (by decide +kernel) ⟨Nat.le_of_ble_eq_true rfl, Nat.le_of_ble_eq_true rfl⟩ hP hS (As := [.long (Int32.toInt64 x2), .long (1 : Int64), .long (48 : Int64)]) (rest := []) rfl rfl hl.1 (Nat.le_of_ble_eq_true rfl) dX7_drift_10 (fun H locs hP hS => ?_)
  refine lv_if_ne (tgt := 18) hx hb dX7_drift_13 (by decide) (fun c6 => ?_) (fun c6 => ?_)
  · rw [if_neg c6] at hf
    refine lv_iload_n hx hb dX7_drift_18 rfl (lv_at hl 1 rfl) ?_
    refine lv_istore_n (lv' := [(3, .int x1), (0, .ref (ad 0)), (1, .int x1), (2, .int x2)]) hx hb dX7_drift_19 rfl hl (by decide) rfl (fun ls hl => ?_)
    refine lv_iconst (v := 0) hx hb dX7_drift_20 (by decide) ?_
    refine lv_istore (lv' := [(4, .int (0 : Int32)), (3, .int x1), (0, .ref (ad 0)), (1, .int x1), (2, .int x2)]) hx hb dX7_drift_21 hl (by decide) rfl (fun ls hl => ?_)
    exact kX7_drift_b23_L C s_fu σ3 x2 x1 (0 : Int32) _ _ _ (lv_sub hl [2, 4, 1, 0] rfl) hP hS hf
  · rw [if_pos c6] at hf
    refine lv_iconst (v := -1) hx hb dX7_drift_16 (by decide) ?_
    obtain ⟨he1, he2⟩ := s_ret hf
    exact W.iret hx hb hr (fun t ht hW => ⟨⟨_, (), rfl, he1, s_fin (Wd := (s_WM cy ad)) ht he2 hP⟩, hS.F ht⟩) hS.2.2 dX7_drift_17 hlk
theorem kcX7_drift {l : Launch} {G : va_G} {cy : Nat → ClassId} {sa : Nat × Nat} {ad : Nat → Nat}  {sz : Nat} (hI : s_inj ad 12) (σ : Sg) (x1 : Int32) (x2 : Int32) {re : Int32} {σe : Sg} (hf : fX7_drift σ x1 x2 = some (re, σe)) : Met l yX7_drift (kW yX7_drift cX7_drift 7 (some .int)) ({ frames := 2, cells := 0, slots := 0, locals := 41 } : Room) (s_P (s_WM cy ad) G cy sa ad 12 [.ref (ad 0), .int x1, .int x2] sz σ) (s_Qi (s_WM cy ad) G (s_A ad 12 sz) re σe) 0 0 (s_A ad 12 sz) := by
  refine s_met (own := RX7) (by decide) rfl hI (Nat.le_of_ble_eq_true rfl) (fun p e s m below meth c ls hsz C hP hl => ?_)
  subst hsz
  exact kX7_drift C σ x1 x2 ls _ _ hl hP va_S.rf hf
set_option maxRecDepth 100000 in
set_option maxHeartbeats 4000000 in
theorem kX7_keep_b30 (C : s_X p s m meth c args cX7_keep (some .int) 3 RX7 G cy sa ad 12) (σ : Sg) (x1 : Int32) (y0 : Int32) (ls : Array Slot) (H : Heap) (locs : List Loc) (hl : lv_has ls 3 [(0, .ref (ad 0)), (1, .int x1)]) (hP : va_P G vwCl ((s_WM cy ad) σ) H) (hS : va_S (s_A ad 12 s.heap.size) s.heap H locs) (hf : fX7_keep_b30 σ x1 y0 = some (re, σe)) : W p l e ({ frames := 2, cells := 0, slots := 0, locals := 41 } : Room) s m args below meth c H locs 0 0 (MQ below (s_Qi (s_WM cy ad) G (s_A ad 12 s.heap.size) re σe) args s 0 0 (s_A ad 12 s.heap.size)) (F0 m 30 ls [.int y0]) := by
  obtain ⟨hx, hb, hr, hml, hown, hts, hlk, hK, hE, hI⟩ := id C
  have hD : ∀ σ : Sg, va_D (s_A ad 12 s.heap.size) ((s_WM cy ad) σ) := fun σ => s_D (s_WM_ad cy ad σ) hI (fun k hk => Or.inl ⟨k, hk, rfl⟩)
  unfold fX7_keep_b30 at hf
  refine lv_istore_n (lv' := [(2, .int y0), (0, .ref (ad 0)), (1, .int x1)]) hx hb dX7_keep_30 rfl hl (by decide) rfl (fun ls hl => ?_)
  refine lv_aload_n hx hb dX7_keep_31 rfl (lv_at hl 1 rfl) ?_
  refine lv_iconst (v := 0) hx hb dX7_keep_32 (by decide) ?_
  refine lv_bipush (v := 103) hx hb dX7_keep_33 (by decide) ?_
  refine lv_iload_n hx hb dX7_keep_35 rfl (lv_at hl 2 rfl) ?_
  refine lv_imul hx hb dX7_keep_36 ?_
  refine lv_bipush (v := 103) hx hb dX7_keep_37 (by decide) ?_
  refine lv_iadd hx hb dX7_keep_39 ?_
  replace hf := s_bv_some hf
  obtain ⟨σ1, hz2, hf⟩ := hf
  refine s_callv (nn := 2) C (kcX7_copies (l := l) (G := G) (cy := cy) (sa := sa) hI (sz := H.size) σ (0 : Int32) (((103 : Int32) * x1) + (103 : Int32)) hz2) gk_X7_137 rfl rfl (by decide +kernel) ⟨Nat.le_of_ble_eq_true rfl, Nat.le_of_ble_eq_true rfl⟩ hP hS (q0 := 0) (ci := 7) rfl rfl rfl (As := [.int (0 : Int32), .int (((103 : Int32) * x1) + (103 : Int32))]) (rest := []) rfl rfl hl.1 (Nat.le_of_ble_eq_true rfl) dX7_keep_40 (fun H locs hP hS => ?_)
  refine lv_aload_n hx hb dX7_keep_43 rfl (lv_at hl 1 rfl) ?_
  refine va_get (D := G) (ci := 7) (v := .ref (ad 8)) (C := RX7) (T := TX7) (N := 28) hx hb hts inkX7 hown hK hP 0 rfl rfl 23 (by decide) (hts _ kw_805) (fun _ h9 => h9) rfl dX7_keep_44 ?_
  refine lv_iload_n hx hb dX7_keep_47 rfl (lv_at hl 2 rfl) ?_
  refine lv_iconst (v := 1) hx hb dX7_keep_48 (by decide) ?_
  replace hf := s_gd_some hf
  obtain ⟨g3, hf⟩ := hf
  refine va_zast hx hb hK hP (hD _) hS 8 2 rfl rfl (s_in_of g3) dX7_keep_49 (fun H locs hP _ hS => ?_)
  obtain ⟨σ4, eσ4⟩ : ∃ z : Sg, z = (s_up σ1 8 (Int32.toNatClampNeg x1) (vp_nar .boolean (1 : Int32))) := ⟨_, rfl⟩
  replace hf := s_lt_at eσ4 hf
  replace hP : va_P G vwCl ((s_WM cy ad) σ4) H := by rw [eσ4]; exact hP
  refine lv_iload_n hx hb dX7_keep_50 rfl (lv_at hl 0 rfl) ?_
  obtain ⟨he1, he2⟩ := s_ret hf
  exact W.iret hx hb hr (fun t ht hW => ⟨⟨_, (), rfl, he1, s_fin (Wd := (s_WM cy ad)) ht he2 hP⟩, hS.F ht⟩) hS.2.2 dX7_keep_51 hlk
set_option maxRecDepth 100000 in
set_option maxHeartbeats 4000000 in
theorem kX7_keep (C : s_X p s m meth c args cX7_keep (some .int) 3 RX7 G cy sa ad 12) (σ : Sg) (x1 : Int32) (ls : Array Slot) (H : Heap) (locs : List Loc) (hl : lv_has ls 3 [(0, .ref (ad 0)), (1, .int x1)]) (hP : va_P G vwCl ((s_WM cy ad) σ) H) (hS : va_S (s_A ad 12 s.heap.size) s.heap H locs) (hf : fX7_keep σ x1 = some (re, σe)) : W p l e ({ frames := 2, cells := 0, slots := 0, locals := 41 } : Room) s m args below meth c H locs 0 0 (MQ below (s_Qi (s_WM cy ad) G (s_A ad 12 s.heap.size) re σe) args s 0 0 (s_A ad 12 s.heap.size)) (F0 m 0 ls []) := by
  obtain ⟨hx, hb, hr, hml, hown, hts, hlk, hK, hE, hI⟩ := id C
  have hD : ∀ σ : Sg, va_D (s_A ad 12 s.heap.size) ((s_WM cy ad) σ) := fun σ => s_D (s_WM_ad cy ad σ) hI (fun k hk => Or.inl ⟨k, hk, rfl⟩)
  unfold fX7_keep at hf
  refine lv_iload_n hx hb dX7_keep_0 rfl (lv_at hl 1 rfl) ?_
  refine lv_i2l (v := (Int32.toInt64 x1)) hx hb dX7_keep_1 rfl ?_
  refine lv_lconst (v := 0) hx hb dX7_keep_2 (by decide) ?_
  refine lv_lconst (v := 1) hx hb dX7_keep_3 (by decide) ?_
  replace hf := s_bi_some hf
  obtain ⟨r3, σ1, hz2, hf⟩ := hf
  refine s_calliS (nn := 3) C (kcX7_in (l := l) (G := G) (cy := cy) (sa := sa) hI (sz := H.size) σ (Int32.toInt64 x1) (0 : Int64) (1 : Int64) hz2) gk_X7_54 rfl rfl (by decide +kernel) ⟨Nat.le_of_ble_eq_true rfl, Nat.le_of_ble_eq_true rfl⟩ hP hS (As := [.long (Int32.toInt64 x1), .long (0 : Int64), .long (1 : Int64)]) (rest := []) rfl rfl hl.1 (Nat.le_of_ble_eq_true rfl) dX7_keep_4 (fun H locs hP hS => ?_)
  refine lv_if_ne (tgt := 12) hx hb dX7_keep_7 (by decide) (fun c4 => ?_) (fun c4 => ?_)
  · rw [if_neg c4] at hf
    refine lv_aload_n hx hb dX7_keep_12 rfl (lv_at hl 0 rfl) ?_
    replace hf := s_bv_some hf
    obtain ⟨σ5, hz6, hf⟩ := hf
    refine s_callv (nn := 0) C (kcX7_starts (l := l) (G := G) (cy := cy) (sa := sa) hI (sz := H.size) σ1 hz6) gk_X7_128 rfl rfl (by decide +kernel) ⟨Nat.le_of_ble_eq_true rfl, Nat.le_of_ble_eq_true rfl⟩ hP hS (q0 := 0) (ci := 7) rfl rfl rfl (As := []) (rest := []) rfl rfl hl.1 (Nat.le_of_ble_eq_true rfl) dX7_keep_13 (fun H locs hP hS => ?_)
    refine lv_aload_n hx hb dX7_keep_16 rfl (lv_at hl 0 rfl) ?_
    refine va_get (D := G) (ci := 7) (v := .ref (ad 8)) (C := RX7) (T := TX7) (N := 28) hx hb hts inkX7 hown hK hP 0 rfl rfl 23 (by decide) (hts _ kw_805) (fun _ h9 => h9) rfl dX7_keep_17 ?_
    refine lv_iload_n hx hb dX7_keep_20 rfl (lv_at hl 1 rfl) ?_
    replace hf := s_gd_some hf
    obtain ⟨g7, hf⟩ := hf
    refine va_zald hx hb hK hP 8 2 rfl rfl (s_in_of g7) dX7_keep_21 ?_
    refine lv_if_eq (tgt := 29) hx hb dX7_keep_22 (by decide) (fun c8 => ?_) (fun c8 => ?_)
    · rw [if_pos c8] at hf
      refine lv_iconst (v := 0) hx hb dX7_keep_29 (by decide) ?_
      exact kX7_keep_b30 C σ5 x1 (0 : Int32) _ _ _ (lv_sub hl [0, 1] rfl) hP hS hf
    · rw [if_neg c8] at hf
      refine lv_iconst (v := 1) hx hb dX7_keep_25 (by decide) ?_
      refine lv_goto (tgt := 30) hx hb dX7_keep_26 (by decide) ?_
      exact kX7_keep_b30 C σ5 x1 (1 : Int32) _ _ _ (lv_sub hl [0, 1] rfl) hP hS hf
  · rw [if_pos c4] at hf
    refine lv_iconst (v := -1) hx hb dX7_keep_10 (by decide) ?_
    obtain ⟨he1, he2⟩ := s_ret hf
    exact W.iret hx hb hr (fun t ht hW => ⟨⟨_, (), rfl, he1, s_fin (Wd := (s_WM cy ad)) ht he2 hP⟩, hS.F ht⟩) hS.2.2 dX7_keep_11 hlk
theorem kcX7_keep {l : Launch} {G : va_G} {cy : Nat → ClassId} {sa : Nat × Nat} {ad : Nat → Nat}  {sz : Nat} (hI : s_inj ad 12) (σ : Sg) (x1 : Int32) {re : Int32} {σe : Sg} (hf : fX7_keep σ x1 = some (re, σe)) : Met l yX7_keep (kW yX7_keep cX7_keep 3 (some .int)) ({ frames := 2, cells := 0, slots := 0, locals := 41 } : Room) (s_P (s_WM cy ad) G cy sa ad 12 [.ref (ad 0), .int x1] sz σ) (s_Qi (s_WM cy ad) G (s_A ad 12 sz) re σe) 0 0 (s_A ad 12 sz) := by
  refine s_met (own := RX7) (by decide) rfl hI (Nat.le_of_ble_eq_true rfl) (fun p e s m below meth c ls hsz C hP hl => ?_)
  subst hsz
  exact kX7_keep C σ x1 ls _ _ hl hP va_S.rf hf
set_option maxRecDepth 100000 in
set_option maxHeartbeats 4000000 in
theorem kX7_back (C : s_X p s m meth c args cX7_back (some .int) 2 RX7 G cy sa ad 12) (σ : Sg) (x1 : Int32) (ls : Array Slot) (H : Heap) (locs : List Loc) (hl : lv_has ls 2 [(0, .ref (ad 0)), (1, .int x1)]) (hP : va_P G vwCl ((s_WM cy ad) σ) H) (hS : va_S (s_A ad 12 s.heap.size) s.heap H locs) (hf : fX7_back σ x1 = some (re, σe)) : W p l e ({ frames := 1, cells := 0, slots := 0, locals := 25 } : Room) s m args below meth c H locs 0 0 (MQ below (s_Qi (s_WM cy ad) G (s_A ad 12 s.heap.size) re σe) args s 0 0 (s_A ad 12 s.heap.size)) (F0 m 0 ls []) := by
  obtain ⟨hx, hb, hr, hml, hown, hts, hlk, hK, hE, hI⟩ := id C
  have hD : ∀ σ : Sg, va_D (s_A ad 12 s.heap.size) ((s_WM cy ad) σ) := fun σ => s_D (s_WM_ad cy ad σ) hI (fun k hk => Or.inl ⟨k, hk, rfl⟩)
  unfold fX7_back at hf
  refine lv_iload_n hx hb dX7_back_0 rfl (lv_at hl 1 rfl) ?_
  refine lv_i2l (v := (Int32.toInt64 x1)) hx hb dX7_back_1 rfl ?_
  refine lv_lconst (v := 0) hx hb dX7_back_2 (by decide) ?_
  refine lv_lconst (v := 1) hx hb dX7_back_3 (by decide) ?_
  replace hf := s_bi_some hf
  obtain ⟨r3, σ1, hz2, hf⟩ := hf
  refine s_calliS (nn := 3) C (kcX7_in (l := l) (G := G) (cy := cy) (sa := sa) hI (sz := H.size) σ (Int32.toInt64 x1) (0 : Int64) (1 : Int64) hz2) gk_X7_54 rfl rfl (by decide +kernel) ⟨Nat.le_of_ble_eq_true rfl, Nat.le_of_ble_eq_true rfl⟩ hP hS (As := [.long (Int32.toInt64 x1), .long (0 : Int64), .long (1 : Int64)]) (rest := []) rfl rfl hl.1 (Nat.le_of_ble_eq_true rfl) dX7_back_4 (fun H locs hP hS => ?_)
  refine lv_if_ne (tgt := 12) hx hb dX7_back_7 (by decide) (fun c4 => ?_) (fun c4 => ?_)
  · rw [if_neg c4] at hf
    refine lv_aload_n hx hb dX7_back_12 rfl (lv_at hl 0 rfl) ?_
    refine va_get (D := G) (ci := 7) (v := .ref (ad 8)) (C := RX7) (T := TX7) (N := 28) hx hb hts inkX7 hown hK hP 0 rfl rfl 23 (by decide) (hts _ kw_805) (fun _ h9 => h9) rfl dX7_back_13 ?_
    refine lv_iload_n hx hb dX7_back_16 rfl (lv_at hl 1 rfl) ?_
    replace hf := s_gd_some hf
    obtain ⟨g5, hf⟩ := hf
    refine va_zald hx hb hK hP 8 2 rfl rfl (s_in_of g5) dX7_back_17 ?_
    refine lv_if_ne (tgt := 24) hx hb dX7_back_18 (by decide) (fun c6 => ?_) (fun c6 => ?_)
    · rw [if_neg c6] at hf
      refine lv_aload_n hx hb dX7_back_24 rfl (lv_at hl 0 rfl) ?_
      refine lv_bipush (v := 103) hx hb dX7_back_25 (by decide) ?_
      refine lv_iload_n hx hb dX7_back_27 rfl (lv_at hl 1 rfl) ?_
      refine lv_imul hx hb dX7_back_28 ?_
      refine lv_bipush (v := 103) hx hb dX7_back_29 (by decide) ?_
      refine lv_iadd hx hb dX7_back_31 ?_
      refine lv_iconst (v := 0) hx hb dX7_back_32 (by decide) ?_
      replace hf := s_bv_some hf
      obtain ⟨σ7, hz8, hf⟩ := hf
      refine s_callv (nn := 2) C (kcX7_copies (l := l) (G := G) (cy := cy) (sa := sa) hI (sz := H.size) σ1 (((103 : Int32) * x1) + (103 : Int32)) (0 : Int32) hz8) gk_X7_137 rfl rfl (by decide +kernel) ⟨Nat.le_of_ble_eq_true rfl, Nat.le_of_ble_eq_true rfl⟩ hP hS (q0 := 0) (ci := 7) rfl rfl rfl (As := [.int (((103 : Int32) * x1) + (103 : Int32)), .int (0 : Int32)]) (rest := []) rfl rfl hl.1 (Nat.le_of_ble_eq_true rfl) dX7_back_33 (fun H locs hP hS => ?_)
      refine lv_aload_n hx hb dX7_back_36 rfl (lv_at hl 0 rfl) ?_
      replace hf := s_bi_some hf
      obtain ⟨r11, σ9, hz10, hf⟩ := hf
      refine s_calli (nn := 0) C (kcX7_many (l := l) (G := G) (cy := cy) (sa := sa) hI (sz := H.size) σ7 hz10) gk_X7_141 rfl rfl (by decide +kernel) ⟨Nat.le_of_ble_eq_true rfl, Nat.le_of_ble_eq_true rfl⟩ hP hS (q0 := 0) (ci := 7) rfl rfl rfl (As := []) (rest := []) rfl rfl hl.1 (Nat.le_of_ble_eq_true rfl) dX7_back_37 (fun H locs hP hS => ?_)
      obtain ⟨he1, he2⟩ := s_ret hf
      exact W.iret hx hb hr (fun t ht hW => ⟨⟨_, (), rfl, he1, s_fin (Wd := (s_WM cy ad)) ht he2 hP⟩, hS.F ht⟩) hS.2.2 dX7_back_40 hlk
    · rw [if_pos c6] at hf
      refine lv_bipush (v := -2) hx hb dX7_back_21 (by decide) ?_
      obtain ⟨he1, he2⟩ := s_ret hf
      exact W.iret hx hb hr (fun t ht hW => ⟨⟨_, (), rfl, he1, s_fin (Wd := (s_WM cy ad)) ht he2 hP⟩, hS.F ht⟩) hS.2.2 dX7_back_23 hlk
  · rw [if_pos c4] at hf
    refine lv_iconst (v := -1) hx hb dX7_back_10 (by decide) ?_
    obtain ⟨he1, he2⟩ := s_ret hf
    exact W.iret hx hb hr (fun t ht hW => ⟨⟨_, (), rfl, he1, s_fin (Wd := (s_WM cy ad)) ht he2 hP⟩, hS.F ht⟩) hS.2.2 dX7_back_11 hlk
theorem kcX7_back {l : Launch} {G : va_G} {cy : Nat → ClassId} {sa : Nat × Nat} {ad : Nat → Nat}  {sz : Nat} (hI : s_inj ad 12) (σ : Sg) (x1 : Int32) {re : Int32} {σe : Sg} (hf : fX7_back σ x1 = some (re, σe)) : Met l yX7_back (kW yX7_back cX7_back 2 (some .int)) ({ frames := 1, cells := 0, slots := 0, locals := 25 } : Room) (s_P (s_WM cy ad) G cy sa ad 12 [.ref (ad 0), .int x1] sz σ) (s_Qi (s_WM cy ad) G (s_A ad 12 sz) re σe) 0 0 (s_A ad 12 sz) := by
  refine s_met (own := RX7) (by decide) rfl hI (Nat.le_of_ble_eq_true rfl) (fun p e s m below meth c ls hsz C hP hl => ?_)
  subst hsz
  exact kX7_back C σ x1 ls _ _ hl hP va_S.rf hf
set_option maxRecDepth 100000 in
set_option maxHeartbeats 4000000 in
theorem kX7_sheet_b30 (C : s_X p s m meth c args cX7_sheet (some .int) 5 RX7 G cy sa ad 12) (σ : Sg) (ls : Array Slot) (H : Heap) (locs : List Loc) (hl : lv_has ls 5 []) (hP : va_P G vwCl ((s_WM cy ad) σ) H) (hS : va_S (s_A ad 12 s.heap.size) s.heap H locs) (hf : fX7_sheet_b30 σ = some (re, σe)) : W p l e ({ frames := 1, cells := 0, slots := 0, locals := 25 } : Room) s m args below meth c H locs 0 0 (MQ below (s_Qi (s_WM cy ad) G (s_A ad 12 s.heap.size) re σe) args s 0 0 (s_A ad 12 s.heap.size)) (F0 m 30 ls []) := by
  obtain ⟨hx, hb, hr, hml, hown, hts, hlk, hK, hE, hI⟩ := id C
  have hD : ∀ σ : Sg, va_D (s_A ad 12 s.heap.size) ((s_WM cy ad) σ) := fun σ => s_D (s_WM_ad cy ad σ) hI (fun k hk => Or.inl ⟨k, hk, rfl⟩)
  unfold fX7_sheet_b30 at hf
  refine lv_iconst (v := -1) hx hb dX7_sheet_30 (by decide) ?_
  obtain ⟨he1, he2⟩ := s_ret hf
  exact W.iret hx hb hr (fun t ht hW => ⟨⟨_, (), rfl, he1, s_fin (Wd := (s_WM cy ad)) ht he2 hP⟩, hS.F ht⟩) hS.2.2 dX7_sheet_31 hlk
set_option maxRecDepth 100000 in
set_option maxHeartbeats 4000000 in
theorem kX7_sheet_b56 (C : s_X p s m meth c args cX7_sheet (some .int) 5 RX7 G cy sa ad 12) (k56 : Sg → Int32 → Int32 → Option (Int32 × Sg)) (hk56 : ∀ (σ : Sg) (x1 : Int32) (x4 : Int32) (ls : Array Slot) (H : Heap) (locs : List Loc), lv_has ls 5 [(0, .ref (ad 0)), (1, .int x1), (4, .int x4)] → va_P G vwCl ((s_WM cy ad) σ) H → va_S (s_A ad 12 s.heap.size) s.heap H locs → k56 σ x1 x4 = some (re, σe) → W p l e ({ frames := 1, cells := 0, slots := 0, locals := 25 } : Room) s m args below meth c H locs 0 0 (MQ below (s_Qi (s_WM cy ad) G (s_A ad 12 s.heap.size) re σe) args s 0 0 (s_A ad 12 s.heap.size)) (F0 m 56 ls [])) (σ : Sg) (x1 : Int32) (x4 : Int32) (ls : Array Slot) (H : Heap) (locs : List Loc) (hl : lv_has ls 5 [(0, .ref (ad 0)), (1, .int x1), (4, .int x4)]) (hP : va_P G vwCl ((s_WM cy ad) σ) H) (hS : va_S (s_A ad 12 s.heap.size) s.heap H locs) (hf : fX7_sheet_b56 k56 σ x1 x4 = some (re, σe)) : W p l e ({ frames := 1, cells := 0, slots := 0, locals := 25 } : Room) s m args below meth c H locs 0 0 (MQ below (s_Qi (s_WM cy ad) G (s_A ad 12 s.heap.size) re σe) args s 0 0 (s_A ad 12 s.heap.size)) (F0 m 56 ls []) := by
  obtain ⟨hx, hb, hr, hml, hown, hts, hlk, hK, hE, hI⟩ := id C
  have hD : ∀ σ : Sg, va_D (s_A ad 12 s.heap.size) ((s_WM cy ad) σ) := fun σ => s_D (s_WM_ad cy ad σ) hI (fun k hk => Or.inl ⟨k, hk, rfl⟩)
  unfold fX7_sheet_b56 at hf
  refine lv_iload hx hb dX7_sheet_56 (lv_at hl 2 rfl) ?_
  refine lv_bipush (v := 40) hx hb dX7_sheet_58 (by decide) ?_
  refine lv_icmp_ge (tgt := 82) hx hb dX7_sheet_60 (by decide) (fun c1 => ?_) (fun c1 => ?_)
  · rw [if_pos c1] at hf
    refine lv_iconst (v := 1) hx hb dX7_sheet_82 (by decide) ?_
    obtain ⟨he1, he2⟩ := s_ret hf
    exact W.iret hx hb hr (fun t ht hW => ⟨⟨_, (), rfl, he1, s_fin (Wd := (s_WM cy ad)) ht he2 hP⟩, hS.F ht⟩) hS.2.2 dX7_sheet_83 hlk
  · rw [if_neg c1] at hf
    refine lv_aload_n hx hb dX7_sheet_63 rfl (lv_at hl 0 rfl) ?_
    refine va_get (D := G) (ci := 7) (v := .ref (ad 11)) (C := RX7) (T := TX7) (N := 28) hx hb hts inkX7 hown hK hP 0 rfl rfl 26 (by decide) (hts _ kw_808) (fun _ h9 => h9) rfl dX7_sheet_64 ?_
    refine lv_bipush (v := 40) hx hb dX7_sheet_67 (by decide) ?_
    refine lv_iload_n hx hb dX7_sheet_69 rfl (lv_at hl 1 rfl) ?_
    refine lv_imul hx hb dX7_sheet_70 ?_
    refine lv_iload hx hb dX7_sheet_71 (lv_at hl 2 rfl) ?_
    refine lv_iadd hx hb dX7_sheet_73 ?_
    refine lv_iconst (v := 0) hx hb dX7_sheet_74 (by decide) ?_
    replace hf := s_gd_some hf
    obtain ⟨g2, hf⟩ := hf
    refine va_iast hx hb hK hP (hD _) hS 11 1 rfl rfl (s_in_of g2) dX7_sheet_75 (fun H locs hP _ hS => ?_)
    obtain ⟨σ3, eσ3⟩ : ∃ z : Sg, z = (s_up σ 11 (Int32.toNatClampNeg (((40 : Int32) * x1) + x4)) (0 : Int32)) := ⟨_, rfl⟩
    replace hf := s_lt_at eσ3 hf
    replace hP : va_P G vwCl ((s_WM cy ad) σ3) H := by rw [eσ3]; exact hP
    obtain ⟨t4, et4⟩ : ∃ z : Int32, z = (x4 + 1) := ⟨_, rfl⟩
    replace hf := s_lt_at et4 hf
    refine lv_iinc (v := t4) (lv' := [(4, .int t4), (0, .ref (ad 0)), (1, .int x1)]) hx hb dX7_sheet_76 hl (k := 2) rfl (by rw [et4]; rfl) (by decide) rfl (fun ls hl => ?_)
    refine lv_goto (tgt := 56) hx hb dX7_sheet_79 (by decide) ?_
    exact hk56 σ3 x1 t4 _ _ _ (lv_sub hl [1, 2, 0] rfl) hP hS hf
set_option maxRecDepth 100000 in
set_option maxHeartbeats 4000000 in
theorem kX7_sheet_b56_L (C : s_X p s m meth c args cX7_sheet (some .int) 5 RX7 G cy sa ad 12) : ∀ (n : Nat), ∀ (σ : Sg) (x1 : Int32) (x4 : Int32) (ls : Array Slot) (H : Heap) (locs : List Loc), lv_has ls 5 [(0, .ref (ad 0)), (1, .int x1), (4, .int x4)] → va_P G vwCl ((s_WM cy ad) σ) H → va_S (s_A ad 12 s.heap.size) s.heap H locs → fX7_sheet_b56_L n σ x1 x4 = some (re, σe) → W p l e ({ frames := 1, cells := 0, slots := 0, locals := 25 } : Room) s m args below meth c H locs 0 0 (MQ below (s_Qi (s_WM cy ad) G (s_A ad 12 s.heap.size) re σe) args s 0 0 (s_A ad 12 s.heap.size)) (F0 m 56 ls []) := by
  intro n
  induction n with
  | zero => intro σ x1 x4 ls H locs hl hP hS hf; exact absurd (show (none : Option (Int32 × Sg)) = some (re, σe) from hf) (by intro h; cases h)
  | succ n ih => intro σ x1 x4 ls H locs hl hP hS hf; exact kX7_sheet_b56 C (fX7_sheet_b56_L n) ih σ x1 x4 ls H locs hl hP hS hf
set_option maxRecDepth 100000 in
set_option maxHeartbeats 4000000 in
theorem kX7_sheet (C : s_X p s m meth c args cX7_sheet (some .int) 5 RX7 G cy sa ad 12) (σ : Sg) (x1 : Int32) (x2 : Int32) (x3 : Int32) (ls : Array Slot) (H : Heap) (locs : List Loc) (hl : lv_has ls 5 [(0, .ref (ad 0)), (1, .int x1), (2, .int x2), (3, .int x3)]) (hP : va_P G vwCl ((s_WM cy ad) σ) H) (hS : va_S (s_A ad 12 s.heap.size) s.heap H locs) (hf : fX7_sheet σ x1 x2 x3 = some (re, σe)) : W p l e ({ frames := 1, cells := 0, slots := 0, locals := 25 } : Room) s m args below meth c H locs 0 0 (MQ below (s_Qi (s_WM cy ad) G (s_A ad 12 s.heap.size) re σe) args s 0 0 (s_A ad 12 s.heap.size)) (F0 m 0 ls []) := by
  obtain ⟨hx, hb, hr, hml, hown, hts, hlk, hK, hE, hI⟩ := id C
  have hD : ∀ σ : Sg, va_D (s_A ad 12 s.heap.size) ((s_WM cy ad) σ) := fun σ => s_D (s_WM_ad cy ad σ) hI (fun k hk => Or.inl ⟨k, hk, rfl⟩)
  unfold fX7_sheet at hf
  refine lv_iload_n hx hb dX7_sheet_0 rfl (lv_at hl 1 rfl) ?_
  refine lv_i2l (v := (Int32.toInt64 x1)) hx hb dX7_sheet_1 rfl ?_
  refine lv_lconst (v := 0) hx hb dX7_sheet_2 (by decide) ?_
  refine lv_ldc2 (v := 3) hx hb hown (hts _ kw_1050) dX7_sheet_3 ?_
  replace hf := s_bi_some hf
  obtain ⟨r3, σ1, hz2, hf⟩ := hf
  refine s_calliS (nn := 3) C (kcX7_in (l := l) (G := G) (cy := cy) (sa := sa) hI (sz := H.size) σ (Int32.toInt64 x1) (0 : Int64) (3 : Int64) hz2) gk_X7_54 rfl rfl (by decide +kernel) ⟨Nat.le_of_ble_eq_true rfl, Nat.le_of_ble_eq_true rfl⟩ hP hS (As := [.long (Int32.toInt64 x1), .long (0 : Int64), .long (3 : Int64)]) (rest := []) rfl rfl hl.1 (Nat.le_of_ble_eq_true rfl) dX7_sheet_6 (fun H locs hP hS => ?_)
  refine lv_if_eq (tgt := 30) hx hb dX7_sheet_9 (by decide) (fun c4 => ?_) (fun c4 => ?_)
  · rw [if_pos c4] at hf
    exact kX7_sheet_b30 C σ1 _ _ _ (lv_sub hl [] rfl) hP hS hf
  · rw [if_neg c4] at hf
    refine lv_iload_n hx hb dX7_sheet_12 rfl (lv_at hl 2 rfl) ?_
    refine lv_i2l (v := (Int32.toInt64 x2)) hx hb dX7_sheet_13 rfl ?_
    refine lv_lconst (v := 0) hx hb dX7_sheet_14 (by decide) ?_
    refine lv_ldc2 (v := 2) hx hb hown (hts _ kw_976) dX7_sheet_15 ?_
    replace hf := s_bi_some hf
    obtain ⟨r7, σ5, hz6, hf⟩ := hf
    refine s_calliS (nn := 3) C (kcX7_in (l := l) (G := G) (cy := cy) (sa := sa) hI (sz := H.size) σ1 (Int32.toInt64 x2) (0 : Int64) (2 : Int64) hz6) gk_X7_54 rfl rfl (by decide +kernel) ⟨Nat.le_of_ble_eq_true rfl, Nat.le_of_ble_eq_true rfl⟩ hP hS (As := [.long (Int32.toInt64 x2), .long (0 : Int64), .long (2 : Int64)]) (rest := []) rfl rfl hl.1 (Nat.le_of_ble_eq_true rfl) dX7_sheet_18 (fun H locs hP hS => ?_)
    refine lv_if_eq (tgt := 30) hx hb dX7_sheet_21 (by decide) (fun c8 => ?_) (fun c8 => ?_)
    · rw [if_pos c8] at hf
      exact kX7_sheet_b30 C σ5 _ _ _ (lv_sub hl [] rfl) hP hS hf
    · rw [if_neg c8] at hf
      refine lv_iload_n hx hb dX7_sheet_24 rfl (lv_at hl 3 rfl) ?_
      refine lv_bipush (v := 40) hx hb dX7_sheet_25 (by decide) ?_
      refine lv_icmp_le (tgt := 32) hx hb dX7_sheet_27 (by decide) (fun c9 => ?_) (fun c9 => ?_)
      · rw [if_pos c9] at hf
        refine lv_iload_n hx hb dX7_sheet_32 rfl (lv_at hl 3 rfl) ?_
        refine lv_if_ge (tgt := 39) hx hb dX7_sheet_33 (by decide) (fun c10 => ?_) (fun c10 => ?_)
        · rw [if_pos c10] at hf
          refine lv_aload_n hx hb dX7_sheet_39 rfl (lv_at hl 0 rfl) ?_
          refine va_get (D := G) (ci := 7) (v := .ref (ad 9)) (C := RX7) (T := TX7) (N := 28) hx hb hts inkX7 hown hK hP 0 rfl rfl 24 (by decide) (hts _ kw_806) (fun _ h9 => h9) rfl dX7_sheet_40 ?_
          refine lv_iload_n hx hb dX7_sheet_43 rfl (lv_at hl 1 rfl) ?_
          refine lv_iload_n hx hb dX7_sheet_44 rfl (lv_at hl 2 rfl) ?_
          replace hf := s_gd_some hf
          obtain ⟨g11, hf⟩ := hf
          refine va_iast hx hb hK hP (hD _) hS 9 1 rfl rfl (s_in_of g11) dX7_sheet_45 (fun H locs hP _ hS => ?_)
          obtain ⟨σ12, eσ12⟩ : ∃ z : Sg, z = (s_up σ5 9 (Int32.toNatClampNeg x1) x2) := ⟨_, rfl⟩
          replace hf := s_lt_at eσ12 hf
          replace hP : va_P G vwCl ((s_WM cy ad) σ12) H := by rw [eσ12]; exact hP
          refine lv_aload_n hx hb dX7_sheet_46 rfl (lv_at hl 0 rfl) ?_
          refine va_get (D := G) (ci := 7) (v := .ref (ad 10)) (C := RX7) (T := TX7) (N := 28) hx hb hts inkX7 hown hK hP 0 rfl rfl 25 (by decide) (hts _ kw_807) (fun _ h9 => h9) rfl dX7_sheet_47 ?_
          refine lv_iload_n hx hb dX7_sheet_50 rfl (lv_at hl 1 rfl) ?_
          refine lv_iload_n hx hb dX7_sheet_51 rfl (lv_at hl 3 rfl) ?_
          replace hf := s_gd_some hf
          obtain ⟨g13, hf⟩ := hf
          refine va_iast hx hb hK hP (hD _) hS 10 1 rfl rfl (s_in_of g13) dX7_sheet_52 (fun H locs hP _ hS => ?_)
          obtain ⟨σ14, eσ14⟩ : ∃ z : Sg, z = (s_up σ12 10 (Int32.toNatClampNeg x1) x3) := ⟨_, rfl⟩
          replace hf := s_lt_at eσ14 hf
          replace hP : va_P G vwCl ((s_WM cy ad) σ14) H := by rw [eσ14]; exact hP
          refine lv_iconst (v := 0) hx hb dX7_sheet_53 (by decide) ?_
          refine lv_istore (lv' := [(4, .int (0 : Int32)), (0, .ref (ad 0)), (1, .int x1), (2, .int x2), (3, .int x3)]) hx hb dX7_sheet_54 hl (by decide) rfl (fun ls hl => ?_)
          exact kX7_sheet_b56_L C s_fu σ14 x1 (0 : Int32) _ _ _ (lv_sub hl [1, 2, 0] rfl) hP hS hf
        · rw [if_neg c10] at hf
          refine lv_bipush (v := -14) hx hb dX7_sheet_36 (by decide) ?_
          obtain ⟨he1, he2⟩ := s_ret hf
          exact W.iret hx hb hr (fun t ht hW => ⟨⟨_, (), rfl, he1, s_fin (Wd := (s_WM cy ad)) ht he2 hP⟩, hS.F ht⟩) hS.2.2 dX7_sheet_38 hlk
      · rw [if_neg c9] at hf
        exact kX7_sheet_b30 C σ5 _ _ _ (lv_sub hl [] rfl) hP hS hf
theorem kcX7_sheet {l : Launch} {G : va_G} {cy : Nat → ClassId} {sa : Nat × Nat} {ad : Nat → Nat}  {sz : Nat} (hI : s_inj ad 12) (σ : Sg) (x1 : Int32) (x2 : Int32) (x3 : Int32) {re : Int32} {σe : Sg} (hf : fX7_sheet σ x1 x2 x3 = some (re, σe)) : Met l yX7_sheet (kW yX7_sheet cX7_sheet 5 (some .int)) ({ frames := 1, cells := 0, slots := 0, locals := 25 } : Room) (s_P (s_WM cy ad) G cy sa ad 12 [.ref (ad 0), .int x1, .int x2, .int x3] sz σ) (s_Qi (s_WM cy ad) G (s_A ad 12 sz) re σe) 0 0 (s_A ad 12 sz) := by
  refine s_met (own := RX7) (by decide) rfl hI (Nat.le_of_ble_eq_true rfl) (fun p e s m below meth c ls hsz C hP hl => ?_)
  subst hsz
  exact kX7_sheet C σ x1 x2 x3 ls _ _ hl hP va_S.rf hf
set_option maxRecDepth 100000 in
set_option maxHeartbeats 4000000 in
theorem kX7_lay_b99 (C : s_X p s m meth c args cX7_lay (some .int) 4 RX7 G cy sa ad 12) (σ : Sg) (y1 : Int32) (y2 : Int32) (ls : Array Slot) (H : Heap) (locs : List Loc) (hl : lv_has ls 4 []) (hP : va_P G vwCl ((s_WM cy ad) σ) H) (hS : va_S (s_A ad 12 s.heap.size) s.heap H locs) (hf : fX7_lay_b99 σ y1 y2 = some (re, σe)) : W p l e ({ frames := 1, cells := 0, slots := 0, locals := 25 } : Room) s m args below meth c H locs 0 0 (MQ below (s_Qi (s_WM cy ad) G (s_A ad 12 s.heap.size) re σe) args s 0 0 (s_A ad 12 s.heap.size)) (F0 m 99 ls [.int y2, .int y1, .ref (ad 11)]) := by
  obtain ⟨hx, hb, hr, hml, hown, hts, hlk, hK, hE, hI⟩ := id C
  have hD : ∀ σ : Sg, va_D (s_A ad 12 s.heap.size) ((s_WM cy ad) σ) := fun σ => s_D (s_WM_ad cy ad σ) hI (fun k hk => Or.inl ⟨k, hk, rfl⟩)
  unfold fX7_lay_b99 at hf
  replace hf := s_gd_some hf
  obtain ⟨g1, hf⟩ := hf
  refine va_iast hx hb hK hP (hD _) hS 11 1 rfl rfl (s_in_of g1) dX7_lay_99 (fun H locs hP _ hS => ?_)
  obtain ⟨σ2, eσ2⟩ : ∃ z : Sg, z = (s_up σ 11 (Int32.toNatClampNeg y1) y2) := ⟨_, rfl⟩
  replace hf := s_lt_at eσ2 hf
  replace hP : va_P G vwCl ((s_WM cy ad) σ2) H := by rw [eσ2]; exact hP
  refine lv_iconst (v := 1) hx hb dX7_lay_100 (by decide) ?_
  obtain ⟨he1, he2⟩ := s_ret hf
  exact W.iret hx hb hr (fun t ht hW => ⟨⟨_, (), rfl, he1, s_fin (Wd := (s_WM cy ad)) ht he2 hP⟩, hS.F ht⟩) hS.2.2 dX7_lay_101 hlk
set_option maxRecDepth 100000 in
set_option maxHeartbeats 4000000 in
theorem kX7_lay (C : s_X p s m meth c args cX7_lay (some .int) 4 RX7 G cy sa ad 12) (σ : Sg) (x1 : Int32) (x2 : Int32) (x3 : Int32) (ls : Array Slot) (H : Heap) (locs : List Loc) (hl : lv_has ls 4 [(0, .ref (ad 0)), (1, .int x1), (2, .int x2), (3, .int x3)]) (hP : va_P G vwCl ((s_WM cy ad) σ) H) (hS : va_S (s_A ad 12 s.heap.size) s.heap H locs) (hf : fX7_lay σ x1 x2 x3 = some (re, σe)) : W p l e ({ frames := 1, cells := 0, slots := 0, locals := 25 } : Room) s m args below meth c H locs 0 0 (MQ below (s_Qi (s_WM cy ad) G (s_A ad 12 s.heap.size) re σe) args s 0 0 (s_A ad 12 s.heap.size)) (F0 m 0 ls []) := by
  obtain ⟨hx, hb, hr, hml, hown, hts, hlk, hK, hE, hI⟩ := id C
  have hD : ∀ σ : Sg, va_D (s_A ad 12 s.heap.size) ((s_WM cy ad) σ) := fun σ => s_D (s_WM_ad cy ad σ) hI (fun k hk => Or.inl ⟨k, hk, rfl⟩)
  unfold fX7_lay at hf
  refine lv_iload_n hx hb dX7_lay_0 rfl (lv_at hl 1 rfl) ?_
  refine lv_i2l (v := (Int32.toInt64 x1)) hx hb dX7_lay_1 rfl ?_
  refine lv_lconst (v := 0) hx hb dX7_lay_2 (by decide) ?_
  refine lv_ldc2 (v := 3) hx hb hown (hts _ kw_1050) dX7_lay_3 ?_
  replace hf := s_bi_some hf
  obtain ⟨r3, σ1, hz2, hf⟩ := hf
  refine s_calliS (nn := 3) C (kcX7_in (l := l) (G := G) (cy := cy) (sa := sa) hI (sz := H.size) σ (Int32.toInt64 x1) (0 : Int64) (3 : Int64) hz2) gk_X7_54 rfl rfl (by decide +kernel) ⟨Nat.le_of_ble_eq_true rfl, Nat.le_of_ble_eq_true rfl⟩ hP hS (As := [.long (Int32.toInt64 x1), .long (0 : Int64), .long (3 : Int64)]) (rest := []) rfl rfl hl.1 (Nat.le_of_ble_eq_true rfl) dX7_lay_6 (fun H locs hP hS => ?_)
  refine lv_if_ne (tgt := 14) hx hb dX7_lay_9 (by decide) (fun c4 => ?_) (fun c4 => ?_)
  · rw [if_neg c4] at hf
    refine lv_aload_n hx hb dX7_lay_14 rfl (lv_at hl 0 rfl) ?_
    refine va_get (D := G) (ci := 7) (v := .ref (ad 9)) (C := RX7) (T := TX7) (N := 28) hx hb hts inkX7 hown hK hP 0 rfl rfl 24 (by decide) (hts _ kw_806) (fun _ h9 => h9) rfl dX7_lay_15 ?_
    refine lv_iload_n hx hb dX7_lay_18 rfl (lv_at hl 1 rfl) ?_
    replace hf := s_gd_some hf
    obtain ⟨g5, hf⟩ := hf
    refine va_iald hx hb hK hP 9 1 rfl rfl (s_in_of g5) dX7_lay_19 ?_
    refine lv_bipush (v := -4) hx hb dX7_lay_20 (by decide) ?_
    refine lv_icmp_ne (tgt := 28) hx hb dX7_lay_22 (by decide) (fun c6 => ?_) (fun c6 => ?_)
    · rw [if_neg c6] at hf
      refine lv_iload_n hx hb dX7_lay_28 rfl (lv_at hl 2 rfl) ?_
      refine lv_i2l (v := (Int32.toInt64 x2)) hx hb dX7_lay_29 rfl ?_
      refine lv_lconst (v := 0) hx hb dX7_lay_30 (by decide) ?_
      refine lv_aload_n hx hb dX7_lay_31 rfl (lv_at hl 0 rfl) ?_
      refine va_get (D := G) (ci := 7) (v := .ref (ad 10)) (C := RX7) (T := TX7) (N := 28) hx hb hts inkX7 hown hK hP 0 rfl rfl 25 (by decide) (hts _ kw_807) (fun _ h9 => h9) rfl dX7_lay_32 ?_
      refine lv_iload_n hx hb dX7_lay_35 rfl (lv_at hl 1 rfl) ?_
      replace hf := s_gd_some hf
      obtain ⟨g7, hf⟩ := hf
      refine va_iald hx hb hK hP 10 1 rfl rfl (s_in_of g7) dX7_lay_36 ?_
      refine lv_iconst (v := 1) hx hb dX7_lay_37 (by decide) ?_
      refine lv_isub hx hb dX7_lay_38 ?_
      refine lv_i2l (v := (Int32.toInt64 ((σ1 10 (Int32.toNatClampNeg x1)) - (1 : Int32)))) hx hb dX7_lay_39 rfl ?_
      replace hf := s_bi_some hf
      obtain ⟨r10, σ8, hz9, hf⟩ := hf
      refine s_calliS (nn := 3) C (kcX7_in (l := l) (G := G) (cy := cy) (sa := sa) hI (sz := H.size) σ1 (Int32.toInt64 x2) (0 : Int64) (Int32.toInt64 ((σ1 10 (Int32.toNatClampNeg x1)) - (1 : Int32))) hz9) gk_X7_54 rfl rfl (by decide +kernel) ⟨Nat.le_of_ble_eq_true rfl, Nat.le_of_ble_eq_true rfl⟩ hP hS (As := [.long (Int32.toInt64 x2), .long (0 : Int64), .long (Int32.toInt64 ((σ1 10 (Int32.toNatClampNeg x1)) - (1 : Int32)))]) (rest := []) rfl rfl hl.1 (Nat.le_of_ble_eq_true rfl) dX7_lay_40 (fun H locs hP hS => ?_)
      refine lv_if_ne (tgt := 49) hx hb dX7_lay_43 (by decide) (fun c11 => ?_) (fun c11 => ?_)
      · rw [if_neg c11] at hf
        refine lv_aload_n hx hb dX7_lay_49 rfl (lv_at hl 0 rfl) ?_
        refine va_get (D := G) (ci := 7) (v := .ref (ad 11)) (C := RX7) (T := TX7) (N := 28) hx hb hts inkX7 hown hK hP 0 rfl rfl 26 (by decide) (hts _ kw_808) (fun _ h9 => h9) rfl dX7_lay_50 ?_
        refine lv_bipush (v := 40) hx hb dX7_lay_53 (by decide) ?_
        refine lv_iload_n hx hb dX7_lay_55 rfl (lv_at hl 1 rfl) ?_
        refine lv_imul hx hb dX7_lay_56 ?_
        refine lv_iload_n hx hb dX7_lay_57 rfl (lv_at hl 2 rfl) ?_
        refine lv_iadd hx hb dX7_lay_58 ?_
        refine lv_aload_n hx hb dX7_lay_59 rfl (lv_at hl 0 rfl) ?_
        refine va_get (D := G) (ci := 7) (v := .ref (ad 9)) (C := RX7) (T := TX7) (N := 28) hx hb hts inkX7 hown hK hP 0 rfl rfl 24 (by decide) (hts _ kw_806) (fun _ h9 => h9) rfl dX7_lay_60 ?_
        refine lv_iload_n hx hb dX7_lay_63 rfl (lv_at hl 1 rfl) ?_
        replace hf := s_gd_some hf
        obtain ⟨g12, hf⟩ := hf
        refine va_iald hx hb hK hP 9 1 rfl rfl (s_in_of g12) dX7_lay_64 ?_
        refine lv_if_ne (tgt := 78) hx hb dX7_lay_65 (by decide) (fun c13 => ?_) (fun c13 => ?_)
        · rw [if_neg c13] at hf
          refine lv_aload_n hx hb dX7_lay_78 rfl (lv_at hl 0 rfl) ?_
          refine va_get (D := G) (ci := 7) (v := .ref (ad 9)) (C := RX7) (T := TX7) (N := 28) hx hb hts inkX7 hown hK hP 0 rfl rfl 24 (by decide) (hts _ kw_806) (fun _ h9 => h9) rfl dX7_lay_79 ?_
          refine lv_iload_n hx hb dX7_lay_82 rfl (lv_at hl 1 rfl) ?_
          replace hf := s_gd_some hf
          obtain ⟨g14, hf⟩ := hf
          refine va_iald hx hb hK hP 9 1 rfl rfl (s_in_of g14) dX7_lay_83 ?_
          refine lv_iconst (v := 1) hx hb dX7_lay_84 (by decide) ?_
          refine lv_icmp_ne (tgt := 98) hx hb dX7_lay_85 (by decide) (fun c15 => ?_) (fun c15 => ?_)
          · rw [if_neg c15] at hf
            refine lv_iload_n hx hb dX7_lay_98 rfl (lv_at hl 3 rfl) ?_
            exact kX7_lay_b99 C σ8 (((40 : Int32) * x1) + x2) x3 _ _ _ (lv_sub hl [] rfl) hP hS hf
          · rw [if_pos c15] at hf
            refine lv_iload_n hx hb dX7_lay_88 rfl (lv_at hl 3 rfl) ?_
            refine lv_bipush (v := 16) hx hb dX7_lay_89 (by decide) ?_
            refine lv_ishl hx hb dX7_lay_91 ?_
            refine lv_bipush (v := 16) hx hb dX7_lay_92 (by decide) ?_
            refine lv_ishr hx hb dX7_lay_94 ?_
            refine lv_goto (tgt := 99) hx hb dX7_lay_95 (by decide) ?_
            exact kX7_lay_b99 C σ8 (((40 : Int32) * x1) + x2) ((x3 <<< ((16 : Int32) &&& 31)) >>> ((16 : Int32) &&& 31)) _ _ _ (lv_sub hl [] rfl) hP hS hf
        · rw [if_pos c13] at hf
          refine lv_iload_n hx hb dX7_lay_68 rfl (lv_at hl 3 rfl) ?_
          refine lv_bipush (v := 24) hx hb dX7_lay_69 (by decide) ?_
          refine lv_ishl hx hb dX7_lay_71 ?_
          refine lv_bipush (v := 24) hx hb dX7_lay_72 (by decide) ?_
          refine lv_ishr hx hb dX7_lay_74 ?_
          refine lv_goto (tgt := 99) hx hb dX7_lay_75 (by decide) ?_
          exact kX7_lay_b99 C σ8 (((40 : Int32) * x1) + x2) ((x3 <<< ((24 : Int32) &&& 31)) >>> ((24 : Int32) &&& 31)) _ _ _ (lv_sub hl [] rfl) hP hS hf
      · rw [if_pos c11] at hf
        refine lv_bipush (v := -12) hx hb dX7_lay_46 (by decide) ?_
        obtain ⟨he1, he2⟩ := s_ret hf
        exact W.iret hx hb hr (fun t ht hW => ⟨⟨_, (), rfl, he1, s_fin (Wd := (s_WM cy ad)) ht he2 hP⟩, hS.F ht⟩) hS.2.2 dX7_lay_48 hlk
    · rw [if_pos c6] at hf
      refine lv_bipush (v := -11) hx hb dX7_lay_25 (by decide) ?_
      obtain ⟨he1, he2⟩ := s_ret hf
      exact W.iret hx hb hr (fun t ht hW => ⟨⟨_, (), rfl, he1, s_fin (Wd := (s_WM cy ad)) ht he2 hP⟩, hS.F ht⟩) hS.2.2 dX7_lay_27 hlk
  · rw [if_pos c4] at hf
    refine lv_iconst (v := -1) hx hb dX7_lay_12 (by decide) ?_
    obtain ⟨he1, he2⟩ := s_ret hf
    exact W.iret hx hb hr (fun t ht hW => ⟨⟨_, (), rfl, he1, s_fin (Wd := (s_WM cy ad)) ht he2 hP⟩, hS.F ht⟩) hS.2.2 dX7_lay_13 hlk
theorem kcX7_lay {l : Launch} {G : va_G} {cy : Nat → ClassId} {sa : Nat × Nat} {ad : Nat → Nat}  {sz : Nat} (hI : s_inj ad 12) (σ : Sg) (x1 : Int32) (x2 : Int32) (x3 : Int32) {re : Int32} {σe : Sg} (hf : fX7_lay σ x1 x2 x3 = some (re, σe)) : Met l yX7_lay (kW yX7_lay cX7_lay 4 (some .int)) ({ frames := 1, cells := 0, slots := 0, locals := 25 } : Room) (s_P (s_WM cy ad) G cy sa ad 12 [.ref (ad 0), .int x1, .int x2, .int x3] sz σ) (s_Qi (s_WM cy ad) G (s_A ad 12 sz) re σe) 0 0 (s_A ad 12 sz) := by
  refine s_met (own := RX7) (by decide) rfl hI (Nat.le_of_ble_eq_true rfl) (fun p e s m below meth c ls hsz C hP hl => ?_)
  subst hsz
  exact kX7_lay C σ x1 x2 x3 ls _ _ hl hP va_S.rf hf
set_option maxRecDepth 100000 in
set_option maxHeartbeats 4000000 in
theorem kX7_read_b37 (C : s_X p s m meth c args cX7_read (some .int) 10 RX7 G cy sa ad 12) (σ : Sg) (ls : Array Slot) (H : Heap) (locs : List Loc) (hl : lv_has ls 10 []) (hP : va_P G vwCl ((s_WM cy ad) σ) H) (hS : va_S (s_A ad 12 s.heap.size) s.heap H locs) (hf : fX7_read_b37 σ = some (re, σe)) : W p l e ({ frames := 2, cells := 0, slots := 0, locals := 45 } : Room) s m args below meth c H locs 0 0 (MQ below (s_Qi (s_WM cy ad) G (s_A ad 12 s.heap.size) re σe) args s 0 0 (s_A ad 12 s.heap.size)) (F0 m 37 ls []) := by
  obtain ⟨hx, hb, hr, hml, hown, hts, hlk, hK, hE, hI⟩ := id C
  have hD : ∀ σ : Sg, va_D (s_A ad 12 s.heap.size) ((s_WM cy ad) σ) := fun σ => s_D (s_WM_ad cy ad σ) hI (fun k hk => Or.inl ⟨k, hk, rfl⟩)
  unfold fX7_read_b37 at hf
  refine lv_iconst (v := -1) hx hb dX7_read_37 (by decide) ?_
  obtain ⟨he1, he2⟩ := s_ret hf
  exact W.iret hx hb hr (fun t ht hW => ⟨⟨_, (), rfl, he1, s_fin (Wd := (s_WM cy ad)) ht he2 hP⟩, hS.F ht⟩) hS.2.2 dX7_read_38 hlk
set_option maxRecDepth 100000 in
set_option maxHeartbeats 4000000 in
theorem kX7_read_b188 (C : s_X p s m meth c args cX7_read (some .int) 10 RX7 G cy sa ad 12) (σ : Sg) (x5 : Int32) (x6 : Int32) (ls : Array Slot) (H : Heap) (locs : List Loc) (hl : lv_has ls 10 [(0, .ref (ad 0)), (5, .int x5), (6, .int x6)]) (hP : va_P G vwCl ((s_WM cy ad) σ) H) (hS : va_S (s_A ad 12 s.heap.size) s.heap H locs) (hf : fX7_read_b188 σ x5 x6 = some (re, σe)) : W p l e ({ frames := 2, cells := 0, slots := 0, locals := 45 } : Room) s m args below meth c H locs 0 0 (MQ below (s_Qi (s_WM cy ad) G (s_A ad 12 s.heap.size) re σe) args s 0 0 (s_A ad 12 s.heap.size)) (F0 m 188 ls []) := by
  obtain ⟨hx, hb, hr, hml, hown, hts, hlk, hK, hE, hI⟩ := id C
  have hD : ∀ σ : Sg, va_D (s_A ad 12 s.heap.size) ((s_WM cy ad) σ) := fun σ => s_D (s_WM_ad cy ad σ) hI (fun k hk => Or.inl ⟨k, hk, rfl⟩)
  unfold fX7_read_b188 at hf
  refine lv_aload_n hx hb dX7_read_188 rfl (lv_at hl 0 rfl) ?_
  refine lv_iload hx hb dX7_read_189 (lv_at hl 1 rfl) ?_
  refine va_put (D := G) (ci := 7) (v := .int x5) (ty := .int) (C := RX7) (T := TX7) (N := 28) hx hb hts inkX7 tyX7 tyX7_ok nmX7 hown hK hP (hD _) hS 0 rfl rfl 27 (by decide) (hts _ kw_809) (fun _ h9 => h9) rfl (by decide +kernel) rfl rfl (Nat.le_of_ble_eq_true rfl) dX7_read_191 (fun H locs hP _ hS => ?_)
  obtain ⟨σ1, eσ1⟩ : ∃ z : Sg, z = (s_up σ 0 27 x5) := ⟨_, rfl⟩
  replace hf := s_lt_at eσ1 hf
  replace hP : va_P G vwCl ((s_WM cy ad) σ1) H := by rw [eσ1]; exact hP
  refine lv_iload hx hb dX7_read_194 (lv_at hl 2 rfl) ?_
  obtain ⟨he1, he2⟩ := s_ret hf
  exact W.iret hx hb hr (fun t ht hW => ⟨⟨_, (), rfl, he1, s_fin (Wd := (s_WM cy ad)) ht he2 hP⟩, hS.F ht⟩) hS.2.2 dX7_read_196 hlk
set_option maxRecDepth 100000 in
set_option maxHeartbeats 4000000 in
theorem kX7_read_b185 (C : s_X p s m meth c args cX7_read (some .int) 10 RX7 G cy sa ad 12) (k57 : Sg → Int32 → Int32 → Int32 → Int32 → Int32 → Int32 → Option (Int32 × Sg)) (hk57 : ∀ (σ : Sg) (x1 : Int32) (x2 : Int32) (x3 : Int32) (x4 : Int32) (x5 : Int32) (x6 : Int32) (ls : Array Slot) (H : Heap) (locs : List Loc), lv_has ls 10 [(0, .ref (ad 0)), (1, .int x1), (2, .int x2), (3, .int x3), (4, .int x4), (5, .int x5), (6, .int x6)] → va_P G vwCl ((s_WM cy ad) σ) H → va_S (s_A ad 12 s.heap.size) s.heap H locs → k57 σ x1 x2 x3 x4 x5 x6 = some (re, σe) → W p l e ({ frames := 2, cells := 0, slots := 0, locals := 45 } : Room) s m args below meth c H locs 0 0 (MQ below (s_Qi (s_WM cy ad) G (s_A ad 12 s.heap.size) re σe) args s 0 0 (s_A ad 12 s.heap.size)) (F0 m 57 ls [])) (σ : Sg) (x1 : Int32) (x2 : Int32) (x3 : Int32) (x4 : Int32) (x5 : Int32) (x6 : Int32) (ls : Array Slot) (H : Heap) (locs : List Loc) (hl : lv_has ls 10 [(0, .ref (ad 0)), (1, .int x1), (2, .int x2), (3, .int x3), (4, .int x4), (5, .int x5), (6, .int x6)]) (hP : va_P G vwCl ((s_WM cy ad) σ) H) (hS : va_S (s_A ad 12 s.heap.size) s.heap H locs) (hf : fX7_read_b185 k57 σ x1 x2 x3 x4 x5 x6 = some (re, σe)) : W p l e ({ frames := 2, cells := 0, slots := 0, locals := 45 } : Room) s m args below meth c H locs 0 0 (MQ below (s_Qi (s_WM cy ad) G (s_A ad 12 s.heap.size) re σe) args s 0 0 (s_A ad 12 s.heap.size)) (F0 m 185 ls []) := by
  obtain ⟨hx, hb, hr, hml, hown, hts, hlk, hK, hE, hI⟩ := id C
  have hD : ∀ σ : Sg, va_D (s_A ad 12 s.heap.size) ((s_WM cy ad) σ) := fun σ => s_D (s_WM_ad cy ad σ) hI (fun k hk => Or.inl ⟨k, hk, rfl⟩)
  unfold fX7_read_b185 at hf
  refine lv_goto (tgt := 57) hx hb dX7_read_185 (by decide) ?_
  exact hk57 σ x1 x2 x3 x4 x5 x6 _ _ _ (lv_sub hl [0, 1, 2, 3, 4, 5, 6] rfl) hP hS hf
set_option maxRecDepth 100000 in
set_option maxHeartbeats 4000000 in
theorem kX7_read_b168 (C : s_X p s m meth c args cX7_read (some .int) 10 RX7 G cy sa ad 12) (σ : Sg) (x6 : Int32) (ls : Array Slot) (H : Heap) (locs : List Loc) (hl : lv_has ls 10 [(0, .ref (ad 0)), (6, .int x6)]) (hP : va_P G vwCl ((s_WM cy ad) σ) H) (hS : va_S (s_A ad 12 s.heap.size) s.heap H locs) (hf : fX7_read_b168 σ x6 = some (re, σe)) : W p l e ({ frames := 2, cells := 0, slots := 0, locals := 45 } : Room) s m args below meth c H locs 0 0 (MQ below (s_Qi (s_WM cy ad) G (s_A ad 12 s.heap.size) re σe) args s 0 0 (s_A ad 12 s.heap.size)) (F0 m 168 ls []) := by
  obtain ⟨hx, hb, hr, hml, hown, hts, hlk, hK, hE, hI⟩ := id C
  have hD : ∀ σ : Sg, va_D (s_A ad 12 s.heap.size) ((s_WM cy ad) σ) := fun σ => s_D (s_WM_ad cy ad σ) hI (fun k hk => Or.inl ⟨k, hk, rfl⟩)
  unfold fX7_read_b168 at hf
  refine lv_aload_n hx hb dX7_read_168 rfl (lv_at hl 0 rfl) ?_
  refine lv_sipush (v := 412) hx hb dX7_read_169 (by decide) ?_
  refine lv_iconst (v := 0) hx hb dX7_read_172 (by decide) ?_
  replace hf := s_bv_some hf
  obtain ⟨σ1, hz2, hf⟩ := hf
  refine s_callv (nn := 2) C (kcX7_copies (l := l) (G := G) (cy := cy) (sa := sa) hI (sz := H.size) σ (412 : Int32) (0 : Int32) hz2) gk_X7_137 rfl rfl (by decide +kernel) ⟨Nat.le_of_ble_eq_true rfl, Nat.le_of_ble_eq_true rfl⟩ hP hS (q0 := 0) (ci := 7) rfl rfl rfl (As := [.int (412 : Int32), .int (0 : Int32)]) (rest := []) rfl rfl hl.1 (Nat.le_of_ble_eq_true rfl) dX7_read_173 (fun H locs hP hS => ?_)
  refine lv_bipush (v := -20) hx hb dX7_read_176 (by decide) ?_
  refine lv_iload hx hb dX7_read_178 (lv_at hl 1 rfl) ?_
  refine lv_isub hx hb dX7_read_180 ?_
  obtain ⟨he1, he2⟩ := s_ret hf
  exact W.iret hx hb hr (fun t ht hW => ⟨⟨_, (), rfl, he1, s_fin (Wd := (s_WM cy ad)) ht he2 hP⟩, hS.F ht⟩) hS.2.2 dX7_read_181 hlk
set_option maxRecDepth 100000 in
set_option maxHeartbeats 4000000 in
theorem kX7_read_b129 (C : s_X p s m meth c args cX7_read (some .int) 10 RX7 G cy sa ad 12) (k57 : Sg → Int32 → Int32 → Int32 → Int32 → Int32 → Int32 → Option (Int32 × Sg)) (hk57 : ∀ (σ : Sg) (x1 : Int32) (x2 : Int32) (x3 : Int32) (x4 : Int32) (x5 : Int32) (x6 : Int32) (ls : Array Slot) (H : Heap) (locs : List Loc), lv_has ls 10 [(0, .ref (ad 0)), (1, .int x1), (2, .int x2), (3, .int x3), (4, .int x4), (5, .int x5), (6, .int x6)] → va_P G vwCl ((s_WM cy ad) σ) H → va_S (s_A ad 12 s.heap.size) s.heap H locs → k57 σ x1 x2 x3 x4 x5 x6 = some (re, σe) → W p l e ({ frames := 2, cells := 0, slots := 0, locals := 45 } : Room) s m args below meth c H locs 0 0 (MQ below (s_Qi (s_WM cy ad) G (s_A ad 12 s.heap.size) re σe) args s 0 0 (s_A ad 12 s.heap.size)) (F0 m 57 ls [])) (σ : Sg) (x1 : Int32) (x2 : Int32) (x3 : Int32) (x4 : Int32) (x6 : Int32) (x7 : Int64) (y0 : Int32) (ls : Array Slot) (H : Heap) (locs : List Loc) (hl : lv_has ls 10 [(0, .ref (ad 0)), (1, .int x1), (2, .int x2), (3, .int x3), (4, .int x4), (6, .int x6), (7, .long x7)]) (hP : va_P G vwCl ((s_WM cy ad) σ) H) (hS : va_S (s_A ad 12 s.heap.size) s.heap H locs) (hf : fX7_read_b129 k57 σ x1 x2 x3 x4 x6 x7 y0 = some (re, σe)) : W p l e ({ frames := 2, cells := 0, slots := 0, locals := 45 } : Room) s m args below meth c H locs 0 0 (MQ below (s_Qi (s_WM cy ad) G (s_A ad 12 s.heap.size) re σe) args s 0 0 (s_A ad 12 s.heap.size)) (F0 m 129 ls [.int y0]) := by
  obtain ⟨hx, hb, hr, hml, hown, hts, hlk, hK, hE, hI⟩ := id C
  have hD : ∀ σ : Sg, va_D (s_A ad 12 s.heap.size) ((s_WM cy ad) σ) := fun σ => s_D (s_WM_ad cy ad σ) hI (fun k hk => Or.inl ⟨k, hk, rfl⟩)
  unfold fX7_read_b129 at hf
  refine lv_istore (lv' := [(5, .int y0), (0, .ref (ad 0)), (1, .int x1), (2, .int x2), (3, .int x3), (4, .int x4), (6, .int x6), (7, .long x7)]) hx hb dX7_read_129 hl (by decide) rfl (fun ls hl => ?_)
  refine lv_iload hx hb dX7_read_131 (lv_at hl 0 rfl) ?_
  refine lv_if_ne (tgt := 185) hx hb dX7_read_133 (by decide) (fun c1 => ?_) (fun c1 => ?_)
  · rw [if_neg c1] at hf
    exact kX7_read_b185 C k57 hk57 σ x1 x2 x3 x4 y0 x6 _ _ _ (lv_sub hl [1, 2, 3, 4, 5, 0, 6] rfl) hP hS hf
  · rw [if_pos c1] at hf
    refine lv_aload_n hx hb dX7_read_136 rfl (lv_at hl 1 rfl) ?_
    refine va_get (D := G) (ci := 7) (v := .ref (ad 11)) (C := RX7) (T := TX7) (N := 28) hx hb hts inkX7 hown hK hP 0 rfl rfl 26 (by decide) (hts _ kw_808) (fun _ h9 => h9) rfl dX7_read_137 ?_
    refine lv_bipush (v := 40) hx hb dX7_read_140 (by decide) ?_
    refine lv_iload_n hx hb dX7_read_142 rfl (lv_at hl 2 rfl) ?_
    refine lv_imul hx hb dX7_read_143 ?_
    refine lv_lload hx hb dX7_read_144 (lv_at hl 7 rfl) ?_
    refine lv_l2i (v := (Int64.toInt32 x7)) hx hb dX7_read_146 rfl ?_
    refine lv_iadd hx hb dX7_read_147 ?_
    replace hf := s_gd_some hf
    obtain ⟨g2, hf⟩ := hf
    refine va_iald hx hb hK hP 11 1 rfl rfl (s_in_of g2) dX7_read_148 ?_
    refine lv_topi (fun t3 et3 => ?_)
    replace hf := s_lt_at et3 hf
    refine lv_istore (lv' := [(9, .int t3), (5, .int y0), (0, .ref (ad 0)), (1, .int x1), (2, .int x2), (3, .int x3), (4, .int x4), (6, .int x6), (7, .long x7)]) hx hb dX7_read_149 hl (by decide) rfl (fun ls hl => ?_)
    refine lv_iload hx hb dX7_read_151 (lv_at hl 0 rfl) ?_
    replace hf := s_bi_some hf
    obtain ⟨r6, σ4, hz5, hf⟩ := hf
    refine s_calliS (nn := 1) C (kcX7_isReading (l := l) (G := G) (cy := cy) (sa := sa) hI (sz := H.size) σ t3 hz5) gk_X7_216 rfl rfl (by decide +kernel) ⟨Nat.le_of_ble_eq_true rfl, Nat.le_of_ble_eq_true rfl⟩ hP hS (As := [.int t3]) (rest := []) rfl rfl hl.1 (Nat.le_of_ble_eq_true rfl) dX7_read_153 (fun H locs hP hS => ?_)
    refine lv_if_eq (tgt := 168) hx hb dX7_read_156 (by decide) (fun c7 => ?_) (fun c7 => ?_)
    · rw [if_pos c7] at hf
      exact kX7_read_b168 C σ4 x6 _ _ _ (lv_sub hl [2, 7] rfl) hP hS hf
    · rw [if_neg c7] at hf
      refine lv_aload_n hx hb dX7_read_159 rfl (lv_at hl 2 rfl) ?_
      refine lv_iload hx hb dX7_read_160 (lv_at hl 0 rfl) ?_
      replace hf := s_bi_some hf
      obtain ⟨r10, σ8, hz9, hf⟩ := hf
      refine s_calli (nn := 1) C (kcX7_comes (l := l) (G := G) (cy := cy) (sa := sa) hI (sz := H.size) σ4 t3 hz9) gk_X7_219 rfl rfl (by decide +kernel) ⟨Nat.le_of_ble_eq_true rfl, Nat.le_of_ble_eq_true rfl⟩ hP hS (q0 := 0) (ci := 7) rfl rfl rfl (As := [.int t3]) (rest := []) rfl rfl hl.1 (Nat.le_of_ble_eq_true rfl) dX7_read_162 (fun H locs hP hS => ?_)
      refine lv_if_ge (tgt := 182) hx hb dX7_read_165 (by decide) (fun c11 => ?_) (fun c11 => ?_)
      · rw [if_pos c11] at hf
        obtain ⟨t12, et12⟩ : ∃ z : Int32, z = (x6 + 1) := ⟨_, rfl⟩
        replace hf := s_lt_at et12 hf
        refine lv_iinc (v := t12) (lv' := [(6, .int t12), (9, .int t3), (5, .int y0), (0, .ref (ad 0)), (1, .int x1), (2, .int x2), (3, .int x3), (4, .int x4), (7, .long x7)]) hx hb dX7_read_182 hl (k := 7) rfl (by rw [et12]; rfl) (by decide) rfl (fun ls hl => ?_)
        exact kX7_read_b185 C k57 hk57 σ8 x1 x2 x3 x4 y0 t12 _ _ _ (lv_sub hl [3, 4, 5, 6, 7, 2, 0] rfl) hP hS hf
      · rw [if_neg c11] at hf
        exact kX7_read_b168 C σ8 x6 _ _ _ (lv_sub hl [2, 7] rfl) hP hS hf
set_option maxRecDepth 100000 in
set_option maxHeartbeats 4000000 in
theorem kX7_read_b57 (C : s_X p s m meth c args cX7_read (some .int) 10 RX7 G cy sa ad 12) (k57 : Sg → Int32 → Int32 → Int32 → Int32 → Int32 → Int32 → Option (Int32 × Sg)) (hk57 : ∀ (σ : Sg) (x1 : Int32) (x2 : Int32) (x3 : Int32) (x4 : Int32) (x5 : Int32) (x6 : Int32) (ls : Array Slot) (H : Heap) (locs : List Loc), lv_has ls 10 [(0, .ref (ad 0)), (1, .int x1), (2, .int x2), (3, .int x3), (4, .int x4), (5, .int x5), (6, .int x6)] → va_P G vwCl ((s_WM cy ad) σ) H → va_S (s_A ad 12 s.heap.size) s.heap H locs → k57 σ x1 x2 x3 x4 x5 x6 = some (re, σe) → W p l e ({ frames := 2, cells := 0, slots := 0, locals := 45 } : Room) s m args below meth c H locs 0 0 (MQ below (s_Qi (s_WM cy ad) G (s_A ad 12 s.heap.size) re σe) args s 0 0 (s_A ad 12 s.heap.size)) (F0 m 57 ls [])) (σ : Sg) (x1 : Int32) (x2 : Int32) (x3 : Int32) (x4 : Int32) (x5 : Int32) (x6 : Int32) (ls : Array Slot) (H : Heap) (locs : List Loc) (hl : lv_has ls 10 [(0, .ref (ad 0)), (1, .int x1), (2, .int x2), (3, .int x3), (4, .int x4), (5, .int x5), (6, .int x6)]) (hP : va_P G vwCl ((s_WM cy ad) σ) H) (hS : va_S (s_A ad 12 s.heap.size) s.heap H locs) (hf : fX7_read_b57 k57 σ x1 x2 x3 x4 x5 x6 = some (re, σe)) : W p l e ({ frames := 2, cells := 0, slots := 0, locals := 45 } : Room) s m args below meth c H locs 0 0 (MQ below (s_Qi (s_WM cy ad) G (s_A ad 12 s.heap.size) re σe) args s 0 0 (s_A ad 12 s.heap.size)) (F0 m 57 ls []) := by
  obtain ⟨hx, hb, hr, hml, hown, hts, hlk, hK, hE, hI⟩ := id C
  have hD : ∀ σ : Sg, va_D (s_A ad 12 s.heap.size) ((s_WM cy ad) σ) := fun σ => s_D (s_WM_ad cy ad σ) hI (fun k hk => Or.inl ⟨k, hk, rfl⟩)
  unfold fX7_read_b57 at hf
  refine lv_iload hx hb dX7_read_57 (lv_at hl 6 rfl) ?_
  refine lv_iload hx hb dX7_read_59 (lv_at hl 4 rfl) ?_
  refine lv_icmp_ge (tgt := 188) hx hb dX7_read_61 (by decide) (fun c1 => ?_) (fun c1 => ?_)
  · rw [if_pos c1] at hf
    exact kX7_read_b188 C σ x5 x6 _ _ _ (lv_sub hl [0, 5, 6] rfl) hP hS hf
  · rw [if_neg c1] at hf
    refine lv_iload hx hb dX7_read_64 (lv_at hl 5 rfl) ?_
    refine lv_if_ne (tgt := 188) hx hb dX7_read_66 (by decide) (fun c2 => ?_) (fun c2 => ?_)
    · rw [if_neg c2] at hf
      exact kX7_read_b188 C σ x5 x6 _ _ _ (lv_sub hl [0, 5, 6] rfl) hP hS hf
    · rw [if_pos c2] at hf
      refine lv_iload_n hx hb dX7_read_69 rfl (lv_at hl 3 rfl) ?_
      refine lv_i2l (v := (Int32.toInt64 x3)) hx hb dX7_read_70 rfl ?_
      refine lv_iload hx hb dX7_read_71 (lv_at hl 6 rfl) ?_
      refine lv_i2l (v := (Int32.toInt64 x6)) hx hb dX7_read_73 rfl ?_
      refine lv_ladd hx hb dX7_read_74 ?_
      refine lv_topl (fun t3 et3 => ?_)
      replace hf := s_lt_at et3 hf
      refine lv_lstore (lv' := [(7, .long t3), (0, .ref (ad 0)), (1, .int x1), (2, .int x2), (3, .int x3), (4, .int x4), (5, .int x5), (6, .int x6)]) hx hb dX7_read_75 hl (by decide) rfl (fun ls hl => ?_)
      refine lv_aload_n hx hb dX7_read_77 rfl (lv_at hl 1 rfl) ?_
      refine va_get (D := G) (ci := 7) (v := .ref (ad 9)) (C := RX7) (T := TX7) (N := 28) hx hb hts inkX7 hown hK hP 0 rfl rfl 24 (by decide) (hts _ kw_806) (fun _ h9 => h9) rfl dX7_read_78 ?_
      refine lv_iload_n hx hb dX7_read_81 rfl (lv_at hl 2 rfl) ?_
      replace hf := s_gd_some hf
      obtain ⟨g4, hf⟩ := hf
      refine va_iald hx hb hK hP 9 1 rfl rfl (s_in_of g4) dX7_read_82 ?_
      refine lv_bipush (v := -4) hx hb dX7_read_83 (by decide) ?_
      refine lv_icmp_ne (tgt := 92) hx hb dX7_read_85 (by decide) (fun c5 => ?_) (fun c5 => ?_)
      · rw [if_neg c5] at hf
        refine lv_aload_n hx hb dX7_read_92 rfl (lv_at hl 1 rfl) ?_
        refine va_get (D := G) (ci := 7) (v := .ref (ad 9)) (C := RX7) (T := TX7) (N := 28) hx hb hts inkX7 hown hK hP 0 rfl rfl 24 (by decide) (hts _ kw_806) (fun _ h9 => h9) rfl dX7_read_93 ?_
        refine lv_iload_n hx hb dX7_read_96 rfl (lv_at hl 2 rfl) ?_
        replace hf := s_gd_some hf
        obtain ⟨g6, hf⟩ := hf
        refine va_iald hx hb hK hP 9 1 rfl rfl (s_in_of g6) dX7_read_97 ?_
        refine lv_iload_n hx hb dX7_read_98 rfl (lv_at hl 3 rfl) ?_
        refine lv_icmp_eq (tgt := 106) hx hb dX7_read_99 (by decide) (fun c7 => ?_) (fun c7 => ?_)
        · rw [if_pos c7] at hf
          refine lv_lload hx hb dX7_read_106 (lv_at hl 0 rfl) ?_
          refine lv_lconst (v := 0) hx hb dX7_read_108 (by decide) ?_
          refine lv_aload_n hx hb dX7_read_109 rfl (lv_at hl 1 rfl) ?_
          refine va_get (D := G) (ci := 7) (v := .ref (ad 10)) (C := RX7) (T := TX7) (N := 28) hx hb hts inkX7 hown hK hP 0 rfl rfl 25 (by decide) (hts _ kw_807) (fun _ h9 => h9) rfl dX7_read_110 ?_
          refine lv_iload_n hx hb dX7_read_113 rfl (lv_at hl 2 rfl) ?_
          replace hf := s_gd_some hf
          obtain ⟨g8, hf⟩ := hf
          refine va_iald hx hb hK hP 10 1 rfl rfl (s_in_of g8) dX7_read_114 ?_
          refine lv_iconst (v := 1) hx hb dX7_read_115 (by decide) ?_
          refine lv_isub hx hb dX7_read_116 ?_
          refine lv_i2l (v := (Int32.toInt64 ((σ 10 (Int32.toNatClampNeg x1)) - (1 : Int32)))) hx hb dX7_read_117 rfl ?_
          replace hf := s_bi_some hf
          obtain ⟨r11, σ9, hz10, hf⟩ := hf
          refine s_calliS (nn := 3) C (kcX7_in (l := l) (G := G) (cy := cy) (sa := sa) hI (sz := H.size) σ t3 (0 : Int64) (Int32.toInt64 ((σ 10 (Int32.toNatClampNeg x1)) - (1 : Int32))) hz10) gk_X7_54 rfl rfl (by decide +kernel) ⟨Nat.le_of_ble_eq_true rfl, Nat.le_of_ble_eq_true rfl⟩ hP hS (As := [.long t3, .long (0 : Int64), .long (Int32.toInt64 ((σ 10 (Int32.toNatClampNeg x1)) - (1 : Int32)))]) (rest := []) rfl rfl hl.1 (Nat.le_of_ble_eq_true rfl) dX7_read_118 (fun H locs hP hS => ?_)
          refine lv_if_ne (tgt := 128) hx hb dX7_read_121 (by decide) (fun c12 => ?_) (fun c12 => ?_)
          · rw [if_neg c12] at hf
            refine lv_iconst (v := 0) hx hb dX7_read_128 (by decide) ?_
            exact kX7_read_b129 C k57 hk57 σ9 x1 x2 x3 x4 x6 t3 (0 : Int32) _ _ _ (lv_sub hl [1, 2, 3, 4, 5, 7, 0] rfl) hP hS hf
          · rw [if_pos c12] at hf
            refine lv_iconst (v := 2) hx hb dX7_read_124 (by decide) ?_
            refine lv_goto (tgt := 129) hx hb dX7_read_125 (by decide) ?_
            exact kX7_read_b129 C k57 hk57 σ9 x1 x2 x3 x4 x6 t3 (2 : Int32) _ _ _ (lv_sub hl [1, 2, 3, 4, 5, 7, 0] rfl) hP hS hf
        · rw [if_neg c7] at hf
          refine lv_iconst (v := 3) hx hb dX7_read_102 (by decide) ?_
          refine lv_goto (tgt := 129) hx hb dX7_read_103 (by decide) ?_
          exact kX7_read_b129 C k57 hk57 σ x1 x2 x3 x4 x6 t3 (3 : Int32) _ _ _ (lv_sub hl [1, 2, 3, 4, 5, 7, 0] rfl) hP hS hf
      · rw [if_pos c5] at hf
        refine lv_iconst (v := 1) hx hb dX7_read_88 (by decide) ?_
        refine lv_goto (tgt := 129) hx hb dX7_read_89 (by decide) ?_
        exact kX7_read_b129 C k57 hk57 σ x1 x2 x3 x4 x6 t3 (1 : Int32) _ _ _ (lv_sub hl [1, 2, 3, 4, 5, 7, 0] rfl) hP hS hf
set_option maxRecDepth 100000 in
set_option maxHeartbeats 4000000 in
theorem kX7_read_b57_L (C : s_X p s m meth c args cX7_read (some .int) 10 RX7 G cy sa ad 12) : ∀ (n : Nat), ∀ (σ : Sg) (x1 : Int32) (x2 : Int32) (x3 : Int32) (x4 : Int32) (x5 : Int32) (x6 : Int32) (ls : Array Slot) (H : Heap) (locs : List Loc), lv_has ls 10 [(0, .ref (ad 0)), (1, .int x1), (2, .int x2), (3, .int x3), (4, .int x4), (5, .int x5), (6, .int x6)] → va_P G vwCl ((s_WM cy ad) σ) H → va_S (s_A ad 12 s.heap.size) s.heap H locs → fX7_read_b57_L n σ x1 x2 x3 x4 x5 x6 = some (re, σe) → W p l e ({ frames := 2, cells := 0, slots := 0, locals := 45 } : Room) s m args below meth c H locs 0 0 (MQ below (s_Qi (s_WM cy ad) G (s_A ad 12 s.heap.size) re σe) args s 0 0 (s_A ad 12 s.heap.size)) (F0 m 57 ls []) := by
  intro n
  induction n with
  | zero => intro σ x1 x2 x3 x4 x5 x6 ls H locs hl hP hS hf; exact absurd (show (none : Option (Int32 × Sg)) = some (re, σe) from hf) (by intro h; cases h)
  | succ n ih => intro σ x1 x2 x3 x4 x5 x6 ls H locs hl hP hS hf; exact kX7_read_b57 C (fX7_read_b57_L n) ih σ x1 x2 x3 x4 x5 x6 ls H locs hl hP hS hf
set_option maxRecDepth 100000 in
set_option maxHeartbeats 4000000 in
theorem kX7_read (C : s_X p s m meth c args cX7_read (some .int) 10 RX7 G cy sa ad 12) (σ : Sg) (x1 : Int32) (x2 : Int32) (x3 : Int32) (x4 : Int32) (ls : Array Slot) (H : Heap) (locs : List Loc) (hl : lv_has ls 10 [(0, .ref (ad 0)), (1, .int x1), (2, .int x2), (3, .int x3), (4, .int x4)]) (hP : va_P G vwCl ((s_WM cy ad) σ) H) (hS : va_S (s_A ad 12 s.heap.size) s.heap H locs) (hf : fX7_read σ x1 x2 x3 x4 = some (re, σe)) : W p l e ({ frames := 2, cells := 0, slots := 0, locals := 45 } : Room) s m args below meth c H locs 0 0 (MQ below (s_Qi (s_WM cy ad) G (s_A ad 12 s.heap.size) re σe) args s 0 0 (s_A ad 12 s.heap.size)) (F0 m 0 ls []) := by
  obtain ⟨hx, hb, hr, hml, hown, hts, hlk, hK, hE, hI⟩ := id C
  have hD : ∀ σ : Sg, va_D (s_A ad 12 s.heap.size) ((s_WM cy ad) σ) := fun σ => s_D (s_WM_ad cy ad σ) hI (fun k hk => Or.inl ⟨k, hk, rfl⟩)
  unfold fX7_read at hf
  refine lv_iload_n hx hb dX7_read_0 rfl (lv_at hl 1 rfl) ?_
  refine lv_i2l (v := (Int32.toInt64 x1)) hx hb dX7_read_1 rfl ?_
  refine lv_lconst (v := 0) hx hb dX7_read_2 (by decide) ?_
  refine lv_ldc2 (v := 3) hx hb hown (hts _ kw_1050) dX7_read_3 ?_
  replace hf := s_bi_some hf
  obtain ⟨r3, σ1, hz2, hf⟩ := hf
  refine s_calliS (nn := 3) C (kcX7_in (l := l) (G := G) (cy := cy) (sa := sa) hI (sz := H.size) σ (Int32.toInt64 x1) (0 : Int64) (3 : Int64) hz2) gk_X7_54 rfl rfl (by decide +kernel) ⟨Nat.le_of_ble_eq_true rfl, Nat.le_of_ble_eq_true rfl⟩ hP hS (As := [.long (Int32.toInt64 x1), .long (0 : Int64), .long (3 : Int64)]) (rest := []) rfl rfl hl.1 (Nat.le_of_ble_eq_true rfl) dX7_read_6 (fun H locs hP hS => ?_)
  refine lv_if_eq (tgt := 37) hx hb dX7_read_9 (by decide) (fun c4 => ?_) (fun c4 => ?_)
  · rw [if_pos c4] at hf
    exact kX7_read_b37 C σ1 _ _ _ (lv_sub hl [] rfl) hP hS hf
  · rw [if_neg c4] at hf
    refine lv_iload_n hx hb dX7_read_12 rfl (lv_at hl 2 rfl) ?_
    refine lv_i2l (v := (Int32.toInt64 x2)) hx hb dX7_read_13 rfl ?_
    refine lv_lconst (v := 0) hx hb dX7_read_14 (by decide) ?_
    refine lv_ldc2 (v := 2) hx hb hown (hts _ kw_976) dX7_read_15 ?_
    replace hf := s_bi_some hf
    obtain ⟨r7, σ5, hz6, hf⟩ := hf
    refine s_calliS (nn := 3) C (kcX7_in (l := l) (G := G) (cy := cy) (sa := sa) hI (sz := H.size) σ1 (Int32.toInt64 x2) (0 : Int64) (2 : Int64) hz6) gk_X7_54 rfl rfl (by decide +kernel) ⟨Nat.le_of_ble_eq_true rfl, Nat.le_of_ble_eq_true rfl⟩ hP hS (As := [.long (Int32.toInt64 x2), .long (0 : Int64), .long (2 : Int64)]) (rest := []) rfl rfl hl.1 (Nat.le_of_ble_eq_true rfl) dX7_read_18 (fun H locs hP hS => ?_)
    refine lv_if_eq (tgt := 37) hx hb dX7_read_21 (by decide) (fun c8 => ?_) (fun c8 => ?_)
    · rw [if_pos c8] at hf
      exact kX7_read_b37 C σ5 _ _ _ (lv_sub hl [] rfl) hP hS hf
    · rw [if_neg c8] at hf
      refine lv_iload hx hb dX7_read_24 (lv_at hl 4 rfl) ?_
      refine lv_i2l (v := (Int32.toInt64 x4)) hx hb dX7_read_26 rfl ?_
      refine lv_lconst (v := 0) hx hb dX7_read_27 (by decide) ?_
      refine lv_ldc2 (v := 40) hx hb hown (hts _ kw_1142) dX7_read_28 ?_
      replace hf := s_bi_some hf
      obtain ⟨r11, σ9, hz10, hf⟩ := hf
      refine s_calliS (nn := 3) C (kcX7_in (l := l) (G := G) (cy := cy) (sa := sa) hI (sz := H.size) σ5 (Int32.toInt64 x4) (0 : Int64) (40 : Int64) hz10) gk_X7_54 rfl rfl (by decide +kernel) ⟨Nat.le_of_ble_eq_true rfl, Nat.le_of_ble_eq_true rfl⟩ hP hS (As := [.long (Int32.toInt64 x4), .long (0 : Int64), .long (40 : Int64)]) (rest := []) rfl rfl hl.1 (Nat.le_of_ble_eq_true rfl) dX7_read_31 (fun H locs hP hS => ?_)
      refine lv_if_ne (tgt := 39) hx hb dX7_read_34 (by decide) (fun c12 => ?_) (fun c12 => ?_)
      · rw [if_neg c12] at hf
        refine lv_aload_n hx hb dX7_read_39 rfl (lv_at hl 0 rfl) ?_
        replace hf := s_bv_some hf
        obtain ⟨σ13, hz14, hf⟩ := hf
        refine s_callv (nn := 0) C (kcX7_starts (l := l) (G := G) (cy := cy) (sa := sa) hI (sz := H.size) σ9 hz14) gk_X7_128 rfl rfl (by decide +kernel) ⟨Nat.le_of_ble_eq_true rfl, Nat.le_of_ble_eq_true rfl⟩ hP hS (q0 := 0) (ci := 7) rfl rfl rfl (As := []) (rest := []) rfl rfl hl.1 (Nat.le_of_ble_eq_true rfl) dX7_read_40 (fun H locs hP hS => ?_)
        refine lv_aload_n hx hb dX7_read_43 rfl (lv_at hl 0 rfl) ?_
        refine lv_iconst (v := 0) hx hb dX7_read_44 (by decide) ?_
        refine lv_sipush (v := 412) hx hb dX7_read_45 (by decide) ?_
        replace hf := s_bv_some hf
        obtain ⟨σ15, hz16, hf⟩ := hf
        refine s_callv (nn := 2) C (kcX7_copies (l := l) (G := G) (cy := cy) (sa := sa) hI (sz := H.size) σ13 (0 : Int32) (412 : Int32) hz16) gk_X7_137 rfl rfl (by decide +kernel) ⟨Nat.le_of_ble_eq_true rfl, Nat.le_of_ble_eq_true rfl⟩ hP hS (q0 := 0) (ci := 7) rfl rfl rfl (As := [.int (0 : Int32), .int (412 : Int32)]) (rest := []) rfl rfl hl.1 (Nat.le_of_ble_eq_true rfl) dX7_read_48 (fun H locs hP hS => ?_)
        refine lv_iconst (v := 0) hx hb dX7_read_51 (by decide) ?_
        refine lv_istore (lv' := [(5, .int (0 : Int32)), (0, .ref (ad 0)), (1, .int x1), (2, .int x2), (3, .int x3), (4, .int x4)]) hx hb dX7_read_52 hl (by decide) rfl (fun ls hl => ?_)
        refine lv_iconst (v := 0) hx hb dX7_read_54 (by decide) ?_
        refine lv_istore (lv' := [(6, .int (0 : Int32)), (5, .int (0 : Int32)), (0, .ref (ad 0)), (1, .int x1), (2, .int x2), (3, .int x3), (4, .int x4)]) hx hb dX7_read_55 hl (by decide) rfl (fun ls hl => ?_)
        exact kX7_read_b57_L C s_fu σ15 x1 x2 x3 x4 (0 : Int32) (0 : Int32) _ _ _ (lv_sub hl [2, 3, 4, 5, 6, 1, 0] rfl) hP hS hf
      · rw [if_pos c12] at hf
        exact kX7_read_b37 C σ9 _ _ _ (lv_sub hl [] rfl) hP hS hf
theorem kcX7_read {l : Launch} {G : va_G} {cy : Nat → ClassId} {sa : Nat × Nat} {ad : Nat → Nat}  {sz : Nat} (hI : s_inj ad 12) (σ : Sg) (x1 : Int32) (x2 : Int32) (x3 : Int32) (x4 : Int32) {re : Int32} {σe : Sg} (hf : fX7_read σ x1 x2 x3 x4 = some (re, σe)) : Met l yX7_read (kW yX7_read cX7_read 10 (some .int)) ({ frames := 2, cells := 0, slots := 0, locals := 45 } : Room) (s_P (s_WM cy ad) G cy sa ad 12 [.ref (ad 0), .int x1, .int x2, .int x3, .int x4] sz σ) (s_Qi (s_WM cy ad) G (s_A ad 12 sz) re σe) 0 0 (s_A ad 12 sz) := by
  refine s_met (own := RX7) (by decide) rfl hI (Nat.le_of_ble_eq_true rfl) (fun p e s m below meth c ls hsz C hP hl => ?_)
  subst hsz
  exact kX7_read C σ x1 x2 x3 x4 ls _ _ hl hP va_S.rf hf
set_option maxRecDepth 100000 in
set_option maxHeartbeats 4000000 in
theorem kX7_torn (C : s_X p s m meth c args cX7_torn (some .int) 1 RX7 G cy sa ad 12) (σ : Sg) (ls : Array Slot) (H : Heap) (locs : List Loc) (hl : lv_has ls 1 [(0, .ref (ad 0))]) (hP : va_P G vwCl ((s_WM cy ad) σ) H) (hS : va_S (s_A ad 12 s.heap.size) s.heap H locs) (hf : fX7_torn σ = some (re, σe)) : W p l e ({ frames := 0, cells := 0, slots := 0, locals := 0 } : Room) s m args below meth c H locs 0 0 (MQ below (s_Qi (s_WM cy ad) G (s_A ad 12 s.heap.size) re σe) args s 0 0 (s_A ad 12 s.heap.size)) (F0 m 0 ls []) := by
  obtain ⟨hx, hb, hr, hml, hown, hts, hlk, hK, hE, hI⟩ := id C
  have hD : ∀ σ : Sg, va_D (s_A ad 12 s.heap.size) ((s_WM cy ad) σ) := fun σ => s_D (s_WM_ad cy ad σ) hI (fun k hk => Or.inl ⟨k, hk, rfl⟩)
  unfold fX7_torn at hf
  refine lv_aload_n hx hb dX7_torn_0 rfl (lv_at hl 0 rfl) ?_
  refine va_get (D := G) (ci := 7) (v := .int (σ 0 27)) (C := RX7) (T := TX7) (N := 28) hx hb hts inkX7 hown hK hP 0 rfl rfl 27 (by decide) (hts _ kw_809) (fun _ h9 => h9) rfl dX7_torn_1 ?_
  obtain ⟨he1, he2⟩ := s_ret hf
  exact W.iret hx hb hr (fun t ht hW => ⟨⟨_, (), rfl, he1, s_fin (Wd := (s_WM cy ad)) ht he2 hP⟩, hS.F ht⟩) hS.2.2 dX7_torn_4 hlk
theorem kcX7_torn {l : Launch} {G : va_G} {cy : Nat → ClassId} {sa : Nat × Nat} {ad : Nat → Nat}  {sz : Nat} (hI : s_inj ad 12) (σ : Sg) {re : Int32} {σe : Sg} (hf : fX7_torn σ = some (re, σe)) : Met l yX7_torn (kW yX7_torn cX7_torn 1 (some .int)) ({ frames := 0, cells := 0, slots := 0, locals := 0 } : Room) (s_P (s_WM cy ad) G cy sa ad 12 [.ref (ad 0)] sz σ) (s_Qi (s_WM cy ad) G (s_A ad 12 sz) re σe) 0 0 (s_A ad 12 sz) := by
  refine s_met (own := RX7) (by decide) rfl hI (Nat.le_of_ble_eq_true rfl) (fun p e s m below meth c ls hsz C hP hl => ?_)
  subst hsz
  exact kX7_torn C σ ls _ _ hl hP va_S.rf hf
set_option maxRecDepth 100000 in
set_option maxHeartbeats 4000000 in
theorem kX7_shownAll_b4 (C : s_X p s m meth c args cX7_shownAll (some .int) 3 RX7 G cy sa ad 12) (k4 : Sg → Int32 → Int32 → Option (Int32 × Sg)) (hk4 : ∀ (σ : Sg) (x1 : Int32) (x2 : Int32) (ls : Array Slot) (H : Heap) (locs : List Loc), lv_has ls 3 [(0, .ref (ad 0)), (1, .int x1), (2, .int x2)] → va_P G vwCl ((s_WM cy ad) σ) H → va_S (s_A ad 12 s.heap.size) s.heap H locs → k4 σ x1 x2 = some (re, σe) → W p l e ({ frames := 4, cells := 0, slots := 0, locals := 97 } : Room) s m args below meth c H locs 0 0 (MQ below (s_Qi (s_WM cy ad) G (s_A ad 12 s.heap.size) re σe) args s 0 0 (s_A ad 12 s.heap.size)) (F0 m 4 ls [])) (σ : Sg) (x1 : Int32) (x2 : Int32) (ls : Array Slot) (H : Heap) (locs : List Loc) (hl : lv_has ls 3 [(0, .ref (ad 0)), (1, .int x1), (2, .int x2)]) (hP : va_P G vwCl ((s_WM cy ad) σ) H) (hS : va_S (s_A ad 12 s.heap.size) s.heap H locs) (hf : fX7_shownAll_b4 k4 σ x1 x2 = some (re, σe)) : W p l e ({ frames := 4, cells := 0, slots := 0, locals := 97 } : Room) s m args below meth c H locs 0 0 (MQ below (s_Qi (s_WM cy ad) G (s_A ad 12 s.heap.size) re σe) args s 0 0 (s_A ad 12 s.heap.size)) (F0 m 4 ls []) := by
  obtain ⟨hx, hb, hr, hml, hown, hts, hlk, hK, hE, hI⟩ := id C
  have hD : ∀ σ : Sg, va_D (s_A ad 12 s.heap.size) ((s_WM cy ad) σ) := fun σ => s_D (s_WM_ad cy ad σ) hI (fun k hk => Or.inl ⟨k, hk, rfl⟩)
  unfold fX7_shownAll_b4 at hf
  refine lv_iload_n hx hb dX7_shownAll_4 rfl (lv_at hl 2 rfl) ?_
  refine lv_aload_n hx hb dX7_shownAll_5 rfl (lv_at hl 0 rfl) ?_
  replace hf := s_bi_some hf
  obtain ⟨r3, σ1, hz2, hf⟩ := hf
  refine s_calli (nn := 0) C (kcX7_many (l := l) (G := G) (cy := cy) (sa := sa) hI (sz := H.size) σ hz2) gk_X7_141 rfl rfl (by decide +kernel) ⟨Nat.le_of_ble_eq_true rfl, Nat.le_of_ble_eq_true rfl⟩ hP hS (q0 := 0) (ci := 7) rfl rfl rfl (As := []) (rest := [.int x2]) rfl rfl hl.1 (Nat.le_of_ble_eq_true rfl) dX7_shownAll_6 (fun H locs hP hS => ?_)
  refine lv_icmp_ge (tgt := 26) hx hb dX7_shownAll_9 (by decide) (fun c4 => ?_) (fun c4 => ?_)
  · rw [if_pos c4] at hf
    refine lv_iload_n hx hb dX7_shownAll_26 rfl (lv_at hl 1 rfl) ?_
    obtain ⟨he1, he2⟩ := s_ret hf
    exact W.iret hx hb hr (fun t ht hW => ⟨⟨_, (), rfl, he1, s_fin (Wd := (s_WM cy ad)) ht he2 hP⟩, hS.F ht⟩) hS.2.2 dX7_shownAll_27 hlk
  · rw [if_neg c4] at hf
    refine lv_iload_n hx hb dX7_shownAll_12 rfl (lv_at hl 1 rfl) ?_
    refine lv_aload_n hx hb dX7_shownAll_13 rfl (lv_at hl 0 rfl) ?_
    refine lv_iload_n hx hb dX7_shownAll_14 rfl (lv_at hl 2 rfl) ?_
    replace hf := s_bi_some hf
    obtain ⟨r7, σ5, hz6, hf⟩ := hf
    refine s_calli (nn := 1) C (kcX7_shownOf (l := l) (G := G) (cy := cy) (sa := sa) hI (sz := H.size) σ1 x2 hz6) gk_X7_195 rfl rfl (by decide +kernel) ⟨Nat.le_of_ble_eq_true rfl, Nat.le_of_ble_eq_true rfl⟩ hP hS (q0 := 0) (ci := 7) rfl rfl rfl (As := [.int x2]) (rest := [.int x1]) rfl rfl hl.1 (Nat.le_of_ble_eq_true rfl) dX7_shownAll_15 (fun H locs hP hS => ?_)
    refine lv_iadd hx hb dX7_shownAll_18 ?_
    refine lv_topi (fun t8 et8 => ?_)
    replace hf := s_lt_at et8 hf
    refine lv_istore_n (lv' := [(1, .int t8), (0, .ref (ad 0)), (2, .int x2)]) hx hb dX7_shownAll_19 rfl hl (by decide) rfl (fun ls hl => ?_)
    obtain ⟨t9, et9⟩ : ∃ z : Int32, z = (x2 + 1) := ⟨_, rfl⟩
    replace hf := s_lt_at et9 hf
    refine lv_iinc (v := t9) (lv' := [(2, .int t9), (1, .int t8), (0, .ref (ad 0))]) hx hb dX7_shownAll_20 hl (k := 2) rfl (by rw [et9]; rfl) (by decide) rfl (fun ls hl => ?_)
    refine lv_goto (tgt := 4) hx hb dX7_shownAll_23 (by decide) ?_
    exact hk4 σ5 t8 t9 _ _ _ (lv_sub hl [2, 1, 0] rfl) hP hS hf
set_option maxRecDepth 100000 in
set_option maxHeartbeats 4000000 in
theorem kX7_shownAll_b4_L (C : s_X p s m meth c args cX7_shownAll (some .int) 3 RX7 G cy sa ad 12) : ∀ (n : Nat), ∀ (σ : Sg) (x1 : Int32) (x2 : Int32) (ls : Array Slot) (H : Heap) (locs : List Loc), lv_has ls 3 [(0, .ref (ad 0)), (1, .int x1), (2, .int x2)] → va_P G vwCl ((s_WM cy ad) σ) H → va_S (s_A ad 12 s.heap.size) s.heap H locs → fX7_shownAll_b4_L n σ x1 x2 = some (re, σe) → W p l e ({ frames := 4, cells := 0, slots := 0, locals := 97 } : Room) s m args below meth c H locs 0 0 (MQ below (s_Qi (s_WM cy ad) G (s_A ad 12 s.heap.size) re σe) args s 0 0 (s_A ad 12 s.heap.size)) (F0 m 4 ls []) := by
  intro n
  induction n with
  | zero => intro σ x1 x2 ls H locs hl hP hS hf; exact absurd (show (none : Option (Int32 × Sg)) = some (re, σe) from hf) (by intro h; cases h)
  | succ n ih => intro σ x1 x2 ls H locs hl hP hS hf; exact kX7_shownAll_b4 C (fX7_shownAll_b4_L n) ih σ x1 x2 ls H locs hl hP hS hf
set_option maxRecDepth 100000 in
set_option maxHeartbeats 4000000 in
theorem kX7_shownAll (C : s_X p s m meth c args cX7_shownAll (some .int) 3 RX7 G cy sa ad 12) (σ : Sg) (ls : Array Slot) (H : Heap) (locs : List Loc) (hl : lv_has ls 3 [(0, .ref (ad 0))]) (hP : va_P G vwCl ((s_WM cy ad) σ) H) (hS : va_S (s_A ad 12 s.heap.size) s.heap H locs) (hf : fX7_shownAll σ = some (re, σe)) : W p l e ({ frames := 4, cells := 0, slots := 0, locals := 97 } : Room) s m args below meth c H locs 0 0 (MQ below (s_Qi (s_WM cy ad) G (s_A ad 12 s.heap.size) re σe) args s 0 0 (s_A ad 12 s.heap.size)) (F0 m 0 ls []) := by
  obtain ⟨hx, hb, hr, hml, hown, hts, hlk, hK, hE, hI⟩ := id C
  have hD : ∀ σ : Sg, va_D (s_A ad 12 s.heap.size) ((s_WM cy ad) σ) := fun σ => s_D (s_WM_ad cy ad σ) hI (fun k hk => Or.inl ⟨k, hk, rfl⟩)
  unfold fX7_shownAll at hf
  refine lv_iconst (v := 0) hx hb dX7_shownAll_0 (by decide) ?_
  refine lv_istore_n (lv' := [(1, .int (0 : Int32)), (0, .ref (ad 0))]) hx hb dX7_shownAll_1 rfl hl (by decide) rfl (fun ls hl => ?_)
  refine lv_iconst (v := 0) hx hb dX7_shownAll_2 (by decide) ?_
  refine lv_istore_n (lv' := [(2, .int (0 : Int32)), (1, .int (0 : Int32)), (0, .ref (ad 0))]) hx hb dX7_shownAll_3 rfl hl (by decide) rfl (fun ls hl => ?_)
  exact kX7_shownAll_b4_L C s_fu σ (0 : Int32) (0 : Int32) _ _ _ (lv_sub hl [2, 1, 0] rfl) hP hS hf
theorem kcX7_shownAll {l : Launch} {G : va_G} {cy : Nat → ClassId} {sa : Nat × Nat} {ad : Nat → Nat}  {sz : Nat} (hI : s_inj ad 12) (σ : Sg) {re : Int32} {σe : Sg} (hf : fX7_shownAll σ = some (re, σe)) : Met l yX7_shownAll (kW yX7_shownAll cX7_shownAll 3 (some .int)) ({ frames := 4, cells := 0, slots := 0, locals := 97 } : Room) (s_P (s_WM cy ad) G cy sa ad 12 [.ref (ad 0)] sz σ) (s_Qi (s_WM cy ad) G (s_A ad 12 sz) re σe) 0 0 (s_A ad 12 sz) := by
  refine s_met (own := RX7) (by decide) rfl hI (Nat.le_of_ble_eq_true rfl) (fun p e s m below meth c ls hsz C hP hl => ?_)
  subst hsz
  exact kX7_shownAll C σ ls _ _ hl hP va_S.rf hf
set_option maxRecDepth 100000 in
set_option maxHeartbeats 4000000 in
theorem kX7_count_b64 (C : s_X p s m meth c args cX7_count (some .int) 2 RX7 G cy sa ad 12) (σ : Sg) (y0 : Int32) (y1 : Int32) (ls : Array Slot) (H : Heap) (locs : List Loc) (hl : lv_has ls 2 []) (hP : va_P G vwCl ((s_WM cy ad) σ) H) (hS : va_S (s_A ad 12 s.heap.size) s.heap H locs) (hf : fX7_count_b64 σ y0 y1 = some (re, σe)) : W p l e ({ frames := 5, cells := 0, slots := 0, locals := 119 } : Room) s m args below meth c H locs 0 0 (MQ below (s_Qi (s_WM cy ad) G (s_A ad 12 s.heap.size) re σe) args s 0 0 (s_A ad 12 s.heap.size)) (F0 m 64 ls [.int y1, .int y0]) := by
  obtain ⟨hx, hb, hr, hml, hown, hts, hlk, hK, hE, hI⟩ := id C
  have hD : ∀ σ : Sg, va_D (s_A ad 12 s.heap.size) ((s_WM cy ad) σ) := fun σ => s_D (s_WM_ad cy ad σ) hI (fun k hk => Or.inl ⟨k, hk, rfl⟩)
  unfold fX7_count_b64 at hf
  refine lv_iadd hx hb dX7_count_64 ?_
  obtain ⟨he1, he2⟩ := s_ret hf
  exact W.iret hx hb hr (fun t ht hW => ⟨⟨_, (), rfl, he1, s_fin (Wd := (s_WM cy ad)) ht he2 hP⟩, hS.F ht⟩) hS.2.2 dX7_count_65 hlk
set_option maxRecDepth 100000 in
set_option maxHeartbeats 4000000 in
theorem kX7_count_b50 (C : s_X p s m meth c args cX7_count (some .int) 2 RX7 G cy sa ad 12) (σ : Sg) (y0 : Int32) (ls : Array Slot) (H : Heap) (locs : List Loc) (hl : lv_has ls 2 [(0, .ref (ad 0))]) (hP : va_P G vwCl ((s_WM cy ad) σ) H) (hS : va_S (s_A ad 12 s.heap.size) s.heap H locs) (hf : fX7_count_b50 σ y0 = some (re, σe)) : W p l e ({ frames := 5, cells := 0, slots := 0, locals := 119 } : Room) s m args below meth c H locs 0 0 (MQ below (s_Qi (s_WM cy ad) G (s_A ad 12 s.heap.size) re σe) args s 0 0 (s_A ad 12 s.heap.size)) (F0 m 50 ls [.int y0]) := by
  obtain ⟨hx, hb, hr, hml, hown, hts, hlk, hK, hE, hI⟩ := id C
  have hD : ∀ σ : Sg, va_D (s_A ad 12 s.heap.size) ((s_WM cy ad) σ) := fun σ => s_D (s_WM_ad cy ad σ) hI (fun k hk => Or.inl ⟨k, hk, rfl⟩)
  unfold fX7_count_b50 at hf
  refine lv_aload_n hx hb dX7_count_50 rfl (lv_at hl 0 rfl) ?_
  refine va_get (D := G) (ci := 7) (v := .ref (ad 8)) (C := RX7) (T := TX7) (N := 28) hx hb hts inkX7 hown hK hP 0 rfl rfl 23 (by decide) (hts _ kw_805) (fun _ h9 => h9) rfl dX7_count_51 ?_
  refine lv_iconst (v := 1) hx hb dX7_count_54 (by decide) ?_
  refine va_zald hx hb hK hP 8 2 rfl rfl (by unfold vp_in; decide) dX7_count_55 ?_
  rw [cl_1]
  refine lv_if_eq (tgt := 63) hx hb dX7_count_56 (by decide) (fun c1 => ?_) (fun c1 => ?_)
  · rw [if_pos c1] at hf
    refine lv_iconst (v := 0) hx hb dX7_count_63 (by decide) ?_
    exact kX7_count_b64 C σ y0 (0 : Int32) _ _ _ (lv_sub hl [] rfl) hP hS hf
  · rw [if_neg c1] at hf
    refine lv_iconst (v := 1) hx hb dX7_count_59 (by decide) ?_
    refine lv_goto (tgt := 64) hx hb dX7_count_60 (by decide) ?_
    exact kX7_count_b64 C σ y0 (1 : Int32) _ _ _ (lv_sub hl [] rfl) hP hS hf
set_option maxRecDepth 100000 in
set_option maxHeartbeats 4000000 in
theorem kX7_count (C : s_X p s m meth c args cX7_count (some .int) 2 RX7 G cy sa ad 12) (σ : Sg) (x1 : Int32) (ls : Array Slot) (H : Heap) (locs : List Loc) (hl : lv_has ls 2 [(0, .ref (ad 0)), (1, .int x1)]) (hP : va_P G vwCl ((s_WM cy ad) σ) H) (hS : va_S (s_A ad 12 s.heap.size) s.heap H locs) (hf : fX7_count σ x1 = some (re, σe)) : W p l e ({ frames := 5, cells := 0, slots := 0, locals := 119 } : Room) s m args below meth c H locs 0 0 (MQ below (s_Qi (s_WM cy ad) G (s_A ad 12 s.heap.size) re σe) args s 0 0 (s_A ad 12 s.heap.size)) (F0 m 0 ls []) := by
  obtain ⟨hx, hb, hr, hml, hown, hts, hlk, hK, hE, hI⟩ := id C
  have hD : ∀ σ : Sg, va_D (s_A ad 12 s.heap.size) ((s_WM cy ad) σ) := fun σ => s_D (s_WM_ad cy ad σ) hI (fun k hk => Or.inl ⟨k, hk, rfl⟩)
  unfold fX7_count at hf
  refine lv_aload_n hx hb dX7_count_0 rfl (lv_at hl 0 rfl) ?_
  replace hf := s_bv_some hf
  obtain ⟨σ1, hz2, hf⟩ := hf
  refine s_callv (nn := 0) C (kcX7_starts (l := l) (G := G) (cy := cy) (sa := sa) hI (sz := H.size) σ hz2) gk_X7_128 rfl rfl (by decide +kernel) ⟨Nat.le_of_ble_eq_true rfl, Nat.le_of_ble_eq_true rfl⟩ hP hS (q0 := 0) (ci := 7) rfl rfl rfl (As := []) (rest := []) rfl rfl hl.1 (Nat.le_of_ble_eq_true rfl) dX7_count_1 (fun H locs hP hS => ?_)
  refine lv_iload_n hx hb dX7_count_4 rfl (lv_at hl 1 rfl) ?_
  by_cases c3 : x1 = 0
  · rw [if_pos c3] at hf
    refine lv_tableIn (off := 31) (tgt := 36) hx hb dX7_count_5 (by rw [c3]; decide) (by rw [c3]; decide) (by rw [c3]; rfl) (by decide) ?_
    refine lv_aload_n hx hb dX7_count_36 rfl (lv_at hl 0 rfl) ?_
    refine va_get (D := G) (ci := 7) (v := .ref (ad 8)) (C := RX7) (T := TX7) (N := 28) hx hb hts inkX7 hown hK hP 0 rfl rfl 23 (by decide) (hts _ kw_805) (fun _ h9 => h9) rfl dX7_count_37 ?_
    refine lv_iconst (v := 0) hx hb dX7_count_40 (by decide) ?_
    refine va_zald hx hb hK hP 8 2 rfl rfl (by unfold vp_in; decide) dX7_count_41 ?_
    rw [cl_0]
    refine lv_if_eq (tgt := 49) hx hb dX7_count_42 (by decide) (fun c4 => ?_) (fun c4 => ?_)
    · rw [if_pos c4] at hf
      refine lv_iconst (v := 0) hx hb dX7_count_49 (by decide) ?_
      exact kX7_count_b50 C σ1 (0 : Int32) _ _ _ (lv_sub hl [0] rfl) hP hS hf
    · rw [if_neg c4] at hf
      refine lv_iconst (v := 1) hx hb dX7_count_45 (by decide) ?_
      refine lv_goto (tgt := 50) hx hb dX7_count_46 (by decide) ?_
      exact kX7_count_b50 C σ1 (1 : Int32) _ _ _ (lv_sub hl [0] rfl) hP hS hf
  · rw [if_neg c3] at hf
    by_cases c5 : x1 = 1
    · rw [if_pos c5] at hf
      refine lv_tableIn (off := 61) (tgt := 66) hx hb dX7_count_5 (by rw [c5]; decide) (by rw [c5]; decide) (by rw [c5]; rfl) (by decide) ?_
      refine lv_aload_n hx hb dX7_count_66 rfl (lv_at hl 0 rfl) ?_
      refine va_get (D := G) (ci := 7) (v := .int (σ1 0 3)) (C := RX7) (T := TX7) (N := 28) hx hb hts inkX7 hown hK hP 0 rfl rfl 3 (by decide) (hts _ kw_785) (fun _ h9 => h9) rfl dX7_count_67 ?_
      obtain ⟨he1, he2⟩ := s_ret hf
      exact W.iret hx hb hr (fun t ht hW => ⟨⟨_, (), rfl, he1, s_fin (Wd := (s_WM cy ad)) ht he2 hP⟩, hS.F ht⟩) hS.2.2 dX7_count_70 hlk
    · rw [if_neg c5] at hf
      by_cases c6 : x1 = 2
      · rw [if_pos c6] at hf
        refine lv_tableIn (off := 66) (tgt := 71) hx hb dX7_count_5 (by rw [c6]; decide) (by rw [c6]; decide) (by rw [c6]; rfl) (by decide) ?_
        refine lv_aload_n hx hb dX7_count_71 rfl (lv_at hl 0 rfl) ?_
        refine va_get (D := G) (ci := 7) (v := .ref (ad 9)) (C := RX7) (T := TX7) (N := 28) hx hb hts inkX7 hown hK hP 0 rfl rfl 24 (by decide) (hts _ kw_806) (fun _ h9 => h9) rfl dX7_count_72 ?_
        refine lv_iconst (v := 0) hx hb dX7_count_75 (by decide) ?_
        refine va_iald hx hb hK hP 9 1 rfl rfl (by unfold vp_in; decide) dX7_count_76 ?_
        rw [cl_0]
        refine lv_bipush (v := -4) hx hb dX7_count_77 (by decide) ?_
        refine lv_icmp_ne (tgt := 87) hx hb dX7_count_79 (by decide) (fun c7 => ?_) (fun c7 => ?_)
        · rw [if_neg c7] at hf
          refine lv_aload_n hx hb dX7_count_87 rfl (lv_at hl 0 rfl) ?_
          refine va_get (D := G) (ci := 7) (v := .ref (ad 10)) (C := RX7) (T := TX7) (N := 28) hx hb hts inkX7 hown hK hP 0 rfl rfl 25 (by decide) (hts _ kw_807) (fun _ h9 => h9) rfl dX7_count_88 ?_
          refine lv_iconst (v := 0) hx hb dX7_count_91 (by decide) ?_
          refine va_iald hx hb hK hP 10 1 rfl rfl (by unfold vp_in; decide) dX7_count_92 ?_
          rw [cl_0]
          obtain ⟨he1, he2⟩ := s_ret hf
          exact W.iret hx hb hr (fun t ht hW => ⟨⟨_, (), rfl, he1, s_fin (Wd := (s_WM cy ad)) ht he2 hP⟩, hS.F ht⟩) hS.2.2 dX7_count_93 hlk
        · rw [if_pos c7] at hf
          refine lv_bipush (v := -4) hx hb dX7_count_82 (by decide) ?_
          refine lv_goto (tgt := 93) hx hb dX7_count_84 (by decide) ?_
          obtain ⟨he1, he2⟩ := s_ret hf
          exact W.iret hx hb hr (fun t ht hW => ⟨⟨_, (), rfl, he1, s_fin (Wd := (s_WM cy ad)) ht he2 hP⟩, hS.F ht⟩) hS.2.2 dX7_count_93 hlk
      · rw [if_neg c6] at hf
        by_cases c8 : x1 = 3
        · rw [if_pos c8] at hf
          refine lv_tableIn (off := 89) (tgt := 94) hx hb dX7_count_5 (by rw [c8]; decide) (by rw [c8]; decide) (by rw [c8]; rfl) (by decide) ?_
          refine lv_aload_n hx hb dX7_count_94 rfl (lv_at hl 0 rfl) ?_
          replace hf := s_bi_some hf
          obtain ⟨r11, σ9, hz10, hf⟩ := hf
          refine s_calli (nn := 0) C (kcX7_shownAll (l := l) (G := G) (cy := cy) (sa := sa) hI (sz := H.size) σ1 hz10) gk_X7_243 rfl rfl (by decide +kernel) ⟨Nat.le_of_ble_eq_true rfl, Nat.le_of_ble_eq_true rfl⟩ hP hS (q0 := 0) (ci := 7) rfl rfl rfl (As := []) (rest := []) rfl rfl hl.1 (Nat.le_of_ble_eq_true rfl) dX7_count_95 (fun H locs hP hS => ?_)
          obtain ⟨he1, he2⟩ := s_ret hf
          exact W.iret hx hb hr (fun t ht hW => ⟨⟨_, (), rfl, he1, s_fin (Wd := (s_WM cy ad)) ht he2 hP⟩, hS.F ht⟩) hS.2.2 dX7_count_98 hlk
        · rw [if_neg c8] at hf
          have qc3 := lv_neT c3 (a := 0) (by decide)
          have qc5 := lv_neT c5 (a := 1) (by decide)
          have qc6 := lv_neT c6 (a := 2) (by decide)
          have qc8 := lv_neT c8 (a := 3) (by decide)
          refine lv_tableOut (tgt := 99) hx hb dX7_count_5 (by omega) (by decide) ?_
          refine lv_iconst (v := -1) hx hb dX7_count_99 (by decide) ?_
          obtain ⟨he1, he2⟩ := s_ret hf
          exact W.iret hx hb hr (fun t ht hW => ⟨⟨_, (), rfl, he1, s_fin (Wd := (s_WM cy ad)) ht he2 hP⟩, hS.F ht⟩) hS.2.2 dX7_count_100 hlk
theorem kcX7_count {l : Launch} {G : va_G} {cy : Nat → ClassId} {sa : Nat × Nat} {ad : Nat → Nat}  {sz : Nat} (hI : s_inj ad 12) (σ : Sg) (x1 : Int32) {re : Int32} {σe : Sg} (hf : fX7_count σ x1 = some (re, σe)) : Met l yX7_count (kW yX7_count cX7_count 2 (some .int)) ({ frames := 5, cells := 0, slots := 0, locals := 119 } : Room) (s_P (s_WM cy ad) G cy sa ad 12 [.ref (ad 0), .int x1] sz σ) (s_Qi (s_WM cy ad) G (s_A ad 12 sz) re σe) 0 0 (s_A ad 12 sz) := by
  refine s_met (own := RX7) (by decide) rfl hI (Nat.le_of_ble_eq_true rfl) (fun p e s m below meth c ls hsz C hP hl => ?_)
  subst hsz
  exact kX7_count C σ x1 ls _ _ hl hP va_S.rf hf
end
