section
variable {p : Program} {l : Launch} {e : Env} {s : State} {m : MethodId} {below : List Frame} {meth : Method} {c : Code} {G : va_G} {cy : Nat → ClassId} {sa : Nat × Nat} {ad : Nat → Nat} {args : Array Value} {re : Int32} {σe : Sg}
set_option maxRecDepth 100000 in
set_option maxHeartbeats 4000000 in
theorem kX7_in_b17 (C : s_X p s m meth c args cX7_in (some .boolean) 6 RX7 G cy sa ad 12) (σ : Sg) (ls : Array Slot) (H : Heap) (locs : List Loc) (hl : lv_has ls 6 []) (hP : va_P G vwCl ((s_WM cy ad) σ) H) (hS : va_S (s_A ad 12 s.heap.size) s.heap H locs) (hf : fX7_in_b17 σ = some (re, σe)) : W p l e ({ frames := 0, cells := 0, slots := 0, locals := 0 } : Room) s m args below meth c H locs 0 0 (MQ below (s_Qi (s_WM cy ad) G (s_A ad 12 s.heap.size) re σe) args s 0 0 (s_A ad 12 s.heap.size)) (F0 m 17 ls []) := by
  obtain ⟨hx, hb, hr, hml, hown, hts, hlk, hK, hE, hI⟩ := id C
  have hD : ∀ σ : Sg, va_D (s_A ad 12 s.heap.size) ((s_WM cy ad) σ) := fun σ => s_D (s_WM_ad cy ad σ) hI (fun k hk => Or.inl ⟨k, hk, rfl⟩)
  unfold fX7_in_b17 at hf
  refine lv_iconst (v := 0) hx hb dX7_in_17 (by decide) ?_
  obtain ⟨he1, he2⟩ := s_ret hf
  exact W.zret hx hb hr rfl (fun t ht hW => ⟨⟨_, (), rfl, he1, s_fin (Wd := (s_WM cy ad)) ht he2 hP⟩, hS.F ht⟩) hS.2.2 dX7_in_18 hlk
set_option maxRecDepth 100000 in
set_option maxHeartbeats 4000000 in
theorem kX7_in (C : s_X p s m meth c args cX7_in (some .boolean) 6 RX7 G cy sa ad 12) (σ : Sg) (x0 : Int64) (x2 : Int64) (x4 : Int64) (ls : Array Slot) (H : Heap) (locs : List Loc) (hl : lv_has ls 6 [(0, .long x0), (2, .long x2), (4, .long x4)]) (hP : va_P G vwCl ((s_WM cy ad) σ) H) (hS : va_S (s_A ad 12 s.heap.size) s.heap H locs) (hf : fX7_in σ x0 x2 x4 = some (re, σe)) : W p l e ({ frames := 0, cells := 0, slots := 0, locals := 0 } : Room) s m args below meth c H locs 0 0 (MQ below (s_Qi (s_WM cy ad) G (s_A ad 12 s.heap.size) re σe) args s 0 0 (s_A ad 12 s.heap.size)) (F0 m 0 ls []) := by
  obtain ⟨hx, hb, hr, hml, hown, hts, hlk, hK, hE, hI⟩ := id C
  have hD : ∀ σ : Sg, va_D (s_A ad 12 s.heap.size) ((s_WM cy ad) σ) := fun σ => s_D (s_WM_ad cy ad σ) hI (fun k hk => Or.inl ⟨k, hk, rfl⟩)
  unfold fX7_in at hf
  refine lv_lload_n hx hb dX7_in_0 rfl (lv_at hl 0 rfl) ?_
  refine lv_lload_n hx hb dX7_in_1 rfl (lv_at hl 1 rfl) ?_
  refine W.lcmp hx hb dX7_in_2 ?_
  refine lv_if_lt (tgt := 17) hx hb dX7_in_3 (by decide) (fun c1 => ?_) (fun c1 => ?_)
  · rw [if_pos c1] at hf
    exact kX7_in_b17 C σ _ _ _ (lv_sub hl [] rfl) hP hS hf
  · rw [if_neg c1] at hf
    refine lv_lload_n hx hb dX7_in_6 rfl (lv_at hl 0 rfl) ?_
    refine lv_lload hx hb dX7_in_7 (lv_at hl 2 rfl) ?_
    refine W.lcmp hx hb dX7_in_9 ?_
    refine lv_if_gt (tgt := 17) hx hb dX7_in_10 (by decide) (fun c2 => ?_) (fun c2 => ?_)
    · rw [if_pos c2] at hf
      exact kX7_in_b17 C σ _ _ _ (lv_sub hl [] rfl) hP hS hf
    · rw [if_neg c2] at hf
      refine lv_iconst (v := 1) hx hb dX7_in_13 (by decide) ?_
      refine lv_goto (tgt := 18) hx hb dX7_in_14 (by decide) ?_
      obtain ⟨he1, he2⟩ := s_ret hf
      exact W.zret hx hb hr rfl (fun t ht hW => ⟨⟨_, (), rfl, he1, s_fin (Wd := (s_WM cy ad)) ht he2 hP⟩, hS.F ht⟩) hS.2.2 dX7_in_18 hlk
theorem kcX7_in {l : Launch} {G : va_G} {cy : Nat → ClassId} {sa : Nat × Nat} {ad : Nat → Nat}  {sz : Nat} (hI : s_inj ad 12) (σ : Sg) (x0 : Int64) (x2 : Int64) (x4 : Int64) {re : Int32} {σe : Sg} (hf : fX7_in σ x0 x2 x4 = some (re, σe)) : Met l yX7_in (kW yX7_in cX7_in 6 (some .boolean)) ({ frames := 0, cells := 0, slots := 0, locals := 0 } : Room) (s_P (s_WM cy ad) G cy sa ad 12 [.long x0, .long x2, .long x4] sz σ) (s_Qi (s_WM cy ad) G (s_A ad 12 sz) re σe) 0 0 (s_A ad 12 sz) := by
  refine s_met (own := RX7) (by decide) rfl hI (Nat.le_of_ble_eq_true rfl) (fun p e s m below meth c ls hsz C hP hl => ?_)
  subst hsz
  exact kX7_in C σ x0 x2 x4 ls _ _ hl hP va_S.rf hf
set_option maxRecDepth 100000 in
set_option maxHeartbeats 4000000 in
theorem kX7_begins (C : s_X p s m meth c args cX7_begins none 2 RX7 G cy sa ad 12) (σ : Sg) (x1 : Int32) (ls : Array Slot) (H : Heap) (locs : List Loc) (hl : lv_has ls 2 [(0, .ref (ad 0)), (1, .int x1)]) (hP : va_P G vwCl ((s_WM cy ad) σ) H) (hS : va_S (s_A ad 12 s.heap.size) s.heap H locs) (hf : fX7_begins σ x1 = some σe) : W p l e ({ frames := 0, cells := 0, slots := 0, locals := 0 } : Room) s m args below meth c H locs 0 0 (MQ below (s_Qv (s_WM cy ad) G (s_A ad 12 s.heap.size) σe) args s 0 0 (s_A ad 12 s.heap.size)) (F0 m 0 ls []) := by
  obtain ⟨hx, hb, hr, hml, hown, hts, hlk, hK, hE, hI⟩ := id C
  have hD : ∀ σ : Sg, va_D (s_A ad 12 s.heap.size) ((s_WM cy ad) σ) := fun σ => s_D (s_WM_ad cy ad σ) hI (fun k hk => Or.inl ⟨k, hk, rfl⟩)
  unfold fX7_begins at hf
  refine lv_aload_n hx hb dX7_begins_0 rfl (lv_at hl 0 rfl) ?_
  refine va_get (D := G) (ci := 7) (v := .ref (ad 1)) (C := RX7) (T := TX7) (N := 28) hx hb hts inkX7 hown hK hP 0 rfl rfl 0 (by decide) (hts _ kw_782) (fun _ h9 => h9) rfl dX7_begins_1 ?_
  refine lv_iload_n hx hb dX7_begins_4 rfl (lv_at hl 1 rfl) ?_
  refine lv_bipush (v := 96) hx hb dX7_begins_5 (by decide) ?_
  refine lv_iadd hx hb dX7_begins_7 ?_
  refine lv_iconst (v := 5) hx hb dX7_begins_8 (by decide) ?_
  replace hf := s_gd_some hf
  obtain ⟨g1, hf⟩ := hf
  refine va_iast hx hb hK hP (hD _) hS 1 1 rfl rfl (s_in_of g1) dX7_begins_9 (fun H locs hP _ hS => ?_)
  obtain ⟨σ2, eσ2⟩ : ∃ z : Sg, z = (s_up σ 1 (Int32.toNatClampNeg (x1 + (96 : Int32))) (5 : Int32)) := ⟨_, rfl⟩
  replace hf := s_lt_at eσ2 hf
  replace hP : va_P G vwCl ((s_WM cy ad) σ2) H := by rw [eσ2]; exact hP
  refine lv_aload_n hx hb dX7_begins_10 rfl (lv_at hl 0 rfl) ?_
  refine va_get (D := G) (ci := 7) (v := .ref (ad 1)) (C := RX7) (T := TX7) (N := 28) hx hb hts inkX7 hown hK hP 0 rfl rfl 0 (by decide) (hts _ kw_782) (fun _ h9 => h9) rfl dX7_begins_11 ?_
  refine lv_iload_n hx hb dX7_begins_14 rfl (lv_at hl 1 rfl) ?_
  refine lv_bipush (v := 97) hx hb dX7_begins_15 (by decide) ?_
  refine lv_iadd hx hb dX7_begins_17 ?_
  refine lv_iconst (v := 1) hx hb dX7_begins_18 (by decide) ?_
  replace hf := s_gd_some hf
  obtain ⟨g3, hf⟩ := hf
  refine va_iast hx hb hK hP (hD _) hS 1 1 rfl rfl (s_in_of g3) dX7_begins_19 (fun H locs hP _ hS => ?_)
  obtain ⟨σ4, eσ4⟩ : ∃ z : Sg, z = (s_up σ2 1 (Int32.toNatClampNeg (x1 + (97 : Int32))) (1 : Int32)) := ⟨_, rfl⟩
  replace hf := s_lt_at eσ4 hf
  replace hP : va_P G vwCl ((s_WM cy ad) σ4) H := by rw [eσ4]; exact hP
  refine lv_aload_n hx hb dX7_begins_20 rfl (lv_at hl 0 rfl) ?_
  refine va_get (D := G) (ci := 7) (v := .ref (ad 1)) (C := RX7) (T := TX7) (N := 28) hx hb hts inkX7 hown hK hP 0 rfl rfl 0 (by decide) (hts _ kw_782) (fun _ h9 => h9) rfl dX7_begins_21 ?_
  refine lv_iload_n hx hb dX7_begins_24 rfl (lv_at hl 1 rfl) ?_
  refine lv_bipush (v := 98) hx hb dX7_begins_25 (by decide) ?_
  refine lv_iadd hx hb dX7_begins_27 ?_
  refine lv_iconst (v := 1) hx hb dX7_begins_28 (by decide) ?_
  replace hf := s_gd_some hf
  obtain ⟨g5, hf⟩ := hf
  refine va_iast hx hb hK hP (hD _) hS 1 1 rfl rfl (s_in_of g5) dX7_begins_29 (fun H locs hP _ hS => ?_)
  obtain ⟨σ6, eσ6⟩ : ∃ z : Sg, z = (s_up σ4 1 (Int32.toNatClampNeg (x1 + (98 : Int32))) (1 : Int32)) := ⟨_, rfl⟩
  replace hf := s_lt_at eσ6 hf
  replace hP : va_P G vwCl ((s_WM cy ad) σ6) H := by rw [eσ6]; exact hP
  refine lv_aload_n hx hb dX7_begins_30 rfl (lv_at hl 0 rfl) ?_
  refine va_get (D := G) (ci := 7) (v := .ref (ad 1)) (C := RX7) (T := TX7) (N := 28) hx hb hts inkX7 hown hK hP 0 rfl rfl 0 (by decide) (hts _ kw_782) (fun _ h9 => h9) rfl dX7_begins_31 ?_
  refine lv_iload_n hx hb dX7_begins_34 rfl (lv_at hl 1 rfl) ?_
  refine lv_bipush (v := 99) hx hb dX7_begins_35 (by decide) ?_
  refine lv_iadd hx hb dX7_begins_37 ?_
  refine lv_iconst (v := 2) hx hb dX7_begins_38 (by decide) ?_
  replace hf := s_gd_some hf
  obtain ⟨g7, hf⟩ := hf
  refine va_iast hx hb hK hP (hD _) hS 1 1 rfl rfl (s_in_of g7) dX7_begins_39 (fun H locs hP _ hS => ?_)
  obtain ⟨σ8, eσ8⟩ : ∃ z : Sg, z = (s_up σ6 1 (Int32.toNatClampNeg (x1 + (99 : Int32))) (2 : Int32)) := ⟨_, rfl⟩
  replace hf := s_lt_at eσ8 hf
  replace hP : va_P G vwCl ((s_WM cy ad) σ8) H := by rw [eσ8]; exact hP
  refine lv_aload_n hx hb dX7_begins_40 rfl (lv_at hl 0 rfl) ?_
  refine va_get (D := G) (ci := 7) (v := .ref (ad 1)) (C := RX7) (T := TX7) (N := 28) hx hb hts inkX7 hown hK hP 0 rfl rfl 0 (by decide) (hts _ kw_782) (fun _ h9 => h9) rfl dX7_begins_41 ?_
  refine lv_iload_n hx hb dX7_begins_44 rfl (lv_at hl 1 rfl) ?_
  refine lv_bipush (v := 100) hx hb dX7_begins_45 (by decide) ?_
  refine lv_iadd hx hb dX7_begins_47 ?_
  refine lv_iconst (v := 0) hx hb dX7_begins_48 (by decide) ?_
  replace hf := s_gd_some hf
  obtain ⟨g9, hf⟩ := hf
  refine va_iast hx hb hK hP (hD _) hS 1 1 rfl rfl (s_in_of g9) dX7_begins_49 (fun H locs hP _ hS => ?_)
  obtain ⟨σ10, eσ10⟩ : ∃ z : Sg, z = (s_up σ8 1 (Int32.toNatClampNeg (x1 + (100 : Int32))) (0 : Int32)) := ⟨_, rfl⟩
  replace hf := s_lt_at eσ10 hf
  replace hP : va_P G vwCl ((s_WM cy ad) σ10) H := by rw [eσ10]; exact hP
  refine lv_aload_n hx hb dX7_begins_50 rfl (lv_at hl 0 rfl) ?_
  refine va_get (D := G) (ci := 7) (v := .ref (ad 1)) (C := RX7) (T := TX7) (N := 28) hx hb hts inkX7 hown hK hP 0 rfl rfl 0 (by decide) (hts _ kw_782) (fun _ h9 => h9) rfl dX7_begins_51 ?_
  refine lv_iload_n hx hb dX7_begins_54 rfl (lv_at hl 1 rfl) ?_
  refine lv_bipush (v := 101) hx hb dX7_begins_55 (by decide) ?_
  refine lv_iadd hx hb dX7_begins_57 ?_
  refine lv_iconst (v := 0) hx hb dX7_begins_58 (by decide) ?_
  replace hf := s_gd_some hf
  obtain ⟨g11, hf⟩ := hf
  refine va_iast hx hb hK hP (hD _) hS 1 1 rfl rfl (s_in_of g11) dX7_begins_59 (fun H locs hP _ hS => ?_)
  obtain ⟨σ12, eσ12⟩ : ∃ z : Sg, z = (s_up σ10 1 (Int32.toNatClampNeg (x1 + (101 : Int32))) (0 : Int32)) := ⟨_, rfl⟩
  replace hf := s_lt_at eσ12 hf
  replace hP : va_P G vwCl ((s_WM cy ad) σ12) H := by rw [eσ12]; exact hP
  refine lv_aload_n hx hb dX7_begins_60 rfl (lv_at hl 0 rfl) ?_
  refine va_get (D := G) (ci := 7) (v := .ref (ad 1)) (C := RX7) (T := TX7) (N := 28) hx hb hts inkX7 hown hK hP 0 rfl rfl 0 (by decide) (hts _ kw_782) (fun _ h9 => h9) rfl dX7_begins_61 ?_
  refine lv_iload_n hx hb dX7_begins_64 rfl (lv_at hl 1 rfl) ?_
  refine lv_bipush (v := 102) hx hb dX7_begins_65 (by decide) ?_
  refine lv_iadd hx hb dX7_begins_67 ?_
  refine lv_iconst (v := 0) hx hb dX7_begins_68 (by decide) ?_
  replace hf := s_gd_some hf
  obtain ⟨g13, hf⟩ := hf
  refine va_iast hx hb hK hP (hD _) hS 1 1 rfl rfl (s_in_of g13) dX7_begins_69 (fun H locs hP _ hS => ?_)
  obtain ⟨σ14, eσ14⟩ : ∃ z : Sg, z = (s_up σ12 1 (Int32.toNatClampNeg (x1 + (102 : Int32))) (0 : Int32)) := ⟨_, rfl⟩
  replace hf := s_lt_at eσ14 hf
  replace hP : va_P G vwCl ((s_WM cy ad) σ14) H := by rw [eσ14]; exact hP
  have he2 := Option.some.inj hf
  exact W.vret hx hb hr (fun t ht hW => ⟨⟨(), rfl, trivial, s_fin (Wd := (s_WM cy ad)) ht he2 hP⟩, hS.F ht⟩) hS.2.2 dX7_begins_70 hlk
theorem kcX7_begins {l : Launch} {G : va_G} {cy : Nat → ClassId} {sa : Nat × Nat} {ad : Nat → Nat}  {sz : Nat} (hI : s_inj ad 12) (σ : Sg) (x1 : Int32) {σe : Sg} (hf : fX7_begins σ x1 = some σe) : Met l yX7_begins (kW yX7_begins cX7_begins 2 none) ({ frames := 0, cells := 0, slots := 0, locals := 0 } : Room) (s_P (s_WM cy ad) G cy sa ad 12 [.ref (ad 0), .int x1] sz σ) (s_Qv (s_WM cy ad) G (s_A ad 12 sz) σe) 0 0 (s_A ad 12 sz) := by
  refine s_met (own := RX7) (by decide) rfl hI (Nat.le_of_ble_eq_true rfl) (fun p e s m below meth c ls hsz C hP hl => ?_)
  subst hsz
  exact kX7_begins C σ x1 ls _ _ hl hP va_S.rf hf
set_option maxRecDepth 100000 in
set_option maxHeartbeats 4000000 in
theorem kX7_starts (C : s_X p s m meth c args cX7_starts none 1 RX7 G cy sa ad 12) (σ : Sg) (ls : Array Slot) (H : Heap) (locs : List Loc) (hl : lv_has ls 1 [(0, .ref (ad 0))]) (hP : va_P G vwCl ((s_WM cy ad) σ) H) (hS : va_S (s_A ad 12 s.heap.size) s.heap H locs) (hf : fX7_starts σ = some σe) : W p l e ({ frames := 1, cells := 0, slots := 0, locals := 21 } : Room) s m args below meth c H locs 0 0 (MQ below (s_Qv (s_WM cy ad) G (s_A ad 12 s.heap.size) σe) args s 0 0 (s_A ad 12 s.heap.size)) (F0 m 0 ls []) := by
  obtain ⟨hx, hb, hr, hml, hown, hts, hlk, hK, hE, hI⟩ := id C
  have hD : ∀ σ : Sg, va_D (s_A ad 12 s.heap.size) ((s_WM cy ad) σ) := fun σ => s_D (s_WM_ad cy ad σ) hI (fun k hk => Or.inl ⟨k, hk, rfl⟩)
  unfold fX7_starts at hf
  refine lv_aload_n hx hb dX7_starts_0 rfl (lv_at hl 0 rfl) ?_
  refine va_get (D := G) (ci := 7) (v := .int (σ 0 1)) (C := RX7) (T := TX7) (N := 28) hx hb hts inkX7 hown hK hP 0 rfl rfl 1 (by decide) (hts _ kw_783) (fun _ h9 => h9) rfl dX7_starts_1 ?_
  refine lv_if_ne (tgt := 17) hx hb dX7_starts_4 (by decide) (fun c1 => ?_) (fun c1 => ?_)
  · rw [if_neg c1] at hf
    have he2 := Option.some.inj hf
    exact W.vret hx hb hr (fun t ht hW => ⟨⟨(), rfl, trivial, s_fin (Wd := (s_WM cy ad)) ht he2 hP⟩, hS.F ht⟩) hS.2.2 dX7_starts_17 hlk
  · rw [if_pos c1] at hf
    refine lv_aload_n hx hb dX7_starts_7 rfl (lv_at hl 0 rfl) ?_
    refine lv_iconst (v := 1) hx hb dX7_starts_8 (by decide) ?_
    refine va_put (D := G) (ci := 7) (v := .int (1 : Int32)) (ty := .boolean) (C := RX7) (T := TX7) (N := 28) hx hb hts inkX7 tyX7 tyX7_ok nmX7 hown hK hP (hD _) hS 0 rfl rfl 1 (by decide) (hts _ kw_783) (fun _ h9 => h9) rfl (by decide +kernel) rfl rfl (Nat.le_of_ble_eq_true rfl) dX7_starts_9 (fun H locs hP _ hS => ?_)
    obtain ⟨σ2, eσ2⟩ : ∃ z : Sg, z = (s_up σ 0 1 (1 : Int32)) := ⟨_, rfl⟩
    replace hf := s_lt_at eσ2 hf
    replace hP : va_P G vwCl ((s_WM cy ad) σ2) H := by rw [eσ2]; exact hP
    refine lv_aload_n hx hb dX7_starts_12 rfl (lv_at hl 0 rfl) ?_
    refine lv_iconst (v := 0) hx hb dX7_starts_13 (by decide) ?_
    replace hf := s_bv_some hf
    obtain ⟨σ3, hz4, hf⟩ := hf
    refine s_callv (nn := 1) C (kcX7_begins (l := l) (G := G) (cy := cy) (sa := sa) hI (sz := H.size) σ2 (0 : Int32) hz4) gk_X7_48 rfl rfl (by decide +kernel) ⟨Nat.le_of_ble_eq_true rfl, Nat.le_of_ble_eq_true rfl⟩ hP hS (q0 := 0) (ci := 7) rfl rfl rfl (As := [.int (0 : Int32)]) (rest := []) rfl rfl hl.1 (Nat.le_of_ble_eq_true rfl) dX7_starts_14 (fun H locs hP hS => ?_)
    have he2 := Option.some.inj hf
    exact W.vret hx hb hr (fun t ht hW => ⟨⟨(), rfl, trivial, s_fin (Wd := (s_WM cy ad)) ht he2 hP⟩, hS.F ht⟩) hS.2.2 dX7_starts_17 hlk
theorem kcX7_starts {l : Launch} {G : va_G} {cy : Nat → ClassId} {sa : Nat × Nat} {ad : Nat → Nat}  {sz : Nat} (hI : s_inj ad 12) (σ : Sg) {σe : Sg} (hf : fX7_starts σ = some σe) : Met l yX7_starts (kW yX7_starts cX7_starts 1 none) ({ frames := 1, cells := 0, slots := 0, locals := 21 } : Room) (s_P (s_WM cy ad) G cy sa ad 12 [.ref (ad 0)] sz σ) (s_Qv (s_WM cy ad) G (s_A ad 12 sz) σe) 0 0 (s_A ad 12 sz) := by
  refine s_met (own := RX7) (by decide) rfl hI (Nat.le_of_ble_eq_true rfl) (fun p e s m below meth c ls hsz C hP hl => ?_)
  subst hsz
  exact kX7_starts C σ ls _ _ hl hP va_S.rf hf
set_option maxRecDepth 100000 in
set_option maxHeartbeats 4000000 in
theorem kX7_feed (C : s_X p s m meth c args cX7_feed (some .int) 2 RX7 G cy sa ad 12) (σ : Sg) (x1 : Int32) (ls : Array Slot) (H : Heap) (locs : List Loc) (hl : lv_has ls 2 [(0, .ref (ad 0)), (1, .int x1)]) (hP : va_P G vwCl ((s_WM cy ad) σ) H) (hS : va_S (s_A ad 12 s.heap.size) s.heap H locs) (hf : fX7_feed σ x1 = some (re, σe)) : W p l e ({ frames := 1, cells := 0, slots := 0, locals := 25 } : Room) s m args below meth c H locs 0 0 (MQ below (s_Qi (s_WM cy ad) G (s_A ad 12 s.heap.size) re σe) args s 0 0 (s_A ad 12 s.heap.size)) (F0 m 0 ls []) := by
  obtain ⟨hx, hb, hr, hml, hown, hts, hlk, hK, hE, hI⟩ := id C
  have hD : ∀ σ : Sg, va_D (s_A ad 12 s.heap.size) ((s_WM cy ad) σ) := fun σ => s_D (s_WM_ad cy ad σ) hI (fun k hk => Or.inl ⟨k, hk, rfl⟩)
  unfold fX7_feed at hf
  refine lv_iload_n hx hb dX7_feed_0 rfl (lv_at hl 1 rfl) ?_
  refine lv_i2l (v := (Int32.toInt64 x1)) hx hb dX7_feed_1 rfl ?_
  refine lv_lconst (v := 0) hx hb dX7_feed_2 (by decide) ?_
  refine lv_ldc2 (v := 127) hx hb hown (hts _ kw_871) dX7_feed_3 ?_
  replace hf := s_bi_some hf
  obtain ⟨r3, σ1, hz2, hf⟩ := hf
  refine s_calliS (nn := 3) C (kcX7_in (l := l) (G := G) (cy := cy) (sa := sa) hI (sz := H.size) σ (Int32.toInt64 x1) (0 : Int64) (127 : Int64) hz2) gk_X7_54 rfl rfl (by decide +kernel) ⟨Nat.le_of_ble_eq_true rfl, Nat.le_of_ble_eq_true rfl⟩ hP hS (As := [.long (Int32.toInt64 x1), .long (0 : Int64), .long (127 : Int64)]) (rest := []) rfl rfl hl.1 (Nat.le_of_ble_eq_true rfl) dX7_feed_6 (fun H locs hP hS => ?_)
  refine lv_if_ne (tgt := 14) hx hb dX7_feed_9 (by decide) (fun c4 => ?_) (fun c4 => ?_)
  · rw [if_neg c4] at hf
    refine lv_aload_n hx hb dX7_feed_14 rfl (lv_at hl 0 rfl) ?_
    refine va_get (D := G) (ci := 7) (v := .int (σ1 0 3)) (C := RX7) (T := TX7) (N := 28) hx hb hts inkX7 hown hK hP 0 rfl rfl 3 (by decide) (hts _ kw_785) (fun _ h9 => h9) rfl dX7_feed_15 ?_
    refine lv_sipush (v := 320) hx hb dX7_feed_18 (by decide) ?_
    refine lv_icmp_ne (tgt := 27) hx hb dX7_feed_21 (by decide) (fun c5 => ?_) (fun c5 => ?_)
    · rw [if_neg c5] at hf
      refine lv_aload_n hx hb dX7_feed_27 rfl (lv_at hl 0 rfl) ?_
      refine va_get (D := G) (ci := 7) (v := .ref (ad 2)) (C := RX7) (T := TX7) (N := 28) hx hb hts inkX7 hown hK hP 0 rfl rfl 2 (by decide) (hts _ kw_784) (fun _ h9 => h9) rfl dX7_feed_28 ?_
      refine lv_aload_n hx hb dX7_feed_31 rfl (lv_at hl 0 rfl) ?_
      refine va_get (D := G) (ci := 7) (v := .int (σ1 0 3)) (C := RX7) (T := TX7) (N := 28) hx hb hts inkX7 hown hK hP 0 rfl rfl 3 (by decide) (hts _ kw_785) (fun _ h9 => h9) rfl dX7_feed_32 ?_
      refine lv_iload_n hx hb dX7_feed_35 rfl (lv_at hl 1 rfl) ?_
      replace hf := s_gd_some hf
      obtain ⟨g6, hf⟩ := hf
      refine va_iast hx hb hK hP (hD _) hS 2 1 rfl rfl (s_in_of g6) dX7_feed_36 (fun H locs hP _ hS => ?_)
      obtain ⟨σ7, eσ7⟩ : ∃ z : Sg, z = (s_up σ1 2 (Int32.toNatClampNeg (σ1 0 3)) x1) := ⟨_, rfl⟩
      replace hf := s_lt_at eσ7 hf
      replace hP : va_P G vwCl ((s_WM cy ad) σ7) H := by rw [eσ7]; exact hP
      refine lv_aload_n hx hb dX7_feed_37 rfl (lv_at hl 0 rfl) ?_
      refine lv_dup hx hb dX7_feed_38 rfl ?_
      refine va_get (D := G) (ci := 7) (v := .int (σ7 0 3)) (C := RX7) (T := TX7) (N := 28) hx hb hts inkX7 hown hK hP 0 rfl rfl 3 (by decide) (hts _ kw_785) (fun _ h9 => h9) rfl dX7_feed_39 ?_
      refine lv_iconst (v := 1) hx hb dX7_feed_42 (by decide) ?_
      refine lv_iadd hx hb dX7_feed_43 ?_
      refine va_put (D := G) (ci := 7) (v := .int ((σ7 0 3) + (1 : Int32))) (ty := .int) (C := RX7) (T := TX7) (N := 28) hx hb hts inkX7 tyX7 tyX7_ok nmX7 hown hK hP (hD _) hS 0 rfl rfl 3 (by decide) (hts _ kw_785) (fun _ h9 => h9) rfl (by decide +kernel) rfl rfl (Nat.le_of_ble_eq_true rfl) dX7_feed_44 (fun H locs hP _ hS => ?_)
      obtain ⟨σ8, eσ8⟩ : ∃ z : Sg, z = (s_up σ7 0 3 ((σ7 0 3) + (1 : Int32))) := ⟨_, rfl⟩
      replace hf := s_lt_at eσ8 hf
      replace hP : va_P G vwCl ((s_WM cy ad) σ8) H := by rw [eσ8]; exact hP
      refine lv_aload_n hx hb dX7_feed_47 rfl (lv_at hl 0 rfl) ?_
      refine va_get (D := G) (ci := 7) (v := .int (σ8 0 3)) (C := RX7) (T := TX7) (N := 28) hx hb hts inkX7 hown hK hP 0 rfl rfl 3 (by decide) (hts _ kw_785) (fun _ h9 => h9) rfl dX7_feed_48 ?_
      obtain ⟨he1, he2⟩ := s_ret hf
      exact W.iret hx hb hr (fun t ht hW => ⟨⟨_, (), rfl, he1, s_fin (Wd := (s_WM cy ad)) ht he2 hP⟩, hS.F ht⟩) hS.2.2 dX7_feed_51 hlk
    · rw [if_pos c5] at hf
      refine lv_bipush (v := -3) hx hb dX7_feed_24 (by decide) ?_
      obtain ⟨he1, he2⟩ := s_ret hf
      exact W.iret hx hb hr (fun t ht hW => ⟨⟨_, (), rfl, he1, s_fin (Wd := (s_WM cy ad)) ht he2 hP⟩, hS.F ht⟩) hS.2.2 dX7_feed_26 hlk
  · rw [if_pos c4] at hf
    refine lv_iconst (v := -1) hx hb dX7_feed_12 (by decide) ?_
    obtain ⟨he1, he2⟩ := s_ret hf
    exact W.iret hx hb hr (fun t ht hW => ⟨⟨_, (), rfl, he1, s_fin (Wd := (s_WM cy ad)) ht he2 hP⟩, hS.F ht⟩) hS.2.2 dX7_feed_13 hlk
theorem kcX7_feed {l : Launch} {G : va_G} {cy : Nat → ClassId} {sa : Nat × Nat} {ad : Nat → Nat}  {sz : Nat} (hI : s_inj ad 12) (σ : Sg) (x1 : Int32) {re : Int32} {σe : Sg} (hf : fX7_feed σ x1 = some (re, σe)) : Met l yX7_feed (kW yX7_feed cX7_feed 2 (some .int)) ({ frames := 1, cells := 0, slots := 0, locals := 25 } : Room) (s_P (s_WM cy ad) G cy sa ad 12 [.ref (ad 0), .int x1] sz σ) (s_Qi (s_WM cy ad) G (s_A ad 12 sz) re σe) 0 0 (s_A ad 12 sz) := by
  refine s_met (own := RX7) (by decide) rfl hI (Nat.le_of_ble_eq_true rfl) (fun p e s m below meth c ls hsz C hP hl => ?_)
  subst hsz
  exact kX7_feed C σ x1 ls _ _ hl hP va_S.rf hf
set_option maxRecDepth 100000 in
set_option maxHeartbeats 4000000 in
theorem kX7_end (C : s_X p s m meth c args cX7_end (some .int) 3 RX7 G cy sa ad 12) (σ : Sg) (x1 : Int32) (ls : Array Slot) (H : Heap) (locs : List Loc) (hl : lv_has ls 3 [(0, .ref (ad 0)), (1, .int x1)]) (hP : va_P G vwCl ((s_WM cy ad) σ) H) (hS : va_S (s_A ad 12 s.heap.size) s.heap H locs) (hf : fX7_end σ x1 = some (re, σe)) : W p l e ({ frames := 1, cells := 0, slots := 0, locals := 25 } : Room) s m args below meth c H locs 0 0 (MQ below (s_Qi (s_WM cy ad) G (s_A ad 12 s.heap.size) re σe) args s 0 0 (s_A ad 12 s.heap.size)) (F0 m 0 ls []) := by
  obtain ⟨hx, hb, hr, hml, hown, hts, hlk, hK, hE, hI⟩ := id C
  have hD : ∀ σ : Sg, va_D (s_A ad 12 s.heap.size) ((s_WM cy ad) σ) := fun σ => s_D (s_WM_ad cy ad σ) hI (fun k hk => Or.inl ⟨k, hk, rfl⟩)
  unfold fX7_end at hf
  refine lv_iload_n hx hb dX7_end_0 rfl (lv_at hl 1 rfl) ?_
  refine lv_i2l (v := (Int32.toInt64 x1)) hx hb dX7_end_1 rfl ?_
  refine lv_lconst (v := 0) hx hb dX7_end_2 (by decide) ?_
  refine lv_aload_n hx hb dX7_end_3 rfl (lv_at hl 0 rfl) ?_
  refine va_get (D := G) (ci := 7) (v := .int (σ 0 3)) (C := RX7) (T := TX7) (N := 28) hx hb hts inkX7 hown hK hP 0 rfl rfl 3 (by decide) (hts _ kw_785) (fun _ h9 => h9) rfl dX7_end_4 ?_
  refine lv_i2l (v := (Int32.toInt64 (σ 0 3))) hx hb dX7_end_7 rfl ?_
  replace hf := s_bi_some hf
  obtain ⟨r3, σ1, hz2, hf⟩ := hf
  refine s_calliS (nn := 3) C (kcX7_in (l := l) (G := G) (cy := cy) (sa := sa) hI (sz := H.size) σ (Int32.toInt64 x1) (0 : Int64) (Int32.toInt64 (σ 0 3)) hz2) gk_X7_54 rfl rfl (by decide +kernel) ⟨Nat.le_of_ble_eq_true rfl, Nat.le_of_ble_eq_true rfl⟩ hP hS (As := [.long (Int32.toInt64 x1), .long (0 : Int64), .long (Int32.toInt64 (σ 0 3))]) (rest := []) rfl rfl hl.1 (Nat.le_of_ble_eq_true rfl) dX7_end_8 (fun H locs hP hS => ?_)
  refine lv_if_ne (tgt := 16) hx hb dX7_end_11 (by decide) (fun c4 => ?_) (fun c4 => ?_)
  · rw [if_neg c4] at hf
    refine lv_aload_n hx hb dX7_end_16 rfl (lv_at hl 0 rfl) ?_
    refine va_get (D := G) (ci := 7) (v := .int (σ1 0 3)) (C := RX7) (T := TX7) (N := 28) hx hb hts inkX7 hown hK hP 0 rfl rfl 3 (by decide) (hts _ kw_785) (fun _ h9 => h9) rfl dX7_end_17 ?_
    refine lv_topi (fun t5 et5 => ?_)
    replace hf := s_lt_at et5 hf
    refine lv_istore_n (lv' := [(2, .int t5), (0, .ref (ad 0)), (1, .int x1)]) hx hb dX7_end_20 rfl hl (by decide) rfl (fun ls hl => ?_)
    refine lv_aload_n hx hb dX7_end_21 rfl (lv_at hl 1 rfl) ?_
    refine lv_iload_n hx hb dX7_end_22 rfl (lv_at hl 2 rfl) ?_
    refine va_put (D := G) (ci := 7) (v := .int x1) (ty := .int) (C := RX7) (T := TX7) (N := 28) hx hb hts inkX7 tyX7 tyX7_ok nmX7 hown hK hP (hD _) hS 0 rfl rfl 3 (by decide) (hts _ kw_785) (fun _ h9 => h9) rfl (by decide +kernel) rfl rfl (Nat.le_of_ble_eq_true rfl) dX7_end_23 (fun H locs hP _ hS => ?_)
    obtain ⟨σ6, eσ6⟩ : ∃ z : Sg, z = (s_up σ1 0 3 x1) := ⟨_, rfl⟩
    replace hf := s_lt_at eσ6 hf
    replace hP : va_P G vwCl ((s_WM cy ad) σ6) H := by rw [eσ6]; exact hP
    refine lv_iload_n hx hb dX7_end_26 rfl (lv_at hl 0 rfl) ?_
    obtain ⟨he1, he2⟩ := s_ret hf
    exact W.iret hx hb hr (fun t ht hW => ⟨⟨_, (), rfl, he1, s_fin (Wd := (s_WM cy ad)) ht he2 hP⟩, hS.F ht⟩) hS.2.2 dX7_end_27 hlk
  · rw [if_pos c4] at hf
    refine lv_iconst (v := -1) hx hb dX7_end_14 (by decide) ?_
    obtain ⟨he1, he2⟩ := s_ret hf
    exact W.iret hx hb hr (fun t ht hW => ⟨⟨_, (), rfl, he1, s_fin (Wd := (s_WM cy ad)) ht he2 hP⟩, hS.F ht⟩) hS.2.2 dX7_end_15 hlk
theorem kcX7_end {l : Launch} {G : va_G} {cy : Nat → ClassId} {sa : Nat × Nat} {ad : Nat → Nat}  {sz : Nat} (hI : s_inj ad 12) (σ : Sg) (x1 : Int32) {re : Int32} {σe : Sg} (hf : fX7_end σ x1 = some (re, σe)) : Met l yX7_end (kW yX7_end cX7_end 3 (some .int)) ({ frames := 1, cells := 0, slots := 0, locals := 25 } : Room) (s_P (s_WM cy ad) G cy sa ad 12 [.ref (ad 0), .int x1] sz σ) (s_Qi (s_WM cy ad) G (s_A ad 12 sz) re σe) 0 0 (s_A ad 12 sz) := by
  refine s_met (own := RX7) (by decide) rfl hI (Nat.le_of_ble_eq_true rfl) (fun p e s m below meth c ls hsz C hP hl => ?_)
  subst hsz
  exact kX7_end C σ x1 ls _ _ hl hP va_S.rf hf
set_option maxRecDepth 100000 in
set_option maxHeartbeats 4000000 in
theorem kX7_byteAt (C : s_X p s m meth c args cX7_byteAt (some .int) 2 RX7 G cy sa ad 12) (σ : Sg) (x1 : Int32) (ls : Array Slot) (H : Heap) (locs : List Loc) (hl : lv_has ls 2 [(0, .ref (ad 0)), (1, .int x1)]) (hP : va_P G vwCl ((s_WM cy ad) σ) H) (hS : va_S (s_A ad 12 s.heap.size) s.heap H locs) (hf : fX7_byteAt σ x1 = some (re, σe)) : W p l e ({ frames := 0, cells := 0, slots := 0, locals := 0 } : Room) s m args below meth c H locs 0 0 (MQ below (s_Qi (s_WM cy ad) G (s_A ad 12 s.heap.size) re σe) args s 0 0 (s_A ad 12 s.heap.size)) (F0 m 0 ls []) := by
  obtain ⟨hx, hb, hr, hml, hown, hts, hlk, hK, hE, hI⟩ := id C
  have hD : ∀ σ : Sg, va_D (s_A ad 12 s.heap.size) ((s_WM cy ad) σ) := fun σ => s_D (s_WM_ad cy ad σ) hI (fun k hk => Or.inl ⟨k, hk, rfl⟩)
  unfold fX7_byteAt at hf
  refine lv_iload_n hx hb dX7_byteAt_0 rfl (lv_at hl 1 rfl) ?_
  refine lv_aload_n hx hb dX7_byteAt_1 rfl (lv_at hl 0 rfl) ?_
  refine va_get (D := G) (ci := 7) (v := .int (σ 0 3)) (C := RX7) (T := TX7) (N := 28) hx hb hts inkX7 hown hK hP 0 rfl rfl 3 (by decide) (hts _ kw_785) (fun _ h9 => h9) rfl dX7_byteAt_2 ?_
  refine lv_icmp_ge (tgt := 17) hx hb dX7_byteAt_5 (by decide) (fun c1 => ?_) (fun c1 => ?_)
  · rw [if_pos c1] at hf
    refine lv_bipush (v := -4) hx hb dX7_byteAt_17 (by decide) ?_
    obtain ⟨he1, he2⟩ := s_ret hf
    exact W.iret hx hb hr (fun t ht hW => ⟨⟨_, (), rfl, he1, s_fin (Wd := (s_WM cy ad)) ht he2 hP⟩, hS.F ht⟩) hS.2.2 dX7_byteAt_19 hlk
  · rw [if_neg c1] at hf
    refine lv_aload_n hx hb dX7_byteAt_8 rfl (lv_at hl 0 rfl) ?_
    refine va_get (D := G) (ci := 7) (v := .ref (ad 2)) (C := RX7) (T := TX7) (N := 28) hx hb hts inkX7 hown hK hP 0 rfl rfl 2 (by decide) (hts _ kw_784) (fun _ h9 => h9) rfl dX7_byteAt_9 ?_
    refine lv_iload_n hx hb dX7_byteAt_12 rfl (lv_at hl 1 rfl) ?_
    replace hf := s_gd_some hf
    obtain ⟨g2, hf⟩ := hf
    refine va_iald hx hb hK hP 2 1 rfl rfl (s_in_of g2) dX7_byteAt_13 ?_
    refine lv_goto (tgt := 19) hx hb dX7_byteAt_14 (by decide) ?_
    obtain ⟨he1, he2⟩ := s_ret hf
    exact W.iret hx hb hr (fun t ht hW => ⟨⟨_, (), rfl, he1, s_fin (Wd := (s_WM cy ad)) ht he2 hP⟩, hS.F ht⟩) hS.2.2 dX7_byteAt_19 hlk
theorem kcX7_byteAt {l : Launch} {G : va_G} {cy : Nat → ClassId} {sa : Nat × Nat} {ad : Nat → Nat}  {sz : Nat} (hI : s_inj ad 12) (σ : Sg) (x1 : Int32) {re : Int32} {σe : Sg} (hf : fX7_byteAt σ x1 = some (re, σe)) : Met l yX7_byteAt (kW yX7_byteAt cX7_byteAt 2 (some .int)) ({ frames := 0, cells := 0, slots := 0, locals := 0 } : Room) (s_P (s_WM cy ad) G cy sa ad 12 [.ref (ad 0), .int x1] sz σ) (s_Qi (s_WM cy ad) G (s_A ad 12 sz) re σe) 0 0 (s_A ad 12 sz) := by
  refine s_met (own := RX7) (by decide) rfl hI (Nat.le_of_ble_eq_true rfl) (fun p e s m below meth c ls hsz C hP hl => ?_)
  subst hsz
  exact kX7_byteAt C σ x1 ls _ _ hl hP va_S.rf hf
set_option maxRecDepth 100000 in
set_option maxHeartbeats 4000000 in
theorem kX7_fails (C : s_X p s m meth c args cX7_fails none 2 RX7 G cy sa ad 12) (σ : Sg) (x1 : Int32) (ls : Array Slot) (H : Heap) (locs : List Loc) (hl : lv_has ls 2 [(0, .ref (ad 0)), (1, .int x1)]) (hP : va_P G vwCl ((s_WM cy ad) σ) H) (hS : va_S (s_A ad 12 s.heap.size) s.heap H locs) (hf : fX7_fails σ x1 = some σe) : W p l e ({ frames := 0, cells := 0, slots := 0, locals := 0 } : Room) s m args below meth c H locs 0 0 (MQ below (s_Qv (s_WM cy ad) G (s_A ad 12 s.heap.size) σe) args s 0 0 (s_A ad 12 s.heap.size)) (F0 m 0 ls []) := by
  obtain ⟨hx, hb, hr, hml, hown, hts, hlk, hK, hE, hI⟩ := id C
  have hD : ∀ σ : Sg, va_D (s_A ad 12 s.heap.size) ((s_WM cy ad) σ) := fun σ => s_D (s_WM_ad cy ad σ) hI (fun k hk => Or.inl ⟨k, hk, rfl⟩)
  unfold fX7_fails at hf
  refine lv_aload_n hx hb dX7_fails_0 rfl (lv_at hl 0 rfl) ?_
  refine va_get (D := G) (ci := 7) (v := .int (σ 0 5)) (C := RX7) (T := TX7) (N := 28) hx hb hts inkX7 hown hK hP 0 rfl rfl 5 (by decide) (hts _ kw_787) (fun _ h9 => h9) rfl dX7_fails_1 ?_
  refine lv_if_ne (tgt := 20) hx hb dX7_fails_4 (by decide) (fun c1 => ?_) (fun c1 => ?_)
  · rw [if_neg c1] at hf
    have he2 := Option.some.inj hf
    exact W.vret hx hb hr (fun t ht hW => ⟨⟨(), rfl, trivial, s_fin (Wd := (s_WM cy ad)) ht he2 hP⟩, hS.F ht⟩) hS.2.2 dX7_fails_20 hlk
  · rw [if_pos c1] at hf
    refine lv_aload_n hx hb dX7_fails_7 rfl (lv_at hl 0 rfl) ?_
    refine lv_iload_n hx hb dX7_fails_8 rfl (lv_at hl 1 rfl) ?_
    refine va_put (D := G) (ci := 7) (v := .int x1) (ty := .int) (C := RX7) (T := TX7) (N := 28) hx hb hts inkX7 tyX7 tyX7_ok nmX7 hown hK hP (hD _) hS 0 rfl rfl 5 (by decide) (hts _ kw_787) (fun _ h9 => h9) rfl (by decide +kernel) rfl rfl (Nat.le_of_ble_eq_true rfl) dX7_fails_9 (fun H locs hP _ hS => ?_)
    obtain ⟨σ2, eσ2⟩ : ∃ z : Sg, z = (s_up σ 0 5 x1) := ⟨_, rfl⟩
    replace hf := s_lt_at eσ2 hf
    replace hP : va_P G vwCl ((s_WM cy ad) σ2) H := by rw [eσ2]; exact hP
    refine lv_aload_n hx hb dX7_fails_12 rfl (lv_at hl 0 rfl) ?_
    refine lv_aload_n hx hb dX7_fails_13 rfl (lv_at hl 0 rfl) ?_
    refine va_get (D := G) (ci := 7) (v := .int (σ2 0 8)) (C := RX7) (T := TX7) (N := 28) hx hb hts inkX7 hown hK hP 0 rfl rfl 8 (by decide) (hts _ kw_790) (fun _ h9 => h9) rfl dX7_fails_14 ?_
    refine va_put (D := G) (ci := 7) (v := .int (σ2 0 8)) (ty := .int) (C := RX7) (T := TX7) (N := 28) hx hb hts inkX7 tyX7 tyX7_ok nmX7 hown hK hP (hD _) hS 0 rfl rfl 6 (by decide) (hts _ kw_788) (fun _ h9 => h9) rfl (by decide +kernel) rfl rfl (Nat.le_of_ble_eq_true rfl) dX7_fails_17 (fun H locs hP _ hS => ?_)
    obtain ⟨σ3, eσ3⟩ : ∃ z : Sg, z = (s_up σ2 0 6 (σ2 0 8)) := ⟨_, rfl⟩
    replace hf := s_lt_at eσ3 hf
    replace hP : va_P G vwCl ((s_WM cy ad) σ3) H := by rw [eσ3]; exact hP
    have he2 := Option.some.inj hf
    exact W.vret hx hb hr (fun t ht hW => ⟨⟨(), rfl, trivial, s_fin (Wd := (s_WM cy ad)) ht he2 hP⟩, hS.F ht⟩) hS.2.2 dX7_fails_20 hlk
theorem kcX7_fails {l : Launch} {G : va_G} {cy : Nat → ClassId} {sa : Nat × Nat} {ad : Nat → Nat}  {sz : Nat} (hI : s_inj ad 12) (σ : Sg) (x1 : Int32) {σe : Sg} (hf : fX7_fails σ x1 = some σe) : Met l yX7_fails (kW yX7_fails cX7_fails 2 none) ({ frames := 0, cells := 0, slots := 0, locals := 0 } : Room) (s_P (s_WM cy ad) G cy sa ad 12 [.ref (ad 0), .int x1] sz σ) (s_Qv (s_WM cy ad) G (s_A ad 12 sz) σe) 0 0 (s_A ad 12 sz) := by
  refine s_met (own := RX7) (by decide) rfl hI (Nat.le_of_ble_eq_true rfl) (fun p e s m below meth c ls hsz C hP hl => ?_)
  subst hsz
  exact kX7_fails C σ x1 ls _ _ hl hP va_S.rf hf
set_option maxRecDepth 100000 in
set_option maxHeartbeats 4000000 in
theorem kX7_nameHere_b118 (C : s_X p s m meth c args cX7_nameHere (some .int) 4 RX7 G cy sa ad 12) (σ : Sg) (ls : Array Slot) (H : Heap) (locs : List Loc) (hl : lv_has ls 4 []) (hP : va_P G vwCl ((s_WM cy ad) σ) H) (hS : va_S (s_A ad 12 s.heap.size) s.heap H locs) (hf : fX7_nameHere_b118 σ = some (re, σe)) : W p l e ({ frames := 1, cells := 0, slots := 0, locals := 21 } : Room) s m args below meth c H locs 0 0 (MQ below (s_Qi (s_WM cy ad) G (s_A ad 12 s.heap.size) re σe) args s 0 0 (s_A ad 12 s.heap.size)) (F0 m 118 ls []) := by
  obtain ⟨hx, hb, hr, hml, hown, hts, hlk, hK, hE, hI⟩ := id C
  have hD : ∀ σ : Sg, va_D (s_A ad 12 s.heap.size) ((s_WM cy ad) σ) := fun σ => s_D (s_WM_ad cy ad σ) hI (fun k hk => Or.inl ⟨k, hk, rfl⟩)
  unfold fX7_nameHere_b118 at hf
  refine lv_bipush (v := -4) hx hb dX7_nameHere_118 (by decide) ?_
  obtain ⟨he1, he2⟩ := s_ret hf
  exact W.iret hx hb hr (fun t ht hW => ⟨⟨_, (), rfl, he1, s_fin (Wd := (s_WM cy ad)) ht he2 hP⟩, hS.F ht⟩) hS.2.2 dX7_nameHere_120 hlk
set_option maxRecDepth 100000 in
set_option maxHeartbeats 4000000 in
theorem kX7_nameHere_b106 (C : s_X p s m meth c args cX7_nameHere (some .int) 4 RX7 G cy sa ad 12) (k2 : Sg → Int32 → Option (Int32 × Sg)) (hk2 : ∀ (σ : Sg) (x1 : Int32) (ls : Array Slot) (H : Heap) (locs : List Loc), lv_has ls 4 [(0, .ref (ad 0)), (1, .int x1)] → va_P G vwCl ((s_WM cy ad) σ) H → va_S (s_A ad 12 s.heap.size) s.heap H locs → k2 σ x1 = some (re, σe) → W p l e ({ frames := 1, cells := 0, slots := 0, locals := 21 } : Room) s m args below meth c H locs 0 0 (MQ below (s_Qi (s_WM cy ad) G (s_A ad 12 s.heap.size) re σe) args s 0 0 (s_A ad 12 s.heap.size)) (F0 m 2 ls [])) (σ : Sg) (x1 : Int32) (x2 : Int32) (ls : Array Slot) (H : Heap) (locs : List Loc) (hl : lv_has ls 4 [(0, .ref (ad 0)), (1, .int x1), (2, .int x2)]) (hP : va_P G vwCl ((s_WM cy ad) σ) H) (hS : va_S (s_A ad 12 s.heap.size) s.heap H locs) (hf : fX7_nameHere_b106 k2 σ x1 x2 = some (re, σe)) : W p l e ({ frames := 1, cells := 0, slots := 0, locals := 21 } : Room) s m args below meth c H locs 0 0 (MQ below (s_Qi (s_WM cy ad) G (s_A ad 12 s.heap.size) re σe) args s 0 0 (s_A ad 12 s.heap.size)) (F0 m 106 ls []) := by
  obtain ⟨hx, hb, hr, hml, hown, hts, hlk, hK, hE, hI⟩ := id C
  have hD : ∀ σ : Sg, va_D (s_A ad 12 s.heap.size) ((s_WM cy ad) σ) := fun σ => s_D (s_WM_ad cy ad σ) hI (fun k hk => Or.inl ⟨k, hk, rfl⟩)
  unfold fX7_nameHere_b106 at hf
  refine lv_iload_n hx hb dX7_nameHere_106 rfl (lv_at hl 2 rfl) ?_
  refine lv_if_eq (tgt := 112) hx hb dX7_nameHere_107 (by decide) (fun c1 => ?_) (fun c1 => ?_)
  · rw [if_pos c1] at hf
    obtain ⟨t2, et2⟩ : ∃ z : Int32, z = (x1 + 1) := ⟨_, rfl⟩
    replace hf := s_lt_at et2 hf
    refine lv_iinc (v := t2) (lv' := [(1, .int t2), (0, .ref (ad 0)), (2, .int x2)]) hx hb dX7_nameHere_112 hl (k := 1) rfl (by rw [et2]; rfl) (by decide) rfl (fun ls hl => ?_)
    refine lv_goto (tgt := 2) hx hb dX7_nameHere_115 (by decide) ?_
    exact hk2 σ t2 _ _ _ (lv_sub hl [1, 0] rfl) hP hS hf
  · rw [if_neg c1] at hf
    refine lv_iload_n hx hb dX7_nameHere_110 rfl (lv_at hl 1 rfl) ?_
    obtain ⟨he1, he2⟩ := s_ret hf
    exact W.iret hx hb hr (fun t ht hW => ⟨⟨_, (), rfl, he1, s_fin (Wd := (s_WM cy ad)) ht he2 hP⟩, hS.F ht⟩) hS.2.2 dX7_nameHere_111 hlk
set_option maxRecDepth 100000 in
set_option maxHeartbeats 4000000 in
theorem kX7_nameHere_b99 (C : s_X p s m meth c args cX7_nameHere (some .int) 4 RX7 G cy sa ad 12) (k2 : Sg → Int32 → Option (Int32 × Sg)) (hk2 : ∀ (σ : Sg) (x1 : Int32) (ls : Array Slot) (H : Heap) (locs : List Loc), lv_has ls 4 [(0, .ref (ad 0)), (1, .int x1)] → va_P G vwCl ((s_WM cy ad) σ) H → va_S (s_A ad 12 s.heap.size) s.heap H locs → k2 σ x1 = some (re, σe) → W p l e ({ frames := 1, cells := 0, slots := 0, locals := 21 } : Room) s m args below meth c H locs 0 0 (MQ below (s_Qi (s_WM cy ad) G (s_A ad 12 s.heap.size) re σe) args s 0 0 (s_A ad 12 s.heap.size)) (F0 m 2 ls [])) (k51 : Sg → Int32 → Int32 → Int32 → Option (Int32 × Sg)) (hk51 : ∀ (σ : Sg) (x1 : Int32) (x2 : Int32) (x3 : Int32) (ls : Array Slot) (H : Heap) (locs : List Loc), lv_has ls 4 [(0, .ref (ad 0)), (1, .int x1), (2, .int x2), (3, .int x3)] → va_P G vwCl ((s_WM cy ad) σ) H → va_S (s_A ad 12 s.heap.size) s.heap H locs → k51 σ x1 x2 x3 = some (re, σe) → W p l e ({ frames := 1, cells := 0, slots := 0, locals := 21 } : Room) s m args below meth c H locs 0 0 (MQ below (s_Qi (s_WM cy ad) G (s_A ad 12 s.heap.size) re σe) args s 0 0 (s_A ad 12 s.heap.size)) (F0 m 51 ls [])) (σ : Sg) (x1 : Int32) (x3 : Int32) (y0 : Int32) (ls : Array Slot) (H : Heap) (locs : List Loc) (hl : lv_has ls 4 [(0, .ref (ad 0)), (1, .int x1), (3, .int x3)]) (hP : va_P G vwCl ((s_WM cy ad) σ) H) (hS : va_S (s_A ad 12 s.heap.size) s.heap H locs) (hf : fX7_nameHere_b99 k2 k51 σ x1 x3 y0 = some (re, σe)) : W p l e ({ frames := 1, cells := 0, slots := 0, locals := 21 } : Room) s m args below meth c H locs 0 0 (MQ below (s_Qi (s_WM cy ad) G (s_A ad 12 s.heap.size) re σe) args s 0 0 (s_A ad 12 s.heap.size)) (F0 m 99 ls [.int y0]) := by
  obtain ⟨hx, hb, hr, hml, hown, hts, hlk, hK, hE, hI⟩ := id C
  have hD : ∀ σ : Sg, va_D (s_A ad 12 s.heap.size) ((s_WM cy ad) σ) := fun σ => s_D (s_WM_ad cy ad σ) hI (fun k hk => Or.inl ⟨k, hk, rfl⟩)
  unfold fX7_nameHere_b99 at hf
  refine lv_istore_n (lv' := [(2, .int y0), (0, .ref (ad 0)), (1, .int x1), (3, .int x3)]) hx hb dX7_nameHere_99 rfl hl (by decide) rfl (fun ls hl => ?_)
  obtain ⟨t1, et1⟩ : ∃ z : Int32, z = (x3 + 1) := ⟨_, rfl⟩
  replace hf := s_lt_at et1 hf
  refine lv_iinc (v := t1) (lv' := [(3, .int t1), (2, .int y0), (0, .ref (ad 0)), (1, .int x1)]) hx hb dX7_nameHere_100 hl (k := 3) rfl (by rw [et1]; rfl) (by decide) rfl (fun ls hl => ?_)
  refine lv_goto (tgt := 51) hx hb dX7_nameHere_103 (by decide) ?_
  exact hk51 σ x1 y0 t1 _ _ _ (lv_sub hl [2, 3, 1, 0] rfl) hP hS hf
set_option maxRecDepth 100000 in
set_option maxHeartbeats 4000000 in
theorem kX7_nameHere_b51 (C : s_X p s m meth c args cX7_nameHere (some .int) 4 RX7 G cy sa ad 12) (k2 : Sg → Int32 → Option (Int32 × Sg)) (hk2 : ∀ (σ : Sg) (x1 : Int32) (ls : Array Slot) (H : Heap) (locs : List Loc), lv_has ls 4 [(0, .ref (ad 0)), (1, .int x1)] → va_P G vwCl ((s_WM cy ad) σ) H → va_S (s_A ad 12 s.heap.size) s.heap H locs → k2 σ x1 = some (re, σe) → W p l e ({ frames := 1, cells := 0, slots := 0, locals := 21 } : Room) s m args below meth c H locs 0 0 (MQ below (s_Qi (s_WM cy ad) G (s_A ad 12 s.heap.size) re σe) args s 0 0 (s_A ad 12 s.heap.size)) (F0 m 2 ls [])) (k51 : Sg → Int32 → Int32 → Int32 → Option (Int32 × Sg)) (hk51 : ∀ (σ : Sg) (x1 : Int32) (x2 : Int32) (x3 : Int32) (ls : Array Slot) (H : Heap) (locs : List Loc), lv_has ls 4 [(0, .ref (ad 0)), (1, .int x1), (2, .int x2), (3, .int x3)] → va_P G vwCl ((s_WM cy ad) σ) H → va_S (s_A ad 12 s.heap.size) s.heap H locs → k51 σ x1 x2 x3 = some (re, σe) → W p l e ({ frames := 1, cells := 0, slots := 0, locals := 21 } : Room) s m args below meth c H locs 0 0 (MQ below (s_Qi (s_WM cy ad) G (s_A ad 12 s.heap.size) re σe) args s 0 0 (s_A ad 12 s.heap.size)) (F0 m 51 ls [])) (σ : Sg) (x1 : Int32) (x2 : Int32) (x3 : Int32) (ls : Array Slot) (H : Heap) (locs : List Loc) (hl : lv_has ls 4 [(0, .ref (ad 0)), (1, .int x1), (2, .int x2), (3, .int x3)]) (hP : va_P G vwCl ((s_WM cy ad) σ) H) (hS : va_S (s_A ad 12 s.heap.size) s.heap H locs) (hf : fX7_nameHere_b51 k2 k51 σ x1 x2 x3 = some (re, σe)) : W p l e ({ frames := 1, cells := 0, slots := 0, locals := 21 } : Room) s m args below meth c H locs 0 0 (MQ below (s_Qi (s_WM cy ad) G (s_A ad 12 s.heap.size) re σe) args s 0 0 (s_A ad 12 s.heap.size)) (F0 m 51 ls []) := by
  obtain ⟨hx, hb, hr, hml, hown, hts, hlk, hK, hE, hI⟩ := id C
  have hD : ∀ σ : Sg, va_D (s_A ad 12 s.heap.size) ((s_WM cy ad) σ) := fun σ => s_D (s_WM_ad cy ad σ) hI (fun k hk => Or.inl ⟨k, hk, rfl⟩)
  unfold fX7_nameHere_b51 at hf
  refine lv_iload_n hx hb dX7_nameHere_51 rfl (lv_at hl 2 rfl) ?_
  refine lv_if_eq (tgt := 106) hx hb dX7_nameHere_52 (by decide) (fun c1 => ?_) (fun c1 => ?_)
  · rw [if_pos c1] at hf
    exact kX7_nameHere_b106 C k2 hk2 σ x1 x2 _ _ _ (lv_sub hl [0, 1, 2] rfl) hP hS hf
  · rw [if_neg c1] at hf
    refine lv_iload_n hx hb dX7_nameHere_55 rfl (lv_at hl 3 rfl) ?_
    refine lv_aload_n hx hb dX7_nameHere_56 rfl (lv_at hl 0 rfl) ?_
    refine va_get (D := G) (ci := 7) (v := .int (σ 0 7)) (C := RX7) (T := TX7) (N := 28) hx hb hts inkX7 hown hK hP 0 rfl rfl 7 (by decide) (hts _ kw_789) (fun _ h9 => h9) rfl dX7_nameHere_57 ?_
    refine lv_aload_n hx hb dX7_nameHere_60 rfl (lv_at hl 0 rfl) ?_
    refine va_get (D := G) (ci := 7) (v := .int (σ 0 8)) (C := RX7) (T := TX7) (N := 28) hx hb hts inkX7 hown hK hP 0 rfl rfl 8 (by decide) (hts _ kw_790) (fun _ h9 => h9) rfl dX7_nameHere_61 ?_
    refine lv_isub hx hb dX7_nameHere_64 ?_
    refine lv_icmp_ge (tgt := 106) hx hb dX7_nameHere_65 (by decide) (fun c2 => ?_) (fun c2 => ?_)
    · rw [if_pos c2] at hf
      exact kX7_nameHere_b106 C k2 hk2 σ x1 x2 _ _ _ (lv_sub hl [0, 1, 2] rfl) hP hS hf
    · rw [if_neg c2] at hf
      refine lv_aload_n hx hb dX7_nameHere_68 rfl (lv_at hl 0 rfl) ?_
      refine lv_aload_n hx hb dX7_nameHere_69 rfl (lv_at hl 0 rfl) ?_
      refine va_get (D := G) (ci := 7) (v := .int (σ 0 8)) (C := RX7) (T := TX7) (N := 28) hx hb hts inkX7 hown hK hP 0 rfl rfl 8 (by decide) (hts _ kw_790) (fun _ h9 => h9) rfl dX7_nameHere_70 ?_
      refine lv_iload_n hx hb dX7_nameHere_73 rfl (lv_at hl 3 rfl) ?_
      refine lv_iadd hx hb dX7_nameHere_74 ?_
      replace hf := s_bi_some hf
      obtain ⟨r5, σ3, hz4, hf⟩ := hf
      refine s_calli (nn := 1) C (kcX7_byteAt (l := l) (G := G) (cy := cy) (sa := sa) hI (sz := H.size) σ ((σ 0 8) + x3) hz4) gk_X7_77 rfl rfl (by decide +kernel) ⟨Nat.le_of_ble_eq_true rfl, Nat.le_of_ble_eq_true rfl⟩ hP hS (q0 := 0) (ci := 7) rfl rfl rfl (As := [.int ((σ 0 8) + x3)]) (rest := []) rfl rfl hl.1 (Nat.le_of_ble_eq_true rfl) dX7_nameHere_75 (fun H locs hP hS => ?_)
      refine lv_aload_n hx hb dX7_nameHere_78 rfl (lv_at hl 0 rfl) ?_
      refine va_get (D := G) (ci := 7) (v := .ref (ad 4)) (C := RX7) (T := TX7) (N := 28) hx hb hts inkX7 hown hK hP 0 rfl rfl 13 (by decide) (hts _ kw_795) (fun _ h9 => h9) rfl dX7_nameHere_79 ?_
      refine lv_aload_n hx hb dX7_nameHere_82 rfl (lv_at hl 0 rfl) ?_
      refine va_get (D := G) (ci := 7) (v := .ref (ad 3)) (C := RX7) (T := TX7) (N := 28) hx hb hts inkX7 hown hK hP 0 rfl rfl 12 (by decide) (hts _ kw_794) (fun _ h9 => h9) rfl dX7_nameHere_83 ?_
      refine lv_iload_n hx hb dX7_nameHere_86 rfl (lv_at hl 1 rfl) ?_
      replace hf := s_gd_some hf
      obtain ⟨g6, hf⟩ := hf
      refine va_iald hx hb hK hP 3 1 rfl rfl (s_in_of g6) dX7_nameHere_87 ?_
      refine lv_iload_n hx hb dX7_nameHere_88 rfl (lv_at hl 3 rfl) ?_
      refine lv_iadd hx hb dX7_nameHere_89 ?_
      replace hf := s_gd_some hf
      obtain ⟨g7, hf⟩ := hf
      refine va_iald hx hb hK hP 4 1 rfl rfl (s_in_of g7) dX7_nameHere_90 ?_
      refine lv_icmp_ne (tgt := 98) hx hb dX7_nameHere_91 (by decide) (fun c8 => ?_) (fun c8 => ?_)
      · rw [if_neg c8] at hf
        refine lv_iconst (v := 0) hx hb dX7_nameHere_98 (by decide) ?_
        exact kX7_nameHere_b99 C k2 hk2 k51 hk51 σ3 x1 x3 (0 : Int32) _ _ _ (lv_sub hl [0, 1, 3] rfl) hP hS hf
      · rw [if_pos c8] at hf
        refine lv_iconst (v := 1) hx hb dX7_nameHere_94 (by decide) ?_
        refine lv_goto (tgt := 99) hx hb dX7_nameHere_95 (by decide) ?_
        exact kX7_nameHere_b99 C k2 hk2 k51 hk51 σ3 x1 x3 (1 : Int32) _ _ _ (lv_sub hl [0, 1, 3] rfl) hP hS hf
set_option maxRecDepth 100000 in
set_option maxHeartbeats 4000000 in
theorem kX7_nameHere_b51_L (C : s_X p s m meth c args cX7_nameHere (some .int) 4 RX7 G cy sa ad 12) (k2 : Sg → Int32 → Option (Int32 × Sg)) (hk2 : ∀ (σ : Sg) (x1 : Int32) (ls : Array Slot) (H : Heap) (locs : List Loc), lv_has ls 4 [(0, .ref (ad 0)), (1, .int x1)] → va_P G vwCl ((s_WM cy ad) σ) H → va_S (s_A ad 12 s.heap.size) s.heap H locs → k2 σ x1 = some (re, σe) → W p l e ({ frames := 1, cells := 0, slots := 0, locals := 21 } : Room) s m args below meth c H locs 0 0 (MQ below (s_Qi (s_WM cy ad) G (s_A ad 12 s.heap.size) re σe) args s 0 0 (s_A ad 12 s.heap.size)) (F0 m 2 ls [])) : ∀ (n : Nat), ∀ (σ : Sg) (x1 : Int32) (x2 : Int32) (x3 : Int32) (ls : Array Slot) (H : Heap) (locs : List Loc), lv_has ls 4 [(0, .ref (ad 0)), (1, .int x1), (2, .int x2), (3, .int x3)] → va_P G vwCl ((s_WM cy ad) σ) H → va_S (s_A ad 12 s.heap.size) s.heap H locs → fX7_nameHere_b51_L k2 n σ x1 x2 x3 = some (re, σe) → W p l e ({ frames := 1, cells := 0, slots := 0, locals := 21 } : Room) s m args below meth c H locs 0 0 (MQ below (s_Qi (s_WM cy ad) G (s_A ad 12 s.heap.size) re σe) args s 0 0 (s_A ad 12 s.heap.size)) (F0 m 51 ls []) := by
  intro n
  induction n with
  | zero => intro σ x1 x2 x3 ls H locs hl hP hS hf; exact absurd (show (none : Option (Int32 × Sg)) = some (re, σe) from hf) (by intro h; cases h)
  | succ n ih => intro σ x1 x2 x3 ls H locs hl hP hS hf; exact kX7_nameHere_b51 C k2 hk2 (fX7_nameHere_b51_L k2 n) ih σ x1 x2 x3 ls H locs hl hP hS hf
set_option maxRecDepth 100000 in
set_option maxHeartbeats 4000000 in
theorem kX7_nameHere_b48 (C : s_X p s m meth c args cX7_nameHere (some .int) 4 RX7 G cy sa ad 12) (k2 : Sg → Int32 → Option (Int32 × Sg)) (hk2 : ∀ (σ : Sg) (x1 : Int32) (ls : Array Slot) (H : Heap) (locs : List Loc), lv_has ls 4 [(0, .ref (ad 0)), (1, .int x1)] → va_P G vwCl ((s_WM cy ad) σ) H → va_S (s_A ad 12 s.heap.size) s.heap H locs → k2 σ x1 = some (re, σe) → W p l e ({ frames := 1, cells := 0, slots := 0, locals := 21 } : Room) s m args below meth c H locs 0 0 (MQ below (s_Qi (s_WM cy ad) G (s_A ad 12 s.heap.size) re σe) args s 0 0 (s_A ad 12 s.heap.size)) (F0 m 2 ls [])) (σ : Sg) (x1 : Int32) (y0 : Int32) (ls : Array Slot) (H : Heap) (locs : List Loc) (hl : lv_has ls 4 [(0, .ref (ad 0)), (1, .int x1)]) (hP : va_P G vwCl ((s_WM cy ad) σ) H) (hS : va_S (s_A ad 12 s.heap.size) s.heap H locs) (hf : fX7_nameHere_b48 k2 σ x1 y0 = some (re, σe)) : W p l e ({ frames := 1, cells := 0, slots := 0, locals := 21 } : Room) s m args below meth c H locs 0 0 (MQ below (s_Qi (s_WM cy ad) G (s_A ad 12 s.heap.size) re σe) args s 0 0 (s_A ad 12 s.heap.size)) (F0 m 48 ls [.int y0]) := by
  obtain ⟨hx, hb, hr, hml, hown, hts, hlk, hK, hE, hI⟩ := id C
  have hD : ∀ σ : Sg, va_D (s_A ad 12 s.heap.size) ((s_WM cy ad) σ) := fun σ => s_D (s_WM_ad cy ad σ) hI (fun k hk => Or.inl ⟨k, hk, rfl⟩)
  unfold fX7_nameHere_b48 at hf
  refine lv_istore_n (lv' := [(2, .int y0), (0, .ref (ad 0)), (1, .int x1)]) hx hb dX7_nameHere_48 rfl hl (by decide) rfl (fun ls hl => ?_)
  refine lv_iconst (v := 0) hx hb dX7_nameHere_49 (by decide) ?_
  refine lv_istore_n (lv' := [(3, .int (0 : Int32)), (2, .int y0), (0, .ref (ad 0)), (1, .int x1)]) hx hb dX7_nameHere_50 rfl hl (by decide) rfl (fun ls hl => ?_)
  exact kX7_nameHere_b51_L C k2 hk2 s_fu σ x1 y0 (0 : Int32) _ _ _ (lv_sub hl [2, 3, 1, 0] rfl) hP hS hf
set_option maxRecDepth 100000 in
set_option maxHeartbeats 4000000 in
theorem kX7_nameHere_b2 (C : s_X p s m meth c args cX7_nameHere (some .int) 4 RX7 G cy sa ad 12) (k2 : Sg → Int32 → Option (Int32 × Sg)) (hk2 : ∀ (σ : Sg) (x1 : Int32) (ls : Array Slot) (H : Heap) (locs : List Loc), lv_has ls 4 [(0, .ref (ad 0)), (1, .int x1)] → va_P G vwCl ((s_WM cy ad) σ) H → va_S (s_A ad 12 s.heap.size) s.heap H locs → k2 σ x1 = some (re, σe) → W p l e ({ frames := 1, cells := 0, slots := 0, locals := 21 } : Room) s m args below meth c H locs 0 0 (MQ below (s_Qi (s_WM cy ad) G (s_A ad 12 s.heap.size) re σe) args s 0 0 (s_A ad 12 s.heap.size)) (F0 m 2 ls [])) (σ : Sg) (x1 : Int32) (ls : Array Slot) (H : Heap) (locs : List Loc) (hl : lv_has ls 4 [(0, .ref (ad 0)), (1, .int x1)]) (hP : va_P G vwCl ((s_WM cy ad) σ) H) (hS : va_S (s_A ad 12 s.heap.size) s.heap H locs) (hf : fX7_nameHere_b2 k2 σ x1 = some (re, σe)) : W p l e ({ frames := 1, cells := 0, slots := 0, locals := 21 } : Room) s m args below meth c H locs 0 0 (MQ below (s_Qi (s_WM cy ad) G (s_A ad 12 s.heap.size) re σe) args s 0 0 (s_A ad 12 s.heap.size)) (F0 m 2 ls []) := by
  obtain ⟨hx, hb, hr, hml, hown, hts, hlk, hK, hE, hI⟩ := id C
  have hD : ∀ σ : Sg, va_D (s_A ad 12 s.heap.size) ((s_WM cy ad) σ) := fun σ => s_D (s_WM_ad cy ad σ) hI (fun k hk => Or.inl ⟨k, hk, rfl⟩)
  unfold fX7_nameHere_b2 at hf
  refine lv_iload_n hx hb dX7_nameHere_2 rfl (lv_at hl 1 rfl) ?_
  refine lv_bipush (v := 15) hx hb dX7_nameHere_3 (by decide) ?_
  refine lv_icmp_ge (tgt := 118) hx hb dX7_nameHere_5 (by decide) (fun c1 => ?_) (fun c1 => ?_)
  · rw [if_pos c1] at hf
    exact kX7_nameHere_b118 C σ _ _ _ (lv_sub hl [] rfl) hP hS hf
  · rw [if_neg c1] at hf
    refine lv_aload_n hx hb dX7_nameHere_8 rfl (lv_at hl 0 rfl) ?_
    refine va_get (D := G) (ci := 7) (v := .int (σ 0 9)) (C := RX7) (T := TX7) (N := 28) hx hb hts inkX7 hown hK hP 0 rfl rfl 9 (by decide) (hts _ kw_791) (fun _ h9 => h9) rfl dX7_nameHere_9 ?_
    refine lv_iconst (v := 1) hx hb dX7_nameHere_12 (by decide) ?_
    refine lv_icmp_ne (tgt := 118) hx hb dX7_nameHere_13 (by decide) (fun c2 => ?_) (fun c2 => ?_)
    · rw [if_neg c2] at hf
      exact kX7_nameHere_b118 C σ _ _ _ (lv_sub hl [] rfl) hP hS hf
    · rw [if_pos c2] at hf
      refine lv_aload_n hx hb dX7_nameHere_16 rfl (lv_at hl 0 rfl) ?_
      refine va_get (D := G) (ci := 7) (v := .int (σ 0 7)) (C := RX7) (T := TX7) (N := 28) hx hb hts inkX7 hown hK hP 0 rfl rfl 7 (by decide) (hts _ kw_789) (fun _ h9 => h9) rfl dX7_nameHere_17 ?_
      refine lv_aload_n hx hb dX7_nameHere_20 rfl (lv_at hl 0 rfl) ?_
      refine va_get (D := G) (ci := 7) (v := .int (σ 0 8)) (C := RX7) (T := TX7) (N := 28) hx hb hts inkX7 hown hK hP 0 rfl rfl 8 (by decide) (hts _ kw_790) (fun _ h9 => h9) rfl dX7_nameHere_21 ?_
      refine lv_isub hx hb dX7_nameHere_24 ?_
      refine lv_aload_n hx hb dX7_nameHere_25 rfl (lv_at hl 0 rfl) ?_
      refine va_get (D := G) (ci := 7) (v := .ref (ad 3)) (C := RX7) (T := TX7) (N := 28) hx hb hts inkX7 hown hK hP 0 rfl rfl 12 (by decide) (hts _ kw_794) (fun _ h9 => h9) rfl dX7_nameHere_26 ?_
      refine lv_iload_n hx hb dX7_nameHere_29 rfl (lv_at hl 1 rfl) ?_
      refine lv_iconst (v := 1) hx hb dX7_nameHere_30 (by decide) ?_
      refine lv_iadd hx hb dX7_nameHere_31 ?_
      replace hf := s_gd_some hf
      obtain ⟨g3, hf⟩ := hf
      refine va_iald hx hb hK hP 3 1 rfl rfl (s_in_of g3) dX7_nameHere_32 ?_
      refine lv_aload_n hx hb dX7_nameHere_33 rfl (lv_at hl 0 rfl) ?_
      refine va_get (D := G) (ci := 7) (v := .ref (ad 3)) (C := RX7) (T := TX7) (N := 28) hx hb hts inkX7 hown hK hP 0 rfl rfl 12 (by decide) (hts _ kw_794) (fun _ h9 => h9) rfl dX7_nameHere_34 ?_
      refine lv_iload_n hx hb dX7_nameHere_37 rfl (lv_at hl 1 rfl) ?_
      replace hf := s_gd_some hf
      obtain ⟨g4, hf⟩ := hf
      refine va_iald hx hb hK hP 3 1 rfl rfl (s_in_of g4) dX7_nameHere_38 ?_
      refine lv_isub hx hb dX7_nameHere_39 ?_
      refine lv_icmp_ne (tgt := 47) hx hb dX7_nameHere_40 (by decide) (fun c5 => ?_) (fun c5 => ?_)
      · rw [if_neg c5] at hf
        refine lv_iconst (v := 0) hx hb dX7_nameHere_47 (by decide) ?_
        exact kX7_nameHere_b48 C k2 hk2 σ x1 (0 : Int32) _ _ _ (lv_sub hl [0, 1] rfl) hP hS hf
      · rw [if_pos c5] at hf
        refine lv_iconst (v := 1) hx hb dX7_nameHere_43 (by decide) ?_
        refine lv_goto (tgt := 48) hx hb dX7_nameHere_44 (by decide) ?_
        exact kX7_nameHere_b48 C k2 hk2 σ x1 (1 : Int32) _ _ _ (lv_sub hl [0, 1] rfl) hP hS hf
set_option maxRecDepth 100000 in
set_option maxHeartbeats 4000000 in
theorem kX7_nameHere_b2_L (C : s_X p s m meth c args cX7_nameHere (some .int) 4 RX7 G cy sa ad 12) : ∀ (n : Nat), ∀ (σ : Sg) (x1 : Int32) (ls : Array Slot) (H : Heap) (locs : List Loc), lv_has ls 4 [(0, .ref (ad 0)), (1, .int x1)] → va_P G vwCl ((s_WM cy ad) σ) H → va_S (s_A ad 12 s.heap.size) s.heap H locs → fX7_nameHere_b2_L n σ x1 = some (re, σe) → W p l e ({ frames := 1, cells := 0, slots := 0, locals := 21 } : Room) s m args below meth c H locs 0 0 (MQ below (s_Qi (s_WM cy ad) G (s_A ad 12 s.heap.size) re σe) args s 0 0 (s_A ad 12 s.heap.size)) (F0 m 2 ls []) := by
  intro n
  induction n with
  | zero => intro σ x1 ls H locs hl hP hS hf; exact absurd (show (none : Option (Int32 × Sg)) = some (re, σe) from hf) (by intro h; cases h)
  | succ n ih => intro σ x1 ls H locs hl hP hS hf; exact kX7_nameHere_b2 C (fX7_nameHere_b2_L n) ih σ x1 ls H locs hl hP hS hf
set_option maxRecDepth 100000 in
set_option maxHeartbeats 4000000 in
theorem kX7_nameHere (C : s_X p s m meth c args cX7_nameHere (some .int) 4 RX7 G cy sa ad 12) (σ : Sg) (ls : Array Slot) (H : Heap) (locs : List Loc) (hl : lv_has ls 4 [(0, .ref (ad 0))]) (hP : va_P G vwCl ((s_WM cy ad) σ) H) (hS : va_S (s_A ad 12 s.heap.size) s.heap H locs) (hf : fX7_nameHere σ = some (re, σe)) : W p l e ({ frames := 1, cells := 0, slots := 0, locals := 21 } : Room) s m args below meth c H locs 0 0 (MQ below (s_Qi (s_WM cy ad) G (s_A ad 12 s.heap.size) re σe) args s 0 0 (s_A ad 12 s.heap.size)) (F0 m 0 ls []) := by
  obtain ⟨hx, hb, hr, hml, hown, hts, hlk, hK, hE, hI⟩ := id C
  have hD : ∀ σ : Sg, va_D (s_A ad 12 s.heap.size) ((s_WM cy ad) σ) := fun σ => s_D (s_WM_ad cy ad σ) hI (fun k hk => Or.inl ⟨k, hk, rfl⟩)
  unfold fX7_nameHere at hf
  refine lv_iconst (v := 0) hx hb dX7_nameHere_0 (by decide) ?_
  refine lv_istore_n (lv' := [(1, .int (0 : Int32)), (0, .ref (ad 0))]) hx hb dX7_nameHere_1 rfl hl (by decide) rfl (fun ls hl => ?_)
  exact kX7_nameHere_b2_L C s_fu σ (0 : Int32) _ _ _ (lv_sub hl [1, 0] rfl) hP hS hf
theorem kcX7_nameHere {l : Launch} {G : va_G} {cy : Nat → ClassId} {sa : Nat × Nat} {ad : Nat → Nat}  {sz : Nat} (hI : s_inj ad 12) (σ : Sg) {re : Int32} {σe : Sg} (hf : fX7_nameHere σ = some (re, σe)) : Met l yX7_nameHere (kW yX7_nameHere cX7_nameHere 4 (some .int)) ({ frames := 1, cells := 0, slots := 0, locals := 21 } : Room) (s_P (s_WM cy ad) G cy sa ad 12 [.ref (ad 0)] sz σ) (s_Qi (s_WM cy ad) G (s_A ad 12 sz) re σe) 0 0 (s_A ad 12 sz) := by
  refine s_met (own := RX7) (by decide) rfl hI (Nat.le_of_ble_eq_true rfl) (fun p e s m below meth c ls hsz C hP hl => ?_)
  subst hsz
  exact kX7_nameHere C σ ls _ _ hl hP va_S.rf hf
set_option maxRecDepth 100000 in
set_option maxHeartbeats 4000000 in
theorem kX7_readsOn_b265 (C : s_X p s m meth c args cX7_readsOn none 2 RX7 G cy sa ad 12) (σ : Sg) (x1 : Int32) (y1 : Int32) (ls : Array Slot) (H : Heap) (locs : List Loc) (hl : lv_has ls 2 [(0, .ref (ad 0)), (1, .int x1)]) (hP : va_P G vwCl ((s_WM cy ad) σ) H) (hS : va_S (s_A ad 12 s.heap.size) s.heap H locs) (hf : fX7_readsOn_b265 σ x1 y1 = some σe) : W p l e ({ frames := 1, cells := 0, slots := 0, locals := 25 } : Room) s m args below meth c H locs 0 0 (MQ below (s_Qv (s_WM cy ad) G (s_A ad 12 s.heap.size) σe) args s 0 0 (s_A ad 12 s.heap.size)) (F0 m 265 ls [.int y1, .ref (ad 0)]) := by
  obtain ⟨hx, hb, hr, hml, hown, hts, hlk, hK, hE, hI⟩ := id C
  have hD : ∀ σ : Sg, va_D (s_A ad 12 s.heap.size) ((s_WM cy ad) σ) := fun σ => s_D (s_WM_ad cy ad σ) hI (fun k hk => Or.inl ⟨k, hk, rfl⟩)
  unfold fX7_readsOn_b265 at hf
  refine va_put (D := G) (ci := 7) (v := .int y1) (ty := .int) (C := RX7) (T := TX7) (N := 28) hx hb hts inkX7 tyX7 tyX7_ok nmX7 hown hK hP (hD _) hS 0 rfl rfl 9 (by decide) (hts _ kw_791) (fun _ h9 => h9) rfl (by decide +kernel) rfl rfl (Nat.le_of_ble_eq_true rfl) dX7_readsOn_265 (fun H locs hP _ hS => ?_)
  obtain ⟨σ1, eσ1⟩ : ∃ z : Sg, z = (s_up σ 0 9 y1) := ⟨_, rfl⟩
  replace hf := s_lt_at eσ1 hf
  replace hP : va_P G vwCl ((s_WM cy ad) σ1) H := by rw [eσ1]; exact hP
  refine lv_aload_n hx hb dX7_readsOn_268 rfl (lv_at hl 0 rfl) ?_
  refine lv_dup hx hb dX7_readsOn_269 rfl ?_
  refine va_get (D := G) (ci := 7) (v := .int (σ1 0 7)) (C := RX7) (T := TX7) (N := 28) hx hb hts inkX7 hown hK hP 0 rfl rfl 7 (by decide) (hts _ kw_789) (fun _ h9 => h9) rfl dX7_readsOn_270 ?_
  refine lv_iconst (v := 1) hx hb dX7_readsOn_273 (by decide) ?_
  refine lv_iadd hx hb dX7_readsOn_274 ?_
  refine va_put (D := G) (ci := 7) (v := .int ((σ1 0 7) + (1 : Int32))) (ty := .int) (C := RX7) (T := TX7) (N := 28) hx hb hts inkX7 tyX7 tyX7_ok nmX7 hown hK hP (hD _) hS 0 rfl rfl 7 (by decide) (hts _ kw_789) (fun _ h9 => h9) rfl (by decide +kernel) rfl rfl (Nat.le_of_ble_eq_true rfl) dX7_readsOn_275 (fun H locs hP _ hS => ?_)
  obtain ⟨σ2, eσ2⟩ : ∃ z : Sg, z = (s_up σ1 0 7 ((σ1 0 7) + (1 : Int32))) := ⟨_, rfl⟩
  replace hf := s_lt_at eσ2 hf
  replace hP : va_P G vwCl ((s_WM cy ad) σ2) H := by rw [eσ2]; exact hP
  refine lv_iload_n hx hb dX7_readsOn_278 rfl (lv_at hl 1 rfl) ?_
  refine lv_bipush (v := 59) hx hb dX7_readsOn_279 (by decide) ?_
  refine lv_icmp_eq (tgt := 301) hx hb dX7_readsOn_281 (by decide) (fun c3 => ?_) (fun c3 => ?_)
  · rw [if_pos c3] at hf
    have he2 := Option.some.inj hf
    exact W.vret hx hb hr (fun t ht hW => ⟨⟨(), rfl, trivial, s_fin (Wd := (s_WM cy ad)) ht he2 hP⟩, hS.F ht⟩) hS.2.2 dX7_readsOn_301 hlk
  · rw [if_neg c3] at hf
    refine lv_iload_n hx hb dX7_readsOn_284 rfl (lv_at hl 1 rfl) ?_
    refine lv_bipush (v := 45) hx hb dX7_readsOn_285 (by decide) ?_
    refine lv_icmp_eq (tgt := 301) hx hb dX7_readsOn_287 (by decide) (fun c4 => ?_) (fun c4 => ?_)
    · rw [if_pos c4] at hf
      have he2 := Option.some.inj hf
      exact W.vret hx hb hr (fun t ht hW => ⟨⟨(), rfl, trivial, s_fin (Wd := (s_WM cy ad)) ht he2 hP⟩, hS.F ht⟩) hS.2.2 dX7_readsOn_301 hlk
    · rw [if_neg c4] at hf
      refine lv_iload_n hx hb dX7_readsOn_290 rfl (lv_at hl 1 rfl) ?_
      refine lv_bipush (v := 46) hx hb dX7_readsOn_291 (by decide) ?_
      refine lv_icmp_eq (tgt := 301) hx hb dX7_readsOn_293 (by decide) (fun c5 => ?_) (fun c5 => ?_)
      · rw [if_pos c5] at hf
        have he2 := Option.some.inj hf
        exact W.vret hx hb hr (fun t ht hW => ⟨⟨(), rfl, trivial, s_fin (Wd := (s_WM cy ad)) ht he2 hP⟩, hS.F ht⟩) hS.2.2 dX7_readsOn_301 hlk
      · rw [if_neg c5] at hf
        refine lv_aload_n hx hb dX7_readsOn_296 rfl (lv_at hl 0 rfl) ?_
        refine lv_iconst (v := 1) hx hb dX7_readsOn_297 (by decide) ?_
        replace hf := s_bv_some hf
        obtain ⟨σ6, hz7, hf⟩ := hf
        refine s_callv (nn := 1) C (kcX7_fails (l := l) (G := G) (cy := cy) (sa := sa) hI (sz := H.size) σ2 (1 : Int32) hz7) gk_X7_92 rfl rfl (by decide +kernel) ⟨Nat.le_of_ble_eq_true rfl, Nat.le_of_ble_eq_true rfl⟩ hP hS (q0 := 0) (ci := 7) rfl rfl rfl (As := [.int (1 : Int32)]) (rest := []) rfl rfl hl.1 (Nat.le_of_ble_eq_true rfl) dX7_readsOn_298 (fun H locs hP hS => ?_)
        have he2 := Option.some.inj hf
        exact W.vret hx hb hr (fun t ht hW => ⟨⟨(), rfl, trivial, s_fin (Wd := (s_WM cy ad)) ht he2 hP⟩, hS.F ht⟩) hS.2.2 dX7_readsOn_301 hlk
set_option maxRecDepth 100000 in
set_option maxHeartbeats 4000000 in
theorem kX7_readsOn_b201 (C : s_X p s m meth c args cX7_readsOn none 2 RX7 G cy sa ad 12) (k140 : Sg → Option Sg) (hk140 : ∀ (σ : Sg) (ls : Array Slot) (H : Heap) (locs : List Loc), lv_has ls 2 [(0, .ref (ad 0))] → va_P G vwCl ((s_WM cy ad) σ) H → va_S (s_A ad 12 s.heap.size) s.heap H locs → k140 σ = some σe → W p l e ({ frames := 1, cells := 0, slots := 0, locals := 25 } : Room) s m args below meth c H locs 0 0 (MQ below (s_Qv (s_WM cy ad) G (s_A ad 12 s.heap.size) σe) args s 0 0 (s_A ad 12 s.heap.size)) (F0 m 140 ls [])) (σ : Sg) (y1 : Int32) (ls : Array Slot) (H : Heap) (locs : List Loc) (hl : lv_has ls 2 [(0, .ref (ad 0))]) (hP : va_P G vwCl ((s_WM cy ad) σ) H) (hS : va_S (s_A ad 12 s.heap.size) s.heap H locs) (hf : fX7_readsOn_b201 k140 σ y1 = some σe) : W p l e ({ frames := 1, cells := 0, slots := 0, locals := 25 } : Room) s m args below meth c H locs 0 0 (MQ below (s_Qv (s_WM cy ad) G (s_A ad 12 s.heap.size) σe) args s 0 0 (s_A ad 12 s.heap.size)) (F0 m 201 ls [.int y1, .ref (ad 0)]) := by
  obtain ⟨hx, hb, hr, hml, hown, hts, hlk, hK, hE, hI⟩ := id C
  have hD : ∀ σ : Sg, va_D (s_A ad 12 s.heap.size) ((s_WM cy ad) σ) := fun σ => s_D (s_WM_ad cy ad σ) hI (fun k hk => Or.inl ⟨k, hk, rfl⟩)
  unfold fX7_readsOn_b201 at hf
  refine va_put (D := G) (ci := 7) (v := .int y1) (ty := .int) (C := RX7) (T := TX7) (N := 28) hx hb hts inkX7 tyX7 tyX7_ok nmX7 hown hK hP (hD _) hS 0 rfl rfl 10 (by decide) (hts _ kw_792) (fun _ h9 => h9) rfl (by decide +kernel) rfl rfl (Nat.le_of_ble_eq_true rfl) dX7_readsOn_201 (fun H locs hP _ hS => ?_)
  obtain ⟨σ1, eσ1⟩ : ∃ z : Sg, z = (s_up σ 0 10 y1) := ⟨_, rfl⟩
  replace hf := s_lt_at eσ1 hf
  replace hP : va_P G vwCl ((s_WM cy ad) σ1) H := by rw [eσ1]; exact hP
  refine lv_aload_n hx hb dX7_readsOn_204 rfl (lv_at hl 0 rfl) ?_
  refine lv_dup hx hb dX7_readsOn_205 rfl ?_
  refine va_get (D := G) (ci := 7) (v := .int (σ1 0 7)) (C := RX7) (T := TX7) (N := 28) hx hb hts inkX7 hown hK hP 0 rfl rfl 7 (by decide) (hts _ kw_789) (fun _ h9 => h9) rfl dX7_readsOn_206 ?_
  refine lv_iconst (v := 1) hx hb dX7_readsOn_209 (by decide) ?_
  refine lv_iadd hx hb dX7_readsOn_210 ?_
  refine va_put (D := G) (ci := 7) (v := .int ((σ1 0 7) + (1 : Int32))) (ty := .int) (C := RX7) (T := TX7) (N := 28) hx hb hts inkX7 tyX7 tyX7_ok nmX7 hown hK hP (hD _) hS 0 rfl rfl 7 (by decide) (hts _ kw_789) (fun _ h9 => h9) rfl (by decide +kernel) rfl rfl (Nat.le_of_ble_eq_true rfl) dX7_readsOn_211 (fun H locs hP _ hS => ?_)
  obtain ⟨σ2, eσ2⟩ : ∃ z : Sg, z = (s_up σ1 0 7 ((σ1 0 7) + (1 : Int32))) := ⟨_, rfl⟩
  replace hf := s_lt_at eσ2 hf
  replace hP : va_P G vwCl ((s_WM cy ad) σ2) H := by rw [eσ2]; exact hP
  refine lv_goto (tgt := 140) hx hb dX7_readsOn_214 (by decide) ?_
  exact hk140 σ2 _ _ _ (lv_sub hl [0] rfl) hP hS hf
set_option maxRecDepth 100000 in
set_option maxHeartbeats 4000000 in
theorem kX7_readsOn_b140 (C : s_X p s m meth c args cX7_readsOn none 2 RX7 G cy sa ad 12) (k140 : Sg → Option Sg) (hk140 : ∀ (σ : Sg) (ls : Array Slot) (H : Heap) (locs : List Loc), lv_has ls 2 [(0, .ref (ad 0))] → va_P G vwCl ((s_WM cy ad) σ) H → va_S (s_A ad 12 s.heap.size) s.heap H locs → k140 σ = some σe → W p l e ({ frames := 1, cells := 0, slots := 0, locals := 25 } : Room) s m args below meth c H locs 0 0 (MQ below (s_Qv (s_WM cy ad) G (s_A ad 12 s.heap.size) σe) args s 0 0 (s_A ad 12 s.heap.size)) (F0 m 140 ls [])) (σ : Sg) (ls : Array Slot) (H : Heap) (locs : List Loc) (hl : lv_has ls 2 [(0, .ref (ad 0))]) (hP : va_P G vwCl ((s_WM cy ad) σ) H) (hS : va_S (s_A ad 12 s.heap.size) s.heap H locs) (hf : fX7_readsOn_b140 k140 σ = some σe) : W p l e ({ frames := 1, cells := 0, slots := 0, locals := 25 } : Room) s m args below meth c H locs 0 0 (MQ below (s_Qv (s_WM cy ad) G (s_A ad 12 s.heap.size) σe) args s 0 0 (s_A ad 12 s.heap.size)) (F0 m 140 ls []) := by
  obtain ⟨hx, hb, hr, hml, hown, hts, hlk, hK, hE, hI⟩ := id C
  have hD : ∀ σ : Sg, va_D (s_A ad 12 s.heap.size) ((s_WM cy ad) σ) := fun σ => s_D (s_WM_ad cy ad σ) hI (fun k hk => Or.inl ⟨k, hk, rfl⟩)
  unfold fX7_readsOn_b140 at hf
  refine lv_aload_n hx hb dX7_readsOn_140 rfl (lv_at hl 0 rfl) ?_
  refine lv_aload_n hx hb dX7_readsOn_141 rfl (lv_at hl 0 rfl) ?_
  refine va_get (D := G) (ci := 7) (v := .int (σ 0 7)) (C := RX7) (T := TX7) (N := 28) hx hb hts inkX7 hown hK hP 0 rfl rfl 7 (by decide) (hts _ kw_789) (fun _ h9 => h9) rfl dX7_readsOn_142 ?_
  replace hf := s_bi_some hf
  obtain ⟨r3, σ1, hz2, hf⟩ := hf
  refine s_calli (nn := 1) C (kcX7_byteAt (l := l) (G := G) (cy := cy) (sa := sa) hI (sz := H.size) σ (σ 0 7) hz2) gk_X7_77 rfl rfl (by decide +kernel) ⟨Nat.le_of_ble_eq_true rfl, Nat.le_of_ble_eq_true rfl⟩ hP hS (q0 := 0) (ci := 7) rfl rfl rfl (As := [.int (σ 0 7)]) (rest := []) rfl rfl hl.1 (Nat.le_of_ble_eq_true rfl) dX7_readsOn_145 (fun H locs hP hS => ?_)
  refine lv_i2l (v := (Int32.toInt64 r3)) hx hb dX7_readsOn_148 rfl ?_
  refine lv_ldc2 (v := 48) hx hb hown (hts _ kw_901) dX7_readsOn_149 ?_
  refine lv_ldc2 (v := 57) hx hb hown (hts _ kw_902) dX7_readsOn_152 ?_
  replace hf := s_bi_some hf
  obtain ⟨r6, σ4, hz5, hf⟩ := hf
  refine s_calliS (nn := 3) C (kcX7_in (l := l) (G := G) (cy := cy) (sa := sa) hI (sz := H.size) σ1 (Int32.toInt64 r3) (48 : Int64) (57 : Int64) hz5) gk_X7_54 rfl rfl (by decide +kernel) ⟨Nat.le_of_ble_eq_true rfl, Nat.le_of_ble_eq_true rfl⟩ hP hS (As := [.long (Int32.toInt64 r3), .long (48 : Int64), .long (57 : Int64)]) (rest := []) rfl rfl hl.1 (Nat.le_of_ble_eq_true rfl) dX7_readsOn_155 (fun H locs hP hS => ?_)
  refine lv_if_eq (tgt := 217) hx hb dX7_readsOn_158 (by decide) (fun c7 => ?_) (fun c7 => ?_)
  · rw [if_pos c7] at hf
    refine lv_aload_n hx hb dX7_readsOn_217 rfl (lv_at hl 0 rfl) ?_
    refine lv_iconst (v := 2) hx hb dX7_readsOn_218 (by decide) ?_
    refine va_put (D := G) (ci := 7) (v := .int (2 : Int32)) (ty := .int) (C := RX7) (T := TX7) (N := 28) hx hb hts inkX7 tyX7 tyX7_ok nmX7 hown hK hP (hD _) hS 0 rfl rfl 9 (by decide) (hts _ kw_791) (fun _ h9 => h9) rfl (by decide +kernel) rfl rfl (Nat.le_of_ble_eq_true rfl) dX7_readsOn_219 (fun H locs hP _ hS => ?_)
    obtain ⟨σ8, eσ8⟩ : ∃ z : Sg, z = (s_up σ4 0 9 (2 : Int32)) := ⟨_, rfl⟩
    replace hf := s_lt_at eσ8 hf
    replace hP : va_P G vwCl ((s_WM cy ad) σ8) H := by rw [eσ8]; exact hP
    refine lv_aload_n hx hb dX7_readsOn_222 rfl (lv_at hl 0 rfl) ?_
    refine va_get (D := G) (ci := 7) (v := .int (σ8 0 7)) (C := RX7) (T := TX7) (N := 28) hx hb hts inkX7 hown hK hP 0 rfl rfl 7 (by decide) (hts _ kw_789) (fun _ h9 => h9) rfl dX7_readsOn_223 ?_
    refine lv_aload_n hx hb dX7_readsOn_226 rfl (lv_at hl 0 rfl) ?_
    refine va_get (D := G) (ci := 7) (v := .int (σ8 0 8)) (C := RX7) (T := TX7) (N := 28) hx hb hts inkX7 hown hK hP 0 rfl rfl 8 (by decide) (hts _ kw_790) (fun _ h9 => h9) rfl dX7_readsOn_227 ?_
    refine lv_isub hx hb dX7_readsOn_230 ?_
    refine lv_iconst (v := 4) hx hb dX7_readsOn_231 (by decide) ?_
    refine lv_icmp_le (tgt := 301) hx hb dX7_readsOn_232 (by decide) (fun c9 => ?_) (fun c9 => ?_)
    · rw [if_pos c9] at hf
      have he2 := Option.some.inj hf
      exact W.vret hx hb hr (fun t ht hW => ⟨⟨(), rfl, trivial, s_fin (Wd := (s_WM cy ad)) ht he2 hP⟩, hS.F ht⟩) hS.2.2 dX7_readsOn_301 hlk
    · rw [if_neg c9] at hf
      refine lv_aload_n hx hb dX7_readsOn_235 rfl (lv_at hl 0 rfl) ?_
      refine lv_iconst (v := 1) hx hb dX7_readsOn_236 (by decide) ?_
      replace hf := s_bv_some hf
      obtain ⟨σ10, hz11, hf⟩ := hf
      refine s_callv (nn := 1) C (kcX7_fails (l := l) (G := G) (cy := cy) (sa := sa) hI (sz := H.size) σ8 (1 : Int32) hz11) gk_X7_92 rfl rfl (by decide +kernel) ⟨Nat.le_of_ble_eq_true rfl, Nat.le_of_ble_eq_true rfl⟩ hP hS (q0 := 0) (ci := 7) rfl rfl rfl (As := [.int (1 : Int32)]) (rest := []) rfl rfl hl.1 (Nat.le_of_ble_eq_true rfl) dX7_readsOn_237 (fun H locs hP hS => ?_)
      refine lv_goto (tgt := 301) hx hb dX7_readsOn_240 (by decide) ?_
      have he2 := Option.some.inj hf
      exact W.vret hx hb hr (fun t ht hW => ⟨⟨(), rfl, trivial, s_fin (Wd := (s_WM cy ad)) ht he2 hP⟩, hS.F ht⟩) hS.2.2 dX7_readsOn_301 hlk
  · rw [if_neg c7] at hf
    refine lv_aload_n hx hb dX7_readsOn_161 rfl (lv_at hl 0 rfl) ?_
    refine lv_aload_n hx hb dX7_readsOn_162 rfl (lv_at hl 0 rfl) ?_
    refine va_get (D := G) (ci := 7) (v := .int (σ4 0 7)) (C := RX7) (T := TX7) (N := 28) hx hb hts inkX7 hown hK hP 0 rfl rfl 7 (by decide) (hts _ kw_789) (fun _ h9 => h9) rfl dX7_readsOn_163 ?_
    refine lv_aload_n hx hb dX7_readsOn_166 rfl (lv_at hl 0 rfl) ?_
    refine va_get (D := G) (ci := 7) (v := .int (σ4 0 8)) (C := RX7) (T := TX7) (N := 28) hx hb hts inkX7 hown hK hP 0 rfl rfl 8 (by decide) (hts _ kw_790) (fun _ h9 => h9) rfl dX7_readsOn_167 ?_
    refine lv_isub hx hb dX7_readsOn_170 ?_
    refine lv_iconst (v := 4) hx hb dX7_readsOn_171 (by decide) ?_
    refine lv_icmp_ge (tgt := 197) hx hb dX7_readsOn_172 (by decide) (fun c12 => ?_) (fun c12 => ?_)
    · rw [if_pos c12] at hf
      refine lv_aload_n hx hb dX7_readsOn_197 rfl (lv_at hl 0 rfl) ?_
      refine va_get (D := G) (ci := 7) (v := .int (σ4 0 10)) (C := RX7) (T := TX7) (N := 28) hx hb hts inkX7 hown hK hP 0 rfl rfl 10 (by decide) (hts _ kw_792) (fun _ h9 => h9) rfl dX7_readsOn_198 ?_
      exact kX7_readsOn_b201 C k140 hk140 σ4 (σ4 0 10) _ _ _ (lv_sub hl [0] rfl) hP hS hf
    · rw [if_neg c12] at hf
      refine lv_bipush (v := 10) hx hb dX7_readsOn_175 (by decide) ?_
      refine lv_aload_n hx hb dX7_readsOn_177 rfl (lv_at hl 0 rfl) ?_
      refine va_get (D := G) (ci := 7) (v := .int (σ4 0 10)) (C := RX7) (T := TX7) (N := 28) hx hb hts inkX7 hown hK hP 0 rfl rfl 10 (by decide) (hts _ kw_792) (fun _ h9 => h9) rfl dX7_readsOn_178 ?_
      refine lv_imul hx hb dX7_readsOn_181 ?_
      refine lv_aload_n hx hb dX7_readsOn_182 rfl (lv_at hl 0 rfl) ?_
      refine lv_aload_n hx hb dX7_readsOn_183 rfl (lv_at hl 0 rfl) ?_
      refine va_get (D := G) (ci := 7) (v := .int (σ4 0 7)) (C := RX7) (T := TX7) (N := 28) hx hb hts inkX7 hown hK hP 0 rfl rfl 7 (by decide) (hts _ kw_789) (fun _ h9 => h9) rfl dX7_readsOn_184 ?_
      replace hf := s_bi_some hf
      obtain ⟨r15, σ13, hz14, hf⟩ := hf
      refine s_calli (nn := 1) C (kcX7_byteAt (l := l) (G := G) (cy := cy) (sa := sa) hI (sz := H.size) σ4 (σ4 0 7) hz14) gk_X7_77 rfl rfl (by decide +kernel) ⟨Nat.le_of_ble_eq_true rfl, Nat.le_of_ble_eq_true rfl⟩ hP hS (q0 := 0) (ci := 7) rfl rfl rfl (As := [.int (σ4 0 7)]) (rest := [.int ((10 : Int32) * (σ4 0 10)), .ref (ad 0)]) rfl rfl hl.1 (Nat.le_of_ble_eq_true rfl) dX7_readsOn_187 (fun H locs hP hS => ?_)
      refine lv_iadd hx hb dX7_readsOn_190 ?_
      refine lv_bipush (v := 48) hx hb dX7_readsOn_191 (by decide) ?_
      refine lv_isub hx hb dX7_readsOn_193 ?_
      refine lv_goto (tgt := 201) hx hb dX7_readsOn_194 (by decide) ?_
      exact kX7_readsOn_b201 C k140 hk140 σ13 ((((10 : Int32) * (σ4 0 10)) + r15) - (48 : Int32)) _ _ _ (lv_sub hl [0] rfl) hP hS hf
set_option maxRecDepth 100000 in
set_option maxHeartbeats 4000000 in
theorem kX7_readsOn_b140_L (C : s_X p s m meth c args cX7_readsOn none 2 RX7 G cy sa ad 12) : ∀ (n : Nat), ∀ (σ : Sg) (ls : Array Slot) (H : Heap) (locs : List Loc), lv_has ls 2 [(0, .ref (ad 0))] → va_P G vwCl ((s_WM cy ad) σ) H → va_S (s_A ad 12 s.heap.size) s.heap H locs → fX7_readsOn_b140_L n σ = some σe → W p l e ({ frames := 1, cells := 0, slots := 0, locals := 25 } : Room) s m args below meth c H locs 0 0 (MQ below (s_Qv (s_WM cy ad) G (s_A ad 12 s.heap.size) σe) args s 0 0 (s_A ad 12 s.heap.size)) (F0 m 140 ls []) := by
  intro n
  induction n with
  | zero => intro σ  ls H locs hl hP hS hf; exact absurd (show (none : Option Sg) = some σe from hf) (by intro h; cases h)
  | succ n ih => intro σ  ls H locs hl hP hS hf; exact kX7_readsOn_b140 C (fX7_readsOn_b140_L n) ih σ  ls H locs hl hP hS hf
set_option maxRecDepth 100000 in
set_option maxHeartbeats 4000000 in
theorem kX7_readsOn_b84 (C : s_X p s m meth c args cX7_readsOn none 2 RX7 G cy sa ad 12) (k84 : Sg → Option Sg) (hk84 : ∀ (σ : Sg) (ls : Array Slot) (H : Heap) (locs : List Loc), lv_has ls 2 [(0, .ref (ad 0))] → va_P G vwCl ((s_WM cy ad) σ) H → va_S (s_A ad 12 s.heap.size) s.heap H locs → k84 σ = some σe → W p l e ({ frames := 1, cells := 0, slots := 0, locals := 25 } : Room) s m args below meth c H locs 0 0 (MQ below (s_Qv (s_WM cy ad) G (s_A ad 12 s.heap.size) σe) args s 0 0 (s_A ad 12 s.heap.size)) (F0 m 84 ls [])) (σ : Sg) (ls : Array Slot) (H : Heap) (locs : List Loc) (hl : lv_has ls 2 [(0, .ref (ad 0))]) (hP : va_P G vwCl ((s_WM cy ad) σ) H) (hS : va_S (s_A ad 12 s.heap.size) s.heap H locs) (hf : fX7_readsOn_b84 k84 σ = some σe) : W p l e ({ frames := 1, cells := 0, slots := 0, locals := 25 } : Room) s m args below meth c H locs 0 0 (MQ below (s_Qv (s_WM cy ad) G (s_A ad 12 s.heap.size) σe) args s 0 0 (s_A ad 12 s.heap.size)) (F0 m 84 ls []) := by
  obtain ⟨hx, hb, hr, hml, hown, hts, hlk, hK, hE, hI⟩ := id C
  have hD : ∀ σ : Sg, va_D (s_A ad 12 s.heap.size) ((s_WM cy ad) σ) := fun σ => s_D (s_WM_ad cy ad σ) hI (fun k hk => Or.inl ⟨k, hk, rfl⟩)
  unfold fX7_readsOn_b84 at hf
  refine lv_aload_n hx hb dX7_readsOn_84 rfl (lv_at hl 0 rfl) ?_
  refine lv_aload_n hx hb dX7_readsOn_85 rfl (lv_at hl 0 rfl) ?_
  refine va_get (D := G) (ci := 7) (v := .int (σ 0 7)) (C := RX7) (T := TX7) (N := 28) hx hb hts inkX7 hown hK hP 0 rfl rfl 7 (by decide) (hts _ kw_789) (fun _ h9 => h9) rfl dX7_readsOn_86 ?_
  replace hf := s_bi_some hf
  obtain ⟨r3, σ1, hz2, hf⟩ := hf
  refine s_calli (nn := 1) C (kcX7_byteAt (l := l) (G := G) (cy := cy) (sa := sa) hI (sz := H.size) σ (σ 0 7) hz2) gk_X7_77 rfl rfl (by decide +kernel) ⟨Nat.le_of_ble_eq_true rfl, Nat.le_of_ble_eq_true rfl⟩ hP hS (q0 := 0) (ci := 7) rfl rfl rfl (As := [.int (σ 0 7)]) (rest := []) rfl rfl hl.1 (Nat.le_of_ble_eq_true rfl) dX7_readsOn_89 (fun H locs hP hS => ?_)
  refine lv_i2l (v := (Int32.toInt64 r3)) hx hb dX7_readsOn_92 rfl ?_
  refine lv_ldc2 (v := 97) hx hb hown (hts _ kw_899) dX7_readsOn_93 ?_
  refine lv_ldc2 (v := 122) hx hb hown (hts _ kw_900) dX7_readsOn_96 ?_
  replace hf := s_bi_some hf
  obtain ⟨r6, σ4, hz5, hf⟩ := hf
  refine s_calliS (nn := 3) C (kcX7_in (l := l) (G := G) (cy := cy) (sa := sa) hI (sz := H.size) σ1 (Int32.toInt64 r3) (97 : Int64) (122 : Int64) hz5) gk_X7_54 rfl rfl (by decide +kernel) ⟨Nat.le_of_ble_eq_true rfl, Nat.le_of_ble_eq_true rfl⟩ hP hS (As := [.long (Int32.toInt64 r3), .long (97 : Int64), .long (122 : Int64)]) (rest := []) rfl rfl hl.1 (Nat.le_of_ble_eq_true rfl) dX7_readsOn_99 (fun H locs hP hS => ?_)
  refine lv_if_eq (tgt := 118) hx hb dX7_readsOn_102 (by decide) (fun c7 => ?_) (fun c7 => ?_)
  · rw [if_pos c7] at hf
    refine lv_aload_n hx hb dX7_readsOn_118 rfl (lv_at hl 0 rfl) ?_
    refine lv_iconst (v := 1) hx hb dX7_readsOn_119 (by decide) ?_
    refine va_put (D := G) (ci := 7) (v := .int (1 : Int32)) (ty := .int) (C := RX7) (T := TX7) (N := 28) hx hb hts inkX7 tyX7 tyX7_ok nmX7 hown hK hP (hD _) hS 0 rfl rfl 9 (by decide) (hts _ kw_791) (fun _ h9 => h9) rfl (by decide +kernel) rfl rfl (Nat.le_of_ble_eq_true rfl) dX7_readsOn_120 (fun H locs hP _ hS => ?_)
    obtain ⟨σ8, eσ8⟩ : ∃ z : Sg, z = (s_up σ4 0 9 (1 : Int32)) := ⟨_, rfl⟩
    replace hf := s_lt_at eσ8 hf
    replace hP : va_P G vwCl ((s_WM cy ad) σ8) H := by rw [eσ8]; exact hP
    refine lv_goto (tgt := 301) hx hb dX7_readsOn_123 (by decide) ?_
    have he2 := Option.some.inj hf
    exact W.vret hx hb hr (fun t ht hW => ⟨⟨(), rfl, trivial, s_fin (Wd := (s_WM cy ad)) ht he2 hP⟩, hS.F ht⟩) hS.2.2 dX7_readsOn_301 hlk
  · rw [if_neg c7] at hf
    refine lv_aload_n hx hb dX7_readsOn_105 rfl (lv_at hl 0 rfl) ?_
    refine lv_dup hx hb dX7_readsOn_106 rfl ?_
    refine va_get (D := G) (ci := 7) (v := .int (σ4 0 7)) (C := RX7) (T := TX7) (N := 28) hx hb hts inkX7 hown hK hP 0 rfl rfl 7 (by decide) (hts _ kw_789) (fun _ h9 => h9) rfl dX7_readsOn_107 ?_
    refine lv_iconst (v := 1) hx hb dX7_readsOn_110 (by decide) ?_
    refine lv_iadd hx hb dX7_readsOn_111 ?_
    refine va_put (D := G) (ci := 7) (v := .int ((σ4 0 7) + (1 : Int32))) (ty := .int) (C := RX7) (T := TX7) (N := 28) hx hb hts inkX7 tyX7 tyX7_ok nmX7 hown hK hP (hD _) hS 0 rfl rfl 7 (by decide) (hts _ kw_789) (fun _ h9 => h9) rfl (by decide +kernel) rfl rfl (Nat.le_of_ble_eq_true rfl) dX7_readsOn_112 (fun H locs hP _ hS => ?_)
    obtain ⟨σ9, eσ9⟩ : ∃ z : Sg, z = (s_up σ4 0 7 ((σ4 0 7) + (1 : Int32))) := ⟨_, rfl⟩
    replace hf := s_lt_at eσ9 hf
    replace hP : va_P G vwCl ((s_WM cy ad) σ9) H := by rw [eσ9]; exact hP
    refine lv_goto (tgt := 84) hx hb dX7_readsOn_115 (by decide) ?_
    exact hk84 σ9 _ _ _ (lv_sub hl [0] rfl) hP hS hf
set_option maxRecDepth 100000 in
set_option maxHeartbeats 4000000 in
theorem kX7_readsOn_b84_L (C : s_X p s m meth c args cX7_readsOn none 2 RX7 G cy sa ad 12) : ∀ (n : Nat), ∀ (σ : Sg) (ls : Array Slot) (H : Heap) (locs : List Loc), lv_has ls 2 [(0, .ref (ad 0))] → va_P G vwCl ((s_WM cy ad) σ) H → va_S (s_A ad 12 s.heap.size) s.heap H locs → fX7_readsOn_b84_L n σ = some σe → W p l e ({ frames := 1, cells := 0, slots := 0, locals := 25 } : Room) s m args below meth c H locs 0 0 (MQ below (s_Qv (s_WM cy ad) G (s_A ad 12 s.heap.size) σe) args s 0 0 (s_A ad 12 s.heap.size)) (F0 m 84 ls []) := by
  intro n
  induction n with
  | zero => intro σ  ls H locs hl hP hS hf; exact absurd (show (none : Option Sg) = some σe from hf) (by intro h; cases h)
  | succ n ih => intro σ  ls H locs hl hP hS hf; exact kX7_readsOn_b84 C (fX7_readsOn_b84_L n) ih σ  ls H locs hl hP hS hf
set_option maxRecDepth 100000 in
set_option maxHeartbeats 4000000 in
theorem kX7_readsOn_b8 (C : s_X p s m meth c args cX7_readsOn none 2 RX7 G cy sa ad 12) (k8 : Sg → Option Sg) (hk8 : ∀ (σ : Sg) (ls : Array Slot) (H : Heap) (locs : List Loc), lv_has ls 2 [(0, .ref (ad 0))] → va_P G vwCl ((s_WM cy ad) σ) H → va_S (s_A ad 12 s.heap.size) s.heap H locs → k8 σ = some σe → W p l e ({ frames := 1, cells := 0, slots := 0, locals := 25 } : Room) s m args below meth c H locs 0 0 (MQ below (s_Qv (s_WM cy ad) G (s_A ad 12 s.heap.size) σe) args s 0 0 (s_A ad 12 s.heap.size)) (F0 m 8 ls [])) (σ : Sg) (ls : Array Slot) (H : Heap) (locs : List Loc) (hl : lv_has ls 2 [(0, .ref (ad 0))]) (hP : va_P G vwCl ((s_WM cy ad) σ) H) (hS : va_S (s_A ad 12 s.heap.size) s.heap H locs) (hf : fX7_readsOn_b8 k8 σ = some σe) : W p l e ({ frames := 1, cells := 0, slots := 0, locals := 25 } : Room) s m args below meth c H locs 0 0 (MQ below (s_Qv (s_WM cy ad) G (s_A ad 12 s.heap.size) σe) args s 0 0 (s_A ad 12 s.heap.size)) (F0 m 8 ls []) := by
  obtain ⟨hx, hb, hr, hml, hown, hts, hlk, hK, hE, hI⟩ := id C
  have hD : ∀ σ : Sg, va_D (s_A ad 12 s.heap.size) ((s_WM cy ad) σ) := fun σ => s_D (s_WM_ad cy ad σ) hI (fun k hk => Or.inl ⟨k, hk, rfl⟩)
  unfold fX7_readsOn_b8 at hf
  refine lv_aload_n hx hb dX7_readsOn_8 rfl (lv_at hl 0 rfl) ?_
  refine lv_aload_n hx hb dX7_readsOn_9 rfl (lv_at hl 0 rfl) ?_
  refine va_get (D := G) (ci := 7) (v := .int (σ 0 7)) (C := RX7) (T := TX7) (N := 28) hx hb hts inkX7 hown hK hP 0 rfl rfl 7 (by decide) (hts _ kw_789) (fun _ h9 => h9) rfl dX7_readsOn_10 ?_
  replace hf := s_bi_some hf
  obtain ⟨r3, σ1, hz2, hf⟩ := hf
  refine s_calli (nn := 1) C (kcX7_byteAt (l := l) (G := G) (cy := cy) (sa := sa) hI (sz := H.size) σ (σ 0 7) hz2) gk_X7_77 rfl rfl (by decide +kernel) ⟨Nat.le_of_ble_eq_true rfl, Nat.le_of_ble_eq_true rfl⟩ hP hS (q0 := 0) (ci := 7) rfl rfl rfl (As := [.int (σ 0 7)]) (rest := []) rfl rfl hl.1 (Nat.le_of_ble_eq_true rfl) dX7_readsOn_13 (fun H locs hP hS => ?_)
  refine lv_bipush (v := 32) hx hb dX7_readsOn_16 (by decide) ?_
  refine lv_icmp_ne (tgt := 34) hx hb dX7_readsOn_18 (by decide) (fun c4 => ?_) (fun c4 => ?_)
  · rw [if_neg c4] at hf
    refine lv_aload_n hx hb dX7_readsOn_34 rfl (lv_at hl 0 rfl) ?_
    refine lv_aload_n hx hb dX7_readsOn_35 rfl (lv_at hl 0 rfl) ?_
    refine va_get (D := G) (ci := 7) (v := .int (σ1 0 7)) (C := RX7) (T := TX7) (N := 28) hx hb hts inkX7 hown hK hP 0 rfl rfl 7 (by decide) (hts _ kw_789) (fun _ h9 => h9) rfl dX7_readsOn_36 ?_
    refine va_put (D := G) (ci := 7) (v := .int (σ1 0 7)) (ty := .int) (C := RX7) (T := TX7) (N := 28) hx hb hts inkX7 tyX7 tyX7_ok nmX7 hown hK hP (hD _) hS 0 rfl rfl 8 (by decide) (hts _ kw_790) (fun _ h9 => h9) rfl (by decide +kernel) rfl rfl (Nat.le_of_ble_eq_true rfl) dX7_readsOn_39 (fun H locs hP _ hS => ?_)
    obtain ⟨σ5, eσ5⟩ : ∃ z : Sg, z = (s_up σ1 0 8 (σ1 0 7)) := ⟨_, rfl⟩
    replace hf := s_lt_at eσ5 hf
    replace hP : va_P G vwCl ((s_WM cy ad) σ5) H := by rw [eσ5]; exact hP
    refine lv_aload_n hx hb dX7_readsOn_42 rfl (lv_at hl 0 rfl) ?_
    refine lv_aload_n hx hb dX7_readsOn_43 rfl (lv_at hl 0 rfl) ?_
    refine va_get (D := G) (ci := 7) (v := .int (σ5 0 7)) (C := RX7) (T := TX7) (N := 28) hx hb hts inkX7 hown hK hP 0 rfl rfl 7 (by decide) (hts _ kw_789) (fun _ h9 => h9) rfl dX7_readsOn_44 ?_
    replace hf := s_bi_some hf
    obtain ⟨r8, σ6, hz7, hf⟩ := hf
    refine s_calli (nn := 1) C (kcX7_byteAt (l := l) (G := G) (cy := cy) (sa := sa) hI (sz := H.size) σ5 (σ5 0 7) hz7) gk_X7_77 rfl rfl (by decide +kernel) ⟨Nat.le_of_ble_eq_true rfl, Nat.le_of_ble_eq_true rfl⟩ hP hS (q0 := 0) (ci := 7) rfl rfl rfl (As := [.int (σ5 0 7)]) (rest := []) rfl rfl hl.1 (Nat.le_of_ble_eq_true rfl) dX7_readsOn_47 (fun H locs hP hS => ?_)
    refine lv_istore_n (lv' := [(1, .int r8), (0, .ref (ad 0))]) hx hb dX7_readsOn_50 rfl hl (by decide) rfl (fun ls hl => ?_)
    refine lv_aload_n hx hb dX7_readsOn_51 rfl (lv_at hl 1 rfl) ?_
    refine lv_iconst (v := 0) hx hb dX7_readsOn_52 (by decide) ?_
    refine va_put (D := G) (ci := 7) (v := .int (0 : Int32)) (ty := .int) (C := RX7) (T := TX7) (N := 28) hx hb hts inkX7 tyX7 tyX7_ok nmX7 hown hK hP (hD _) hS 0 rfl rfl 10 (by decide) (hts _ kw_792) (fun _ h9 => h9) rfl (by decide +kernel) rfl rfl (Nat.le_of_ble_eq_true rfl) dX7_readsOn_53 (fun H locs hP _ hS => ?_)
    obtain ⟨σ9, eσ9⟩ : ∃ z : Sg, z = (s_up σ6 0 10 (0 : Int32)) := ⟨_, rfl⟩
    replace hf := s_lt_at eσ9 hf
    replace hP : va_P G vwCl ((s_WM cy ad) σ9) H := by rw [eσ9]; exact hP
    refine lv_iload_n hx hb dX7_readsOn_56 rfl (lv_at hl 0 rfl) ?_
    refine lv_bipush (v := -4) hx hb dX7_readsOn_57 (by decide) ?_
    refine lv_icmp_ne (tgt := 70) hx hb dX7_readsOn_59 (by decide) (fun c10 => ?_) (fun c10 => ?_)
    · rw [if_neg c10] at hf
      refine lv_iload_n hx hb dX7_readsOn_70 rfl (lv_at hl 0 rfl) ?_
      refine lv_i2l (v := (Int32.toInt64 r8)) hx hb dX7_readsOn_71 rfl ?_
      refine lv_ldc2 (v := 97) hx hb hown (hts _ kw_899) dX7_readsOn_72 ?_
      refine lv_ldc2 (v := 122) hx hb hown (hts _ kw_900) dX7_readsOn_75 ?_
      replace hf := s_bi_some hf
      obtain ⟨r13, σ11, hz12, hf⟩ := hf
      refine s_calliS (nn := 3) C (kcX7_in (l := l) (G := G) (cy := cy) (sa := sa) hI (sz := H.size) σ9 (Int32.toInt64 r8) (97 : Int64) (122 : Int64) hz12) gk_X7_54 rfl rfl (by decide +kernel) ⟨Nat.le_of_ble_eq_true rfl, Nat.le_of_ble_eq_true rfl⟩ hP hS (As := [.long (Int32.toInt64 r8), .long (97 : Int64), .long (122 : Int64)]) (rest := []) rfl rfl hl.1 (Nat.le_of_ble_eq_true rfl) dX7_readsOn_78 (fun H locs hP hS => ?_)
      refine lv_if_eq (tgt := 126) hx hb dX7_readsOn_81 (by decide) (fun c14 => ?_) (fun c14 => ?_)
      · rw [if_pos c14] at hf
        refine lv_iload_n hx hb dX7_readsOn_126 rfl (lv_at hl 0 rfl) ?_
        refine lv_i2l (v := (Int32.toInt64 r8)) hx hb dX7_readsOn_127 rfl ?_
        refine lv_ldc2 (v := 48) hx hb hown (hts _ kw_901) dX7_readsOn_128 ?_
        refine lv_ldc2 (v := 57) hx hb hown (hts _ kw_902) dX7_readsOn_131 ?_
        replace hf := s_bi_some hf
        obtain ⟨r17, σ15, hz16, hf⟩ := hf
        refine s_calliS (nn := 3) C (kcX7_in (l := l) (G := G) (cy := cy) (sa := sa) hI (sz := H.size) σ11 (Int32.toInt64 r8) (48 : Int64) (57 : Int64) hz16) gk_X7_54 rfl rfl (by decide +kernel) ⟨Nat.le_of_ble_eq_true rfl, Nat.le_of_ble_eq_true rfl⟩ hP hS (As := [.long (Int32.toInt64 r8), .long (48 : Int64), .long (57 : Int64)]) (rest := []) rfl rfl hl.1 (Nat.le_of_ble_eq_true rfl) dX7_readsOn_134 (fun H locs hP hS => ?_)
        refine lv_if_eq (tgt := 243) hx hb dX7_readsOn_137 (by decide) (fun c18 => ?_) (fun c18 => ?_)
        · rw [if_pos c18] at hf
          refine lv_aload_n hx hb dX7_readsOn_243 rfl (lv_at hl 1 rfl) ?_
          refine lv_iload_n hx hb dX7_readsOn_244 rfl (lv_at hl 0 rfl) ?_
          refine lv_bipush (v := 45) hx hb dX7_readsOn_245 (by decide) ?_
          refine lv_icmp_ne (tgt := 254) hx hb dX7_readsOn_247 (by decide) (fun c19 => ?_) (fun c19 => ?_)
          · rw [if_neg c19] at hf
            refine lv_iload_n hx hb dX7_readsOn_254 rfl (lv_at hl 0 rfl) ?_
            refine lv_bipush (v := 46) hx hb dX7_readsOn_255 (by decide) ?_
            refine lv_icmp_ne (tgt := 264) hx hb dX7_readsOn_257 (by decide) (fun c20 => ?_) (fun c20 => ?_)
            · rw [if_neg c20] at hf
              refine lv_iconst (v := 3) hx hb dX7_readsOn_264 (by decide) ?_
              exact kX7_readsOn_b265 C σ15 r8 (3 : Int32) _ _ _ (lv_sub hl [1, 0] rfl) hP hS hf
            · rw [if_pos c20] at hf
              refine lv_iconst (v := 5) hx hb dX7_readsOn_260 (by decide) ?_
              refine lv_goto (tgt := 265) hx hb dX7_readsOn_261 (by decide) ?_
              exact kX7_readsOn_b265 C σ15 r8 (5 : Int32) _ _ _ (lv_sub hl [1, 0] rfl) hP hS hf
          · rw [if_pos c19] at hf
            refine lv_iconst (v := 4) hx hb dX7_readsOn_250 (by decide) ?_
            refine lv_goto (tgt := 265) hx hb dX7_readsOn_251 (by decide) ?_
            exact kX7_readsOn_b265 C σ15 r8 (4 : Int32) _ _ _ (lv_sub hl [1, 0] rfl) hP hS hf
        · rw [if_neg c18] at hf
          exact kX7_readsOn_b140_L C s_fu σ15 _ _ _ (lv_sub hl [1] rfl) hP hS hf
      · rw [if_neg c14] at hf
        exact kX7_readsOn_b84_L C s_fu σ11 _ _ _ (lv_sub hl [1] rfl) hP hS hf
    · rw [if_pos c10] at hf
      refine lv_aload_n hx hb dX7_readsOn_62 rfl (lv_at hl 1 rfl) ?_
      refine lv_iconst (v := 0) hx hb dX7_readsOn_63 (by decide) ?_
      refine va_put (D := G) (ci := 7) (v := .int (0 : Int32)) (ty := .int) (C := RX7) (T := TX7) (N := 28) hx hb hts inkX7 tyX7 tyX7_ok nmX7 hown hK hP (hD _) hS 0 rfl rfl 9 (by decide) (hts _ kw_791) (fun _ h9 => h9) rfl (by decide +kernel) rfl rfl (Nat.le_of_ble_eq_true rfl) dX7_readsOn_64 (fun H locs hP _ hS => ?_)
      obtain ⟨σ21, eσ21⟩ : ∃ z : Sg, z = (s_up σ9 0 9 (0 : Int32)) := ⟨_, rfl⟩
      replace hf := s_lt_at eσ21 hf
      replace hP : va_P G vwCl ((s_WM cy ad) σ21) H := by rw [eσ21]; exact hP
      refine lv_goto (tgt := 301) hx hb dX7_readsOn_67 (by decide) ?_
      have he2 := Option.some.inj hf
      exact W.vret hx hb hr (fun t ht hW => ⟨⟨(), rfl, trivial, s_fin (Wd := (s_WM cy ad)) ht he2 hP⟩, hS.F ht⟩) hS.2.2 dX7_readsOn_301 hlk
  · rw [if_pos c4] at hf
    refine lv_aload_n hx hb dX7_readsOn_21 rfl (lv_at hl 0 rfl) ?_
    refine lv_dup hx hb dX7_readsOn_22 rfl ?_
    refine va_get (D := G) (ci := 7) (v := .int (σ1 0 7)) (C := RX7) (T := TX7) (N := 28) hx hb hts inkX7 hown hK hP 0 rfl rfl 7 (by decide) (hts _ kw_789) (fun _ h9 => h9) rfl dX7_readsOn_23 ?_
    refine lv_iconst (v := 1) hx hb dX7_readsOn_26 (by decide) ?_
    refine lv_iadd hx hb dX7_readsOn_27 ?_
    refine va_put (D := G) (ci := 7) (v := .int ((σ1 0 7) + (1 : Int32))) (ty := .int) (C := RX7) (T := TX7) (N := 28) hx hb hts inkX7 tyX7 tyX7_ok nmX7 hown hK hP (hD _) hS 0 rfl rfl 7 (by decide) (hts _ kw_789) (fun _ h9 => h9) rfl (by decide +kernel) rfl rfl (Nat.le_of_ble_eq_true rfl) dX7_readsOn_28 (fun H locs hP _ hS => ?_)
    obtain ⟨σ22, eσ22⟩ : ∃ z : Sg, z = (s_up σ1 0 7 ((σ1 0 7) + (1 : Int32))) := ⟨_, rfl⟩
    replace hf := s_lt_at eσ22 hf
    replace hP : va_P G vwCl ((s_WM cy ad) σ22) H := by rw [eσ22]; exact hP
    refine lv_goto (tgt := 8) hx hb dX7_readsOn_31 (by decide) ?_
    exact hk8 σ22 _ _ _ (lv_sub hl [0] rfl) hP hS hf
set_option maxRecDepth 100000 in
set_option maxHeartbeats 4000000 in
theorem kX7_readsOn_b8_L (C : s_X p s m meth c args cX7_readsOn none 2 RX7 G cy sa ad 12) : ∀ (n : Nat), ∀ (σ : Sg) (ls : Array Slot) (H : Heap) (locs : List Loc), lv_has ls 2 [(0, .ref (ad 0))] → va_P G vwCl ((s_WM cy ad) σ) H → va_S (s_A ad 12 s.heap.size) s.heap H locs → fX7_readsOn_b8_L n σ = some σe → W p l e ({ frames := 1, cells := 0, slots := 0, locals := 25 } : Room) s m args below meth c H locs 0 0 (MQ below (s_Qv (s_WM cy ad) G (s_A ad 12 s.heap.size) σe) args s 0 0 (s_A ad 12 s.heap.size)) (F0 m 8 ls []) := by
  intro n
  induction n with
  | zero => intro σ  ls H locs hl hP hS hf; exact absurd (show (none : Option Sg) = some σe from hf) (by intro h; cases h)
  | succ n ih => intro σ  ls H locs hl hP hS hf; exact kX7_readsOn_b8 C (fX7_readsOn_b8_L n) ih σ  ls H locs hl hP hS hf
set_option maxRecDepth 100000 in
set_option maxHeartbeats 4000000 in
theorem kX7_readsOn (C : s_X p s m meth c args cX7_readsOn none 2 RX7 G cy sa ad 12) (σ : Sg) (ls : Array Slot) (H : Heap) (locs : List Loc) (hl : lv_has ls 2 [(0, .ref (ad 0))]) (hP : va_P G vwCl ((s_WM cy ad) σ) H) (hS : va_S (s_A ad 12 s.heap.size) s.heap H locs) (hf : fX7_readsOn σ = some σe) : W p l e ({ frames := 1, cells := 0, slots := 0, locals := 25 } : Room) s m args below meth c H locs 0 0 (MQ below (s_Qv (s_WM cy ad) G (s_A ad 12 s.heap.size) σe) args s 0 0 (s_A ad 12 s.heap.size)) (F0 m 0 ls []) := by
  obtain ⟨hx, hb, hr, hml, hown, hts, hlk, hK, hE, hI⟩ := id C
  have hD : ∀ σ : Sg, va_D (s_A ad 12 s.heap.size) ((s_WM cy ad) σ) := fun σ => s_D (s_WM_ad cy ad σ) hI (fun k hk => Or.inl ⟨k, hk, rfl⟩)
  unfold fX7_readsOn at hf
  refine lv_aload_n hx hb dX7_readsOn_0 rfl (lv_at hl 0 rfl) ?_
  refine va_get (D := G) (ci := 7) (v := .int (σ 0 5)) (C := RX7) (T := TX7) (N := 28) hx hb hts inkX7 hown hK hP 0 rfl rfl 5 (by decide) (hts _ kw_787) (fun _ h9 => h9) rfl dX7_readsOn_1 ?_
  refine lv_if_le (tgt := 8) hx hb dX7_readsOn_4 (by decide) (fun c1 => ?_) (fun c1 => ?_)
  · rw [if_pos c1] at hf
    exact kX7_readsOn_b8_L C s_fu σ _ _ _ (lv_sub hl [0] rfl) hP hS hf
  · rw [if_neg c1] at hf
    have he2 := Option.some.inj hf
    exact W.vret hx hb hr (fun t ht hW => ⟨⟨(), rfl, trivial, s_fin (Wd := (s_WM cy ad)) ht he2 hP⟩, hS.F ht⟩) hS.2.2 dX7_readsOn_7 hlk
theorem kcX7_readsOn {l : Launch} {G : va_G} {cy : Nat → ClassId} {sa : Nat × Nat} {ad : Nat → Nat}  {sz : Nat} (hI : s_inj ad 12) (σ : Sg) {σe : Sg} (hf : fX7_readsOn σ = some σe) : Met l yX7_readsOn (kW yX7_readsOn cX7_readsOn 2 none) ({ frames := 1, cells := 0, slots := 0, locals := 25 } : Room) (s_P (s_WM cy ad) G cy sa ad 12 [.ref (ad 0)] sz σ) (s_Qv (s_WM cy ad) G (s_A ad 12 sz) σe) 0 0 (s_A ad 12 sz) := by
  refine s_met (own := RX7) (by decide) rfl hI (Nat.le_of_ble_eq_true rfl) (fun p e s m below meth c ls hsz C hP hl => ?_)
  subst hsz
  exact kX7_readsOn C σ ls _ _ hl hP va_S.rf hf
set_option maxRecDepth 100000 in
set_option maxHeartbeats 4000000 in
theorem kX7_numberRead_b62 (C : s_X p s m meth c args cX7_numberRead (some .int) 4 RX7 G cy sa ad 12) (σ : Sg) (y0 : Int32) (ls : Array Slot) (H : Heap) (locs : List Loc) (hl : lv_has ls 4 [(0, .ref (ad 0))]) (hP : va_P G vwCl ((s_WM cy ad) σ) H) (hS : va_S (s_A ad 12 s.heap.size) s.heap H locs) (hf : fX7_numberRead_b62 σ y0 = some (re, σe)) : W p l e ({ frames := 2, cells := 0, slots := 0, locals := 46 } : Room) s m args below meth c H locs 0 0 (MQ below (s_Qi (s_WM cy ad) G (s_A ad 12 s.heap.size) re σe) args s 0 0 (s_A ad 12 s.heap.size)) (F0 m 62 ls [.int y0]) := by
  obtain ⟨hx, hb, hr, hml, hown, hts, hlk, hK, hE, hI⟩ := id C
  have hD : ∀ σ : Sg, va_D (s_A ad 12 s.heap.size) ((s_WM cy ad) σ) := fun σ => s_D (s_WM_ad cy ad σ) hI (fun k hk => Or.inl ⟨k, hk, rfl⟩)
  unfold fX7_numberRead_b62 at hf
  refine lv_istore_n (lv' := [(3, .int y0), (0, .ref (ad 0))]) hx hb dX7_numberRead_62 rfl hl (by decide) rfl (fun ls hl => ?_)
  refine lv_aload_n hx hb dX7_numberRead_63 rfl (lv_at hl 1 rfl) ?_
  replace hf := s_bv_some hf
  obtain ⟨σ1, hz2, hf⟩ := hf
  refine s_callv (nn := 0) C (kcX7_readsOn (l := l) (G := G) (cy := cy) (sa := sa) hI (sz := H.size) σ hz2) gk_X7_95 rfl rfl (by decide +kernel) ⟨Nat.le_of_ble_eq_true rfl, Nat.le_of_ble_eq_true rfl⟩ hP hS (q0 := 0) (ci := 7) rfl rfl rfl (As := []) (rest := []) rfl rfl hl.1 (Nat.le_of_ble_eq_true rfl) dX7_numberRead_64 (fun H locs hP hS => ?_)
  refine lv_iload_n hx hb dX7_numberRead_67 rfl (lv_at hl 0 rfl) ?_
  obtain ⟨he1, he2⟩ := s_ret hf
  exact W.iret hx hb hr (fun t ht hW => ⟨⟨_, (), rfl, he1, s_fin (Wd := (s_WM cy ad)) ht he2 hP⟩, hS.F ht⟩) hS.2.2 dX7_numberRead_68 hlk
set_option maxRecDepth 100000 in
set_option maxHeartbeats 4000000 in
theorem kX7_numberRead_b47 (C : s_X p s m meth c args cX7_numberRead (some .int) 4 RX7 G cy sa ad 12) (σ : Sg) (x1 : Int32) (ls : Array Slot) (H : Heap) (locs : List Loc) (hl : lv_has ls 4 [(0, .ref (ad 0)), (1, .int x1)]) (hP : va_P G vwCl ((s_WM cy ad) σ) H) (hS : va_S (s_A ad 12 s.heap.size) s.heap H locs) (hf : fX7_numberRead_b47 σ x1 = some (re, σe)) : W p l e ({ frames := 2, cells := 0, slots := 0, locals := 46 } : Room) s m args below meth c H locs 0 0 (MQ below (s_Qi (s_WM cy ad) G (s_A ad 12 s.heap.size) re σe) args s 0 0 (s_A ad 12 s.heap.size)) (F0 m 47 ls []) := by
  obtain ⟨hx, hb, hr, hml, hown, hts, hlk, hK, hE, hI⟩ := id C
  have hD : ∀ σ : Sg, va_D (s_A ad 12 s.heap.size) ((s_WM cy ad) σ) := fun σ => s_D (s_WM_ad cy ad σ) hI (fun k hk => Or.inl ⟨k, hk, rfl⟩)
  unfold fX7_numberRead_b47 at hf
  refine lv_aload_n hx hb dX7_numberRead_47 rfl (lv_at hl 0 rfl) ?_
  refine va_get (D := G) (ci := 7) (v := .int (σ 0 5)) (C := RX7) (T := TX7) (N := 28) hx hb hts inkX7 hown hK hP 0 rfl rfl 5 (by decide) (hts _ kw_787) (fun _ h9 => h9) rfl dX7_numberRead_48 ?_
  refine lv_if_ne (tgt := 61) hx hb dX7_numberRead_51 (by decide) (fun c1 => ?_) (fun c1 => ?_)
  · rw [if_neg c1] at hf
    refine lv_iload_n hx hb dX7_numberRead_61 rfl (lv_at hl 1 rfl) ?_
    exact kX7_numberRead_b62 C σ x1 _ _ _ (lv_sub hl [0] rfl) hP hS hf
  · rw [if_pos c1] at hf
    refine lv_aload_n hx hb dX7_numberRead_54 rfl (lv_at hl 0 rfl) ?_
    refine va_get (D := G) (ci := 7) (v := .int (σ 0 10)) (C := RX7) (T := TX7) (N := 28) hx hb hts inkX7 hown hK hP 0 rfl rfl 10 (by decide) (hts _ kw_792) (fun _ h9 => h9) rfl dX7_numberRead_55 ?_
    refine lv_goto (tgt := 62) hx hb dX7_numberRead_58 (by decide) ?_
    exact kX7_numberRead_b62 C σ (σ 0 10) _ _ _ (lv_sub hl [0] rfl) hP hS hf
set_option maxRecDepth 100000 in
set_option maxHeartbeats 4000000 in
theorem kX7_numberRead_b20 (C : s_X p s m meth c args cX7_numberRead (some .int) 4 RX7 G cy sa ad 12) (σ : Sg) (x1 : Int32) (x2 : Int32) (ls : Array Slot) (H : Heap) (locs : List Loc) (hl : lv_has ls 4 [(0, .ref (ad 0)), (1, .int x1), (2, .int x2)]) (hP : va_P G vwCl ((s_WM cy ad) σ) H) (hS : va_S (s_A ad 12 s.heap.size) s.heap H locs) (hf : fX7_numberRead_b20 σ x1 x2 = some (re, σe)) : W p l e ({ frames := 2, cells := 0, slots := 0, locals := 46 } : Room) s m args below meth c H locs 0 0 (MQ below (s_Qi (s_WM cy ad) G (s_A ad 12 s.heap.size) re σe) args s 0 0 (s_A ad 12 s.heap.size)) (F0 m 20 ls []) := by
  obtain ⟨hx, hb, hr, hml, hown, hts, hlk, hK, hE, hI⟩ := id C
  have hD : ∀ σ : Sg, va_D (s_A ad 12 s.heap.size) ((s_WM cy ad) σ) := fun σ => s_D (s_WM_ad cy ad σ) hI (fun k hk => Or.inl ⟨k, hk, rfl⟩)
  unfold fX7_numberRead_b20 at hf
  refine lv_aload_n hx hb dX7_numberRead_20 rfl (lv_at hl 0 rfl) ?_
  refine va_get (D := G) (ci := 7) (v := .int (σ 0 5)) (C := RX7) (T := TX7) (N := 28) hx hb hts inkX7 hown hK hP 0 rfl rfl 5 (by decide) (hts _ kw_787) (fun _ h9 => h9) rfl dX7_numberRead_21 ?_
  refine lv_if_ne (tgt := 47) hx hb dX7_numberRead_24 (by decide) (fun c1 => ?_) (fun c1 => ?_)
  · rw [if_neg c1] at hf
    exact kX7_numberRead_b47 C σ x1 _ _ _ (lv_sub hl [0, 1] rfl) hP hS hf
  · rw [if_pos c1] at hf
    refine lv_aload_n hx hb dX7_numberRead_27 rfl (lv_at hl 0 rfl) ?_
    refine va_get (D := G) (ci := 7) (v := .int (σ 0 10)) (C := RX7) (T := TX7) (N := 28) hx hb hts inkX7 hown hK hP 0 rfl rfl 10 (by decide) (hts _ kw_792) (fun _ h9 => h9) rfl dX7_numberRead_28 ?_
    refine lv_i2l (v := (Int32.toInt64 (σ 0 10))) hx hb dX7_numberRead_31 rfl ?_
    refine lv_iload_n hx hb dX7_numberRead_32 rfl (lv_at hl 1 rfl) ?_
    refine lv_i2l (v := (Int32.toInt64 x1)) hx hb dX7_numberRead_33 rfl ?_
    refine lv_iload_n hx hb dX7_numberRead_34 rfl (lv_at hl 2 rfl) ?_
    refine lv_i2l (v := (Int32.toInt64 x2)) hx hb dX7_numberRead_35 rfl ?_
    replace hf := s_bi_some hf
    obtain ⟨r4, σ2, hz3, hf⟩ := hf
    refine s_calliS (nn := 3) C (kcX7_in (l := l) (G := G) (cy := cy) (sa := sa) hI (sz := H.size) σ (Int32.toInt64 (σ 0 10)) (Int32.toInt64 x1) (Int32.toInt64 x2) hz3) gk_X7_54 rfl rfl (by decide +kernel) ⟨Nat.le_of_ble_eq_true rfl, Nat.le_of_ble_eq_true rfl⟩ hP hS (As := [.long (Int32.toInt64 (σ 0 10)), .long (Int32.toInt64 x1), .long (Int32.toInt64 x2)]) (rest := []) rfl rfl hl.1 (Nat.le_of_ble_eq_true rfl) dX7_numberRead_36 (fun H locs hP hS => ?_)
    refine lv_if_ne (tgt := 47) hx hb dX7_numberRead_39 (by decide) (fun c5 => ?_) (fun c5 => ?_)
    · rw [if_neg c5] at hf
      exact kX7_numberRead_b47 C σ2 x1 _ _ _ (lv_sub hl [0, 1] rfl) hP hS hf
    · rw [if_pos c5] at hf
      refine lv_aload_n hx hb dX7_numberRead_42 rfl (lv_at hl 0 rfl) ?_
      refine lv_iconst (v := 3) hx hb dX7_numberRead_43 (by decide) ?_
      replace hf := s_bv_some hf
      obtain ⟨σ6, hz7, hf⟩ := hf
      refine s_callv (nn := 1) C (kcX7_fails (l := l) (G := G) (cy := cy) (sa := sa) hI (sz := H.size) σ2 (3 : Int32) hz7) gk_X7_92 rfl rfl (by decide +kernel) ⟨Nat.le_of_ble_eq_true rfl, Nat.le_of_ble_eq_true rfl⟩ hP hS (q0 := 0) (ci := 7) rfl rfl rfl (As := [.int (3 : Int32)]) (rest := []) rfl rfl hl.1 (Nat.le_of_ble_eq_true rfl) dX7_numberRead_44 (fun H locs hP hS => ?_)
      exact kX7_numberRead_b47 C σ6 x1 _ _ _ (lv_sub hl [0, 1] rfl) hP hS hf
set_option maxRecDepth 100000 in
set_option maxHeartbeats 4000000 in
theorem kX7_numberRead (C : s_X p s m meth c args cX7_numberRead (some .int) 4 RX7 G cy sa ad 12) (σ : Sg) (x1 : Int32) (x2 : Int32) (ls : Array Slot) (H : Heap) (locs : List Loc) (hl : lv_has ls 4 [(0, .ref (ad 0)), (1, .int x1), (2, .int x2)]) (hP : va_P G vwCl ((s_WM cy ad) σ) H) (hS : va_S (s_A ad 12 s.heap.size) s.heap H locs) (hf : fX7_numberRead σ x1 x2 = some (re, σe)) : W p l e ({ frames := 2, cells := 0, slots := 0, locals := 46 } : Room) s m args below meth c H locs 0 0 (MQ below (s_Qi (s_WM cy ad) G (s_A ad 12 s.heap.size) re σe) args s 0 0 (s_A ad 12 s.heap.size)) (F0 m 0 ls []) := by
  obtain ⟨hx, hb, hr, hml, hown, hts, hlk, hK, hE, hI⟩ := id C
  have hD : ∀ σ : Sg, va_D (s_A ad 12 s.heap.size) ((s_WM cy ad) σ) := fun σ => s_D (s_WM_ad cy ad σ) hI (fun k hk => Or.inl ⟨k, hk, rfl⟩)
  unfold fX7_numberRead at hf
  refine lv_aload_n hx hb dX7_numberRead_0 rfl (lv_at hl 0 rfl) ?_
  refine va_get (D := G) (ci := 7) (v := .int (σ 0 5)) (C := RX7) (T := TX7) (N := 28) hx hb hts inkX7 hown hK hP 0 rfl rfl 5 (by decide) (hts _ kw_787) (fun _ h9 => h9) rfl dX7_numberRead_1 ?_
  refine lv_if_ne (tgt := 20) hx hb dX7_numberRead_4 (by decide) (fun c1 => ?_) (fun c1 => ?_)
  · rw [if_neg c1] at hf
    exact kX7_numberRead_b20 C σ x1 x2 _ _ _ (lv_sub hl [0, 1, 2] rfl) hP hS hf
  · rw [if_pos c1] at hf
    refine lv_aload_n hx hb dX7_numberRead_7 rfl (lv_at hl 0 rfl) ?_
    refine va_get (D := G) (ci := 7) (v := .int (σ 0 9)) (C := RX7) (T := TX7) (N := 28) hx hb hts inkX7 hown hK hP 0 rfl rfl 9 (by decide) (hts _ kw_791) (fun _ h9 => h9) rfl dX7_numberRead_8 ?_
    refine lv_iconst (v := 2) hx hb dX7_numberRead_11 (by decide) ?_
    refine lv_icmp_eq (tgt := 20) hx hb dX7_numberRead_12 (by decide) (fun c2 => ?_) (fun c2 => ?_)
    · rw [if_pos c2] at hf
      exact kX7_numberRead_b20 C σ x1 x2 _ _ _ (lv_sub hl [0, 1, 2] rfl) hP hS hf
    · rw [if_neg c2] at hf
      refine lv_aload_n hx hb dX7_numberRead_15 rfl (lv_at hl 0 rfl) ?_
      refine lv_iconst (v := 2) hx hb dX7_numberRead_16 (by decide) ?_
      replace hf := s_bv_some hf
      obtain ⟨σ3, hz4, hf⟩ := hf
      refine s_callv (nn := 1) C (kcX7_fails (l := l) (G := G) (cy := cy) (sa := sa) hI (sz := H.size) σ (2 : Int32) hz4) gk_X7_92 rfl rfl (by decide +kernel) ⟨Nat.le_of_ble_eq_true rfl, Nat.le_of_ble_eq_true rfl⟩ hP hS (q0 := 0) (ci := 7) rfl rfl rfl (As := [.int (2 : Int32)]) (rest := []) rfl rfl hl.1 (Nat.le_of_ble_eq_true rfl) dX7_numberRead_17 (fun H locs hP hS => ?_)
      exact kX7_numberRead_b20 C σ3 x1 x2 _ _ _ (lv_sub hl [0, 1, 2] rfl) hP hS hf
theorem kcX7_numberRead {l : Launch} {G : va_G} {cy : Nat → ClassId} {sa : Nat × Nat} {ad : Nat → Nat}  {sz : Nat} (hI : s_inj ad 12) (σ : Sg) (x1 : Int32) (x2 : Int32) {re : Int32} {σe : Sg} (hf : fX7_numberRead σ x1 x2 = some (re, σe)) : Met l yX7_numberRead (kW yX7_numberRead cX7_numberRead 4 (some .int)) ({ frames := 2, cells := 0, slots := 0, locals := 46 } : Room) (s_P (s_WM cy ad) G cy sa ad 12 [.ref (ad 0), .int x1, .int x2] sz σ) (s_Qi (s_WM cy ad) G (s_A ad 12 sz) re σe) 0 0 (s_A ad 12 sz) := by
  refine s_met (own := RX7) (by decide) rfl hI (Nat.le_of_ble_eq_true rfl) (fun p e s m below meth c ls hsz C hP hl => ?_)
  subst hsz
  exact kX7_numberRead C σ x1 x2 ls _ _ hl hP va_S.rf hf
set_option maxRecDepth 100000 in
set_option maxHeartbeats 4000000 in
theorem kX7_wordRead_b33 (C : s_X p s m meth c args cX7_wordRead (some .int) 4 RX7 G cy sa ad 12) (σ : Sg) (x1 : Int32) (x3 : Int32) (ls : Array Slot) (H : Heap) (locs : List Loc) (hl : lv_has ls 4 [(0, .ref (ad 0)), (1, .int x1), (3, .int x3)]) (hP : va_P G vwCl ((s_WM cy ad) σ) H) (hS : va_S (s_A ad 12 s.heap.size) s.heap H locs) (hf : fX7_wordRead_b33 σ x1 x3 = some (re, σe)) : W p l e ({ frames := 2, cells := 0, slots := 0, locals := 46 } : Room) s m args below meth c H locs 0 0 (MQ below (s_Qi (s_WM cy ad) G (s_A ad 12 s.heap.size) re σe) args s 0 0 (s_A ad 12 s.heap.size)) (F0 m 33 ls []) := by
  obtain ⟨hx, hb, hr, hml, hown, hts, hlk, hK, hE, hI⟩ := id C
  have hD : ∀ σ : Sg, va_D (s_A ad 12 s.heap.size) ((s_WM cy ad) σ) := fun σ => s_D (s_WM_ad cy ad σ) hI (fun k hk => Or.inl ⟨k, hk, rfl⟩)
  unfold fX7_wordRead_b33 at hf
  refine lv_aload_n hx hb dX7_wordRead_33 rfl (lv_at hl 0 rfl) ?_
  replace hf := s_bv_some hf
  obtain ⟨σ1, hz2, hf⟩ := hf
  refine s_callv (nn := 0) C (kcX7_readsOn (l := l) (G := G) (cy := cy) (sa := sa) hI (sz := H.size) σ hz2) gk_X7_95 rfl rfl (by decide +kernel) ⟨Nat.le_of_ble_eq_true rfl, Nat.le_of_ble_eq_true rfl⟩ hP hS (q0 := 0) (ci := 7) rfl rfl rfl (As := []) (rest := []) rfl rfl hl.1 (Nat.le_of_ble_eq_true rfl) dX7_wordRead_34 (fun H locs hP hS => ?_)
  refine lv_aload_n hx hb dX7_wordRead_37 rfl (lv_at hl 0 rfl) ?_
  refine va_get (D := G) (ci := 7) (v := .int (σ1 0 5)) (C := RX7) (T := TX7) (N := 28) hx hb hts inkX7 hown hK hP 0 rfl rfl 5 (by decide) (hts _ kw_787) (fun _ h9 => h9) rfl dX7_wordRead_38 ?_
  refine lv_if_ne (tgt := 50) hx hb dX7_wordRead_41 (by decide) (fun c3 => ?_) (fun c3 => ?_)
  · rw [if_neg c3] at hf
    refine lv_iconst (v := 0) hx hb dX7_wordRead_50 (by decide) ?_
    obtain ⟨he1, he2⟩ := s_ret hf
    exact W.iret hx hb hr (fun t ht hW => ⟨⟨_, (), rfl, he1, s_fin (Wd := (s_WM cy ad)) ht he2 hP⟩, hS.F ht⟩) hS.2.2 dX7_wordRead_51 hlk
  · rw [if_pos c3] at hf
    refine lv_iload_n hx hb dX7_wordRead_44 rfl (lv_at hl 2 rfl) ?_
    refine lv_iload_n hx hb dX7_wordRead_45 rfl (lv_at hl 1 rfl) ?_
    refine lv_isub hx hb dX7_wordRead_46 ?_
    refine lv_goto (tgt := 51) hx hb dX7_wordRead_47 (by decide) ?_
    obtain ⟨he1, he2⟩ := s_ret hf
    exact W.iret hx hb hr (fun t ht hW => ⟨⟨_, (), rfl, he1, s_fin (Wd := (s_WM cy ad)) ht he2 hP⟩, hS.F ht⟩) hS.2.2 dX7_wordRead_51 hlk
set_option maxRecDepth 100000 in
set_option maxHeartbeats 4000000 in
theorem kX7_wordRead (C : s_X p s m meth c args cX7_wordRead (some .int) 4 RX7 G cy sa ad 12) (σ : Sg) (x1 : Int32) (x2 : Int32) (ls : Array Slot) (H : Heap) (locs : List Loc) (hl : lv_has ls 4 [(0, .ref (ad 0)), (1, .int x1), (2, .int x2)]) (hP : va_P G vwCl ((s_WM cy ad) σ) H) (hS : va_S (s_A ad 12 s.heap.size) s.heap H locs) (hf : fX7_wordRead σ x1 x2 = some (re, σe)) : W p l e ({ frames := 2, cells := 0, slots := 0, locals := 46 } : Room) s m args below meth c H locs 0 0 (MQ below (s_Qi (s_WM cy ad) G (s_A ad 12 s.heap.size) re σe) args s 0 0 (s_A ad 12 s.heap.size)) (F0 m 0 ls []) := by
  obtain ⟨hx, hb, hr, hml, hown, hts, hlk, hK, hE, hI⟩ := id C
  have hD : ∀ σ : Sg, va_D (s_A ad 12 s.heap.size) ((s_WM cy ad) σ) := fun σ => s_D (s_WM_ad cy ad σ) hI (fun k hk => Or.inl ⟨k, hk, rfl⟩)
  unfold fX7_wordRead at hf
  refine lv_aload_n hx hb dX7_wordRead_0 rfl (lv_at hl 0 rfl) ?_
  replace hf := s_bi_some hf
  obtain ⟨r3, σ1, hz2, hf⟩ := hf
  refine s_calli (nn := 0) C (kcX7_nameHere (l := l) (G := G) (cy := cy) (sa := sa) hI (sz := H.size) σ hz2) gk_X7_98 rfl rfl (by decide +kernel) ⟨Nat.le_of_ble_eq_true rfl, Nat.le_of_ble_eq_true rfl⟩ hP hS (q0 := 0) (ci := 7) rfl rfl rfl (As := []) (rest := []) rfl rfl hl.1 (Nat.le_of_ble_eq_true rfl) dX7_wordRead_1 (fun H locs hP hS => ?_)
  refine lv_istore_n (lv' := [(3, .int r3), (0, .ref (ad 0)), (1, .int x1), (2, .int x2)]) hx hb dX7_wordRead_4 rfl hl (by decide) rfl (fun ls hl => ?_)
  refine lv_aload_n hx hb dX7_wordRead_5 rfl (lv_at hl 1 rfl) ?_
  refine va_get (D := G) (ci := 7) (v := .int (σ1 0 5)) (C := RX7) (T := TX7) (N := 28) hx hb hts inkX7 hown hK hP 0 rfl rfl 5 (by decide) (hts _ kw_787) (fun _ h9 => h9) rfl dX7_wordRead_6 ?_
  refine lv_if_ne (tgt := 33) hx hb dX7_wordRead_9 (by decide) (fun c4 => ?_) (fun c4 => ?_)
  · rw [if_neg c4] at hf
    exact kX7_wordRead_b33 C σ1 x1 r3 _ _ _ (lv_sub hl [1, 2, 0] rfl) hP hS hf
  · rw [if_pos c4] at hf
    refine lv_iload_n hx hb dX7_wordRead_12 rfl (lv_at hl 0 rfl) ?_
    refine lv_i2l (v := (Int32.toInt64 r3)) hx hb dX7_wordRead_13 rfl ?_
    refine lv_iload_n hx hb dX7_wordRead_14 rfl (lv_at hl 2 rfl) ?_
    refine lv_i2l (v := (Int32.toInt64 x1)) hx hb dX7_wordRead_15 rfl ?_
    refine lv_iload_n hx hb dX7_wordRead_16 rfl (lv_at hl 2 rfl) ?_
    refine lv_iload_n hx hb dX7_wordRead_17 rfl (lv_at hl 3 rfl) ?_
    refine lv_iadd hx hb dX7_wordRead_18 ?_
    refine lv_iconst (v := 1) hx hb dX7_wordRead_19 (by decide) ?_
    refine lv_isub hx hb dX7_wordRead_20 ?_
    refine lv_i2l (v := (Int32.toInt64 ((x1 + x2) - (1 : Int32)))) hx hb dX7_wordRead_21 rfl ?_
    replace hf := s_bi_some hf
    obtain ⟨r7, σ5, hz6, hf⟩ := hf
    refine s_calliS (nn := 3) C (kcX7_in (l := l) (G := G) (cy := cy) (sa := sa) hI (sz := H.size) σ1 (Int32.toInt64 r3) (Int32.toInt64 x1) (Int32.toInt64 ((x1 + x2) - (1 : Int32))) hz6) gk_X7_54 rfl rfl (by decide +kernel) ⟨Nat.le_of_ble_eq_true rfl, Nat.le_of_ble_eq_true rfl⟩ hP hS (As := [.long (Int32.toInt64 r3), .long (Int32.toInt64 x1), .long (Int32.toInt64 ((x1 + x2) - (1 : Int32)))]) (rest := []) rfl rfl hl.1 (Nat.le_of_ble_eq_true rfl) dX7_wordRead_22 (fun H locs hP hS => ?_)
    refine lv_if_ne (tgt := 33) hx hb dX7_wordRead_25 (by decide) (fun c8 => ?_) (fun c8 => ?_)
    · rw [if_neg c8] at hf
      exact kX7_wordRead_b33 C σ5 x1 r3 _ _ _ (lv_sub hl [1, 2, 0] rfl) hP hS hf
    · rw [if_pos c8] at hf
      refine lv_aload_n hx hb dX7_wordRead_28 rfl (lv_at hl 1 rfl) ?_
      refine lv_iconst (v := 2) hx hb dX7_wordRead_29 (by decide) ?_
      replace hf := s_bv_some hf
      obtain ⟨σ9, hz10, hf⟩ := hf
      refine s_callv (nn := 1) C (kcX7_fails (l := l) (G := G) (cy := cy) (sa := sa) hI (sz := H.size) σ5 (2 : Int32) hz10) gk_X7_92 rfl rfl (by decide +kernel) ⟨Nat.le_of_ble_eq_true rfl, Nat.le_of_ble_eq_true rfl⟩ hP hS (q0 := 0) (ci := 7) rfl rfl rfl (As := [.int (2 : Int32)]) (rest := []) rfl rfl hl.1 (Nat.le_of_ble_eq_true rfl) dX7_wordRead_30 (fun H locs hP hS => ?_)
      exact kX7_wordRead_b33 C σ9 x1 r3 _ _ _ (lv_sub hl [1, 2, 0] rfl) hP hS hf
theorem kcX7_wordRead {l : Launch} {G : va_G} {cy : Nat → ClassId} {sa : Nat × Nat} {ad : Nat → Nat}  {sz : Nat} (hI : s_inj ad 12) (σ : Sg) (x1 : Int32) (x2 : Int32) {re : Int32} {σe : Sg} (hf : fX7_wordRead σ x1 x2 = some (re, σe)) : Met l yX7_wordRead (kW yX7_wordRead cX7_wordRead 4 (some .int)) ({ frames := 2, cells := 0, slots := 0, locals := 46 } : Room) (s_P (s_WM cy ad) G cy sa ad 12 [.ref (ad 0), .int x1, .int x2] sz σ) (s_Qi (s_WM cy ad) G (s_A ad 12 sz) re σe) 0 0 (s_A ad 12 sz) := by
  refine s_met (own := RX7) (by decide) rfl hI (Nat.le_of_ble_eq_true rfl) (fun p e s m below meth c ls hsz C hP hl => ?_)
  subst hsz
  exact kX7_wordRead C σ x1 x2 ls _ _ hl hP va_S.rf hf
set_option maxRecDepth 100000 in
set_option maxHeartbeats 4000000 in
theorem kX7_hundredthsRead_b15 (C : s_X p s m meth c args cX7_hundredthsRead (some .int) 3 RX7 G cy sa ad 12) (σ : Sg) (ls : Array Slot) (H : Heap) (locs : List Loc) (hl : lv_has ls 3 []) (hP : va_P G vwCl ((s_WM cy ad) σ) H) (hS : va_S (s_A ad 12 s.heap.size) s.heap H locs) (hf : fX7_hundredthsRead_b15 σ = some (re, σe)) : W p l e ({ frames := 2, cells := 0, slots := 0, locals := 46 } : Room) s m args below meth c H locs 0 0 (MQ below (s_Qi (s_WM cy ad) G (s_A ad 12 s.heap.size) re σe) args s 0 0 (s_A ad 12 s.heap.size)) (F0 m 15 ls []) := by
  obtain ⟨hx, hb, hr, hml, hown, hts, hlk, hK, hE, hI⟩ := id C
  have hD : ∀ σ : Sg, va_D (s_A ad 12 s.heap.size) ((s_WM cy ad) σ) := fun σ => s_D (s_WM_ad cy ad σ) hI (fun k hk => Or.inl ⟨k, hk, rfl⟩)
  unfold fX7_hundredthsRead_b15 at hf
  refine lv_iconst (v := 0) hx hb dX7_hundredthsRead_15 (by decide) ?_
  obtain ⟨he1, he2⟩ := s_ret hf
  exact W.iret hx hb hr (fun t ht hW => ⟨⟨_, (), rfl, he1, s_fin (Wd := (s_WM cy ad)) ht he2 hP⟩, hS.F ht⟩) hS.2.2 dX7_hundredthsRead_16 hlk
set_option maxRecDepth 100000 in
set_option maxHeartbeats 4000000 in
theorem kX7_hundredthsRead_b87 (C : s_X p s m meth c args cX7_hundredthsRead (some .int) 3 RX7 G cy sa ad 12) (σ : Sg) (y0 : Int32) (ls : Array Slot) (H : Heap) (locs : List Loc) (hl : lv_has ls 3 [(0, .ref (ad 0))]) (hP : va_P G vwCl ((s_WM cy ad) σ) H) (hS : va_S (s_A ad 12 s.heap.size) s.heap H locs) (hf : fX7_hundredthsRead_b87 σ y0 = some (re, σe)) : W p l e ({ frames := 2, cells := 0, slots := 0, locals := 46 } : Room) s m args below meth c H locs 0 0 (MQ below (s_Qi (s_WM cy ad) G (s_A ad 12 s.heap.size) re σe) args s 0 0 (s_A ad 12 s.heap.size)) (F0 m 87 ls [.int y0]) := by
  obtain ⟨hx, hb, hr, hml, hown, hts, hlk, hK, hE, hI⟩ := id C
  have hD : ∀ σ : Sg, va_D (s_A ad 12 s.heap.size) ((s_WM cy ad) σ) := fun σ => s_D (s_WM_ad cy ad σ) hI (fun k hk => Or.inl ⟨k, hk, rfl⟩)
  unfold fX7_hundredthsRead_b87 at hf
  refine lv_istore_n (lv' := [(2, .int y0), (0, .ref (ad 0))]) hx hb dX7_hundredthsRead_87 rfl hl (by decide) rfl (fun ls hl => ?_)
  refine lv_aload_n hx hb dX7_hundredthsRead_88 rfl (lv_at hl 1 rfl) ?_
  replace hf := s_bv_some hf
  obtain ⟨σ1, hz2, hf⟩ := hf
  refine s_callv (nn := 0) C (kcX7_readsOn (l := l) (G := G) (cy := cy) (sa := sa) hI (sz := H.size) σ hz2) gk_X7_95 rfl rfl (by decide +kernel) ⟨Nat.le_of_ble_eq_true rfl, Nat.le_of_ble_eq_true rfl⟩ hP hS (q0 := 0) (ci := 7) rfl rfl rfl (As := []) (rest := []) rfl rfl hl.1 (Nat.le_of_ble_eq_true rfl) dX7_hundredthsRead_89 (fun H locs hP hS => ?_)
  refine lv_aload_n hx hb dX7_hundredthsRead_92 rfl (lv_at hl 1 rfl) ?_
  refine va_get (D := G) (ci := 7) (v := .int (σ1 0 5)) (C := RX7) (T := TX7) (N := 28) hx hb hts inkX7 hown hK hP 0 rfl rfl 5 (by decide) (hts _ kw_787) (fun _ h9 => h9) rfl dX7_hundredthsRead_93 ?_
  refine lv_if_ne (tgt := 103) hx hb dX7_hundredthsRead_96 (by decide) (fun c3 => ?_) (fun c3 => ?_)
  · rw [if_neg c3] at hf
    refine lv_iconst (v := 0) hx hb dX7_hundredthsRead_103 (by decide) ?_
    obtain ⟨he1, he2⟩ := s_ret hf
    exact W.iret hx hb hr (fun t ht hW => ⟨⟨_, (), rfl, he1, s_fin (Wd := (s_WM cy ad)) ht he2 hP⟩, hS.F ht⟩) hS.2.2 dX7_hundredthsRead_104 hlk
  · rw [if_pos c3] at hf
    refine lv_iload_n hx hb dX7_hundredthsRead_99 rfl (lv_at hl 0 rfl) ?_
    refine lv_goto (tgt := 104) hx hb dX7_hundredthsRead_100 (by decide) ?_
    obtain ⟨he1, he2⟩ := s_ret hf
    exact W.iret hx hb hr (fun t ht hW => ⟨⟨_, (), rfl, he1, s_fin (Wd := (s_WM cy ad)) ht he2 hP⟩, hS.F ht⟩) hS.2.2 dX7_hundredthsRead_104 hlk
set_option maxRecDepth 100000 in
set_option maxHeartbeats 4000000 in
theorem kX7_hundredthsRead_b68 (C : s_X p s m meth c args cX7_hundredthsRead (some .int) 3 RX7 G cy sa ad 12) (σ : Sg) (x1 : Int32) (ls : Array Slot) (H : Heap) (locs : List Loc) (hl : lv_has ls 3 [(0, .ref (ad 0)), (1, .int x1)]) (hP : va_P G vwCl ((s_WM cy ad) σ) H) (hS : va_S (s_A ad 12 s.heap.size) s.heap H locs) (hf : fX7_hundredthsRead_b68 σ x1 = some (re, σe)) : W p l e ({ frames := 2, cells := 0, slots := 0, locals := 46 } : Room) s m args below meth c H locs 0 0 (MQ below (s_Qi (s_WM cy ad) G (s_A ad 12 s.heap.size) re σe) args s 0 0 (s_A ad 12 s.heap.size)) (F0 m 68 ls []) := by
  obtain ⟨hx, hb, hr, hml, hown, hts, hlk, hK, hE, hI⟩ := id C
  have hD : ∀ σ : Sg, va_D (s_A ad 12 s.heap.size) ((s_WM cy ad) σ) := fun σ => s_D (s_WM_ad cy ad σ) hI (fun k hk => Or.inl ⟨k, hk, rfl⟩)
  unfold fX7_hundredthsRead_b68 at hf
  refine lv_iload_n hx hb dX7_hundredthsRead_68 rfl (lv_at hl 1 rfl) ?_
  refine lv_iconst (v := 1) hx hb dX7_hundredthsRead_69 (by decide) ?_
  refine lv_icmp_ne (tgt := 83) hx hb dX7_hundredthsRead_70 (by decide) (fun c1 => ?_) (fun c1 => ?_)
  · rw [if_neg c1] at hf
    refine lv_aload_n hx hb dX7_hundredthsRead_83 rfl (lv_at hl 0 rfl) ?_
    refine va_get (D := G) (ci := 7) (v := .int (σ 0 10)) (C := RX7) (T := TX7) (N := 28) hx hb hts inkX7 hown hK hP 0 rfl rfl 10 (by decide) (hts _ kw_792) (fun _ h9 => h9) rfl dX7_hundredthsRead_84 ?_
    exact kX7_hundredthsRead_b87 C σ (σ 0 10) _ _ _ (lv_sub hl [0] rfl) hP hS hf
  · rw [if_pos c1] at hf
    refine lv_bipush (v := 10) hx hb dX7_hundredthsRead_73 (by decide) ?_
    refine lv_aload_n hx hb dX7_hundredthsRead_75 rfl (lv_at hl 0 rfl) ?_
    refine va_get (D := G) (ci := 7) (v := .int (σ 0 10)) (C := RX7) (T := TX7) (N := 28) hx hb hts inkX7 hown hK hP 0 rfl rfl 10 (by decide) (hts _ kw_792) (fun _ h9 => h9) rfl dX7_hundredthsRead_76 ?_
    refine lv_imul hx hb dX7_hundredthsRead_79 ?_
    refine lv_goto (tgt := 87) hx hb dX7_hundredthsRead_80 (by decide) ?_
    exact kX7_hundredthsRead_b87 C σ ((10 : Int32) * (σ 0 10)) _ _ _ (lv_sub hl [0] rfl) hP hS hf
set_option maxRecDepth 100000 in
set_option maxHeartbeats 4000000 in
theorem kX7_hundredthsRead_b41 (C : s_X p s m meth c args cX7_hundredthsRead (some .int) 3 RX7 G cy sa ad 12) (σ : Sg) (ls : Array Slot) (H : Heap) (locs : List Loc) (hl : lv_has ls 3 [(0, .ref (ad 0))]) (hP : va_P G vwCl ((s_WM cy ad) σ) H) (hS : va_S (s_A ad 12 s.heap.size) s.heap H locs) (hf : fX7_hundredthsRead_b41 σ = some (re, σe)) : W p l e ({ frames := 2, cells := 0, slots := 0, locals := 46 } : Room) s m args below meth c H locs 0 0 (MQ below (s_Qi (s_WM cy ad) G (s_A ad 12 s.heap.size) re σe) args s 0 0 (s_A ad 12 s.heap.size)) (F0 m 41 ls []) := by
  obtain ⟨hx, hb, hr, hml, hown, hts, hlk, hK, hE, hI⟩ := id C
  have hD : ∀ σ : Sg, va_D (s_A ad 12 s.heap.size) ((s_WM cy ad) σ) := fun σ => s_D (s_WM_ad cy ad σ) hI (fun k hk => Or.inl ⟨k, hk, rfl⟩)
  unfold fX7_hundredthsRead_b41 at hf
  refine lv_aload_n hx hb dX7_hundredthsRead_41 rfl (lv_at hl 0 rfl) ?_
  refine va_get (D := G) (ci := 7) (v := .int (σ 0 7)) (C := RX7) (T := TX7) (N := 28) hx hb hts inkX7 hown hK hP 0 rfl rfl 7 (by decide) (hts _ kw_789) (fun _ h9 => h9) rfl dX7_hundredthsRead_42 ?_
  refine lv_aload_n hx hb dX7_hundredthsRead_45 rfl (lv_at hl 0 rfl) ?_
  refine va_get (D := G) (ci := 7) (v := .int (σ 0 8)) (C := RX7) (T := TX7) (N := 28) hx hb hts inkX7 hown hK hP 0 rfl rfl 8 (by decide) (hts _ kw_790) (fun _ h9 => h9) rfl dX7_hundredthsRead_46 ?_
  refine lv_isub hx hb dX7_hundredthsRead_49 ?_
  refine lv_topi (fun t1 et1 => ?_)
  replace hf := s_lt_at et1 hf
  refine lv_istore_n (lv' := [(1, .int t1), (0, .ref (ad 0))]) hx hb dX7_hundredthsRead_50 rfl hl (by decide) rfl (fun ls hl => ?_)
  refine lv_aload_n hx hb dX7_hundredthsRead_51 rfl (lv_at hl 1 rfl) ?_
  refine va_get (D := G) (ci := 7) (v := .int (σ 0 5)) (C := RX7) (T := TX7) (N := 28) hx hb hts inkX7 hown hK hP 0 rfl rfl 5 (by decide) (hts _ kw_787) (fun _ h9 => h9) rfl dX7_hundredthsRead_52 ?_
  refine lv_if_ne (tgt := 68) hx hb dX7_hundredthsRead_55 (by decide) (fun c2 => ?_) (fun c2 => ?_)
  · rw [if_neg c2] at hf
    exact kX7_hundredthsRead_b68 C σ t1 _ _ _ (lv_sub hl [1, 0] rfl) hP hS hf
  · rw [if_pos c2] at hf
    refine lv_iload_n hx hb dX7_hundredthsRead_58 rfl (lv_at hl 0 rfl) ?_
    refine lv_iconst (v := 2) hx hb dX7_hundredthsRead_59 (by decide) ?_
    refine lv_icmp_le (tgt := 68) hx hb dX7_hundredthsRead_60 (by decide) (fun c3 => ?_) (fun c3 => ?_)
    · rw [if_pos c3] at hf
      exact kX7_hundredthsRead_b68 C σ t1 _ _ _ (lv_sub hl [1, 0] rfl) hP hS hf
    · rw [if_neg c3] at hf
      refine lv_aload_n hx hb dX7_hundredthsRead_63 rfl (lv_at hl 1 rfl) ?_
      refine lv_iconst (v := 3) hx hb dX7_hundredthsRead_64 (by decide) ?_
      replace hf := s_bv_some hf
      obtain ⟨σ4, hz5, hf⟩ := hf
      refine s_callv (nn := 1) C (kcX7_fails (l := l) (G := G) (cy := cy) (sa := sa) hI (sz := H.size) σ (3 : Int32) hz5) gk_X7_92 rfl rfl (by decide +kernel) ⟨Nat.le_of_ble_eq_true rfl, Nat.le_of_ble_eq_true rfl⟩ hP hS (q0 := 0) (ci := 7) rfl rfl rfl (As := [.int (3 : Int32)]) (rest := []) rfl rfl hl.1 (Nat.le_of_ble_eq_true rfl) dX7_hundredthsRead_65 (fun H locs hP hS => ?_)
      exact kX7_hundredthsRead_b68 C σ4 t1 _ _ _ (lv_sub hl [1, 0] rfl) hP hS hf
set_option maxRecDepth 100000 in
set_option maxHeartbeats 4000000 in
theorem kX7_hundredthsRead (C : s_X p s m meth c args cX7_hundredthsRead (some .int) 3 RX7 G cy sa ad 12) (σ : Sg) (ls : Array Slot) (H : Heap) (locs : List Loc) (hl : lv_has ls 3 [(0, .ref (ad 0))]) (hP : va_P G vwCl ((s_WM cy ad) σ) H) (hS : va_S (s_A ad 12 s.heap.size) s.heap H locs) (hf : fX7_hundredthsRead σ = some (re, σe)) : W p l e ({ frames := 2, cells := 0, slots := 0, locals := 46 } : Room) s m args below meth c H locs 0 0 (MQ below (s_Qi (s_WM cy ad) G (s_A ad 12 s.heap.size) re σe) args s 0 0 (s_A ad 12 s.heap.size)) (F0 m 0 ls []) := by
  obtain ⟨hx, hb, hr, hml, hown, hts, hlk, hK, hE, hI⟩ := id C
  have hD : ∀ σ : Sg, va_D (s_A ad 12 s.heap.size) ((s_WM cy ad) σ) := fun σ => s_D (s_WM_ad cy ad σ) hI (fun k hk => Or.inl ⟨k, hk, rfl⟩)
  unfold fX7_hundredthsRead at hf
  refine lv_aload_n hx hb dX7_hundredthsRead_0 rfl (lv_at hl 0 rfl) ?_
  refine va_get (D := G) (ci := 7) (v := .int (σ 0 5)) (C := RX7) (T := TX7) (N := 28) hx hb hts inkX7 hown hK hP 0 rfl rfl 5 (by decide) (hts _ kw_787) (fun _ h9 => h9) rfl dX7_hundredthsRead_1 ?_
  refine lv_if_gt (tgt := 15) hx hb dX7_hundredthsRead_4 (by decide) (fun c1 => ?_) (fun c1 => ?_)
  · rw [if_pos c1] at hf
    exact kX7_hundredthsRead_b15 C σ _ _ _ (lv_sub hl [] rfl) hP hS hf
  · rw [if_neg c1] at hf
    refine lv_aload_n hx hb dX7_hundredthsRead_7 rfl (lv_at hl 0 rfl) ?_
    refine va_get (D := G) (ci := 7) (v := .int (σ 0 9)) (C := RX7) (T := TX7) (N := 28) hx hb hts inkX7 hown hK hP 0 rfl rfl 9 (by decide) (hts _ kw_791) (fun _ h9 => h9) rfl dX7_hundredthsRead_8 ?_
    refine lv_iconst (v := 5) hx hb dX7_hundredthsRead_11 (by decide) ?_
    refine lv_icmp_eq (tgt := 17) hx hb dX7_hundredthsRead_12 (by decide) (fun c2 => ?_) (fun c2 => ?_)
    · rw [if_pos c2] at hf
      refine lv_aload_n hx hb dX7_hundredthsRead_17 rfl (lv_at hl 0 rfl) ?_
      replace hf := s_bv_some hf
      obtain ⟨σ3, hz4, hf⟩ := hf
      refine s_callv (nn := 0) C (kcX7_readsOn (l := l) (G := G) (cy := cy) (sa := sa) hI (sz := H.size) σ hz4) gk_X7_95 rfl rfl (by decide +kernel) ⟨Nat.le_of_ble_eq_true rfl, Nat.le_of_ble_eq_true rfl⟩ hP hS (q0 := 0) (ci := 7) rfl rfl rfl (As := []) (rest := []) rfl rfl hl.1 (Nat.le_of_ble_eq_true rfl) dX7_hundredthsRead_18 (fun H locs hP hS => ?_)
      refine lv_aload_n hx hb dX7_hundredthsRead_21 rfl (lv_at hl 0 rfl) ?_
      refine va_get (D := G) (ci := 7) (v := .int (σ3 0 5)) (C := RX7) (T := TX7) (N := 28) hx hb hts inkX7 hown hK hP 0 rfl rfl 5 (by decide) (hts _ kw_787) (fun _ h9 => h9) rfl dX7_hundredthsRead_22 ?_
      refine lv_if_ne (tgt := 41) hx hb dX7_hundredthsRead_25 (by decide) (fun c5 => ?_) (fun c5 => ?_)
      · rw [if_neg c5] at hf
        exact kX7_hundredthsRead_b41 C σ3 _ _ _ (lv_sub hl [0] rfl) hP hS hf
      · rw [if_pos c5] at hf
        refine lv_aload_n hx hb dX7_hundredthsRead_28 rfl (lv_at hl 0 rfl) ?_
        refine va_get (D := G) (ci := 7) (v := .int (σ3 0 9)) (C := RX7) (T := TX7) (N := 28) hx hb hts inkX7 hown hK hP 0 rfl rfl 9 (by decide) (hts _ kw_791) (fun _ h9 => h9) rfl dX7_hundredthsRead_29 ?_
        refine lv_iconst (v := 2) hx hb dX7_hundredthsRead_32 (by decide) ?_
        refine lv_icmp_eq (tgt := 41) hx hb dX7_hundredthsRead_33 (by decide) (fun c6 => ?_) (fun c6 => ?_)
        · rw [if_pos c6] at hf
          exact kX7_hundredthsRead_b41 C σ3 _ _ _ (lv_sub hl [0] rfl) hP hS hf
        · rw [if_neg c6] at hf
          refine lv_aload_n hx hb dX7_hundredthsRead_36 rfl (lv_at hl 0 rfl) ?_
          refine lv_iconst (v := 2) hx hb dX7_hundredthsRead_37 (by decide) ?_
          replace hf := s_bv_some hf
          obtain ⟨σ7, hz8, hf⟩ := hf
          refine s_callv (nn := 1) C (kcX7_fails (l := l) (G := G) (cy := cy) (sa := sa) hI (sz := H.size) σ3 (2 : Int32) hz8) gk_X7_92 rfl rfl (by decide +kernel) ⟨Nat.le_of_ble_eq_true rfl, Nat.le_of_ble_eq_true rfl⟩ hP hS (q0 := 0) (ci := 7) rfl rfl rfl (As := [.int (2 : Int32)]) (rest := []) rfl rfl hl.1 (Nat.le_of_ble_eq_true rfl) dX7_hundredthsRead_38 (fun H locs hP hS => ?_)
          exact kX7_hundredthsRead_b41 C σ7 _ _ _ (lv_sub hl [0] rfl) hP hS hf
    · rw [if_neg c2] at hf
      exact kX7_hundredthsRead_b15 C σ _ _ _ (lv_sub hl [] rfl) hP hS hf
theorem kcX7_hundredthsRead {l : Launch} {G : va_G} {cy : Nat → ClassId} {sa : Nat × Nat} {ad : Nat → Nat}  {sz : Nat} (hI : s_inj ad 12) (σ : Sg) {re : Int32} {σe : Sg} (hf : fX7_hundredthsRead σ = some (re, σe)) : Met l yX7_hundredthsRead (kW yX7_hundredthsRead cX7_hundredthsRead 3 (some .int)) ({ frames := 2, cells := 0, slots := 0, locals := 46 } : Room) (s_P (s_WM cy ad) G cy sa ad 12 [.ref (ad 0)] sz σ) (s_Qi (s_WM cy ad) G (s_A ad 12 sz) re σe) 0 0 (s_A ad 12 sz) := by
  refine s_met (own := RX7) (by decide) rfl hI (Nat.le_of_ble_eq_true rfl) (fun p e s m below meth c ls hsz C hP hl => ?_)
  subst hsz
  exact kX7_hundredthsRead C σ ls _ _ hl hP va_S.rf hf
set_option maxRecDepth 100000 in
set_option maxHeartbeats 4000000 in
theorem kX7_isReadingHere_b25 (C : s_X p s m meth c args cX7_isReadingHere (some .boolean) 1 RX7 G cy sa ad 12) (σ : Sg) (ls : Array Slot) (H : Heap) (locs : List Loc) (hl : lv_has ls 1 []) (hP : va_P G vwCl ((s_WM cy ad) σ) H) (hS : va_S (s_A ad 12 s.heap.size) s.heap H locs) (hf : fX7_isReadingHere_b25 σ = some (re, σe)) : W p l e ({ frames := 2, cells := 0, slots := 0, locals := 44 } : Room) s m args below meth c H locs 0 0 (MQ below (s_Qi (s_WM cy ad) G (s_A ad 12 s.heap.size) re σe) args s 0 0 (s_A ad 12 s.heap.size)) (F0 m 25 ls []) := by
  obtain ⟨hx, hb, hr, hml, hown, hts, hlk, hK, hE, hI⟩ := id C
  have hD : ∀ σ : Sg, va_D (s_A ad 12 s.heap.size) ((s_WM cy ad) σ) := fun σ => s_D (s_WM_ad cy ad σ) hI (fun k hk => Or.inl ⟨k, hk, rfl⟩)
  unfold fX7_isReadingHere_b25 at hf
  refine lv_iconst (v := 1) hx hb dX7_isReadingHere_25 (by decide) ?_
  refine lv_goto (tgt := 30) hx hb dX7_isReadingHere_26 (by decide) ?_
  obtain ⟨he1, he2⟩ := s_ret hf
  exact W.zret hx hb hr rfl (fun t ht hW => ⟨⟨_, (), rfl, he1, s_fin (Wd := (s_WM cy ad)) ht he2 hP⟩, hS.F ht⟩) hS.2.2 dX7_isReadingHere_30 hlk
set_option maxRecDepth 100000 in
set_option maxHeartbeats 4000000 in
theorem kX7_isReadingHere (C : s_X p s m meth c args cX7_isReadingHere (some .boolean) 1 RX7 G cy sa ad 12) (σ : Sg) (ls : Array Slot) (H : Heap) (locs : List Loc) (hl : lv_has ls 1 [(0, .ref (ad 0))]) (hP : va_P G vwCl ((s_WM cy ad) σ) H) (hS : va_S (s_A ad 12 s.heap.size) s.heap H locs) (hf : fX7_isReadingHere σ = some (re, σe)) : W p l e ({ frames := 2, cells := 0, slots := 0, locals := 44 } : Room) s m args below meth c H locs 0 0 (MQ below (s_Qi (s_WM cy ad) G (s_A ad 12 s.heap.size) re σe) args s 0 0 (s_A ad 12 s.heap.size)) (F0 m 0 ls []) := by
  obtain ⟨hx, hb, hr, hml, hown, hts, hlk, hK, hE, hI⟩ := id C
  have hD : ∀ σ : Sg, va_D (s_A ad 12 s.heap.size) ((s_WM cy ad) σ) := fun σ => s_D (s_WM_ad cy ad σ) hI (fun k hk => Or.inl ⟨k, hk, rfl⟩)
  unfold fX7_isReadingHere at hf
  refine lv_aload_n hx hb dX7_isReadingHere_0 rfl (lv_at hl 0 rfl) ?_
  refine va_get (D := G) (ci := 7) (v := .int (σ 0 9)) (C := RX7) (T := TX7) (N := 28) hx hb hts inkX7 hown hK hP 0 rfl rfl 9 (by decide) (hts _ kw_791) (fun _ h9 => h9) rfl dX7_isReadingHere_1 ?_
  refine lv_iconst (v := 2) hx hb dX7_isReadingHere_4 (by decide) ?_
  refine lv_icmp_eq (tgt := 25) hx hb dX7_isReadingHere_5 (by decide) (fun c1 => ?_) (fun c1 => ?_)
  · rw [if_pos c1] at hf
    exact kX7_isReadingHere_b25 C σ _ _ _ (lv_sub hl [] rfl) hP hS hf
  · rw [if_neg c1] at hf
    refine lv_aload_n hx hb dX7_isReadingHere_8 rfl (lv_at hl 0 rfl) ?_
    refine va_get (D := G) (ci := 7) (v := .int (σ 0 9)) (C := RX7) (T := TX7) (N := 28) hx hb hts inkX7 hown hK hP 0 rfl rfl 9 (by decide) (hts _ kw_791) (fun _ h9 => h9) rfl dX7_isReadingHere_9 ?_
    refine lv_iconst (v := 4) hx hb dX7_isReadingHere_12 (by decide) ?_
    refine lv_icmp_eq (tgt := 25) hx hb dX7_isReadingHere_13 (by decide) (fun c2 => ?_) (fun c2 => ?_)
    · rw [if_pos c2] at hf
      exact kX7_isReadingHere_b25 C σ _ _ _ (lv_sub hl [] rfl) hP hS hf
    · rw [if_neg c2] at hf
      refine lv_aload_n hx hb dX7_isReadingHere_16 rfl (lv_at hl 0 rfl) ?_
      replace hf := s_bi_some hf
      obtain ⟨r5, σ3, hz4, hf⟩ := hf
      refine s_calli (nn := 0) C (kcX7_nameHere (l := l) (G := G) (cy := cy) (sa := sa) hI (sz := H.size) σ hz4) gk_X7_98 rfl rfl (by decide +kernel) ⟨Nat.le_of_ble_eq_true rfl, Nat.le_of_ble_eq_true rfl⟩ hP hS (q0 := 0) (ci := 7) rfl rfl rfl (As := []) (rest := []) rfl rfl hl.1 (Nat.le_of_ble_eq_true rfl) dX7_isReadingHere_17 (fun H locs hP hS => ?_)
      refine lv_bipush (v := 14) hx hb dX7_isReadingHere_20 (by decide) ?_
      refine lv_icmp_ne (tgt := 29) hx hb dX7_isReadingHere_22 (by decide) (fun c6 => ?_) (fun c6 => ?_)
      · rw [if_neg c6] at hf
        refine lv_iconst (v := 0) hx hb dX7_isReadingHere_29 (by decide) ?_
        obtain ⟨he1, he2⟩ := s_ret hf
        exact W.zret hx hb hr rfl (fun t ht hW => ⟨⟨_, (), rfl, he1, s_fin (Wd := (s_WM cy ad)) ht he2 hP⟩, hS.F ht⟩) hS.2.2 dX7_isReadingHere_30 hlk
      · rw [if_pos c6] at hf
        exact kX7_isReadingHere_b25 C σ3 _ _ _ (lv_sub hl [] rfl) hP hS hf
theorem kcX7_isReadingHere {l : Launch} {G : va_G} {cy : Nat → ClassId} {sa : Nat × Nat} {ad : Nat → Nat}  {sz : Nat} (hI : s_inj ad 12) (σ : Sg) {re : Int32} {σe : Sg} (hf : fX7_isReadingHere σ = some (re, σe)) : Met l yX7_isReadingHere (kW yX7_isReadingHere cX7_isReadingHere 1 (some .boolean)) ({ frames := 2, cells := 0, slots := 0, locals := 44 } : Room) (s_P (s_WM cy ad) G cy sa ad 12 [.ref (ad 0)] sz σ) (s_Qi (s_WM cy ad) G (s_A ad 12 sz) re σe) 0 0 (s_A ad 12 sz) := by
  refine s_met (own := RX7) (by decide) rfl hI (Nat.le_of_ble_eq_true rfl) (fun p e s m below meth c ls hsz C hP hl => ?_)
  subst hsz
  exact kX7_isReadingHere C σ ls _ _ hl hP va_S.rf hf
set_option maxRecDepth 100000 in
set_option maxHeartbeats 4000000 in
theorem kX7_readReading_b124 (C : s_X p s m meth c args cX7_readReading none 4 RX7 G cy sa ad 12) (σ : Sg) (x1 : Int32) (x2 : Int32) (ls : Array Slot) (H : Heap) (locs : List Loc) (hl : lv_has ls 4 [(0, .ref (ad 0)), (1, .int x1), (2, .int x2)]) (hP : va_P G vwCl ((s_WM cy ad) σ) H) (hS : va_S (s_A ad 12 s.heap.size) s.heap H locs) (hf : fX7_readReading_b124 σ x1 x2 = some σe) : W p l e ({ frames := 3, cells := 0, slots := 0, locals := 69 } : Room) s m args below meth c H locs 0 0 (MQ below (s_Qv (s_WM cy ad) G (s_A ad 12 s.heap.size) σe) args s 0 0 (s_A ad 12 s.heap.size)) (F0 m 124 ls []) := by
  obtain ⟨hx, hb, hr, hml, hown, hts, hlk, hK, hE, hI⟩ := id C
  have hD : ∀ σ : Sg, va_D (s_A ad 12 s.heap.size) ((s_WM cy ad) σ) := fun σ => s_D (s_WM_ad cy ad σ) hI (fun k hk => Or.inl ⟨k, hk, rfl⟩)
  unfold fX7_readReading_b124 at hf
  refine lv_aload_n hx hb dX7_readReading_124 rfl (lv_at hl 0 rfl) ?_
  refine va_get (D := G) (ci := 7) (v := .ref (ad 1)) (C := RX7) (T := TX7) (N := 28) hx hb hts inkX7 hown hK hP 0 rfl rfl 0 (by decide) (hts _ kw_782) (fun _ h9 => h9) rfl dX7_readReading_125 ?_
  refine lv_sipush (v := 309) hx hb dX7_readReading_128 (by decide) ?_
  refine lv_iload_n hx hb dX7_readReading_131 rfl (lv_at hl 1 rfl) ?_
  refine lv_iadd hx hb dX7_readReading_132 ?_
  refine lv_iload_n hx hb dX7_readReading_133 rfl (lv_at hl 2 rfl) ?_
  replace hf := s_gd_some hf
  obtain ⟨g1, hf⟩ := hf
  refine va_iast hx hb hK hP (hD _) hS 1 1 rfl rfl (s_in_of g1) dX7_readReading_134 (fun H locs hP _ hS => ?_)
  obtain ⟨σ2, eσ2⟩ : ∃ z : Sg, z = (s_up σ 1 (Int32.toNatClampNeg ((309 : Int32) + x1)) x2) := ⟨_, rfl⟩
  replace hf := s_lt_at eσ2 hf
  replace hP : va_P G vwCl ((s_WM cy ad) σ2) H := by rw [eσ2]; exact hP
  refine lv_aload_n hx hb dX7_readReading_135 rfl (lv_at hl 0 rfl) ?_
  refine va_get (D := G) (ci := 7) (v := .ref (ad 1)) (C := RX7) (T := TX7) (N := 28) hx hb hts inkX7 hown hK hP 0 rfl rfl 0 (by decide) (hts _ kw_782) (fun _ h9 => h9) rfl dX7_readReading_136 ?_
  refine lv_sipush (v := 411) hx hb dX7_readReading_139 (by decide) ?_
  refine lv_dup2_11 hx hb dX7_readReading_142 rfl rfl ?_
  refine va_iald hx hb hK hP 1 1 rfl rfl (by unfold vp_in; decide) dX7_readReading_143 ?_
  rw [cl_411]
  refine lv_iconst (v := 1) hx hb dX7_readReading_144 (by decide) ?_
  refine lv_iadd hx hb dX7_readReading_145 ?_
  refine va_iast hx hb hK hP (hD _) hS 1 1 rfl rfl (by unfold vp_in; decide) dX7_readReading_146 (fun H locs hP _ hS => ?_)
  rw [cl_411] at hP
  obtain ⟨σ3, eσ3⟩ : ∃ z : Sg, z = (s_up σ2 1 411 ((σ2 1 411) + (1 : Int32))) := ⟨_, rfl⟩
  replace hf := s_lt_at eσ3 hf
  replace hP : va_P G vwCl ((s_WM cy ad) σ3) H := by rw [eσ3]; exact hP
  have he2 := Option.some.inj hf
  exact W.vret hx hb hr (fun t ht hW => ⟨⟨(), rfl, trivial, s_fin (Wd := (s_WM cy ad)) ht he2 hP⟩, hS.F ht⟩) hS.2.2 dX7_readReading_147 hlk
set_option maxRecDepth 100000 in
set_option maxHeartbeats 4000000 in
theorem kX7_readReading_b123 (C : s_X p s m meth c args cX7_readReading none 4 RX7 G cy sa ad 12) (σ : Sg) (x1 : Int32) (y0 : Int32) (ls : Array Slot) (H : Heap) (locs : List Loc) (hl : lv_has ls 4 [(0, .ref (ad 0)), (1, .int x1)]) (hP : va_P G vwCl ((s_WM cy ad) σ) H) (hS : va_S (s_A ad 12 s.heap.size) s.heap H locs) (hf : fX7_readReading_b123 σ x1 y0 = some σe) : W p l e ({ frames := 3, cells := 0, slots := 0, locals := 69 } : Room) s m args below meth c H locs 0 0 (MQ below (s_Qv (s_WM cy ad) G (s_A ad 12 s.heap.size) σe) args s 0 0 (s_A ad 12 s.heap.size)) (F0 m 123 ls [.int y0]) := by
  obtain ⟨hx, hb, hr, hml, hown, hts, hlk, hK, hE, hI⟩ := id C
  have hD : ∀ σ : Sg, va_D (s_A ad 12 s.heap.size) ((s_WM cy ad) σ) := fun σ => s_D (s_WM_ad cy ad σ) hI (fun k hk => Or.inl ⟨k, hk, rfl⟩)
  unfold fX7_readReading_b123 at hf
  refine lv_istore_n (lv' := [(2, .int y0), (0, .ref (ad 0)), (1, .int x1)]) hx hb dX7_readReading_123 rfl hl (by decide) rfl (fun ls hl => ?_)
  exact kX7_readReading_b124 C σ x1 y0 _ _ _ (lv_sub hl [1, 2, 0] rfl) hP hS hf
set_option maxRecDepth 100000 in
set_option maxHeartbeats 4000000 in
theorem kX7_readReading_b94 (C : s_X p s m meth c args cX7_readReading none 4 RX7 G cy sa ad 12) (σ : Sg) (x1 : Int32) (x3 : Int32) (ls : Array Slot) (H : Heap) (locs : List Loc) (hl : lv_has ls 4 [(0, .ref (ad 0)), (1, .int x1), (3, .int x3)]) (hP : va_P G vwCl ((s_WM cy ad) σ) H) (hS : va_S (s_A ad 12 s.heap.size) s.heap H locs) (hf : fX7_readReading_b94 σ x1 x3 = some σe) : W p l e ({ frames := 3, cells := 0, slots := 0, locals := 69 } : Room) s m args below meth c H locs 0 0 (MQ below (s_Qv (s_WM cy ad) G (s_A ad 12 s.heap.size) σe) args s 0 0 (s_A ad 12 s.heap.size)) (F0 m 94 ls []) := by
  obtain ⟨hx, hb, hr, hml, hown, hts, hlk, hK, hE, hI⟩ := id C
  have hD : ∀ σ : Sg, va_D (s_A ad 12 s.heap.size) ((s_WM cy ad) σ) := fun σ => s_D (s_WM_ad cy ad σ) hI (fun k hk => Or.inl ⟨k, hk, rfl⟩)
  unfold fX7_readReading_b94 at hf
  refine lv_bipush (v := 100) hx hb dX7_readReading_94 (by decide) ?_
  refine lv_aload_n hx hb dX7_readReading_96 rfl (lv_at hl 0 rfl) ?_
  refine lv_iconst (v := 0) hx hb dX7_readReading_97 (by decide) ?_
  refine lv_sipush (v := 9999) hx hb dX7_readReading_98 (by decide) ?_
  replace hf := s_bi_some hf
  obtain ⟨r3, σ1, hz2, hf⟩ := hf
  refine s_calli (nn := 2) C (kcX7_numberRead (l := l) (G := G) (cy := cy) (sa := sa) hI (sz := H.size) σ (0 : Int32) (9999 : Int32) hz2) gk_X7_107 rfl rfl (by decide +kernel) ⟨Nat.le_of_ble_eq_true rfl, Nat.le_of_ble_eq_true rfl⟩ hP hS (q0 := 0) (ci := 7) rfl rfl rfl (As := [.int (0 : Int32), .int (9999 : Int32)]) (rest := [.int (100 : Int32)]) rfl rfl hl.1 (Nat.le_of_ble_eq_true rfl) dX7_readReading_101 (fun H locs hP hS => ?_)
  refine lv_imul hx hb dX7_readReading_104 ?_
  refine lv_topi (fun t4 et4 => ?_)
  replace hf := s_lt_at et4 hf
  refine lv_istore_n (lv' := [(2, .int t4), (0, .ref (ad 0)), (1, .int x1), (3, .int x3)]) hx hb dX7_readReading_105 rfl hl (by decide) rfl (fun ls hl => ?_)
  refine lv_iload_n hx hb dX7_readReading_106 rfl (lv_at hl 0 rfl) ?_
  refine lv_aload_n hx hb dX7_readReading_107 rfl (lv_at hl 1 rfl) ?_
  replace hf := s_bi_some hf
  obtain ⟨r7, σ5, hz6, hf⟩ := hf
  refine s_calli (nn := 0) C (kcX7_hundredthsRead (l := l) (G := G) (cy := cy) (sa := sa) hI (sz := H.size) σ1 hz6) gk_X7_111 rfl rfl (by decide +kernel) ⟨Nat.le_of_ble_eq_true rfl, Nat.le_of_ble_eq_true rfl⟩ hP hS (q0 := 0) (ci := 7) rfl rfl rfl (As := []) (rest := [.int t4]) rfl rfl hl.1 (Nat.le_of_ble_eq_true rfl) dX7_readReading_108 (fun H locs hP hS => ?_)
  refine lv_iadd hx hb dX7_readReading_111 ?_
  refine lv_topi (fun t8 et8 => ?_)
  replace hf := s_lt_at et8 hf
  refine lv_istore_n (lv' := [(2, .int t8), (0, .ref (ad 0)), (1, .int x1), (3, .int x3)]) hx hb dX7_readReading_112 rfl hl (by decide) rfl (fun ls hl => ?_)
  refine lv_iload_n hx hb dX7_readReading_113 rfl (lv_at hl 3 rfl) ?_
  refine lv_if_eq (tgt := 122) hx hb dX7_readReading_114 (by decide) (fun c9 => ?_) (fun c9 => ?_)
  · rw [if_pos c9] at hf
    refine lv_iload_n hx hb dX7_readReading_122 rfl (lv_at hl 0 rfl) ?_
    exact kX7_readReading_b123 C σ5 x1 t8 _ _ _ (lv_sub hl [1, 2] rfl) hP hS hf
  · rw [if_neg c9] at hf
    refine lv_iload_n hx hb dX7_readReading_117 rfl (lv_at hl 0 rfl) ?_
    refine lv_ineg hx hb dX7_readReading_118 ?_
    refine lv_goto (tgt := 123) hx hb dX7_readReading_119 (by decide) ?_
    exact kX7_readReading_b123 C σ5 x1 (-t8) _ _ _ (lv_sub hl [1, 2] rfl) hP hS hf
set_option maxRecDepth 100000 in
set_option maxHeartbeats 4000000 in
theorem kX7_readReading_b85 (C : s_X p s m meth c args cX7_readReading none 4 RX7 G cy sa ad 12) (σ : Sg) (x1 : Int32) (y0 : Int32) (ls : Array Slot) (H : Heap) (locs : List Loc) (hl : lv_has ls 4 [(0, .ref (ad 0)), (1, .int x1)]) (hP : va_P G vwCl ((s_WM cy ad) σ) H) (hS : va_S (s_A ad 12 s.heap.size) s.heap H locs) (hf : fX7_readReading_b85 σ x1 y0 = some σe) : W p l e ({ frames := 3, cells := 0, slots := 0, locals := 69 } : Room) s m args below meth c H locs 0 0 (MQ below (s_Qv (s_WM cy ad) G (s_A ad 12 s.heap.size) σe) args s 0 0 (s_A ad 12 s.heap.size)) (F0 m 85 ls [.int y0]) := by
  obtain ⟨hx, hb, hr, hml, hown, hts, hlk, hK, hE, hI⟩ := id C
  have hD : ∀ σ : Sg, va_D (s_A ad 12 s.heap.size) ((s_WM cy ad) σ) := fun σ => s_D (s_WM_ad cy ad σ) hI (fun k hk => Or.inl ⟨k, hk, rfl⟩)
  unfold fX7_readReading_b85 at hf
  refine lv_istore_n (lv' := [(3, .int y0), (0, .ref (ad 0)), (1, .int x1)]) hx hb dX7_readReading_85 rfl hl (by decide) rfl (fun ls hl => ?_)
  refine lv_iload_n hx hb dX7_readReading_86 rfl (lv_at hl 0 rfl) ?_
  refine lv_if_eq (tgt := 94) hx hb dX7_readReading_87 (by decide) (fun c1 => ?_) (fun c1 => ?_)
  · rw [if_pos c1] at hf
    exact kX7_readReading_b94 C σ x1 y0 _ _ _ (lv_sub hl [1, 2, 0] rfl) hP hS hf
  · rw [if_neg c1] at hf
    refine lv_aload_n hx hb dX7_readReading_90 rfl (lv_at hl 1 rfl) ?_
    replace hf := s_bv_some hf
    obtain ⟨σ2, hz3, hf⟩ := hf
    refine s_callv (nn := 0) C (kcX7_readsOn (l := l) (G := G) (cy := cy) (sa := sa) hI (sz := H.size) σ hz3) gk_X7_95 rfl rfl (by decide +kernel) ⟨Nat.le_of_ble_eq_true rfl, Nat.le_of_ble_eq_true rfl⟩ hP hS (q0 := 0) (ci := 7) rfl rfl rfl (As := []) (rest := []) rfl rfl hl.1 (Nat.le_of_ble_eq_true rfl) dX7_readReading_91 (fun H locs hP hS => ?_)
    exact kX7_readReading_b94 C σ2 x1 y0 _ _ _ (lv_sub hl [1, 2, 0] rfl) hP hS hf
set_option maxRecDepth 100000 in
set_option maxHeartbeats 4000000 in
theorem kX7_readReading_b46 (C : s_X p s m meth c args cX7_readReading none 4 RX7 G cy sa ad 12) (σ : Sg) (x1 : Int32) (ls : Array Slot) (H : Heap) (locs : List Loc) (hl : lv_has ls 4 [(0, .ref (ad 0)), (1, .int x1)]) (hP : va_P G vwCl ((s_WM cy ad) σ) H) (hS : va_S (s_A ad 12 s.heap.size) s.heap H locs) (hf : fX7_readReading_b46 σ x1 = some σe) : W p l e ({ frames := 3, cells := 0, slots := 0, locals := 69 } : Room) s m args below meth c H locs 0 0 (MQ below (s_Qv (s_WM cy ad) G (s_A ad 12 s.heap.size) σe) args s 0 0 (s_A ad 12 s.heap.size)) (F0 m 46 ls []) := by
  obtain ⟨hx, hb, hr, hml, hown, hts, hlk, hK, hE, hI⟩ := id C
  have hD : ∀ σ : Sg, va_D (s_A ad 12 s.heap.size) ((s_WM cy ad) σ) := fun σ => s_D (s_WM_ad cy ad σ) hI (fun k hk => Or.inl ⟨k, hk, rfl⟩)
  unfold fX7_readReading_b46 at hf
  refine lv_aload_n hx hb dX7_readReading_46 rfl (lv_at hl 0 rfl) ?_
  refine va_get (D := G) (ci := 7) (v := .int (σ 0 5)) (C := RX7) (T := TX7) (N := 28) hx hb hts inkX7 hown hK hP 0 rfl rfl 5 (by decide) (hts _ kw_787) (fun _ h9 => h9) rfl dX7_readReading_47 ?_
  refine lv_if_le (tgt := 54) hx hb dX7_readReading_50 (by decide) (fun c1 => ?_) (fun c1 => ?_)
  · rw [if_pos c1] at hf
    refine lv_ldc (v := 100000000) hx hb hown (hts _ kw_936) dX7_readReading_54 ?_
    refine lv_istore_n (lv' := [(2, .int (100000000 : Int32)), (0, .ref (ad 0)), (1, .int x1)]) hx hb dX7_readReading_56 rfl hl (by decide) rfl (fun ls hl => ?_)
    refine lv_aload_n hx hb dX7_readReading_57 rfl (lv_at hl 1 rfl) ?_
    refine va_get (D := G) (ci := 7) (v := .int (σ 0 9)) (C := RX7) (T := TX7) (N := 28) hx hb hts inkX7 hown hK hP 0 rfl rfl 9 (by decide) (hts _ kw_791) (fun _ h9 => h9) rfl dX7_readReading_58 ?_
    refine lv_iconst (v := 1) hx hb dX7_readReading_61 (by decide) ?_
    refine lv_icmp_ne (tgt := 72) hx hb dX7_readReading_62 (by decide) (fun c2 => ?_) (fun c2 => ?_)
    · rw [if_neg c2] at hf
      refine lv_aload_n hx hb dX7_readReading_72 rfl (lv_at hl 1 rfl) ?_
      refine va_get (D := G) (ci := 7) (v := .int (σ 0 9)) (C := RX7) (T := TX7) (N := 28) hx hb hts inkX7 hown hK hP 0 rfl rfl 9 (by decide) (hts _ kw_791) (fun _ h9 => h9) rfl dX7_readReading_73 ?_
      refine lv_iconst (v := 4) hx hb dX7_readReading_76 (by decide) ?_
      refine lv_icmp_ne (tgt := 84) hx hb dX7_readReading_77 (by decide) (fun c3 => ?_) (fun c3 => ?_)
      · rw [if_neg c3] at hf
        refine lv_iconst (v := 0) hx hb dX7_readReading_84 (by decide) ?_
        exact kX7_readReading_b85 C σ x1 (0 : Int32) _ _ _ (lv_sub hl [1, 2] rfl) hP hS hf
      · rw [if_pos c3] at hf
        refine lv_iconst (v := 1) hx hb dX7_readReading_80 (by decide) ?_
        refine lv_goto (tgt := 85) hx hb dX7_readReading_81 (by decide) ?_
        exact kX7_readReading_b85 C σ x1 (1 : Int32) _ _ _ (lv_sub hl [1, 2] rfl) hP hS hf
    · rw [if_pos c2] at hf
      refine lv_aload_n hx hb dX7_readReading_65 rfl (lv_at hl 1 rfl) ?_
      replace hf := s_bv_some hf
      obtain ⟨σ4, hz5, hf⟩ := hf
      refine s_callv (nn := 0) C (kcX7_readsOn (l := l) (G := G) (cy := cy) (sa := sa) hI (sz := H.size) σ hz5) gk_X7_95 rfl rfl (by decide +kernel) ⟨Nat.le_of_ble_eq_true rfl, Nat.le_of_ble_eq_true rfl⟩ hP hS (q0 := 0) (ci := 7) rfl rfl rfl (As := []) (rest := []) rfl rfl hl.1 (Nat.le_of_ble_eq_true rfl) dX7_readReading_66 (fun H locs hP hS => ?_)
      refine lv_goto (tgt := 124) hx hb dX7_readReading_69 (by decide) ?_
      exact kX7_readReading_b124 C σ4 x1 (100000000 : Int32) _ _ _ (lv_sub hl [1, 2, 0] rfl) hP hS hf
  · rw [if_neg c1] at hf
    have he2 := Option.some.inj hf
    exact W.vret hx hb hr (fun t ht hW => ⟨⟨(), rfl, trivial, s_fin (Wd := (s_WM cy ad)) ht he2 hP⟩, hS.F ht⟩) hS.2.2 dX7_readReading_53 hlk
set_option maxRecDepth 100000 in
set_option maxHeartbeats 4000000 in
theorem kX7_readReading_b19 (C : s_X p s m meth c args cX7_readReading none 4 RX7 G cy sa ad 12) (σ : Sg) (ls : Array Slot) (H : Heap) (locs : List Loc) (hl : lv_has ls 4 [(0, .ref (ad 0))]) (hP : va_P G vwCl ((s_WM cy ad) σ) H) (hS : va_S (s_A ad 12 s.heap.size) s.heap H locs) (hf : fX7_readReading_b19 σ = some σe) : W p l e ({ frames := 3, cells := 0, slots := 0, locals := 69 } : Room) s m args below meth c H locs 0 0 (MQ below (s_Qv (s_WM cy ad) G (s_A ad 12 s.heap.size) σe) args s 0 0 (s_A ad 12 s.heap.size)) (F0 m 19 ls []) := by
  obtain ⟨hx, hb, hr, hml, hown, hts, hlk, hK, hE, hI⟩ := id C
  have hD : ∀ σ : Sg, va_D (s_A ad 12 s.heap.size) ((s_WM cy ad) σ) := fun σ => s_D (s_WM_ad cy ad σ) hI (fun k hk => Or.inl ⟨k, hk, rfl⟩)
  unfold fX7_readReading_b19 at hf
  refine lv_aload_n hx hb dX7_readReading_19 rfl (lv_at hl 0 rfl) ?_
  refine va_get (D := G) (ci := 7) (v := .ref (ad 1)) (C := RX7) (T := TX7) (N := 28) hx hb hts inkX7 hown hK hP 0 rfl rfl 0 (by decide) (hts _ kw_782) (fun _ h9 => h9) rfl dX7_readReading_20 ?_
  refine lv_sipush (v := 411) hx hb dX7_readReading_23 (by decide) ?_
  refine va_iald hx hb hK hP 1 1 rfl rfl (by unfold vp_in; decide) dX7_readReading_26 ?_
  rw [cl_411]
  refine lv_topi (fun t1 et1 => ?_)
  replace hf := s_lt_at et1 hf
  refine lv_istore_n (lv' := [(1, .int t1), (0, .ref (ad 0))]) hx hb dX7_readReading_27 rfl hl (by decide) rfl (fun ls hl => ?_)
  refine lv_aload_n hx hb dX7_readReading_28 rfl (lv_at hl 1 rfl) ?_
  refine va_get (D := G) (ci := 7) (v := .int (σ 0 5)) (C := RX7) (T := TX7) (N := 28) hx hb hts inkX7 hown hK hP 0 rfl rfl 5 (by decide) (hts _ kw_787) (fun _ h9 => h9) rfl dX7_readReading_29 ?_
  refine lv_if_ne (tgt := 46) hx hb dX7_readReading_32 (by decide) (fun c2 => ?_) (fun c2 => ?_)
  · rw [if_neg c2] at hf
    exact kX7_readReading_b46 C σ t1 _ _ _ (lv_sub hl [1, 0] rfl) hP hS hf
  · rw [if_pos c2] at hf
    refine lv_iload_n hx hb dX7_readReading_35 rfl (lv_at hl 0 rfl) ?_
    refine lv_bipush (v := 96) hx hb dX7_readReading_36 (by decide) ?_
    refine lv_icmp_ne (tgt := 46) hx hb dX7_readReading_38 (by decide) (fun c3 => ?_) (fun c3 => ?_)
    · rw [if_neg c3] at hf
      exact kX7_readReading_b46 C σ t1 _ _ _ (lv_sub hl [1, 0] rfl) hP hS hf
    · rw [if_pos c3] at hf
      refine lv_aload_n hx hb dX7_readReading_41 rfl (lv_at hl 1 rfl) ?_
      refine lv_iconst (v := 5) hx hb dX7_readReading_42 (by decide) ?_
      replace hf := s_bv_some hf
      obtain ⟨σ4, hz5, hf⟩ := hf
      refine s_callv (nn := 1) C (kcX7_fails (l := l) (G := G) (cy := cy) (sa := sa) hI (sz := H.size) σ (5 : Int32) hz5) gk_X7_92 rfl rfl (by decide +kernel) ⟨Nat.le_of_ble_eq_true rfl, Nat.le_of_ble_eq_true rfl⟩ hP hS (q0 := 0) (ci := 7) rfl rfl rfl (As := [.int (5 : Int32)]) (rest := []) rfl rfl hl.1 (Nat.le_of_ble_eq_true rfl) dX7_readReading_43 (fun H locs hP hS => ?_)
      exact kX7_readReading_b46 C σ4 t1 _ _ _ (lv_sub hl [1, 0] rfl) hP hS hf
set_option maxRecDepth 100000 in
set_option maxHeartbeats 4000000 in
theorem kX7_readReading (C : s_X p s m meth c args cX7_readReading none 4 RX7 G cy sa ad 12) (σ : Sg) (ls : Array Slot) (H : Heap) (locs : List Loc) (hl : lv_has ls 4 [(0, .ref (ad 0))]) (hP : va_P G vwCl ((s_WM cy ad) σ) H) (hS : va_S (s_A ad 12 s.heap.size) s.heap H locs) (hf : fX7_readReading σ = some σe) : W p l e ({ frames := 3, cells := 0, slots := 0, locals := 69 } : Room) s m args below meth c H locs 0 0 (MQ below (s_Qv (s_WM cy ad) G (s_A ad 12 s.heap.size) σe) args s 0 0 (s_A ad 12 s.heap.size)) (F0 m 0 ls []) := by
  obtain ⟨hx, hb, hr, hml, hown, hts, hlk, hK, hE, hI⟩ := id C
  have hD : ∀ σ : Sg, va_D (s_A ad 12 s.heap.size) ((s_WM cy ad) σ) := fun σ => s_D (s_WM_ad cy ad σ) hI (fun k hk => Or.inl ⟨k, hk, rfl⟩)
  unfold fX7_readReading at hf
  refine lv_aload_n hx hb dX7_readReading_0 rfl (lv_at hl 0 rfl) ?_
  refine va_get (D := G) (ci := 7) (v := .int (σ 0 5)) (C := RX7) (T := TX7) (N := 28) hx hb hts inkX7 hown hK hP 0 rfl rfl 5 (by decide) (hts _ kw_787) (fun _ h9 => h9) rfl dX7_readReading_1 ?_
  refine lv_if_ne (tgt := 19) hx hb dX7_readReading_4 (by decide) (fun c1 => ?_) (fun c1 => ?_)
  · rw [if_neg c1] at hf
    exact kX7_readReading_b19 C σ _ _ _ (lv_sub hl [0] rfl) hP hS hf
  · rw [if_pos c1] at hf
    refine lv_aload_n hx hb dX7_readReading_7 rfl (lv_at hl 0 rfl) ?_
    replace hf := s_bi_some hf
    obtain ⟨r4, σ2, hz3, hf⟩ := hf
    refine s_calli (nn := 0) C (kcX7_isReadingHere (l := l) (G := G) (cy := cy) (sa := sa) hI (sz := H.size) σ hz3) gk_X7_102 rfl rfl (by decide +kernel) ⟨Nat.le_of_ble_eq_true rfl, Nat.le_of_ble_eq_true rfl⟩ hP hS (q0 := 0) (ci := 7) rfl rfl rfl (As := []) (rest := []) rfl rfl hl.1 (Nat.le_of_ble_eq_true rfl) dX7_readReading_8 (fun H locs hP hS => ?_)
    refine lv_if_ne (tgt := 19) hx hb dX7_readReading_11 (by decide) (fun c5 => ?_) (fun c5 => ?_)
    · rw [if_neg c5] at hf
      exact kX7_readReading_b19 C σ2 _ _ _ (lv_sub hl [0] rfl) hP hS hf
    · rw [if_pos c5] at hf
      refine lv_aload_n hx hb dX7_readReading_14 rfl (lv_at hl 0 rfl) ?_
      refine lv_iconst (v := 2) hx hb dX7_readReading_15 (by decide) ?_
      replace hf := s_bv_some hf
      obtain ⟨σ6, hz7, hf⟩ := hf
      refine s_callv (nn := 1) C (kcX7_fails (l := l) (G := G) (cy := cy) (sa := sa) hI (sz := H.size) σ2 (2 : Int32) hz7) gk_X7_92 rfl rfl (by decide +kernel) ⟨Nat.le_of_ble_eq_true rfl, Nat.le_of_ble_eq_true rfl⟩ hP hS (q0 := 0) (ci := 7) rfl rfl rfl (As := [.int (2 : Int32)]) (rest := []) rfl rfl hl.1 (Nat.le_of_ble_eq_true rfl) dX7_readReading_16 (fun H locs hP hS => ?_)
      exact kX7_readReading_b19 C σ6 _ _ _ (lv_sub hl [0] rfl) hP hS hf
theorem kcX7_readReading {l : Launch} {G : va_G} {cy : Nat → ClassId} {sa : Nat × Nat} {ad : Nat → Nat}  {sz : Nat} (hI : s_inj ad 12) (σ : Sg) {σe : Sg} (hf : fX7_readReading σ = some σe) : Met l yX7_readReading (kW yX7_readReading cX7_readReading 4 none) ({ frames := 3, cells := 0, slots := 0, locals := 69 } : Room) (s_P (s_WM cy ad) G cy sa ad 12 [.ref (ad 0)] sz σ) (s_Qv (s_WM cy ad) G (s_A ad 12 sz) σe) 0 0 (s_A ad 12 sz) := by
  refine s_met (own := RX7) (by decide) rfl hI (Nat.le_of_ble_eq_true rfl) (fun p e s m below meth c ls hsz C hP hl => ?_)
  subst hsz
  exact kX7_readReading C σ ls _ _ hl hP va_S.rf hf
set_option maxRecDepth 100000 in
set_option maxHeartbeats 4000000 in
theorem kX7_readPut_b4 (C : s_X p s m meth c args cX7_readPut none 1 RX7 G cy sa ad 12) (k4 : Sg → Option Sg) (hk4 : ∀ (σ : Sg) (ls : Array Slot) (H : Heap) (locs : List Loc), lv_has ls 1 [(0, .ref (ad 0))] → va_P G vwCl ((s_WM cy ad) σ) H → va_S (s_A ad 12 s.heap.size) s.heap H locs → k4 σ = some σe → W p l e ({ frames := 4, cells := 0, slots := 0, locals := 92 } : Room) s m args below meth c H locs 0 0 (MQ below (s_Qv (s_WM cy ad) G (s_A ad 12 s.heap.size) σe) args s 0 0 (s_A ad 12 s.heap.size)) (F0 m 4 ls [])) (σ : Sg) (ls : Array Slot) (H : Heap) (locs : List Loc) (hl : lv_has ls 1 [(0, .ref (ad 0))]) (hP : va_P G vwCl ((s_WM cy ad) σ) H) (hS : va_S (s_A ad 12 s.heap.size) s.heap H locs) (hf : fX7_readPut_b4 k4 σ = some σe) : W p l e ({ frames := 4, cells := 0, slots := 0, locals := 92 } : Room) s m args below meth c H locs 0 0 (MQ below (s_Qv (s_WM cy ad) G (s_A ad 12 s.heap.size) σe) args s 0 0 (s_A ad 12 s.heap.size)) (F0 m 4 ls []) := by
  obtain ⟨hx, hb, hr, hml, hown, hts, hlk, hK, hE, hI⟩ := id C
  have hD : ∀ σ : Sg, va_D (s_A ad 12 s.heap.size) ((s_WM cy ad) σ) := fun σ => s_D (s_WM_ad cy ad σ) hI (fun k hk => Or.inl ⟨k, hk, rfl⟩)
  unfold fX7_readPut_b4 at hf
  refine lv_aload_n hx hb dX7_readPut_4 rfl (lv_at hl 0 rfl) ?_
  refine va_get (D := G) (ci := 7) (v := .int (σ 0 5)) (C := RX7) (T := TX7) (N := 28) hx hb hts inkX7 hown hK hP 0 rfl rfl 5 (by decide) (hts _ kw_787) (fun _ h9 => h9) rfl dX7_readPut_5 ?_
  refine lv_if_ne (tgt := 25) hx hb dX7_readPut_8 (by decide) (fun c1 => ?_) (fun c1 => ?_)
  · rw [if_neg c1] at hf
    have he2 := Option.some.inj hf
    exact W.vret hx hb hr (fun t ht hW => ⟨⟨(), rfl, trivial, s_fin (Wd := (s_WM cy ad)) ht he2 hP⟩, hS.F ht⟩) hS.2.2 dX7_readPut_25 hlk
  · rw [if_pos c1] at hf
    refine lv_aload_n hx hb dX7_readPut_11 rfl (lv_at hl 0 rfl) ?_
    replace hf := s_bi_some hf
    obtain ⟨r4, σ2, hz3, hf⟩ := hf
    refine s_calli (nn := 0) C (kcX7_isReadingHere (l := l) (G := G) (cy := cy) (sa := sa) hI (sz := H.size) σ hz3) gk_X7_102 rfl rfl (by decide +kernel) ⟨Nat.le_of_ble_eq_true rfl, Nat.le_of_ble_eq_true rfl⟩ hP hS (q0 := 0) (ci := 7) rfl rfl rfl (As := []) (rest := []) rfl rfl hl.1 (Nat.le_of_ble_eq_true rfl) dX7_readPut_12 (fun H locs hP hS => ?_)
    refine lv_if_eq (tgt := 25) hx hb dX7_readPut_15 (by decide) (fun c5 => ?_) (fun c5 => ?_)
    · rw [if_pos c5] at hf
      have he2 := Option.some.inj hf
      exact W.vret hx hb hr (fun t ht hW => ⟨⟨(), rfl, trivial, s_fin (Wd := (s_WM cy ad)) ht he2 hP⟩, hS.F ht⟩) hS.2.2 dX7_readPut_25 hlk
    · rw [if_neg c5] at hf
      refine lv_aload_n hx hb dX7_readPut_18 rfl (lv_at hl 0 rfl) ?_
      replace hf := s_bv_some hf
      obtain ⟨σ6, hz7, hf⟩ := hf
      refine s_callv (nn := 0) C (kcX7_readReading (l := l) (G := G) (cy := cy) (sa := sa) hI (sz := H.size) σ2 hz7) gk_X7_114 rfl rfl (by decide +kernel) ⟨Nat.le_of_ble_eq_true rfl, Nat.le_of_ble_eq_true rfl⟩ hP hS (q0 := 0) (ci := 7) rfl rfl rfl (As := []) (rest := []) rfl rfl hl.1 (Nat.le_of_ble_eq_true rfl) dX7_readPut_19 (fun H locs hP hS => ?_)
      refine lv_goto (tgt := 4) hx hb dX7_readPut_22 (by decide) ?_
      exact hk4 σ6 _ _ _ (lv_sub hl [0] rfl) hP hS hf
set_option maxRecDepth 100000 in
set_option maxHeartbeats 4000000 in
theorem kX7_readPut_b4_L (C : s_X p s m meth c args cX7_readPut none 1 RX7 G cy sa ad 12) : ∀ (n : Nat), ∀ (σ : Sg) (ls : Array Slot) (H : Heap) (locs : List Loc), lv_has ls 1 [(0, .ref (ad 0))] → va_P G vwCl ((s_WM cy ad) σ) H → va_S (s_A ad 12 s.heap.size) s.heap H locs → fX7_readPut_b4_L n σ = some σe → W p l e ({ frames := 4, cells := 0, slots := 0, locals := 92 } : Room) s m args below meth c H locs 0 0 (MQ below (s_Qv (s_WM cy ad) G (s_A ad 12 s.heap.size) σe) args s 0 0 (s_A ad 12 s.heap.size)) (F0 m 4 ls []) := by
  intro n
  induction n with
  | zero => intro σ  ls H locs hl hP hS hf; exact absurd (show (none : Option Sg) = some σe from hf) (by intro h; cases h)
  | succ n ih => intro σ  ls H locs hl hP hS hf; exact kX7_readPut_b4 C (fX7_readPut_b4_L n) ih σ  ls H locs hl hP hS hf
set_option maxRecDepth 100000 in
set_option maxHeartbeats 4000000 in
theorem kX7_readPut (C : s_X p s m meth c args cX7_readPut none 1 RX7 G cy sa ad 12) (σ : Sg) (ls : Array Slot) (H : Heap) (locs : List Loc) (hl : lv_has ls 1 [(0, .ref (ad 0))]) (hP : va_P G vwCl ((s_WM cy ad) σ) H) (hS : va_S (s_A ad 12 s.heap.size) s.heap H locs) (hf : fX7_readPut σ = some σe) : W p l e ({ frames := 4, cells := 0, slots := 0, locals := 92 } : Room) s m args below meth c H locs 0 0 (MQ below (s_Qv (s_WM cy ad) G (s_A ad 12 s.heap.size) σe) args s 0 0 (s_A ad 12 s.heap.size)) (F0 m 0 ls []) := by
  obtain ⟨hx, hb, hr, hml, hown, hts, hlk, hK, hE, hI⟩ := id C
  have hD : ∀ σ : Sg, va_D (s_A ad 12 s.heap.size) ((s_WM cy ad) σ) := fun σ => s_D (s_WM_ad cy ad σ) hI (fun k hk => Or.inl ⟨k, hk, rfl⟩)
  unfold fX7_readPut at hf
  refine lv_aload_n hx hb dX7_readPut_0 rfl (lv_at hl 0 rfl) ?_
  replace hf := s_bv_some hf
  obtain ⟨σ1, hz2, hf⟩ := hf
  refine s_callv (nn := 0) C (kcX7_readReading (l := l) (G := G) (cy := cy) (sa := sa) hI (sz := H.size) σ hz2) gk_X7_114 rfl rfl (by decide +kernel) ⟨Nat.le_of_ble_eq_true rfl, Nat.le_of_ble_eq_true rfl⟩ hP hS (q0 := 0) (ci := 7) rfl rfl rfl (As := []) (rest := []) rfl rfl hl.1 (Nat.le_of_ble_eq_true rfl) dX7_readPut_1 (fun H locs hP hS => ?_)
  exact kX7_readPut_b4_L C s_fu σ1 _ _ _ (lv_sub hl [0] rfl) hP hS hf
theorem kcX7_readPut {l : Launch} {G : va_G} {cy : Nat → ClassId} {sa : Nat × Nat} {ad : Nat → Nat}  {sz : Nat} (hI : s_inj ad 12) (σ : Sg) {σe : Sg} (hf : fX7_readPut σ = some σe) : Met l yX7_readPut (kW yX7_readPut cX7_readPut 1 none) ({ frames := 4, cells := 0, slots := 0, locals := 92 } : Room) (s_P (s_WM cy ad) G cy sa ad 12 [.ref (ad 0)] sz σ) (s_Qv (s_WM cy ad) G (s_A ad 12 sz) σe) 0 0 (s_A ad 12 sz) := by
  refine s_met (own := RX7) (by decide) rfl hI (Nat.le_of_ble_eq_true rfl) (fun p e s m below meth c ls hsz C hP hl => ?_)
  subst hsz
  exact kX7_readPut C σ ls _ _ hl hP va_S.rf hf
set_option maxRecDepth 100000 in
set_option maxHeartbeats 4000000 in
theorem kX7_readLine_b248 (C : s_X p s m meth c args cX7_readLine none 2 RX7 G cy sa ad 12) (σ : Sg) (ls : Array Slot) (H : Heap) (locs : List Loc) (hl : lv_has ls 2 [(0, .ref (ad 0))]) (hP : va_P G vwCl ((s_WM cy ad) σ) H) (hS : va_S (s_A ad 12 s.heap.size) s.heap H locs) (hf : fX7_readLine_b248 σ = some σe) : W p l e ({ frames := 5, cells := 0, slots := 0, locals := 112 } : Room) s m args below meth c H locs 0 0 (MQ below (s_Qv (s_WM cy ad) G (s_A ad 12 s.heap.size) σe) args s 0 0 (s_A ad 12 s.heap.size)) (F0 m 248 ls []) := by
  obtain ⟨hx, hb, hr, hml, hown, hts, hlk, hK, hE, hI⟩ := id C
  have hD : ∀ σ : Sg, va_D (s_A ad 12 s.heap.size) ((s_WM cy ad) σ) := fun σ => s_D (s_WM_ad cy ad σ) hI (fun k hk => Or.inl ⟨k, hk, rfl⟩)
  unfold fX7_readLine_b248 at hf
  refine lv_aload_n hx hb dX7_readLine_248 rfl (lv_at hl 0 rfl) ?_
  replace hf := s_bv_some hf
  obtain ⟨σ1, hz2, hf⟩ := hf
  refine s_callv (nn := 0) C (kcX7_readsOn (l := l) (G := G) (cy := cy) (sa := sa) hI (sz := H.size) σ hz2) gk_X7_95 rfl rfl (by decide +kernel) ⟨Nat.le_of_ble_eq_true rfl, Nat.le_of_ble_eq_true rfl⟩ hP hS (q0 := 0) (ci := 7) rfl rfl rfl (As := []) (rest := []) rfl rfl hl.1 (Nat.le_of_ble_eq_true rfl) dX7_readLine_249 (fun H locs hP hS => ?_)
  have he2 := Option.some.inj hf
  exact W.vret hx hb hr (fun t ht hW => ⟨⟨(), rfl, trivial, s_fin (Wd := (s_WM cy ad)) ht he2 hP⟩, hS.F ht⟩) hS.2.2 dX7_readLine_252 hlk
set_option maxRecDepth 100000 in
set_option maxHeartbeats 4000000 in
theorem kX7_readLine_b228 (C : s_X p s m meth c args cX7_readLine none 2 RX7 G cy sa ad 12) (σ : Sg) (ls : Array Slot) (H : Heap) (locs : List Loc) (hl : lv_has ls 2 [(0, .ref (ad 0))]) (hP : va_P G vwCl ((s_WM cy ad) σ) H) (hS : va_S (s_A ad 12 s.heap.size) s.heap H locs) (hf : fX7_readLine_b228 σ = some σe) : W p l e ({ frames := 5, cells := 0, slots := 0, locals := 112 } : Room) s m args below meth c H locs 0 0 (MQ below (s_Qv (s_WM cy ad) G (s_A ad 12 s.heap.size) σe) args s 0 0 (s_A ad 12 s.heap.size)) (F0 m 228 ls []) := by
  obtain ⟨hx, hb, hr, hml, hown, hts, hlk, hK, hE, hI⟩ := id C
  have hD : ∀ σ : Sg, va_D (s_A ad 12 s.heap.size) ((s_WM cy ad) σ) := fun σ => s_D (s_WM_ad cy ad σ) hI (fun k hk => Or.inl ⟨k, hk, rfl⟩)
  unfold fX7_readLine_b228 at hf
  refine lv_aload_n hx hb dX7_readLine_228 rfl (lv_at hl 0 rfl) ?_
  refine va_get (D := G) (ci := 7) (v := .int (σ 0 5)) (C := RX7) (T := TX7) (N := 28) hx hb hts inkX7 hown hK hP 0 rfl rfl 5 (by decide) (hts _ kw_787) (fun _ h9 => h9) rfl dX7_readLine_229 ?_
  refine lv_if_ne (tgt := 248) hx hb dX7_readLine_232 (by decide) (fun c1 => ?_) (fun c1 => ?_)
  · rw [if_neg c1] at hf
    exact kX7_readLine_b248 C σ _ _ _ (lv_sub hl [0] rfl) hP hS hf
  · rw [if_pos c1] at hf
    refine lv_aload_n hx hb dX7_readLine_235 rfl (lv_at hl 0 rfl) ?_
    refine va_get (D := G) (ci := 7) (v := .int (σ 0 9)) (C := RX7) (T := TX7) (N := 28) hx hb hts inkX7 hown hK hP 0 rfl rfl 9 (by decide) (hts _ kw_791) (fun _ h9 => h9) rfl dX7_readLine_236 ?_
    refine lv_iconst (v := 3) hx hb dX7_readLine_239 (by decide) ?_
    refine lv_icmp_eq (tgt := 248) hx hb dX7_readLine_240 (by decide) (fun c2 => ?_) (fun c2 => ?_)
    · rw [if_pos c2] at hf
      exact kX7_readLine_b248 C σ _ _ _ (lv_sub hl [0] rfl) hP hS hf
    · rw [if_neg c2] at hf
      refine lv_aload_n hx hb dX7_readLine_243 rfl (lv_at hl 0 rfl) ?_
      refine lv_iconst (v := 2) hx hb dX7_readLine_244 (by decide) ?_
      replace hf := s_bv_some hf
      obtain ⟨σ3, hz4, hf⟩ := hf
      refine s_callv (nn := 1) C (kcX7_fails (l := l) (G := G) (cy := cy) (sa := sa) hI (sz := H.size) σ (2 : Int32) hz4) gk_X7_92 rfl rfl (by decide +kernel) ⟨Nat.le_of_ble_eq_true rfl, Nat.le_of_ble_eq_true rfl⟩ hP hS (q0 := 0) (ci := 7) rfl rfl rfl (As := [.int (2 : Int32)]) (rest := []) rfl rfl hl.1 (Nat.le_of_ble_eq_true rfl) dX7_readLine_245 (fun H locs hP hS => ?_)
      exact kX7_readLine_b248 C σ3 _ _ _ (lv_sub hl [0] rfl) hP hS hf
set_option maxRecDepth 100000 in
set_option maxHeartbeats 4000000 in
theorem kX7_readLine_b179 (C : s_X p s m meth c args cX7_readLine none 2 RX7 G cy sa ad 12) (σ : Sg) (y1 : Int32) (y3 : Int32) (ls : Array Slot) (H : Heap) (locs : List Loc) (hl : lv_has ls 2 [(0, .ref (ad 0))]) (hP : va_P G vwCl ((s_WM cy ad) σ) H) (hS : va_S (s_A ad 12 s.heap.size) s.heap H locs) (hf : fX7_readLine_b179 σ y1 y3 = some σe) : W p l e ({ frames := 5, cells := 0, slots := 0, locals := 112 } : Room) s m args below meth c H locs 0 0 (MQ below (s_Qv (s_WM cy ad) G (s_A ad 12 s.heap.size) σe) args s 0 0 (s_A ad 12 s.heap.size)) (F0 m 179 ls [.int y3, .ref (ad 0), .int y1, .ref (ad 1)]) := by
  obtain ⟨hx, hb, hr, hml, hown, hts, hlk, hK, hE, hI⟩ := id C
  have hD : ∀ σ : Sg, va_D (s_A ad 12 s.heap.size) ((s_WM cy ad) σ) := fun σ => s_D (s_WM_ad cy ad σ) hI (fun k hk => Or.inl ⟨k, hk, rfl⟩)
  unfold fX7_readLine_b179 at hf
  refine lv_bipush (v := 100) hx hb dX7_readLine_179 (by decide) ?_
  replace hf := s_bi_some hf
  obtain ⟨r3, σ1, hz2, hf⟩ := hf
  refine s_calli (nn := 2) C (kcX7_numberRead (l := l) (G := G) (cy := cy) (sa := sa) hI (sz := H.size) σ y3 (100 : Int32) hz2) gk_X7_107 rfl rfl (by decide +kernel) ⟨Nat.le_of_ble_eq_true rfl, Nat.le_of_ble_eq_true rfl⟩ hP hS (q0 := 0) (ci := 7) rfl rfl rfl (As := [.int y3, .int (100 : Int32)]) (rest := [.int y1, .ref (ad 1)]) rfl rfl hl.1 (Nat.le_of_ble_eq_true rfl) dX7_readLine_181 (fun H locs hP hS => ?_)
  replace hf := s_gd_some hf
  obtain ⟨g4, hf⟩ := hf
  refine va_iast hx hb hK hP (hD _) hS 1 1 rfl rfl (s_in_of g4) dX7_readLine_184 (fun H locs hP _ hS => ?_)
  obtain ⟨σ5, eσ5⟩ : ∃ z : Sg, z = (s_up σ1 1 (Int32.toNatClampNeg y1) r3) := ⟨_, rfl⟩
  replace hf := s_lt_at eσ5 hf
  replace hP : va_P G vwCl ((s_WM cy ad) σ5) H := by rw [eσ5]; exact hP
  refine lv_goto (tgt := 228) hx hb dX7_readLine_185 (by decide) ?_
  exact kX7_readLine_b228 C σ5 _ _ _ (lv_sub hl [0] rfl) hP hS hf
set_option maxRecDepth 100000 in
set_option maxHeartbeats 4000000 in
theorem kX7_readLine_b45 (C : s_X p s m meth c args cX7_readLine none 2 RX7 G cy sa ad 12) (σ : Sg) (x1 : Int32) (ls : Array Slot) (H : Heap) (locs : List Loc) (hl : lv_has ls 2 [(0, .ref (ad 0)), (1, .int x1)]) (hP : va_P G vwCl ((s_WM cy ad) σ) H) (hS : va_S (s_A ad 12 s.heap.size) s.heap H locs) (hf : fX7_readLine_b45 σ x1 = some σe) : W p l e ({ frames := 5, cells := 0, slots := 0, locals := 112 } : Room) s m args below meth c H locs 0 0 (MQ below (s_Qv (s_WM cy ad) G (s_A ad 12 s.heap.size) σe) args s 0 0 (s_A ad 12 s.heap.size)) (F0 m 45 ls []) := by
  obtain ⟨hx, hb, hr, hml, hown, hts, hlk, hK, hE, hI⟩ := id C
  have hD : ∀ σ : Sg, va_D (s_A ad 12 s.heap.size) ((s_WM cy ad) σ) := fun σ => s_D (s_WM_ad cy ad σ) hI (fun k hk => Or.inl ⟨k, hk, rfl⟩)
  unfold fX7_readLine_b45 at hf
  refine lv_aload_n hx hb dX7_readLine_45 rfl (lv_at hl 0 rfl) ?_
  refine lv_dup hx hb dX7_readLine_46 rfl ?_
  refine va_get (D := G) (ci := 7) (v := .int (σ 0 11)) (C := RX7) (T := TX7) (N := 28) hx hb hts inkX7 hown hK hP 0 rfl rfl 11 (by decide) (hts _ kw_793) (fun _ h9 => h9) rfl dX7_readLine_47 ?_
  refine lv_iconst (v := 1) hx hb dX7_readLine_50 (by decide) ?_
  refine lv_iload_n hx hb dX7_readLine_51 rfl (lv_at hl 1 rfl) ?_
  refine lv_ishl hx hb dX7_readLine_52 ?_
  refine lv_ior hx hb dX7_readLine_53 ?_
  refine va_put (D := G) (ci := 7) (v := .int ((σ 0 11) ||| ((1 : Int32) <<< (x1 &&& 31)))) (ty := .int) (C := RX7) (T := TX7) (N := 28) hx hb hts inkX7 tyX7 tyX7_ok nmX7 hown hK hP (hD _) hS 0 rfl rfl 11 (by decide) (hts _ kw_793) (fun _ h9 => h9) rfl (by decide +kernel) rfl rfl (Nat.le_of_ble_eq_true rfl) dX7_readLine_54 (fun H locs hP _ hS => ?_)
  obtain ⟨σ1, eσ1⟩ : ∃ z : Sg, z = (s_up σ 0 11 ((σ 0 11) ||| ((1 : Int32) <<< (x1 &&& 31)))) := ⟨_, rfl⟩
  replace hf := s_lt_at eσ1 hf
  replace hP : va_P G vwCl ((s_WM cy ad) σ1) H := by rw [eσ1]; exact hP
  refine lv_aload_n hx hb dX7_readLine_57 rfl (lv_at hl 0 rfl) ?_
  replace hf := s_bv_some hf
  obtain ⟨σ2, hz3, hf⟩ := hf
  refine s_callv (nn := 0) C (kcX7_readsOn (l := l) (G := G) (cy := cy) (sa := sa) hI (sz := H.size) σ1 hz3) gk_X7_95 rfl rfl (by decide +kernel) ⟨Nat.le_of_ble_eq_true rfl, Nat.le_of_ble_eq_true rfl⟩ hP hS (q0 := 0) (ci := 7) rfl rfl rfl (As := []) (rest := []) rfl rfl hl.1 (Nat.le_of_ble_eq_true rfl) dX7_readLine_58 (fun H locs hP hS => ?_)
  refine lv_iload_n hx hb dX7_readLine_61 rfl (lv_at hl 1 rfl) ?_
  by_cases c4 : x1 = 0
  · rw [if_pos c4] at hf
    refine lv_tableIn (off := 34) (tgt := 96) hx hb dX7_readLine_62 (by rw [c4]; decide) (by rw [c4]; decide) (by rw [c4]; rfl) (by decide) ?_
    refine lv_aload_n hx hb dX7_readLine_96 rfl (lv_at hl 0 rfl) ?_
    refine va_get (D := G) (ci := 7) (v := .ref (ad 1)) (C := RX7) (T := TX7) (N := 28) hx hb hts inkX7 hown hK hP 0 rfl rfl 0 (by decide) (hts _ kw_782) (fun _ h9 => h9) rfl dX7_readLine_97 ?_
    refine lv_sipush (v := 405) hx hb dX7_readLine_100 (by decide) ?_
    refine lv_aload_n hx hb dX7_readLine_103 rfl (lv_at hl 0 rfl) ?_
    refine lv_iconst (v := 1) hx hb dX7_readLine_104 (by decide) ?_
    refine lv_bipush (v := 24) hx hb dX7_readLine_105 (by decide) ?_
    replace hf := s_bi_some hf
    obtain ⟨r7, σ5, hz6, hf⟩ := hf
    refine s_calli (nn := 2) C (kcX7_numberRead (l := l) (G := G) (cy := cy) (sa := sa) hI (sz := H.size) σ2 (1 : Int32) (24 : Int32) hz6) gk_X7_107 rfl rfl (by decide +kernel) ⟨Nat.le_of_ble_eq_true rfl, Nat.le_of_ble_eq_true rfl⟩ hP hS (q0 := 0) (ci := 7) rfl rfl rfl (As := [.int (1 : Int32), .int (24 : Int32)]) (rest := [.int (405 : Int32), .ref (ad 1)]) rfl rfl hl.1 (Nat.le_of_ble_eq_true rfl) dX7_readLine_107 (fun H locs hP hS => ?_)
    refine va_iast hx hb hK hP (hD _) hS 1 1 rfl rfl (by unfold vp_in; decide) dX7_readLine_110 (fun H locs hP _ hS => ?_)
    rw [cl_405] at hP
    obtain ⟨σ8, eσ8⟩ : ∃ z : Sg, z = (s_up σ5 1 405 r7) := ⟨_, rfl⟩
    replace hf := s_lt_at eσ8 hf
    replace hP : va_P G vwCl ((s_WM cy ad) σ8) H := by rw [eσ8]; exact hP
    refine lv_goto (tgt := 228) hx hb dX7_readLine_111 (by decide) ?_
    exact kX7_readLine_b228 C σ8 _ _ _ (lv_sub hl [0] rfl) hP hS hf
  · rw [if_neg c4] at hf
    by_cases c9 : x1 = 1
    · rw [if_pos c9] at hf
      refine lv_tableIn (off := 52) (tgt := 114) hx hb dX7_readLine_62 (by rw [c9]; decide) (by rw [c9]; decide) (by rw [c9]; rfl) (by decide) ?_
      refine lv_aload_n hx hb dX7_readLine_114 rfl (lv_at hl 0 rfl) ?_
      refine va_get (D := G) (ci := 7) (v := .ref (ad 1)) (C := RX7) (T := TX7) (N := 28) hx hb hts inkX7 hown hK hP 0 rfl rfl 0 (by decide) (hts _ kw_782) (fun _ h9 => h9) rfl dX7_readLine_115 ?_
      refine lv_sipush (v := 406) hx hb dX7_readLine_118 (by decide) ?_
      refine lv_aload_n hx hb dX7_readLine_121 rfl (lv_at hl 0 rfl) ?_
      refine lv_iconst (v := 1) hx hb dX7_readLine_122 (by decide) ?_
      refine lv_bipush (v := 24) hx hb dX7_readLine_123 (by decide) ?_
      replace hf := s_bi_some hf
      obtain ⟨r12, σ10, hz11, hf⟩ := hf
      refine s_calli (nn := 2) C (kcX7_numberRead (l := l) (G := G) (cy := cy) (sa := sa) hI (sz := H.size) σ2 (1 : Int32) (24 : Int32) hz11) gk_X7_107 rfl rfl (by decide +kernel) ⟨Nat.le_of_ble_eq_true rfl, Nat.le_of_ble_eq_true rfl⟩ hP hS (q0 := 0) (ci := 7) rfl rfl rfl (As := [.int (1 : Int32), .int (24 : Int32)]) (rest := [.int (406 : Int32), .ref (ad 1)]) rfl rfl hl.1 (Nat.le_of_ble_eq_true rfl) dX7_readLine_125 (fun H locs hP hS => ?_)
      refine va_iast hx hb hK hP (hD _) hS 1 1 rfl rfl (by unfold vp_in; decide) dX7_readLine_128 (fun H locs hP _ hS => ?_)
      rw [cl_406] at hP
      obtain ⟨σ13, eσ13⟩ : ∃ z : Sg, z = (s_up σ10 1 406 r12) := ⟨_, rfl⟩
      replace hf := s_lt_at eσ13 hf
      replace hP : va_P G vwCl ((s_WM cy ad) σ13) H := by rw [eσ13]; exact hP
      refine lv_goto (tgt := 228) hx hb dX7_readLine_129 (by decide) ?_
      exact kX7_readLine_b228 C σ13 _ _ _ (lv_sub hl [0] rfl) hP hS hf
    · rw [if_neg c9] at hf
      by_cases c14 : x1 = 2
      · rw [if_pos c14] at hf
        refine lv_tableIn (off := 70) (tgt := 132) hx hb dX7_readLine_62 (by rw [c14]; decide) (by rw [c14]; decide) (by rw [c14]; rfl) (by decide) ?_
        refine lv_aload_n hx hb dX7_readLine_132 rfl (lv_at hl 0 rfl) ?_
        refine va_get (D := G) (ci := 7) (v := .ref (ad 1)) (C := RX7) (T := TX7) (N := 28) hx hb hts inkX7 hown hK hP 0 rfl rfl 0 (by decide) (hts _ kw_782) (fun _ h9 => h9) rfl dX7_readLine_133 ?_
        refine lv_sipush (v := 407) hx hb dX7_readLine_136 (by decide) ?_
        refine lv_aload_n hx hb dX7_readLine_139 rfl (lv_at hl 0 rfl) ?_
        refine lv_iconst (v := 0) hx hb dX7_readLine_140 (by decide) ?_
        refine lv_bipush (v := 100) hx hb dX7_readLine_141 (by decide) ?_
        replace hf := s_bi_some hf
        obtain ⟨r17, σ15, hz16, hf⟩ := hf
        refine s_calli (nn := 2) C (kcX7_numberRead (l := l) (G := G) (cy := cy) (sa := sa) hI (sz := H.size) σ2 (0 : Int32) (100 : Int32) hz16) gk_X7_107 rfl rfl (by decide +kernel) ⟨Nat.le_of_ble_eq_true rfl, Nat.le_of_ble_eq_true rfl⟩ hP hS (q0 := 0) (ci := 7) rfl rfl rfl (As := [.int (0 : Int32), .int (100 : Int32)]) (rest := [.int (407 : Int32), .ref (ad 1)]) rfl rfl hl.1 (Nat.le_of_ble_eq_true rfl) dX7_readLine_143 (fun H locs hP hS => ?_)
        refine va_iast hx hb hK hP (hD _) hS 1 1 rfl rfl (by unfold vp_in; decide) dX7_readLine_146 (fun H locs hP _ hS => ?_)
        rw [cl_407] at hP
        obtain ⟨σ18, eσ18⟩ : ∃ z : Sg, z = (s_up σ15 1 407 r17) := ⟨_, rfl⟩
        replace hf := s_lt_at eσ18 hf
        replace hP : va_P G vwCl ((s_WM cy ad) σ18) H := by rw [eσ18]; exact hP
        refine lv_aload_n hx hb dX7_readLine_147 rfl (lv_at hl 0 rfl) ?_
        refine va_get (D := G) (ci := 7) (v := .ref (ad 1)) (C := RX7) (T := TX7) (N := 28) hx hb hts inkX7 hown hK hP 0 rfl rfl 0 (by decide) (hts _ kw_782) (fun _ h9 => h9) rfl dX7_readLine_148 ?_
        refine lv_sipush (v := 408) hx hb dX7_readLine_151 (by decide) ?_
        refine lv_aload_n hx hb dX7_readLine_154 rfl (lv_at hl 0 rfl) ?_
        refine lv_aload_n hx hb dX7_readLine_155 rfl (lv_at hl 0 rfl) ?_
        refine va_get (D := G) (ci := 7) (v := .ref (ad 1)) (C := RX7) (T := TX7) (N := 28) hx hb hts inkX7 hown hK hP 0 rfl rfl 0 (by decide) (hts _ kw_782) (fun _ h9 => h9) rfl dX7_readLine_156 ?_
        refine lv_sipush (v := 407) hx hb dX7_readLine_159 (by decide) ?_
        refine va_iald hx hb hK hP 1 1 rfl rfl (by unfold vp_in; decide) dX7_readLine_162 ?_
        rw [cl_407]
        refine lv_iconst (v := 1) hx hb dX7_readLine_163 (by decide) ?_
        refine lv_icmp_le (tgt := 178) hx hb dX7_readLine_164 (by decide) (fun c19 => ?_) (fun c19 => ?_)
        · rw [if_pos c19] at hf
          refine lv_iconst (v := 1) hx hb dX7_readLine_178 (by decide) ?_
          exact kX7_readLine_b179 C σ18 (408 : Int32) (1 : Int32) _ _ _ (lv_sub hl [0] rfl) hP hS hf
        · rw [if_neg c19] at hf
          refine lv_aload_n hx hb dX7_readLine_167 rfl (lv_at hl 0 rfl) ?_
          refine va_get (D := G) (ci := 7) (v := .ref (ad 1)) (C := RX7) (T := TX7) (N := 28) hx hb hts inkX7 hown hK hP 0 rfl rfl 0 (by decide) (hts _ kw_782) (fun _ h9 => h9) rfl dX7_readLine_168 ?_
          refine lv_sipush (v := 407) hx hb dX7_readLine_171 (by decide) ?_
          refine va_iald hx hb hK hP 1 1 rfl rfl (by unfold vp_in; decide) dX7_readLine_174 ?_
          rw [cl_407]
          refine lv_goto (tgt := 179) hx hb dX7_readLine_175 (by decide) ?_
          exact kX7_readLine_b179 C σ18 (408 : Int32) (σ18 1 407) _ _ _ (lv_sub hl [0] rfl) hP hS hf
      · rw [if_neg c14] at hf
        by_cases c20 : x1 = 3
        · rw [if_pos c20] at hf
          refine lv_tableIn (off := 126) (tgt := 188) hx hb dX7_readLine_62 (by rw [c20]; decide) (by rw [c20]; decide) (by rw [c20]; rfl) (by decide) ?_
          refine lv_aload_n hx hb dX7_readLine_188 rfl (lv_at hl 0 rfl) ?_
          refine va_get (D := G) (ci := 7) (v := .ref (ad 1)) (C := RX7) (T := TX7) (N := 28) hx hb hts inkX7 hown hK hP 0 rfl rfl 0 (by decide) (hts _ kw_782) (fun _ h9 => h9) rfl dX7_readLine_189 ?_
          refine lv_sipush (v := 409) hx hb dX7_readLine_192 (by decide) ?_
          refine lv_aload_n hx hb dX7_readLine_195 rfl (lv_at hl 0 rfl) ?_
          refine lv_bipush (v := 6) hx hb dX7_readLine_196 (by decide) ?_
          refine lv_iconst (v := 5) hx hb dX7_readLine_198 (by decide) ?_
          replace hf := s_bi_some hf
          obtain ⟨r23, σ21, hz22, hf⟩ := hf
          refine s_calli (nn := 2) C (kcX7_wordRead (l := l) (G := G) (cy := cy) (sa := sa) hI (sz := H.size) σ2 (6 : Int32) (5 : Int32) hz22) gk_X7_122 rfl rfl (by decide +kernel) ⟨Nat.le_of_ble_eq_true rfl, Nat.le_of_ble_eq_true rfl⟩ hP hS (q0 := 0) (ci := 7) rfl rfl rfl (As := [.int (6 : Int32), .int (5 : Int32)]) (rest := [.int (409 : Int32), .ref (ad 1)]) rfl rfl hl.1 (Nat.le_of_ble_eq_true rfl) dX7_readLine_199 (fun H locs hP hS => ?_)
          refine va_iast hx hb hK hP (hD _) hS 1 1 rfl rfl (by unfold vp_in; decide) dX7_readLine_202 (fun H locs hP _ hS => ?_)
          rw [cl_409] at hP
          obtain ⟨σ24, eσ24⟩ : ∃ z : Sg, z = (s_up σ21 1 409 r23) := ⟨_, rfl⟩
          replace hf := s_lt_at eσ24 hf
          replace hP : va_P G vwCl ((s_WM cy ad) σ24) H := by rw [eσ24]; exact hP
          refine lv_goto (tgt := 228) hx hb dX7_readLine_203 (by decide) ?_
          exact kX7_readLine_b228 C σ24 _ _ _ (lv_sub hl [0] rfl) hP hS hf
        · rw [if_neg c20] at hf
          by_cases c25 : x1 = 4
          · rw [if_pos c25] at hf
            refine lv_tableIn (off := 144) (tgt := 206) hx hb dX7_readLine_62 (by rw [c25]; decide) (by rw [c25]; decide) (by rw [c25]; rfl) (by decide) ?_
            refine lv_aload_n hx hb dX7_readLine_206 rfl (lv_at hl 0 rfl) ?_
            refine va_get (D := G) (ci := 7) (v := .ref (ad 1)) (C := RX7) (T := TX7) (N := 28) hx hb hts inkX7 hown hK hP 0 rfl rfl 0 (by decide) (hts _ kw_782) (fun _ h9 => h9) rfl dX7_readLine_207 ?_
            refine lv_sipush (v := 410) hx hb dX7_readLine_210 (by decide) ?_
            refine lv_aload_n hx hb dX7_readLine_213 rfl (lv_at hl 0 rfl) ?_
            refine lv_bipush (v := 11) hx hb dX7_readLine_214 (by decide) ?_
            refine lv_iconst (v := 3) hx hb dX7_readLine_216 (by decide) ?_
            replace hf := s_bi_some hf
            obtain ⟨r28, σ26, hz27, hf⟩ := hf
            refine s_calli (nn := 2) C (kcX7_wordRead (l := l) (G := G) (cy := cy) (sa := sa) hI (sz := H.size) σ2 (11 : Int32) (3 : Int32) hz27) gk_X7_122 rfl rfl (by decide +kernel) ⟨Nat.le_of_ble_eq_true rfl, Nat.le_of_ble_eq_true rfl⟩ hP hS (q0 := 0) (ci := 7) rfl rfl rfl (As := [.int (11 : Int32), .int (3 : Int32)]) (rest := [.int (410 : Int32), .ref (ad 1)]) rfl rfl hl.1 (Nat.le_of_ble_eq_true rfl) dX7_readLine_217 (fun H locs hP hS => ?_)
            refine va_iast hx hb hK hP (hD _) hS 1 1 rfl rfl (by unfold vp_in; decide) dX7_readLine_220 (fun H locs hP _ hS => ?_)
            rw [cl_410] at hP
            obtain ⟨σ29, eσ29⟩ : ∃ z : Sg, z = (s_up σ26 1 410 r28) := ⟨_, rfl⟩
            replace hf := s_lt_at eσ29 hf
            replace hP : va_P G vwCl ((s_WM cy ad) σ29) H := by rw [eσ29]; exact hP
            refine lv_goto (tgt := 228) hx hb dX7_readLine_221 (by decide) ?_
            exact kX7_readLine_b228 C σ29 _ _ _ (lv_sub hl [0] rfl) hP hS hf
          · rw [if_neg c25] at hf
            have qc4 := lv_neT c4 (a := 0) (by decide)
            have qc9 := lv_neT c9 (a := 1) (by decide)
            have qc14 := lv_neT c14 (a := 2) (by decide)
            have qc20 := lv_neT c20 (a := 3) (by decide)
            have qc25 := lv_neT c25 (a := 4) (by decide)
            refine lv_tableOut (tgt := 224) hx hb dX7_readLine_62 (by omega) (by decide) ?_
            refine lv_aload_n hx hb dX7_readLine_224 rfl (lv_at hl 0 rfl) ?_
            replace hf := s_bv_some hf
            obtain ⟨σ30, hz31, hf⟩ := hf
            refine s_callv (nn := 0) C (kcX7_readPut (l := l) (G := G) (cy := cy) (sa := sa) hI (sz := H.size) σ2 hz31) gk_X7_125 rfl rfl (by decide +kernel) ⟨Nat.le_of_ble_eq_true rfl, Nat.le_of_ble_eq_true rfl⟩ hP hS (q0 := 0) (ci := 7) rfl rfl rfl (As := []) (rest := []) rfl rfl hl.1 (Nat.le_of_ble_eq_true rfl) dX7_readLine_225 (fun H locs hP hS => ?_)
            exact kX7_readLine_b228 C σ30 _ _ _ (lv_sub hl [0] rfl) hP hS hf
set_option maxRecDepth 100000 in
set_option maxHeartbeats 4000000 in
theorem kX7_readLine (C : s_X p s m meth c args cX7_readLine none 2 RX7 G cy sa ad 12) (σ : Sg) (ls : Array Slot) (H : Heap) (locs : List Loc) (hl : lv_has ls 2 [(0, .ref (ad 0))]) (hP : va_P G vwCl ((s_WM cy ad) σ) H) (hS : va_S (s_A ad 12 s.heap.size) s.heap H locs) (hf : fX7_readLine σ = some σe) : W p l e ({ frames := 5, cells := 0, slots := 0, locals := 112 } : Room) s m args below meth c H locs 0 0 (MQ below (s_Qv (s_WM cy ad) G (s_A ad 12 s.heap.size) σe) args s 0 0 (s_A ad 12 s.heap.size)) (F0 m 0 ls []) := by
  obtain ⟨hx, hb, hr, hml, hown, hts, hlk, hK, hE, hI⟩ := id C
  have hD : ∀ σ : Sg, va_D (s_A ad 12 s.heap.size) ((s_WM cy ad) σ) := fun σ => s_D (s_WM_ad cy ad σ) hI (fun k hk => Or.inl ⟨k, hk, rfl⟩)
  unfold fX7_readLine at hf
  refine lv_aload_n hx hb dX7_readLine_0 rfl (lv_at hl 0 rfl) ?_
  replace hf := s_bi_some hf
  obtain ⟨r3, σ1, hz2, hf⟩ := hf
  refine s_calli (nn := 0) C (kcX7_nameHere (l := l) (G := G) (cy := cy) (sa := sa) hI (sz := H.size) σ hz2) gk_X7_98 rfl rfl (by decide +kernel) ⟨Nat.le_of_ble_eq_true rfl, Nat.le_of_ble_eq_true rfl⟩ hP hS (q0 := 0) (ci := 7) rfl rfl rfl (As := []) (rest := []) rfl rfl hl.1 (Nat.le_of_ble_eq_true rfl) dX7_readLine_1 (fun H locs hP hS => ?_)
  refine lv_istore_n (lv' := [(1, .int r3), (0, .ref (ad 0))]) hx hb dX7_readLine_4 rfl hl (by decide) rfl (fun ls hl => ?_)
  refine lv_iload_n hx hb dX7_readLine_5 rfl (lv_at hl 0 rfl) ?_
  refine lv_i2l (v := (Int32.toInt64 r3)) hx hb dX7_readLine_6 rfl ?_
  refine lv_lconst (v := 0) hx hb dX7_readLine_7 (by decide) ?_
  refine lv_ldc2 (v := 5) hx hb hown (hts _ kw_915) dX7_readLine_8 ?_
  replace hf := s_bi_some hf
  obtain ⟨r6, σ4, hz5, hf⟩ := hf
  refine s_calliS (nn := 3) C (kcX7_in (l := l) (G := G) (cy := cy) (sa := sa) hI (sz := H.size) σ1 (Int32.toInt64 r3) (0 : Int64) (5 : Int64) hz5) gk_X7_54 rfl rfl (by decide +kernel) ⟨Nat.le_of_ble_eq_true rfl, Nat.le_of_ble_eq_true rfl⟩ hP hS (As := [.long (Int32.toInt64 r3), .long (0 : Int64), .long (5 : Int64)]) (rest := []) rfl rfl hl.1 (Nat.le_of_ble_eq_true rfl) dX7_readLine_11 (fun H locs hP hS => ?_)
  refine lv_if_ne (tgt := 23) hx hb dX7_readLine_14 (by decide) (fun c7 => ?_) (fun c7 => ?_)
  · rw [if_neg c7] at hf
    refine lv_iload_n hx hb dX7_readLine_23 rfl (lv_at hl 0 rfl) ?_
    refine lv_iconst (v := 5) hx hb dX7_readLine_24 (by decide) ?_
    refine lv_icmp_ge (tgt := 45) hx hb dX7_readLine_25 (by decide) (fun c8 => ?_) (fun c8 => ?_)
    · rw [if_pos c8] at hf
      exact kX7_readLine_b45 C σ4 r3 _ _ _ (lv_sub hl [1, 0] rfl) hP hS hf
    · rw [if_neg c8] at hf
      refine lv_aload_n hx hb dX7_readLine_28 rfl (lv_at hl 1 rfl) ?_
      refine va_get (D := G) (ci := 7) (v := .int (σ4 0 11)) (C := RX7) (T := TX7) (N := 28) hx hb hts inkX7 hown hK hP 0 rfl rfl 11 (by decide) (hts _ kw_793) (fun _ h9 => h9) rfl dX7_readLine_29 ?_
      refine lv_iload_n hx hb dX7_readLine_32 rfl (lv_at hl 0 rfl) ?_
      refine lv_ishr hx hb dX7_readLine_33 ?_
      refine lv_iconst (v := 1) hx hb dX7_readLine_34 (by decide) ?_
      refine lv_iand hx hb dX7_readLine_35 ?_
      refine lv_iconst (v := 1) hx hb dX7_readLine_36 (by decide) ?_
      refine lv_icmp_ne (tgt := 45) hx hb dX7_readLine_37 (by decide) (fun c9 => ?_) (fun c9 => ?_)
      · rw [if_neg c9] at hf
        exact kX7_readLine_b45 C σ4 r3 _ _ _ (lv_sub hl [1, 0] rfl) hP hS hf
      · rw [if_pos c9] at hf
        refine lv_aload_n hx hb dX7_readLine_40 rfl (lv_at hl 1 rfl) ?_
        refine lv_iconst (v := 4) hx hb dX7_readLine_41 (by decide) ?_
        replace hf := s_bv_some hf
        obtain ⟨σ10, hz11, hf⟩ := hf
        refine s_callv (nn := 1) C (kcX7_fails (l := l) (G := G) (cy := cy) (sa := sa) hI (sz := H.size) σ4 (4 : Int32) hz11) gk_X7_92 rfl rfl (by decide +kernel) ⟨Nat.le_of_ble_eq_true rfl, Nat.le_of_ble_eq_true rfl⟩ hP hS (q0 := 0) (ci := 7) rfl rfl rfl (As := [.int (4 : Int32)]) (rest := []) rfl rfl hl.1 (Nat.le_of_ble_eq_true rfl) dX7_readLine_42 (fun H locs hP hS => ?_)
        exact kX7_readLine_b45 C σ10 r3 _ _ _ (lv_sub hl [1, 0] rfl) hP hS hf
  · rw [if_pos c7] at hf
    refine lv_aload_n hx hb dX7_readLine_17 rfl (lv_at hl 1 rfl) ?_
    refine lv_iconst (v := 2) hx hb dX7_readLine_18 (by decide) ?_
    replace hf := s_bv_some hf
    obtain ⟨σ12, hz13, hf⟩ := hf
    refine s_callv (nn := 1) C (kcX7_fails (l := l) (G := G) (cy := cy) (sa := sa) hI (sz := H.size) σ4 (2 : Int32) hz13) gk_X7_92 rfl rfl (by decide +kernel) ⟨Nat.le_of_ble_eq_true rfl, Nat.le_of_ble_eq_true rfl⟩ hP hS (q0 := 0) (ci := 7) rfl rfl rfl (As := [.int (2 : Int32)]) (rest := []) rfl rfl hl.1 (Nat.le_of_ble_eq_true rfl) dX7_readLine_19 (fun H locs hP hS => ?_)
    have he2 := Option.some.inj hf
    exact W.vret hx hb hr (fun t ht hW => ⟨⟨(), rfl, trivial, s_fin (Wd := (s_WM cy ad)) ht he2 hP⟩, hS.F ht⟩) hS.2.2 dX7_readLine_22 hlk
theorem kcX7_readLine {l : Launch} {G : va_G} {cy : Nat → ClassId} {sa : Nat × Nat} {ad : Nat → Nat}  {sz : Nat} (hI : s_inj ad 12) (σ : Sg) {σe : Sg} (hf : fX7_readLine σ = some σe) : Met l yX7_readLine (kW yX7_readLine cX7_readLine 2 none) ({ frames := 5, cells := 0, slots := 0, locals := 112 } : Room) (s_P (s_WM cy ad) G cy sa ad 12 [.ref (ad 0)] sz σ) (s_Qv (s_WM cy ad) G (s_A ad 12 sz) σe) 0 0 (s_A ad 12 sz) := by
  refine s_met (own := RX7) (by decide) rfl hI (Nat.le_of_ble_eq_true rfl) (fun p e s m below meth c ls hsz C hP hl => ?_)
  subst hsz
  exact kX7_readLine C σ ls _ _ hl hP va_S.rf hf
end
