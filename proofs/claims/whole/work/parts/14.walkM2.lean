section
variable {p : Program} {l : Launch} {e : Env} {s : State} {m : MethodId} {below : List Frame} {meth : Method} {c : Code} {G : va_G} {cy : Nat → ClassId} {sa : Nat × Nat} {ad : Nat → Nat} {args : Array Value} {re : Int32} {σe : Sg}
set_option maxRecDepth 100000 in
set_option maxHeartbeats 4000000 in
theorem kX7_copies_b2 (C : s_X p s m meth c args cX7_copies none 4 RX7 G cy sa ad 12) (k2 : Sg → Int32 → Int32 → Int32 → Option Sg) (hk2 : ∀ (σ : Sg) (x1 : Int32) (x2 : Int32) (x3 : Int32) (ls : Array Slot) (H : Heap) (locs : List Loc), lv_has ls 4 [(0, .ref (ad 0)), (1, .int x1), (2, .int x2), (3, .int x3)] → va_P G vwCl ((s_WM cy ad) σ) H → va_S (s_A ad 12 s.heap.size) s.heap H locs → k2 σ x1 x2 x3 = some σe → W p l e ({ frames := 0, cells := 0, slots := 0, locals := 0 } : Room) s m args below meth c H locs 0 0 (MQ below (s_Qv (s_WM cy ad) G (s_A ad 12 s.heap.size) σe) args s 0 0 (s_A ad 12 s.heap.size)) (F0 m 2 ls [])) (σ : Sg) (x1 : Int32) (x2 : Int32) (x3 : Int32) (ls : Array Slot) (H : Heap) (locs : List Loc) (hl : lv_has ls 4 [(0, .ref (ad 0)), (1, .int x1), (2, .int x2), (3, .int x3)]) (hP : va_P G vwCl ((s_WM cy ad) σ) H) (hS : va_S (s_A ad 12 s.heap.size) s.heap H locs) (hf : fX7_copies_b2 k2 σ x1 x2 x3 = some σe) : W p l e ({ frames := 0, cells := 0, slots := 0, locals := 0 } : Room) s m args below meth c H locs 0 0 (MQ below (s_Qv (s_WM cy ad) G (s_A ad 12 s.heap.size) σe) args s 0 0 (s_A ad 12 s.heap.size)) (F0 m 2 ls []) := by
  obtain ⟨hx, hb, hr, hml, hown, hts, hlk, hK, hE, hI⟩ := id C
  have hD : ∀ σ : Sg, va_D (s_A ad 12 s.heap.size) ((s_WM cy ad) σ) := fun σ => s_D (s_WM_ad cy ad σ) hI (fun k hk => Or.inl ⟨k, hk, rfl⟩)
  unfold fX7_copies_b2 at hf
  refine lv_iload_n hx hb dX7_copies_2 rfl (lv_at hl 3 rfl) ?_
  refine lv_bipush (v := 103) hx hb dX7_copies_3 (by decide) ?_
  refine lv_icmp_ge (tgt := 30) hx hb dX7_copies_5 (by decide) (fun c1 => ?_) (fun c1 => ?_)
  · rw [if_pos c1] at hf
    have he2 := Option.some.inj hf
    exact W.vret hx hb hr (fun t ht hW => ⟨⟨(), rfl, trivial, s_fin (Wd := (s_WM cy ad)) ht he2 hP⟩, hS.F ht⟩) hS.2.2 dX7_copies_30 hlk
  · rw [if_neg c1] at hf
    refine lv_aload_n hx hb dX7_copies_8 rfl (lv_at hl 0 rfl) ?_
    refine va_get (D := G) (ci := 7) (v := .ref (ad 1)) (C := RX7) (T := TX7) (N := 28) hx hb hts inkX7 hown hK hP 0 rfl rfl 0 (by decide) (hts _ kw_782) (fun _ h9 => h9) rfl dX7_copies_9 ?_
    refine lv_iload_n hx hb dX7_copies_12 rfl (lv_at hl 2 rfl) ?_
    refine lv_iload_n hx hb dX7_copies_13 rfl (lv_at hl 3 rfl) ?_
    refine lv_iadd hx hb dX7_copies_14 ?_
    refine lv_aload_n hx hb dX7_copies_15 rfl (lv_at hl 0 rfl) ?_
    refine va_get (D := G) (ci := 7) (v := .ref (ad 1)) (C := RX7) (T := TX7) (N := 28) hx hb hts inkX7 hown hK hP 0 rfl rfl 0 (by decide) (hts _ kw_782) (fun _ h9 => h9) rfl dX7_copies_16 ?_
    refine lv_iload_n hx hb dX7_copies_19 rfl (lv_at hl 1 rfl) ?_
    refine lv_iload_n hx hb dX7_copies_20 rfl (lv_at hl 3 rfl) ?_
    refine lv_iadd hx hb dX7_copies_21 ?_
    replace hf := s_gd_some hf
    obtain ⟨g2, hf⟩ := hf
    refine va_iald hx hb hK hP 1 1 rfl rfl (s_in_of g2) dX7_copies_22 ?_
    replace hf := s_gd_some hf
    obtain ⟨g3, hf⟩ := hf
    refine va_iast hx hb hK hP (hD _) hS 1 1 rfl rfl (s_in_of g3) dX7_copies_23 (fun H locs hP _ hS => ?_)
    obtain ⟨σ4, eσ4⟩ : ∃ z : Sg, z = (s_up σ 1 (Int32.toNatClampNeg (x2 + x3)) (σ 1 (Int32.toNatClampNeg (x1 + x3)))) := ⟨_, rfl⟩
    replace hf := s_lt_at eσ4 hf
    replace hP : va_P G vwCl ((s_WM cy ad) σ4) H := by rw [eσ4]; exact hP
    obtain ⟨t5, et5⟩ : ∃ z : Int32, z = (x3 + 1) := ⟨_, rfl⟩
    replace hf := s_lt_at et5 hf
    refine lv_iinc (v := t5) (lv' := [(3, .int t5), (0, .ref (ad 0)), (1, .int x1), (2, .int x2)]) hx hb dX7_copies_24 hl (k := 3) rfl (by rw [et5]; rfl) (by decide) rfl (fun ls hl => ?_)
    refine lv_goto (tgt := 2) hx hb dX7_copies_27 (by decide) ?_
    exact hk2 σ4 x1 x2 t5 _ _ _ (lv_sub hl [1, 2, 3, 0] rfl) hP hS hf
set_option maxRecDepth 100000 in
set_option maxHeartbeats 4000000 in
theorem kX7_copies_b2_L (C : s_X p s m meth c args cX7_copies none 4 RX7 G cy sa ad 12) : ∀ (n : Nat), ∀ (σ : Sg) (x1 : Int32) (x2 : Int32) (x3 : Int32) (ls : Array Slot) (H : Heap) (locs : List Loc), lv_has ls 4 [(0, .ref (ad 0)), (1, .int x1), (2, .int x2), (3, .int x3)] → va_P G vwCl ((s_WM cy ad) σ) H → va_S (s_A ad 12 s.heap.size) s.heap H locs → fX7_copies_b2_L n σ x1 x2 x3 = some σe → W p l e ({ frames := 0, cells := 0, slots := 0, locals := 0 } : Room) s m args below meth c H locs 0 0 (MQ below (s_Qv (s_WM cy ad) G (s_A ad 12 s.heap.size) σe) args s 0 0 (s_A ad 12 s.heap.size)) (F0 m 2 ls []) := by
  intro n
  induction n with
  | zero => intro σ x1 x2 x3 ls H locs hl hP hS hf; exact absurd (show (none : Option Sg) = some σe from hf) (by intro h; cases h)
  | succ n ih => intro σ x1 x2 x3 ls H locs hl hP hS hf; exact kX7_copies_b2 C (fX7_copies_b2_L n) ih σ x1 x2 x3 ls H locs hl hP hS hf
set_option maxRecDepth 100000 in
set_option maxHeartbeats 4000000 in
theorem kX7_copies (C : s_X p s m meth c args cX7_copies none 4 RX7 G cy sa ad 12) (σ : Sg) (x1 : Int32) (x2 : Int32) (ls : Array Slot) (H : Heap) (locs : List Loc) (hl : lv_has ls 4 [(0, .ref (ad 0)), (1, .int x1), (2, .int x2)]) (hP : va_P G vwCl ((s_WM cy ad) σ) H) (hS : va_S (s_A ad 12 s.heap.size) s.heap H locs) (hf : fX7_copies σ x1 x2 = some σe) : W p l e ({ frames := 0, cells := 0, slots := 0, locals := 0 } : Room) s m args below meth c H locs 0 0 (MQ below (s_Qv (s_WM cy ad) G (s_A ad 12 s.heap.size) σe) args s 0 0 (s_A ad 12 s.heap.size)) (F0 m 0 ls []) := by
  obtain ⟨hx, hb, hr, hml, hown, hts, hlk, hK, hE, hI⟩ := id C
  have hD : ∀ σ : Sg, va_D (s_A ad 12 s.heap.size) ((s_WM cy ad) σ) := fun σ => s_D (s_WM_ad cy ad σ) hI (fun k hk => Or.inl ⟨k, hk, rfl⟩)
  unfold fX7_copies at hf
  refine lv_iconst (v := 0) hx hb dX7_copies_0 (by decide) ?_
  refine lv_istore_n (lv' := [(3, .int (0 : Int32)), (0, .ref (ad 0)), (1, .int x1), (2, .int x2)]) hx hb dX7_copies_1 rfl hl (by decide) rfl (fun ls hl => ?_)
  exact kX7_copies_b2_L C s_fu σ x1 x2 (0 : Int32) _ _ _ (lv_sub hl [1, 2, 3, 0] rfl) hP hS hf
theorem kcX7_copies {l : Launch} {G : va_G} {cy : Nat → ClassId} {sa : Nat × Nat} {ad : Nat → Nat}  {sz : Nat} (hI : s_inj ad 12) (σ : Sg) (x1 : Int32) (x2 : Int32) {σe : Sg} (hf : fX7_copies σ x1 x2 = some σe) : Met l yX7_copies (kW yX7_copies cX7_copies 4 none) ({ frames := 0, cells := 0, slots := 0, locals := 0 } : Room) (s_P (s_WM cy ad) G cy sa ad 12 [.ref (ad 0), .int x1, .int x2] sz σ) (s_Qv (s_WM cy ad) G (s_A ad 12 sz) σe) 0 0 (s_A ad 12 sz) := by
  refine s_met (own := RX7) (by decide) rfl hI (Nat.le_of_ble_eq_true rfl) (fun p e s m below meth c ls hsz C hP hl => ?_)
  subst hsz
  exact kX7_copies C σ x1 x2 ls _ _ hl hP va_S.rf hf
set_option maxRecDepth 100000 in
set_option maxHeartbeats 4000000 in
theorem kX7_many (C : s_X p s m meth c args cX7_many (some .int) 1 RX7 G cy sa ad 12) (σ : Sg) (ls : Array Slot) (H : Heap) (locs : List Loc) (hl : lv_has ls 1 [(0, .ref (ad 0))]) (hP : va_P G vwCl ((s_WM cy ad) σ) H) (hS : va_S (s_A ad 12 s.heap.size) s.heap H locs) (hf : fX7_many σ = some (re, σe)) : W p l e ({ frames := 0, cells := 0, slots := 0, locals := 0 } : Room) s m args below meth c H locs 0 0 (MQ below (s_Qi (s_WM cy ad) G (s_A ad 12 s.heap.size) re σe) args s 0 0 (s_A ad 12 s.heap.size)) (F0 m 0 ls []) := by
  obtain ⟨hx, hb, hr, hml, hown, hts, hlk, hK, hE, hI⟩ := id C
  have hD : ∀ σ : Sg, va_D (s_A ad 12 s.heap.size) ((s_WM cy ad) σ) := fun σ => s_D (s_WM_ad cy ad σ) hI (fun k hk => Or.inl ⟨k, hk, rfl⟩)
  unfold fX7_many at hf
  refine lv_aload_n hx hb dX7_many_0 rfl (lv_at hl 0 rfl) ?_
  refine va_get (D := G) (ci := 7) (v := .ref (ad 1)) (C := RX7) (T := TX7) (N := 28) hx hb hts inkX7 hown hK hP 0 rfl rfl 0 (by decide) (hts _ kw_782) (fun _ h9 => h9) rfl dX7_many_1 ?_
  refine lv_bipush (v := 102) hx hb dX7_many_4 (by decide) ?_
  refine va_iald hx hb hK hP 1 1 rfl rfl (by unfold vp_in; decide) dX7_many_6 ?_
  rw [cl_102]
  obtain ⟨he1, he2⟩ := s_ret hf
  exact W.iret hx hb hr (fun t ht hW => ⟨⟨_, (), rfl, he1, s_fin (Wd := (s_WM cy ad)) ht he2 hP⟩, hS.F ht⟩) hS.2.2 dX7_many_7 hlk
theorem kcX7_many {l : Launch} {G : va_G} {cy : Nat → ClassId} {sa : Nat × Nat} {ad : Nat → Nat}  {sz : Nat} (hI : s_inj ad 12) (σ : Sg) {re : Int32} {σe : Sg} (hf : fX7_many σ = some (re, σe)) : Met l yX7_many (kW yX7_many cX7_many 1 (some .int)) ({ frames := 0, cells := 0, slots := 0, locals := 0 } : Room) (s_P (s_WM cy ad) G cy sa ad 12 [.ref (ad 0)] sz σ) (s_Qi (s_WM cy ad) G (s_A ad 12 sz) re σe) 0 0 (s_A ad 12 sz) := by
  refine s_met (own := RX7) (by decide) rfl hI (Nat.le_of_ble_eq_true rfl) (fun p e s m below meth c ls hsz C hP hl => ?_)
  subst hsz
  exact kX7_many C σ ls _ _ hl hP va_S.rf hf
set_option maxRecDepth 100000 in
set_option maxHeartbeats 4000000 in
theorem kX7_text_b51 (C : s_X p s m meth c args cX7_text (some .int) 1 RX7 G cy sa ad 12) (σ : Sg) (ls : Array Slot) (H : Heap) (locs : List Loc) (hl : lv_has ls 1 [(0, .ref (ad 0))]) (hP : va_P G vwCl ((s_WM cy ad) σ) H) (hS : va_S (s_A ad 12 s.heap.size) s.heap H locs) (hf : fX7_text_b51 σ = some (re, σe)) : W p l e ({ frames := 6, cells := 0, slots := 0, locals := 133 } : Room) s m args below meth c H locs 0 0 (MQ below (s_Qi (s_WM cy ad) G (s_A ad 12 s.heap.size) re σe) args s 0 0 (s_A ad 12 s.heap.size)) (F0 m 51 ls []) := by
  obtain ⟨hx, hb, hr, hml, hown, hts, hlk, hK, hE, hI⟩ := id C
  have hD : ∀ σ : Sg, va_D (s_A ad 12 s.heap.size) ((s_WM cy ad) σ) := fun σ => s_D (s_WM_ad cy ad σ) hI (fun k hk => Or.inl ⟨k, hk, rfl⟩)
  unfold fX7_text_b51 at hf
  refine lv_aload_n hx hb dX7_text_51 rfl (lv_at hl 0 rfl) ?_
  refine lv_iconst (v := 0) hx hb dX7_text_52 (by decide) ?_
  refine va_put (D := G) (ci := 7) (v := .int (0 : Int32)) (ty := .int) (C := RX7) (T := TX7) (N := 28) hx hb hts inkX7 tyX7 tyX7_ok nmX7 hown hK hP (hD _) hS 0 rfl rfl 3 (by decide) (hts _ kw_785) (fun _ h9 => h9) rfl (by decide +kernel) rfl rfl (Nat.le_of_ble_eq_true rfl) dX7_text_53 (fun H locs hP _ hS => ?_)
  obtain ⟨σ1, eσ1⟩ : ∃ z : Sg, z = (s_up σ 0 3 (0 : Int32)) := ⟨_, rfl⟩
  replace hf := s_lt_at eσ1 hf
  replace hP : va_P G vwCl ((s_WM cy ad) σ1) H := by rw [eσ1]; exact hP
  refine lv_aload_n hx hb dX7_text_56 rfl (lv_at hl 0 rfl) ?_
  refine lv_aload_n hx hb dX7_text_57 rfl (lv_at hl 0 rfl) ?_
  refine va_get (D := G) (ci := 7) (v := .int (σ1 0 5)) (C := RX7) (T := TX7) (N := 28) hx hb hts inkX7 hown hK hP 0 rfl rfl 5 (by decide) (hts _ kw_787) (fun _ h9 => h9) rfl dX7_text_58 ?_
  refine va_put (D := G) (ci := 7) (v := .int (σ1 0 5)) (ty := .int) (C := RX7) (T := TX7) (N := 28) hx hb hts inkX7 tyX7 tyX7_ok nmX7 hown hK hP (hD _) hS 0 rfl rfl 4 (by decide) (hts _ kw_786) (fun _ h9 => h9) rfl (by decide +kernel) rfl rfl (Nat.le_of_ble_eq_true rfl) dX7_text_61 (fun H locs hP _ hS => ?_)
  obtain ⟨σ2, eσ2⟩ : ∃ z : Sg, z = (s_up σ1 0 4 (σ1 0 5)) := ⟨_, rfl⟩
  replace hf := s_lt_at eσ2 hf
  replace hP : va_P G vwCl ((s_WM cy ad) σ2) H := by rw [eσ2]; exact hP
  refine lv_aload_n hx hb dX7_text_64 rfl (lv_at hl 0 rfl) ?_
  refine va_get (D := G) (ci := 7) (v := .int (σ2 0 5)) (C := RX7) (T := TX7) (N := 28) hx hb hts inkX7 hown hK hP 0 rfl rfl 5 (by decide) (hts _ kw_787) (fun _ h9 => h9) rfl dX7_text_65 ?_
  refine lv_if_le (tgt := 79) hx hb dX7_text_68 (by decide) (fun c3 => ?_) (fun c3 => ?_)
  · rw [if_pos c3] at hf
    refine lv_aload_n hx hb dX7_text_79 rfl (lv_at hl 0 rfl) ?_
    refine lv_sipush (v := 309) hx hb dX7_text_80 (by decide) ?_
    refine lv_iconst (v := 0) hx hb dX7_text_83 (by decide) ?_
    replace hf := s_bv_some hf
    obtain ⟨σ4, hz5, hf⟩ := hf
    refine s_callv (nn := 2) C (kcX7_copies (l := l) (G := G) (cy := cy) (sa := sa) hI (sz := H.size) σ2 (309 : Int32) (0 : Int32) hz5) gk_X7_137 rfl rfl (by decide +kernel) ⟨Nat.le_of_ble_eq_true rfl, Nat.le_of_ble_eq_true rfl⟩ hP hS (q0 := 0) (ci := 7) rfl rfl rfl (As := [.int (309 : Int32), .int (0 : Int32)]) (rest := []) rfl rfl hl.1 (Nat.le_of_ble_eq_true rfl) dX7_text_84 (fun H locs hP hS => ?_)
    refine lv_aload_n hx hb dX7_text_87 rfl (lv_at hl 0 rfl) ?_
    refine va_get (D := G) (ci := 7) (v := .ref (ad 8)) (C := RX7) (T := TX7) (N := 28) hx hb hts inkX7 hown hK hP 0 rfl rfl 23 (by decide) (hts _ kw_805) (fun _ h9 => h9) rfl dX7_text_88 ?_
    refine lv_iconst (v := 0) hx hb dX7_text_91 (by decide) ?_
    refine lv_iconst (v := 0) hx hb dX7_text_92 (by decide) ?_
    refine va_zast hx hb hK hP (hD _) hS 8 2 rfl rfl (by unfold vp_in; decide) dX7_text_93 (fun H locs hP _ hS => ?_)
    rw [cl_0] at hP
    obtain ⟨σ6, eσ6⟩ : ∃ z : Sg, z = (s_up σ4 8 0 (vp_nar .boolean (0 : Int32))) := ⟨_, rfl⟩
    replace hf := s_lt_at eσ6 hf
    replace hP : va_P G vwCl ((s_WM cy ad) σ6) H := by rw [eσ6]; exact hP
    refine lv_aload_n hx hb dX7_text_94 rfl (lv_at hl 0 rfl) ?_
    refine va_get (D := G) (ci := 7) (v := .ref (ad 8)) (C := RX7) (T := TX7) (N := 28) hx hb hts inkX7 hown hK hP 0 rfl rfl 23 (by decide) (hts _ kw_805) (fun _ h9 => h9) rfl dX7_text_95 ?_
    refine lv_iconst (v := 1) hx hb dX7_text_98 (by decide) ?_
    refine lv_iconst (v := 0) hx hb dX7_text_99 (by decide) ?_
    refine va_zast hx hb hK hP (hD _) hS 8 2 rfl rfl (by unfold vp_in; decide) dX7_text_100 (fun H locs hP _ hS => ?_)
    rw [cl_1] at hP
    obtain ⟨σ7, eσ7⟩ : ∃ z : Sg, z = (s_up σ6 8 1 (vp_nar .boolean (0 : Int32))) := ⟨_, rfl⟩
    replace hf := s_lt_at eσ7 hf
    replace hP : va_P G vwCl ((s_WM cy ad) σ7) H := by rw [eσ7]; exact hP
    refine lv_aload_n hx hb dX7_text_101 rfl (lv_at hl 0 rfl) ?_
    replace hf := s_bi_some hf
    obtain ⟨r10, σ8, hz9, hf⟩ := hf
    refine s_calli (nn := 0) C (kcX7_many (l := l) (G := G) (cy := cy) (sa := sa) hI (sz := H.size) σ7 hz9) gk_X7_141 rfl rfl (by decide +kernel) ⟨Nat.le_of_ble_eq_true rfl, Nat.le_of_ble_eq_true rfl⟩ hP hS (q0 := 0) (ci := 7) rfl rfl rfl (As := []) (rest := []) rfl rfl hl.1 (Nat.le_of_ble_eq_true rfl) dX7_text_102 (fun H locs hP hS => ?_)
    obtain ⟨he1, he2⟩ := s_ret hf
    exact W.iret hx hb hr (fun t ht hW => ⟨⟨_, (), rfl, he1, s_fin (Wd := (s_WM cy ad)) ht he2 hP⟩, hS.F ht⟩) hS.2.2 dX7_text_105 hlk
  · rw [if_neg c3] at hf
    refine lv_bipush (v := -10) hx hb dX7_text_71 (by decide) ?_
    refine lv_aload_n hx hb dX7_text_73 rfl (lv_at hl 0 rfl) ?_
    refine va_get (D := G) (ci := 7) (v := .int (σ2 0 6)) (C := RX7) (T := TX7) (N := 28) hx hb hts inkX7 hown hK hP 0 rfl rfl 6 (by decide) (hts _ kw_788) (fun _ h9 => h9) rfl dX7_text_74 ?_
    refine lv_isub hx hb dX7_text_77 ?_
    obtain ⟨he1, he2⟩ := s_ret hf
    exact W.iret hx hb hr (fun t ht hW => ⟨⟨_, (), rfl, he1, s_fin (Wd := (s_WM cy ad)) ht he2 hP⟩, hS.F ht⟩) hS.2.2 dX7_text_78 hlk
set_option maxRecDepth 100000 in
set_option maxHeartbeats 4000000 in
theorem kX7_text_b30 (C : s_X p s m meth c args cX7_text (some .int) 1 RX7 G cy sa ad 12) (k30 : Sg → Option (Int32 × Sg)) (hk30 : ∀ (σ : Sg) (ls : Array Slot) (H : Heap) (locs : List Loc), lv_has ls 1 [(0, .ref (ad 0))] → va_P G vwCl ((s_WM cy ad) σ) H → va_S (s_A ad 12 s.heap.size) s.heap H locs → k30 σ = some (re, σe) → W p l e ({ frames := 6, cells := 0, slots := 0, locals := 133 } : Room) s m args below meth c H locs 0 0 (MQ below (s_Qi (s_WM cy ad) G (s_A ad 12 s.heap.size) re σe) args s 0 0 (s_A ad 12 s.heap.size)) (F0 m 30 ls [])) (σ : Sg) (ls : Array Slot) (H : Heap) (locs : List Loc) (hl : lv_has ls 1 [(0, .ref (ad 0))]) (hP : va_P G vwCl ((s_WM cy ad) σ) H) (hS : va_S (s_A ad 12 s.heap.size) s.heap H locs) (hf : fX7_text_b30 k30 σ = some (re, σe)) : W p l e ({ frames := 6, cells := 0, slots := 0, locals := 133 } : Room) s m args below meth c H locs 0 0 (MQ below (s_Qi (s_WM cy ad) G (s_A ad 12 s.heap.size) re σe) args s 0 0 (s_A ad 12 s.heap.size)) (F0 m 30 ls []) := by
  obtain ⟨hx, hb, hr, hml, hown, hts, hlk, hK, hE, hI⟩ := id C
  have hD : ∀ σ : Sg, va_D (s_A ad 12 s.heap.size) ((s_WM cy ad) σ) := fun σ => s_D (s_WM_ad cy ad σ) hI (fun k hk => Or.inl ⟨k, hk, rfl⟩)
  unfold fX7_text_b30 at hf
  refine lv_aload_n hx hb dX7_text_30 rfl (lv_at hl 0 rfl) ?_
  refine va_get (D := G) (ci := 7) (v := .int (σ 0 5)) (C := RX7) (T := TX7) (N := 28) hx hb hts inkX7 hown hK hP 0 rfl rfl 5 (by decide) (hts _ kw_787) (fun _ h9 => h9) rfl dX7_text_31 ?_
  refine lv_if_ne (tgt := 51) hx hb dX7_text_34 (by decide) (fun c1 => ?_) (fun c1 => ?_)
  · rw [if_neg c1] at hf
    exact kX7_text_b51 C σ _ _ _ (lv_sub hl [0] rfl) hP hS hf
  · rw [if_pos c1] at hf
    refine lv_aload_n hx hb dX7_text_37 rfl (lv_at hl 0 rfl) ?_
    refine va_get (D := G) (ci := 7) (v := .int (σ 0 9)) (C := RX7) (T := TX7) (N := 28) hx hb hts inkX7 hown hK hP 0 rfl rfl 9 (by decide) (hts _ kw_791) (fun _ h9 => h9) rfl dX7_text_38 ?_
    refine lv_if_eq (tgt := 51) hx hb dX7_text_41 (by decide) (fun c2 => ?_) (fun c2 => ?_)
    · rw [if_pos c2] at hf
      exact kX7_text_b51 C σ _ _ _ (lv_sub hl [0] rfl) hP hS hf
    · rw [if_neg c2] at hf
      refine lv_aload_n hx hb dX7_text_44 rfl (lv_at hl 0 rfl) ?_
      replace hf := s_bv_some hf
      obtain ⟨σ3, hz4, hf⟩ := hf
      refine s_callv (nn := 0) C (kcX7_readLine (l := l) (G := G) (cy := cy) (sa := sa) hI (sz := H.size) σ hz4) gk_X7_131 rfl rfl (by decide +kernel) ⟨Nat.le_of_ble_eq_true rfl, Nat.le_of_ble_eq_true rfl⟩ hP hS (q0 := 0) (ci := 7) rfl rfl rfl (As := []) (rest := []) rfl rfl hl.1 (Nat.le_of_ble_eq_true rfl) dX7_text_45 (fun H locs hP hS => ?_)
      refine lv_goto (tgt := 30) hx hb dX7_text_48 (by decide) ?_
      exact hk30 σ3 _ _ _ (lv_sub hl [0] rfl) hP hS hf
set_option maxRecDepth 100000 in
set_option maxHeartbeats 4000000 in
theorem kX7_text_b30_L (C : s_X p s m meth c args cX7_text (some .int) 1 RX7 G cy sa ad 12) : ∀ (n : Nat), ∀ (σ : Sg) (ls : Array Slot) (H : Heap) (locs : List Loc), lv_has ls 1 [(0, .ref (ad 0))] → va_P G vwCl ((s_WM cy ad) σ) H → va_S (s_A ad 12 s.heap.size) s.heap H locs → fX7_text_b30_L n σ = some (re, σe) → W p l e ({ frames := 6, cells := 0, slots := 0, locals := 133 } : Room) s m args below meth c H locs 0 0 (MQ below (s_Qi (s_WM cy ad) G (s_A ad 12 s.heap.size) re σe) args s 0 0 (s_A ad 12 s.heap.size)) (F0 m 30 ls []) := by
  intro n
  induction n with
  | zero => intro σ  ls H locs hl hP hS hf; exact absurd (show (none : Option (Int32 × Sg)) = some (re, σe) from hf) (by intro h; cases h)
  | succ n ih => intro σ  ls H locs hl hP hS hf; exact kX7_text_b30 C (fX7_text_b30_L n) ih σ  ls H locs hl hP hS hf
set_option maxRecDepth 100000 in
set_option maxHeartbeats 4000000 in
theorem kX7_text (C : s_X p s m meth c args cX7_text (some .int) 1 RX7 G cy sa ad 12) (σ : Sg) (ls : Array Slot) (H : Heap) (locs : List Loc) (hl : lv_has ls 1 [(0, .ref (ad 0))]) (hP : va_P G vwCl ((s_WM cy ad) σ) H) (hS : va_S (s_A ad 12 s.heap.size) s.heap H locs) (hf : fX7_text σ = some (re, σe)) : W p l e ({ frames := 6, cells := 0, slots := 0, locals := 133 } : Room) s m args below meth c H locs 0 0 (MQ below (s_Qi (s_WM cy ad) G (s_A ad 12 s.heap.size) re σe) args s 0 0 (s_A ad 12 s.heap.size)) (F0 m 0 ls []) := by
  obtain ⟨hx, hb, hr, hml, hown, hts, hlk, hK, hE, hI⟩ := id C
  have hD : ∀ σ : Sg, va_D (s_A ad 12 s.heap.size) ((s_WM cy ad) σ) := fun σ => s_D (s_WM_ad cy ad σ) hI (fun k hk => Or.inl ⟨k, hk, rfl⟩)
  unfold fX7_text at hf
  refine lv_aload_n hx hb dX7_text_0 rfl (lv_at hl 0 rfl) ?_
  replace hf := s_bv_some hf
  obtain ⟨σ1, hz2, hf⟩ := hf
  refine s_callv (nn := 0) C (kcX7_starts (l := l) (G := G) (cy := cy) (sa := sa) hI (sz := H.size) σ hz2) gk_X7_128 rfl rfl (by decide +kernel) ⟨Nat.le_of_ble_eq_true rfl, Nat.le_of_ble_eq_true rfl⟩ hP hS (q0 := 0) (ci := 7) rfl rfl rfl (As := []) (rest := []) rfl rfl hl.1 (Nat.le_of_ble_eq_true rfl) dX7_text_1 (fun H locs hP hS => ?_)
  refine lv_aload_n hx hb dX7_text_4 rfl (lv_at hl 0 rfl) ?_
  refine lv_iconst (v := 0) hx hb dX7_text_5 (by decide) ?_
  refine va_put (D := G) (ci := 7) (v := .int (0 : Int32)) (ty := .int) (C := RX7) (T := TX7) (N := 28) hx hb hts inkX7 tyX7 tyX7_ok nmX7 hown hK hP (hD _) hS 0 rfl rfl 5 (by decide) (hts _ kw_787) (fun _ h9 => h9) rfl (by decide +kernel) rfl rfl (Nat.le_of_ble_eq_true rfl) dX7_text_6 (fun H locs hP _ hS => ?_)
  obtain ⟨σ3, eσ3⟩ : ∃ z : Sg, z = (s_up σ1 0 5 (0 : Int32)) := ⟨_, rfl⟩
  replace hf := s_lt_at eσ3 hf
  replace hP : va_P G vwCl ((s_WM cy ad) σ3) H := by rw [eσ3]; exact hP
  refine lv_aload_n hx hb dX7_text_9 rfl (lv_at hl 0 rfl) ?_
  refine lv_iconst (v := 0) hx hb dX7_text_10 (by decide) ?_
  refine va_put (D := G) (ci := 7) (v := .int (0 : Int32)) (ty := .int) (C := RX7) (T := TX7) (N := 28) hx hb hts inkX7 tyX7 tyX7_ok nmX7 hown hK hP (hD _) hS 0 rfl rfl 7 (by decide) (hts _ kw_789) (fun _ h9 => h9) rfl (by decide +kernel) rfl rfl (Nat.le_of_ble_eq_true rfl) dX7_text_11 (fun H locs hP _ hS => ?_)
  obtain ⟨σ4, eσ4⟩ : ∃ z : Sg, z = (s_up σ3 0 7 (0 : Int32)) := ⟨_, rfl⟩
  replace hf := s_lt_at eσ4 hf
  replace hP : va_P G vwCl ((s_WM cy ad) σ4) H := by rw [eσ4]; exact hP
  refine lv_aload_n hx hb dX7_text_14 rfl (lv_at hl 0 rfl) ?_
  refine lv_iconst (v := 0) hx hb dX7_text_15 (by decide) ?_
  refine va_put (D := G) (ci := 7) (v := .int (0 : Int32)) (ty := .int) (C := RX7) (T := TX7) (N := 28) hx hb hts inkX7 tyX7 tyX7_ok nmX7 hown hK hP (hD _) hS 0 rfl rfl 11 (by decide) (hts _ kw_793) (fun _ h9 => h9) rfl (by decide +kernel) rfl rfl (Nat.le_of_ble_eq_true rfl) dX7_text_16 (fun H locs hP _ hS => ?_)
  obtain ⟨σ5, eσ5⟩ : ∃ z : Sg, z = (s_up σ4 0 11 (0 : Int32)) := ⟨_, rfl⟩
  replace hf := s_lt_at eσ5 hf
  replace hP : va_P G vwCl ((s_WM cy ad) σ5) H := by rw [eσ5]; exact hP
  refine lv_aload_n hx hb dX7_text_19 rfl (lv_at hl 0 rfl) ?_
  refine lv_sipush (v := 309) hx hb dX7_text_20 (by decide) ?_
  replace hf := s_bv_some hf
  obtain ⟨σ6, hz7, hf⟩ := hf
  refine s_callv (nn := 1) C (kcX7_begins (l := l) (G := G) (cy := cy) (sa := sa) hI (sz := H.size) σ5 (309 : Int32) hz7) gk_X7_48 rfl rfl (by decide +kernel) ⟨Nat.le_of_ble_eq_true rfl, Nat.le_of_ble_eq_true rfl⟩ hP hS (q0 := 0) (ci := 7) rfl rfl rfl (As := [.int (309 : Int32)]) (rest := []) rfl rfl hl.1 (Nat.le_of_ble_eq_true rfl) dX7_text_23 (fun H locs hP hS => ?_)
  refine lv_aload_n hx hb dX7_text_26 rfl (lv_at hl 0 rfl) ?_
  replace hf := s_bv_some hf
  obtain ⟨σ8, hz9, hf⟩ := hf
  refine s_callv (nn := 0) C (kcX7_readsOn (l := l) (G := G) (cy := cy) (sa := sa) hI (sz := H.size) σ6 hz9) gk_X7_95 rfl rfl (by decide +kernel) ⟨Nat.le_of_ble_eq_true rfl, Nat.le_of_ble_eq_true rfl⟩ hP hS (q0 := 0) (ci := 7) rfl rfl rfl (As := []) (rest := []) rfl rfl hl.1 (Nat.le_of_ble_eq_true rfl) dX7_text_27 (fun H locs hP hS => ?_)
  exact kX7_text_b30_L C s_fu σ8 _ _ _ (lv_sub hl [0] rfl) hP hS hf
theorem kcX7_text {l : Launch} {G : va_G} {cy : Nat → ClassId} {sa : Nat × Nat} {ad : Nat → Nat}  {sz : Nat} (hI : s_inj ad 12) (σ : Sg) {re : Int32} {σe : Sg} (hf : fX7_text σ = some (re, σe)) : Met l yX7_text (kW yX7_text cX7_text 1 (some .int)) ({ frames := 6, cells := 0, slots := 0, locals := 133 } : Room) (s_P (s_WM cy ad) G cy sa ad 12 [.ref (ad 0)] sz σ) (s_Qi (s_WM cy ad) G (s_A ad 12 sz) re σe) 0 0 (s_A ad 12 sz) := by
  refine s_met (own := RX7) (by decide) rfl hI (Nat.le_of_ble_eq_true rfl) (fun p e s m below meth c ls hsz C hP hl => ?_)
  subst hsz
  exact kX7_text C σ ls _ _ hl hP va_S.rf hf
set_option maxRecDepth 100000 in
set_option maxHeartbeats 4000000 in
theorem kX7_fault (C : s_X p s m meth c args cX7_fault (some .int) 1 RX7 G cy sa ad 12) (σ : Sg) (ls : Array Slot) (H : Heap) (locs : List Loc) (hl : lv_has ls 1 [(0, .ref (ad 0))]) (hP : va_P G vwCl ((s_WM cy ad) σ) H) (hS : va_S (s_A ad 12 s.heap.size) s.heap H locs) (hf : fX7_fault σ = some (re, σe)) : W p l e ({ frames := 0, cells := 0, slots := 0, locals := 0 } : Room) s m args below meth c H locs 0 0 (MQ below (s_Qi (s_WM cy ad) G (s_A ad 12 s.heap.size) re σe) args s 0 0 (s_A ad 12 s.heap.size)) (F0 m 0 ls []) := by
  obtain ⟨hx, hb, hr, hml, hown, hts, hlk, hK, hE, hI⟩ := id C
  have hD : ∀ σ : Sg, va_D (s_A ad 12 s.heap.size) ((s_WM cy ad) σ) := fun σ => s_D (s_WM_ad cy ad σ) hI (fun k hk => Or.inl ⟨k, hk, rfl⟩)
  unfold fX7_fault at hf
  refine lv_aload_n hx hb dX7_fault_0 rfl (lv_at hl 0 rfl) ?_
  refine va_get (D := G) (ci := 7) (v := .int (σ 0 4)) (C := RX7) (T := TX7) (N := 28) hx hb hts inkX7 hown hK hP 0 rfl rfl 4 (by decide) (hts _ kw_786) (fun _ h9 => h9) rfl dX7_fault_1 ?_
  obtain ⟨he1, he2⟩ := s_ret hf
  exact W.iret hx hb hr (fun t ht hW => ⟨⟨_, (), rfl, he1, s_fin (Wd := (s_WM cy ad)) ht he2 hP⟩, hS.F ht⟩) hS.2.2 dX7_fault_4 hlk
theorem kcX7_fault {l : Launch} {G : va_G} {cy : Nat → ClassId} {sa : Nat × Nat} {ad : Nat → Nat}  {sz : Nat} (hI : s_inj ad 12) (σ : Sg) {re : Int32} {σe : Sg} (hf : fX7_fault σ = some (re, σe)) : Met l yX7_fault (kW yX7_fault cX7_fault 1 (some .int)) ({ frames := 0, cells := 0, slots := 0, locals := 0 } : Room) (s_P (s_WM cy ad) G cy sa ad 12 [.ref (ad 0)] sz σ) (s_Qi (s_WM cy ad) G (s_A ad 12 sz) re σe) 0 0 (s_A ad 12 sz) := by
  refine s_met (own := RX7) (by decide) rfl hI (Nat.le_of_ble_eq_true rfl) (fun p e s m below meth c ls hsz C hP hl => ?_)
  subst hsz
  exact kX7_fault C σ ls _ _ hl hP va_S.rf hf
set_option maxRecDepth 100000 in
set_option maxHeartbeats 4000000 in
theorem kX7_isThere (C : s_X p s m meth c args cX7_isThere (some .boolean) 2 RX7 G cy sa ad 12) (σ : Sg) (x1 : Int32) (ls : Array Slot) (H : Heap) (locs : List Loc) (hl : lv_has ls 2 [(0, .ref (ad 0)), (1, .int x1)]) (hP : va_P G vwCl ((s_WM cy ad) σ) H) (hS : va_S (s_A ad 12 s.heap.size) s.heap H locs) (hf : fX7_isThere σ x1 = some (re, σe)) : W p l e ({ frames := 2, cells := 0, slots := 0, locals := 41 } : Room) s m args below meth c H locs 0 0 (MQ below (s_Qi (s_WM cy ad) G (s_A ad 12 s.heap.size) re σe) args s 0 0 (s_A ad 12 s.heap.size)) (F0 m 0 ls []) := by
  obtain ⟨hx, hb, hr, hml, hown, hts, hlk, hK, hE, hI⟩ := id C
  have hD : ∀ σ : Sg, va_D (s_A ad 12 s.heap.size) ((s_WM cy ad) σ) := fun σ => s_D (s_WM_ad cy ad σ) hI (fun k hk => Or.inl ⟨k, hk, rfl⟩)
  unfold fX7_isThere at hf
  refine lv_aload_n hx hb dX7_isThere_0 rfl (lv_at hl 0 rfl) ?_
  replace hf := s_bv_some hf
  obtain ⟨σ1, hz2, hf⟩ := hf
  refine s_callv (nn := 0) C (kcX7_starts (l := l) (G := G) (cy := cy) (sa := sa) hI (sz := H.size) σ hz2) gk_X7_128 rfl rfl (by decide +kernel) ⟨Nat.le_of_ble_eq_true rfl, Nat.le_of_ble_eq_true rfl⟩ hP hS (q0 := 0) (ci := 7) rfl rfl rfl (As := []) (rest := []) rfl rfl hl.1 (Nat.le_of_ble_eq_true rfl) dX7_isThere_1 (fun H locs hP hS => ?_)
  refine lv_iload_n hx hb dX7_isThere_4 rfl (lv_at hl 1 rfl) ?_
  refine lv_i2l (v := (Int32.toInt64 x1)) hx hb dX7_isThere_5 rfl ?_
  refine lv_lconst (v := 0) hx hb dX7_isThere_6 (by decide) ?_
  refine lv_aload_n hx hb dX7_isThere_7 rfl (lv_at hl 0 rfl) ?_
  replace hf := s_bi_some hf
  obtain ⟨r5, σ3, hz4, hf⟩ := hf
  refine s_calli (nn := 0) C (kcX7_many (l := l) (G := G) (cy := cy) (sa := sa) hI (sz := H.size) σ1 hz4) gk_X7_141 rfl rfl (by decide +kernel) ⟨Nat.le_of_ble_eq_true rfl, Nat.le_of_ble_eq_true rfl⟩ hP hS (q0 := 0) (ci := 7) rfl rfl rfl (As := []) (rest := [.long (0 : Int64), .long (Int32.toInt64 x1)]) rfl rfl hl.1 (Nat.le_of_ble_eq_true rfl) dX7_isThere_8 (fun H locs hP hS => ?_)
  refine lv_iconst (v := 1) hx hb dX7_isThere_11 (by decide) ?_
  refine lv_isub hx hb dX7_isThere_12 ?_
  refine lv_i2l (v := (Int32.toInt64 (r5 - (1 : Int32)))) hx hb dX7_isThere_13 rfl ?_
  replace hf := s_bi_some hf
  obtain ⟨r8, σ6, hz7, hf⟩ := hf
  refine s_calliS (nn := 3) C (kcX7_in (l := l) (G := G) (cy := cy) (sa := sa) hI (sz := H.size) σ3 (Int32.toInt64 x1) (0 : Int64) (Int32.toInt64 (r5 - (1 : Int32))) hz7) gk_X7_54 rfl rfl (by decide +kernel) ⟨Nat.le_of_ble_eq_true rfl, Nat.le_of_ble_eq_true rfl⟩ hP hS (As := [.long (Int32.toInt64 x1), .long (0 : Int64), .long (Int32.toInt64 (r5 - (1 : Int32)))]) (rest := []) rfl rfl hl.1 (Nat.le_of_ble_eq_true rfl) dX7_isThere_14 (fun H locs hP hS => ?_)
  replace hf := s_gd_some hf
  obtain ⟨g9, hf⟩ := hf
  obtain ⟨he1, he2⟩ := s_ret hf
  exact W.zret hx hb hr (s_z_nar g9) (fun t ht hW => ⟨⟨_, (), rfl, he1, s_fin (Wd := (s_WM cy ad)) ht he2 hP⟩, hS.F ht⟩) hS.2.2 dX7_isThere_17 hlk
theorem kcX7_isThere {l : Launch} {G : va_G} {cy : Nat → ClassId} {sa : Nat × Nat} {ad : Nat → Nat}  {sz : Nat} (hI : s_inj ad 12) (σ : Sg) (x1 : Int32) {re : Int32} {σe : Sg} (hf : fX7_isThere σ x1 = some (re, σe)) : Met l yX7_isThere (kW yX7_isThere cX7_isThere 2 (some .boolean)) ({ frames := 2, cells := 0, slots := 0, locals := 41 } : Room) (s_P (s_WM cy ad) G cy sa ad 12 [.ref (ad 0), .int x1] sz σ) (s_Qi (s_WM cy ad) G (s_A ad 12 sz) re σe) 0 0 (s_A ad 12 sz) := by
  refine s_met (own := RX7) (by decide) rfl hI (Nat.le_of_ble_eq_true rfl) (fun p e s m below meth c ls hsz C hP hl => ?_)
  subst hsz
  exact kX7_isThere C σ x1 ls _ _ hl hP va_S.rf hf
set_option maxRecDepth 100000 in
set_option maxHeartbeats 4000000 in
theorem kX7_puts_5_b29 (C : s_X p s m meth c args cX7_puts none 4 RX7 G cy sa ad 12) (σ : Sg) (x2 : Int32) (x3 : Int32) (ls : Array Slot) (H : Heap) (locs : List Loc) (hl : lv_has ls 4 [(0, .ref (ad 5)), (2, .int x2), (3, .int x3)]) (hP : va_P G vwCl ((s_WM cy ad) σ) H) (hS : va_S (s_A ad 12 s.heap.size) s.heap H locs) (hf : fX7_puts_5_b29 σ x2 x3 = some σe) : W p l e ({ frames := 0, cells := 0, slots := 0, locals := 0 } : Room) s m args below meth c H locs 0 0 (MQ below (s_Qv (s_WM cy ad) G (s_A ad 12 s.heap.size) σe) args s 0 0 (s_A ad 12 s.heap.size)) (F0 m 29 ls []) := by
  obtain ⟨hx, hb, hr, hml, hown, hts, hlk, hK, hE, hI⟩ := id C
  have hD : ∀ σ : Sg, va_D (s_A ad 12 s.heap.size) ((s_WM cy ad) σ) := fun σ => s_D (s_WM_ad cy ad σ) hI (fun k hk => Or.inl ⟨k, hk, rfl⟩)
  unfold fX7_puts_5_b29 at hf
  refine lv_aload_n hx hb dX7_puts_29 rfl (lv_at hl 0 rfl) ?_
  refine lv_iload_n hx hb dX7_puts_30 rfl (lv_at hl 2 rfl) ?_
  refine lv_iload_n hx hb dX7_puts_31 rfl (lv_at hl 1 rfl) ?_
  replace hf := s_gd_some hf
  obtain ⟨g1, hf⟩ := hf
  refine va_iast hx hb hK hP (hD _) hS 5 1 rfl rfl (s_in_of g1) dX7_puts_32 (fun H locs hP _ hS => ?_)
  obtain ⟨σ2, eσ2⟩ : ∃ z : Sg, z = (s_up σ 5 (Int32.toNatClampNeg x3) x2) := ⟨_, rfl⟩
  replace hf := s_lt_at eσ2 hf
  replace hP : va_P G vwCl ((s_WM cy ad) σ2) H := by rw [eσ2]; exact hP
  have he2 := Option.some.inj hf
  exact W.vret hx hb hr (fun t ht hW => ⟨⟨(), rfl, trivial, s_fin (Wd := (s_WM cy ad)) ht he2 hP⟩, hS.F ht⟩) hS.2.2 dX7_puts_33 hlk
set_option maxRecDepth 100000 in
set_option maxHeartbeats 4000000 in
theorem kX7_puts_5_b2 (C : s_X p s m meth c args cX7_puts none 4 RX7 G cy sa ad 12) (k2 : Sg → Int32 → Int32 → Option Sg) (hk2 : ∀ (σ : Sg) (x2 : Int32) (x3 : Int32) (ls : Array Slot) (H : Heap) (locs : List Loc), lv_has ls 4 [(0, .ref (ad 5)), (2, .int x2), (3, .int x3)] → va_P G vwCl ((s_WM cy ad) σ) H → va_S (s_A ad 12 s.heap.size) s.heap H locs → k2 σ x2 x3 = some σe → W p l e ({ frames := 0, cells := 0, slots := 0, locals := 0 } : Room) s m args below meth c H locs 0 0 (MQ below (s_Qv (s_WM cy ad) G (s_A ad 12 s.heap.size) σe) args s 0 0 (s_A ad 12 s.heap.size)) (F0 m 2 ls [])) (σ : Sg) (x2 : Int32) (x3 : Int32) (ls : Array Slot) (H : Heap) (locs : List Loc) (hl : lv_has ls 4 [(0, .ref (ad 5)), (2, .int x2), (3, .int x3)]) (hP : va_P G vwCl ((s_WM cy ad) σ) H) (hS : va_S (s_A ad 12 s.heap.size) s.heap H locs) (hf : fX7_puts_5_b2 k2 σ x2 x3 = some σe) : W p l e ({ frames := 0, cells := 0, slots := 0, locals := 0 } : Room) s m args below meth c H locs 0 0 (MQ below (s_Qv (s_WM cy ad) G (s_A ad 12 s.heap.size) σe) args s 0 0 (s_A ad 12 s.heap.size)) (F0 m 2 ls []) := by
  obtain ⟨hx, hb, hr, hml, hown, hts, hlk, hK, hE, hI⟩ := id C
  have hD : ∀ σ : Sg, va_D (s_A ad 12 s.heap.size) ((s_WM cy ad) σ) := fun σ => s_D (s_WM_ad cy ad σ) hI (fun k hk => Or.inl ⟨k, hk, rfl⟩)
  unfold fX7_puts_5_b2 at hf
  refine lv_iload_n hx hb dX7_puts_2 rfl (lv_at hl 2 rfl) ?_
  refine lv_if_le (tgt := 29) hx hb dX7_puts_3 (by decide) (fun c1 => ?_) (fun c1 => ?_)
  · rw [if_pos c1] at hf
    exact kX7_puts_5_b29 C σ x2 x3 _ _ _ (lv_sub hl [0, 1, 2] rfl) hP hS hf
  · rw [if_neg c1] at hf
    refine lv_aload_n hx hb dX7_puts_6 rfl (lv_at hl 0 rfl) ?_
    refine lv_iload_n hx hb dX7_puts_7 rfl (lv_at hl 2 rfl) ?_
    refine lv_iconst (v := 1) hx hb dX7_puts_8 (by decide) ?_
    refine lv_isub hx hb dX7_puts_9 ?_
    replace hf := s_gd_some hf
    obtain ⟨g2, hf⟩ := hf
    refine va_iald hx hb hK hP 5 1 rfl rfl (s_in_of g2) dX7_puts_10 ?_
    refine lv_iload_n hx hb dX7_puts_11 rfl (lv_at hl 1 rfl) ?_
    refine lv_icmp_le (tgt := 29) hx hb dX7_puts_12 (by decide) (fun c3 => ?_) (fun c3 => ?_)
    · rw [if_pos c3] at hf
      exact kX7_puts_5_b29 C σ x2 x3 _ _ _ (lv_sub hl [0, 1, 2] rfl) hP hS hf
    · rw [if_neg c3] at hf
      refine lv_aload_n hx hb dX7_puts_15 rfl (lv_at hl 0 rfl) ?_
      refine lv_iload_n hx hb dX7_puts_16 rfl (lv_at hl 2 rfl) ?_
      refine lv_aload_n hx hb dX7_puts_17 rfl (lv_at hl 0 rfl) ?_
      refine lv_iload_n hx hb dX7_puts_18 rfl (lv_at hl 2 rfl) ?_
      refine lv_iconst (v := 1) hx hb dX7_puts_19 (by decide) ?_
      refine lv_isub hx hb dX7_puts_20 ?_
      replace hf := s_gd_some hf
      obtain ⟨g4, hf⟩ := hf
      refine va_iald hx hb hK hP 5 1 rfl rfl (s_in_of g4) dX7_puts_21 ?_
      replace hf := s_gd_some hf
      obtain ⟨g5, hf⟩ := hf
      refine va_iast hx hb hK hP (hD _) hS 5 1 rfl rfl (s_in_of g5) dX7_puts_22 (fun H locs hP _ hS => ?_)
      obtain ⟨σ6, eσ6⟩ : ∃ z : Sg, z = (s_up σ 5 (Int32.toNatClampNeg x3) (σ 5 (Int32.toNatClampNeg (x3 - (1 : Int32))))) := ⟨_, rfl⟩
      replace hf := s_lt_at eσ6 hf
      replace hP : va_P G vwCl ((s_WM cy ad) σ6) H := by rw [eσ6]; exact hP
      obtain ⟨t7, et7⟩ : ∃ z : Int32, z = (x3 + (-1)) := ⟨_, rfl⟩
      replace hf := s_lt_at et7 hf
      refine lv_iinc (v := t7) (lv' := [(3, .int t7), (0, .ref (ad 5)), (2, .int x2)]) hx hb dX7_puts_23 hl (k := 2) rfl (by rw [et7]; rfl) (by decide) rfl (fun ls hl => ?_)
      refine lv_goto (tgt := 2) hx hb dX7_puts_26 (by decide) ?_
      exact hk2 σ6 x2 t7 _ _ _ (lv_sub hl [1, 2, 0] rfl) hP hS hf
set_option maxRecDepth 100000 in
set_option maxHeartbeats 4000000 in
theorem kX7_puts_5_b2_L (C : s_X p s m meth c args cX7_puts none 4 RX7 G cy sa ad 12) : ∀ (n : Nat), ∀ (σ : Sg) (x2 : Int32) (x3 : Int32) (ls : Array Slot) (H : Heap) (locs : List Loc), lv_has ls 4 [(0, .ref (ad 5)), (2, .int x2), (3, .int x3)] → va_P G vwCl ((s_WM cy ad) σ) H → va_S (s_A ad 12 s.heap.size) s.heap H locs → fX7_puts_5_b2_L n σ x2 x3 = some σe → W p l e ({ frames := 0, cells := 0, slots := 0, locals := 0 } : Room) s m args below meth c H locs 0 0 (MQ below (s_Qv (s_WM cy ad) G (s_A ad 12 s.heap.size) σe) args s 0 0 (s_A ad 12 s.heap.size)) (F0 m 2 ls []) := by
  intro n
  induction n with
  | zero => intro σ x2 x3 ls H locs hl hP hS hf; exact absurd (show (none : Option Sg) = some σe from hf) (by intro h; cases h)
  | succ n ih => intro σ x2 x3 ls H locs hl hP hS hf; exact kX7_puts_5_b2 C (fX7_puts_5_b2_L n) ih σ x2 x3 ls H locs hl hP hS hf
set_option maxRecDepth 100000 in
set_option maxHeartbeats 4000000 in
theorem kX7_puts_5 (C : s_X p s m meth c args cX7_puts none 4 RX7 G cy sa ad 12) (σ : Sg) (x1 : Int32) (x2 : Int32) (ls : Array Slot) (H : Heap) (locs : List Loc) (hl : lv_has ls 4 [(0, .ref (ad 5)), (1, .int x1), (2, .int x2)]) (hP : va_P G vwCl ((s_WM cy ad) σ) H) (hS : va_S (s_A ad 12 s.heap.size) s.heap H locs) (hf : fX7_puts_5 σ x1 x2 = some σe) : W p l e ({ frames := 0, cells := 0, slots := 0, locals := 0 } : Room) s m args below meth c H locs 0 0 (MQ below (s_Qv (s_WM cy ad) G (s_A ad 12 s.heap.size) σe) args s 0 0 (s_A ad 12 s.heap.size)) (F0 m 0 ls []) := by
  obtain ⟨hx, hb, hr, hml, hown, hts, hlk, hK, hE, hI⟩ := id C
  have hD : ∀ σ : Sg, va_D (s_A ad 12 s.heap.size) ((s_WM cy ad) σ) := fun σ => s_D (s_WM_ad cy ad σ) hI (fun k hk => Or.inl ⟨k, hk, rfl⟩)
  unfold fX7_puts_5 at hf
  refine lv_iload_n hx hb dX7_puts_0 rfl (lv_at hl 1 rfl) ?_
  refine lv_istore_n (lv' := [(3, .int x1), (0, .ref (ad 5)), (1, .int x1), (2, .int x2)]) hx hb dX7_puts_1 rfl hl (by decide) rfl (fun ls hl => ?_)
  exact kX7_puts_5_b2_L C s_fu σ x2 x1 _ _ _ (lv_sub hl [1, 3, 0] rfl) hP hS hf
theorem kcX7_puts_5 {l : Launch} {G : va_G} {cy : Nat → ClassId} {sa : Nat × Nat} {ad : Nat → Nat}  {sz : Nat} (hI : s_inj ad 12) (σ : Sg) (x1 : Int32) (x2 : Int32) {σe : Sg} (hf : fX7_puts_5 σ x1 x2 = some σe) : Met l yX7_puts (kW yX7_puts cX7_puts 4 none) ({ frames := 0, cells := 0, slots := 0, locals := 0 } : Room) (s_P (s_WM cy ad) G cy sa ad 12 [.ref (ad 5), .int x1, .int x2] sz σ) (s_Qv (s_WM cy ad) G (s_A ad 12 sz) σe) 0 0 (s_A ad 12 sz) := by
  refine s_met (own := RX7) (by decide) rfl hI (Nat.le_of_ble_eq_true rfl) (fun p e s m below meth c ls hsz C hP hl => ?_)
  subst hsz
  exact kX7_puts_5 C σ x1 x2 ls _ _ hl hP va_S.rf hf
set_option maxRecDepth 100000 in
set_option maxHeartbeats 4000000 in
theorem kX7_rowOf_b70 (C : s_X p s m meth c args cX7_rowOf none 4 RX7 G cy sa ad 12) (k27 : Sg → Int32 → Int32 → Option Sg) (hk27 : ∀ (σ : Sg) (x1 : Int32) (x3 : Int32) (ls : Array Slot) (H : Heap) (locs : List Loc), lv_has ls 4 [(0, .ref (ad 0)), (1, .int x1), (3, .int x3)] → va_P G vwCl ((s_WM cy ad) σ) H → va_S (s_A ad 12 s.heap.size) s.heap H locs → k27 σ x1 x3 = some σe → W p l e ({ frames := 1, cells := 0, slots := 0, locals := 23 } : Room) s m args below meth c H locs 0 0 (MQ below (s_Qv (s_WM cy ad) G (s_A ad 12 s.heap.size) σe) args s 0 0 (s_A ad 12 s.heap.size)) (F0 m 27 ls [])) (σ : Sg) (x1 : Int32) (x3 : Int32) (ls : Array Slot) (H : Heap) (locs : List Loc) (hl : lv_has ls 4 [(0, .ref (ad 0)), (1, .int x1), (3, .int x3)]) (hP : va_P G vwCl ((s_WM cy ad) σ) H) (hS : va_S (s_A ad 12 s.heap.size) s.heap H locs) (hf : fX7_rowOf_b70 k27 σ x1 x3 = some σe) : W p l e ({ frames := 1, cells := 0, slots := 0, locals := 23 } : Room) s m args below meth c H locs 0 0 (MQ below (s_Qv (s_WM cy ad) G (s_A ad 12 s.heap.size) σe) args s 0 0 (s_A ad 12 s.heap.size)) (F0 m 70 ls []) := by
  obtain ⟨hx, hb, hr, hml, hown, hts, hlk, hK, hE, hI⟩ := id C
  have hD : ∀ σ : Sg, va_D (s_A ad 12 s.heap.size) ((s_WM cy ad) σ) := fun σ => s_D (s_WM_ad cy ad σ) hI (fun k hk => Or.inl ⟨k, hk, rfl⟩)
  unfold fX7_rowOf_b70 at hf
  obtain ⟨t1, et1⟩ : ∃ z : Int32, z = (x3 + 1) := ⟨_, rfl⟩
  replace hf := s_lt_at et1 hf
  refine lv_iinc (v := t1) (lv' := [(3, .int t1), (0, .ref (ad 0)), (1, .int x1)]) hx hb dX7_rowOf_70 hl (k := 2) rfl (by rw [et1]; rfl) (by decide) rfl (fun ls hl => ?_)
  refine lv_goto (tgt := 27) hx hb dX7_rowOf_73 (by decide) ?_
  exact hk27 σ x1 t1 _ _ _ (lv_sub hl [1, 2, 0] rfl) hP hS hf
set_option maxRecDepth 100000 in
set_option maxHeartbeats 4000000 in
theorem kX7_rowOf_b27 (C : s_X p s m meth c args cX7_rowOf none 4 RX7 G cy sa ad 12) (k27 : Sg → Int32 → Int32 → Option Sg) (hk27 : ∀ (σ : Sg) (x1 : Int32) (x3 : Int32) (ls : Array Slot) (H : Heap) (locs : List Loc), lv_has ls 4 [(0, .ref (ad 0)), (1, .int x1), (3, .int x3)] → va_P G vwCl ((s_WM cy ad) σ) H → va_S (s_A ad 12 s.heap.size) s.heap H locs → k27 σ x1 x3 = some σe → W p l e ({ frames := 1, cells := 0, slots := 0, locals := 23 } : Room) s m args below meth c H locs 0 0 (MQ below (s_Qv (s_WM cy ad) G (s_A ad 12 s.heap.size) σe) args s 0 0 (s_A ad 12 s.heap.size)) (F0 m 27 ls [])) (σ : Sg) (x1 : Int32) (x3 : Int32) (ls : Array Slot) (H : Heap) (locs : List Loc) (hl : lv_has ls 4 [(0, .ref (ad 0)), (1, .int x1), (3, .int x3)]) (hP : va_P G vwCl ((s_WM cy ad) σ) H) (hS : va_S (s_A ad 12 s.heap.size) s.heap H locs) (hf : fX7_rowOf_b27 k27 σ x1 x3 = some σe) : W p l e ({ frames := 1, cells := 0, slots := 0, locals := 23 } : Room) s m args below meth c H locs 0 0 (MQ below (s_Qv (s_WM cy ad) G (s_A ad 12 s.heap.size) σe) args s 0 0 (s_A ad 12 s.heap.size)) (F0 m 27 ls []) := by
  obtain ⟨hx, hb, hr, hml, hown, hts, hlk, hK, hE, hI⟩ := id C
  have hD : ∀ σ : Sg, va_D (s_A ad 12 s.heap.size) ((s_WM cy ad) σ) := fun σ => s_D (s_WM_ad cy ad σ) hI (fun k hk => Or.inl ⟨k, hk, rfl⟩)
  unfold fX7_rowOf_b27 at hf
  refine lv_iload_n hx hb dX7_rowOf_27 rfl (lv_at hl 2 rfl) ?_
  refine lv_iload_n hx hb dX7_rowOf_28 rfl (lv_at hl 1 rfl) ?_
  refine lv_icmp_gt (tgt := 76) hx hb dX7_rowOf_29 (by decide) (fun c1 => ?_) (fun c1 => ?_)
  · rw [if_pos c1] at hf
    have he2 := Option.some.inj hf
    exact W.vret hx hb hr (fun t ht hW => ⟨⟨(), rfl, trivial, s_fin (Wd := (s_WM cy ad)) ht he2 hP⟩, hS.F ht⟩) hS.2.2 dX7_rowOf_76 hlk
  · rw [if_neg c1] at hf
    refine lv_aload_n hx hb dX7_rowOf_32 rfl (lv_at hl 0 rfl) ?_
    refine va_get (D := G) (ci := 7) (v := .ref (ad 1)) (C := RX7) (T := TX7) (N := 28) hx hb hts inkX7 hown hK hP 0 rfl rfl 0 (by decide) (hts _ kw_782) (fun _ h9 => h9) rfl dX7_rowOf_33 ?_
    refine lv_iload_n hx hb dX7_rowOf_36 rfl (lv_at hl 2 rfl) ?_
    replace hf := s_gd_some hf
    obtain ⟨g2, hf⟩ := hf
    refine va_iald hx hb hK hP 1 1 rfl rfl (s_in_of g2) dX7_rowOf_37 ?_
    refine lv_ldc (v := 100000000) hx hb hown (hts _ kw_936) dX7_rowOf_38 ?_
    refine lv_icmp_eq (tgt := 70) hx hb dX7_rowOf_40 (by decide) (fun c3 => ?_) (fun c3 => ?_)
    · rw [if_pos c3] at hf
      exact kX7_rowOf_b70 C k27 hk27 σ x1 x3 _ _ _ (lv_sub hl [0, 1, 2] rfl) hP hS hf
    · rw [if_neg c3] at hf
      refine lv_aload_n hx hb dX7_rowOf_43 rfl (lv_at hl 0 rfl) ?_
      refine va_get (D := G) (ci := 7) (v := .ref (ad 5)) (C := RX7) (T := TX7) (N := 28) hx hb hts inkX7 hown hK hP 0 rfl rfl 14 (by decide) (hts _ kw_796) (fun _ h9 => h9) rfl dX7_rowOf_44 ?_
      refine lv_aload_n hx hb dX7_rowOf_47 rfl (lv_at hl 0 rfl) ?_
      refine va_get (D := G) (ci := 7) (v := .int (σ 0 15)) (C := RX7) (T := TX7) (N := 28) hx hb hts inkX7 hown hK hP 0 rfl rfl 15 (by decide) (hts _ kw_797) (fun _ h9 => h9) rfl dX7_rowOf_48 ?_
      refine lv_aload_n hx hb dX7_rowOf_51 rfl (lv_at hl 0 rfl) ?_
      refine va_get (D := G) (ci := 7) (v := .ref (ad 1)) (C := RX7) (T := TX7) (N := 28) hx hb hts inkX7 hown hK hP 0 rfl rfl 0 (by decide) (hts _ kw_782) (fun _ h9 => h9) rfl dX7_rowOf_52 ?_
      refine lv_iload_n hx hb dX7_rowOf_55 rfl (lv_at hl 2 rfl) ?_
      replace hf := s_gd_some hf
      obtain ⟨g4, hf⟩ := hf
      refine va_iald hx hb hK hP 1 1 rfl rfl (s_in_of g4) dX7_rowOf_56 ?_
      replace hf := s_bv_some hf
      obtain ⟨σ5, hz6, hf⟩ := hf
      refine s_callvS (nn := 3) C (kcX7_puts_5 (l := l) (G := G) (cy := cy) (sa := sa) hI (sz := H.size) σ (σ 0 15) (σ 1 (Int32.toNatClampNeg x3)) hz6) gk_X7_147 rfl rfl (by decide +kernel) ⟨Nat.le_of_ble_eq_true rfl, Nat.le_of_ble_eq_true rfl⟩ hP hS (As := [.ref (ad 5), .int (σ 0 15), .int (σ 1 (Int32.toNatClampNeg x3))]) (rest := []) rfl rfl hl.1 (Nat.le_of_ble_eq_true rfl) dX7_rowOf_57 (fun H locs hP hS => ?_)
      refine lv_aload_n hx hb dX7_rowOf_60 rfl (lv_at hl 0 rfl) ?_
      refine lv_dup hx hb dX7_rowOf_61 rfl ?_
      refine va_get (D := G) (ci := 7) (v := .int (σ5 0 15)) (C := RX7) (T := TX7) (N := 28) hx hb hts inkX7 hown hK hP 0 rfl rfl 15 (by decide) (hts _ kw_797) (fun _ h9 => h9) rfl dX7_rowOf_62 ?_
      refine lv_iconst (v := 1) hx hb dX7_rowOf_65 (by decide) ?_
      refine lv_iadd hx hb dX7_rowOf_66 ?_
      refine va_put (D := G) (ci := 7) (v := .int ((σ5 0 15) + (1 : Int32))) (ty := .int) (C := RX7) (T := TX7) (N := 28) hx hb hts inkX7 tyX7 tyX7_ok nmX7 hown hK hP (hD _) hS 0 rfl rfl 15 (by decide) (hts _ kw_797) (fun _ h9 => h9) rfl (by decide +kernel) rfl rfl (Nat.le_of_ble_eq_true rfl) dX7_rowOf_67 (fun H locs hP _ hS => ?_)
      obtain ⟨σ7, eσ7⟩ : ∃ z : Sg, z = (s_up σ5 0 15 ((σ5 0 15) + (1 : Int32))) := ⟨_, rfl⟩
      replace hf := s_lt_at eσ7 hf
      replace hP : va_P G vwCl ((s_WM cy ad) σ7) H := by rw [eσ7]; exact hP
      exact kX7_rowOf_b70 C k27 hk27 σ7 x1 x3 _ _ _ (lv_sub hl [0, 1, 2] rfl) hP hS hf
set_option maxRecDepth 100000 in
set_option maxHeartbeats 4000000 in
theorem kX7_rowOf_b27_L (C : s_X p s m meth c args cX7_rowOf none 4 RX7 G cy sa ad 12) : ∀ (n : Nat), ∀ (σ : Sg) (x1 : Int32) (x3 : Int32) (ls : Array Slot) (H : Heap) (locs : List Loc), lv_has ls 4 [(0, .ref (ad 0)), (1, .int x1), (3, .int x3)] → va_P G vwCl ((s_WM cy ad) σ) H → va_S (s_A ad 12 s.heap.size) s.heap H locs → fX7_rowOf_b27_L n σ x1 x3 = some σe → W p l e ({ frames := 1, cells := 0, slots := 0, locals := 23 } : Room) s m args below meth c H locs 0 0 (MQ below (s_Qv (s_WM cy ad) G (s_A ad 12 s.heap.size) σe) args s 0 0 (s_A ad 12 s.heap.size)) (F0 m 27 ls []) := by
  intro n
  induction n with
  | zero => intro σ x1 x3 ls H locs hl hP hS hf; exact absurd (show (none : Option Sg) = some σe from hf) (by intro h; cases h)
  | succ n ih => intro σ x1 x3 ls H locs hl hP hS hf; exact kX7_rowOf_b27 C (fX7_rowOf_b27_L n) ih σ x1 x3 ls H locs hl hP hS hf
set_option maxRecDepth 100000 in
set_option maxHeartbeats 4000000 in
theorem kX7_rowOf_b26 (C : s_X p s m meth c args cX7_rowOf none 4 RX7 G cy sa ad 12) (σ : Sg) (x1 : Int32) (y0 : Int32) (ls : Array Slot) (H : Heap) (locs : List Loc) (hl : lv_has ls 4 [(0, .ref (ad 0)), (1, .int x1)]) (hP : va_P G vwCl ((s_WM cy ad) σ) H) (hS : va_S (s_A ad 12 s.heap.size) s.heap H locs) (hf : fX7_rowOf_b26 σ x1 y0 = some σe) : W p l e ({ frames := 1, cells := 0, slots := 0, locals := 23 } : Room) s m args below meth c H locs 0 0 (MQ below (s_Qv (s_WM cy ad) G (s_A ad 12 s.heap.size) σe) args s 0 0 (s_A ad 12 s.heap.size)) (F0 m 26 ls [.int y0]) := by
  obtain ⟨hx, hb, hr, hml, hown, hts, hlk, hK, hE, hI⟩ := id C
  have hD : ∀ σ : Sg, va_D (s_A ad 12 s.heap.size) ((s_WM cy ad) σ) := fun σ => s_D (s_WM_ad cy ad σ) hI (fun k hk => Or.inl ⟨k, hk, rfl⟩)
  unfold fX7_rowOf_b26 at hf
  refine lv_istore_n (lv' := [(3, .int y0), (0, .ref (ad 0)), (1, .int x1)]) hx hb dX7_rowOf_26 rfl hl (by decide) rfl (fun ls hl => ?_)
  exact kX7_rowOf_b27_L C s_fu σ x1 y0 _ _ _ (lv_sub hl [1, 2, 0] rfl) hP hS hf
set_option maxRecDepth 100000 in
set_option maxHeartbeats 4000000 in
theorem kX7_rowOf (C : s_X p s m meth c args cX7_rowOf none 4 RX7 G cy sa ad 12) (σ : Sg) (x1 : Int32) (ls : Array Slot) (H : Heap) (locs : List Loc) (hl : lv_has ls 4 [(0, .ref (ad 0)), (1, .int x1)]) (hP : va_P G vwCl ((s_WM cy ad) σ) H) (hS : va_S (s_A ad 12 s.heap.size) s.heap H locs) (hf : fX7_rowOf σ x1 = some σe) : W p l e ({ frames := 1, cells := 0, slots := 0, locals := 23 } : Room) s m args below meth c H locs 0 0 (MQ below (s_Qv (s_WM cy ad) G (s_A ad 12 s.heap.size) σe) args s 0 0 (s_A ad 12 s.heap.size)) (F0 m 0 ls []) := by
  obtain ⟨hx, hb, hr, hml, hown, hts, hlk, hK, hE, hI⟩ := id C
  have hD : ∀ σ : Sg, va_D (s_A ad 12 s.heap.size) ((s_WM cy ad) σ) := fun σ => s_D (s_WM_ad cy ad σ) hI (fun k hk => Or.inl ⟨k, hk, rfl⟩)
  unfold fX7_rowOf at hf
  refine lv_aload_n hx hb dX7_rowOf_0 rfl (lv_at hl 0 rfl) ?_
  refine lv_iconst (v := 0) hx hb dX7_rowOf_1 (by decide) ?_
  refine va_put (D := G) (ci := 7) (v := .int (0 : Int32)) (ty := .int) (C := RX7) (T := TX7) (N := 28) hx hb hts inkX7 tyX7 tyX7_ok nmX7 hown hK hP (hD _) hS 0 rfl rfl 15 (by decide) (hts _ kw_797) (fun _ h9 => h9) rfl (by decide +kernel) rfl rfl (Nat.le_of_ble_eq_true rfl) dX7_rowOf_2 (fun H locs hP _ hS => ?_)
  obtain ⟨σ1, eσ1⟩ : ∃ z : Sg, z = (s_up σ 0 15 (0 : Int32)) := ⟨_, rfl⟩
  replace hf := s_lt_at eσ1 hf
  replace hP : va_P G vwCl ((s_WM cy ad) σ1) H := by rw [eσ1]; exact hP
  refine lv_iload_n hx hb dX7_rowOf_5 rfl (lv_at hl 1 rfl) ?_
  refine lv_aload_n hx hb dX7_rowOf_6 rfl (lv_at hl 0 rfl) ?_
  refine va_get (D := G) (ci := 7) (v := .ref (ad 1)) (C := RX7) (T := TX7) (N := 28) hx hb hts inkX7 hown hK hP 0 rfl rfl 0 (by decide) (hts _ kw_782) (fun _ h9 => h9) rfl dX7_rowOf_7 ?_
  refine lv_bipush (v := 96) hx hb dX7_rowOf_10 (by decide) ?_
  refine va_iald hx hb hK hP 1 1 rfl rfl (by unfold vp_in; decide) dX7_rowOf_12 ?_
  rw [cl_96]
  refine lv_isub hx hb dX7_rowOf_13 ?_
  refine lv_iconst (v := 1) hx hb dX7_rowOf_14 (by decide) ?_
  refine lv_iadd hx hb dX7_rowOf_15 ?_
  refine lv_topi (fun t2 et2 => ?_)
  replace hf := s_lt_at et2 hf
  refine lv_istore_n (lv' := [(2, .int t2), (0, .ref (ad 0)), (1, .int x1)]) hx hb dX7_rowOf_16 rfl hl (by decide) rfl (fun ls hl => ?_)
  refine lv_iload_n hx hb dX7_rowOf_17 rfl (lv_at hl 0 rfl) ?_
  refine lv_if_ge (tgt := 25) hx hb dX7_rowOf_18 (by decide) (fun c3 => ?_) (fun c3 => ?_)
  · rw [if_pos c3] at hf
    refine lv_iload_n hx hb dX7_rowOf_25 rfl (lv_at hl 0 rfl) ?_
    exact kX7_rowOf_b26 C σ1 x1 t2 _ _ _ (lv_sub hl [1, 2] rfl) hP hS hf
  · rw [if_neg c3] at hf
    refine lv_iconst (v := 0) hx hb dX7_rowOf_21 (by decide) ?_
    refine lv_goto (tgt := 26) hx hb dX7_rowOf_22 (by decide) ?_
    exact kX7_rowOf_b26 C σ1 x1 (0 : Int32) _ _ _ (lv_sub hl [1, 2] rfl) hP hS hf
theorem kcX7_rowOf {l : Launch} {G : va_G} {cy : Nat → ClassId} {sa : Nat × Nat} {ad : Nat → Nat}  {sz : Nat} (hI : s_inj ad 12) (σ : Sg) (x1 : Int32) {σe : Sg} (hf : fX7_rowOf σ x1 = some σe) : Met l yX7_rowOf (kW yX7_rowOf cX7_rowOf 4 none) ({ frames := 1, cells := 0, slots := 0, locals := 23 } : Room) (s_P (s_WM cy ad) G cy sa ad 12 [.ref (ad 0), .int x1] sz σ) (s_Qv (s_WM cy ad) G (s_A ad 12 sz) σe) 0 0 (s_A ad 12 sz) := by
  refine s_met (own := RX7) (by decide) rfl hI (Nat.le_of_ble_eq_true rfl) (fun p e s m below meth c ls hsz C hP hl => ?_)
  subst hsz
  exact kX7_rowOf C σ x1 ls _ _ hl hP va_S.rf hf
set_option maxRecDepth 100000 in
set_option maxHeartbeats 4000000 in
theorem kX7_isResult_b26 (C : s_X p s m meth c args cX7_isResult (some .boolean) 7 RX7 G cy sa ad 12) (σ : Sg) (ls : Array Slot) (H : Heap) (locs : List Loc) (hl : lv_has ls 7 []) (hP : va_P G vwCl ((s_WM cy ad) σ) H) (hS : va_S (s_A ad 12 s.heap.size) s.heap H locs) (hf : fX7_isResult_b26 σ = some (re, σe)) : W p l e ({ frames := 2, cells := 0, slots := 0, locals := 46 } : Room) s m args below meth c H locs 0 0 (MQ below (s_Qi (s_WM cy ad) G (s_A ad 12 s.heap.size) re σe) args s 0 0 (s_A ad 12 s.heap.size)) (F0 m 26 ls []) := by
  obtain ⟨hx, hb, hr, hml, hown, hts, hlk, hK, hE, hI⟩ := id C
  have hD : ∀ σ : Sg, va_D (s_A ad 12 s.heap.size) ((s_WM cy ad) σ) := fun σ => s_D (s_WM_ad cy ad σ) hI (fun k hk => Or.inl ⟨k, hk, rfl⟩)
  unfold fX7_isResult_b26 at hf
  refine lv_iconst (v := 0) hx hb dX7_isResult_26 (by decide) ?_
  obtain ⟨he1, he2⟩ := s_ret hf
  exact W.zret hx hb hr rfl (fun t ht hW => ⟨⟨_, (), rfl, he1, s_fin (Wd := (s_WM cy ad)) ht he2 hP⟩, hS.F ht⟩) hS.2.2 dX7_isResult_27 hlk
set_option maxRecDepth 100000 in
set_option maxHeartbeats 4000000 in
theorem kX7_isResult_b260 (C : s_X p s m meth c args cX7_isResult (some .boolean) 7 RX7 G cy sa ad 12) (σ : Sg) (ls : Array Slot) (H : Heap) (locs : List Loc) (hl : lv_has ls 7 []) (hP : va_P G vwCl ((s_WM cy ad) σ) H) (hS : va_S (s_A ad 12 s.heap.size) s.heap H locs) (hf : fX7_isResult_b260 σ = some (re, σe)) : W p l e ({ frames := 2, cells := 0, slots := 0, locals := 46 } : Room) s m args below meth c H locs 0 0 (MQ below (s_Qi (s_WM cy ad) G (s_A ad 12 s.heap.size) re σe) args s 0 0 (s_A ad 12 s.heap.size)) (F0 m 260 ls []) := by
  obtain ⟨hx, hb, hr, hml, hown, hts, hlk, hK, hE, hI⟩ := id C
  have hD : ∀ σ : Sg, va_D (s_A ad 12 s.heap.size) ((s_WM cy ad) σ) := fun σ => s_D (s_WM_ad cy ad σ) hI (fun k hk => Or.inl ⟨k, hk, rfl⟩)
  unfold fX7_isResult_b260 at hf
  refine lv_iconst (v := 1) hx hb dX7_isResult_260 (by decide) ?_
  obtain ⟨he1, he2⟩ := s_ret hf
  exact W.zret hx hb hr rfl (fun t ht hW => ⟨⟨_, (), rfl, he1, s_fin (Wd := (s_WM cy ad)) ht he2 hP⟩, hS.F ht⟩) hS.2.2 dX7_isResult_261 hlk
set_option maxRecDepth 100000 in
set_option maxHeartbeats 4000000 in
theorem kX7_isResult_b211 (C : s_X p s m meth c args cX7_isResult (some .boolean) 7 RX7 G cy sa ad 12) (σ : Sg) (y1 : Int32) (ls : Array Slot) (H : Heap) (locs : List Loc) (hl : lv_has ls 7 []) (hP : va_P G vwCl ((s_WM cy ad) σ) H) (hS : va_S (s_A ad 12 s.heap.size) s.heap H locs) (hf : fX7_isResult_b211 σ y1 = some (re, σe)) : W p l e ({ frames := 2, cells := 0, slots := 0, locals := 46 } : Room) s m args below meth c H locs 0 0 (MQ below (s_Qi (s_WM cy ad) G (s_A ad 12 s.heap.size) re σe) args s 0 0 (s_A ad 12 s.heap.size)) (F0 m 211 ls [.int y1, .ref (ad 0)]) := by
  obtain ⟨hx, hb, hr, hml, hown, hts, hlk, hK, hE, hI⟩ := id C
  have hD : ∀ σ : Sg, va_D (s_A ad 12 s.heap.size) ((s_WM cy ad) σ) := fun σ => s_D (s_WM_ad cy ad σ) hI (fun k hk => Or.inl ⟨k, hk, rfl⟩)
  unfold fX7_isResult_b211 at hf
  refine va_put (D := G) (ci := 7) (v := .int y1) (ty := .int) (C := RX7) (T := TX7) (N := 28) hx hb hts inkX7 tyX7 tyX7_ok nmX7 hown hK hP (hD _) hS 0 rfl rfl 19 (by decide) (hts _ kw_801) (fun _ h9 => h9) rfl (by decide +kernel) rfl rfl (Nat.le_of_ble_eq_true rfl) dX7_isResult_211 (fun H locs hP _ hS => ?_)
  obtain ⟨σ1, eσ1⟩ : ∃ z : Sg, z = (s_up σ 0 19 y1) := ⟨_, rfl⟩
  replace hf := s_lt_at eσ1 hf
  replace hP : va_P G vwCl ((s_WM cy ad) σ1) H := by rw [eσ1]; exact hP
  refine lv_goto (tgt := 260) hx hb dX7_isResult_214 (by decide) ?_
  exact kX7_isResult_b260 C σ1 _ _ _ (lv_sub hl [] rfl) hP hS hf
set_option maxRecDepth 100000 in
set_option maxHeartbeats 4000000 in
theorem kX7_isResult_b135 (C : s_X p s m meth c args cX7_isResult (some .boolean) 7 RX7 G cy sa ad 12) (σ : Sg) (x2 : Int32) (x4 : Int32) (x5 : Int32) (y0 : Int32) (ls : Array Slot) (H : Heap) (locs : List Loc) (hl : lv_has ls 7 [(0, .ref (ad 0)), (2, .int x2), (4, .int x4), (5, .int x5)]) (hP : va_P G vwCl ((s_WM cy ad) σ) H) (hS : va_S (s_A ad 12 s.heap.size) s.heap H locs) (hf : fX7_isResult_b135 σ x2 x4 x5 y0 = some (re, σe)) : W p l e ({ frames := 2, cells := 0, slots := 0, locals := 46 } : Room) s m args below meth c H locs 0 0 (MQ below (s_Qi (s_WM cy ad) G (s_A ad 12 s.heap.size) re σe) args s 0 0 (s_A ad 12 s.heap.size)) (F0 m 135 ls [.int y0]) := by
  obtain ⟨hx, hb, hr, hml, hown, hts, hlk, hK, hE, hI⟩ := id C
  have hD : ∀ σ : Sg, va_D (s_A ad 12 s.heap.size) ((s_WM cy ad) σ) := fun σ => s_D (s_WM_ad cy ad σ) hI (fun k hk => Or.inl ⟨k, hk, rfl⟩)
  unfold fX7_isResult_b135 at hf
  refine lv_istore (lv' := [(6, .int y0), (0, .ref (ad 0)), (2, .int x2), (4, .int x4), (5, .int x5)]) hx hb dX7_isResult_135 hl (by decide) rfl (fun ls hl => ?_)
  refine lv_aload_n hx hb dX7_isResult_137 rfl (lv_at hl 1 rfl) ?_
  refine lv_iconst (v := 1) hx hb dX7_isResult_138 (by decide) ?_
  refine va_put (D := G) (ci := 7) (v := .int (1 : Int32)) (ty := .int) (C := RX7) (T := TX7) (N := 28) hx hb hts inkX7 tyX7 tyX7_ok nmX7 hown hK hP (hD _) hS 0 rfl rfl 20 (by decide) (hts _ kw_802) (fun _ h9 => h9) rfl (by decide +kernel) rfl rfl (Nat.le_of_ble_eq_true rfl) dX7_isResult_139 (fun H locs hP _ hS => ?_)
  obtain ⟨σ1, eσ1⟩ : ∃ z : Sg, z = (s_up σ 0 20 (1 : Int32)) := ⟨_, rfl⟩
  replace hf := s_lt_at eσ1 hf
  replace hP : va_P G vwCl ((s_WM cy ad) σ1) H := by rw [eσ1]; exact hP
  refine lv_aload_n hx hb dX7_isResult_142 rfl (lv_at hl 1 rfl) ?_
  refine va_get (D := G) (ci := 7) (v := .ref (ad 1)) (C := RX7) (T := TX7) (N := 28) hx hb hts inkX7 hown hK hP 0 rfl rfl 0 (by decide) (hts _ kw_782) (fun _ h9 => h9) rfl dX7_isResult_143 ?_
  refine lv_bipush (v := 100) hx hb dX7_isResult_146 (by decide) ?_
  refine va_iald hx hb hK hP 1 1 rfl rfl (by unfold vp_in; decide) dX7_isResult_148 ?_
  rw [cl_100]
  by_cases c2 : (σ1 1 100) = 0
  · rw [if_pos c2] at hf
    refine lv_tableIn (off := 31) (tgt := 180) hx hb dX7_isResult_149 (by rw [c2]; decide) (by rw [c2]; decide) (by rw [c2]; rfl) (by decide) ?_
    refine lv_aload_n hx hb dX7_isResult_180 rfl (lv_at hl 1 rfl) ?_
    refine lv_iload hx hb dX7_isResult_181 (lv_at hl 3 rfl) ?_
    refine va_put (D := G) (ci := 7) (v := .int x4) (ty := .int) (C := RX7) (T := TX7) (N := 28) hx hb hts inkX7 tyX7 tyX7_ok nmX7 hown hK hP (hD _) hS 0 rfl rfl 19 (by decide) (hts _ kw_801) (fun _ h9 => h9) rfl (by decide +kernel) rfl rfl (Nat.le_of_ble_eq_true rfl) dX7_isResult_183 (fun H locs hP _ hS => ?_)
    obtain ⟨σ3, eσ3⟩ : ∃ z : Sg, z = (s_up σ1 0 19 x4) := ⟨_, rfl⟩
    replace hf := s_lt_at eσ3 hf
    replace hP : va_P G vwCl ((s_WM cy ad) σ3) H := by rw [eσ3]; exact hP
    refine lv_goto (tgt := 260) hx hb dX7_isResult_186 (by decide) ?_
    exact kX7_isResult_b260 C σ3 _ _ _ (lv_sub hl [] rfl) hP hS hf
  · rw [if_neg c2] at hf
    by_cases c4 : (σ1 1 100) = 1
    · rw [if_pos c4] at hf
      refine lv_tableIn (off := 40) (tgt := 189) hx hb dX7_isResult_149 (by rw [c4]; decide) (by rw [c4]; decide) (by rw [c4]; rfl) (by decide) ?_
      refine lv_aload_n hx hb dX7_isResult_189 rfl (lv_at hl 1 rfl) ?_
      refine lv_iload hx hb dX7_isResult_190 (lv_at hl 4 rfl) ?_
      refine va_put (D := G) (ci := 7) (v := .int x5) (ty := .int) (C := RX7) (T := TX7) (N := 28) hx hb hts inkX7 tyX7 tyX7_ok nmX7 hown hK hP (hD _) hS 0 rfl rfl 19 (by decide) (hts _ kw_801) (fun _ h9 => h9) rfl (by decide +kernel) rfl rfl (Nat.le_of_ble_eq_true rfl) dX7_isResult_192 (fun H locs hP _ hS => ?_)
      obtain ⟨σ5, eσ5⟩ : ∃ z : Sg, z = (s_up σ1 0 19 x5) := ⟨_, rfl⟩
      replace hf := s_lt_at eσ5 hf
      replace hP : va_P G vwCl ((s_WM cy ad) σ5) H := by rw [eσ5]; exact hP
      refine lv_goto (tgt := 260) hx hb dX7_isResult_195 (by decide) ?_
      exact kX7_isResult_b260 C σ5 _ _ _ (lv_sub hl [] rfl) hP hS hf
    · rw [if_neg c4] at hf
      by_cases c6 : (σ1 1 100) = 2
      · rw [if_pos c6] at hf
        refine lv_tableIn (off := 49) (tgt := 198) hx hb dX7_isResult_149 (by rw [c6]; decide) (by rw [c6]; decide) (by rw [c6]; rfl) (by decide) ?_
        refine lv_aload_n hx hb dX7_isResult_198 rfl (lv_at hl 1 rfl) ?_
        refine lv_iload hx hb dX7_isResult_199 (lv_at hl 0 rfl) ?_
        refine lv_if_eq (tgt := 209) hx hb dX7_isResult_201 (by decide) (fun c7 => ?_) (fun c7 => ?_)
        · rw [if_pos c7] at hf
          refine lv_iload hx hb dX7_isResult_209 (lv_at hl 4 rfl) ?_
          exact kX7_isResult_b211 C σ1 x5 _ _ _ (lv_sub hl [] rfl) hP hS hf
        · rw [if_neg c7] at hf
          refine lv_iload hx hb dX7_isResult_204 (lv_at hl 3 rfl) ?_
          refine lv_goto (tgt := 211) hx hb dX7_isResult_206 (by decide) ?_
          exact kX7_isResult_b211 C σ1 x4 _ _ _ (lv_sub hl [] rfl) hP hS hf
      · rw [if_neg c6] at hf
        by_cases c8 : (σ1 1 100) = 3
        · rw [if_pos c8] at hf
          refine lv_tableIn (off := 68) (tgt := 217) hx hb dX7_isResult_149 (by rw [c8]; decide) (by rw [c8]; decide) (by rw [c8]; rfl) (by decide) ?_
          refine lv_aload_n hx hb dX7_isResult_217 rfl (lv_at hl 1 rfl) ?_
          refine lv_iload hx hb dX7_isResult_218 (lv_at hl 3 rfl) ?_
          refine lv_iload hx hb dX7_isResult_220 (lv_at hl 4 rfl) ?_
          refine lv_iadd hx hb dX7_isResult_222 ?_
          refine va_put (D := G) (ci := 7) (v := .int (x4 + x5)) (ty := .int) (C := RX7) (T := TX7) (N := 28) hx hb hts inkX7 tyX7 tyX7_ok nmX7 hown hK hP (hD _) hS 0 rfl rfl 19 (by decide) (hts _ kw_801) (fun _ h9 => h9) rfl (by decide +kernel) rfl rfl (Nat.le_of_ble_eq_true rfl) dX7_isResult_223 (fun H locs hP _ hS => ?_)
          obtain ⟨σ9, eσ9⟩ : ∃ z : Sg, z = (s_up σ1 0 19 (x4 + x5)) := ⟨_, rfl⟩
          replace hf := s_lt_at eσ9 hf
          replace hP : va_P G vwCl ((s_WM cy ad) σ9) H := by rw [eσ9]; exact hP
          refine lv_aload_n hx hb dX7_isResult_226 rfl (lv_at hl 1 rfl) ?_
          refine lv_iconst (v := 2) hx hb dX7_isResult_227 (by decide) ?_
          refine va_put (D := G) (ci := 7) (v := .int (2 : Int32)) (ty := .int) (C := RX7) (T := TX7) (N := 28) hx hb hts inkX7 tyX7 tyX7_ok nmX7 hown hK hP (hD _) hS 0 rfl rfl 20 (by decide) (hts _ kw_802) (fun _ h9 => h9) rfl (by decide +kernel) rfl rfl (Nat.le_of_ble_eq_true rfl) dX7_isResult_228 (fun H locs hP _ hS => ?_)
          obtain ⟨σ10, eσ10⟩ : ∃ z : Sg, z = (s_up σ9 0 20 (2 : Int32)) := ⟨_, rfl⟩
          replace hf := s_lt_at eσ10 hf
          replace hP : va_P G vwCl ((s_WM cy ad) σ10) H := by rw [eσ10]; exact hP
          refine lv_goto (tgt := 260) hx hb dX7_isResult_231 (by decide) ?_
          exact kX7_isResult_b260 C σ10 _ _ _ (lv_sub hl [] rfl) hP hS hf
        · rw [if_neg c8] at hf
          have qc2 := lv_neT c2 (a := 0) (by decide)
          have qc4 := lv_neT c4 (a := 1) (by decide)
          have qc6 := lv_neT c6 (a := 2) (by decide)
          have qc8 := lv_neT c8 (a := 3) (by decide)
          refine lv_tableOut (tgt := 234) hx hb dX7_isResult_149 (by omega) (by decide) ?_
          refine lv_aload_n hx hb dX7_isResult_234 rfl (lv_at hl 1 rfl) ?_
          refine lv_iload hx hb dX7_isResult_235 (lv_at hl 3 rfl) ?_
          refine lv_iload_n hx hb dX7_isResult_237 rfl (lv_at hl 2 rfl) ?_
          refine lv_aload_n hx hb dX7_isResult_238 rfl (lv_at hl 1 rfl) ?_
          refine va_get (D := G) (ci := 7) (v := .int (σ1 0 18)) (C := RX7) (T := TX7) (N := 28) hx hb hts inkX7 hown hK hP 0 rfl rfl 18 (by decide) (hts _ kw_800) (fun _ h9 => h9) rfl dX7_isResult_239 ?_
          refine lv_isub hx hb dX7_isResult_242 ?_
          refine lv_imul hx hb dX7_isResult_243 ?_
          refine lv_iload hx hb dX7_isResult_244 (lv_at hl 4 rfl) ?_
          refine lv_aload_n hx hb dX7_isResult_246 rfl (lv_at hl 1 rfl) ?_
          refine va_get (D := G) (ci := 7) (v := .int (σ1 0 18)) (C := RX7) (T := TX7) (N := 28) hx hb hts inkX7 hown hK hP 0 rfl rfl 18 (by decide) (hts _ kw_800) (fun _ h9 => h9) rfl dX7_isResult_247 ?_
          refine lv_imul hx hb dX7_isResult_250 ?_
          refine lv_iadd hx hb dX7_isResult_251 ?_
          refine va_put (D := G) (ci := 7) (v := .int ((x4 * (x2 - (σ1 0 18))) + (x5 * (σ1 0 18)))) (ty := .int) (C := RX7) (T := TX7) (N := 28) hx hb hts inkX7 tyX7 tyX7_ok nmX7 hown hK hP (hD _) hS 0 rfl rfl 19 (by decide) (hts _ kw_801) (fun _ h9 => h9) rfl (by decide +kernel) rfl rfl (Nat.le_of_ble_eq_true rfl) dX7_isResult_252 (fun H locs hP _ hS => ?_)
          obtain ⟨σ11, eσ11⟩ : ∃ z : Sg, z = (s_up σ1 0 19 ((x4 * (x2 - (σ1 0 18))) + (x5 * (σ1 0 18)))) := ⟨_, rfl⟩
          replace hf := s_lt_at eσ11 hf
          replace hP : va_P G vwCl ((s_WM cy ad) σ11) H := by rw [eσ11]; exact hP
          refine lv_aload_n hx hb dX7_isResult_255 rfl (lv_at hl 1 rfl) ?_
          refine lv_iload_n hx hb dX7_isResult_256 rfl (lv_at hl 2 rfl) ?_
          refine va_put (D := G) (ci := 7) (v := .int x2) (ty := .int) (C := RX7) (T := TX7) (N := 28) hx hb hts inkX7 tyX7 tyX7_ok nmX7 hown hK hP (hD _) hS 0 rfl rfl 20 (by decide) (hts _ kw_802) (fun _ h9 => h9) rfl (by decide +kernel) rfl rfl (Nat.le_of_ble_eq_true rfl) dX7_isResult_257 (fun H locs hP _ hS => ?_)
          obtain ⟨σ12, eσ12⟩ : ∃ z : Sg, z = (s_up σ11 0 20 x2) := ⟨_, rfl⟩
          replace hf := s_lt_at eσ12 hf
          replace hP : va_P G vwCl ((s_WM cy ad) σ12) H := by rw [eσ12]; exact hP
          exact kX7_isResult_b260 C σ12 _ _ _ (lv_sub hl [] rfl) hP hS hf
set_option maxRecDepth 100000 in
set_option maxHeartbeats 4000000 in
theorem kX7_isResult_b130 (C : s_X p s m meth c args cX7_isResult (some .boolean) 7 RX7 G cy sa ad 12) (σ : Sg) (x2 : Int32) (x4 : Int32) (x5 : Int32) (ls : Array Slot) (H : Heap) (locs : List Loc) (hl : lv_has ls 7 [(0, .ref (ad 0)), (2, .int x2), (4, .int x4), (5, .int x5)]) (hP : va_P G vwCl ((s_WM cy ad) σ) H) (hS : va_S (s_A ad 12 s.heap.size) s.heap H locs) (hf : fX7_isResult_b130 σ x2 x4 x5 = some (re, σe)) : W p l e ({ frames := 2, cells := 0, slots := 0, locals := 46 } : Room) s m args below meth c H locs 0 0 (MQ below (s_Qi (s_WM cy ad) G (s_A ad 12 s.heap.size) re σe) args s 0 0 (s_A ad 12 s.heap.size)) (F0 m 130 ls []) := by
  obtain ⟨hx, hb, hr, hml, hown, hts, hlk, hK, hE, hI⟩ := id C
  have hD : ∀ σ : Sg, va_D (s_A ad 12 s.heap.size) ((s_WM cy ad) σ) := fun σ => s_D (s_WM_ad cy ad σ) hI (fun k hk => Or.inl ⟨k, hk, rfl⟩)
  unfold fX7_isResult_b130 at hf
  refine lv_iconst (v := 1) hx hb dX7_isResult_130 (by decide) ?_
  refine lv_goto (tgt := 135) hx hb dX7_isResult_131 (by decide) ?_
  exact kX7_isResult_b135 C σ x2 x4 x5 (1 : Int32) _ _ _ (lv_sub hl [0, 1, 2, 3] rfl) hP hS hf
set_option maxRecDepth 100000 in
set_option maxHeartbeats 4000000 in
theorem kX7_isResult_b134 (C : s_X p s m meth c args cX7_isResult (some .boolean) 7 RX7 G cy sa ad 12) (σ : Sg) (x2 : Int32) (x4 : Int32) (x5 : Int32) (ls : Array Slot) (H : Heap) (locs : List Loc) (hl : lv_has ls 7 [(0, .ref (ad 0)), (2, .int x2), (4, .int x4), (5, .int x5)]) (hP : va_P G vwCl ((s_WM cy ad) σ) H) (hS : va_S (s_A ad 12 s.heap.size) s.heap H locs) (hf : fX7_isResult_b134 σ x2 x4 x5 = some (re, σe)) : W p l e ({ frames := 2, cells := 0, slots := 0, locals := 46 } : Room) s m args below meth c H locs 0 0 (MQ below (s_Qi (s_WM cy ad) G (s_A ad 12 s.heap.size) re σe) args s 0 0 (s_A ad 12 s.heap.size)) (F0 m 134 ls []) := by
  obtain ⟨hx, hb, hr, hml, hown, hts, hlk, hK, hE, hI⟩ := id C
  have hD : ∀ σ : Sg, va_D (s_A ad 12 s.heap.size) ((s_WM cy ad) σ) := fun σ => s_D (s_WM_ad cy ad σ) hI (fun k hk => Or.inl ⟨k, hk, rfl⟩)
  unfold fX7_isResult_b134 at hf
  refine lv_iconst (v := 0) hx hb dX7_isResult_134 (by decide) ?_
  exact kX7_isResult_b135 C σ x2 x4 x5 (0 : Int32) _ _ _ (lv_sub hl [0, 1, 2, 3] rfl) hP hS hf
set_option maxRecDepth 100000 in
set_option maxHeartbeats 4000000 in
theorem kX7_isResult_b99 (C : s_X p s m meth c args cX7_isResult (some .boolean) 7 RX7 G cy sa ad 12) (σ : Sg) (x2 : Int32) (x4 : Int32) (y0 : Int32) (ls : Array Slot) (H : Heap) (locs : List Loc) (hl : lv_has ls 7 [(0, .ref (ad 0)), (2, .int x2), (4, .int x4)]) (hP : va_P G vwCl ((s_WM cy ad) σ) H) (hS : va_S (s_A ad 12 s.heap.size) s.heap H locs) (hf : fX7_isResult_b99 σ x2 x4 y0 = some (re, σe)) : W p l e ({ frames := 2, cells := 0, slots := 0, locals := 46 } : Room) s m args below meth c H locs 0 0 (MQ below (s_Qi (s_WM cy ad) G (s_A ad 12 s.heap.size) re σe) args s 0 0 (s_A ad 12 s.heap.size)) (F0 m 99 ls [.int y0]) := by
  obtain ⟨hx, hb, hr, hml, hown, hts, hlk, hK, hE, hI⟩ := id C
  have hD : ∀ σ : Sg, va_D (s_A ad 12 s.heap.size) ((s_WM cy ad) σ) := fun σ => s_D (s_WM_ad cy ad σ) hI (fun k hk => Or.inl ⟨k, hk, rfl⟩)
  unfold fX7_isResult_b99 at hf
  refine lv_istore (lv' := [(5, .int y0), (0, .ref (ad 0)), (2, .int x2), (4, .int x4)]) hx hb dX7_isResult_99 hl (by decide) rfl (fun ls hl => ?_)
  refine lv_iconst (v := 2) hx hb dX7_isResult_101 (by decide) ?_
  refine lv_aload_n hx hb dX7_isResult_102 rfl (lv_at hl 1 rfl) ?_
  refine va_get (D := G) (ci := 7) (v := .int (σ 0 18)) (C := RX7) (T := TX7) (N := 28) hx hb hts inkX7 hown hK hP 0 rfl rfl 18 (by decide) (hts _ kw_800) (fun _ h9 => h9) rfl dX7_isResult_103 ?_
  refine lv_imul hx hb dX7_isResult_106 ?_
  refine lv_iload_n hx hb dX7_isResult_107 rfl (lv_at hl 2 rfl) ?_
  refine lv_icmp_lt (tgt := 130) hx hb dX7_isResult_108 (by decide) (fun c1 => ?_) (fun c1 => ?_)
  · rw [if_pos c1] at hf
    exact kX7_isResult_b130 C σ x2 x4 y0 _ _ _ (lv_sub hl [1, 2, 3, 0] rfl) hP hS hf
  · rw [if_neg c1] at hf
    refine lv_iconst (v := 2) hx hb dX7_isResult_111 (by decide) ?_
    refine lv_aload_n hx hb dX7_isResult_112 rfl (lv_at hl 1 rfl) ?_
    refine va_get (D := G) (ci := 7) (v := .int (σ 0 18)) (C := RX7) (T := TX7) (N := 28) hx hb hts inkX7 hown hK hP 0 rfl rfl 18 (by decide) (hts _ kw_800) (fun _ h9 => h9) rfl dX7_isResult_113 ?_
    refine lv_imul hx hb dX7_isResult_116 ?_
    refine lv_iload_n hx hb dX7_isResult_117 rfl (lv_at hl 2 rfl) ?_
    refine lv_icmp_ne (tgt := 134) hx hb dX7_isResult_118 (by decide) (fun c2 => ?_) (fun c2 => ?_)
    · rw [if_neg c2] at hf
      exact kX7_isResult_b134 C σ x2 x4 y0 _ _ _ (lv_sub hl [1, 2, 3, 0] rfl) hP hS hf
    · rw [if_pos c2] at hf
      refine lv_aload_n hx hb dX7_isResult_121 rfl (lv_at hl 1 rfl) ?_
      refine va_get (D := G) (ci := 7) (v := .int (σ 0 17)) (C := RX7) (T := TX7) (N := 28) hx hb hts inkX7 hown hK hP 0 rfl rfl 17 (by decide) (hts _ kw_799) (fun _ h9 => h9) rfl dX7_isResult_122 ?_
      refine lv_iconst (v := 2) hx hb dX7_isResult_125 (by decide) ?_
      refine lv_irem hx hb dX7_isResult_126 (by decide) ?_
      refine lv_topi (fun t3 et3 => ?_)
      replace hf := s_lt_at et3 hf
      refine lv_if_ne (tgt := 134) hx hb dX7_isResult_127 (by decide) (fun c4 => ?_) (fun c4 => ?_)
      · rw [if_neg c4] at hf
        exact kX7_isResult_b134 C σ x2 x4 y0 _ _ _ (lv_sub hl [1, 2, 3, 0] rfl) hP hS hf
      · rw [if_pos c4] at hf
        exact kX7_isResult_b130 C σ x2 x4 y0 _ _ _ (lv_sub hl [1, 2, 3, 0] rfl) hP hS hf
set_option maxRecDepth 100000 in
set_option maxHeartbeats 4000000 in
theorem kX7_isResult (C : s_X p s m meth c args cX7_isResult (some .boolean) 7 RX7 G cy sa ad 12) (σ : Sg) (x1 : Int32) (ls : Array Slot) (H : Heap) (locs : List Loc) (hl : lv_has ls 7 [(0, .ref (ad 0)), (1, .int x1)]) (hP : va_P G vwCl ((s_WM cy ad) σ) H) (hS : va_S (s_A ad 12 s.heap.size) s.heap H locs) (hf : fX7_isResult σ x1 = some (re, σe)) : W p l e ({ frames := 2, cells := 0, slots := 0, locals := 46 } : Room) s m args below meth c H locs 0 0 (MQ below (s_Qi (s_WM cy ad) G (s_A ad 12 s.heap.size) re σe) args s 0 0 (s_A ad 12 s.heap.size)) (F0 m 0 ls []) := by
  obtain ⟨hx, hb, hr, hml, hown, hts, hlk, hK, hE, hI⟩ := id C
  have hD : ∀ σ : Sg, va_D (s_A ad 12 s.heap.size) ((s_WM cy ad) σ) := fun σ => s_D (s_WM_ad cy ad σ) hI (fun k hk => Or.inl ⟨k, hk, rfl⟩)
  unfold fX7_isResult at hf
  refine lv_aload_n hx hb dX7_isResult_0 rfl (lv_at hl 0 rfl) ?_
  refine lv_iload_n hx hb dX7_isResult_1 rfl (lv_at hl 1 rfl) ?_
  replace hf := s_bv_some hf
  obtain ⟨σ1, hz2, hf⟩ := hf
  refine s_callv (nn := 1) C (kcX7_rowOf (l := l) (G := G) (cy := cy) (sa := sa) hI (sz := H.size) σ x1 hz2) gk_X7_151 rfl rfl (by decide +kernel) ⟨Nat.le_of_ble_eq_true rfl, Nat.le_of_ble_eq_true rfl⟩ hP hS (q0 := 0) (ci := 7) rfl rfl rfl (As := [.int x1]) (rest := []) rfl rfl hl.1 (Nat.le_of_ble_eq_true rfl) dX7_isResult_2 (fun H locs hP hS => ?_)
  refine lv_aload_n hx hb dX7_isResult_5 rfl (lv_at hl 0 rfl) ?_
  refine va_get (D := G) (ci := 7) (v := .int (σ1 0 15)) (C := RX7) (T := TX7) (N := 28) hx hb hts inkX7 hown hK hP 0 rfl rfl 15 (by decide) (hts _ kw_797) (fun _ h9 => h9) rfl dX7_isResult_6 ?_
  refine lv_aload_n hx hb dX7_isResult_9 rfl (lv_at hl 0 rfl) ?_
  refine va_get (D := G) (ci := 7) (v := .ref (ad 1)) (C := RX7) (T := TX7) (N := 28) hx hb hts inkX7 hown hK hP 0 rfl rfl 0 (by decide) (hts _ kw_782) (fun _ h9 => h9) rfl dX7_isResult_10 ?_
  refine lv_bipush (v := 97) hx hb dX7_isResult_13 (by decide) ?_
  refine va_iald hx hb hK hP 1 1 rfl rfl (by unfold vp_in; decide) dX7_isResult_15 ?_
  rw [cl_97]
  refine lv_icmp_lt (tgt := 26) hx hb dX7_isResult_16 (by decide) (fun c3 => ?_) (fun c3 => ?_)
  · rw [if_pos c3] at hf
    exact kX7_isResult_b26 C σ1 _ _ _ (lv_sub hl [] rfl) hP hS hf
  · rw [if_neg c3] at hf
    refine lv_aload_n hx hb dX7_isResult_19 rfl (lv_at hl 0 rfl) ?_
    refine va_get (D := G) (ci := 7) (v := .int (σ1 0 15)) (C := RX7) (T := TX7) (N := 28) hx hb hts inkX7 hown hK hP 0 rfl rfl 15 (by decide) (hts _ kw_797) (fun _ h9 => h9) rfl dX7_isResult_20 ?_
    refine lv_if_ne (tgt := 28) hx hb dX7_isResult_23 (by decide) (fun c4 => ?_) (fun c4 => ?_)
    · rw [if_neg c4] at hf
      refine lv_aload_n hx hb dX7_isResult_28 rfl (lv_at hl 0 rfl) ?_
      refine va_get (D := G) (ci := 7) (v := .ref (ad 1)) (C := RX7) (T := TX7) (N := 28) hx hb hts inkX7 hown hK hP 0 rfl rfl 0 (by decide) (hts _ kw_782) (fun _ h9 => h9) rfl dX7_isResult_29 ?_
      refine lv_bipush (v := 99) hx hb dX7_isResult_32 (by decide) ?_
      refine va_iald hx hb hK hP 1 1 rfl rfl (by unfold vp_in; decide) dX7_isResult_34 ?_
      rw [cl_99]
      refine lv_topi (fun t5 et5 => ?_)
      replace hf := s_lt_at et5 hf
      refine lv_istore_n (lv' := [(2, .int t5), (0, .ref (ad 0)), (1, .int x1)]) hx hb dX7_isResult_35 rfl hl (by decide) rfl (fun ls hl => ?_)
      refine lv_aload_n hx hb dX7_isResult_36 rfl (lv_at hl 1 rfl) ?_
      refine va_get (D := G) (ci := 7) (v := .int (σ1 0 15)) (C := RX7) (T := TX7) (N := 28) hx hb hts inkX7 hown hK hP 0 rfl rfl 15 (by decide) (hts _ kw_797) (fun _ h9 => h9) rfl dX7_isResult_37 ?_
      refine lv_iconst (v := 1) hx hb dX7_isResult_40 (by decide) ?_
      refine lv_isub hx hb dX7_isResult_41 ?_
      refine lv_aload_n hx hb dX7_isResult_42 rfl (lv_at hl 1 rfl) ?_
      refine va_get (D := G) (ci := 7) (v := .ref (ad 1)) (C := RX7) (T := TX7) (N := 28) hx hb hts inkX7 hown hK hP 0 rfl rfl 0 (by decide) (hts _ kw_782) (fun _ h9 => h9) rfl dX7_isResult_43 ?_
      refine lv_bipush (v := 98) hx hb dX7_isResult_46 (by decide) ?_
      refine va_iald hx hb hK hP 1 1 rfl rfl (by unfold vp_in; decide) dX7_isResult_48 ?_
      rw [cl_98]
      refine lv_imul hx hb dX7_isResult_49 ?_
      refine lv_topi (fun t6 et6 => ?_)
      replace hf := s_lt_at et6 hf
      refine lv_istore_n (lv' := [(3, .int t6), (2, .int t5), (0, .ref (ad 0)), (1, .int x1)]) hx hb dX7_isResult_50 rfl hl (by decide) rfl (fun ls hl => ?_)
      refine lv_aload_n hx hb dX7_isResult_51 rfl (lv_at hl 2 rfl) ?_
      refine lv_iload_n hx hb dX7_isResult_52 rfl (lv_at hl 0 rfl) ?_
      refine lv_iload_n hx hb dX7_isResult_53 rfl (lv_at hl 1 rfl) ?_
      replace hf := s_gd_some hf
      obtain ⟨g7, hf⟩ := hf
      refine lv_idiv hx hb dX7_isResult_54 (s_nz_of g7) ?_
      refine va_put (D := G) (ci := 7) (v := .int (t6 / t5)) (ty := .int) (C := RX7) (T := TX7) (N := 28) hx hb hts inkX7 tyX7 tyX7_ok nmX7 hown hK hP (hD _) hS 0 rfl rfl 17 (by decide) (hts _ kw_799) (fun _ h9 => h9) rfl (by decide +kernel) rfl rfl (Nat.le_of_ble_eq_true rfl) dX7_isResult_55 (fun H locs hP _ hS => ?_)
      obtain ⟨σ8, eσ8⟩ : ∃ z : Sg, z = (s_up σ1 0 17 (t6 / t5)) := ⟨_, rfl⟩
      replace hf := s_lt_at eσ8 hf
      replace hP : va_P G vwCl ((s_WM cy ad) σ8) H := by rw [eσ8]; exact hP
      refine lv_aload_n hx hb dX7_isResult_58 rfl (lv_at hl 2 rfl) ?_
      refine lv_iload_n hx hb dX7_isResult_59 rfl (lv_at hl 0 rfl) ?_
      refine lv_iload_n hx hb dX7_isResult_60 rfl (lv_at hl 1 rfl) ?_
      replace hf := s_gd_some hf
      obtain ⟨g9, hf⟩ := hf
      refine lv_irem hx hb dX7_isResult_61 (s_nz_of g9) ?_
      refine lv_topi (fun t10 et10 => ?_)
      replace hf := s_lt_at et10 hf
      refine va_put (D := G) (ci := 7) (v := .int t10) (ty := .int) (C := RX7) (T := TX7) (N := 28) hx hb hts inkX7 tyX7 tyX7_ok nmX7 hown hK hP (hD _) hS 0 rfl rfl 18 (by decide) (hts _ kw_800) (fun _ h9 => h9) rfl (by decide +kernel) rfl rfl (Nat.le_of_ble_eq_true rfl) dX7_isResult_62 (fun H locs hP _ hS => ?_)
      obtain ⟨σ11, eσ11⟩ : ∃ z : Sg, z = (s_up σ8 0 18 t10) := ⟨_, rfl⟩
      replace hf := s_lt_at eσ11 hf
      replace hP : va_P G vwCl ((s_WM cy ad) σ11) H := by rw [eσ11]; exact hP
      refine lv_aload_n hx hb dX7_isResult_65 rfl (lv_at hl 2 rfl) ?_
      refine va_get (D := G) (ci := 7) (v := .ref (ad 5)) (C := RX7) (T := TX7) (N := 28) hx hb hts inkX7 hown hK hP 0 rfl rfl 14 (by decide) (hts _ kw_796) (fun _ h9 => h9) rfl dX7_isResult_66 ?_
      refine lv_aload_n hx hb dX7_isResult_69 rfl (lv_at hl 2 rfl) ?_
      refine va_get (D := G) (ci := 7) (v := .int (σ11 0 17)) (C := RX7) (T := TX7) (N := 28) hx hb hts inkX7 hown hK hP 0 rfl rfl 17 (by decide) (hts _ kw_799) (fun _ h9 => h9) rfl dX7_isResult_70 ?_
      replace hf := s_gd_some hf
      obtain ⟨g12, hf⟩ := hf
      refine va_iald hx hb hK hP 5 1 rfl rfl (s_in_of g12) dX7_isResult_73 ?_
      refine lv_topi (fun t13 et13 => ?_)
      replace hf := s_lt_at et13 hf
      refine lv_istore (lv' := [(4, .int t13), (3, .int t6), (2, .int t5), (0, .ref (ad 0)), (1, .int x1)]) hx hb dX7_isResult_74 hl (by decide) rfl (fun ls hl => ?_)
      refine lv_aload_n hx hb dX7_isResult_76 rfl (lv_at hl 3 rfl) ?_
      refine va_get (D := G) (ci := 7) (v := .int (σ11 0 18)) (C := RX7) (T := TX7) (N := 28) hx hb hts inkX7 hown hK hP 0 rfl rfl 18 (by decide) (hts _ kw_800) (fun _ h9 => h9) rfl dX7_isResult_77 ?_
      refine lv_if_le (tgt := 97) hx hb dX7_isResult_80 (by decide) (fun c14 => ?_) (fun c14 => ?_)
      · rw [if_pos c14] at hf
        refine lv_iload hx hb dX7_isResult_97 (lv_at hl 0 rfl) ?_
        exact kX7_isResult_b99 C σ11 t5 t13 t13 _ _ _ (lv_sub hl [3, 2, 0] rfl) hP hS hf
      · rw [if_neg c14] at hf
        refine lv_aload_n hx hb dX7_isResult_83 rfl (lv_at hl 3 rfl) ?_
        refine va_get (D := G) (ci := 7) (v := .ref (ad 5)) (C := RX7) (T := TX7) (N := 28) hx hb hts inkX7 hown hK hP 0 rfl rfl 14 (by decide) (hts _ kw_796) (fun _ h9 => h9) rfl dX7_isResult_84 ?_
        refine lv_aload_n hx hb dX7_isResult_87 rfl (lv_at hl 3 rfl) ?_
        refine va_get (D := G) (ci := 7) (v := .int (σ11 0 17)) (C := RX7) (T := TX7) (N := 28) hx hb hts inkX7 hown hK hP 0 rfl rfl 17 (by decide) (hts _ kw_799) (fun _ h9 => h9) rfl dX7_isResult_88 ?_
        refine lv_iconst (v := 1) hx hb dX7_isResult_91 (by decide) ?_
        refine lv_iadd hx hb dX7_isResult_92 ?_
        replace hf := s_gd_some hf
        obtain ⟨g15, hf⟩ := hf
        refine va_iald hx hb hK hP 5 1 rfl rfl (s_in_of g15) dX7_isResult_93 ?_
        refine lv_goto (tgt := 99) hx hb dX7_isResult_94 (by decide) ?_
        exact kX7_isResult_b99 C σ11 t5 t13 (σ11 5 (Int32.toNatClampNeg ((σ11 0 17) + (1 : Int32)))) _ _ _ (lv_sub hl [3, 2, 0] rfl) hP hS hf
    · rw [if_pos c4] at hf
      exact kX7_isResult_b26 C σ1 _ _ _ (lv_sub hl [] rfl) hP hS hf
theorem kcX7_isResult {l : Launch} {G : va_G} {cy : Nat → ClassId} {sa : Nat × Nat} {ad : Nat → Nat}  {sz : Nat} (hI : s_inj ad 12) (σ : Sg) (x1 : Int32) {re : Int32} {σe : Sg} (hf : fX7_isResult σ x1 = some (re, σe)) : Met l yX7_isResult (kW yX7_isResult cX7_isResult 7 (some .boolean)) ({ frames := 2, cells := 0, slots := 0, locals := 46 } : Room) (s_P (s_WM cy ad) G cy sa ad 12 [.ref (ad 0), .int x1] sz σ) (s_Qi (s_WM cy ad) G (s_A ad 12 sz) re σe) 0 0 (s_A ad 12 sz) := by
  refine s_met (own := RX7) (by decide) rfl hI (Nat.le_of_ble_eq_true rfl) (fun p e s m below meth c ls hsz C hP hl => ?_)
  subst hsz
  exact kX7_isResult C σ x1 ls _ _ hl hP va_S.rf hf
set_option maxRecDepth 100000 in
set_option maxHeartbeats 4000000 in
theorem kX7_rounded_b21 (C : s_X p s m meth c args cX7_rounded (some .int) 4 RX7 G cy sa ad 12) (σ : Sg) (y0 : Int64) (ls : Array Slot) (H : Heap) (locs : List Loc) (hl : lv_has ls 4 [(0, .ref (ad 0))]) (hP : va_P G vwCl ((s_WM cy ad) σ) H) (hS : va_S (s_A ad 12 s.heap.size) s.heap H locs) (hf : fX7_rounded_b21 σ y0 = some (re, σe)) : W p l e ({ frames := 0, cells := 0, slots := 0, locals := 0 } : Room) s m args below meth c H locs 0 0 (MQ below (s_Qi (s_WM cy ad) G (s_A ad 12 s.heap.size) re σe) args s 0 0 (s_A ad 12 s.heap.size)) (F0 m 21 ls [.long y0]) := by
  obtain ⟨hx, hb, hr, hml, hown, hts, hlk, hK, hE, hI⟩ := id C
  have hD : ∀ σ : Sg, va_D (s_A ad 12 s.heap.size) ((s_WM cy ad) σ) := fun σ => s_D (s_WM_ad cy ad σ) hI (fun k hk => Or.inl ⟨k, hk, rfl⟩)
  unfold fX7_rounded_b21 at hf
  refine lv_lstore_n (lv' := [(1, .long y0), (0, .ref (ad 0))]) hx hb dX7_rounded_21 rfl hl (by decide) rfl (fun ls hl => ?_)
  refine lv_ldc2 (v := 2) hx hb hown (hts _ kw_976) dX7_rounded_22 ?_
  refine lv_lload_n hx hb dX7_rounded_25 rfl (lv_at hl 0 rfl) ?_
  refine lv_lmul hx hb dX7_rounded_26 ?_
  refine lv_aload_n hx hb dX7_rounded_27 rfl (lv_at hl 1 rfl) ?_
  refine va_get (D := G) (ci := 7) (v := .int (σ 0 20)) (C := RX7) (T := TX7) (N := 28) hx hb hts inkX7 hown hK hP 0 rfl rfl 20 (by decide) (hts _ kw_802) (fun _ h9 => h9) rfl dX7_rounded_28 ?_
  refine lv_i2l (v := (Int32.toInt64 (σ 0 20))) hx hb dX7_rounded_31 rfl ?_
  refine lv_ladd hx hb dX7_rounded_32 ?_
  refine lv_ldc2 (v := 2) hx hb hown (hts _ kw_976) dX7_rounded_33 ?_
  refine lv_aload_n hx hb dX7_rounded_36 rfl (lv_at hl 1 rfl) ?_
  refine va_get (D := G) (ci := 7) (v := .int (σ 0 20)) (C := RX7) (T := TX7) (N := 28) hx hb hts inkX7 hown hK hP 0 rfl rfl 20 (by decide) (hts _ kw_802) (fun _ h9 => h9) rfl dX7_rounded_37 ?_
  refine lv_i2l (v := (Int32.toInt64 (σ 0 20))) hx hb dX7_rounded_40 rfl ?_
  refine lv_lmul hx hb dX7_rounded_41 ?_
  replace hf := s_gd_some hf
  obtain ⟨g1, hf⟩ := hf
  refine lv_ldiv hx hb dX7_rounded_42 (s_nzl_of g1) ?_
  refine lv_l2i (v := (Int64.toInt32 ((((2 : Int64) * y0) + (Int32.toInt64 (σ 0 20))) / ((2 : Int64) * (Int32.toInt64 (σ 0 20)))))) hx hb dX7_rounded_43 rfl ?_
  refine lv_topi (fun t2 et2 => ?_)
  replace hf := s_lt_at et2 hf
  refine lv_istore_n (lv' := [(3, .int t2), (1, .long y0), (0, .ref (ad 0))]) hx hb dX7_rounded_44 rfl hl (by decide) rfl (fun ls hl => ?_)
  refine lv_aload_n hx hb dX7_rounded_45 rfl (lv_at hl 2 rfl) ?_
  refine va_get (D := G) (ci := 7) (v := .int (σ 0 19)) (C := RX7) (T := TX7) (N := 28) hx hb hts inkX7 hown hK hP 0 rfl rfl 19 (by decide) (hts _ kw_801) (fun _ h9 => h9) rfl dX7_rounded_46 ?_
  refine lv_if_ge (tgt := 57) hx hb dX7_rounded_49 (by decide) (fun c3 => ?_) (fun c3 => ?_)
  · rw [if_pos c3] at hf
    refine lv_iload_n hx hb dX7_rounded_57 rfl (lv_at hl 0 rfl) ?_
    obtain ⟨he1, he2⟩ := s_ret hf
    exact W.iret hx hb hr (fun t ht hW => ⟨⟨_, (), rfl, he1, s_fin (Wd := (s_WM cy ad)) ht he2 hP⟩, hS.F ht⟩) hS.2.2 dX7_rounded_58 hlk
  · rw [if_neg c3] at hf
    refine lv_iload_n hx hb dX7_rounded_52 rfl (lv_at hl 0 rfl) ?_
    refine lv_ineg hx hb dX7_rounded_53 ?_
    refine lv_goto (tgt := 58) hx hb dX7_rounded_54 (by decide) ?_
    obtain ⟨he1, he2⟩ := s_ret hf
    exact W.iret hx hb hr (fun t ht hW => ⟨⟨_, (), rfl, he1, s_fin (Wd := (s_WM cy ad)) ht he2 hP⟩, hS.F ht⟩) hS.2.2 dX7_rounded_58 hlk
set_option maxRecDepth 100000 in
set_option maxHeartbeats 4000000 in
theorem kX7_rounded (C : s_X p s m meth c args cX7_rounded (some .int) 4 RX7 G cy sa ad 12) (σ : Sg) (ls : Array Slot) (H : Heap) (locs : List Loc) (hl : lv_has ls 4 [(0, .ref (ad 0))]) (hP : va_P G vwCl ((s_WM cy ad) σ) H) (hS : va_S (s_A ad 12 s.heap.size) s.heap H locs) (hf : fX7_rounded σ = some (re, σe)) : W p l e ({ frames := 0, cells := 0, slots := 0, locals := 0 } : Room) s m args below meth c H locs 0 0 (MQ below (s_Qi (s_WM cy ad) G (s_A ad 12 s.heap.size) re σe) args s 0 0 (s_A ad 12 s.heap.size)) (F0 m 0 ls []) := by
  obtain ⟨hx, hb, hr, hml, hown, hts, hlk, hK, hE, hI⟩ := id C
  have hD : ∀ σ : Sg, va_D (s_A ad 12 s.heap.size) ((s_WM cy ad) σ) := fun σ => s_D (s_WM_ad cy ad σ) hI (fun k hk => Or.inl ⟨k, hk, rfl⟩)
  unfold fX7_rounded at hf
  refine lv_aload_n hx hb dX7_rounded_0 rfl (lv_at hl 0 rfl) ?_
  refine va_get (D := G) (ci := 7) (v := .int (σ 0 19)) (C := RX7) (T := TX7) (N := 28) hx hb hts inkX7 hown hK hP 0 rfl rfl 19 (by decide) (hts _ kw_801) (fun _ h9 => h9) rfl dX7_rounded_1 ?_
  refine lv_if_ge (tgt := 16) hx hb dX7_rounded_4 (by decide) (fun c1 => ?_) (fun c1 => ?_)
  · rw [if_pos c1] at hf
    refine lv_aload_n hx hb dX7_rounded_16 rfl (lv_at hl 0 rfl) ?_
    refine va_get (D := G) (ci := 7) (v := .int (σ 0 19)) (C := RX7) (T := TX7) (N := 28) hx hb hts inkX7 hown hK hP 0 rfl rfl 19 (by decide) (hts _ kw_801) (fun _ h9 => h9) rfl dX7_rounded_17 ?_
    refine lv_i2l (v := (Int32.toInt64 (σ 0 19))) hx hb dX7_rounded_20 rfl ?_
    exact kX7_rounded_b21 C σ (Int32.toInt64 (σ 0 19)) _ _ _ (lv_sub hl [0] rfl) hP hS hf
  · rw [if_neg c1] at hf
    refine lv_aload_n hx hb dX7_rounded_7 rfl (lv_at hl 0 rfl) ?_
    refine va_get (D := G) (ci := 7) (v := .int (σ 0 19)) (C := RX7) (T := TX7) (N := 28) hx hb hts inkX7 hown hK hP 0 rfl rfl 19 (by decide) (hts _ kw_801) (fun _ h9 => h9) rfl dX7_rounded_8 ?_
    refine lv_i2l (v := (Int32.toInt64 (σ 0 19))) hx hb dX7_rounded_11 rfl ?_
    refine lv_lneg hx hb dX7_rounded_12 ?_
    refine lv_goto (tgt := 21) hx hb dX7_rounded_13 (by decide) ?_
    exact kX7_rounded_b21 C σ (-(Int32.toInt64 (σ 0 19))) _ _ _ (lv_sub hl [0] rfl) hP hS hf
theorem kcX7_rounded {l : Launch} {G : va_G} {cy : Nat → ClassId} {sa : Nat × Nat} {ad : Nat → Nat}  {sz : Nat} (hI : s_inj ad 12) (σ : Sg) {re : Int32} {σe : Sg} (hf : fX7_rounded σ = some (re, σe)) : Met l yX7_rounded (kW yX7_rounded cX7_rounded 4 (some .int)) ({ frames := 0, cells := 0, slots := 0, locals := 0 } : Room) (s_P (s_WM cy ad) G cy sa ad 12 [.ref (ad 0)] sz σ) (s_Qi (s_WM cy ad) G (s_A ad 12 sz) re σe) 0 0 (s_A ad 12 sz) := by
  refine s_met (own := RX7) (by decide) rfl hI (Nat.le_of_ble_eq_true rfl) (fun p e s m below meth c ls hsz C hP hl => ?_)
  subst hsz
  exact kX7_rounded C σ ls _ _ hl hP va_S.rf hf
set_option maxRecDepth 100000 in
set_option maxHeartbeats 4000000 in
theorem kX7_missing_b29 (C : s_X p s m meth c args cX7_missing (some .int) 3 RX7 G cy sa ad 12) (k4 : Sg → Int32 → Int32 → Option (Int32 × Sg)) (hk4 : ∀ (σ : Sg) (x1 : Int32) (x2 : Int32) (ls : Array Slot) (H : Heap) (locs : List Loc), lv_has ls 3 [(0, .ref (ad 0)), (1, .int x1), (2, .int x2)] → va_P G vwCl ((s_WM cy ad) σ) H → va_S (s_A ad 12 s.heap.size) s.heap H locs → k4 σ x1 x2 = some (re, σe) → W p l e ({ frames := 1, cells := 0, slots := 0, locals := 20 } : Room) s m args below meth c H locs 0 0 (MQ below (s_Qi (s_WM cy ad) G (s_A ad 12 s.heap.size) re σe) args s 0 0 (s_A ad 12 s.heap.size)) (F0 m 4 ls [])) (σ : Sg) (x2 : Int32) (y0 : Int32) (y1 : Int32) (ls : Array Slot) (H : Heap) (locs : List Loc) (hl : lv_has ls 3 [(0, .ref (ad 0)), (2, .int x2)]) (hP : va_P G vwCl ((s_WM cy ad) σ) H) (hS : va_S (s_A ad 12 s.heap.size) s.heap H locs) (hf : fX7_missing_b29 k4 σ x2 y0 y1 = some (re, σe)) : W p l e ({ frames := 1, cells := 0, slots := 0, locals := 20 } : Room) s m args below meth c H locs 0 0 (MQ below (s_Qi (s_WM cy ad) G (s_A ad 12 s.heap.size) re σe) args s 0 0 (s_A ad 12 s.heap.size)) (F0 m 29 ls [.int y1, .int y0]) := by
  obtain ⟨hx, hb, hr, hml, hown, hts, hlk, hK, hE, hI⟩ := id C
  have hD : ∀ σ : Sg, va_D (s_A ad 12 s.heap.size) ((s_WM cy ad) σ) := fun σ => s_D (s_WM_ad cy ad σ) hI (fun k hk => Or.inl ⟨k, hk, rfl⟩)
  unfold fX7_missing_b29 at hf
  refine lv_iadd hx hb dX7_missing_29 ?_
  refine lv_topi (fun t1 et1 => ?_)
  replace hf := s_lt_at et1 hf
  refine lv_istore_n (lv' := [(1, .int t1), (0, .ref (ad 0)), (2, .int x2)]) hx hb dX7_missing_30 rfl hl (by decide) rfl (fun ls hl => ?_)
  obtain ⟨t2, et2⟩ : ∃ z : Int32, z = (x2 + 1) := ⟨_, rfl⟩
  replace hf := s_lt_at et2 hf
  refine lv_iinc (v := t2) (lv' := [(2, .int t2), (1, .int t1), (0, .ref (ad 0))]) hx hb dX7_missing_31 hl (k := 2) rfl (by rw [et2]; rfl) (by decide) rfl (fun ls hl => ?_)
  refine lv_goto (tgt := 4) hx hb dX7_missing_34 (by decide) ?_
  exact hk4 σ t1 t2 _ _ _ (lv_sub hl [2, 1, 0] rfl) hP hS hf
set_option maxRecDepth 100000 in
set_option maxHeartbeats 4000000 in
theorem kX7_missing_b4 (C : s_X p s m meth c args cX7_missing (some .int) 3 RX7 G cy sa ad 12) (k4 : Sg → Int32 → Int32 → Option (Int32 × Sg)) (hk4 : ∀ (σ : Sg) (x1 : Int32) (x2 : Int32) (ls : Array Slot) (H : Heap) (locs : List Loc), lv_has ls 3 [(0, .ref (ad 0)), (1, .int x1), (2, .int x2)] → va_P G vwCl ((s_WM cy ad) σ) H → va_S (s_A ad 12 s.heap.size) s.heap H locs → k4 σ x1 x2 = some (re, σe) → W p l e ({ frames := 1, cells := 0, slots := 0, locals := 20 } : Room) s m args below meth c H locs 0 0 (MQ below (s_Qi (s_WM cy ad) G (s_A ad 12 s.heap.size) re σe) args s 0 0 (s_A ad 12 s.heap.size)) (F0 m 4 ls [])) (σ : Sg) (x1 : Int32) (x2 : Int32) (ls : Array Slot) (H : Heap) (locs : List Loc) (hl : lv_has ls 3 [(0, .ref (ad 0)), (1, .int x1), (2, .int x2)]) (hP : va_P G vwCl ((s_WM cy ad) σ) H) (hS : va_S (s_A ad 12 s.heap.size) s.heap H locs) (hf : fX7_missing_b4 k4 σ x1 x2 = some (re, σe)) : W p l e ({ frames := 1, cells := 0, slots := 0, locals := 20 } : Room) s m args below meth c H locs 0 0 (MQ below (s_Qi (s_WM cy ad) G (s_A ad 12 s.heap.size) re σe) args s 0 0 (s_A ad 12 s.heap.size)) (F0 m 4 ls []) := by
  obtain ⟨hx, hb, hr, hml, hown, hts, hlk, hK, hE, hI⟩ := id C
  have hD : ∀ σ : Sg, va_D (s_A ad 12 s.heap.size) ((s_WM cy ad) σ) := fun σ => s_D (s_WM_ad cy ad σ) hI (fun k hk => Or.inl ⟨k, hk, rfl⟩)
  unfold fX7_missing_b4 at hf
  refine lv_iload_n hx hb dX7_missing_4 rfl (lv_at hl 2 rfl) ?_
  refine lv_aload_n hx hb dX7_missing_5 rfl (lv_at hl 0 rfl) ?_
  replace hf := s_bi_some hf
  obtain ⟨r3, σ1, hz2, hf⟩ := hf
  refine s_calli (nn := 0) C (kcX7_many (l := l) (G := G) (cy := cy) (sa := sa) hI (sz := H.size) σ hz2) gk_X7_141 rfl rfl (by decide +kernel) ⟨Nat.le_of_ble_eq_true rfl, Nat.le_of_ble_eq_true rfl⟩ hP hS (q0 := 0) (ci := 7) rfl rfl rfl (As := []) (rest := [.int x2]) rfl rfl hl.1 (Nat.le_of_ble_eq_true rfl) dX7_missing_6 (fun H locs hP hS => ?_)
  refine lv_icmp_ge (tgt := 37) hx hb dX7_missing_9 (by decide) (fun c4 => ?_) (fun c4 => ?_)
  · rw [if_pos c4] at hf
    refine lv_iload_n hx hb dX7_missing_37 rfl (lv_at hl 1 rfl) ?_
    obtain ⟨he1, he2⟩ := s_ret hf
    exact W.iret hx hb hr (fun t ht hW => ⟨⟨_, (), rfl, he1, s_fin (Wd := (s_WM cy ad)) ht he2 hP⟩, hS.F ht⟩) hS.2.2 dX7_missing_38 hlk
  · rw [if_neg c4] at hf
    refine lv_iload_n hx hb dX7_missing_12 rfl (lv_at hl 1 rfl) ?_
    refine lv_aload_n hx hb dX7_missing_13 rfl (lv_at hl 0 rfl) ?_
    refine va_get (D := G) (ci := 7) (v := .ref (ad 1)) (C := RX7) (T := TX7) (N := 28) hx hb hts inkX7 hown hK hP 0 rfl rfl 0 (by decide) (hts _ kw_782) (fun _ h9 => h9) rfl dX7_missing_14 ?_
    refine lv_iload_n hx hb dX7_missing_17 rfl (lv_at hl 2 rfl) ?_
    replace hf := s_gd_some hf
    obtain ⟨g5, hf⟩ := hf
    refine va_iald hx hb hK hP 1 1 rfl rfl (s_in_of g5) dX7_missing_18 ?_
    refine lv_ldc (v := 100000000) hx hb hown (hts _ kw_936) dX7_missing_19 ?_
    refine lv_icmp_ne (tgt := 28) hx hb dX7_missing_21 (by decide) (fun c6 => ?_) (fun c6 => ?_)
    · rw [if_neg c6] at hf
      refine lv_iconst (v := 0) hx hb dX7_missing_28 (by decide) ?_
      exact kX7_missing_b29 C k4 hk4 σ1 x2 x1 (0 : Int32) _ _ _ (lv_sub hl [0, 2] rfl) hP hS hf
    · rw [if_pos c6] at hf
      refine lv_iconst (v := 1) hx hb dX7_missing_24 (by decide) ?_
      refine lv_goto (tgt := 29) hx hb dX7_missing_25 (by decide) ?_
      exact kX7_missing_b29 C k4 hk4 σ1 x2 x1 (1 : Int32) _ _ _ (lv_sub hl [0, 2] rfl) hP hS hf
set_option maxRecDepth 100000 in
set_option maxHeartbeats 4000000 in
theorem kX7_missing_b4_L (C : s_X p s m meth c args cX7_missing (some .int) 3 RX7 G cy sa ad 12) : ∀ (n : Nat), ∀ (σ : Sg) (x1 : Int32) (x2 : Int32) (ls : Array Slot) (H : Heap) (locs : List Loc), lv_has ls 3 [(0, .ref (ad 0)), (1, .int x1), (2, .int x2)] → va_P G vwCl ((s_WM cy ad) σ) H → va_S (s_A ad 12 s.heap.size) s.heap H locs → fX7_missing_b4_L n σ x1 x2 = some (re, σe) → W p l e ({ frames := 1, cells := 0, slots := 0, locals := 20 } : Room) s m args below meth c H locs 0 0 (MQ below (s_Qi (s_WM cy ad) G (s_A ad 12 s.heap.size) re σe) args s 0 0 (s_A ad 12 s.heap.size)) (F0 m 4 ls []) := by
  intro n
  induction n with
  | zero => intro σ x1 x2 ls H locs hl hP hS hf; exact absurd (show (none : Option (Int32 × Sg)) = some (re, σe) from hf) (by intro h; cases h)
  | succ n ih => intro σ x1 x2 ls H locs hl hP hS hf; exact kX7_missing_b4 C (fX7_missing_b4_L n) ih σ x1 x2 ls H locs hl hP hS hf
set_option maxRecDepth 100000 in
set_option maxHeartbeats 4000000 in
theorem kX7_missing (C : s_X p s m meth c args cX7_missing (some .int) 3 RX7 G cy sa ad 12) (σ : Sg) (ls : Array Slot) (H : Heap) (locs : List Loc) (hl : lv_has ls 3 [(0, .ref (ad 0))]) (hP : va_P G vwCl ((s_WM cy ad) σ) H) (hS : va_S (s_A ad 12 s.heap.size) s.heap H locs) (hf : fX7_missing σ = some (re, σe)) : W p l e ({ frames := 1, cells := 0, slots := 0, locals := 20 } : Room) s m args below meth c H locs 0 0 (MQ below (s_Qi (s_WM cy ad) G (s_A ad 12 s.heap.size) re σe) args s 0 0 (s_A ad 12 s.heap.size)) (F0 m 0 ls []) := by
  obtain ⟨hx, hb, hr, hml, hown, hts, hlk, hK, hE, hI⟩ := id C
  have hD : ∀ σ : Sg, va_D (s_A ad 12 s.heap.size) ((s_WM cy ad) σ) := fun σ => s_D (s_WM_ad cy ad σ) hI (fun k hk => Or.inl ⟨k, hk, rfl⟩)
  unfold fX7_missing at hf
  refine lv_iconst (v := 0) hx hb dX7_missing_0 (by decide) ?_
  refine lv_istore_n (lv' := [(1, .int (0 : Int32)), (0, .ref (ad 0))]) hx hb dX7_missing_1 rfl hl (by decide) rfl (fun ls hl => ?_)
  refine lv_iconst (v := 0) hx hb dX7_missing_2 (by decide) ?_
  refine lv_istore_n (lv' := [(2, .int (0 : Int32)), (1, .int (0 : Int32)), (0, .ref (ad 0))]) hx hb dX7_missing_3 rfl hl (by decide) rfl (fun ls hl => ?_)
  exact kX7_missing_b4_L C s_fu σ (0 : Int32) (0 : Int32) _ _ _ (lv_sub hl [2, 1, 0] rfl) hP hS hf
theorem kcX7_missing {l : Launch} {G : va_G} {cy : Nat → ClassId} {sa : Nat × Nat} {ad : Nat → Nat}  {sz : Nat} (hI : s_inj ad 12) (σ : Sg) {re : Int32} {σe : Sg} (hf : fX7_missing σ = some (re, σe)) : Met l yX7_missing (kW yX7_missing cX7_missing 3 (some .int)) ({ frames := 1, cells := 0, slots := 0, locals := 20 } : Room) (s_P (s_WM cy ad) G cy sa ad 12 [.ref (ad 0)] sz σ) (s_Qi (s_WM cy ad) G (s_A ad 12 sz) re σe) 0 0 (s_A ad 12 sz) := by
  refine s_met (own := RX7) (by decide) rfl hI (Nat.le_of_ble_eq_true rfl) (fun p e s m below meth c ls hsz C hP hl => ?_)
  subst hsz
  exact kX7_missing C σ ls _ _ hl hP va_S.rf hf
set_option maxRecDepth 100000 in
set_option maxHeartbeats 4000000 in
theorem kX7_results_b26 (C : s_X p s m meth c args cX7_results (some .int) 3 RX7 G cy sa ad 12) (k4 : Sg → Int32 → Int32 → Option (Int32 × Sg)) (hk4 : ∀ (σ : Sg) (x1 : Int32) (x2 : Int32) (ls : Array Slot) (H : Heap) (locs : List Loc), lv_has ls 3 [(0, .ref (ad 0)), (1, .int x1), (2, .int x2)] → va_P G vwCl ((s_WM cy ad) σ) H → va_S (s_A ad 12 s.heap.size) s.heap H locs → k4 σ x1 x2 = some (re, σe) → W p l e ({ frames := 3, cells := 0, slots := 0, locals := 72 } : Room) s m args below meth c H locs 0 0 (MQ below (s_Qi (s_WM cy ad) G (s_A ad 12 s.heap.size) re σe) args s 0 0 (s_A ad 12 s.heap.size)) (F0 m 4 ls [])) (σ : Sg) (x2 : Int32) (y0 : Int32) (y1 : Int32) (ls : Array Slot) (H : Heap) (locs : List Loc) (hl : lv_has ls 3 [(0, .ref (ad 0)), (2, .int x2)]) (hP : va_P G vwCl ((s_WM cy ad) σ) H) (hS : va_S (s_A ad 12 s.heap.size) s.heap H locs) (hf : fX7_results_b26 k4 σ x2 y0 y1 = some (re, σe)) : W p l e ({ frames := 3, cells := 0, slots := 0, locals := 72 } : Room) s m args below meth c H locs 0 0 (MQ below (s_Qi (s_WM cy ad) G (s_A ad 12 s.heap.size) re σe) args s 0 0 (s_A ad 12 s.heap.size)) (F0 m 26 ls [.int y1, .int y0]) := by
  obtain ⟨hx, hb, hr, hml, hown, hts, hlk, hK, hE, hI⟩ := id C
  have hD : ∀ σ : Sg, va_D (s_A ad 12 s.heap.size) ((s_WM cy ad) σ) := fun σ => s_D (s_WM_ad cy ad σ) hI (fun k hk => Or.inl ⟨k, hk, rfl⟩)
  unfold fX7_results_b26 at hf
  refine lv_iadd hx hb dX7_results_26 ?_
  refine lv_topi (fun t1 et1 => ?_)
  replace hf := s_lt_at et1 hf
  refine lv_istore_n (lv' := [(1, .int t1), (0, .ref (ad 0)), (2, .int x2)]) hx hb dX7_results_27 rfl hl (by decide) rfl (fun ls hl => ?_)
  obtain ⟨t2, et2⟩ : ∃ z : Int32, z = (x2 + 1) := ⟨_, rfl⟩
  replace hf := s_lt_at et2 hf
  refine lv_iinc (v := t2) (lv' := [(2, .int t2), (1, .int t1), (0, .ref (ad 0))]) hx hb dX7_results_28 hl (k := 2) rfl (by rw [et2]; rfl) (by decide) rfl (fun ls hl => ?_)
  refine lv_goto (tgt := 4) hx hb dX7_results_31 (by decide) ?_
  exact hk4 σ t1 t2 _ _ _ (lv_sub hl [2, 1, 0] rfl) hP hS hf
set_option maxRecDepth 100000 in
set_option maxHeartbeats 4000000 in
theorem kX7_results_b4 (C : s_X p s m meth c args cX7_results (some .int) 3 RX7 G cy sa ad 12) (k4 : Sg → Int32 → Int32 → Option (Int32 × Sg)) (hk4 : ∀ (σ : Sg) (x1 : Int32) (x2 : Int32) (ls : Array Slot) (H : Heap) (locs : List Loc), lv_has ls 3 [(0, .ref (ad 0)), (1, .int x1), (2, .int x2)] → va_P G vwCl ((s_WM cy ad) σ) H → va_S (s_A ad 12 s.heap.size) s.heap H locs → k4 σ x1 x2 = some (re, σe) → W p l e ({ frames := 3, cells := 0, slots := 0, locals := 72 } : Room) s m args below meth c H locs 0 0 (MQ below (s_Qi (s_WM cy ad) G (s_A ad 12 s.heap.size) re σe) args s 0 0 (s_A ad 12 s.heap.size)) (F0 m 4 ls [])) (σ : Sg) (x1 : Int32) (x2 : Int32) (ls : Array Slot) (H : Heap) (locs : List Loc) (hl : lv_has ls 3 [(0, .ref (ad 0)), (1, .int x1), (2, .int x2)]) (hP : va_P G vwCl ((s_WM cy ad) σ) H) (hS : va_S (s_A ad 12 s.heap.size) s.heap H locs) (hf : fX7_results_b4 k4 σ x1 x2 = some (re, σe)) : W p l e ({ frames := 3, cells := 0, slots := 0, locals := 72 } : Room) s m args below meth c H locs 0 0 (MQ below (s_Qi (s_WM cy ad) G (s_A ad 12 s.heap.size) re σe) args s 0 0 (s_A ad 12 s.heap.size)) (F0 m 4 ls []) := by
  obtain ⟨hx, hb, hr, hml, hown, hts, hlk, hK, hE, hI⟩ := id C
  have hD : ∀ σ : Sg, va_D (s_A ad 12 s.heap.size) ((s_WM cy ad) σ) := fun σ => s_D (s_WM_ad cy ad σ) hI (fun k hk => Or.inl ⟨k, hk, rfl⟩)
  unfold fX7_results_b4 at hf
  refine lv_iload_n hx hb dX7_results_4 rfl (lv_at hl 2 rfl) ?_
  refine lv_aload_n hx hb dX7_results_5 rfl (lv_at hl 0 rfl) ?_
  replace hf := s_bi_some hf
  obtain ⟨r3, σ1, hz2, hf⟩ := hf
  refine s_calli (nn := 0) C (kcX7_many (l := l) (G := G) (cy := cy) (sa := sa) hI (sz := H.size) σ hz2) gk_X7_141 rfl rfl (by decide +kernel) ⟨Nat.le_of_ble_eq_true rfl, Nat.le_of_ble_eq_true rfl⟩ hP hS (q0 := 0) (ci := 7) rfl rfl rfl (As := []) (rest := [.int x2]) rfl rfl hl.1 (Nat.le_of_ble_eq_true rfl) dX7_results_6 (fun H locs hP hS => ?_)
  refine lv_icmp_ge (tgt := 34) hx hb dX7_results_9 (by decide) (fun c4 => ?_) (fun c4 => ?_)
  · rw [if_pos c4] at hf
    refine lv_iload_n hx hb dX7_results_34 rfl (lv_at hl 1 rfl) ?_
    obtain ⟨he1, he2⟩ := s_ret hf
    exact W.iret hx hb hr (fun t ht hW => ⟨⟨_, (), rfl, he1, s_fin (Wd := (s_WM cy ad)) ht he2 hP⟩, hS.F ht⟩) hS.2.2 dX7_results_35 hlk
  · rw [if_neg c4] at hf
    refine lv_iload_n hx hb dX7_results_12 rfl (lv_at hl 1 rfl) ?_
    refine lv_aload_n hx hb dX7_results_13 rfl (lv_at hl 0 rfl) ?_
    refine lv_iload_n hx hb dX7_results_14 rfl (lv_at hl 2 rfl) ?_
    replace hf := s_bi_some hf
    obtain ⟨r7, σ5, hz6, hf⟩ := hf
    refine s_calli (nn := 1) C (kcX7_isResult (l := l) (G := G) (cy := cy) (sa := sa) hI (sz := H.size) σ1 x2 hz6) gk_X7_168 rfl rfl (by decide +kernel) ⟨Nat.le_of_ble_eq_true rfl, Nat.le_of_ble_eq_true rfl⟩ hP hS (q0 := 0) (ci := 7) rfl rfl rfl (As := [.int x2]) (rest := [.int x1]) rfl rfl hl.1 (Nat.le_of_ble_eq_true rfl) dX7_results_15 (fun H locs hP hS => ?_)
    refine lv_if_eq (tgt := 25) hx hb dX7_results_18 (by decide) (fun c8 => ?_) (fun c8 => ?_)
    · rw [if_pos c8] at hf
      refine lv_iconst (v := 0) hx hb dX7_results_25 (by decide) ?_
      exact kX7_results_b26 C k4 hk4 σ5 x2 x1 (0 : Int32) _ _ _ (lv_sub hl [0, 2] rfl) hP hS hf
    · rw [if_neg c8] at hf
      refine lv_iconst (v := 1) hx hb dX7_results_21 (by decide) ?_
      refine lv_goto (tgt := 26) hx hb dX7_results_22 (by decide) ?_
      exact kX7_results_b26 C k4 hk4 σ5 x2 x1 (1 : Int32) _ _ _ (lv_sub hl [0, 2] rfl) hP hS hf
set_option maxRecDepth 100000 in
set_option maxHeartbeats 4000000 in
theorem kX7_results_b4_L (C : s_X p s m meth c args cX7_results (some .int) 3 RX7 G cy sa ad 12) : ∀ (n : Nat), ∀ (σ : Sg) (x1 : Int32) (x2 : Int32) (ls : Array Slot) (H : Heap) (locs : List Loc), lv_has ls 3 [(0, .ref (ad 0)), (1, .int x1), (2, .int x2)] → va_P G vwCl ((s_WM cy ad) σ) H → va_S (s_A ad 12 s.heap.size) s.heap H locs → fX7_results_b4_L n σ x1 x2 = some (re, σe) → W p l e ({ frames := 3, cells := 0, slots := 0, locals := 72 } : Room) s m args below meth c H locs 0 0 (MQ below (s_Qi (s_WM cy ad) G (s_A ad 12 s.heap.size) re σe) args s 0 0 (s_A ad 12 s.heap.size)) (F0 m 4 ls []) := by
  intro n
  induction n with
  | zero => intro σ x1 x2 ls H locs hl hP hS hf; exact absurd (show (none : Option (Int32 × Sg)) = some (re, σe) from hf) (by intro h; cases h)
  | succ n ih => intro σ x1 x2 ls H locs hl hP hS hf; exact kX7_results_b4 C (fX7_results_b4_L n) ih σ x1 x2 ls H locs hl hP hS hf
set_option maxRecDepth 100000 in
set_option maxHeartbeats 4000000 in
theorem kX7_results (C : s_X p s m meth c args cX7_results (some .int) 3 RX7 G cy sa ad 12) (σ : Sg) (ls : Array Slot) (H : Heap) (locs : List Loc) (hl : lv_has ls 3 [(0, .ref (ad 0))]) (hP : va_P G vwCl ((s_WM cy ad) σ) H) (hS : va_S (s_A ad 12 s.heap.size) s.heap H locs) (hf : fX7_results σ = some (re, σe)) : W p l e ({ frames := 3, cells := 0, slots := 0, locals := 72 } : Room) s m args below meth c H locs 0 0 (MQ below (s_Qi (s_WM cy ad) G (s_A ad 12 s.heap.size) re σe) args s 0 0 (s_A ad 12 s.heap.size)) (F0 m 0 ls []) := by
  obtain ⟨hx, hb, hr, hml, hown, hts, hlk, hK, hE, hI⟩ := id C
  have hD : ∀ σ : Sg, va_D (s_A ad 12 s.heap.size) ((s_WM cy ad) σ) := fun σ => s_D (s_WM_ad cy ad σ) hI (fun k hk => Or.inl ⟨k, hk, rfl⟩)
  unfold fX7_results at hf
  refine lv_iconst (v := 0) hx hb dX7_results_0 (by decide) ?_
  refine lv_istore_n (lv' := [(1, .int (0 : Int32)), (0, .ref (ad 0))]) hx hb dX7_results_1 rfl hl (by decide) rfl (fun ls hl => ?_)
  refine lv_iconst (v := 0) hx hb dX7_results_2 (by decide) ?_
  refine lv_istore_n (lv' := [(2, .int (0 : Int32)), (1, .int (0 : Int32)), (0, .ref (ad 0))]) hx hb dX7_results_3 rfl hl (by decide) rfl (fun ls hl => ?_)
  exact kX7_results_b4_L C s_fu σ (0 : Int32) (0 : Int32) _ _ _ (lv_sub hl [2, 1, 0] rfl) hP hS hf
theorem kcX7_results {l : Launch} {G : va_G} {cy : Nat → ClassId} {sa : Nat × Nat} {ad : Nat → Nat}  {sz : Nat} (hI : s_inj ad 12) (σ : Sg) {re : Int32} {σe : Sg} (hf : fX7_results σ = some (re, σe)) : Met l yX7_results (kW yX7_results cX7_results 3 (some .int)) ({ frames := 3, cells := 0, slots := 0, locals := 72 } : Room) (s_P (s_WM cy ad) G cy sa ad 12 [.ref (ad 0)] sz σ) (s_Qi (s_WM cy ad) G (s_A ad 12 sz) re σe) 0 0 (s_A ad 12 sz) := by
  refine s_met (own := RX7) (by decide) rfl hI (Nat.le_of_ble_eq_true rfl) (fun p e s m below meth c ls hsz C hP hl => ?_)
  subst hsz
  exact kX7_results C σ ls _ _ hl hP va_S.rf hf
set_option maxRecDepth 100000 in
set_option maxHeartbeats 4000000 in
theorem kX7_rule (C : s_X p s m meth c args cX7_rule (some .int) 2 RX7 G cy sa ad 12) (σ : Sg) (x1 : Int32) (ls : Array Slot) (H : Heap) (locs : List Loc) (hl : lv_has ls 2 [(0, .ref (ad 0)), (1, .int x1)]) (hP : va_P G vwCl ((s_WM cy ad) σ) H) (hS : va_S (s_A ad 12 s.heap.size) s.heap H locs) (hf : fX7_rule σ x1 = some (re, σe)) : W p l e ({ frames := 4, cells := 0, slots := 0, locals := 94 } : Room) s m args below meth c H locs 0 0 (MQ below (s_Qi (s_WM cy ad) G (s_A ad 12 s.heap.size) re σe) args s 0 0 (s_A ad 12 s.heap.size)) (F0 m 0 ls []) := by
  obtain ⟨hx, hb, hr, hml, hown, hts, hlk, hK, hE, hI⟩ := id C
  have hD : ∀ σ : Sg, va_D (s_A ad 12 s.heap.size) ((s_WM cy ad) σ) := fun σ => s_D (s_WM_ad cy ad σ) hI (fun k hk => Or.inl ⟨k, hk, rfl⟩)
  unfold fX7_rule at hf
  refine lv_aload_n hx hb dX7_rule_0 rfl (lv_at hl 0 rfl) ?_
  replace hf := s_bv_some hf
  obtain ⟨σ1, hz2, hf⟩ := hf
  refine s_callv (nn := 0) C (kcX7_starts (l := l) (G := G) (cy := cy) (sa := sa) hI (sz := H.size) σ hz2) gk_X7_128 rfl rfl (by decide +kernel) ⟨Nat.le_of_ble_eq_true rfl, Nat.le_of_ble_eq_true rfl⟩ hP hS (q0 := 0) (ci := 7) rfl rfl rfl (As := []) (rest := []) rfl rfl hl.1 (Nat.le_of_ble_eq_true rfl) dX7_rule_1 (fun H locs hP hS => ?_)
  refine lv_iload_n hx hb dX7_rule_4 rfl (lv_at hl 1 rfl) ?_
  by_cases c3 : x1 = 0
  · rw [if_pos c3] at hf
    refine lv_lookup (off := 35) (tgt := 40) hx hb dX7_rule_5 (by decide) (by rw [c3]; decide) (by decide) ?_
    refine lv_aload_n hx hb dX7_rule_40 rfl (lv_at hl 0 rfl) ?_
    replace hf := s_bi_some hf
    obtain ⟨r6, σ4, hz5, hf⟩ := hf
    refine s_calli (nn := 0) C (kcX7_many (l := l) (G := G) (cy := cy) (sa := sa) hI (sz := H.size) σ1 hz5) gk_X7_141 rfl rfl (by decide +kernel) ⟨Nat.le_of_ble_eq_true rfl, Nat.le_of_ble_eq_true rfl⟩ hP hS (q0 := 0) (ci := 7) rfl rfl rfl (As := []) (rest := []) rfl rfl hl.1 (Nat.le_of_ble_eq_true rfl) dX7_rule_41 (fun H locs hP hS => ?_)
    obtain ⟨he1, he2⟩ := s_ret hf
    exact W.iret hx hb hr (fun t ht hW => ⟨⟨_, (), rfl, he1, s_fin (Wd := (s_WM cy ad)) ht he2 hP⟩, hS.F ht⟩) hS.2.2 dX7_rule_44 hlk
  · rw [if_neg c3] at hf
    by_cases c7 : x1 = 1
    · rw [if_pos c7] at hf
      refine lv_lookup (off := 40) (tgt := 45) hx hb dX7_rule_5 (by decide) (by rw [c7]; decide) (by decide) ?_
      refine lv_aload_n hx hb dX7_rule_45 rfl (lv_at hl 0 rfl) ?_
      replace hf := s_bi_some hf
      obtain ⟨r10, σ8, hz9, hf⟩ := hf
      refine s_calli (nn := 0) C (kcX7_missing (l := l) (G := G) (cy := cy) (sa := sa) hI (sz := H.size) σ1 hz9) gk_X7_172 rfl rfl (by decide +kernel) ⟨Nat.le_of_ble_eq_true rfl, Nat.le_of_ble_eq_true rfl⟩ hP hS (q0 := 0) (ci := 7) rfl rfl rfl (As := []) (rest := []) rfl rfl hl.1 (Nat.le_of_ble_eq_true rfl) dX7_rule_46 (fun H locs hP hS => ?_)
      obtain ⟨he1, he2⟩ := s_ret hf
      exact W.iret hx hb hr (fun t ht hW => ⟨⟨_, (), rfl, he1, s_fin (Wd := (s_WM cy ad)) ht he2 hP⟩, hS.F ht⟩) hS.2.2 dX7_rule_49 hlk
    · rw [if_neg c7] at hf
      by_cases c11 : x1 = 8
      · rw [if_pos c11] at hf
        refine lv_lookup (off := 45) (tgt := 50) hx hb dX7_rule_5 (by decide) (by rw [c11]; decide) (by decide) ?_
        refine lv_aload_n hx hb dX7_rule_50 rfl (lv_at hl 0 rfl) ?_
        replace hf := s_bi_some hf
        obtain ⟨r14, σ12, hz13, hf⟩ := hf
        refine s_calli (nn := 0) C (kcX7_results (l := l) (G := G) (cy := cy) (sa := sa) hI (sz := H.size) σ1 hz13) gk_X7_175 rfl rfl (by decide +kernel) ⟨Nat.le_of_ble_eq_true rfl, Nat.le_of_ble_eq_true rfl⟩ hP hS (q0 := 0) (ci := 7) rfl rfl rfl (As := []) (rest := []) rfl rfl hl.1 (Nat.le_of_ble_eq_true rfl) dX7_rule_51 (fun H locs hP hS => ?_)
        obtain ⟨he1, he2⟩ := s_ret hf
        exact W.iret hx hb hr (fun t ht hW => ⟨⟨_, (), rfl, he1, s_fin (Wd := (s_WM cy ad)) ht he2 hP⟩, hS.F ht⟩) hS.2.2 dX7_rule_54 hlk
      · rw [if_neg c11] at hf
        refine lv_lookup (off := 50) (tgt := 55) hx hb dX7_rule_5 (by decide) (by show Op.lookupswitch.offset [(0, 35), (1, 40), (8, 45)] _ _ = _; rw [lv_osw c3 (by decide), lv_osw c7 (by decide), lv_osw c11 (by decide)]; rfl) (by decide) ?_
        refine lv_iload_n hx hb dX7_rule_55 rfl (lv_at hl 1 rfl) ?_
        refine lv_i2l (v := (Int32.toInt64 x1)) hx hb dX7_rule_56 rfl ?_
        refine lv_ldc2 (v := 2) hx hb hown (hts _ kw_976) dX7_rule_57 ?_
        refine lv_ldc2 (v := 7) hx hb hown (hts _ kw_977) dX7_rule_60 ?_
        replace hf := s_bi_some hf
        obtain ⟨r17, σ15, hz16, hf⟩ := hf
        refine s_calliS (nn := 3) C (kcX7_in (l := l) (G := G) (cy := cy) (sa := sa) hI (sz := H.size) σ1 (Int32.toInt64 x1) (2 : Int64) (7 : Int64) hz16) gk_X7_54 rfl rfl (by decide +kernel) ⟨Nat.le_of_ble_eq_true rfl, Nat.le_of_ble_eq_true rfl⟩ hP hS (As := [.long (Int32.toInt64 x1), .long (2 : Int64), .long (7 : Int64)]) (rest := []) rfl rfl hl.1 (Nat.le_of_ble_eq_true rfl) dX7_rule_63 (fun H locs hP hS => ?_)
        refine lv_if_eq (tgt := 81) hx hb dX7_rule_66 (by decide) (fun c18 => ?_) (fun c18 => ?_)
        · rw [if_pos c18] at hf
          refine lv_iconst (v := -1) hx hb dX7_rule_81 (by decide) ?_
          obtain ⟨he1, he2⟩ := s_ret hf
          exact W.iret hx hb hr (fun t ht hW => ⟨⟨_, (), rfl, he1, s_fin (Wd := (s_WM cy ad)) ht he2 hP⟩, hS.F ht⟩) hS.2.2 dX7_rule_82 hlk
        · rw [if_neg c18] at hf
          refine lv_aload_n hx hb dX7_rule_69 rfl (lv_at hl 0 rfl) ?_
          refine va_get (D := G) (ci := 7) (v := .ref (ad 1)) (C := RX7) (T := TX7) (N := 28) hx hb hts inkX7 hown hK hP 0 rfl rfl 0 (by decide) (hts _ kw_782) (fun _ h9 => h9) rfl dX7_rule_70 ?_
          refine lv_bipush (v := 94) hx hb dX7_rule_73 (by decide) ?_
          refine lv_iload_n hx hb dX7_rule_75 rfl (lv_at hl 1 rfl) ?_
          refine lv_iadd hx hb dX7_rule_76 ?_
          replace hf := s_gd_some hf
          obtain ⟨g19, hf⟩ := hf
          refine va_iald hx hb hK hP 1 1 rfl rfl (s_in_of g19) dX7_rule_77 ?_
          refine lv_goto (tgt := 82) hx hb dX7_rule_78 (by decide) ?_
          obtain ⟨he1, he2⟩ := s_ret hf
          exact W.iret hx hb hr (fun t ht hW => ⟨⟨_, (), rfl, he1, s_fin (Wd := (s_WM cy ad)) ht he2 hP⟩, hS.F ht⟩) hS.2.2 dX7_rule_82 hlk
theorem kcX7_rule {l : Launch} {G : va_G} {cy : Nat → ClassId} {sa : Nat × Nat} {ad : Nat → Nat}  {sz : Nat} (hI : s_inj ad 12) (σ : Sg) (x1 : Int32) {re : Int32} {σe : Sg} (hf : fX7_rule σ x1 = some (re, σe)) : Met l yX7_rule (kW yX7_rule cX7_rule 2 (some .int)) ({ frames := 4, cells := 0, slots := 0, locals := 94 } : Room) (s_P (s_WM cy ad) G cy sa ad 12 [.ref (ad 0), .int x1] sz σ) (s_Qi (s_WM cy ad) G (s_A ad 12 sz) re σe) 0 0 (s_A ad 12 sz) := by
  refine s_met (own := RX7) (by decide) rfl hI (Nat.le_of_ble_eq_true rfl) (fun p e s m below meth c ls hsz C hP hl => ?_)
  subst hsz
  exact kX7_rule C σ x1 ls _ _ hl hP va_S.rf hf
set_option maxRecDepth 100000 in
set_option maxHeartbeats 4000000 in
theorem kX7_reading (C : s_X p s m meth c args cX7_reading (some .int) 2 RX7 G cy sa ad 12) (σ : Sg) (x1 : Int32) (ls : Array Slot) (H : Heap) (locs : List Loc) (hl : lv_has ls 2 [(0, .ref (ad 0)), (1, .int x1)]) (hP : va_P G vwCl ((s_WM cy ad) σ) H) (hS : va_S (s_A ad 12 s.heap.size) s.heap H locs) (hf : fX7_reading σ x1 = some (re, σe)) : W p l e ({ frames := 3, cells := 0, slots := 0, locals := 62 } : Room) s m args below meth c H locs 0 0 (MQ below (s_Qi (s_WM cy ad) G (s_A ad 12 s.heap.size) re σe) args s 0 0 (s_A ad 12 s.heap.size)) (F0 m 0 ls []) := by
  obtain ⟨hx, hb, hr, hml, hown, hts, hlk, hK, hE, hI⟩ := id C
  have hD : ∀ σ : Sg, va_D (s_A ad 12 s.heap.size) ((s_WM cy ad) σ) := fun σ => s_D (s_WM_ad cy ad σ) hI (fun k hk => Or.inl ⟨k, hk, rfl⟩)
  unfold fX7_reading at hf
  refine lv_aload_n hx hb dX7_reading_0 rfl (lv_at hl 0 rfl) ?_
  refine lv_iload_n hx hb dX7_reading_1 rfl (lv_at hl 1 rfl) ?_
  replace hf := s_bi_some hf
  obtain ⟨r3, σ1, hz2, hf⟩ := hf
  refine s_calli (nn := 1) C (kcX7_isThere (l := l) (G := G) (cy := cy) (sa := sa) hI (sz := H.size) σ x1 hz2) gk_X7_180 rfl rfl (by decide +kernel) ⟨Nat.le_of_ble_eq_true rfl, Nat.le_of_ble_eq_true rfl⟩ hP hS (q0 := 0) (ci := 7) rfl rfl rfl (As := [.int x1]) (rest := []) rfl rfl hl.1 (Nat.le_of_ble_eq_true rfl) dX7_reading_2 (fun H locs hP hS => ?_)
  refine lv_if_eq (tgt := 17) hx hb dX7_reading_5 (by decide) (fun c4 => ?_) (fun c4 => ?_)
  · rw [if_pos c4] at hf
    refine lv_ldc (v := 100000000) hx hb hown (hts _ kw_936) dX7_reading_17 ?_
    obtain ⟨he1, he2⟩ := s_ret hf
    exact W.iret hx hb hr (fun t ht hW => ⟨⟨_, (), rfl, he1, s_fin (Wd := (s_WM cy ad)) ht he2 hP⟩, hS.F ht⟩) hS.2.2 dX7_reading_19 hlk
  · rw [if_neg c4] at hf
    refine lv_aload_n hx hb dX7_reading_8 rfl (lv_at hl 0 rfl) ?_
    refine va_get (D := G) (ci := 7) (v := .ref (ad 1)) (C := RX7) (T := TX7) (N := 28) hx hb hts inkX7 hown hK hP 0 rfl rfl 0 (by decide) (hts _ kw_782) (fun _ h9 => h9) rfl dX7_reading_9 ?_
    refine lv_iload_n hx hb dX7_reading_12 rfl (lv_at hl 1 rfl) ?_
    replace hf := s_gd_some hf
    obtain ⟨g5, hf⟩ := hf
    refine va_iald hx hb hK hP 1 1 rfl rfl (s_in_of g5) dX7_reading_13 ?_
    refine lv_goto (tgt := 19) hx hb dX7_reading_14 (by decide) ?_
    obtain ⟨he1, he2⟩ := s_ret hf
    exact W.iret hx hb hr (fun t ht hW => ⟨⟨_, (), rfl, he1, s_fin (Wd := (s_WM cy ad)) ht he2 hP⟩, hS.F ht⟩) hS.2.2 dX7_reading_19 hlk
theorem kcX7_reading {l : Launch} {G : va_G} {cy : Nat → ClassId} {sa : Nat × Nat} {ad : Nat → Nat}  {sz : Nat} (hI : s_inj ad 12) (σ : Sg) (x1 : Int32) {re : Int32} {σe : Sg} (hf : fX7_reading σ x1 = some (re, σe)) : Met l yX7_reading (kW yX7_reading cX7_reading 2 (some .int)) ({ frames := 3, cells := 0, slots := 0, locals := 62 } : Room) (s_P (s_WM cy ad) G cy sa ad 12 [.ref (ad 0), .int x1] sz σ) (s_Qi (s_WM cy ad) G (s_A ad 12 sz) re σe) 0 0 (s_A ad 12 sz) := by
  refine s_met (own := RX7) (by decide) rfl hI (Nat.le_of_ble_eq_true rfl) (fun p e s m below meth c ls hsz C hP hl => ?_)
  subst hsz
  exact kX7_reading C σ x1 ls _ _ hl hP va_S.rf hf
set_option maxRecDepth 100000 in
set_option maxHeartbeats 4000000 in
theorem kX7_row_b20 (C : s_X p s m meth c args cX7_row (some .int) 4 RX7 G cy sa ad 12) (σ : Sg) (ls : Array Slot) (H : Heap) (locs : List Loc) (hl : lv_has ls 4 []) (hP : va_P G vwCl ((s_WM cy ad) σ) H) (hS : va_S (s_A ad 12 s.heap.size) s.heap H locs) (hf : fX7_row_b20 σ = some (re, σe)) : W p l e ({ frames := 3, cells := 0, slots := 0, locals := 72 } : Room) s m args below meth c H locs 0 0 (MQ below (s_Qi (s_WM cy ad) G (s_A ad 12 s.heap.size) re σe) args s 0 0 (s_A ad 12 s.heap.size)) (F0 m 20 ls []) := by
  obtain ⟨hx, hb, hr, hml, hown, hts, hlk, hK, hE, hI⟩ := id C
  have hD : ∀ σ : Sg, va_D (s_A ad 12 s.heap.size) ((s_WM cy ad) σ) := fun σ => s_D (s_WM_ad cy ad σ) hI (fun k hk => Or.inl ⟨k, hk, rfl⟩)
  unfold fX7_row_b20 at hf
  refine lv_iconst (v := -1) hx hb dX7_row_20 (by decide) ?_
  obtain ⟨he1, he2⟩ := s_ret hf
  exact W.iret hx hb hr (fun t ht hW => ⟨⟨_, (), rfl, he1, s_fin (Wd := (s_WM cy ad)) ht he2 hP⟩, hS.F ht⟩) hS.2.2 dX7_row_21 hlk
set_option maxRecDepth 100000 in
set_option maxHeartbeats 4000000 in
theorem kX7_row (C : s_X p s m meth c args cX7_row (some .int) 4 RX7 G cy sa ad 12) (σ : Sg) (x1 : Int32) (x2 : Int32) (ls : Array Slot) (H : Heap) (locs : List Loc) (hl : lv_has ls 4 [(0, .ref (ad 0)), (1, .int x1), (2, .int x2)]) (hP : va_P G vwCl ((s_WM cy ad) σ) H) (hS : va_S (s_A ad 12 s.heap.size) s.heap H locs) (hf : fX7_row σ x1 x2 = some (re, σe)) : W p l e ({ frames := 3, cells := 0, slots := 0, locals := 72 } : Room) s m args below meth c H locs 0 0 (MQ below (s_Qi (s_WM cy ad) G (s_A ad 12 s.heap.size) re σe) args s 0 0 (s_A ad 12 s.heap.size)) (F0 m 0 ls []) := by
  obtain ⟨hx, hb, hr, hml, hown, hts, hlk, hK, hE, hI⟩ := id C
  have hD : ∀ σ : Sg, va_D (s_A ad 12 s.heap.size) ((s_WM cy ad) σ) := fun σ => s_D (s_WM_ad cy ad σ) hI (fun k hk => Or.inl ⟨k, hk, rfl⟩)
  unfold fX7_row at hf
  refine lv_aload_n hx hb dX7_row_0 rfl (lv_at hl 0 rfl) ?_
  refine lv_iload_n hx hb dX7_row_1 rfl (lv_at hl 1 rfl) ?_
  replace hf := s_bi_some hf
  obtain ⟨r3, σ1, hz2, hf⟩ := hf
  refine s_calli (nn := 1) C (kcX7_isThere (l := l) (G := G) (cy := cy) (sa := sa) hI (sz := H.size) σ x1 hz2) gk_X7_180 rfl rfl (by decide +kernel) ⟨Nat.le_of_ble_eq_true rfl, Nat.le_of_ble_eq_true rfl⟩ hP hS (q0 := 0) (ci := 7) rfl rfl rfl (As := [.int x1]) (rest := []) rfl rfl hl.1 (Nat.le_of_ble_eq_true rfl) dX7_row_2 (fun H locs hP hS => ?_)
  refine lv_if_eq (tgt := 20) hx hb dX7_row_5 (by decide) (fun c4 => ?_) (fun c4 => ?_)
  · rw [if_pos c4] at hf
    exact kX7_row_b20 C σ1 _ _ _ (lv_sub hl [] rfl) hP hS hf
  · rw [if_neg c4] at hf
    refine lv_iload_n hx hb dX7_row_8 rfl (lv_at hl 2 rfl) ?_
    refine lv_i2l (v := (Int32.toInt64 x2)) hx hb dX7_row_9 rfl ?_
    refine lv_lconst (v := 0) hx hb dX7_row_10 (by decide) ?_
    refine lv_ldc2 (v := 2) hx hb hown (hts _ kw_976) dX7_row_11 ?_
    replace hf := s_bi_some hf
    obtain ⟨r7, σ5, hz6, hf⟩ := hf
    refine s_calliS (nn := 3) C (kcX7_in (l := l) (G := G) (cy := cy) (sa := sa) hI (sz := H.size) σ1 (Int32.toInt64 x2) (0 : Int64) (2 : Int64) hz6) gk_X7_54 rfl rfl (by decide +kernel) ⟨Nat.le_of_ble_eq_true rfl, Nat.le_of_ble_eq_true rfl⟩ hP hS (As := [.long (Int32.toInt64 x2), .long (0 : Int64), .long (2 : Int64)]) (rest := []) rfl rfl hl.1 (Nat.le_of_ble_eq_true rfl) dX7_row_14 (fun H locs hP hS => ?_)
    refine lv_if_ne (tgt := 22) hx hb dX7_row_17 (by decide) (fun c8 => ?_) (fun c8 => ?_)
    · rw [if_neg c8] at hf
      refine lv_aload_n hx hb dX7_row_22 rfl (lv_at hl 0 rfl) ?_
      refine lv_iload_n hx hb dX7_row_23 rfl (lv_at hl 1 rfl) ?_
      replace hf := s_bi_some hf
      obtain ⟨r11, σ9, hz10, hf⟩ := hf
      refine s_calli (nn := 1) C (kcX7_isResult (l := l) (G := G) (cy := cy) (sa := sa) hI (sz := H.size) σ5 x1 hz10) gk_X7_168 rfl rfl (by decide +kernel) ⟨Nat.le_of_ble_eq_true rfl, Nat.le_of_ble_eq_true rfl⟩ hP hS (q0 := 0) (ci := 7) rfl rfl rfl (As := [.int x1]) (rest := []) rfl rfl hl.1 (Nat.le_of_ble_eq_true rfl) dX7_row_24 (fun H locs hP hS => ?_)
      refine lv_istore_n (lv' := [(3, .int r11), (0, .ref (ad 0)), (1, .int x1), (2, .int x2)]) hx hb dX7_row_27 rfl hl (by decide) rfl (fun ls hl => ?_)
      refine lv_iload_n hx hb dX7_row_28 rfl (lv_at hl 3 rfl) ?_
      refine lv_if_ne (tgt := 39) hx hb dX7_row_29 (by decide) (fun c12 => ?_) (fun c12 => ?_)
      · rw [if_neg c12] at hf
        refine lv_iload_n hx hb dX7_row_39 rfl (lv_at hl 0 rfl) ?_
        refine lv_if_ne (tgt := 48) hx hb dX7_row_40 (by decide) (fun c13 => ?_) (fun c13 => ?_)
        · rw [if_neg c13] at hf
          refine lv_iload_n hx hb dX7_row_48 rfl (lv_at hl 3 rfl) ?_
          refine lv_iconst (v := 1) hx hb dX7_row_49 (by decide) ?_
          refine lv_icmp_ne (tgt := 60) hx hb dX7_row_50 (by decide) (fun c14 => ?_) (fun c14 => ?_)
          · rw [if_neg c14] at hf
            refine lv_aload_n hx hb dX7_row_60 rfl (lv_at hl 1 rfl) ?_
            refine va_get (D := G) (ci := 7) (v := .int (σ9 0 18)) (C := RX7) (T := TX7) (N := 28) hx hb hts inkX7 hown hK hP 0 rfl rfl 18 (by decide) (hts _ kw_800) (fun _ h9 => h9) rfl dX7_row_61 ?_
            obtain ⟨he1, he2⟩ := s_ret hf
            exact W.iret hx hb hr (fun t ht hW => ⟨⟨_, (), rfl, he1, s_fin (Wd := (s_WM cy ad)) ht he2 hP⟩, hS.F ht⟩) hS.2.2 dX7_row_64 hlk
          · rw [if_pos c14] at hf
            refine lv_aload_n hx hb dX7_row_53 rfl (lv_at hl 1 rfl) ?_
            refine va_get (D := G) (ci := 7) (v := .int (σ9 0 17)) (C := RX7) (T := TX7) (N := 28) hx hb hts inkX7 hown hK hP 0 rfl rfl 17 (by decide) (hts _ kw_799) (fun _ h9 => h9) rfl dX7_row_54 ?_
            refine lv_goto (tgt := 64) hx hb dX7_row_57 (by decide) ?_
            obtain ⟨he1, he2⟩ := s_ret hf
            exact W.iret hx hb hr (fun t ht hW => ⟨⟨_, (), rfl, he1, s_fin (Wd := (s_WM cy ad)) ht he2 hP⟩, hS.F ht⟩) hS.2.2 dX7_row_64 hlk
        · rw [if_pos c13] at hf
          refine lv_bipush (v := -4) hx hb dX7_row_43 (by decide) ?_
          refine lv_goto (tgt := 64) hx hb dX7_row_45 (by decide) ?_
          obtain ⟨he1, he2⟩ := s_ret hf
          exact W.iret hx hb hr (fun t ht hW => ⟨⟨_, (), rfl, he1, s_fin (Wd := (s_WM cy ad)) ht he2 hP⟩, hS.F ht⟩) hS.2.2 dX7_row_64 hlk
      · rw [if_pos c12] at hf
        refine lv_aload_n hx hb dX7_row_32 rfl (lv_at hl 1 rfl) ?_
        refine va_get (D := G) (ci := 7) (v := .int (σ9 0 15)) (C := RX7) (T := TX7) (N := 28) hx hb hts inkX7 hown hK hP 0 rfl rfl 15 (by decide) (hts _ kw_797) (fun _ h9 => h9) rfl dX7_row_33 ?_
        refine lv_goto (tgt := 64) hx hb dX7_row_36 (by decide) ?_
        obtain ⟨he1, he2⟩ := s_ret hf
        exact W.iret hx hb hr (fun t ht hW => ⟨⟨_, (), rfl, he1, s_fin (Wd := (s_WM cy ad)) ht he2 hP⟩, hS.F ht⟩) hS.2.2 dX7_row_64 hlk
    · rw [if_pos c8] at hf
      exact kX7_row_b20 C σ5 _ _ _ (lv_sub hl [] rfl) hP hS hf
theorem kcX7_row {l : Launch} {G : va_G} {cy : Nat → ClassId} {sa : Nat × Nat} {ad : Nat → Nat}  {sz : Nat} (hI : s_inj ad 12) (σ : Sg) (x1 : Int32) (x2 : Int32) {re : Int32} {σe : Sg} (hf : fX7_row σ x1 x2 = some (re, σe)) : Met l yX7_row (kW yX7_row cX7_row 4 (some .int)) ({ frames := 3, cells := 0, slots := 0, locals := 72 } : Room) (s_P (s_WM cy ad) G cy sa ad 12 [.ref (ad 0), .int x1, .int x2] sz σ) (s_Qi (s_WM cy ad) G (s_A ad 12 sz) re σe) 0 0 (s_A ad 12 sz) := by
  refine s_met (own := RX7) (by decide) rfl hI (Nat.le_of_ble_eq_true rfl) (fun p e s m below meth c ls hsz C hP hl => ?_)
  subst hsz
  exact kX7_row C σ x1 x2 ls _ _ hl hP va_S.rf hf
set_option maxRecDepth 100000 in
set_option maxHeartbeats 4000000 in
theorem kX7_item (C : s_X p s m meth c args cX7_item (some .int) 3 RX7 G cy sa ad 12) (σ : Sg) (x1 : Int32) (x2 : Int32) (ls : Array Slot) (H : Heap) (locs : List Loc) (hl : lv_has ls 3 [(0, .ref (ad 0)), (1, .int x1), (2, .int x2)]) (hP : va_P G vwCl ((s_WM cy ad) σ) H) (hS : va_S (s_A ad 12 s.heap.size) s.heap H locs) (hf : fX7_item σ x1 x2 = some (re, σe)) : W p l e ({ frames := 3, cells := 0, slots := 0, locals := 62 } : Room) s m args below meth c H locs 0 0 (MQ below (s_Qi (s_WM cy ad) G (s_A ad 12 s.heap.size) re σe) args s 0 0 (s_A ad 12 s.heap.size)) (F0 m 0 ls []) := by
  obtain ⟨hx, hb, hr, hml, hown, hts, hlk, hK, hE, hI⟩ := id C
  have hD : ∀ σ : Sg, va_D (s_A ad 12 s.heap.size) ((s_WM cy ad) σ) := fun σ => s_D (s_WM_ad cy ad σ) hI (fun k hk => Or.inl ⟨k, hk, rfl⟩)
  unfold fX7_item at hf
  refine lv_aload_n hx hb dX7_item_0 rfl (lv_at hl 0 rfl) ?_
  refine lv_iload_n hx hb dX7_item_1 rfl (lv_at hl 1 rfl) ?_
  replace hf := s_bi_some hf
  obtain ⟨r3, σ1, hz2, hf⟩ := hf
  refine s_calli (nn := 1) C (kcX7_isThere (l := l) (G := G) (cy := cy) (sa := sa) hI (sz := H.size) σ x1 hz2) gk_X7_180 rfl rfl (by decide +kernel) ⟨Nat.le_of_ble_eq_true rfl, Nat.le_of_ble_eq_true rfl⟩ hP hS (q0 := 0) (ci := 7) rfl rfl rfl (As := [.int x1]) (rest := []) rfl rfl hl.1 (Nat.le_of_ble_eq_true rfl) dX7_item_2 (fun H locs hP hS => ?_)
  refine lv_if_ne (tgt := 11) hx hb dX7_item_5 (by decide) (fun c4 => ?_) (fun c4 => ?_)
  · rw [if_neg c4] at hf
    refine lv_aload_n hx hb dX7_item_11 rfl (lv_at hl 0 rfl) ?_
    refine lv_iload_n hx hb dX7_item_12 rfl (lv_at hl 1 rfl) ?_
    replace hf := s_bv_some hf
    obtain ⟨σ5, hz6, hf⟩ := hf
    refine s_callv (nn := 1) C (kcX7_rowOf (l := l) (G := G) (cy := cy) (sa := sa) hI (sz := H.size) σ1 x1 hz6) gk_X7_151 rfl rfl (by decide +kernel) ⟨Nat.le_of_ble_eq_true rfl, Nat.le_of_ble_eq_true rfl⟩ hP hS (q0 := 0) (ci := 7) rfl rfl rfl (As := [.int x1]) (rest := []) rfl rfl hl.1 (Nat.le_of_ble_eq_true rfl) dX7_item_13 (fun H locs hP hS => ?_)
    refine lv_iload_n hx hb dX7_item_16 rfl (lv_at hl 2 rfl) ?_
    refine lv_i2l (v := (Int32.toInt64 x2)) hx hb dX7_item_17 rfl ?_
    refine lv_lconst (v := 0) hx hb dX7_item_18 (by decide) ?_
    refine lv_aload_n hx hb dX7_item_19 rfl (lv_at hl 0 rfl) ?_
    refine va_get (D := G) (ci := 7) (v := .int (σ5 0 15)) (C := RX7) (T := TX7) (N := 28) hx hb hts inkX7 hown hK hP 0 rfl rfl 15 (by decide) (hts _ kw_797) (fun _ h9 => h9) rfl dX7_item_20 ?_
    refine lv_iconst (v := 1) hx hb dX7_item_23 (by decide) ?_
    refine lv_isub hx hb dX7_item_24 ?_
    refine lv_i2l (v := (Int32.toInt64 ((σ5 0 15) - (1 : Int32)))) hx hb dX7_item_25 rfl ?_
    replace hf := s_bi_some hf
    obtain ⟨r9, σ7, hz8, hf⟩ := hf
    refine s_calliS (nn := 3) C (kcX7_in (l := l) (G := G) (cy := cy) (sa := sa) hI (sz := H.size) σ5 (Int32.toInt64 x2) (0 : Int64) (Int32.toInt64 ((σ5 0 15) - (1 : Int32))) hz8) gk_X7_54 rfl rfl (by decide +kernel) ⟨Nat.le_of_ble_eq_true rfl, Nat.le_of_ble_eq_true rfl⟩ hP hS (As := [.long (Int32.toInt64 x2), .long (0 : Int64), .long (Int32.toInt64 ((σ5 0 15) - (1 : Int32)))]) (rest := []) rfl rfl hl.1 (Nat.le_of_ble_eq_true rfl) dX7_item_26 (fun H locs hP hS => ?_)
    refine lv_if_eq (tgt := 41) hx hb dX7_item_29 (by decide) (fun c10 => ?_) (fun c10 => ?_)
    · rw [if_pos c10] at hf
      refine lv_ldc (v := 100000000) hx hb hown (hts _ kw_936) dX7_item_41 ?_
      obtain ⟨he1, he2⟩ := s_ret hf
      exact W.iret hx hb hr (fun t ht hW => ⟨⟨_, (), rfl, he1, s_fin (Wd := (s_WM cy ad)) ht he2 hP⟩, hS.F ht⟩) hS.2.2 dX7_item_43 hlk
    · rw [if_neg c10] at hf
      refine lv_aload_n hx hb dX7_item_32 rfl (lv_at hl 0 rfl) ?_
      refine va_get (D := G) (ci := 7) (v := .ref (ad 5)) (C := RX7) (T := TX7) (N := 28) hx hb hts inkX7 hown hK hP 0 rfl rfl 14 (by decide) (hts _ kw_796) (fun _ h9 => h9) rfl dX7_item_33 ?_
      refine lv_iload_n hx hb dX7_item_36 rfl (lv_at hl 2 rfl) ?_
      replace hf := s_gd_some hf
      obtain ⟨g11, hf⟩ := hf
      refine va_iald hx hb hK hP 5 1 rfl rfl (s_in_of g11) dX7_item_37 ?_
      refine lv_goto (tgt := 43) hx hb dX7_item_38 (by decide) ?_
      obtain ⟨he1, he2⟩ := s_ret hf
      exact W.iret hx hb hr (fun t ht hW => ⟨⟨_, (), rfl, he1, s_fin (Wd := (s_WM cy ad)) ht he2 hP⟩, hS.F ht⟩) hS.2.2 dX7_item_43 hlk
  · rw [if_pos c4] at hf
    refine lv_ldc (v := 100000000) hx hb hown (hts _ kw_936) dX7_item_8 ?_
    obtain ⟨he1, he2⟩ := s_ret hf
    exact W.iret hx hb hr (fun t ht hW => ⟨⟨_, (), rfl, he1, s_fin (Wd := (s_WM cy ad)) ht he2 hP⟩, hS.F ht⟩) hS.2.2 dX7_item_10 hlk
theorem kcX7_item {l : Launch} {G : va_G} {cy : Nat → ClassId} {sa : Nat × Nat} {ad : Nat → Nat}  {sz : Nat} (hI : s_inj ad 12) (σ : Sg) (x1 : Int32) (x2 : Int32) {re : Int32} {σe : Sg} (hf : fX7_item σ x1 x2 = some (re, σe)) : Met l yX7_item (kW yX7_item cX7_item 3 (some .int)) ({ frames := 3, cells := 0, slots := 0, locals := 62 } : Room) (s_P (s_WM cy ad) G cy sa ad 12 [.ref (ad 0), .int x1, .int x2] sz σ) (s_Qi (s_WM cy ad) G (s_A ad 12 sz) re σe) 0 0 (s_A ad 12 sz) := by
  refine s_met (own := RX7) (by decide) rfl hI (Nat.le_of_ble_eq_true rfl) (fun p e s m below meth c ls hsz C hP hl => ?_)
  subst hsz
  exact kX7_item C σ x1 x2 ls _ _ hl hP va_S.rf hf
set_option maxRecDepth 100000 in
set_option maxHeartbeats 4000000 in
theorem kX7_result_b28 (C : s_X p s m meth c args cX7_result (some .int) 3 RX7 G cy sa ad 12) (σ : Sg) (ls : Array Slot) (H : Heap) (locs : List Loc) (hl : lv_has ls 3 []) (hP : va_P G vwCl ((s_WM cy ad) σ) H) (hS : va_S (s_A ad 12 s.heap.size) s.heap H locs) (hf : fX7_result_b28 σ = some (re, σe)) : W p l e ({ frames := 3, cells := 0, slots := 0, locals := 72 } : Room) s m args below meth c H locs 0 0 (MQ below (s_Qi (s_WM cy ad) G (s_A ad 12 s.heap.size) re σe) args s 0 0 (s_A ad 12 s.heap.size)) (F0 m 28 ls []) := by
  obtain ⟨hx, hb, hr, hml, hown, hts, hlk, hK, hE, hI⟩ := id C
  have hD : ∀ σ : Sg, va_D (s_A ad 12 s.heap.size) ((s_WM cy ad) σ) := fun σ => s_D (s_WM_ad cy ad σ) hI (fun k hk => Or.inl ⟨k, hk, rfl⟩)
  unfold fX7_result_b28 at hf
  refine lv_ldc (v := 100000000) hx hb hown (hts _ kw_936) dX7_result_28 ?_
  obtain ⟨he1, he2⟩ := s_ret hf
  exact W.iret hx hb hr (fun t ht hW => ⟨⟨_, (), rfl, he1, s_fin (Wd := (s_WM cy ad)) ht he2 hP⟩, hS.F ht⟩) hS.2.2 dX7_result_30 hlk
set_option maxRecDepth 100000 in
set_option maxHeartbeats 4000000 in
theorem kX7_result (C : s_X p s m meth c args cX7_result (some .int) 3 RX7 G cy sa ad 12) (σ : Sg) (x1 : Int32) (x2 : Int32) (ls : Array Slot) (H : Heap) (locs : List Loc) (hl : lv_has ls 3 [(0, .ref (ad 0)), (1, .int x1), (2, .int x2)]) (hP : va_P G vwCl ((s_WM cy ad) σ) H) (hS : va_S (s_A ad 12 s.heap.size) s.heap H locs) (hf : fX7_result σ x1 x2 = some (re, σe)) : W p l e ({ frames := 3, cells := 0, slots := 0, locals := 72 } : Room) s m args below meth c H locs 0 0 (MQ below (s_Qi (s_WM cy ad) G (s_A ad 12 s.heap.size) re σe) args s 0 0 (s_A ad 12 s.heap.size)) (F0 m 0 ls []) := by
  obtain ⟨hx, hb, hr, hml, hown, hts, hlk, hK, hE, hI⟩ := id C
  have hD : ∀ σ : Sg, va_D (s_A ad 12 s.heap.size) ((s_WM cy ad) σ) := fun σ => s_D (s_WM_ad cy ad σ) hI (fun k hk => Or.inl ⟨k, hk, rfl⟩)
  unfold fX7_result at hf
  refine lv_aload_n hx hb dX7_result_0 rfl (lv_at hl 0 rfl) ?_
  refine lv_iload_n hx hb dX7_result_1 rfl (lv_at hl 1 rfl) ?_
  replace hf := s_bi_some hf
  obtain ⟨r3, σ1, hz2, hf⟩ := hf
  refine s_calli (nn := 1) C (kcX7_isThere (l := l) (G := G) (cy := cy) (sa := sa) hI (sz := H.size) σ x1 hz2) gk_X7_180 rfl rfl (by decide +kernel) ⟨Nat.le_of_ble_eq_true rfl, Nat.le_of_ble_eq_true rfl⟩ hP hS (q0 := 0) (ci := 7) rfl rfl rfl (As := [.int x1]) (rest := []) rfl rfl hl.1 (Nat.le_of_ble_eq_true rfl) dX7_result_2 (fun H locs hP hS => ?_)
  refine lv_if_eq (tgt := 28) hx hb dX7_result_5 (by decide) (fun c4 => ?_) (fun c4 => ?_)
  · rw [if_pos c4] at hf
    exact kX7_result_b28 C σ1 _ _ _ (lv_sub hl [] rfl) hP hS hf
  · rw [if_neg c4] at hf
    refine lv_iload_n hx hb dX7_result_8 rfl (lv_at hl 2 rfl) ?_
    refine lv_i2l (v := (Int32.toInt64 x2)) hx hb dX7_result_9 rfl ?_
    refine lv_lconst (v := 0) hx hb dX7_result_10 (by decide) ?_
    refine lv_ldc2 (v := 2) hx hb hown (hts _ kw_976) dX7_result_11 ?_
    replace hf := s_bi_some hf
    obtain ⟨r7, σ5, hz6, hf⟩ := hf
    refine s_calliS (nn := 3) C (kcX7_in (l := l) (G := G) (cy := cy) (sa := sa) hI (sz := H.size) σ1 (Int32.toInt64 x2) (0 : Int64) (2 : Int64) hz6) gk_X7_54 rfl rfl (by decide +kernel) ⟨Nat.le_of_ble_eq_true rfl, Nat.le_of_ble_eq_true rfl⟩ hP hS (As := [.long (Int32.toInt64 x2), .long (0 : Int64), .long (2 : Int64)]) (rest := []) rfl rfl hl.1 (Nat.le_of_ble_eq_true rfl) dX7_result_14 (fun H locs hP hS => ?_)
    refine lv_if_eq (tgt := 28) hx hb dX7_result_17 (by decide) (fun c8 => ?_) (fun c8 => ?_)
    · rw [if_pos c8] at hf
      exact kX7_result_b28 C σ5 _ _ _ (lv_sub hl [] rfl) hP hS hf
    · rw [if_neg c8] at hf
      refine lv_aload_n hx hb dX7_result_20 rfl (lv_at hl 0 rfl) ?_
      refine lv_iload_n hx hb dX7_result_21 rfl (lv_at hl 1 rfl) ?_
      replace hf := s_bi_some hf
      obtain ⟨r11, σ9, hz10, hf⟩ := hf
      refine s_calli (nn := 1) C (kcX7_isResult (l := l) (G := G) (cy := cy) (sa := sa) hI (sz := H.size) σ5 x1 hz10) gk_X7_168 rfl rfl (by decide +kernel) ⟨Nat.le_of_ble_eq_true rfl, Nat.le_of_ble_eq_true rfl⟩ hP hS (q0 := 0) (ci := 7) rfl rfl rfl (As := [.int x1]) (rest := []) rfl rfl hl.1 (Nat.le_of_ble_eq_true rfl) dX7_result_22 (fun H locs hP hS => ?_)
      refine lv_if_ne (tgt := 31) hx hb dX7_result_25 (by decide) (fun c12 => ?_) (fun c12 => ?_)
      · rw [if_neg c12] at hf
        refine lv_iload_n hx hb dX7_result_31 rfl (lv_at hl 2 rfl) ?_
        refine lv_if_ne (tgt := 42) hx hb dX7_result_32 (by decide) (fun c13 => ?_) (fun c13 => ?_)
        · rw [if_neg c13] at hf
          refine lv_iload_n hx hb dX7_result_42 rfl (lv_at hl 2 rfl) ?_
          refine lv_iconst (v := 1) hx hb dX7_result_43 (by decide) ?_
          refine lv_icmp_ne (tgt := 54) hx hb dX7_result_44 (by decide) (fun c14 => ?_) (fun c14 => ?_)
          · rw [if_neg c14] at hf
            refine lv_aload_n hx hb dX7_result_54 rfl (lv_at hl 0 rfl) ?_
            replace hf := s_bi_some hf
            obtain ⟨r17, σ15, hz16, hf⟩ := hf
            refine s_calli (nn := 0) C (kcX7_rounded (l := l) (G := G) (cy := cy) (sa := sa) hI (sz := H.size) σ9 hz16) gk_X7_183 rfl rfl (by decide +kernel) ⟨Nat.le_of_ble_eq_true rfl, Nat.le_of_ble_eq_true rfl⟩ hP hS (q0 := 0) (ci := 7) rfl rfl rfl (As := []) (rest := []) rfl rfl hl.1 (Nat.le_of_ble_eq_true rfl) dX7_result_55 (fun H locs hP hS => ?_)
            obtain ⟨he1, he2⟩ := s_ret hf
            exact W.iret hx hb hr (fun t ht hW => ⟨⟨_, (), rfl, he1, s_fin (Wd := (s_WM cy ad)) ht he2 hP⟩, hS.F ht⟩) hS.2.2 dX7_result_58 hlk
          · rw [if_pos c14] at hf
            refine lv_aload_n hx hb dX7_result_47 rfl (lv_at hl 0 rfl) ?_
            refine va_get (D := G) (ci := 7) (v := .int (σ9 0 20)) (C := RX7) (T := TX7) (N := 28) hx hb hts inkX7 hown hK hP 0 rfl rfl 20 (by decide) (hts _ kw_802) (fun _ h9 => h9) rfl dX7_result_48 ?_
            refine lv_goto (tgt := 58) hx hb dX7_result_51 (by decide) ?_
            obtain ⟨he1, he2⟩ := s_ret hf
            exact W.iret hx hb hr (fun t ht hW => ⟨⟨_, (), rfl, he1, s_fin (Wd := (s_WM cy ad)) ht he2 hP⟩, hS.F ht⟩) hS.2.2 dX7_result_58 hlk
        · rw [if_pos c13] at hf
          refine lv_aload_n hx hb dX7_result_35 rfl (lv_at hl 0 rfl) ?_
          refine va_get (D := G) (ci := 7) (v := .int (σ9 0 19)) (C := RX7) (T := TX7) (N := 28) hx hb hts inkX7 hown hK hP 0 rfl rfl 19 (by decide) (hts _ kw_801) (fun _ h9 => h9) rfl dX7_result_36 ?_
          refine lv_goto (tgt := 58) hx hb dX7_result_39 (by decide) ?_
          obtain ⟨he1, he2⟩ := s_ret hf
          exact W.iret hx hb hr (fun t ht hW => ⟨⟨_, (), rfl, he1, s_fin (Wd := (s_WM cy ad)) ht he2 hP⟩, hS.F ht⟩) hS.2.2 dX7_result_58 hlk
      · rw [if_pos c12] at hf
        exact kX7_result_b28 C σ9 _ _ _ (lv_sub hl [] rfl) hP hS hf
theorem kcX7_result {l : Launch} {G : va_G} {cy : Nat → ClassId} {sa : Nat × Nat} {ad : Nat → Nat}  {sz : Nat} (hI : s_inj ad 12) (σ : Sg) (x1 : Int32) (x2 : Int32) {re : Int32} {σe : Sg} (hf : fX7_result σ x1 x2 = some (re, σe)) : Met l yX7_result (kW yX7_result cX7_result 3 (some .int)) ({ frames := 3, cells := 0, slots := 0, locals := 72 } : Room) (s_P (s_WM cy ad) G cy sa ad 12 [.ref (ad 0), .int x1, .int x2] sz σ) (s_Qi (s_WM cy ad) G (s_A ad 12 sz) re σe) 0 0 (s_A ad 12 sz) := by
  refine s_met (own := RX7) (by decide) rfl hI (Nat.le_of_ble_eq_true rfl) (fun p e s m below meth c ls hsz C hP hl => ?_)
  subst hsz
  exact kX7_result C σ x1 x2 ls _ _ hl hP va_S.rf hf
set_option maxRecDepth 100000 in
set_option maxHeartbeats 4000000 in
theorem kX7_rank_b18 (C : s_X p s m meth c args cX7_rank (some .int) 6 RX7 G cy sa ad 12) (σ : Sg) (ls : Array Slot) (H : Heap) (locs : List Loc) (hl : lv_has ls 6 []) (hP : va_P G vwCl ((s_WM cy ad) σ) H) (hS : va_S (s_A ad 12 s.heap.size) s.heap H locs) (hf : fX7_rank_b18 σ = some (re, σe)) : W p l e ({ frames := 3, cells := 0, slots := 0, locals := 62 } : Room) s m args below meth c H locs 0 0 (MQ below (s_Qi (s_WM cy ad) G (s_A ad 12 s.heap.size) re σe) args s 0 0 (s_A ad 12 s.heap.size)) (F0 m 18 ls []) := by
  obtain ⟨hx, hb, hr, hml, hown, hts, hlk, hK, hE, hI⟩ := id C
  have hD : ∀ σ : Sg, va_D (s_A ad 12 s.heap.size) ((s_WM cy ad) σ) := fun σ => s_D (s_WM_ad cy ad σ) hI (fun k hk => Or.inl ⟨k, hk, rfl⟩)
  unfold fX7_rank_b18 at hf
  refine lv_iconst (v := -1) hx hb dX7_rank_18 (by decide) ?_
  obtain ⟨he1, he2⟩ := s_ret hf
  exact W.iret hx hb hr (fun t ht hW => ⟨⟨_, (), rfl, he1, s_fin (Wd := (s_WM cy ad)) ht he2 hP⟩, hS.F ht⟩) hS.2.2 dX7_rank_19 hlk
set_option maxRecDepth 100000 in
set_option maxHeartbeats 4000000 in
theorem kX7_rank_b76 (C : s_X p s m meth c args cX7_rank (some .int) 6 RX7 G cy sa ad 12) (k31 : Sg → Int32 → Int32 → Int32 → Int32 → Option (Int32 × Sg)) (hk31 : ∀ (σ : Sg) (x2 : Int32) (x3 : Int32) (x4 : Int32) (x5 : Int32) (ls : Array Slot) (H : Heap) (locs : List Loc), lv_has ls 6 [(0, .ref (ad 0)), (2, .int x2), (3, .int x3), (4, .int x4), (5, .int x5)] → va_P G vwCl ((s_WM cy ad) σ) H → va_S (s_A ad 12 s.heap.size) s.heap H locs → k31 σ x2 x3 x4 x5 = some (re, σe) → W p l e ({ frames := 3, cells := 0, slots := 0, locals := 62 } : Room) s m args below meth c H locs 0 0 (MQ below (s_Qi (s_WM cy ad) G (s_A ad 12 s.heap.size) re σe) args s 0 0 (s_A ad 12 s.heap.size)) (F0 m 31 ls [])) (σ : Sg) (x2 : Int32) (x3 : Int32) (x5 : Int32) (y0 : Int32) (y1 : Int32) (ls : Array Slot) (H : Heap) (locs : List Loc) (hl : lv_has ls 6 [(0, .ref (ad 0)), (2, .int x2), (3, .int x3), (5, .int x5)]) (hP : va_P G vwCl ((s_WM cy ad) σ) H) (hS : va_S (s_A ad 12 s.heap.size) s.heap H locs) (hf : fX7_rank_b76 k31 σ x2 x3 x5 y0 y1 = some (re, σe)) : W p l e ({ frames := 3, cells := 0, slots := 0, locals := 62 } : Room) s m args below meth c H locs 0 0 (MQ below (s_Qi (s_WM cy ad) G (s_A ad 12 s.heap.size) re σe) args s 0 0 (s_A ad 12 s.heap.size)) (F0 m 76 ls [.int y1, .int y0]) := by
  obtain ⟨hx, hb, hr, hml, hown, hts, hlk, hK, hE, hI⟩ := id C
  have hD : ∀ σ : Sg, va_D (s_A ad 12 s.heap.size) ((s_WM cy ad) σ) := fun σ => s_D (s_WM_ad cy ad σ) hI (fun k hk => Or.inl ⟨k, hk, rfl⟩)
  unfold fX7_rank_b76 at hf
  refine lv_iadd hx hb dX7_rank_76 ?_
  refine lv_topi (fun t1 et1 => ?_)
  replace hf := s_lt_at et1 hf
  refine lv_istore (lv' := [(4, .int t1), (0, .ref (ad 0)), (2, .int x2), (3, .int x3), (5, .int x5)]) hx hb dX7_rank_77 hl (by decide) rfl (fun ls hl => ?_)
  obtain ⟨t2, et2⟩ : ∃ z : Int32, z = (x5 + 1) := ⟨_, rfl⟩
  replace hf := s_lt_at et2 hf
  refine lv_iinc (v := t2) (lv' := [(5, .int t2), (4, .int t1), (0, .ref (ad 0)), (2, .int x2), (3, .int x3)]) hx hb dX7_rank_79 hl (k := 4) rfl (by rw [et2]; rfl) (by decide) rfl (fun ls hl => ?_)
  refine lv_goto (tgt := 31) hx hb dX7_rank_82 (by decide) ?_
  exact hk31 σ x2 x3 t1 t2 _ _ _ (lv_sub hl [2, 3, 4, 1, 0] rfl) hP hS hf
set_option maxRecDepth 100000 in
set_option maxHeartbeats 4000000 in
theorem kX7_rank_b75 (C : s_X p s m meth c args cX7_rank (some .int) 6 RX7 G cy sa ad 12) (k31 : Sg → Int32 → Int32 → Int32 → Int32 → Option (Int32 × Sg)) (hk31 : ∀ (σ : Sg) (x2 : Int32) (x3 : Int32) (x4 : Int32) (x5 : Int32) (ls : Array Slot) (H : Heap) (locs : List Loc), lv_has ls 6 [(0, .ref (ad 0)), (2, .int x2), (3, .int x3), (4, .int x4), (5, .int x5)] → va_P G vwCl ((s_WM cy ad) σ) H → va_S (s_A ad 12 s.heap.size) s.heap H locs → k31 σ x2 x3 x4 x5 = some (re, σe) → W p l e ({ frames := 3, cells := 0, slots := 0, locals := 62 } : Room) s m args below meth c H locs 0 0 (MQ below (s_Qi (s_WM cy ad) G (s_A ad 12 s.heap.size) re σe) args s 0 0 (s_A ad 12 s.heap.size)) (F0 m 31 ls [])) (σ : Sg) (x2 : Int32) (x3 : Int32) (x5 : Int32) (y0 : Int32) (ls : Array Slot) (H : Heap) (locs : List Loc) (hl : lv_has ls 6 [(0, .ref (ad 0)), (2, .int x2), (3, .int x3), (5, .int x5)]) (hP : va_P G vwCl ((s_WM cy ad) σ) H) (hS : va_S (s_A ad 12 s.heap.size) s.heap H locs) (hf : fX7_rank_b75 k31 σ x2 x3 x5 y0 = some (re, σe)) : W p l e ({ frames := 3, cells := 0, slots := 0, locals := 62 } : Room) s m args below meth c H locs 0 0 (MQ below (s_Qi (s_WM cy ad) G (s_A ad 12 s.heap.size) re σe) args s 0 0 (s_A ad 12 s.heap.size)) (F0 m 75 ls [.int y0]) := by
  obtain ⟨hx, hb, hr, hml, hown, hts, hlk, hK, hE, hI⟩ := id C
  have hD : ∀ σ : Sg, va_D (s_A ad 12 s.heap.size) ((s_WM cy ad) σ) := fun σ => s_D (s_WM_ad cy ad σ) hI (fun k hk => Or.inl ⟨k, hk, rfl⟩)
  unfold fX7_rank_b75 at hf
  refine lv_iconst (v := 0) hx hb dX7_rank_75 (by decide) ?_
  exact kX7_rank_b76 C k31 hk31 σ x2 x3 x5 y0 (0 : Int32) _ _ _ (lv_sub hl [0, 1, 2, 3] rfl) hP hS hf
set_option maxRecDepth 100000 in
set_option maxHeartbeats 4000000 in
theorem kX7_rank_b71 (C : s_X p s m meth c args cX7_rank (some .int) 6 RX7 G cy sa ad 12) (k31 : Sg → Int32 → Int32 → Int32 → Int32 → Option (Int32 × Sg)) (hk31 : ∀ (σ : Sg) (x2 : Int32) (x3 : Int32) (x4 : Int32) (x5 : Int32) (ls : Array Slot) (H : Heap) (locs : List Loc), lv_has ls 6 [(0, .ref (ad 0)), (2, .int x2), (3, .int x3), (4, .int x4), (5, .int x5)] → va_P G vwCl ((s_WM cy ad) σ) H → va_S (s_A ad 12 s.heap.size) s.heap H locs → k31 σ x2 x3 x4 x5 = some (re, σe) → W p l e ({ frames := 3, cells := 0, slots := 0, locals := 62 } : Room) s m args below meth c H locs 0 0 (MQ below (s_Qi (s_WM cy ad) G (s_A ad 12 s.heap.size) re σe) args s 0 0 (s_A ad 12 s.heap.size)) (F0 m 31 ls [])) (σ : Sg) (x2 : Int32) (x3 : Int32) (x5 : Int32) (y0 : Int32) (ls : Array Slot) (H : Heap) (locs : List Loc) (hl : lv_has ls 6 [(0, .ref (ad 0)), (2, .int x2), (3, .int x3), (5, .int x5)]) (hP : va_P G vwCl ((s_WM cy ad) σ) H) (hS : va_S (s_A ad 12 s.heap.size) s.heap H locs) (hf : fX7_rank_b71 k31 σ x2 x3 x5 y0 = some (re, σe)) : W p l e ({ frames := 3, cells := 0, slots := 0, locals := 62 } : Room) s m args below meth c H locs 0 0 (MQ below (s_Qi (s_WM cy ad) G (s_A ad 12 s.heap.size) re σe) args s 0 0 (s_A ad 12 s.heap.size)) (F0 m 71 ls [.int y0]) := by
  obtain ⟨hx, hb, hr, hml, hown, hts, hlk, hK, hE, hI⟩ := id C
  have hD : ∀ σ : Sg, va_D (s_A ad 12 s.heap.size) ((s_WM cy ad) σ) := fun σ => s_D (s_WM_ad cy ad σ) hI (fun k hk => Or.inl ⟨k, hk, rfl⟩)
  unfold fX7_rank_b71 at hf
  refine lv_iconst (v := 1) hx hb dX7_rank_71 (by decide) ?_
  refine lv_goto (tgt := 76) hx hb dX7_rank_72 (by decide) ?_
  exact kX7_rank_b76 C k31 hk31 σ x2 x3 x5 y0 (1 : Int32) _ _ _ (lv_sub hl [0, 1, 2, 3] rfl) hP hS hf
set_option maxRecDepth 100000 in
set_option maxHeartbeats 4000000 in
theorem kX7_rank_b31 (C : s_X p s m meth c args cX7_rank (some .int) 6 RX7 G cy sa ad 12) (k31 : Sg → Int32 → Int32 → Int32 → Int32 → Option (Int32 × Sg)) (hk31 : ∀ (σ : Sg) (x2 : Int32) (x3 : Int32) (x4 : Int32) (x5 : Int32) (ls : Array Slot) (H : Heap) (locs : List Loc), lv_has ls 6 [(0, .ref (ad 0)), (2, .int x2), (3, .int x3), (4, .int x4), (5, .int x5)] → va_P G vwCl ((s_WM cy ad) σ) H → va_S (s_A ad 12 s.heap.size) s.heap H locs → k31 σ x2 x3 x4 x5 = some (re, σe) → W p l e ({ frames := 3, cells := 0, slots := 0, locals := 62 } : Room) s m args below meth c H locs 0 0 (MQ below (s_Qi (s_WM cy ad) G (s_A ad 12 s.heap.size) re σe) args s 0 0 (s_A ad 12 s.heap.size)) (F0 m 31 ls [])) (σ : Sg) (x2 : Int32) (x3 : Int32) (x4 : Int32) (x5 : Int32) (ls : Array Slot) (H : Heap) (locs : List Loc) (hl : lv_has ls 6 [(0, .ref (ad 0)), (2, .int x2), (3, .int x3), (4, .int x4), (5, .int x5)]) (hP : va_P G vwCl ((s_WM cy ad) σ) H) (hS : va_S (s_A ad 12 s.heap.size) s.heap H locs) (hf : fX7_rank_b31 k31 σ x2 x3 x4 x5 = some (re, σe)) : W p l e ({ frames := 3, cells := 0, slots := 0, locals := 62 } : Room) s m args below meth c H locs 0 0 (MQ below (s_Qi (s_WM cy ad) G (s_A ad 12 s.heap.size) re σe) args s 0 0 (s_A ad 12 s.heap.size)) (F0 m 31 ls []) := by
  obtain ⟨hx, hb, hr, hml, hown, hts, hlk, hK, hE, hI⟩ := id C
  have hD : ∀ σ : Sg, va_D (s_A ad 12 s.heap.size) ((s_WM cy ad) σ) := fun σ => s_D (s_WM_ad cy ad σ) hI (fun k hk => Or.inl ⟨k, hk, rfl⟩)
  unfold fX7_rank_b31 at hf
  refine lv_iload hx hb dX7_rank_31 (lv_at hl 4 rfl) ?_
  refine lv_aload_n hx hb dX7_rank_33 rfl (lv_at hl 0 rfl) ?_
  refine va_get (D := G) (ci := 7) (v := .int (σ 0 15)) (C := RX7) (T := TX7) (N := 28) hx hb hts inkX7 hown hK hP 0 rfl rfl 15 (by decide) (hts _ kw_797) (fun _ h9 => h9) rfl dX7_rank_34 ?_
  refine lv_icmp_ge (tgt := 85) hx hb dX7_rank_37 (by decide) (fun c1 => ?_) (fun c1 => ?_)
  · rw [if_pos c1] at hf
    refine lv_iload hx hb dX7_rank_85 (lv_at hl 3 rfl) ?_
    obtain ⟨he1, he2⟩ := s_ret hf
    exact W.iret hx hb hr (fun t ht hW => ⟨⟨_, (), rfl, he1, s_fin (Wd := (s_WM cy ad)) ht he2 hP⟩, hS.F ht⟩) hS.2.2 dX7_rank_87 hlk
  · rw [if_neg c1] at hf
    refine lv_iload hx hb dX7_rank_40 (lv_at hl 3 rfl) ?_
    refine lv_iload_n hx hb dX7_rank_42 rfl (lv_at hl 2 rfl) ?_
    refine lv_if_ne (tgt := 60) hx hb dX7_rank_43 (by decide) (fun c2 => ?_) (fun c2 => ?_)
    · rw [if_neg c2] at hf
      refine lv_aload_n hx hb dX7_rank_60 rfl (lv_at hl 0 rfl) ?_
      refine va_get (D := G) (ci := 7) (v := .ref (ad 5)) (C := RX7) (T := TX7) (N := 28) hx hb hts inkX7 hown hK hP 0 rfl rfl 14 (by decide) (hts _ kw_796) (fun _ h9 => h9) rfl dX7_rank_61 ?_
      refine lv_iload hx hb dX7_rank_64 (lv_at hl 4 rfl) ?_
      replace hf := s_gd_some hf
      obtain ⟨g3, hf⟩ := hf
      refine va_iald hx hb hK hP 5 1 rfl rfl (s_in_of g3) dX7_rank_66 ?_
      refine lv_iload_n hx hb dX7_rank_67 rfl (lv_at hl 1 rfl) ?_
      refine lv_icmp_ne (tgt := 75) hx hb dX7_rank_68 (by decide) (fun c4 => ?_) (fun c4 => ?_)
      · rw [if_neg c4] at hf
        exact kX7_rank_b75 C k31 hk31 σ x2 x3 x5 x4 _ _ _ (lv_sub hl [0, 1, 2, 4] rfl) hP hS hf
      · rw [if_pos c4] at hf
        exact kX7_rank_b71 C k31 hk31 σ x2 x3 x5 x4 _ _ _ (lv_sub hl [0, 1, 2, 4] rfl) hP hS hf
    · rw [if_pos c2] at hf
      refine lv_aload_n hx hb dX7_rank_46 rfl (lv_at hl 0 rfl) ?_
      refine va_get (D := G) (ci := 7) (v := .ref (ad 5)) (C := RX7) (T := TX7) (N := 28) hx hb hts inkX7 hown hK hP 0 rfl rfl 14 (by decide) (hts _ kw_796) (fun _ h9 => h9) rfl dX7_rank_47 ?_
      refine lv_iload hx hb dX7_rank_50 (lv_at hl 4 rfl) ?_
      replace hf := s_gd_some hf
      obtain ⟨g5, hf⟩ := hf
      refine va_iald hx hb hK hP 5 1 rfl rfl (s_in_of g5) dX7_rank_52 ?_
      refine lv_iload_n hx hb dX7_rank_53 rfl (lv_at hl 1 rfl) ?_
      refine lv_icmp_ge (tgt := 75) hx hb dX7_rank_54 (by decide) (fun c6 => ?_) (fun c6 => ?_)
      · rw [if_pos c6] at hf
        exact kX7_rank_b75 C k31 hk31 σ x2 x3 x5 x4 _ _ _ (lv_sub hl [0, 1, 2, 4] rfl) hP hS hf
      · rw [if_neg c6] at hf
        refine lv_goto (tgt := 71) hx hb dX7_rank_57 (by decide) ?_
        exact kX7_rank_b71 C k31 hk31 σ x2 x3 x5 x4 _ _ _ (lv_sub hl [0, 1, 2, 4] rfl) hP hS hf
set_option maxRecDepth 100000 in
set_option maxHeartbeats 4000000 in
theorem kX7_rank_b31_L (C : s_X p s m meth c args cX7_rank (some .int) 6 RX7 G cy sa ad 12) : ∀ (n : Nat), ∀ (σ : Sg) (x2 : Int32) (x3 : Int32) (x4 : Int32) (x5 : Int32) (ls : Array Slot) (H : Heap) (locs : List Loc), lv_has ls 6 [(0, .ref (ad 0)), (2, .int x2), (3, .int x3), (4, .int x4), (5, .int x5)] → va_P G vwCl ((s_WM cy ad) σ) H → va_S (s_A ad 12 s.heap.size) s.heap H locs → fX7_rank_b31_L n σ x2 x3 x4 x5 = some (re, σe) → W p l e ({ frames := 3, cells := 0, slots := 0, locals := 62 } : Room) s m args below meth c H locs 0 0 (MQ below (s_Qi (s_WM cy ad) G (s_A ad 12 s.heap.size) re σe) args s 0 0 (s_A ad 12 s.heap.size)) (F0 m 31 ls []) := by
  intro n
  induction n with
  | zero => intro σ x2 x3 x4 x5 ls H locs hl hP hS hf; exact absurd (show (none : Option (Int32 × Sg)) = some (re, σe) from hf) (by intro h; cases h)
  | succ n ih => intro σ x2 x3 x4 x5 ls H locs hl hP hS hf; exact kX7_rank_b31 C (fX7_rank_b31_L n) ih σ x2 x3 x4 x5 ls H locs hl hP hS hf
set_option maxRecDepth 100000 in
set_option maxHeartbeats 4000000 in
theorem kX7_rank (C : s_X p s m meth c args cX7_rank (some .int) 6 RX7 G cy sa ad 12) (σ : Sg) (x1 : Int32) (x2 : Int32) (x3 : Int32) (ls : Array Slot) (H : Heap) (locs : List Loc) (hl : lv_has ls 6 [(0, .ref (ad 0)), (1, .int x1), (2, .int x2), (3, .int x3)]) (hP : va_P G vwCl ((s_WM cy ad) σ) H) (hS : va_S (s_A ad 12 s.heap.size) s.heap H locs) (hf : fX7_rank σ x1 x2 x3 = some (re, σe)) : W p l e ({ frames := 3, cells := 0, slots := 0, locals := 62 } : Room) s m args below meth c H locs 0 0 (MQ below (s_Qi (s_WM cy ad) G (s_A ad 12 s.heap.size) re σe) args s 0 0 (s_A ad 12 s.heap.size)) (F0 m 0 ls []) := by
  obtain ⟨hx, hb, hr, hml, hown, hts, hlk, hK, hE, hI⟩ := id C
  have hD : ∀ σ : Sg, va_D (s_A ad 12 s.heap.size) ((s_WM cy ad) σ) := fun σ => s_D (s_WM_ad cy ad σ) hI (fun k hk => Or.inl ⟨k, hk, rfl⟩)
  unfold fX7_rank at hf
  refine lv_aload_n hx hb dX7_rank_0 rfl (lv_at hl 0 rfl) ?_
  refine lv_iload_n hx hb dX7_rank_1 rfl (lv_at hl 1 rfl) ?_
  replace hf := s_bi_some hf
  obtain ⟨r3, σ1, hz2, hf⟩ := hf
  refine s_calli (nn := 1) C (kcX7_isThere (l := l) (G := G) (cy := cy) (sa := sa) hI (sz := H.size) σ x1 hz2) gk_X7_180 rfl rfl (by decide +kernel) ⟨Nat.le_of_ble_eq_true rfl, Nat.le_of_ble_eq_true rfl⟩ hP hS (q0 := 0) (ci := 7) rfl rfl rfl (As := [.int x1]) (rest := []) rfl rfl hl.1 (Nat.le_of_ble_eq_true rfl) dX7_rank_2 (fun H locs hP hS => ?_)
  refine lv_if_eq (tgt := 18) hx hb dX7_rank_5 (by decide) (fun c4 => ?_) (fun c4 => ?_)
  · rw [if_pos c4] at hf
    exact kX7_rank_b18 C σ1 _ _ _ (lv_sub hl [] rfl) hP hS hf
  · rw [if_neg c4] at hf
    refine lv_iload_n hx hb dX7_rank_8 rfl (lv_at hl 3 rfl) ?_
    refine lv_i2l (v := (Int32.toInt64 x3)) hx hb dX7_rank_9 rfl ?_
    refine lv_lconst (v := 0) hx hb dX7_rank_10 (by decide) ?_
    refine lv_lconst (v := 1) hx hb dX7_rank_11 (by decide) ?_
    replace hf := s_bi_some hf
    obtain ⟨r7, σ5, hz6, hf⟩ := hf
    refine s_calliS (nn := 3) C (kcX7_in (l := l) (G := G) (cy := cy) (sa := sa) hI (sz := H.size) σ1 (Int32.toInt64 x3) (0 : Int64) (1 : Int64) hz6) gk_X7_54 rfl rfl (by decide +kernel) ⟨Nat.le_of_ble_eq_true rfl, Nat.le_of_ble_eq_true rfl⟩ hP hS (As := [.long (Int32.toInt64 x3), .long (0 : Int64), .long (1 : Int64)]) (rest := []) rfl rfl hl.1 (Nat.le_of_ble_eq_true rfl) dX7_rank_12 (fun H locs hP hS => ?_)
    refine lv_if_ne (tgt := 20) hx hb dX7_rank_15 (by decide) (fun c8 => ?_) (fun c8 => ?_)
    · rw [if_neg c8] at hf
      refine lv_aload_n hx hb dX7_rank_20 rfl (lv_at hl 0 rfl) ?_
      refine lv_iload_n hx hb dX7_rank_21 rfl (lv_at hl 1 rfl) ?_
      replace hf := s_bv_some hf
      obtain ⟨σ9, hz10, hf⟩ := hf
      refine s_callv (nn := 1) C (kcX7_rowOf (l := l) (G := G) (cy := cy) (sa := sa) hI (sz := H.size) σ5 x1 hz10) gk_X7_151 rfl rfl (by decide +kernel) ⟨Nat.le_of_ble_eq_true rfl, Nat.le_of_ble_eq_true rfl⟩ hP hS (q0 := 0) (ci := 7) rfl rfl rfl (As := [.int x1]) (rest := []) rfl rfl hl.1 (Nat.le_of_ble_eq_true rfl) dX7_rank_22 (fun H locs hP hS => ?_)
      refine lv_iconst (v := 0) hx hb dX7_rank_25 (by decide) ?_
      refine lv_istore (lv' := [(4, .int (0 : Int32)), (0, .ref (ad 0)), (1, .int x1), (2, .int x2), (3, .int x3)]) hx hb dX7_rank_26 hl (by decide) rfl (fun ls hl => ?_)
      refine lv_iconst (v := 0) hx hb dX7_rank_28 (by decide) ?_
      refine lv_istore (lv' := [(5, .int (0 : Int32)), (4, .int (0 : Int32)), (0, .ref (ad 0)), (1, .int x1), (2, .int x2), (3, .int x3)]) hx hb dX7_rank_29 hl (by decide) rfl (fun ls hl => ?_)
      exact kX7_rank_b31_L C s_fu σ9 x2 x3 (0 : Int32) (0 : Int32) _ _ _ (lv_sub hl [2, 4, 5, 1, 0] rfl) hP hS hf
    · rw [if_pos c8] at hf
      exact kX7_rank_b18 C σ5 _ _ _ (lv_sub hl [] rfl) hP hS hf
theorem kcX7_rank {l : Launch} {G : va_G} {cy : Nat → ClassId} {sa : Nat × Nat} {ad : Nat → Nat}  {sz : Nat} (hI : s_inj ad 12) (σ : Sg) (x1 : Int32) (x2 : Int32) (x3 : Int32) {re : Int32} {σe : Sg} (hf : fX7_rank σ x1 x2 x3 = some (re, σe)) : Met l yX7_rank (kW yX7_rank cX7_rank 6 (some .int)) ({ frames := 3, cells := 0, slots := 0, locals := 62 } : Room) (s_P (s_WM cy ad) G cy sa ad 12 [.ref (ad 0), .int x1, .int x2, .int x3] sz σ) (s_Qi (s_WM cy ad) G (s_A ad 12 sz) re σe) 0 0 (s_A ad 12 sz) := by
  refine s_met (own := RX7) (by decide) rfl hI (Nat.le_of_ble_eq_true rfl) (fun p e s m below meth c ls hsz C hP hl => ?_)
  subst hsz
  exact kX7_rank C σ x1 x2 x3 ls _ _ hl hP va_S.rf hf
end
