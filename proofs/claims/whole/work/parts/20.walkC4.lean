section
variable {p : Program} {l : Launch} {e : Env} {s : State} {m : MethodId} {below : List Frame} {meth : Method} {c : Code} {G : va_G} {cy : Nat → ClassId} {sa : Nat × Nat} {ad : Nat → Nat} {args : Array Value} {re : Int32} {σe : Sg}
set_option maxRecDepth 100000 in
set_option maxHeartbeats 4000000 in
theorem kX2_renew_19_b28 (C : s_X p s m meth c args cX2_renew none 4 RX2 G cy sa ad 27) (k28 : Sg → Int32 → Option Sg) (hk28 : ∀ (σ : Sg) (x3 : Int32) (ls : Array Slot) (H : Heap) (locs : List Loc), lv_has ls 4 [(0, .ref (ad 19)), (3, .int x3)] → va_P G vwCl ((s_WC cy ad) σ) H → va_S (s_A ad 27 s.heap.size) s.heap H locs → k28 σ x3 = some σe → W p l e ({ frames := 1, cells := 0, slots := 0, locals := 21 } : Room) s m args below meth c H locs 0 0 (MQ below (s_Qv (s_WC cy ad) G (s_A ad 27 s.heap.size) σe) args s 0 0 (s_A ad 27 s.heap.size)) (F0 m 28 ls [])) (σ : Sg) (x3 : Int32) (ls : Array Slot) (H : Heap) (locs : List Loc) (hl : lv_has ls 4 [(0, .ref (ad 19)), (3, .int x3)]) (hP : va_P G vwCl ((s_WC cy ad) σ) H) (hS : va_S (s_A ad 27 s.heap.size) s.heap H locs) (hf : fX2_renew_19_b28 k28 σ x3 = some σe) : W p l e ({ frames := 1, cells := 0, slots := 0, locals := 21 } : Room) s m args below meth c H locs 0 0 (MQ below (s_Qv (s_WC cy ad) G (s_A ad 27 s.heap.size) σe) args s 0 0 (s_A ad 27 s.heap.size)) (F0 m 28 ls []) := by
  obtain ⟨hx, hb, hr, hml, hown, hts, hlk, hK, hE, hI⟩ := id C
  have hD : ∀ σ : Sg, va_D (s_A ad 27 s.heap.size) ((s_WC cy ad) σ) := fun σ => s_D (s_WC_ad cy ad σ) hI (fun k hk => Or.inl ⟨k, hk, rfl⟩)
  unfold fX2_renew_19_b28 at hf
  refine lv_iload_n hx hb dX2_renew_28 rfl (lv_at hl 1 rfl) ?_
  refine lv_aload_n hx hb dX2_renew_29 rfl (lv_at hl 0 rfl) ?_
  refine va_get (D := G) (ci := 2) (v := .ref (ad 20)) (C := RX2) (T := TX2) (N := 3) hx hb hts inkX2 hown hK hP 19 rfl rfl 0 (by decide) (hts _ kw_237) (fun _ h9 => h9) rfl dX2_renew_30 ?_
  refine va_alen (v := (40 : Int32)) hx hb hK hP 20 1 rfl rfl (by show Int32.ofNat 40 = 40; decide) dX2_renew_33 ?_
  refine lv_icmp_ge (tgt := 50) hx hb dX2_renew_34 (by decide) (fun c1 => ?_) (fun c1 => ?_)
  · rw [if_pos c1] at hf
    have he2 := Option.some.inj hf
    exact W.vret hx hb hr (fun t ht hW => ⟨⟨(), rfl, trivial, s_fin (Wd := (s_WC cy ad)) ht he2 hP⟩, hS.F ht⟩) hS.2.2 dX2_renew_50 hlk
  · rw [if_neg c1] at hf
    refine lv_aload_n hx hb dX2_renew_37 rfl (lv_at hl 0 rfl) ?_
    refine va_get (D := G) (ci := 2) (v := .ref (ad 20)) (C := RX2) (T := TX2) (N := 3) hx hb hts inkX2 hown hK hP 19 rfl rfl 0 (by decide) (hts _ kw_237) (fun _ h9 => h9) rfl dX2_renew_38 ?_
    refine lv_iload_n hx hb dX2_renew_41 rfl (lv_at hl 1 rfl) ?_
    refine lv_iconst (v := 0) hx hb dX2_renew_42 (by decide) ?_
    replace hf := s_gd_some hf
    obtain ⟨g2, hf⟩ := hf
    refine va_iast hx hb hK hP (hD _) hS 20 1 rfl rfl (s_in_of g2) dX2_renew_43 (fun H locs hP _ hS => ?_)
    obtain ⟨σ3, eσ3⟩ : ∃ z : Sg, z = (s_up σ 20 (Int32.toNatClampNeg x3) (0 : Int32)) := ⟨_, rfl⟩
    replace hf := s_lt_at eσ3 hf
    replace hP : va_P G vwCl ((s_WC cy ad) σ3) H := by rw [eσ3]; exact hP
    obtain ⟨t4, et4⟩ : ∃ z : Int32, z = (x3 + 1) := ⟨_, rfl⟩
    replace hf := s_lt_at et4 hf
    refine lv_iinc (v := t4) (lv' := [(3, .int t4), (0, .ref (ad 19))]) hx hb dX2_renew_44 hl (k := 1) rfl (by rw [et4]; rfl) (by decide) rfl (fun ls hl => ?_)
    refine lv_goto (tgt := 28) hx hb dX2_renew_47 (by decide) ?_
    exact hk28 σ3 t4 _ _ _ (lv_sub hl [1, 0] rfl) hP hS hf
set_option maxRecDepth 100000 in
set_option maxHeartbeats 4000000 in
theorem kX2_renew_19_b28_L (C : s_X p s m meth c args cX2_renew none 4 RX2 G cy sa ad 27) : ∀ (n : Nat), ∀ (σ : Sg) (x3 : Int32) (ls : Array Slot) (H : Heap) (locs : List Loc), lv_has ls 4 [(0, .ref (ad 19)), (3, .int x3)] → va_P G vwCl ((s_WC cy ad) σ) H → va_S (s_A ad 27 s.heap.size) s.heap H locs → fX2_renew_19_b28_L n σ x3 = some σe → W p l e ({ frames := 1, cells := 0, slots := 0, locals := 21 } : Room) s m args below meth c H locs 0 0 (MQ below (s_Qv (s_WC cy ad) G (s_A ad 27 s.heap.size) σe) args s 0 0 (s_A ad 27 s.heap.size)) (F0 m 28 ls []) := by
  intro n
  induction n with
  | zero => intro σ x3 ls H locs hl hP hS hf; exact absurd (show (none : Option Sg) = some σe from hf) (by intro h; cases h)
  | succ n ih => intro σ x3 ls H locs hl hP hS hf; exact kX2_renew_19_b28 C (fX2_renew_19_b28_L n) ih σ x3 ls H locs hl hP hS hf
set_option maxRecDepth 100000 in
set_option maxHeartbeats 4000000 in
theorem kX2_renew_19_b23 (C : s_X p s m meth c args cX2_renew none 4 RX2 G cy sa ad 27) (σ : Sg) (y1 : Int32) (ls : Array Slot) (H : Heap) (locs : List Loc) (hl : lv_has ls 4 [(0, .ref (ad 19))]) (hP : va_P G vwCl ((s_WC cy ad) σ) H) (hS : va_S (s_A ad 27 s.heap.size) s.heap H locs) (hf : fX2_renew_19_b23 σ y1 = some σe) : W p l e ({ frames := 1, cells := 0, slots := 0, locals := 21 } : Room) s m args below meth c H locs 0 0 (MQ below (s_Qv (s_WC cy ad) G (s_A ad 27 s.heap.size) σe) args s 0 0 (s_A ad 27 s.heap.size)) (F0 m 23 ls [.int y1, .ref (ad 19)]) := by
  obtain ⟨hx, hb, hr, hml, hown, hts, hlk, hK, hE, hI⟩ := id C
  have hD : ∀ σ : Sg, va_D (s_A ad 27 s.heap.size) ((s_WC cy ad) σ) := fun σ => s_D (s_WC_ad cy ad σ) hI (fun k hk => Or.inl ⟨k, hk, rfl⟩)
  unfold fX2_renew_19_b23 at hf
  refine va_put (D := G) (ci := 2) (v := .int y1) (ty := .int) (C := RX2) (T := TX2) (N := 3) hx hb hts inkX2 tyX2 tyX2_ok nmX2 hown hK hP (hD _) hS 19 rfl rfl 2 (by decide) (hts _ kw_240) (fun _ h9 => h9) rfl (by decide +kernel) rfl rfl (Nat.le_of_ble_eq_true rfl) dX2_renew_23 (fun H locs hP _ hS => ?_)
  obtain ⟨σ1, eσ1⟩ : ∃ z : Sg, z = (s_up σ 19 2 y1) := ⟨_, rfl⟩
  replace hf := s_lt_at eσ1 hf
  replace hP : va_P G vwCl ((s_WC cy ad) σ1) H := by rw [eσ1]; exact hP
  refine lv_iconst (v := 0) hx hb dX2_renew_26 (by decide) ?_
  refine lv_istore_n (lv' := [(3, .int (0 : Int32)), (0, .ref (ad 19))]) hx hb dX2_renew_27 rfl hl (by decide) rfl (fun ls hl => ?_)
  exact kX2_renew_19_b28_L C s_fu σ1 (0 : Int32) _ _ _ (lv_sub hl [1, 0] rfl) hP hS hf
set_option maxRecDepth 100000 in
set_option maxHeartbeats 4000000 in
theorem kX2_renew_19 (C : s_X p s m meth c args cX2_renew none 4 RX2 G cy sa ad 27) (σ : Sg) (x1 : Int32) (x2 : Int32) (ls : Array Slot) (H : Heap) (locs : List Loc) (hl : lv_has ls 4 [(0, .ref (ad 19)), (1, .int x1), (2, .int x2)]) (hP : va_P G vwCl ((s_WC cy ad) σ) H) (hS : va_S (s_A ad 27 s.heap.size) s.heap H locs) (hf : fX2_renew_19 σ x1 x2 = some σe) : W p l e ({ frames := 1, cells := 0, slots := 0, locals := 21 } : Room) s m args below meth c H locs 0 0 (MQ below (s_Qv (s_WC cy ad) G (s_A ad 27 s.heap.size) σe) args s 0 0 (s_A ad 27 s.heap.size)) (F0 m 0 ls []) := by
  obtain ⟨hx, hb, hr, hml, hown, hts, hlk, hK, hE, hI⟩ := id C
  have hD : ∀ σ : Sg, va_D (s_A ad 27 s.heap.size) ((s_WC cy ad) σ) := fun σ => s_D (s_WC_ad cy ad σ) hI (fun k hk => Or.inl ⟨k, hk, rfl⟩)
  unfold fX2_renew_19 at hf
  refine lv_aload_n hx hb dX2_renew_0 rfl (lv_at hl 0 rfl) ?_
  refine lv_iload_n hx hb dX2_renew_1 rfl (lv_at hl 1 rfl) ?_
  refine va_put (D := G) (ci := 2) (v := .int x1) (ty := .int) (C := RX2) (T := TX2) (N := 3) hx hb hts inkX2 tyX2 tyX2_ok nmX2 hown hK hP (hD _) hS 19 rfl rfl 1 (by decide) (hts _ kw_238) (fun _ h9 => h9) rfl (by decide +kernel) rfl rfl (Nat.le_of_ble_eq_true rfl) dX2_renew_2 (fun H locs hP _ hS => ?_)
  obtain ⟨σ1, eσ1⟩ : ∃ z : Sg, z = (s_up σ 19 1 x1) := ⟨_, rfl⟩
  replace hf := s_lt_at eσ1 hf
  replace hP : va_P G vwCl ((s_WC cy ad) σ1) H := by rw [eσ1]; exact hP
  refine lv_aload_n hx hb dX2_renew_5 rfl (lv_at hl 0 rfl) ?_
  refine lv_iload_n hx hb dX2_renew_6 rfl (lv_at hl 2 rfl) ?_
  refine lv_if_ge (tgt := 14) hx hb dX2_renew_7 (by decide) (fun c2 => ?_) (fun c2 => ?_)
  · rw [if_pos c2] at hf
    refine lv_iload_n hx hb dX2_renew_14 rfl (lv_at hl 2 rfl) ?_
    refine lv_aload_n hx hb dX2_renew_15 rfl (lv_at hl 0 rfl) ?_
    refine va_get (D := G) (ci := 2) (v := .ref (ad 20)) (C := RX2) (T := TX2) (N := 3) hx hb hts inkX2 hown hK hP 19 rfl rfl 0 (by decide) (hts _ kw_237) (fun _ h9 => h9) rfl dX2_renew_16 ?_
    refine va_alen (v := (40 : Int32)) hx hb hK hP 20 1 rfl rfl (by show Int32.ofNat 40 = 40; decide) dX2_renew_19 ?_
    refine va_mmin hx hb (hml.trans hl.1.symm) hown (hts _ kw_730) (hts _ kw_701) (hts _ kw_69) (hts _ kw_702) (Nat.le_of_ble_eq_true rfl) (Nat.le_of_ble_eq_true rfl) (Nat.zero_le _) (Nat.zero_le _) dX2_renew_20 ?_
    refine lv_topi (fun t3 et3 => ?_)
    replace hf := s_lt_at et3 hf
    exact kX2_renew_19_b23 C σ1 t3 _ _ _ (lv_sub hl [0] rfl) hP hS hf
  · rw [if_neg c2] at hf
    refine lv_iconst (v := -1) hx hb dX2_renew_10 (by decide) ?_
    refine lv_goto (tgt := 23) hx hb dX2_renew_11 (by decide) ?_
    exact kX2_renew_19_b23 C σ1 (-1 : Int32) _ _ _ (lv_sub hl [0] rfl) hP hS hf
theorem kcX2_renew_19 {l : Launch} {G : va_G} {cy : Nat → ClassId} {sa : Nat × Nat} {ad : Nat → Nat}  {sz : Nat} (hI : s_inj ad 27) (σ : Sg) (x1 : Int32) (x2 : Int32) {σe : Sg} (hf : fX2_renew_19 σ x1 x2 = some σe) : Met l yX2_renew (kW yX2_renew cX2_renew 4 none) ({ frames := 1, cells := 0, slots := 0, locals := 21 } : Room) (s_P (s_WC cy ad) G cy sa ad 27 [.ref (ad 19), .int x1, .int x2] sz σ) (s_Qv (s_WC cy ad) G (s_A ad 27 sz) σe) 0 0 (s_A ad 27 sz) := by
  refine s_met (own := RX2) (by decide) rfl hI (Nat.le_of_ble_eq_true rfl) (fun p e s m below meth c ls hsz C hP hl => ?_)
  subst hsz
  exact kX2_renew_19 C σ x1 x2 ls _ _ hl hP va_S.rf hf
set_option maxRecDepth 100000 in
set_option maxHeartbeats 4000000 in
theorem kX2_renew_21_b28 (C : s_X p s m meth c args cX2_renew none 4 RX2 G cy sa ad 27) (k28 : Sg → Int32 → Option Sg) (hk28 : ∀ (σ : Sg) (x3 : Int32) (ls : Array Slot) (H : Heap) (locs : List Loc), lv_has ls 4 [(0, .ref (ad 21)), (3, .int x3)] → va_P G vwCl ((s_WC cy ad) σ) H → va_S (s_A ad 27 s.heap.size) s.heap H locs → k28 σ x3 = some σe → W p l e ({ frames := 1, cells := 0, slots := 0, locals := 21 } : Room) s m args below meth c H locs 0 0 (MQ below (s_Qv (s_WC cy ad) G (s_A ad 27 s.heap.size) σe) args s 0 0 (s_A ad 27 s.heap.size)) (F0 m 28 ls [])) (σ : Sg) (x3 : Int32) (ls : Array Slot) (H : Heap) (locs : List Loc) (hl : lv_has ls 4 [(0, .ref (ad 21)), (3, .int x3)]) (hP : va_P G vwCl ((s_WC cy ad) σ) H) (hS : va_S (s_A ad 27 s.heap.size) s.heap H locs) (hf : fX2_renew_21_b28 k28 σ x3 = some σe) : W p l e ({ frames := 1, cells := 0, slots := 0, locals := 21 } : Room) s m args below meth c H locs 0 0 (MQ below (s_Qv (s_WC cy ad) G (s_A ad 27 s.heap.size) σe) args s 0 0 (s_A ad 27 s.heap.size)) (F0 m 28 ls []) := by
  obtain ⟨hx, hb, hr, hml, hown, hts, hlk, hK, hE, hI⟩ := id C
  have hD : ∀ σ : Sg, va_D (s_A ad 27 s.heap.size) ((s_WC cy ad) σ) := fun σ => s_D (s_WC_ad cy ad σ) hI (fun k hk => Or.inl ⟨k, hk, rfl⟩)
  unfold fX2_renew_21_b28 at hf
  refine lv_iload_n hx hb dX2_renew_28 rfl (lv_at hl 1 rfl) ?_
  refine lv_aload_n hx hb dX2_renew_29 rfl (lv_at hl 0 rfl) ?_
  refine va_get (D := G) (ci := 2) (v := .ref (ad 22)) (C := RX2) (T := TX2) (N := 3) hx hb hts inkX2 hown hK hP 21 rfl rfl 0 (by decide) (hts _ kw_237) (fun _ h9 => h9) rfl dX2_renew_30 ?_
  refine va_alen (v := (40 : Int32)) hx hb hK hP 22 1 rfl rfl (by show Int32.ofNat 40 = 40; decide) dX2_renew_33 ?_
  refine lv_icmp_ge (tgt := 50) hx hb dX2_renew_34 (by decide) (fun c1 => ?_) (fun c1 => ?_)
  · rw [if_pos c1] at hf
    have he2 := Option.some.inj hf
    exact W.vret hx hb hr (fun t ht hW => ⟨⟨(), rfl, trivial, s_fin (Wd := (s_WC cy ad)) ht he2 hP⟩, hS.F ht⟩) hS.2.2 dX2_renew_50 hlk
  · rw [if_neg c1] at hf
    refine lv_aload_n hx hb dX2_renew_37 rfl (lv_at hl 0 rfl) ?_
    refine va_get (D := G) (ci := 2) (v := .ref (ad 22)) (C := RX2) (T := TX2) (N := 3) hx hb hts inkX2 hown hK hP 21 rfl rfl 0 (by decide) (hts _ kw_237) (fun _ h9 => h9) rfl dX2_renew_38 ?_
    refine lv_iload_n hx hb dX2_renew_41 rfl (lv_at hl 1 rfl) ?_
    refine lv_iconst (v := 0) hx hb dX2_renew_42 (by decide) ?_
    replace hf := s_gd_some hf
    obtain ⟨g2, hf⟩ := hf
    refine va_iast hx hb hK hP (hD _) hS 22 1 rfl rfl (s_in_of g2) dX2_renew_43 (fun H locs hP _ hS => ?_)
    obtain ⟨σ3, eσ3⟩ : ∃ z : Sg, z = (s_up σ 22 (Int32.toNatClampNeg x3) (0 : Int32)) := ⟨_, rfl⟩
    replace hf := s_lt_at eσ3 hf
    replace hP : va_P G vwCl ((s_WC cy ad) σ3) H := by rw [eσ3]; exact hP
    obtain ⟨t4, et4⟩ : ∃ z : Int32, z = (x3 + 1) := ⟨_, rfl⟩
    replace hf := s_lt_at et4 hf
    refine lv_iinc (v := t4) (lv' := [(3, .int t4), (0, .ref (ad 21))]) hx hb dX2_renew_44 hl (k := 1) rfl (by rw [et4]; rfl) (by decide) rfl (fun ls hl => ?_)
    refine lv_goto (tgt := 28) hx hb dX2_renew_47 (by decide) ?_
    exact hk28 σ3 t4 _ _ _ (lv_sub hl [1, 0] rfl) hP hS hf
set_option maxRecDepth 100000 in
set_option maxHeartbeats 4000000 in
theorem kX2_renew_21_b28_L (C : s_X p s m meth c args cX2_renew none 4 RX2 G cy sa ad 27) : ∀ (n : Nat), ∀ (σ : Sg) (x3 : Int32) (ls : Array Slot) (H : Heap) (locs : List Loc), lv_has ls 4 [(0, .ref (ad 21)), (3, .int x3)] → va_P G vwCl ((s_WC cy ad) σ) H → va_S (s_A ad 27 s.heap.size) s.heap H locs → fX2_renew_21_b28_L n σ x3 = some σe → W p l e ({ frames := 1, cells := 0, slots := 0, locals := 21 } : Room) s m args below meth c H locs 0 0 (MQ below (s_Qv (s_WC cy ad) G (s_A ad 27 s.heap.size) σe) args s 0 0 (s_A ad 27 s.heap.size)) (F0 m 28 ls []) := by
  intro n
  induction n with
  | zero => intro σ x3 ls H locs hl hP hS hf; exact absurd (show (none : Option Sg) = some σe from hf) (by intro h; cases h)
  | succ n ih => intro σ x3 ls H locs hl hP hS hf; exact kX2_renew_21_b28 C (fX2_renew_21_b28_L n) ih σ x3 ls H locs hl hP hS hf
set_option maxRecDepth 100000 in
set_option maxHeartbeats 4000000 in
theorem kX2_renew_21_b23 (C : s_X p s m meth c args cX2_renew none 4 RX2 G cy sa ad 27) (σ : Sg) (y1 : Int32) (ls : Array Slot) (H : Heap) (locs : List Loc) (hl : lv_has ls 4 [(0, .ref (ad 21))]) (hP : va_P G vwCl ((s_WC cy ad) σ) H) (hS : va_S (s_A ad 27 s.heap.size) s.heap H locs) (hf : fX2_renew_21_b23 σ y1 = some σe) : W p l e ({ frames := 1, cells := 0, slots := 0, locals := 21 } : Room) s m args below meth c H locs 0 0 (MQ below (s_Qv (s_WC cy ad) G (s_A ad 27 s.heap.size) σe) args s 0 0 (s_A ad 27 s.heap.size)) (F0 m 23 ls [.int y1, .ref (ad 21)]) := by
  obtain ⟨hx, hb, hr, hml, hown, hts, hlk, hK, hE, hI⟩ := id C
  have hD : ∀ σ : Sg, va_D (s_A ad 27 s.heap.size) ((s_WC cy ad) σ) := fun σ => s_D (s_WC_ad cy ad σ) hI (fun k hk => Or.inl ⟨k, hk, rfl⟩)
  unfold fX2_renew_21_b23 at hf
  refine va_put (D := G) (ci := 2) (v := .int y1) (ty := .int) (C := RX2) (T := TX2) (N := 3) hx hb hts inkX2 tyX2 tyX2_ok nmX2 hown hK hP (hD _) hS 21 rfl rfl 2 (by decide) (hts _ kw_240) (fun _ h9 => h9) rfl (by decide +kernel) rfl rfl (Nat.le_of_ble_eq_true rfl) dX2_renew_23 (fun H locs hP _ hS => ?_)
  obtain ⟨σ1, eσ1⟩ : ∃ z : Sg, z = (s_up σ 21 2 y1) := ⟨_, rfl⟩
  replace hf := s_lt_at eσ1 hf
  replace hP : va_P G vwCl ((s_WC cy ad) σ1) H := by rw [eσ1]; exact hP
  refine lv_iconst (v := 0) hx hb dX2_renew_26 (by decide) ?_
  refine lv_istore_n (lv' := [(3, .int (0 : Int32)), (0, .ref (ad 21))]) hx hb dX2_renew_27 rfl hl (by decide) rfl (fun ls hl => ?_)
  exact kX2_renew_21_b28_L C s_fu σ1 (0 : Int32) _ _ _ (lv_sub hl [1, 0] rfl) hP hS hf
set_option maxRecDepth 100000 in
set_option maxHeartbeats 4000000 in
theorem kX2_renew_21 (C : s_X p s m meth c args cX2_renew none 4 RX2 G cy sa ad 27) (σ : Sg) (x1 : Int32) (x2 : Int32) (ls : Array Slot) (H : Heap) (locs : List Loc) (hl : lv_has ls 4 [(0, .ref (ad 21)), (1, .int x1), (2, .int x2)]) (hP : va_P G vwCl ((s_WC cy ad) σ) H) (hS : va_S (s_A ad 27 s.heap.size) s.heap H locs) (hf : fX2_renew_21 σ x1 x2 = some σe) : W p l e ({ frames := 1, cells := 0, slots := 0, locals := 21 } : Room) s m args below meth c H locs 0 0 (MQ below (s_Qv (s_WC cy ad) G (s_A ad 27 s.heap.size) σe) args s 0 0 (s_A ad 27 s.heap.size)) (F0 m 0 ls []) := by
  obtain ⟨hx, hb, hr, hml, hown, hts, hlk, hK, hE, hI⟩ := id C
  have hD : ∀ σ : Sg, va_D (s_A ad 27 s.heap.size) ((s_WC cy ad) σ) := fun σ => s_D (s_WC_ad cy ad σ) hI (fun k hk => Or.inl ⟨k, hk, rfl⟩)
  unfold fX2_renew_21 at hf
  refine lv_aload_n hx hb dX2_renew_0 rfl (lv_at hl 0 rfl) ?_
  refine lv_iload_n hx hb dX2_renew_1 rfl (lv_at hl 1 rfl) ?_
  refine va_put (D := G) (ci := 2) (v := .int x1) (ty := .int) (C := RX2) (T := TX2) (N := 3) hx hb hts inkX2 tyX2 tyX2_ok nmX2 hown hK hP (hD _) hS 21 rfl rfl 1 (by decide) (hts _ kw_238) (fun _ h9 => h9) rfl (by decide +kernel) rfl rfl (Nat.le_of_ble_eq_true rfl) dX2_renew_2 (fun H locs hP _ hS => ?_)
  obtain ⟨σ1, eσ1⟩ : ∃ z : Sg, z = (s_up σ 21 1 x1) := ⟨_, rfl⟩
  replace hf := s_lt_at eσ1 hf
  replace hP : va_P G vwCl ((s_WC cy ad) σ1) H := by rw [eσ1]; exact hP
  refine lv_aload_n hx hb dX2_renew_5 rfl (lv_at hl 0 rfl) ?_
  refine lv_iload_n hx hb dX2_renew_6 rfl (lv_at hl 2 rfl) ?_
  refine lv_if_ge (tgt := 14) hx hb dX2_renew_7 (by decide) (fun c2 => ?_) (fun c2 => ?_)
  · rw [if_pos c2] at hf
    refine lv_iload_n hx hb dX2_renew_14 rfl (lv_at hl 2 rfl) ?_
    refine lv_aload_n hx hb dX2_renew_15 rfl (lv_at hl 0 rfl) ?_
    refine va_get (D := G) (ci := 2) (v := .ref (ad 22)) (C := RX2) (T := TX2) (N := 3) hx hb hts inkX2 hown hK hP 21 rfl rfl 0 (by decide) (hts _ kw_237) (fun _ h9 => h9) rfl dX2_renew_16 ?_
    refine va_alen (v := (40 : Int32)) hx hb hK hP 22 1 rfl rfl (by show Int32.ofNat 40 = 40; decide) dX2_renew_19 ?_
    refine va_mmin hx hb (hml.trans hl.1.symm) hown (hts _ kw_730) (hts _ kw_701) (hts _ kw_69) (hts _ kw_702) (Nat.le_of_ble_eq_true rfl) (Nat.le_of_ble_eq_true rfl) (Nat.zero_le _) (Nat.zero_le _) dX2_renew_20 ?_
    refine lv_topi (fun t3 et3 => ?_)
    replace hf := s_lt_at et3 hf
    exact kX2_renew_21_b23 C σ1 t3 _ _ _ (lv_sub hl [0] rfl) hP hS hf
  · rw [if_neg c2] at hf
    refine lv_iconst (v := -1) hx hb dX2_renew_10 (by decide) ?_
    refine lv_goto (tgt := 23) hx hb dX2_renew_11 (by decide) ?_
    exact kX2_renew_21_b23 C σ1 (-1 : Int32) _ _ _ (lv_sub hl [0] rfl) hP hS hf
theorem kcX2_renew_21 {l : Launch} {G : va_G} {cy : Nat → ClassId} {sa : Nat × Nat} {ad : Nat → Nat}  {sz : Nat} (hI : s_inj ad 27) (σ : Sg) (x1 : Int32) (x2 : Int32) {σe : Sg} (hf : fX2_renew_21 σ x1 x2 = some σe) : Met l yX2_renew (kW yX2_renew cX2_renew 4 none) ({ frames := 1, cells := 0, slots := 0, locals := 21 } : Room) (s_P (s_WC cy ad) G cy sa ad 27 [.ref (ad 21), .int x1, .int x2] sz σ) (s_Qv (s_WC cy ad) G (s_A ad 27 sz) σe) 0 0 (s_A ad 27 sz) := by
  refine s_met (own := RX2) (by decide) rfl hI (Nat.le_of_ble_eq_true rfl) (fun p e s m below meth c ls hsz C hP hl => ?_)
  subst hsz
  exact kX2_renew_21 C σ x1 x2 ls _ _ hl hP va_S.rf hf
set_option maxRecDepth 100000 in
set_option maxHeartbeats 4000000 in
theorem kX2_renew_23_b28 (C : s_X p s m meth c args cX2_renew none 4 RX2 G cy sa ad 27) (k28 : Sg → Int32 → Option Sg) (hk28 : ∀ (σ : Sg) (x3 : Int32) (ls : Array Slot) (H : Heap) (locs : List Loc), lv_has ls 4 [(0, .ref (ad 23)), (3, .int x3)] → va_P G vwCl ((s_WC cy ad) σ) H → va_S (s_A ad 27 s.heap.size) s.heap H locs → k28 σ x3 = some σe → W p l e ({ frames := 1, cells := 0, slots := 0, locals := 21 } : Room) s m args below meth c H locs 0 0 (MQ below (s_Qv (s_WC cy ad) G (s_A ad 27 s.heap.size) σe) args s 0 0 (s_A ad 27 s.heap.size)) (F0 m 28 ls [])) (σ : Sg) (x3 : Int32) (ls : Array Slot) (H : Heap) (locs : List Loc) (hl : lv_has ls 4 [(0, .ref (ad 23)), (3, .int x3)]) (hP : va_P G vwCl ((s_WC cy ad) σ) H) (hS : va_S (s_A ad 27 s.heap.size) s.heap H locs) (hf : fX2_renew_23_b28 k28 σ x3 = some σe) : W p l e ({ frames := 1, cells := 0, slots := 0, locals := 21 } : Room) s m args below meth c H locs 0 0 (MQ below (s_Qv (s_WC cy ad) G (s_A ad 27 s.heap.size) σe) args s 0 0 (s_A ad 27 s.heap.size)) (F0 m 28 ls []) := by
  obtain ⟨hx, hb, hr, hml, hown, hts, hlk, hK, hE, hI⟩ := id C
  have hD : ∀ σ : Sg, va_D (s_A ad 27 s.heap.size) ((s_WC cy ad) σ) := fun σ => s_D (s_WC_ad cy ad σ) hI (fun k hk => Or.inl ⟨k, hk, rfl⟩)
  unfold fX2_renew_23_b28 at hf
  refine lv_iload_n hx hb dX2_renew_28 rfl (lv_at hl 1 rfl) ?_
  refine lv_aload_n hx hb dX2_renew_29 rfl (lv_at hl 0 rfl) ?_
  refine va_get (D := G) (ci := 2) (v := .ref (ad 24)) (C := RX2) (T := TX2) (N := 3) hx hb hts inkX2 hown hK hP 23 rfl rfl 0 (by decide) (hts _ kw_237) (fun _ h9 => h9) rfl dX2_renew_30 ?_
  refine va_alen (v := (40 : Int32)) hx hb hK hP 24 1 rfl rfl (by show Int32.ofNat 40 = 40; decide) dX2_renew_33 ?_
  refine lv_icmp_ge (tgt := 50) hx hb dX2_renew_34 (by decide) (fun c1 => ?_) (fun c1 => ?_)
  · rw [if_pos c1] at hf
    have he2 := Option.some.inj hf
    exact W.vret hx hb hr (fun t ht hW => ⟨⟨(), rfl, trivial, s_fin (Wd := (s_WC cy ad)) ht he2 hP⟩, hS.F ht⟩) hS.2.2 dX2_renew_50 hlk
  · rw [if_neg c1] at hf
    refine lv_aload_n hx hb dX2_renew_37 rfl (lv_at hl 0 rfl) ?_
    refine va_get (D := G) (ci := 2) (v := .ref (ad 24)) (C := RX2) (T := TX2) (N := 3) hx hb hts inkX2 hown hK hP 23 rfl rfl 0 (by decide) (hts _ kw_237) (fun _ h9 => h9) rfl dX2_renew_38 ?_
    refine lv_iload_n hx hb dX2_renew_41 rfl (lv_at hl 1 rfl) ?_
    refine lv_iconst (v := 0) hx hb dX2_renew_42 (by decide) ?_
    replace hf := s_gd_some hf
    obtain ⟨g2, hf⟩ := hf
    refine va_iast hx hb hK hP (hD _) hS 24 1 rfl rfl (s_in_of g2) dX2_renew_43 (fun H locs hP _ hS => ?_)
    obtain ⟨σ3, eσ3⟩ : ∃ z : Sg, z = (s_up σ 24 (Int32.toNatClampNeg x3) (0 : Int32)) := ⟨_, rfl⟩
    replace hf := s_lt_at eσ3 hf
    replace hP : va_P G vwCl ((s_WC cy ad) σ3) H := by rw [eσ3]; exact hP
    obtain ⟨t4, et4⟩ : ∃ z : Int32, z = (x3 + 1) := ⟨_, rfl⟩
    replace hf := s_lt_at et4 hf
    refine lv_iinc (v := t4) (lv' := [(3, .int t4), (0, .ref (ad 23))]) hx hb dX2_renew_44 hl (k := 1) rfl (by rw [et4]; rfl) (by decide) rfl (fun ls hl => ?_)
    refine lv_goto (tgt := 28) hx hb dX2_renew_47 (by decide) ?_
    exact hk28 σ3 t4 _ _ _ (lv_sub hl [1, 0] rfl) hP hS hf
set_option maxRecDepth 100000 in
set_option maxHeartbeats 4000000 in
theorem kX2_renew_23_b28_L (C : s_X p s m meth c args cX2_renew none 4 RX2 G cy sa ad 27) : ∀ (n : Nat), ∀ (σ : Sg) (x3 : Int32) (ls : Array Slot) (H : Heap) (locs : List Loc), lv_has ls 4 [(0, .ref (ad 23)), (3, .int x3)] → va_P G vwCl ((s_WC cy ad) σ) H → va_S (s_A ad 27 s.heap.size) s.heap H locs → fX2_renew_23_b28_L n σ x3 = some σe → W p l e ({ frames := 1, cells := 0, slots := 0, locals := 21 } : Room) s m args below meth c H locs 0 0 (MQ below (s_Qv (s_WC cy ad) G (s_A ad 27 s.heap.size) σe) args s 0 0 (s_A ad 27 s.heap.size)) (F0 m 28 ls []) := by
  intro n
  induction n with
  | zero => intro σ x3 ls H locs hl hP hS hf; exact absurd (show (none : Option Sg) = some σe from hf) (by intro h; cases h)
  | succ n ih => intro σ x3 ls H locs hl hP hS hf; exact kX2_renew_23_b28 C (fX2_renew_23_b28_L n) ih σ x3 ls H locs hl hP hS hf
set_option maxRecDepth 100000 in
set_option maxHeartbeats 4000000 in
theorem kX2_renew_23_b23 (C : s_X p s m meth c args cX2_renew none 4 RX2 G cy sa ad 27) (σ : Sg) (y1 : Int32) (ls : Array Slot) (H : Heap) (locs : List Loc) (hl : lv_has ls 4 [(0, .ref (ad 23))]) (hP : va_P G vwCl ((s_WC cy ad) σ) H) (hS : va_S (s_A ad 27 s.heap.size) s.heap H locs) (hf : fX2_renew_23_b23 σ y1 = some σe) : W p l e ({ frames := 1, cells := 0, slots := 0, locals := 21 } : Room) s m args below meth c H locs 0 0 (MQ below (s_Qv (s_WC cy ad) G (s_A ad 27 s.heap.size) σe) args s 0 0 (s_A ad 27 s.heap.size)) (F0 m 23 ls [.int y1, .ref (ad 23)]) := by
  obtain ⟨hx, hb, hr, hml, hown, hts, hlk, hK, hE, hI⟩ := id C
  have hD : ∀ σ : Sg, va_D (s_A ad 27 s.heap.size) ((s_WC cy ad) σ) := fun σ => s_D (s_WC_ad cy ad σ) hI (fun k hk => Or.inl ⟨k, hk, rfl⟩)
  unfold fX2_renew_23_b23 at hf
  refine va_put (D := G) (ci := 2) (v := .int y1) (ty := .int) (C := RX2) (T := TX2) (N := 3) hx hb hts inkX2 tyX2 tyX2_ok nmX2 hown hK hP (hD _) hS 23 rfl rfl 2 (by decide) (hts _ kw_240) (fun _ h9 => h9) rfl (by decide +kernel) rfl rfl (Nat.le_of_ble_eq_true rfl) dX2_renew_23 (fun H locs hP _ hS => ?_)
  obtain ⟨σ1, eσ1⟩ : ∃ z : Sg, z = (s_up σ 23 2 y1) := ⟨_, rfl⟩
  replace hf := s_lt_at eσ1 hf
  replace hP : va_P G vwCl ((s_WC cy ad) σ1) H := by rw [eσ1]; exact hP
  refine lv_iconst (v := 0) hx hb dX2_renew_26 (by decide) ?_
  refine lv_istore_n (lv' := [(3, .int (0 : Int32)), (0, .ref (ad 23))]) hx hb dX2_renew_27 rfl hl (by decide) rfl (fun ls hl => ?_)
  exact kX2_renew_23_b28_L C s_fu σ1 (0 : Int32) _ _ _ (lv_sub hl [1, 0] rfl) hP hS hf
set_option maxRecDepth 100000 in
set_option maxHeartbeats 4000000 in
theorem kX2_renew_23 (C : s_X p s m meth c args cX2_renew none 4 RX2 G cy sa ad 27) (σ : Sg) (x1 : Int32) (x2 : Int32) (ls : Array Slot) (H : Heap) (locs : List Loc) (hl : lv_has ls 4 [(0, .ref (ad 23)), (1, .int x1), (2, .int x2)]) (hP : va_P G vwCl ((s_WC cy ad) σ) H) (hS : va_S (s_A ad 27 s.heap.size) s.heap H locs) (hf : fX2_renew_23 σ x1 x2 = some σe) : W p l e ({ frames := 1, cells := 0, slots := 0, locals := 21 } : Room) s m args below meth c H locs 0 0 (MQ below (s_Qv (s_WC cy ad) G (s_A ad 27 s.heap.size) σe) args s 0 0 (s_A ad 27 s.heap.size)) (F0 m 0 ls []) := by
  obtain ⟨hx, hb, hr, hml, hown, hts, hlk, hK, hE, hI⟩ := id C
  have hD : ∀ σ : Sg, va_D (s_A ad 27 s.heap.size) ((s_WC cy ad) σ) := fun σ => s_D (s_WC_ad cy ad σ) hI (fun k hk => Or.inl ⟨k, hk, rfl⟩)
  unfold fX2_renew_23 at hf
  refine lv_aload_n hx hb dX2_renew_0 rfl (lv_at hl 0 rfl) ?_
  refine lv_iload_n hx hb dX2_renew_1 rfl (lv_at hl 1 rfl) ?_
  refine va_put (D := G) (ci := 2) (v := .int x1) (ty := .int) (C := RX2) (T := TX2) (N := 3) hx hb hts inkX2 tyX2 tyX2_ok nmX2 hown hK hP (hD _) hS 23 rfl rfl 1 (by decide) (hts _ kw_238) (fun _ h9 => h9) rfl (by decide +kernel) rfl rfl (Nat.le_of_ble_eq_true rfl) dX2_renew_2 (fun H locs hP _ hS => ?_)
  obtain ⟨σ1, eσ1⟩ : ∃ z : Sg, z = (s_up σ 23 1 x1) := ⟨_, rfl⟩
  replace hf := s_lt_at eσ1 hf
  replace hP : va_P G vwCl ((s_WC cy ad) σ1) H := by rw [eσ1]; exact hP
  refine lv_aload_n hx hb dX2_renew_5 rfl (lv_at hl 0 rfl) ?_
  refine lv_iload_n hx hb dX2_renew_6 rfl (lv_at hl 2 rfl) ?_
  refine lv_if_ge (tgt := 14) hx hb dX2_renew_7 (by decide) (fun c2 => ?_) (fun c2 => ?_)
  · rw [if_pos c2] at hf
    refine lv_iload_n hx hb dX2_renew_14 rfl (lv_at hl 2 rfl) ?_
    refine lv_aload_n hx hb dX2_renew_15 rfl (lv_at hl 0 rfl) ?_
    refine va_get (D := G) (ci := 2) (v := .ref (ad 24)) (C := RX2) (T := TX2) (N := 3) hx hb hts inkX2 hown hK hP 23 rfl rfl 0 (by decide) (hts _ kw_237) (fun _ h9 => h9) rfl dX2_renew_16 ?_
    refine va_alen (v := (40 : Int32)) hx hb hK hP 24 1 rfl rfl (by show Int32.ofNat 40 = 40; decide) dX2_renew_19 ?_
    refine va_mmin hx hb (hml.trans hl.1.symm) hown (hts _ kw_730) (hts _ kw_701) (hts _ kw_69) (hts _ kw_702) (Nat.le_of_ble_eq_true rfl) (Nat.le_of_ble_eq_true rfl) (Nat.zero_le _) (Nat.zero_le _) dX2_renew_20 ?_
    refine lv_topi (fun t3 et3 => ?_)
    replace hf := s_lt_at et3 hf
    exact kX2_renew_23_b23 C σ1 t3 _ _ _ (lv_sub hl [0] rfl) hP hS hf
  · rw [if_neg c2] at hf
    refine lv_iconst (v := -1) hx hb dX2_renew_10 (by decide) ?_
    refine lv_goto (tgt := 23) hx hb dX2_renew_11 (by decide) ?_
    exact kX2_renew_23_b23 C σ1 (-1 : Int32) _ _ _ (lv_sub hl [0] rfl) hP hS hf
theorem kcX2_renew_23 {l : Launch} {G : va_G} {cy : Nat → ClassId} {sa : Nat × Nat} {ad : Nat → Nat}  {sz : Nat} (hI : s_inj ad 27) (σ : Sg) (x1 : Int32) (x2 : Int32) {σe : Sg} (hf : fX2_renew_23 σ x1 x2 = some σe) : Met l yX2_renew (kW yX2_renew cX2_renew 4 none) ({ frames := 1, cells := 0, slots := 0, locals := 21 } : Room) (s_P (s_WC cy ad) G cy sa ad 27 [.ref (ad 23), .int x1, .int x2] sz σ) (s_Qv (s_WC cy ad) G (s_A ad 27 sz) σe) 0 0 (s_A ad 27 sz) := by
  refine s_met (own := RX2) (by decide) rfl hI (Nat.le_of_ble_eq_true rfl) (fun p e s m below meth c ls hsz C hP hl => ?_)
  subst hsz
  exact kX2_renew_23 C σ x1 x2 ls _ _ hl hP va_S.rf hf
set_option maxRecDepth 100000 in
set_option maxHeartbeats 4000000 in
theorem kX2_renew_25_b28 (C : s_X p s m meth c args cX2_renew none 4 RX2 G cy sa ad 27) (k28 : Sg → Int32 → Option Sg) (hk28 : ∀ (σ : Sg) (x3 : Int32) (ls : Array Slot) (H : Heap) (locs : List Loc), lv_has ls 4 [(0, .ref (ad 25)), (3, .int x3)] → va_P G vwCl ((s_WC cy ad) σ) H → va_S (s_A ad 27 s.heap.size) s.heap H locs → k28 σ x3 = some σe → W p l e ({ frames := 1, cells := 0, slots := 0, locals := 21 } : Room) s m args below meth c H locs 0 0 (MQ below (s_Qv (s_WC cy ad) G (s_A ad 27 s.heap.size) σe) args s 0 0 (s_A ad 27 s.heap.size)) (F0 m 28 ls [])) (σ : Sg) (x3 : Int32) (ls : Array Slot) (H : Heap) (locs : List Loc) (hl : lv_has ls 4 [(0, .ref (ad 25)), (3, .int x3)]) (hP : va_P G vwCl ((s_WC cy ad) σ) H) (hS : va_S (s_A ad 27 s.heap.size) s.heap H locs) (hf : fX2_renew_25_b28 k28 σ x3 = some σe) : W p l e ({ frames := 1, cells := 0, slots := 0, locals := 21 } : Room) s m args below meth c H locs 0 0 (MQ below (s_Qv (s_WC cy ad) G (s_A ad 27 s.heap.size) σe) args s 0 0 (s_A ad 27 s.heap.size)) (F0 m 28 ls []) := by
  obtain ⟨hx, hb, hr, hml, hown, hts, hlk, hK, hE, hI⟩ := id C
  have hD : ∀ σ : Sg, va_D (s_A ad 27 s.heap.size) ((s_WC cy ad) σ) := fun σ => s_D (s_WC_ad cy ad σ) hI (fun k hk => Or.inl ⟨k, hk, rfl⟩)
  unfold fX2_renew_25_b28 at hf
  refine lv_iload_n hx hb dX2_renew_28 rfl (lv_at hl 1 rfl) ?_
  refine lv_aload_n hx hb dX2_renew_29 rfl (lv_at hl 0 rfl) ?_
  refine va_get (D := G) (ci := 2) (v := .ref (ad 26)) (C := RX2) (T := TX2) (N := 3) hx hb hts inkX2 hown hK hP 25 rfl rfl 0 (by decide) (hts _ kw_237) (fun _ h9 => h9) rfl dX2_renew_30 ?_
  refine va_alen (v := (40 : Int32)) hx hb hK hP 26 1 rfl rfl (by show Int32.ofNat 40 = 40; decide) dX2_renew_33 ?_
  refine lv_icmp_ge (tgt := 50) hx hb dX2_renew_34 (by decide) (fun c1 => ?_) (fun c1 => ?_)
  · rw [if_pos c1] at hf
    have he2 := Option.some.inj hf
    exact W.vret hx hb hr (fun t ht hW => ⟨⟨(), rfl, trivial, s_fin (Wd := (s_WC cy ad)) ht he2 hP⟩, hS.F ht⟩) hS.2.2 dX2_renew_50 hlk
  · rw [if_neg c1] at hf
    refine lv_aload_n hx hb dX2_renew_37 rfl (lv_at hl 0 rfl) ?_
    refine va_get (D := G) (ci := 2) (v := .ref (ad 26)) (C := RX2) (T := TX2) (N := 3) hx hb hts inkX2 hown hK hP 25 rfl rfl 0 (by decide) (hts _ kw_237) (fun _ h9 => h9) rfl dX2_renew_38 ?_
    refine lv_iload_n hx hb dX2_renew_41 rfl (lv_at hl 1 rfl) ?_
    refine lv_iconst (v := 0) hx hb dX2_renew_42 (by decide) ?_
    replace hf := s_gd_some hf
    obtain ⟨g2, hf⟩ := hf
    refine va_iast hx hb hK hP (hD _) hS 26 1 rfl rfl (s_in_of g2) dX2_renew_43 (fun H locs hP _ hS => ?_)
    obtain ⟨σ3, eσ3⟩ : ∃ z : Sg, z = (s_up σ 26 (Int32.toNatClampNeg x3) (0 : Int32)) := ⟨_, rfl⟩
    replace hf := s_lt_at eσ3 hf
    replace hP : va_P G vwCl ((s_WC cy ad) σ3) H := by rw [eσ3]; exact hP
    obtain ⟨t4, et4⟩ : ∃ z : Int32, z = (x3 + 1) := ⟨_, rfl⟩
    replace hf := s_lt_at et4 hf
    refine lv_iinc (v := t4) (lv' := [(3, .int t4), (0, .ref (ad 25))]) hx hb dX2_renew_44 hl (k := 1) rfl (by rw [et4]; rfl) (by decide) rfl (fun ls hl => ?_)
    refine lv_goto (tgt := 28) hx hb dX2_renew_47 (by decide) ?_
    exact hk28 σ3 t4 _ _ _ (lv_sub hl [1, 0] rfl) hP hS hf
set_option maxRecDepth 100000 in
set_option maxHeartbeats 4000000 in
theorem kX2_renew_25_b28_L (C : s_X p s m meth c args cX2_renew none 4 RX2 G cy sa ad 27) : ∀ (n : Nat), ∀ (σ : Sg) (x3 : Int32) (ls : Array Slot) (H : Heap) (locs : List Loc), lv_has ls 4 [(0, .ref (ad 25)), (3, .int x3)] → va_P G vwCl ((s_WC cy ad) σ) H → va_S (s_A ad 27 s.heap.size) s.heap H locs → fX2_renew_25_b28_L n σ x3 = some σe → W p l e ({ frames := 1, cells := 0, slots := 0, locals := 21 } : Room) s m args below meth c H locs 0 0 (MQ below (s_Qv (s_WC cy ad) G (s_A ad 27 s.heap.size) σe) args s 0 0 (s_A ad 27 s.heap.size)) (F0 m 28 ls []) := by
  intro n
  induction n with
  | zero => intro σ x3 ls H locs hl hP hS hf; exact absurd (show (none : Option Sg) = some σe from hf) (by intro h; cases h)
  | succ n ih => intro σ x3 ls H locs hl hP hS hf; exact kX2_renew_25_b28 C (fX2_renew_25_b28_L n) ih σ x3 ls H locs hl hP hS hf
set_option maxRecDepth 100000 in
set_option maxHeartbeats 4000000 in
theorem kX2_renew_25_b23 (C : s_X p s m meth c args cX2_renew none 4 RX2 G cy sa ad 27) (σ : Sg) (y1 : Int32) (ls : Array Slot) (H : Heap) (locs : List Loc) (hl : lv_has ls 4 [(0, .ref (ad 25))]) (hP : va_P G vwCl ((s_WC cy ad) σ) H) (hS : va_S (s_A ad 27 s.heap.size) s.heap H locs) (hf : fX2_renew_25_b23 σ y1 = some σe) : W p l e ({ frames := 1, cells := 0, slots := 0, locals := 21 } : Room) s m args below meth c H locs 0 0 (MQ below (s_Qv (s_WC cy ad) G (s_A ad 27 s.heap.size) σe) args s 0 0 (s_A ad 27 s.heap.size)) (F0 m 23 ls [.int y1, .ref (ad 25)]) := by
  obtain ⟨hx, hb, hr, hml, hown, hts, hlk, hK, hE, hI⟩ := id C
  have hD : ∀ σ : Sg, va_D (s_A ad 27 s.heap.size) ((s_WC cy ad) σ) := fun σ => s_D (s_WC_ad cy ad σ) hI (fun k hk => Or.inl ⟨k, hk, rfl⟩)
  unfold fX2_renew_25_b23 at hf
  refine va_put (D := G) (ci := 2) (v := .int y1) (ty := .int) (C := RX2) (T := TX2) (N := 3) hx hb hts inkX2 tyX2 tyX2_ok nmX2 hown hK hP (hD _) hS 25 rfl rfl 2 (by decide) (hts _ kw_240) (fun _ h9 => h9) rfl (by decide +kernel) rfl rfl (Nat.le_of_ble_eq_true rfl) dX2_renew_23 (fun H locs hP _ hS => ?_)
  obtain ⟨σ1, eσ1⟩ : ∃ z : Sg, z = (s_up σ 25 2 y1) := ⟨_, rfl⟩
  replace hf := s_lt_at eσ1 hf
  replace hP : va_P G vwCl ((s_WC cy ad) σ1) H := by rw [eσ1]; exact hP
  refine lv_iconst (v := 0) hx hb dX2_renew_26 (by decide) ?_
  refine lv_istore_n (lv' := [(3, .int (0 : Int32)), (0, .ref (ad 25))]) hx hb dX2_renew_27 rfl hl (by decide) rfl (fun ls hl => ?_)
  exact kX2_renew_25_b28_L C s_fu σ1 (0 : Int32) _ _ _ (lv_sub hl [1, 0] rfl) hP hS hf
set_option maxRecDepth 100000 in
set_option maxHeartbeats 4000000 in
theorem kX2_renew_25 (C : s_X p s m meth c args cX2_renew none 4 RX2 G cy sa ad 27) (σ : Sg) (x1 : Int32) (x2 : Int32) (ls : Array Slot) (H : Heap) (locs : List Loc) (hl : lv_has ls 4 [(0, .ref (ad 25)), (1, .int x1), (2, .int x2)]) (hP : va_P G vwCl ((s_WC cy ad) σ) H) (hS : va_S (s_A ad 27 s.heap.size) s.heap H locs) (hf : fX2_renew_25 σ x1 x2 = some σe) : W p l e ({ frames := 1, cells := 0, slots := 0, locals := 21 } : Room) s m args below meth c H locs 0 0 (MQ below (s_Qv (s_WC cy ad) G (s_A ad 27 s.heap.size) σe) args s 0 0 (s_A ad 27 s.heap.size)) (F0 m 0 ls []) := by
  obtain ⟨hx, hb, hr, hml, hown, hts, hlk, hK, hE, hI⟩ := id C
  have hD : ∀ σ : Sg, va_D (s_A ad 27 s.heap.size) ((s_WC cy ad) σ) := fun σ => s_D (s_WC_ad cy ad σ) hI (fun k hk => Or.inl ⟨k, hk, rfl⟩)
  unfold fX2_renew_25 at hf
  refine lv_aload_n hx hb dX2_renew_0 rfl (lv_at hl 0 rfl) ?_
  refine lv_iload_n hx hb dX2_renew_1 rfl (lv_at hl 1 rfl) ?_
  refine va_put (D := G) (ci := 2) (v := .int x1) (ty := .int) (C := RX2) (T := TX2) (N := 3) hx hb hts inkX2 tyX2 tyX2_ok nmX2 hown hK hP (hD _) hS 25 rfl rfl 1 (by decide) (hts _ kw_238) (fun _ h9 => h9) rfl (by decide +kernel) rfl rfl (Nat.le_of_ble_eq_true rfl) dX2_renew_2 (fun H locs hP _ hS => ?_)
  obtain ⟨σ1, eσ1⟩ : ∃ z : Sg, z = (s_up σ 25 1 x1) := ⟨_, rfl⟩
  replace hf := s_lt_at eσ1 hf
  replace hP : va_P G vwCl ((s_WC cy ad) σ1) H := by rw [eσ1]; exact hP
  refine lv_aload_n hx hb dX2_renew_5 rfl (lv_at hl 0 rfl) ?_
  refine lv_iload_n hx hb dX2_renew_6 rfl (lv_at hl 2 rfl) ?_
  refine lv_if_ge (tgt := 14) hx hb dX2_renew_7 (by decide) (fun c2 => ?_) (fun c2 => ?_)
  · rw [if_pos c2] at hf
    refine lv_iload_n hx hb dX2_renew_14 rfl (lv_at hl 2 rfl) ?_
    refine lv_aload_n hx hb dX2_renew_15 rfl (lv_at hl 0 rfl) ?_
    refine va_get (D := G) (ci := 2) (v := .ref (ad 26)) (C := RX2) (T := TX2) (N := 3) hx hb hts inkX2 hown hK hP 25 rfl rfl 0 (by decide) (hts _ kw_237) (fun _ h9 => h9) rfl dX2_renew_16 ?_
    refine va_alen (v := (40 : Int32)) hx hb hK hP 26 1 rfl rfl (by show Int32.ofNat 40 = 40; decide) dX2_renew_19 ?_
    refine va_mmin hx hb (hml.trans hl.1.symm) hown (hts _ kw_730) (hts _ kw_701) (hts _ kw_69) (hts _ kw_702) (Nat.le_of_ble_eq_true rfl) (Nat.le_of_ble_eq_true rfl) (Nat.zero_le _) (Nat.zero_le _) dX2_renew_20 ?_
    refine lv_topi (fun t3 et3 => ?_)
    replace hf := s_lt_at et3 hf
    exact kX2_renew_25_b23 C σ1 t3 _ _ _ (lv_sub hl [0] rfl) hP hS hf
  · rw [if_neg c2] at hf
    refine lv_iconst (v := -1) hx hb dX2_renew_10 (by decide) ?_
    refine lv_goto (tgt := 23) hx hb dX2_renew_11 (by decide) ?_
    exact kX2_renew_25_b23 C σ1 (-1 : Int32) _ _ _ (lv_sub hl [0] rfl) hP hS hf
theorem kcX2_renew_25 {l : Launch} {G : va_G} {cy : Nat → ClassId} {sa : Nat × Nat} {ad : Nat → Nat}  {sz : Nat} (hI : s_inj ad 27) (σ : Sg) (x1 : Int32) (x2 : Int32) {σe : Sg} (hf : fX2_renew_25 σ x1 x2 = some σe) : Met l yX2_renew (kW yX2_renew cX2_renew 4 none) ({ frames := 1, cells := 0, slots := 0, locals := 21 } : Room) (s_P (s_WC cy ad) G cy sa ad 27 [.ref (ad 25), .int x1, .int x2] sz σ) (s_Qv (s_WC cy ad) G (s_A ad 27 sz) σe) 0 0 (s_A ad 27 sz) := by
  refine s_met (own := RX2) (by decide) rfl hI (Nat.le_of_ble_eq_true rfl) (fun p e s m below meth c ls hsz C hP hl => ?_)
  subst hsz
  exact kX2_renew_25 C σ x1 x2 ls _ _ hl hP va_S.rf hf
set_option maxRecDepth 100000 in
set_option maxHeartbeats 4000000 in
theorem kX6_sheet_b21 (C : s_X p s m meth c args cX6_sheet (some .int) 4 RX6 G cy sa ad 27) (σ : Sg) (ls : Array Slot) (H : Heap) (locs : List Loc) (hl : lv_has ls 4 []) (hP : va_P G vwCl ((s_WC cy ad) σ) H) (hS : va_S (s_A ad 27 s.heap.size) s.heap H locs) (hf : fX6_sheet_b21 σ = some (re, σe)) : W p l e ({ frames := 2, cells := 0, slots := 0, locals := 44 } : Room) s m args below meth c H locs 0 0 (MQ below (s_Qi (s_WC cy ad) G (s_A ad 27 s.heap.size) re σe) args s 0 0 (s_A ad 27 s.heap.size)) (F0 m 21 ls []) := by
  obtain ⟨hx, hb, hr, hml, hown, hts, hlk, hK, hE, hI⟩ := id C
  have hD : ∀ σ : Sg, va_D (s_A ad 27 s.heap.size) ((s_WC cy ad) σ) := fun σ => s_D (s_WC_ad cy ad σ) hI (fun k hk => Or.inl ⟨k, hk, rfl⟩)
  unfold fX6_sheet_b21 at hf
  refine lv_iconst (v := -1) hx hb dX6_sheet_21 (by decide) ?_
  obtain ⟨he1, he2⟩ := s_ret hf
  exact W.iret hx hb hr (fun t ht hW => ⟨⟨_, (), rfl, he1, s_fin (Wd := (s_WC cy ad)) ht he2 hP⟩, hS.F ht⟩) hS.2.2 dX6_sheet_22 hlk
set_option maxRecDepth 100000 in
set_option maxHeartbeats 4000000 in
theorem kX6_sheet (C : s_X p s m meth c args cX6_sheet (some .int) 4 RX6 G cy sa ad 27) (σ : Sg) (x1 : Int32) (x2 : Int32) (x3 : Int32) (ls : Array Slot) (H : Heap) (locs : List Loc) (hl : lv_has ls 4 [(0, .ref (ad 0)), (1, .int x1), (2, .int x2), (3, .int x3)]) (hP : va_P G vwCl ((s_WC cy ad) σ) H) (hS : va_S (s_A ad 27 s.heap.size) s.heap H locs) (hf : fX6_sheet σ x1 x2 x3 = some (re, σe)) : W p l e ({ frames := 2, cells := 0, slots := 0, locals := 44 } : Room) s m args below meth c H locs 0 0 (MQ below (s_Qi (s_WC cy ad) G (s_A ad 27 s.heap.size) re σe) args s 0 0 (s_A ad 27 s.heap.size)) (F0 m 0 ls []) := by
  obtain ⟨hx, hb, hr, hml, hown, hts, hlk, hK, hE, hI⟩ := id C
  have hD : ∀ σ : Sg, va_D (s_A ad 27 s.heap.size) ((s_WC cy ad) σ) := fun σ => s_D (s_WC_ad cy ad σ) hI (fun k hk => Or.inl ⟨k, hk, rfl⟩)
  unfold fX6_sheet at hf
  refine lv_aload_n hx hb dX6_sheet_0 rfl (lv_at hl 0 rfl) ?_
  refine lv_iload_n hx hb dX6_sheet_1 rfl (lv_at hl 1 rfl) ?_
  replace hf := s_bi_some hf
  obtain ⟨r3, σ1, hz2, hf⟩ := hf
  refine s_calli (nn := 1) C (kcX6_isSheet (l := l) (G := G) (cy := cy) (sa := sa) hI (sz := H.size) σ x1 hz2) gk_X6_223 rfl rfl (by decide +kernel) ⟨Nat.le_of_ble_eq_true rfl, Nat.le_of_ble_eq_true rfl⟩ hP hS (q0 := 0) (ci := 6) rfl rfl rfl (As := [.int x1]) (rest := []) rfl rfl hl.1 (Nat.le_of_ble_eq_true rfl) dX6_sheet_2 (fun H locs hP hS => ?_)
  refine lv_if_eq (tgt := 21) hx hb dX6_sheet_5 (by decide) (fun c4 => ?_) (fun c4 => ?_)
  · rw [if_pos c4] at hf
    exact kX6_sheet_b21 C σ1 _ _ _ (lv_sub hl [] rfl) hP hS hf
  · rw [if_neg c4] at hf
    refine lv_iload_n hx hb dX6_sheet_8 rfl (lv_at hl 2 rfl) ?_
    replace hf := s_bi_some hf
    obtain ⟨r7, σ5, hz6, hf⟩ := hf
    refine s_calliS (nn := 1) C (kcX6_isLane (l := l) (G := G) (cy := cy) (sa := sa) hI (sz := H.size) σ1 x2 hz6) gk_X6_226 rfl rfl (by decide +kernel) ⟨Nat.le_of_ble_eq_true rfl, Nat.le_of_ble_eq_true rfl⟩ hP hS (As := [.int x2]) (rest := []) rfl rfl hl.1 (Nat.le_of_ble_eq_true rfl) dX6_sheet_9 (fun H locs hP hS => ?_)
    refine lv_if_eq (tgt := 21) hx hb dX6_sheet_12 (by decide) (fun c8 => ?_) (fun c8 => ?_)
    · rw [if_pos c8] at hf
      exact kX6_sheet_b21 C σ5 _ _ _ (lv_sub hl [] rfl) hP hS hf
    · rw [if_neg c8] at hf
      refine lv_iload_n hx hb dX6_sheet_15 rfl (lv_at hl 3 rfl) ?_
      refine lv_bipush (v := 40) hx hb dX6_sheet_16 (by decide) ?_
      refine lv_icmp_le (tgt := 23) hx hb dX6_sheet_18 (by decide) (fun c9 => ?_) (fun c9 => ?_)
      · rw [if_pos c9] at hf
        refine lv_iload_n hx hb dX6_sheet_23 rfl (lv_at hl 3 rfl) ?_
        refine lv_if_ge (tgt := 30) hx hb dX6_sheet_24 (by decide) (fun c10 => ?_) (fun c10 => ?_)
        · rw [if_pos c10] at hf
          refine lv_aload_n hx hb dX6_sheet_30 rfl (lv_at hl 0 rfl) ?_
          refine va_get (D := G) (ci := 6) (v := .ref (ad 18)) (C := RX6) (T := TX6) (N := 9) hx hb hts inkX6 hown hK hP 0 rfl rfl 7 (by decide) (hts _ kw_257) (fun _ h9 => h9) rfl dX6_sheet_31 ?_
          refine lv_iload_n hx hb dX6_sheet_34 rfl (lv_at hl 1 rfl) ?_
          by_cases c11 : x1 = 0
          · rw [if_pos c11] at hf
            refine va_aldq hx hb hK hP 18 4 rfl rfl (by rw [c11]; unfold vp_in; decide) dX6_sheet_35 ?_
            refine W.eq (g2 := F0 m 36 ls [.ref (ad 19)]) (by rw [c11]; rfl) ?_
            refine lv_iload_n hx hb dX6_sheet_36 rfl (lv_at hl 2 rfl) ?_
            refine lv_iload_n hx hb dX6_sheet_37 rfl (lv_at hl 3 rfl) ?_
            replace hf := s_bv_some hf
            obtain ⟨σ12, hz13, hf⟩ := hf
            refine s_callv (nn := 2) C (kcX2_renew_19 (l := l) (G := G) (cy := cy) (sa := sa) hI (sz := H.size) σ5 x2 x3 hz13) gk_X6_229 rfl rfl (by decide +kernel) ⟨Nat.le_of_ble_eq_true rfl, Nat.le_of_ble_eq_true rfl⟩ hP hS (q0 := 19) (ci := 2) rfl rfl rfl (As := [.int x2, .int x3]) (rest := []) rfl rfl hl.1 (Nat.le_of_ble_eq_true rfl) dX6_sheet_38 (fun H locs hP hS => ?_)
            refine lv_iconst (v := 1) hx hb dX6_sheet_41 (by decide) ?_
            obtain ⟨he1, he2⟩ := s_ret hf
            exact W.iret hx hb hr (fun t ht hW => ⟨⟨_, (), rfl, he1, s_fin (Wd := (s_WC cy ad)) ht he2 hP⟩, hS.F ht⟩) hS.2.2 dX6_sheet_42 hlk
          · rw [if_neg c11] at hf
            by_cases c14 : x1 = 1
            · rw [if_pos c14] at hf
              refine va_aldq hx hb hK hP 18 4 rfl rfl (by rw [c14]; unfold vp_in; decide) dX6_sheet_35 ?_
              refine W.eq (g2 := F0 m 36 ls [.ref (ad 21)]) (by rw [c14]; rfl) ?_
              refine lv_iload_n hx hb dX6_sheet_36 rfl (lv_at hl 2 rfl) ?_
              refine lv_iload_n hx hb dX6_sheet_37 rfl (lv_at hl 3 rfl) ?_
              replace hf := s_bv_some hf
              obtain ⟨σ15, hz16, hf⟩ := hf
              refine s_callv (nn := 2) C (kcX2_renew_21 (l := l) (G := G) (cy := cy) (sa := sa) hI (sz := H.size) σ5 x2 x3 hz16) gk_X6_229 rfl rfl (by decide +kernel) ⟨Nat.le_of_ble_eq_true rfl, Nat.le_of_ble_eq_true rfl⟩ hP hS (q0 := 21) (ci := 2) rfl rfl rfl (As := [.int x2, .int x3]) (rest := []) rfl rfl hl.1 (Nat.le_of_ble_eq_true rfl) dX6_sheet_38 (fun H locs hP hS => ?_)
              refine lv_iconst (v := 1) hx hb dX6_sheet_41 (by decide) ?_
              obtain ⟨he1, he2⟩ := s_ret hf
              exact W.iret hx hb hr (fun t ht hW => ⟨⟨_, (), rfl, he1, s_fin (Wd := (s_WC cy ad)) ht he2 hP⟩, hS.F ht⟩) hS.2.2 dX6_sheet_42 hlk
            · rw [if_neg c14] at hf
              by_cases c17 : x1 = 2
              · rw [if_pos c17] at hf
                refine va_aldq hx hb hK hP 18 4 rfl rfl (by rw [c17]; unfold vp_in; decide) dX6_sheet_35 ?_
                refine W.eq (g2 := F0 m 36 ls [.ref (ad 23)]) (by rw [c17]; rfl) ?_
                refine lv_iload_n hx hb dX6_sheet_36 rfl (lv_at hl 2 rfl) ?_
                refine lv_iload_n hx hb dX6_sheet_37 rfl (lv_at hl 3 rfl) ?_
                replace hf := s_bv_some hf
                obtain ⟨σ18, hz19, hf⟩ := hf
                refine s_callv (nn := 2) C (kcX2_renew_23 (l := l) (G := G) (cy := cy) (sa := sa) hI (sz := H.size) σ5 x2 x3 hz19) gk_X6_229 rfl rfl (by decide +kernel) ⟨Nat.le_of_ble_eq_true rfl, Nat.le_of_ble_eq_true rfl⟩ hP hS (q0 := 23) (ci := 2) rfl rfl rfl (As := [.int x2, .int x3]) (rest := []) rfl rfl hl.1 (Nat.le_of_ble_eq_true rfl) dX6_sheet_38 (fun H locs hP hS => ?_)
                refine lv_iconst (v := 1) hx hb dX6_sheet_41 (by decide) ?_
                obtain ⟨he1, he2⟩ := s_ret hf
                exact W.iret hx hb hr (fun t ht hW => ⟨⟨_, (), rfl, he1, s_fin (Wd := (s_WC cy ad)) ht he2 hP⟩, hS.F ht⟩) hS.2.2 dX6_sheet_42 hlk
              · rw [if_neg c17] at hf
                by_cases c20 : x1 = 3
                · rw [if_pos c20] at hf
                  refine va_aldq hx hb hK hP 18 4 rfl rfl (by rw [c20]; unfold vp_in; decide) dX6_sheet_35 ?_
                  refine W.eq (g2 := F0 m 36 ls [.ref (ad 25)]) (by rw [c20]; rfl) ?_
                  refine lv_iload_n hx hb dX6_sheet_36 rfl (lv_at hl 2 rfl) ?_
                  refine lv_iload_n hx hb dX6_sheet_37 rfl (lv_at hl 3 rfl) ?_
                  replace hf := s_bv_some hf
                  obtain ⟨σ21, hz22, hf⟩ := hf
                  refine s_callv (nn := 2) C (kcX2_renew_25 (l := l) (G := G) (cy := cy) (sa := sa) hI (sz := H.size) σ5 x2 x3 hz22) gk_X6_229 rfl rfl (by decide +kernel) ⟨Nat.le_of_ble_eq_true rfl, Nat.le_of_ble_eq_true rfl⟩ hP hS (q0 := 25) (ci := 2) rfl rfl rfl (As := [.int x2, .int x3]) (rest := []) rfl rfl hl.1 (Nat.le_of_ble_eq_true rfl) dX6_sheet_38 (fun H locs hP hS => ?_)
                  refine lv_iconst (v := 1) hx hb dX6_sheet_41 (by decide) ?_
                  obtain ⟨he1, he2⟩ := s_ret hf
                  exact W.iret hx hb hr (fun t ht hW => ⟨⟨_, (), rfl, he1, s_fin (Wd := (s_WC cy ad)) ht he2 hP⟩, hS.F ht⟩) hS.2.2 dX6_sheet_42 hlk
                · rw [if_neg c20] at hf
                  cases hf
        · rw [if_neg c10] at hf
          refine lv_bipush (v := -14) hx hb dX6_sheet_27 (by decide) ?_
          obtain ⟨he1, he2⟩ := s_ret hf
          exact W.iret hx hb hr (fun t ht hW => ⟨⟨_, (), rfl, he1, s_fin (Wd := (s_WC cy ad)) ht he2 hP⟩, hS.F ht⟩) hS.2.2 dX6_sheet_29 hlk
      · rw [if_neg c9] at hf
        exact kX6_sheet_b21 C σ5 _ _ _ (lv_sub hl [] rfl) hP hS hf
theorem kcX6_sheet {l : Launch} {G : va_G} {cy : Nat → ClassId} {sa : Nat × Nat} {ad : Nat → Nat}  {sz : Nat} (hI : s_inj ad 27) (σ : Sg) (x1 : Int32) (x2 : Int32) (x3 : Int32) {re : Int32} {σe : Sg} (hf : fX6_sheet σ x1 x2 x3 = some (re, σe)) : Met l yX6_sheet (kW yX6_sheet cX6_sheet 4 (some .int)) ({ frames := 2, cells := 0, slots := 0, locals := 44 } : Room) (s_P (s_WC cy ad) G cy sa ad 27 [.ref (ad 0), .int x1, .int x2, .int x3] sz σ) (s_Qi (s_WC cy ad) G (s_A ad 27 sz) re σe) 0 0 (s_A ad 27 sz) := by
  refine s_met (own := RX6) (by decide) rfl hI (Nat.le_of_ble_eq_true rfl) (fun p e s m below meth c ls hsz C hP hl => ?_)
  subst hsz
  exact kX6_sheet C σ x1 x2 x3 ls _ _ hl hP va_S.rf hf
set_option maxRecDepth 100000 in
set_option maxHeartbeats 4000000 in
theorem kX2_isNothing_19 (C : s_X p s m meth c args cX2_isNothing (some .boolean) 1 RX2 G cy sa ad 27) (σ : Sg) (ls : Array Slot) (H : Heap) (locs : List Loc) (hl : lv_has ls 1 [(0, .ref (ad 19))]) (hP : va_P G vwCl ((s_WC cy ad) σ) H) (hS : va_S (s_A ad 27 s.heap.size) s.heap H locs) (hf : fX2_isNothing_19 σ = some (re, σe)) : W p l e ({ frames := 0, cells := 0, slots := 0, locals := 0 } : Room) s m args below meth c H locs 0 0 (MQ below (s_Qi (s_WC cy ad) G (s_A ad 27 s.heap.size) re σe) args s 0 0 (s_A ad 27 s.heap.size)) (F0 m 0 ls []) := by
  obtain ⟨hx, hb, hr, hml, hown, hts, hlk, hK, hE, hI⟩ := id C
  have hD : ∀ σ : Sg, va_D (s_A ad 27 s.heap.size) ((s_WC cy ad) σ) := fun σ => s_D (s_WC_ad cy ad σ) hI (fun k hk => Or.inl ⟨k, hk, rfl⟩)
  unfold fX2_isNothing_19 at hf
  refine lv_aload_n hx hb dX2_isNothing_0 rfl (lv_at hl 0 rfl) ?_
  refine va_get (D := G) (ci := 2) (v := .int (σ 19 2)) (C := RX2) (T := TX2) (N := 3) hx hb hts inkX2 hown hK hP 19 rfl rfl 2 (by decide) (hts _ kw_240) (fun _ h9 => h9) rfl dX2_isNothing_1 ?_
  refine lv_iconst (v := -1) hx hb dX2_isNothing_4 (by decide) ?_
  refine lv_icmp_ne (tgt := 12) hx hb dX2_isNothing_5 (by decide) (fun c1 => ?_) (fun c1 => ?_)
  · rw [if_neg c1] at hf
    refine lv_iconst (v := 0) hx hb dX2_isNothing_12 (by decide) ?_
    obtain ⟨he1, he2⟩ := s_ret hf
    exact W.zret hx hb hr rfl (fun t ht hW => ⟨⟨_, (), rfl, he1, s_fin (Wd := (s_WC cy ad)) ht he2 hP⟩, hS.F ht⟩) hS.2.2 dX2_isNothing_13 hlk
  · rw [if_pos c1] at hf
    refine lv_iconst (v := 1) hx hb dX2_isNothing_8 (by decide) ?_
    refine lv_goto (tgt := 13) hx hb dX2_isNothing_9 (by decide) ?_
    obtain ⟨he1, he2⟩ := s_ret hf
    exact W.zret hx hb hr rfl (fun t ht hW => ⟨⟨_, (), rfl, he1, s_fin (Wd := (s_WC cy ad)) ht he2 hP⟩, hS.F ht⟩) hS.2.2 dX2_isNothing_13 hlk
theorem kcX2_isNothing_19 {l : Launch} {G : va_G} {cy : Nat → ClassId} {sa : Nat × Nat} {ad : Nat → Nat}  {sz : Nat} (hI : s_inj ad 27) (σ : Sg) {re : Int32} {σe : Sg} (hf : fX2_isNothing_19 σ = some (re, σe)) : Met l yX2_isNothing (kW yX2_isNothing cX2_isNothing 1 (some .boolean)) ({ frames := 0, cells := 0, slots := 0, locals := 0 } : Room) (s_P (s_WC cy ad) G cy sa ad 27 [.ref (ad 19)] sz σ) (s_Qi (s_WC cy ad) G (s_A ad 27 sz) re σe) 0 0 (s_A ad 27 sz) := by
  refine s_met (own := RX2) (by decide) rfl hI (Nat.le_of_ble_eq_true rfl) (fun p e s m below meth c ls hsz C hP hl => ?_)
  subst hsz
  exact kX2_isNothing_19 C σ ls _ _ hl hP va_S.rf hf
set_option maxRecDepth 100000 in
set_option maxHeartbeats 4000000 in
theorem kX2_hasCell_19_b25 (C : s_X p s m meth c args cX2_hasCell (some .boolean) 2 RX2 G cy sa ad 27) (σ : Sg) (ls : Array Slot) (H : Heap) (locs : List Loc) (hl : lv_has ls 2 []) (hP : va_P G vwCl ((s_WC cy ad) σ) H) (hS : va_S (s_A ad 27 s.heap.size) s.heap H locs) (hf : fX2_hasCell_19_b25 σ = some (re, σe)) : W p l e ({ frames := 0, cells := 0, slots := 0, locals := 0 } : Room) s m args below meth c H locs 0 0 (MQ below (s_Qi (s_WC cy ad) G (s_A ad 27 s.heap.size) re σe) args s 0 0 (s_A ad 27 s.heap.size)) (F0 m 25 ls []) := by
  obtain ⟨hx, hb, hr, hml, hown, hts, hlk, hK, hE, hI⟩ := id C
  have hD : ∀ σ : Sg, va_D (s_A ad 27 s.heap.size) ((s_WC cy ad) σ) := fun σ => s_D (s_WC_ad cy ad σ) hI (fun k hk => Or.inl ⟨k, hk, rfl⟩)
  unfold fX2_hasCell_19_b25 at hf
  refine lv_iconst (v := 0) hx hb dX2_hasCell_25 (by decide) ?_
  obtain ⟨he1, he2⟩ := s_ret hf
  exact W.zret hx hb hr rfl (fun t ht hW => ⟨⟨_, (), rfl, he1, s_fin (Wd := (s_WC cy ad)) ht he2 hP⟩, hS.F ht⟩) hS.2.2 dX2_hasCell_26 hlk
set_option maxRecDepth 100000 in
set_option maxHeartbeats 4000000 in
theorem kX2_hasCell_19 (C : s_X p s m meth c args cX2_hasCell (some .boolean) 2 RX2 G cy sa ad 27) (σ : Sg) (x1 : Int32) (ls : Array Slot) (H : Heap) (locs : List Loc) (hl : lv_has ls 2 [(0, .ref (ad 19)), (1, .int x1)]) (hP : va_P G vwCl ((s_WC cy ad) σ) H) (hS : va_S (s_A ad 27 s.heap.size) s.heap H locs) (hf : fX2_hasCell_19 σ x1 = some (re, σe)) : W p l e ({ frames := 0, cells := 0, slots := 0, locals := 0 } : Room) s m args below meth c H locs 0 0 (MQ below (s_Qi (s_WC cy ad) G (s_A ad 27 s.heap.size) re σe) args s 0 0 (s_A ad 27 s.heap.size)) (F0 m 0 ls []) := by
  obtain ⟨hx, hb, hr, hml, hown, hts, hlk, hK, hE, hI⟩ := id C
  have hD : ∀ σ : Sg, va_D (s_A ad 27 s.heap.size) ((s_WC cy ad) σ) := fun σ => s_D (s_WC_ad cy ad σ) hI (fun k hk => Or.inl ⟨k, hk, rfl⟩)
  unfold fX2_hasCell_19 at hf
  refine lv_iload_n hx hb dX2_hasCell_0 rfl (lv_at hl 1 rfl) ?_
  refine lv_if_lt (tgt := 25) hx hb dX2_hasCell_1 (by decide) (fun c1 => ?_) (fun c1 => ?_)
  · rw [if_pos c1] at hf
    exact kX2_hasCell_19_b25 C σ _ _ _ (lv_sub hl [] rfl) hP hS hf
  · rw [if_neg c1] at hf
    refine lv_iload_n hx hb dX2_hasCell_4 rfl (lv_at hl 1 rfl) ?_
    refine lv_aload_n hx hb dX2_hasCell_5 rfl (lv_at hl 0 rfl) ?_
    refine va_get (D := G) (ci := 2) (v := .int (σ 19 2)) (C := RX2) (T := TX2) (N := 3) hx hb hts inkX2 hown hK hP 19 rfl rfl 2 (by decide) (hts _ kw_240) (fun _ h9 => h9) rfl dX2_hasCell_6 ?_
    refine lv_icmp_ge (tgt := 25) hx hb dX2_hasCell_9 (by decide) (fun c2 => ?_) (fun c2 => ?_)
    · rw [if_pos c2] at hf
      exact kX2_hasCell_19_b25 C σ _ _ _ (lv_sub hl [] rfl) hP hS hf
    · rw [if_neg c2] at hf
      refine lv_iload_n hx hb dX2_hasCell_12 rfl (lv_at hl 1 rfl) ?_
      refine lv_aload_n hx hb dX2_hasCell_13 rfl (lv_at hl 0 rfl) ?_
      refine va_get (D := G) (ci := 2) (v := .ref (ad 20)) (C := RX2) (T := TX2) (N := 3) hx hb hts inkX2 hown hK hP 19 rfl rfl 0 (by decide) (hts _ kw_237) (fun _ h9 => h9) rfl dX2_hasCell_14 ?_
      refine va_alen (v := (40 : Int32)) hx hb hK hP 20 1 rfl rfl (by show Int32.ofNat 40 = 40; decide) dX2_hasCell_17 ?_
      refine lv_icmp_ge (tgt := 25) hx hb dX2_hasCell_18 (by decide) (fun c3 => ?_) (fun c3 => ?_)
      · rw [if_pos c3] at hf
        exact kX2_hasCell_19_b25 C σ _ _ _ (lv_sub hl [] rfl) hP hS hf
      · rw [if_neg c3] at hf
        refine lv_iconst (v := 1) hx hb dX2_hasCell_21 (by decide) ?_
        refine lv_goto (tgt := 26) hx hb dX2_hasCell_22 (by decide) ?_
        obtain ⟨he1, he2⟩ := s_ret hf
        exact W.zret hx hb hr rfl (fun t ht hW => ⟨⟨_, (), rfl, he1, s_fin (Wd := (s_WC cy ad)) ht he2 hP⟩, hS.F ht⟩) hS.2.2 dX2_hasCell_26 hlk
theorem kcX2_hasCell_19 {l : Launch} {G : va_G} {cy : Nat → ClassId} {sa : Nat × Nat} {ad : Nat → Nat}  {sz : Nat} (hI : s_inj ad 27) (σ : Sg) (x1 : Int32) {re : Int32} {σe : Sg} (hf : fX2_hasCell_19 σ x1 = some (re, σe)) : Met l yX2_hasCell (kW yX2_hasCell cX2_hasCell 2 (some .boolean)) ({ frames := 0, cells := 0, slots := 0, locals := 0 } : Room) (s_P (s_WC cy ad) G cy sa ad 27 [.ref (ad 19), .int x1] sz σ) (s_Qi (s_WC cy ad) G (s_A ad 27 sz) re σe) 0 0 (s_A ad 27 sz) := by
  refine s_met (own := RX2) (by decide) rfl hI (Nat.le_of_ble_eq_true rfl) (fun p e s m below meth c ls hsz C hP hl => ?_)
  subst hsz
  exact kX2_hasCell_19 C σ x1 ls _ _ hl hP va_S.rf hf
set_option maxRecDepth 100000 in
set_option maxHeartbeats 4000000 in
theorem kX2_write_19_b39 (C : s_X p s m meth c args cX2_write none 3 RX2 G cy sa ad 27) (σ : Sg) (y1 : Int32) (y2 : Int32) (ls : Array Slot) (H : Heap) (locs : List Loc) (hl : lv_has ls 3 []) (hP : va_P G vwCl ((s_WC cy ad) σ) H) (hS : va_S (s_A ad 27 s.heap.size) s.heap H locs) (hf : fX2_write_19_b39 σ y1 y2 = some σe) : W p l e ({ frames := 1, cells := 0, slots := 0, locals := 21 } : Room) s m args below meth c H locs 0 0 (MQ below (s_Qv (s_WC cy ad) G (s_A ad 27 s.heap.size) σe) args s 0 0 (s_A ad 27 s.heap.size)) (F0 m 39 ls [.int y2, .int y1, .ref (ad 20)]) := by
  obtain ⟨hx, hb, hr, hml, hown, hts, hlk, hK, hE, hI⟩ := id C
  have hD : ∀ σ : Sg, va_D (s_A ad 27 s.heap.size) ((s_WC cy ad) σ) := fun σ => s_D (s_WC_ad cy ad σ) hI (fun k hk => Or.inl ⟨k, hk, rfl⟩)
  unfold fX2_write_19_b39 at hf
  replace hf := s_gd_some hf
  obtain ⟨g1, hf⟩ := hf
  refine va_iast hx hb hK hP (hD _) hS 20 1 rfl rfl (s_in_of g1) dX2_write_39 (fun H locs hP _ hS => ?_)
  obtain ⟨σ2, eσ2⟩ : ∃ z : Sg, z = (s_up σ 20 (Int32.toNatClampNeg y1) y2) := ⟨_, rfl⟩
  replace hf := s_lt_at eσ2 hf
  replace hP : va_P G vwCl ((s_WC cy ad) σ2) H := by rw [eσ2]; exact hP
  have he2 := Option.some.inj hf
  exact W.vret hx hb hr (fun t ht hW => ⟨⟨(), rfl, trivial, s_fin (Wd := (s_WC cy ad)) ht he2 hP⟩, hS.F ht⟩) hS.2.2 dX2_write_40 hlk
set_option maxRecDepth 100000 in
set_option maxHeartbeats 4000000 in
theorem kX2_write_19 (C : s_X p s m meth c args cX2_write none 3 RX2 G cy sa ad 27) (σ : Sg) (x1 : Int32) (x2 : Int32) (ls : Array Slot) (H : Heap) (locs : List Loc) (hl : lv_has ls 3 [(0, .ref (ad 19)), (1, .int x1), (2, .int x2)]) (hP : va_P G vwCl ((s_WC cy ad) σ) H) (hS : va_S (s_A ad 27 s.heap.size) s.heap H locs) (hf : fX2_write_19 σ x1 x2 = some σe) : W p l e ({ frames := 1, cells := 0, slots := 0, locals := 21 } : Room) s m args below meth c H locs 0 0 (MQ below (s_Qv (s_WC cy ad) G (s_A ad 27 s.heap.size) σe) args s 0 0 (s_A ad 27 s.heap.size)) (F0 m 0 ls []) := by
  obtain ⟨hx, hb, hr, hml, hown, hts, hlk, hK, hE, hI⟩ := id C
  have hD : ∀ σ : Sg, va_D (s_A ad 27 s.heap.size) ((s_WC cy ad) σ) := fun σ => s_D (s_WC_ad cy ad σ) hI (fun k hk => Or.inl ⟨k, hk, rfl⟩)
  unfold fX2_write_19 at hf
  refine lv_aload_n hx hb dX2_write_0 rfl (lv_at hl 0 rfl) ?_
  refine lv_iload_n hx hb dX2_write_1 rfl (lv_at hl 1 rfl) ?_
  replace hf := s_bi_some hf
  obtain ⟨r3, σ1, hz2, hf⟩ := hf
  refine s_calli (nn := 1) C (kcX2_hasCell_19 (l := l) (G := G) (cy := cy) (sa := sa) hI (sz := H.size) σ x1 hz2) gk_X2_28 rfl rfl (by decide +kernel) ⟨Nat.le_of_ble_eq_true rfl, Nat.le_of_ble_eq_true rfl⟩ hP hS (q0 := 19) (ci := 2) rfl rfl rfl (As := [.int x1]) (rest := []) rfl rfl hl.1 (Nat.le_of_ble_eq_true rfl) dX2_write_2 (fun H locs hP hS => ?_)
  refine lv_if_eq (tgt := 40) hx hb dX2_write_5 (by decide) (fun c4 => ?_) (fun c4 => ?_)
  · rw [if_pos c4] at hf
    have he2 := Option.some.inj hf
    exact W.vret hx hb hr (fun t ht hW => ⟨⟨(), rfl, trivial, s_fin (Wd := (s_WC cy ad)) ht he2 hP⟩, hS.F ht⟩) hS.2.2 dX2_write_40 hlk
  · rw [if_neg c4] at hf
    refine lv_aload_n hx hb dX2_write_8 rfl (lv_at hl 0 rfl) ?_
    refine va_get (D := G) (ci := 2) (v := .ref (ad 20)) (C := RX2) (T := TX2) (N := 3) hx hb hts inkX2 hown hK hP 19 rfl rfl 0 (by decide) (hts _ kw_237) (fun _ h9 => h9) rfl dX2_write_9 ?_
    refine lv_iload_n hx hb dX2_write_12 rfl (lv_at hl 1 rfl) ?_
    refine lv_aload_n hx hb dX2_write_13 rfl (lv_at hl 0 rfl) ?_
    refine va_get (D := G) (ci := 2) (v := .int (σ1 19 1)) (C := RX2) (T := TX2) (N := 3) hx hb hts inkX2 hown hK hP 19 rfl rfl 1 (by decide) (hts _ kw_238) (fun _ h9 => h9) rfl dX2_write_14 ?_
    refine lv_if_ne (tgt := 25) hx hb dX2_write_17 (by decide) (fun c5 => ?_) (fun c5 => ?_)
    · rw [if_neg c5] at hf
      refine lv_aload_n hx hb dX2_write_25 rfl (lv_at hl 0 rfl) ?_
      refine va_get (D := G) (ci := 2) (v := .int (σ1 19 1)) (C := RX2) (T := TX2) (N := 3) hx hb hts inkX2 hown hK hP 19 rfl rfl 1 (by decide) (hts _ kw_238) (fun _ h9 => h9) rfl dX2_write_26 ?_
      refine lv_iconst (v := 1) hx hb dX2_write_29 (by decide) ?_
      refine lv_icmp_ne (tgt := 38) hx hb dX2_write_30 (by decide) (fun c6 => ?_) (fun c6 => ?_)
      · rw [if_neg c6] at hf
        refine lv_iload_n hx hb dX2_write_38 rfl (lv_at hl 2 rfl) ?_
        exact kX2_write_19_b39 C σ1 x1 x2 _ _ _ (lv_sub hl [] rfl) hP hS hf
      · rw [if_pos c6] at hf
        refine lv_iload_n hx hb dX2_write_33 rfl (lv_at hl 2 rfl) ?_
        refine lv_i2s (v := (Int16.toInt32 (Int32.toInt16 x2))) hx hb dX2_write_34 rfl ?_
        refine lv_goto (tgt := 39) hx hb dX2_write_35 (by decide) ?_
        exact kX2_write_19_b39 C σ1 x1 (Int16.toInt32 (Int32.toInt16 x2)) _ _ _ (lv_sub hl [] rfl) hP hS hf
    · rw [if_pos c5] at hf
      refine lv_iload_n hx hb dX2_write_20 rfl (lv_at hl 2 rfl) ?_
      refine lv_i2b (v := (Int8.toInt32 (Int32.toInt8 x2))) hx hb dX2_write_21 rfl ?_
      refine lv_goto (tgt := 39) hx hb dX2_write_22 (by decide) ?_
      exact kX2_write_19_b39 C σ1 x1 (Int8.toInt32 (Int32.toInt8 x2)) _ _ _ (lv_sub hl [] rfl) hP hS hf
theorem kcX2_write_19 {l : Launch} {G : va_G} {cy : Nat → ClassId} {sa : Nat × Nat} {ad : Nat → Nat}  {sz : Nat} (hI : s_inj ad 27) (σ : Sg) (x1 : Int32) (x2 : Int32) {σe : Sg} (hf : fX2_write_19 σ x1 x2 = some σe) : Met l yX2_write (kW yX2_write cX2_write 3 none) ({ frames := 1, cells := 0, slots := 0, locals := 21 } : Room) (s_P (s_WC cy ad) G cy sa ad 27 [.ref (ad 19), .int x1, .int x2] sz σ) (s_Qv (s_WC cy ad) G (s_A ad 27 sz) σe) 0 0 (s_A ad 27 sz) := by
  refine s_met (own := RX2) (by decide) rfl hI (Nat.le_of_ble_eq_true rfl) (fun p e s m below meth c ls hsz C hP hl => ?_)
  subst hsz
  exact kX2_write_19 C σ x1 x2 ls _ _ hl hP va_S.rf hf
set_option maxRecDepth 100000 in
set_option maxHeartbeats 4000000 in
theorem kX2_isNothing_21 (C : s_X p s m meth c args cX2_isNothing (some .boolean) 1 RX2 G cy sa ad 27) (σ : Sg) (ls : Array Slot) (H : Heap) (locs : List Loc) (hl : lv_has ls 1 [(0, .ref (ad 21))]) (hP : va_P G vwCl ((s_WC cy ad) σ) H) (hS : va_S (s_A ad 27 s.heap.size) s.heap H locs) (hf : fX2_isNothing_21 σ = some (re, σe)) : W p l e ({ frames := 0, cells := 0, slots := 0, locals := 0 } : Room) s m args below meth c H locs 0 0 (MQ below (s_Qi (s_WC cy ad) G (s_A ad 27 s.heap.size) re σe) args s 0 0 (s_A ad 27 s.heap.size)) (F0 m 0 ls []) := by
  obtain ⟨hx, hb, hr, hml, hown, hts, hlk, hK, hE, hI⟩ := id C
  have hD : ∀ σ : Sg, va_D (s_A ad 27 s.heap.size) ((s_WC cy ad) σ) := fun σ => s_D (s_WC_ad cy ad σ) hI (fun k hk => Or.inl ⟨k, hk, rfl⟩)
  unfold fX2_isNothing_21 at hf
  refine lv_aload_n hx hb dX2_isNothing_0 rfl (lv_at hl 0 rfl) ?_
  refine va_get (D := G) (ci := 2) (v := .int (σ 21 2)) (C := RX2) (T := TX2) (N := 3) hx hb hts inkX2 hown hK hP 21 rfl rfl 2 (by decide) (hts _ kw_240) (fun _ h9 => h9) rfl dX2_isNothing_1 ?_
  refine lv_iconst (v := -1) hx hb dX2_isNothing_4 (by decide) ?_
  refine lv_icmp_ne (tgt := 12) hx hb dX2_isNothing_5 (by decide) (fun c1 => ?_) (fun c1 => ?_)
  · rw [if_neg c1] at hf
    refine lv_iconst (v := 0) hx hb dX2_isNothing_12 (by decide) ?_
    obtain ⟨he1, he2⟩ := s_ret hf
    exact W.zret hx hb hr rfl (fun t ht hW => ⟨⟨_, (), rfl, he1, s_fin (Wd := (s_WC cy ad)) ht he2 hP⟩, hS.F ht⟩) hS.2.2 dX2_isNothing_13 hlk
  · rw [if_pos c1] at hf
    refine lv_iconst (v := 1) hx hb dX2_isNothing_8 (by decide) ?_
    refine lv_goto (tgt := 13) hx hb dX2_isNothing_9 (by decide) ?_
    obtain ⟨he1, he2⟩ := s_ret hf
    exact W.zret hx hb hr rfl (fun t ht hW => ⟨⟨_, (), rfl, he1, s_fin (Wd := (s_WC cy ad)) ht he2 hP⟩, hS.F ht⟩) hS.2.2 dX2_isNothing_13 hlk
theorem kcX2_isNothing_21 {l : Launch} {G : va_G} {cy : Nat → ClassId} {sa : Nat × Nat} {ad : Nat → Nat}  {sz : Nat} (hI : s_inj ad 27) (σ : Sg) {re : Int32} {σe : Sg} (hf : fX2_isNothing_21 σ = some (re, σe)) : Met l yX2_isNothing (kW yX2_isNothing cX2_isNothing 1 (some .boolean)) ({ frames := 0, cells := 0, slots := 0, locals := 0 } : Room) (s_P (s_WC cy ad) G cy sa ad 27 [.ref (ad 21)] sz σ) (s_Qi (s_WC cy ad) G (s_A ad 27 sz) re σe) 0 0 (s_A ad 27 sz) := by
  refine s_met (own := RX2) (by decide) rfl hI (Nat.le_of_ble_eq_true rfl) (fun p e s m below meth c ls hsz C hP hl => ?_)
  subst hsz
  exact kX2_isNothing_21 C σ ls _ _ hl hP va_S.rf hf
set_option maxRecDepth 100000 in
set_option maxHeartbeats 4000000 in
theorem kX2_hasCell_21_b25 (C : s_X p s m meth c args cX2_hasCell (some .boolean) 2 RX2 G cy sa ad 27) (σ : Sg) (ls : Array Slot) (H : Heap) (locs : List Loc) (hl : lv_has ls 2 []) (hP : va_P G vwCl ((s_WC cy ad) σ) H) (hS : va_S (s_A ad 27 s.heap.size) s.heap H locs) (hf : fX2_hasCell_21_b25 σ = some (re, σe)) : W p l e ({ frames := 0, cells := 0, slots := 0, locals := 0 } : Room) s m args below meth c H locs 0 0 (MQ below (s_Qi (s_WC cy ad) G (s_A ad 27 s.heap.size) re σe) args s 0 0 (s_A ad 27 s.heap.size)) (F0 m 25 ls []) := by
  obtain ⟨hx, hb, hr, hml, hown, hts, hlk, hK, hE, hI⟩ := id C
  have hD : ∀ σ : Sg, va_D (s_A ad 27 s.heap.size) ((s_WC cy ad) σ) := fun σ => s_D (s_WC_ad cy ad σ) hI (fun k hk => Or.inl ⟨k, hk, rfl⟩)
  unfold fX2_hasCell_21_b25 at hf
  refine lv_iconst (v := 0) hx hb dX2_hasCell_25 (by decide) ?_
  obtain ⟨he1, he2⟩ := s_ret hf
  exact W.zret hx hb hr rfl (fun t ht hW => ⟨⟨_, (), rfl, he1, s_fin (Wd := (s_WC cy ad)) ht he2 hP⟩, hS.F ht⟩) hS.2.2 dX2_hasCell_26 hlk
set_option maxRecDepth 100000 in
set_option maxHeartbeats 4000000 in
theorem kX2_hasCell_21 (C : s_X p s m meth c args cX2_hasCell (some .boolean) 2 RX2 G cy sa ad 27) (σ : Sg) (x1 : Int32) (ls : Array Slot) (H : Heap) (locs : List Loc) (hl : lv_has ls 2 [(0, .ref (ad 21)), (1, .int x1)]) (hP : va_P G vwCl ((s_WC cy ad) σ) H) (hS : va_S (s_A ad 27 s.heap.size) s.heap H locs) (hf : fX2_hasCell_21 σ x1 = some (re, σe)) : W p l e ({ frames := 0, cells := 0, slots := 0, locals := 0 } : Room) s m args below meth c H locs 0 0 (MQ below (s_Qi (s_WC cy ad) G (s_A ad 27 s.heap.size) re σe) args s 0 0 (s_A ad 27 s.heap.size)) (F0 m 0 ls []) := by
  obtain ⟨hx, hb, hr, hml, hown, hts, hlk, hK, hE, hI⟩ := id C
  have hD : ∀ σ : Sg, va_D (s_A ad 27 s.heap.size) ((s_WC cy ad) σ) := fun σ => s_D (s_WC_ad cy ad σ) hI (fun k hk => Or.inl ⟨k, hk, rfl⟩)
  unfold fX2_hasCell_21 at hf
  refine lv_iload_n hx hb dX2_hasCell_0 rfl (lv_at hl 1 rfl) ?_
  refine lv_if_lt (tgt := 25) hx hb dX2_hasCell_1 (by decide) (fun c1 => ?_) (fun c1 => ?_)
  · rw [if_pos c1] at hf
    exact kX2_hasCell_21_b25 C σ _ _ _ (lv_sub hl [] rfl) hP hS hf
  · rw [if_neg c1] at hf
    refine lv_iload_n hx hb dX2_hasCell_4 rfl (lv_at hl 1 rfl) ?_
    refine lv_aload_n hx hb dX2_hasCell_5 rfl (lv_at hl 0 rfl) ?_
    refine va_get (D := G) (ci := 2) (v := .int (σ 21 2)) (C := RX2) (T := TX2) (N := 3) hx hb hts inkX2 hown hK hP 21 rfl rfl 2 (by decide) (hts _ kw_240) (fun _ h9 => h9) rfl dX2_hasCell_6 ?_
    refine lv_icmp_ge (tgt := 25) hx hb dX2_hasCell_9 (by decide) (fun c2 => ?_) (fun c2 => ?_)
    · rw [if_pos c2] at hf
      exact kX2_hasCell_21_b25 C σ _ _ _ (lv_sub hl [] rfl) hP hS hf
    · rw [if_neg c2] at hf
      refine lv_iload_n hx hb dX2_hasCell_12 rfl (lv_at hl 1 rfl) ?_
      refine lv_aload_n hx hb dX2_hasCell_13 rfl (lv_at hl 0 rfl) ?_
      refine va_get (D := G) (ci := 2) (v := .ref (ad 22)) (C := RX2) (T := TX2) (N := 3) hx hb hts inkX2 hown hK hP 21 rfl rfl 0 (by decide) (hts _ kw_237) (fun _ h9 => h9) rfl dX2_hasCell_14 ?_
      refine va_alen (v := (40 : Int32)) hx hb hK hP 22 1 rfl rfl (by show Int32.ofNat 40 = 40; decide) dX2_hasCell_17 ?_
      refine lv_icmp_ge (tgt := 25) hx hb dX2_hasCell_18 (by decide) (fun c3 => ?_) (fun c3 => ?_)
      · rw [if_pos c3] at hf
        exact kX2_hasCell_21_b25 C σ _ _ _ (lv_sub hl [] rfl) hP hS hf
      · rw [if_neg c3] at hf
        refine lv_iconst (v := 1) hx hb dX2_hasCell_21 (by decide) ?_
        refine lv_goto (tgt := 26) hx hb dX2_hasCell_22 (by decide) ?_
        obtain ⟨he1, he2⟩ := s_ret hf
        exact W.zret hx hb hr rfl (fun t ht hW => ⟨⟨_, (), rfl, he1, s_fin (Wd := (s_WC cy ad)) ht he2 hP⟩, hS.F ht⟩) hS.2.2 dX2_hasCell_26 hlk
theorem kcX2_hasCell_21 {l : Launch} {G : va_G} {cy : Nat → ClassId} {sa : Nat × Nat} {ad : Nat → Nat}  {sz : Nat} (hI : s_inj ad 27) (σ : Sg) (x1 : Int32) {re : Int32} {σe : Sg} (hf : fX2_hasCell_21 σ x1 = some (re, σe)) : Met l yX2_hasCell (kW yX2_hasCell cX2_hasCell 2 (some .boolean)) ({ frames := 0, cells := 0, slots := 0, locals := 0 } : Room) (s_P (s_WC cy ad) G cy sa ad 27 [.ref (ad 21), .int x1] sz σ) (s_Qi (s_WC cy ad) G (s_A ad 27 sz) re σe) 0 0 (s_A ad 27 sz) := by
  refine s_met (own := RX2) (by decide) rfl hI (Nat.le_of_ble_eq_true rfl) (fun p e s m below meth c ls hsz C hP hl => ?_)
  subst hsz
  exact kX2_hasCell_21 C σ x1 ls _ _ hl hP va_S.rf hf
set_option maxRecDepth 100000 in
set_option maxHeartbeats 4000000 in
theorem kX2_write_21_b39 (C : s_X p s m meth c args cX2_write none 3 RX2 G cy sa ad 27) (σ : Sg) (y1 : Int32) (y2 : Int32) (ls : Array Slot) (H : Heap) (locs : List Loc) (hl : lv_has ls 3 []) (hP : va_P G vwCl ((s_WC cy ad) σ) H) (hS : va_S (s_A ad 27 s.heap.size) s.heap H locs) (hf : fX2_write_21_b39 σ y1 y2 = some σe) : W p l e ({ frames := 1, cells := 0, slots := 0, locals := 21 } : Room) s m args below meth c H locs 0 0 (MQ below (s_Qv (s_WC cy ad) G (s_A ad 27 s.heap.size) σe) args s 0 0 (s_A ad 27 s.heap.size)) (F0 m 39 ls [.int y2, .int y1, .ref (ad 22)]) := by
  obtain ⟨hx, hb, hr, hml, hown, hts, hlk, hK, hE, hI⟩ := id C
  have hD : ∀ σ : Sg, va_D (s_A ad 27 s.heap.size) ((s_WC cy ad) σ) := fun σ => s_D (s_WC_ad cy ad σ) hI (fun k hk => Or.inl ⟨k, hk, rfl⟩)
  unfold fX2_write_21_b39 at hf
  replace hf := s_gd_some hf
  obtain ⟨g1, hf⟩ := hf
  refine va_iast hx hb hK hP (hD _) hS 22 1 rfl rfl (s_in_of g1) dX2_write_39 (fun H locs hP _ hS => ?_)
  obtain ⟨σ2, eσ2⟩ : ∃ z : Sg, z = (s_up σ 22 (Int32.toNatClampNeg y1) y2) := ⟨_, rfl⟩
  replace hf := s_lt_at eσ2 hf
  replace hP : va_P G vwCl ((s_WC cy ad) σ2) H := by rw [eσ2]; exact hP
  have he2 := Option.some.inj hf
  exact W.vret hx hb hr (fun t ht hW => ⟨⟨(), rfl, trivial, s_fin (Wd := (s_WC cy ad)) ht he2 hP⟩, hS.F ht⟩) hS.2.2 dX2_write_40 hlk
set_option maxRecDepth 100000 in
set_option maxHeartbeats 4000000 in
theorem kX2_write_21 (C : s_X p s m meth c args cX2_write none 3 RX2 G cy sa ad 27) (σ : Sg) (x1 : Int32) (x2 : Int32) (ls : Array Slot) (H : Heap) (locs : List Loc) (hl : lv_has ls 3 [(0, .ref (ad 21)), (1, .int x1), (2, .int x2)]) (hP : va_P G vwCl ((s_WC cy ad) σ) H) (hS : va_S (s_A ad 27 s.heap.size) s.heap H locs) (hf : fX2_write_21 σ x1 x2 = some σe) : W p l e ({ frames := 1, cells := 0, slots := 0, locals := 21 } : Room) s m args below meth c H locs 0 0 (MQ below (s_Qv (s_WC cy ad) G (s_A ad 27 s.heap.size) σe) args s 0 0 (s_A ad 27 s.heap.size)) (F0 m 0 ls []) := by
  obtain ⟨hx, hb, hr, hml, hown, hts, hlk, hK, hE, hI⟩ := id C
  have hD : ∀ σ : Sg, va_D (s_A ad 27 s.heap.size) ((s_WC cy ad) σ) := fun σ => s_D (s_WC_ad cy ad σ) hI (fun k hk => Or.inl ⟨k, hk, rfl⟩)
  unfold fX2_write_21 at hf
  refine lv_aload_n hx hb dX2_write_0 rfl (lv_at hl 0 rfl) ?_
  refine lv_iload_n hx hb dX2_write_1 rfl (lv_at hl 1 rfl) ?_
  replace hf := s_bi_some hf
  obtain ⟨r3, σ1, hz2, hf⟩ := hf
  refine s_calli (nn := 1) C (kcX2_hasCell_21 (l := l) (G := G) (cy := cy) (sa := sa) hI (sz := H.size) σ x1 hz2) gk_X2_28 rfl rfl (by decide +kernel) ⟨Nat.le_of_ble_eq_true rfl, Nat.le_of_ble_eq_true rfl⟩ hP hS (q0 := 21) (ci := 2) rfl rfl rfl (As := [.int x1]) (rest := []) rfl rfl hl.1 (Nat.le_of_ble_eq_true rfl) dX2_write_2 (fun H locs hP hS => ?_)
  refine lv_if_eq (tgt := 40) hx hb dX2_write_5 (by decide) (fun c4 => ?_) (fun c4 => ?_)
  · rw [if_pos c4] at hf
    have he2 := Option.some.inj hf
    exact W.vret hx hb hr (fun t ht hW => ⟨⟨(), rfl, trivial, s_fin (Wd := (s_WC cy ad)) ht he2 hP⟩, hS.F ht⟩) hS.2.2 dX2_write_40 hlk
  · rw [if_neg c4] at hf
    refine lv_aload_n hx hb dX2_write_8 rfl (lv_at hl 0 rfl) ?_
    refine va_get (D := G) (ci := 2) (v := .ref (ad 22)) (C := RX2) (T := TX2) (N := 3) hx hb hts inkX2 hown hK hP 21 rfl rfl 0 (by decide) (hts _ kw_237) (fun _ h9 => h9) rfl dX2_write_9 ?_
    refine lv_iload_n hx hb dX2_write_12 rfl (lv_at hl 1 rfl) ?_
    refine lv_aload_n hx hb dX2_write_13 rfl (lv_at hl 0 rfl) ?_
    refine va_get (D := G) (ci := 2) (v := .int (σ1 21 1)) (C := RX2) (T := TX2) (N := 3) hx hb hts inkX2 hown hK hP 21 rfl rfl 1 (by decide) (hts _ kw_238) (fun _ h9 => h9) rfl dX2_write_14 ?_
    refine lv_if_ne (tgt := 25) hx hb dX2_write_17 (by decide) (fun c5 => ?_) (fun c5 => ?_)
    · rw [if_neg c5] at hf
      refine lv_aload_n hx hb dX2_write_25 rfl (lv_at hl 0 rfl) ?_
      refine va_get (D := G) (ci := 2) (v := .int (σ1 21 1)) (C := RX2) (T := TX2) (N := 3) hx hb hts inkX2 hown hK hP 21 rfl rfl 1 (by decide) (hts _ kw_238) (fun _ h9 => h9) rfl dX2_write_26 ?_
      refine lv_iconst (v := 1) hx hb dX2_write_29 (by decide) ?_
      refine lv_icmp_ne (tgt := 38) hx hb dX2_write_30 (by decide) (fun c6 => ?_) (fun c6 => ?_)
      · rw [if_neg c6] at hf
        refine lv_iload_n hx hb dX2_write_38 rfl (lv_at hl 2 rfl) ?_
        exact kX2_write_21_b39 C σ1 x1 x2 _ _ _ (lv_sub hl [] rfl) hP hS hf
      · rw [if_pos c6] at hf
        refine lv_iload_n hx hb dX2_write_33 rfl (lv_at hl 2 rfl) ?_
        refine lv_i2s (v := (Int16.toInt32 (Int32.toInt16 x2))) hx hb dX2_write_34 rfl ?_
        refine lv_goto (tgt := 39) hx hb dX2_write_35 (by decide) ?_
        exact kX2_write_21_b39 C σ1 x1 (Int16.toInt32 (Int32.toInt16 x2)) _ _ _ (lv_sub hl [] rfl) hP hS hf
    · rw [if_pos c5] at hf
      refine lv_iload_n hx hb dX2_write_20 rfl (lv_at hl 2 rfl) ?_
      refine lv_i2b (v := (Int8.toInt32 (Int32.toInt8 x2))) hx hb dX2_write_21 rfl ?_
      refine lv_goto (tgt := 39) hx hb dX2_write_22 (by decide) ?_
      exact kX2_write_21_b39 C σ1 x1 (Int8.toInt32 (Int32.toInt8 x2)) _ _ _ (lv_sub hl [] rfl) hP hS hf
theorem kcX2_write_21 {l : Launch} {G : va_G} {cy : Nat → ClassId} {sa : Nat × Nat} {ad : Nat → Nat}  {sz : Nat} (hI : s_inj ad 27) (σ : Sg) (x1 : Int32) (x2 : Int32) {σe : Sg} (hf : fX2_write_21 σ x1 x2 = some σe) : Met l yX2_write (kW yX2_write cX2_write 3 none) ({ frames := 1, cells := 0, slots := 0, locals := 21 } : Room) (s_P (s_WC cy ad) G cy sa ad 27 [.ref (ad 21), .int x1, .int x2] sz σ) (s_Qv (s_WC cy ad) G (s_A ad 27 sz) σe) 0 0 (s_A ad 27 sz) := by
  refine s_met (own := RX2) (by decide) rfl hI (Nat.le_of_ble_eq_true rfl) (fun p e s m below meth c ls hsz C hP hl => ?_)
  subst hsz
  exact kX2_write_21 C σ x1 x2 ls _ _ hl hP va_S.rf hf
set_option maxRecDepth 100000 in
set_option maxHeartbeats 4000000 in
theorem kX2_isNothing_23 (C : s_X p s m meth c args cX2_isNothing (some .boolean) 1 RX2 G cy sa ad 27) (σ : Sg) (ls : Array Slot) (H : Heap) (locs : List Loc) (hl : lv_has ls 1 [(0, .ref (ad 23))]) (hP : va_P G vwCl ((s_WC cy ad) σ) H) (hS : va_S (s_A ad 27 s.heap.size) s.heap H locs) (hf : fX2_isNothing_23 σ = some (re, σe)) : W p l e ({ frames := 0, cells := 0, slots := 0, locals := 0 } : Room) s m args below meth c H locs 0 0 (MQ below (s_Qi (s_WC cy ad) G (s_A ad 27 s.heap.size) re σe) args s 0 0 (s_A ad 27 s.heap.size)) (F0 m 0 ls []) := by
  obtain ⟨hx, hb, hr, hml, hown, hts, hlk, hK, hE, hI⟩ := id C
  have hD : ∀ σ : Sg, va_D (s_A ad 27 s.heap.size) ((s_WC cy ad) σ) := fun σ => s_D (s_WC_ad cy ad σ) hI (fun k hk => Or.inl ⟨k, hk, rfl⟩)
  unfold fX2_isNothing_23 at hf
  refine lv_aload_n hx hb dX2_isNothing_0 rfl (lv_at hl 0 rfl) ?_
  refine va_get (D := G) (ci := 2) (v := .int (σ 23 2)) (C := RX2) (T := TX2) (N := 3) hx hb hts inkX2 hown hK hP 23 rfl rfl 2 (by decide) (hts _ kw_240) (fun _ h9 => h9) rfl dX2_isNothing_1 ?_
  refine lv_iconst (v := -1) hx hb dX2_isNothing_4 (by decide) ?_
  refine lv_icmp_ne (tgt := 12) hx hb dX2_isNothing_5 (by decide) (fun c1 => ?_) (fun c1 => ?_)
  · rw [if_neg c1] at hf
    refine lv_iconst (v := 0) hx hb dX2_isNothing_12 (by decide) ?_
    obtain ⟨he1, he2⟩ := s_ret hf
    exact W.zret hx hb hr rfl (fun t ht hW => ⟨⟨_, (), rfl, he1, s_fin (Wd := (s_WC cy ad)) ht he2 hP⟩, hS.F ht⟩) hS.2.2 dX2_isNothing_13 hlk
  · rw [if_pos c1] at hf
    refine lv_iconst (v := 1) hx hb dX2_isNothing_8 (by decide) ?_
    refine lv_goto (tgt := 13) hx hb dX2_isNothing_9 (by decide) ?_
    obtain ⟨he1, he2⟩ := s_ret hf
    exact W.zret hx hb hr rfl (fun t ht hW => ⟨⟨_, (), rfl, he1, s_fin (Wd := (s_WC cy ad)) ht he2 hP⟩, hS.F ht⟩) hS.2.2 dX2_isNothing_13 hlk
theorem kcX2_isNothing_23 {l : Launch} {G : va_G} {cy : Nat → ClassId} {sa : Nat × Nat} {ad : Nat → Nat}  {sz : Nat} (hI : s_inj ad 27) (σ : Sg) {re : Int32} {σe : Sg} (hf : fX2_isNothing_23 σ = some (re, σe)) : Met l yX2_isNothing (kW yX2_isNothing cX2_isNothing 1 (some .boolean)) ({ frames := 0, cells := 0, slots := 0, locals := 0 } : Room) (s_P (s_WC cy ad) G cy sa ad 27 [.ref (ad 23)] sz σ) (s_Qi (s_WC cy ad) G (s_A ad 27 sz) re σe) 0 0 (s_A ad 27 sz) := by
  refine s_met (own := RX2) (by decide) rfl hI (Nat.le_of_ble_eq_true rfl) (fun p e s m below meth c ls hsz C hP hl => ?_)
  subst hsz
  exact kX2_isNothing_23 C σ ls _ _ hl hP va_S.rf hf
set_option maxRecDepth 100000 in
set_option maxHeartbeats 4000000 in
theorem kX2_hasCell_23_b25 (C : s_X p s m meth c args cX2_hasCell (some .boolean) 2 RX2 G cy sa ad 27) (σ : Sg) (ls : Array Slot) (H : Heap) (locs : List Loc) (hl : lv_has ls 2 []) (hP : va_P G vwCl ((s_WC cy ad) σ) H) (hS : va_S (s_A ad 27 s.heap.size) s.heap H locs) (hf : fX2_hasCell_23_b25 σ = some (re, σe)) : W p l e ({ frames := 0, cells := 0, slots := 0, locals := 0 } : Room) s m args below meth c H locs 0 0 (MQ below (s_Qi (s_WC cy ad) G (s_A ad 27 s.heap.size) re σe) args s 0 0 (s_A ad 27 s.heap.size)) (F0 m 25 ls []) := by
  obtain ⟨hx, hb, hr, hml, hown, hts, hlk, hK, hE, hI⟩ := id C
  have hD : ∀ σ : Sg, va_D (s_A ad 27 s.heap.size) ((s_WC cy ad) σ) := fun σ => s_D (s_WC_ad cy ad σ) hI (fun k hk => Or.inl ⟨k, hk, rfl⟩)
  unfold fX2_hasCell_23_b25 at hf
  refine lv_iconst (v := 0) hx hb dX2_hasCell_25 (by decide) ?_
  obtain ⟨he1, he2⟩ := s_ret hf
  exact W.zret hx hb hr rfl (fun t ht hW => ⟨⟨_, (), rfl, he1, s_fin (Wd := (s_WC cy ad)) ht he2 hP⟩, hS.F ht⟩) hS.2.2 dX2_hasCell_26 hlk
set_option maxRecDepth 100000 in
set_option maxHeartbeats 4000000 in
theorem kX2_hasCell_23 (C : s_X p s m meth c args cX2_hasCell (some .boolean) 2 RX2 G cy sa ad 27) (σ : Sg) (x1 : Int32) (ls : Array Slot) (H : Heap) (locs : List Loc) (hl : lv_has ls 2 [(0, .ref (ad 23)), (1, .int x1)]) (hP : va_P G vwCl ((s_WC cy ad) σ) H) (hS : va_S (s_A ad 27 s.heap.size) s.heap H locs) (hf : fX2_hasCell_23 σ x1 = some (re, σe)) : W p l e ({ frames := 0, cells := 0, slots := 0, locals := 0 } : Room) s m args below meth c H locs 0 0 (MQ below (s_Qi (s_WC cy ad) G (s_A ad 27 s.heap.size) re σe) args s 0 0 (s_A ad 27 s.heap.size)) (F0 m 0 ls []) := by
  obtain ⟨hx, hb, hr, hml, hown, hts, hlk, hK, hE, hI⟩ := id C
  have hD : ∀ σ : Sg, va_D (s_A ad 27 s.heap.size) ((s_WC cy ad) σ) := fun σ => s_D (s_WC_ad cy ad σ) hI (fun k hk => Or.inl ⟨k, hk, rfl⟩)
  unfold fX2_hasCell_23 at hf
  refine lv_iload_n hx hb dX2_hasCell_0 rfl (lv_at hl 1 rfl) ?_
  refine lv_if_lt (tgt := 25) hx hb dX2_hasCell_1 (by decide) (fun c1 => ?_) (fun c1 => ?_)
  · rw [if_pos c1] at hf
    exact kX2_hasCell_23_b25 C σ _ _ _ (lv_sub hl [] rfl) hP hS hf
  · rw [if_neg c1] at hf
    refine lv_iload_n hx hb dX2_hasCell_4 rfl (lv_at hl 1 rfl) ?_
    refine lv_aload_n hx hb dX2_hasCell_5 rfl (lv_at hl 0 rfl) ?_
    refine va_get (D := G) (ci := 2) (v := .int (σ 23 2)) (C := RX2) (T := TX2) (N := 3) hx hb hts inkX2 hown hK hP 23 rfl rfl 2 (by decide) (hts _ kw_240) (fun _ h9 => h9) rfl dX2_hasCell_6 ?_
    refine lv_icmp_ge (tgt := 25) hx hb dX2_hasCell_9 (by decide) (fun c2 => ?_) (fun c2 => ?_)
    · rw [if_pos c2] at hf
      exact kX2_hasCell_23_b25 C σ _ _ _ (lv_sub hl [] rfl) hP hS hf
    · rw [if_neg c2] at hf
      refine lv_iload_n hx hb dX2_hasCell_12 rfl (lv_at hl 1 rfl) ?_
      refine lv_aload_n hx hb dX2_hasCell_13 rfl (lv_at hl 0 rfl) ?_
      refine va_get (D := G) (ci := 2) (v := .ref (ad 24)) (C := RX2) (T := TX2) (N := 3) hx hb hts inkX2 hown hK hP 23 rfl rfl 0 (by decide) (hts _ kw_237) (fun _ h9 => h9) rfl dX2_hasCell_14 ?_
      refine va_alen (v := (40 : Int32)) hx hb hK hP 24 1 rfl rfl (by show Int32.ofNat 40 = 40; decide) dX2_hasCell_17 ?_
      refine lv_icmp_ge (tgt := 25) hx hb dX2_hasCell_18 (by decide) (fun c3 => ?_) (fun c3 => ?_)
      · rw [if_pos c3] at hf
        exact kX2_hasCell_23_b25 C σ _ _ _ (lv_sub hl [] rfl) hP hS hf
      · rw [if_neg c3] at hf
        refine lv_iconst (v := 1) hx hb dX2_hasCell_21 (by decide) ?_
        refine lv_goto (tgt := 26) hx hb dX2_hasCell_22 (by decide) ?_
        obtain ⟨he1, he2⟩ := s_ret hf
        exact W.zret hx hb hr rfl (fun t ht hW => ⟨⟨_, (), rfl, he1, s_fin (Wd := (s_WC cy ad)) ht he2 hP⟩, hS.F ht⟩) hS.2.2 dX2_hasCell_26 hlk
theorem kcX2_hasCell_23 {l : Launch} {G : va_G} {cy : Nat → ClassId} {sa : Nat × Nat} {ad : Nat → Nat}  {sz : Nat} (hI : s_inj ad 27) (σ : Sg) (x1 : Int32) {re : Int32} {σe : Sg} (hf : fX2_hasCell_23 σ x1 = some (re, σe)) : Met l yX2_hasCell (kW yX2_hasCell cX2_hasCell 2 (some .boolean)) ({ frames := 0, cells := 0, slots := 0, locals := 0 } : Room) (s_P (s_WC cy ad) G cy sa ad 27 [.ref (ad 23), .int x1] sz σ) (s_Qi (s_WC cy ad) G (s_A ad 27 sz) re σe) 0 0 (s_A ad 27 sz) := by
  refine s_met (own := RX2) (by decide) rfl hI (Nat.le_of_ble_eq_true rfl) (fun p e s m below meth c ls hsz C hP hl => ?_)
  subst hsz
  exact kX2_hasCell_23 C σ x1 ls _ _ hl hP va_S.rf hf
set_option maxRecDepth 100000 in
set_option maxHeartbeats 4000000 in
theorem kX2_write_23_b39 (C : s_X p s m meth c args cX2_write none 3 RX2 G cy sa ad 27) (σ : Sg) (y1 : Int32) (y2 : Int32) (ls : Array Slot) (H : Heap) (locs : List Loc) (hl : lv_has ls 3 []) (hP : va_P G vwCl ((s_WC cy ad) σ) H) (hS : va_S (s_A ad 27 s.heap.size) s.heap H locs) (hf : fX2_write_23_b39 σ y1 y2 = some σe) : W p l e ({ frames := 1, cells := 0, slots := 0, locals := 21 } : Room) s m args below meth c H locs 0 0 (MQ below (s_Qv (s_WC cy ad) G (s_A ad 27 s.heap.size) σe) args s 0 0 (s_A ad 27 s.heap.size)) (F0 m 39 ls [.int y2, .int y1, .ref (ad 24)]) := by
  obtain ⟨hx, hb, hr, hml, hown, hts, hlk, hK, hE, hI⟩ := id C
  have hD : ∀ σ : Sg, va_D (s_A ad 27 s.heap.size) ((s_WC cy ad) σ) := fun σ => s_D (s_WC_ad cy ad σ) hI (fun k hk => Or.inl ⟨k, hk, rfl⟩)
  unfold fX2_write_23_b39 at hf
  replace hf := s_gd_some hf
  obtain ⟨g1, hf⟩ := hf
  refine va_iast hx hb hK hP (hD _) hS 24 1 rfl rfl (s_in_of g1) dX2_write_39 (fun H locs hP _ hS => ?_)
  obtain ⟨σ2, eσ2⟩ : ∃ z : Sg, z = (s_up σ 24 (Int32.toNatClampNeg y1) y2) := ⟨_, rfl⟩
  replace hf := s_lt_at eσ2 hf
  replace hP : va_P G vwCl ((s_WC cy ad) σ2) H := by rw [eσ2]; exact hP
  have he2 := Option.some.inj hf
  exact W.vret hx hb hr (fun t ht hW => ⟨⟨(), rfl, trivial, s_fin (Wd := (s_WC cy ad)) ht he2 hP⟩, hS.F ht⟩) hS.2.2 dX2_write_40 hlk
set_option maxRecDepth 100000 in
set_option maxHeartbeats 4000000 in
theorem kX2_write_23 (C : s_X p s m meth c args cX2_write none 3 RX2 G cy sa ad 27) (σ : Sg) (x1 : Int32) (x2 : Int32) (ls : Array Slot) (H : Heap) (locs : List Loc) (hl : lv_has ls 3 [(0, .ref (ad 23)), (1, .int x1), (2, .int x2)]) (hP : va_P G vwCl ((s_WC cy ad) σ) H) (hS : va_S (s_A ad 27 s.heap.size) s.heap H locs) (hf : fX2_write_23 σ x1 x2 = some σe) : W p l e ({ frames := 1, cells := 0, slots := 0, locals := 21 } : Room) s m args below meth c H locs 0 0 (MQ below (s_Qv (s_WC cy ad) G (s_A ad 27 s.heap.size) σe) args s 0 0 (s_A ad 27 s.heap.size)) (F0 m 0 ls []) := by
  obtain ⟨hx, hb, hr, hml, hown, hts, hlk, hK, hE, hI⟩ := id C
  have hD : ∀ σ : Sg, va_D (s_A ad 27 s.heap.size) ((s_WC cy ad) σ) := fun σ => s_D (s_WC_ad cy ad σ) hI (fun k hk => Or.inl ⟨k, hk, rfl⟩)
  unfold fX2_write_23 at hf
  refine lv_aload_n hx hb dX2_write_0 rfl (lv_at hl 0 rfl) ?_
  refine lv_iload_n hx hb dX2_write_1 rfl (lv_at hl 1 rfl) ?_
  replace hf := s_bi_some hf
  obtain ⟨r3, σ1, hz2, hf⟩ := hf
  refine s_calli (nn := 1) C (kcX2_hasCell_23 (l := l) (G := G) (cy := cy) (sa := sa) hI (sz := H.size) σ x1 hz2) gk_X2_28 rfl rfl (by decide +kernel) ⟨Nat.le_of_ble_eq_true rfl, Nat.le_of_ble_eq_true rfl⟩ hP hS (q0 := 23) (ci := 2) rfl rfl rfl (As := [.int x1]) (rest := []) rfl rfl hl.1 (Nat.le_of_ble_eq_true rfl) dX2_write_2 (fun H locs hP hS => ?_)
  refine lv_if_eq (tgt := 40) hx hb dX2_write_5 (by decide) (fun c4 => ?_) (fun c4 => ?_)
  · rw [if_pos c4] at hf
    have he2 := Option.some.inj hf
    exact W.vret hx hb hr (fun t ht hW => ⟨⟨(), rfl, trivial, s_fin (Wd := (s_WC cy ad)) ht he2 hP⟩, hS.F ht⟩) hS.2.2 dX2_write_40 hlk
  · rw [if_neg c4] at hf
    refine lv_aload_n hx hb dX2_write_8 rfl (lv_at hl 0 rfl) ?_
    refine va_get (D := G) (ci := 2) (v := .ref (ad 24)) (C := RX2) (T := TX2) (N := 3) hx hb hts inkX2 hown hK hP 23 rfl rfl 0 (by decide) (hts _ kw_237) (fun _ h9 => h9) rfl dX2_write_9 ?_
    refine lv_iload_n hx hb dX2_write_12 rfl (lv_at hl 1 rfl) ?_
    refine lv_aload_n hx hb dX2_write_13 rfl (lv_at hl 0 rfl) ?_
    refine va_get (D := G) (ci := 2) (v := .int (σ1 23 1)) (C := RX2) (T := TX2) (N := 3) hx hb hts inkX2 hown hK hP 23 rfl rfl 1 (by decide) (hts _ kw_238) (fun _ h9 => h9) rfl dX2_write_14 ?_
    refine lv_if_ne (tgt := 25) hx hb dX2_write_17 (by decide) (fun c5 => ?_) (fun c5 => ?_)
    · rw [if_neg c5] at hf
      refine lv_aload_n hx hb dX2_write_25 rfl (lv_at hl 0 rfl) ?_
      refine va_get (D := G) (ci := 2) (v := .int (σ1 23 1)) (C := RX2) (T := TX2) (N := 3) hx hb hts inkX2 hown hK hP 23 rfl rfl 1 (by decide) (hts _ kw_238) (fun _ h9 => h9) rfl dX2_write_26 ?_
      refine lv_iconst (v := 1) hx hb dX2_write_29 (by decide) ?_
      refine lv_icmp_ne (tgt := 38) hx hb dX2_write_30 (by decide) (fun c6 => ?_) (fun c6 => ?_)
      · rw [if_neg c6] at hf
        refine lv_iload_n hx hb dX2_write_38 rfl (lv_at hl 2 rfl) ?_
        exact kX2_write_23_b39 C σ1 x1 x2 _ _ _ (lv_sub hl [] rfl) hP hS hf
      · rw [if_pos c6] at hf
        refine lv_iload_n hx hb dX2_write_33 rfl (lv_at hl 2 rfl) ?_
        refine lv_i2s (v := (Int16.toInt32 (Int32.toInt16 x2))) hx hb dX2_write_34 rfl ?_
        refine lv_goto (tgt := 39) hx hb dX2_write_35 (by decide) ?_
        exact kX2_write_23_b39 C σ1 x1 (Int16.toInt32 (Int32.toInt16 x2)) _ _ _ (lv_sub hl [] rfl) hP hS hf
    · rw [if_pos c5] at hf
      refine lv_iload_n hx hb dX2_write_20 rfl (lv_at hl 2 rfl) ?_
      refine lv_i2b (v := (Int8.toInt32 (Int32.toInt8 x2))) hx hb dX2_write_21 rfl ?_
      refine lv_goto (tgt := 39) hx hb dX2_write_22 (by decide) ?_
      exact kX2_write_23_b39 C σ1 x1 (Int8.toInt32 (Int32.toInt8 x2)) _ _ _ (lv_sub hl [] rfl) hP hS hf
theorem kcX2_write_23 {l : Launch} {G : va_G} {cy : Nat → ClassId} {sa : Nat × Nat} {ad : Nat → Nat}  {sz : Nat} (hI : s_inj ad 27) (σ : Sg) (x1 : Int32) (x2 : Int32) {σe : Sg} (hf : fX2_write_23 σ x1 x2 = some σe) : Met l yX2_write (kW yX2_write cX2_write 3 none) ({ frames := 1, cells := 0, slots := 0, locals := 21 } : Room) (s_P (s_WC cy ad) G cy sa ad 27 [.ref (ad 23), .int x1, .int x2] sz σ) (s_Qv (s_WC cy ad) G (s_A ad 27 sz) σe) 0 0 (s_A ad 27 sz) := by
  refine s_met (own := RX2) (by decide) rfl hI (Nat.le_of_ble_eq_true rfl) (fun p e s m below meth c ls hsz C hP hl => ?_)
  subst hsz
  exact kX2_write_23 C σ x1 x2 ls _ _ hl hP va_S.rf hf
set_option maxRecDepth 100000 in
set_option maxHeartbeats 4000000 in
theorem kX2_isNothing_25 (C : s_X p s m meth c args cX2_isNothing (some .boolean) 1 RX2 G cy sa ad 27) (σ : Sg) (ls : Array Slot) (H : Heap) (locs : List Loc) (hl : lv_has ls 1 [(0, .ref (ad 25))]) (hP : va_P G vwCl ((s_WC cy ad) σ) H) (hS : va_S (s_A ad 27 s.heap.size) s.heap H locs) (hf : fX2_isNothing_25 σ = some (re, σe)) : W p l e ({ frames := 0, cells := 0, slots := 0, locals := 0 } : Room) s m args below meth c H locs 0 0 (MQ below (s_Qi (s_WC cy ad) G (s_A ad 27 s.heap.size) re σe) args s 0 0 (s_A ad 27 s.heap.size)) (F0 m 0 ls []) := by
  obtain ⟨hx, hb, hr, hml, hown, hts, hlk, hK, hE, hI⟩ := id C
  have hD : ∀ σ : Sg, va_D (s_A ad 27 s.heap.size) ((s_WC cy ad) σ) := fun σ => s_D (s_WC_ad cy ad σ) hI (fun k hk => Or.inl ⟨k, hk, rfl⟩)
  unfold fX2_isNothing_25 at hf
  refine lv_aload_n hx hb dX2_isNothing_0 rfl (lv_at hl 0 rfl) ?_
  refine va_get (D := G) (ci := 2) (v := .int (σ 25 2)) (C := RX2) (T := TX2) (N := 3) hx hb hts inkX2 hown hK hP 25 rfl rfl 2 (by decide) (hts _ kw_240) (fun _ h9 => h9) rfl dX2_isNothing_1 ?_
  refine lv_iconst (v := -1) hx hb dX2_isNothing_4 (by decide) ?_
  refine lv_icmp_ne (tgt := 12) hx hb dX2_isNothing_5 (by decide) (fun c1 => ?_) (fun c1 => ?_)
  · rw [if_neg c1] at hf
    refine lv_iconst (v := 0) hx hb dX2_isNothing_12 (by decide) ?_
    obtain ⟨he1, he2⟩ := s_ret hf
    exact W.zret hx hb hr rfl (fun t ht hW => ⟨⟨_, (), rfl, he1, s_fin (Wd := (s_WC cy ad)) ht he2 hP⟩, hS.F ht⟩) hS.2.2 dX2_isNothing_13 hlk
  · rw [if_pos c1] at hf
    refine lv_iconst (v := 1) hx hb dX2_isNothing_8 (by decide) ?_
    refine lv_goto (tgt := 13) hx hb dX2_isNothing_9 (by decide) ?_
    obtain ⟨he1, he2⟩ := s_ret hf
    exact W.zret hx hb hr rfl (fun t ht hW => ⟨⟨_, (), rfl, he1, s_fin (Wd := (s_WC cy ad)) ht he2 hP⟩, hS.F ht⟩) hS.2.2 dX2_isNothing_13 hlk
theorem kcX2_isNothing_25 {l : Launch} {G : va_G} {cy : Nat → ClassId} {sa : Nat × Nat} {ad : Nat → Nat}  {sz : Nat} (hI : s_inj ad 27) (σ : Sg) {re : Int32} {σe : Sg} (hf : fX2_isNothing_25 σ = some (re, σe)) : Met l yX2_isNothing (kW yX2_isNothing cX2_isNothing 1 (some .boolean)) ({ frames := 0, cells := 0, slots := 0, locals := 0 } : Room) (s_P (s_WC cy ad) G cy sa ad 27 [.ref (ad 25)] sz σ) (s_Qi (s_WC cy ad) G (s_A ad 27 sz) re σe) 0 0 (s_A ad 27 sz) := by
  refine s_met (own := RX2) (by decide) rfl hI (Nat.le_of_ble_eq_true rfl) (fun p e s m below meth c ls hsz C hP hl => ?_)
  subst hsz
  exact kX2_isNothing_25 C σ ls _ _ hl hP va_S.rf hf
set_option maxRecDepth 100000 in
set_option maxHeartbeats 4000000 in
theorem kX2_hasCell_25_b25 (C : s_X p s m meth c args cX2_hasCell (some .boolean) 2 RX2 G cy sa ad 27) (σ : Sg) (ls : Array Slot) (H : Heap) (locs : List Loc) (hl : lv_has ls 2 []) (hP : va_P G vwCl ((s_WC cy ad) σ) H) (hS : va_S (s_A ad 27 s.heap.size) s.heap H locs) (hf : fX2_hasCell_25_b25 σ = some (re, σe)) : W p l e ({ frames := 0, cells := 0, slots := 0, locals := 0 } : Room) s m args below meth c H locs 0 0 (MQ below (s_Qi (s_WC cy ad) G (s_A ad 27 s.heap.size) re σe) args s 0 0 (s_A ad 27 s.heap.size)) (F0 m 25 ls []) := by
  obtain ⟨hx, hb, hr, hml, hown, hts, hlk, hK, hE, hI⟩ := id C
  have hD : ∀ σ : Sg, va_D (s_A ad 27 s.heap.size) ((s_WC cy ad) σ) := fun σ => s_D (s_WC_ad cy ad σ) hI (fun k hk => Or.inl ⟨k, hk, rfl⟩)
  unfold fX2_hasCell_25_b25 at hf
  refine lv_iconst (v := 0) hx hb dX2_hasCell_25 (by decide) ?_
  obtain ⟨he1, he2⟩ := s_ret hf
  exact W.zret hx hb hr rfl (fun t ht hW => ⟨⟨_, (), rfl, he1, s_fin (Wd := (s_WC cy ad)) ht he2 hP⟩, hS.F ht⟩) hS.2.2 dX2_hasCell_26 hlk
set_option maxRecDepth 100000 in
set_option maxHeartbeats 4000000 in
theorem kX2_hasCell_25 (C : s_X p s m meth c args cX2_hasCell (some .boolean) 2 RX2 G cy sa ad 27) (σ : Sg) (x1 : Int32) (ls : Array Slot) (H : Heap) (locs : List Loc) (hl : lv_has ls 2 [(0, .ref (ad 25)), (1, .int x1)]) (hP : va_P G vwCl ((s_WC cy ad) σ) H) (hS : va_S (s_A ad 27 s.heap.size) s.heap H locs) (hf : fX2_hasCell_25 σ x1 = some (re, σe)) : W p l e ({ frames := 0, cells := 0, slots := 0, locals := 0 } : Room) s m args below meth c H locs 0 0 (MQ below (s_Qi (s_WC cy ad) G (s_A ad 27 s.heap.size) re σe) args s 0 0 (s_A ad 27 s.heap.size)) (F0 m 0 ls []) := by
  obtain ⟨hx, hb, hr, hml, hown, hts, hlk, hK, hE, hI⟩ := id C
  have hD : ∀ σ : Sg, va_D (s_A ad 27 s.heap.size) ((s_WC cy ad) σ) := fun σ => s_D (s_WC_ad cy ad σ) hI (fun k hk => Or.inl ⟨k, hk, rfl⟩)
  unfold fX2_hasCell_25 at hf
  refine lv_iload_n hx hb dX2_hasCell_0 rfl (lv_at hl 1 rfl) ?_
  refine lv_if_lt (tgt := 25) hx hb dX2_hasCell_1 (by decide) (fun c1 => ?_) (fun c1 => ?_)
  · rw [if_pos c1] at hf
    exact kX2_hasCell_25_b25 C σ _ _ _ (lv_sub hl [] rfl) hP hS hf
  · rw [if_neg c1] at hf
    refine lv_iload_n hx hb dX2_hasCell_4 rfl (lv_at hl 1 rfl) ?_
    refine lv_aload_n hx hb dX2_hasCell_5 rfl (lv_at hl 0 rfl) ?_
    refine va_get (D := G) (ci := 2) (v := .int (σ 25 2)) (C := RX2) (T := TX2) (N := 3) hx hb hts inkX2 hown hK hP 25 rfl rfl 2 (by decide) (hts _ kw_240) (fun _ h9 => h9) rfl dX2_hasCell_6 ?_
    refine lv_icmp_ge (tgt := 25) hx hb dX2_hasCell_9 (by decide) (fun c2 => ?_) (fun c2 => ?_)
    · rw [if_pos c2] at hf
      exact kX2_hasCell_25_b25 C σ _ _ _ (lv_sub hl [] rfl) hP hS hf
    · rw [if_neg c2] at hf
      refine lv_iload_n hx hb dX2_hasCell_12 rfl (lv_at hl 1 rfl) ?_
      refine lv_aload_n hx hb dX2_hasCell_13 rfl (lv_at hl 0 rfl) ?_
      refine va_get (D := G) (ci := 2) (v := .ref (ad 26)) (C := RX2) (T := TX2) (N := 3) hx hb hts inkX2 hown hK hP 25 rfl rfl 0 (by decide) (hts _ kw_237) (fun _ h9 => h9) rfl dX2_hasCell_14 ?_
      refine va_alen (v := (40 : Int32)) hx hb hK hP 26 1 rfl rfl (by show Int32.ofNat 40 = 40; decide) dX2_hasCell_17 ?_
      refine lv_icmp_ge (tgt := 25) hx hb dX2_hasCell_18 (by decide) (fun c3 => ?_) (fun c3 => ?_)
      · rw [if_pos c3] at hf
        exact kX2_hasCell_25_b25 C σ _ _ _ (lv_sub hl [] rfl) hP hS hf
      · rw [if_neg c3] at hf
        refine lv_iconst (v := 1) hx hb dX2_hasCell_21 (by decide) ?_
        refine lv_goto (tgt := 26) hx hb dX2_hasCell_22 (by decide) ?_
        obtain ⟨he1, he2⟩ := s_ret hf
        exact W.zret hx hb hr rfl (fun t ht hW => ⟨⟨_, (), rfl, he1, s_fin (Wd := (s_WC cy ad)) ht he2 hP⟩, hS.F ht⟩) hS.2.2 dX2_hasCell_26 hlk
theorem kcX2_hasCell_25 {l : Launch} {G : va_G} {cy : Nat → ClassId} {sa : Nat × Nat} {ad : Nat → Nat}  {sz : Nat} (hI : s_inj ad 27) (σ : Sg) (x1 : Int32) {re : Int32} {σe : Sg} (hf : fX2_hasCell_25 σ x1 = some (re, σe)) : Met l yX2_hasCell (kW yX2_hasCell cX2_hasCell 2 (some .boolean)) ({ frames := 0, cells := 0, slots := 0, locals := 0 } : Room) (s_P (s_WC cy ad) G cy sa ad 27 [.ref (ad 25), .int x1] sz σ) (s_Qi (s_WC cy ad) G (s_A ad 27 sz) re σe) 0 0 (s_A ad 27 sz) := by
  refine s_met (own := RX2) (by decide) rfl hI (Nat.le_of_ble_eq_true rfl) (fun p e s m below meth c ls hsz C hP hl => ?_)
  subst hsz
  exact kX2_hasCell_25 C σ x1 ls _ _ hl hP va_S.rf hf
set_option maxRecDepth 100000 in
set_option maxHeartbeats 4000000 in
theorem kX2_write_25_b39 (C : s_X p s m meth c args cX2_write none 3 RX2 G cy sa ad 27) (σ : Sg) (y1 : Int32) (y2 : Int32) (ls : Array Slot) (H : Heap) (locs : List Loc) (hl : lv_has ls 3 []) (hP : va_P G vwCl ((s_WC cy ad) σ) H) (hS : va_S (s_A ad 27 s.heap.size) s.heap H locs) (hf : fX2_write_25_b39 σ y1 y2 = some σe) : W p l e ({ frames := 1, cells := 0, slots := 0, locals := 21 } : Room) s m args below meth c H locs 0 0 (MQ below (s_Qv (s_WC cy ad) G (s_A ad 27 s.heap.size) σe) args s 0 0 (s_A ad 27 s.heap.size)) (F0 m 39 ls [.int y2, .int y1, .ref (ad 26)]) := by
  obtain ⟨hx, hb, hr, hml, hown, hts, hlk, hK, hE, hI⟩ := id C
  have hD : ∀ σ : Sg, va_D (s_A ad 27 s.heap.size) ((s_WC cy ad) σ) := fun σ => s_D (s_WC_ad cy ad σ) hI (fun k hk => Or.inl ⟨k, hk, rfl⟩)
  unfold fX2_write_25_b39 at hf
  replace hf := s_gd_some hf
  obtain ⟨g1, hf⟩ := hf
  refine va_iast hx hb hK hP (hD _) hS 26 1 rfl rfl (s_in_of g1) dX2_write_39 (fun H locs hP _ hS => ?_)
  obtain ⟨σ2, eσ2⟩ : ∃ z : Sg, z = (s_up σ 26 (Int32.toNatClampNeg y1) y2) := ⟨_, rfl⟩
  replace hf := s_lt_at eσ2 hf
  replace hP : va_P G vwCl ((s_WC cy ad) σ2) H := by rw [eσ2]; exact hP
  have he2 := Option.some.inj hf
  exact W.vret hx hb hr (fun t ht hW => ⟨⟨(), rfl, trivial, s_fin (Wd := (s_WC cy ad)) ht he2 hP⟩, hS.F ht⟩) hS.2.2 dX2_write_40 hlk
set_option maxRecDepth 100000 in
set_option maxHeartbeats 4000000 in
theorem kX2_write_25 (C : s_X p s m meth c args cX2_write none 3 RX2 G cy sa ad 27) (σ : Sg) (x1 : Int32) (x2 : Int32) (ls : Array Slot) (H : Heap) (locs : List Loc) (hl : lv_has ls 3 [(0, .ref (ad 25)), (1, .int x1), (2, .int x2)]) (hP : va_P G vwCl ((s_WC cy ad) σ) H) (hS : va_S (s_A ad 27 s.heap.size) s.heap H locs) (hf : fX2_write_25 σ x1 x2 = some σe) : W p l e ({ frames := 1, cells := 0, slots := 0, locals := 21 } : Room) s m args below meth c H locs 0 0 (MQ below (s_Qv (s_WC cy ad) G (s_A ad 27 s.heap.size) σe) args s 0 0 (s_A ad 27 s.heap.size)) (F0 m 0 ls []) := by
  obtain ⟨hx, hb, hr, hml, hown, hts, hlk, hK, hE, hI⟩ := id C
  have hD : ∀ σ : Sg, va_D (s_A ad 27 s.heap.size) ((s_WC cy ad) σ) := fun σ => s_D (s_WC_ad cy ad σ) hI (fun k hk => Or.inl ⟨k, hk, rfl⟩)
  unfold fX2_write_25 at hf
  refine lv_aload_n hx hb dX2_write_0 rfl (lv_at hl 0 rfl) ?_
  refine lv_iload_n hx hb dX2_write_1 rfl (lv_at hl 1 rfl) ?_
  replace hf := s_bi_some hf
  obtain ⟨r3, σ1, hz2, hf⟩ := hf
  refine s_calli (nn := 1) C (kcX2_hasCell_25 (l := l) (G := G) (cy := cy) (sa := sa) hI (sz := H.size) σ x1 hz2) gk_X2_28 rfl rfl (by decide +kernel) ⟨Nat.le_of_ble_eq_true rfl, Nat.le_of_ble_eq_true rfl⟩ hP hS (q0 := 25) (ci := 2) rfl rfl rfl (As := [.int x1]) (rest := []) rfl rfl hl.1 (Nat.le_of_ble_eq_true rfl) dX2_write_2 (fun H locs hP hS => ?_)
  refine lv_if_eq (tgt := 40) hx hb dX2_write_5 (by decide) (fun c4 => ?_) (fun c4 => ?_)
  · rw [if_pos c4] at hf
    have he2 := Option.some.inj hf
    exact W.vret hx hb hr (fun t ht hW => ⟨⟨(), rfl, trivial, s_fin (Wd := (s_WC cy ad)) ht he2 hP⟩, hS.F ht⟩) hS.2.2 dX2_write_40 hlk
  · rw [if_neg c4] at hf
    refine lv_aload_n hx hb dX2_write_8 rfl (lv_at hl 0 rfl) ?_
    refine va_get (D := G) (ci := 2) (v := .ref (ad 26)) (C := RX2) (T := TX2) (N := 3) hx hb hts inkX2 hown hK hP 25 rfl rfl 0 (by decide) (hts _ kw_237) (fun _ h9 => h9) rfl dX2_write_9 ?_
    refine lv_iload_n hx hb dX2_write_12 rfl (lv_at hl 1 rfl) ?_
    refine lv_aload_n hx hb dX2_write_13 rfl (lv_at hl 0 rfl) ?_
    refine va_get (D := G) (ci := 2) (v := .int (σ1 25 1)) (C := RX2) (T := TX2) (N := 3) hx hb hts inkX2 hown hK hP 25 rfl rfl 1 (by decide) (hts _ kw_238) (fun _ h9 => h9) rfl dX2_write_14 ?_
    refine lv_if_ne (tgt := 25) hx hb dX2_write_17 (by decide) (fun c5 => ?_) (fun c5 => ?_)
    · rw [if_neg c5] at hf
      refine lv_aload_n hx hb dX2_write_25 rfl (lv_at hl 0 rfl) ?_
      refine va_get (D := G) (ci := 2) (v := .int (σ1 25 1)) (C := RX2) (T := TX2) (N := 3) hx hb hts inkX2 hown hK hP 25 rfl rfl 1 (by decide) (hts _ kw_238) (fun _ h9 => h9) rfl dX2_write_26 ?_
      refine lv_iconst (v := 1) hx hb dX2_write_29 (by decide) ?_
      refine lv_icmp_ne (tgt := 38) hx hb dX2_write_30 (by decide) (fun c6 => ?_) (fun c6 => ?_)
      · rw [if_neg c6] at hf
        refine lv_iload_n hx hb dX2_write_38 rfl (lv_at hl 2 rfl) ?_
        exact kX2_write_25_b39 C σ1 x1 x2 _ _ _ (lv_sub hl [] rfl) hP hS hf
      · rw [if_pos c6] at hf
        refine lv_iload_n hx hb dX2_write_33 rfl (lv_at hl 2 rfl) ?_
        refine lv_i2s (v := (Int16.toInt32 (Int32.toInt16 x2))) hx hb dX2_write_34 rfl ?_
        refine lv_goto (tgt := 39) hx hb dX2_write_35 (by decide) ?_
        exact kX2_write_25_b39 C σ1 x1 (Int16.toInt32 (Int32.toInt16 x2)) _ _ _ (lv_sub hl [] rfl) hP hS hf
    · rw [if_pos c5] at hf
      refine lv_iload_n hx hb dX2_write_20 rfl (lv_at hl 2 rfl) ?_
      refine lv_i2b (v := (Int8.toInt32 (Int32.toInt8 x2))) hx hb dX2_write_21 rfl ?_
      refine lv_goto (tgt := 39) hx hb dX2_write_22 (by decide) ?_
      exact kX2_write_25_b39 C σ1 x1 (Int8.toInt32 (Int32.toInt8 x2)) _ _ _ (lv_sub hl [] rfl) hP hS hf
theorem kcX2_write_25 {l : Launch} {G : va_G} {cy : Nat → ClassId} {sa : Nat × Nat} {ad : Nat → Nat}  {sz : Nat} (hI : s_inj ad 27) (σ : Sg) (x1 : Int32) (x2 : Int32) {σe : Sg} (hf : fX2_write_25 σ x1 x2 = some σe) : Met l yX2_write (kW yX2_write cX2_write 3 none) ({ frames := 1, cells := 0, slots := 0, locals := 21 } : Room) (s_P (s_WC cy ad) G cy sa ad 27 [.ref (ad 25), .int x1, .int x2] sz σ) (s_Qv (s_WC cy ad) G (s_A ad 27 sz) σe) 0 0 (s_A ad 27 sz) := by
  refine s_met (own := RX2) (by decide) rfl hI (Nat.le_of_ble_eq_true rfl) (fun p e s m below meth c ls hsz C hP hl => ?_)
  subst hsz
  exact kX2_write_25 C σ x1 x2 ls _ _ hl hP va_S.rf hf
set_option maxRecDepth 100000 in
set_option maxHeartbeats 4000000 in
theorem kX6_lay (C : s_X p s m meth c args cX6_lay (some .int) 5 RX6 G cy sa ad 27) (σ : Sg) (x1 : Int32) (x2 : Int32) (x3 : Int32) (ls : Array Slot) (H : Heap) (locs : List Loc) (hl : lv_has ls 5 [(0, .ref (ad 0)), (1, .int x1), (2, .int x2), (3, .int x3)]) (hP : va_P G vwCl ((s_WC cy ad) σ) H) (hS : va_S (s_A ad 27 s.heap.size) s.heap H locs) (hf : fX6_lay σ x1 x2 x3 = some (re, σe)) : W p l e ({ frames := 2, cells := 0, slots := 0, locals := 43 } : Room) s m args below meth c H locs 0 0 (MQ below (s_Qi (s_WC cy ad) G (s_A ad 27 s.heap.size) re σe) args s 0 0 (s_A ad 27 s.heap.size)) (F0 m 0 ls []) := by
  obtain ⟨hx, hb, hr, hml, hown, hts, hlk, hK, hE, hI⟩ := id C
  have hD : ∀ σ : Sg, va_D (s_A ad 27 s.heap.size) ((s_WC cy ad) σ) := fun σ => s_D (s_WC_ad cy ad σ) hI (fun k hk => Or.inl ⟨k, hk, rfl⟩)
  unfold fX6_lay at hf
  refine lv_aload_n hx hb dX6_lay_0 rfl (lv_at hl 0 rfl) ?_
  refine lv_iload_n hx hb dX6_lay_1 rfl (lv_at hl 1 rfl) ?_
  replace hf := s_bi_some hf
  obtain ⟨r3, σ1, hz2, hf⟩ := hf
  refine s_calli (nn := 1) C (kcX6_isSheet (l := l) (G := G) (cy := cy) (sa := sa) hI (sz := H.size) σ x1 hz2) gk_X6_223 rfl rfl (by decide +kernel) ⟨Nat.le_of_ble_eq_true rfl, Nat.le_of_ble_eq_true rfl⟩ hP hS (q0 := 0) (ci := 6) rfl rfl rfl (As := [.int x1]) (rest := []) rfl rfl hl.1 (Nat.le_of_ble_eq_true rfl) dX6_lay_2 (fun H locs hP hS => ?_)
  refine lv_if_ne (tgt := 10) hx hb dX6_lay_5 (by decide) (fun c4 => ?_) (fun c4 => ?_)
  · rw [if_neg c4] at hf
    refine lv_aload_n hx hb dX6_lay_10 rfl (lv_at hl 0 rfl) ?_
    refine va_get (D := G) (ci := 6) (v := .ref (ad 18)) (C := RX6) (T := TX6) (N := 9) hx hb hts inkX6 hown hK hP 0 rfl rfl 7 (by decide) (hts _ kw_257) (fun _ h9 => h9) rfl dX6_lay_11 ?_
    refine lv_iload_n hx hb dX6_lay_14 rfl (lv_at hl 1 rfl) ?_
    by_cases c5 : x1 = 0
    · rw [if_pos c5] at hf
      refine va_aldq hx hb hK hP 18 4 rfl rfl (by rw [c5]; unfold vp_in; decide) dX6_lay_15 ?_
      refine W.eq (g2 := F0 m 16 ls [.ref (ad 19)]) (by rw [c5]; rfl) ?_
      refine lv_astore (lv' := [(4, .ref (ad 19)), (0, .ref (ad 0)), (1, .int x1), (2, .int x2), (3, .int x3)]) hx hb dX6_lay_16 hl (by decide) rfl (fun ls hl => ?_)
      refine lv_aload hx hb dX6_lay_18 (lv_at hl 0 rfl) ?_
      replace hf := s_bi_some hf
      obtain ⟨r8, σ6, hz7, hf⟩ := hf
      refine s_calli (nn := 0) C (kcX2_isNothing_19 (l := l) (G := G) (cy := cy) (sa := sa) hI (sz := H.size) σ1 hz7) gk_X6_233 rfl rfl (by decide +kernel) ⟨Nat.le_of_ble_eq_true rfl, Nat.le_of_ble_eq_true rfl⟩ hP hS (q0 := 19) (ci := 2) rfl rfl rfl (As := []) (rest := []) rfl rfl hl.1 (Nat.le_of_ble_eq_true rfl) dX6_lay_20 (fun H locs hP hS => ?_)
      refine lv_if_eq (tgt := 29) hx hb dX6_lay_23 (by decide) (fun c9 => ?_) (fun c9 => ?_)
      · rw [if_pos c9] at hf
        refine lv_aload hx hb dX6_lay_29 (lv_at hl 0 rfl) ?_
        refine lv_iload_n hx hb dX6_lay_31 rfl (lv_at hl 3 rfl) ?_
        replace hf := s_bi_some hf
        obtain ⟨r12, σ10, hz11, hf⟩ := hf
        refine s_calli (nn := 1) C (kcX2_hasCell_19 (l := l) (G := G) (cy := cy) (sa := sa) hI (sz := H.size) σ6 x2 hz11) gk_X6_236 rfl rfl (by decide +kernel) ⟨Nat.le_of_ble_eq_true rfl, Nat.le_of_ble_eq_true rfl⟩ hP hS (q0 := 19) (ci := 2) rfl rfl rfl (As := [.int x2]) (rest := []) rfl rfl hl.1 (Nat.le_of_ble_eq_true rfl) dX6_lay_32 (fun H locs hP hS => ?_)
        refine lv_if_ne (tgt := 41) hx hb dX6_lay_35 (by decide) (fun c13 => ?_) (fun c13 => ?_)
        · rw [if_neg c13] at hf
          refine lv_aload hx hb dX6_lay_41 (lv_at hl 0 rfl) ?_
          refine lv_iload_n hx hb dX6_lay_43 rfl (lv_at hl 3 rfl) ?_
          refine lv_iload_n hx hb dX6_lay_44 rfl (lv_at hl 4 rfl) ?_
          replace hf := s_bv_some hf
          obtain ⟨σ14, hz15, hf⟩ := hf
          refine s_callv (nn := 2) C (kcX2_write_19 (l := l) (G := G) (cy := cy) (sa := sa) hI (sz := H.size) σ10 x2 x3 hz15) gk_X6_239 rfl rfl (by decide +kernel) ⟨Nat.le_of_ble_eq_true rfl, Nat.le_of_ble_eq_true rfl⟩ hP hS (q0 := 19) (ci := 2) rfl rfl rfl (As := [.int x2, .int x3]) (rest := []) rfl rfl hl.1 (Nat.le_of_ble_eq_true rfl) dX6_lay_45 (fun H locs hP hS => ?_)
          refine lv_iconst (v := 1) hx hb dX6_lay_48 (by decide) ?_
          obtain ⟨he1, he2⟩ := s_ret hf
          exact W.iret hx hb hr (fun t ht hW => ⟨⟨_, (), rfl, he1, s_fin (Wd := (s_WC cy ad)) ht he2 hP⟩, hS.F ht⟩) hS.2.2 dX6_lay_49 hlk
        · rw [if_pos c13] at hf
          refine lv_bipush (v := -12) hx hb dX6_lay_38 (by decide) ?_
          obtain ⟨he1, he2⟩ := s_ret hf
          exact W.iret hx hb hr (fun t ht hW => ⟨⟨_, (), rfl, he1, s_fin (Wd := (s_WC cy ad)) ht he2 hP⟩, hS.F ht⟩) hS.2.2 dX6_lay_40 hlk
      · rw [if_neg c9] at hf
        refine lv_bipush (v := -11) hx hb dX6_lay_26 (by decide) ?_
        obtain ⟨he1, he2⟩ := s_ret hf
        exact W.iret hx hb hr (fun t ht hW => ⟨⟨_, (), rfl, he1, s_fin (Wd := (s_WC cy ad)) ht he2 hP⟩, hS.F ht⟩) hS.2.2 dX6_lay_28 hlk
    · rw [if_neg c5] at hf
      by_cases c16 : x1 = 1
      · rw [if_pos c16] at hf
        refine va_aldq hx hb hK hP 18 4 rfl rfl (by rw [c16]; unfold vp_in; decide) dX6_lay_15 ?_
        refine W.eq (g2 := F0 m 16 ls [.ref (ad 21)]) (by rw [c16]; rfl) ?_
        refine lv_astore (lv' := [(4, .ref (ad 21)), (0, .ref (ad 0)), (1, .int x1), (2, .int x2), (3, .int x3)]) hx hb dX6_lay_16 hl (by decide) rfl (fun ls hl => ?_)
        refine lv_aload hx hb dX6_lay_18 (lv_at hl 0 rfl) ?_
        replace hf := s_bi_some hf
        obtain ⟨r19, σ17, hz18, hf⟩ := hf
        refine s_calli (nn := 0) C (kcX2_isNothing_21 (l := l) (G := G) (cy := cy) (sa := sa) hI (sz := H.size) σ1 hz18) gk_X6_233 rfl rfl (by decide +kernel) ⟨Nat.le_of_ble_eq_true rfl, Nat.le_of_ble_eq_true rfl⟩ hP hS (q0 := 21) (ci := 2) rfl rfl rfl (As := []) (rest := []) rfl rfl hl.1 (Nat.le_of_ble_eq_true rfl) dX6_lay_20 (fun H locs hP hS => ?_)
        refine lv_if_eq (tgt := 29) hx hb dX6_lay_23 (by decide) (fun c20 => ?_) (fun c20 => ?_)
        · rw [if_pos c20] at hf
          refine lv_aload hx hb dX6_lay_29 (lv_at hl 0 rfl) ?_
          refine lv_iload_n hx hb dX6_lay_31 rfl (lv_at hl 3 rfl) ?_
          replace hf := s_bi_some hf
          obtain ⟨r23, σ21, hz22, hf⟩ := hf
          refine s_calli (nn := 1) C (kcX2_hasCell_21 (l := l) (G := G) (cy := cy) (sa := sa) hI (sz := H.size) σ17 x2 hz22) gk_X6_236 rfl rfl (by decide +kernel) ⟨Nat.le_of_ble_eq_true rfl, Nat.le_of_ble_eq_true rfl⟩ hP hS (q0 := 21) (ci := 2) rfl rfl rfl (As := [.int x2]) (rest := []) rfl rfl hl.1 (Nat.le_of_ble_eq_true rfl) dX6_lay_32 (fun H locs hP hS => ?_)
          refine lv_if_ne (tgt := 41) hx hb dX6_lay_35 (by decide) (fun c24 => ?_) (fun c24 => ?_)
          · rw [if_neg c24] at hf
            refine lv_aload hx hb dX6_lay_41 (lv_at hl 0 rfl) ?_
            refine lv_iload_n hx hb dX6_lay_43 rfl (lv_at hl 3 rfl) ?_
            refine lv_iload_n hx hb dX6_lay_44 rfl (lv_at hl 4 rfl) ?_
            replace hf := s_bv_some hf
            obtain ⟨σ25, hz26, hf⟩ := hf
            refine s_callv (nn := 2) C (kcX2_write_21 (l := l) (G := G) (cy := cy) (sa := sa) hI (sz := H.size) σ21 x2 x3 hz26) gk_X6_239 rfl rfl (by decide +kernel) ⟨Nat.le_of_ble_eq_true rfl, Nat.le_of_ble_eq_true rfl⟩ hP hS (q0 := 21) (ci := 2) rfl rfl rfl (As := [.int x2, .int x3]) (rest := []) rfl rfl hl.1 (Nat.le_of_ble_eq_true rfl) dX6_lay_45 (fun H locs hP hS => ?_)
            refine lv_iconst (v := 1) hx hb dX6_lay_48 (by decide) ?_
            obtain ⟨he1, he2⟩ := s_ret hf
            exact W.iret hx hb hr (fun t ht hW => ⟨⟨_, (), rfl, he1, s_fin (Wd := (s_WC cy ad)) ht he2 hP⟩, hS.F ht⟩) hS.2.2 dX6_lay_49 hlk
          · rw [if_pos c24] at hf
            refine lv_bipush (v := -12) hx hb dX6_lay_38 (by decide) ?_
            obtain ⟨he1, he2⟩ := s_ret hf
            exact W.iret hx hb hr (fun t ht hW => ⟨⟨_, (), rfl, he1, s_fin (Wd := (s_WC cy ad)) ht he2 hP⟩, hS.F ht⟩) hS.2.2 dX6_lay_40 hlk
        · rw [if_neg c20] at hf
          refine lv_bipush (v := -11) hx hb dX6_lay_26 (by decide) ?_
          obtain ⟨he1, he2⟩ := s_ret hf
          exact W.iret hx hb hr (fun t ht hW => ⟨⟨_, (), rfl, he1, s_fin (Wd := (s_WC cy ad)) ht he2 hP⟩, hS.F ht⟩) hS.2.2 dX6_lay_28 hlk
      · rw [if_neg c16] at hf
        by_cases c27 : x1 = 2
        · rw [if_pos c27] at hf
          refine va_aldq hx hb hK hP 18 4 rfl rfl (by rw [c27]; unfold vp_in; decide) dX6_lay_15 ?_
          refine W.eq (g2 := F0 m 16 ls [.ref (ad 23)]) (by rw [c27]; rfl) ?_
          refine lv_astore (lv' := [(4, .ref (ad 23)), (0, .ref (ad 0)), (1, .int x1), (2, .int x2), (3, .int x3)]) hx hb dX6_lay_16 hl (by decide) rfl (fun ls hl => ?_)
          refine lv_aload hx hb dX6_lay_18 (lv_at hl 0 rfl) ?_
          replace hf := s_bi_some hf
          obtain ⟨r30, σ28, hz29, hf⟩ := hf
          refine s_calli (nn := 0) C (kcX2_isNothing_23 (l := l) (G := G) (cy := cy) (sa := sa) hI (sz := H.size) σ1 hz29) gk_X6_233 rfl rfl (by decide +kernel) ⟨Nat.le_of_ble_eq_true rfl, Nat.le_of_ble_eq_true rfl⟩ hP hS (q0 := 23) (ci := 2) rfl rfl rfl (As := []) (rest := []) rfl rfl hl.1 (Nat.le_of_ble_eq_true rfl) dX6_lay_20 (fun H locs hP hS => ?_)
          refine lv_if_eq (tgt := 29) hx hb dX6_lay_23 (by decide) (fun c31 => ?_) (fun c31 => ?_)
          · rw [if_pos c31] at hf
            refine lv_aload hx hb dX6_lay_29 (lv_at hl 0 rfl) ?_
            refine lv_iload_n hx hb dX6_lay_31 rfl (lv_at hl 3 rfl) ?_
            replace hf := s_bi_some hf
            obtain ⟨r34, σ32, hz33, hf⟩ := hf
            refine s_calli (nn := 1) C (kcX2_hasCell_23 (l := l) (G := G) (cy := cy) (sa := sa) hI (sz := H.size) σ28 x2 hz33) gk_X6_236 rfl rfl (by decide +kernel) ⟨Nat.le_of_ble_eq_true rfl, Nat.le_of_ble_eq_true rfl⟩ hP hS (q0 := 23) (ci := 2) rfl rfl rfl (As := [.int x2]) (rest := []) rfl rfl hl.1 (Nat.le_of_ble_eq_true rfl) dX6_lay_32 (fun H locs hP hS => ?_)
            refine lv_if_ne (tgt := 41) hx hb dX6_lay_35 (by decide) (fun c35 => ?_) (fun c35 => ?_)
            · rw [if_neg c35] at hf
              refine lv_aload hx hb dX6_lay_41 (lv_at hl 0 rfl) ?_
              refine lv_iload_n hx hb dX6_lay_43 rfl (lv_at hl 3 rfl) ?_
              refine lv_iload_n hx hb dX6_lay_44 rfl (lv_at hl 4 rfl) ?_
              replace hf := s_bv_some hf
              obtain ⟨σ36, hz37, hf⟩ := hf
              refine s_callv (nn := 2) C (kcX2_write_23 (l := l) (G := G) (cy := cy) (sa := sa) hI (sz := H.size) σ32 x2 x3 hz37) gk_X6_239 rfl rfl (by decide +kernel) ⟨Nat.le_of_ble_eq_true rfl, Nat.le_of_ble_eq_true rfl⟩ hP hS (q0 := 23) (ci := 2) rfl rfl rfl (As := [.int x2, .int x3]) (rest := []) rfl rfl hl.1 (Nat.le_of_ble_eq_true rfl) dX6_lay_45 (fun H locs hP hS => ?_)
              refine lv_iconst (v := 1) hx hb dX6_lay_48 (by decide) ?_
              obtain ⟨he1, he2⟩ := s_ret hf
              exact W.iret hx hb hr (fun t ht hW => ⟨⟨_, (), rfl, he1, s_fin (Wd := (s_WC cy ad)) ht he2 hP⟩, hS.F ht⟩) hS.2.2 dX6_lay_49 hlk
            · rw [if_pos c35] at hf
              refine lv_bipush (v := -12) hx hb dX6_lay_38 (by decide) ?_
              obtain ⟨he1, he2⟩ := s_ret hf
              exact W.iret hx hb hr (fun t ht hW => ⟨⟨_, (), rfl, he1, s_fin (Wd := (s_WC cy ad)) ht he2 hP⟩, hS.F ht⟩) hS.2.2 dX6_lay_40 hlk
          · rw [if_neg c31] at hf
            refine lv_bipush (v := -11) hx hb dX6_lay_26 (by decide) ?_
            obtain ⟨he1, he2⟩ := s_ret hf
            exact W.iret hx hb hr (fun t ht hW => ⟨⟨_, (), rfl, he1, s_fin (Wd := (s_WC cy ad)) ht he2 hP⟩, hS.F ht⟩) hS.2.2 dX6_lay_28 hlk
        · rw [if_neg c27] at hf
          by_cases c38 : x1 = 3
          · rw [if_pos c38] at hf
            refine va_aldq hx hb hK hP 18 4 rfl rfl (by rw [c38]; unfold vp_in; decide) dX6_lay_15 ?_
            refine W.eq (g2 := F0 m 16 ls [.ref (ad 25)]) (by rw [c38]; rfl) ?_
            refine lv_astore (lv' := [(4, .ref (ad 25)), (0, .ref (ad 0)), (1, .int x1), (2, .int x2), (3, .int x3)]) hx hb dX6_lay_16 hl (by decide) rfl (fun ls hl => ?_)
            refine lv_aload hx hb dX6_lay_18 (lv_at hl 0 rfl) ?_
            replace hf := s_bi_some hf
            obtain ⟨r41, σ39, hz40, hf⟩ := hf
            refine s_calli (nn := 0) C (kcX2_isNothing_25 (l := l) (G := G) (cy := cy) (sa := sa) hI (sz := H.size) σ1 hz40) gk_X6_233 rfl rfl (by decide +kernel) ⟨Nat.le_of_ble_eq_true rfl, Nat.le_of_ble_eq_true rfl⟩ hP hS (q0 := 25) (ci := 2) rfl rfl rfl (As := []) (rest := []) rfl rfl hl.1 (Nat.le_of_ble_eq_true rfl) dX6_lay_20 (fun H locs hP hS => ?_)
            refine lv_if_eq (tgt := 29) hx hb dX6_lay_23 (by decide) (fun c42 => ?_) (fun c42 => ?_)
            · rw [if_pos c42] at hf
              refine lv_aload hx hb dX6_lay_29 (lv_at hl 0 rfl) ?_
              refine lv_iload_n hx hb dX6_lay_31 rfl (lv_at hl 3 rfl) ?_
              replace hf := s_bi_some hf
              obtain ⟨r45, σ43, hz44, hf⟩ := hf
              refine s_calli (nn := 1) C (kcX2_hasCell_25 (l := l) (G := G) (cy := cy) (sa := sa) hI (sz := H.size) σ39 x2 hz44) gk_X6_236 rfl rfl (by decide +kernel) ⟨Nat.le_of_ble_eq_true rfl, Nat.le_of_ble_eq_true rfl⟩ hP hS (q0 := 25) (ci := 2) rfl rfl rfl (As := [.int x2]) (rest := []) rfl rfl hl.1 (Nat.le_of_ble_eq_true rfl) dX6_lay_32 (fun H locs hP hS => ?_)
              refine lv_if_ne (tgt := 41) hx hb dX6_lay_35 (by decide) (fun c46 => ?_) (fun c46 => ?_)
              · rw [if_neg c46] at hf
                refine lv_aload hx hb dX6_lay_41 (lv_at hl 0 rfl) ?_
                refine lv_iload_n hx hb dX6_lay_43 rfl (lv_at hl 3 rfl) ?_
                refine lv_iload_n hx hb dX6_lay_44 rfl (lv_at hl 4 rfl) ?_
                replace hf := s_bv_some hf
                obtain ⟨σ47, hz48, hf⟩ := hf
                refine s_callv (nn := 2) C (kcX2_write_25 (l := l) (G := G) (cy := cy) (sa := sa) hI (sz := H.size) σ43 x2 x3 hz48) gk_X6_239 rfl rfl (by decide +kernel) ⟨Nat.le_of_ble_eq_true rfl, Nat.le_of_ble_eq_true rfl⟩ hP hS (q0 := 25) (ci := 2) rfl rfl rfl (As := [.int x2, .int x3]) (rest := []) rfl rfl hl.1 (Nat.le_of_ble_eq_true rfl) dX6_lay_45 (fun H locs hP hS => ?_)
                refine lv_iconst (v := 1) hx hb dX6_lay_48 (by decide) ?_
                obtain ⟨he1, he2⟩ := s_ret hf
                exact W.iret hx hb hr (fun t ht hW => ⟨⟨_, (), rfl, he1, s_fin (Wd := (s_WC cy ad)) ht he2 hP⟩, hS.F ht⟩) hS.2.2 dX6_lay_49 hlk
              · rw [if_pos c46] at hf
                refine lv_bipush (v := -12) hx hb dX6_lay_38 (by decide) ?_
                obtain ⟨he1, he2⟩ := s_ret hf
                exact W.iret hx hb hr (fun t ht hW => ⟨⟨_, (), rfl, he1, s_fin (Wd := (s_WC cy ad)) ht he2 hP⟩, hS.F ht⟩) hS.2.2 dX6_lay_40 hlk
            · rw [if_neg c42] at hf
              refine lv_bipush (v := -11) hx hb dX6_lay_26 (by decide) ?_
              obtain ⟨he1, he2⟩ := s_ret hf
              exact W.iret hx hb hr (fun t ht hW => ⟨⟨_, (), rfl, he1, s_fin (Wd := (s_WC cy ad)) ht he2 hP⟩, hS.F ht⟩) hS.2.2 dX6_lay_28 hlk
          · rw [if_neg c38] at hf
            cases hf
  · rw [if_pos c4] at hf
    refine lv_iconst (v := -1) hx hb dX6_lay_8 (by decide) ?_
    obtain ⟨he1, he2⟩ := s_ret hf
    exact W.iret hx hb hr (fun t ht hW => ⟨⟨_, (), rfl, he1, s_fin (Wd := (s_WC cy ad)) ht he2 hP⟩, hS.F ht⟩) hS.2.2 dX6_lay_9 hlk
theorem kcX6_lay {l : Launch} {G : va_G} {cy : Nat → ClassId} {sa : Nat × Nat} {ad : Nat → Nat}  {sz : Nat} (hI : s_inj ad 27) (σ : Sg) (x1 : Int32) (x2 : Int32) (x3 : Int32) {re : Int32} {σe : Sg} (hf : fX6_lay σ x1 x2 x3 = some (re, σe)) : Met l yX6_lay (kW yX6_lay cX6_lay 5 (some .int)) ({ frames := 2, cells := 0, slots := 0, locals := 43 } : Room) (s_P (s_WC cy ad) G cy sa ad 27 [.ref (ad 0), .int x1, .int x2, .int x3] sz σ) (s_Qi (s_WC cy ad) G (s_A ad 27 sz) re σe) 0 0 (s_A ad 27 sz) := by
  refine s_met (own := RX6) (by decide) rfl hI (Nat.le_of_ble_eq_true rfl) (fun p e s m below meth c ls hsz C hP hl => ?_)
  subst hsz
  exact kX6_lay C σ x1 x2 x3 ls _ _ hl hP va_S.rf hf
set_option maxRecDepth 100000 in
set_option maxHeartbeats 4000000 in
theorem kX6_tearAt_19 (C : s_X p s m meth c args cX6_tearAt (some .int) 3 RX6 G cy sa ad 27) (σ : Sg) (x1 : Int32) (x2 : Int32) (ls : Array Slot) (H : Heap) (locs : List Loc) (hl : lv_has ls 3 [(0, .ref (ad 19)), (1, .int x1), (2, .int x2)]) (hP : va_P G vwCl ((s_WC cy ad) σ) H) (hS : va_S (s_A ad 27 s.heap.size) s.heap H locs) (hf : fX6_tearAt_19 σ x1 x2 = some (re, σe)) : W p l e ({ frames := 1, cells := 0, slots := 0, locals := 21 } : Room) s m args below meth c H locs 0 0 (MQ below (s_Qi (s_WC cy ad) G (s_A ad 27 s.heap.size) re σe) args s 0 0 (s_A ad 27 s.heap.size)) (F0 m 0 ls []) := by
  obtain ⟨hx, hb, hr, hml, hown, hts, hlk, hK, hE, hI⟩ := id C
  have hD : ∀ σ : Sg, va_D (s_A ad 27 s.heap.size) ((s_WC cy ad) σ) := fun σ => s_D (s_WC_ad cy ad σ) hI (fun k hk => Or.inl ⟨k, hk, rfl⟩)
  unfold fX6_tearAt_19 at hf
  refine lv_aload_n hx hb dX6_tearAt_0 rfl (lv_at hl 0 rfl) ?_
  replace hf := s_bi_some hf
  obtain ⟨r3, σ1, hz2, hf⟩ := hf
  refine s_calli (nn := 0) C (kcX2_isNothing_19 (l := l) (G := G) (cy := cy) (sa := sa) hI (sz := H.size) σ hz2) gk_X6_233 rfl rfl (by decide +kernel) ⟨Nat.le_of_ble_eq_true rfl, Nat.le_of_ble_eq_true rfl⟩ hP hS (q0 := 19) (ci := 2) rfl rfl rfl (As := []) (rest := []) rfl rfl hl.1 (Nat.le_of_ble_eq_true rfl) dX6_tearAt_1 (fun H locs hP hS => ?_)
  refine lv_if_eq (tgt := 9) hx hb dX6_tearAt_4 (by decide) (fun c4 => ?_) (fun c4 => ?_)
  · rw [if_pos c4] at hf
    refine lv_aload_n hx hb dX6_tearAt_9 rfl (lv_at hl 0 rfl) ?_
    refine va_getN (D := G) (ci := 2) (v := .int (σ1 19 1)) (C := RX2) (T := TX2) (N := 3) hx hb hts inkX2 hown hK hP 19 rfl rfl 1 (by decide) (kn_X6_266 hE) (fun _ h9 => h9) rfl dX6_tearAt_10 ?_
    refine lv_iload_n hx hb dX6_tearAt_13 rfl (lv_at hl 1 rfl) ?_
    refine lv_icmp_eq (tgt := 19) hx hb dX6_tearAt_14 (by decide) (fun c5 => ?_) (fun c5 => ?_)
    · rw [if_pos c5] at hf
      refine lv_aload_n hx hb dX6_tearAt_19 rfl (lv_at hl 0 rfl) ?_
      refine lv_iload_n hx hb dX6_tearAt_20 rfl (lv_at hl 2 rfl) ?_
      replace hf := s_bi_some hf
      obtain ⟨r8, σ6, hz7, hf⟩ := hf
      refine s_calli (nn := 1) C (kcX2_hasCell_19 (l := l) (G := G) (cy := cy) (sa := sa) hI (sz := H.size) σ1 x2 hz7) gk_X6_236 rfl rfl (by decide +kernel) ⟨Nat.le_of_ble_eq_true rfl, Nat.le_of_ble_eq_true rfl⟩ hP hS (q0 := 19) (ci := 2) rfl rfl rfl (As := [.int x2]) (rest := []) rfl rfl hl.1 (Nat.le_of_ble_eq_true rfl) dX6_tearAt_21 (fun H locs hP hS => ?_)
      refine lv_if_eq (tgt := 31) hx hb dX6_tearAt_24 (by decide) (fun c9 => ?_) (fun c9 => ?_)
      · rw [if_pos c9] at hf
        refine lv_iconst (v := 2) hx hb dX6_tearAt_31 (by decide) ?_
        obtain ⟨he1, he2⟩ := s_ret hf
        exact W.iret hx hb hr (fun t ht hW => ⟨⟨_, (), rfl, he1, s_fin (Wd := (s_WC cy ad)) ht he2 hP⟩, hS.F ht⟩) hS.2.2 dX6_tearAt_32 hlk
      · rw [if_neg c9] at hf
        refine lv_iconst (v := 0) hx hb dX6_tearAt_27 (by decide) ?_
        refine lv_goto (tgt := 32) hx hb dX6_tearAt_28 (by decide) ?_
        obtain ⟨he1, he2⟩ := s_ret hf
        exact W.iret hx hb hr (fun t ht hW => ⟨⟨_, (), rfl, he1, s_fin (Wd := (s_WC cy ad)) ht he2 hP⟩, hS.F ht⟩) hS.2.2 dX6_tearAt_32 hlk
    · rw [if_neg c5] at hf
      refine lv_iconst (v := 3) hx hb dX6_tearAt_17 (by decide) ?_
      obtain ⟨he1, he2⟩ := s_ret hf
      exact W.iret hx hb hr (fun t ht hW => ⟨⟨_, (), rfl, he1, s_fin (Wd := (s_WC cy ad)) ht he2 hP⟩, hS.F ht⟩) hS.2.2 dX6_tearAt_18 hlk
  · rw [if_neg c4] at hf
    refine lv_iconst (v := 1) hx hb dX6_tearAt_7 (by decide) ?_
    obtain ⟨he1, he2⟩ := s_ret hf
    exact W.iret hx hb hr (fun t ht hW => ⟨⟨_, (), rfl, he1, s_fin (Wd := (s_WC cy ad)) ht he2 hP⟩, hS.F ht⟩) hS.2.2 dX6_tearAt_8 hlk
theorem kcX6_tearAt_19 {l : Launch} {G : va_G} {cy : Nat → ClassId} {sa : Nat × Nat} {ad : Nat → Nat}  {sz : Nat} (hI : s_inj ad 27) (σ : Sg) (x1 : Int32) (x2 : Int32) {re : Int32} {σe : Sg} (hf : fX6_tearAt_19 σ x1 x2 = some (re, σe)) : Met l yX6_tearAt (kW yX6_tearAt cX6_tearAt 3 (some .int)) ({ frames := 1, cells := 0, slots := 0, locals := 21 } : Room) (s_P (s_WC cy ad) G cy sa ad 27 [.ref (ad 19), .int x1, .int x2] sz σ) (s_Qi (s_WC cy ad) G (s_A ad 27 sz) re σe) 0 0 (s_A ad 27 sz) := by
  refine s_met (own := RX6) (by decide) rfl hI (Nat.le_of_ble_eq_true rfl) (fun p e s m below meth c ls hsz C hP hl => ?_)
  subst hsz
  exact kX6_tearAt_19 C σ x1 x2 ls _ _ hl hP va_S.rf hf
set_option maxRecDepth 100000 in
set_option maxHeartbeats 4000000 in
theorem kX2_valueAt_19 (C : s_X p s m meth c args cX2_valueAt (some .int) 2 RX2 G cy sa ad 27) (σ : Sg) (x1 : Int32) (ls : Array Slot) (H : Heap) (locs : List Loc) (hl : lv_has ls 2 [(0, .ref (ad 19)), (1, .int x1)]) (hP : va_P G vwCl ((s_WC cy ad) σ) H) (hS : va_S (s_A ad 27 s.heap.size) s.heap H locs) (hf : fX2_valueAt_19 σ x1 = some (re, σe)) : W p l e ({ frames := 1, cells := 0, slots := 0, locals := 21 } : Room) s m args below meth c H locs 0 0 (MQ below (s_Qi (s_WC cy ad) G (s_A ad 27 s.heap.size) re σe) args s 0 0 (s_A ad 27 s.heap.size)) (F0 m 0 ls []) := by
  obtain ⟨hx, hb, hr, hml, hown, hts, hlk, hK, hE, hI⟩ := id C
  have hD : ∀ σ : Sg, va_D (s_A ad 27 s.heap.size) ((s_WC cy ad) σ) := fun σ => s_D (s_WC_ad cy ad σ) hI (fun k hk => Or.inl ⟨k, hk, rfl⟩)
  unfold fX2_valueAt_19 at hf
  refine lv_aload_n hx hb dX2_valueAt_0 rfl (lv_at hl 0 rfl) ?_
  refine lv_iload_n hx hb dX2_valueAt_1 rfl (lv_at hl 1 rfl) ?_
  replace hf := s_bi_some hf
  obtain ⟨r3, σ1, hz2, hf⟩ := hf
  refine s_calli (nn := 1) C (kcX2_hasCell_19 (l := l) (G := G) (cy := cy) (sa := sa) hI (sz := H.size) σ x1 hz2) gk_X2_28 rfl rfl (by decide +kernel) ⟨Nat.le_of_ble_eq_true rfl, Nat.le_of_ble_eq_true rfl⟩ hP hS (q0 := 19) (ci := 2) rfl rfl rfl (As := [.int x1]) (rest := []) rfl rfl hl.1 (Nat.le_of_ble_eq_true rfl) dX2_valueAt_2 (fun H locs hP hS => ?_)
  refine lv_if_eq (tgt := 17) hx hb dX2_valueAt_5 (by decide) (fun c4 => ?_) (fun c4 => ?_)
  · rw [if_pos c4] at hf
    refine lv_iconst (v := 0) hx hb dX2_valueAt_17 (by decide) ?_
    obtain ⟨he1, he2⟩ := s_ret hf
    exact W.iret hx hb hr (fun t ht hW => ⟨⟨_, (), rfl, he1, s_fin (Wd := (s_WC cy ad)) ht he2 hP⟩, hS.F ht⟩) hS.2.2 dX2_valueAt_18 hlk
  · rw [if_neg c4] at hf
    refine lv_aload_n hx hb dX2_valueAt_8 rfl (lv_at hl 0 rfl) ?_
    refine va_get (D := G) (ci := 2) (v := .ref (ad 20)) (C := RX2) (T := TX2) (N := 3) hx hb hts inkX2 hown hK hP 19 rfl rfl 0 (by decide) (hts _ kw_237) (fun _ h9 => h9) rfl dX2_valueAt_9 ?_
    refine lv_iload_n hx hb dX2_valueAt_12 rfl (lv_at hl 1 rfl) ?_
    replace hf := s_gd_some hf
    obtain ⟨g5, hf⟩ := hf
    refine va_iald hx hb hK hP 20 1 rfl rfl (s_in_of g5) dX2_valueAt_13 ?_
    refine lv_goto (tgt := 18) hx hb dX2_valueAt_14 (by decide) ?_
    obtain ⟨he1, he2⟩ := s_ret hf
    exact W.iret hx hb hr (fun t ht hW => ⟨⟨_, (), rfl, he1, s_fin (Wd := (s_WC cy ad)) ht he2 hP⟩, hS.F ht⟩) hS.2.2 dX2_valueAt_18 hlk
theorem kcX2_valueAt_19 {l : Launch} {G : va_G} {cy : Nat → ClassId} {sa : Nat × Nat} {ad : Nat → Nat}  {sz : Nat} (hI : s_inj ad 27) (σ : Sg) (x1 : Int32) {re : Int32} {σe : Sg} (hf : fX2_valueAt_19 σ x1 = some (re, σe)) : Met l yX2_valueAt (kW yX2_valueAt cX2_valueAt 2 (some .int)) ({ frames := 1, cells := 0, slots := 0, locals := 21 } : Room) (s_P (s_WC cy ad) G cy sa ad 27 [.ref (ad 19), .int x1] sz σ) (s_Qi (s_WC cy ad) G (s_A ad 27 sz) re σe) 0 0 (s_A ad 27 sz) := by
  refine s_met (own := RX2) (by decide) rfl hI (Nat.le_of_ble_eq_true rfl) (fun p e s m below meth c ls hsz C hP hl => ?_)
  subst hsz
  exact kX2_valueAt_19 C σ x1 ls _ _ hl hP va_S.rf hf
set_option maxRecDepth 100000 in
set_option maxHeartbeats 4000000 in
theorem kX2_valueAt_21 (C : s_X p s m meth c args cX2_valueAt (some .int) 2 RX2 G cy sa ad 27) (σ : Sg) (x1 : Int32) (ls : Array Slot) (H : Heap) (locs : List Loc) (hl : lv_has ls 2 [(0, .ref (ad 21)), (1, .int x1)]) (hP : va_P G vwCl ((s_WC cy ad) σ) H) (hS : va_S (s_A ad 27 s.heap.size) s.heap H locs) (hf : fX2_valueAt_21 σ x1 = some (re, σe)) : W p l e ({ frames := 1, cells := 0, slots := 0, locals := 21 } : Room) s m args below meth c H locs 0 0 (MQ below (s_Qi (s_WC cy ad) G (s_A ad 27 s.heap.size) re σe) args s 0 0 (s_A ad 27 s.heap.size)) (F0 m 0 ls []) := by
  obtain ⟨hx, hb, hr, hml, hown, hts, hlk, hK, hE, hI⟩ := id C
  have hD : ∀ σ : Sg, va_D (s_A ad 27 s.heap.size) ((s_WC cy ad) σ) := fun σ => s_D (s_WC_ad cy ad σ) hI (fun k hk => Or.inl ⟨k, hk, rfl⟩)
  unfold fX2_valueAt_21 at hf
  refine lv_aload_n hx hb dX2_valueAt_0 rfl (lv_at hl 0 rfl) ?_
  refine lv_iload_n hx hb dX2_valueAt_1 rfl (lv_at hl 1 rfl) ?_
  replace hf := s_bi_some hf
  obtain ⟨r3, σ1, hz2, hf⟩ := hf
  refine s_calli (nn := 1) C (kcX2_hasCell_21 (l := l) (G := G) (cy := cy) (sa := sa) hI (sz := H.size) σ x1 hz2) gk_X2_28 rfl rfl (by decide +kernel) ⟨Nat.le_of_ble_eq_true rfl, Nat.le_of_ble_eq_true rfl⟩ hP hS (q0 := 21) (ci := 2) rfl rfl rfl (As := [.int x1]) (rest := []) rfl rfl hl.1 (Nat.le_of_ble_eq_true rfl) dX2_valueAt_2 (fun H locs hP hS => ?_)
  refine lv_if_eq (tgt := 17) hx hb dX2_valueAt_5 (by decide) (fun c4 => ?_) (fun c4 => ?_)
  · rw [if_pos c4] at hf
    refine lv_iconst (v := 0) hx hb dX2_valueAt_17 (by decide) ?_
    obtain ⟨he1, he2⟩ := s_ret hf
    exact W.iret hx hb hr (fun t ht hW => ⟨⟨_, (), rfl, he1, s_fin (Wd := (s_WC cy ad)) ht he2 hP⟩, hS.F ht⟩) hS.2.2 dX2_valueAt_18 hlk
  · rw [if_neg c4] at hf
    refine lv_aload_n hx hb dX2_valueAt_8 rfl (lv_at hl 0 rfl) ?_
    refine va_get (D := G) (ci := 2) (v := .ref (ad 22)) (C := RX2) (T := TX2) (N := 3) hx hb hts inkX2 hown hK hP 21 rfl rfl 0 (by decide) (hts _ kw_237) (fun _ h9 => h9) rfl dX2_valueAt_9 ?_
    refine lv_iload_n hx hb dX2_valueAt_12 rfl (lv_at hl 1 rfl) ?_
    replace hf := s_gd_some hf
    obtain ⟨g5, hf⟩ := hf
    refine va_iald hx hb hK hP 22 1 rfl rfl (s_in_of g5) dX2_valueAt_13 ?_
    refine lv_goto (tgt := 18) hx hb dX2_valueAt_14 (by decide) ?_
    obtain ⟨he1, he2⟩ := s_ret hf
    exact W.iret hx hb hr (fun t ht hW => ⟨⟨_, (), rfl, he1, s_fin (Wd := (s_WC cy ad)) ht he2 hP⟩, hS.F ht⟩) hS.2.2 dX2_valueAt_18 hlk
theorem kcX2_valueAt_21 {l : Launch} {G : va_G} {cy : Nat → ClassId} {sa : Nat × Nat} {ad : Nat → Nat}  {sz : Nat} (hI : s_inj ad 27) (σ : Sg) (x1 : Int32) {re : Int32} {σe : Sg} (hf : fX2_valueAt_21 σ x1 = some (re, σe)) : Met l yX2_valueAt (kW yX2_valueAt cX2_valueAt 2 (some .int)) ({ frames := 1, cells := 0, slots := 0, locals := 21 } : Room) (s_P (s_WC cy ad) G cy sa ad 27 [.ref (ad 21), .int x1] sz σ) (s_Qi (s_WC cy ad) G (s_A ad 27 sz) re σe) 0 0 (s_A ad 27 sz) := by
  refine s_met (own := RX2) (by decide) rfl hI (Nat.le_of_ble_eq_true rfl) (fun p e s m below meth c ls hsz C hP hl => ?_)
  subst hsz
  exact kX2_valueAt_21 C σ x1 ls _ _ hl hP va_S.rf hf
set_option maxRecDepth 100000 in
set_option maxHeartbeats 4000000 in
theorem kX2_valueAt_23 (C : s_X p s m meth c args cX2_valueAt (some .int) 2 RX2 G cy sa ad 27) (σ : Sg) (x1 : Int32) (ls : Array Slot) (H : Heap) (locs : List Loc) (hl : lv_has ls 2 [(0, .ref (ad 23)), (1, .int x1)]) (hP : va_P G vwCl ((s_WC cy ad) σ) H) (hS : va_S (s_A ad 27 s.heap.size) s.heap H locs) (hf : fX2_valueAt_23 σ x1 = some (re, σe)) : W p l e ({ frames := 1, cells := 0, slots := 0, locals := 21 } : Room) s m args below meth c H locs 0 0 (MQ below (s_Qi (s_WC cy ad) G (s_A ad 27 s.heap.size) re σe) args s 0 0 (s_A ad 27 s.heap.size)) (F0 m 0 ls []) := by
  obtain ⟨hx, hb, hr, hml, hown, hts, hlk, hK, hE, hI⟩ := id C
  have hD : ∀ σ : Sg, va_D (s_A ad 27 s.heap.size) ((s_WC cy ad) σ) := fun σ => s_D (s_WC_ad cy ad σ) hI (fun k hk => Or.inl ⟨k, hk, rfl⟩)
  unfold fX2_valueAt_23 at hf
  refine lv_aload_n hx hb dX2_valueAt_0 rfl (lv_at hl 0 rfl) ?_
  refine lv_iload_n hx hb dX2_valueAt_1 rfl (lv_at hl 1 rfl) ?_
  replace hf := s_bi_some hf
  obtain ⟨r3, σ1, hz2, hf⟩ := hf
  refine s_calli (nn := 1) C (kcX2_hasCell_23 (l := l) (G := G) (cy := cy) (sa := sa) hI (sz := H.size) σ x1 hz2) gk_X2_28 rfl rfl (by decide +kernel) ⟨Nat.le_of_ble_eq_true rfl, Nat.le_of_ble_eq_true rfl⟩ hP hS (q0 := 23) (ci := 2) rfl rfl rfl (As := [.int x1]) (rest := []) rfl rfl hl.1 (Nat.le_of_ble_eq_true rfl) dX2_valueAt_2 (fun H locs hP hS => ?_)
  refine lv_if_eq (tgt := 17) hx hb dX2_valueAt_5 (by decide) (fun c4 => ?_) (fun c4 => ?_)
  · rw [if_pos c4] at hf
    refine lv_iconst (v := 0) hx hb dX2_valueAt_17 (by decide) ?_
    obtain ⟨he1, he2⟩ := s_ret hf
    exact W.iret hx hb hr (fun t ht hW => ⟨⟨_, (), rfl, he1, s_fin (Wd := (s_WC cy ad)) ht he2 hP⟩, hS.F ht⟩) hS.2.2 dX2_valueAt_18 hlk
  · rw [if_neg c4] at hf
    refine lv_aload_n hx hb dX2_valueAt_8 rfl (lv_at hl 0 rfl) ?_
    refine va_get (D := G) (ci := 2) (v := .ref (ad 24)) (C := RX2) (T := TX2) (N := 3) hx hb hts inkX2 hown hK hP 23 rfl rfl 0 (by decide) (hts _ kw_237) (fun _ h9 => h9) rfl dX2_valueAt_9 ?_
    refine lv_iload_n hx hb dX2_valueAt_12 rfl (lv_at hl 1 rfl) ?_
    replace hf := s_gd_some hf
    obtain ⟨g5, hf⟩ := hf
    refine va_iald hx hb hK hP 24 1 rfl rfl (s_in_of g5) dX2_valueAt_13 ?_
    refine lv_goto (tgt := 18) hx hb dX2_valueAt_14 (by decide) ?_
    obtain ⟨he1, he2⟩ := s_ret hf
    exact W.iret hx hb hr (fun t ht hW => ⟨⟨_, (), rfl, he1, s_fin (Wd := (s_WC cy ad)) ht he2 hP⟩, hS.F ht⟩) hS.2.2 dX2_valueAt_18 hlk
theorem kcX2_valueAt_23 {l : Launch} {G : va_G} {cy : Nat → ClassId} {sa : Nat × Nat} {ad : Nat → Nat}  {sz : Nat} (hI : s_inj ad 27) (σ : Sg) (x1 : Int32) {re : Int32} {σe : Sg} (hf : fX2_valueAt_23 σ x1 = some (re, σe)) : Met l yX2_valueAt (kW yX2_valueAt cX2_valueAt 2 (some .int)) ({ frames := 1, cells := 0, slots := 0, locals := 21 } : Room) (s_P (s_WC cy ad) G cy sa ad 27 [.ref (ad 23), .int x1] sz σ) (s_Qi (s_WC cy ad) G (s_A ad 27 sz) re σe) 0 0 (s_A ad 27 sz) := by
  refine s_met (own := RX2) (by decide) rfl hI (Nat.le_of_ble_eq_true rfl) (fun p e s m below meth c ls hsz C hP hl => ?_)
  subst hsz
  exact kX2_valueAt_23 C σ x1 ls _ _ hl hP va_S.rf hf
set_option maxRecDepth 100000 in
set_option maxHeartbeats 4000000 in
theorem kX2_valueAt_25 (C : s_X p s m meth c args cX2_valueAt (some .int) 2 RX2 G cy sa ad 27) (σ : Sg) (x1 : Int32) (ls : Array Slot) (H : Heap) (locs : List Loc) (hl : lv_has ls 2 [(0, .ref (ad 25)), (1, .int x1)]) (hP : va_P G vwCl ((s_WC cy ad) σ) H) (hS : va_S (s_A ad 27 s.heap.size) s.heap H locs) (hf : fX2_valueAt_25 σ x1 = some (re, σe)) : W p l e ({ frames := 1, cells := 0, slots := 0, locals := 21 } : Room) s m args below meth c H locs 0 0 (MQ below (s_Qi (s_WC cy ad) G (s_A ad 27 s.heap.size) re σe) args s 0 0 (s_A ad 27 s.heap.size)) (F0 m 0 ls []) := by
  obtain ⟨hx, hb, hr, hml, hown, hts, hlk, hK, hE, hI⟩ := id C
  have hD : ∀ σ : Sg, va_D (s_A ad 27 s.heap.size) ((s_WC cy ad) σ) := fun σ => s_D (s_WC_ad cy ad σ) hI (fun k hk => Or.inl ⟨k, hk, rfl⟩)
  unfold fX2_valueAt_25 at hf
  refine lv_aload_n hx hb dX2_valueAt_0 rfl (lv_at hl 0 rfl) ?_
  refine lv_iload_n hx hb dX2_valueAt_1 rfl (lv_at hl 1 rfl) ?_
  replace hf := s_bi_some hf
  obtain ⟨r3, σ1, hz2, hf⟩ := hf
  refine s_calli (nn := 1) C (kcX2_hasCell_25 (l := l) (G := G) (cy := cy) (sa := sa) hI (sz := H.size) σ x1 hz2) gk_X2_28 rfl rfl (by decide +kernel) ⟨Nat.le_of_ble_eq_true rfl, Nat.le_of_ble_eq_true rfl⟩ hP hS (q0 := 25) (ci := 2) rfl rfl rfl (As := [.int x1]) (rest := []) rfl rfl hl.1 (Nat.le_of_ble_eq_true rfl) dX2_valueAt_2 (fun H locs hP hS => ?_)
  refine lv_if_eq (tgt := 17) hx hb dX2_valueAt_5 (by decide) (fun c4 => ?_) (fun c4 => ?_)
  · rw [if_pos c4] at hf
    refine lv_iconst (v := 0) hx hb dX2_valueAt_17 (by decide) ?_
    obtain ⟨he1, he2⟩ := s_ret hf
    exact W.iret hx hb hr (fun t ht hW => ⟨⟨_, (), rfl, he1, s_fin (Wd := (s_WC cy ad)) ht he2 hP⟩, hS.F ht⟩) hS.2.2 dX2_valueAt_18 hlk
  · rw [if_neg c4] at hf
    refine lv_aload_n hx hb dX2_valueAt_8 rfl (lv_at hl 0 rfl) ?_
    refine va_get (D := G) (ci := 2) (v := .ref (ad 26)) (C := RX2) (T := TX2) (N := 3) hx hb hts inkX2 hown hK hP 25 rfl rfl 0 (by decide) (hts _ kw_237) (fun _ h9 => h9) rfl dX2_valueAt_9 ?_
    refine lv_iload_n hx hb dX2_valueAt_12 rfl (lv_at hl 1 rfl) ?_
    replace hf := s_gd_some hf
    obtain ⟨g5, hf⟩ := hf
    refine va_iald hx hb hK hP 26 1 rfl rfl (s_in_of g5) dX2_valueAt_13 ?_
    refine lv_goto (tgt := 18) hx hb dX2_valueAt_14 (by decide) ?_
    obtain ⟨he1, he2⟩ := s_ret hf
    exact W.iret hx hb hr (fun t ht hW => ⟨⟨_, (), rfl, he1, s_fin (Wd := (s_WC cy ad)) ht he2 hP⟩, hS.F ht⟩) hS.2.2 dX2_valueAt_18 hlk
theorem kcX2_valueAt_25 {l : Launch} {G : va_G} {cy : Nat → ClassId} {sa : Nat × Nat} {ad : Nat → Nat}  {sz : Nat} (hI : s_inj ad 27) (σ : Sg) (x1 : Int32) {re : Int32} {σe : Sg} (hf : fX2_valueAt_25 σ x1 = some (re, σe)) : Met l yX2_valueAt (kW yX2_valueAt cX2_valueAt 2 (some .int)) ({ frames := 1, cells := 0, slots := 0, locals := 21 } : Room) (s_P (s_WC cy ad) G cy sa ad 27 [.ref (ad 25), .int x1] sz σ) (s_Qi (s_WC cy ad) G (s_A ad 27 sz) re σe) 0 0 (s_A ad 27 sz) := by
  refine s_met (own := RX2) (by decide) rfl hI (Nat.le_of_ble_eq_true rfl) (fun p e s m below meth c ls hsz C hP hl => ?_)
  subst hsz
  exact kX2_valueAt_25 C σ x1 ls _ _ hl hP va_S.rf hf
set_option maxRecDepth 100000 in
set_option maxHeartbeats 4000000 in
theorem kX6_tearAt_21 (C : s_X p s m meth c args cX6_tearAt (some .int) 3 RX6 G cy sa ad 27) (σ : Sg) (x1 : Int32) (x2 : Int32) (ls : Array Slot) (H : Heap) (locs : List Loc) (hl : lv_has ls 3 [(0, .ref (ad 21)), (1, .int x1), (2, .int x2)]) (hP : va_P G vwCl ((s_WC cy ad) σ) H) (hS : va_S (s_A ad 27 s.heap.size) s.heap H locs) (hf : fX6_tearAt_21 σ x1 x2 = some (re, σe)) : W p l e ({ frames := 1, cells := 0, slots := 0, locals := 21 } : Room) s m args below meth c H locs 0 0 (MQ below (s_Qi (s_WC cy ad) G (s_A ad 27 s.heap.size) re σe) args s 0 0 (s_A ad 27 s.heap.size)) (F0 m 0 ls []) := by
  obtain ⟨hx, hb, hr, hml, hown, hts, hlk, hK, hE, hI⟩ := id C
  have hD : ∀ σ : Sg, va_D (s_A ad 27 s.heap.size) ((s_WC cy ad) σ) := fun σ => s_D (s_WC_ad cy ad σ) hI (fun k hk => Or.inl ⟨k, hk, rfl⟩)
  unfold fX6_tearAt_21 at hf
  refine lv_aload_n hx hb dX6_tearAt_0 rfl (lv_at hl 0 rfl) ?_
  replace hf := s_bi_some hf
  obtain ⟨r3, σ1, hz2, hf⟩ := hf
  refine s_calli (nn := 0) C (kcX2_isNothing_21 (l := l) (G := G) (cy := cy) (sa := sa) hI (sz := H.size) σ hz2) gk_X6_233 rfl rfl (by decide +kernel) ⟨Nat.le_of_ble_eq_true rfl, Nat.le_of_ble_eq_true rfl⟩ hP hS (q0 := 21) (ci := 2) rfl rfl rfl (As := []) (rest := []) rfl rfl hl.1 (Nat.le_of_ble_eq_true rfl) dX6_tearAt_1 (fun H locs hP hS => ?_)
  refine lv_if_eq (tgt := 9) hx hb dX6_tearAt_4 (by decide) (fun c4 => ?_) (fun c4 => ?_)
  · rw [if_pos c4] at hf
    refine lv_aload_n hx hb dX6_tearAt_9 rfl (lv_at hl 0 rfl) ?_
    refine va_getN (D := G) (ci := 2) (v := .int (σ1 21 1)) (C := RX2) (T := TX2) (N := 3) hx hb hts inkX2 hown hK hP 21 rfl rfl 1 (by decide) (kn_X6_266 hE) (fun _ h9 => h9) rfl dX6_tearAt_10 ?_
    refine lv_iload_n hx hb dX6_tearAt_13 rfl (lv_at hl 1 rfl) ?_
    refine lv_icmp_eq (tgt := 19) hx hb dX6_tearAt_14 (by decide) (fun c5 => ?_) (fun c5 => ?_)
    · rw [if_pos c5] at hf
      refine lv_aload_n hx hb dX6_tearAt_19 rfl (lv_at hl 0 rfl) ?_
      refine lv_iload_n hx hb dX6_tearAt_20 rfl (lv_at hl 2 rfl) ?_
      replace hf := s_bi_some hf
      obtain ⟨r8, σ6, hz7, hf⟩ := hf
      refine s_calli (nn := 1) C (kcX2_hasCell_21 (l := l) (G := G) (cy := cy) (sa := sa) hI (sz := H.size) σ1 x2 hz7) gk_X6_236 rfl rfl (by decide +kernel) ⟨Nat.le_of_ble_eq_true rfl, Nat.le_of_ble_eq_true rfl⟩ hP hS (q0 := 21) (ci := 2) rfl rfl rfl (As := [.int x2]) (rest := []) rfl rfl hl.1 (Nat.le_of_ble_eq_true rfl) dX6_tearAt_21 (fun H locs hP hS => ?_)
      refine lv_if_eq (tgt := 31) hx hb dX6_tearAt_24 (by decide) (fun c9 => ?_) (fun c9 => ?_)
      · rw [if_pos c9] at hf
        refine lv_iconst (v := 2) hx hb dX6_tearAt_31 (by decide) ?_
        obtain ⟨he1, he2⟩ := s_ret hf
        exact W.iret hx hb hr (fun t ht hW => ⟨⟨_, (), rfl, he1, s_fin (Wd := (s_WC cy ad)) ht he2 hP⟩, hS.F ht⟩) hS.2.2 dX6_tearAt_32 hlk
      · rw [if_neg c9] at hf
        refine lv_iconst (v := 0) hx hb dX6_tearAt_27 (by decide) ?_
        refine lv_goto (tgt := 32) hx hb dX6_tearAt_28 (by decide) ?_
        obtain ⟨he1, he2⟩ := s_ret hf
        exact W.iret hx hb hr (fun t ht hW => ⟨⟨_, (), rfl, he1, s_fin (Wd := (s_WC cy ad)) ht he2 hP⟩, hS.F ht⟩) hS.2.2 dX6_tearAt_32 hlk
    · rw [if_neg c5] at hf
      refine lv_iconst (v := 3) hx hb dX6_tearAt_17 (by decide) ?_
      obtain ⟨he1, he2⟩ := s_ret hf
      exact W.iret hx hb hr (fun t ht hW => ⟨⟨_, (), rfl, he1, s_fin (Wd := (s_WC cy ad)) ht he2 hP⟩, hS.F ht⟩) hS.2.2 dX6_tearAt_18 hlk
  · rw [if_neg c4] at hf
    refine lv_iconst (v := 1) hx hb dX6_tearAt_7 (by decide) ?_
    obtain ⟨he1, he2⟩ := s_ret hf
    exact W.iret hx hb hr (fun t ht hW => ⟨⟨_, (), rfl, he1, s_fin (Wd := (s_WC cy ad)) ht he2 hP⟩, hS.F ht⟩) hS.2.2 dX6_tearAt_8 hlk
theorem kcX6_tearAt_21 {l : Launch} {G : va_G} {cy : Nat → ClassId} {sa : Nat × Nat} {ad : Nat → Nat}  {sz : Nat} (hI : s_inj ad 27) (σ : Sg) (x1 : Int32) (x2 : Int32) {re : Int32} {σe : Sg} (hf : fX6_tearAt_21 σ x1 x2 = some (re, σe)) : Met l yX6_tearAt (kW yX6_tearAt cX6_tearAt 3 (some .int)) ({ frames := 1, cells := 0, slots := 0, locals := 21 } : Room) (s_P (s_WC cy ad) G cy sa ad 27 [.ref (ad 21), .int x1, .int x2] sz σ) (s_Qi (s_WC cy ad) G (s_A ad 27 sz) re σe) 0 0 (s_A ad 27 sz) := by
  refine s_met (own := RX6) (by decide) rfl hI (Nat.le_of_ble_eq_true rfl) (fun p e s m below meth c ls hsz C hP hl => ?_)
  subst hsz
  exact kX6_tearAt_21 C σ x1 x2 ls _ _ hl hP va_S.rf hf
set_option maxRecDepth 100000 in
set_option maxHeartbeats 4000000 in
theorem kX6_tearAt_23 (C : s_X p s m meth c args cX6_tearAt (some .int) 3 RX6 G cy sa ad 27) (σ : Sg) (x1 : Int32) (x2 : Int32) (ls : Array Slot) (H : Heap) (locs : List Loc) (hl : lv_has ls 3 [(0, .ref (ad 23)), (1, .int x1), (2, .int x2)]) (hP : va_P G vwCl ((s_WC cy ad) σ) H) (hS : va_S (s_A ad 27 s.heap.size) s.heap H locs) (hf : fX6_tearAt_23 σ x1 x2 = some (re, σe)) : W p l e ({ frames := 1, cells := 0, slots := 0, locals := 21 } : Room) s m args below meth c H locs 0 0 (MQ below (s_Qi (s_WC cy ad) G (s_A ad 27 s.heap.size) re σe) args s 0 0 (s_A ad 27 s.heap.size)) (F0 m 0 ls []) := by
  obtain ⟨hx, hb, hr, hml, hown, hts, hlk, hK, hE, hI⟩ := id C
  have hD : ∀ σ : Sg, va_D (s_A ad 27 s.heap.size) ((s_WC cy ad) σ) := fun σ => s_D (s_WC_ad cy ad σ) hI (fun k hk => Or.inl ⟨k, hk, rfl⟩)
  unfold fX6_tearAt_23 at hf
  refine lv_aload_n hx hb dX6_tearAt_0 rfl (lv_at hl 0 rfl) ?_
  replace hf := s_bi_some hf
  obtain ⟨r3, σ1, hz2, hf⟩ := hf
  refine s_calli (nn := 0) C (kcX2_isNothing_23 (l := l) (G := G) (cy := cy) (sa := sa) hI (sz := H.size) σ hz2) gk_X6_233 rfl rfl (by decide +kernel) ⟨Nat.le_of_ble_eq_true rfl, Nat.le_of_ble_eq_true rfl⟩ hP hS (q0 := 23) (ci := 2) rfl rfl rfl (As := []) (rest := []) rfl rfl hl.1 (Nat.le_of_ble_eq_true rfl) dX6_tearAt_1 (fun H locs hP hS => ?_)
  refine lv_if_eq (tgt := 9) hx hb dX6_tearAt_4 (by decide) (fun c4 => ?_) (fun c4 => ?_)
  · rw [if_pos c4] at hf
    refine lv_aload_n hx hb dX6_tearAt_9 rfl (lv_at hl 0 rfl) ?_
    refine va_getN (D := G) (ci := 2) (v := .int (σ1 23 1)) (C := RX2) (T := TX2) (N := 3) hx hb hts inkX2 hown hK hP 23 rfl rfl 1 (by decide) (kn_X6_266 hE) (fun _ h9 => h9) rfl dX6_tearAt_10 ?_
    refine lv_iload_n hx hb dX6_tearAt_13 rfl (lv_at hl 1 rfl) ?_
    refine lv_icmp_eq (tgt := 19) hx hb dX6_tearAt_14 (by decide) (fun c5 => ?_) (fun c5 => ?_)
    · rw [if_pos c5] at hf
      refine lv_aload_n hx hb dX6_tearAt_19 rfl (lv_at hl 0 rfl) ?_
      refine lv_iload_n hx hb dX6_tearAt_20 rfl (lv_at hl 2 rfl) ?_
      replace hf := s_bi_some hf
      obtain ⟨r8, σ6, hz7, hf⟩ := hf
      refine s_calli (nn := 1) C (kcX2_hasCell_23 (l := l) (G := G) (cy := cy) (sa := sa) hI (sz := H.size) σ1 x2 hz7) gk_X6_236 rfl rfl (by decide +kernel) ⟨Nat.le_of_ble_eq_true rfl, Nat.le_of_ble_eq_true rfl⟩ hP hS (q0 := 23) (ci := 2) rfl rfl rfl (As := [.int x2]) (rest := []) rfl rfl hl.1 (Nat.le_of_ble_eq_true rfl) dX6_tearAt_21 (fun H locs hP hS => ?_)
      refine lv_if_eq (tgt := 31) hx hb dX6_tearAt_24 (by decide) (fun c9 => ?_) (fun c9 => ?_)
      · rw [if_pos c9] at hf
        refine lv_iconst (v := 2) hx hb dX6_tearAt_31 (by decide) ?_
        obtain ⟨he1, he2⟩ := s_ret hf
        exact W.iret hx hb hr (fun t ht hW => ⟨⟨_, (), rfl, he1, s_fin (Wd := (s_WC cy ad)) ht he2 hP⟩, hS.F ht⟩) hS.2.2 dX6_tearAt_32 hlk
      · rw [if_neg c9] at hf
        refine lv_iconst (v := 0) hx hb dX6_tearAt_27 (by decide) ?_
        refine lv_goto (tgt := 32) hx hb dX6_tearAt_28 (by decide) ?_
        obtain ⟨he1, he2⟩ := s_ret hf
        exact W.iret hx hb hr (fun t ht hW => ⟨⟨_, (), rfl, he1, s_fin (Wd := (s_WC cy ad)) ht he2 hP⟩, hS.F ht⟩) hS.2.2 dX6_tearAt_32 hlk
    · rw [if_neg c5] at hf
      refine lv_iconst (v := 3) hx hb dX6_tearAt_17 (by decide) ?_
      obtain ⟨he1, he2⟩ := s_ret hf
      exact W.iret hx hb hr (fun t ht hW => ⟨⟨_, (), rfl, he1, s_fin (Wd := (s_WC cy ad)) ht he2 hP⟩, hS.F ht⟩) hS.2.2 dX6_tearAt_18 hlk
  · rw [if_neg c4] at hf
    refine lv_iconst (v := 1) hx hb dX6_tearAt_7 (by decide) ?_
    obtain ⟨he1, he2⟩ := s_ret hf
    exact W.iret hx hb hr (fun t ht hW => ⟨⟨_, (), rfl, he1, s_fin (Wd := (s_WC cy ad)) ht he2 hP⟩, hS.F ht⟩) hS.2.2 dX6_tearAt_8 hlk
theorem kcX6_tearAt_23 {l : Launch} {G : va_G} {cy : Nat → ClassId} {sa : Nat × Nat} {ad : Nat → Nat}  {sz : Nat} (hI : s_inj ad 27) (σ : Sg) (x1 : Int32) (x2 : Int32) {re : Int32} {σe : Sg} (hf : fX6_tearAt_23 σ x1 x2 = some (re, σe)) : Met l yX6_tearAt (kW yX6_tearAt cX6_tearAt 3 (some .int)) ({ frames := 1, cells := 0, slots := 0, locals := 21 } : Room) (s_P (s_WC cy ad) G cy sa ad 27 [.ref (ad 23), .int x1, .int x2] sz σ) (s_Qi (s_WC cy ad) G (s_A ad 27 sz) re σe) 0 0 (s_A ad 27 sz) := by
  refine s_met (own := RX6) (by decide) rfl hI (Nat.le_of_ble_eq_true rfl) (fun p e s m below meth c ls hsz C hP hl => ?_)
  subst hsz
  exact kX6_tearAt_23 C σ x1 x2 ls _ _ hl hP va_S.rf hf
set_option maxRecDepth 100000 in
set_option maxHeartbeats 4000000 in
theorem kX6_tearAt_25 (C : s_X p s m meth c args cX6_tearAt (some .int) 3 RX6 G cy sa ad 27) (σ : Sg) (x1 : Int32) (x2 : Int32) (ls : Array Slot) (H : Heap) (locs : List Loc) (hl : lv_has ls 3 [(0, .ref (ad 25)), (1, .int x1), (2, .int x2)]) (hP : va_P G vwCl ((s_WC cy ad) σ) H) (hS : va_S (s_A ad 27 s.heap.size) s.heap H locs) (hf : fX6_tearAt_25 σ x1 x2 = some (re, σe)) : W p l e ({ frames := 1, cells := 0, slots := 0, locals := 21 } : Room) s m args below meth c H locs 0 0 (MQ below (s_Qi (s_WC cy ad) G (s_A ad 27 s.heap.size) re σe) args s 0 0 (s_A ad 27 s.heap.size)) (F0 m 0 ls []) := by
  obtain ⟨hx, hb, hr, hml, hown, hts, hlk, hK, hE, hI⟩ := id C
  have hD : ∀ σ : Sg, va_D (s_A ad 27 s.heap.size) ((s_WC cy ad) σ) := fun σ => s_D (s_WC_ad cy ad σ) hI (fun k hk => Or.inl ⟨k, hk, rfl⟩)
  unfold fX6_tearAt_25 at hf
  refine lv_aload_n hx hb dX6_tearAt_0 rfl (lv_at hl 0 rfl) ?_
  replace hf := s_bi_some hf
  obtain ⟨r3, σ1, hz2, hf⟩ := hf
  refine s_calli (nn := 0) C (kcX2_isNothing_25 (l := l) (G := G) (cy := cy) (sa := sa) hI (sz := H.size) σ hz2) gk_X6_233 rfl rfl (by decide +kernel) ⟨Nat.le_of_ble_eq_true rfl, Nat.le_of_ble_eq_true rfl⟩ hP hS (q0 := 25) (ci := 2) rfl rfl rfl (As := []) (rest := []) rfl rfl hl.1 (Nat.le_of_ble_eq_true rfl) dX6_tearAt_1 (fun H locs hP hS => ?_)
  refine lv_if_eq (tgt := 9) hx hb dX6_tearAt_4 (by decide) (fun c4 => ?_) (fun c4 => ?_)
  · rw [if_pos c4] at hf
    refine lv_aload_n hx hb dX6_tearAt_9 rfl (lv_at hl 0 rfl) ?_
    refine va_getN (D := G) (ci := 2) (v := .int (σ1 25 1)) (C := RX2) (T := TX2) (N := 3) hx hb hts inkX2 hown hK hP 25 rfl rfl 1 (by decide) (kn_X6_266 hE) (fun _ h9 => h9) rfl dX6_tearAt_10 ?_
    refine lv_iload_n hx hb dX6_tearAt_13 rfl (lv_at hl 1 rfl) ?_
    refine lv_icmp_eq (tgt := 19) hx hb dX6_tearAt_14 (by decide) (fun c5 => ?_) (fun c5 => ?_)
    · rw [if_pos c5] at hf
      refine lv_aload_n hx hb dX6_tearAt_19 rfl (lv_at hl 0 rfl) ?_
      refine lv_iload_n hx hb dX6_tearAt_20 rfl (lv_at hl 2 rfl) ?_
      replace hf := s_bi_some hf
      obtain ⟨r8, σ6, hz7, hf⟩ := hf
      refine s_calli (nn := 1) C (kcX2_hasCell_25 (l := l) (G := G) (cy := cy) (sa := sa) hI (sz := H.size) σ1 x2 hz7) gk_X6_236 rfl rfl (by decide +kernel) ⟨Nat.le_of_ble_eq_true rfl, Nat.le_of_ble_eq_true rfl⟩ hP hS (q0 := 25) (ci := 2) rfl rfl rfl (As := [.int x2]) (rest := []) rfl rfl hl.1 (Nat.le_of_ble_eq_true rfl) dX6_tearAt_21 (fun H locs hP hS => ?_)
      refine lv_if_eq (tgt := 31) hx hb dX6_tearAt_24 (by decide) (fun c9 => ?_) (fun c9 => ?_)
      · rw [if_pos c9] at hf
        refine lv_iconst (v := 2) hx hb dX6_tearAt_31 (by decide) ?_
        obtain ⟨he1, he2⟩ := s_ret hf
        exact W.iret hx hb hr (fun t ht hW => ⟨⟨_, (), rfl, he1, s_fin (Wd := (s_WC cy ad)) ht he2 hP⟩, hS.F ht⟩) hS.2.2 dX6_tearAt_32 hlk
      · rw [if_neg c9] at hf
        refine lv_iconst (v := 0) hx hb dX6_tearAt_27 (by decide) ?_
        refine lv_goto (tgt := 32) hx hb dX6_tearAt_28 (by decide) ?_
        obtain ⟨he1, he2⟩ := s_ret hf
        exact W.iret hx hb hr (fun t ht hW => ⟨⟨_, (), rfl, he1, s_fin (Wd := (s_WC cy ad)) ht he2 hP⟩, hS.F ht⟩) hS.2.2 dX6_tearAt_32 hlk
    · rw [if_neg c5] at hf
      refine lv_iconst (v := 3) hx hb dX6_tearAt_17 (by decide) ?_
      obtain ⟨he1, he2⟩ := s_ret hf
      exact W.iret hx hb hr (fun t ht hW => ⟨⟨_, (), rfl, he1, s_fin (Wd := (s_WC cy ad)) ht he2 hP⟩, hS.F ht⟩) hS.2.2 dX6_tearAt_18 hlk
  · rw [if_neg c4] at hf
    refine lv_iconst (v := 1) hx hb dX6_tearAt_7 (by decide) ?_
    obtain ⟨he1, he2⟩ := s_ret hf
    exact W.iret hx hb hr (fun t ht hW => ⟨⟨_, (), rfl, he1, s_fin (Wd := (s_WC cy ad)) ht he2 hP⟩, hS.F ht⟩) hS.2.2 dX6_tearAt_8 hlk
theorem kcX6_tearAt_25 {l : Launch} {G : va_G} {cy : Nat → ClassId} {sa : Nat × Nat} {ad : Nat → Nat}  {sz : Nat} (hI : s_inj ad 27) (σ : Sg) (x1 : Int32) (x2 : Int32) {re : Int32} {σe : Sg} (hf : fX6_tearAt_25 σ x1 x2 = some (re, σe)) : Met l yX6_tearAt (kW yX6_tearAt cX6_tearAt 3 (some .int)) ({ frames := 1, cells := 0, slots := 0, locals := 21 } : Room) (s_P (s_WC cy ad) G cy sa ad 27 [.ref (ad 25), .int x1, .int x2] sz σ) (s_Qi (s_WC cy ad) G (s_A ad 27 sz) re σe) 0 0 (s_A ad 27 sz) := by
  refine s_met (own := RX6) (by decide) rfl hI (Nat.le_of_ble_eq_true rfl) (fun p e s m below meth c ls hsz C hP hl => ?_)
  subst hsz
  exact kX6_tearAt_25 C σ x1 x2 ls _ _ hl hP va_S.rf hf
set_option maxRecDepth 100000 in
set_option maxHeartbeats 4000000 in
theorem kX6_read_b27 (C : s_X p s m meth c args cX6_read (some .int) 8 RX6 G cy sa ad 27) (σ : Sg) (ls : Array Slot) (H : Heap) (locs : List Loc) (hl : lv_has ls 8 []) (hP : va_P G vwCl ((s_WC cy ad) σ) H) (hS : va_S (s_A ad 27 s.heap.size) s.heap H locs) (hf : fX6_read_b27 σ = some (re, σe)) : W p l e ({ frames := 4, cells := 0, slots := 0, locals := 83 } : Room) s m args below meth c H locs 0 0 (MQ below (s_Qi (s_WC cy ad) G (s_A ad 27 s.heap.size) re σe) args s 0 0 (s_A ad 27 s.heap.size)) (F0 m 27 ls []) := by
  obtain ⟨hx, hb, hr, hml, hown, hts, hlk, hK, hE, hI⟩ := id C
  have hD : ∀ σ : Sg, va_D (s_A ad 27 s.heap.size) ((s_WC cy ad) σ) := fun σ => s_D (s_WC_ad cy ad σ) hI (fun k hk => Or.inl ⟨k, hk, rfl⟩)
  unfold fX6_read_b27 at hf
  refine lv_iconst (v := -1) hx hb dX6_read_27 (by decide) ?_
  obtain ⟨he1, he2⟩ := s_ret hf
  exact W.iret hx hb hr (fun t ht hW => ⟨⟨_, (), rfl, he1, s_fin (Wd := (s_WC cy ad)) ht he2 hP⟩, hS.F ht⟩) hS.2.2 dX6_read_28 hlk
set_option maxRecDepth 100000 in
set_option maxHeartbeats 4000000 in
theorem kX6_read_b116 (C : s_X p s m meth c args cX6_read (some .int) 8 RX6 G cy sa ad 27) (σ : Sg) (x6 : Int32) (x7 : Int32) (ls : Array Slot) (H : Heap) (locs : List Loc) (hl : lv_has ls 8 [(0, .ref (ad 0)), (6, .int x6), (7, .int x7)]) (hP : va_P G vwCl ((s_WC cy ad) σ) H) (hS : va_S (s_A ad 27 s.heap.size) s.heap H locs) (hf : fX6_read_b116 σ x6 x7 = some (re, σe)) : W p l e ({ frames := 4, cells := 0, slots := 0, locals := 83 } : Room) s m args below meth c H locs 0 0 (MQ below (s_Qi (s_WC cy ad) G (s_A ad 27 s.heap.size) re σe) args s 0 0 (s_A ad 27 s.heap.size)) (F0 m 116 ls []) := by
  obtain ⟨hx, hb, hr, hml, hown, hts, hlk, hK, hE, hI⟩ := id C
  have hD : ∀ σ : Sg, va_D (s_A ad 27 s.heap.size) ((s_WC cy ad) σ) := fun σ => s_D (s_WC_ad cy ad σ) hI (fun k hk => Or.inl ⟨k, hk, rfl⟩)
  unfold fX6_read_b116 at hf
  refine lv_aload_n hx hb dX6_read_116 rfl (lv_at hl 0 rfl) ?_
  refine lv_iload hx hb dX6_read_117 (lv_at hl 1 rfl) ?_
  refine va_put (D := G) (ci := 6) (v := .int x6) (ty := .int) (C := RX6) (T := TX6) (N := 9) hx hb hts inkX6 tyX6 tyX6_ok nmX6 hown hK hP (hD _) hS 0 rfl rfl 8 (by decide) (hts _ kw_258) (fun _ h9 => h9) rfl (by decide +kernel) rfl rfl (Nat.le_of_ble_eq_true rfl) dX6_read_119 (fun H locs hP _ hS => ?_)
  obtain ⟨σ1, eσ1⟩ : ∃ z : Sg, z = (s_up σ 0 8 x6) := ⟨_, rfl⟩
  replace hf := s_lt_at eσ1 hf
  replace hP : va_P G vwCl ((s_WC cy ad) σ1) H := by rw [eσ1]; exact hP
  refine lv_iload hx hb dX6_read_122 (lv_at hl 2 rfl) ?_
  obtain ⟨he1, he2⟩ := s_ret hf
  exact W.iret hx hb hr (fun t ht hW => ⟨⟨_, (), rfl, he1, s_fin (Wd := (s_WC cy ad)) ht he2 hP⟩, hS.F ht⟩) hS.2.2 dX6_read_124 hlk
set_option maxRecDepth 100000 in
set_option maxHeartbeats 4000000 in
theorem kX6_read_b44 (C : s_X p s m meth c args cX6_read (some .int) 8 RX6 G cy sa ad 27) (k44 : Sg → Int32 → Int32 → Int32 → Int32 → Int32 → Int32 → Int32 → Option (Int32 × Sg)) (hk44 : ∀ (σ : Sg) (x1 : Int32) (x2 : Int32) (x3 : Int32) (x4 : Int32) (x5 : Int32) (x6 : Int32) (x7 : Int32) (ls : Array Slot) (H : Heap) (locs : List Loc), lv_has ls 8 [(0, .ref (ad 0)), (1, .int x1), (2, .int x2), (3, .int x3), (4, .int x4), (5, .int x5), (6, .int x6), (7, .int x7)] → va_P G vwCl ((s_WC cy ad) σ) H → va_S (s_A ad 27 s.heap.size) s.heap H locs → k44 σ x1 x2 x3 x4 x5 x6 x7 = some (re, σe) → W p l e ({ frames := 4, cells := 0, slots := 0, locals := 83 } : Room) s m args below meth c H locs 0 0 (MQ below (s_Qi (s_WC cy ad) G (s_A ad 27 s.heap.size) re σe) args s 0 0 (s_A ad 27 s.heap.size)) (F0 m 44 ls [])) (σ : Sg) (x1 : Int32) (x2 : Int32) (x3 : Int32) (x4 : Int32) (x5 : Int32) (x6 : Int32) (x7 : Int32) (ls : Array Slot) (H : Heap) (locs : List Loc) (hl : lv_has ls 8 [(0, .ref (ad 0)), (1, .int x1), (2, .int x2), (3, .int x3), (4, .int x4), (5, .int x5), (6, .int x6), (7, .int x7)]) (hP : va_P G vwCl ((s_WC cy ad) σ) H) (hS : va_S (s_A ad 27 s.heap.size) s.heap H locs) (hf : fX6_read_b44 k44 σ x1 x2 x3 x4 x5 x6 x7 = some (re, σe)) : W p l e ({ frames := 4, cells := 0, slots := 0, locals := 83 } : Room) s m args below meth c H locs 0 0 (MQ below (s_Qi (s_WC cy ad) G (s_A ad 27 s.heap.size) re σe) args s 0 0 (s_A ad 27 s.heap.size)) (F0 m 44 ls []) := by
  obtain ⟨hx, hb, hr, hml, hown, hts, hlk, hK, hE, hI⟩ := id C
  have hD : ∀ σ : Sg, va_D (s_A ad 27 s.heap.size) ((s_WC cy ad) σ) := fun σ => s_D (s_WC_ad cy ad σ) hI (fun k hk => Or.inl ⟨k, hk, rfl⟩)
  unfold fX6_read_b44 at hf
  refine lv_iload hx hb dX6_read_44 (lv_at hl 7 rfl) ?_
  refine lv_iload hx hb dX6_read_46 (lv_at hl 4 rfl) ?_
  refine lv_icmp_ge (tgt := 116) hx hb dX6_read_48 (by decide) (fun c1 => ?_) (fun c1 => ?_)
  · rw [if_pos c1] at hf
    exact kX6_read_b116 C σ x6 x7 _ _ _ (lv_sub hl [0, 6, 7] rfl) hP hS hf
  · rw [if_neg c1] at hf
    refine lv_aload_n hx hb dX6_read_51 rfl (lv_at hl 0 rfl) ?_
    refine va_get (D := G) (ci := 6) (v := .ref (ad 18)) (C := RX6) (T := TX6) (N := 9) hx hb hts inkX6 hown hK hP 0 rfl rfl 7 (by decide) (hts _ kw_257) (fun _ h9 => h9) rfl dX6_read_52 ?_
    refine lv_iload_n hx hb dX6_read_55 rfl (lv_at hl 1 rfl) ?_
    by_cases c2 : x1 = 0
    · rw [if_pos c2] at hf
      refine va_aldq hx hb hK hP 18 4 rfl rfl (by rw [c2]; unfold vp_in; decide) dX6_read_56 ?_
      refine W.eq (g2 := F0 m 57 ls [.ref (ad 19)]) (by rw [c2]; rfl) ?_
      refine lv_iload_n hx hb dX6_read_57 rfl (lv_at hl 2 rfl) ?_
      refine lv_iload_n hx hb dX6_read_58 rfl (lv_at hl 3 rfl) ?_
      refine lv_iload hx hb dX6_read_59 (lv_at hl 7 rfl) ?_
      refine lv_iadd hx hb dX6_read_61 ?_
      replace hf := s_bi_some hf
      obtain ⟨r5, σ3, hz4, hf⟩ := hf
      refine s_calliS (nn := 3) C (kcX6_tearAt_19 (l := l) (G := G) (cy := cy) (sa := sa) hI (sz := H.size) σ x2 (x3 + x7) hz4) gk_X6_242 rfl rfl (by decide +kernel) ⟨Nat.le_of_ble_eq_true rfl, Nat.le_of_ble_eq_true rfl⟩ hP hS (As := [.ref (ad 19), .int x2, .int (x3 + x7)]) (rest := []) rfl rfl hl.1 (Nat.le_of_ble_eq_true rfl) dX6_read_62 (fun H locs hP hS => ?_)
      refine lv_istore (lv' := [(6, .int r5), (0, .ref (ad 0)), (1, .int x1), (2, .int x2), (3, .int x3), (4, .int x4), (5, .int x5), (7, .int x7)]) hx hb dX6_read_65 hl (by decide) rfl (fun ls hl => ?_)
      refine lv_iload hx hb dX6_read_67 (lv_at hl 0 rfl) ?_
      refine lv_if_eq (tgt := 75) hx hb dX6_read_69 (by decide) (fun c6 => ?_) (fun c6 => ?_)
      · rw [if_pos c6] at hf
        refine lv_aload_n hx hb dX6_read_75 rfl (lv_at hl 1 rfl) ?_
        refine lv_aload_n hx hb dX6_read_76 rfl (lv_at hl 1 rfl) ?_
        refine va_get (D := G) (ci := 6) (v := .ref (ad 18)) (C := RX6) (T := TX6) (N := 9) hx hb hts inkX6 hown hK hP 0 rfl rfl 7 (by decide) (hts _ kw_257) (fun _ h9 => h9) rfl dX6_read_77 ?_
        refine lv_iload_n hx hb dX6_read_80 rfl (lv_at hl 2 rfl) ?_
        by_cases c7 : x1 = 0
        · rw [if_pos c7] at hf
          refine va_aldq hx hb hK hP 18 4 rfl rfl (by rw [c7]; unfold vp_in; decide) dX6_read_81 ?_
          refine W.eq (g2 := F0 m 82 ls [.ref (ad 19), .ref (ad 0)]) (by rw [c7]; rfl) ?_
          refine lv_iload_n hx hb dX6_read_82 rfl (lv_at hl 4 rfl) ?_
          refine lv_iload hx hb dX6_read_83 (lv_at hl 7 rfl) ?_
          refine lv_iadd hx hb dX6_read_85 ?_
          replace hf := s_bi_some hf
          obtain ⟨r10, σ8, hz9, hf⟩ := hf
          refine s_calli (nn := 1) C (kcX2_valueAt_19 (l := l) (G := G) (cy := cy) (sa := sa) hI (sz := H.size) σ3 (x3 + x7) hz9) gk_X6_246 rfl rfl (by decide +kernel) ⟨Nat.le_of_ble_eq_true rfl, Nat.le_of_ble_eq_true rfl⟩ hP hS (q0 := 19) (ci := 2) rfl rfl rfl (As := [.int (x3 + x7)]) (rest := [.ref (ad 0)]) rfl rfl hl.1 (Nat.le_of_ble_eq_true rfl) dX6_read_86 (fun H locs hP hS => ?_)
          replace hf := s_bi_some hf
          obtain ⟨r13, σ11, hz12, hf⟩ := hf
          refine s_calli (nn := 1) C (kcX6_add (l := l) (G := G) (cy := cy) (sa := sa) hI (sz := H.size) σ8 r10 hz12) gk_X6_247 rfl rfl (by decide +kernel) ⟨Nat.le_of_ble_eq_true rfl, Nat.le_of_ble_eq_true rfl⟩ hP hS (q0 := 0) (ci := 6) rfl rfl rfl (As := [.int r10]) (rest := []) rfl rfl hl.1 (Nat.le_of_ble_eq_true rfl) dX6_read_89 (fun H locs hP hS => ?_)
          refine lv_if_ge (tgt := 110) hx hb dX6_read_92 (by decide) (fun c14 => ?_) (fun c14 => ?_)
          · rw [if_pos c14] at hf
            obtain ⟨t15, et15⟩ : ∃ z : Int32, z = (x7 + 1) := ⟨_, rfl⟩
            replace hf := s_lt_at et15 hf
            refine lv_iinc (v := t15) (lv' := [(7, .int t15), (6, .int r5), (0, .ref (ad 0)), (1, .int x1), (2, .int x2), (3, .int x3), (4, .int x4), (5, .int x5)]) hx hb dX6_read_110 hl (k := 7) rfl (by rw [et15]; rfl) (by decide) rfl (fun ls hl => ?_)
            refine lv_goto (tgt := 44) hx hb dX6_read_113 (by decide) ?_
            exact hk44 σ11 x1 x2 x3 x4 x5 r5 t15 _ _ _ (lv_sub hl [2, 3, 4, 5, 6, 7, 1, 0] rfl) hP hS hf
          · rw [if_neg c14] at hf
            refine lv_aload_n hx hb dX6_read_95 rfl (lv_at hl 1 rfl) ?_
            refine va_get (D := G) (ci := 6) (v := .ref (ad 6)) (C := RX6) (T := TX6) (N := 9) hx hb hts inkX6 hown hK hP 0 rfl rfl 2 (by decide) (hts _ kw_252) (fun _ h9 => h9) rfl dX6_read_96 ?_
            refine lv_iload hx hb dX6_read_99 (lv_at hl 6 rfl) ?_
            refine va_putN (D := G) (ci := 1) (v := .int x5) (ty := .int) (C := RX1) (T := TX1) (N := 8) hx hb hts inkX1 tyX1 tyX1_ok nmX1 hown hK hP (hD _) hS 6 rfl rfl 1 (by decide) (kn_X6_89 hE) (fun _ h9 => h9) rfl (by decide +kernel) rfl rfl (Nat.le_of_ble_eq_true rfl) dX6_read_101 (fun H locs hP _ hS => ?_)
            obtain ⟨σ16, eσ16⟩ : ∃ z : Sg, z = (s_up σ11 6 1 x5) := ⟨_, rfl⟩
            replace hf := s_lt_at eσ16 hf
            replace hP : va_P G vwCl ((s_WC cy ad) σ16) H := by rw [eσ16]; exact hP
            refine lv_bipush (v := -20) hx hb dX6_read_104 (by decide) ?_
            refine lv_iload hx hb dX6_read_106 (lv_at hl 7 rfl) ?_
            refine lv_isub hx hb dX6_read_108 ?_
            obtain ⟨he1, he2⟩ := s_ret hf
            exact W.iret hx hb hr (fun t ht hW => ⟨⟨_, (), rfl, he1, s_fin (Wd := (s_WC cy ad)) ht he2 hP⟩, hS.F ht⟩) hS.2.2 dX6_read_109 hlk
        · rw [if_neg c7] at hf
          by_cases c17 : x1 = 1
          · rw [if_pos c17] at hf
            refine va_aldq hx hb hK hP 18 4 rfl rfl (by rw [c17]; unfold vp_in; decide) dX6_read_81 ?_
            refine W.eq (g2 := F0 m 82 ls [.ref (ad 21), .ref (ad 0)]) (by rw [c17]; rfl) ?_
            refine lv_iload_n hx hb dX6_read_82 rfl (lv_at hl 4 rfl) ?_
            refine lv_iload hx hb dX6_read_83 (lv_at hl 7 rfl) ?_
            refine lv_iadd hx hb dX6_read_85 ?_
            replace hf := s_bi_some hf
            obtain ⟨r20, σ18, hz19, hf⟩ := hf
            refine s_calli (nn := 1) C (kcX2_valueAt_21 (l := l) (G := G) (cy := cy) (sa := sa) hI (sz := H.size) σ3 (x3 + x7) hz19) gk_X6_246 rfl rfl (by decide +kernel) ⟨Nat.le_of_ble_eq_true rfl, Nat.le_of_ble_eq_true rfl⟩ hP hS (q0 := 21) (ci := 2) rfl rfl rfl (As := [.int (x3 + x7)]) (rest := [.ref (ad 0)]) rfl rfl hl.1 (Nat.le_of_ble_eq_true rfl) dX6_read_86 (fun H locs hP hS => ?_)
            replace hf := s_bi_some hf
            obtain ⟨r23, σ21, hz22, hf⟩ := hf
            refine s_calli (nn := 1) C (kcX6_add (l := l) (G := G) (cy := cy) (sa := sa) hI (sz := H.size) σ18 r20 hz22) gk_X6_247 rfl rfl (by decide +kernel) ⟨Nat.le_of_ble_eq_true rfl, Nat.le_of_ble_eq_true rfl⟩ hP hS (q0 := 0) (ci := 6) rfl rfl rfl (As := [.int r20]) (rest := []) rfl rfl hl.1 (Nat.le_of_ble_eq_true rfl) dX6_read_89 (fun H locs hP hS => ?_)
            refine lv_if_ge (tgt := 110) hx hb dX6_read_92 (by decide) (fun c24 => ?_) (fun c24 => ?_)
            · rw [if_pos c24] at hf
              obtain ⟨t25, et25⟩ : ∃ z : Int32, z = (x7 + 1) := ⟨_, rfl⟩
              replace hf := s_lt_at et25 hf
              refine lv_iinc (v := t25) (lv' := [(7, .int t25), (6, .int r5), (0, .ref (ad 0)), (1, .int x1), (2, .int x2), (3, .int x3), (4, .int x4), (5, .int x5)]) hx hb dX6_read_110 hl (k := 7) rfl (by rw [et25]; rfl) (by decide) rfl (fun ls hl => ?_)
              refine lv_goto (tgt := 44) hx hb dX6_read_113 (by decide) ?_
              exact hk44 σ21 x1 x2 x3 x4 x5 r5 t25 _ _ _ (lv_sub hl [2, 3, 4, 5, 6, 7, 1, 0] rfl) hP hS hf
            · rw [if_neg c24] at hf
              refine lv_aload_n hx hb dX6_read_95 rfl (lv_at hl 1 rfl) ?_
              refine va_get (D := G) (ci := 6) (v := .ref (ad 6)) (C := RX6) (T := TX6) (N := 9) hx hb hts inkX6 hown hK hP 0 rfl rfl 2 (by decide) (hts _ kw_252) (fun _ h9 => h9) rfl dX6_read_96 ?_
              refine lv_iload hx hb dX6_read_99 (lv_at hl 6 rfl) ?_
              refine va_putN (D := G) (ci := 1) (v := .int x5) (ty := .int) (C := RX1) (T := TX1) (N := 8) hx hb hts inkX1 tyX1 tyX1_ok nmX1 hown hK hP (hD _) hS 6 rfl rfl 1 (by decide) (kn_X6_89 hE) (fun _ h9 => h9) rfl (by decide +kernel) rfl rfl (Nat.le_of_ble_eq_true rfl) dX6_read_101 (fun H locs hP _ hS => ?_)
              obtain ⟨σ26, eσ26⟩ : ∃ z : Sg, z = (s_up σ21 6 1 x5) := ⟨_, rfl⟩
              replace hf := s_lt_at eσ26 hf
              replace hP : va_P G vwCl ((s_WC cy ad) σ26) H := by rw [eσ26]; exact hP
              refine lv_bipush (v := -20) hx hb dX6_read_104 (by decide) ?_
              refine lv_iload hx hb dX6_read_106 (lv_at hl 7 rfl) ?_
              refine lv_isub hx hb dX6_read_108 ?_
              obtain ⟨he1, he2⟩ := s_ret hf
              exact W.iret hx hb hr (fun t ht hW => ⟨⟨_, (), rfl, he1, s_fin (Wd := (s_WC cy ad)) ht he2 hP⟩, hS.F ht⟩) hS.2.2 dX6_read_109 hlk
          · rw [if_neg c17] at hf
            by_cases c27 : x1 = 2
            · rw [if_pos c27] at hf
              refine va_aldq hx hb hK hP 18 4 rfl rfl (by rw [c27]; unfold vp_in; decide) dX6_read_81 ?_
              refine W.eq (g2 := F0 m 82 ls [.ref (ad 23), .ref (ad 0)]) (by rw [c27]; rfl) ?_
              refine lv_iload_n hx hb dX6_read_82 rfl (lv_at hl 4 rfl) ?_
              refine lv_iload hx hb dX6_read_83 (lv_at hl 7 rfl) ?_
              refine lv_iadd hx hb dX6_read_85 ?_
              replace hf := s_bi_some hf
              obtain ⟨r30, σ28, hz29, hf⟩ := hf
              refine s_calli (nn := 1) C (kcX2_valueAt_23 (l := l) (G := G) (cy := cy) (sa := sa) hI (sz := H.size) σ3 (x3 + x7) hz29) gk_X6_246 rfl rfl (by decide +kernel) ⟨Nat.le_of_ble_eq_true rfl, Nat.le_of_ble_eq_true rfl⟩ hP hS (q0 := 23) (ci := 2) rfl rfl rfl (As := [.int (x3 + x7)]) (rest := [.ref (ad 0)]) rfl rfl hl.1 (Nat.le_of_ble_eq_true rfl) dX6_read_86 (fun H locs hP hS => ?_)
              replace hf := s_bi_some hf
              obtain ⟨r33, σ31, hz32, hf⟩ := hf
              refine s_calli (nn := 1) C (kcX6_add (l := l) (G := G) (cy := cy) (sa := sa) hI (sz := H.size) σ28 r30 hz32) gk_X6_247 rfl rfl (by decide +kernel) ⟨Nat.le_of_ble_eq_true rfl, Nat.le_of_ble_eq_true rfl⟩ hP hS (q0 := 0) (ci := 6) rfl rfl rfl (As := [.int r30]) (rest := []) rfl rfl hl.1 (Nat.le_of_ble_eq_true rfl) dX6_read_89 (fun H locs hP hS => ?_)
              refine lv_if_ge (tgt := 110) hx hb dX6_read_92 (by decide) (fun c34 => ?_) (fun c34 => ?_)
              · rw [if_pos c34] at hf
                obtain ⟨t35, et35⟩ : ∃ z : Int32, z = (x7 + 1) := ⟨_, rfl⟩
                replace hf := s_lt_at et35 hf
                refine lv_iinc (v := t35) (lv' := [(7, .int t35), (6, .int r5), (0, .ref (ad 0)), (1, .int x1), (2, .int x2), (3, .int x3), (4, .int x4), (5, .int x5)]) hx hb dX6_read_110 hl (k := 7) rfl (by rw [et35]; rfl) (by decide) rfl (fun ls hl => ?_)
                refine lv_goto (tgt := 44) hx hb dX6_read_113 (by decide) ?_
                exact hk44 σ31 x1 x2 x3 x4 x5 r5 t35 _ _ _ (lv_sub hl [2, 3, 4, 5, 6, 7, 1, 0] rfl) hP hS hf
              · rw [if_neg c34] at hf
                refine lv_aload_n hx hb dX6_read_95 rfl (lv_at hl 1 rfl) ?_
                refine va_get (D := G) (ci := 6) (v := .ref (ad 6)) (C := RX6) (T := TX6) (N := 9) hx hb hts inkX6 hown hK hP 0 rfl rfl 2 (by decide) (hts _ kw_252) (fun _ h9 => h9) rfl dX6_read_96 ?_
                refine lv_iload hx hb dX6_read_99 (lv_at hl 6 rfl) ?_
                refine va_putN (D := G) (ci := 1) (v := .int x5) (ty := .int) (C := RX1) (T := TX1) (N := 8) hx hb hts inkX1 tyX1 tyX1_ok nmX1 hown hK hP (hD _) hS 6 rfl rfl 1 (by decide) (kn_X6_89 hE) (fun _ h9 => h9) rfl (by decide +kernel) rfl rfl (Nat.le_of_ble_eq_true rfl) dX6_read_101 (fun H locs hP _ hS => ?_)
                obtain ⟨σ36, eσ36⟩ : ∃ z : Sg, z = (s_up σ31 6 1 x5) := ⟨_, rfl⟩
                replace hf := s_lt_at eσ36 hf
                replace hP : va_P G vwCl ((s_WC cy ad) σ36) H := by rw [eσ36]; exact hP
                refine lv_bipush (v := -20) hx hb dX6_read_104 (by decide) ?_
                refine lv_iload hx hb dX6_read_106 (lv_at hl 7 rfl) ?_
                refine lv_isub hx hb dX6_read_108 ?_
                obtain ⟨he1, he2⟩ := s_ret hf
                exact W.iret hx hb hr (fun t ht hW => ⟨⟨_, (), rfl, he1, s_fin (Wd := (s_WC cy ad)) ht he2 hP⟩, hS.F ht⟩) hS.2.2 dX6_read_109 hlk
            · rw [if_neg c27] at hf
              by_cases c37 : x1 = 3
              · rw [if_pos c37] at hf
                refine va_aldq hx hb hK hP 18 4 rfl rfl (by rw [c37]; unfold vp_in; decide) dX6_read_81 ?_
                refine W.eq (g2 := F0 m 82 ls [.ref (ad 25), .ref (ad 0)]) (by rw [c37]; rfl) ?_
                refine lv_iload_n hx hb dX6_read_82 rfl (lv_at hl 4 rfl) ?_
                refine lv_iload hx hb dX6_read_83 (lv_at hl 7 rfl) ?_
                refine lv_iadd hx hb dX6_read_85 ?_
                replace hf := s_bi_some hf
                obtain ⟨r40, σ38, hz39, hf⟩ := hf
                refine s_calli (nn := 1) C (kcX2_valueAt_25 (l := l) (G := G) (cy := cy) (sa := sa) hI (sz := H.size) σ3 (x3 + x7) hz39) gk_X6_246 rfl rfl (by decide +kernel) ⟨Nat.le_of_ble_eq_true rfl, Nat.le_of_ble_eq_true rfl⟩ hP hS (q0 := 25) (ci := 2) rfl rfl rfl (As := [.int (x3 + x7)]) (rest := [.ref (ad 0)]) rfl rfl hl.1 (Nat.le_of_ble_eq_true rfl) dX6_read_86 (fun H locs hP hS => ?_)
                replace hf := s_bi_some hf
                obtain ⟨r43, σ41, hz42, hf⟩ := hf
                refine s_calli (nn := 1) C (kcX6_add (l := l) (G := G) (cy := cy) (sa := sa) hI (sz := H.size) σ38 r40 hz42) gk_X6_247 rfl rfl (by decide +kernel) ⟨Nat.le_of_ble_eq_true rfl, Nat.le_of_ble_eq_true rfl⟩ hP hS (q0 := 0) (ci := 6) rfl rfl rfl (As := [.int r40]) (rest := []) rfl rfl hl.1 (Nat.le_of_ble_eq_true rfl) dX6_read_89 (fun H locs hP hS => ?_)
                refine lv_if_ge (tgt := 110) hx hb dX6_read_92 (by decide) (fun c44 => ?_) (fun c44 => ?_)
                · rw [if_pos c44] at hf
                  obtain ⟨t45, et45⟩ : ∃ z : Int32, z = (x7 + 1) := ⟨_, rfl⟩
                  replace hf := s_lt_at et45 hf
                  refine lv_iinc (v := t45) (lv' := [(7, .int t45), (6, .int r5), (0, .ref (ad 0)), (1, .int x1), (2, .int x2), (3, .int x3), (4, .int x4), (5, .int x5)]) hx hb dX6_read_110 hl (k := 7) rfl (by rw [et45]; rfl) (by decide) rfl (fun ls hl => ?_)
                  refine lv_goto (tgt := 44) hx hb dX6_read_113 (by decide) ?_
                  exact hk44 σ41 x1 x2 x3 x4 x5 r5 t45 _ _ _ (lv_sub hl [2, 3, 4, 5, 6, 7, 1, 0] rfl) hP hS hf
                · rw [if_neg c44] at hf
                  refine lv_aload_n hx hb dX6_read_95 rfl (lv_at hl 1 rfl) ?_
                  refine va_get (D := G) (ci := 6) (v := .ref (ad 6)) (C := RX6) (T := TX6) (N := 9) hx hb hts inkX6 hown hK hP 0 rfl rfl 2 (by decide) (hts _ kw_252) (fun _ h9 => h9) rfl dX6_read_96 ?_
                  refine lv_iload hx hb dX6_read_99 (lv_at hl 6 rfl) ?_
                  refine va_putN (D := G) (ci := 1) (v := .int x5) (ty := .int) (C := RX1) (T := TX1) (N := 8) hx hb hts inkX1 tyX1 tyX1_ok nmX1 hown hK hP (hD _) hS 6 rfl rfl 1 (by decide) (kn_X6_89 hE) (fun _ h9 => h9) rfl (by decide +kernel) rfl rfl (Nat.le_of_ble_eq_true rfl) dX6_read_101 (fun H locs hP _ hS => ?_)
                  obtain ⟨σ46, eσ46⟩ : ∃ z : Sg, z = (s_up σ41 6 1 x5) := ⟨_, rfl⟩
                  replace hf := s_lt_at eσ46 hf
                  replace hP : va_P G vwCl ((s_WC cy ad) σ46) H := by rw [eσ46]; exact hP
                  refine lv_bipush (v := -20) hx hb dX6_read_104 (by decide) ?_
                  refine lv_iload hx hb dX6_read_106 (lv_at hl 7 rfl) ?_
                  refine lv_isub hx hb dX6_read_108 ?_
                  obtain ⟨he1, he2⟩ := s_ret hf
                  exact W.iret hx hb hr (fun t ht hW => ⟨⟨_, (), rfl, he1, s_fin (Wd := (s_WC cy ad)) ht he2 hP⟩, hS.F ht⟩) hS.2.2 dX6_read_109 hlk
              · rw [if_neg c37] at hf
                cases hf
      · rw [if_neg c6] at hf
        refine lv_goto (tgt := 116) hx hb dX6_read_72 (by decide) ?_
        exact kX6_read_b116 C σ3 r5 x7 _ _ _ (lv_sub hl [1, 0, 7] rfl) hP hS hf
    · rw [if_neg c2] at hf
      by_cases c47 : x1 = 1
      · rw [if_pos c47] at hf
        refine va_aldq hx hb hK hP 18 4 rfl rfl (by rw [c47]; unfold vp_in; decide) dX6_read_56 ?_
        refine W.eq (g2 := F0 m 57 ls [.ref (ad 21)]) (by rw [c47]; rfl) ?_
        refine lv_iload_n hx hb dX6_read_57 rfl (lv_at hl 2 rfl) ?_
        refine lv_iload_n hx hb dX6_read_58 rfl (lv_at hl 3 rfl) ?_
        refine lv_iload hx hb dX6_read_59 (lv_at hl 7 rfl) ?_
        refine lv_iadd hx hb dX6_read_61 ?_
        replace hf := s_bi_some hf
        obtain ⟨r50, σ48, hz49, hf⟩ := hf
        refine s_calliS (nn := 3) C (kcX6_tearAt_21 (l := l) (G := G) (cy := cy) (sa := sa) hI (sz := H.size) σ x2 (x3 + x7) hz49) gk_X6_242 rfl rfl (by decide +kernel) ⟨Nat.le_of_ble_eq_true rfl, Nat.le_of_ble_eq_true rfl⟩ hP hS (As := [.ref (ad 21), .int x2, .int (x3 + x7)]) (rest := []) rfl rfl hl.1 (Nat.le_of_ble_eq_true rfl) dX6_read_62 (fun H locs hP hS => ?_)
        refine lv_istore (lv' := [(6, .int r50), (0, .ref (ad 0)), (1, .int x1), (2, .int x2), (3, .int x3), (4, .int x4), (5, .int x5), (7, .int x7)]) hx hb dX6_read_65 hl (by decide) rfl (fun ls hl => ?_)
        refine lv_iload hx hb dX6_read_67 (lv_at hl 0 rfl) ?_
        refine lv_if_eq (tgt := 75) hx hb dX6_read_69 (by decide) (fun c51 => ?_) (fun c51 => ?_)
        · rw [if_pos c51] at hf
          refine lv_aload_n hx hb dX6_read_75 rfl (lv_at hl 1 rfl) ?_
          refine lv_aload_n hx hb dX6_read_76 rfl (lv_at hl 1 rfl) ?_
          refine va_get (D := G) (ci := 6) (v := .ref (ad 18)) (C := RX6) (T := TX6) (N := 9) hx hb hts inkX6 hown hK hP 0 rfl rfl 7 (by decide) (hts _ kw_257) (fun _ h9 => h9) rfl dX6_read_77 ?_
          refine lv_iload_n hx hb dX6_read_80 rfl (lv_at hl 2 rfl) ?_
          by_cases c52 : x1 = 0
          · rw [if_pos c52] at hf
            refine va_aldq hx hb hK hP 18 4 rfl rfl (by rw [c52]; unfold vp_in; decide) dX6_read_81 ?_
            refine W.eq (g2 := F0 m 82 ls [.ref (ad 19), .ref (ad 0)]) (by rw [c52]; rfl) ?_
            refine lv_iload_n hx hb dX6_read_82 rfl (lv_at hl 4 rfl) ?_
            refine lv_iload hx hb dX6_read_83 (lv_at hl 7 rfl) ?_
            refine lv_iadd hx hb dX6_read_85 ?_
            replace hf := s_bi_some hf
            obtain ⟨r55, σ53, hz54, hf⟩ := hf
            refine s_calli (nn := 1) C (kcX2_valueAt_19 (l := l) (G := G) (cy := cy) (sa := sa) hI (sz := H.size) σ48 (x3 + x7) hz54) gk_X6_246 rfl rfl (by decide +kernel) ⟨Nat.le_of_ble_eq_true rfl, Nat.le_of_ble_eq_true rfl⟩ hP hS (q0 := 19) (ci := 2) rfl rfl rfl (As := [.int (x3 + x7)]) (rest := [.ref (ad 0)]) rfl rfl hl.1 (Nat.le_of_ble_eq_true rfl) dX6_read_86 (fun H locs hP hS => ?_)
            replace hf := s_bi_some hf
            obtain ⟨r58, σ56, hz57, hf⟩ := hf
            refine s_calli (nn := 1) C (kcX6_add (l := l) (G := G) (cy := cy) (sa := sa) hI (sz := H.size) σ53 r55 hz57) gk_X6_247 rfl rfl (by decide +kernel) ⟨Nat.le_of_ble_eq_true rfl, Nat.le_of_ble_eq_true rfl⟩ hP hS (q0 := 0) (ci := 6) rfl rfl rfl (As := [.int r55]) (rest := []) rfl rfl hl.1 (Nat.le_of_ble_eq_true rfl) dX6_read_89 (fun H locs hP hS => ?_)
            refine lv_if_ge (tgt := 110) hx hb dX6_read_92 (by decide) (fun c59 => ?_) (fun c59 => ?_)
            · rw [if_pos c59] at hf
              obtain ⟨t60, et60⟩ : ∃ z : Int32, z = (x7 + 1) := ⟨_, rfl⟩
              replace hf := s_lt_at et60 hf
              refine lv_iinc (v := t60) (lv' := [(7, .int t60), (6, .int r50), (0, .ref (ad 0)), (1, .int x1), (2, .int x2), (3, .int x3), (4, .int x4), (5, .int x5)]) hx hb dX6_read_110 hl (k := 7) rfl (by rw [et60]; rfl) (by decide) rfl (fun ls hl => ?_)
              refine lv_goto (tgt := 44) hx hb dX6_read_113 (by decide) ?_
              exact hk44 σ56 x1 x2 x3 x4 x5 r50 t60 _ _ _ (lv_sub hl [2, 3, 4, 5, 6, 7, 1, 0] rfl) hP hS hf
            · rw [if_neg c59] at hf
              refine lv_aload_n hx hb dX6_read_95 rfl (lv_at hl 1 rfl) ?_
              refine va_get (D := G) (ci := 6) (v := .ref (ad 6)) (C := RX6) (T := TX6) (N := 9) hx hb hts inkX6 hown hK hP 0 rfl rfl 2 (by decide) (hts _ kw_252) (fun _ h9 => h9) rfl dX6_read_96 ?_
              refine lv_iload hx hb dX6_read_99 (lv_at hl 6 rfl) ?_
              refine va_putN (D := G) (ci := 1) (v := .int x5) (ty := .int) (C := RX1) (T := TX1) (N := 8) hx hb hts inkX1 tyX1 tyX1_ok nmX1 hown hK hP (hD _) hS 6 rfl rfl 1 (by decide) (kn_X6_89 hE) (fun _ h9 => h9) rfl (by decide +kernel) rfl rfl (Nat.le_of_ble_eq_true rfl) dX6_read_101 (fun H locs hP _ hS => ?_)
              obtain ⟨σ61, eσ61⟩ : ∃ z : Sg, z = (s_up σ56 6 1 x5) := ⟨_, rfl⟩
              replace hf := s_lt_at eσ61 hf
              replace hP : va_P G vwCl ((s_WC cy ad) σ61) H := by rw [eσ61]; exact hP
              refine lv_bipush (v := -20) hx hb dX6_read_104 (by decide) ?_
              refine lv_iload hx hb dX6_read_106 (lv_at hl 7 rfl) ?_
              refine lv_isub hx hb dX6_read_108 ?_
              obtain ⟨he1, he2⟩ := s_ret hf
              exact W.iret hx hb hr (fun t ht hW => ⟨⟨_, (), rfl, he1, s_fin (Wd := (s_WC cy ad)) ht he2 hP⟩, hS.F ht⟩) hS.2.2 dX6_read_109 hlk
          · rw [if_neg c52] at hf
            by_cases c62 : x1 = 1
            · rw [if_pos c62] at hf
              refine va_aldq hx hb hK hP 18 4 rfl rfl (by rw [c62]; unfold vp_in; decide) dX6_read_81 ?_
              refine W.eq (g2 := F0 m 82 ls [.ref (ad 21), .ref (ad 0)]) (by rw [c62]; rfl) ?_
              refine lv_iload_n hx hb dX6_read_82 rfl (lv_at hl 4 rfl) ?_
              refine lv_iload hx hb dX6_read_83 (lv_at hl 7 rfl) ?_
              refine lv_iadd hx hb dX6_read_85 ?_
              replace hf := s_bi_some hf
              obtain ⟨r65, σ63, hz64, hf⟩ := hf
              refine s_calli (nn := 1) C (kcX2_valueAt_21 (l := l) (G := G) (cy := cy) (sa := sa) hI (sz := H.size) σ48 (x3 + x7) hz64) gk_X6_246 rfl rfl (by decide +kernel) ⟨Nat.le_of_ble_eq_true rfl, Nat.le_of_ble_eq_true rfl⟩ hP hS (q0 := 21) (ci := 2) rfl rfl rfl (As := [.int (x3 + x7)]) (rest := [.ref (ad 0)]) rfl rfl hl.1 (Nat.le_of_ble_eq_true rfl) dX6_read_86 (fun H locs hP hS => ?_)
              replace hf := s_bi_some hf
              obtain ⟨r68, σ66, hz67, hf⟩ := hf
              refine s_calli (nn := 1) C (kcX6_add (l := l) (G := G) (cy := cy) (sa := sa) hI (sz := H.size) σ63 r65 hz67) gk_X6_247 rfl rfl (by decide +kernel) ⟨Nat.le_of_ble_eq_true rfl, Nat.le_of_ble_eq_true rfl⟩ hP hS (q0 := 0) (ci := 6) rfl rfl rfl (As := [.int r65]) (rest := []) rfl rfl hl.1 (Nat.le_of_ble_eq_true rfl) dX6_read_89 (fun H locs hP hS => ?_)
              refine lv_if_ge (tgt := 110) hx hb dX6_read_92 (by decide) (fun c69 => ?_) (fun c69 => ?_)
              · rw [if_pos c69] at hf
                obtain ⟨t70, et70⟩ : ∃ z : Int32, z = (x7 + 1) := ⟨_, rfl⟩
                replace hf := s_lt_at et70 hf
                refine lv_iinc (v := t70) (lv' := [(7, .int t70), (6, .int r50), (0, .ref (ad 0)), (1, .int x1), (2, .int x2), (3, .int x3), (4, .int x4), (5, .int x5)]) hx hb dX6_read_110 hl (k := 7) rfl (by rw [et70]; rfl) (by decide) rfl (fun ls hl => ?_)
                refine lv_goto (tgt := 44) hx hb dX6_read_113 (by decide) ?_
                exact hk44 σ66 x1 x2 x3 x4 x5 r50 t70 _ _ _ (lv_sub hl [2, 3, 4, 5, 6, 7, 1, 0] rfl) hP hS hf
              · rw [if_neg c69] at hf
                refine lv_aload_n hx hb dX6_read_95 rfl (lv_at hl 1 rfl) ?_
                refine va_get (D := G) (ci := 6) (v := .ref (ad 6)) (C := RX6) (T := TX6) (N := 9) hx hb hts inkX6 hown hK hP 0 rfl rfl 2 (by decide) (hts _ kw_252) (fun _ h9 => h9) rfl dX6_read_96 ?_
                refine lv_iload hx hb dX6_read_99 (lv_at hl 6 rfl) ?_
                refine va_putN (D := G) (ci := 1) (v := .int x5) (ty := .int) (C := RX1) (T := TX1) (N := 8) hx hb hts inkX1 tyX1 tyX1_ok nmX1 hown hK hP (hD _) hS 6 rfl rfl 1 (by decide) (kn_X6_89 hE) (fun _ h9 => h9) rfl (by decide +kernel) rfl rfl (Nat.le_of_ble_eq_true rfl) dX6_read_101 (fun H locs hP _ hS => ?_)
                obtain ⟨σ71, eσ71⟩ : ∃ z : Sg, z = (s_up σ66 6 1 x5) := ⟨_, rfl⟩
                replace hf := s_lt_at eσ71 hf
                replace hP : va_P G vwCl ((s_WC cy ad) σ71) H := by rw [eσ71]; exact hP
                refine lv_bipush (v := -20) hx hb dX6_read_104 (by decide) ?_
                refine lv_iload hx hb dX6_read_106 (lv_at hl 7 rfl) ?_
                refine lv_isub hx hb dX6_read_108 ?_
                obtain ⟨he1, he2⟩ := s_ret hf
                exact W.iret hx hb hr (fun t ht hW => ⟨⟨_, (), rfl, he1, s_fin (Wd := (s_WC cy ad)) ht he2 hP⟩, hS.F ht⟩) hS.2.2 dX6_read_109 hlk
            · rw [if_neg c62] at hf
              by_cases c72 : x1 = 2
              · rw [if_pos c72] at hf
                refine va_aldq hx hb hK hP 18 4 rfl rfl (by rw [c72]; unfold vp_in; decide) dX6_read_81 ?_
                refine W.eq (g2 := F0 m 82 ls [.ref (ad 23), .ref (ad 0)]) (by rw [c72]; rfl) ?_
                refine lv_iload_n hx hb dX6_read_82 rfl (lv_at hl 4 rfl) ?_
                refine lv_iload hx hb dX6_read_83 (lv_at hl 7 rfl) ?_
                refine lv_iadd hx hb dX6_read_85 ?_
                replace hf := s_bi_some hf
                obtain ⟨r75, σ73, hz74, hf⟩ := hf
                refine s_calli (nn := 1) C (kcX2_valueAt_23 (l := l) (G := G) (cy := cy) (sa := sa) hI (sz := H.size) σ48 (x3 + x7) hz74) gk_X6_246 rfl rfl (by decide +kernel) ⟨Nat.le_of_ble_eq_true rfl, Nat.le_of_ble_eq_true rfl⟩ hP hS (q0 := 23) (ci := 2) rfl rfl rfl (As := [.int (x3 + x7)]) (rest := [.ref (ad 0)]) rfl rfl hl.1 (Nat.le_of_ble_eq_true rfl) dX6_read_86 (fun H locs hP hS => ?_)
                replace hf := s_bi_some hf
                obtain ⟨r78, σ76, hz77, hf⟩ := hf
                refine s_calli (nn := 1) C (kcX6_add (l := l) (G := G) (cy := cy) (sa := sa) hI (sz := H.size) σ73 r75 hz77) gk_X6_247 rfl rfl (by decide +kernel) ⟨Nat.le_of_ble_eq_true rfl, Nat.le_of_ble_eq_true rfl⟩ hP hS (q0 := 0) (ci := 6) rfl rfl rfl (As := [.int r75]) (rest := []) rfl rfl hl.1 (Nat.le_of_ble_eq_true rfl) dX6_read_89 (fun H locs hP hS => ?_)
                refine lv_if_ge (tgt := 110) hx hb dX6_read_92 (by decide) (fun c79 => ?_) (fun c79 => ?_)
                · rw [if_pos c79] at hf
                  obtain ⟨t80, et80⟩ : ∃ z : Int32, z = (x7 + 1) := ⟨_, rfl⟩
                  replace hf := s_lt_at et80 hf
                  refine lv_iinc (v := t80) (lv' := [(7, .int t80), (6, .int r50), (0, .ref (ad 0)), (1, .int x1), (2, .int x2), (3, .int x3), (4, .int x4), (5, .int x5)]) hx hb dX6_read_110 hl (k := 7) rfl (by rw [et80]; rfl) (by decide) rfl (fun ls hl => ?_)
                  refine lv_goto (tgt := 44) hx hb dX6_read_113 (by decide) ?_
                  exact hk44 σ76 x1 x2 x3 x4 x5 r50 t80 _ _ _ (lv_sub hl [2, 3, 4, 5, 6, 7, 1, 0] rfl) hP hS hf
                · rw [if_neg c79] at hf
                  refine lv_aload_n hx hb dX6_read_95 rfl (lv_at hl 1 rfl) ?_
                  refine va_get (D := G) (ci := 6) (v := .ref (ad 6)) (C := RX6) (T := TX6) (N := 9) hx hb hts inkX6 hown hK hP 0 rfl rfl 2 (by decide) (hts _ kw_252) (fun _ h9 => h9) rfl dX6_read_96 ?_
                  refine lv_iload hx hb dX6_read_99 (lv_at hl 6 rfl) ?_
                  refine va_putN (D := G) (ci := 1) (v := .int x5) (ty := .int) (C := RX1) (T := TX1) (N := 8) hx hb hts inkX1 tyX1 tyX1_ok nmX1 hown hK hP (hD _) hS 6 rfl rfl 1 (by decide) (kn_X6_89 hE) (fun _ h9 => h9) rfl (by decide +kernel) rfl rfl (Nat.le_of_ble_eq_true rfl) dX6_read_101 (fun H locs hP _ hS => ?_)
                  obtain ⟨σ81, eσ81⟩ : ∃ z : Sg, z = (s_up σ76 6 1 x5) := ⟨_, rfl⟩
                  replace hf := s_lt_at eσ81 hf
                  replace hP : va_P G vwCl ((s_WC cy ad) σ81) H := by rw [eσ81]; exact hP
                  refine lv_bipush (v := -20) hx hb dX6_read_104 (by decide) ?_
                  refine lv_iload hx hb dX6_read_106 (lv_at hl 7 rfl) ?_
                  refine lv_isub hx hb dX6_read_108 ?_
                  obtain ⟨he1, he2⟩ := s_ret hf
                  exact W.iret hx hb hr (fun t ht hW => ⟨⟨_, (), rfl, he1, s_fin (Wd := (s_WC cy ad)) ht he2 hP⟩, hS.F ht⟩) hS.2.2 dX6_read_109 hlk
              · rw [if_neg c72] at hf
                by_cases c82 : x1 = 3
                · rw [if_pos c82] at hf
                  refine va_aldq hx hb hK hP 18 4 rfl rfl (by rw [c82]; unfold vp_in; decide) dX6_read_81 ?_
                  refine W.eq (g2 := F0 m 82 ls [.ref (ad 25), .ref (ad 0)]) (by rw [c82]; rfl) ?_
                  refine lv_iload_n hx hb dX6_read_82 rfl (lv_at hl 4 rfl) ?_
                  refine lv_iload hx hb dX6_read_83 (lv_at hl 7 rfl) ?_
                  refine lv_iadd hx hb dX6_read_85 ?_
                  replace hf := s_bi_some hf
                  obtain ⟨r85, σ83, hz84, hf⟩ := hf
                  refine s_calli (nn := 1) C (kcX2_valueAt_25 (l := l) (G := G) (cy := cy) (sa := sa) hI (sz := H.size) σ48 (x3 + x7) hz84) gk_X6_246 rfl rfl (by decide +kernel) ⟨Nat.le_of_ble_eq_true rfl, Nat.le_of_ble_eq_true rfl⟩ hP hS (q0 := 25) (ci := 2) rfl rfl rfl (As := [.int (x3 + x7)]) (rest := [.ref (ad 0)]) rfl rfl hl.1 (Nat.le_of_ble_eq_true rfl) dX6_read_86 (fun H locs hP hS => ?_)
                  replace hf := s_bi_some hf
                  obtain ⟨r88, σ86, hz87, hf⟩ := hf
                  refine s_calli (nn := 1) C (kcX6_add (l := l) (G := G) (cy := cy) (sa := sa) hI (sz := H.size) σ83 r85 hz87) gk_X6_247 rfl rfl (by decide +kernel) ⟨Nat.le_of_ble_eq_true rfl, Nat.le_of_ble_eq_true rfl⟩ hP hS (q0 := 0) (ci := 6) rfl rfl rfl (As := [.int r85]) (rest := []) rfl rfl hl.1 (Nat.le_of_ble_eq_true rfl) dX6_read_89 (fun H locs hP hS => ?_)
                  refine lv_if_ge (tgt := 110) hx hb dX6_read_92 (by decide) (fun c89 => ?_) (fun c89 => ?_)
                  · rw [if_pos c89] at hf
                    obtain ⟨t90, et90⟩ : ∃ z : Int32, z = (x7 + 1) := ⟨_, rfl⟩
                    replace hf := s_lt_at et90 hf
                    refine lv_iinc (v := t90) (lv' := [(7, .int t90), (6, .int r50), (0, .ref (ad 0)), (1, .int x1), (2, .int x2), (3, .int x3), (4, .int x4), (5, .int x5)]) hx hb dX6_read_110 hl (k := 7) rfl (by rw [et90]; rfl) (by decide) rfl (fun ls hl => ?_)
                    refine lv_goto (tgt := 44) hx hb dX6_read_113 (by decide) ?_
                    exact hk44 σ86 x1 x2 x3 x4 x5 r50 t90 _ _ _ (lv_sub hl [2, 3, 4, 5, 6, 7, 1, 0] rfl) hP hS hf
                  · rw [if_neg c89] at hf
                    refine lv_aload_n hx hb dX6_read_95 rfl (lv_at hl 1 rfl) ?_
                    refine va_get (D := G) (ci := 6) (v := .ref (ad 6)) (C := RX6) (T := TX6) (N := 9) hx hb hts inkX6 hown hK hP 0 rfl rfl 2 (by decide) (hts _ kw_252) (fun _ h9 => h9) rfl dX6_read_96 ?_
                    refine lv_iload hx hb dX6_read_99 (lv_at hl 6 rfl) ?_
                    refine va_putN (D := G) (ci := 1) (v := .int x5) (ty := .int) (C := RX1) (T := TX1) (N := 8) hx hb hts inkX1 tyX1 tyX1_ok nmX1 hown hK hP (hD _) hS 6 rfl rfl 1 (by decide) (kn_X6_89 hE) (fun _ h9 => h9) rfl (by decide +kernel) rfl rfl (Nat.le_of_ble_eq_true rfl) dX6_read_101 (fun H locs hP _ hS => ?_)
                    obtain ⟨σ91, eσ91⟩ : ∃ z : Sg, z = (s_up σ86 6 1 x5) := ⟨_, rfl⟩
                    replace hf := s_lt_at eσ91 hf
                    replace hP : va_P G vwCl ((s_WC cy ad) σ91) H := by rw [eσ91]; exact hP
                    refine lv_bipush (v := -20) hx hb dX6_read_104 (by decide) ?_
                    refine lv_iload hx hb dX6_read_106 (lv_at hl 7 rfl) ?_
                    refine lv_isub hx hb dX6_read_108 ?_
                    obtain ⟨he1, he2⟩ := s_ret hf
                    exact W.iret hx hb hr (fun t ht hW => ⟨⟨_, (), rfl, he1, s_fin (Wd := (s_WC cy ad)) ht he2 hP⟩, hS.F ht⟩) hS.2.2 dX6_read_109 hlk
                · rw [if_neg c82] at hf
                  cases hf
        · rw [if_neg c51] at hf
          refine lv_goto (tgt := 116) hx hb dX6_read_72 (by decide) ?_
          exact kX6_read_b116 C σ48 r50 x7 _ _ _ (lv_sub hl [1, 0, 7] rfl) hP hS hf
      · rw [if_neg c47] at hf
        by_cases c92 : x1 = 2
        · rw [if_pos c92] at hf
          refine va_aldq hx hb hK hP 18 4 rfl rfl (by rw [c92]; unfold vp_in; decide) dX6_read_56 ?_
          refine W.eq (g2 := F0 m 57 ls [.ref (ad 23)]) (by rw [c92]; rfl) ?_
          refine lv_iload_n hx hb dX6_read_57 rfl (lv_at hl 2 rfl) ?_
          refine lv_iload_n hx hb dX6_read_58 rfl (lv_at hl 3 rfl) ?_
          refine lv_iload hx hb dX6_read_59 (lv_at hl 7 rfl) ?_
          refine lv_iadd hx hb dX6_read_61 ?_
          replace hf := s_bi_some hf
          obtain ⟨r95, σ93, hz94, hf⟩ := hf
          refine s_calliS (nn := 3) C (kcX6_tearAt_23 (l := l) (G := G) (cy := cy) (sa := sa) hI (sz := H.size) σ x2 (x3 + x7) hz94) gk_X6_242 rfl rfl (by decide +kernel) ⟨Nat.le_of_ble_eq_true rfl, Nat.le_of_ble_eq_true rfl⟩ hP hS (As := [.ref (ad 23), .int x2, .int (x3 + x7)]) (rest := []) rfl rfl hl.1 (Nat.le_of_ble_eq_true rfl) dX6_read_62 (fun H locs hP hS => ?_)
          refine lv_istore (lv' := [(6, .int r95), (0, .ref (ad 0)), (1, .int x1), (2, .int x2), (3, .int x3), (4, .int x4), (5, .int x5), (7, .int x7)]) hx hb dX6_read_65 hl (by decide) rfl (fun ls hl => ?_)
          refine lv_iload hx hb dX6_read_67 (lv_at hl 0 rfl) ?_
          refine lv_if_eq (tgt := 75) hx hb dX6_read_69 (by decide) (fun c96 => ?_) (fun c96 => ?_)
          · rw [if_pos c96] at hf
            refine lv_aload_n hx hb dX6_read_75 rfl (lv_at hl 1 rfl) ?_
            refine lv_aload_n hx hb dX6_read_76 rfl (lv_at hl 1 rfl) ?_
            refine va_get (D := G) (ci := 6) (v := .ref (ad 18)) (C := RX6) (T := TX6) (N := 9) hx hb hts inkX6 hown hK hP 0 rfl rfl 7 (by decide) (hts _ kw_257) (fun _ h9 => h9) rfl dX6_read_77 ?_
            refine lv_iload_n hx hb dX6_read_80 rfl (lv_at hl 2 rfl) ?_
            by_cases c97 : x1 = 0
            · rw [if_pos c97] at hf
              refine va_aldq hx hb hK hP 18 4 rfl rfl (by rw [c97]; unfold vp_in; decide) dX6_read_81 ?_
              refine W.eq (g2 := F0 m 82 ls [.ref (ad 19), .ref (ad 0)]) (by rw [c97]; rfl) ?_
              refine lv_iload_n hx hb dX6_read_82 rfl (lv_at hl 4 rfl) ?_
              refine lv_iload hx hb dX6_read_83 (lv_at hl 7 rfl) ?_
              refine lv_iadd hx hb dX6_read_85 ?_
              replace hf := s_bi_some hf
              obtain ⟨r100, σ98, hz99, hf⟩ := hf
              refine s_calli (nn := 1) C (kcX2_valueAt_19 (l := l) (G := G) (cy := cy) (sa := sa) hI (sz := H.size) σ93 (x3 + x7) hz99) gk_X6_246 rfl rfl (by decide +kernel) ⟨Nat.le_of_ble_eq_true rfl, Nat.le_of_ble_eq_true rfl⟩ hP hS (q0 := 19) (ci := 2) rfl rfl rfl (As := [.int (x3 + x7)]) (rest := [.ref (ad 0)]) rfl rfl hl.1 (Nat.le_of_ble_eq_true rfl) dX6_read_86 (fun H locs hP hS => ?_)
              replace hf := s_bi_some hf
              obtain ⟨r103, σ101, hz102, hf⟩ := hf
              refine s_calli (nn := 1) C (kcX6_add (l := l) (G := G) (cy := cy) (sa := sa) hI (sz := H.size) σ98 r100 hz102) gk_X6_247 rfl rfl (by decide +kernel) ⟨Nat.le_of_ble_eq_true rfl, Nat.le_of_ble_eq_true rfl⟩ hP hS (q0 := 0) (ci := 6) rfl rfl rfl (As := [.int r100]) (rest := []) rfl rfl hl.1 (Nat.le_of_ble_eq_true rfl) dX6_read_89 (fun H locs hP hS => ?_)
              refine lv_if_ge (tgt := 110) hx hb dX6_read_92 (by decide) (fun c104 => ?_) (fun c104 => ?_)
              · rw [if_pos c104] at hf
                obtain ⟨t105, et105⟩ : ∃ z : Int32, z = (x7 + 1) := ⟨_, rfl⟩
                replace hf := s_lt_at et105 hf
                refine lv_iinc (v := t105) (lv' := [(7, .int t105), (6, .int r95), (0, .ref (ad 0)), (1, .int x1), (2, .int x2), (3, .int x3), (4, .int x4), (5, .int x5)]) hx hb dX6_read_110 hl (k := 7) rfl (by rw [et105]; rfl) (by decide) rfl (fun ls hl => ?_)
                refine lv_goto (tgt := 44) hx hb dX6_read_113 (by decide) ?_
                exact hk44 σ101 x1 x2 x3 x4 x5 r95 t105 _ _ _ (lv_sub hl [2, 3, 4, 5, 6, 7, 1, 0] rfl) hP hS hf
              · rw [if_neg c104] at hf
                refine lv_aload_n hx hb dX6_read_95 rfl (lv_at hl 1 rfl) ?_
                refine va_get (D := G) (ci := 6) (v := .ref (ad 6)) (C := RX6) (T := TX6) (N := 9) hx hb hts inkX6 hown hK hP 0 rfl rfl 2 (by decide) (hts _ kw_252) (fun _ h9 => h9) rfl dX6_read_96 ?_
                refine lv_iload hx hb dX6_read_99 (lv_at hl 6 rfl) ?_
                refine va_putN (D := G) (ci := 1) (v := .int x5) (ty := .int) (C := RX1) (T := TX1) (N := 8) hx hb hts inkX1 tyX1 tyX1_ok nmX1 hown hK hP (hD _) hS 6 rfl rfl 1 (by decide) (kn_X6_89 hE) (fun _ h9 => h9) rfl (by decide +kernel) rfl rfl (Nat.le_of_ble_eq_true rfl) dX6_read_101 (fun H locs hP _ hS => ?_)
                obtain ⟨σ106, eσ106⟩ : ∃ z : Sg, z = (s_up σ101 6 1 x5) := ⟨_, rfl⟩
                replace hf := s_lt_at eσ106 hf
                replace hP : va_P G vwCl ((s_WC cy ad) σ106) H := by rw [eσ106]; exact hP
                refine lv_bipush (v := -20) hx hb dX6_read_104 (by decide) ?_
                refine lv_iload hx hb dX6_read_106 (lv_at hl 7 rfl) ?_
                refine lv_isub hx hb dX6_read_108 ?_
                obtain ⟨he1, he2⟩ := s_ret hf
                exact W.iret hx hb hr (fun t ht hW => ⟨⟨_, (), rfl, he1, s_fin (Wd := (s_WC cy ad)) ht he2 hP⟩, hS.F ht⟩) hS.2.2 dX6_read_109 hlk
            · rw [if_neg c97] at hf
              by_cases c107 : x1 = 1
              · rw [if_pos c107] at hf
                refine va_aldq hx hb hK hP 18 4 rfl rfl (by rw [c107]; unfold vp_in; decide) dX6_read_81 ?_
                refine W.eq (g2 := F0 m 82 ls [.ref (ad 21), .ref (ad 0)]) (by rw [c107]; rfl) ?_
                refine lv_iload_n hx hb dX6_read_82 rfl (lv_at hl 4 rfl) ?_
                refine lv_iload hx hb dX6_read_83 (lv_at hl 7 rfl) ?_
                refine lv_iadd hx hb dX6_read_85 ?_
                replace hf := s_bi_some hf
                obtain ⟨r110, σ108, hz109, hf⟩ := hf
                refine s_calli (nn := 1) C (kcX2_valueAt_21 (l := l) (G := G) (cy := cy) (sa := sa) hI (sz := H.size) σ93 (x3 + x7) hz109) gk_X6_246 rfl rfl (by decide +kernel) ⟨Nat.le_of_ble_eq_true rfl, Nat.le_of_ble_eq_true rfl⟩ hP hS (q0 := 21) (ci := 2) rfl rfl rfl (As := [.int (x3 + x7)]) (rest := [.ref (ad 0)]) rfl rfl hl.1 (Nat.le_of_ble_eq_true rfl) dX6_read_86 (fun H locs hP hS => ?_)
                replace hf := s_bi_some hf
                obtain ⟨r113, σ111, hz112, hf⟩ := hf
                refine s_calli (nn := 1) C (kcX6_add (l := l) (G := G) (cy := cy) (sa := sa) hI (sz := H.size) σ108 r110 hz112) gk_X6_247 rfl rfl (by decide +kernel) ⟨Nat.le_of_ble_eq_true rfl, Nat.le_of_ble_eq_true rfl⟩ hP hS (q0 := 0) (ci := 6) rfl rfl rfl (As := [.int r110]) (rest := []) rfl rfl hl.1 (Nat.le_of_ble_eq_true rfl) dX6_read_89 (fun H locs hP hS => ?_)
                refine lv_if_ge (tgt := 110) hx hb dX6_read_92 (by decide) (fun c114 => ?_) (fun c114 => ?_)
                · rw [if_pos c114] at hf
                  obtain ⟨t115, et115⟩ : ∃ z : Int32, z = (x7 + 1) := ⟨_, rfl⟩
                  replace hf := s_lt_at et115 hf
                  refine lv_iinc (v := t115) (lv' := [(7, .int t115), (6, .int r95), (0, .ref (ad 0)), (1, .int x1), (2, .int x2), (3, .int x3), (4, .int x4), (5, .int x5)]) hx hb dX6_read_110 hl (k := 7) rfl (by rw [et115]; rfl) (by decide) rfl (fun ls hl => ?_)
                  refine lv_goto (tgt := 44) hx hb dX6_read_113 (by decide) ?_
                  exact hk44 σ111 x1 x2 x3 x4 x5 r95 t115 _ _ _ (lv_sub hl [2, 3, 4, 5, 6, 7, 1, 0] rfl) hP hS hf
                · rw [if_neg c114] at hf
                  refine lv_aload_n hx hb dX6_read_95 rfl (lv_at hl 1 rfl) ?_
                  refine va_get (D := G) (ci := 6) (v := .ref (ad 6)) (C := RX6) (T := TX6) (N := 9) hx hb hts inkX6 hown hK hP 0 rfl rfl 2 (by decide) (hts _ kw_252) (fun _ h9 => h9) rfl dX6_read_96 ?_
                  refine lv_iload hx hb dX6_read_99 (lv_at hl 6 rfl) ?_
                  refine va_putN (D := G) (ci := 1) (v := .int x5) (ty := .int) (C := RX1) (T := TX1) (N := 8) hx hb hts inkX1 tyX1 tyX1_ok nmX1 hown hK hP (hD _) hS 6 rfl rfl 1 (by decide) (kn_X6_89 hE) (fun _ h9 => h9) rfl (by decide +kernel) rfl rfl (Nat.le_of_ble_eq_true rfl) dX6_read_101 (fun H locs hP _ hS => ?_)
                  obtain ⟨σ116, eσ116⟩ : ∃ z : Sg, z = (s_up σ111 6 1 x5) := ⟨_, rfl⟩
                  replace hf := s_lt_at eσ116 hf
                  replace hP : va_P G vwCl ((s_WC cy ad) σ116) H := by rw [eσ116]; exact hP
                  refine lv_bipush (v := -20) hx hb dX6_read_104 (by decide) ?_
                  refine lv_iload hx hb dX6_read_106 (lv_at hl 7 rfl) ?_
                  refine lv_isub hx hb dX6_read_108 ?_
                  obtain ⟨he1, he2⟩ := s_ret hf
                  exact W.iret hx hb hr (fun t ht hW => ⟨⟨_, (), rfl, he1, s_fin (Wd := (s_WC cy ad)) ht he2 hP⟩, hS.F ht⟩) hS.2.2 dX6_read_109 hlk
              · rw [if_neg c107] at hf
                by_cases c117 : x1 = 2
                · rw [if_pos c117] at hf
                  refine va_aldq hx hb hK hP 18 4 rfl rfl (by rw [c117]; unfold vp_in; decide) dX6_read_81 ?_
                  refine W.eq (g2 := F0 m 82 ls [.ref (ad 23), .ref (ad 0)]) (by rw [c117]; rfl) ?_
                  refine lv_iload_n hx hb dX6_read_82 rfl (lv_at hl 4 rfl) ?_
                  refine lv_iload hx hb dX6_read_83 (lv_at hl 7 rfl) ?_
                  refine lv_iadd hx hb dX6_read_85 ?_
                  replace hf := s_bi_some hf
                  obtain ⟨r120, σ118, hz119, hf⟩ := hf
                  refine s_calli (nn := 1) C (kcX2_valueAt_23 (l := l) (G := G) (cy := cy) (sa := sa) hI (sz := H.size) σ93 (x3 + x7) hz119) gk_X6_246 rfl rfl (by decide +kernel) ⟨Nat.le_of_ble_eq_true rfl, Nat.le_of_ble_eq_true rfl⟩ hP hS (q0 := 23) (ci := 2) rfl rfl rfl (As := [.int (x3 + x7)]) (rest := [.ref (ad 0)]) rfl rfl hl.1 (Nat.le_of_ble_eq_true rfl) dX6_read_86 (fun H locs hP hS => ?_)
                  replace hf := s_bi_some hf
                  obtain ⟨r123, σ121, hz122, hf⟩ := hf
                  refine s_calli (nn := 1) C (kcX6_add (l := l) (G := G) (cy := cy) (sa := sa) hI (sz := H.size) σ118 r120 hz122) gk_X6_247 rfl rfl (by decide +kernel) ⟨Nat.le_of_ble_eq_true rfl, Nat.le_of_ble_eq_true rfl⟩ hP hS (q0 := 0) (ci := 6) rfl rfl rfl (As := [.int r120]) (rest := []) rfl rfl hl.1 (Nat.le_of_ble_eq_true rfl) dX6_read_89 (fun H locs hP hS => ?_)
                  refine lv_if_ge (tgt := 110) hx hb dX6_read_92 (by decide) (fun c124 => ?_) (fun c124 => ?_)
                  · rw [if_pos c124] at hf
                    obtain ⟨t125, et125⟩ : ∃ z : Int32, z = (x7 + 1) := ⟨_, rfl⟩
                    replace hf := s_lt_at et125 hf
                    refine lv_iinc (v := t125) (lv' := [(7, .int t125), (6, .int r95), (0, .ref (ad 0)), (1, .int x1), (2, .int x2), (3, .int x3), (4, .int x4), (5, .int x5)]) hx hb dX6_read_110 hl (k := 7) rfl (by rw [et125]; rfl) (by decide) rfl (fun ls hl => ?_)
                    refine lv_goto (tgt := 44) hx hb dX6_read_113 (by decide) ?_
                    exact hk44 σ121 x1 x2 x3 x4 x5 r95 t125 _ _ _ (lv_sub hl [2, 3, 4, 5, 6, 7, 1, 0] rfl) hP hS hf
                  · rw [if_neg c124] at hf
                    refine lv_aload_n hx hb dX6_read_95 rfl (lv_at hl 1 rfl) ?_
                    refine va_get (D := G) (ci := 6) (v := .ref (ad 6)) (C := RX6) (T := TX6) (N := 9) hx hb hts inkX6 hown hK hP 0 rfl rfl 2 (by decide) (hts _ kw_252) (fun _ h9 => h9) rfl dX6_read_96 ?_
                    refine lv_iload hx hb dX6_read_99 (lv_at hl 6 rfl) ?_
                    refine va_putN (D := G) (ci := 1) (v := .int x5) (ty := .int) (C := RX1) (T := TX1) (N := 8) hx hb hts inkX1 tyX1 tyX1_ok nmX1 hown hK hP (hD _) hS 6 rfl rfl 1 (by decide) (kn_X6_89 hE) (fun _ h9 => h9) rfl (by decide +kernel) rfl rfl (Nat.le_of_ble_eq_true rfl) dX6_read_101 (fun H locs hP _ hS => ?_)
                    obtain ⟨σ126, eσ126⟩ : ∃ z : Sg, z = (s_up σ121 6 1 x5) := ⟨_, rfl⟩
                    replace hf := s_lt_at eσ126 hf
                    replace hP : va_P G vwCl ((s_WC cy ad) σ126) H := by rw [eσ126]; exact hP
                    refine lv_bipush (v := -20) hx hb dX6_read_104 (by decide) ?_
                    refine lv_iload hx hb dX6_read_106 (lv_at hl 7 rfl) ?_
                    refine lv_isub hx hb dX6_read_108 ?_
                    obtain ⟨he1, he2⟩ := s_ret hf
                    exact W.iret hx hb hr (fun t ht hW => ⟨⟨_, (), rfl, he1, s_fin (Wd := (s_WC cy ad)) ht he2 hP⟩, hS.F ht⟩) hS.2.2 dX6_read_109 hlk
                · rw [if_neg c117] at hf
                  by_cases c127 : x1 = 3
                  · rw [if_pos c127] at hf
                    refine va_aldq hx hb hK hP 18 4 rfl rfl (by rw [c127]; unfold vp_in; decide) dX6_read_81 ?_
                    refine W.eq (g2 := F0 m 82 ls [.ref (ad 25), .ref (ad 0)]) (by rw [c127]; rfl) ?_
                    refine lv_iload_n hx hb dX6_read_82 rfl (lv_at hl 4 rfl) ?_
                    refine lv_iload hx hb dX6_read_83 (lv_at hl 7 rfl) ?_
                    refine lv_iadd hx hb dX6_read_85 ?_
                    replace hf := s_bi_some hf
                    obtain ⟨r130, σ128, hz129, hf⟩ := hf
                    refine s_calli (nn := 1) C (kcX2_valueAt_25 (l := l) (G := G) (cy := cy) (sa := sa) hI (sz := H.size) σ93 (x3 + x7) hz129) gk_X6_246 rfl rfl (by decide +kernel) ⟨Nat.le_of_ble_eq_true rfl, Nat.le_of_ble_eq_true rfl⟩ hP hS (q0 := 25) (ci := 2) rfl rfl rfl (As := [.int (x3 + x7)]) (rest := [.ref (ad 0)]) rfl rfl hl.1 (Nat.le_of_ble_eq_true rfl) dX6_read_86 (fun H locs hP hS => ?_)
                    replace hf := s_bi_some hf
                    obtain ⟨r133, σ131, hz132, hf⟩ := hf
                    refine s_calli (nn := 1) C (kcX6_add (l := l) (G := G) (cy := cy) (sa := sa) hI (sz := H.size) σ128 r130 hz132) gk_X6_247 rfl rfl (by decide +kernel) ⟨Nat.le_of_ble_eq_true rfl, Nat.le_of_ble_eq_true rfl⟩ hP hS (q0 := 0) (ci := 6) rfl rfl rfl (As := [.int r130]) (rest := []) rfl rfl hl.1 (Nat.le_of_ble_eq_true rfl) dX6_read_89 (fun H locs hP hS => ?_)
                    refine lv_if_ge (tgt := 110) hx hb dX6_read_92 (by decide) (fun c134 => ?_) (fun c134 => ?_)
                    · rw [if_pos c134] at hf
                      obtain ⟨t135, et135⟩ : ∃ z : Int32, z = (x7 + 1) := ⟨_, rfl⟩
                      replace hf := s_lt_at et135 hf
                      refine lv_iinc (v := t135) (lv' := [(7, .int t135), (6, .int r95), (0, .ref (ad 0)), (1, .int x1), (2, .int x2), (3, .int x3), (4, .int x4), (5, .int x5)]) hx hb dX6_read_110 hl (k := 7) rfl (by rw [et135]; rfl) (by decide) rfl (fun ls hl => ?_)
                      refine lv_goto (tgt := 44) hx hb dX6_read_113 (by decide) ?_
                      exact hk44 σ131 x1 x2 x3 x4 x5 r95 t135 _ _ _ (lv_sub hl [2, 3, 4, 5, 6, 7, 1, 0] rfl) hP hS hf
                    · rw [if_neg c134] at hf
                      refine lv_aload_n hx hb dX6_read_95 rfl (lv_at hl 1 rfl) ?_
                      refine va_get (D := G) (ci := 6) (v := .ref (ad 6)) (C := RX6) (T := TX6) (N := 9) hx hb hts inkX6 hown hK hP 0 rfl rfl 2 (by decide) (hts _ kw_252) (fun _ h9 => h9) rfl dX6_read_96 ?_
                      refine lv_iload hx hb dX6_read_99 (lv_at hl 6 rfl) ?_
                      refine va_putN (D := G) (ci := 1) (v := .int x5) (ty := .int) (C := RX1) (T := TX1) (N := 8) hx hb hts inkX1 tyX1 tyX1_ok nmX1 hown hK hP (hD _) hS 6 rfl rfl 1 (by decide) (kn_X6_89 hE) (fun _ h9 => h9) rfl (by decide +kernel) rfl rfl (Nat.le_of_ble_eq_true rfl) dX6_read_101 (fun H locs hP _ hS => ?_)
                      obtain ⟨σ136, eσ136⟩ : ∃ z : Sg, z = (s_up σ131 6 1 x5) := ⟨_, rfl⟩
                      replace hf := s_lt_at eσ136 hf
                      replace hP : va_P G vwCl ((s_WC cy ad) σ136) H := by rw [eσ136]; exact hP
                      refine lv_bipush (v := -20) hx hb dX6_read_104 (by decide) ?_
                      refine lv_iload hx hb dX6_read_106 (lv_at hl 7 rfl) ?_
                      refine lv_isub hx hb dX6_read_108 ?_
                      obtain ⟨he1, he2⟩ := s_ret hf
                      exact W.iret hx hb hr (fun t ht hW => ⟨⟨_, (), rfl, he1, s_fin (Wd := (s_WC cy ad)) ht he2 hP⟩, hS.F ht⟩) hS.2.2 dX6_read_109 hlk
                  · rw [if_neg c127] at hf
                    cases hf
          · rw [if_neg c96] at hf
            refine lv_goto (tgt := 116) hx hb dX6_read_72 (by decide) ?_
            exact kX6_read_b116 C σ93 r95 x7 _ _ _ (lv_sub hl [1, 0, 7] rfl) hP hS hf
        · rw [if_neg c92] at hf
          by_cases c137 : x1 = 3
          · rw [if_pos c137] at hf
            refine va_aldq hx hb hK hP 18 4 rfl rfl (by rw [c137]; unfold vp_in; decide) dX6_read_56 ?_
            refine W.eq (g2 := F0 m 57 ls [.ref (ad 25)]) (by rw [c137]; rfl) ?_
            refine lv_iload_n hx hb dX6_read_57 rfl (lv_at hl 2 rfl) ?_
            refine lv_iload_n hx hb dX6_read_58 rfl (lv_at hl 3 rfl) ?_
            refine lv_iload hx hb dX6_read_59 (lv_at hl 7 rfl) ?_
            refine lv_iadd hx hb dX6_read_61 ?_
            replace hf := s_bi_some hf
            obtain ⟨r140, σ138, hz139, hf⟩ := hf
            refine s_calliS (nn := 3) C (kcX6_tearAt_25 (l := l) (G := G) (cy := cy) (sa := sa) hI (sz := H.size) σ x2 (x3 + x7) hz139) gk_X6_242 rfl rfl (by decide +kernel) ⟨Nat.le_of_ble_eq_true rfl, Nat.le_of_ble_eq_true rfl⟩ hP hS (As := [.ref (ad 25), .int x2, .int (x3 + x7)]) (rest := []) rfl rfl hl.1 (Nat.le_of_ble_eq_true rfl) dX6_read_62 (fun H locs hP hS => ?_)
            refine lv_istore (lv' := [(6, .int r140), (0, .ref (ad 0)), (1, .int x1), (2, .int x2), (3, .int x3), (4, .int x4), (5, .int x5), (7, .int x7)]) hx hb dX6_read_65 hl (by decide) rfl (fun ls hl => ?_)
            refine lv_iload hx hb dX6_read_67 (lv_at hl 0 rfl) ?_
            refine lv_if_eq (tgt := 75) hx hb dX6_read_69 (by decide) (fun c141 => ?_) (fun c141 => ?_)
            · rw [if_pos c141] at hf
              refine lv_aload_n hx hb dX6_read_75 rfl (lv_at hl 1 rfl) ?_
              refine lv_aload_n hx hb dX6_read_76 rfl (lv_at hl 1 rfl) ?_
              refine va_get (D := G) (ci := 6) (v := .ref (ad 18)) (C := RX6) (T := TX6) (N := 9) hx hb hts inkX6 hown hK hP 0 rfl rfl 7 (by decide) (hts _ kw_257) (fun _ h9 => h9) rfl dX6_read_77 ?_
              refine lv_iload_n hx hb dX6_read_80 rfl (lv_at hl 2 rfl) ?_
              by_cases c142 : x1 = 0
              · rw [if_pos c142] at hf
                refine va_aldq hx hb hK hP 18 4 rfl rfl (by rw [c142]; unfold vp_in; decide) dX6_read_81 ?_
                refine W.eq (g2 := F0 m 82 ls [.ref (ad 19), .ref (ad 0)]) (by rw [c142]; rfl) ?_
                refine lv_iload_n hx hb dX6_read_82 rfl (lv_at hl 4 rfl) ?_
                refine lv_iload hx hb dX6_read_83 (lv_at hl 7 rfl) ?_
                refine lv_iadd hx hb dX6_read_85 ?_
                replace hf := s_bi_some hf
                obtain ⟨r145, σ143, hz144, hf⟩ := hf
                refine s_calli (nn := 1) C (kcX2_valueAt_19 (l := l) (G := G) (cy := cy) (sa := sa) hI (sz := H.size) σ138 (x3 + x7) hz144) gk_X6_246 rfl rfl (by decide +kernel) ⟨Nat.le_of_ble_eq_true rfl, Nat.le_of_ble_eq_true rfl⟩ hP hS (q0 := 19) (ci := 2) rfl rfl rfl (As := [.int (x3 + x7)]) (rest := [.ref (ad 0)]) rfl rfl hl.1 (Nat.le_of_ble_eq_true rfl) dX6_read_86 (fun H locs hP hS => ?_)
                replace hf := s_bi_some hf
                obtain ⟨r148, σ146, hz147, hf⟩ := hf
                refine s_calli (nn := 1) C (kcX6_add (l := l) (G := G) (cy := cy) (sa := sa) hI (sz := H.size) σ143 r145 hz147) gk_X6_247 rfl rfl (by decide +kernel) ⟨Nat.le_of_ble_eq_true rfl, Nat.le_of_ble_eq_true rfl⟩ hP hS (q0 := 0) (ci := 6) rfl rfl rfl (As := [.int r145]) (rest := []) rfl rfl hl.1 (Nat.le_of_ble_eq_true rfl) dX6_read_89 (fun H locs hP hS => ?_)
                refine lv_if_ge (tgt := 110) hx hb dX6_read_92 (by decide) (fun c149 => ?_) (fun c149 => ?_)
                · rw [if_pos c149] at hf
                  obtain ⟨t150, et150⟩ : ∃ z : Int32, z = (x7 + 1) := ⟨_, rfl⟩
                  replace hf := s_lt_at et150 hf
                  refine lv_iinc (v := t150) (lv' := [(7, .int t150), (6, .int r140), (0, .ref (ad 0)), (1, .int x1), (2, .int x2), (3, .int x3), (4, .int x4), (5, .int x5)]) hx hb dX6_read_110 hl (k := 7) rfl (by rw [et150]; rfl) (by decide) rfl (fun ls hl => ?_)
                  refine lv_goto (tgt := 44) hx hb dX6_read_113 (by decide) ?_
                  exact hk44 σ146 x1 x2 x3 x4 x5 r140 t150 _ _ _ (lv_sub hl [2, 3, 4, 5, 6, 7, 1, 0] rfl) hP hS hf
                · rw [if_neg c149] at hf
                  refine lv_aload_n hx hb dX6_read_95 rfl (lv_at hl 1 rfl) ?_
                  refine va_get (D := G) (ci := 6) (v := .ref (ad 6)) (C := RX6) (T := TX6) (N := 9) hx hb hts inkX6 hown hK hP 0 rfl rfl 2 (by decide) (hts _ kw_252) (fun _ h9 => h9) rfl dX6_read_96 ?_
                  refine lv_iload hx hb dX6_read_99 (lv_at hl 6 rfl) ?_
                  refine va_putN (D := G) (ci := 1) (v := .int x5) (ty := .int) (C := RX1) (T := TX1) (N := 8) hx hb hts inkX1 tyX1 tyX1_ok nmX1 hown hK hP (hD _) hS 6 rfl rfl 1 (by decide) (kn_X6_89 hE) (fun _ h9 => h9) rfl (by decide +kernel) rfl rfl (Nat.le_of_ble_eq_true rfl) dX6_read_101 (fun H locs hP _ hS => ?_)
                  obtain ⟨σ151, eσ151⟩ : ∃ z : Sg, z = (s_up σ146 6 1 x5) := ⟨_, rfl⟩
                  replace hf := s_lt_at eσ151 hf
                  replace hP : va_P G vwCl ((s_WC cy ad) σ151) H := by rw [eσ151]; exact hP
                  refine lv_bipush (v := -20) hx hb dX6_read_104 (by decide) ?_
                  refine lv_iload hx hb dX6_read_106 (lv_at hl 7 rfl) ?_
                  refine lv_isub hx hb dX6_read_108 ?_
                  obtain ⟨he1, he2⟩ := s_ret hf
                  exact W.iret hx hb hr (fun t ht hW => ⟨⟨_, (), rfl, he1, s_fin (Wd := (s_WC cy ad)) ht he2 hP⟩, hS.F ht⟩) hS.2.2 dX6_read_109 hlk
              · rw [if_neg c142] at hf
                by_cases c152 : x1 = 1
                · rw [if_pos c152] at hf
                  refine va_aldq hx hb hK hP 18 4 rfl rfl (by rw [c152]; unfold vp_in; decide) dX6_read_81 ?_
                  refine W.eq (g2 := F0 m 82 ls [.ref (ad 21), .ref (ad 0)]) (by rw [c152]; rfl) ?_
                  refine lv_iload_n hx hb dX6_read_82 rfl (lv_at hl 4 rfl) ?_
                  refine lv_iload hx hb dX6_read_83 (lv_at hl 7 rfl) ?_
                  refine lv_iadd hx hb dX6_read_85 ?_
                  replace hf := s_bi_some hf
                  obtain ⟨r155, σ153, hz154, hf⟩ := hf
                  refine s_calli (nn := 1) C (kcX2_valueAt_21 (l := l) (G := G) (cy := cy) (sa := sa) hI (sz := H.size) σ138 (x3 + x7) hz154) gk_X6_246 rfl rfl (by decide +kernel) ⟨Nat.le_of_ble_eq_true rfl, Nat.le_of_ble_eq_true rfl⟩ hP hS (q0 := 21) (ci := 2) rfl rfl rfl (As := [.int (x3 + x7)]) (rest := [.ref (ad 0)]) rfl rfl hl.1 (Nat.le_of_ble_eq_true rfl) dX6_read_86 (fun H locs hP hS => ?_)
                  replace hf := s_bi_some hf
                  obtain ⟨r158, σ156, hz157, hf⟩ := hf
                  refine s_calli (nn := 1) C (kcX6_add (l := l) (G := G) (cy := cy) (sa := sa) hI (sz := H.size) σ153 r155 hz157) gk_X6_247 rfl rfl (by decide +kernel) ⟨Nat.le_of_ble_eq_true rfl, Nat.le_of_ble_eq_true rfl⟩ hP hS (q0 := 0) (ci := 6) rfl rfl rfl (As := [.int r155]) (rest := []) rfl rfl hl.1 (Nat.le_of_ble_eq_true rfl) dX6_read_89 (fun H locs hP hS => ?_)
                  refine lv_if_ge (tgt := 110) hx hb dX6_read_92 (by decide) (fun c159 => ?_) (fun c159 => ?_)
                  · rw [if_pos c159] at hf
                    obtain ⟨t160, et160⟩ : ∃ z : Int32, z = (x7 + 1) := ⟨_, rfl⟩
                    replace hf := s_lt_at et160 hf
                    refine lv_iinc (v := t160) (lv' := [(7, .int t160), (6, .int r140), (0, .ref (ad 0)), (1, .int x1), (2, .int x2), (3, .int x3), (4, .int x4), (5, .int x5)]) hx hb dX6_read_110 hl (k := 7) rfl (by rw [et160]; rfl) (by decide) rfl (fun ls hl => ?_)
                    refine lv_goto (tgt := 44) hx hb dX6_read_113 (by decide) ?_
                    exact hk44 σ156 x1 x2 x3 x4 x5 r140 t160 _ _ _ (lv_sub hl [2, 3, 4, 5, 6, 7, 1, 0] rfl) hP hS hf
                  · rw [if_neg c159] at hf
                    refine lv_aload_n hx hb dX6_read_95 rfl (lv_at hl 1 rfl) ?_
                    refine va_get (D := G) (ci := 6) (v := .ref (ad 6)) (C := RX6) (T := TX6) (N := 9) hx hb hts inkX6 hown hK hP 0 rfl rfl 2 (by decide) (hts _ kw_252) (fun _ h9 => h9) rfl dX6_read_96 ?_
                    refine lv_iload hx hb dX6_read_99 (lv_at hl 6 rfl) ?_
                    refine va_putN (D := G) (ci := 1) (v := .int x5) (ty := .int) (C := RX1) (T := TX1) (N := 8) hx hb hts inkX1 tyX1 tyX1_ok nmX1 hown hK hP (hD _) hS 6 rfl rfl 1 (by decide) (kn_X6_89 hE) (fun _ h9 => h9) rfl (by decide +kernel) rfl rfl (Nat.le_of_ble_eq_true rfl) dX6_read_101 (fun H locs hP _ hS => ?_)
                    obtain ⟨σ161, eσ161⟩ : ∃ z : Sg, z = (s_up σ156 6 1 x5) := ⟨_, rfl⟩
                    replace hf := s_lt_at eσ161 hf
                    replace hP : va_P G vwCl ((s_WC cy ad) σ161) H := by rw [eσ161]; exact hP
                    refine lv_bipush (v := -20) hx hb dX6_read_104 (by decide) ?_
                    refine lv_iload hx hb dX6_read_106 (lv_at hl 7 rfl) ?_
                    refine lv_isub hx hb dX6_read_108 ?_
                    obtain ⟨he1, he2⟩ := s_ret hf
                    exact W.iret hx hb hr (fun t ht hW => ⟨⟨_, (), rfl, he1, s_fin (Wd := (s_WC cy ad)) ht he2 hP⟩, hS.F ht⟩) hS.2.2 dX6_read_109 hlk
                · rw [if_neg c152] at hf
                  by_cases c162 : x1 = 2
                  · rw [if_pos c162] at hf
                    refine va_aldq hx hb hK hP 18 4 rfl rfl (by rw [c162]; unfold vp_in; decide) dX6_read_81 ?_
                    refine W.eq (g2 := F0 m 82 ls [.ref (ad 23), .ref (ad 0)]) (by rw [c162]; rfl) ?_
                    refine lv_iload_n hx hb dX6_read_82 rfl (lv_at hl 4 rfl) ?_
                    refine lv_iload hx hb dX6_read_83 (lv_at hl 7 rfl) ?_
                    refine lv_iadd hx hb dX6_read_85 ?_
                    replace hf := s_bi_some hf
                    obtain ⟨r165, σ163, hz164, hf⟩ := hf
                    refine s_calli (nn := 1) C (kcX2_valueAt_23 (l := l) (G := G) (cy := cy) (sa := sa) hI (sz := H.size) σ138 (x3 + x7) hz164) gk_X6_246 rfl rfl (by decide +kernel) ⟨Nat.le_of_ble_eq_true rfl, Nat.le_of_ble_eq_true rfl⟩ hP hS (q0 := 23) (ci := 2) rfl rfl rfl (As := [.int (x3 + x7)]) (rest := [.ref (ad 0)]) rfl rfl hl.1 (Nat.le_of_ble_eq_true rfl) dX6_read_86 (fun H locs hP hS => ?_)
                    replace hf := s_bi_some hf
                    obtain ⟨r168, σ166, hz167, hf⟩ := hf
                    refine s_calli (nn := 1) C (kcX6_add (l := l) (G := G) (cy := cy) (sa := sa) hI (sz := H.size) σ163 r165 hz167) gk_X6_247 rfl rfl (by decide +kernel) ⟨Nat.le_of_ble_eq_true rfl, Nat.le_of_ble_eq_true rfl⟩ hP hS (q0 := 0) (ci := 6) rfl rfl rfl (As := [.int r165]) (rest := []) rfl rfl hl.1 (Nat.le_of_ble_eq_true rfl) dX6_read_89 (fun H locs hP hS => ?_)
                    refine lv_if_ge (tgt := 110) hx hb dX6_read_92 (by decide) (fun c169 => ?_) (fun c169 => ?_)
                    · rw [if_pos c169] at hf
                      obtain ⟨t170, et170⟩ : ∃ z : Int32, z = (x7 + 1) := ⟨_, rfl⟩
                      replace hf := s_lt_at et170 hf
                      refine lv_iinc (v := t170) (lv' := [(7, .int t170), (6, .int r140), (0, .ref (ad 0)), (1, .int x1), (2, .int x2), (3, .int x3), (4, .int x4), (5, .int x5)]) hx hb dX6_read_110 hl (k := 7) rfl (by rw [et170]; rfl) (by decide) rfl (fun ls hl => ?_)
                      refine lv_goto (tgt := 44) hx hb dX6_read_113 (by decide) ?_
                      exact hk44 σ166 x1 x2 x3 x4 x5 r140 t170 _ _ _ (lv_sub hl [2, 3, 4, 5, 6, 7, 1, 0] rfl) hP hS hf
                    · rw [if_neg c169] at hf
                      refine lv_aload_n hx hb dX6_read_95 rfl (lv_at hl 1 rfl) ?_
                      refine va_get (D := G) (ci := 6) (v := .ref (ad 6)) (C := RX6) (T := TX6) (N := 9) hx hb hts inkX6 hown hK hP 0 rfl rfl 2 (by decide) (hts _ kw_252) (fun _ h9 => h9) rfl dX6_read_96 ?_
                      refine lv_iload hx hb dX6_read_99 (lv_at hl 6 rfl) ?_
                      refine va_putN (D := G) (ci := 1) (v := .int x5) (ty := .int) (C := RX1) (T := TX1) (N := 8) hx hb hts inkX1 tyX1 tyX1_ok nmX1 hown hK hP (hD _) hS 6 rfl rfl 1 (by decide) (kn_X6_89 hE) (fun _ h9 => h9) rfl (by decide +kernel) rfl rfl (Nat.le_of_ble_eq_true rfl) dX6_read_101 (fun H locs hP _ hS => ?_)
                      obtain ⟨σ171, eσ171⟩ : ∃ z : Sg, z = (s_up σ166 6 1 x5) := ⟨_, rfl⟩
                      replace hf := s_lt_at eσ171 hf
                      replace hP : va_P G vwCl ((s_WC cy ad) σ171) H := by rw [eσ171]; exact hP
                      refine lv_bipush (v := -20) hx hb dX6_read_104 (by decide) ?_
                      refine lv_iload hx hb dX6_read_106 (lv_at hl 7 rfl) ?_
                      refine lv_isub hx hb dX6_read_108 ?_
                      obtain ⟨he1, he2⟩ := s_ret hf
                      exact W.iret hx hb hr (fun t ht hW => ⟨⟨_, (), rfl, he1, s_fin (Wd := (s_WC cy ad)) ht he2 hP⟩, hS.F ht⟩) hS.2.2 dX6_read_109 hlk
                  · rw [if_neg c162] at hf
                    by_cases c172 : x1 = 3
                    · rw [if_pos c172] at hf
                      refine va_aldq hx hb hK hP 18 4 rfl rfl (by rw [c172]; unfold vp_in; decide) dX6_read_81 ?_
                      refine W.eq (g2 := F0 m 82 ls [.ref (ad 25), .ref (ad 0)]) (by rw [c172]; rfl) ?_
                      refine lv_iload_n hx hb dX6_read_82 rfl (lv_at hl 4 rfl) ?_
                      refine lv_iload hx hb dX6_read_83 (lv_at hl 7 rfl) ?_
                      refine lv_iadd hx hb dX6_read_85 ?_
                      replace hf := s_bi_some hf
                      obtain ⟨r175, σ173, hz174, hf⟩ := hf
                      refine s_calli (nn := 1) C (kcX2_valueAt_25 (l := l) (G := G) (cy := cy) (sa := sa) hI (sz := H.size) σ138 (x3 + x7) hz174) gk_X6_246 rfl rfl (by decide +kernel) ⟨Nat.le_of_ble_eq_true rfl, Nat.le_of_ble_eq_true rfl⟩ hP hS (q0 := 25) (ci := 2) rfl rfl rfl (As := [.int (x3 + x7)]) (rest := [.ref (ad 0)]) rfl rfl hl.1 (Nat.le_of_ble_eq_true rfl) dX6_read_86 (fun H locs hP hS => ?_)
                      replace hf := s_bi_some hf
                      obtain ⟨r178, σ176, hz177, hf⟩ := hf
                      refine s_calli (nn := 1) C (kcX6_add (l := l) (G := G) (cy := cy) (sa := sa) hI (sz := H.size) σ173 r175 hz177) gk_X6_247 rfl rfl (by decide +kernel) ⟨Nat.le_of_ble_eq_true rfl, Nat.le_of_ble_eq_true rfl⟩ hP hS (q0 := 0) (ci := 6) rfl rfl rfl (As := [.int r175]) (rest := []) rfl rfl hl.1 (Nat.le_of_ble_eq_true rfl) dX6_read_89 (fun H locs hP hS => ?_)
                      refine lv_if_ge (tgt := 110) hx hb dX6_read_92 (by decide) (fun c179 => ?_) (fun c179 => ?_)
                      · rw [if_pos c179] at hf
                        obtain ⟨t180, et180⟩ : ∃ z : Int32, z = (x7 + 1) := ⟨_, rfl⟩
                        replace hf := s_lt_at et180 hf
                        refine lv_iinc (v := t180) (lv' := [(7, .int t180), (6, .int r140), (0, .ref (ad 0)), (1, .int x1), (2, .int x2), (3, .int x3), (4, .int x4), (5, .int x5)]) hx hb dX6_read_110 hl (k := 7) rfl (by rw [et180]; rfl) (by decide) rfl (fun ls hl => ?_)
                        refine lv_goto (tgt := 44) hx hb dX6_read_113 (by decide) ?_
                        exact hk44 σ176 x1 x2 x3 x4 x5 r140 t180 _ _ _ (lv_sub hl [2, 3, 4, 5, 6, 7, 1, 0] rfl) hP hS hf
                      · rw [if_neg c179] at hf
                        refine lv_aload_n hx hb dX6_read_95 rfl (lv_at hl 1 rfl) ?_
                        refine va_get (D := G) (ci := 6) (v := .ref (ad 6)) (C := RX6) (T := TX6) (N := 9) hx hb hts inkX6 hown hK hP 0 rfl rfl 2 (by decide) (hts _ kw_252) (fun _ h9 => h9) rfl dX6_read_96 ?_
                        refine lv_iload hx hb dX6_read_99 (lv_at hl 6 rfl) ?_
                        refine va_putN (D := G) (ci := 1) (v := .int x5) (ty := .int) (C := RX1) (T := TX1) (N := 8) hx hb hts inkX1 tyX1 tyX1_ok nmX1 hown hK hP (hD _) hS 6 rfl rfl 1 (by decide) (kn_X6_89 hE) (fun _ h9 => h9) rfl (by decide +kernel) rfl rfl (Nat.le_of_ble_eq_true rfl) dX6_read_101 (fun H locs hP _ hS => ?_)
                        obtain ⟨σ181, eσ181⟩ : ∃ z : Sg, z = (s_up σ176 6 1 x5) := ⟨_, rfl⟩
                        replace hf := s_lt_at eσ181 hf
                        replace hP : va_P G vwCl ((s_WC cy ad) σ181) H := by rw [eσ181]; exact hP
                        refine lv_bipush (v := -20) hx hb dX6_read_104 (by decide) ?_
                        refine lv_iload hx hb dX6_read_106 (lv_at hl 7 rfl) ?_
                        refine lv_isub hx hb dX6_read_108 ?_
                        obtain ⟨he1, he2⟩ := s_ret hf
                        exact W.iret hx hb hr (fun t ht hW => ⟨⟨_, (), rfl, he1, s_fin (Wd := (s_WC cy ad)) ht he2 hP⟩, hS.F ht⟩) hS.2.2 dX6_read_109 hlk
                    · rw [if_neg c172] at hf
                      cases hf
            · rw [if_neg c141] at hf
              refine lv_goto (tgt := 116) hx hb dX6_read_72 (by decide) ?_
              exact kX6_read_b116 C σ138 r140 x7 _ _ _ (lv_sub hl [1, 0, 7] rfl) hP hS hf
          · rw [if_neg c137] at hf
            cases hf
set_option maxRecDepth 100000 in
set_option maxHeartbeats 4000000 in
theorem kX6_read_b44_L (C : s_X p s m meth c args cX6_read (some .int) 8 RX6 G cy sa ad 27) : ∀ (n : Nat), ∀ (σ : Sg) (x1 : Int32) (x2 : Int32) (x3 : Int32) (x4 : Int32) (x5 : Int32) (x6 : Int32) (x7 : Int32) (ls : Array Slot) (H : Heap) (locs : List Loc), lv_has ls 8 [(0, .ref (ad 0)), (1, .int x1), (2, .int x2), (3, .int x3), (4, .int x4), (5, .int x5), (6, .int x6), (7, .int x7)] → va_P G vwCl ((s_WC cy ad) σ) H → va_S (s_A ad 27 s.heap.size) s.heap H locs → fX6_read_b44_L n σ x1 x2 x3 x4 x5 x6 x7 = some (re, σe) → W p l e ({ frames := 4, cells := 0, slots := 0, locals := 83 } : Room) s m args below meth c H locs 0 0 (MQ below (s_Qi (s_WC cy ad) G (s_A ad 27 s.heap.size) re σe) args s 0 0 (s_A ad 27 s.heap.size)) (F0 m 44 ls []) := by
  intro n
  induction n with
  | zero => intro σ x1 x2 x3 x4 x5 x6 x7 ls H locs hl hP hS hf; exact absurd (show (none : Option (Int32 × Sg)) = some (re, σe) from hf) (by intro h; cases h)
  | succ n ih => intro σ x1 x2 x3 x4 x5 x6 x7 ls H locs hl hP hS hf; exact kX6_read_b44 C (fX6_read_b44_L n) ih σ x1 x2 x3 x4 x5 x6 x7 ls H locs hl hP hS hf
set_option maxRecDepth 100000 in
set_option maxHeartbeats 4000000 in
theorem kX6_read (C : s_X p s m meth c args cX6_read (some .int) 8 RX6 G cy sa ad 27) (σ : Sg) (x1 : Int32) (x2 : Int32) (x3 : Int32) (x4 : Int32) (ls : Array Slot) (H : Heap) (locs : List Loc) (hl : lv_has ls 8 [(0, .ref (ad 0)), (1, .int x1), (2, .int x2), (3, .int x3), (4, .int x4)]) (hP : va_P G vwCl ((s_WC cy ad) σ) H) (hS : va_S (s_A ad 27 s.heap.size) s.heap H locs) (hf : fX6_read σ x1 x2 x3 x4 = some (re, σe)) : W p l e ({ frames := 4, cells := 0, slots := 0, locals := 83 } : Room) s m args below meth c H locs 0 0 (MQ below (s_Qi (s_WC cy ad) G (s_A ad 27 s.heap.size) re σe) args s 0 0 (s_A ad 27 s.heap.size)) (F0 m 0 ls []) := by
  obtain ⟨hx, hb, hr, hml, hown, hts, hlk, hK, hE, hI⟩ := id C
  have hD : ∀ σ : Sg, va_D (s_A ad 27 s.heap.size) ((s_WC cy ad) σ) := fun σ => s_D (s_WC_ad cy ad σ) hI (fun k hk => Or.inl ⟨k, hk, rfl⟩)
  unfold fX6_read at hf
  refine lv_aload_n hx hb dX6_read_0 rfl (lv_at hl 0 rfl) ?_
  refine lv_iload_n hx hb dX6_read_1 rfl (lv_at hl 1 rfl) ?_
  replace hf := s_bi_some hf
  obtain ⟨r3, σ1, hz2, hf⟩ := hf
  refine s_calli (nn := 1) C (kcX6_isSheet (l := l) (G := G) (cy := cy) (sa := sa) hI (sz := H.size) σ x1 hz2) gk_X6_223 rfl rfl (by decide +kernel) ⟨Nat.le_of_ble_eq_true rfl, Nat.le_of_ble_eq_true rfl⟩ hP hS (q0 := 0) (ci := 6) rfl rfl rfl (As := [.int x1]) (rest := []) rfl rfl hl.1 (Nat.le_of_ble_eq_true rfl) dX6_read_2 (fun H locs hP hS => ?_)
  refine lv_if_eq (tgt := 27) hx hb dX6_read_5 (by decide) (fun c4 => ?_) (fun c4 => ?_)
  · rw [if_pos c4] at hf
    exact kX6_read_b27 C σ1 _ _ _ (lv_sub hl [] rfl) hP hS hf
  · rw [if_neg c4] at hf
    refine lv_iload_n hx hb dX6_read_8 rfl (lv_at hl 2 rfl) ?_
    replace hf := s_bi_some hf
    obtain ⟨r7, σ5, hz6, hf⟩ := hf
    refine s_calliS (nn := 1) C (kcX6_isLane (l := l) (G := G) (cy := cy) (sa := sa) hI (sz := H.size) σ1 x2 hz6) gk_X6_226 rfl rfl (by decide +kernel) ⟨Nat.le_of_ble_eq_true rfl, Nat.le_of_ble_eq_true rfl⟩ hP hS (As := [.int x2]) (rest := []) rfl rfl hl.1 (Nat.le_of_ble_eq_true rfl) dX6_read_9 (fun H locs hP hS => ?_)
    refine lv_if_eq (tgt := 27) hx hb dX6_read_12 (by decide) (fun c8 => ?_) (fun c8 => ?_)
    · rw [if_pos c8] at hf
      exact kX6_read_b27 C σ5 _ _ _ (lv_sub hl [] rfl) hP hS hf
    · rw [if_neg c8] at hf
      refine lv_iload hx hb dX6_read_15 (lv_at hl 4 rfl) ?_
      refine lv_if_lt (tgt := 27) hx hb dX6_read_17 (by decide) (fun c9 => ?_) (fun c9 => ?_)
      · rw [if_pos c9] at hf
        exact kX6_read_b27 C σ5 _ _ _ (lv_sub hl [] rfl) hP hS hf
      · rw [if_neg c9] at hf
        refine lv_iload hx hb dX6_read_20 (lv_at hl 4 rfl) ?_
        refine lv_bipush (v := 40) hx hb dX6_read_22 (by decide) ?_
        refine lv_icmp_le (tgt := 29) hx hb dX6_read_24 (by decide) (fun c10 => ?_) (fun c10 => ?_)
        · rw [if_pos c10] at hf
          refine lv_aload_n hx hb dX6_read_29 rfl (lv_at hl 0 rfl) ?_
          refine va_get (D := G) (ci := 6) (v := .ref (ad 6)) (C := RX6) (T := TX6) (N := 9) hx hb hts inkX6 hown hK hP 0 rfl rfl 2 (by decide) (hts _ kw_252) (fun _ h9 => h9) rfl dX6_read_30 ?_
          refine va_getN (D := G) (ci := 1) (v := .int (σ5 6 1)) (C := RX1) (T := TX1) (N := 8) hx hb hts inkX1 hown hK hP 6 rfl rfl 1 (by decide) (kn_X6_89 hE) (fun _ h9 => h9) rfl dX6_read_33 ?_
          refine lv_topi (fun t11 et11 => ?_)
          replace hf := s_lt_at et11 hf
          refine lv_istore (lv' := [(5, .int t11), (0, .ref (ad 0)), (1, .int x1), (2, .int x2), (3, .int x3), (4, .int x4)]) hx hb dX6_read_36 hl (by decide) rfl (fun ls hl => ?_)
          refine lv_iconst (v := 0) hx hb dX6_read_38 (by decide) ?_
          refine lv_istore (lv' := [(6, .int (0 : Int32)), (5, .int t11), (0, .ref (ad 0)), (1, .int x1), (2, .int x2), (3, .int x3), (4, .int x4)]) hx hb dX6_read_39 hl (by decide) rfl (fun ls hl => ?_)
          refine lv_iconst (v := 0) hx hb dX6_read_41 (by decide) ?_
          refine lv_istore (lv' := [(7, .int (0 : Int32)), (6, .int (0 : Int32)), (5, .int t11), (0, .ref (ad 0)), (1, .int x1), (2, .int x2), (3, .int x3), (4, .int x4)]) hx hb dX6_read_42 hl (by decide) rfl (fun ls hl => ?_)
          exact kX6_read_b44_L C s_fu σ5 x1 x2 x3 x4 t11 (0 : Int32) (0 : Int32) _ _ _ (lv_sub hl [3, 4, 5, 6, 7, 2, 1, 0] rfl) hP hS hf
        · rw [if_neg c10] at hf
          exact kX6_read_b27 C σ5 _ _ _ (lv_sub hl [] rfl) hP hS hf
theorem kcX6_read {l : Launch} {G : va_G} {cy : Nat → ClassId} {sa : Nat × Nat} {ad : Nat → Nat}  {sz : Nat} (hI : s_inj ad 27) (σ : Sg) (x1 : Int32) (x2 : Int32) (x3 : Int32) (x4 : Int32) {re : Int32} {σe : Sg} (hf : fX6_read σ x1 x2 x3 x4 = some (re, σe)) : Met l yX6_read (kW yX6_read cX6_read 8 (some .int)) ({ frames := 4, cells := 0, slots := 0, locals := 83 } : Room) (s_P (s_WC cy ad) G cy sa ad 27 [.ref (ad 0), .int x1, .int x2, .int x3, .int x4] sz σ) (s_Qi (s_WC cy ad) G (s_A ad 27 sz) re σe) 0 0 (s_A ad 27 sz) := by
  refine s_met (own := RX6) (by decide) rfl hI (Nat.le_of_ble_eq_true rfl) (fun p e s m below meth c ls hsz C hP hl => ?_)
  subst hsz
  exact kX6_read C σ x1 x2 x3 x4 ls _ _ hl hP va_S.rf hf
set_option maxRecDepth 100000 in
set_option maxHeartbeats 4000000 in
theorem kX6_torn (C : s_X p s m meth c args cX6_torn (some .int) 1 RX6 G cy sa ad 27) (σ : Sg) (ls : Array Slot) (H : Heap) (locs : List Loc) (hl : lv_has ls 1 [(0, .ref (ad 0))]) (hP : va_P G vwCl ((s_WC cy ad) σ) H) (hS : va_S (s_A ad 27 s.heap.size) s.heap H locs) (hf : fX6_torn σ = some (re, σe)) : W p l e ({ frames := 0, cells := 0, slots := 0, locals := 0 } : Room) s m args below meth c H locs 0 0 (MQ below (s_Qi (s_WC cy ad) G (s_A ad 27 s.heap.size) re σe) args s 0 0 (s_A ad 27 s.heap.size)) (F0 m 0 ls []) := by
  obtain ⟨hx, hb, hr, hml, hown, hts, hlk, hK, hE, hI⟩ := id C
  have hD : ∀ σ : Sg, va_D (s_A ad 27 s.heap.size) ((s_WC cy ad) σ) := fun σ => s_D (s_WC_ad cy ad σ) hI (fun k hk => Or.inl ⟨k, hk, rfl⟩)
  unfold fX6_torn at hf
  refine lv_aload_n hx hb dX6_torn_0 rfl (lv_at hl 0 rfl) ?_
  refine va_get (D := G) (ci := 6) (v := .int (σ 0 8)) (C := RX6) (T := TX6) (N := 9) hx hb hts inkX6 hown hK hP 0 rfl rfl 8 (by decide) (hts _ kw_258) (fun _ h9 => h9) rfl dX6_torn_1 ?_
  obtain ⟨he1, he2⟩ := s_ret hf
  exact W.iret hx hb hr (fun t ht hW => ⟨⟨_, (), rfl, he1, s_fin (Wd := (s_WC cy ad)) ht he2 hP⟩, hS.F ht⟩) hS.2.2 dX6_torn_4 hlk
theorem kcX6_torn {l : Launch} {G : va_G} {cy : Nat → ClassId} {sa : Nat × Nat} {ad : Nat → Nat}  {sz : Nat} (hI : s_inj ad 27) (σ : Sg) {re : Int32} {σe : Sg} (hf : fX6_torn σ = some (re, σe)) : Met l yX6_torn (kW yX6_torn cX6_torn 1 (some .int)) ({ frames := 0, cells := 0, slots := 0, locals := 0 } : Room) (s_P (s_WC cy ad) G cy sa ad 27 [.ref (ad 0)] sz σ) (s_Qi (s_WC cy ad) G (s_A ad 27 sz) re σe) 0 0 (s_A ad 27 sz) := by
  refine s_met (own := RX6) (by decide) rfl hI (Nat.le_of_ble_eq_true rfl) (fun p e s m below meth c ls hsz C hP hl => ?_)
  subst hsz
  exact kX6_torn C σ ls _ _ hl hP va_S.rf hf
set_option maxRecDepth 100000 in
set_option maxHeartbeats 4000000 in
theorem kX6_countImages_b25 (C : s_X p s m meth c args cX6_countImages (some .int) 3 RX6 G cy sa ad 27) (k4 : Sg → Int32 → Int32 → Option (Int32 × Sg)) (hk4 : ∀ (σ : Sg) (x1 : Int32) (x2 : Int32) (ls : Array Slot) (H : Heap) (locs : List Loc), lv_has ls 3 [(0, .ref (ad 0)), (1, .int x1), (2, .int x2)] → va_P G vwCl ((s_WC cy ad) σ) H → va_S (s_A ad 27 s.heap.size) s.heap H locs → k4 σ x1 x2 = some (re, σe) → W p l e ({ frames := 0, cells := 0, slots := 0, locals := 0 } : Room) s m args below meth c H locs 0 0 (MQ below (s_Qi (s_WC cy ad) G (s_A ad 27 s.heap.size) re σe) args s 0 0 (s_A ad 27 s.heap.size)) (F0 m 4 ls [])) (σ : Sg) (x1 : Int32) (x2 : Int32) (ls : Array Slot) (H : Heap) (locs : List Loc) (hl : lv_has ls 3 [(0, .ref (ad 0)), (1, .int x1), (2, .int x2)]) (hP : va_P G vwCl ((s_WC cy ad) σ) H) (hS : va_S (s_A ad 27 s.heap.size) s.heap H locs) (hf : fX6_countImages_b25 k4 σ x1 x2 = some (re, σe)) : W p l e ({ frames := 0, cells := 0, slots := 0, locals := 0 } : Room) s m args below meth c H locs 0 0 (MQ below (s_Qi (s_WC cy ad) G (s_A ad 27 s.heap.size) re σe) args s 0 0 (s_A ad 27 s.heap.size)) (F0 m 25 ls []) := by
  obtain ⟨hx, hb, hr, hml, hown, hts, hlk, hK, hE, hI⟩ := id C
  have hD : ∀ σ : Sg, va_D (s_A ad 27 s.heap.size) ((s_WC cy ad) σ) := fun σ => s_D (s_WC_ad cy ad σ) hI (fun k hk => Or.inl ⟨k, hk, rfl⟩)
  unfold fX6_countImages_b25 at hf
  obtain ⟨t1, et1⟩ : ∃ z : Int32, z = (x2 + 1) := ⟨_, rfl⟩
  replace hf := s_lt_at et1 hf
  refine lv_iinc (v := t1) (lv' := [(2, .int t1), (0, .ref (ad 0)), (1, .int x1)]) hx hb dX6_countImages_25 hl (k := 2) rfl (by rw [et1]; rfl) (by decide) rfl (fun ls hl => ?_)
  refine lv_goto (tgt := 4) hx hb dX6_countImages_28 (by decide) ?_
  exact hk4 σ x1 t1 _ _ _ (lv_sub hl [1, 2, 0] rfl) hP hS hf
set_option maxRecDepth 100000 in
set_option maxHeartbeats 4000000 in
theorem kX6_countImages_b4 (C : s_X p s m meth c args cX6_countImages (some .int) 3 RX6 G cy sa ad 27) (k4 : Sg → Int32 → Int32 → Option (Int32 × Sg)) (hk4 : ∀ (σ : Sg) (x1 : Int32) (x2 : Int32) (ls : Array Slot) (H : Heap) (locs : List Loc), lv_has ls 3 [(0, .ref (ad 0)), (1, .int x1), (2, .int x2)] → va_P G vwCl ((s_WC cy ad) σ) H → va_S (s_A ad 27 s.heap.size) s.heap H locs → k4 σ x1 x2 = some (re, σe) → W p l e ({ frames := 0, cells := 0, slots := 0, locals := 0 } : Room) s m args below meth c H locs 0 0 (MQ below (s_Qi (s_WC cy ad) G (s_A ad 27 s.heap.size) re σe) args s 0 0 (s_A ad 27 s.heap.size)) (F0 m 4 ls [])) (σ : Sg) (x1 : Int32) (x2 : Int32) (ls : Array Slot) (H : Heap) (locs : List Loc) (hl : lv_has ls 3 [(0, .ref (ad 0)), (1, .int x1), (2, .int x2)]) (hP : va_P G vwCl ((s_WC cy ad) σ) H) (hS : va_S (s_A ad 27 s.heap.size) s.heap H locs) (hf : fX6_countImages_b4 k4 σ x1 x2 = some (re, σe)) : W p l e ({ frames := 0, cells := 0, slots := 0, locals := 0 } : Room) s m args below meth c H locs 0 0 (MQ below (s_Qi (s_WC cy ad) G (s_A ad 27 s.heap.size) re σe) args s 0 0 (s_A ad 27 s.heap.size)) (F0 m 4 ls []) := by
  obtain ⟨hx, hb, hr, hml, hown, hts, hlk, hK, hE, hI⟩ := id C
  have hD : ∀ σ : Sg, va_D (s_A ad 27 s.heap.size) ((s_WC cy ad) σ) := fun σ => s_D (s_WC_ad cy ad σ) hI (fun k hk => Or.inl ⟨k, hk, rfl⟩)
  unfold fX6_countImages_b4 at hf
  refine lv_iload_n hx hb dX6_countImages_4 rfl (lv_at hl 2 rfl) ?_
  refine lv_aload_n hx hb dX6_countImages_5 rfl (lv_at hl 0 rfl) ?_
  refine va_get (D := G) (ci := 6) (v := .ref (ad 17)) (C := RX6) (T := TX6) (N := 9) hx hb hts inkX6 hown hK hP 0 rfl rfl 6 (by decide) (hts _ kw_256) (fun _ h9 => h9) rfl dX6_countImages_6 ?_
  refine va_alen (v := (2 : Int32)) hx hb hK hP 17 2 rfl rfl (by show Int32.ofNat 2 = 2; decide) dX6_countImages_9 ?_
  refine lv_icmp_ge (tgt := 31) hx hb dX6_countImages_10 (by decide) (fun c1 => ?_) (fun c1 => ?_)
  · rw [if_pos c1] at hf
    refine lv_iload_n hx hb dX6_countImages_31 rfl (lv_at hl 1 rfl) ?_
    obtain ⟨he1, he2⟩ := s_ret hf
    exact W.iret hx hb hr (fun t ht hW => ⟨⟨_, (), rfl, he1, s_fin (Wd := (s_WC cy ad)) ht he2 hP⟩, hS.F ht⟩) hS.2.2 dX6_countImages_32 hlk
  · rw [if_neg c1] at hf
    refine lv_aload_n hx hb dX6_countImages_13 rfl (lv_at hl 0 rfl) ?_
    refine va_get (D := G) (ci := 6) (v := .ref (ad 17)) (C := RX6) (T := TX6) (N := 9) hx hb hts inkX6 hown hK hP 0 rfl rfl 6 (by decide) (hts _ kw_256) (fun _ h9 => h9) rfl dX6_countImages_14 ?_
    refine lv_iload_n hx hb dX6_countImages_17 rfl (lv_at hl 2 rfl) ?_
    replace hf := s_gd_some hf
    obtain ⟨g2, hf⟩ := hf
    refine va_zald hx hb hK hP 17 2 rfl rfl (s_in_of g2) dX6_countImages_18 ?_
    refine lv_if_eq (tgt := 25) hx hb dX6_countImages_19 (by decide) (fun c3 => ?_) (fun c3 => ?_)
    · rw [if_pos c3] at hf
      exact kX6_countImages_b25 C k4 hk4 σ x1 x2 _ _ _ (lv_sub hl [0, 1, 2] rfl) hP hS hf
    · rw [if_neg c3] at hf
      obtain ⟨t4, et4⟩ : ∃ z : Int32, z = (x1 + 1) := ⟨_, rfl⟩
      replace hf := s_lt_at et4 hf
      refine lv_iinc (v := t4) (lv' := [(1, .int t4), (0, .ref (ad 0)), (2, .int x2)]) hx hb dX6_countImages_22 hl (k := 1) rfl (by rw [et4]; rfl) (by decide) rfl (fun ls hl => ?_)
      exact kX6_countImages_b25 C k4 hk4 σ t4 x2 _ _ _ (lv_sub hl [1, 0, 2] rfl) hP hS hf
set_option maxRecDepth 100000 in
set_option maxHeartbeats 4000000 in
theorem kX6_countImages_b4_L (C : s_X p s m meth c args cX6_countImages (some .int) 3 RX6 G cy sa ad 27) : ∀ (n : Nat), ∀ (σ : Sg) (x1 : Int32) (x2 : Int32) (ls : Array Slot) (H : Heap) (locs : List Loc), lv_has ls 3 [(0, .ref (ad 0)), (1, .int x1), (2, .int x2)] → va_P G vwCl ((s_WC cy ad) σ) H → va_S (s_A ad 27 s.heap.size) s.heap H locs → fX6_countImages_b4_L n σ x1 x2 = some (re, σe) → W p l e ({ frames := 0, cells := 0, slots := 0, locals := 0 } : Room) s m args below meth c H locs 0 0 (MQ below (s_Qi (s_WC cy ad) G (s_A ad 27 s.heap.size) re σe) args s 0 0 (s_A ad 27 s.heap.size)) (F0 m 4 ls []) := by
  intro n
  induction n with
  | zero => intro σ x1 x2 ls H locs hl hP hS hf; exact absurd (show (none : Option (Int32 × Sg)) = some (re, σe) from hf) (by intro h; cases h)
  | succ n ih => intro σ x1 x2 ls H locs hl hP hS hf; exact kX6_countImages_b4 C (fX6_countImages_b4_L n) ih σ x1 x2 ls H locs hl hP hS hf
set_option maxRecDepth 100000 in
set_option maxHeartbeats 4000000 in
theorem kX6_countImages (C : s_X p s m meth c args cX6_countImages (some .int) 3 RX6 G cy sa ad 27) (σ : Sg) (ls : Array Slot) (H : Heap) (locs : List Loc) (hl : lv_has ls 3 [(0, .ref (ad 0))]) (hP : va_P G vwCl ((s_WC cy ad) σ) H) (hS : va_S (s_A ad 27 s.heap.size) s.heap H locs) (hf : fX6_countImages σ = some (re, σe)) : W p l e ({ frames := 0, cells := 0, slots := 0, locals := 0 } : Room) s m args below meth c H locs 0 0 (MQ below (s_Qi (s_WC cy ad) G (s_A ad 27 s.heap.size) re σe) args s 0 0 (s_A ad 27 s.heap.size)) (F0 m 0 ls []) := by
  obtain ⟨hx, hb, hr, hml, hown, hts, hlk, hK, hE, hI⟩ := id C
  have hD : ∀ σ : Sg, va_D (s_A ad 27 s.heap.size) ((s_WC cy ad) σ) := fun σ => s_D (s_WC_ad cy ad σ) hI (fun k hk => Or.inl ⟨k, hk, rfl⟩)
  unfold fX6_countImages at hf
  refine lv_iconst (v := 0) hx hb dX6_countImages_0 (by decide) ?_
  refine lv_istore_n (lv' := [(1, .int (0 : Int32)), (0, .ref (ad 0))]) hx hb dX6_countImages_1 rfl hl (by decide) rfl (fun ls hl => ?_)
  refine lv_iconst (v := 0) hx hb dX6_countImages_2 (by decide) ?_
  refine lv_istore_n (lv' := [(2, .int (0 : Int32)), (1, .int (0 : Int32)), (0, .ref (ad 0))]) hx hb dX6_countImages_3 rfl hl (by decide) rfl (fun ls hl => ?_)
  exact kX6_countImages_b4_L C s_fu σ (0 : Int32) (0 : Int32) _ _ _ (lv_sub hl [2, 1, 0] rfl) hP hS hf
theorem kcX6_countImages {l : Launch} {G : va_G} {cy : Nat → ClassId} {sa : Nat × Nat} {ad : Nat → Nat}  {sz : Nat} (hI : s_inj ad 27) (σ : Sg) {re : Int32} {σe : Sg} (hf : fX6_countImages σ = some (re, σe)) : Met l yX6_countImages (kW yX6_countImages cX6_countImages 3 (some .int)) ({ frames := 0, cells := 0, slots := 0, locals := 0 } : Room) (s_P (s_WC cy ad) G cy sa ad 27 [.ref (ad 0)] sz σ) (s_Qi (s_WC cy ad) G (s_A ad 27 sz) re σe) 0 0 (s_A ad 27 sz) := by
  refine s_met (own := RX6) (by decide) rfl hI (Nat.le_of_ble_eq_true rfl) (fun p e s m below meth c ls hsz C hP hl => ?_)
  subst hsz
  exact kX6_countImages C σ ls _ _ hl hP va_S.rf hf
set_option maxRecDepth 100000 in
set_option maxHeartbeats 4000000 in
theorem kX6_countShownBytes_b11 (C : s_X p s m meth c args cX6_countShownBytes (some .int) 3 RX6 G cy sa ad 27) (k11 : Sg → Int32 → Int32 → Option (Int32 × Sg)) (hk11 : ∀ (σ : Sg) (x1 : Int32) (x2 : Int32) (ls : Array Slot) (H : Heap) (locs : List Loc), lv_has ls 3 [(0, .ref (ad 0)), (1, .int x1), (2, .int x2)] → va_P G vwCl ((s_WC cy ad) σ) H → va_S (s_A ad 27 s.heap.size) s.heap H locs → k11 σ x1 x2 = some (re, σe) → W p l e ({ frames := 4, cells := 0, slots := 0, locals := 89 } : Room) s m args below meth c H locs 0 0 (MQ below (s_Qi (s_WC cy ad) G (s_A ad 27 s.heap.size) re σe) args s 0 0 (s_A ad 27 s.heap.size)) (F0 m 11 ls [])) (σ : Sg) (x1 : Int32) (x2 : Int32) (ls : Array Slot) (H : Heap) (locs : List Loc) (hl : lv_has ls 3 [(0, .ref (ad 0)), (1, .int x1), (2, .int x2)]) (hP : va_P G vwCl ((s_WC cy ad) σ) H) (hS : va_S (s_A ad 27 s.heap.size) s.heap H locs) (hf : fX6_countShownBytes_b11 k11 σ x1 x2 = some (re, σe)) : W p l e ({ frames := 4, cells := 0, slots := 0, locals := 89 } : Room) s m args below meth c H locs 0 0 (MQ below (s_Qi (s_WC cy ad) G (s_A ad 27 s.heap.size) re σe) args s 0 0 (s_A ad 27 s.heap.size)) (F0 m 11 ls []) := by
  obtain ⟨hx, hb, hr, hml, hown, hts, hlk, hK, hE, hI⟩ := id C
  have hD : ∀ σ : Sg, va_D (s_A ad 27 s.heap.size) ((s_WC cy ad) σ) := fun σ => s_D (s_WC_ad cy ad σ) hI (fun k hk => Or.inl ⟨k, hk, rfl⟩)
  unfold fX6_countShownBytes_b11 at hf
  refine lv_iload_n hx hb dX6_countShownBytes_11 rfl (lv_at hl 2 rfl) ?_
  refine lv_aload_n hx hb dX6_countShownBytes_12 rfl (lv_at hl 0 rfl) ?_
  refine va_get (D := G) (ci := 6) (v := .ref (ad 6)) (C := RX6) (T := TX6) (N := 9) hx hb hts inkX6 hown hK hP 0 rfl rfl 2 (by decide) (hts _ kw_252) (fun _ h9 => h9) rfl dX6_countShownBytes_13 ?_
  refine va_getN (D := G) (ci := 1) (v := .int (σ 6 1)) (C := RX1) (T := TX1) (N := 8) hx hb hts inkX1 hown hK hP 6 rfl rfl 1 (by decide) (kn_X6_89 hE) (fun _ h9 => h9) rfl dX6_countShownBytes_16 ?_
  refine lv_icmp_ge (tgt := 50) hx hb dX6_countShownBytes_19 (by decide) (fun c1 => ?_) (fun c1 => ?_)
  · rw [if_pos c1] at hf
    refine lv_iload_n hx hb dX6_countShownBytes_50 rfl (lv_at hl 1 rfl) ?_
    obtain ⟨he1, he2⟩ := s_ret hf
    exact W.iret hx hb hr (fun t ht hW => ⟨⟨_, (), rfl, he1, s_fin (Wd := (s_WC cy ad)) ht he2 hP⟩, hS.F ht⟩) hS.2.2 dX6_countShownBytes_51 hlk
  · rw [if_neg c1] at hf
    refine lv_aload_n hx hb dX6_countShownBytes_22 rfl (lv_at hl 0 rfl) ?_
    refine va_get (D := G) (ci := 6) (v := .ref (ad 8)) (C := RX6) (T := TX6) (N := 9) hx hb hts inkX6 hown hK hP 0 rfl rfl 3 (by decide) (hts _ kw_253) (fun _ h9 => h9) rfl dX6_countShownBytes_23 ?_
    refine lv_iload_n hx hb dX6_countShownBytes_26 rfl (lv_at hl 2 rfl) ?_
    replace hf := s_bv_some hf
    obtain ⟨σ2, hz3, hf⟩ := hf
    refine s_callv (nn := 1) C (kcX0_slideTo (l := l) (G := G) (cy := cy) (sa := sa) hI (sz := H.size) σ x2 hz3) gk_X6_185 rfl rfl (by decide +kernel) ⟨Nat.le_of_ble_eq_true rfl, Nat.le_of_ble_eq_true rfl⟩ hP hS (q0 := 8) (ci := 0) rfl rfl rfl (As := [.int x2]) (rest := []) rfl rfl hl.1 (Nat.le_of_ble_eq_true rfl) dX6_countShownBytes_27 (fun H locs hP hS => ?_)
    refine lv_aload_n hx hb dX6_countShownBytes_30 rfl (lv_at hl 0 rfl) ?_
    replace hf := s_bv_some hf
    obtain ⟨σ4, hz5, hf⟩ := hf
    refine s_callv (nn := 0) C (kcX6_writeWords (l := l) (G := G) (cy := cy) (sa := sa) hI (sz := H.size) σ2 hz5) gk_X6_162 rfl rfl (by decide +kernel) ⟨Nat.le_of_ble_eq_true rfl, Nat.le_of_ble_eq_true rfl⟩ hP hS (q0 := 0) (ci := 6) rfl rfl rfl (As := []) (rest := []) rfl rfl hl.1 (Nat.le_of_ble_eq_true rfl) dX6_countShownBytes_31 (fun H locs hP hS => ?_)
    refine lv_iload_n hx hb dX6_countShownBytes_34 rfl (lv_at hl 1 rfl) ?_
    refine lv_aload_n hx hb dX6_countShownBytes_35 rfl (lv_at hl 0 rfl) ?_
    refine va_get (D := G) (ci := 6) (v := .ref (ad 10)) (C := RX6) (T := TX6) (N := 9) hx hb hts inkX6 hown hK hP 0 rfl rfl 4 (by decide) (hts _ kw_254) (fun _ h9 => h9) rfl dX6_countShownBytes_36 ?_
    refine va_getN (D := G) (ci := 5) (v := .int (σ4 10 1)) (C := RX5) (T := TX5) (N := 2) hx hb hts inkX5 hown hK hP 10 rfl rfl 1 (by decide) (kn_X6_165 hE) (fun _ h9 => h9) rfl dX6_countShownBytes_39 ?_
    refine lv_iadd hx hb dX6_countShownBytes_42 ?_
    refine lv_topi (fun t6 et6 => ?_)
    replace hf := s_lt_at et6 hf
    refine lv_istore_n (lv' := [(1, .int t6), (0, .ref (ad 0)), (2, .int x2)]) hx hb dX6_countShownBytes_43 rfl hl (by decide) rfl (fun ls hl => ?_)
    obtain ⟨t7, et7⟩ : ∃ z : Int32, z = (x2 + 1) := ⟨_, rfl⟩
    replace hf := s_lt_at et7 hf
    refine lv_iinc (v := t7) (lv' := [(2, .int t7), (1, .int t6), (0, .ref (ad 0))]) hx hb dX6_countShownBytes_44 hl (k := 2) rfl (by rw [et7]; rfl) (by decide) rfl (fun ls hl => ?_)
    refine lv_goto (tgt := 11) hx hb dX6_countShownBytes_47 (by decide) ?_
    exact hk11 σ4 t6 t7 _ _ _ (lv_sub hl [2, 1, 0] rfl) hP hS hf
set_option maxRecDepth 100000 in
set_option maxHeartbeats 4000000 in
theorem kX6_countShownBytes_b11_L (C : s_X p s m meth c args cX6_countShownBytes (some .int) 3 RX6 G cy sa ad 27) : ∀ (n : Nat), ∀ (σ : Sg) (x1 : Int32) (x2 : Int32) (ls : Array Slot) (H : Heap) (locs : List Loc), lv_has ls 3 [(0, .ref (ad 0)), (1, .int x1), (2, .int x2)] → va_P G vwCl ((s_WC cy ad) σ) H → va_S (s_A ad 27 s.heap.size) s.heap H locs → fX6_countShownBytes_b11_L n σ x1 x2 = some (re, σe) → W p l e ({ frames := 4, cells := 0, slots := 0, locals := 89 } : Room) s m args below meth c H locs 0 0 (MQ below (s_Qi (s_WC cy ad) G (s_A ad 27 s.heap.size) re σe) args s 0 0 (s_A ad 27 s.heap.size)) (F0 m 11 ls []) := by
  intro n
  induction n with
  | zero => intro σ x1 x2 ls H locs hl hP hS hf; exact absurd (show (none : Option (Int32 × Sg)) = some (re, σe) from hf) (by intro h; cases h)
  | succ n ih => intro σ x1 x2 ls H locs hl hP hS hf; exact kX6_countShownBytes_b11 C (fX6_countShownBytes_b11_L n) ih σ x1 x2 ls H locs hl hP hS hf
set_option maxRecDepth 100000 in
set_option maxHeartbeats 4000000 in
theorem kX6_countShownBytes (C : s_X p s m meth c args cX6_countShownBytes (some .int) 3 RX6 G cy sa ad 27) (σ : Sg) (ls : Array Slot) (H : Heap) (locs : List Loc) (hl : lv_has ls 3 [(0, .ref (ad 0))]) (hP : va_P G vwCl ((s_WC cy ad) σ) H) (hS : va_S (s_A ad 27 s.heap.size) s.heap H locs) (hf : fX6_countShownBytes σ = some (re, σe)) : W p l e ({ frames := 4, cells := 0, slots := 0, locals := 89 } : Room) s m args below meth c H locs 0 0 (MQ below (s_Qi (s_WC cy ad) G (s_A ad 27 s.heap.size) re σe) args s 0 0 (s_A ad 27 s.heap.size)) (F0 m 0 ls []) := by
  obtain ⟨hx, hb, hr, hml, hown, hts, hlk, hK, hE, hI⟩ := id C
  have hD : ∀ σ : Sg, va_D (s_A ad 27 s.heap.size) ((s_WC cy ad) σ) := fun σ => s_D (s_WC_ad cy ad σ) hI (fun k hk => Or.inl ⟨k, hk, rfl⟩)
  unfold fX6_countShownBytes at hf
  refine lv_iconst (v := 0) hx hb dX6_countShownBytes_0 (by decide) ?_
  refine lv_istore_n (lv' := [(1, .int (0 : Int32)), (0, .ref (ad 0))]) hx hb dX6_countShownBytes_1 rfl hl (by decide) rfl (fun ls hl => ?_)
  refine lv_aload_n hx hb dX6_countShownBytes_2 rfl (lv_at hl 1 rfl) ?_
  refine va_get (D := G) (ci := 6) (v := .ref (ad 8)) (C := RX6) (T := TX6) (N := 9) hx hb hts inkX6 hown hK hP 0 rfl rfl 3 (by decide) (hts _ kw_253) (fun _ h9 => h9) rfl dX6_countShownBytes_3 ?_
  replace hf := s_bv_some hf
  obtain ⟨σ1, hz2, hf⟩ := hf
  refine s_callv (nn := 0) C (kcX0_clear (l := l) (G := G) (cy := cy) (sa := sa) hI (sz := H.size) σ hz2) gk_X6_182 rfl rfl (by decide +kernel) ⟨Nat.le_of_ble_eq_true rfl, Nat.le_of_ble_eq_true rfl⟩ hP hS (q0 := 8) (ci := 0) rfl rfl rfl (As := []) (rest := []) rfl rfl hl.1 (Nat.le_of_ble_eq_true rfl) dX6_countShownBytes_6 (fun H locs hP hS => ?_)
  refine lv_iconst (v := 0) hx hb dX6_countShownBytes_9 (by decide) ?_
  refine lv_istore_n (lv' := [(2, .int (0 : Int32)), (1, .int (0 : Int32)), (0, .ref (ad 0))]) hx hb dX6_countShownBytes_10 rfl hl (by decide) rfl (fun ls hl => ?_)
  exact kX6_countShownBytes_b11_L C s_fu σ1 (0 : Int32) (0 : Int32) _ _ _ (lv_sub hl [2, 1, 0] rfl) hP hS hf
theorem kcX6_countShownBytes {l : Launch} {G : va_G} {cy : Nat → ClassId} {sa : Nat × Nat} {ad : Nat → Nat}  {sz : Nat} (hI : s_inj ad 27) (σ : Sg) {re : Int32} {σe : Sg} (hf : fX6_countShownBytes σ = some (re, σe)) : Met l yX6_countShownBytes (kW yX6_countShownBytes cX6_countShownBytes 3 (some .int)) ({ frames := 4, cells := 0, slots := 0, locals := 89 } : Room) (s_P (s_WC cy ad) G cy sa ad 27 [.ref (ad 0)] sz σ) (s_Qi (s_WC cy ad) G (s_A ad 27 sz) re σe) 0 0 (s_A ad 27 sz) := by
  refine s_met (own := RX6) (by decide) rfl hI (Nat.le_of_ble_eq_true rfl) (fun p e s m below meth c ls hsz C hP hl => ?_)
  subst hsz
  exact kX6_countShownBytes C σ ls _ _ hl hP va_S.rf hf
set_option maxRecDepth 100000 in
set_option maxHeartbeats 4000000 in
theorem kX6_count (C : s_X p s m meth c args cX6_count (some .int) 2 RX6 G cy sa ad 27) (σ : Sg) (x1 : Int32) (ls : Array Slot) (H : Heap) (locs : List Loc) (hl : lv_has ls 2 [(0, .ref (ad 0)), (1, .int x1)]) (hP : va_P G vwCl ((s_WC cy ad) σ) H) (hS : va_S (s_A ad 27 s.heap.size) s.heap H locs) (hf : fX6_count σ x1 = some (re, σe)) : W p l e ({ frames := 5, cells := 0, slots := 0, locals := 111 } : Room) s m args below meth c H locs 0 0 (MQ below (s_Qi (s_WC cy ad) G (s_A ad 27 s.heap.size) re σe) args s 0 0 (s_A ad 27 s.heap.size)) (F0 m 0 ls []) := by
  obtain ⟨hx, hb, hr, hml, hown, hts, hlk, hK, hE, hI⟩ := id C
  have hD : ∀ σ : Sg, va_D (s_A ad 27 s.heap.size) ((s_WC cy ad) σ) := fun σ => s_D (s_WC_ad cy ad σ) hI (fun k hk => Or.inl ⟨k, hk, rfl⟩)
  unfold fX6_count at hf
  refine lv_iload_n hx hb dX6_count_0 rfl (lv_at hl 1 rfl) ?_
  by_cases c1 : x1 = 0
  · rw [if_pos c1] at hf
    refine lv_tableIn (off := 31) (tgt := 32) hx hb dX6_count_1 (by rw [c1]; decide) (by rw [c1]; decide) (by rw [c1]; rfl) (by decide) ?_
    refine lv_aload_n hx hb dX6_count_32 rfl (lv_at hl 0 rfl) ?_
    replace hf := s_bi_some hf
    obtain ⟨r4, σ2, hz3, hf⟩ := hf
    refine s_calli (nn := 0) C (kcX6_countImages (l := l) (G := G) (cy := cy) (sa := sa) hI (sz := H.size) σ hz3) gk_X6_250 rfl rfl (by decide +kernel) ⟨Nat.le_of_ble_eq_true rfl, Nat.le_of_ble_eq_true rfl⟩ hP hS (q0 := 0) (ci := 6) rfl rfl rfl (As := []) (rest := []) rfl rfl hl.1 (Nat.le_of_ble_eq_true rfl) dX6_count_33 (fun H locs hP hS => ?_)
    obtain ⟨he1, he2⟩ := s_ret hf
    exact W.iret hx hb hr (fun t ht hW => ⟨⟨_, (), rfl, he1, s_fin (Wd := (s_WC cy ad)) ht he2 hP⟩, hS.F ht⟩) hS.2.2 dX6_count_36 hlk
  · rw [if_neg c1] at hf
    by_cases c5 : x1 = 1
    · rw [if_pos c5] at hf
      refine lv_tableIn (off := 36) (tgt := 37) hx hb dX6_count_1 (by rw [c5]; decide) (by rw [c5]; decide) (by rw [c5]; rfl) (by decide) ?_
      refine lv_aload_n hx hb dX6_count_37 rfl (lv_at hl 0 rfl) ?_
      refine va_get (D := G) (ci := 6) (v := .ref (ad 1)) (C := RX6) (T := TX6) (N := 9) hx hb hts inkX6 hown hK hP 0 rfl rfl 0 (by decide) (hts _ kw_250) (fun _ h9 => h9) rfl dX6_count_38 ?_
      refine va_getN (D := G) (ci := 3) (v := .int (σ 1 1)) (C := RX3) (T := TX3) (N := 2) hx hb hts inkX3 hown hK hP 1 rfl rfl 1 (by decide) (kn_X6_73 hE) (fun _ h9 => h9) rfl dX6_count_41 ?_
      obtain ⟨he1, he2⟩ := s_ret hf
      exact W.iret hx hb hr (fun t ht hW => ⟨⟨_, (), rfl, he1, s_fin (Wd := (s_WC cy ad)) ht he2 hP⟩, hS.F ht⟩) hS.2.2 dX6_count_44 hlk
    · rw [if_neg c5] at hf
      by_cases c6 : x1 = 2
      · rw [if_pos c6] at hf
        refine lv_tableIn (off := 44) (tgt := 45) hx hb dX6_count_1 (by rw [c6]; decide) (by rw [c6]; decide) (by rw [c6]; rfl) (by decide) ?_
        refine lv_aload_n hx hb dX6_count_45 rfl (lv_at hl 0 rfl) ?_
        refine va_get (D := G) (ci := 6) (v := .ref (ad 18)) (C := RX6) (T := TX6) (N := 9) hx hb hts inkX6 hown hK hP 0 rfl rfl 7 (by decide) (hts _ kw_257) (fun _ h9 => h9) rfl dX6_count_46 ?_
        refine lv_iconst (v := 0) hx hb dX6_count_49 (by decide) ?_
        refine va_aldq hx hb hK hP 18 4 rfl rfl (by unfold vp_in; decide) dX6_count_50 ?_
        refine W.eq (g2 := F0 m 51 ls [.ref (ad 19)]) rfl ?_
        replace hf := s_bi_some hf
        obtain ⟨r9, σ7, hz8, hf⟩ := hf
        refine s_calli (nn := 0) C (kcX2_isNothing_19 (l := l) (G := G) (cy := cy) (sa := sa) hI (sz := H.size) σ hz8) gk_X6_233 rfl rfl (by decide +kernel) ⟨Nat.le_of_ble_eq_true rfl, Nat.le_of_ble_eq_true rfl⟩ hP hS (q0 := 19) (ci := 2) rfl rfl rfl (As := []) (rest := []) rfl rfl hl.1 (Nat.le_of_ble_eq_true rfl) dX6_count_51 (fun H locs hP hS => ?_)
        refine lv_if_eq (tgt := 62) hx hb dX6_count_54 (by decide) (fun c10 => ?_) (fun c10 => ?_)
        · rw [if_pos c10] at hf
          refine lv_aload_n hx hb dX6_count_62 rfl (lv_at hl 0 rfl) ?_
          refine va_get (D := G) (ci := 6) (v := .ref (ad 18)) (C := RX6) (T := TX6) (N := 9) hx hb hts inkX6 hown hK hP 0 rfl rfl 7 (by decide) (hts _ kw_257) (fun _ h9 => h9) rfl dX6_count_63 ?_
          refine lv_iconst (v := 0) hx hb dX6_count_66 (by decide) ?_
          refine va_aldq hx hb hK hP 18 4 rfl rfl (by unfold vp_in; decide) dX6_count_67 ?_
          refine W.eq (g2 := F0 m 68 ls [.ref (ad 19)]) rfl ?_
          refine va_getN (D := G) (ci := 2) (v := .int (σ7 19 2)) (C := RX2) (T := TX2) (N := 3) hx hb hts inkX2 hown hK hP 19 rfl rfl 2 (by decide) (kn_X6_253 hE) (fun _ h9 => h9) rfl dX6_count_68 ?_
          obtain ⟨he1, he2⟩ := s_ret hf
          exact W.iret hx hb hr (fun t ht hW => ⟨⟨_, (), rfl, he1, s_fin (Wd := (s_WC cy ad)) ht he2 hP⟩, hS.F ht⟩) hS.2.2 dX6_count_71 hlk
        · rw [if_neg c10] at hf
          refine lv_bipush (v := -4) hx hb dX6_count_57 (by decide) ?_
          refine lv_goto (tgt := 71) hx hb dX6_count_59 (by decide) ?_
          obtain ⟨he1, he2⟩ := s_ret hf
          exact W.iret hx hb hr (fun t ht hW => ⟨⟨_, (), rfl, he1, s_fin (Wd := (s_WC cy ad)) ht he2 hP⟩, hS.F ht⟩) hS.2.2 dX6_count_71 hlk
      · rw [if_neg c6] at hf
        by_cases c11 : x1 = 3
        · rw [if_pos c11] at hf
          refine lv_tableIn (off := 71) (tgt := 72) hx hb dX6_count_1 (by rw [c11]; decide) (by rw [c11]; decide) (by rw [c11]; rfl) (by decide) ?_
          refine lv_aload_n hx hb dX6_count_72 rfl (lv_at hl 0 rfl) ?_
          replace hf := s_bi_some hf
          obtain ⟨r14, σ12, hz13, hf⟩ := hf
          refine s_calli (nn := 0) C (kcX6_countShownBytes (l := l) (G := G) (cy := cy) (sa := sa) hI (sz := H.size) σ hz13) gk_X6_254 rfl rfl (by decide +kernel) ⟨Nat.le_of_ble_eq_true rfl, Nat.le_of_ble_eq_true rfl⟩ hP hS (q0 := 0) (ci := 6) rfl rfl rfl (As := []) (rest := []) rfl rfl hl.1 (Nat.le_of_ble_eq_true rfl) dX6_count_73 (fun H locs hP hS => ?_)
          obtain ⟨he1, he2⟩ := s_ret hf
          exact W.iret hx hb hr (fun t ht hW => ⟨⟨_, (), rfl, he1, s_fin (Wd := (s_WC cy ad)) ht he2 hP⟩, hS.F ht⟩) hS.2.2 dX6_count_76 hlk
        · rw [if_neg c11] at hf
          have qc1 := lv_neT c1 (a := 0) (by decide)
          have qc5 := lv_neT c5 (a := 1) (by decide)
          have qc6 := lv_neT c6 (a := 2) (by decide)
          have qc11 := lv_neT c11 (a := 3) (by decide)
          refine lv_tableOut (tgt := 77) hx hb dX6_count_1 (by omega) (by decide) ?_
          refine lv_iconst (v := -1) hx hb dX6_count_77 (by decide) ?_
          obtain ⟨he1, he2⟩ := s_ret hf
          exact W.iret hx hb hr (fun t ht hW => ⟨⟨_, (), rfl, he1, s_fin (Wd := (s_WC cy ad)) ht he2 hP⟩, hS.F ht⟩) hS.2.2 dX6_count_78 hlk
theorem kcX6_count {l : Launch} {G : va_G} {cy : Nat → ClassId} {sa : Nat × Nat} {ad : Nat → Nat}  {sz : Nat} (hI : s_inj ad 27) (σ : Sg) (x1 : Int32) {re : Int32} {σe : Sg} (hf : fX6_count σ x1 = some (re, σe)) : Met l yX6_count (kW yX6_count cX6_count 2 (some .int)) ({ frames := 5, cells := 0, slots := 0, locals := 111 } : Room) (s_P (s_WC cy ad) G cy sa ad 27 [.ref (ad 0), .int x1] sz σ) (s_Qi (s_WC cy ad) G (s_A ad 27 sz) re σe) 0 0 (s_A ad 27 sz) := by
  refine s_met (own := RX6) (by decide) rfl hI (Nat.le_of_ble_eq_true rfl) (fun p e s m below meth c ls hsz C hP hl => ?_)
  subst hsz
  exact kX6_count C σ x1 ls _ _ hl hP va_S.rf hf
end
