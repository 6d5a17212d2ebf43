section
variable {p : Program} {l : Launch} {e : Env} {s : State} {m : MethodId} {below : List Frame} {meth : Method} {c : Code} {G : va_G} {cy : Nat → ClassId} {sa : Nat × Nat} {ad : Nat → Nat} {args : Array Value} {re : Int32} {σe : Sg}
set_option maxRecDepth 100000 in
set_option maxHeartbeats 4000000 in
theorem kX1_copyFrom_6_4 (C : s_X p s m meth c args cX1_copyFrom none 2 RX1 G cy sa ad 27) (σ : Sg) (ls : Array Slot) (H : Heap) (locs : List Loc) (hl : lv_has ls 2 [(0, .ref (ad 6)), (1, .ref (ad 4))]) (hP : va_P G vwCl ((s_WC cy ad) σ) H) (hS : va_S (s_A ad 27 s.heap.size) s.heap H locs) (hf : fX1_copyFrom_6_4 σ = some σe) : W p l e ({ frames := 1, cells := 0, slots := 0, locals := 60 } : Room) s m args below meth c H locs 0 0 (MQ below (s_Qv (s_WC cy ad) G (s_A ad 27 s.heap.size) σe) args s 0 0 (s_A ad 27 s.heap.size)) (F0 m 0 ls []) := by
  obtain ⟨hx, hb, hr, hml, hown, hts, hlk, hK, hE, hI⟩ := id C
  have hD : ∀ σ : Sg, va_D (s_A ad 27 s.heap.size) ((s_WC cy ad) σ) := fun σ => s_D (s_WC_ad cy ad σ) hI (fun k hk => Or.inl ⟨k, hk, rfl⟩)
  unfold fX1_copyFrom_6_4 at hf
  refine lv_aload_n hx hb dX1_copyFrom_0 rfl (lv_at hl 1 rfl) ?_
  refine va_get (D := G) (ci := 1) (v := .ref (ad 5)) (C := RX1) (T := TX1) (N := 8) hx hb hts inkX1 hown hK hP 4 rfl rfl 0 (by decide) (hts _ kw_111) (fun _ h9 => h9) rfl dX1_copyFrom_1 ?_
  refine lv_iconst (v := 0) hx hb dX1_copyFrom_4 (by decide) ?_
  refine lv_aload_n hx hb dX1_copyFrom_5 rfl (lv_at hl 0 rfl) ?_
  refine va_get (D := G) (ci := 1) (v := .ref (ad 7)) (C := RX1) (T := TX1) (N := 8) hx hb hts inkX1 hown hK hP 6 rfl rfl 0 (by decide) (hts _ kw_111) (fun _ h9 => h9) rfl dX1_copyFrom_6 ?_
  refine lv_iconst (v := 0) hx hb dX1_copyFrom_9 (by decide) ?_
  refine lv_aload_n hx hb dX1_copyFrom_10 rfl (lv_at hl 1 rfl) ?_
  refine va_get (D := G) (ci := 1) (v := .int (σ 4 1)) (C := RX1) (T := TX1) (N := 8) hx hb hts inkX1 hown hK hP 4 rfl rfl 1 (by decide) (hts _ kw_112) (fun _ h9 => h9) rfl dX1_copyFrom_11 ?_
  replace hf := s_gd_some hf
  obtain ⟨g2, hf⟩ := hf
  obtain ⟨g2a, g2b, g2c, g2d, g2e⟩ := s_cpok_of g2
  refine va_copyi hx hb (hml.trans hl.1.symm) hown (hts _ kw_440) (hts _ kw_442) (hts _ kw_441) (hts _ kw_70) hK hP (hD _) hS 5 7 1 1 rfl rfl rfl rfl rfl g2a g2b g2c g2d g2e (fun _ _ => rfl) (Nat.le_of_ble_eq_true rfl) (by decide +kernel) dX1_copyFrom_14 (fun H locs hP _ hS => ?_)
  obtain ⟨σ1, eσ1⟩ : ∃ z : Sg, z = (s_upr σ 7 (va_cpy (σ 5) (σ 7) (Int32.toNatClampNeg (0 : Int32)) (Int32.toNatClampNeg (0 : Int32)) (Int32.toNatClampNeg (σ 4 1)))) := ⟨_, rfl⟩
  replace hf := s_lt_at eσ1 hf
  replace hP : va_P G vwCl ((s_WC cy ad) σ1) H := by rw [eσ1]; exact hP
  refine lv_aload_n hx hb dX1_copyFrom_17 rfl (lv_at hl 0 rfl) ?_
  refine lv_aload_n hx hb dX1_copyFrom_18 rfl (lv_at hl 1 rfl) ?_
  refine va_get (D := G) (ci := 1) (v := .int (σ1 4 1)) (C := RX1) (T := TX1) (N := 8) hx hb hts inkX1 hown hK hP 4 rfl rfl 1 (by decide) (hts _ kw_112) (fun _ h9 => h9) rfl dX1_copyFrom_19 ?_
  refine va_put (D := G) (ci := 1) (v := .int (σ1 4 1)) (ty := .int) (C := RX1) (T := TX1) (N := 8) hx hb hts inkX1 tyX1 tyX1_ok nmX1 hown hK hP (hD _) hS 6 rfl rfl 1 (by decide) (hts _ kw_112) (fun _ h9 => h9) rfl (by decide +kernel) rfl rfl (Nat.le_of_ble_eq_true rfl) dX1_copyFrom_22 (fun H locs hP _ hS => ?_)
  obtain ⟨σ3, eσ3⟩ : ∃ z : Sg, z = (s_up σ1 6 1 (σ1 4 1)) := ⟨_, rfl⟩
  replace hf := s_lt_at eσ3 hf
  replace hP : va_P G vwCl ((s_WC cy ad) σ3) H := by rw [eσ3]; exact hP
  refine lv_aload_n hx hb dX1_copyFrom_25 rfl (lv_at hl 0 rfl) ?_
  refine lv_aload_n hx hb dX1_copyFrom_26 rfl (lv_at hl 1 rfl) ?_
  refine va_get (D := G) (ci := 1) (v := .int (σ3 4 2)) (C := RX1) (T := TX1) (N := 8) hx hb hts inkX1 hown hK hP 4 rfl rfl 2 (by decide) (hts _ kw_115) (fun _ h9 => h9) rfl dX1_copyFrom_27 ?_
  refine va_put (D := G) (ci := 1) (v := .int (σ3 4 2)) (ty := .int) (C := RX1) (T := TX1) (N := 8) hx hb hts inkX1 tyX1 tyX1_ok nmX1 hown hK hP (hD _) hS 6 rfl rfl 2 (by decide) (hts _ kw_115) (fun _ h9 => h9) rfl (by decide +kernel) rfl rfl (Nat.le_of_ble_eq_true rfl) dX1_copyFrom_30 (fun H locs hP _ hS => ?_)
  obtain ⟨σ4, eσ4⟩ : ∃ z : Sg, z = (s_up σ3 6 2 (σ3 4 2)) := ⟨_, rfl⟩
  replace hf := s_lt_at eσ4 hf
  replace hP : va_P G vwCl ((s_WC cy ad) σ4) H := by rw [eσ4]; exact hP
  refine lv_aload_n hx hb dX1_copyFrom_33 rfl (lv_at hl 0 rfl) ?_
  refine lv_aload_n hx hb dX1_copyFrom_34 rfl (lv_at hl 1 rfl) ?_
  refine va_get (D := G) (ci := 1) (v := .int (σ4 4 3)) (C := RX1) (T := TX1) (N := 8) hx hb hts inkX1 hown hK hP 4 rfl rfl 3 (by decide) (hts _ kw_119) (fun _ h9 => h9) rfl dX1_copyFrom_35 ?_
  refine va_put (D := G) (ci := 1) (v := .int (σ4 4 3)) (ty := .int) (C := RX1) (T := TX1) (N := 8) hx hb hts inkX1 tyX1 tyX1_ok nmX1 hown hK hP (hD _) hS 6 rfl rfl 3 (by decide) (hts _ kw_119) (fun _ h9 => h9) rfl (by decide +kernel) rfl rfl (Nat.le_of_ble_eq_true rfl) dX1_copyFrom_38 (fun H locs hP _ hS => ?_)
  obtain ⟨σ5, eσ5⟩ : ∃ z : Sg, z = (s_up σ4 6 3 (σ4 4 3)) := ⟨_, rfl⟩
  replace hf := s_lt_at eσ5 hf
  replace hP : va_P G vwCl ((s_WC cy ad) σ5) H := by rw [eσ5]; exact hP
  refine lv_aload_n hx hb dX1_copyFrom_41 rfl (lv_at hl 0 rfl) ?_
  refine lv_aload_n hx hb dX1_copyFrom_42 rfl (lv_at hl 1 rfl) ?_
  refine va_get (D := G) (ci := 1) (v := .int (σ5 4 4)) (C := RX1) (T := TX1) (N := 8) hx hb hts inkX1 hown hK hP 4 rfl rfl 4 (by decide) (hts _ kw_123) (fun _ h9 => h9) rfl dX1_copyFrom_43 ?_
  refine va_put (D := G) (ci := 1) (v := .int (σ5 4 4)) (ty := .int) (C := RX1) (T := TX1) (N := 8) hx hb hts inkX1 tyX1 tyX1_ok nmX1 hown hK hP (hD _) hS 6 rfl rfl 4 (by decide) (hts _ kw_123) (fun _ h9 => h9) rfl (by decide +kernel) rfl rfl (Nat.le_of_ble_eq_true rfl) dX1_copyFrom_46 (fun H locs hP _ hS => ?_)
  obtain ⟨σ6, eσ6⟩ : ∃ z : Sg, z = (s_up σ5 6 4 (σ5 4 4)) := ⟨_, rfl⟩
  replace hf := s_lt_at eσ6 hf
  replace hP : va_P G vwCl ((s_WC cy ad) σ6) H := by rw [eσ6]; exact hP
  refine lv_aload_n hx hb dX1_copyFrom_49 rfl (lv_at hl 0 rfl) ?_
  refine lv_aload_n hx hb dX1_copyFrom_50 rfl (lv_at hl 1 rfl) ?_
  refine va_get (D := G) (ci := 1) (v := .int (σ6 4 5)) (C := RX1) (T := TX1) (N := 8) hx hb hts inkX1 hown hK hP 4 rfl rfl 5 (by decide) (hts _ kw_127) (fun _ h9 => h9) rfl dX1_copyFrom_51 ?_
  refine va_put (D := G) (ci := 1) (v := .int (σ6 4 5)) (ty := .int) (C := RX1) (T := TX1) (N := 8) hx hb hts inkX1 tyX1 tyX1_ok nmX1 hown hK hP (hD _) hS 6 rfl rfl 5 (by decide) (hts _ kw_127) (fun _ h9 => h9) rfl (by decide +kernel) rfl rfl (Nat.le_of_ble_eq_true rfl) dX1_copyFrom_54 (fun H locs hP _ hS => ?_)
  obtain ⟨σ7, eσ7⟩ : ∃ z : Sg, z = (s_up σ6 6 5 (σ6 4 5)) := ⟨_, rfl⟩
  replace hf := s_lt_at eσ7 hf
  replace hP : va_P G vwCl ((s_WC cy ad) σ7) H := by rw [eσ7]; exact hP
  refine lv_aload_n hx hb dX1_copyFrom_57 rfl (lv_at hl 0 rfl) ?_
  refine lv_aload_n hx hb dX1_copyFrom_58 rfl (lv_at hl 1 rfl) ?_
  refine va_get (D := G) (ci := 1) (v := .int (σ7 4 6)) (C := RX1) (T := TX1) (N := 8) hx hb hts inkX1 hown hK hP 4 rfl rfl 6 (by decide) (hts _ kw_131) (fun _ h9 => h9) rfl dX1_copyFrom_59 ?_
  refine va_put (D := G) (ci := 1) (v := .int (σ7 4 6)) (ty := .int) (C := RX1) (T := TX1) (N := 8) hx hb hts inkX1 tyX1 tyX1_ok nmX1 hown hK hP (hD _) hS 6 rfl rfl 6 (by decide) (hts _ kw_131) (fun _ h9 => h9) rfl (by decide +kernel) rfl rfl (Nat.le_of_ble_eq_true rfl) dX1_copyFrom_62 (fun H locs hP _ hS => ?_)
  obtain ⟨σ8, eσ8⟩ : ∃ z : Sg, z = (s_up σ7 6 6 (σ7 4 6)) := ⟨_, rfl⟩
  replace hf := s_lt_at eσ8 hf
  replace hP : va_P G vwCl ((s_WC cy ad) σ8) H := by rw [eσ8]; exact hP
  refine lv_aload_n hx hb dX1_copyFrom_65 rfl (lv_at hl 0 rfl) ?_
  refine lv_aload_n hx hb dX1_copyFrom_66 rfl (lv_at hl 1 rfl) ?_
  refine va_get (D := G) (ci := 1) (v := .int (σ8 4 7)) (C := RX1) (T := TX1) (N := 8) hx hb hts inkX1 hown hK hP 4 rfl rfl 7 (by decide) (hts _ kw_135) (fun _ h9 => h9) rfl dX1_copyFrom_67 ?_
  refine va_put (D := G) (ci := 1) (v := .int (σ8 4 7)) (ty := .int) (C := RX1) (T := TX1) (N := 8) hx hb hts inkX1 tyX1 tyX1_ok nmX1 hown hK hP (hD _) hS 6 rfl rfl 7 (by decide) (hts _ kw_135) (fun _ h9 => h9) rfl (by decide +kernel) rfl rfl (Nat.le_of_ble_eq_true rfl) dX1_copyFrom_70 (fun H locs hP _ hS => ?_)
  obtain ⟨σ9, eσ9⟩ : ∃ z : Sg, z = (s_up σ8 6 7 (σ8 4 7)) := ⟨_, rfl⟩
  replace hf := s_lt_at eσ9 hf
  replace hP : va_P G vwCl ((s_WC cy ad) σ9) H := by rw [eσ9]; exact hP
  have he2 := Option.some.inj hf
  exact W.vret hx hb hr (fun t ht hW => ⟨⟨(), rfl, trivial, s_fin (Wd := (s_WC cy ad)) ht he2 hP⟩, hS.F ht⟩) hS.2.2 dX1_copyFrom_73 hlk
theorem kcX1_copyFrom_6_4 {l : Launch} {G : va_G} {cy : Nat → ClassId} {sa : Nat × Nat} {ad : Nat → Nat}  {sz : Nat} (hI : s_inj ad 27) (σ : Sg) {σe : Sg} (hf : fX1_copyFrom_6_4 σ = some σe) : Met l yX1_copyFrom (kW yX1_copyFrom cX1_copyFrom 2 none) ({ frames := 1, cells := 0, slots := 0, locals := 60 } : Room) (s_P (s_WC cy ad) G cy sa ad 27 [.ref (ad 6), .ref (ad 4)] sz σ) (s_Qv (s_WC cy ad) G (s_A ad 27 sz) σe) 0 0 (s_A ad 27 sz) := by
  refine s_met (own := RX1) (by decide) rfl hI (Nat.le_of_ble_eq_true rfl) (fun p e s m below meth c ls hsz C hP hl => ?_)
  subst hsz
  exact kX1_copyFrom_6_4 C σ ls _ _ hl hP va_S.rf hf
set_option maxRecDepth 100000 in
set_option maxHeartbeats 4000000 in
theorem kX6_text_b51 (C : s_X p s m meth c args cX6_text (some .int) 3 RX6 G cy sa ad 27) (k51 : Sg → Int32 → Option (Int32 × Sg)) (hk51 : ∀ (σ : Sg) (x2 : Int32) (ls : Array Slot) (H : Heap) (locs : List Loc), lv_has ls 3 [(0, .ref (ad 0)), (2, .int x2)] → va_P G vwCl ((s_WC cy ad) σ) H → va_S (s_A ad 27 s.heap.size) s.heap H locs → k51 σ x2 = some (re, σe) → W p l e ({ frames := 8, cells := 0, slots := 0, locals := 176 } : Room) s m args below meth c H locs 0 0 (MQ below (s_Qi (s_WC cy ad) G (s_A ad 27 s.heap.size) re σe) args s 0 0 (s_A ad 27 s.heap.size)) (F0 m 51 ls [])) (σ : Sg) (x2 : Int32) (ls : Array Slot) (H : Heap) (locs : List Loc) (hl : lv_has ls 3 [(0, .ref (ad 0)), (2, .int x2)]) (hP : va_P G vwCl ((s_WC cy ad) σ) H) (hS : va_S (s_A ad 27 s.heap.size) s.heap H locs) (hf : fX6_text_b51 k51 σ x2 = some (re, σe)) : W p l e ({ frames := 8, cells := 0, slots := 0, locals := 176 } : Room) s m args below meth c H locs 0 0 (MQ below (s_Qi (s_WC cy ad) G (s_A ad 27 s.heap.size) re σe) args s 0 0 (s_A ad 27 s.heap.size)) (F0 m 51 ls []) := by
  obtain ⟨hx, hb, hr, hml, hown, hts, hlk, hK, hE, hI⟩ := id C
  have hD : ∀ σ : Sg, va_D (s_A ad 27 s.heap.size) ((s_WC cy ad) σ) := fun σ => s_D (s_WC_ad cy ad σ) hI (fun k hk => Or.inl ⟨k, hk, rfl⟩)
  unfold fX6_text_b51 at hf
  refine lv_iload_n hx hb dX6_text_51 rfl (lv_at hl 1 rfl) ?_
  refine lv_aload_n hx hb dX6_text_52 rfl (lv_at hl 0 rfl) ?_
  refine va_get (D := G) (ci := 6) (v := .ref (ad 17)) (C := RX6) (T := TX6) (N := 9) hx hb hts inkX6 hown hK hP 0 rfl rfl 6 (by decide) (hts _ kw_256) (fun _ h9 => h9) rfl dX6_text_53 ?_
  refine va_alen (v := (2 : Int32)) hx hb hK hP 17 2 rfl rfl (by show Int32.ofNat 2 = 2; decide) dX6_text_56 ?_
  refine lv_icmp_ge (tgt := 73) hx hb dX6_text_57 (by decide) (fun c1 => ?_) (fun c1 => ?_)
  · rw [if_pos c1] at hf
    refine lv_aload_n hx hb dX6_text_73 rfl (lv_at hl 0 rfl) ?_
    refine va_get (D := G) (ci := 6) (v := .ref (ad 6)) (C := RX6) (T := TX6) (N := 9) hx hb hts inkX6 hown hK hP 0 rfl rfl 2 (by decide) (hts _ kw_252) (fun _ h9 => h9) rfl dX6_text_74 ?_
    refine va_getN (D := G) (ci := 1) (v := .int (σ 6 1)) (C := RX1) (T := TX1) (N := 8) hx hb hts inkX1 hown hK hP 6 rfl rfl 1 (by decide) (kn_X6_89 hE) (fun _ h9 => h9) rfl dX6_text_77 ?_
    obtain ⟨he1, he2⟩ := s_ret hf
    exact W.iret hx hb hr (fun t ht hW => ⟨⟨_, (), rfl, he1, s_fin (Wd := (s_WC cy ad)) ht he2 hP⟩, hS.F ht⟩) hS.2.2 dX6_text_80 hlk
  · rw [if_neg c1] at hf
    refine lv_aload_n hx hb dX6_text_60 rfl (lv_at hl 0 rfl) ?_
    refine va_get (D := G) (ci := 6) (v := .ref (ad 17)) (C := RX6) (T := TX6) (N := 9) hx hb hts inkX6 hown hK hP 0 rfl rfl 6 (by decide) (hts _ kw_256) (fun _ h9 => h9) rfl dX6_text_61 ?_
    refine lv_iload_n hx hb dX6_text_64 rfl (lv_at hl 1 rfl) ?_
    refine lv_iconst (v := 0) hx hb dX6_text_65 (by decide) ?_
    replace hf := s_gd_some hf
    obtain ⟨g2, hf⟩ := hf
    refine va_zast hx hb hK hP (hD _) hS 17 2 rfl rfl (s_in_of g2) dX6_text_66 (fun H locs hP _ hS => ?_)
    obtain ⟨σ3, eσ3⟩ : ∃ z : Sg, z = (s_up σ 17 (Int32.toNatClampNeg x2) (vp_nar .boolean (0 : Int32))) := ⟨_, rfl⟩
    replace hf := s_lt_at eσ3 hf
    replace hP : va_P G vwCl ((s_WC cy ad) σ3) H := by rw [eσ3]; exact hP
    obtain ⟨t4, et4⟩ : ∃ z : Int32, z = (x2 + 1) := ⟨_, rfl⟩
    replace hf := s_lt_at et4 hf
    refine lv_iinc (v := t4) (lv' := [(2, .int t4), (0, .ref (ad 0))]) hx hb dX6_text_67 hl (k := 1) rfl (by rw [et4]; rfl) (by decide) rfl (fun ls hl => ?_)
    refine lv_goto (tgt := 51) hx hb dX6_text_70 (by decide) ?_
    exact hk51 σ3 t4 _ _ _ (lv_sub hl [1, 0] rfl) hP hS hf
set_option maxRecDepth 100000 in
set_option maxHeartbeats 4000000 in
theorem kX6_text_b51_L (C : s_X p s m meth c args cX6_text (some .int) 3 RX6 G cy sa ad 27) : ∀ (n : Nat), ∀ (σ : Sg) (x2 : Int32) (ls : Array Slot) (H : Heap) (locs : List Loc), lv_has ls 3 [(0, .ref (ad 0)), (2, .int x2)] → va_P G vwCl ((s_WC cy ad) σ) H → va_S (s_A ad 27 s.heap.size) s.heap H locs → fX6_text_b51_L n σ x2 = some (re, σe) → W p l e ({ frames := 8, cells := 0, slots := 0, locals := 176 } : Room) s m args below meth c H locs 0 0 (MQ below (s_Qi (s_WC cy ad) G (s_A ad 27 s.heap.size) re σe) args s 0 0 (s_A ad 27 s.heap.size)) (F0 m 51 ls []) := by
  intro n
  induction n with
  | zero => intro σ x2 ls H locs hl hP hS hf; exact absurd (show (none : Option (Int32 × Sg)) = some (re, σe) from hf) (by intro h; cases h)
  | succ n ih => intro σ x2 ls H locs hl hP hS hf; exact kX6_text_b51 C (fX6_text_b51_L n) ih σ x2 ls H locs hl hP hS hf
set_option maxRecDepth 100000 in
set_option maxHeartbeats 4000000 in
theorem kX6_text (C : s_X p s m meth c args cX6_text (some .int) 3 RX6 G cy sa ad 27) (σ : Sg) (ls : Array Slot) (H : Heap) (locs : List Loc) (hl : lv_has ls 3 [(0, .ref (ad 0))]) (hP : va_P G vwCl ((s_WC cy ad) σ) H) (hS : va_S (s_A ad 27 s.heap.size) s.heap H locs) (hf : fX6_text σ = some (re, σe)) : W p l e ({ frames := 8, cells := 0, slots := 0, locals := 176 } : Room) s m args below meth c H locs 0 0 (MQ below (s_Qi (s_WC cy ad) G (s_A ad 27 s.heap.size) re σe) args s 0 0 (s_A ad 27 s.heap.size)) (F0 m 0 ls []) := by
  obtain ⟨hx, hb, hr, hml, hown, hts, hlk, hK, hE, hI⟩ := id C
  have hD : ∀ σ : Sg, va_D (s_A ad 27 s.heap.size) ((s_WC cy ad) σ) := fun σ => s_D (s_WC_ad cy ad σ) hI (fun k hk => Or.inl ⟨k, hk, rfl⟩)
  unfold fX6_text at hf
  refine lv_aload_n hx hb dX6_text_0 rfl (lv_at hl 0 rfl) ?_
  refine va_get (D := G) (ci := 6) (v := .ref (ad 3)) (C := RX6) (T := TX6) (N := 9) hx hb hts inkX6 hown hK hP 0 rfl rfl 1 (by decide) (hts _ kw_251) (fun _ h9 => h9) rfl dX6_text_1 ?_
  refine lv_aload_n hx hb dX6_text_4 rfl (lv_at hl 0 rfl) ?_
  refine va_get (D := G) (ci := 6) (v := .ref (ad 1)) (C := RX6) (T := TX6) (N := 9) hx hb hts inkX6 hown hK hP 0 rfl rfl 0 (by decide) (hts _ kw_250) (fun _ h9 => h9) rfl dX6_text_5 ?_
  replace hf := s_bi_some hf
  obtain ⟨r3, σ1, hz2, hf⟩ := hf
  refine s_calli (nn := 1) C (kcX4_tell (l := l) (G := G) (cy := cy) (sa := sa) hI (sz := H.size) σ hz2) gk_X6_76 rfl rfl (by decide +kernel) ⟨Nat.le_of_ble_eq_true rfl, Nat.le_of_ble_eq_true rfl⟩ hP hS (q0 := 3) (ci := 4) rfl rfl rfl (As := [.ref (ad 1)]) (rest := []) rfl rfl hl.1 (Nat.le_of_ble_eq_true rfl) dX6_text_8 (fun H locs hP hS => ?_)
  refine lv_istore_n (lv' := [(1, .int r3), (0, .ref (ad 0))]) hx hb dX6_text_11 rfl hl (by decide) rfl (fun ls hl => ?_)
  refine lv_aload_n hx hb dX6_text_12 rfl (lv_at hl 1 rfl) ?_
  refine va_get (D := G) (ci := 6) (v := .ref (ad 1)) (C := RX6) (T := TX6) (N := 9) hx hb hts inkX6 hown hK hP 0 rfl rfl 0 (by decide) (hts _ kw_250) (fun _ h9 => h9) rfl dX6_text_13 ?_
  refine lv_iconst (v := 0) hx hb dX6_text_16 (by decide) ?_
  refine va_putN (D := G) (ci := 3) (v := .int (0 : Int32)) (ty := .int) (C := RX3) (T := TX3) (N := 2) hx hb hts inkX3 tyX3 tyX3_ok nmX3 hown hK hP (hD _) hS 1 rfl rfl 1 (by decide) (kn_X6_73 hE) (fun _ h9 => h9) rfl (by decide +kernel) rfl rfl (Nat.le_of_ble_eq_true rfl) dX6_text_17 (fun H locs hP _ hS => ?_)
  obtain ⟨σ4, eσ4⟩ : ∃ z : Sg, z = (s_up σ1 1 1 (0 : Int32)) := ⟨_, rfl⟩
  replace hf := s_lt_at eσ4 hf
  replace hP : va_P G vwCl ((s_WC cy ad) σ4) H := by rw [eσ4]; exact hP
  refine lv_iload_n hx hb dX6_text_20 rfl (lv_at hl 0 rfl) ?_
  refine lv_if_ne (tgt := 35) hx hb dX6_text_21 (by decide) (fun c5 => ?_) (fun c5 => ?_)
  · rw [if_neg c5] at hf
    refine lv_aload_n hx hb dX6_text_35 rfl (lv_at hl 1 rfl) ?_
    refine va_get (D := G) (ci := 6) (v := .ref (ad 6)) (C := RX6) (T := TX6) (N := 9) hx hb hts inkX6 hown hK hP 0 rfl rfl 2 (by decide) (hts _ kw_252) (fun _ h9 => h9) rfl dX6_text_36 ?_
    refine lv_aload_n hx hb dX6_text_39 rfl (lv_at hl 1 rfl) ?_
    refine va_get (D := G) (ci := 6) (v := .ref (ad 3)) (C := RX6) (T := TX6) (N := 9) hx hb hts inkX6 hown hK hP 0 rfl rfl 1 (by decide) (hts _ kw_251) (fun _ h9 => h9) rfl dX6_text_40 ?_
    refine va_getN (D := G) (ci := 4) (v := .ref (ad 4)) (C := RX4) (T := TX4) (N := 12) hx hb hts inkX4 hown hK hP 3 rfl rfl 0 (by decide) (kn_X6_83 hE) (fun _ h9 => h9) rfl dX6_text_43 ?_
    replace hf := s_bv_some hf
    obtain ⟨σ6, hz7, hf⟩ := hf
    refine s_callv (nn := 1) C (kcX1_copyFrom_6_4 (l := l) (G := G) (cy := cy) (sa := sa) hI (sz := H.size) σ4 hz7) gk_X6_86 rfl rfl (by decide +kernel) ⟨Nat.le_of_ble_eq_true rfl, Nat.le_of_ble_eq_true rfl⟩ hP hS (q0 := 6) (ci := 1) rfl rfl rfl (As := [.ref (ad 4)]) (rest := []) rfl rfl hl.1 (Nat.le_of_ble_eq_true rfl) dX6_text_46 (fun H locs hP hS => ?_)
    refine lv_iconst (v := 0) hx hb dX6_text_49 (by decide) ?_
    refine lv_istore_n (lv' := [(2, .int (0 : Int32)), (1, .int r3), (0, .ref (ad 0))]) hx hb dX6_text_50 rfl hl (by decide) rfl (fun ls hl => ?_)
    exact kX6_text_b51_L C s_fu σ6 (0 : Int32) _ _ _ (lv_sub hl [2, 0] rfl) hP hS hf
  · rw [if_pos c5] at hf
    refine lv_bipush (v := -10) hx hb dX6_text_24 (by decide) ?_
    refine lv_aload_n hx hb dX6_text_26 rfl (lv_at hl 1 rfl) ?_
    refine va_get (D := G) (ci := 6) (v := .ref (ad 3)) (C := RX6) (T := TX6) (N := 9) hx hb hts inkX6 hown hK hP 0 rfl rfl 1 (by decide) (hts _ kw_251) (fun _ h9 => h9) rfl dX6_text_27 ?_
    refine va_getN (D := G) (ci := 4) (v := .int (σ4 3 11)) (C := RX4) (T := TX4) (N := 12) hx hb hts inkX4 hown hK hP 3 rfl rfl 11 (by decide) (kn_X6_80 hE) (fun _ h9 => h9) rfl dX6_text_30 ?_
    refine lv_isub hx hb dX6_text_33 ?_
    obtain ⟨he1, he2⟩ := s_ret hf
    exact W.iret hx hb hr (fun t ht hW => ⟨⟨_, (), rfl, he1, s_fin (Wd := (s_WC cy ad)) ht he2 hP⟩, hS.F ht⟩) hS.2.2 dX6_text_34 hlk
theorem kcX6_text {l : Launch} {G : va_G} {cy : Nat → ClassId} {sa : Nat × Nat} {ad : Nat → Nat}  {sz : Nat} (hI : s_inj ad 27) (σ : Sg) {re : Int32} {σe : Sg} (hf : fX6_text σ = some (re, σe)) : Met l yX6_text (kW yX6_text cX6_text 3 (some .int)) ({ frames := 8, cells := 0, slots := 0, locals := 176 } : Room) (s_P (s_WC cy ad) G cy sa ad 27 [.ref (ad 0)] sz σ) (s_Qi (s_WC cy ad) G (s_A ad 27 sz) re σe) 0 0 (s_A ad 27 sz) := by
  refine s_met (own := RX6) (by decide) rfl hI (Nat.le_of_ble_eq_true rfl) (fun p e s m below meth c ls hsz C hP hl => ?_)
  subst hsz
  exact kX6_text C σ ls _ _ hl hP va_S.rf hf
set_option maxRecDepth 100000 in
set_option maxHeartbeats 4000000 in
theorem kX6_fault (C : s_X p s m meth c args cX6_fault (some .int) 1 RX6 G cy sa ad 27) (σ : Sg) (ls : Array Slot) (H : Heap) (locs : List Loc) (hl : lv_has ls 1 [(0, .ref (ad 0))]) (hP : va_P G vwCl ((s_WC cy ad) σ) H) (hS : va_S (s_A ad 27 s.heap.size) s.heap H locs) (hf : fX6_fault σ = some (re, σe)) : W p l e ({ frames := 0, cells := 0, slots := 0, locals := 0 } : Room) s m args below meth c H locs 0 0 (MQ below (s_Qi (s_WC cy ad) G (s_A ad 27 s.heap.size) re σe) args s 0 0 (s_A ad 27 s.heap.size)) (F0 m 0 ls []) := by
  obtain ⟨hx, hb, hr, hml, hown, hts, hlk, hK, hE, hI⟩ := id C
  have hD : ∀ σ : Sg, va_D (s_A ad 27 s.heap.size) ((s_WC cy ad) σ) := fun σ => s_D (s_WC_ad cy ad σ) hI (fun k hk => Or.inl ⟨k, hk, rfl⟩)
  unfold fX6_fault at hf
  refine lv_aload_n hx hb dX6_fault_0 rfl (lv_at hl 0 rfl) ?_
  refine va_get (D := G) (ci := 6) (v := .ref (ad 3)) (C := RX6) (T := TX6) (N := 9) hx hb hts inkX6 hown hK hP 0 rfl rfl 1 (by decide) (hts _ kw_251) (fun _ h9 => h9) rfl dX6_fault_1 ?_
  refine va_getN (D := G) (ci := 4) (v := .int (σ 3 10)) (C := RX4) (T := TX4) (N := 12) hx hb hts inkX4 hown hK hP 3 rfl rfl 10 (by decide) (kn_X6_92 hE) (fun _ h9 => h9) rfl dX6_fault_4 ?_
  obtain ⟨he1, he2⟩ := s_ret hf
  exact W.iret hx hb hr (fun t ht hW => ⟨⟨_, (), rfl, he1, s_fin (Wd := (s_WC cy ad)) ht he2 hP⟩, hS.F ht⟩) hS.2.2 dX6_fault_7 hlk
theorem kcX6_fault {l : Launch} {G : va_G} {cy : Nat → ClassId} {sa : Nat × Nat} {ad : Nat → Nat}  {sz : Nat} (hI : s_inj ad 27) (σ : Sg) {re : Int32} {σe : Sg} (hf : fX6_fault σ = some (re, σe)) : Met l yX6_fault (kW yX6_fault cX6_fault 1 (some .int)) ({ frames := 0, cells := 0, slots := 0, locals := 0 } : Room) (s_P (s_WC cy ad) G cy sa ad 27 [.ref (ad 0)] sz σ) (s_Qi (s_WC cy ad) G (s_A ad 27 sz) re σe) 0 0 (s_A ad 27 sz) := by
  refine s_met (own := RX6) (by decide) rfl hI (Nat.le_of_ble_eq_true rfl) (fun p e s m below meth c ls hsz C hP hl => ?_)
  subst hsz
  exact kX6_fault C σ ls _ _ hl hP va_S.rf hf
set_option maxRecDepth 100000 in
set_option maxHeartbeats 4000000 in
theorem kX1_countMissing_6_b26 (C : s_X p s m meth c args cX1_countMissing (some .int) 3 RX1 G cy sa ad 27) (k4 : Sg → Int32 → Int32 → Option (Int32 × Sg)) (hk4 : ∀ (σ : Sg) (x1 : Int32) (x2 : Int32) (ls : Array Slot) (H : Heap) (locs : List Loc), lv_has ls 3 [(0, .ref (ad 6)), (1, .int x1), (2, .int x2)] → va_P G vwCl ((s_WC cy ad) σ) H → va_S (s_A ad 27 s.heap.size) s.heap H locs → k4 σ x1 x2 = some (re, σe) → W p l e ({ frames := 0, cells := 0, slots := 0, locals := 0 } : Room) s m args below meth c H locs 0 0 (MQ below (s_Qi (s_WC cy ad) G (s_A ad 27 s.heap.size) re σe) args s 0 0 (s_A ad 27 s.heap.size)) (F0 m 4 ls [])) (σ : Sg) (x1 : Int32) (x2 : Int32) (ls : Array Slot) (H : Heap) (locs : List Loc) (hl : lv_has ls 3 [(0, .ref (ad 6)), (1, .int x1), (2, .int x2)]) (hP : va_P G vwCl ((s_WC cy ad) σ) H) (hS : va_S (s_A ad 27 s.heap.size) s.heap H locs) (hf : fX1_countMissing_6_b26 k4 σ x1 x2 = some (re, σe)) : W p l e ({ frames := 0, cells := 0, slots := 0, locals := 0 } : Room) s m args below meth c H locs 0 0 (MQ below (s_Qi (s_WC cy ad) G (s_A ad 27 s.heap.size) re σe) args s 0 0 (s_A ad 27 s.heap.size)) (F0 m 26 ls []) := by
  obtain ⟨hx, hb, hr, hml, hown, hts, hlk, hK, hE, hI⟩ := id C
  have hD : ∀ σ : Sg, va_D (s_A ad 27 s.heap.size) ((s_WC cy ad) σ) := fun σ => s_D (s_WC_ad cy ad σ) hI (fun k hk => Or.inl ⟨k, hk, rfl⟩)
  unfold fX1_countMissing_6_b26 at hf
  obtain ⟨t1, et1⟩ : ∃ z : Int32, z = (x2 + 1) := ⟨_, rfl⟩
  replace hf := s_lt_at et1 hf
  refine lv_iinc (v := t1) (lv' := [(2, .int t1), (0, .ref (ad 6)), (1, .int x1)]) hx hb dX1_countMissing_26 hl (k := 2) rfl (by rw [et1]; rfl) (by decide) rfl (fun ls hl => ?_)
  refine lv_goto (tgt := 4) hx hb dX1_countMissing_29 (by decide) ?_
  exact hk4 σ x1 t1 _ _ _ (lv_sub hl [1, 2, 0] rfl) hP hS hf
set_option maxRecDepth 100000 in
set_option maxHeartbeats 4000000 in
theorem kX1_countMissing_6_b4 (C : s_X p s m meth c args cX1_countMissing (some .int) 3 RX1 G cy sa ad 27) (k4 : Sg → Int32 → Int32 → Option (Int32 × Sg)) (hk4 : ∀ (σ : Sg) (x1 : Int32) (x2 : Int32) (ls : Array Slot) (H : Heap) (locs : List Loc), lv_has ls 3 [(0, .ref (ad 6)), (1, .int x1), (2, .int x2)] → va_P G vwCl ((s_WC cy ad) σ) H → va_S (s_A ad 27 s.heap.size) s.heap H locs → k4 σ x1 x2 = some (re, σe) → W p l e ({ frames := 0, cells := 0, slots := 0, locals := 0 } : Room) s m args below meth c H locs 0 0 (MQ below (s_Qi (s_WC cy ad) G (s_A ad 27 s.heap.size) re σe) args s 0 0 (s_A ad 27 s.heap.size)) (F0 m 4 ls [])) (σ : Sg) (x1 : Int32) (x2 : Int32) (ls : Array Slot) (H : Heap) (locs : List Loc) (hl : lv_has ls 3 [(0, .ref (ad 6)), (1, .int x1), (2, .int x2)]) (hP : va_P G vwCl ((s_WC cy ad) σ) H) (hS : va_S (s_A ad 27 s.heap.size) s.heap H locs) (hf : fX1_countMissing_6_b4 k4 σ x1 x2 = some (re, σe)) : W p l e ({ frames := 0, cells := 0, slots := 0, locals := 0 } : Room) s m args below meth c H locs 0 0 (MQ below (s_Qi (s_WC cy ad) G (s_A ad 27 s.heap.size) re σe) args s 0 0 (s_A ad 27 s.heap.size)) (F0 m 4 ls []) := by
  obtain ⟨hx, hb, hr, hml, hown, hts, hlk, hK, hE, hI⟩ := id C
  have hD : ∀ σ : Sg, va_D (s_A ad 27 s.heap.size) ((s_WC cy ad) σ) := fun σ => s_D (s_WC_ad cy ad σ) hI (fun k hk => Or.inl ⟨k, hk, rfl⟩)
  unfold fX1_countMissing_6_b4 at hf
  refine lv_iload_n hx hb dX1_countMissing_4 rfl (lv_at hl 2 rfl) ?_
  refine lv_aload_n hx hb dX1_countMissing_5 rfl (lv_at hl 0 rfl) ?_
  refine va_get (D := G) (ci := 1) (v := .int (σ 6 1)) (C := RX1) (T := TX1) (N := 8) hx hb hts inkX1 hown hK hP 6 rfl rfl 1 (by decide) (hts _ kw_112) (fun _ h9 => h9) rfl dX1_countMissing_6 ?_
  refine lv_icmp_ge (tgt := 32) hx hb dX1_countMissing_9 (by decide) (fun c1 => ?_) (fun c1 => ?_)
  · rw [if_pos c1] at hf
    refine lv_iload_n hx hb dX1_countMissing_32 rfl (lv_at hl 1 rfl) ?_
    obtain ⟨he1, he2⟩ := s_ret hf
    exact W.iret hx hb hr (fun t ht hW => ⟨⟨_, (), rfl, he1, s_fin (Wd := (s_WC cy ad)) ht he2 hP⟩, hS.F ht⟩) hS.2.2 dX1_countMissing_33 hlk
  · rw [if_neg c1] at hf
    refine lv_aload_n hx hb dX1_countMissing_12 rfl (lv_at hl 0 rfl) ?_
    refine va_get (D := G) (ci := 1) (v := .ref (ad 7)) (C := RX1) (T := TX1) (N := 8) hx hb hts inkX1 hown hK hP 6 rfl rfl 0 (by decide) (hts _ kw_111) (fun _ h9 => h9) rfl dX1_countMissing_13 ?_
    refine lv_iload_n hx hb dX1_countMissing_16 rfl (lv_at hl 2 rfl) ?_
    replace hf := s_gd_some hf
    obtain ⟨g2, hf⟩ := hf
    refine va_iald hx hb hK hP 7 1 rfl rfl (s_in_of g2) dX1_countMissing_17 ?_
    refine lv_ldc (v := 100000000) hx hb hown (hts _ kw_455) dX1_countMissing_18 ?_
    refine lv_icmp_ne (tgt := 26) hx hb dX1_countMissing_20 (by decide) (fun c3 => ?_) (fun c3 => ?_)
    · rw [if_neg c3] at hf
      exact kX1_countMissing_6_b26 C k4 hk4 σ x1 x2 _ _ _ (lv_sub hl [0, 1, 2] rfl) hP hS hf
    · rw [if_pos c3] at hf
      obtain ⟨t4, et4⟩ : ∃ z : Int32, z = (x1 + 1) := ⟨_, rfl⟩
      replace hf := s_lt_at et4 hf
      refine lv_iinc (v := t4) (lv' := [(1, .int t4), (0, .ref (ad 6)), (2, .int x2)]) hx hb dX1_countMissing_23 hl (k := 1) rfl (by rw [et4]; rfl) (by decide) rfl (fun ls hl => ?_)
      exact kX1_countMissing_6_b26 C k4 hk4 σ t4 x2 _ _ _ (lv_sub hl [1, 0, 2] rfl) hP hS hf
set_option maxRecDepth 100000 in
set_option maxHeartbeats 4000000 in
theorem kX1_countMissing_6_b4_L (C : s_X p s m meth c args cX1_countMissing (some .int) 3 RX1 G cy sa ad 27) : ∀ (n : Nat), ∀ (σ : Sg) (x1 : Int32) (x2 : Int32) (ls : Array Slot) (H : Heap) (locs : List Loc), lv_has ls 3 [(0, .ref (ad 6)), (1, .int x1), (2, .int x2)] → va_P G vwCl ((s_WC cy ad) σ) H → va_S (s_A ad 27 s.heap.size) s.heap H locs → fX1_countMissing_6_b4_L n σ x1 x2 = some (re, σe) → W p l e ({ frames := 0, cells := 0, slots := 0, locals := 0 } : Room) s m args below meth c H locs 0 0 (MQ below (s_Qi (s_WC cy ad) G (s_A ad 27 s.heap.size) re σe) args s 0 0 (s_A ad 27 s.heap.size)) (F0 m 4 ls []) := by
  intro n
  induction n with
  | zero => intro σ x1 x2 ls H locs hl hP hS hf; exact absurd (show (none : Option (Int32 × Sg)) = some (re, σe) from hf) (by intro h; cases h)
  | succ n ih => intro σ x1 x2 ls H locs hl hP hS hf; exact kX1_countMissing_6_b4 C (fX1_countMissing_6_b4_L n) ih σ x1 x2 ls H locs hl hP hS hf
set_option maxRecDepth 100000 in
set_option maxHeartbeats 4000000 in
theorem kX1_countMissing_6 (C : s_X p s m meth c args cX1_countMissing (some .int) 3 RX1 G cy sa ad 27) (σ : Sg) (ls : Array Slot) (H : Heap) (locs : List Loc) (hl : lv_has ls 3 [(0, .ref (ad 6))]) (hP : va_P G vwCl ((s_WC cy ad) σ) H) (hS : va_S (s_A ad 27 s.heap.size) s.heap H locs) (hf : fX1_countMissing_6 σ = some (re, σe)) : W p l e ({ frames := 0, cells := 0, slots := 0, locals := 0 } : Room) s m args below meth c H locs 0 0 (MQ below (s_Qi (s_WC cy ad) G (s_A ad 27 s.heap.size) re σe) args s 0 0 (s_A ad 27 s.heap.size)) (F0 m 0 ls []) := by
  obtain ⟨hx, hb, hr, hml, hown, hts, hlk, hK, hE, hI⟩ := id C
  have hD : ∀ σ : Sg, va_D (s_A ad 27 s.heap.size) ((s_WC cy ad) σ) := fun σ => s_D (s_WC_ad cy ad σ) hI (fun k hk => Or.inl ⟨k, hk, rfl⟩)
  unfold fX1_countMissing_6 at hf
  refine lv_iconst (v := 0) hx hb dX1_countMissing_0 (by decide) ?_
  refine lv_istore_n (lv' := [(1, .int (0 : Int32)), (0, .ref (ad 6))]) hx hb dX1_countMissing_1 rfl hl (by decide) rfl (fun ls hl => ?_)
  refine lv_iconst (v := 0) hx hb dX1_countMissing_2 (by decide) ?_
  refine lv_istore_n (lv' := [(2, .int (0 : Int32)), (1, .int (0 : Int32)), (0, .ref (ad 6))]) hx hb dX1_countMissing_3 rfl hl (by decide) rfl (fun ls hl => ?_)
  exact kX1_countMissing_6_b4_L C s_fu σ (0 : Int32) (0 : Int32) _ _ _ (lv_sub hl [2, 1, 0] rfl) hP hS hf
theorem kcX1_countMissing_6 {l : Launch} {G : va_G} {cy : Nat → ClassId} {sa : Nat × Nat} {ad : Nat → Nat}  {sz : Nat} (hI : s_inj ad 27) (σ : Sg) {re : Int32} {σe : Sg} (hf : fX1_countMissing_6 σ = some (re, σe)) : Met l yX1_countMissing (kW yX1_countMissing cX1_countMissing 3 (some .int)) ({ frames := 0, cells := 0, slots := 0, locals := 0 } : Room) (s_P (s_WC cy ad) G cy sa ad 27 [.ref (ad 6)] sz σ) (s_Qi (s_WC cy ad) G (s_A ad 27 sz) re σe) 0 0 (s_A ad 27 sz) := by
  refine s_met (own := RX1) (by decide) rfl hI (Nat.le_of_ble_eq_true rfl) (fun p e s m below meth c ls hsz C hP hl => ?_)
  subst hsz
  exact kX1_countMissing_6 C σ ls _ _ hl hP va_S.rf hf
set_option maxRecDepth 100000 in
set_option maxHeartbeats 4000000 in
theorem kX0_clear (C : s_X p s m meth c args cX0_clear none 1 RX0 G cy sa ad 27) (σ : Sg) (ls : Array Slot) (H : Heap) (locs : List Loc) (hl : lv_has ls 1 [(0, .ref (ad 8))]) (hP : va_P G vwCl ((s_WC cy ad) σ) H) (hS : va_S (s_A ad 27 s.heap.size) s.heap H locs) (hf : fX0_clear σ = some σe) : W p l e ({ frames := 0, cells := 0, slots := 0, locals := 0 } : Room) s m args below meth c H locs 0 0 (MQ below (s_Qv (s_WC cy ad) G (s_A ad 27 s.heap.size) σe) args s 0 0 (s_A ad 27 s.heap.size)) (F0 m 0 ls []) := by
  obtain ⟨hx, hb, hr, hml, hown, hts, hlk, hK, hE, hI⟩ := id C
  have hD : ∀ σ : Sg, va_D (s_A ad 27 s.heap.size) ((s_WC cy ad) σ) := fun σ => s_D (s_WC_ad cy ad σ) hI (fun k hk => Or.inl ⟨k, hk, rfl⟩)
  unfold fX0_clear at hf
  refine lv_aload_n hx hb dX0_clear_0 rfl (lv_at hl 0 rfl) ?_
  refine lv_iconst (v := 0) hx hb dX0_clear_1 (by decide) ?_
  refine va_put (D := G) (ci := 0) (v := .int (0 : Int32)) (ty := .int) (C := RX0) (T := TX0) (N := 3) hx hb hts inkX0 tyX0 tyX0_ok nmX0 hown hK hP (hD _) hS 8 rfl rfl 2 (by decide) (hts _ kw_206) (fun _ h9 => h9) rfl (by decide +kernel) rfl rfl (Nat.le_of_ble_eq_true rfl) dX0_clear_2 (fun H locs hP _ hS => ?_)
  obtain ⟨σ1, eσ1⟩ : ∃ z : Sg, z = (s_up σ 8 2 (0 : Int32)) := ⟨_, rfl⟩
  replace hf := s_lt_at eσ1 hf
  replace hP : va_P G vwCl ((s_WC cy ad) σ1) H := by rw [eσ1]; exact hP
  have he2 := Option.some.inj hf
  exact W.vret hx hb hr (fun t ht hW => ⟨⟨(), rfl, trivial, s_fin (Wd := (s_WC cy ad)) ht he2 hP⟩, hS.F ht⟩) hS.2.2 dX0_clear_5 hlk
theorem kcX0_clear {l : Launch} {G : va_G} {cy : Nat → ClassId} {sa : Nat × Nat} {ad : Nat → Nat}  {sz : Nat} (hI : s_inj ad 27) (σ : Sg) {σe : Sg} (hf : fX0_clear σ = some σe) : Met l yX0_clear (kW yX0_clear cX0_clear 1 none) ({ frames := 0, cells := 0, slots := 0, locals := 0 } : Room) (s_P (s_WC cy ad) G cy sa ad 27 [.ref (ad 8)] sz σ) (s_Qv (s_WC cy ad) G (s_A ad 27 sz) σe) 0 0 (s_A ad 27 sz) := by
  refine s_met (own := RX0) (by decide) rfl hI (Nat.le_of_ble_eq_true rfl) (fun p e s m below meth c ls hsz C hP hl => ?_)
  subst hsz
  exact kX0_clear C σ ls _ _ hl hP va_S.rf hf
set_option maxRecDepth 100000 in
set_option maxHeartbeats 4000000 in
theorem kX1_has_6_b16 (C : s_X p s m meth c args cX1_has (some .boolean) 2 RX1 G cy sa ad 27) (σ : Sg) (ls : Array Slot) (H : Heap) (locs : List Loc) (hl : lv_has ls 2 []) (hP : va_P G vwCl ((s_WC cy ad) σ) H) (hS : va_S (s_A ad 27 s.heap.size) s.heap H locs) (hf : fX1_has_6_b16 σ = some (re, σe)) : W p l e ({ frames := 0, cells := 0, slots := 0, locals := 0 } : Room) s m args below meth c H locs 0 0 (MQ below (s_Qi (s_WC cy ad) G (s_A ad 27 s.heap.size) re σe) args s 0 0 (s_A ad 27 s.heap.size)) (F0 m 16 ls []) := by
  obtain ⟨hx, hb, hr, hml, hown, hts, hlk, hK, hE, hI⟩ := id C
  have hD : ∀ σ : Sg, va_D (s_A ad 27 s.heap.size) ((s_WC cy ad) σ) := fun σ => s_D (s_WC_ad cy ad σ) hI (fun k hk => Or.inl ⟨k, hk, rfl⟩)
  unfold fX1_has_6_b16 at hf
  refine lv_iconst (v := 0) hx hb dX1_has_16 (by decide) ?_
  obtain ⟨he1, he2⟩ := s_ret hf
  exact W.zret hx hb hr rfl (fun t ht hW => ⟨⟨_, (), rfl, he1, s_fin (Wd := (s_WC cy ad)) ht he2 hP⟩, hS.F ht⟩) hS.2.2 dX1_has_17 hlk
set_option maxRecDepth 100000 in
set_option maxHeartbeats 4000000 in
theorem kX1_has_6 (C : s_X p s m meth c args cX1_has (some .boolean) 2 RX1 G cy sa ad 27) (σ : Sg) (x1 : Int32) (ls : Array Slot) (H : Heap) (locs : List Loc) (hl : lv_has ls 2 [(0, .ref (ad 6)), (1, .int x1)]) (hP : va_P G vwCl ((s_WC cy ad) σ) H) (hS : va_S (s_A ad 27 s.heap.size) s.heap H locs) (hf : fX1_has_6 σ x1 = some (re, σe)) : W p l e ({ frames := 0, cells := 0, slots := 0, locals := 0 } : Room) s m args below meth c H locs 0 0 (MQ below (s_Qi (s_WC cy ad) G (s_A ad 27 s.heap.size) re σe) args s 0 0 (s_A ad 27 s.heap.size)) (F0 m 0 ls []) := by
  obtain ⟨hx, hb, hr, hml, hown, hts, hlk, hK, hE, hI⟩ := id C
  have hD : ∀ σ : Sg, va_D (s_A ad 27 s.heap.size) ((s_WC cy ad) σ) := fun σ => s_D (s_WC_ad cy ad σ) hI (fun k hk => Or.inl ⟨k, hk, rfl⟩)
  unfold fX1_has_6 at hf
  refine lv_iload_n hx hb dX1_has_0 rfl (lv_at hl 1 rfl) ?_
  refine lv_if_lt (tgt := 16) hx hb dX1_has_1 (by decide) (fun c1 => ?_) (fun c1 => ?_)
  · rw [if_pos c1] at hf
    exact kX1_has_6_b16 C σ _ _ _ (lv_sub hl [] rfl) hP hS hf
  · rw [if_neg c1] at hf
    refine lv_iload_n hx hb dX1_has_4 rfl (lv_at hl 1 rfl) ?_
    refine lv_aload_n hx hb dX1_has_5 rfl (lv_at hl 0 rfl) ?_
    refine va_get (D := G) (ci := 1) (v := .int (σ 6 1)) (C := RX1) (T := TX1) (N := 8) hx hb hts inkX1 hown hK hP 6 rfl rfl 1 (by decide) (hts _ kw_112) (fun _ h9 => h9) rfl dX1_has_6 ?_
    refine lv_icmp_ge (tgt := 16) hx hb dX1_has_9 (by decide) (fun c2 => ?_) (fun c2 => ?_)
    · rw [if_pos c2] at hf
      exact kX1_has_6_b16 C σ _ _ _ (lv_sub hl [] rfl) hP hS hf
    · rw [if_neg c2] at hf
      refine lv_iconst (v := 1) hx hb dX1_has_12 (by decide) ?_
      refine lv_goto (tgt := 17) hx hb dX1_has_13 (by decide) ?_
      obtain ⟨he1, he2⟩ := s_ret hf
      exact W.zret hx hb hr rfl (fun t ht hW => ⟨⟨_, (), rfl, he1, s_fin (Wd := (s_WC cy ad)) ht he2 hP⟩, hS.F ht⟩) hS.2.2 dX1_has_17 hlk
theorem kcX1_has_6 {l : Launch} {G : va_G} {cy : Nat → ClassId} {sa : Nat × Nat} {ad : Nat → Nat}  {sz : Nat} (hI : s_inj ad 27) (σ : Sg) (x1 : Int32) {re : Int32} {σe : Sg} (hf : fX1_has_6 σ x1 = some (re, σe)) : Met l yX1_has (kW yX1_has cX1_has 2 (some .boolean)) ({ frames := 0, cells := 0, slots := 0, locals := 0 } : Room) (s_P (s_WC cy ad) G cy sa ad 27 [.ref (ad 6), .int x1] sz σ) (s_Qi (s_WC cy ad) G (s_A ad 27 sz) re σe) 0 0 (s_A ad 27 sz) := by
  refine s_met (own := RX1) (by decide) rfl hI (Nat.le_of_ble_eq_true rfl) (fun p e s m below meth c ls hsz C hP hl => ?_)
  subst hsz
  exact kX1_has_6 C σ x1 ls _ _ hl hP va_S.rf hf
set_option maxRecDepth 100000 in
set_option maxHeartbeats 4000000 in
theorem kX1_valueAt_6 (C : s_X p s m meth c args cX1_valueAt (some .int) 2 RX1 G cy sa ad 27) (σ : Sg) (x1 : Int32) (ls : Array Slot) (H : Heap) (locs : List Loc) (hl : lv_has ls 2 [(0, .ref (ad 6)), (1, .int x1)]) (hP : va_P G vwCl ((s_WC cy ad) σ) H) (hS : va_S (s_A ad 27 s.heap.size) s.heap H locs) (hf : fX1_valueAt_6 σ x1 = some (re, σe)) : W p l e ({ frames := 1, cells := 0, slots := 0, locals := 21 } : Room) s m args below meth c H locs 0 0 (MQ below (s_Qi (s_WC cy ad) G (s_A ad 27 s.heap.size) re σe) args s 0 0 (s_A ad 27 s.heap.size)) (F0 m 0 ls []) := by
  obtain ⟨hx, hb, hr, hml, hown, hts, hlk, hK, hE, hI⟩ := id C
  have hD : ∀ σ : Sg, va_D (s_A ad 27 s.heap.size) ((s_WC cy ad) σ) := fun σ => s_D (s_WC_ad cy ad σ) hI (fun k hk => Or.inl ⟨k, hk, rfl⟩)
  unfold fX1_valueAt_6 at hf
  refine lv_aload_n hx hb dX1_valueAt_0 rfl (lv_at hl 0 rfl) ?_
  refine lv_iload_n hx hb dX1_valueAt_1 rfl (lv_at hl 1 rfl) ?_
  replace hf := s_bi_some hf
  obtain ⟨r3, σ1, hz2, hf⟩ := hf
  refine s_calli (nn := 1) C (kcX1_has_6 (l := l) (G := G) (cy := cy) (sa := sa) hI (sz := H.size) σ x1 hz2) gk_X1_46 rfl rfl (by decide +kernel) ⟨Nat.le_of_ble_eq_true rfl, Nat.le_of_ble_eq_true rfl⟩ hP hS (q0 := 6) (ci := 1) rfl rfl rfl (As := [.int x1]) (rest := []) rfl rfl hl.1 (Nat.le_of_ble_eq_true rfl) dX1_valueAt_2 (fun H locs hP hS => ?_)
  refine lv_if_eq (tgt := 17) hx hb dX1_valueAt_5 (by decide) (fun c4 => ?_) (fun c4 => ?_)
  · rw [if_pos c4] at hf
    refine lv_ldc (v := 100000000) hx hb hown (hts _ kw_455) dX1_valueAt_17 ?_
    obtain ⟨he1, he2⟩ := s_ret hf
    exact W.iret hx hb hr (fun t ht hW => ⟨⟨_, (), rfl, he1, s_fin (Wd := (s_WC cy ad)) ht he2 hP⟩, hS.F ht⟩) hS.2.2 dX1_valueAt_19 hlk
  · rw [if_neg c4] at hf
    refine lv_aload_n hx hb dX1_valueAt_8 rfl (lv_at hl 0 rfl) ?_
    refine va_get (D := G) (ci := 1) (v := .ref (ad 7)) (C := RX1) (T := TX1) (N := 8) hx hb hts inkX1 hown hK hP 6 rfl rfl 0 (by decide) (hts _ kw_111) (fun _ h9 => h9) rfl dX1_valueAt_9 ?_
    refine lv_iload_n hx hb dX1_valueAt_12 rfl (lv_at hl 1 rfl) ?_
    replace hf := s_gd_some hf
    obtain ⟨g5, hf⟩ := hf
    refine va_iald hx hb hK hP 7 1 rfl rfl (s_in_of g5) dX1_valueAt_13 ?_
    refine lv_goto (tgt := 19) hx hb dX1_valueAt_14 (by decide) ?_
    obtain ⟨he1, he2⟩ := s_ret hf
    exact W.iret hx hb hr (fun t ht hW => ⟨⟨_, (), rfl, he1, s_fin (Wd := (s_WC cy ad)) ht he2 hP⟩, hS.F ht⟩) hS.2.2 dX1_valueAt_19 hlk
theorem kcX1_valueAt_6 {l : Launch} {G : va_G} {cy : Nat → ClassId} {sa : Nat × Nat} {ad : Nat → Nat}  {sz : Nat} (hI : s_inj ad 27) (σ : Sg) (x1 : Int32) {re : Int32} {σe : Sg} (hf : fX1_valueAt_6 σ x1 = some (re, σe)) : Met l yX1_valueAt (kW yX1_valueAt cX1_valueAt 2 (some .int)) ({ frames := 1, cells := 0, slots := 0, locals := 21 } : Room) (s_P (s_WC cy ad) G cy sa ad 27 [.ref (ad 6), .int x1] sz σ) (s_Qi (s_WC cy ad) G (s_A ad 27 sz) re σe) 0 0 (s_A ad 27 sz) := by
  refine s_met (own := RX1) (by decide) rfl hI (Nat.le_of_ble_eq_true rfl) (fun p e s m below meth c ls hsz C hP hl => ?_)
  subst hsz
  exact kX1_valueAt_6 C σ x1 ls _ _ hl hP va_S.rf hf
set_option maxRecDepth 100000 in
set_option maxHeartbeats 4000000 in
theorem kX0_countLess_b26 (C : s_X p s m meth c args cX0_countLess (some .int) 3 RX0 G cy sa ad 27) (σ : Sg) (x2 : Int32) (ls : Array Slot) (H : Heap) (locs : List Loc) (hl : lv_has ls 3 [(2, .int x2)]) (hP : va_P G vwCl ((s_WC cy ad) σ) H) (hS : va_S (s_A ad 27 s.heap.size) s.heap H locs) (hf : fX0_countLess_b26 σ x2 = some (re, σe)) : W p l e ({ frames := 0, cells := 0, slots := 0, locals := 0 } : Room) s m args below meth c H locs 0 0 (MQ below (s_Qi (s_WC cy ad) G (s_A ad 27 s.heap.size) re σe) args s 0 0 (s_A ad 27 s.heap.size)) (F0 m 26 ls []) := by
  obtain ⟨hx, hb, hr, hml, hown, hts, hlk, hK, hE, hI⟩ := id C
  have hD : ∀ σ : Sg, va_D (s_A ad 27 s.heap.size) ((s_WC cy ad) σ) := fun σ => s_D (s_WC_ad cy ad σ) hI (fun k hk => Or.inl ⟨k, hk, rfl⟩)
  unfold fX0_countLess_b26 at hf
  refine lv_iload_n hx hb dX0_countLess_26 rfl (lv_at hl 0 rfl) ?_
  obtain ⟨he1, he2⟩ := s_ret hf
  exact W.iret hx hb hr (fun t ht hW => ⟨⟨_, (), rfl, he1, s_fin (Wd := (s_WC cy ad)) ht he2 hP⟩, hS.F ht⟩) hS.2.2 dX0_countLess_27 hlk
set_option maxRecDepth 100000 in
set_option maxHeartbeats 4000000 in
theorem kX0_countLess_b2 (C : s_X p s m meth c args cX0_countLess (some .int) 3 RX0 G cy sa ad 27) (k2 : Sg → Int32 → Int32 → Option (Int32 × Sg)) (hk2 : ∀ (σ : Sg) (x1 : Int32) (x2 : Int32) (ls : Array Slot) (H : Heap) (locs : List Loc), lv_has ls 3 [(0, .ref (ad 8)), (1, .int x1), (2, .int x2)] → va_P G vwCl ((s_WC cy ad) σ) H → va_S (s_A ad 27 s.heap.size) s.heap H locs → k2 σ x1 x2 = some (re, σe) → W p l e ({ frames := 0, cells := 0, slots := 0, locals := 0 } : Room) s m args below meth c H locs 0 0 (MQ below (s_Qi (s_WC cy ad) G (s_A ad 27 s.heap.size) re σe) args s 0 0 (s_A ad 27 s.heap.size)) (F0 m 2 ls [])) (σ : Sg) (x1 : Int32) (x2 : Int32) (ls : Array Slot) (H : Heap) (locs : List Loc) (hl : lv_has ls 3 [(0, .ref (ad 8)), (1, .int x1), (2, .int x2)]) (hP : va_P G vwCl ((s_WC cy ad) σ) H) (hS : va_S (s_A ad 27 s.heap.size) s.heap H locs) (hf : fX0_countLess_b2 k2 σ x1 x2 = some (re, σe)) : W p l e ({ frames := 0, cells := 0, slots := 0, locals := 0 } : Room) s m args below meth c H locs 0 0 (MQ below (s_Qi (s_WC cy ad) G (s_A ad 27 s.heap.size) re σe) args s 0 0 (s_A ad 27 s.heap.size)) (F0 m 2 ls []) := by
  obtain ⟨hx, hb, hr, hml, hown, hts, hlk, hK, hE, hI⟩ := id C
  have hD : ∀ σ : Sg, va_D (s_A ad 27 s.heap.size) ((s_WC cy ad) σ) := fun σ => s_D (s_WC_ad cy ad σ) hI (fun k hk => Or.inl ⟨k, hk, rfl⟩)
  unfold fX0_countLess_b2 at hf
  refine lv_iload_n hx hb dX0_countLess_2 rfl (lv_at hl 2 rfl) ?_
  refine lv_aload_n hx hb dX0_countLess_3 rfl (lv_at hl 0 rfl) ?_
  refine va_get (D := G) (ci := 0) (v := .int (σ 8 2)) (C := RX0) (T := TX0) (N := 3) hx hb hts inkX0 hown hK hP 8 rfl rfl 2 (by decide) (hts _ kw_206) (fun _ h9 => h9) rfl dX0_countLess_4 ?_
  refine lv_icmp_ge (tgt := 26) hx hb dX0_countLess_7 (by decide) (fun c1 => ?_) (fun c1 => ?_)
  · rw [if_pos c1] at hf
    exact kX0_countLess_b26 C σ x2 _ _ _ (lv_sub hl [2] rfl) hP hS hf
  · rw [if_neg c1] at hf
    refine lv_aload_n hx hb dX0_countLess_10 rfl (lv_at hl 0 rfl) ?_
    refine va_get (D := G) (ci := 0) (v := .ref (ad 9)) (C := RX0) (T := TX0) (N := 3) hx hb hts inkX0 hown hK hP 8 rfl rfl 1 (by decide) (hts _ kw_205) (fun _ h9 => h9) rfl dX0_countLess_11 ?_
    refine lv_iload_n hx hb dX0_countLess_14 rfl (lv_at hl 2 rfl) ?_
    replace hf := s_gd_some hf
    obtain ⟨g2, hf⟩ := hf
    refine va_iald hx hb hK hP 9 1 rfl rfl (s_in_of g2) dX0_countLess_15 ?_
    refine lv_iload_n hx hb dX0_countLess_16 rfl (lv_at hl 1 rfl) ?_
    refine lv_icmp_ge (tgt := 26) hx hb dX0_countLess_17 (by decide) (fun c3 => ?_) (fun c3 => ?_)
    · rw [if_pos c3] at hf
      exact kX0_countLess_b26 C σ x2 _ _ _ (lv_sub hl [2] rfl) hP hS hf
    · rw [if_neg c3] at hf
      obtain ⟨t4, et4⟩ : ∃ z : Int32, z = (x2 + 1) := ⟨_, rfl⟩
      replace hf := s_lt_at et4 hf
      refine lv_iinc (v := t4) (lv' := [(2, .int t4), (0, .ref (ad 8)), (1, .int x1)]) hx hb dX0_countLess_20 hl (k := 2) rfl (by rw [et4]; rfl) (by decide) rfl (fun ls hl => ?_)
      refine lv_goto (tgt := 2) hx hb dX0_countLess_23 (by decide) ?_
      exact hk2 σ x1 t4 _ _ _ (lv_sub hl [1, 2, 0] rfl) hP hS hf
set_option maxRecDepth 100000 in
set_option maxHeartbeats 4000000 in
theorem kX0_countLess_b2_L (C : s_X p s m meth c args cX0_countLess (some .int) 3 RX0 G cy sa ad 27) : ∀ (n : Nat), ∀ (σ : Sg) (x1 : Int32) (x2 : Int32) (ls : Array Slot) (H : Heap) (locs : List Loc), lv_has ls 3 [(0, .ref (ad 8)), (1, .int x1), (2, .int x2)] → va_P G vwCl ((s_WC cy ad) σ) H → va_S (s_A ad 27 s.heap.size) s.heap H locs → fX0_countLess_b2_L n σ x1 x2 = some (re, σe) → W p l e ({ frames := 0, cells := 0, slots := 0, locals := 0 } : Room) s m args below meth c H locs 0 0 (MQ below (s_Qi (s_WC cy ad) G (s_A ad 27 s.heap.size) re σe) args s 0 0 (s_A ad 27 s.heap.size)) (F0 m 2 ls []) := by
  intro n
  induction n with
  | zero => intro σ x1 x2 ls H locs hl hP hS hf; exact absurd (show (none : Option (Int32 × Sg)) = some (re, σe) from hf) (by intro h; cases h)
  | succ n ih => intro σ x1 x2 ls H locs hl hP hS hf; exact kX0_countLess_b2 C (fX0_countLess_b2_L n) ih σ x1 x2 ls H locs hl hP hS hf
set_option maxRecDepth 100000 in
set_option maxHeartbeats 4000000 in
theorem kX0_countLess (C : s_X p s m meth c args cX0_countLess (some .int) 3 RX0 G cy sa ad 27) (σ : Sg) (x1 : Int32) (ls : Array Slot) (H : Heap) (locs : List Loc) (hl : lv_has ls 3 [(0, .ref (ad 8)), (1, .int x1)]) (hP : va_P G vwCl ((s_WC cy ad) σ) H) (hS : va_S (s_A ad 27 s.heap.size) s.heap H locs) (hf : fX0_countLess σ x1 = some (re, σe)) : W p l e ({ frames := 0, cells := 0, slots := 0, locals := 0 } : Room) s m args below meth c H locs 0 0 (MQ below (s_Qi (s_WC cy ad) G (s_A ad 27 s.heap.size) re σe) args s 0 0 (s_A ad 27 s.heap.size)) (F0 m 0 ls []) := by
  obtain ⟨hx, hb, hr, hml, hown, hts, hlk, hK, hE, hI⟩ := id C
  have hD : ∀ σ : Sg, va_D (s_A ad 27 s.heap.size) ((s_WC cy ad) σ) := fun σ => s_D (s_WC_ad cy ad σ) hI (fun k hk => Or.inl ⟨k, hk, rfl⟩)
  unfold fX0_countLess at hf
  refine lv_iconst (v := 0) hx hb dX0_countLess_0 (by decide) ?_
  refine lv_istore_n (lv' := [(2, .int (0 : Int32)), (0, .ref (ad 8)), (1, .int x1)]) hx hb dX0_countLess_1 rfl hl (by decide) rfl (fun ls hl => ?_)
  exact kX0_countLess_b2_L C s_fu σ x1 (0 : Int32) _ _ _ (lv_sub hl [1, 2, 0] rfl) hP hS hf
theorem kcX0_countLess {l : Launch} {G : va_G} {cy : Nat → ClassId} {sa : Nat × Nat} {ad : Nat → Nat}  {sz : Nat} (hI : s_inj ad 27) (σ : Sg) (x1 : Int32) {re : Int32} {σe : Sg} (hf : fX0_countLess σ x1 = some (re, σe)) : Met l yX0_countLess (kW yX0_countLess cX0_countLess 3 (some .int)) ({ frames := 0, cells := 0, slots := 0, locals := 0 } : Room) (s_P (s_WC cy ad) G cy sa ad 27 [.ref (ad 8), .int x1] sz σ) (s_Qi (s_WC cy ad) G (s_A ad 27 sz) re σe) 0 0 (s_A ad 27 sz) := by
  refine s_met (own := RX0) (by decide) rfl hI (Nat.le_of_ble_eq_true rfl) (fun p e s m below meth c ls hsz C hP hl => ?_)
  subst hsz
  exact kX0_countLess C σ x1 ls _ _ hl hP va_S.rf hf
set_option maxRecDepth 100000 in
set_option maxHeartbeats 4000000 in
theorem kX0_takeOut_b35 (C : s_X p s m meth c args cX0_takeOut none 3 RX0 G cy sa ad 27) (k35 : Sg → Int32 → Option Sg) (hk35 : ∀ (σ : Sg) (x2 : Int32) (ls : Array Slot) (H : Heap) (locs : List Loc), lv_has ls 3 [(0, .ref (ad 8)), (2, .int x2)] → va_P G vwCl ((s_WC cy ad) σ) H → va_S (s_A ad 27 s.heap.size) s.heap H locs → k35 σ x2 = some σe → W p l e ({ frames := 1, cells := 0, slots := 0, locals := 22 } : Room) s m args below meth c H locs 0 0 (MQ below (s_Qv (s_WC cy ad) G (s_A ad 27 s.heap.size) σe) args s 0 0 (s_A ad 27 s.heap.size)) (F0 m 35 ls [])) (σ : Sg) (x2 : Int32) (ls : Array Slot) (H : Heap) (locs : List Loc) (hl : lv_has ls 3 [(0, .ref (ad 8)), (2, .int x2)]) (hP : va_P G vwCl ((s_WC cy ad) σ) H) (hS : va_S (s_A ad 27 s.heap.size) s.heap H locs) (hf : fX0_takeOut_b35 k35 σ x2 = some σe) : W p l e ({ frames := 1, cells := 0, slots := 0, locals := 22 } : Room) s m args below meth c H locs 0 0 (MQ below (s_Qv (s_WC cy ad) G (s_A ad 27 s.heap.size) σe) args s 0 0 (s_A ad 27 s.heap.size)) (F0 m 35 ls []) := by
  obtain ⟨hx, hb, hr, hml, hown, hts, hlk, hK, hE, hI⟩ := id C
  have hD : ∀ σ : Sg, va_D (s_A ad 27 s.heap.size) ((s_WC cy ad) σ) := fun σ => s_D (s_WC_ad cy ad σ) hI (fun k hk => Or.inl ⟨k, hk, rfl⟩)
  unfold fX0_takeOut_b35 at hf
  refine lv_iload_n hx hb dX0_takeOut_35 rfl (lv_at hl 1 rfl) ?_
  refine lv_aload_n hx hb dX0_takeOut_36 rfl (lv_at hl 0 rfl) ?_
  refine va_get (D := G) (ci := 0) (v := .int (σ 8 2)) (C := RX0) (T := TX0) (N := 3) hx hb hts inkX0 hown hK hP 8 rfl rfl 2 (by decide) (hts _ kw_206) (fun _ h9 => h9) rfl dX0_takeOut_37 ?_
  refine lv_icmp_ge (tgt := 63) hx hb dX0_takeOut_40 (by decide) (fun c1 => ?_) (fun c1 => ?_)
  · rw [if_pos c1] at hf
    have he2 := Option.some.inj hf
    exact W.vret hx hb hr (fun t ht hW => ⟨⟨(), rfl, trivial, s_fin (Wd := (s_WC cy ad)) ht he2 hP⟩, hS.F ht⟩) hS.2.2 dX0_takeOut_63 hlk
  · rw [if_neg c1] at hf
    refine lv_aload_n hx hb dX0_takeOut_43 rfl (lv_at hl 0 rfl) ?_
    refine va_get (D := G) (ci := 0) (v := .ref (ad 9)) (C := RX0) (T := TX0) (N := 3) hx hb hts inkX0 hown hK hP 8 rfl rfl 1 (by decide) (hts _ kw_205) (fun _ h9 => h9) rfl dX0_takeOut_44 ?_
    refine lv_iload_n hx hb dX0_takeOut_47 rfl (lv_at hl 1 rfl) ?_
    refine lv_aload_n hx hb dX0_takeOut_48 rfl (lv_at hl 0 rfl) ?_
    refine va_get (D := G) (ci := 0) (v := .ref (ad 9)) (C := RX0) (T := TX0) (N := 3) hx hb hts inkX0 hown hK hP 8 rfl rfl 1 (by decide) (hts _ kw_205) (fun _ h9 => h9) rfl dX0_takeOut_49 ?_
    refine lv_iload_n hx hb dX0_takeOut_52 rfl (lv_at hl 1 rfl) ?_
    refine lv_iconst (v := 1) hx hb dX0_takeOut_53 (by decide) ?_
    refine lv_iadd hx hb dX0_takeOut_54 ?_
    replace hf := s_gd_some hf
    obtain ⟨g2, hf⟩ := hf
    refine va_iald hx hb hK hP 9 1 rfl rfl (s_in_of g2) dX0_takeOut_55 ?_
    replace hf := s_gd_some hf
    obtain ⟨g3, hf⟩ := hf
    refine va_iast hx hb hK hP (hD _) hS 9 1 rfl rfl (s_in_of g3) dX0_takeOut_56 (fun H locs hP _ hS => ?_)
    obtain ⟨σ4, eσ4⟩ : ∃ z : Sg, z = (s_up σ 9 (Int32.toNatClampNeg x2) (σ 9 (Int32.toNatClampNeg (x2 + (1 : Int32))))) := ⟨_, rfl⟩
    replace hf := s_lt_at eσ4 hf
    replace hP : va_P G vwCl ((s_WC cy ad) σ4) H := by rw [eσ4]; exact hP
    obtain ⟨t5, et5⟩ : ∃ z : Int32, z = (x2 + 1) := ⟨_, rfl⟩
    replace hf := s_lt_at et5 hf
    refine lv_iinc (v := t5) (lv' := [(2, .int t5), (0, .ref (ad 8))]) hx hb dX0_takeOut_57 hl (k := 1) rfl (by rw [et5]; rfl) (by decide) rfl (fun ls hl => ?_)
    refine lv_goto (tgt := 35) hx hb dX0_takeOut_60 (by decide) ?_
    exact hk35 σ4 t5 _ _ _ (lv_sub hl [1, 0] rfl) hP hS hf
set_option maxRecDepth 100000 in
set_option maxHeartbeats 4000000 in
theorem kX0_takeOut_b35_L (C : s_X p s m meth c args cX0_takeOut none 3 RX0 G cy sa ad 27) : ∀ (n : Nat), ∀ (σ : Sg) (x2 : Int32) (ls : Array Slot) (H : Heap) (locs : List Loc), lv_has ls 3 [(0, .ref (ad 8)), (2, .int x2)] → va_P G vwCl ((s_WC cy ad) σ) H → va_S (s_A ad 27 s.heap.size) s.heap H locs → fX0_takeOut_b35_L n σ x2 = some σe → W p l e ({ frames := 1, cells := 0, slots := 0, locals := 22 } : Room) s m args below meth c H locs 0 0 (MQ below (s_Qv (s_WC cy ad) G (s_A ad 27 s.heap.size) σe) args s 0 0 (s_A ad 27 s.heap.size)) (F0 m 35 ls []) := by
  intro n
  induction n with
  | zero => intro σ x2 ls H locs hl hP hS hf; exact absurd (show (none : Option Sg) = some σe from hf) (by intro h; cases h)
  | succ n ih => intro σ x2 ls H locs hl hP hS hf; exact kX0_takeOut_b35 C (fX0_takeOut_b35_L n) ih σ x2 ls H locs hl hP hS hf
set_option maxRecDepth 100000 in
set_option maxHeartbeats 4000000 in
theorem kX0_takeOut (C : s_X p s m meth c args cX0_takeOut none 3 RX0 G cy sa ad 27) (σ : Sg) (x1 : Int32) (ls : Array Slot) (H : Heap) (locs : List Loc) (hl : lv_has ls 3 [(0, .ref (ad 8)), (1, .int x1)]) (hP : va_P G vwCl ((s_WC cy ad) σ) H) (hS : va_S (s_A ad 27 s.heap.size) s.heap H locs) (hf : fX0_takeOut σ x1 = some σe) : W p l e ({ frames := 1, cells := 0, slots := 0, locals := 22 } : Room) s m args below meth c H locs 0 0 (MQ below (s_Qv (s_WC cy ad) G (s_A ad 27 s.heap.size) σe) args s 0 0 (s_A ad 27 s.heap.size)) (F0 m 0 ls []) := by
  obtain ⟨hx, hb, hr, hml, hown, hts, hlk, hK, hE, hI⟩ := id C
  have hD : ∀ σ : Sg, va_D (s_A ad 27 s.heap.size) ((s_WC cy ad) σ) := fun σ => s_D (s_WC_ad cy ad σ) hI (fun k hk => Or.inl ⟨k, hk, rfl⟩)
  unfold fX0_takeOut at hf
  refine lv_aload_n hx hb dX0_takeOut_0 rfl (lv_at hl 0 rfl) ?_
  refine lv_iload_n hx hb dX0_takeOut_1 rfl (lv_at hl 1 rfl) ?_
  replace hf := s_bi_some hf
  obtain ⟨r3, σ1, hz2, hf⟩ := hf
  refine s_calli (nn := 1) C (kcX0_countLess (l := l) (G := G) (cy := cy) (sa := sa) hI (sz := H.size) σ x1 hz2) gk_X0_49 rfl rfl (by decide +kernel) ⟨Nat.le_of_ble_eq_true rfl, Nat.le_of_ble_eq_true rfl⟩ hP hS (q0 := 8) (ci := 0) rfl rfl rfl (As := [.int x1]) (rest := []) rfl rfl hl.1 (Nat.le_of_ble_eq_true rfl) dX0_takeOut_2 (fun H locs hP hS => ?_)
  refine lv_istore_n (lv' := [(2, .int r3), (0, .ref (ad 8)), (1, .int x1)]) hx hb dX0_takeOut_5 rfl hl (by decide) rfl (fun ls hl => ?_)
  refine lv_iload_n hx hb dX0_takeOut_6 rfl (lv_at hl 0 rfl) ?_
  refine lv_aload_n hx hb dX0_takeOut_7 rfl (lv_at hl 1 rfl) ?_
  refine va_get (D := G) (ci := 0) (v := .int (σ1 8 2)) (C := RX0) (T := TX0) (N := 3) hx hb hts inkX0 hown hK hP 8 rfl rfl 2 (by decide) (hts _ kw_206) (fun _ h9 => h9) rfl dX0_takeOut_8 ?_
  refine lv_icmp_ge (tgt := 24) hx hb dX0_takeOut_11 (by decide) (fun c4 => ?_) (fun c4 => ?_)
  · rw [if_pos c4] at hf
    have he2 := Option.some.inj hf
    exact W.vret hx hb hr (fun t ht hW => ⟨⟨(), rfl, trivial, s_fin (Wd := (s_WC cy ad)) ht he2 hP⟩, hS.F ht⟩) hS.2.2 dX0_takeOut_24 hlk
  · rw [if_neg c4] at hf
    refine lv_aload_n hx hb dX0_takeOut_14 rfl (lv_at hl 1 rfl) ?_
    refine va_get (D := G) (ci := 0) (v := .ref (ad 9)) (C := RX0) (T := TX0) (N := 3) hx hb hts inkX0 hown hK hP 8 rfl rfl 1 (by decide) (hts _ kw_205) (fun _ h9 => h9) rfl dX0_takeOut_15 ?_
    refine lv_iload_n hx hb dX0_takeOut_18 rfl (lv_at hl 0 rfl) ?_
    replace hf := s_gd_some hf
    obtain ⟨g5, hf⟩ := hf
    refine va_iald hx hb hK hP 9 1 rfl rfl (s_in_of g5) dX0_takeOut_19 ?_
    refine lv_iload_n hx hb dX0_takeOut_20 rfl (lv_at hl 2 rfl) ?_
    refine lv_icmp_eq (tgt := 25) hx hb dX0_takeOut_21 (by decide) (fun c6 => ?_) (fun c6 => ?_)
    · rw [if_pos c6] at hf
      refine lv_aload_n hx hb dX0_takeOut_25 rfl (lv_at hl 1 rfl) ?_
      refine lv_dup hx hb dX0_takeOut_26 rfl ?_
      refine va_get (D := G) (ci := 0) (v := .int (σ1 8 2)) (C := RX0) (T := TX0) (N := 3) hx hb hts inkX0 hown hK hP 8 rfl rfl 2 (by decide) (hts _ kw_206) (fun _ h9 => h9) rfl dX0_takeOut_27 ?_
      refine lv_iconst (v := 1) hx hb dX0_takeOut_30 (by decide) ?_
      refine lv_isub hx hb dX0_takeOut_31 ?_
      refine va_put (D := G) (ci := 0) (v := .int ((σ1 8 2) - (1 : Int32))) (ty := .int) (C := RX0) (T := TX0) (N := 3) hx hb hts inkX0 tyX0 tyX0_ok nmX0 hown hK hP (hD _) hS 8 rfl rfl 2 (by decide) (hts _ kw_206) (fun _ h9 => h9) rfl (by decide +kernel) rfl rfl (Nat.le_of_ble_eq_true rfl) dX0_takeOut_32 (fun H locs hP _ hS => ?_)
      obtain ⟨σ7, eσ7⟩ : ∃ z : Sg, z = (s_up σ1 8 2 ((σ1 8 2) - (1 : Int32))) := ⟨_, rfl⟩
      replace hf := s_lt_at eσ7 hf
      replace hP : va_P G vwCl ((s_WC cy ad) σ7) H := by rw [eσ7]; exact hP
      exact kX0_takeOut_b35_L C s_fu σ7 r3 _ _ _ (lv_sub hl [1, 0] rfl) hP hS hf
    · rw [if_neg c6] at hf
      have he2 := Option.some.inj hf
      exact W.vret hx hb hr (fun t ht hW => ⟨⟨(), rfl, trivial, s_fin (Wd := (s_WC cy ad)) ht he2 hP⟩, hS.F ht⟩) hS.2.2 dX0_takeOut_24 hlk
theorem kcX0_takeOut {l : Launch} {G : va_G} {cy : Nat → ClassId} {sa : Nat × Nat} {ad : Nat → Nat}  {sz : Nat} (hI : s_inj ad 27) (σ : Sg) (x1 : Int32) {σe : Sg} (hf : fX0_takeOut σ x1 = some σe) : Met l yX0_takeOut (kW yX0_takeOut cX0_takeOut 3 none) ({ frames := 1, cells := 0, slots := 0, locals := 22 } : Room) (s_P (s_WC cy ad) G cy sa ad 27 [.ref (ad 8), .int x1] sz σ) (s_Qv (s_WC cy ad) G (s_A ad 27 sz) σe) 0 0 (s_A ad 27 sz) := by
  refine s_met (own := RX0) (by decide) rfl hI (Nat.le_of_ble_eq_true rfl) (fun p e s m below meth c ls hsz C hP hl => ?_)
  subst hsz
  exact kX0_takeOut C σ x1 ls _ _ hl hP va_S.rf hf
set_option maxRecDepth 100000 in
set_option maxHeartbeats 4000000 in
theorem kX0_putIn_b60 (C : s_X p s m meth c args cX0_putIn none 3 RX0 G cy sa ad 27) (σ : Sg) (x1 : Int32) (x2 : Int32) (ls : Array Slot) (H : Heap) (locs : List Loc) (hl : lv_has ls 3 [(0, .ref (ad 8)), (1, .int x1), (2, .int x2)]) (hP : va_P G vwCl ((s_WC cy ad) σ) H) (hS : va_S (s_A ad 27 s.heap.size) s.heap H locs) (hf : fX0_putIn_b60 σ x1 x2 = some σe) : W p l e ({ frames := 0, cells := 0, slots := 0, locals := 0 } : Room) s m args below meth c H locs 0 0 (MQ below (s_Qv (s_WC cy ad) G (s_A ad 27 s.heap.size) σe) args s 0 0 (s_A ad 27 s.heap.size)) (F0 m 60 ls []) := by
  obtain ⟨hx, hb, hr, hml, hown, hts, hlk, hK, hE, hI⟩ := id C
  have hD : ∀ σ : Sg, va_D (s_A ad 27 s.heap.size) ((s_WC cy ad) σ) := fun σ => s_D (s_WC_ad cy ad σ) hI (fun k hk => Or.inl ⟨k, hk, rfl⟩)
  unfold fX0_putIn_b60 at hf
  refine lv_aload_n hx hb dX0_putIn_60 rfl (lv_at hl 0 rfl) ?_
  refine va_get (D := G) (ci := 0) (v := .ref (ad 9)) (C := RX0) (T := TX0) (N := 3) hx hb hts inkX0 hown hK hP 8 rfl rfl 1 (by decide) (hts _ kw_205) (fun _ h9 => h9) rfl dX0_putIn_61 ?_
  refine lv_iload_n hx hb dX0_putIn_64 rfl (lv_at hl 2 rfl) ?_
  refine lv_iload_n hx hb dX0_putIn_65 rfl (lv_at hl 1 rfl) ?_
  replace hf := s_gd_some hf
  obtain ⟨g1, hf⟩ := hf
  refine va_iast hx hb hK hP (hD _) hS 9 1 rfl rfl (s_in_of g1) dX0_putIn_66 (fun H locs hP _ hS => ?_)
  obtain ⟨σ2, eσ2⟩ : ∃ z : Sg, z = (s_up σ 9 (Int32.toNatClampNeg x2) x1) := ⟨_, rfl⟩
  replace hf := s_lt_at eσ2 hf
  replace hP : va_P G vwCl ((s_WC cy ad) σ2) H := by rw [eσ2]; exact hP
  refine lv_aload_n hx hb dX0_putIn_67 rfl (lv_at hl 0 rfl) ?_
  refine lv_dup hx hb dX0_putIn_68 rfl ?_
  refine va_get (D := G) (ci := 0) (v := .int (σ2 8 2)) (C := RX0) (T := TX0) (N := 3) hx hb hts inkX0 hown hK hP 8 rfl rfl 2 (by decide) (hts _ kw_206) (fun _ h9 => h9) rfl dX0_putIn_69 ?_
  refine lv_iconst (v := 1) hx hb dX0_putIn_72 (by decide) ?_
  refine lv_iadd hx hb dX0_putIn_73 ?_
  refine va_put (D := G) (ci := 0) (v := .int ((σ2 8 2) + (1 : Int32))) (ty := .int) (C := RX0) (T := TX0) (N := 3) hx hb hts inkX0 tyX0 tyX0_ok nmX0 hown hK hP (hD _) hS 8 rfl rfl 2 (by decide) (hts _ kw_206) (fun _ h9 => h9) rfl (by decide +kernel) rfl rfl (Nat.le_of_ble_eq_true rfl) dX0_putIn_74 (fun H locs hP _ hS => ?_)
  obtain ⟨σ3, eσ3⟩ : ∃ z : Sg, z = (s_up σ2 8 2 ((σ2 8 2) + (1 : Int32))) := ⟨_, rfl⟩
  replace hf := s_lt_at eσ3 hf
  replace hP : va_P G vwCl ((s_WC cy ad) σ3) H := by rw [eσ3]; exact hP
  have he2 := Option.some.inj hf
  exact W.vret hx hb hr (fun t ht hW => ⟨⟨(), rfl, trivial, s_fin (Wd := (s_WC cy ad)) ht he2 hP⟩, hS.F ht⟩) hS.2.2 dX0_putIn_77 hlk
set_option maxRecDepth 100000 in
set_option maxHeartbeats 4000000 in
theorem kX0_putIn_b24 (C : s_X p s m meth c args cX0_putIn none 3 RX0 G cy sa ad 27) (k24 : Sg → Int32 → Int32 → Option Sg) (hk24 : ∀ (σ : Sg) (x1 : Int32) (x2 : Int32) (ls : Array Slot) (H : Heap) (locs : List Loc), lv_has ls 3 [(0, .ref (ad 8)), (1, .int x1), (2, .int x2)] → va_P G vwCl ((s_WC cy ad) σ) H → va_S (s_A ad 27 s.heap.size) s.heap H locs → k24 σ x1 x2 = some σe → W p l e ({ frames := 0, cells := 0, slots := 0, locals := 0 } : Room) s m args below meth c H locs 0 0 (MQ below (s_Qv (s_WC cy ad) G (s_A ad 27 s.heap.size) σe) args s 0 0 (s_A ad 27 s.heap.size)) (F0 m 24 ls [])) (σ : Sg) (x1 : Int32) (x2 : Int32) (ls : Array Slot) (H : Heap) (locs : List Loc) (hl : lv_has ls 3 [(0, .ref (ad 8)), (1, .int x1), (2, .int x2)]) (hP : va_P G vwCl ((s_WC cy ad) σ) H) (hS : va_S (s_A ad 27 s.heap.size) s.heap H locs) (hf : fX0_putIn_b24 k24 σ x1 x2 = some σe) : W p l e ({ frames := 0, cells := 0, slots := 0, locals := 0 } : Room) s m args below meth c H locs 0 0 (MQ below (s_Qv (s_WC cy ad) G (s_A ad 27 s.heap.size) σe) args s 0 0 (s_A ad 27 s.heap.size)) (F0 m 24 ls []) := by
  obtain ⟨hx, hb, hr, hml, hown, hts, hlk, hK, hE, hI⟩ := id C
  have hD : ∀ σ : Sg, va_D (s_A ad 27 s.heap.size) ((s_WC cy ad) σ) := fun σ => s_D (s_WC_ad cy ad σ) hI (fun k hk => Or.inl ⟨k, hk, rfl⟩)
  unfold fX0_putIn_b24 at hf
  refine lv_iload_n hx hb dX0_putIn_24 rfl (lv_at hl 2 rfl) ?_
  refine lv_if_le (tgt := 60) hx hb dX0_putIn_25 (by decide) (fun c1 => ?_) (fun c1 => ?_)
  · rw [if_pos c1] at hf
    exact kX0_putIn_b60 C σ x1 x2 _ _ _ (lv_sub hl [0, 1, 2] rfl) hP hS hf
  · rw [if_neg c1] at hf
    refine lv_aload_n hx hb dX0_putIn_28 rfl (lv_at hl 0 rfl) ?_
    refine va_get (D := G) (ci := 0) (v := .ref (ad 9)) (C := RX0) (T := TX0) (N := 3) hx hb hts inkX0 hown hK hP 8 rfl rfl 1 (by decide) (hts _ kw_205) (fun _ h9 => h9) rfl dX0_putIn_29 ?_
    refine lv_iload_n hx hb dX0_putIn_32 rfl (lv_at hl 2 rfl) ?_
    refine lv_iconst (v := 1) hx hb dX0_putIn_33 (by decide) ?_
    refine lv_isub hx hb dX0_putIn_34 ?_
    replace hf := s_gd_some hf
    obtain ⟨g2, hf⟩ := hf
    refine va_iald hx hb hK hP 9 1 rfl rfl (s_in_of g2) dX0_putIn_35 ?_
    refine lv_iload_n hx hb dX0_putIn_36 rfl (lv_at hl 1 rfl) ?_
    refine lv_icmp_le (tgt := 60) hx hb dX0_putIn_37 (by decide) (fun c3 => ?_) (fun c3 => ?_)
    · rw [if_pos c3] at hf
      exact kX0_putIn_b60 C σ x1 x2 _ _ _ (lv_sub hl [0, 1, 2] rfl) hP hS hf
    · rw [if_neg c3] at hf
      refine lv_aload_n hx hb dX0_putIn_40 rfl (lv_at hl 0 rfl) ?_
      refine va_get (D := G) (ci := 0) (v := .ref (ad 9)) (C := RX0) (T := TX0) (N := 3) hx hb hts inkX0 hown hK hP 8 rfl rfl 1 (by decide) (hts _ kw_205) (fun _ h9 => h9) rfl dX0_putIn_41 ?_
      refine lv_iload_n hx hb dX0_putIn_44 rfl (lv_at hl 2 rfl) ?_
      refine lv_aload_n hx hb dX0_putIn_45 rfl (lv_at hl 0 rfl) ?_
      refine va_get (D := G) (ci := 0) (v := .ref (ad 9)) (C := RX0) (T := TX0) (N := 3) hx hb hts inkX0 hown hK hP 8 rfl rfl 1 (by decide) (hts _ kw_205) (fun _ h9 => h9) rfl dX0_putIn_46 ?_
      refine lv_iload_n hx hb dX0_putIn_49 rfl (lv_at hl 2 rfl) ?_
      refine lv_iconst (v := 1) hx hb dX0_putIn_50 (by decide) ?_
      refine lv_isub hx hb dX0_putIn_51 ?_
      replace hf := s_gd_some hf
      obtain ⟨g4, hf⟩ := hf
      refine va_iald hx hb hK hP 9 1 rfl rfl (s_in_of g4) dX0_putIn_52 ?_
      replace hf := s_gd_some hf
      obtain ⟨g5, hf⟩ := hf
      refine va_iast hx hb hK hP (hD _) hS 9 1 rfl rfl (s_in_of g5) dX0_putIn_53 (fun H locs hP _ hS => ?_)
      obtain ⟨σ6, eσ6⟩ : ∃ z : Sg, z = (s_up σ 9 (Int32.toNatClampNeg x2) (σ 9 (Int32.toNatClampNeg (x2 - (1 : Int32))))) := ⟨_, rfl⟩
      replace hf := s_lt_at eσ6 hf
      replace hP : va_P G vwCl ((s_WC cy ad) σ6) H := by rw [eσ6]; exact hP
      obtain ⟨t7, et7⟩ : ∃ z : Int32, z = (x2 + (-1)) := ⟨_, rfl⟩
      replace hf := s_lt_at et7 hf
      refine lv_iinc (v := t7) (lv' := [(2, .int t7), (0, .ref (ad 8)), (1, .int x1)]) hx hb dX0_putIn_54 hl (k := 2) rfl (by rw [et7]; rfl) (by decide) rfl (fun ls hl => ?_)
      refine lv_goto (tgt := 24) hx hb dX0_putIn_57 (by decide) ?_
      exact hk24 σ6 x1 t7 _ _ _ (lv_sub hl [1, 2, 0] rfl) hP hS hf
set_option maxRecDepth 100000 in
set_option maxHeartbeats 4000000 in
theorem kX0_putIn_b24_L (C : s_X p s m meth c args cX0_putIn none 3 RX0 G cy sa ad 27) : ∀ (n : Nat), ∀ (σ : Sg) (x1 : Int32) (x2 : Int32) (ls : Array Slot) (H : Heap) (locs : List Loc), lv_has ls 3 [(0, .ref (ad 8)), (1, .int x1), (2, .int x2)] → va_P G vwCl ((s_WC cy ad) σ) H → va_S (s_A ad 27 s.heap.size) s.heap H locs → fX0_putIn_b24_L n σ x1 x2 = some σe → W p l e ({ frames := 0, cells := 0, slots := 0, locals := 0 } : Room) s m args below meth c H locs 0 0 (MQ below (s_Qv (s_WC cy ad) G (s_A ad 27 s.heap.size) σe) args s 0 0 (s_A ad 27 s.heap.size)) (F0 m 24 ls []) := by
  intro n
  induction n with
  | zero => intro σ x1 x2 ls H locs hl hP hS hf; exact absurd (show (none : Option Sg) = some σe from hf) (by intro h; cases h)
  | succ n ih => intro σ x1 x2 ls H locs hl hP hS hf; exact kX0_putIn_b24 C (fX0_putIn_b24_L n) ih σ x1 x2 ls H locs hl hP hS hf
set_option maxRecDepth 100000 in
set_option maxHeartbeats 4000000 in
theorem kX0_putIn (C : s_X p s m meth c args cX0_putIn none 3 RX0 G cy sa ad 27) (σ : Sg) (x1 : Int32) (ls : Array Slot) (H : Heap) (locs : List Loc) (hl : lv_has ls 3 [(0, .ref (ad 8)), (1, .int x1)]) (hP : va_P G vwCl ((s_WC cy ad) σ) H) (hS : va_S (s_A ad 27 s.heap.size) s.heap H locs) (hf : fX0_putIn σ x1 = some σe) : W p l e ({ frames := 0, cells := 0, slots := 0, locals := 0 } : Room) s m args below meth c H locs 0 0 (MQ below (s_Qv (s_WC cy ad) G (s_A ad 27 s.heap.size) σe) args s 0 0 (s_A ad 27 s.heap.size)) (F0 m 0 ls []) := by
  obtain ⟨hx, hb, hr, hml, hown, hts, hlk, hK, hE, hI⟩ := id C
  have hD : ∀ σ : Sg, va_D (s_A ad 27 s.heap.size) ((s_WC cy ad) σ) := fun σ => s_D (s_WC_ad cy ad σ) hI (fun k hk => Or.inl ⟨k, hk, rfl⟩)
  unfold fX0_putIn at hf
  refine lv_iload_n hx hb dX0_putIn_0 rfl (lv_at hl 1 rfl) ?_
  refine lv_ldc (v := 100000000) hx hb hown (hts _ kw_484) dX0_putIn_1 ?_
  refine lv_icmp_eq (tgt := 18) hx hb dX0_putIn_3 (by decide) (fun c1 => ?_) (fun c1 => ?_)
  · rw [if_pos c1] at hf
    have he2 := Option.some.inj hf
    exact W.vret hx hb hr (fun t ht hW => ⟨⟨(), rfl, trivial, s_fin (Wd := (s_WC cy ad)) ht he2 hP⟩, hS.F ht⟩) hS.2.2 dX0_putIn_18 hlk
  · rw [if_neg c1] at hf
    refine lv_aload_n hx hb dX0_putIn_6 rfl (lv_at hl 0 rfl) ?_
    refine va_get (D := G) (ci := 0) (v := .int (σ 8 2)) (C := RX0) (T := TX0) (N := 3) hx hb hts inkX0 hown hK hP 8 rfl rfl 2 (by decide) (hts _ kw_206) (fun _ h9 => h9) rfl dX0_putIn_7 ?_
    refine lv_aload_n hx hb dX0_putIn_10 rfl (lv_at hl 0 rfl) ?_
    refine va_get (D := G) (ci := 0) (v := .ref (ad 9)) (C := RX0) (T := TX0) (N := 3) hx hb hts inkX0 hown hK hP 8 rfl rfl 1 (by decide) (hts _ kw_205) (fun _ h9 => h9) rfl dX0_putIn_11 ?_
    refine va_alen (v := (24 : Int32)) hx hb hK hP 9 1 rfl rfl (by show Int32.ofNat 24 = 24; decide) dX0_putIn_14 ?_
    refine lv_icmp_lt (tgt := 19) hx hb dX0_putIn_15 (by decide) (fun c2 => ?_) (fun c2 => ?_)
    · rw [if_pos c2] at hf
      refine lv_aload_n hx hb dX0_putIn_19 rfl (lv_at hl 0 rfl) ?_
      refine va_get (D := G) (ci := 0) (v := .int (σ 8 2)) (C := RX0) (T := TX0) (N := 3) hx hb hts inkX0 hown hK hP 8 rfl rfl 2 (by decide) (hts _ kw_206) (fun _ h9 => h9) rfl dX0_putIn_20 ?_
      refine lv_topi (fun t3 et3 => ?_)
      replace hf := s_lt_at et3 hf
      refine lv_istore_n (lv' := [(2, .int t3), (0, .ref (ad 8)), (1, .int x1)]) hx hb dX0_putIn_23 rfl hl (by decide) rfl (fun ls hl => ?_)
      exact kX0_putIn_b24_L C s_fu σ x1 t3 _ _ _ (lv_sub hl [1, 2, 0] rfl) hP hS hf
    · rw [if_neg c2] at hf
      have he2 := Option.some.inj hf
      exact W.vret hx hb hr (fun t ht hW => ⟨⟨(), rfl, trivial, s_fin (Wd := (s_WC cy ad)) ht he2 hP⟩, hS.F ht⟩) hS.2.2 dX0_putIn_18 hlk
theorem kcX0_putIn {l : Launch} {G : va_G} {cy : Nat → ClassId} {sa : Nat × Nat} {ad : Nat → Nat}  {sz : Nat} (hI : s_inj ad 27) (σ : Sg) (x1 : Int32) {σe : Sg} (hf : fX0_putIn σ x1 = some σe) : Met l yX0_putIn (kW yX0_putIn cX0_putIn 3 none) ({ frames := 0, cells := 0, slots := 0, locals := 0 } : Room) (s_P (s_WC cy ad) G cy sa ad 27 [.ref (ad 8), .int x1] sz σ) (s_Qv (s_WC cy ad) G (s_A ad 27 sz) σe) 0 0 (s_A ad 27 sz) := by
  refine s_met (own := RX0) (by decide) rfl hI (Nat.le_of_ble_eq_true rfl) (fun p e s m below meth c ls hsz C hP hl => ?_)
  subst hsz
  exact kX0_putIn C σ x1 ls _ _ hl hP va_S.rf hf
set_option maxRecDepth 100000 in
set_option maxHeartbeats 4000000 in
theorem kX0_slideTo (C : s_X p s m meth c args cX0_slideTo none 2 RX0 G cy sa ad 27) (σ : Sg) (x1 : Int32) (ls : Array Slot) (H : Heap) (locs : List Loc) (hl : lv_has ls 2 [(0, .ref (ad 8)), (1, .int x1)]) (hP : va_P G vwCl ((s_WC cy ad) σ) H) (hS : va_S (s_A ad 27 s.heap.size) s.heap H locs) (hf : fX0_slideTo σ x1 = some σe) : W p l e ({ frames := 2, cells := 0, slots := 0, locals := 44 } : Room) s m args below meth c H locs 0 0 (MQ below (s_Qv (s_WC cy ad) G (s_A ad 27 s.heap.size) σe) args s 0 0 (s_A ad 27 s.heap.size)) (F0 m 0 ls []) := by
  obtain ⟨hx, hb, hr, hml, hown, hts, hlk, hK, hE, hI⟩ := id C
  have hD : ∀ σ : Sg, va_D (s_A ad 27 s.heap.size) ((s_WC cy ad) σ) := fun σ => s_D (s_WC_ad cy ad σ) hI (fun k hk => Or.inl ⟨k, hk, rfl⟩)
  unfold fX0_slideTo at hf
  refine lv_aload_n hx hb dX0_slideTo_0 rfl (lv_at hl 0 rfl) ?_
  refine lv_aload_n hx hb dX0_slideTo_1 rfl (lv_at hl 0 rfl) ?_
  refine va_get (D := G) (ci := 0) (v := .ref (ad 6)) (C := RX0) (T := TX0) (N := 3) hx hb hts inkX0 hown hK hP 8 rfl rfl 0 (by decide) (hts _ kw_204) (fun _ h9 => h9) rfl dX0_slideTo_2 ?_
  refine lv_iload_n hx hb dX0_slideTo_5 rfl (lv_at hl 1 rfl) ?_
  refine lv_aload_n hx hb dX0_slideTo_6 rfl (lv_at hl 0 rfl) ?_
  refine va_get (D := G) (ci := 0) (v := .ref (ad 6)) (C := RX0) (T := TX0) (N := 3) hx hb hts inkX0 hown hK hP 8 rfl rfl 0 (by decide) (hts _ kw_204) (fun _ h9 => h9) rfl dX0_slideTo_7 ?_
  refine va_getN (D := G) (ci := 1) (v := .int (σ 6 2)) (C := RX1) (T := TX1) (N := 8) hx hb hts inkX1 hown hK hP 6 rfl rfl 2 (by decide) (kn_X0_26 hE) (fun _ h9 => h9) rfl dX0_slideTo_10 ?_
  refine lv_isub hx hb dX0_slideTo_13 ?_
  replace hf := s_bi_some hf
  obtain ⟨r3, σ1, hz2, hf⟩ := hf
  refine s_calli (nn := 1) C (kcX1_valueAt_6 (l := l) (G := G) (cy := cy) (sa := sa) hI (sz := H.size) σ (x1 - (σ 6 2)) hz2) gk_X0_37 rfl rfl (by decide +kernel) ⟨Nat.le_of_ble_eq_true rfl, Nat.le_of_ble_eq_true rfl⟩ hP hS (q0 := 6) (ci := 1) rfl rfl rfl (As := [.int (x1 - (σ 6 2))]) (rest := [.ref (ad 8)]) rfl rfl hl.1 (Nat.le_of_ble_eq_true rfl) dX0_slideTo_14 (fun H locs hP hS => ?_)
  replace hf := s_bv_some hf
  obtain ⟨σ4, hz5, hf⟩ := hf
  refine s_callv (nn := 1) C (kcX0_takeOut (l := l) (G := G) (cy := cy) (sa := sa) hI (sz := H.size) σ1 r3 hz5) gk_X0_45 rfl rfl (by decide +kernel) ⟨Nat.le_of_ble_eq_true rfl, Nat.le_of_ble_eq_true rfl⟩ hP hS (q0 := 8) (ci := 0) rfl rfl rfl (As := [.int r3]) (rest := []) rfl rfl hl.1 (Nat.le_of_ble_eq_true rfl) dX0_slideTo_17 (fun H locs hP hS => ?_)
  refine lv_aload_n hx hb dX0_slideTo_20 rfl (lv_at hl 0 rfl) ?_
  refine lv_aload_n hx hb dX0_slideTo_21 rfl (lv_at hl 0 rfl) ?_
  refine va_get (D := G) (ci := 0) (v := .ref (ad 6)) (C := RX0) (T := TX0) (N := 3) hx hb hts inkX0 hown hK hP 8 rfl rfl 0 (by decide) (hts _ kw_204) (fun _ h9 => h9) rfl dX0_slideTo_22 ?_
  refine lv_iload_n hx hb dX0_slideTo_25 rfl (lv_at hl 1 rfl) ?_
  replace hf := s_bi_some hf
  obtain ⟨r8, σ6, hz7, hf⟩ := hf
  refine s_calli (nn := 1) C (kcX1_valueAt_6 (l := l) (G := G) (cy := cy) (sa := sa) hI (sz := H.size) σ4 x1 hz7) gk_X0_37 rfl rfl (by decide +kernel) ⟨Nat.le_of_ble_eq_true rfl, Nat.le_of_ble_eq_true rfl⟩ hP hS (q0 := 6) (ci := 1) rfl rfl rfl (As := [.int x1]) (rest := [.ref (ad 8)]) rfl rfl hl.1 (Nat.le_of_ble_eq_true rfl) dX0_slideTo_26 (fun H locs hP hS => ?_)
  replace hf := s_bv_some hf
  obtain ⟨σ9, hz10, hf⟩ := hf
  refine s_callv (nn := 1) C (kcX0_putIn (l := l) (G := G) (cy := cy) (sa := sa) hI (sz := H.size) σ6 r8 hz10) gk_X0_41 rfl rfl (by decide +kernel) ⟨Nat.le_of_ble_eq_true rfl, Nat.le_of_ble_eq_true rfl⟩ hP hS (q0 := 8) (ci := 0) rfl rfl rfl (As := [.int r8]) (rest := []) rfl rfl hl.1 (Nat.le_of_ble_eq_true rfl) dX0_slideTo_29 (fun H locs hP hS => ?_)
  have he2 := Option.some.inj hf
  exact W.vret hx hb hr (fun t ht hW => ⟨⟨(), rfl, trivial, s_fin (Wd := (s_WC cy ad)) ht he2 hP⟩, hS.F ht⟩) hS.2.2 dX0_slideTo_32 hlk
theorem kcX0_slideTo {l : Launch} {G : va_G} {cy : Nat → ClassId} {sa : Nat × Nat} {ad : Nat → Nat}  {sz : Nat} (hI : s_inj ad 27) (σ : Sg) (x1 : Int32) {σe : Sg} (hf : fX0_slideTo σ x1 = some σe) : Met l yX0_slideTo (kW yX0_slideTo cX0_slideTo 2 none) ({ frames := 2, cells := 0, slots := 0, locals := 44 } : Room) (s_P (s_WC cy ad) G cy sa ad 27 [.ref (ad 8), .int x1] sz σ) (s_Qv (s_WC cy ad) G (s_A ad 27 sz) σe) 0 0 (s_A ad 27 sz) := by
  refine s_met (own := RX0) (by decide) rfl hI (Nat.le_of_ble_eq_true rfl) (fun p e s m below meth c ls hsz C hP hl => ?_)
  subst hsz
  exact kX0_slideTo C σ x1 ls _ _ hl hP va_S.rf hf
set_option maxRecDepth 100000 in
set_option maxHeartbeats 4000000 in
theorem kX0_hasResult_b25 (C : s_X p s m meth c args cX0_hasResult (some .boolean) 1 RX0 G cy sa ad 27) (σ : Sg) (ls : Array Slot) (H : Heap) (locs : List Loc) (hl : lv_has ls 1 []) (hP : va_P G vwCl ((s_WC cy ad) σ) H) (hS : va_S (s_A ad 27 s.heap.size) s.heap H locs) (hf : fX0_hasResult_b25 σ = some (re, σe)) : W p l e ({ frames := 0, cells := 0, slots := 0, locals := 0 } : Room) s m args below meth c H locs 0 0 (MQ below (s_Qi (s_WC cy ad) G (s_A ad 27 s.heap.size) re σe) args s 0 0 (s_A ad 27 s.heap.size)) (F0 m 25 ls []) := by
  obtain ⟨hx, hb, hr, hml, hown, hts, hlk, hK, hE, hI⟩ := id C
  have hD : ∀ σ : Sg, va_D (s_A ad 27 s.heap.size) ((s_WC cy ad) σ) := fun σ => s_D (s_WC_ad cy ad σ) hI (fun k hk => Or.inl ⟨k, hk, rfl⟩)
  unfold fX0_hasResult_b25 at hf
  refine lv_iconst (v := 0) hx hb dX0_hasResult_25 (by decide) ?_
  obtain ⟨he1, he2⟩ := s_ret hf
  exact W.zret hx hb hr rfl (fun t ht hW => ⟨⟨_, (), rfl, he1, s_fin (Wd := (s_WC cy ad)) ht he2 hP⟩, hS.F ht⟩) hS.2.2 dX0_hasResult_26 hlk
set_option maxRecDepth 100000 in
set_option maxHeartbeats 4000000 in
theorem kX0_hasResult (C : s_X p s m meth c args cX0_hasResult (some .boolean) 1 RX0 G cy sa ad 27) (σ : Sg) (ls : Array Slot) (H : Heap) (locs : List Loc) (hl : lv_has ls 1 [(0, .ref (ad 8))]) (hP : va_P G vwCl ((s_WC cy ad) σ) H) (hS : va_S (s_A ad 27 s.heap.size) s.heap H locs) (hf : fX0_hasResult σ = some (re, σe)) : W p l e ({ frames := 0, cells := 0, slots := 0, locals := 0 } : Room) s m args below meth c H locs 0 0 (MQ below (s_Qi (s_WC cy ad) G (s_A ad 27 s.heap.size) re σe) args s 0 0 (s_A ad 27 s.heap.size)) (F0 m 0 ls []) := by
  obtain ⟨hx, hb, hr, hml, hown, hts, hlk, hK, hE, hI⟩ := id C
  have hD : ∀ σ : Sg, va_D (s_A ad 27 s.heap.size) ((s_WC cy ad) σ) := fun σ => s_D (s_WC_ad cy ad σ) hI (fun k hk => Or.inl ⟨k, hk, rfl⟩)
  unfold fX0_hasResult at hf
  refine lv_aload_n hx hb dX0_hasResult_0 rfl (lv_at hl 0 rfl) ?_
  refine va_get (D := G) (ci := 0) (v := .int (σ 8 2)) (C := RX0) (T := TX0) (N := 3) hx hb hts inkX0 hown hK hP 8 rfl rfl 2 (by decide) (hts _ kw_206) (fun _ h9 => h9) rfl dX0_hasResult_1 ?_
  refine lv_if_le (tgt := 25) hx hb dX0_hasResult_4 (by decide) (fun c1 => ?_) (fun c1 => ?_)
  · rw [if_pos c1] at hf
    exact kX0_hasResult_b25 C σ _ _ _ (lv_sub hl [] rfl) hP hS hf
  · rw [if_neg c1] at hf
    refine lv_aload_n hx hb dX0_hasResult_7 rfl (lv_at hl 0 rfl) ?_
    refine va_get (D := G) (ci := 0) (v := .int (σ 8 2)) (C := RX0) (T := TX0) (N := 3) hx hb hts inkX0 hown hK hP 8 rfl rfl 2 (by decide) (hts _ kw_206) (fun _ h9 => h9) rfl dX0_hasResult_8 ?_
    refine lv_aload_n hx hb dX0_hasResult_11 rfl (lv_at hl 0 rfl) ?_
    refine va_get (D := G) (ci := 0) (v := .ref (ad 6)) (C := RX0) (T := TX0) (N := 3) hx hb hts inkX0 hown hK hP 8 rfl rfl 0 (by decide) (hts _ kw_204) (fun _ h9 => h9) rfl dX0_hasResult_12 ?_
    refine va_getN (D := G) (ci := 1) (v := .int (σ 6 3)) (C := RX1) (T := TX1) (N := 8) hx hb hts inkX1 hown hK hP 6 rfl rfl 3 (by decide) (kn_X0_52 hE) (fun _ h9 => h9) rfl dX0_hasResult_15 ?_
    refine lv_icmp_lt (tgt := 25) hx hb dX0_hasResult_18 (by decide) (fun c2 => ?_) (fun c2 => ?_)
    · rw [if_pos c2] at hf
      exact kX0_hasResult_b25 C σ _ _ _ (lv_sub hl [] rfl) hP hS hf
    · rw [if_neg c2] at hf
      refine lv_iconst (v := 1) hx hb dX0_hasResult_21 (by decide) ?_
      refine lv_goto (tgt := 26) hx hb dX0_hasResult_22 (by decide) ?_
      obtain ⟨he1, he2⟩ := s_ret hf
      exact W.zret hx hb hr rfl (fun t ht hW => ⟨⟨_, (), rfl, he1, s_fin (Wd := (s_WC cy ad)) ht he2 hP⟩, hS.F ht⟩) hS.2.2 dX0_hasResult_26 hlk
theorem kcX0_hasResult {l : Launch} {G : va_G} {cy : Nat → ClassId} {sa : Nat × Nat} {ad : Nat → Nat}  {sz : Nat} (hI : s_inj ad 27) (σ : Sg) {re : Int32} {σe : Sg} (hf : fX0_hasResult σ = some (re, σe)) : Met l yX0_hasResult (kW yX0_hasResult cX0_hasResult 1 (some .boolean)) ({ frames := 0, cells := 0, slots := 0, locals := 0 } : Room) (s_P (s_WC cy ad) G cy sa ad 27 [.ref (ad 8)] sz σ) (s_Qi (s_WC cy ad) G (s_A ad 27 sz) re σe) 0 0 (s_A ad 27 sz) := by
  refine s_met (own := RX0) (by decide) rfl hI (Nat.le_of_ble_eq_true rfl) (fun p e s m below meth c ls hsz C hP hl => ?_)
  subst hsz
  exact kX0_hasResult C σ ls _ _ hl hP va_S.rf hf
set_option maxRecDepth 100000 in
set_option maxHeartbeats 4000000 in
theorem kX6_countResults_b43 (C : s_X p s m meth c args cX6_countResults (some .int) 3 RX6 G cy sa ad 27) (k11 : Sg → Int32 → Int32 → Option (Int32 × Sg)) (hk11 : ∀ (σ : Sg) (x1 : Int32) (x2 : Int32) (ls : Array Slot) (H : Heap) (locs : List Loc), lv_has ls 3 [(0, .ref (ad 0)), (1, .int x1), (2, .int x2)] → va_P G vwCl ((s_WC cy ad) σ) H → va_S (s_A ad 27 s.heap.size) s.heap H locs → k11 σ x1 x2 = some (re, σe) → W p l e ({ frames := 3, cells := 0, slots := 0, locals := 65 } : Room) s m args below meth c H locs 0 0 (MQ below (s_Qi (s_WC cy ad) G (s_A ad 27 s.heap.size) re σe) args s 0 0 (s_A ad 27 s.heap.size)) (F0 m 11 ls [])) (σ : Sg) (x1 : Int32) (x2 : Int32) (ls : Array Slot) (H : Heap) (locs : List Loc) (hl : lv_has ls 3 [(0, .ref (ad 0)), (1, .int x1), (2, .int x2)]) (hP : va_P G vwCl ((s_WC cy ad) σ) H) (hS : va_S (s_A ad 27 s.heap.size) s.heap H locs) (hf : fX6_countResults_b43 k11 σ x1 x2 = some (re, σe)) : W p l e ({ frames := 3, cells := 0, slots := 0, locals := 65 } : Room) s m args below meth c H locs 0 0 (MQ below (s_Qi (s_WC cy ad) G (s_A ad 27 s.heap.size) re σe) args s 0 0 (s_A ad 27 s.heap.size)) (F0 m 43 ls []) := by
  obtain ⟨hx, hb, hr, hml, hown, hts, hlk, hK, hE, hI⟩ := id C
  have hD : ∀ σ : Sg, va_D (s_A ad 27 s.heap.size) ((s_WC cy ad) σ) := fun σ => s_D (s_WC_ad cy ad σ) hI (fun k hk => Or.inl ⟨k, hk, rfl⟩)
  unfold fX6_countResults_b43 at hf
  obtain ⟨t1, et1⟩ : ∃ z : Int32, z = (x2 + 1) := ⟨_, rfl⟩
  replace hf := s_lt_at et1 hf
  refine lv_iinc (v := t1) (lv' := [(2, .int t1), (0, .ref (ad 0)), (1, .int x1)]) hx hb dX6_countResults_43 hl (k := 2) rfl (by rw [et1]; rfl) (by decide) rfl (fun ls hl => ?_)
  refine lv_goto (tgt := 11) hx hb dX6_countResults_46 (by decide) ?_
  exact hk11 σ x1 t1 _ _ _ (lv_sub hl [1, 2, 0] rfl) hP hS hf
set_option maxRecDepth 100000 in
set_option maxHeartbeats 4000000 in
theorem kX6_countResults_b11 (C : s_X p s m meth c args cX6_countResults (some .int) 3 RX6 G cy sa ad 27) (k11 : Sg → Int32 → Int32 → Option (Int32 × Sg)) (hk11 : ∀ (σ : Sg) (x1 : Int32) (x2 : Int32) (ls : Array Slot) (H : Heap) (locs : List Loc), lv_has ls 3 [(0, .ref (ad 0)), (1, .int x1), (2, .int x2)] → va_P G vwCl ((s_WC cy ad) σ) H → va_S (s_A ad 27 s.heap.size) s.heap H locs → k11 σ x1 x2 = some (re, σe) → W p l e ({ frames := 3, cells := 0, slots := 0, locals := 65 } : Room) s m args below meth c H locs 0 0 (MQ below (s_Qi (s_WC cy ad) G (s_A ad 27 s.heap.size) re σe) args s 0 0 (s_A ad 27 s.heap.size)) (F0 m 11 ls [])) (σ : Sg) (x1 : Int32) (x2 : Int32) (ls : Array Slot) (H : Heap) (locs : List Loc) (hl : lv_has ls 3 [(0, .ref (ad 0)), (1, .int x1), (2, .int x2)]) (hP : va_P G vwCl ((s_WC cy ad) σ) H) (hS : va_S (s_A ad 27 s.heap.size) s.heap H locs) (hf : fX6_countResults_b11 k11 σ x1 x2 = some (re, σe)) : W p l e ({ frames := 3, cells := 0, slots := 0, locals := 65 } : Room) s m args below meth c H locs 0 0 (MQ below (s_Qi (s_WC cy ad) G (s_A ad 27 s.heap.size) re σe) args s 0 0 (s_A ad 27 s.heap.size)) (F0 m 11 ls []) := by
  obtain ⟨hx, hb, hr, hml, hown, hts, hlk, hK, hE, hI⟩ := id C
  have hD : ∀ σ : Sg, va_D (s_A ad 27 s.heap.size) ((s_WC cy ad) σ) := fun σ => s_D (s_WC_ad cy ad σ) hI (fun k hk => Or.inl ⟨k, hk, rfl⟩)
  unfold fX6_countResults_b11 at hf
  refine lv_iload_n hx hb dX6_countResults_11 rfl (lv_at hl 2 rfl) ?_
  refine lv_aload_n hx hb dX6_countResults_12 rfl (lv_at hl 0 rfl) ?_
  refine va_get (D := G) (ci := 6) (v := .ref (ad 6)) (C := RX6) (T := TX6) (N := 9) hx hb hts inkX6 hown hK hP 0 rfl rfl 2 (by decide) (hts _ kw_252) (fun _ h9 => h9) rfl dX6_countResults_13 ?_
  refine va_getN (D := G) (ci := 1) (v := .int (σ 6 1)) (C := RX1) (T := TX1) (N := 8) hx hb hts inkX1 hown hK hP 6 rfl rfl 1 (by decide) (kn_X6_89 hE) (fun _ h9 => h9) rfl dX6_countResults_16 ?_
  refine lv_icmp_ge (tgt := 49) hx hb dX6_countResults_19 (by decide) (fun c1 => ?_) (fun c1 => ?_)
  · rw [if_pos c1] at hf
    refine lv_iload_n hx hb dX6_countResults_49 rfl (lv_at hl 1 rfl) ?_
    obtain ⟨he1, he2⟩ := s_ret hf
    exact W.iret hx hb hr (fun t ht hW => ⟨⟨_, (), rfl, he1, s_fin (Wd := (s_WC cy ad)) ht he2 hP⟩, hS.F ht⟩) hS.2.2 dX6_countResults_50 hlk
  · rw [if_neg c1] at hf
    refine lv_aload_n hx hb dX6_countResults_22 rfl (lv_at hl 0 rfl) ?_
    refine va_get (D := G) (ci := 6) (v := .ref (ad 8)) (C := RX6) (T := TX6) (N := 9) hx hb hts inkX6 hown hK hP 0 rfl rfl 3 (by decide) (hts _ kw_253) (fun _ h9 => h9) rfl dX6_countResults_23 ?_
    refine lv_iload_n hx hb dX6_countResults_26 rfl (lv_at hl 2 rfl) ?_
    replace hf := s_bv_some hf
    obtain ⟨σ2, hz3, hf⟩ := hf
    refine s_callv (nn := 1) C (kcX0_slideTo (l := l) (G := G) (cy := cy) (sa := sa) hI (sz := H.size) σ x2 hz3) gk_X6_185 rfl rfl (by decide +kernel) ⟨Nat.le_of_ble_eq_true rfl, Nat.le_of_ble_eq_true rfl⟩ hP hS (q0 := 8) (ci := 0) rfl rfl rfl (As := [.int x2]) (rest := []) rfl rfl hl.1 (Nat.le_of_ble_eq_true rfl) dX6_countResults_27 (fun H locs hP hS => ?_)
    refine lv_aload_n hx hb dX6_countResults_30 rfl (lv_at hl 0 rfl) ?_
    refine va_get (D := G) (ci := 6) (v := .ref (ad 8)) (C := RX6) (T := TX6) (N := 9) hx hb hts inkX6 hown hK hP 0 rfl rfl 3 (by decide) (hts _ kw_253) (fun _ h9 => h9) rfl dX6_countResults_31 ?_
    replace hf := s_bi_some hf
    obtain ⟨r6, σ4, hz5, hf⟩ := hf
    refine s_calli (nn := 0) C (kcX0_hasResult (l := l) (G := G) (cy := cy) (sa := sa) hI (sz := H.size) σ2 hz5) gk_X6_134 rfl rfl (by decide +kernel) ⟨Nat.le_of_ble_eq_true rfl, Nat.le_of_ble_eq_true rfl⟩ hP hS (q0 := 8) (ci := 0) rfl rfl rfl (As := []) (rest := []) rfl rfl hl.1 (Nat.le_of_ble_eq_true rfl) dX6_countResults_34 (fun H locs hP hS => ?_)
    refine lv_if_eq (tgt := 43) hx hb dX6_countResults_37 (by decide) (fun c7 => ?_) (fun c7 => ?_)
    · rw [if_pos c7] at hf
      exact kX6_countResults_b43 C k11 hk11 σ4 x1 x2 _ _ _ (lv_sub hl [0, 1, 2] rfl) hP hS hf
    · rw [if_neg c7] at hf
      obtain ⟨t8, et8⟩ : ∃ z : Int32, z = (x1 + 1) := ⟨_, rfl⟩
      replace hf := s_lt_at et8 hf
      refine lv_iinc (v := t8) (lv' := [(1, .int t8), (0, .ref (ad 0)), (2, .int x2)]) hx hb dX6_countResults_40 hl (k := 1) rfl (by rw [et8]; rfl) (by decide) rfl (fun ls hl => ?_)
      exact kX6_countResults_b43 C k11 hk11 σ4 t8 x2 _ _ _ (lv_sub hl [1, 0, 2] rfl) hP hS hf
set_option maxRecDepth 100000 in
set_option maxHeartbeats 4000000 in
theorem kX6_countResults_b11_L (C : s_X p s m meth c args cX6_countResults (some .int) 3 RX6 G cy sa ad 27) : ∀ (n : Nat), ∀ (σ : Sg) (x1 : Int32) (x2 : Int32) (ls : Array Slot) (H : Heap) (locs : List Loc), lv_has ls 3 [(0, .ref (ad 0)), (1, .int x1), (2, .int x2)] → va_P G vwCl ((s_WC cy ad) σ) H → va_S (s_A ad 27 s.heap.size) s.heap H locs → fX6_countResults_b11_L n σ x1 x2 = some (re, σe) → W p l e ({ frames := 3, cells := 0, slots := 0, locals := 65 } : Room) s m args below meth c H locs 0 0 (MQ below (s_Qi (s_WC cy ad) G (s_A ad 27 s.heap.size) re σe) args s 0 0 (s_A ad 27 s.heap.size)) (F0 m 11 ls []) := by
  intro n
  induction n with
  | zero => intro σ x1 x2 ls H locs hl hP hS hf; exact absurd (show (none : Option (Int32 × Sg)) = some (re, σe) from hf) (by intro h; cases h)
  | succ n ih => intro σ x1 x2 ls H locs hl hP hS hf; exact kX6_countResults_b11 C (fX6_countResults_b11_L n) ih σ x1 x2 ls H locs hl hP hS hf
set_option maxRecDepth 100000 in
set_option maxHeartbeats 4000000 in
theorem kX6_countResults (C : s_X p s m meth c args cX6_countResults (some .int) 3 RX6 G cy sa ad 27) (σ : Sg) (ls : Array Slot) (H : Heap) (locs : List Loc) (hl : lv_has ls 3 [(0, .ref (ad 0))]) (hP : va_P G vwCl ((s_WC cy ad) σ) H) (hS : va_S (s_A ad 27 s.heap.size) s.heap H locs) (hf : fX6_countResults σ = some (re, σe)) : W p l e ({ frames := 3, cells := 0, slots := 0, locals := 65 } : Room) s m args below meth c H locs 0 0 (MQ below (s_Qi (s_WC cy ad) G (s_A ad 27 s.heap.size) re σe) args s 0 0 (s_A ad 27 s.heap.size)) (F0 m 0 ls []) := by
  obtain ⟨hx, hb, hr, hml, hown, hts, hlk, hK, hE, hI⟩ := id C
  have hD : ∀ σ : Sg, va_D (s_A ad 27 s.heap.size) ((s_WC cy ad) σ) := fun σ => s_D (s_WC_ad cy ad σ) hI (fun k hk => Or.inl ⟨k, hk, rfl⟩)
  unfold fX6_countResults at hf
  refine lv_iconst (v := 0) hx hb dX6_countResults_0 (by decide) ?_
  refine lv_istore_n (lv' := [(1, .int (0 : Int32)), (0, .ref (ad 0))]) hx hb dX6_countResults_1 rfl hl (by decide) rfl (fun ls hl => ?_)
  refine lv_aload_n hx hb dX6_countResults_2 rfl (lv_at hl 1 rfl) ?_
  refine va_get (D := G) (ci := 6) (v := .ref (ad 8)) (C := RX6) (T := TX6) (N := 9) hx hb hts inkX6 hown hK hP 0 rfl rfl 3 (by decide) (hts _ kw_253) (fun _ h9 => h9) rfl dX6_countResults_3 ?_
  replace hf := s_bv_some hf
  obtain ⟨σ1, hz2, hf⟩ := hf
  refine s_callv (nn := 0) C (kcX0_clear (l := l) (G := G) (cy := cy) (sa := sa) hI (sz := H.size) σ hz2) gk_X6_182 rfl rfl (by decide +kernel) ⟨Nat.le_of_ble_eq_true rfl, Nat.le_of_ble_eq_true rfl⟩ hP hS (q0 := 8) (ci := 0) rfl rfl rfl (As := []) (rest := []) rfl rfl hl.1 (Nat.le_of_ble_eq_true rfl) dX6_countResults_6 (fun H locs hP hS => ?_)
  refine lv_iconst (v := 0) hx hb dX6_countResults_9 (by decide) ?_
  refine lv_istore_n (lv' := [(2, .int (0 : Int32)), (1, .int (0 : Int32)), (0, .ref (ad 0))]) hx hb dX6_countResults_10 rfl hl (by decide) rfl (fun ls hl => ?_)
  exact kX6_countResults_b11_L C s_fu σ1 (0 : Int32) (0 : Int32) _ _ _ (lv_sub hl [2, 1, 0] rfl) hP hS hf
theorem kcX6_countResults {l : Launch} {G : va_G} {cy : Nat → ClassId} {sa : Nat × Nat} {ad : Nat → Nat}  {sz : Nat} (hI : s_inj ad 27) (σ : Sg) {re : Int32} {σe : Sg} (hf : fX6_countResults σ = some (re, σe)) : Met l yX6_countResults (kW yX6_countResults cX6_countResults 3 (some .int)) ({ frames := 3, cells := 0, slots := 0, locals := 65 } : Room) (s_P (s_WC cy ad) G cy sa ad 27 [.ref (ad 0)] sz σ) (s_Qi (s_WC cy ad) G (s_A ad 27 sz) re σe) 0 0 (s_A ad 27 sz) := by
  refine s_met (own := RX6) (by decide) rfl hI (Nat.le_of_ble_eq_true rfl) (fun p e s m below meth c ls hsz C hP hl => ?_)
  subst hsz
  exact kX6_countResults C σ ls _ _ hl hP va_S.rf hf
set_option maxRecDepth 100000 in
set_option maxHeartbeats 4000000 in
theorem kX6_rule (C : s_X p s m meth c args cX6_rule (some .int) 2 RX6 G cy sa ad 27) (σ : Sg) (x1 : Int32) (ls : Array Slot) (H : Heap) (locs : List Loc) (hl : lv_has ls 2 [(0, .ref (ad 0)), (1, .int x1)]) (hP : va_P G vwCl ((s_WC cy ad) σ) H) (hS : va_S (s_A ad 27 s.heap.size) s.heap H locs) (hf : fX6_rule σ x1 = some (re, σe)) : W p l e ({ frames := 4, cells := 0, slots := 0, locals := 87 } : Room) s m args below meth c H locs 0 0 (MQ below (s_Qi (s_WC cy ad) G (s_A ad 27 s.heap.size) re σe) args s 0 0 (s_A ad 27 s.heap.size)) (F0 m 0 ls []) := by
  obtain ⟨hx, hb, hr, hml, hown, hts, hlk, hK, hE, hI⟩ := id C
  have hD : ∀ σ : Sg, va_D (s_A ad 27 s.heap.size) ((s_WC cy ad) σ) := fun σ => s_D (s_WC_ad cy ad σ) hI (fun k hk => Or.inl ⟨k, hk, rfl⟩)
  unfold fX6_rule at hf
  refine lv_iload_n hx hb dX6_rule_0 rfl (lv_at hl 1 rfl) ?_
  by_cases c1 : x1 = 0
  · rw [if_pos c1] at hf
    refine lv_tableIn (off := 51) (tgt := 52) hx hb dX6_rule_1 (by rw [c1]; decide) (by rw [c1]; decide) (by rw [c1]; rfl) (by decide) ?_
    refine lv_aload_n hx hb dX6_rule_52 rfl (lv_at hl 0 rfl) ?_
    refine va_get (D := G) (ci := 6) (v := .ref (ad 6)) (C := RX6) (T := TX6) (N := 9) hx hb hts inkX6 hown hK hP 0 rfl rfl 2 (by decide) (hts _ kw_252) (fun _ h9 => h9) rfl dX6_rule_53 ?_
    refine va_getN (D := G) (ci := 1) (v := .int (σ 6 1)) (C := RX1) (T := TX1) (N := 8) hx hb hts inkX1 hown hK hP 6 rfl rfl 1 (by decide) (kn_X6_89 hE) (fun _ h9 => h9) rfl dX6_rule_56 ?_
    obtain ⟨he1, he2⟩ := s_ret hf
    exact W.iret hx hb hr (fun t ht hW => ⟨⟨_, (), rfl, he1, s_fin (Wd := (s_WC cy ad)) ht he2 hP⟩, hS.F ht⟩) hS.2.2 dX6_rule_59 hlk
  · rw [if_neg c1] at hf
    by_cases c2 : x1 = 1
    · rw [if_pos c2] at hf
      refine lv_tableIn (off := 59) (tgt := 60) hx hb dX6_rule_1 (by rw [c2]; decide) (by rw [c2]; decide) (by rw [c2]; rfl) (by decide) ?_
      refine lv_aload_n hx hb dX6_rule_60 rfl (lv_at hl 0 rfl) ?_
      refine va_get (D := G) (ci := 6) (v := .ref (ad 6)) (C := RX6) (T := TX6) (N := 9) hx hb hts inkX6 hown hK hP 0 rfl rfl 2 (by decide) (hts _ kw_252) (fun _ h9 => h9) rfl dX6_rule_61 ?_
      replace hf := s_bi_some hf
      obtain ⟨r5, σ3, hz4, hf⟩ := hf
      refine s_calli (nn := 0) C (kcX1_countMissing_6 (l := l) (G := G) (cy := cy) (sa := sa) hI (sz := H.size) σ hz4) gk_X6_95 rfl rfl (by decide +kernel) ⟨Nat.le_of_ble_eq_true rfl, Nat.le_of_ble_eq_true rfl⟩ hP hS (q0 := 6) (ci := 1) rfl rfl rfl (As := []) (rest := []) rfl rfl hl.1 (Nat.le_of_ble_eq_true rfl) dX6_rule_64 (fun H locs hP hS => ?_)
      obtain ⟨he1, he2⟩ := s_ret hf
      exact W.iret hx hb hr (fun t ht hW => ⟨⟨_, (), rfl, he1, s_fin (Wd := (s_WC cy ad)) ht he2 hP⟩, hS.F ht⟩) hS.2.2 dX6_rule_67 hlk
    · rw [if_neg c2] at hf
      by_cases c6 : x1 = 2
      · rw [if_pos c6] at hf
        refine lv_tableIn (off := 67) (tgt := 68) hx hb dX6_rule_1 (by rw [c6]; decide) (by rw [c6]; decide) (by rw [c6]; rfl) (by decide) ?_
        refine lv_aload_n hx hb dX6_rule_68 rfl (lv_at hl 0 rfl) ?_
        refine va_get (D := G) (ci := 6) (v := .ref (ad 6)) (C := RX6) (T := TX6) (N := 9) hx hb hts inkX6 hown hK hP 0 rfl rfl 2 (by decide) (hts _ kw_252) (fun _ h9 => h9) rfl dX6_rule_69 ?_
        refine va_getN (D := G) (ci := 1) (v := .int (σ 6 2)) (C := RX1) (T := TX1) (N := 8) hx hb hts inkX1 hown hK hP 6 rfl rfl 2 (by decide) (kn_X6_99 hE) (fun _ h9 => h9) rfl dX6_rule_72 ?_
        obtain ⟨he1, he2⟩ := s_ret hf
        exact W.iret hx hb hr (fun t ht hW => ⟨⟨_, (), rfl, he1, s_fin (Wd := (s_WC cy ad)) ht he2 hP⟩, hS.F ht⟩) hS.2.2 dX6_rule_75 hlk
      · rw [if_neg c6] at hf
        by_cases c7 : x1 = 3
        · rw [if_pos c7] at hf
          refine lv_tableIn (off := 75) (tgt := 76) hx hb dX6_rule_1 (by rw [c7]; decide) (by rw [c7]; decide) (by rw [c7]; rfl) (by decide) ?_
          refine lv_aload_n hx hb dX6_rule_76 rfl (lv_at hl 0 rfl) ?_
          refine va_get (D := G) (ci := 6) (v := .ref (ad 6)) (C := RX6) (T := TX6) (N := 9) hx hb hts inkX6 hown hK hP 0 rfl rfl 2 (by decide) (hts _ kw_252) (fun _ h9 => h9) rfl dX6_rule_77 ?_
          refine va_getN (D := G) (ci := 1) (v := .int (σ 6 3)) (C := RX1) (T := TX1) (N := 8) hx hb hts inkX1 hown hK hP 6 rfl rfl 3 (by decide) (kn_X6_102 hE) (fun _ h9 => h9) rfl dX6_rule_80 ?_
          obtain ⟨he1, he2⟩ := s_ret hf
          exact W.iret hx hb hr (fun t ht hW => ⟨⟨_, (), rfl, he1, s_fin (Wd := (s_WC cy ad)) ht he2 hP⟩, hS.F ht⟩) hS.2.2 dX6_rule_83 hlk
        · rw [if_neg c7] at hf
          by_cases c8 : x1 = 4
          · rw [if_pos c8] at hf
            refine lv_tableIn (off := 83) (tgt := 84) hx hb dX6_rule_1 (by rw [c8]; decide) (by rw [c8]; decide) (by rw [c8]; rfl) (by decide) ?_
            refine lv_aload_n hx hb dX6_rule_84 rfl (lv_at hl 0 rfl) ?_
            refine va_get (D := G) (ci := 6) (v := .ref (ad 6)) (C := RX6) (T := TX6) (N := 9) hx hb hts inkX6 hown hK hP 0 rfl rfl 2 (by decide) (hts _ kw_252) (fun _ h9 => h9) rfl dX6_rule_85 ?_
            refine va_getN (D := G) (ci := 1) (v := .int (σ 6 4)) (C := RX1) (T := TX1) (N := 8) hx hb hts inkX1 hown hK hP 6 rfl rfl 4 (by decide) (kn_X6_105 hE) (fun _ h9 => h9) rfl dX6_rule_88 ?_
            obtain ⟨he1, he2⟩ := s_ret hf
            exact W.iret hx hb hr (fun t ht hW => ⟨⟨_, (), rfl, he1, s_fin (Wd := (s_WC cy ad)) ht he2 hP⟩, hS.F ht⟩) hS.2.2 dX6_rule_91 hlk
          · rw [if_neg c8] at hf
            by_cases c9 : x1 = 5
            · rw [if_pos c9] at hf
              refine lv_tableIn (off := 91) (tgt := 92) hx hb dX6_rule_1 (by rw [c9]; decide) (by rw [c9]; decide) (by rw [c9]; rfl) (by decide) ?_
              refine lv_aload_n hx hb dX6_rule_92 rfl (lv_at hl 0 rfl) ?_
              refine va_get (D := G) (ci := 6) (v := .ref (ad 6)) (C := RX6) (T := TX6) (N := 9) hx hb hts inkX6 hown hK hP 0 rfl rfl 2 (by decide) (hts _ kw_252) (fun _ h9 => h9) rfl dX6_rule_93 ?_
              refine va_getN (D := G) (ci := 1) (v := .int (σ 6 5)) (C := RX1) (T := TX1) (N := 8) hx hb hts inkX1 hown hK hP 6 rfl rfl 5 (by decide) (kn_X6_108 hE) (fun _ h9 => h9) rfl dX6_rule_96 ?_
              obtain ⟨he1, he2⟩ := s_ret hf
              exact W.iret hx hb hr (fun t ht hW => ⟨⟨_, (), rfl, he1, s_fin (Wd := (s_WC cy ad)) ht he2 hP⟩, hS.F ht⟩) hS.2.2 dX6_rule_99 hlk
            · rw [if_neg c9] at hf
              by_cases c10 : x1 = 6
              · rw [if_pos c10] at hf
                refine lv_tableIn (off := 99) (tgt := 100) hx hb dX6_rule_1 (by rw [c10]; decide) (by rw [c10]; decide) (by rw [c10]; rfl) (by decide) ?_
                refine lv_aload_n hx hb dX6_rule_100 rfl (lv_at hl 0 rfl) ?_
                refine va_get (D := G) (ci := 6) (v := .ref (ad 6)) (C := RX6) (T := TX6) (N := 9) hx hb hts inkX6 hown hK hP 0 rfl rfl 2 (by decide) (hts _ kw_252) (fun _ h9 => h9) rfl dX6_rule_101 ?_
                refine va_getN (D := G) (ci := 1) (v := .int (σ 6 6)) (C := RX1) (T := TX1) (N := 8) hx hb hts inkX1 hown hK hP 6 rfl rfl 6 (by decide) (kn_X6_111 hE) (fun _ h9 => h9) rfl dX6_rule_104 ?_
                obtain ⟨he1, he2⟩ := s_ret hf
                exact W.iret hx hb hr (fun t ht hW => ⟨⟨_, (), rfl, he1, s_fin (Wd := (s_WC cy ad)) ht he2 hP⟩, hS.F ht⟩) hS.2.2 dX6_rule_107 hlk
              · rw [if_neg c10] at hf
                by_cases c11 : x1 = 7
                · rw [if_pos c11] at hf
                  refine lv_tableIn (off := 107) (tgt := 108) hx hb dX6_rule_1 (by rw [c11]; decide) (by rw [c11]; decide) (by rw [c11]; rfl) (by decide) ?_
                  refine lv_aload_n hx hb dX6_rule_108 rfl (lv_at hl 0 rfl) ?_
                  refine va_get (D := G) (ci := 6) (v := .ref (ad 6)) (C := RX6) (T := TX6) (N := 9) hx hb hts inkX6 hown hK hP 0 rfl rfl 2 (by decide) (hts _ kw_252) (fun _ h9 => h9) rfl dX6_rule_109 ?_
                  refine va_getN (D := G) (ci := 1) (v := .int (σ 6 7)) (C := RX1) (T := TX1) (N := 8) hx hb hts inkX1 hown hK hP 6 rfl rfl 7 (by decide) (kn_X6_114 hE) (fun _ h9 => h9) rfl dX6_rule_112 ?_
                  obtain ⟨he1, he2⟩ := s_ret hf
                  exact W.iret hx hb hr (fun t ht hW => ⟨⟨_, (), rfl, he1, s_fin (Wd := (s_WC cy ad)) ht he2 hP⟩, hS.F ht⟩) hS.2.2 dX6_rule_115 hlk
                · rw [if_neg c11] at hf
                  by_cases c12 : x1 = 8
                  · rw [if_pos c12] at hf
                    refine lv_tableIn (off := 115) (tgt := 116) hx hb dX6_rule_1 (by rw [c12]; decide) (by rw [c12]; decide) (by rw [c12]; rfl) (by decide) ?_
                    refine lv_aload_n hx hb dX6_rule_116 rfl (lv_at hl 0 rfl) ?_
                    replace hf := s_bi_some hf
                    obtain ⟨r15, σ13, hz14, hf⟩ := hf
                    refine s_calli (nn := 0) C (kcX6_countResults (l := l) (G := G) (cy := cy) (sa := sa) hI (sz := H.size) σ hz14) gk_X6_117 rfl rfl (by decide +kernel) ⟨Nat.le_of_ble_eq_true rfl, Nat.le_of_ble_eq_true rfl⟩ hP hS (q0 := 0) (ci := 6) rfl rfl rfl (As := []) (rest := []) rfl rfl hl.1 (Nat.le_of_ble_eq_true rfl) dX6_rule_117 (fun H locs hP hS => ?_)
                    obtain ⟨he1, he2⟩ := s_ret hf
                    exact W.iret hx hb hr (fun t ht hW => ⟨⟨_, (), rfl, he1, s_fin (Wd := (s_WC cy ad)) ht he2 hP⟩, hS.F ht⟩) hS.2.2 dX6_rule_120 hlk
                  · rw [if_neg c12] at hf
                    have qc1 := lv_neT c1 (a := 0) (by decide)
                    have qc2 := lv_neT c2 (a := 1) (by decide)
                    have qc6 := lv_neT c6 (a := 2) (by decide)
                    have qc7 := lv_neT c7 (a := 3) (by decide)
                    have qc8 := lv_neT c8 (a := 4) (by decide)
                    have qc9 := lv_neT c9 (a := 5) (by decide)
                    have qc10 := lv_neT c10 (a := 6) (by decide)
                    have qc11 := lv_neT c11 (a := 7) (by decide)
                    have qc12 := lv_neT c12 (a := 8) (by decide)
                    refine lv_tableOut (tgt := 121) hx hb dX6_rule_1 (by omega) (by decide) ?_
                    refine lv_iconst (v := -1) hx hb dX6_rule_121 (by decide) ?_
                    obtain ⟨he1, he2⟩ := s_ret hf
                    exact W.iret hx hb hr (fun t ht hW => ⟨⟨_, (), rfl, he1, s_fin (Wd := (s_WC cy ad)) ht he2 hP⟩, hS.F ht⟩) hS.2.2 dX6_rule_122 hlk
theorem kcX6_rule {l : Launch} {G : va_G} {cy : Nat → ClassId} {sa : Nat × Nat} {ad : Nat → Nat}  {sz : Nat} (hI : s_inj ad 27) (σ : Sg) (x1 : Int32) {re : Int32} {σe : Sg} (hf : fX6_rule σ x1 = some (re, σe)) : Met l yX6_rule (kW yX6_rule cX6_rule 2 (some .int)) ({ frames := 4, cells := 0, slots := 0, locals := 87 } : Room) (s_P (s_WC cy ad) G cy sa ad 27 [.ref (ad 0), .int x1] sz σ) (s_Qi (s_WC cy ad) G (s_A ad 27 sz) re σe) 0 0 (s_A ad 27 sz) := by
  refine s_met (own := RX6) (by decide) rfl hI (Nat.le_of_ble_eq_true rfl) (fun p e s m below meth c ls hsz C hP hl => ?_)
  subst hsz
  exact kX6_rule C σ x1 ls _ _ hl hP va_S.rf hf
set_option maxRecDepth 100000 in
set_option maxHeartbeats 4000000 in
theorem kX6_reading (C : s_X p s m meth c args cX6_reading (some .int) 2 RX6 G cy sa ad 27) (σ : Sg) (x1 : Int32) (ls : Array Slot) (H : Heap) (locs : List Loc) (hl : lv_has ls 2 [(0, .ref (ad 0)), (1, .int x1)]) (hP : va_P G vwCl ((s_WC cy ad) σ) H) (hS : va_S (s_A ad 27 s.heap.size) s.heap H locs) (hf : fX6_reading σ x1 = some (re, σe)) : W p l e ({ frames := 2, cells := 0, slots := 0, locals := 42 } : Room) s m args below meth c H locs 0 0 (MQ below (s_Qi (s_WC cy ad) G (s_A ad 27 s.heap.size) re σe) args s 0 0 (s_A ad 27 s.heap.size)) (F0 m 0 ls []) := by
  obtain ⟨hx, hb, hr, hml, hown, hts, hlk, hK, hE, hI⟩ := id C
  have hD : ∀ σ : Sg, va_D (s_A ad 27 s.heap.size) ((s_WC cy ad) σ) := fun σ => s_D (s_WC_ad cy ad σ) hI (fun k hk => Or.inl ⟨k, hk, rfl⟩)
  unfold fX6_reading at hf
  refine lv_aload_n hx hb dX6_reading_0 rfl (lv_at hl 0 rfl) ?_
  refine va_get (D := G) (ci := 6) (v := .ref (ad 6)) (C := RX6) (T := TX6) (N := 9) hx hb hts inkX6 hown hK hP 0 rfl rfl 2 (by decide) (hts _ kw_252) (fun _ h9 => h9) rfl dX6_reading_1 ?_
  refine lv_iload_n hx hb dX6_reading_4 rfl (lv_at hl 1 rfl) ?_
  replace hf := s_bi_some hf
  obtain ⟨r3, σ1, hz2, hf⟩ := hf
  refine s_calli (nn := 1) C (kcX1_valueAt_6 (l := l) (G := G) (cy := cy) (sa := sa) hI (sz := H.size) σ x1 hz2) gk_X6_120 rfl rfl (by decide +kernel) ⟨Nat.le_of_ble_eq_true rfl, Nat.le_of_ble_eq_true rfl⟩ hP hS (q0 := 6) (ci := 1) rfl rfl rfl (As := [.int x1]) (rest := []) rfl rfl hl.1 (Nat.le_of_ble_eq_true rfl) dX6_reading_5 (fun H locs hP hS => ?_)
  obtain ⟨he1, he2⟩ := s_ret hf
  exact W.iret hx hb hr (fun t ht hW => ⟨⟨_, (), rfl, he1, s_fin (Wd := (s_WC cy ad)) ht he2 hP⟩, hS.F ht⟩) hS.2.2 dX6_reading_8 hlk
theorem kcX6_reading {l : Launch} {G : va_G} {cy : Nat → ClassId} {sa : Nat × Nat} {ad : Nat → Nat}  {sz : Nat} (hI : s_inj ad 27) (σ : Sg) (x1 : Int32) {re : Int32} {σe : Sg} (hf : fX6_reading σ x1 = some (re, σe)) : Met l yX6_reading (kW yX6_reading cX6_reading 2 (some .int)) ({ frames := 2, cells := 0, slots := 0, locals := 42 } : Room) (s_P (s_WC cy ad) G cy sa ad 27 [.ref (ad 0), .int x1] sz σ) (s_Qi (s_WC cy ad) G (s_A ad 27 sz) re σe) 0 0 (s_A ad 27 sz) := by
  refine s_met (own := RX6) (by decide) rfl hI (Nat.le_of_ble_eq_true rfl) (fun p e s m below meth c ls hsz C hP hl => ?_)
  subst hsz
  exact kX6_reading C σ x1 ls _ _ hl hP va_S.rf hf
set_option maxRecDepth 100000 in
set_option maxHeartbeats 4000000 in
theorem kX0_load_b20 (C : s_X p s m meth c args cX0_load none 3 RX0 G cy sa ad 27) (k20 : Sg → Int32 → Int32 → Option Sg) (hk20 : ∀ (σ : Sg) (x1 : Int32) (x2 : Int32) (ls : Array Slot) (H : Heap) (locs : List Loc), lv_has ls 3 [(0, .ref (ad 8)), (1, .int x1), (2, .int x2)] → va_P G vwCl ((s_WC cy ad) σ) H → va_S (s_A ad 27 s.heap.size) s.heap H locs → k20 σ x1 x2 = some σe → W p l e ({ frames := 2, cells := 0, slots := 0, locals := 42 } : Room) s m args below meth c H locs 0 0 (MQ below (s_Qv (s_WC cy ad) G (s_A ad 27 s.heap.size) σe) args s 0 0 (s_A ad 27 s.heap.size)) (F0 m 20 ls [])) (σ : Sg) (x1 : Int32) (x2 : Int32) (ls : Array Slot) (H : Heap) (locs : List Loc) (hl : lv_has ls 3 [(0, .ref (ad 8)), (1, .int x1), (2, .int x2)]) (hP : va_P G vwCl ((s_WC cy ad) σ) H) (hS : va_S (s_A ad 27 s.heap.size) s.heap H locs) (hf : fX0_load_b20 k20 σ x1 x2 = some σe) : W p l e ({ frames := 2, cells := 0, slots := 0, locals := 42 } : Room) s m args below meth c H locs 0 0 (MQ below (s_Qv (s_WC cy ad) G (s_A ad 27 s.heap.size) σe) args s 0 0 (s_A ad 27 s.heap.size)) (F0 m 20 ls []) := by
  obtain ⟨hx, hb, hr, hml, hown, hts, hlk, hK, hE, hI⟩ := id C
  have hD : ∀ σ : Sg, va_D (s_A ad 27 s.heap.size) ((s_WC cy ad) σ) := fun σ => s_D (s_WC_ad cy ad σ) hI (fun k hk => Or.inl ⟨k, hk, rfl⟩)
  unfold fX0_load_b20 at hf
  refine lv_iload_n hx hb dX0_load_20 rfl (lv_at hl 2 rfl) ?_
  refine lv_iload_n hx hb dX0_load_21 rfl (lv_at hl 1 rfl) ?_
  refine lv_icmp_gt (tgt := 43) hx hb dX0_load_22 (by decide) (fun c1 => ?_) (fun c1 => ?_)
  · rw [if_pos c1] at hf
    have he2 := Option.some.inj hf
    exact W.vret hx hb hr (fun t ht hW => ⟨⟨(), rfl, trivial, s_fin (Wd := (s_WC cy ad)) ht he2 hP⟩, hS.F ht⟩) hS.2.2 dX0_load_43 hlk
  · rw [if_neg c1] at hf
    refine lv_aload_n hx hb dX0_load_25 rfl (lv_at hl 0 rfl) ?_
    refine lv_aload_n hx hb dX0_load_26 rfl (lv_at hl 0 rfl) ?_
    refine va_get (D := G) (ci := 0) (v := .ref (ad 6)) (C := RX0) (T := TX0) (N := 3) hx hb hts inkX0 hown hK hP 8 rfl rfl 0 (by decide) (hts _ kw_204) (fun _ h9 => h9) rfl dX0_load_27 ?_
    refine lv_iload_n hx hb dX0_load_30 rfl (lv_at hl 2 rfl) ?_
    replace hf := s_bi_some hf
    obtain ⟨r4, σ2, hz3, hf⟩ := hf
    refine s_calli (nn := 1) C (kcX1_valueAt_6 (l := l) (G := G) (cy := cy) (sa := sa) hI (sz := H.size) σ x2 hz3) gk_X0_37 rfl rfl (by decide +kernel) ⟨Nat.le_of_ble_eq_true rfl, Nat.le_of_ble_eq_true rfl⟩ hP hS (q0 := 6) (ci := 1) rfl rfl rfl (As := [.int x2]) (rest := [.ref (ad 8)]) rfl rfl hl.1 (Nat.le_of_ble_eq_true rfl) dX0_load_31 (fun H locs hP hS => ?_)
    replace hf := s_bv_some hf
    obtain ⟨σ5, hz6, hf⟩ := hf
    refine s_callv (nn := 1) C (kcX0_putIn (l := l) (G := G) (cy := cy) (sa := sa) hI (sz := H.size) σ2 r4 hz6) gk_X0_41 rfl rfl (by decide +kernel) ⟨Nat.le_of_ble_eq_true rfl, Nat.le_of_ble_eq_true rfl⟩ hP hS (q0 := 8) (ci := 0) rfl rfl rfl (As := [.int r4]) (rest := []) rfl rfl hl.1 (Nat.le_of_ble_eq_true rfl) dX0_load_34 (fun H locs hP hS => ?_)
    obtain ⟨t7, et7⟩ : ∃ z : Int32, z = (x2 + 1) := ⟨_, rfl⟩
    replace hf := s_lt_at et7 hf
    refine lv_iinc (v := t7) (lv' := [(2, .int t7), (0, .ref (ad 8)), (1, .int x1)]) hx hb dX0_load_37 hl (k := 2) rfl (by rw [et7]; rfl) (by decide) rfl (fun ls hl => ?_)
    refine lv_goto (tgt := 20) hx hb dX0_load_40 (by decide) ?_
    exact hk20 σ5 x1 t7 _ _ _ (lv_sub hl [1, 2, 0] rfl) hP hS hf
set_option maxRecDepth 100000 in
set_option maxHeartbeats 4000000 in
theorem kX0_load_b20_L (C : s_X p s m meth c args cX0_load none 3 RX0 G cy sa ad 27) : ∀ (n : Nat), ∀ (σ : Sg) (x1 : Int32) (x2 : Int32) (ls : Array Slot) (H : Heap) (locs : List Loc), lv_has ls 3 [(0, .ref (ad 8)), (1, .int x1), (2, .int x2)] → va_P G vwCl ((s_WC cy ad) σ) H → va_S (s_A ad 27 s.heap.size) s.heap H locs → fX0_load_b20_L n σ x1 x2 = some σe → W p l e ({ frames := 2, cells := 0, slots := 0, locals := 42 } : Room) s m args below meth c H locs 0 0 (MQ below (s_Qv (s_WC cy ad) G (s_A ad 27 s.heap.size) σe) args s 0 0 (s_A ad 27 s.heap.size)) (F0 m 20 ls []) := by
  intro n
  induction n with
  | zero => intro σ x1 x2 ls H locs hl hP hS hf; exact absurd (show (none : Option Sg) = some σe from hf) (by intro h; cases h)
  | succ n ih => intro σ x1 x2 ls H locs hl hP hS hf; exact kX0_load_b20 C (fX0_load_b20_L n) ih σ x1 x2 ls H locs hl hP hS hf
set_option maxRecDepth 100000 in
set_option maxHeartbeats 4000000 in
theorem kX0_load (C : s_X p s m meth c args cX0_load none 3 RX0 G cy sa ad 27) (σ : Sg) (x1 : Int32) (ls : Array Slot) (H : Heap) (locs : List Loc) (hl : lv_has ls 3 [(0, .ref (ad 8)), (1, .int x1)]) (hP : va_P G vwCl ((s_WC cy ad) σ) H) (hS : va_S (s_A ad 27 s.heap.size) s.heap H locs) (hf : fX0_load σ x1 = some σe) : W p l e ({ frames := 2, cells := 0, slots := 0, locals := 42 } : Room) s m args below meth c H locs 0 0 (MQ below (s_Qv (s_WC cy ad) G (s_A ad 27 s.heap.size) σe) args s 0 0 (s_A ad 27 s.heap.size)) (F0 m 0 ls []) := by
  obtain ⟨hx, hb, hr, hml, hown, hts, hlk, hK, hE, hI⟩ := id C
  have hD : ∀ σ : Sg, va_D (s_A ad 27 s.heap.size) ((s_WC cy ad) σ) := fun σ => s_D (s_WC_ad cy ad σ) hI (fun k hk => Or.inl ⟨k, hk, rfl⟩)
  unfold fX0_load at hf
  refine lv_aload_n hx hb dX0_load_0 rfl (lv_at hl 0 rfl) ?_
  replace hf := s_bv_some hf
  obtain ⟨σ1, hz2, hf⟩ := hf
  refine s_callv (nn := 0) C (kcX0_clear (l := l) (G := G) (cy := cy) (sa := sa) hI (sz := H.size) σ hz2) gk_X0_23 rfl rfl (by decide +kernel) ⟨Nat.le_of_ble_eq_true rfl, Nat.le_of_ble_eq_true rfl⟩ hP hS (q0 := 8) (ci := 0) rfl rfl rfl (As := []) (rest := []) rfl rfl hl.1 (Nat.le_of_ble_eq_true rfl) dX0_load_1 (fun H locs hP hS => ?_)
  refine lv_iconst (v := 0) hx hb dX0_load_4 (by decide) ?_
  refine lv_iload_n hx hb dX0_load_5 rfl (lv_at hl 1 rfl) ?_
  refine lv_aload_n hx hb dX0_load_6 rfl (lv_at hl 0 rfl) ?_
  refine va_get (D := G) (ci := 0) (v := .ref (ad 6)) (C := RX0) (T := TX0) (N := 3) hx hb hts inkX0 hown hK hP 8 rfl rfl 0 (by decide) (hts _ kw_204) (fun _ h9 => h9) rfl dX0_load_7 ?_
  refine va_getN (D := G) (ci := 1) (v := .int (σ1 6 2)) (C := RX1) (T := TX1) (N := 8) hx hb hts inkX1 hown hK hP 6 rfl rfl 2 (by decide) (kn_X0_26 hE) (fun _ h9 => h9) rfl dX0_load_10 ?_
  refine lv_isub hx hb dX0_load_13 ?_
  refine lv_iconst (v := 1) hx hb dX0_load_14 (by decide) ?_
  refine lv_iadd hx hb dX0_load_15 ?_
  refine va_mmax hx hb (hml.trans hl.1.symm) hown (hts _ kw_504) (hts _ kw_396) (hts _ kw_69) (hts _ kw_397) (Nat.le_of_ble_eq_true rfl) (Nat.le_of_ble_eq_true rfl) (Nat.zero_le _) (Nat.zero_le _) dX0_load_16 ?_
  refine lv_topi (fun t3 et3 => ?_)
  replace hf := s_lt_at et3 hf
  refine lv_istore_n (lv' := [(2, .int t3), (0, .ref (ad 8)), (1, .int x1)]) hx hb dX0_load_19 rfl hl (by decide) rfl (fun ls hl => ?_)
  exact kX0_load_b20_L C s_fu σ1 x1 t3 _ _ _ (lv_sub hl [1, 2, 0] rfl) hP hS hf
theorem kcX0_load {l : Launch} {G : va_G} {cy : Nat → ClassId} {sa : Nat × Nat} {ad : Nat → Nat}  {sz : Nat} (hI : s_inj ad 27) (σ : Sg) (x1 : Int32) {σe : Sg} (hf : fX0_load σ x1 = some σe) : Met l yX0_load (kW yX0_load cX0_load 3 none) ({ frames := 2, cells := 0, slots := 0, locals := 42 } : Room) (s_P (s_WC cy ad) G cy sa ad 27 [.ref (ad 8), .int x1] sz σ) (s_Qv (s_WC cy ad) G (s_A ad 27 sz) σe) 0 0 (s_A ad 27 sz) := by
  refine s_met (own := RX0) (by decide) rfl hI (Nat.le_of_ble_eq_true rfl) (fun p e s m below meth c ls hsz C hP hl => ?_)
  subst hsz
  exact kX0_load C σ x1 ls _ _ hl hP va_S.rf hf
set_option maxRecDepth 100000 in
set_option maxHeartbeats 4000000 in
theorem kX0_placeRest (C : s_X p s m meth c args cX0_placeRest (some .int) 1 RX0 G cy sa ad 27) (σ : Sg) (ls : Array Slot) (H : Heap) (locs : List Loc) (hl : lv_has ls 1 [(0, .ref (ad 8))]) (hP : va_P G vwCl ((s_WC cy ad) σ) H) (hS : va_S (s_A ad 27 s.heap.size) s.heap H locs) (hf : fX0_placeRest σ = some (re, σe)) : W p l e ({ frames := 0, cells := 0, slots := 0, locals := 0 } : Room) s m args below meth c H locs 0 0 (MQ below (s_Qi (s_WC cy ad) G (s_A ad 27 s.heap.size) re σe) args s 0 0 (s_A ad 27 s.heap.size)) (F0 m 0 ls []) := by
  obtain ⟨hx, hb, hr, hml, hown, hts, hlk, hK, hE, hI⟩ := id C
  have hD : ∀ σ : Sg, va_D (s_A ad 27 s.heap.size) ((s_WC cy ad) σ) := fun σ => s_D (s_WC_ad cy ad σ) hI (fun k hk => Or.inl ⟨k, hk, rfl⟩)
  unfold fX0_placeRest at hf
  refine lv_aload_n hx hb dX0_placeRest_0 rfl (lv_at hl 0 rfl) ?_
  refine va_get (D := G) (ci := 0) (v := .ref (ad 6)) (C := RX0) (T := TX0) (N := 3) hx hb hts inkX0 hown hK hP 8 rfl rfl 0 (by decide) (hts _ kw_204) (fun _ h9 => h9) rfl dX0_placeRest_1 ?_
  refine va_getN (D := G) (ci := 1) (v := .int (σ 6 5)) (C := RX1) (T := TX1) (N := 8) hx hb hts inkX1 hown hK hP 6 rfl rfl 5 (by decide) (kn_X0_55 hE) (fun _ h9 => h9) rfl dX0_placeRest_4 ?_
  refine lv_iconst (v := 1) hx hb dX0_placeRest_7 (by decide) ?_
  refine lv_icmp_ge (tgt := 15) hx hb dX0_placeRest_8 (by decide) (fun c1 => ?_) (fun c1 => ?_)
  · rw [if_pos c1] at hf
    refine lv_aload_n hx hb dX0_placeRest_15 rfl (lv_at hl 0 rfl) ?_
    refine va_get (D := G) (ci := 0) (v := .int (σ 8 2)) (C := RX0) (T := TX0) (N := 3) hx hb hts inkX0 hown hK hP 8 rfl rfl 2 (by decide) (hts _ kw_206) (fun _ h9 => h9) rfl dX0_placeRest_16 ?_
    refine lv_iconst (v := 1) hx hb dX0_placeRest_19 (by decide) ?_
    refine lv_isub hx hb dX0_placeRest_20 ?_
    refine lv_aload_n hx hb dX0_placeRest_21 rfl (lv_at hl 0 rfl) ?_
    refine va_get (D := G) (ci := 0) (v := .ref (ad 6)) (C := RX0) (T := TX0) (N := 3) hx hb hts inkX0 hown hK hP 8 rfl rfl 0 (by decide) (hts _ kw_204) (fun _ h9 => h9) rfl dX0_placeRest_22 ?_
    refine va_getN (D := G) (ci := 1) (v := .int (σ 6 4)) (C := RX1) (T := TX1) (N := 8) hx hb hts inkX1 hown hK hP 6 rfl rfl 4 (by decide) (kn_X0_58 hE) (fun _ h9 => h9) rfl dX0_placeRest_25 ?_
    refine lv_imul hx hb dX0_placeRest_28 ?_
    refine lv_aload_n hx hb dX0_placeRest_29 rfl (lv_at hl 0 rfl) ?_
    refine va_get (D := G) (ci := 0) (v := .ref (ad 6)) (C := RX0) (T := TX0) (N := 3) hx hb hts inkX0 hown hK hP 8 rfl rfl 0 (by decide) (hts _ kw_204) (fun _ h9 => h9) rfl dX0_placeRest_30 ?_
    refine va_getN (D := G) (ci := 1) (v := .int (σ 6 5)) (C := RX1) (T := TX1) (N := 8) hx hb hts inkX1 hown hK hP 6 rfl rfl 5 (by decide) (kn_X0_55 hE) (fun _ h9 => h9) rfl dX0_placeRest_33 ?_
    replace hf := s_gd_some hf
    obtain ⟨g2, hf⟩ := hf
    refine lv_irem hx hb dX0_placeRest_36 (s_nz_of g2) ?_
    refine lv_topi (fun t3 et3 => ?_)
    replace hf := s_lt_at et3 hf
    obtain ⟨he1, he2⟩ := s_ret hf
    exact W.iret hx hb hr (fun t ht hW => ⟨⟨_, (), rfl, he1, s_fin (Wd := (s_WC cy ad)) ht he2 hP⟩, hS.F ht⟩) hS.2.2 dX0_placeRest_37 hlk
  · rw [if_neg c1] at hf
    refine lv_iconst (v := 0) hx hb dX0_placeRest_11 (by decide) ?_
    refine lv_goto (tgt := 37) hx hb dX0_placeRest_12 (by decide) ?_
    obtain ⟨he1, he2⟩ := s_ret hf
    exact W.iret hx hb hr (fun t ht hW => ⟨⟨_, (), rfl, he1, s_fin (Wd := (s_WC cy ad)) ht he2 hP⟩, hS.F ht⟩) hS.2.2 dX0_placeRest_37 hlk
theorem kcX0_placeRest {l : Launch} {G : va_G} {cy : Nat → ClassId} {sa : Nat × Nat} {ad : Nat → Nat}  {sz : Nat} (hI : s_inj ad 27) (σ : Sg) {re : Int32} {σe : Sg} (hf : fX0_placeRest σ = some (re, σe)) : Met l yX0_placeRest (kW yX0_placeRest cX0_placeRest 1 (some .int)) ({ frames := 0, cells := 0, slots := 0, locals := 0 } : Room) (s_P (s_WC cy ad) G cy sa ad 27 [.ref (ad 8)] sz σ) (s_Qi (s_WC cy ad) G (s_A ad 27 sz) re σe) 0 0 (s_A ad 27 sz) := by
  refine s_met (own := RX0) (by decide) rfl hI (Nat.le_of_ble_eq_true rfl) (fun p e s m below meth c ls hsz C hP hl => ?_)
  subst hsz
  exact kX0_placeRest C σ ls _ _ hl hP va_S.rf hf
set_option maxRecDepth 100000 in
set_option maxHeartbeats 4000000 in
theorem kX0_placeWhole (C : s_X p s m meth c args cX0_placeWhole (some .int) 1 RX0 G cy sa ad 27) (σ : Sg) (ls : Array Slot) (H : Heap) (locs : List Loc) (hl : lv_has ls 1 [(0, .ref (ad 8))]) (hP : va_P G vwCl ((s_WC cy ad) σ) H) (hS : va_S (s_A ad 27 s.heap.size) s.heap H locs) (hf : fX0_placeWhole σ = some (re, σe)) : W p l e ({ frames := 0, cells := 0, slots := 0, locals := 0 } : Room) s m args below meth c H locs 0 0 (MQ below (s_Qi (s_WC cy ad) G (s_A ad 27 s.heap.size) re σe) args s 0 0 (s_A ad 27 s.heap.size)) (F0 m 0 ls []) := by
  obtain ⟨hx, hb, hr, hml, hown, hts, hlk, hK, hE, hI⟩ := id C
  have hD : ∀ σ : Sg, va_D (s_A ad 27 s.heap.size) ((s_WC cy ad) σ) := fun σ => s_D (s_WC_ad cy ad σ) hI (fun k hk => Or.inl ⟨k, hk, rfl⟩)
  unfold fX0_placeWhole at hf
  refine lv_aload_n hx hb dX0_placeWhole_0 rfl (lv_at hl 0 rfl) ?_
  refine va_get (D := G) (ci := 0) (v := .ref (ad 6)) (C := RX0) (T := TX0) (N := 3) hx hb hts inkX0 hown hK hP 8 rfl rfl 0 (by decide) (hts _ kw_204) (fun _ h9 => h9) rfl dX0_placeWhole_1 ?_
  refine va_getN (D := G) (ci := 1) (v := .int (σ 6 5)) (C := RX1) (T := TX1) (N := 8) hx hb hts inkX1 hown hK hP 6 rfl rfl 5 (by decide) (kn_X0_55 hE) (fun _ h9 => h9) rfl dX0_placeWhole_4 ?_
  refine lv_iconst (v := 1) hx hb dX0_placeWhole_7 (by decide) ?_
  refine lv_icmp_ge (tgt := 15) hx hb dX0_placeWhole_8 (by decide) (fun c1 => ?_) (fun c1 => ?_)
  · rw [if_pos c1] at hf
    refine lv_aload_n hx hb dX0_placeWhole_15 rfl (lv_at hl 0 rfl) ?_
    refine va_get (D := G) (ci := 0) (v := .int (σ 8 2)) (C := RX0) (T := TX0) (N := 3) hx hb hts inkX0 hown hK hP 8 rfl rfl 2 (by decide) (hts _ kw_206) (fun _ h9 => h9) rfl dX0_placeWhole_16 ?_
    refine lv_iconst (v := 1) hx hb dX0_placeWhole_19 (by decide) ?_
    refine lv_isub hx hb dX0_placeWhole_20 ?_
    refine lv_aload_n hx hb dX0_placeWhole_21 rfl (lv_at hl 0 rfl) ?_
    refine va_get (D := G) (ci := 0) (v := .ref (ad 6)) (C := RX0) (T := TX0) (N := 3) hx hb hts inkX0 hown hK hP 8 rfl rfl 0 (by decide) (hts _ kw_204) (fun _ h9 => h9) rfl dX0_placeWhole_22 ?_
    refine va_getN (D := G) (ci := 1) (v := .int (σ 6 4)) (C := RX1) (T := TX1) (N := 8) hx hb hts inkX1 hown hK hP 6 rfl rfl 4 (by decide) (kn_X0_58 hE) (fun _ h9 => h9) rfl dX0_placeWhole_25 ?_
    refine lv_imul hx hb dX0_placeWhole_28 ?_
    refine lv_aload_n hx hb dX0_placeWhole_29 rfl (lv_at hl 0 rfl) ?_
    refine va_get (D := G) (ci := 0) (v := .ref (ad 6)) (C := RX0) (T := TX0) (N := 3) hx hb hts inkX0 hown hK hP 8 rfl rfl 0 (by decide) (hts _ kw_204) (fun _ h9 => h9) rfl dX0_placeWhole_30 ?_
    refine va_getN (D := G) (ci := 1) (v := .int (σ 6 5)) (C := RX1) (T := TX1) (N := 8) hx hb hts inkX1 hown hK hP 6 rfl rfl 5 (by decide) (kn_X0_55 hE) (fun _ h9 => h9) rfl dX0_placeWhole_33 ?_
    replace hf := s_gd_some hf
    obtain ⟨g2, hf⟩ := hf
    refine lv_idiv hx hb dX0_placeWhole_36 (s_nz_of g2) ?_
    obtain ⟨he1, he2⟩ := s_ret hf
    exact W.iret hx hb hr (fun t ht hW => ⟨⟨_, (), rfl, he1, s_fin (Wd := (s_WC cy ad)) ht he2 hP⟩, hS.F ht⟩) hS.2.2 dX0_placeWhole_37 hlk
  · rw [if_neg c1] at hf
    refine lv_iconst (v := 0) hx hb dX0_placeWhole_11 (by decide) ?_
    refine lv_goto (tgt := 37) hx hb dX0_placeWhole_12 (by decide) ?_
    obtain ⟨he1, he2⟩ := s_ret hf
    exact W.iret hx hb hr (fun t ht hW => ⟨⟨_, (), rfl, he1, s_fin (Wd := (s_WC cy ad)) ht he2 hP⟩, hS.F ht⟩) hS.2.2 dX0_placeWhole_37 hlk
theorem kcX0_placeWhole {l : Launch} {G : va_G} {cy : Nat → ClassId} {sa : Nat × Nat} {ad : Nat → Nat}  {sz : Nat} (hI : s_inj ad 27) (σ : Sg) {re : Int32} {σe : Sg} (hf : fX0_placeWhole σ = some (re, σe)) : Met l yX0_placeWhole (kW yX0_placeWhole cX0_placeWhole 1 (some .int)) ({ frames := 0, cells := 0, slots := 0, locals := 0 } : Room) (s_P (s_WC cy ad) G cy sa ad 27 [.ref (ad 8)] sz σ) (s_Qi (s_WC cy ad) G (s_A ad 27 sz) re σe) 0 0 (s_A ad 27 sz) := by
  refine s_met (own := RX0) (by decide) rfl hI (Nat.le_of_ble_eq_true rfl) (fun p e s m below meth c ls hsz C hP hl => ?_)
  subst hsz
  exact kX0_placeWhole C σ ls _ _ hl hP va_S.rf hf
set_option maxRecDepth 100000 in
set_option maxHeartbeats 4000000 in
theorem kX6_row_b20 (C : s_X p s m meth c args cX6_row (some .int) 3 RX6 G cy sa ad 27) (σ : Sg) (ls : Array Slot) (H : Heap) (locs : List Loc) (hl : lv_has ls 3 []) (hP : va_P G vwCl ((s_WC cy ad) σ) H) (hS : va_S (s_A ad 27 s.heap.size) s.heap H locs) (hf : fX6_row_b20 σ = some (re, σe)) : W p l e ({ frames := 3, cells := 0, slots := 0, locals := 64 } : Room) s m args below meth c H locs 0 0 (MQ below (s_Qi (s_WC cy ad) G (s_A ad 27 s.heap.size) re σe) args s 0 0 (s_A ad 27 s.heap.size)) (F0 m 20 ls []) := by
  obtain ⟨hx, hb, hr, hml, hown, hts, hlk, hK, hE, hI⟩ := id C
  have hD : ∀ σ : Sg, va_D (s_A ad 27 s.heap.size) ((s_WC cy ad) σ) := fun σ => s_D (s_WC_ad cy ad σ) hI (fun k hk => Or.inl ⟨k, hk, rfl⟩)
  unfold fX6_row_b20 at hf
  refine lv_iconst (v := -1) hx hb dX6_row_20 (by decide) ?_
  obtain ⟨he1, he2⟩ := s_ret hf
  exact W.iret hx hb hr (fun t ht hW => ⟨⟨_, (), rfl, he1, s_fin (Wd := (s_WC cy ad)) ht he2 hP⟩, hS.F ht⟩) hS.2.2 dX6_row_21 hlk
set_option maxRecDepth 100000 in
set_option maxHeartbeats 4000000 in
theorem kX6_row (C : s_X p s m meth c args cX6_row (some .int) 3 RX6 G cy sa ad 27) (σ : Sg) (x1 : Int32) (x2 : Int32) (ls : Array Slot) (H : Heap) (locs : List Loc) (hl : lv_has ls 3 [(0, .ref (ad 0)), (1, .int x1), (2, .int x2)]) (hP : va_P G vwCl ((s_WC cy ad) σ) H) (hS : va_S (s_A ad 27 s.heap.size) s.heap H locs) (hf : fX6_row σ x1 x2 = some (re, σe)) : W p l e ({ frames := 3, cells := 0, slots := 0, locals := 64 } : Room) s m args below meth c H locs 0 0 (MQ below (s_Qi (s_WC cy ad) G (s_A ad 27 s.heap.size) re σe) args s 0 0 (s_A ad 27 s.heap.size)) (F0 m 0 ls []) := by
  obtain ⟨hx, hb, hr, hml, hown, hts, hlk, hK, hE, hI⟩ := id C
  have hD : ∀ σ : Sg, va_D (s_A ad 27 s.heap.size) ((s_WC cy ad) σ) := fun σ => s_D (s_WC_ad cy ad σ) hI (fun k hk => Or.inl ⟨k, hk, rfl⟩)
  unfold fX6_row at hf
  refine lv_aload_n hx hb dX6_row_0 rfl (lv_at hl 0 rfl) ?_
  refine va_get (D := G) (ci := 6) (v := .ref (ad 6)) (C := RX6) (T := TX6) (N := 9) hx hb hts inkX6 hown hK hP 0 rfl rfl 2 (by decide) (hts _ kw_252) (fun _ h9 => h9) rfl dX6_row_1 ?_
  refine lv_iload_n hx hb dX6_row_4 rfl (lv_at hl 1 rfl) ?_
  replace hf := s_bi_some hf
  obtain ⟨r3, σ1, hz2, hf⟩ := hf
  refine s_calli (nn := 1) C (kcX1_has_6 (l := l) (G := G) (cy := cy) (sa := sa) hI (sz := H.size) σ x1 hz2) gk_X6_124 rfl rfl (by decide +kernel) ⟨Nat.le_of_ble_eq_true rfl, Nat.le_of_ble_eq_true rfl⟩ hP hS (q0 := 6) (ci := 1) rfl rfl rfl (As := [.int x1]) (rest := []) rfl rfl hl.1 (Nat.le_of_ble_eq_true rfl) dX6_row_5 (fun H locs hP hS => ?_)
  refine lv_if_eq (tgt := 20) hx hb dX6_row_8 (by decide) (fun c4 => ?_) (fun c4 => ?_)
  · rw [if_pos c4] at hf
    exact kX6_row_b20 C σ1 _ _ _ (lv_sub hl [] rfl) hP hS hf
  · rw [if_neg c4] at hf
    refine lv_iload_n hx hb dX6_row_11 rfl (lv_at hl 2 rfl) ?_
    refine lv_if_lt (tgt := 20) hx hb dX6_row_12 (by decide) (fun c5 => ?_) (fun c5 => ?_)
    · rw [if_pos c5] at hf
      exact kX6_row_b20 C σ1 _ _ _ (lv_sub hl [] rfl) hP hS hf
    · rw [if_neg c5] at hf
      refine lv_iload_n hx hb dX6_row_15 rfl (lv_at hl 2 rfl) ?_
      refine lv_iconst (v := 2) hx hb dX6_row_16 (by decide) ?_
      refine lv_icmp_le (tgt := 22) hx hb dX6_row_17 (by decide) (fun c6 => ?_) (fun c6 => ?_)
      · rw [if_pos c6] at hf
        refine lv_aload_n hx hb dX6_row_22 rfl (lv_at hl 0 rfl) ?_
        refine va_get (D := G) (ci := 6) (v := .ref (ad 8)) (C := RX6) (T := TX6) (N := 9) hx hb hts inkX6 hown hK hP 0 rfl rfl 3 (by decide) (hts _ kw_253) (fun _ h9 => h9) rfl dX6_row_23 ?_
        refine lv_iload_n hx hb dX6_row_26 rfl (lv_at hl 1 rfl) ?_
        replace hf := s_bv_some hf
        obtain ⟨σ7, hz8, hf⟩ := hf
        refine s_callv (nn := 1) C (kcX0_load (l := l) (G := G) (cy := cy) (sa := sa) hI (sz := H.size) σ1 x1 hz8) gk_X6_128 rfl rfl (by decide +kernel) ⟨Nat.le_of_ble_eq_true rfl, Nat.le_of_ble_eq_true rfl⟩ hP hS (q0 := 8) (ci := 0) rfl rfl rfl (As := [.int x1]) (rest := []) rfl rfl hl.1 (Nat.le_of_ble_eq_true rfl) dX6_row_27 (fun H locs hP hS => ?_)
        refine lv_iload_n hx hb dX6_row_30 rfl (lv_at hl 2 rfl) ?_
        refine lv_if_ne (tgt := 42) hx hb dX6_row_31 (by decide) (fun c9 => ?_) (fun c9 => ?_)
        · rw [if_neg c9] at hf
          refine lv_aload_n hx hb dX6_row_42 rfl (lv_at hl 0 rfl) ?_
          refine va_get (D := G) (ci := 6) (v := .ref (ad 8)) (C := RX6) (T := TX6) (N := 9) hx hb hts inkX6 hown hK hP 0 rfl rfl 3 (by decide) (hts _ kw_253) (fun _ h9 => h9) rfl dX6_row_43 ?_
          replace hf := s_bi_some hf
          obtain ⟨r12, σ10, hz11, hf⟩ := hf
          refine s_calli (nn := 0) C (kcX0_hasResult (l := l) (G := G) (cy := cy) (sa := sa) hI (sz := H.size) σ7 hz11) gk_X6_134 rfl rfl (by decide +kernel) ⟨Nat.le_of_ble_eq_true rfl, Nat.le_of_ble_eq_true rfl⟩ hP hS (q0 := 8) (ci := 0) rfl rfl rfl (As := []) (rest := []) rfl rfl hl.1 (Nat.le_of_ble_eq_true rfl) dX6_row_46 (fun H locs hP hS => ?_)
          refine lv_if_ne (tgt := 55) hx hb dX6_row_49 (by decide) (fun c13 => ?_) (fun c13 => ?_)
          · rw [if_neg c13] at hf
            refine lv_iload_n hx hb dX6_row_55 rfl (lv_at hl 2 rfl) ?_
            refine lv_iconst (v := 1) hx hb dX6_row_56 (by decide) ?_
            refine lv_icmp_ne (tgt := 70) hx hb dX6_row_57 (by decide) (fun c14 => ?_) (fun c14 => ?_)
            · rw [if_neg c14] at hf
              refine lv_aload_n hx hb dX6_row_70 rfl (lv_at hl 0 rfl) ?_
              refine va_get (D := G) (ci := 6) (v := .ref (ad 8)) (C := RX6) (T := TX6) (N := 9) hx hb hts inkX6 hown hK hP 0 rfl rfl 3 (by decide) (hts _ kw_253) (fun _ h9 => h9) rfl dX6_row_71 ?_
              replace hf := s_bi_some hf
              obtain ⟨r17, σ15, hz16, hf⟩ := hf
              refine s_calli (nn := 0) C (kcX0_placeRest (l := l) (G := G) (cy := cy) (sa := sa) hI (sz := H.size) σ10 hz16) gk_X6_140 rfl rfl (by decide +kernel) ⟨Nat.le_of_ble_eq_true rfl, Nat.le_of_ble_eq_true rfl⟩ hP hS (q0 := 8) (ci := 0) rfl rfl rfl (As := []) (rest := []) rfl rfl hl.1 (Nat.le_of_ble_eq_true rfl) dX6_row_74 (fun H locs hP hS => ?_)
              obtain ⟨he1, he2⟩ := s_ret hf
              exact W.iret hx hb hr (fun t ht hW => ⟨⟨_, (), rfl, he1, s_fin (Wd := (s_WC cy ad)) ht he2 hP⟩, hS.F ht⟩) hS.2.2 dX6_row_77 hlk
            · rw [if_pos c14] at hf
              refine lv_aload_n hx hb dX6_row_60 rfl (lv_at hl 0 rfl) ?_
              refine va_get (D := G) (ci := 6) (v := .ref (ad 8)) (C := RX6) (T := TX6) (N := 9) hx hb hts inkX6 hown hK hP 0 rfl rfl 3 (by decide) (hts _ kw_253) (fun _ h9 => h9) rfl dX6_row_61 ?_
              replace hf := s_bi_some hf
              obtain ⟨r20, σ18, hz19, hf⟩ := hf
              refine s_calli (nn := 0) C (kcX0_placeWhole (l := l) (G := G) (cy := cy) (sa := sa) hI (sz := H.size) σ10 hz19) gk_X6_137 rfl rfl (by decide +kernel) ⟨Nat.le_of_ble_eq_true rfl, Nat.le_of_ble_eq_true rfl⟩ hP hS (q0 := 8) (ci := 0) rfl rfl rfl (As := []) (rest := []) rfl rfl hl.1 (Nat.le_of_ble_eq_true rfl) dX6_row_64 (fun H locs hP hS => ?_)
              refine lv_goto (tgt := 77) hx hb dX6_row_67 (by decide) ?_
              obtain ⟨he1, he2⟩ := s_ret hf
              exact W.iret hx hb hr (fun t ht hW => ⟨⟨_, (), rfl, he1, s_fin (Wd := (s_WC cy ad)) ht he2 hP⟩, hS.F ht⟩) hS.2.2 dX6_row_77 hlk
          · rw [if_pos c13] at hf
            refine lv_bipush (v := -4) hx hb dX6_row_52 (by decide) ?_
            obtain ⟨he1, he2⟩ := s_ret hf
            exact W.iret hx hb hr (fun t ht hW => ⟨⟨_, (), rfl, he1, s_fin (Wd := (s_WC cy ad)) ht he2 hP⟩, hS.F ht⟩) hS.2.2 dX6_row_54 hlk
        · rw [if_pos c9] at hf
          refine lv_aload_n hx hb dX6_row_34 rfl (lv_at hl 0 rfl) ?_
          refine va_get (D := G) (ci := 6) (v := .ref (ad 8)) (C := RX6) (T := TX6) (N := 9) hx hb hts inkX6 hown hK hP 0 rfl rfl 3 (by decide) (hts _ kw_253) (fun _ h9 => h9) rfl dX6_row_35 ?_
          refine va_getN (D := G) (ci := 0) (v := .int (σ7 8 2)) (C := RX0) (T := TX0) (N := 3) hx hb hts inkX0 hown hK hP 8 rfl rfl 2 (by decide) (kn_X6_131 hE) (fun _ h9 => h9) rfl dX6_row_38 ?_
          obtain ⟨he1, he2⟩ := s_ret hf
          exact W.iret hx hb hr (fun t ht hW => ⟨⟨_, (), rfl, he1, s_fin (Wd := (s_WC cy ad)) ht he2 hP⟩, hS.F ht⟩) hS.2.2 dX6_row_41 hlk
      · rw [if_neg c6] at hf
        exact kX6_row_b20 C σ1 _ _ _ (lv_sub hl [] rfl) hP hS hf
theorem kcX6_row {l : Launch} {G : va_G} {cy : Nat → ClassId} {sa : Nat × Nat} {ad : Nat → Nat}  {sz : Nat} (hI : s_inj ad 27) (σ : Sg) (x1 : Int32) (x2 : Int32) {re : Int32} {σe : Sg} (hf : fX6_row σ x1 x2 = some (re, σe)) : Met l yX6_row (kW yX6_row cX6_row 3 (some .int)) ({ frames := 3, cells := 0, slots := 0, locals := 64 } : Room) (s_P (s_WC cy ad) G cy sa ad 27 [.ref (ad 0), .int x1, .int x2] sz σ) (s_Qi (s_WC cy ad) G (s_A ad 27 sz) re σe) 0 0 (s_A ad 27 sz) := by
  refine s_met (own := RX6) (by decide) rfl hI (Nat.le_of_ble_eq_true rfl) (fun p e s m below meth c ls hsz C hP hl => ?_)
  subst hsz
  exact kX6_row C σ x1 x2 ls _ _ hl hP va_S.rf hf
set_option maxRecDepth 100000 in
set_option maxHeartbeats 4000000 in
theorem kX0_at_b21 (C : s_X p s m meth c args cX0_at (some .int) 2 RX0 G cy sa ad 27) (σ : Sg) (ls : Array Slot) (H : Heap) (locs : List Loc) (hl : lv_has ls 2 []) (hP : va_P G vwCl ((s_WC cy ad) σ) H) (hS : va_S (s_A ad 27 s.heap.size) s.heap H locs) (hf : fX0_at_b21 σ = some (re, σe)) : W p l e ({ frames := 0, cells := 0, slots := 0, locals := 0 } : Room) s m args below meth c H locs 0 0 (MQ below (s_Qi (s_WC cy ad) G (s_A ad 27 s.heap.size) re σe) args s 0 0 (s_A ad 27 s.heap.size)) (F0 m 21 ls []) := by
  obtain ⟨hx, hb, hr, hml, hown, hts, hlk, hK, hE, hI⟩ := id C
  have hD : ∀ σ : Sg, va_D (s_A ad 27 s.heap.size) ((s_WC cy ad) σ) := fun σ => s_D (s_WC_ad cy ad σ) hI (fun k hk => Or.inl ⟨k, hk, rfl⟩)
  unfold fX0_at_b21 at hf
  refine lv_ldc (v := 100000000) hx hb hown (hts _ kw_484) dX0_at_21 ?_
  obtain ⟨he1, he2⟩ := s_ret hf
  exact W.iret hx hb hr (fun t ht hW => ⟨⟨_, (), rfl, he1, s_fin (Wd := (s_WC cy ad)) ht he2 hP⟩, hS.F ht⟩) hS.2.2 dX0_at_23 hlk
set_option maxRecDepth 100000 in
set_option maxHeartbeats 4000000 in
theorem kX0_at (C : s_X p s m meth c args cX0_at (some .int) 2 RX0 G cy sa ad 27) (σ : Sg) (x1 : Int32) (ls : Array Slot) (H : Heap) (locs : List Loc) (hl : lv_has ls 2 [(0, .ref (ad 8)), (1, .int x1)]) (hP : va_P G vwCl ((s_WC cy ad) σ) H) (hS : va_S (s_A ad 27 s.heap.size) s.heap H locs) (hf : fX0_at σ x1 = some (re, σe)) : W p l e ({ frames := 0, cells := 0, slots := 0, locals := 0 } : Room) s m args below meth c H locs 0 0 (MQ below (s_Qi (s_WC cy ad) G (s_A ad 27 s.heap.size) re σe) args s 0 0 (s_A ad 27 s.heap.size)) (F0 m 0 ls []) := by
  obtain ⟨hx, hb, hr, hml, hown, hts, hlk, hK, hE, hI⟩ := id C
  have hD : ∀ σ : Sg, va_D (s_A ad 27 s.heap.size) ((s_WC cy ad) σ) := fun σ => s_D (s_WC_ad cy ad σ) hI (fun k hk => Or.inl ⟨k, hk, rfl⟩)
  unfold fX0_at at hf
  refine lv_iload_n hx hb dX0_at_0 rfl (lv_at hl 1 rfl) ?_
  refine lv_if_lt (tgt := 21) hx hb dX0_at_1 (by decide) (fun c1 => ?_) (fun c1 => ?_)
  · rw [if_pos c1] at hf
    exact kX0_at_b21 C σ _ _ _ (lv_sub hl [] rfl) hP hS hf
  · rw [if_neg c1] at hf
    refine lv_iload_n hx hb dX0_at_4 rfl (lv_at hl 1 rfl) ?_
    refine lv_aload_n hx hb dX0_at_5 rfl (lv_at hl 0 rfl) ?_
    refine va_get (D := G) (ci := 0) (v := .int (σ 8 2)) (C := RX0) (T := TX0) (N := 3) hx hb hts inkX0 hown hK hP 8 rfl rfl 2 (by decide) (hts _ kw_206) (fun _ h9 => h9) rfl dX0_at_6 ?_
    refine lv_icmp_ge (tgt := 21) hx hb dX0_at_9 (by decide) (fun c2 => ?_) (fun c2 => ?_)
    · rw [if_pos c2] at hf
      exact kX0_at_b21 C σ _ _ _ (lv_sub hl [] rfl) hP hS hf
    · rw [if_neg c2] at hf
      refine lv_aload_n hx hb dX0_at_12 rfl (lv_at hl 0 rfl) ?_
      refine va_get (D := G) (ci := 0) (v := .ref (ad 9)) (C := RX0) (T := TX0) (N := 3) hx hb hts inkX0 hown hK hP 8 rfl rfl 1 (by decide) (hts _ kw_205) (fun _ h9 => h9) rfl dX0_at_13 ?_
      refine lv_iload_n hx hb dX0_at_16 rfl (lv_at hl 1 rfl) ?_
      replace hf := s_gd_some hf
      obtain ⟨g3, hf⟩ := hf
      refine va_iald hx hb hK hP 9 1 rfl rfl (s_in_of g3) dX0_at_17 ?_
      refine lv_goto (tgt := 23) hx hb dX0_at_18 (by decide) ?_
      obtain ⟨he1, he2⟩ := s_ret hf
      exact W.iret hx hb hr (fun t ht hW => ⟨⟨_, (), rfl, he1, s_fin (Wd := (s_WC cy ad)) ht he2 hP⟩, hS.F ht⟩) hS.2.2 dX0_at_23 hlk
theorem kcX0_at {l : Launch} {G : va_G} {cy : Nat → ClassId} {sa : Nat × Nat} {ad : Nat → Nat}  {sz : Nat} (hI : s_inj ad 27) (σ : Sg) (x1 : Int32) {re : Int32} {σe : Sg} (hf : fX0_at σ x1 = some (re, σe)) : Met l yX0_at (kW yX0_at cX0_at 2 (some .int)) ({ frames := 0, cells := 0, slots := 0, locals := 0 } : Room) (s_P (s_WC cy ad) G cy sa ad 27 [.ref (ad 8), .int x1] sz σ) (s_Qi (s_WC cy ad) G (s_A ad 27 sz) re σe) 0 0 (s_A ad 27 sz) := by
  refine s_met (own := RX0) (by decide) rfl hI (Nat.le_of_ble_eq_true rfl) (fun p e s m below meth c ls hsz C hP hl => ?_)
  subst hsz
  exact kX0_at C σ x1 ls _ _ hl hP va_S.rf hf
set_option maxRecDepth 100000 in
set_option maxHeartbeats 4000000 in
theorem kX6_item (C : s_X p s m meth c args cX6_item (some .int) 3 RX6 G cy sa ad 27) (σ : Sg) (x1 : Int32) (x2 : Int32) (ls : Array Slot) (H : Heap) (locs : List Loc) (hl : lv_has ls 3 [(0, .ref (ad 0)), (1, .int x1), (2, .int x2)]) (hP : va_P G vwCl ((s_WC cy ad) σ) H) (hS : va_S (s_A ad 27 s.heap.size) s.heap H locs) (hf : fX6_item σ x1 x2 = some (re, σe)) : W p l e ({ frames := 3, cells := 0, slots := 0, locals := 64 } : Room) s m args below meth c H locs 0 0 (MQ below (s_Qi (s_WC cy ad) G (s_A ad 27 s.heap.size) re σe) args s 0 0 (s_A ad 27 s.heap.size)) (F0 m 0 ls []) := by
  obtain ⟨hx, hb, hr, hml, hown, hts, hlk, hK, hE, hI⟩ := id C
  have hD : ∀ σ : Sg, va_D (s_A ad 27 s.heap.size) ((s_WC cy ad) σ) := fun σ => s_D (s_WC_ad cy ad σ) hI (fun k hk => Or.inl ⟨k, hk, rfl⟩)
  unfold fX6_item at hf
  refine lv_aload_n hx hb dX6_item_0 rfl (lv_at hl 0 rfl) ?_
  refine va_get (D := G) (ci := 6) (v := .ref (ad 6)) (C := RX6) (T := TX6) (N := 9) hx hb hts inkX6 hown hK hP 0 rfl rfl 2 (by decide) (hts _ kw_252) (fun _ h9 => h9) rfl dX6_item_1 ?_
  refine lv_iload_n hx hb dX6_item_4 rfl (lv_at hl 1 rfl) ?_
  replace hf := s_bi_some hf
  obtain ⟨r3, σ1, hz2, hf⟩ := hf
  refine s_calli (nn := 1) C (kcX1_has_6 (l := l) (G := G) (cy := cy) (sa := sa) hI (sz := H.size) σ x1 hz2) gk_X6_124 rfl rfl (by decide +kernel) ⟨Nat.le_of_ble_eq_true rfl, Nat.le_of_ble_eq_true rfl⟩ hP hS (q0 := 6) (ci := 1) rfl rfl rfl (As := [.int x1]) (rest := []) rfl rfl hl.1 (Nat.le_of_ble_eq_true rfl) dX6_item_5 (fun H locs hP hS => ?_)
  refine lv_if_ne (tgt := 14) hx hb dX6_item_8 (by decide) (fun c4 => ?_) (fun c4 => ?_)
  · rw [if_neg c4] at hf
    refine lv_aload_n hx hb dX6_item_14 rfl (lv_at hl 0 rfl) ?_
    refine va_get (D := G) (ci := 6) (v := .ref (ad 8)) (C := RX6) (T := TX6) (N := 9) hx hb hts inkX6 hown hK hP 0 rfl rfl 3 (by decide) (hts _ kw_253) (fun _ h9 => h9) rfl dX6_item_15 ?_
    refine lv_iload_n hx hb dX6_item_18 rfl (lv_at hl 1 rfl) ?_
    replace hf := s_bv_some hf
    obtain ⟨σ5, hz6, hf⟩ := hf
    refine s_callv (nn := 1) C (kcX0_load (l := l) (G := G) (cy := cy) (sa := sa) hI (sz := H.size) σ1 x1 hz6) gk_X6_128 rfl rfl (by decide +kernel) ⟨Nat.le_of_ble_eq_true rfl, Nat.le_of_ble_eq_true rfl⟩ hP hS (q0 := 8) (ci := 0) rfl rfl rfl (As := [.int x1]) (rest := []) rfl rfl hl.1 (Nat.le_of_ble_eq_true rfl) dX6_item_19 (fun H locs hP hS => ?_)
    refine lv_aload_n hx hb dX6_item_22 rfl (lv_at hl 0 rfl) ?_
    refine va_get (D := G) (ci := 6) (v := .ref (ad 8)) (C := RX6) (T := TX6) (N := 9) hx hb hts inkX6 hown hK hP 0 rfl rfl 3 (by decide) (hts _ kw_253) (fun _ h9 => h9) rfl dX6_item_23 ?_
    refine lv_iload_n hx hb dX6_item_26 rfl (lv_at hl 2 rfl) ?_
    replace hf := s_bi_some hf
    obtain ⟨r9, σ7, hz8, hf⟩ := hf
    refine s_calli (nn := 1) C (kcX0_at (l := l) (G := G) (cy := cy) (sa := sa) hI (sz := H.size) σ5 x2 hz8) gk_X6_144 rfl rfl (by decide +kernel) ⟨Nat.le_of_ble_eq_true rfl, Nat.le_of_ble_eq_true rfl⟩ hP hS (q0 := 8) (ci := 0) rfl rfl rfl (As := [.int x2]) (rest := []) rfl rfl hl.1 (Nat.le_of_ble_eq_true rfl) dX6_item_27 (fun H locs hP hS => ?_)
    obtain ⟨he1, he2⟩ := s_ret hf
    exact W.iret hx hb hr (fun t ht hW => ⟨⟨_, (), rfl, he1, s_fin (Wd := (s_WC cy ad)) ht he2 hP⟩, hS.F ht⟩) hS.2.2 dX6_item_30 hlk
  · rw [if_pos c4] at hf
    refine lv_ldc (v := 100000000) hx hb hown (hts _ kw_517) dX6_item_11 ?_
    obtain ⟨he1, he2⟩ := s_ret hf
    exact W.iret hx hb hr (fun t ht hW => ⟨⟨_, (), rfl, he1, s_fin (Wd := (s_WC cy ad)) ht he2 hP⟩, hS.F ht⟩) hS.2.2 dX6_item_13 hlk
theorem kcX6_item {l : Launch} {G : va_G} {cy : Nat → ClassId} {sa : Nat × Nat} {ad : Nat → Nat}  {sz : Nat} (hI : s_inj ad 27) (σ : Sg) (x1 : Int32) (x2 : Int32) {re : Int32} {σe : Sg} (hf : fX6_item σ x1 x2 = some (re, σe)) : Met l yX6_item (kW yX6_item cX6_item 3 (some .int)) ({ frames := 3, cells := 0, slots := 0, locals := 64 } : Room) (s_P (s_WC cy ad) G cy sa ad 27 [.ref (ad 0), .int x1, .int x2] sz σ) (s_Qi (s_WC cy ad) G (s_A ad 27 sz) re σe) 0 0 (s_A ad 27 sz) := by
  refine s_met (own := RX6) (by decide) rfl hI (Nat.le_of_ble_eq_true rfl) (fun p e s m below meth c ls hsz C hP hl => ?_)
  subst hsz
  exact kX6_item C σ x1 x2 ls _ _ hl hP va_S.rf hf
set_option maxRecDepth 100000 in
set_option maxHeartbeats 4000000 in
theorem kX0_isNearLower_b32 (C : s_X p s m meth c args cX0_isNearLower (some .boolean) 3 RX0 G cy sa ad 27) (σ : Sg) (ls : Array Slot) (H : Heap) (locs : List Loc) (hl : lv_has ls 3 []) (hP : va_P G vwCl ((s_WC cy ad) σ) H) (hS : va_S (s_A ad 27 s.heap.size) s.heap H locs) (hf : fX0_isNearLower_b32 σ = some (re, σe)) : W p l e ({ frames := 0, cells := 0, slots := 0, locals := 0 } : Room) s m args below meth c H locs 0 0 (MQ below (s_Qi (s_WC cy ad) G (s_A ad 27 s.heap.size) re σe) args s 0 0 (s_A ad 27 s.heap.size)) (F0 m 32 ls []) := by
  obtain ⟨hx, hb, hr, hml, hown, hts, hlk, hK, hE, hI⟩ := id C
  have hD : ∀ σ : Sg, va_D (s_A ad 27 s.heap.size) ((s_WC cy ad) σ) := fun σ => s_D (s_WC_ad cy ad σ) hI (fun k hk => Or.inl ⟨k, hk, rfl⟩)
  unfold fX0_isNearLower_b32 at hf
  refine lv_iconst (v := 1) hx hb dX0_isNearLower_32 (by decide) ?_
  refine lv_goto (tgt := 37) hx hb dX0_isNearLower_33 (by decide) ?_
  obtain ⟨he1, he2⟩ := s_ret hf
  exact W.zret hx hb hr rfl (fun t ht hW => ⟨⟨_, (), rfl, he1, s_fin (Wd := (s_WC cy ad)) ht he2 hP⟩, hS.F ht⟩) hS.2.2 dX0_isNearLower_37 hlk
set_option maxRecDepth 100000 in
set_option maxHeartbeats 4000000 in
theorem kX0_isNearLower_b36 (C : s_X p s m meth c args cX0_isNearLower (some .boolean) 3 RX0 G cy sa ad 27) (σ : Sg) (ls : Array Slot) (H : Heap) (locs : List Loc) (hl : lv_has ls 3 []) (hP : va_P G vwCl ((s_WC cy ad) σ) H) (hS : va_S (s_A ad 27 s.heap.size) s.heap H locs) (hf : fX0_isNearLower_b36 σ = some (re, σe)) : W p l e ({ frames := 0, cells := 0, slots := 0, locals := 0 } : Room) s m args below meth c H locs 0 0 (MQ below (s_Qi (s_WC cy ad) G (s_A ad 27 s.heap.size) re σe) args s 0 0 (s_A ad 27 s.heap.size)) (F0 m 36 ls []) := by
  obtain ⟨hx, hb, hr, hml, hown, hts, hlk, hK, hE, hI⟩ := id C
  have hD : ∀ σ : Sg, va_D (s_A ad 27 s.heap.size) ((s_WC cy ad) σ) := fun σ => s_D (s_WC_ad cy ad σ) hI (fun k hk => Or.inl ⟨k, hk, rfl⟩)
  unfold fX0_isNearLower_b36 at hf
  refine lv_iconst (v := 0) hx hb dX0_isNearLower_36 (by decide) ?_
  obtain ⟨he1, he2⟩ := s_ret hf
  exact W.zret hx hb hr rfl (fun t ht hW => ⟨⟨_, (), rfl, he1, s_fin (Wd := (s_WC cy ad)) ht he2 hP⟩, hS.F ht⟩) hS.2.2 dX0_isNearLower_37 hlk
set_option maxRecDepth 100000 in
set_option maxHeartbeats 4000000 in
theorem kX0_isNearLower (C : s_X p s m meth c args cX0_isNearLower (some .boolean) 3 RX0 G cy sa ad 27) (σ : Sg) (x1 : Int32) (x2 : Int32) (ls : Array Slot) (H : Heap) (locs : List Loc) (hl : lv_has ls 3 [(0, .ref (ad 8)), (1, .int x1), (2, .int x2)]) (hP : va_P G vwCl ((s_WC cy ad) σ) H) (hS : va_S (s_A ad 27 s.heap.size) s.heap H locs) (hf : fX0_isNearLower σ x1 x2 = some (re, σe)) : W p l e ({ frames := 0, cells := 0, slots := 0, locals := 0 } : Room) s m args below meth c H locs 0 0 (MQ below (s_Qi (s_WC cy ad) G (s_A ad 27 s.heap.size) re σe) args s 0 0 (s_A ad 27 s.heap.size)) (F0 m 0 ls []) := by
  obtain ⟨hx, hb, hr, hml, hown, hts, hlk, hK, hE, hI⟩ := id C
  have hD : ∀ σ : Sg, va_D (s_A ad 27 s.heap.size) ((s_WC cy ad) σ) := fun σ => s_D (s_WC_ad cy ad σ) hI (fun k hk => Or.inl ⟨k, hk, rfl⟩)
  unfold fX0_isNearLower at hf
  refine lv_iconst (v := 2) hx hb dX0_isNearLower_0 (by decide) ?_
  refine lv_iload_n hx hb dX0_isNearLower_1 rfl (lv_at hl 2 rfl) ?_
  refine lv_imul hx hb dX0_isNearLower_2 ?_
  refine lv_aload_n hx hb dX0_isNearLower_3 rfl (lv_at hl 0 rfl) ?_
  refine va_get (D := G) (ci := 0) (v := .ref (ad 6)) (C := RX0) (T := TX0) (N := 3) hx hb hts inkX0 hown hK hP 8 rfl rfl 0 (by decide) (hts _ kw_204) (fun _ h9 => h9) rfl dX0_isNearLower_4 ?_
  refine va_getN (D := G) (ci := 1) (v := .int (σ 6 5)) (C := RX1) (T := TX1) (N := 8) hx hb hts inkX1 hown hK hP 6 rfl rfl 5 (by decide) (kn_X0_55 hE) (fun _ h9 => h9) rfl dX0_isNearLower_7 ?_
  refine lv_icmp_lt (tgt := 32) hx hb dX0_isNearLower_10 (by decide) (fun c1 => ?_) (fun c1 => ?_)
  · rw [if_pos c1] at hf
    exact kX0_isNearLower_b32 C σ _ _ _ (lv_sub hl [] rfl) hP hS hf
  · rw [if_neg c1] at hf
    refine lv_iconst (v := 2) hx hb dX0_isNearLower_13 (by decide) ?_
    refine lv_iload_n hx hb dX0_isNearLower_14 rfl (lv_at hl 2 rfl) ?_
    refine lv_imul hx hb dX0_isNearLower_15 ?_
    refine lv_aload_n hx hb dX0_isNearLower_16 rfl (lv_at hl 0 rfl) ?_
    refine va_get (D := G) (ci := 0) (v := .ref (ad 6)) (C := RX0) (T := TX0) (N := 3) hx hb hts inkX0 hown hK hP 8 rfl rfl 0 (by decide) (hts _ kw_204) (fun _ h9 => h9) rfl dX0_isNearLower_17 ?_
    refine va_getN (D := G) (ci := 1) (v := .int (σ 6 5)) (C := RX1) (T := TX1) (N := 8) hx hb hts inkX1 hown hK hP 6 rfl rfl 5 (by decide) (kn_X0_55 hE) (fun _ h9 => h9) rfl dX0_isNearLower_20 ?_
    refine lv_icmp_ne (tgt := 36) hx hb dX0_isNearLower_23 (by decide) (fun c2 => ?_) (fun c2 => ?_)
    · rw [if_neg c2] at hf
      exact kX0_isNearLower_b36 C σ _ _ _ (lv_sub hl [] rfl) hP hS hf
    · rw [if_pos c2] at hf
      refine lv_iload_n hx hb dX0_isNearLower_26 rfl (lv_at hl 1 rfl) ?_
      refine lv_iconst (v := 2) hx hb dX0_isNearLower_27 (by decide) ?_
      refine lv_irem hx hb dX0_isNearLower_28 (by decide) ?_
      refine lv_topi (fun t3 et3 => ?_)
      replace hf := s_lt_at et3 hf
      refine lv_if_ne (tgt := 36) hx hb dX0_isNearLower_29 (by decide) (fun c4 => ?_) (fun c4 => ?_)
      · rw [if_neg c4] at hf
        exact kX0_isNearLower_b36 C σ _ _ _ (lv_sub hl [] rfl) hP hS hf
      · rw [if_pos c4] at hf
        exact kX0_isNearLower_b32 C σ _ _ _ (lv_sub hl [] rfl) hP hS hf
theorem kcX0_isNearLower {l : Launch} {G : va_G} {cy : Nat → ClassId} {sa : Nat × Nat} {ad : Nat → Nat}  {sz : Nat} (hI : s_inj ad 27) (σ : Sg) (x1 : Int32) (x2 : Int32) {re : Int32} {σe : Sg} (hf : fX0_isNearLower σ x1 x2 = some (re, σe)) : Met l yX0_isNearLower (kW yX0_isNearLower cX0_isNearLower 3 (some .boolean)) ({ frames := 0, cells := 0, slots := 0, locals := 0 } : Room) (s_P (s_WC cy ad) G cy sa ad 27 [.ref (ad 8), .int x1, .int x2] sz σ) (s_Qi (s_WC cy ad) G (s_A ad 27 sz) re σe) 0 0 (s_A ad 27 sz) := by
  refine s_met (own := RX0) (by decide) rfl hI (Nat.le_of_ble_eq_true rfl) (fun p e s m below meth c ls hsz C hP hl => ?_)
  subst hsz
  exact kX0_isNearLower C σ x1 x2 ls _ _ hl hP va_S.rf hf
set_option maxRecDepth 100000 in
set_option maxHeartbeats 4000000 in
theorem kX0_numerator_b31 (C : s_X p s m meth c args cX0_numerator (some .int) 5 RX0 G cy sa ad 27) (σ : Sg) (x1 : Int32) (x2 : Int32) (x3 : Int32) (y0 : Int32) (ls : Array Slot) (H : Heap) (locs : List Loc) (hl : lv_has ls 5 [(0, .ref (ad 8)), (1, .int x1), (2, .int x2), (3, .int x3)]) (hP : va_P G vwCl ((s_WC cy ad) σ) H) (hS : va_S (s_A ad 27 s.heap.size) s.heap H locs) (hf : fX0_numerator_b31 σ x1 x2 x3 y0 = some (re, σe)) : W p l e ({ frames := 1, cells := 0, slots := 0, locals := 22 } : Room) s m args below meth c H locs 0 0 (MQ below (s_Qi (s_WC cy ad) G (s_A ad 27 s.heap.size) re σe) args s 0 0 (s_A ad 27 s.heap.size)) (F0 m 31 ls [.int y0]) := by
  obtain ⟨hx, hb, hr, hml, hown, hts, hlk, hK, hE, hI⟩ := id C
  have hD : ∀ σ : Sg, va_D (s_A ad 27 s.heap.size) ((s_WC cy ad) σ) := fun σ => s_D (s_WC_ad cy ad σ) hI (fun k hk => Or.inl ⟨k, hk, rfl⟩)
  unfold fX0_numerator_b31 at hf
  refine lv_istore (lv' := [(4, .int y0), (0, .ref (ad 8)), (1, .int x1), (2, .int x2), (3, .int x3)]) hx hb dX0_numerator_31 hl (by decide) rfl (fun ls hl => ?_)
  refine lv_aload_n hx hb dX0_numerator_33 rfl (lv_at hl 1 rfl) ?_
  refine va_get (D := G) (ci := 0) (v := .ref (ad 6)) (C := RX0) (T := TX0) (N := 3) hx hb hts inkX0 hown hK hP 8 rfl rfl 0 (by decide) (hts _ kw_204) (fun _ h9 => h9) rfl dX0_numerator_34 ?_
  refine va_getN (D := G) (ci := 1) (v := .int (σ 6 6)) (C := RX1) (T := TX1) (N := 8) hx hb hts inkX1 hown hK hP 6 rfl rfl 6 (by decide) (kn_X0_71 hE) (fun _ h9 => h9) rfl dX0_numerator_37 ?_
  by_cases c1 : (σ 6 6) = 0
  · rw [if_pos c1] at hf
    refine lv_tableIn (off := 32) (tgt := 72) hx hb dX0_numerator_40 (by rw [c1]; decide) (by rw [c1]; decide) (by rw [c1]; rfl) (by decide) ?_
    refine lv_iload_n hx hb dX0_numerator_72 rfl (lv_at hl 4 rfl) ?_
    obtain ⟨he1, he2⟩ := s_ret hf
    exact W.iret hx hb hr (fun t ht hW => ⟨⟨_, (), rfl, he1, s_fin (Wd := (s_WC cy ad)) ht he2 hP⟩, hS.F ht⟩) hS.2.2 dX0_numerator_73 hlk
  · rw [if_neg c1] at hf
    by_cases c2 : (σ 6 6) = 1
    · rw [if_pos c2] at hf
      refine lv_tableIn (off := 34) (tgt := 74) hx hb dX0_numerator_40 (by rw [c2]; decide) (by rw [c2]; decide) (by rw [c2]; rfl) (by decide) ?_
      refine lv_iload hx hb dX0_numerator_74 (lv_at hl 0 rfl) ?_
      obtain ⟨he1, he2⟩ := s_ret hf
      exact W.iret hx hb hr (fun t ht hW => ⟨⟨_, (), rfl, he1, s_fin (Wd := (s_WC cy ad)) ht he2 hP⟩, hS.F ht⟩) hS.2.2 dX0_numerator_76 hlk
    · rw [if_neg c2] at hf
      by_cases c3 : (σ 6 6) = 2
      · rw [if_pos c3] at hf
        refine lv_tableIn (off := 37) (tgt := 77) hx hb dX0_numerator_40 (by rw [c3]; decide) (by rw [c3]; decide) (by rw [c3]; rfl) (by decide) ?_
        refine lv_aload_n hx hb dX0_numerator_77 rfl (lv_at hl 1 rfl) ?_
        refine lv_iload_n hx hb dX0_numerator_78 rfl (lv_at hl 2 rfl) ?_
        refine lv_iload_n hx hb dX0_numerator_79 rfl (lv_at hl 3 rfl) ?_
        replace hf := s_bi_some hf
        obtain ⟨r6, σ4, hz5, hf⟩ := hf
        refine s_calli (nn := 2) C (kcX0_isNearLower (l := l) (G := G) (cy := cy) (sa := sa) hI (sz := H.size) σ x1 x2 hz5) gk_X0_74 rfl rfl (by decide +kernel) ⟨Nat.le_of_ble_eq_true rfl, Nat.le_of_ble_eq_true rfl⟩ hP hS (q0 := 8) (ci := 0) rfl rfl rfl (As := [.int x1, .int x2]) (rest := []) rfl rfl hl.1 (Nat.le_of_ble_eq_true rfl) dX0_numerator_80 (fun H locs hP hS => ?_)
        refine lv_if_eq (tgt := 90) hx hb dX0_numerator_83 (by decide) (fun c7 => ?_) (fun c7 => ?_)
        · rw [if_pos c7] at hf
          refine lv_iload hx hb dX0_numerator_90 (lv_at hl 0 rfl) ?_
          obtain ⟨he1, he2⟩ := s_ret hf
          exact W.iret hx hb hr (fun t ht hW => ⟨⟨_, (), rfl, he1, s_fin (Wd := (s_WC cy ad)) ht he2 hP⟩, hS.F ht⟩) hS.2.2 dX0_numerator_92 hlk
        · rw [if_neg c7] at hf
          refine lv_iload_n hx hb dX0_numerator_86 rfl (lv_at hl 4 rfl) ?_
          refine lv_goto (tgt := 92) hx hb dX0_numerator_87 (by decide) ?_
          obtain ⟨he1, he2⟩ := s_ret hf
          exact W.iret hx hb hr (fun t ht hW => ⟨⟨_, (), rfl, he1, s_fin (Wd := (s_WC cy ad)) ht he2 hP⟩, hS.F ht⟩) hS.2.2 dX0_numerator_92 hlk
      · rw [if_neg c3] at hf
        by_cases c8 : (σ 6 6) = 3
        · rw [if_pos c8] at hf
          refine lv_tableIn (off := 53) (tgt := 93) hx hb dX0_numerator_40 (by rw [c8]; decide) (by rw [c8]; decide) (by rw [c8]; rfl) (by decide) ?_
          refine lv_iload_n hx hb dX0_numerator_93 rfl (lv_at hl 4 rfl) ?_
          refine lv_iload hx hb dX0_numerator_94 (lv_at hl 0 rfl) ?_
          refine lv_iadd hx hb dX0_numerator_96 ?_
          obtain ⟨he1, he2⟩ := s_ret hf
          exact W.iret hx hb hr (fun t ht hW => ⟨⟨_, (), rfl, he1, s_fin (Wd := (s_WC cy ad)) ht he2 hP⟩, hS.F ht⟩) hS.2.2 dX0_numerator_97 hlk
        · rw [if_neg c8] at hf
          have qc1 := lv_neT c1 (a := 0) (by decide)
          have qc2 := lv_neT c2 (a := 1) (by decide)
          have qc3 := lv_neT c3 (a := 2) (by decide)
          have qc8 := lv_neT c8 (a := 3) (by decide)
          refine lv_tableOut (tgt := 98) hx hb dX0_numerator_40 (by omega) (by decide) ?_
          refine lv_iload_n hx hb dX0_numerator_98 rfl (lv_at hl 4 rfl) ?_
          refine lv_aload_n hx hb dX0_numerator_99 rfl (lv_at hl 1 rfl) ?_
          refine va_get (D := G) (ci := 0) (v := .ref (ad 6)) (C := RX0) (T := TX0) (N := 3) hx hb hts inkX0 hown hK hP 8 rfl rfl 0 (by decide) (hts _ kw_204) (fun _ h9 => h9) rfl dX0_numerator_100 ?_
          refine va_getN (D := G) (ci := 1) (v := .int (σ 6 5)) (C := RX1) (T := TX1) (N := 8) hx hb hts inkX1 hown hK hP 6 rfl rfl 5 (by decide) (kn_X0_55 hE) (fun _ h9 => h9) rfl dX0_numerator_103 ?_
          refine lv_iload_n hx hb dX0_numerator_106 rfl (lv_at hl 3 rfl) ?_
          refine lv_isub hx hb dX0_numerator_107 ?_
          refine lv_imul hx hb dX0_numerator_108 ?_
          refine lv_iload hx hb dX0_numerator_109 (lv_at hl 0 rfl) ?_
          refine lv_iload_n hx hb dX0_numerator_111 rfl (lv_at hl 3 rfl) ?_
          refine lv_imul hx hb dX0_numerator_112 ?_
          refine lv_iadd hx hb dX0_numerator_113 ?_
          obtain ⟨he1, he2⟩ := s_ret hf
          exact W.iret hx hb hr (fun t ht hW => ⟨⟨_, (), rfl, he1, s_fin (Wd := (s_WC cy ad)) ht he2 hP⟩, hS.F ht⟩) hS.2.2 dX0_numerator_114 hlk
set_option maxRecDepth 100000 in
set_option maxHeartbeats 4000000 in
theorem kX0_numerator (C : s_X p s m meth c args cX0_numerator (some .int) 5 RX0 G cy sa ad 27) (σ : Sg) (ls : Array Slot) (H : Heap) (locs : List Loc) (hl : lv_has ls 5 [(0, .ref (ad 8))]) (hP : va_P G vwCl ((s_WC cy ad) σ) H) (hS : va_S (s_A ad 27 s.heap.size) s.heap H locs) (hf : fX0_numerator σ = some (re, σe)) : W p l e ({ frames := 1, cells := 0, slots := 0, locals := 22 } : Room) s m args below meth c H locs 0 0 (MQ below (s_Qi (s_WC cy ad) G (s_A ad 27 s.heap.size) re σe) args s 0 0 (s_A ad 27 s.heap.size)) (F0 m 0 ls []) := by
  obtain ⟨hx, hb, hr, hml, hown, hts, hlk, hK, hE, hI⟩ := id C
  have hD : ∀ σ : Sg, va_D (s_A ad 27 s.heap.size) ((s_WC cy ad) σ) := fun σ => s_D (s_WC_ad cy ad σ) hI (fun k hk => Or.inl ⟨k, hk, rfl⟩)
  unfold fX0_numerator at hf
  refine lv_aload_n hx hb dX0_numerator_0 rfl (lv_at hl 0 rfl) ?_
  replace hf := s_bi_some hf
  obtain ⟨r3, σ1, hz2, hf⟩ := hf
  refine s_calli (nn := 0) C (kcX0_placeWhole (l := l) (G := G) (cy := cy) (sa := sa) hI (sz := H.size) σ hz2) gk_X0_61 rfl rfl (by decide +kernel) ⟨Nat.le_of_ble_eq_true rfl, Nat.le_of_ble_eq_true rfl⟩ hP hS (q0 := 8) (ci := 0) rfl rfl rfl (As := []) (rest := []) rfl rfl hl.1 (Nat.le_of_ble_eq_true rfl) dX0_numerator_1 (fun H locs hP hS => ?_)
  refine lv_istore_n (lv' := [(1, .int r3), (0, .ref (ad 8))]) hx hb dX0_numerator_4 rfl hl (by decide) rfl (fun ls hl => ?_)
  refine lv_aload_n hx hb dX0_numerator_5 rfl (lv_at hl 1 rfl) ?_
  replace hf := s_bi_some hf
  obtain ⟨r6, σ4, hz5, hf⟩ := hf
  refine s_calli (nn := 0) C (kcX0_placeRest (l := l) (G := G) (cy := cy) (sa := sa) hI (sz := H.size) σ1 hz5) gk_X0_65 rfl rfl (by decide +kernel) ⟨Nat.le_of_ble_eq_true rfl, Nat.le_of_ble_eq_true rfl⟩ hP hS (q0 := 8) (ci := 0) rfl rfl rfl (As := []) (rest := []) rfl rfl hl.1 (Nat.le_of_ble_eq_true rfl) dX0_numerator_6 (fun H locs hP hS => ?_)
  refine lv_istore_n (lv' := [(2, .int r6), (1, .int r3), (0, .ref (ad 8))]) hx hb dX0_numerator_9 rfl hl (by decide) rfl (fun ls hl => ?_)
  refine lv_aload_n hx hb dX0_numerator_10 rfl (lv_at hl 2 rfl) ?_
  refine lv_iload_n hx hb dX0_numerator_11 rfl (lv_at hl 1 rfl) ?_
  replace hf := s_bi_some hf
  obtain ⟨r9, σ7, hz8, hf⟩ := hf
  refine s_calli (nn := 1) C (kcX0_at (l := l) (G := G) (cy := cy) (sa := sa) hI (sz := H.size) σ4 r3 hz8) gk_X0_68 rfl rfl (by decide +kernel) ⟨Nat.le_of_ble_eq_true rfl, Nat.le_of_ble_eq_true rfl⟩ hP hS (q0 := 8) (ci := 0) rfl rfl rfl (As := [.int r3]) (rest := []) rfl rfl hl.1 (Nat.le_of_ble_eq_true rfl) dX0_numerator_12 (fun H locs hP hS => ?_)
  refine lv_istore_n (lv' := [(3, .int r9), (2, .int r6), (1, .int r3), (0, .ref (ad 8))]) hx hb dX0_numerator_15 rfl hl (by decide) rfl (fun ls hl => ?_)
  refine lv_iload_n hx hb dX0_numerator_16 rfl (lv_at hl 1 rfl) ?_
  refine lv_if_le (tgt := 30) hx hb dX0_numerator_17 (by decide) (fun c10 => ?_) (fun c10 => ?_)
  · rw [if_pos c10] at hf
    refine lv_iload_n hx hb dX0_numerator_30 rfl (lv_at hl 0 rfl) ?_
    exact kX0_numerator_b31 C σ7 r3 r6 r9 r9 _ _ _ (lv_sub hl [3, 2, 1, 0] rfl) hP hS hf
  · rw [if_neg c10] at hf
    refine lv_aload_n hx hb dX0_numerator_20 rfl (lv_at hl 3 rfl) ?_
    refine lv_iload_n hx hb dX0_numerator_21 rfl (lv_at hl 2 rfl) ?_
    refine lv_iconst (v := 1) hx hb dX0_numerator_22 (by decide) ?_
    refine lv_iadd hx hb dX0_numerator_23 ?_
    replace hf := s_bi_some hf
    obtain ⟨r13, σ11, hz12, hf⟩ := hf
    refine s_calli (nn := 1) C (kcX0_at (l := l) (G := G) (cy := cy) (sa := sa) hI (sz := H.size) σ7 (r3 + (1 : Int32)) hz12) gk_X0_68 rfl rfl (by decide +kernel) ⟨Nat.le_of_ble_eq_true rfl, Nat.le_of_ble_eq_true rfl⟩ hP hS (q0 := 8) (ci := 0) rfl rfl rfl (As := [.int (r3 + (1 : Int32))]) (rest := []) rfl rfl hl.1 (Nat.le_of_ble_eq_true rfl) dX0_numerator_24 (fun H locs hP hS => ?_)
    refine lv_goto (tgt := 31) hx hb dX0_numerator_27 (by decide) ?_
    exact kX0_numerator_b31 C σ11 r3 r6 r9 r13 _ _ _ (lv_sub hl [3, 2, 1, 0] rfl) hP hS hf
theorem kcX0_numerator {l : Launch} {G : va_G} {cy : Nat → ClassId} {sa : Nat × Nat} {ad : Nat → Nat}  {sz : Nat} (hI : s_inj ad 27) (σ : Sg) {re : Int32} {σe : Sg} (hf : fX0_numerator σ = some (re, σe)) : Met l yX0_numerator (kW yX0_numerator cX0_numerator 5 (some .int)) ({ frames := 1, cells := 0, slots := 0, locals := 22 } : Room) (s_P (s_WC cy ad) G cy sa ad 27 [.ref (ad 8)] sz σ) (s_Qi (s_WC cy ad) G (s_A ad 27 sz) re σe) 0 0 (s_A ad 27 sz) := by
  refine s_met (own := RX0) (by decide) rfl hI (Nat.le_of_ble_eq_true rfl) (fun p e s m below meth c ls hsz C hP hl => ?_)
  subst hsz
  exact kX0_numerator C σ ls _ _ hl hP va_S.rf hf
set_option maxRecDepth 100000 in
set_option maxHeartbeats 4000000 in
theorem kX0_denominator (C : s_X p s m meth c args cX0_denominator (some .int) 1 RX0 G cy sa ad 27) (σ : Sg) (ls : Array Slot) (H : Heap) (locs : List Loc) (hl : lv_has ls 1 [(0, .ref (ad 8))]) (hP : va_P G vwCl ((s_WC cy ad) σ) H) (hS : va_S (s_A ad 27 s.heap.size) s.heap H locs) (hf : fX0_denominator σ = some (re, σe)) : W p l e ({ frames := 0, cells := 0, slots := 0, locals := 0 } : Room) s m args below meth c H locs 0 0 (MQ below (s_Qi (s_WC cy ad) G (s_A ad 27 s.heap.size) re σe) args s 0 0 (s_A ad 27 s.heap.size)) (F0 m 0 ls []) := by
  obtain ⟨hx, hb, hr, hml, hown, hts, hlk, hK, hE, hI⟩ := id C
  have hD : ∀ σ : Sg, va_D (s_A ad 27 s.heap.size) ((s_WC cy ad) σ) := fun σ => s_D (s_WC_ad cy ad σ) hI (fun k hk => Or.inl ⟨k, hk, rfl⟩)
  unfold fX0_denominator at hf
  refine lv_aload_n hx hb dX0_denominator_0 rfl (lv_at hl 0 rfl) ?_
  refine va_get (D := G) (ci := 0) (v := .ref (ad 6)) (C := RX0) (T := TX0) (N := 3) hx hb hts inkX0 hown hK hP 8 rfl rfl 0 (by decide) (hts _ kw_204) (fun _ h9 => h9) rfl dX0_denominator_1 ?_
  refine va_getN (D := G) (ci := 1) (v := .int (σ 6 6)) (C := RX1) (T := TX1) (N := 8) hx hb hts inkX1 hown hK hP 6 rfl rfl 6 (by decide) (kn_X0_71 hE) (fun _ h9 => h9) rfl dX0_denominator_4 ?_
  by_cases c1 : (σ 6 6) = 3
  · rw [if_pos c1] at hf
    refine lv_lookup (off := 25) (tgt := 32) hx hb dX0_denominator_7 (by decide) (by rw [c1]; decide) (by decide) ?_
    refine lv_iconst (v := 2) hx hb dX0_denominator_32 (by decide) ?_
    obtain ⟨he1, he2⟩ := s_ret hf
    exact W.iret hx hb hr (fun t ht hW => ⟨⟨_, (), rfl, he1, s_fin (Wd := (s_WC cy ad)) ht he2 hP⟩, hS.F ht⟩) hS.2.2 dX0_denominator_33 hlk
  · rw [if_neg c1] at hf
    by_cases c2 : (σ 6 6) = 4
    · rw [if_pos c2] at hf
      refine lv_lookup (off := 27) (tgt := 34) hx hb dX0_denominator_7 (by decide) (by rw [c2]; decide) (by decide) ?_
      refine lv_aload_n hx hb dX0_denominator_34 rfl (lv_at hl 0 rfl) ?_
      refine va_get (D := G) (ci := 0) (v := .ref (ad 6)) (C := RX0) (T := TX0) (N := 3) hx hb hts inkX0 hown hK hP 8 rfl rfl 0 (by decide) (hts _ kw_204) (fun _ h9 => h9) rfl dX0_denominator_35 ?_
      refine va_getN (D := G) (ci := 1) (v := .int (σ 6 5)) (C := RX1) (T := TX1) (N := 8) hx hb hts inkX1 hown hK hP 6 rfl rfl 5 (by decide) (kn_X0_55 hE) (fun _ h9 => h9) rfl dX0_denominator_38 ?_
      obtain ⟨he1, he2⟩ := s_ret hf
      exact W.iret hx hb hr (fun t ht hW => ⟨⟨_, (), rfl, he1, s_fin (Wd := (s_WC cy ad)) ht he2 hP⟩, hS.F ht⟩) hS.2.2 dX0_denominator_41 hlk
    · rw [if_neg c2] at hf
      refine lv_lookup (off := 35) (tgt := 42) hx hb dX0_denominator_7 (by decide) (by show Op.lookupswitch.offset [(3, 25), (4, 27)] _ _ = _; rw [lv_osw c1 (by decide), lv_osw c2 (by decide)]; rfl) (by decide) ?_
      refine lv_iconst (v := 1) hx hb dX0_denominator_42 (by decide) ?_
      obtain ⟨he1, he2⟩ := s_ret hf
      exact W.iret hx hb hr (fun t ht hW => ⟨⟨_, (), rfl, he1, s_fin (Wd := (s_WC cy ad)) ht he2 hP⟩, hS.F ht⟩) hS.2.2 dX0_denominator_43 hlk
theorem kcX0_denominator {l : Launch} {G : va_G} {cy : Nat → ClassId} {sa : Nat × Nat} {ad : Nat → Nat}  {sz : Nat} (hI : s_inj ad 27) (σ : Sg) {re : Int32} {σe : Sg} (hf : fX0_denominator σ = some (re, σe)) : Met l yX0_denominator (kW yX0_denominator cX0_denominator 1 (some .int)) ({ frames := 0, cells := 0, slots := 0, locals := 0 } : Room) (s_P (s_WC cy ad) G cy sa ad 27 [.ref (ad 8)] sz σ) (s_Qi (s_WC cy ad) G (s_A ad 27 sz) re σe) 0 0 (s_A ad 27 sz) := by
  refine s_met (own := RX0) (by decide) rfl hI (Nat.le_of_ble_eq_true rfl) (fun p e s m below meth c ls hsz C hP hl => ?_)
  subst hsz
  exact kX0_denominator C σ ls _ _ hl hP va_S.rf hf
set_option maxRecDepth 100000 in
set_option maxHeartbeats 4000000 in
theorem kX0_rounded (C : s_X p s m meth c args cX0_rounded (some .int) 4 RX0 G cy sa ad 27) (σ : Sg) (ls : Array Slot) (H : Heap) (locs : List Loc) (hl : lv_has ls 4 [(0, .ref (ad 8))]) (hP : va_P G vwCl ((s_WC cy ad) σ) H) (hS : va_S (s_A ad 27 s.heap.size) s.heap H locs) (hf : fX0_rounded σ = some (re, σe)) : W p l e ({ frames := 2, cells := 0, slots := 0, locals := 46 } : Room) s m args below meth c H locs 0 0 (MQ below (s_Qi (s_WC cy ad) G (s_A ad 27 s.heap.size) re σe) args s 0 0 (s_A ad 27 s.heap.size)) (F0 m 0 ls []) := by
  obtain ⟨hx, hb, hr, hml, hown, hts, hlk, hK, hE, hI⟩ := id C
  have hD : ∀ σ : Sg, va_D (s_A ad 27 s.heap.size) ((s_WC cy ad) σ) := fun σ => s_D (s_WC_ad cy ad σ) hI (fun k hk => Or.inl ⟨k, hk, rfl⟩)
  unfold fX0_rounded at hf
  refine lv_aload_n hx hb dX0_rounded_0 rfl (lv_at hl 0 rfl) ?_
  replace hf := s_bi_some hf
  obtain ⟨r3, σ1, hz2, hf⟩ := hf
  refine s_calli (nn := 0) C (kcX0_numerator (l := l) (G := G) (cy := cy) (sa := sa) hI (sz := H.size) σ hz2) gk_X0_78 rfl rfl (by decide +kernel) ⟨Nat.le_of_ble_eq_true rfl, Nat.le_of_ble_eq_true rfl⟩ hP hS (q0 := 8) (ci := 0) rfl rfl rfl (As := []) (rest := []) rfl rfl hl.1 (Nat.le_of_ble_eq_true rfl) dX0_rounded_1 (fun H locs hP hS => ?_)
  refine lv_istore_n (lv' := [(1, .int r3), (0, .ref (ad 8))]) hx hb dX0_rounded_4 rfl hl (by decide) rfl (fun ls hl => ?_)
  refine lv_aload_n hx hb dX0_rounded_5 rfl (lv_at hl 1 rfl) ?_
  replace hf := s_bi_some hf
  obtain ⟨r6, σ4, hz5, hf⟩ := hf
  refine s_calli (nn := 0) C (kcX0_denominator (l := l) (G := G) (cy := cy) (sa := sa) hI (sz := H.size) σ1 hz5) gk_X0_81 rfl rfl (by decide +kernel) ⟨Nat.le_of_ble_eq_true rfl, Nat.le_of_ble_eq_true rfl⟩ hP hS (q0 := 8) (ci := 0) rfl rfl rfl (As := []) (rest := []) rfl rfl hl.1 (Nat.le_of_ble_eq_true rfl) dX0_rounded_6 (fun H locs hP hS => ?_)
  refine lv_istore_n (lv' := [(2, .int r6), (1, .int r3), (0, .ref (ad 8))]) hx hb dX0_rounded_9 rfl hl (by decide) rfl (fun ls hl => ?_)
  refine lv_iload_n hx hb dX0_rounded_10 rfl (lv_at hl 0 rfl) ?_
  refine lv_iconst (v := 1) hx hb dX0_rounded_11 (by decide) ?_
  refine lv_icmp_ge (tgt := 17) hx hb dX0_rounded_12 (by decide) (fun c7 => ?_) (fun c7 => ?_)
  · rw [if_pos c7] at hf
    refine lv_iconst (v := 2) hx hb dX0_rounded_17 (by decide) ?_
    refine lv_iload_n hx hb dX0_rounded_18 rfl (lv_at hl 1 rfl) ?_
    refine va_mabs hx hb (hml.trans hl.1.symm) hown (hts _ kw_547) (hts _ kw_548) (hts _ kw_69) (hts _ kw_549) (Nat.le_of_ble_eq_true rfl) (Nat.le_of_ble_eq_true rfl) (Nat.zero_le _) (Nat.zero_le _) dX0_rounded_19 ?_
    refine lv_topi (fun t8 et8 => ?_)
    replace hf := s_lt_at et8 hf
    refine lv_imul hx hb dX0_rounded_22 ?_
    refine lv_iload_n hx hb dX0_rounded_23 rfl (lv_at hl 0 rfl) ?_
    refine lv_iadd hx hb dX0_rounded_24 ?_
    refine lv_iconst (v := 2) hx hb dX0_rounded_25 (by decide) ?_
    refine lv_iload_n hx hb dX0_rounded_26 rfl (lv_at hl 0 rfl) ?_
    refine lv_imul hx hb dX0_rounded_27 ?_
    replace hf := s_gd_some hf
    obtain ⟨g9, hf⟩ := hf
    refine lv_idiv hx hb dX0_rounded_28 (s_nz_of g9) ?_
    refine lv_topi (fun t10 et10 => ?_)
    replace hf := s_lt_at et10 hf
    refine lv_istore_n (lv' := [(3, .int t10), (2, .int r6), (1, .int r3), (0, .ref (ad 8))]) hx hb dX0_rounded_29 rfl hl (by decide) rfl (fun ls hl => ?_)
    refine lv_iload_n hx hb dX0_rounded_30 rfl (lv_at hl 2 rfl) ?_
    refine lv_if_ge (tgt := 39) hx hb dX0_rounded_31 (by decide) (fun c11 => ?_) (fun c11 => ?_)
    · rw [if_pos c11] at hf
      refine lv_iload_n hx hb dX0_rounded_39 rfl (lv_at hl 0 rfl) ?_
      obtain ⟨he1, he2⟩ := s_ret hf
      exact W.iret hx hb hr (fun t ht hW => ⟨⟨_, (), rfl, he1, s_fin (Wd := (s_WC cy ad)) ht he2 hP⟩, hS.F ht⟩) hS.2.2 dX0_rounded_40 hlk
    · rw [if_neg c11] at hf
      refine lv_iload_n hx hb dX0_rounded_34 rfl (lv_at hl 0 rfl) ?_
      refine lv_ineg hx hb dX0_rounded_35 ?_
      refine lv_goto (tgt := 40) hx hb dX0_rounded_36 (by decide) ?_
      obtain ⟨he1, he2⟩ := s_ret hf
      exact W.iret hx hb hr (fun t ht hW => ⟨⟨_, (), rfl, he1, s_fin (Wd := (s_WC cy ad)) ht he2 hP⟩, hS.F ht⟩) hS.2.2 dX0_rounded_40 hlk
  · rw [if_neg c7] at hf
    refine lv_iconst (v := 0) hx hb dX0_rounded_15 (by decide) ?_
    obtain ⟨he1, he2⟩ := s_ret hf
    exact W.iret hx hb hr (fun t ht hW => ⟨⟨_, (), rfl, he1, s_fin (Wd := (s_WC cy ad)) ht he2 hP⟩, hS.F ht⟩) hS.2.2 dX0_rounded_16 hlk
theorem kcX0_rounded {l : Launch} {G : va_G} {cy : Nat → ClassId} {sa : Nat × Nat} {ad : Nat → Nat}  {sz : Nat} (hI : s_inj ad 27) (σ : Sg) {re : Int32} {σe : Sg} (hf : fX0_rounded σ = some (re, σe)) : Met l yX0_rounded (kW yX0_rounded cX0_rounded 4 (some .int)) ({ frames := 2, cells := 0, slots := 0, locals := 46 } : Room) (s_P (s_WC cy ad) G cy sa ad 27 [.ref (ad 8)] sz σ) (s_Qi (s_WC cy ad) G (s_A ad 27 sz) re σe) 0 0 (s_A ad 27 sz) := by
  refine s_met (own := RX0) (by decide) rfl hI (Nat.le_of_ble_eq_true rfl) (fun p e s m below meth c ls hsz C hP hl => ?_)
  subst hsz
  exact kX0_rounded C σ ls _ _ hl hP va_S.rf hf
set_option maxRecDepth 100000 in
set_option maxHeartbeats 4000000 in
theorem kX6_result_b20 (C : s_X p s m meth c args cX6_result (some .int) 3 RX6 G cy sa ad 27) (σ : Sg) (ls : Array Slot) (H : Heap) (locs : List Loc) (hl : lv_has ls 3 []) (hP : va_P G vwCl ((s_WC cy ad) σ) H) (hS : va_S (s_A ad 27 s.heap.size) s.heap H locs) (hf : fX6_result_b20 σ = some (re, σe)) : W p l e ({ frames := 3, cells := 0, slots := 0, locals := 69 } : Room) s m args below meth c H locs 0 0 (MQ below (s_Qi (s_WC cy ad) G (s_A ad 27 s.heap.size) re σe) args s 0 0 (s_A ad 27 s.heap.size)) (F0 m 20 ls []) := by
  obtain ⟨hx, hb, hr, hml, hown, hts, hlk, hK, hE, hI⟩ := id C
  have hD : ∀ σ : Sg, va_D (s_A ad 27 s.heap.size) ((s_WC cy ad) σ) := fun σ => s_D (s_WC_ad cy ad σ) hI (fun k hk => Or.inl ⟨k, hk, rfl⟩)
  unfold fX6_result_b20 at hf
  refine lv_ldc (v := 100000000) hx hb hown (hts _ kw_517) dX6_result_20 ?_
  obtain ⟨he1, he2⟩ := s_ret hf
  exact W.iret hx hb hr (fun t ht hW => ⟨⟨_, (), rfl, he1, s_fin (Wd := (s_WC cy ad)) ht he2 hP⟩, hS.F ht⟩) hS.2.2 dX6_result_22 hlk
set_option maxRecDepth 100000 in
set_option maxHeartbeats 4000000 in
theorem kX6_result (C : s_X p s m meth c args cX6_result (some .int) 3 RX6 G cy sa ad 27) (σ : Sg) (x1 : Int32) (x2 : Int32) (ls : Array Slot) (H : Heap) (locs : List Loc) (hl : lv_has ls 3 [(0, .ref (ad 0)), (1, .int x1), (2, .int x2)]) (hP : va_P G vwCl ((s_WC cy ad) σ) H) (hS : va_S (s_A ad 27 s.heap.size) s.heap H locs) (hf : fX6_result σ x1 x2 = some (re, σe)) : W p l e ({ frames := 3, cells := 0, slots := 0, locals := 69 } : Room) s m args below meth c H locs 0 0 (MQ below (s_Qi (s_WC cy ad) G (s_A ad 27 s.heap.size) re σe) args s 0 0 (s_A ad 27 s.heap.size)) (F0 m 0 ls []) := by
  obtain ⟨hx, hb, hr, hml, hown, hts, hlk, hK, hE, hI⟩ := id C
  have hD : ∀ σ : Sg, va_D (s_A ad 27 s.heap.size) ((s_WC cy ad) σ) := fun σ => s_D (s_WC_ad cy ad σ) hI (fun k hk => Or.inl ⟨k, hk, rfl⟩)
  unfold fX6_result at hf
  refine lv_aload_n hx hb dX6_result_0 rfl (lv_at hl 0 rfl) ?_
  refine va_get (D := G) (ci := 6) (v := .ref (ad 6)) (C := RX6) (T := TX6) (N := 9) hx hb hts inkX6 hown hK hP 0 rfl rfl 2 (by decide) (hts _ kw_252) (fun _ h9 => h9) rfl dX6_result_1 ?_
  refine lv_iload_n hx hb dX6_result_4 rfl (lv_at hl 1 rfl) ?_
  replace hf := s_bi_some hf
  obtain ⟨r3, σ1, hz2, hf⟩ := hf
  refine s_calli (nn := 1) C (kcX1_has_6 (l := l) (G := G) (cy := cy) (sa := sa) hI (sz := H.size) σ x1 hz2) gk_X6_124 rfl rfl (by decide +kernel) ⟨Nat.le_of_ble_eq_true rfl, Nat.le_of_ble_eq_true rfl⟩ hP hS (q0 := 6) (ci := 1) rfl rfl rfl (As := [.int x1]) (rest := []) rfl rfl hl.1 (Nat.le_of_ble_eq_true rfl) dX6_result_5 (fun H locs hP hS => ?_)
  refine lv_if_eq (tgt := 20) hx hb dX6_result_8 (by decide) (fun c4 => ?_) (fun c4 => ?_)
  · rw [if_pos c4] at hf
    exact kX6_result_b20 C σ1 _ _ _ (lv_sub hl [] rfl) hP hS hf
  · rw [if_neg c4] at hf
    refine lv_iload_n hx hb dX6_result_11 rfl (lv_at hl 2 rfl) ?_
    refine lv_if_lt (tgt := 20) hx hb dX6_result_12 (by decide) (fun c5 => ?_) (fun c5 => ?_)
    · rw [if_pos c5] at hf
      exact kX6_result_b20 C σ1 _ _ _ (lv_sub hl [] rfl) hP hS hf
    · rw [if_neg c5] at hf
      refine lv_iload_n hx hb dX6_result_15 rfl (lv_at hl 2 rfl) ?_
      refine lv_iconst (v := 2) hx hb dX6_result_16 (by decide) ?_
      refine lv_icmp_le (tgt := 23) hx hb dX6_result_17 (by decide) (fun c6 => ?_) (fun c6 => ?_)
      · rw [if_pos c6] at hf
        refine lv_aload_n hx hb dX6_result_23 rfl (lv_at hl 0 rfl) ?_
        refine va_get (D := G) (ci := 6) (v := .ref (ad 8)) (C := RX6) (T := TX6) (N := 9) hx hb hts inkX6 hown hK hP 0 rfl rfl 3 (by decide) (hts _ kw_253) (fun _ h9 => h9) rfl dX6_result_24 ?_
        refine lv_iload_n hx hb dX6_result_27 rfl (lv_at hl 1 rfl) ?_
        replace hf := s_bv_some hf
        obtain ⟨σ7, hz8, hf⟩ := hf
        refine s_callv (nn := 1) C (kcX0_load (l := l) (G := G) (cy := cy) (sa := sa) hI (sz := H.size) σ1 x1 hz8) gk_X6_128 rfl rfl (by decide +kernel) ⟨Nat.le_of_ble_eq_true rfl, Nat.le_of_ble_eq_true rfl⟩ hP hS (q0 := 8) (ci := 0) rfl rfl rfl (As := [.int x1]) (rest := []) rfl rfl hl.1 (Nat.le_of_ble_eq_true rfl) dX6_result_28 (fun H locs hP hS => ?_)
        refine lv_aload_n hx hb dX6_result_31 rfl (lv_at hl 0 rfl) ?_
        refine va_get (D := G) (ci := 6) (v := .ref (ad 8)) (C := RX6) (T := TX6) (N := 9) hx hb hts inkX6 hown hK hP 0 rfl rfl 3 (by decide) (hts _ kw_253) (fun _ h9 => h9) rfl dX6_result_32 ?_
        replace hf := s_bi_some hf
        obtain ⟨r11, σ9, hz10, hf⟩ := hf
        refine s_calli (nn := 0) C (kcX0_hasResult (l := l) (G := G) (cy := cy) (sa := sa) hI (sz := H.size) σ7 hz10) gk_X6_134 rfl rfl (by decide +kernel) ⟨Nat.le_of_ble_eq_true rfl, Nat.le_of_ble_eq_true rfl⟩ hP hS (q0 := 8) (ci := 0) rfl rfl rfl (As := []) (rest := []) rfl rfl hl.1 (Nat.le_of_ble_eq_true rfl) dX6_result_35 (fun H locs hP hS => ?_)
        refine lv_if_ne (tgt := 44) hx hb dX6_result_38 (by decide) (fun c12 => ?_) (fun c12 => ?_)
        · rw [if_neg c12] at hf
          refine lv_iload_n hx hb dX6_result_44 rfl (lv_at hl 2 rfl) ?_
          refine lv_if_ne (tgt := 56) hx hb dX6_result_45 (by decide) (fun c13 => ?_) (fun c13 => ?_)
          · rw [if_neg c13] at hf
            refine lv_iload_n hx hb dX6_result_56 rfl (lv_at hl 2 rfl) ?_
            refine lv_iconst (v := 1) hx hb dX6_result_57 (by decide) ?_
            refine lv_icmp_ne (tgt := 71) hx hb dX6_result_58 (by decide) (fun c14 => ?_) (fun c14 => ?_)
            · rw [if_neg c14] at hf
              refine lv_aload_n hx hb dX6_result_71 rfl (lv_at hl 0 rfl) ?_
              refine va_get (D := G) (ci := 6) (v := .ref (ad 8)) (C := RX6) (T := TX6) (N := 9) hx hb hts inkX6 hown hK hP 0 rfl rfl 3 (by decide) (hts _ kw_253) (fun _ h9 => h9) rfl dX6_result_72 ?_
              replace hf := s_bi_some hf
              obtain ⟨r17, σ15, hz16, hf⟩ := hf
              refine s_calli (nn := 0) C (kcX0_rounded (l := l) (G := G) (cy := cy) (sa := sa) hI (sz := H.size) σ9 hz16) gk_X6_153 rfl rfl (by decide +kernel) ⟨Nat.le_of_ble_eq_true rfl, Nat.le_of_ble_eq_true rfl⟩ hP hS (q0 := 8) (ci := 0) rfl rfl rfl (As := []) (rest := []) rfl rfl hl.1 (Nat.le_of_ble_eq_true rfl) dX6_result_75 (fun H locs hP hS => ?_)
              obtain ⟨he1, he2⟩ := s_ret hf
              exact W.iret hx hb hr (fun t ht hW => ⟨⟨_, (), rfl, he1, s_fin (Wd := (s_WC cy ad)) ht he2 hP⟩, hS.F ht⟩) hS.2.2 dX6_result_78 hlk
            · rw [if_pos c14] at hf
              refine lv_aload_n hx hb dX6_result_61 rfl (lv_at hl 0 rfl) ?_
              refine va_get (D := G) (ci := 6) (v := .ref (ad 8)) (C := RX6) (T := TX6) (N := 9) hx hb hts inkX6 hown hK hP 0 rfl rfl 3 (by decide) (hts _ kw_253) (fun _ h9 => h9) rfl dX6_result_62 ?_
              replace hf := s_bi_some hf
              obtain ⟨r20, σ18, hz19, hf⟩ := hf
              refine s_calli (nn := 0) C (kcX0_denominator (l := l) (G := G) (cy := cy) (sa := sa) hI (sz := H.size) σ9 hz19) gk_X6_150 rfl rfl (by decide +kernel) ⟨Nat.le_of_ble_eq_true rfl, Nat.le_of_ble_eq_true rfl⟩ hP hS (q0 := 8) (ci := 0) rfl rfl rfl (As := []) (rest := []) rfl rfl hl.1 (Nat.le_of_ble_eq_true rfl) dX6_result_65 (fun H locs hP hS => ?_)
              refine lv_goto (tgt := 78) hx hb dX6_result_68 (by decide) ?_
              obtain ⟨he1, he2⟩ := s_ret hf
              exact W.iret hx hb hr (fun t ht hW => ⟨⟨_, (), rfl, he1, s_fin (Wd := (s_WC cy ad)) ht he2 hP⟩, hS.F ht⟩) hS.2.2 dX6_result_78 hlk
          · rw [if_pos c13] at hf
            refine lv_aload_n hx hb dX6_result_48 rfl (lv_at hl 0 rfl) ?_
            refine va_get (D := G) (ci := 6) (v := .ref (ad 8)) (C := RX6) (T := TX6) (N := 9) hx hb hts inkX6 hown hK hP 0 rfl rfl 3 (by decide) (hts _ kw_253) (fun _ h9 => h9) rfl dX6_result_49 ?_
            replace hf := s_bi_some hf
            obtain ⟨r23, σ21, hz22, hf⟩ := hf
            refine s_calli (nn := 0) C (kcX0_numerator (l := l) (G := G) (cy := cy) (sa := sa) hI (sz := H.size) σ9 hz22) gk_X6_147 rfl rfl (by decide +kernel) ⟨Nat.le_of_ble_eq_true rfl, Nat.le_of_ble_eq_true rfl⟩ hP hS (q0 := 8) (ci := 0) rfl rfl rfl (As := []) (rest := []) rfl rfl hl.1 (Nat.le_of_ble_eq_true rfl) dX6_result_52 (fun H locs hP hS => ?_)
            obtain ⟨he1, he2⟩ := s_ret hf
            exact W.iret hx hb hr (fun t ht hW => ⟨⟨_, (), rfl, he1, s_fin (Wd := (s_WC cy ad)) ht he2 hP⟩, hS.F ht⟩) hS.2.2 dX6_result_55 hlk
        · rw [if_pos c12] at hf
          refine lv_ldc (v := 100000000) hx hb hown (hts _ kw_517) dX6_result_41 ?_
          obtain ⟨he1, he2⟩ := s_ret hf
          exact W.iret hx hb hr (fun t ht hW => ⟨⟨_, (), rfl, he1, s_fin (Wd := (s_WC cy ad)) ht he2 hP⟩, hS.F ht⟩) hS.2.2 dX6_result_43 hlk
      · rw [if_neg c6] at hf
        exact kX6_result_b20 C σ1 _ _ _ (lv_sub hl [] rfl) hP hS hf
theorem kcX6_result {l : Launch} {G : va_G} {cy : Nat → ClassId} {sa : Nat × Nat} {ad : Nat → Nat}  {sz : Nat} (hI : s_inj ad 27) (σ : Sg) (x1 : Int32) (x2 : Int32) {re : Int32} {σe : Sg} (hf : fX6_result σ x1 x2 = some (re, σe)) : Met l yX6_result (kW yX6_result cX6_result 3 (some .int)) ({ frames := 3, cells := 0, slots := 0, locals := 69 } : Room) (s_P (s_WC cy ad) G cy sa ad 27 [.ref (ad 0), .int x1, .int x2] sz σ) (s_Qi (s_WC cy ad) G (s_A ad 27 sz) re σe) 0 0 (s_A ad 27 sz) := by
  refine s_met (own := RX6) (by decide) rfl hI (Nat.le_of_ble_eq_true rfl) (fun p e s m below meth c ls hsz C hP hl => ?_)
  subst hsz
  exact kX6_result C σ x1 x2 ls _ _ hl hP va_S.rf hf
set_option maxRecDepth 100000 in
set_option maxHeartbeats 4000000 in
theorem kX0_countSame_b25 (C : s_X p s m meth c args cX0_countSame (some .int) 4 RX0 G cy sa ad 27) (k4 : Sg → Int32 → Int32 → Int32 → Option (Int32 × Sg)) (hk4 : ∀ (σ : Sg) (x1 : Int32) (x2 : Int32) (x3 : Int32) (ls : Array Slot) (H : Heap) (locs : List Loc), lv_has ls 4 [(0, .ref (ad 8)), (1, .int x1), (2, .int x2), (3, .int x3)] → va_P G vwCl ((s_WC cy ad) σ) H → va_S (s_A ad 27 s.heap.size) s.heap H locs → k4 σ x1 x2 x3 = some (re, σe) → W p l e ({ frames := 0, cells := 0, slots := 0, locals := 0 } : Room) s m args below meth c H locs 0 0 (MQ below (s_Qi (s_WC cy ad) G (s_A ad 27 s.heap.size) re σe) args s 0 0 (s_A ad 27 s.heap.size)) (F0 m 4 ls [])) (σ : Sg) (x1 : Int32) (x2 : Int32) (x3 : Int32) (ls : Array Slot) (H : Heap) (locs : List Loc) (hl : lv_has ls 4 [(0, .ref (ad 8)), (1, .int x1), (2, .int x2), (3, .int x3)]) (hP : va_P G vwCl ((s_WC cy ad) σ) H) (hS : va_S (s_A ad 27 s.heap.size) s.heap H locs) (hf : fX0_countSame_b25 k4 σ x1 x2 x3 = some (re, σe)) : W p l e ({ frames := 0, cells := 0, slots := 0, locals := 0 } : Room) s m args below meth c H locs 0 0 (MQ below (s_Qi (s_WC cy ad) G (s_A ad 27 s.heap.size) re σe) args s 0 0 (s_A ad 27 s.heap.size)) (F0 m 25 ls []) := by
  obtain ⟨hx, hb, hr, hml, hown, hts, hlk, hK, hE, hI⟩ := id C
  have hD : ∀ σ : Sg, va_D (s_A ad 27 s.heap.size) ((s_WC cy ad) σ) := fun σ => s_D (s_WC_ad cy ad σ) hI (fun k hk => Or.inl ⟨k, hk, rfl⟩)
  unfold fX0_countSame_b25 at hf
  obtain ⟨t1, et1⟩ : ∃ z : Int32, z = (x3 + 1) := ⟨_, rfl⟩
  replace hf := s_lt_at et1 hf
  refine lv_iinc (v := t1) (lv' := [(3, .int t1), (0, .ref (ad 8)), (1, .int x1), (2, .int x2)]) hx hb dX0_countSame_25 hl (k := 3) rfl (by rw [et1]; rfl) (by decide) rfl (fun ls hl => ?_)
  refine lv_goto (tgt := 4) hx hb dX0_countSame_28 (by decide) ?_
  exact hk4 σ x1 x2 t1 _ _ _ (lv_sub hl [1, 2, 3, 0] rfl) hP hS hf
set_option maxRecDepth 100000 in
set_option maxHeartbeats 4000000 in
theorem kX0_countSame_b4 (C : s_X p s m meth c args cX0_countSame (some .int) 4 RX0 G cy sa ad 27) (k4 : Sg → Int32 → Int32 → Int32 → Option (Int32 × Sg)) (hk4 : ∀ (σ : Sg) (x1 : Int32) (x2 : Int32) (x3 : Int32) (ls : Array Slot) (H : Heap) (locs : List Loc), lv_has ls 4 [(0, .ref (ad 8)), (1, .int x1), (2, .int x2), (3, .int x3)] → va_P G vwCl ((s_WC cy ad) σ) H → va_S (s_A ad 27 s.heap.size) s.heap H locs → k4 σ x1 x2 x3 = some (re, σe) → W p l e ({ frames := 0, cells := 0, slots := 0, locals := 0 } : Room) s m args below meth c H locs 0 0 (MQ below (s_Qi (s_WC cy ad) G (s_A ad 27 s.heap.size) re σe) args s 0 0 (s_A ad 27 s.heap.size)) (F0 m 4 ls [])) (σ : Sg) (x1 : Int32) (x2 : Int32) (x3 : Int32) (ls : Array Slot) (H : Heap) (locs : List Loc) (hl : lv_has ls 4 [(0, .ref (ad 8)), (1, .int x1), (2, .int x2), (3, .int x3)]) (hP : va_P G vwCl ((s_WC cy ad) σ) H) (hS : va_S (s_A ad 27 s.heap.size) s.heap H locs) (hf : fX0_countSame_b4 k4 σ x1 x2 x3 = some (re, σe)) : W p l e ({ frames := 0, cells := 0, slots := 0, locals := 0 } : Room) s m args below meth c H locs 0 0 (MQ below (s_Qi (s_WC cy ad) G (s_A ad 27 s.heap.size) re σe) args s 0 0 (s_A ad 27 s.heap.size)) (F0 m 4 ls []) := by
  obtain ⟨hx, hb, hr, hml, hown, hts, hlk, hK, hE, hI⟩ := id C
  have hD : ∀ σ : Sg, va_D (s_A ad 27 s.heap.size) ((s_WC cy ad) σ) := fun σ => s_D (s_WC_ad cy ad σ) hI (fun k hk => Or.inl ⟨k, hk, rfl⟩)
  unfold fX0_countSame_b4 at hf
  refine lv_iload_n hx hb dX0_countSame_4 rfl (lv_at hl 3 rfl) ?_
  refine lv_aload_n hx hb dX0_countSame_5 rfl (lv_at hl 0 rfl) ?_
  refine va_get (D := G) (ci := 0) (v := .int (σ 8 2)) (C := RX0) (T := TX0) (N := 3) hx hb hts inkX0 hown hK hP 8 rfl rfl 2 (by decide) (hts _ kw_206) (fun _ h9 => h9) rfl dX0_countSame_6 ?_
  refine lv_icmp_ge (tgt := 31) hx hb dX0_countSame_9 (by decide) (fun c1 => ?_) (fun c1 => ?_)
  · rw [if_pos c1] at hf
    refine lv_iload_n hx hb dX0_countSame_31 rfl (lv_at hl 2 rfl) ?_
    obtain ⟨he1, he2⟩ := s_ret hf
    exact W.iret hx hb hr (fun t ht hW => ⟨⟨_, (), rfl, he1, s_fin (Wd := (s_WC cy ad)) ht he2 hP⟩, hS.F ht⟩) hS.2.2 dX0_countSame_32 hlk
  · rw [if_neg c1] at hf
    refine lv_aload_n hx hb dX0_countSame_12 rfl (lv_at hl 0 rfl) ?_
    refine va_get (D := G) (ci := 0) (v := .ref (ad 9)) (C := RX0) (T := TX0) (N := 3) hx hb hts inkX0 hown hK hP 8 rfl rfl 1 (by decide) (hts _ kw_205) (fun _ h9 => h9) rfl dX0_countSame_13 ?_
    refine lv_iload_n hx hb dX0_countSame_16 rfl (lv_at hl 3 rfl) ?_
    replace hf := s_gd_some hf
    obtain ⟨g2, hf⟩ := hf
    refine va_iald hx hb hK hP 9 1 rfl rfl (s_in_of g2) dX0_countSame_17 ?_
    refine lv_iload_n hx hb dX0_countSame_18 rfl (lv_at hl 1 rfl) ?_
    refine lv_icmp_ne (tgt := 25) hx hb dX0_countSame_19 (by decide) (fun c3 => ?_) (fun c3 => ?_)
    · rw [if_neg c3] at hf
      exact kX0_countSame_b25 C k4 hk4 σ x1 x2 x3 _ _ _ (lv_sub hl [0, 1, 2, 3] rfl) hP hS hf
    · rw [if_pos c3] at hf
      obtain ⟨t4, et4⟩ : ∃ z : Int32, z = (x2 + 1) := ⟨_, rfl⟩
      replace hf := s_lt_at et4 hf
      refine lv_iinc (v := t4) (lv' := [(2, .int t4), (0, .ref (ad 8)), (1, .int x1), (3, .int x3)]) hx hb dX0_countSame_22 hl (k := 2) rfl (by rw [et4]; rfl) (by decide) rfl (fun ls hl => ?_)
      exact kX0_countSame_b25 C k4 hk4 σ x1 t4 x3 _ _ _ (lv_sub hl [1, 2, 0, 3] rfl) hP hS hf
set_option maxRecDepth 100000 in
set_option maxHeartbeats 4000000 in
theorem kX0_countSame_b4_L (C : s_X p s m meth c args cX0_countSame (some .int) 4 RX0 G cy sa ad 27) : ∀ (n : Nat), ∀ (σ : Sg) (x1 : Int32) (x2 : Int32) (x3 : Int32) (ls : Array Slot) (H : Heap) (locs : List Loc), lv_has ls 4 [(0, .ref (ad 8)), (1, .int x1), (2, .int x2), (3, .int x3)] → va_P G vwCl ((s_WC cy ad) σ) H → va_S (s_A ad 27 s.heap.size) s.heap H locs → fX0_countSame_b4_L n σ x1 x2 x3 = some (re, σe) → W p l e ({ frames := 0, cells := 0, slots := 0, locals := 0 } : Room) s m args below meth c H locs 0 0 (MQ below (s_Qi (s_WC cy ad) G (s_A ad 27 s.heap.size) re σe) args s 0 0 (s_A ad 27 s.heap.size)) (F0 m 4 ls []) := by
  intro n
  induction n with
  | zero => intro σ x1 x2 x3 ls H locs hl hP hS hf; exact absurd (show (none : Option (Int32 × Sg)) = some (re, σe) from hf) (by intro h; cases h)
  | succ n ih => intro σ x1 x2 x3 ls H locs hl hP hS hf; exact kX0_countSame_b4 C (fX0_countSame_b4_L n) ih σ x1 x2 x3 ls H locs hl hP hS hf
set_option maxRecDepth 100000 in
set_option maxHeartbeats 4000000 in
theorem kX0_countSame (C : s_X p s m meth c args cX0_countSame (some .int) 4 RX0 G cy sa ad 27) (σ : Sg) (x1 : Int32) (ls : Array Slot) (H : Heap) (locs : List Loc) (hl : lv_has ls 4 [(0, .ref (ad 8)), (1, .int x1)]) (hP : va_P G vwCl ((s_WC cy ad) σ) H) (hS : va_S (s_A ad 27 s.heap.size) s.heap H locs) (hf : fX0_countSame σ x1 = some (re, σe)) : W p l e ({ frames := 0, cells := 0, slots := 0, locals := 0 } : Room) s m args below meth c H locs 0 0 (MQ below (s_Qi (s_WC cy ad) G (s_A ad 27 s.heap.size) re σe) args s 0 0 (s_A ad 27 s.heap.size)) (F0 m 0 ls []) := by
  obtain ⟨hx, hb, hr, hml, hown, hts, hlk, hK, hE, hI⟩ := id C
  have hD : ∀ σ : Sg, va_D (s_A ad 27 s.heap.size) ((s_WC cy ad) σ) := fun σ => s_D (s_WC_ad cy ad σ) hI (fun k hk => Or.inl ⟨k, hk, rfl⟩)
  unfold fX0_countSame at hf
  refine lv_iconst (v := 0) hx hb dX0_countSame_0 (by decide) ?_
  refine lv_istore_n (lv' := [(2, .int (0 : Int32)), (0, .ref (ad 8)), (1, .int x1)]) hx hb dX0_countSame_1 rfl hl (by decide) rfl (fun ls hl => ?_)
  refine lv_iconst (v := 0) hx hb dX0_countSame_2 (by decide) ?_
  refine lv_istore_n (lv' := [(3, .int (0 : Int32)), (2, .int (0 : Int32)), (0, .ref (ad 8)), (1, .int x1)]) hx hb dX0_countSame_3 rfl hl (by decide) rfl (fun ls hl => ?_)
  exact kX0_countSame_b4_L C s_fu σ x1 (0 : Int32) (0 : Int32) _ _ _ (lv_sub hl [2, 3, 1, 0] rfl) hP hS hf
theorem kcX0_countSame {l : Launch} {G : va_G} {cy : Nat → ClassId} {sa : Nat × Nat} {ad : Nat → Nat}  {sz : Nat} (hI : s_inj ad 27) (σ : Sg) (x1 : Int32) {re : Int32} {σe : Sg} (hf : fX0_countSame σ x1 = some (re, σe)) : Met l yX0_countSame (kW yX0_countSame cX0_countSame 4 (some .int)) ({ frames := 0, cells := 0, slots := 0, locals := 0 } : Room) (s_P (s_WC cy ad) G cy sa ad 27 [.ref (ad 8), .int x1] sz σ) (s_Qi (s_WC cy ad) G (s_A ad 27 sz) re σe) 0 0 (s_A ad 27 sz) := by
  refine s_met (own := RX0) (by decide) rfl hI (Nat.le_of_ble_eq_true rfl) (fun p e s m below meth c ls hsz C hP hl => ?_)
  subst hsz
  exact kX0_countSame C σ x1 ls _ _ hl hP va_S.rf hf
set_option maxRecDepth 100000 in
set_option maxHeartbeats 4000000 in
theorem kX6_rank_b20 (C : s_X p s m meth c args cX6_rank (some .int) 4 RX6 G cy sa ad 27) (σ : Sg) (ls : Array Slot) (H : Heap) (locs : List Loc) (hl : lv_has ls 4 []) (hP : va_P G vwCl ((s_WC cy ad) σ) H) (hS : va_S (s_A ad 27 s.heap.size) s.heap H locs) (hf : fX6_rank_b20 σ = some (re, σe)) : W p l e ({ frames := 3, cells := 0, slots := 0, locals := 64 } : Room) s m args below meth c H locs 0 0 (MQ below (s_Qi (s_WC cy ad) G (s_A ad 27 s.heap.size) re σe) args s 0 0 (s_A ad 27 s.heap.size)) (F0 m 20 ls []) := by
  obtain ⟨hx, hb, hr, hml, hown, hts, hlk, hK, hE, hI⟩ := id C
  have hD : ∀ σ : Sg, va_D (s_A ad 27 s.heap.size) ((s_WC cy ad) σ) := fun σ => s_D (s_WC_ad cy ad σ) hI (fun k hk => Or.inl ⟨k, hk, rfl⟩)
  unfold fX6_rank_b20 at hf
  refine lv_iconst (v := -1) hx hb dX6_rank_20 (by decide) ?_
  obtain ⟨he1, he2⟩ := s_ret hf
  exact W.iret hx hb hr (fun t ht hW => ⟨⟨_, (), rfl, he1, s_fin (Wd := (s_WC cy ad)) ht he2 hP⟩, hS.F ht⟩) hS.2.2 dX6_rank_21 hlk
set_option maxRecDepth 100000 in
set_option maxHeartbeats 4000000 in
theorem kX6_rank (C : s_X p s m meth c args cX6_rank (some .int) 4 RX6 G cy sa ad 27) (σ : Sg) (x1 : Int32) (x2 : Int32) (x3 : Int32) (ls : Array Slot) (H : Heap) (locs : List Loc) (hl : lv_has ls 4 [(0, .ref (ad 0)), (1, .int x1), (2, .int x2), (3, .int x3)]) (hP : va_P G vwCl ((s_WC cy ad) σ) H) (hS : va_S (s_A ad 27 s.heap.size) s.heap H locs) (hf : fX6_rank σ x1 x2 x3 = some (re, σe)) : W p l e ({ frames := 3, cells := 0, slots := 0, locals := 64 } : Room) s m args below meth c H locs 0 0 (MQ below (s_Qi (s_WC cy ad) G (s_A ad 27 s.heap.size) re σe) args s 0 0 (s_A ad 27 s.heap.size)) (F0 m 0 ls []) := by
  obtain ⟨hx, hb, hr, hml, hown, hts, hlk, hK, hE, hI⟩ := id C
  have hD : ∀ σ : Sg, va_D (s_A ad 27 s.heap.size) ((s_WC cy ad) σ) := fun σ => s_D (s_WC_ad cy ad σ) hI (fun k hk => Or.inl ⟨k, hk, rfl⟩)
  unfold fX6_rank at hf
  refine lv_aload_n hx hb dX6_rank_0 rfl (lv_at hl 0 rfl) ?_
  refine va_get (D := G) (ci := 6) (v := .ref (ad 6)) (C := RX6) (T := TX6) (N := 9) hx hb hts inkX6 hown hK hP 0 rfl rfl 2 (by decide) (hts _ kw_252) (fun _ h9 => h9) rfl dX6_rank_1 ?_
  refine lv_iload_n hx hb dX6_rank_4 rfl (lv_at hl 1 rfl) ?_
  replace hf := s_bi_some hf
  obtain ⟨r3, σ1, hz2, hf⟩ := hf
  refine s_calli (nn := 1) C (kcX1_has_6 (l := l) (G := G) (cy := cy) (sa := sa) hI (sz := H.size) σ x1 hz2) gk_X6_124 rfl rfl (by decide +kernel) ⟨Nat.le_of_ble_eq_true rfl, Nat.le_of_ble_eq_true rfl⟩ hP hS (q0 := 6) (ci := 1) rfl rfl rfl (As := [.int x1]) (rest := []) rfl rfl hl.1 (Nat.le_of_ble_eq_true rfl) dX6_rank_5 (fun H locs hP hS => ?_)
  refine lv_if_eq (tgt := 20) hx hb dX6_rank_8 (by decide) (fun c4 => ?_) (fun c4 => ?_)
  · rw [if_pos c4] at hf
    exact kX6_rank_b20 C σ1 _ _ _ (lv_sub hl [] rfl) hP hS hf
  · rw [if_neg c4] at hf
    refine lv_iload_n hx hb dX6_rank_11 rfl (lv_at hl 3 rfl) ?_
    refine lv_if_lt (tgt := 20) hx hb dX6_rank_12 (by decide) (fun c5 => ?_) (fun c5 => ?_)
    · rw [if_pos c5] at hf
      exact kX6_rank_b20 C σ1 _ _ _ (lv_sub hl [] rfl) hP hS hf
    · rw [if_neg c5] at hf
      refine lv_iload_n hx hb dX6_rank_15 rfl (lv_at hl 3 rfl) ?_
      refine lv_iconst (v := 1) hx hb dX6_rank_16 (by decide) ?_
      refine lv_icmp_le (tgt := 22) hx hb dX6_rank_17 (by decide) (fun c6 => ?_) (fun c6 => ?_)
      · rw [if_pos c6] at hf
        refine lv_aload_n hx hb dX6_rank_22 rfl (lv_at hl 0 rfl) ?_
        refine va_get (D := G) (ci := 6) (v := .ref (ad 8)) (C := RX6) (T := TX6) (N := 9) hx hb hts inkX6 hown hK hP 0 rfl rfl 3 (by decide) (hts _ kw_253) (fun _ h9 => h9) rfl dX6_rank_23 ?_
        refine lv_iload_n hx hb dX6_rank_26 rfl (lv_at hl 1 rfl) ?_
        replace hf := s_bv_some hf
        obtain ⟨σ7, hz8, hf⟩ := hf
        refine s_callv (nn := 1) C (kcX0_load (l := l) (G := G) (cy := cy) (sa := sa) hI (sz := H.size) σ1 x1 hz8) gk_X6_128 rfl rfl (by decide +kernel) ⟨Nat.le_of_ble_eq_true rfl, Nat.le_of_ble_eq_true rfl⟩ hP hS (q0 := 8) (ci := 0) rfl rfl rfl (As := [.int x1]) (rest := []) rfl rfl hl.1 (Nat.le_of_ble_eq_true rfl) dX6_rank_27 (fun H locs hP hS => ?_)
        refine lv_iload_n hx hb dX6_rank_30 rfl (lv_at hl 3 rfl) ?_
        refine lv_if_ne (tgt := 45) hx hb dX6_rank_31 (by decide) (fun c9 => ?_) (fun c9 => ?_)
        · rw [if_neg c9] at hf
          refine lv_aload_n hx hb dX6_rank_45 rfl (lv_at hl 0 rfl) ?_
          refine va_get (D := G) (ci := 6) (v := .ref (ad 8)) (C := RX6) (T := TX6) (N := 9) hx hb hts inkX6 hown hK hP 0 rfl rfl 3 (by decide) (hts _ kw_253) (fun _ h9 => h9) rfl dX6_rank_46 ?_
          refine lv_iload_n hx hb dX6_rank_49 rfl (lv_at hl 2 rfl) ?_
          replace hf := s_bi_some hf
          obtain ⟨r12, σ10, hz11, hf⟩ := hf
          refine s_calli (nn := 1) C (kcX0_countSame (l := l) (G := G) (cy := cy) (sa := sa) hI (sz := H.size) σ7 x2 hz11) gk_X6_159 rfl rfl (by decide +kernel) ⟨Nat.le_of_ble_eq_true rfl, Nat.le_of_ble_eq_true rfl⟩ hP hS (q0 := 8) (ci := 0) rfl rfl rfl (As := [.int x2]) (rest := []) rfl rfl hl.1 (Nat.le_of_ble_eq_true rfl) dX6_rank_50 (fun H locs hP hS => ?_)
          obtain ⟨he1, he2⟩ := s_ret hf
          exact W.iret hx hb hr (fun t ht hW => ⟨⟨_, (), rfl, he1, s_fin (Wd := (s_WC cy ad)) ht he2 hP⟩, hS.F ht⟩) hS.2.2 dX6_rank_53 hlk
        · rw [if_pos c9] at hf
          refine lv_aload_n hx hb dX6_rank_34 rfl (lv_at hl 0 rfl) ?_
          refine va_get (D := G) (ci := 6) (v := .ref (ad 8)) (C := RX6) (T := TX6) (N := 9) hx hb hts inkX6 hown hK hP 0 rfl rfl 3 (by decide) (hts _ kw_253) (fun _ h9 => h9) rfl dX6_rank_35 ?_
          refine lv_iload_n hx hb dX6_rank_38 rfl (lv_at hl 2 rfl) ?_
          replace hf := s_bi_some hf
          obtain ⟨r15, σ13, hz14, hf⟩ := hf
          refine s_calli (nn := 1) C (kcX0_countLess (l := l) (G := G) (cy := cy) (sa := sa) hI (sz := H.size) σ7 x2 hz14) gk_X6_156 rfl rfl (by decide +kernel) ⟨Nat.le_of_ble_eq_true rfl, Nat.le_of_ble_eq_true rfl⟩ hP hS (q0 := 8) (ci := 0) rfl rfl rfl (As := [.int x2]) (rest := []) rfl rfl hl.1 (Nat.le_of_ble_eq_true rfl) dX6_rank_39 (fun H locs hP hS => ?_)
          refine lv_goto (tgt := 53) hx hb dX6_rank_42 (by decide) ?_
          obtain ⟨he1, he2⟩ := s_ret hf
          exact W.iret hx hb hr (fun t ht hW => ⟨⟨_, (), rfl, he1, s_fin (Wd := (s_WC cy ad)) ht he2 hP⟩, hS.F ht⟩) hS.2.2 dX6_rank_53 hlk
      · rw [if_neg c6] at hf
        exact kX6_rank_b20 C σ1 _ _ _ (lv_sub hl [] rfl) hP hS hf
theorem kcX6_rank {l : Launch} {G : va_G} {cy : Nat → ClassId} {sa : Nat × Nat} {ad : Nat → Nat}  {sz : Nat} (hI : s_inj ad 27) (σ : Sg) (x1 : Int32) (x2 : Int32) (x3 : Int32) {re : Int32} {σe : Sg} (hf : fX6_rank σ x1 x2 x3 = some (re, σe)) : Met l yX6_rank (kW yX6_rank cX6_rank 4 (some .int)) ({ frames := 3, cells := 0, slots := 0, locals := 64 } : Room) (s_P (s_WC cy ad) G cy sa ad 27 [.ref (ad 0), .int x1, .int x2, .int x3] sz σ) (s_Qi (s_WC cy ad) G (s_A ad 27 sz) re σe) 0 0 (s_A ad 27 sz) := by
  refine s_met (own := RX6) (by decide) rfl hI (Nat.le_of_ble_eq_true rfl) (fun p e s m below meth c ls hsz C hP hl => ?_)
  subst hsz
  exact kX6_rank C σ x1 x2 x3 ls _ _ hl hP va_S.rf hf
set_option maxRecDepth 100000 in
set_option maxHeartbeats 4000000 in
theorem kX5_push (C : s_X p s m meth c args cX5_push none 2 RX5 G cy sa ad 27) (σ : Sg) (x1 : Int32) (ls : Array Slot) (H : Heap) (locs : List Loc) (hl : lv_has ls 2 [(0, .ref (ad 10)), (1, .int x1)]) (hP : va_P G vwCl ((s_WC cy ad) σ) H) (hS : va_S (s_A ad 27 s.heap.size) s.heap H locs) (hf : fX5_push σ x1 = some σe) : W p l e ({ frames := 0, cells := 0, slots := 0, locals := 0 } : Room) s m args below meth c H locs 0 0 (MQ below (s_Qv (s_WC cy ad) G (s_A ad 27 s.heap.size) σe) args s 0 0 (s_A ad 27 s.heap.size)) (F0 m 0 ls []) := by
  obtain ⟨hx, hb, hr, hml, hown, hts, hlk, hK, hE, hI⟩ := id C
  have hD : ∀ σ : Sg, va_D (s_A ad 27 s.heap.size) ((s_WC cy ad) σ) := fun σ => s_D (s_WC_ad cy ad σ) hI (fun k hk => Or.inl ⟨k, hk, rfl⟩)
  unfold fX5_push at hf
  refine lv_aload_n hx hb dX5_push_0 rfl (lv_at hl 0 rfl) ?_
  refine va_get (D := G) (ci := 5) (v := .int (σ 10 1)) (C := RX5) (T := TX5) (N := 2) hx hb hts inkX5 hown hK hP 10 rfl rfl 1 (by decide) (hts _ kw_222) (fun _ h9 => h9) rfl dX5_push_1 ?_
  refine lv_aload_n hx hb dX5_push_4 rfl (lv_at hl 0 rfl) ?_
  refine va_get (D := G) (ci := 5) (v := .ref (ad 11)) (C := RX5) (T := TX5) (N := 2) hx hb hts inkX5 hown hK hP 10 rfl rfl 0 (by decide) (hts _ kw_221) (fun _ h9 => h9) rfl dX5_push_5 ?_
  refine va_alen (v := (8 : Int32)) hx hb hK hP 11 0 rfl rfl (by show Int32.ofNat 8 = 8; decide) dX5_push_8 ?_
  refine lv_icmp_ge (tgt := 33) hx hb dX5_push_9 (by decide) (fun c1 => ?_) (fun c1 => ?_)
  · rw [if_pos c1] at hf
    have he2 := Option.some.inj hf
    exact W.vret hx hb hr (fun t ht hW => ⟨⟨(), rfl, trivial, s_fin (Wd := (s_WC cy ad)) ht he2 hP⟩, hS.F ht⟩) hS.2.2 dX5_push_33 hlk
  · rw [if_neg c1] at hf
    refine lv_aload_n hx hb dX5_push_12 rfl (lv_at hl 0 rfl) ?_
    refine va_get (D := G) (ci := 5) (v := .ref (ad 11)) (C := RX5) (T := TX5) (N := 2) hx hb hts inkX5 hown hK hP 10 rfl rfl 0 (by decide) (hts _ kw_221) (fun _ h9 => h9) rfl dX5_push_13 ?_
    refine lv_aload_n hx hb dX5_push_16 rfl (lv_at hl 0 rfl) ?_
    refine va_get (D := G) (ci := 5) (v := .int (σ 10 1)) (C := RX5) (T := TX5) (N := 2) hx hb hts inkX5 hown hK hP 10 rfl rfl 1 (by decide) (hts _ kw_222) (fun _ h9 => h9) rfl dX5_push_17 ?_
    refine lv_iload_n hx hb dX5_push_20 rfl (lv_at hl 1 rfl) ?_
    refine lv_i2b (v := (Int8.toInt32 (Int32.toInt8 x1))) hx hb dX5_push_21 rfl ?_
    replace hf := s_gd_some hf
    obtain ⟨g2, hf⟩ := hf
    refine va_bast hx hb hK hP (hD _) hS 11 0 rfl rfl (s_in_of g2) dX5_push_22 (fun H locs hP _ hS => ?_)
    obtain ⟨σ3, eσ3⟩ : ∃ z : Sg, z = (s_up σ 11 (Int32.toNatClampNeg (σ 10 1)) (vp_nar .byte (Int8.toInt32 (Int32.toInt8 x1)))) := ⟨_, rfl⟩
    replace hf := s_lt_at eσ3 hf
    replace hP : va_P G vwCl ((s_WC cy ad) σ3) H := by rw [eσ3]; exact hP
    refine lv_aload_n hx hb dX5_push_23 rfl (lv_at hl 0 rfl) ?_
    refine lv_dup hx hb dX5_push_24 rfl ?_
    refine va_get (D := G) (ci := 5) (v := .int (σ3 10 1)) (C := RX5) (T := TX5) (N := 2) hx hb hts inkX5 hown hK hP 10 rfl rfl 1 (by decide) (hts _ kw_222) (fun _ h9 => h9) rfl dX5_push_25 ?_
    refine lv_iconst (v := 1) hx hb dX5_push_28 (by decide) ?_
    refine lv_iadd hx hb dX5_push_29 ?_
    refine va_put (D := G) (ci := 5) (v := .int ((σ3 10 1) + (1 : Int32))) (ty := .int) (C := RX5) (T := TX5) (N := 2) hx hb hts inkX5 tyX5 tyX5_ok nmX5 hown hK hP (hD _) hS 10 rfl rfl 1 (by decide) (hts _ kw_222) (fun _ h9 => h9) rfl (by decide +kernel) rfl rfl (Nat.le_of_ble_eq_true rfl) dX5_push_30 (fun H locs hP _ hS => ?_)
    obtain ⟨σ4, eσ4⟩ : ∃ z : Sg, z = (s_up σ3 10 1 ((σ3 10 1) + (1 : Int32))) := ⟨_, rfl⟩
    replace hf := s_lt_at eσ4 hf
    replace hP : va_P G vwCl ((s_WC cy ad) σ4) H := by rw [eσ4]; exact hP
    have he2 := Option.some.inj hf
    exact W.vret hx hb hr (fun t ht hW => ⟨⟨(), rfl, trivial, s_fin (Wd := (s_WC cy ad)) ht he2 hP⟩, hS.F ht⟩) hS.2.2 dX5_push_33 hlk
theorem kcX5_push {l : Launch} {G : va_G} {cy : Nat → ClassId} {sa : Nat × Nat} {ad : Nat → Nat}  {sz : Nat} (hI : s_inj ad 27) (σ : Sg) (x1 : Int32) {σe : Sg} (hf : fX5_push σ x1 = some σe) : Met l yX5_push (kW yX5_push cX5_push 2 none) ({ frames := 0, cells := 0, slots := 0, locals := 0 } : Room) (s_P (s_WC cy ad) G cy sa ad 27 [.ref (ad 10), .int x1] sz σ) (s_Qv (s_WC cy ad) G (s_A ad 27 sz) σe) 0 0 (s_A ad 27 sz) := by
  refine s_met (own := RX5) (by decide) rfl hI (Nat.le_of_ble_eq_true rfl) (fun p e s m below meth c ls hsz C hP hl => ?_)
  subst hsz
  exact kX5_push C σ x1 ls _ _ hl hP va_S.rf hf
set_option maxRecDepth 100000 in
set_option maxHeartbeats 4000000 in
theorem kX5_writeNone (C : s_X p s m meth c args cX5_writeNone none 1 RX5 G cy sa ad 27) (σ : Sg) (ls : Array Slot) (H : Heap) (locs : List Loc) (hl : lv_has ls 1 [(0, .ref (ad 10))]) (hP : va_P G vwCl ((s_WC cy ad) σ) H) (hS : va_S (s_A ad 27 s.heap.size) s.heap H locs) (hf : fX5_writeNone σ = some σe) : W p l e ({ frames := 1, cells := 0, slots := 0, locals := 21 } : Room) s m args below meth c H locs 0 0 (MQ below (s_Qv (s_WC cy ad) G (s_A ad 27 s.heap.size) σe) args s 0 0 (s_A ad 27 s.heap.size)) (F0 m 0 ls []) := by
  obtain ⟨hx, hb, hr, hml, hown, hts, hlk, hK, hE, hI⟩ := id C
  have hD : ∀ σ : Sg, va_D (s_A ad 27 s.heap.size) ((s_WC cy ad) σ) := fun σ => s_D (s_WC_ad cy ad σ) hI (fun k hk => Or.inl ⟨k, hk, rfl⟩)
  unfold fX5_writeNone at hf
  refine lv_aload_n hx hb dX5_writeNone_0 rfl (lv_at hl 0 rfl) ?_
  refine lv_iconst (v := 0) hx hb dX5_writeNone_1 (by decide) ?_
  refine va_put (D := G) (ci := 5) (v := .int (0 : Int32)) (ty := .int) (C := RX5) (T := TX5) (N := 2) hx hb hts inkX5 tyX5 tyX5_ok nmX5 hown hK hP (hD _) hS 10 rfl rfl 1 (by decide) (hts _ kw_222) (fun _ h9 => h9) rfl (by decide +kernel) rfl rfl (Nat.le_of_ble_eq_true rfl) dX5_writeNone_2 (fun H locs hP _ hS => ?_)
  obtain ⟨σ1, eσ1⟩ : ∃ z : Sg, z = (s_up σ 10 1 (0 : Int32)) := ⟨_, rfl⟩
  replace hf := s_lt_at eσ1 hf
  replace hP : va_P G vwCl ((s_WC cy ad) σ1) H := by rw [eσ1]; exact hP
  refine lv_aload_n hx hb dX5_writeNone_5 rfl (lv_at hl 0 rfl) ?_
  refine lv_bipush (v := 110) hx hb dX5_writeNone_6 (by decide) ?_
  replace hf := s_bv_some hf
  obtain ⟨σ2, hz3, hf⟩ := hf
  refine s_callv (nn := 1) C (kcX5_push (l := l) (G := G) (cy := cy) (sa := sa) hI (sz := H.size) σ1 (110 : Int32) hz3) gk_X5_19 rfl rfl (by decide +kernel) ⟨Nat.le_of_ble_eq_true rfl, Nat.le_of_ble_eq_true rfl⟩ hP hS (q0 := 10) (ci := 5) rfl rfl rfl (As := [.int (110 : Int32)]) (rest := []) rfl rfl hl.1 (Nat.le_of_ble_eq_true rfl) dX5_writeNone_8 (fun H locs hP hS => ?_)
  refine lv_aload_n hx hb dX5_writeNone_11 rfl (lv_at hl 0 rfl) ?_
  refine lv_bipush (v := 111) hx hb dX5_writeNone_12 (by decide) ?_
  replace hf := s_bv_some hf
  obtain ⟨σ4, hz5, hf⟩ := hf
  refine s_callv (nn := 1) C (kcX5_push (l := l) (G := G) (cy := cy) (sa := sa) hI (sz := H.size) σ2 (111 : Int32) hz5) gk_X5_19 rfl rfl (by decide +kernel) ⟨Nat.le_of_ble_eq_true rfl, Nat.le_of_ble_eq_true rfl⟩ hP hS (q0 := 10) (ci := 5) rfl rfl rfl (As := [.int (111 : Int32)]) (rest := []) rfl rfl hl.1 (Nat.le_of_ble_eq_true rfl) dX5_writeNone_14 (fun H locs hP hS => ?_)
  refine lv_aload_n hx hb dX5_writeNone_17 rfl (lv_at hl 0 rfl) ?_
  refine lv_bipush (v := 110) hx hb dX5_writeNone_18 (by decide) ?_
  replace hf := s_bv_some hf
  obtain ⟨σ6, hz7, hf⟩ := hf
  refine s_callv (nn := 1) C (kcX5_push (l := l) (G := G) (cy := cy) (sa := sa) hI (sz := H.size) σ4 (110 : Int32) hz7) gk_X5_19 rfl rfl (by decide +kernel) ⟨Nat.le_of_ble_eq_true rfl, Nat.le_of_ble_eq_true rfl⟩ hP hS (q0 := 10) (ci := 5) rfl rfl rfl (As := [.int (110 : Int32)]) (rest := []) rfl rfl hl.1 (Nat.le_of_ble_eq_true rfl) dX5_writeNone_20 (fun H locs hP hS => ?_)
  refine lv_aload_n hx hb dX5_writeNone_23 rfl (lv_at hl 0 rfl) ?_
  refine lv_bipush (v := 101) hx hb dX5_writeNone_24 (by decide) ?_
  replace hf := s_bv_some hf
  obtain ⟨σ8, hz9, hf⟩ := hf
  refine s_callv (nn := 1) C (kcX5_push (l := l) (G := G) (cy := cy) (sa := sa) hI (sz := H.size) σ6 (101 : Int32) hz9) gk_X5_19 rfl rfl (by decide +kernel) ⟨Nat.le_of_ble_eq_true rfl, Nat.le_of_ble_eq_true rfl⟩ hP hS (q0 := 10) (ci := 5) rfl rfl rfl (As := [.int (101 : Int32)]) (rest := []) rfl rfl hl.1 (Nat.le_of_ble_eq_true rfl) dX5_writeNone_26 (fun H locs hP hS => ?_)
  have he2 := Option.some.inj hf
  exact W.vret hx hb hr (fun t ht hW => ⟨⟨(), rfl, trivial, s_fin (Wd := (s_WC cy ad)) ht he2 hP⟩, hS.F ht⟩) hS.2.2 dX5_writeNone_29 hlk
theorem kcX5_writeNone {l : Launch} {G : va_G} {cy : Nat → ClassId} {sa : Nat × Nat} {ad : Nat → Nat}  {sz : Nat} (hI : s_inj ad 27) (σ : Sg) {σe : Sg} (hf : fX5_writeNone σ = some σe) : Met l yX5_writeNone (kW yX5_writeNone cX5_writeNone 1 none) ({ frames := 1, cells := 0, slots := 0, locals := 21 } : Room) (s_P (s_WC cy ad) G cy sa ad 27 [.ref (ad 10)] sz σ) (s_Qv (s_WC cy ad) G (s_A ad 27 sz) σe) 0 0 (s_A ad 27 sz) := by
  refine s_met (own := RX5) (by decide) rfl hI (Nat.le_of_ble_eq_true rfl) (fun p e s m below meth c ls hsz C hP hl => ?_)
  subst hsz
  exact kX5_writeNone C σ ls _ _ hl hP va_S.rf hf
set_option maxRecDepth 100000 in
set_option maxHeartbeats 4000000 in
theorem kX5_writeWhole_b32 (C : s_X p s m meth c args cX5_writeWhole none 3 RX5 G cy sa ad 27) (k4 : Sg → Int32 → Int32 → Option Sg) (hk4 : ∀ (σ : Sg) (x1 : Int32) (x2 : Int32) (ls : Array Slot) (H : Heap) (locs : List Loc), lv_has ls 3 [(0, .ref (ad 10)), (1, .int x1), (2, .int x2)] → va_P G vwCl ((s_WC cy ad) σ) H → va_S (s_A ad 27 s.heap.size) s.heap H locs → k4 σ x1 x2 = some σe → W p l e ({ frames := 1, cells := 0, slots := 0, locals := 21 } : Room) s m args below meth c H locs 0 0 (MQ below (s_Qv (s_WC cy ad) G (s_A ad 27 s.heap.size) σe) args s 0 0 (s_A ad 27 s.heap.size)) (F0 m 4 ls [])) (σ : Sg) (x1 : Int32) (x2 : Int32) (ls : Array Slot) (H : Heap) (locs : List Loc) (hl : lv_has ls 3 [(0, .ref (ad 10)), (1, .int x1), (2, .int x2)]) (hP : va_P G vwCl ((s_WC cy ad) σ) H) (hS : va_S (s_A ad 27 s.heap.size) s.heap H locs) (hf : fX5_writeWhole_b32 k4 σ x1 x2 = some σe) : W p l e ({ frames := 1, cells := 0, slots := 0, locals := 21 } : Room) s m args below meth c H locs 0 0 (MQ below (s_Qv (s_WC cy ad) G (s_A ad 27 s.heap.size) σe) args s 0 0 (s_A ad 27 s.heap.size)) (F0 m 32 ls []) := by
  obtain ⟨hx, hb, hr, hml, hown, hts, hlk, hK, hE, hI⟩ := id C
  have hD : ∀ σ : Sg, va_D (s_A ad 27 s.heap.size) ((s_WC cy ad) σ) := fun σ => s_D (s_WC_ad cy ad σ) hI (fun k hk => Or.inl ⟨k, hk, rfl⟩)
  unfold fX5_writeWhole_b32 at hf
  refine lv_iload_n hx hb dX5_writeWhole_32 rfl (lv_at hl 2 rfl) ?_
  refine lv_bipush (v := 10) hx hb dX5_writeWhole_33 (by decide) ?_
  refine lv_idiv hx hb dX5_writeWhole_35 (by decide) ?_
  refine lv_topi (fun t1 et1 => ?_)
  replace hf := s_lt_at et1 hf
  refine lv_istore_n (lv' := [(2, .int t1), (0, .ref (ad 10)), (1, .int x1)]) hx hb dX5_writeWhole_36 rfl hl (by decide) rfl (fun ls hl => ?_)
  refine lv_goto (tgt := 4) hx hb dX5_writeWhole_37 (by decide) ?_
  exact hk4 σ x1 t1 _ _ _ (lv_sub hl [1, 2, 0] rfl) hP hS hf
set_option maxRecDepth 100000 in
set_option maxHeartbeats 4000000 in
theorem kX5_writeWhole_b19 (C : s_X p s m meth c args cX5_writeWhole none 3 RX5 G cy sa ad 27) (k4 : Sg → Int32 → Int32 → Option Sg) (hk4 : ∀ (σ : Sg) (x1 : Int32) (x2 : Int32) (ls : Array Slot) (H : Heap) (locs : List Loc), lv_has ls 3 [(0, .ref (ad 10)), (1, .int x1), (2, .int x2)] → va_P G vwCl ((s_WC cy ad) σ) H → va_S (s_A ad 27 s.heap.size) s.heap H locs → k4 σ x1 x2 = some σe → W p l e ({ frames := 1, cells := 0, slots := 0, locals := 21 } : Room) s m args below meth c H locs 0 0 (MQ below (s_Qv (s_WC cy ad) G (s_A ad 27 s.heap.size) σe) args s 0 0 (s_A ad 27 s.heap.size)) (F0 m 4 ls [])) (σ : Sg) (x1 : Int32) (x2 : Int32) (ls : Array Slot) (H : Heap) (locs : List Loc) (hl : lv_has ls 3 [(0, .ref (ad 10)), (1, .int x1), (2, .int x2)]) (hP : va_P G vwCl ((s_WC cy ad) σ) H) (hS : va_S (s_A ad 27 s.heap.size) s.heap H locs) (hf : fX5_writeWhole_b19 k4 σ x1 x2 = some σe) : W p l e ({ frames := 1, cells := 0, slots := 0, locals := 21 } : Room) s m args below meth c H locs 0 0 (MQ below (s_Qv (s_WC cy ad) G (s_A ad 27 s.heap.size) σe) args s 0 0 (s_A ad 27 s.heap.size)) (F0 m 19 ls []) := by
  obtain ⟨hx, hb, hr, hml, hown, hts, hlk, hK, hE, hI⟩ := id C
  have hD : ∀ σ : Sg, va_D (s_A ad 27 s.heap.size) ((s_WC cy ad) σ) := fun σ => s_D (s_WC_ad cy ad σ) hI (fun k hk => Or.inl ⟨k, hk, rfl⟩)
  unfold fX5_writeWhole_b19 at hf
  refine lv_aload_n hx hb dX5_writeWhole_19 rfl (lv_at hl 0 rfl) ?_
  refine lv_bipush (v := 48) hx hb dX5_writeWhole_20 (by decide) ?_
  refine lv_iload_n hx hb dX5_writeWhole_22 rfl (lv_at hl 1 rfl) ?_
  refine lv_iload_n hx hb dX5_writeWhole_23 rfl (lv_at hl 2 rfl) ?_
  replace hf := s_gd_some hf
  obtain ⟨g1, hf⟩ := hf
  refine lv_idiv hx hb dX5_writeWhole_24 (s_nz_of g1) ?_
  refine lv_bipush (v := 10) hx hb dX5_writeWhole_25 (by decide) ?_
  refine lv_irem hx hb dX5_writeWhole_27 (by decide) ?_
  refine lv_topi (fun t2 et2 => ?_)
  replace hf := s_lt_at et2 hf
  refine lv_iadd hx hb dX5_writeWhole_28 ?_
  replace hf := s_bv_some hf
  obtain ⟨σ3, hz4, hf⟩ := hf
  refine s_callv (nn := 1) C (kcX5_push (l := l) (G := G) (cy := cy) (sa := sa) hI (sz := H.size) σ ((48 : Int32) + t2) hz4) gk_X5_19 rfl rfl (by decide +kernel) ⟨Nat.le_of_ble_eq_true rfl, Nat.le_of_ble_eq_true rfl⟩ hP hS (q0 := 10) (ci := 5) rfl rfl rfl (As := [.int ((48 : Int32) + t2)]) (rest := []) rfl rfl hl.1 (Nat.le_of_ble_eq_true rfl) dX5_writeWhole_29 (fun H locs hP hS => ?_)
  exact kX5_writeWhole_b32 C k4 hk4 σ3 x1 x2 _ _ _ (lv_sub hl [0, 1, 2] rfl) hP hS hf
set_option maxRecDepth 100000 in
set_option maxHeartbeats 4000000 in
theorem kX5_writeWhole_b4 (C : s_X p s m meth c args cX5_writeWhole none 3 RX5 G cy sa ad 27) (k4 : Sg → Int32 → Int32 → Option Sg) (hk4 : ∀ (σ : Sg) (x1 : Int32) (x2 : Int32) (ls : Array Slot) (H : Heap) (locs : List Loc), lv_has ls 3 [(0, .ref (ad 10)), (1, .int x1), (2, .int x2)] → va_P G vwCl ((s_WC cy ad) σ) H → va_S (s_A ad 27 s.heap.size) s.heap H locs → k4 σ x1 x2 = some σe → W p l e ({ frames := 1, cells := 0, slots := 0, locals := 21 } : Room) s m args below meth c H locs 0 0 (MQ below (s_Qv (s_WC cy ad) G (s_A ad 27 s.heap.size) σe) args s 0 0 (s_A ad 27 s.heap.size)) (F0 m 4 ls [])) (σ : Sg) (x1 : Int32) (x2 : Int32) (ls : Array Slot) (H : Heap) (locs : List Loc) (hl : lv_has ls 3 [(0, .ref (ad 10)), (1, .int x1), (2, .int x2)]) (hP : va_P G vwCl ((s_WC cy ad) σ) H) (hS : va_S (s_A ad 27 s.heap.size) s.heap H locs) (hf : fX5_writeWhole_b4 k4 σ x1 x2 = some σe) : W p l e ({ frames := 1, cells := 0, slots := 0, locals := 21 } : Room) s m args below meth c H locs 0 0 (MQ below (s_Qv (s_WC cy ad) G (s_A ad 27 s.heap.size) σe) args s 0 0 (s_A ad 27 s.heap.size)) (F0 m 4 ls []) := by
  obtain ⟨hx, hb, hr, hml, hown, hts, hlk, hK, hE, hI⟩ := id C
  have hD : ∀ σ : Sg, va_D (s_A ad 27 s.heap.size) ((s_WC cy ad) σ) := fun σ => s_D (s_WC_ad cy ad σ) hI (fun k hk => Or.inl ⟨k, hk, rfl⟩)
  unfold fX5_writeWhole_b4 at hf
  refine lv_iload_n hx hb dX5_writeWhole_4 rfl (lv_at hl 2 rfl) ?_
  refine lv_iconst (v := 1) hx hb dX5_writeWhole_5 (by decide) ?_
  refine lv_icmp_lt (tgt := 40) hx hb dX5_writeWhole_6 (by decide) (fun c1 => ?_) (fun c1 => ?_)
  · rw [if_pos c1] at hf
    have he2 := Option.some.inj hf
    exact W.vret hx hb hr (fun t ht hW => ⟨⟨(), rfl, trivial, s_fin (Wd := (s_WC cy ad)) ht he2 hP⟩, hS.F ht⟩) hS.2.2 dX5_writeWhole_40 hlk
  · rw [if_neg c1] at hf
    refine lv_iload_n hx hb dX5_writeWhole_9 rfl (lv_at hl 1 rfl) ?_
    refine lv_iload_n hx hb dX5_writeWhole_10 rfl (lv_at hl 2 rfl) ?_
    refine lv_icmp_ge (tgt := 19) hx hb dX5_writeWhole_11 (by decide) (fun c2 => ?_) (fun c2 => ?_)
    · rw [if_pos c2] at hf
      exact kX5_writeWhole_b19 C k4 hk4 σ x1 x2 _ _ _ (lv_sub hl [0, 1, 2] rfl) hP hS hf
    · rw [if_neg c2] at hf
      refine lv_iload_n hx hb dX5_writeWhole_14 rfl (lv_at hl 2 rfl) ?_
      refine lv_iconst (v := 1) hx hb dX5_writeWhole_15 (by decide) ?_
      refine lv_icmp_ne (tgt := 32) hx hb dX5_writeWhole_16 (by decide) (fun c3 => ?_) (fun c3 => ?_)
      · rw [if_neg c3] at hf
        exact kX5_writeWhole_b32 C k4 hk4 σ x1 x2 _ _ _ (lv_sub hl [0, 1, 2] rfl) hP hS hf
      · rw [if_pos c3] at hf
        exact kX5_writeWhole_b19 C k4 hk4 σ x1 x2 _ _ _ (lv_sub hl [0, 1, 2] rfl) hP hS hf
set_option maxRecDepth 100000 in
set_option maxHeartbeats 4000000 in
theorem kX5_writeWhole_b4_L (C : s_X p s m meth c args cX5_writeWhole none 3 RX5 G cy sa ad 27) : ∀ (n : Nat), ∀ (σ : Sg) (x1 : Int32) (x2 : Int32) (ls : Array Slot) (H : Heap) (locs : List Loc), lv_has ls 3 [(0, .ref (ad 10)), (1, .int x1), (2, .int x2)] → va_P G vwCl ((s_WC cy ad) σ) H → va_S (s_A ad 27 s.heap.size) s.heap H locs → fX5_writeWhole_b4_L n σ x1 x2 = some σe → W p l e ({ frames := 1, cells := 0, slots := 0, locals := 21 } : Room) s m args below meth c H locs 0 0 (MQ below (s_Qv (s_WC cy ad) G (s_A ad 27 s.heap.size) σe) args s 0 0 (s_A ad 27 s.heap.size)) (F0 m 4 ls []) := by
  intro n
  induction n with
  | zero => intro σ x1 x2 ls H locs hl hP hS hf; exact absurd (show (none : Option Sg) = some σe from hf) (by intro h; cases h)
  | succ n ih => intro σ x1 x2 ls H locs hl hP hS hf; exact kX5_writeWhole_b4 C (fX5_writeWhole_b4_L n) ih σ x1 x2 ls H locs hl hP hS hf
set_option maxRecDepth 100000 in
set_option maxHeartbeats 4000000 in
theorem kX5_writeWhole (C : s_X p s m meth c args cX5_writeWhole none 3 RX5 G cy sa ad 27) (σ : Sg) (x1 : Int32) (ls : Array Slot) (H : Heap) (locs : List Loc) (hl : lv_has ls 3 [(0, .ref (ad 10)), (1, .int x1)]) (hP : va_P G vwCl ((s_WC cy ad) σ) H) (hS : va_S (s_A ad 27 s.heap.size) s.heap H locs) (hf : fX5_writeWhole σ x1 = some σe) : W p l e ({ frames := 1, cells := 0, slots := 0, locals := 21 } : Room) s m args below meth c H locs 0 0 (MQ below (s_Qv (s_WC cy ad) G (s_A ad 27 s.heap.size) σe) args s 0 0 (s_A ad 27 s.heap.size)) (F0 m 0 ls []) := by
  obtain ⟨hx, hb, hr, hml, hown, hts, hlk, hK, hE, hI⟩ := id C
  have hD : ∀ σ : Sg, va_D (s_A ad 27 s.heap.size) ((s_WC cy ad) σ) := fun σ => s_D (s_WC_ad cy ad σ) hI (fun k hk => Or.inl ⟨k, hk, rfl⟩)
  unfold fX5_writeWhole at hf
  refine lv_sipush (v := 1000) hx hb dX5_writeWhole_0 (by decide) ?_
  refine lv_istore_n (lv' := [(2, .int (1000 : Int32)), (0, .ref (ad 10)), (1, .int x1)]) hx hb dX5_writeWhole_3 rfl hl (by decide) rfl (fun ls hl => ?_)
  exact kX5_writeWhole_b4_L C s_fu σ x1 (1000 : Int32) _ _ _ (lv_sub hl [1, 2, 0] rfl) hP hS hf
theorem kcX5_writeWhole {l : Launch} {G : va_G} {cy : Nat → ClassId} {sa : Nat × Nat} {ad : Nat → Nat}  {sz : Nat} (hI : s_inj ad 27) (σ : Sg) (x1 : Int32) {σe : Sg} (hf : fX5_writeWhole σ x1 = some σe) : Met l yX5_writeWhole (kW yX5_writeWhole cX5_writeWhole 3 none) ({ frames := 1, cells := 0, slots := 0, locals := 21 } : Room) (s_P (s_WC cy ad) G cy sa ad 27 [.ref (ad 10), .int x1] sz σ) (s_Qv (s_WC cy ad) G (s_A ad 27 sz) σe) 0 0 (s_A ad 27 sz) := by
  refine s_met (own := RX5) (by decide) rfl hI (Nat.le_of_ble_eq_true rfl) (fun p e s m below meth c ls hsz C hP hl => ?_)
  subst hsz
  exact kX5_writeWhole C σ x1 ls _ _ hl hP va_S.rf hf
set_option maxRecDepth 100000 in
set_option maxHeartbeats 4000000 in
theorem kX5_writeNumber_b103 (C : s_X p s m meth c args cX5_writeNumber none 7 RX5 G cy sa ad 27) (σ : Sg) (x5 : Int32) (x6 : Int32) (ls : Array Slot) (H : Heap) (locs : List Loc) (hl : lv_has ls 7 [(0, .ref (ad 10)), (5, .int x5), (6, .int x6)]) (hP : va_P G vwCl ((s_WC cy ad) σ) H) (hS : va_S (s_A ad 27 s.heap.size) s.heap H locs) (hf : fX5_writeNumber_b103 σ x5 x6 = some σe) : W p l e ({ frames := 2, cells := 0, slots := 0, locals := 43 } : Room) s m args below meth c H locs 0 0 (MQ below (s_Qv (s_WC cy ad) G (s_A ad 27 s.heap.size) σe) args s 0 0 (s_A ad 27 s.heap.size)) (F0 m 103 ls []) := by
  obtain ⟨hx, hb, hr, hml, hown, hts, hlk, hK, hE, hI⟩ := id C
  have hD : ∀ σ : Sg, va_D (s_A ad 27 s.heap.size) ((s_WC cy ad) σ) := fun σ => s_D (s_WC_ad cy ad σ) hI (fun k hk => Or.inl ⟨k, hk, rfl⟩)
  unfold fX5_writeNumber_b103 at hf
  refine lv_iload hx hb dX5_writeNumber_103 (lv_at hl 2 rfl) ?_
  refine lv_if_eq (tgt := 117) hx hb dX5_writeNumber_105 (by decide) (fun c1 => ?_) (fun c1 => ?_)
  · rw [if_pos c1] at hf
    have he2 := Option.some.inj hf
    exact W.vret hx hb hr (fun t ht hW => ⟨⟨(), rfl, trivial, s_fin (Wd := (s_WC cy ad)) ht he2 hP⟩, hS.F ht⟩) hS.2.2 dX5_writeNumber_117 hlk
  · rw [if_neg c1] at hf
    refine lv_aload_n hx hb dX5_writeNumber_108 rfl (lv_at hl 0 rfl) ?_
    refine lv_bipush (v := 48) hx hb dX5_writeNumber_109 (by decide) ?_
    refine lv_iload hx hb dX5_writeNumber_111 (lv_at hl 1 rfl) ?_
    refine lv_iadd hx hb dX5_writeNumber_113 ?_
    replace hf := s_bv_some hf
    obtain ⟨σ2, hz3, hf⟩ := hf
    refine s_callv (nn := 1) C (kcX5_push (l := l) (G := G) (cy := cy) (sa := sa) hI (sz := H.size) σ ((48 : Int32) + x5) hz3) gk_X5_19 rfl rfl (by decide +kernel) ⟨Nat.le_of_ble_eq_true rfl, Nat.le_of_ble_eq_true rfl⟩ hP hS (q0 := 10) (ci := 5) rfl rfl rfl (As := [.int ((48 : Int32) + x5)]) (rest := []) rfl rfl hl.1 (Nat.le_of_ble_eq_true rfl) dX5_writeNumber_114 (fun H locs hP hS => ?_)
    have he2 := Option.some.inj hf
    exact W.vret hx hb hr (fun t ht hW => ⟨⟨(), rfl, trivial, s_fin (Wd := (s_WC cy ad)) ht he2 hP⟩, hS.F ht⟩) hS.2.2 dX5_writeNumber_117 hlk
set_option maxRecDepth 100000 in
set_option maxHeartbeats 4000000 in
theorem kX5_writeNumber_b88 (C : s_X p s m meth c args cX5_writeNumber none 7 RX5 G cy sa ad 27) (σ : Sg) (x4 : Int32) (x5 : Int32) (x6 : Int32) (ls : Array Slot) (H : Heap) (locs : List Loc) (hl : lv_has ls 7 [(0, .ref (ad 10)), (4, .int x4), (5, .int x5), (6, .int x6)]) (hP : va_P G vwCl ((s_WC cy ad) σ) H) (hS : va_S (s_A ad 27 s.heap.size) s.heap H locs) (hf : fX5_writeNumber_b88 σ x4 x5 x6 = some σe) : W p l e ({ frames := 2, cells := 0, slots := 0, locals := 43 } : Room) s m args below meth c H locs 0 0 (MQ below (s_Qv (s_WC cy ad) G (s_A ad 27 s.heap.size) σe) args s 0 0 (s_A ad 27 s.heap.size)) (F0 m 88 ls []) := by
  obtain ⟨hx, hb, hr, hml, hown, hts, hlk, hK, hE, hI⟩ := id C
  have hD : ∀ σ : Sg, va_D (s_A ad 27 s.heap.size) ((s_WC cy ad) σ) := fun σ => s_D (s_WC_ad cy ad σ) hI (fun k hk => Or.inl ⟨k, hk, rfl⟩)
  unfold fX5_writeNumber_b88 at hf
  refine lv_aload_n hx hb dX5_writeNumber_88 rfl (lv_at hl 0 rfl) ?_
  refine lv_bipush (v := 46) hx hb dX5_writeNumber_89 (by decide) ?_
  replace hf := s_bv_some hf
  obtain ⟨σ1, hz2, hf⟩ := hf
  refine s_callv (nn := 1) C (kcX5_push (l := l) (G := G) (cy := cy) (sa := sa) hI (sz := H.size) σ (46 : Int32) hz2) gk_X5_19 rfl rfl (by decide +kernel) ⟨Nat.le_of_ble_eq_true rfl, Nat.le_of_ble_eq_true rfl⟩ hP hS (q0 := 10) (ci := 5) rfl rfl rfl (As := [.int (46 : Int32)]) (rest := []) rfl rfl hl.1 (Nat.le_of_ble_eq_true rfl) dX5_writeNumber_91 (fun H locs hP hS => ?_)
  refine lv_aload_n hx hb dX5_writeNumber_94 rfl (lv_at hl 0 rfl) ?_
  refine lv_bipush (v := 48) hx hb dX5_writeNumber_95 (by decide) ?_
  refine lv_iload hx hb dX5_writeNumber_97 (lv_at hl 1 rfl) ?_
  refine lv_iadd hx hb dX5_writeNumber_99 ?_
  replace hf := s_bv_some hf
  obtain ⟨σ3, hz4, hf⟩ := hf
  refine s_callv (nn := 1) C (kcX5_push (l := l) (G := G) (cy := cy) (sa := sa) hI (sz := H.size) σ1 ((48 : Int32) + x4) hz4) gk_X5_19 rfl rfl (by decide +kernel) ⟨Nat.le_of_ble_eq_true rfl, Nat.le_of_ble_eq_true rfl⟩ hP hS (q0 := 10) (ci := 5) rfl rfl rfl (As := [.int ((48 : Int32) + x4)]) (rest := []) rfl rfl hl.1 (Nat.le_of_ble_eq_true rfl) dX5_writeNumber_100 (fun H locs hP hS => ?_)
  exact kX5_writeNumber_b103 C σ3 x5 x6 _ _ _ (lv_sub hl [0, 2, 3] rfl) hP hS hf
set_option maxRecDepth 100000 in
set_option maxHeartbeats 4000000 in
theorem kX5_writeNumber_b76 (C : s_X p s m meth c args cX5_writeNumber none 7 RX5 G cy sa ad 27) (σ : Sg) (x4 : Int32) (x5 : Int32) (y0 : Int32) (ls : Array Slot) (H : Heap) (locs : List Loc) (hl : lv_has ls 7 [(0, .ref (ad 10)), (4, .int x4), (5, .int x5)]) (hP : va_P G vwCl ((s_WC cy ad) σ) H) (hS : va_S (s_A ad 27 s.heap.size) s.heap H locs) (hf : fX5_writeNumber_b76 σ x4 x5 y0 = some σe) : W p l e ({ frames := 2, cells := 0, slots := 0, locals := 43 } : Room) s m args below meth c H locs 0 0 (MQ below (s_Qv (s_WC cy ad) G (s_A ad 27 s.heap.size) σe) args s 0 0 (s_A ad 27 s.heap.size)) (F0 m 76 ls [.int y0]) := by
  obtain ⟨hx, hb, hr, hml, hown, hts, hlk, hK, hE, hI⟩ := id C
  have hD : ∀ σ : Sg, va_D (s_A ad 27 s.heap.size) ((s_WC cy ad) σ) := fun σ => s_D (s_WC_ad cy ad σ) hI (fun k hk => Or.inl ⟨k, hk, rfl⟩)
  unfold fX5_writeNumber_b76 at hf
  refine lv_istore (lv' := [(6, .int y0), (0, .ref (ad 10)), (4, .int x4), (5, .int x5)]) hx hb dX5_writeNumber_76 hl (by decide) rfl (fun ls hl => ?_)
  refine lv_iload hx hb dX5_writeNumber_78 (lv_at hl 0 rfl) ?_
  refine lv_if_ne (tgt := 88) hx hb dX5_writeNumber_80 (by decide) (fun c1 => ?_) (fun c1 => ?_)
  · rw [if_neg c1] at hf
    exact kX5_writeNumber_b88 C σ x4 x5 y0 _ _ _ (lv_sub hl [1, 2, 3, 0] rfl) hP hS hf
  · rw [if_pos c1] at hf
    refine lv_iload hx hb dX5_writeNumber_83 (lv_at hl 2 rfl) ?_
    refine lv_if_le (tgt := 103) hx hb dX5_writeNumber_85 (by decide) (fun c2 => ?_) (fun c2 => ?_)
    · rw [if_pos c2] at hf
      exact kX5_writeNumber_b103 C σ x5 y0 _ _ _ (lv_sub hl [1, 3, 0] rfl) hP hS hf
    · rw [if_neg c2] at hf
      exact kX5_writeNumber_b88 C σ x4 x5 y0 _ _ _ (lv_sub hl [1, 2, 3, 0] rfl) hP hS hf
set_option maxRecDepth 100000 in
set_option maxHeartbeats 4000000 in
theorem kX5_writeNumber_b71 (C : s_X p s m meth c args cX5_writeNumber none 7 RX5 G cy sa ad 27) (σ : Sg) (x4 : Int32) (x5 : Int32) (ls : Array Slot) (H : Heap) (locs : List Loc) (hl : lv_has ls 7 [(0, .ref (ad 10)), (4, .int x4), (5, .int x5)]) (hP : va_P G vwCl ((s_WC cy ad) σ) H) (hS : va_S (s_A ad 27 s.heap.size) s.heap H locs) (hf : fX5_writeNumber_b71 σ x4 x5 = some σe) : W p l e ({ frames := 2, cells := 0, slots := 0, locals := 43 } : Room) s m args below meth c H locs 0 0 (MQ below (s_Qv (s_WC cy ad) G (s_A ad 27 s.heap.size) σe) args s 0 0 (s_A ad 27 s.heap.size)) (F0 m 71 ls []) := by
  obtain ⟨hx, hb, hr, hml, hown, hts, hlk, hK, hE, hI⟩ := id C
  have hD : ∀ σ : Sg, va_D (s_A ad 27 s.heap.size) ((s_WC cy ad) σ) := fun σ => s_D (s_WC_ad cy ad σ) hI (fun k hk => Or.inl ⟨k, hk, rfl⟩)
  unfold fX5_writeNumber_b71 at hf
  refine lv_iconst (v := 1) hx hb dX5_writeNumber_71 (by decide) ?_
  refine lv_goto (tgt := 76) hx hb dX5_writeNumber_72 (by decide) ?_
  exact kX5_writeNumber_b76 C σ x4 x5 (1 : Int32) _ _ _ (lv_sub hl [0, 1, 2] rfl) hP hS hf
set_option maxRecDepth 100000 in
set_option maxHeartbeats 4000000 in
theorem kX5_writeNumber_b33 (C : s_X p s m meth c args cX5_writeNumber none 7 RX5 G cy sa ad 27) (σ : Sg) (x1 : Int32) (x2 : Int32) (ls : Array Slot) (H : Heap) (locs : List Loc) (hl : lv_has ls 7 [(0, .ref (ad 10)), (1, .int x1), (2, .int x2)]) (hP : va_P G vwCl ((s_WC cy ad) σ) H) (hS : va_S (s_A ad 27 s.heap.size) s.heap H locs) (hf : fX5_writeNumber_b33 σ x1 x2 = some σe) : W p l e ({ frames := 2, cells := 0, slots := 0, locals := 43 } : Room) s m args below meth c H locs 0 0 (MQ below (s_Qv (s_WC cy ad) G (s_A ad 27 s.heap.size) σe) args s 0 0 (s_A ad 27 s.heap.size)) (F0 m 33 ls []) := by
  obtain ⟨hx, hb, hr, hml, hown, hts, hlk, hK, hE, hI⟩ := id C
  have hD : ∀ σ : Sg, va_D (s_A ad 27 s.heap.size) ((s_WC cy ad) σ) := fun σ => s_D (s_WC_ad cy ad σ) hI (fun k hk => Or.inl ⟨k, hk, rfl⟩)
  unfold fX5_writeNumber_b33 at hf
  refine lv_iload_n hx hb dX5_writeNumber_33 rfl (lv_at hl 1 rfl) ?_
  refine va_mabs hx hb (hml.trans hl.1.symm) hown (hts _ kw_575) (hts _ kw_548) (hts _ kw_69) (hts _ kw_549) (Nat.le_of_ble_eq_true rfl) (Nat.le_of_ble_eq_true rfl) (Nat.zero_le _) (Nat.zero_le _) dX5_writeNumber_34 ?_
  refine lv_topi (fun t1 et1 => ?_)
  replace hf := s_lt_at et1 hf
  refine lv_istore_n (lv' := [(3, .int t1), (0, .ref (ad 10)), (1, .int x1), (2, .int x2)]) hx hb dX5_writeNumber_37 rfl hl (by decide) rfl (fun ls hl => ?_)
  refine lv_aload_n hx hb dX5_writeNumber_38 rfl (lv_at hl 1 rfl) ?_
  refine lv_iload_n hx hb dX5_writeNumber_39 rfl (lv_at hl 0 rfl) ?_
  refine lv_bipush (v := 100) hx hb dX5_writeNumber_40 (by decide) ?_
  refine lv_idiv hx hb dX5_writeNumber_42 (by decide) ?_
  replace hf := s_bv_some hf
  obtain ⟨σ2, hz3, hf⟩ := hf
  refine s_callv (nn := 1) C (kcX5_writeWhole (l := l) (G := G) (cy := cy) (sa := sa) hI (sz := H.size) σ (t1 / (100 : Int32)) hz3) gk_X5_29 rfl rfl (by decide +kernel) ⟨Nat.le_of_ble_eq_true rfl, Nat.le_of_ble_eq_true rfl⟩ hP hS (q0 := 10) (ci := 5) rfl rfl rfl (As := [.int (t1 / (100 : Int32))]) (rest := []) rfl rfl hl.1 (Nat.le_of_ble_eq_true rfl) dX5_writeNumber_43 (fun H locs hP hS => ?_)
  refine lv_iload_n hx hb dX5_writeNumber_46 rfl (lv_at hl 0 rfl) ?_
  refine lv_bipush (v := 10) hx hb dX5_writeNumber_47 (by decide) ?_
  refine lv_idiv hx hb dX5_writeNumber_49 (by decide) ?_
  refine lv_bipush (v := 10) hx hb dX5_writeNumber_50 (by decide) ?_
  refine lv_irem hx hb dX5_writeNumber_52 (by decide) ?_
  refine lv_topi (fun t4 et4 => ?_)
  replace hf := s_lt_at et4 hf
  refine lv_istore (lv' := [(4, .int t4), (3, .int t1), (0, .ref (ad 10)), (1, .int x1), (2, .int x2)]) hx hb dX5_writeNumber_53 hl (by decide) rfl (fun ls hl => ?_)
  refine lv_iload_n hx hb dX5_writeNumber_55 rfl (lv_at hl 1 rfl) ?_
  refine lv_bipush (v := 10) hx hb dX5_writeNumber_56 (by decide) ?_
  refine lv_irem hx hb dX5_writeNumber_58 (by decide) ?_
  refine lv_topi (fun t5 et5 => ?_)
  replace hf := s_lt_at et5 hf
  refine lv_istore (lv' := [(5, .int t5), (4, .int t4), (3, .int t1), (0, .ref (ad 10)), (1, .int x1), (2, .int x2)]) hx hb dX5_writeNumber_59 hl (by decide) rfl (fun ls hl => ?_)
  refine lv_iload_n hx hb dX5_writeNumber_61 rfl (lv_at hl 5 rfl) ?_
  refine lv_iconst (v := 1) hx hb dX5_writeNumber_62 (by decide) ?_
  refine lv_icmp_eq (tgt := 71) hx hb dX5_writeNumber_63 (by decide) (fun c6 => ?_) (fun c6 => ?_)
  · rw [if_pos c6] at hf
    exact kX5_writeNumber_b71 C σ2 t4 t5 _ _ _ (lv_sub hl [3, 1, 0] rfl) hP hS hf
  · rw [if_neg c6] at hf
    refine lv_iload hx hb dX5_writeNumber_66 (lv_at hl 0 rfl) ?_
    refine lv_if_le (tgt := 75) hx hb dX5_writeNumber_68 (by decide) (fun c7 => ?_) (fun c7 => ?_)
    · rw [if_pos c7] at hf
      refine lv_iconst (v := 0) hx hb dX5_writeNumber_75 (by decide) ?_
      exact kX5_writeNumber_b76 C σ2 t4 t5 (0 : Int32) _ _ _ (lv_sub hl [3, 1, 0] rfl) hP hS hf
    · rw [if_neg c7] at hf
      exact kX5_writeNumber_b71 C σ2 t4 t5 _ _ _ (lv_sub hl [3, 1, 0] rfl) hP hS hf
set_option maxRecDepth 100000 in
set_option maxHeartbeats 4000000 in
theorem kX5_writeNumber (C : s_X p s m meth c args cX5_writeNumber none 7 RX5 G cy sa ad 27) (σ : Sg) (x1 : Int32) (x2 : Int32) (ls : Array Slot) (H : Heap) (locs : List Loc) (hl : lv_has ls 7 [(0, .ref (ad 10)), (1, .int x1), (2, .int x2)]) (hP : va_P G vwCl ((s_WC cy ad) σ) H) (hS : va_S (s_A ad 27 s.heap.size) s.heap H locs) (hf : fX5_writeNumber σ x1 x2 = some σe) : W p l e ({ frames := 2, cells := 0, slots := 0, locals := 43 } : Room) s m args below meth c H locs 0 0 (MQ below (s_Qv (s_WC cy ad) G (s_A ad 27 s.heap.size) σe) args s 0 0 (s_A ad 27 s.heap.size)) (F0 m 0 ls []) := by
  obtain ⟨hx, hb, hr, hml, hown, hts, hlk, hK, hE, hI⟩ := id C
  have hD : ∀ σ : Sg, va_D (s_A ad 27 s.heap.size) ((s_WC cy ad) σ) := fun σ => s_D (s_WC_ad cy ad σ) hI (fun k hk => Or.inl ⟨k, hk, rfl⟩)
  unfold fX5_writeNumber at hf
  refine lv_aload_n hx hb dX5_writeNumber_0 rfl (lv_at hl 0 rfl) ?_
  refine lv_iconst (v := 0) hx hb dX5_writeNumber_1 (by decide) ?_
  refine va_put (D := G) (ci := 5) (v := .int (0 : Int32)) (ty := .int) (C := RX5) (T := TX5) (N := 2) hx hb hts inkX5 tyX5 tyX5_ok nmX5 hown hK hP (hD _) hS 10 rfl rfl 1 (by decide) (hts _ kw_222) (fun _ h9 => h9) rfl (by decide +kernel) rfl rfl (Nat.le_of_ble_eq_true rfl) dX5_writeNumber_2 (fun H locs hP _ hS => ?_)
  obtain ⟨σ1, eσ1⟩ : ∃ z : Sg, z = (s_up σ 10 1 (0 : Int32)) := ⟨_, rfl⟩
  replace hf := s_lt_at eσ1 hf
  replace hP : va_P G vwCl ((s_WC cy ad) σ1) H := by rw [eσ1]; exact hP
  refine lv_iload_n hx hb dX5_writeNumber_5 rfl (lv_at hl 1 rfl) ?_
  refine lv_if_ge (tgt := 18) hx hb dX5_writeNumber_6 (by decide) (fun c2 => ?_) (fun c2 => ?_)
  · rw [if_pos c2] at hf
    refine lv_iload_n hx hb dX5_writeNumber_18 rfl (lv_at hl 1 rfl) ?_
    refine lv_if_le (tgt := 33) hx hb dX5_writeNumber_19 (by decide) (fun c3 => ?_) (fun c3 => ?_)
    · rw [if_pos c3] at hf
      exact kX5_writeNumber_b33 C σ1 x1 x2 _ _ _ (lv_sub hl [0, 1, 2] rfl) hP hS hf
    · rw [if_neg c3] at hf
      refine lv_iload_n hx hb dX5_writeNumber_22 rfl (lv_at hl 2 rfl) ?_
      refine lv_iconst (v := 2) hx hb dX5_writeNumber_23 (by decide) ?_
      refine lv_icmp_ne (tgt := 33) hx hb dX5_writeNumber_24 (by decide) (fun c4 => ?_) (fun c4 => ?_)
      · rw [if_neg c4] at hf
        exact kX5_writeNumber_b33 C σ1 x1 x2 _ _ _ (lv_sub hl [0, 1, 2] rfl) hP hS hf
      · rw [if_pos c4] at hf
        refine lv_aload_n hx hb dX5_writeNumber_27 rfl (lv_at hl 0 rfl) ?_
        refine lv_bipush (v := 43) hx hb dX5_writeNumber_28 (by decide) ?_
        replace hf := s_bv_some hf
        obtain ⟨σ5, hz6, hf⟩ := hf
        refine s_callv (nn := 1) C (kcX5_push (l := l) (G := G) (cy := cy) (sa := sa) hI (sz := H.size) σ1 (43 : Int32) hz6) gk_X5_19 rfl rfl (by decide +kernel) ⟨Nat.le_of_ble_eq_true rfl, Nat.le_of_ble_eq_true rfl⟩ hP hS (q0 := 10) (ci := 5) rfl rfl rfl (As := [.int (43 : Int32)]) (rest := []) rfl rfl hl.1 (Nat.le_of_ble_eq_true rfl) dX5_writeNumber_30 (fun H locs hP hS => ?_)
        exact kX5_writeNumber_b33 C σ5 x1 x2 _ _ _ (lv_sub hl [0, 1, 2] rfl) hP hS hf
  · rw [if_neg c2] at hf
    refine lv_aload_n hx hb dX5_writeNumber_9 rfl (lv_at hl 0 rfl) ?_
    refine lv_bipush (v := 45) hx hb dX5_writeNumber_10 (by decide) ?_
    replace hf := s_bv_some hf
    obtain ⟨σ7, hz8, hf⟩ := hf
    refine s_callv (nn := 1) C (kcX5_push (l := l) (G := G) (cy := cy) (sa := sa) hI (sz := H.size) σ1 (45 : Int32) hz8) gk_X5_19 rfl rfl (by decide +kernel) ⟨Nat.le_of_ble_eq_true rfl, Nat.le_of_ble_eq_true rfl⟩ hP hS (q0 := 10) (ci := 5) rfl rfl rfl (As := [.int (45 : Int32)]) (rest := []) rfl rfl hl.1 (Nat.le_of_ble_eq_true rfl) dX5_writeNumber_12 (fun H locs hP hS => ?_)
    refine lv_goto (tgt := 33) hx hb dX5_writeNumber_15 (by decide) ?_
    exact kX5_writeNumber_b33 C σ7 x1 x2 _ _ _ (lv_sub hl [0, 1, 2] rfl) hP hS hf
theorem kcX5_writeNumber {l : Launch} {G : va_G} {cy : Nat → ClassId} {sa : Nat × Nat} {ad : Nat → Nat}  {sz : Nat} (hI : s_inj ad 27) (σ : Sg) (x1 : Int32) (x2 : Int32) {σe : Sg} (hf : fX5_writeNumber σ x1 x2 = some σe) : Met l yX5_writeNumber (kW yX5_writeNumber cX5_writeNumber 7 none) ({ frames := 2, cells := 0, slots := 0, locals := 43 } : Room) (s_P (s_WC cy ad) G cy sa ad 27 [.ref (ad 10), .int x1, .int x2] sz σ) (s_Qv (s_WC cy ad) G (s_A ad 27 sz) σe) 0 0 (s_A ad 27 sz) := by
  refine s_met (own := RX5) (by decide) rfl hI (Nat.le_of_ble_eq_true rfl) (fun p e s m below meth c ls hsz C hP hl => ?_)
  subst hsz
  exact kX5_writeNumber C σ x1 x2 ls _ _ hl hP va_S.rf hf
set_option maxRecDepth 100000 in
set_option maxHeartbeats 4000000 in
theorem kX6_writeWords (C : s_X p s m meth c args cX6_writeWords none 1 RX6 G cy sa ad 27) (σ : Sg) (ls : Array Slot) (H : Heap) (locs : List Loc) (hl : lv_has ls 1 [(0, .ref (ad 0))]) (hP : va_P G vwCl ((s_WC cy ad) σ) H) (hS : va_S (s_A ad 27 s.heap.size) s.heap H locs) (hf : fX6_writeWords σ = some σe) : W p l e ({ frames := 3, cells := 0, slots := 0, locals := 69 } : Room) s m args below meth c H locs 0 0 (MQ below (s_Qv (s_WC cy ad) G (s_A ad 27 s.heap.size) σe) args s 0 0 (s_A ad 27 s.heap.size)) (F0 m 0 ls []) := by
  obtain ⟨hx, hb, hr, hml, hown, hts, hlk, hK, hE, hI⟩ := id C
  have hD : ∀ σ : Sg, va_D (s_A ad 27 s.heap.size) ((s_WC cy ad) σ) := fun σ => s_D (s_WC_ad cy ad σ) hI (fun k hk => Or.inl ⟨k, hk, rfl⟩)
  unfold fX6_writeWords at hf
  refine lv_aload_n hx hb dX6_writeWords_0 rfl (lv_at hl 0 rfl) ?_
  refine va_get (D := G) (ci := 6) (v := .ref (ad 8)) (C := RX6) (T := TX6) (N := 9) hx hb hts inkX6 hown hK hP 0 rfl rfl 3 (by decide) (hts _ kw_253) (fun _ h9 => h9) rfl dX6_writeWords_1 ?_
  replace hf := s_bi_some hf
  obtain ⟨r3, σ1, hz2, hf⟩ := hf
  refine s_calli (nn := 0) C (kcX0_hasResult (l := l) (G := G) (cy := cy) (sa := sa) hI (sz := H.size) σ hz2) gk_X6_134 rfl rfl (by decide +kernel) ⟨Nat.le_of_ble_eq_true rfl, Nat.le_of_ble_eq_true rfl⟩ hP hS (q0 := 8) (ci := 0) rfl rfl rfl (As := []) (rest := []) rfl rfl hl.1 (Nat.le_of_ble_eq_true rfl) dX6_writeWords_4 (fun H locs hP hS => ?_)
  refine lv_if_eq (tgt := 34) hx hb dX6_writeWords_7 (by decide) (fun c4 => ?_) (fun c4 => ?_)
  · rw [if_pos c4] at hf
    refine lv_aload_n hx hb dX6_writeWords_34 rfl (lv_at hl 0 rfl) ?_
    refine va_get (D := G) (ci := 6) (v := .ref (ad 10)) (C := RX6) (T := TX6) (N := 9) hx hb hts inkX6 hown hK hP 0 rfl rfl 4 (by decide) (hts _ kw_254) (fun _ h9 => h9) rfl dX6_writeWords_35 ?_
    replace hf := s_bv_some hf
    obtain ⟨σ5, hz6, hf⟩ := hf
    refine s_callv (nn := 0) C (kcX5_writeNone (l := l) (G := G) (cy := cy) (sa := sa) hI (sz := H.size) σ1 hz6) gk_X6_263 rfl rfl (by decide +kernel) ⟨Nat.le_of_ble_eq_true rfl, Nat.le_of_ble_eq_true rfl⟩ hP hS (q0 := 10) (ci := 5) rfl rfl rfl (As := []) (rest := []) rfl rfl hl.1 (Nat.le_of_ble_eq_true rfl) dX6_writeWords_38 (fun H locs hP hS => ?_)
    have he2 := Option.some.inj hf
    exact W.vret hx hb hr (fun t ht hW => ⟨⟨(), rfl, trivial, s_fin (Wd := (s_WC cy ad)) ht he2 hP⟩, hS.F ht⟩) hS.2.2 dX6_writeWords_41 hlk
  · rw [if_neg c4] at hf
    refine lv_aload_n hx hb dX6_writeWords_10 rfl (lv_at hl 0 rfl) ?_
    refine va_get (D := G) (ci := 6) (v := .ref (ad 10)) (C := RX6) (T := TX6) (N := 9) hx hb hts inkX6 hown hK hP 0 rfl rfl 4 (by decide) (hts _ kw_254) (fun _ h9 => h9) rfl dX6_writeWords_11 ?_
    refine lv_aload_n hx hb dX6_writeWords_14 rfl (lv_at hl 0 rfl) ?_
    refine va_get (D := G) (ci := 6) (v := .ref (ad 8)) (C := RX6) (T := TX6) (N := 9) hx hb hts inkX6 hown hK hP 0 rfl rfl 3 (by decide) (hts _ kw_253) (fun _ h9 => h9) rfl dX6_writeWords_15 ?_
    replace hf := s_bi_some hf
    obtain ⟨r9, σ7, hz8, hf⟩ := hf
    refine s_calli (nn := 0) C (kcX0_rounded (l := l) (G := G) (cy := cy) (sa := sa) hI (sz := H.size) σ1 hz8) gk_X6_153 rfl rfl (by decide +kernel) ⟨Nat.le_of_ble_eq_true rfl, Nat.le_of_ble_eq_true rfl⟩ hP hS (q0 := 8) (ci := 0) rfl rfl rfl (As := []) (rest := [.ref (ad 10)]) rfl rfl hl.1 (Nat.le_of_ble_eq_true rfl) dX6_writeWords_18 (fun H locs hP hS => ?_)
    refine lv_aload_n hx hb dX6_writeWords_21 rfl (lv_at hl 0 rfl) ?_
    refine va_get (D := G) (ci := 6) (v := .ref (ad 6)) (C := RX6) (T := TX6) (N := 9) hx hb hts inkX6 hown hK hP 0 rfl rfl 2 (by decide) (hts _ kw_252) (fun _ h9 => h9) rfl dX6_writeWords_22 ?_
    refine va_getN (D := G) (ci := 1) (v := .int (σ7 6 7)) (C := RX1) (T := TX1) (N := 8) hx hb hts inkX1 hown hK hP 6 rfl rfl 7 (by decide) (kn_X6_114 hE) (fun _ h9 => h9) rfl dX6_writeWords_25 ?_
    replace hf := s_bv_some hf
    obtain ⟨σ10, hz11, hf⟩ := hf
    refine s_callv (nn := 2) C (kcX5_writeNumber (l := l) (G := G) (cy := cy) (sa := sa) hI (sz := H.size) σ7 r9 (σ7 6 7) hz11) gk_X6_260 rfl rfl (by decide +kernel) ⟨Nat.le_of_ble_eq_true rfl, Nat.le_of_ble_eq_true rfl⟩ hP hS (q0 := 10) (ci := 5) rfl rfl rfl (As := [.int r9, .int (σ7 6 7)]) (rest := []) rfl rfl hl.1 (Nat.le_of_ble_eq_true rfl) dX6_writeWords_28 (fun H locs hP hS => ?_)
    refine lv_goto (tgt := 41) hx hb dX6_writeWords_31 (by decide) ?_
    have he2 := Option.some.inj hf
    exact W.vret hx hb hr (fun t ht hW => ⟨⟨(), rfl, trivial, s_fin (Wd := (s_WC cy ad)) ht he2 hP⟩, hS.F ht⟩) hS.2.2 dX6_writeWords_41 hlk
theorem kcX6_writeWords {l : Launch} {G : va_G} {cy : Nat → ClassId} {sa : Nat × Nat} {ad : Nat → Nat}  {sz : Nat} (hI : s_inj ad 27) (σ : Sg) {σe : Sg} (hf : fX6_writeWords σ = some σe) : Met l yX6_writeWords (kW yX6_writeWords cX6_writeWords 1 none) ({ frames := 3, cells := 0, slots := 0, locals := 69 } : Room) (s_P (s_WC cy ad) G cy sa ad 27 [.ref (ad 0)] sz σ) (s_Qv (s_WC cy ad) G (s_A ad 27 sz) σe) 0 0 (s_A ad 27 sz) := by
  refine s_met (own := RX6) (by decide) rfl hI (Nat.le_of_ble_eq_true rfl) (fun p e s m below meth c ls hsz C hP hl => ?_)
  subst hsz
  exact kX6_writeWords C σ ls _ _ hl hP va_S.rf hf
set_option maxRecDepth 100000 in
set_option maxHeartbeats 4000000 in
theorem kX5_byteAt_b21 (C : s_X p s m meth c args cX5_byteAt (some .int) 2 RX5 G cy sa ad 27) (σ : Sg) (ls : Array Slot) (H : Heap) (locs : List Loc) (hl : lv_has ls 2 []) (hP : va_P G vwCl ((s_WC cy ad) σ) H) (hS : va_S (s_A ad 27 s.heap.size) s.heap H locs) (hf : fX5_byteAt_b21 σ = some (re, σe)) : W p l e ({ frames := 0, cells := 0, slots := 0, locals := 0 } : Room) s m args below meth c H locs 0 0 (MQ below (s_Qi (s_WC cy ad) G (s_A ad 27 s.heap.size) re σe) args s 0 0 (s_A ad 27 s.heap.size)) (F0 m 21 ls []) := by
  obtain ⟨hx, hb, hr, hml, hown, hts, hlk, hK, hE, hI⟩ := id C
  have hD : ∀ σ : Sg, va_D (s_A ad 27 s.heap.size) ((s_WC cy ad) σ) := fun σ => s_D (s_WC_ad cy ad σ) hI (fun k hk => Or.inl ⟨k, hk, rfl⟩)
  unfold fX5_byteAt_b21 at hf
  refine lv_bipush (v := -4) hx hb dX5_byteAt_21 (by decide) ?_
  obtain ⟨he1, he2⟩ := s_ret hf
  exact W.iret hx hb hr (fun t ht hW => ⟨⟨_, (), rfl, he1, s_fin (Wd := (s_WC cy ad)) ht he2 hP⟩, hS.F ht⟩) hS.2.2 dX5_byteAt_23 hlk
set_option maxRecDepth 100000 in
set_option maxHeartbeats 4000000 in
theorem kX5_byteAt (C : s_X p s m meth c args cX5_byteAt (some .int) 2 RX5 G cy sa ad 27) (σ : Sg) (x1 : Int32) (ls : Array Slot) (H : Heap) (locs : List Loc) (hl : lv_has ls 2 [(0, .ref (ad 10)), (1, .int x1)]) (hP : va_P G vwCl ((s_WC cy ad) σ) H) (hS : va_S (s_A ad 27 s.heap.size) s.heap H locs) (hf : fX5_byteAt σ x1 = some (re, σe)) : W p l e ({ frames := 0, cells := 0, slots := 0, locals := 0 } : Room) s m args below meth c H locs 0 0 (MQ below (s_Qi (s_WC cy ad) G (s_A ad 27 s.heap.size) re σe) args s 0 0 (s_A ad 27 s.heap.size)) (F0 m 0 ls []) := by
  obtain ⟨hx, hb, hr, hml, hown, hts, hlk, hK, hE, hI⟩ := id C
  have hD : ∀ σ : Sg, va_D (s_A ad 27 s.heap.size) ((s_WC cy ad) σ) := fun σ => s_D (s_WC_ad cy ad σ) hI (fun k hk => Or.inl ⟨k, hk, rfl⟩)
  unfold fX5_byteAt at hf
  refine lv_iload_n hx hb dX5_byteAt_0 rfl (lv_at hl 1 rfl) ?_
  refine lv_if_lt (tgt := 21) hx hb dX5_byteAt_1 (by decide) (fun c1 => ?_) (fun c1 => ?_)
  · rw [if_pos c1] at hf
    exact kX5_byteAt_b21 C σ _ _ _ (lv_sub hl [] rfl) hP hS hf
  · rw [if_neg c1] at hf
    refine lv_iload_n hx hb dX5_byteAt_4 rfl (lv_at hl 1 rfl) ?_
    refine lv_aload_n hx hb dX5_byteAt_5 rfl (lv_at hl 0 rfl) ?_
    refine va_get (D := G) (ci := 5) (v := .int (σ 10 1)) (C := RX5) (T := TX5) (N := 2) hx hb hts inkX5 hown hK hP 10 rfl rfl 1 (by decide) (hts _ kw_222) (fun _ h9 => h9) rfl dX5_byteAt_6 ?_
    refine lv_icmp_ge (tgt := 21) hx hb dX5_byteAt_9 (by decide) (fun c2 => ?_) (fun c2 => ?_)
    · rw [if_pos c2] at hf
      exact kX5_byteAt_b21 C σ _ _ _ (lv_sub hl [] rfl) hP hS hf
    · rw [if_neg c2] at hf
      refine lv_aload_n hx hb dX5_byteAt_12 rfl (lv_at hl 0 rfl) ?_
      refine va_get (D := G) (ci := 5) (v := .ref (ad 11)) (C := RX5) (T := TX5) (N := 2) hx hb hts inkX5 hown hK hP 10 rfl rfl 0 (by decide) (hts _ kw_221) (fun _ h9 => h9) rfl dX5_byteAt_13 ?_
      refine lv_iload_n hx hb dX5_byteAt_16 rfl (lv_at hl 1 rfl) ?_
      replace hf := s_gd_some hf
      obtain ⟨g3, hf⟩ := hf
      refine va_bald hx hb hK hP 11 0 rfl rfl (s_in_of g3) dX5_byteAt_17 ?_
      refine lv_goto (tgt := 23) hx hb dX5_byteAt_18 (by decide) ?_
      obtain ⟨he1, he2⟩ := s_ret hf
      exact W.iret hx hb hr (fun t ht hW => ⟨⟨_, (), rfl, he1, s_fin (Wd := (s_WC cy ad)) ht he2 hP⟩, hS.F ht⟩) hS.2.2 dX5_byteAt_23 hlk
theorem kcX5_byteAt {l : Launch} {G : va_G} {cy : Nat → ClassId} {sa : Nat × Nat} {ad : Nat → Nat}  {sz : Nat} (hI : s_inj ad 27) (σ : Sg) (x1 : Int32) {re : Int32} {σe : Sg} (hf : fX5_byteAt σ x1 = some (re, σe)) : Met l yX5_byteAt (kW yX5_byteAt cX5_byteAt 2 (some .int)) ({ frames := 0, cells := 0, slots := 0, locals := 0 } : Room) (s_P (s_WC cy ad) G cy sa ad 27 [.ref (ad 10), .int x1] sz σ) (s_Qi (s_WC cy ad) G (s_A ad 27 sz) re σe) 0 0 (s_A ad 27 sz) := by
  refine s_met (own := RX5) (by decide) rfl hI (Nat.le_of_ble_eq_true rfl) (fun p e s m below meth c ls hsz C hP hl => ?_)
  subst hsz
  exact kX5_byteAt C σ x1 ls _ _ hl hP va_S.rf hf
set_option maxRecDepth 100000 in
set_option maxHeartbeats 4000000 in
theorem kX6_shown_b15 (C : s_X p s m meth c args cX6_shown (some .int) 3 RX6 G cy sa ad 27) (σ : Sg) (ls : Array Slot) (H : Heap) (locs : List Loc) (hl : lv_has ls 3 []) (hP : va_P G vwCl ((s_WC cy ad) σ) H) (hS : va_S (s_A ad 27 s.heap.size) s.heap H locs) (hf : fX6_shown_b15 σ = some (re, σe)) : W p l e ({ frames := 4, cells := 0, slots := 0, locals := 89 } : Room) s m args below meth c H locs 0 0 (MQ below (s_Qi (s_WC cy ad) G (s_A ad 27 s.heap.size) re σe) args s 0 0 (s_A ad 27 s.heap.size)) (F0 m 15 ls []) := by
  obtain ⟨hx, hb, hr, hml, hown, hts, hlk, hK, hE, hI⟩ := id C
  have hD : ∀ σ : Sg, va_D (s_A ad 27 s.heap.size) ((s_WC cy ad) σ) := fun σ => s_D (s_WC_ad cy ad σ) hI (fun k hk => Or.inl ⟨k, hk, rfl⟩)
  unfold fX6_shown_b15 at hf
  refine lv_iconst (v := -1) hx hb dX6_shown_15 (by decide) ?_
  obtain ⟨he1, he2⟩ := s_ret hf
  exact W.iret hx hb hr (fun t ht hW => ⟨⟨_, (), rfl, he1, s_fin (Wd := (s_WC cy ad)) ht he2 hP⟩, hS.F ht⟩) hS.2.2 dX6_shown_16 hlk
set_option maxRecDepth 100000 in
set_option maxHeartbeats 4000000 in
theorem kX6_shown (C : s_X p s m meth c args cX6_shown (some .int) 3 RX6 G cy sa ad 27) (σ : Sg) (x1 : Int32) (x2 : Int32) (ls : Array Slot) (H : Heap) (locs : List Loc) (hl : lv_has ls 3 [(0, .ref (ad 0)), (1, .int x1), (2, .int x2)]) (hP : va_P G vwCl ((s_WC cy ad) σ) H) (hS : va_S (s_A ad 27 s.heap.size) s.heap H locs) (hf : fX6_shown σ x1 x2 = some (re, σe)) : W p l e ({ frames := 4, cells := 0, slots := 0, locals := 89 } : Room) s m args below meth c H locs 0 0 (MQ below (s_Qi (s_WC cy ad) G (s_A ad 27 s.heap.size) re σe) args s 0 0 (s_A ad 27 s.heap.size)) (F0 m 0 ls []) := by
  obtain ⟨hx, hb, hr, hml, hown, hts, hlk, hK, hE, hI⟩ := id C
  have hD : ∀ σ : Sg, va_D (s_A ad 27 s.heap.size) ((s_WC cy ad) σ) := fun σ => s_D (s_WC_ad cy ad σ) hI (fun k hk => Or.inl ⟨k, hk, rfl⟩)
  unfold fX6_shown at hf
  refine lv_aload_n hx hb dX6_shown_0 rfl (lv_at hl 0 rfl) ?_
  refine va_get (D := G) (ci := 6) (v := .ref (ad 6)) (C := RX6) (T := TX6) (N := 9) hx hb hts inkX6 hown hK hP 0 rfl rfl 2 (by decide) (hts _ kw_252) (fun _ h9 => h9) rfl dX6_shown_1 ?_
  refine lv_iload_n hx hb dX6_shown_4 rfl (lv_at hl 1 rfl) ?_
  replace hf := s_bi_some hf
  obtain ⟨r3, σ1, hz2, hf⟩ := hf
  refine s_calli (nn := 1) C (kcX1_has_6 (l := l) (G := G) (cy := cy) (sa := sa) hI (sz := H.size) σ x1 hz2) gk_X6_124 rfl rfl (by decide +kernel) ⟨Nat.le_of_ble_eq_true rfl, Nat.le_of_ble_eq_true rfl⟩ hP hS (q0 := 6) (ci := 1) rfl rfl rfl (As := [.int x1]) (rest := []) rfl rfl hl.1 (Nat.le_of_ble_eq_true rfl) dX6_shown_5 (fun H locs hP hS => ?_)
  refine lv_if_eq (tgt := 15) hx hb dX6_shown_8 (by decide) (fun c4 => ?_) (fun c4 => ?_)
  · rw [if_pos c4] at hf
    exact kX6_shown_b15 C σ1 _ _ _ (lv_sub hl [] rfl) hP hS hf
  · rw [if_neg c4] at hf
    refine lv_iload_n hx hb dX6_shown_11 rfl (lv_at hl 2 rfl) ?_
    refine lv_if_ge (tgt := 17) hx hb dX6_shown_12 (by decide) (fun c5 => ?_) (fun c5 => ?_)
    · rw [if_pos c5] at hf
      refine lv_aload_n hx hb dX6_shown_17 rfl (lv_at hl 0 rfl) ?_
      refine va_get (D := G) (ci := 6) (v := .ref (ad 8)) (C := RX6) (T := TX6) (N := 9) hx hb hts inkX6 hown hK hP 0 rfl rfl 3 (by decide) (hts _ kw_253) (fun _ h9 => h9) rfl dX6_shown_18 ?_
      refine lv_iload_n hx hb dX6_shown_21 rfl (lv_at hl 1 rfl) ?_
      replace hf := s_bv_some hf
      obtain ⟨σ6, hz7, hf⟩ := hf
      refine s_callv (nn := 1) C (kcX0_load (l := l) (G := G) (cy := cy) (sa := sa) hI (sz := H.size) σ1 x1 hz7) gk_X6_128 rfl rfl (by decide +kernel) ⟨Nat.le_of_ble_eq_true rfl, Nat.le_of_ble_eq_true rfl⟩ hP hS (q0 := 8) (ci := 0) rfl rfl rfl (As := [.int x1]) (rest := []) rfl rfl hl.1 (Nat.le_of_ble_eq_true rfl) dX6_shown_22 (fun H locs hP hS => ?_)
      refine lv_aload_n hx hb dX6_shown_25 rfl (lv_at hl 0 rfl) ?_
      replace hf := s_bv_some hf
      obtain ⟨σ8, hz9, hf⟩ := hf
      refine s_callv (nn := 0) C (kcX6_writeWords (l := l) (G := G) (cy := cy) (sa := sa) hI (sz := H.size) σ6 hz9) gk_X6_162 rfl rfl (by decide +kernel) ⟨Nat.le_of_ble_eq_true rfl, Nat.le_of_ble_eq_true rfl⟩ hP hS (q0 := 0) (ci := 6) rfl rfl rfl (As := []) (rest := []) rfl rfl hl.1 (Nat.le_of_ble_eq_true rfl) dX6_shown_26 (fun H locs hP hS => ?_)
      refine lv_iload_n hx hb dX6_shown_29 rfl (lv_at hl 2 rfl) ?_
      refine lv_aload_n hx hb dX6_shown_30 rfl (lv_at hl 0 rfl) ?_
      refine va_get (D := G) (ci := 6) (v := .ref (ad 10)) (C := RX6) (T := TX6) (N := 9) hx hb hts inkX6 hown hK hP 0 rfl rfl 4 (by decide) (hts _ kw_254) (fun _ h9 => h9) rfl dX6_shown_31 ?_
      refine va_getN (D := G) (ci := 5) (v := .int (σ8 10 1)) (C := RX5) (T := TX5) (N := 2) hx hb hts inkX5 hown hK hP 10 rfl rfl 1 (by decide) (kn_X6_165 hE) (fun _ h9 => h9) rfl dX6_shown_34 ?_
      refine lv_icmp_ge (tgt := 51) hx hb dX6_shown_37 (by decide) (fun c10 => ?_) (fun c10 => ?_)
      · rw [if_pos c10] at hf
        refine lv_bipush (v := -4) hx hb dX6_shown_51 (by decide) ?_
        obtain ⟨he1, he2⟩ := s_ret hf
        exact W.iret hx hb hr (fun t ht hW => ⟨⟨_, (), rfl, he1, s_fin (Wd := (s_WC cy ad)) ht he2 hP⟩, hS.F ht⟩) hS.2.2 dX6_shown_53 hlk
      · rw [if_neg c10] at hf
        refine lv_aload_n hx hb dX6_shown_40 rfl (lv_at hl 0 rfl) ?_
        refine va_get (D := G) (ci := 6) (v := .ref (ad 10)) (C := RX6) (T := TX6) (N := 9) hx hb hts inkX6 hown hK hP 0 rfl rfl 4 (by decide) (hts _ kw_254) (fun _ h9 => h9) rfl dX6_shown_41 ?_
        refine lv_iload_n hx hb dX6_shown_44 rfl (lv_at hl 2 rfl) ?_
        replace hf := s_bi_some hf
        obtain ⟨r13, σ11, hz12, hf⟩ := hf
        refine s_calli (nn := 1) C (kcX5_byteAt (l := l) (G := G) (cy := cy) (sa := sa) hI (sz := H.size) σ8 x2 hz12) gk_X6_166 rfl rfl (by decide +kernel) ⟨Nat.le_of_ble_eq_true rfl, Nat.le_of_ble_eq_true rfl⟩ hP hS (q0 := 10) (ci := 5) rfl rfl rfl (As := [.int x2]) (rest := []) rfl rfl hl.1 (Nat.le_of_ble_eq_true rfl) dX6_shown_45 (fun H locs hP hS => ?_)
        refine lv_goto (tgt := 53) hx hb dX6_shown_48 (by decide) ?_
        obtain ⟨he1, he2⟩ := s_ret hf
        exact W.iret hx hb hr (fun t ht hW => ⟨⟨_, (), rfl, he1, s_fin (Wd := (s_WC cy ad)) ht he2 hP⟩, hS.F ht⟩) hS.2.2 dX6_shown_53 hlk
    · rw [if_neg c5] at hf
      exact kX6_shown_b15 C σ1 _ _ _ (lv_sub hl [] rfl) hP hS hf
theorem kcX6_shown {l : Launch} {G : va_G} {cy : Nat → ClassId} {sa : Nat × Nat} {ad : Nat → Nat}  {sz : Nat} (hI : s_inj ad 27) (σ : Sg) (x1 : Int32) (x2 : Int32) {re : Int32} {σe : Sg} (hf : fX6_shown σ x1 x2 = some (re, σe)) : Met l yX6_shown (kW yX6_shown cX6_shown 3 (some .int)) ({ frames := 4, cells := 0, slots := 0, locals := 89 } : Room) (s_P (s_WC cy ad) G cy sa ad 27 [.ref (ad 0), .int x1, .int x2] sz σ) (s_Qi (s_WC cy ad) G (s_A ad 27 sz) re σe) 0 0 (s_A ad 27 sz) := by
  refine s_met (own := RX6) (by decide) rfl hI (Nat.le_of_ble_eq_true rfl) (fun p e s m below meth c ls hsz C hP hl => ?_)
  subst hsz
  exact kX6_shown C σ x1 x2 ls _ _ hl hP va_S.rf hf
set_option maxRecDepth 100000 in
set_option maxHeartbeats 4000000 in
theorem kX0_spread_b101 (C : s_X p s m meth c args cX0_spread (some .int) 8 RX0 G cy sa ad 27) (k23 : Sg → Int32 → Int32 → Int32 → Int32 → Int32 → Option (Int32 × Sg)) (hk23 : ∀ (σ : Sg) (x1 : Int32) (x2 : Int32) (x3 : Int32) (x4 : Int32) (x5 : Int32) (ls : Array Slot) (H : Heap) (locs : List Loc), lv_has ls 8 [(0, .ref (ad 8)), (1, .int x1), (2, .int x2), (3, .int x3), (4, .int x4), (5, .int x5)] → va_P G vwCl ((s_WC cy ad) σ) H → va_S (s_A ad 27 s.heap.size) s.heap H locs → k23 σ x1 x2 x3 x4 x5 = some (re, σe) → W p l e ({ frames := 1, cells := 0, slots := 0, locals := 21 } : Room) s m args below meth c H locs 0 0 (MQ below (s_Qi (s_WC cy ad) G (s_A ad 27 s.heap.size) re σe) args s 0 0 (s_A ad 27 s.heap.size)) (F0 m 23 ls [])) (σ : Sg) (x1 : Int32) (x2 : Int32) (x3 : Int32) (x4 : Int32) (x5 : Int32) (ls : Array Slot) (H : Heap) (locs : List Loc) (hl : lv_has ls 8 [(0, .ref (ad 8)), (1, .int x1), (2, .int x2), (3, .int x3), (4, .int x4), (5, .int x5)]) (hP : va_P G vwCl ((s_WC cy ad) σ) H) (hS : va_S (s_A ad 27 s.heap.size) s.heap H locs) (hf : fX0_spread_b101 k23 σ x1 x2 x3 x4 x5 = some (re, σe)) : W p l e ({ frames := 1, cells := 0, slots := 0, locals := 21 } : Room) s m args below meth c H locs 0 0 (MQ below (s_Qi (s_WC cy ad) G (s_A ad 27 s.heap.size) re σe) args s 0 0 (s_A ad 27 s.heap.size)) (F0 m 101 ls []) := by
  obtain ⟨hx, hb, hr, hml, hown, hts, hlk, hK, hE, hI⟩ := id C
  have hD : ∀ σ : Sg, va_D (s_A ad 27 s.heap.size) ((s_WC cy ad) σ) := fun σ => s_D (s_WC_ad cy ad σ) hI (fun k hk => Or.inl ⟨k, hk, rfl⟩)
  unfold fX0_spread_b101 at hf
  obtain ⟨t1, et1⟩ : ∃ z : Int32, z = (x5 + 1) := ⟨_, rfl⟩
  replace hf := s_lt_at et1 hf
  refine lv_iinc (v := t1) (lv' := [(5, .int t1), (0, .ref (ad 8)), (1, .int x1), (2, .int x2), (3, .int x3), (4, .int x4)]) hx hb dX0_spread_101 hl (k := 5) rfl (by rw [et1]; rfl) (by decide) rfl (fun ls hl => ?_)
  refine lv_goto (tgt := 23) hx hb dX0_spread_104 (by decide) ?_
  exact hk23 σ x1 x2 x3 x4 t1 _ _ _ (lv_sub hl [1, 2, 3, 4, 5, 0] rfl) hP hS hf
set_option maxRecDepth 100000 in
set_option maxHeartbeats 4000000 in
theorem kX0_spread_b75 (C : s_X p s m meth c args cX0_spread (some .int) 8 RX0 G cy sa ad 27) (k23 : Sg → Int32 → Int32 → Int32 → Int32 → Int32 → Option (Int32 × Sg)) (hk23 : ∀ (σ : Sg) (x1 : Int32) (x2 : Int32) (x3 : Int32) (x4 : Int32) (x5 : Int32) (ls : Array Slot) (H : Heap) (locs : List Loc), lv_has ls 8 [(0, .ref (ad 8)), (1, .int x1), (2, .int x2), (3, .int x3), (4, .int x4), (5, .int x5)] → va_P G vwCl ((s_WC cy ad) σ) H → va_S (s_A ad 27 s.heap.size) s.heap H locs → k23 σ x1 x2 x3 x4 x5 = some (re, σe) → W p l e ({ frames := 1, cells := 0, slots := 0, locals := 21 } : Room) s m args below meth c H locs 0 0 (MQ below (s_Qi (s_WC cy ad) G (s_A ad 27 s.heap.size) re σe) args s 0 0 (s_A ad 27 s.heap.size)) (F0 m 23 ls [])) (σ : Sg) (x1 : Int32) (x2 : Int32) (x3 : Int32) (x5 : Int32) (x6 : Int32) (y0 : Int32) (ls : Array Slot) (H : Heap) (locs : List Loc) (hl : lv_has ls 8 [(0, .ref (ad 8)), (1, .int x1), (2, .int x2), (3, .int x3), (5, .int x5), (6, .int x6)]) (hP : va_P G vwCl ((s_WC cy ad) σ) H) (hS : va_S (s_A ad 27 s.heap.size) s.heap H locs) (hf : fX0_spread_b75 k23 σ x1 x2 x3 x5 x6 y0 = some (re, σe)) : W p l e ({ frames := 1, cells := 0, slots := 0, locals := 21 } : Room) s m args below meth c H locs 0 0 (MQ below (s_Qi (s_WC cy ad) G (s_A ad 27 s.heap.size) re σe) args s 0 0 (s_A ad 27 s.heap.size)) (F0 m 75 ls [.int y0]) := by
  obtain ⟨hx, hb, hr, hml, hown, hts, hlk, hK, hE, hI⟩ := id C
  have hD : ∀ σ : Sg, va_D (s_A ad 27 s.heap.size) ((s_WC cy ad) σ) := fun σ => s_D (s_WC_ad cy ad σ) hI (fun k hk => Or.inl ⟨k, hk, rfl⟩)
  unfold fX0_spread_b75 at hf
  refine lv_istore (lv' := [(7, .int y0), (0, .ref (ad 8)), (1, .int x1), (2, .int x2), (3, .int x3), (5, .int x5), (6, .int x6)]) hx hb dX0_spread_75 hl (by decide) rfl (fun ls hl => ?_)
  refine lv_iload hx hb dX0_spread_77 (lv_at hl 6 rfl) ?_
  refine lv_iload hx hb dX0_spread_79 (lv_at hl 0 rfl) ?_
  refine lv_icmp_gt (tgt := 94) hx hb dX0_spread_81 (by decide) (fun c1 => ?_) (fun c1 => ?_)
  · rw [if_pos c1] at hf
    refine lv_iload hx hb dX0_spread_94 (lv_at hl 0 rfl) ?_
    refine lv_istore (lv' := [(4, .int y0), (7, .int y0), (0, .ref (ad 8)), (1, .int x1), (2, .int x2), (3, .int x3), (5, .int x5), (6, .int x6)]) hx hb dX0_spread_96 hl (by decide) rfl (fun ls hl => ?_)
    obtain ⟨t2, et2⟩ : ∃ z : Int32, z = (x3 + 1) := ⟨_, rfl⟩
    replace hf := s_lt_at et2 hf
    refine lv_iinc (v := t2) (lv' := [(3, .int t2), (4, .int y0), (7, .int y0), (0, .ref (ad 8)), (1, .int x1), (2, .int x2), (5, .int x5), (6, .int x6)]) hx hb dX0_spread_98 hl (k := 5) rfl (by rw [et2]; rfl) (by decide) rfl (fun ls hl => ?_)
    exact kX0_spread_b101 C k23 hk23 σ x1 x2 t2 y0 x5 _ _ _ (lv_sub hl [3, 4, 5, 0, 1, 6] rfl) hP hS hf
  · rw [if_neg c1] at hf
    refine lv_iload hx hb dX0_spread_84 (lv_at hl 6 rfl) ?_
    refine lv_istore (lv' := [(4, .int x6), (7, .int y0), (0, .ref (ad 8)), (1, .int x1), (2, .int x2), (3, .int x3), (5, .int x5), (6, .int x6)]) hx hb dX0_spread_86 hl (by decide) rfl (fun ls hl => ?_)
    obtain ⟨t3, et3⟩ : ∃ z : Int32, z = (x2 + (-1)) := ⟨_, rfl⟩
    replace hf := s_lt_at et3 hf
    refine lv_iinc (v := t3) (lv' := [(2, .int t3), (4, .int x6), (7, .int y0), (0, .ref (ad 8)), (1, .int x1), (3, .int x3), (5, .int x5), (6, .int x6)]) hx hb dX0_spread_88 hl (k := 4) rfl (by rw [et3]; rfl) (by decide) rfl (fun ls hl => ?_)
    refine lv_goto (tgt := 101) hx hb dX0_spread_91 (by decide) ?_
    exact kX0_spread_b101 C k23 hk23 σ x1 t3 x3 x6 x5 _ _ _ (lv_sub hl [3, 4, 0, 5, 1, 6] rfl) hP hS hf
set_option maxRecDepth 100000 in
set_option maxHeartbeats 4000000 in
theorem kX0_spread_b49 (C : s_X p s m meth c args cX0_spread (some .int) 8 RX0 G cy sa ad 27) (k23 : Sg → Int32 → Int32 → Int32 → Int32 → Int32 → Option (Int32 × Sg)) (hk23 : ∀ (σ : Sg) (x1 : Int32) (x2 : Int32) (x3 : Int32) (x4 : Int32) (x5 : Int32) (ls : Array Slot) (H : Heap) (locs : List Loc), lv_has ls 8 [(0, .ref (ad 8)), (1, .int x1), (2, .int x2), (3, .int x3), (4, .int x4), (5, .int x5)] → va_P G vwCl ((s_WC cy ad) σ) H → va_S (s_A ad 27 s.heap.size) s.heap H locs → k23 σ x1 x2 x3 x4 x5 = some (re, σe) → W p l e ({ frames := 1, cells := 0, slots := 0, locals := 21 } : Room) s m args below meth c H locs 0 0 (MQ below (s_Qi (s_WC cy ad) G (s_A ad 27 s.heap.size) re σe) args s 0 0 (s_A ad 27 s.heap.size)) (F0 m 23 ls [])) (σ : Sg) (x1 : Int32) (x2 : Int32) (x3 : Int32) (x5 : Int32) (y0 : Int32) (ls : Array Slot) (H : Heap) (locs : List Loc) (hl : lv_has ls 8 [(0, .ref (ad 8)), (1, .int x1), (2, .int x2), (3, .int x3), (5, .int x5)]) (hP : va_P G vwCl ((s_WC cy ad) σ) H) (hS : va_S (s_A ad 27 s.heap.size) s.heap H locs) (hf : fX0_spread_b49 k23 σ x1 x2 x3 x5 y0 = some (re, σe)) : W p l e ({ frames := 1, cells := 0, slots := 0, locals := 21 } : Room) s m args below meth c H locs 0 0 (MQ below (s_Qi (s_WC cy ad) G (s_A ad 27 s.heap.size) re σe) args s 0 0 (s_A ad 27 s.heap.size)) (F0 m 49 ls [.int y0]) := by
  obtain ⟨hx, hb, hr, hml, hown, hts, hlk, hK, hE, hI⟩ := id C
  have hD : ∀ σ : Sg, va_D (s_A ad 27 s.heap.size) ((s_WC cy ad) σ) := fun σ => s_D (s_WC_ad cy ad σ) hI (fun k hk => Or.inl ⟨k, hk, rfl⟩)
  unfold fX0_spread_b49 at hf
  refine lv_istore (lv' := [(6, .int y0), (0, .ref (ad 8)), (1, .int x1), (2, .int x2), (3, .int x3), (5, .int x5)]) hx hb dX0_spread_49 hl (by decide) rfl (fun ls hl => ?_)
  refine lv_iload_n hx hb dX0_spread_51 rfl (lv_at hl 4 rfl) ?_
  refine lv_aload_n hx hb dX0_spread_52 rfl (lv_at hl 1 rfl) ?_
  refine va_get (D := G) (ci := 0) (v := .int (σ 8 2)) (C := RX0) (T := TX0) (N := 3) hx hb hts inkX0 hown hK hP 8 rfl rfl 2 (by decide) (hts _ kw_206) (fun _ h9 => h9) rfl dX0_spread_53 ?_
  refine lv_icmp_ge (tgt := 73) hx hb dX0_spread_56 (by decide) (fun c1 => ?_) (fun c1 => ?_)
  · rw [if_pos c1] at hf
    refine lv_ldc (v := 100000000) hx hb hown (hts _ kw_484) dX0_spread_73 ?_
    exact kX0_spread_b75 C k23 hk23 σ x1 x2 x3 x5 y0 (100000000 : Int32) _ _ _ (lv_sub hl [1, 2, 3, 4, 5, 0] rfl) hP hS hf
  · rw [if_neg c1] at hf
    refine lv_aload_n hx hb dX0_spread_59 rfl (lv_at hl 1 rfl) ?_
    refine lv_iload_n hx hb dX0_spread_60 rfl (lv_at hl 4 rfl) ?_
    replace hf := s_bi_some hf
    obtain ⟨r4, σ2, hz3, hf⟩ := hf
    refine s_calli (nn := 1) C (kcX0_at (l := l) (G := G) (cy := cy) (sa := sa) hI (sz := H.size) σ x3 hz3) gk_X0_68 rfl rfl (by decide +kernel) ⟨Nat.le_of_ble_eq_true rfl, Nat.le_of_ble_eq_true rfl⟩ hP hS (q0 := 8) (ci := 0) rfl rfl rfl (As := [.int x3]) (rest := []) rfl rfl hl.1 (Nat.le_of_ble_eq_true rfl) dX0_spread_61 (fun H locs hP hS => ?_)
    refine lv_aload_n hx hb dX0_spread_64 rfl (lv_at hl 1 rfl) ?_
    refine lv_iload_n hx hb dX0_spread_65 rfl (lv_at hl 2 rfl) ?_
    replace hf := s_bi_some hf
    obtain ⟨r7, σ5, hz6, hf⟩ := hf
    refine s_calli (nn := 1) C (kcX0_at (l := l) (G := G) (cy := cy) (sa := sa) hI (sz := H.size) σ2 x1 hz6) gk_X0_68 rfl rfl (by decide +kernel) ⟨Nat.le_of_ble_eq_true rfl, Nat.le_of_ble_eq_true rfl⟩ hP hS (q0 := 8) (ci := 0) rfl rfl rfl (As := [.int x1]) (rest := [.int r4]) rfl rfl hl.1 (Nat.le_of_ble_eq_true rfl) dX0_spread_66 (fun H locs hP hS => ?_)
    refine lv_isub hx hb dX0_spread_69 ?_
    refine lv_goto (tgt := 75) hx hb dX0_spread_70 (by decide) ?_
    exact kX0_spread_b75 C k23 hk23 σ5 x1 x2 x3 x5 y0 (r4 - r7) _ _ _ (lv_sub hl [1, 2, 3, 4, 5, 0] rfl) hP hS hf
set_option maxRecDepth 100000 in
set_option maxHeartbeats 4000000 in
theorem kX0_spread_b23 (C : s_X p s m meth c args cX0_spread (some .int) 8 RX0 G cy sa ad 27) (k23 : Sg → Int32 → Int32 → Int32 → Int32 → Int32 → Option (Int32 × Sg)) (hk23 : ∀ (σ : Sg) (x1 : Int32) (x2 : Int32) (x3 : Int32) (x4 : Int32) (x5 : Int32) (ls : Array Slot) (H : Heap) (locs : List Loc), lv_has ls 8 [(0, .ref (ad 8)), (1, .int x1), (2, .int x2), (3, .int x3), (4, .int x4), (5, .int x5)] → va_P G vwCl ((s_WC cy ad) σ) H → va_S (s_A ad 27 s.heap.size) s.heap H locs → k23 σ x1 x2 x3 x4 x5 = some (re, σe) → W p l e ({ frames := 1, cells := 0, slots := 0, locals := 21 } : Room) s m args below meth c H locs 0 0 (MQ below (s_Qi (s_WC cy ad) G (s_A ad 27 s.heap.size) re σe) args s 0 0 (s_A ad 27 s.heap.size)) (F0 m 23 ls [])) (σ : Sg) (x1 : Int32) (x2 : Int32) (x3 : Int32) (x4 : Int32) (x5 : Int32) (ls : Array Slot) (H : Heap) (locs : List Loc) (hl : lv_has ls 8 [(0, .ref (ad 8)), (1, .int x1), (2, .int x2), (3, .int x3), (4, .int x4), (5, .int x5)]) (hP : va_P G vwCl ((s_WC cy ad) σ) H) (hS : va_S (s_A ad 27 s.heap.size) s.heap H locs) (hf : fX0_spread_b23 k23 σ x1 x2 x3 x4 x5 = some (re, σe)) : W p l e ({ frames := 1, cells := 0, slots := 0, locals := 21 } : Room) s m args below meth c H locs 0 0 (MQ below (s_Qi (s_WC cy ad) G (s_A ad 27 s.heap.size) re σe) args s 0 0 (s_A ad 27 s.heap.size)) (F0 m 23 ls []) := by
  obtain ⟨hx, hb, hr, hml, hown, hts, hlk, hK, hE, hI⟩ := id C
  have hD : ∀ σ : Sg, va_D (s_A ad 27 s.heap.size) ((s_WC cy ad) σ) := fun σ => s_D (s_WC_ad cy ad σ) hI (fun k hk => Or.inl ⟨k, hk, rfl⟩)
  unfold fX0_spread_b23 at hf
  refine lv_iload hx hb dX0_spread_23 (lv_at hl 5 rfl) ?_
  refine lv_iload_n hx hb dX0_spread_25 rfl (lv_at hl 1 rfl) ?_
  refine lv_icmp_ge (tgt := 107) hx hb dX0_spread_26 (by decide) (fun c1 => ?_) (fun c1 => ?_)
  · rw [if_pos c1] at hf
    refine lv_iload hx hb dX0_spread_107 (lv_at hl 4 rfl) ?_
    obtain ⟨he1, he2⟩ := s_ret hf
    exact W.iret hx hb hr (fun t ht hW => ⟨⟨_, (), rfl, he1, s_fin (Wd := (s_WC cy ad)) ht he2 hP⟩, hS.F ht⟩) hS.2.2 dX0_spread_109 hlk
  · rw [if_neg c1] at hf
    refine lv_iload_n hx hb dX0_spread_29 rfl (lv_at hl 2 rfl) ?_
    refine lv_if_lt (tgt := 47) hx hb dX0_spread_30 (by decide) (fun c2 => ?_) (fun c2 => ?_)
    · rw [if_pos c2] at hf
      refine lv_ldc (v := 100000000) hx hb hown (hts _ kw_484) dX0_spread_47 ?_
      exact kX0_spread_b49 C k23 hk23 σ x1 x2 x3 x5 (100000000 : Int32) _ _ _ (lv_sub hl [0, 1, 2, 3, 5] rfl) hP hS hf
    · rw [if_neg c2] at hf
      refine lv_aload_n hx hb dX0_spread_33 rfl (lv_at hl 0 rfl) ?_
      refine lv_iload_n hx hb dX0_spread_34 rfl (lv_at hl 1 rfl) ?_
      replace hf := s_bi_some hf
      obtain ⟨r5, σ3, hz4, hf⟩ := hf
      refine s_calli (nn := 1) C (kcX0_at (l := l) (G := G) (cy := cy) (sa := sa) hI (sz := H.size) σ x1 hz4) gk_X0_68 rfl rfl (by decide +kernel) ⟨Nat.le_of_ble_eq_true rfl, Nat.le_of_ble_eq_true rfl⟩ hP hS (q0 := 8) (ci := 0) rfl rfl rfl (As := [.int x1]) (rest := []) rfl rfl hl.1 (Nat.le_of_ble_eq_true rfl) dX0_spread_35 (fun H locs hP hS => ?_)
      refine lv_aload_n hx hb dX0_spread_38 rfl (lv_at hl 0 rfl) ?_
      refine lv_iload_n hx hb dX0_spread_39 rfl (lv_at hl 2 rfl) ?_
      replace hf := s_bi_some hf
      obtain ⟨r8, σ6, hz7, hf⟩ := hf
      refine s_calli (nn := 1) C (kcX0_at (l := l) (G := G) (cy := cy) (sa := sa) hI (sz := H.size) σ3 x2 hz7) gk_X0_68 rfl rfl (by decide +kernel) ⟨Nat.le_of_ble_eq_true rfl, Nat.le_of_ble_eq_true rfl⟩ hP hS (q0 := 8) (ci := 0) rfl rfl rfl (As := [.int x2]) (rest := [.int r5]) rfl rfl hl.1 (Nat.le_of_ble_eq_true rfl) dX0_spread_40 (fun H locs hP hS => ?_)
      refine lv_isub hx hb dX0_spread_43 ?_
      refine lv_goto (tgt := 49) hx hb dX0_spread_44 (by decide) ?_
      exact kX0_spread_b49 C k23 hk23 σ6 x1 x2 x3 x5 (r5 - r8) _ _ _ (lv_sub hl [0, 1, 2, 3, 5] rfl) hP hS hf
set_option maxRecDepth 100000 in
set_option maxHeartbeats 4000000 in
theorem kX0_spread_b23_L (C : s_X p s m meth c args cX0_spread (some .int) 8 RX0 G cy sa ad 27) : ∀ (n : Nat), ∀ (σ : Sg) (x1 : Int32) (x2 : Int32) (x3 : Int32) (x4 : Int32) (x5 : Int32) (ls : Array Slot) (H : Heap) (locs : List Loc), lv_has ls 8 [(0, .ref (ad 8)), (1, .int x1), (2, .int x2), (3, .int x3), (4, .int x4), (5, .int x5)] → va_P G vwCl ((s_WC cy ad) σ) H → va_S (s_A ad 27 s.heap.size) s.heap H locs → fX0_spread_b23_L n σ x1 x2 x3 x4 x5 = some (re, σe) → W p l e ({ frames := 1, cells := 0, slots := 0, locals := 21 } : Room) s m args below meth c H locs 0 0 (MQ below (s_Qi (s_WC cy ad) G (s_A ad 27 s.heap.size) re σe) args s 0 0 (s_A ad 27 s.heap.size)) (F0 m 23 ls []) := by
  intro n
  induction n with
  | zero => intro σ x1 x2 x3 x4 x5 ls H locs hl hP hS hf; exact absurd (show (none : Option (Int32 × Sg)) = some (re, σe) from hf) (by intro h; cases h)
  | succ n ih => intro σ x1 x2 x3 x4 x5 ls H locs hl hP hS hf; exact kX0_spread_b23 C (fX0_spread_b23_L n) ih σ x1 x2 x3 x4 x5 ls H locs hl hP hS hf
set_option maxRecDepth 100000 in
set_option maxHeartbeats 4000000 in
theorem kX0_spread (C : s_X p s m meth c args cX0_spread (some .int) 8 RX0 G cy sa ad 27) (σ : Sg) (ls : Array Slot) (H : Heap) (locs : List Loc) (hl : lv_has ls 8 [(0, .ref (ad 8))]) (hP : va_P G vwCl ((s_WC cy ad) σ) H) (hS : va_S (s_A ad 27 s.heap.size) s.heap H locs) (hf : fX0_spread σ = some (re, σe)) : W p l e ({ frames := 1, cells := 0, slots := 0, locals := 21 } : Room) s m args below meth c H locs 0 0 (MQ below (s_Qi (s_WC cy ad) G (s_A ad 27 s.heap.size) re σe) args s 0 0 (s_A ad 27 s.heap.size)) (F0 m 0 ls []) := by
  obtain ⟨hx, hb, hr, hml, hown, hts, hlk, hK, hE, hI⟩ := id C
  have hD : ∀ σ : Sg, va_D (s_A ad 27 s.heap.size) ((s_WC cy ad) σ) := fun σ => s_D (s_WC_ad cy ad σ) hI (fun k hk => Or.inl ⟨k, hk, rfl⟩)
  unfold fX0_spread at hf
  refine lv_aload_n hx hb dX0_spread_0 rfl (lv_at hl 0 rfl) ?_
  refine va_get (D := G) (ci := 0) (v := .int (σ 8 2)) (C := RX0) (T := TX0) (N := 3) hx hb hts inkX0 hown hK hP 8 rfl rfl 2 (by decide) (hts _ kw_206) (fun _ h9 => h9) rfl dX0_spread_1 ?_
  refine lv_iconst (v := 1) hx hb dX0_spread_4 (by decide) ?_
  refine lv_isub hx hb dX0_spread_5 ?_
  refine lv_iconst (v := 2) hx hb dX0_spread_6 (by decide) ?_
  refine lv_idiv hx hb dX0_spread_7 (by decide) ?_
  refine lv_topi (fun t1 et1 => ?_)
  replace hf := s_lt_at et1 hf
  refine lv_istore_n (lv' := [(1, .int t1), (0, .ref (ad 8))]) hx hb dX0_spread_8 rfl hl (by decide) rfl (fun ls hl => ?_)
  refine lv_iload_n hx hb dX0_spread_9 rfl (lv_at hl 0 rfl) ?_
  refine lv_iconst (v := 1) hx hb dX0_spread_10 (by decide) ?_
  refine lv_isub hx hb dX0_spread_11 ?_
  refine lv_topi (fun t2 et2 => ?_)
  replace hf := s_lt_at et2 hf
  refine lv_istore_n (lv' := [(2, .int t2), (1, .int t1), (0, .ref (ad 8))]) hx hb dX0_spread_12 rfl hl (by decide) rfl (fun ls hl => ?_)
  refine lv_iload_n hx hb dX0_spread_13 rfl (lv_at hl 1 rfl) ?_
  refine lv_iconst (v := 1) hx hb dX0_spread_14 (by decide) ?_
  refine lv_iadd hx hb dX0_spread_15 ?_
  refine lv_topi (fun t3 et3 => ?_)
  replace hf := s_lt_at et3 hf
  refine lv_istore_n (lv' := [(3, .int t3), (2, .int t2), (1, .int t1), (0, .ref (ad 8))]) hx hb dX0_spread_16 rfl hl (by decide) rfl (fun ls hl => ?_)
  refine lv_iconst (v := 0) hx hb dX0_spread_17 (by decide) ?_
  refine lv_istore (lv' := [(4, .int (0 : Int32)), (3, .int t3), (2, .int t2), (1, .int t1), (0, .ref (ad 8))]) hx hb dX0_spread_18 hl (by decide) rfl (fun ls hl => ?_)
  refine lv_iconst (v := 0) hx hb dX0_spread_20 (by decide) ?_
  refine lv_istore (lv' := [(5, .int (0 : Int32)), (4, .int (0 : Int32)), (3, .int t3), (2, .int t2), (1, .int t1), (0, .ref (ad 8))]) hx hb dX0_spread_21 hl (by decide) rfl (fun ls hl => ?_)
  exact kX0_spread_b23_L C s_fu σ t1 t2 t3 (0 : Int32) (0 : Int32) _ _ _ (lv_sub hl [5, 4, 3, 2, 1, 0] rfl) hP hS hf
theorem kcX0_spread {l : Launch} {G : va_G} {cy : Nat → ClassId} {sa : Nat × Nat} {ad : Nat → Nat}  {sz : Nat} (hI : s_inj ad 27) (σ : Sg) {re : Int32} {σe : Sg} (hf : fX0_spread σ = some (re, σe)) : Met l yX0_spread (kW yX0_spread cX0_spread 8 (some .int)) ({ frames := 1, cells := 0, slots := 0, locals := 21 } : Room) (s_P (s_WC cy ad) G cy sa ad 27 [.ref (ad 8)] sz σ) (s_Qi (s_WC cy ad) G (s_A ad 27 sz) re σe) 0 0 (s_A ad 27 sz) := by
  refine s_met (own := RX0) (by decide) rfl hI (Nat.le_of_ble_eq_true rfl) (fun p e s m below meth c ls hsz C hP hl => ?_)
  subst hsz
  exact kX0_spread C σ ls _ _ hl hP va_S.rf hf
end
