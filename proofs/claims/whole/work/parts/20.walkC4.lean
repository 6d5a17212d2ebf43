section
variable {p : Program} {l : Launch} {e : Env} {s : State} {m : MethodId} {below : List Frame} {meth : Method} {c : Code} {G : va_G} {cy : Nat → ClassId} {sa : Nat × Nat} {ad : Nat → Nat} {args : Array Value} {re : Int32} {σe : Sg} {sh : Nat → Option Nat}
set_option maxRecDepth 100000 in
set_option maxHeartbeats 4000000 in
theorem kX6_form_b9 (C : s_X p s m meth c args cX6_form (some .int) 3 RX6 G cy sa ad 19) (σ : Sg) (ls : Array Slot) (H : Heap) (locs : List Loc) (hl : lv_has ls 3 []) (hP : va_P G vwCl ((s_WC cy ad sh) σ) H) (hS : va_S (s_A ad 19 s.heap.size) s.heap H locs) (hf : fX6_form_b9 σ = some (re, σe)) : W p l e ({ frames := 0, cells := 0, slots := 0, locals := 0 } : Room) s m args below meth c H locs 0 0 (MQ below (s_Qi (s_WC cy ad sh) G (s_A ad 19 s.heap.size) re σe) args s 0 0 (s_A ad 19 s.heap.size)) (F0 m 9 ls []) := by
  obtain ⟨hx, hb, hr, hml, hown, hts, hlk, hK, hE, hI⟩ := id C
  have hD : ∀ σ : Sg, va_D (s_A ad 19 s.heap.size) ((s_WC cy ad sh) σ) := fun σ => s_D (s_WC_ad cy ad sh σ) hI (fun k hk => Or.inl ⟨k, hk, rfl⟩)
  unfold fX6_form_b9 at hf
  refine lv_iconst (v := -1) hx hb dX6_form_9 (by decide) ?_
  obtain ⟨he1, he2⟩ := s_ret hf
  exact W.iret hx hb hr (fun t ht hW => ⟨⟨_, (), rfl, he1, s_fin (Wd := (s_WC cy ad sh)) ht he2 hP⟩, hS.F ht⟩) hS.2.2 dX6_form_10 hlk
set_option maxRecDepth 100000 in
set_option maxHeartbeats 4000000 in
theorem kX6_form (C : s_X p s m meth c args cX6_form (some .int) 3 RX6 G cy sa ad 19) (σ : Sg) (x1 : Int32) (ls : Array Slot) (H : Heap) (locs : List Loc) (hl : lv_has ls 3 [(0, .ref (ad 0)), (1, .int x1)]) (hP : va_P G vwCl ((s_WC cy ad sh) σ) H) (hS : va_S (s_A ad 19 s.heap.size) s.heap H locs) (hf : fX6_form σ x1 = some (re, σe)) : W p l e ({ frames := 0, cells := 0, slots := 0, locals := 0 } : Room) s m args below meth c H locs 0 0 (MQ below (s_Qi (s_WC cy ad sh) G (s_A ad 19 s.heap.size) re σe) args s 0 0 (s_A ad 19 s.heap.size)) (F0 m 0 ls []) := by
  obtain ⟨hx, hb, hr, hml, hown, hts, hlk, hK, hE, hI⟩ := id C
  have hD : ∀ σ : Sg, va_D (s_A ad 19 s.heap.size) ((s_WC cy ad sh) σ) := fun σ => s_D (s_WC_ad cy ad sh σ) hI (fun k hk => Or.inl ⟨k, hk, rfl⟩)
  unfold fX6_form at hf
  refine lv_iload_n hx hb dX6_form_0 rfl (lv_at hl 1 rfl) ?_
  refine lv_if_lt (tgt := 9) hx hb dX6_form_1 (by decide) (fun c1 => ?_) (fun c1 => ?_)
  · rw [if_pos c1] at hf
    exact kX6_form_b9 C σ _ _ _ (lv_sub hl [] rfl) hP hS hf
  · rw [if_neg c1] at hf
    refine lv_iload_n hx hb dX6_form_4 rfl (lv_at hl 1 rfl) ?_
    refine lv_iconst (v := 2) hx hb dX6_form_5 (by decide) ?_
    refine lv_icmp_le (tgt := 11) hx hb dX6_form_6 (by decide) (fun c2 => ?_) (fun c2 => ?_)
    · rw [if_pos c2] at hf
      refine lv_aload_n hx hb dX6_form_11 rfl (lv_at hl 0 rfl) ?_
      refine va_get (D := G) (ci := 6) (v := .ref (ad 6)) (C := RX6) (T := TX6) (N := 9) hx hb hts inkX6 hown hK hP 0 rfl rfl 2 (by decide) (hts _ kw_232) (fun _ h9 => h9) rfl dX6_form_12 ?_
      refine va_getN (D := G) (ci := 1) (v := .int (σ 6 7)) (C := RX1) (T := TX1) (N := 8) hx hb hts inkX1 hown hK hP 6 rfl rfl 7 (by decide) (kn_X6_113 hE) (fun _ h9 => h9) rfl dX6_form_15 ?_
      refine lv_topi (fun t3 et3 => ?_)
      replace hf := s_lt_at et3 hf
      refine lv_istore_n (lv' := [(2, .int t3), (0, .ref (ad 0)), (1, .int x1)]) hx hb dX6_form_18 rfl hl (by decide) rfl (fun ls hl => ?_)
      refine lv_aload_n hx hb dX6_form_19 rfl (lv_at hl 1 rfl) ?_
      refine va_get (D := G) (ci := 6) (v := .ref (ad 6)) (C := RX6) (T := TX6) (N := 9) hx hb hts inkX6 hown hK hP 0 rfl rfl 2 (by decide) (hts _ kw_232) (fun _ h9 => h9) rfl dX6_form_20 ?_
      refine lv_iload_n hx hb dX6_form_23 rfl (lv_at hl 2 rfl) ?_
      refine va_putN (D := G) (ci := 1) (v := .int x1) (ty := .int) (C := RX1) (T := TX1) (N := 8) hx hb hts inkX1 tyX1 tyX1_ok nmX1 hown hK hP (hD _) hS 6 rfl rfl 7 (by decide) (kn_X6_113 hE) (fun _ h9 => h9) rfl (by decide +kernel) rfl rfl (Nat.le_of_ble_eq_true rfl) dX6_form_24 (fun H locs hP _ hS => ?_)
      obtain ⟨σ4, eσ4⟩ : ∃ z : Sg, z = (s_up σ 6 7 x1) := ⟨_, rfl⟩
      replace hf := s_lt_at eσ4 hf
      replace hP : va_P G vwCl ((s_WC cy ad sh) σ4) H := by rw [eσ4]; exact hP
      refine lv_iload_n hx hb dX6_form_27 rfl (lv_at hl 0 rfl) ?_
      obtain ⟨he1, he2⟩ := s_ret hf
      exact W.iret hx hb hr (fun t ht hW => ⟨⟨_, (), rfl, he1, s_fin (Wd := (s_WC cy ad sh)) ht he2 hP⟩, hS.F ht⟩) hS.2.2 dX6_form_28 hlk
    · rw [if_neg c2] at hf
      exact kX6_form_b9 C σ _ _ _ (lv_sub hl [] rfl) hP hS hf
theorem kcX6_form {l : Launch} {G : va_G} {cy : Nat → ClassId} {sa : Nat × Nat} {ad : Nat → Nat} {sh : Nat → Option Nat} {sz : Nat} (hI : s_inj ad 19) (σ : Sg) (x1 : Int32) {re : Int32} {σe : Sg} (hf : fX6_form σ x1 = some (re, σe)) : Met l yX6_form (kW yX6_form cX6_form 3 (some .int)) ({ frames := 0, cells := 0, slots := 0, locals := 0 } : Room) (s_P (s_WC cy ad sh) G cy sa ad 19 [.ref (ad 0), .int x1] sz σ) (s_Qi (s_WC cy ad sh) G (s_A ad 19 sz) re σe) 0 0 (s_A ad 19 sz) := by
  refine s_met (own := RX6) (by decide) rfl hI (Nat.le_of_ble_eq_true rfl) (fun p e s m below meth c ls hsz C hP hl => ?_)
  subst hsz
  exact kX6_form C σ x1 ls _ _ hl hP va_S.rf hf
set_option maxRecDepth 100000 in
set_option maxHeartbeats 4000000 in
theorem kX1_latestValue_6_b7 (C : s_X p s m meth c args cX1_latestValue (some .int) 2 RX1 G cy sa ad 19) (k7 : Sg → Int32 → Option (Int32 × Sg)) (hk7 : ∀ (σ : Sg) (x1 : Int32) (ls : Array Slot) (H : Heap) (locs : List Loc), lv_has ls 2 [(0, .ref (ad 6)), (1, .int x1)] → va_P G vwCl ((s_WC cy ad sh) σ) H → va_S (s_A ad 19 s.heap.size) s.heap H locs → k7 σ x1 = some (re, σe) → W p l e ({ frames := 0, cells := 0, slots := 0, locals := 0 } : Room) s m args below meth c H locs 0 0 (MQ below (s_Qi (s_WC cy ad sh) G (s_A ad 19 s.heap.size) re σe) args s 0 0 (s_A ad 19 s.heap.size)) (F0 m 7 ls [])) (σ : Sg) (x1 : Int32) (ls : Array Slot) (H : Heap) (locs : List Loc) (hl : lv_has ls 2 [(0, .ref (ad 6)), (1, .int x1)]) (hP : va_P G vwCl ((s_WC cy ad sh) σ) H) (hS : va_S (s_A ad 19 s.heap.size) s.heap H locs) (hf : fX1_latestValue_6_b7 k7 σ x1 = some (re, σe)) : W p l e ({ frames := 0, cells := 0, slots := 0, locals := 0 } : Room) s m args below meth c H locs 0 0 (MQ below (s_Qi (s_WC cy ad sh) G (s_A ad 19 s.heap.size) re σe) args s 0 0 (s_A ad 19 s.heap.size)) (F0 m 7 ls []) := by
  obtain ⟨hx, hb, hr, hml, hown, hts, hlk, hK, hE, hI⟩ := id C
  have hD : ∀ σ : Sg, va_D (s_A ad 19 s.heap.size) ((s_WC cy ad sh) σ) := fun σ => s_D (s_WC_ad cy ad sh σ) hI (fun k hk => Or.inl ⟨k, hk, rfl⟩)
  unfold fX1_latestValue_6_b7 at hf
  refine lv_iload_n hx hb dX1_latestValue_7 rfl (lv_at hl 1 rfl) ?_
  refine lv_if_lt (tgt := 35) hx hb dX1_latestValue_8 (by decide) (fun c1 => ?_) (fun c1 => ?_)
  · rw [if_pos c1] at hf
    refine lv_iconst (v := 0) hx hb dX1_latestValue_35 (by decide) ?_
    obtain ⟨he1, he2⟩ := s_ret hf
    exact W.iret hx hb hr (fun t ht hW => ⟨⟨_, (), rfl, he1, s_fin (Wd := (s_WC cy ad sh)) ht he2 hP⟩, hS.F ht⟩) hS.2.2 dX1_latestValue_36 hlk
  · rw [if_neg c1] at hf
    refine lv_aload_n hx hb dX1_latestValue_11 rfl (lv_at hl 0 rfl) ?_
    refine va_get (D := G) (ci := 1) (v := .ref (ad 7)) (C := RX1) (T := TX1) (N := 8) hx hb hts inkX1 hown hK hP 6 rfl rfl 0 (by decide) (hts _ kw_109) (fun _ h9 => h9) rfl dX1_latestValue_12 ?_
    refine lv_iload_n hx hb dX1_latestValue_15 rfl (lv_at hl 1 rfl) ?_
    replace hf := s_gd_some hf
    obtain ⟨g2, hf⟩ := hf
    refine va_iald hx hb hK hP 7 1 rfl rfl (s_in_of g2) dX1_latestValue_16 ?_
    refine lv_ldc (v := 100000000) hx hb hown (hts _ kw_436) dX1_latestValue_17 ?_
    refine lv_icmp_eq (tgt := 29) hx hb dX1_latestValue_19 (by decide) (fun c3 => ?_) (fun c3 => ?_)
    · rw [if_pos c3] at hf
      obtain ⟨t4, et4⟩ : ∃ z : Int32, z = (x1 + (-1)) := ⟨_, rfl⟩
      replace hf := s_lt_at et4 hf
      refine lv_iinc (v := t4) (lv' := [(1, .int t4), (0, .ref (ad 6))]) hx hb dX1_latestValue_29 hl (k := 1) rfl (by rw [et4]; rfl) (by decide) rfl (fun ls hl => ?_)
      refine lv_goto (tgt := 7) hx hb dX1_latestValue_32 (by decide) ?_
      exact hk7 σ t4 _ _ _ (lv_sub hl [1, 0] rfl) hP hS hf
    · rw [if_neg c3] at hf
      refine lv_aload_n hx hb dX1_latestValue_22 rfl (lv_at hl 0 rfl) ?_
      refine va_get (D := G) (ci := 1) (v := .ref (ad 7)) (C := RX1) (T := TX1) (N := 8) hx hb hts inkX1 hown hK hP 6 rfl rfl 0 (by decide) (hts _ kw_109) (fun _ h9 => h9) rfl dX1_latestValue_23 ?_
      refine lv_iload_n hx hb dX1_latestValue_26 rfl (lv_at hl 1 rfl) ?_
      replace hf := s_gd_some hf
      obtain ⟨g5, hf⟩ := hf
      refine va_iald hx hb hK hP 7 1 rfl rfl (s_in_of g5) dX1_latestValue_27 ?_
      obtain ⟨he1, he2⟩ := s_ret hf
      exact W.iret hx hb hr (fun t ht hW => ⟨⟨_, (), rfl, he1, s_fin (Wd := (s_WC cy ad sh)) ht he2 hP⟩, hS.F ht⟩) hS.2.2 dX1_latestValue_28 hlk
set_option maxRecDepth 100000 in
set_option maxHeartbeats 4000000 in
theorem kX1_latestValue_6_b7_L (C : s_X p s m meth c args cX1_latestValue (some .int) 2 RX1 G cy sa ad 19) : ∀ (n : Nat), ∀ (σ : Sg) (x1 : Int32) (ls : Array Slot) (H : Heap) (locs : List Loc), lv_has ls 2 [(0, .ref (ad 6)), (1, .int x1)] → va_P G vwCl ((s_WC cy ad sh) σ) H → va_S (s_A ad 19 s.heap.size) s.heap H locs → fX1_latestValue_6_b7_L n σ x1 = some (re, σe) → W p l e ({ frames := 0, cells := 0, slots := 0, locals := 0 } : Room) s m args below meth c H locs 0 0 (MQ below (s_Qi (s_WC cy ad sh) G (s_A ad 19 s.heap.size) re σe) args s 0 0 (s_A ad 19 s.heap.size)) (F0 m 7 ls []) := by
  intro n
  induction n with
  | zero => intro σ x1 ls H locs hl hP hS hf; exact absurd (show (none : Option (Int32 × Sg)) = some (re, σe) from hf) (by intro h; cases h)
  | succ n ih => intro σ x1 ls H locs hl hP hS hf; exact kX1_latestValue_6_b7 C (fX1_latestValue_6_b7_L n) ih σ x1 ls H locs hl hP hS hf
set_option maxRecDepth 100000 in
set_option maxHeartbeats 4000000 in
theorem kX1_latestValue_6 (C : s_X p s m meth c args cX1_latestValue (some .int) 2 RX1 G cy sa ad 19) (σ : Sg) (ls : Array Slot) (H : Heap) (locs : List Loc) (hl : lv_has ls 2 [(0, .ref (ad 6))]) (hP : va_P G vwCl ((s_WC cy ad sh) σ) H) (hS : va_S (s_A ad 19 s.heap.size) s.heap H locs) (hf : fX1_latestValue_6 σ = some (re, σe)) : W p l e ({ frames := 0, cells := 0, slots := 0, locals := 0 } : Room) s m args below meth c H locs 0 0 (MQ below (s_Qi (s_WC cy ad sh) G (s_A ad 19 s.heap.size) re σe) args s 0 0 (s_A ad 19 s.heap.size)) (F0 m 0 ls []) := by
  obtain ⟨hx, hb, hr, hml, hown, hts, hlk, hK, hE, hI⟩ := id C
  have hD : ∀ σ : Sg, va_D (s_A ad 19 s.heap.size) ((s_WC cy ad sh) σ) := fun σ => s_D (s_WC_ad cy ad sh σ) hI (fun k hk => Or.inl ⟨k, hk, rfl⟩)
  unfold fX1_latestValue_6 at hf
  refine lv_aload_n hx hb dX1_latestValue_0 rfl (lv_at hl 0 rfl) ?_
  refine va_get (D := G) (ci := 1) (v := .int (σ 6 1)) (C := RX1) (T := TX1) (N := 8) hx hb hts inkX1 hown hK hP 6 rfl rfl 1 (by decide) (hts _ kw_110) (fun _ h9 => h9) rfl dX1_latestValue_1 ?_
  refine lv_iconst (v := 1) hx hb dX1_latestValue_4 (by decide) ?_
  refine lv_isub hx hb dX1_latestValue_5 ?_
  refine lv_topi (fun t1 et1 => ?_)
  replace hf := s_lt_at et1 hf
  refine lv_istore_n (lv' := [(1, .int t1), (0, .ref (ad 6))]) hx hb dX1_latestValue_6 rfl hl (by decide) rfl (fun ls hl => ?_)
  exact kX1_latestValue_6_b7_L C s_fu σ t1 _ _ _ (lv_sub hl [1, 0] rfl) hP hS hf
theorem kcX1_latestValue_6 {l : Launch} {G : va_G} {cy : Nat → ClassId} {sa : Nat × Nat} {ad : Nat → Nat} {sh : Nat → Option Nat} {sz : Nat} (hI : s_inj ad 19) (σ : Sg) {re : Int32} {σe : Sg} (hf : fX1_latestValue_6 σ = some (re, σe)) : Met l yX1_latestValue (kW yX1_latestValue cX1_latestValue 2 (some .int)) ({ frames := 0, cells := 0, slots := 0, locals := 0 } : Room) (s_P (s_WC cy ad sh) G cy sa ad 19 [.ref (ad 6)] sz σ) (s_Qi (s_WC cy ad sh) G (s_A ad 19 sz) re σe) 0 0 (s_A ad 19 sz) := by
  refine s_met (own := RX1) (by decide) rfl hI (Nat.le_of_ble_eq_true rfl) (fun p e s m below meth c ls hsz C hP hl => ?_)
  subst hsz
  exact kX1_latestValue_6 C σ ls _ _ hl hP va_S.rf hf
set_option maxRecDepth 100000 in
set_option maxHeartbeats 4000000 in
theorem kX6_drift_b11 (C : s_X p s m meth c args cX6_drift (some .int) 8 RX6 G cy sa ad 19) (σ : Sg) (ls : Array Slot) (H : Heap) (locs : List Loc) (hl : lv_has ls 8 []) (hP : va_P G vwCl ((s_WC cy ad sh) σ) H) (hS : va_S (s_A ad 19 s.heap.size) s.heap H locs) (hf : fX6_drift_b11 σ = some (re, σe)) : W p l e ({ frames := 2, cells := 0, slots := 0, locals := 41 } : Room) s m args below meth c H locs 0 0 (MQ below (s_Qi (s_WC cy ad sh) G (s_A ad 19 s.heap.size) re σe) args s 0 0 (s_A ad 19 s.heap.size)) (F0 m 11 ls []) := by
  obtain ⟨hx, hb, hr, hml, hown, hts, hlk, hK, hE, hI⟩ := id C
  have hD : ∀ σ : Sg, va_D (s_A ad 19 s.heap.size) ((s_WC cy ad sh) σ) := fun σ => s_D (s_WC_ad cy ad sh σ) hI (fun k hk => Or.inl ⟨k, hk, rfl⟩)
  unfold fX6_drift_b11 at hf
  refine lv_iconst (v := -1) hx hb dX6_drift_11 (by decide) ?_
  obtain ⟨he1, he2⟩ := s_ret hf
  exact W.iret hx hb hr (fun t ht hW => ⟨⟨_, (), rfl, he1, s_fin (Wd := (s_WC cy ad sh)) ht he2 hP⟩, hS.F ht⟩) hS.2.2 dX6_drift_12 hlk
set_option maxRecDepth 100000 in
set_option maxHeartbeats 4000000 in
theorem kX6_drift_b129 (C : s_X p s m meth c args cX6_drift (some .int) 8 RX6 G cy sa ad 19) (σ : Sg) (x4 : Int32) (ls : Array Slot) (H : Heap) (locs : List Loc) (hl : lv_has ls 8 [(4, .int x4)]) (hP : va_P G vwCl ((s_WC cy ad sh) σ) H) (hS : va_S (s_A ad 19 s.heap.size) s.heap H locs) (hf : fX6_drift_b129 σ x4 = some (re, σe)) : W p l e ({ frames := 2, cells := 0, slots := 0, locals := 41 } : Room) s m args below meth c H locs 0 0 (MQ below (s_Qi (s_WC cy ad sh) G (s_A ad 19 s.heap.size) re σe) args s 0 0 (s_A ad 19 s.heap.size)) (F0 m 129 ls []) := by
  obtain ⟨hx, hb, hr, hml, hown, hts, hlk, hK, hE, hI⟩ := id C
  have hD : ∀ σ : Sg, va_D (s_A ad 19 s.heap.size) ((s_WC cy ad sh) σ) := fun σ => s_D (s_WC_ad cy ad sh σ) hI (fun k hk => Or.inl ⟨k, hk, rfl⟩)
  unfold fX6_drift_b129 at hf
  refine lv_iload hx hb dX6_drift_129 (lv_at hl 0 rfl) ?_
  obtain ⟨he1, he2⟩ := s_ret hf
  exact W.iret hx hb hr (fun t ht hW => ⟨⟨_, (), rfl, he1, s_fin (Wd := (s_WC cy ad sh)) ht he2 hP⟩, hS.F ht⟩) hS.2.2 dX6_drift_131 hlk
set_option maxRecDepth 100000 in
set_option maxHeartbeats 4000000 in
theorem kX6_drift_b120 (C : s_X p s m meth c args cX6_drift (some .int) 8 RX6 G cy sa ad 19) (k27 : Sg → Int32 → Int32 → Int32 → Int32 → Int32 → Option (Int32 × Sg)) (hk27 : ∀ (σ : Sg) (x1 : Int32) (x2 : Int32) (x3 : Int32) (x4 : Int32) (x5 : Int32) (ls : Array Slot) (H : Heap) (locs : List Loc), lv_has ls 8 [(0, .ref (ad 0)), (1, .int x1), (2, .int x2), (3, .int x3), (4, .int x4), (5, .int x5)] → va_P G vwCl ((s_WC cy ad sh) σ) H → va_S (s_A ad 19 s.heap.size) s.heap H locs → k27 σ x1 x2 x3 x4 x5 = some (re, σe) → W p l e ({ frames := 2, cells := 0, slots := 0, locals := 41 } : Room) s m args below meth c H locs 0 0 (MQ below (s_Qi (s_WC cy ad sh) G (s_A ad 19 s.heap.size) re σe) args s 0 0 (s_A ad 19 s.heap.size)) (F0 m 27 ls [])) (σ : Sg) (x1 : Int32) (x2 : Int32) (x3 : Int32) (x4 : Int32) (x5 : Int32) (ls : Array Slot) (H : Heap) (locs : List Loc) (hl : lv_has ls 8 [(0, .ref (ad 0)), (1, .int x1), (2, .int x2), (3, .int x3), (4, .int x4), (5, .int x5)]) (hP : va_P G vwCl ((s_WC cy ad sh) σ) H) (hS : va_S (s_A ad 19 s.heap.size) s.heap H locs) (hf : fX6_drift_b120 k27 σ x1 x2 x3 x4 x5 = some (re, σe)) : W p l e ({ frames := 2, cells := 0, slots := 0, locals := 41 } : Room) s m args below meth c H locs 0 0 (MQ below (s_Qi (s_WC cy ad sh) G (s_A ad 19 s.heap.size) re σe) args s 0 0 (s_A ad 19 s.heap.size)) (F0 m 120 ls []) := by
  obtain ⟨hx, hb, hr, hml, hown, hts, hlk, hK, hE, hI⟩ := id C
  have hD : ∀ σ : Sg, va_D (s_A ad 19 s.heap.size) ((s_WC cy ad sh) σ) := fun σ => s_D (s_WC_ad cy ad sh σ) hI (fun k hk => Or.inl ⟨k, hk, rfl⟩)
  unfold fX6_drift_b120 at hf
  obtain ⟨t1, et1⟩ : ∃ z : Int32, z = (x4 + 1) := ⟨_, rfl⟩
  replace hf := s_lt_at et1 hf
  refine lv_iinc (v := t1) (lv' := [(4, .int t1), (0, .ref (ad 0)), (1, .int x1), (2, .int x2), (3, .int x3), (5, .int x5)]) hx hb dX6_drift_120 hl (k := 4) rfl (by rw [et1]; rfl) (by decide) rfl (fun ls hl => ?_)
  obtain ⟨t2, et2⟩ : ∃ z : Int32, z = (x5 + 1) := ⟨_, rfl⟩
  replace hf := s_lt_at et2 hf
  refine lv_iinc (v := t2) (lv' := [(5, .int t2), (4, .int t1), (0, .ref (ad 0)), (1, .int x1), (2, .int x2), (3, .int x3)]) hx hb dX6_drift_123 hl (k := 5) rfl (by rw [et2]; rfl) (by decide) rfl (fun ls hl => ?_)
  refine lv_goto (tgt := 27) hx hb dX6_drift_126 (by decide) ?_
  exact hk27 σ x1 x2 x3 t1 t2 _ _ _ (lv_sub hl [2, 3, 4, 5, 1, 0] rfl) hP hS hf
set_option maxRecDepth 100000 in
set_option maxHeartbeats 4000000 in
theorem kX6_drift_b27 (C : s_X p s m meth c args cX6_drift (some .int) 8 RX6 G cy sa ad 19) (k27 : Sg → Int32 → Int32 → Int32 → Int32 → Int32 → Option (Int32 × Sg)) (hk27 : ∀ (σ : Sg) (x1 : Int32) (x2 : Int32) (x3 : Int32) (x4 : Int32) (x5 : Int32) (ls : Array Slot) (H : Heap) (locs : List Loc), lv_has ls 8 [(0, .ref (ad 0)), (1, .int x1), (2, .int x2), (3, .int x3), (4, .int x4), (5, .int x5)] → va_P G vwCl ((s_WC cy ad sh) σ) H → va_S (s_A ad 19 s.heap.size) s.heap H locs → k27 σ x1 x2 x3 x4 x5 = some (re, σe) → W p l e ({ frames := 2, cells := 0, slots := 0, locals := 41 } : Room) s m args below meth c H locs 0 0 (MQ below (s_Qi (s_WC cy ad sh) G (s_A ad 19 s.heap.size) re σe) args s 0 0 (s_A ad 19 s.heap.size)) (F0 m 27 ls [])) (σ : Sg) (x1 : Int32) (x2 : Int32) (x3 : Int32) (x4 : Int32) (x5 : Int32) (ls : Array Slot) (H : Heap) (locs : List Loc) (hl : lv_has ls 8 [(0, .ref (ad 0)), (1, .int x1), (2, .int x2), (3, .int x3), (4, .int x4), (5, .int x5)]) (hP : va_P G vwCl ((s_WC cy ad sh) σ) H) (hS : va_S (s_A ad 19 s.heap.size) s.heap H locs) (hf : fX6_drift_b27 k27 σ x1 x2 x3 x4 x5 = some (re, σe)) : W p l e ({ frames := 2, cells := 0, slots := 0, locals := 41 } : Room) s m args below meth c H locs 0 0 (MQ below (s_Qi (s_WC cy ad sh) G (s_A ad 19 s.heap.size) re σe) args s 0 0 (s_A ad 19 s.heap.size)) (F0 m 27 ls []) := by
  obtain ⟨hx, hb, hr, hml, hown, hts, hlk, hK, hE, hI⟩ := id C
  have hD : ∀ σ : Sg, va_D (s_A ad 19 s.heap.size) ((s_WC cy ad sh) σ) := fun σ => s_D (s_WC_ad cy ad sh σ) hI (fun k hk => Or.inl ⟨k, hk, rfl⟩)
  unfold fX6_drift_b27 at hf
  refine lv_iload hx hb dX6_drift_27 (lv_at hl 5 rfl) ?_
  refine lv_iload_n hx hb dX6_drift_29 rfl (lv_at hl 2 rfl) ?_
  refine lv_icmp_ge (tgt := 129) hx hb dX6_drift_30 (by decide) (fun c1 => ?_) (fun c1 => ?_)
  · rw [if_pos c1] at hf
    exact kX6_drift_b129 C σ x4 _ _ _ (lv_sub hl [4] rfl) hP hS hf
  · rw [if_neg c1] at hf
    refine lv_aload_n hx hb dX6_drift_33 rfl (lv_at hl 0 rfl) ?_
    refine va_get (D := G) (ci := 6) (v := .ref (ad 6)) (C := RX6) (T := TX6) (N := 9) hx hb hts inkX6 hown hK hP 0 rfl rfl 2 (by decide) (hts _ kw_232) (fun _ h9 => h9) rfl dX6_drift_34 ?_
    replace hf := s_bi_some hf
    obtain ⟨r4, σ2, hz3, hf⟩ := hf
    refine s_calli (nn := 0) C (kcX1_isFull_6 (l := l) (G := G) (cy := cy) (sa := sa) (sh := sh) hI (sz := H.size) σ hz3) gk_X6_211 rfl rfl (by decide +kernel) ⟨Nat.le_of_ble_eq_true rfl, Nat.le_of_ble_eq_true rfl⟩ hP hS (q0 := 6) (ci := 1) rfl rfl rfl (As := []) (rest := []) rfl rfl hl.1 (Nat.le_of_ble_eq_true rfl) dX6_drift_37 (fun H locs hP hS => ?_)
    refine lv_if_ne (tgt := 129) hx hb dX6_drift_40 (by decide) (fun c5 => ?_) (fun c5 => ?_)
    · rw [if_neg c5] at hf
      exact kX6_drift_b129 C σ2 x4 _ _ _ (lv_sub hl [4] rfl) hP hS hf
    · rw [if_pos c5] at hf
      refine lv_iload_n hx hb dX6_drift_43 rfl (lv_at hl 1 rfl) ?_
      refine lv_ldc (v := 1103515245) hx hb hown (hts _ kw_680) dX6_drift_44 ?_
      refine lv_imul hx hb dX6_drift_46 ?_
      refine lv_sipush (v := 12345) hx hb dX6_drift_47 (by decide) ?_
      refine lv_iadd hx hb dX6_drift_50 ?_
      refine lv_topi (fun t6 et6 => ?_)
      replace hf := s_lt_at et6 hf
      refine lv_istore_n (lv' := [(1, .int t6), (0, .ref (ad 0)), (2, .int x2), (3, .int x3), (4, .int x4), (5, .int x5)]) hx hb dX6_drift_51 rfl hl (by decide) rfl (fun ls hl => ?_)
      refine lv_iload_n hx hb dX6_drift_52 rfl (lv_at hl 0 rfl) ?_
      refine lv_bipush (v := 16) hx hb dX6_drift_53 (by decide) ?_
      refine lv_iushr (v := (s_ushr t6 (16 : Int32))) hx hb dX6_drift_55 rfl ?_
      refine lv_sipush (v := 32767) hx hb dX6_drift_56 (by decide) ?_
      refine lv_iand hx hb dX6_drift_59 ?_
      refine lv_topi (fun t7 et7 => ?_)
      replace hf := s_lt_at et7 hf
      refine lv_istore (lv' := [(6, .int t7), (1, .int t6), (0, .ref (ad 0)), (2, .int x2), (3, .int x3), (4, .int x4), (5, .int x5)]) hx hb dX6_drift_60 hl (by decide) rfl (fun ls hl => ?_)
      refine lv_iload hx hb dX6_drift_62 (lv_at hl 0 rfl) ?_
      refine lv_bipush (v := 9) hx hb dX6_drift_64 (by decide) ?_
      refine lv_irem hx hb dX6_drift_66 (by decide) ?_
      refine lv_topi (fun t8 et8 => ?_)
      replace hf := s_lt_at et8 hf
      refine lv_if_ne (tgt := 82) hx hb dX6_drift_67 (by decide) (fun c9 => ?_) (fun c9 => ?_)
      · rw [if_neg c9] at hf
        refine lv_iload_n hx hb dX6_drift_82 rfl (lv_at hl 4 rfl) ?_
        refine lv_iload hx hb dX6_drift_83 (lv_at hl 0 rfl) ?_
        refine lv_bipush (v := 16) hx hb dX6_drift_85 (by decide) ?_
        refine lv_idiv hx hb dX6_drift_87 (by decide) ?_
        refine lv_sipush (v := 401) hx hb dX6_drift_88 (by decide) ?_
        refine lv_irem hx hb dX6_drift_91 (by decide) ?_
        refine lv_topi (fun t10 et10 => ?_)
        replace hf := s_lt_at et10 hf
        refine lv_iadd hx hb dX6_drift_92 ?_
        refine lv_sipush (v := 200) hx hb dX6_drift_93 (by decide) ?_
        refine lv_isub hx hb dX6_drift_96 ?_
        refine lv_topi (fun t11 et11 => ?_)
        replace hf := s_lt_at et11 hf
        refine lv_istore (lv' := [(7, .int t11), (6, .int t7), (1, .int t6), (0, .ref (ad 0)), (2, .int x2), (3, .int x3), (4, .int x4), (5, .int x5)]) hx hb dX6_drift_97 hl (by decide) rfl (fun ls hl => ?_)
        refine lv_ldc (v := -999999) hx hb hown (hts _ kw_619) dX6_drift_99 ?_
        refine lv_ldc (v := 999999) hx hb hown (hts _ kw_620) dX6_drift_101 ?_
        refine lv_iload hx hb dX6_drift_103 (lv_at hl 0 rfl) ?_
        refine va_mmin hx hb (hml.trans hl.1.symm) hown (hts _ kw_681) (hts _ kw_682) (hts _ kw_66) (hts _ kw_683) (Nat.le_of_ble_eq_true rfl) (Nat.le_of_ble_eq_true rfl) (Nat.zero_le _) (Nat.zero_le _) dX6_drift_105 ?_
        refine lv_topi (fun t12 et12 => ?_)
        replace hf := s_lt_at et12 hf
        refine va_mmax hx hb (hml.trans hl.1.symm) hown (hts _ kw_607) (hts _ kw_377) (hts _ kw_66) (hts _ kw_378) (Nat.le_of_ble_eq_true rfl) (Nat.le_of_ble_eq_true rfl) (Nat.zero_le _) (Nat.zero_le _) dX6_drift_108 ?_
        refine lv_topi (fun t13 et13 => ?_)
        replace hf := s_lt_at et13 hf
        refine lv_istore_n (lv' := [(3, .int t13), (7, .int t11), (6, .int t7), (1, .int t6), (0, .ref (ad 0)), (2, .int x2), (4, .int x4), (5, .int x5)]) hx hb dX6_drift_111 rfl hl (by decide) rfl (fun ls hl => ?_)
        refine lv_aload_n hx hb dX6_drift_112 rfl (lv_at hl 4 rfl) ?_
        refine va_get (D := G) (ci := 6) (v := .ref (ad 6)) (C := RX6) (T := TX6) (N := 9) hx hb hts inkX6 hown hK hP 0 rfl rfl 2 (by decide) (hts _ kw_232) (fun _ h9 => h9) rfl dX6_drift_113 ?_
        refine lv_iload_n hx hb dX6_drift_116 rfl (lv_at hl 0 rfl) ?_
        replace hf := s_bv_some hf
        obtain ⟨σ14, hz15, hf⟩ := hf
        refine s_callv (nn := 1) C (kcX1_append_6 (l := l) (G := G) (cy := cy) (sa := sa) (sh := sh) hI (sz := H.size) σ2 t13 hz15) gk_X6_213 rfl rfl (by decide +kernel) ⟨Nat.le_of_ble_eq_true rfl, Nat.le_of_ble_eq_true rfl⟩ hP hS (q0 := 6) (ci := 1) rfl rfl rfl (As := [.int t13]) (rest := []) rfl rfl hl.1 (Nat.le_of_ble_eq_true rfl) dX6_drift_117 (fun H locs hP hS => ?_)
        exact kX6_drift_b120 C k27 hk27 σ14 t6 x2 t13 x4 x5 _ _ _ (lv_sub hl [4, 3, 5, 0, 6, 7] rfl) hP hS hf
      · rw [if_pos c9] at hf
        refine lv_aload_n hx hb dX6_drift_70 rfl (lv_at hl 2 rfl) ?_
        refine va_get (D := G) (ci := 6) (v := .ref (ad 6)) (C := RX6) (T := TX6) (N := 9) hx hb hts inkX6 hown hK hP 0 rfl rfl 2 (by decide) (hts _ kw_232) (fun _ h9 => h9) rfl dX6_drift_71 ?_
        refine lv_ldc (v := 100000000) hx hb hown (hts _ kw_498) dX6_drift_74 ?_
        replace hf := s_bv_some hf
        obtain ⟨σ16, hz17, hf⟩ := hf
        refine s_callv (nn := 1) C (kcX1_append_6 (l := l) (G := G) (cy := cy) (sa := sa) (sh := sh) hI (sz := H.size) σ2 (100000000 : Int32) hz17) gk_X6_213 rfl rfl (by decide +kernel) ⟨Nat.le_of_ble_eq_true rfl, Nat.le_of_ble_eq_true rfl⟩ hP hS (q0 := 6) (ci := 1) rfl rfl rfl (As := [.int (100000000 : Int32)]) (rest := []) rfl rfl hl.1 (Nat.le_of_ble_eq_true rfl) dX6_drift_76 (fun H locs hP hS => ?_)
        refine lv_goto (tgt := 120) hx hb dX6_drift_79 (by decide) ?_
        exact kX6_drift_b120 C k27 hk27 σ16 t6 x2 x3 x4 x5 _ _ _ (lv_sub hl [2, 1, 3, 4, 5, 6] rfl) hP hS hf
set_option maxRecDepth 100000 in
set_option maxHeartbeats 4000000 in
theorem kX6_drift_b27_L (C : s_X p s m meth c args cX6_drift (some .int) 8 RX6 G cy sa ad 19) : ∀ (n : Nat), ∀ (σ : Sg) (x1 : Int32) (x2 : Int32) (x3 : Int32) (x4 : Int32) (x5 : Int32) (ls : Array Slot) (H : Heap) (locs : List Loc), lv_has ls 8 [(0, .ref (ad 0)), (1, .int x1), (2, .int x2), (3, .int x3), (4, .int x4), (5, .int x5)] → va_P G vwCl ((s_WC cy ad sh) σ) H → va_S (s_A ad 19 s.heap.size) s.heap H locs → fX6_drift_b27_L n σ x1 x2 x3 x4 x5 = some (re, σe) → W p l e ({ frames := 2, cells := 0, slots := 0, locals := 41 } : Room) s m args below meth c H locs 0 0 (MQ below (s_Qi (s_WC cy ad sh) G (s_A ad 19 s.heap.size) re σe) args s 0 0 (s_A ad 19 s.heap.size)) (F0 m 27 ls []) := by
  intro n
  induction n with
  | zero => intro σ x1 x2 x3 x4 x5 ls H locs hl hP hS hf; exact absurd (show (none : Option (Int32 × Sg)) = some (re, σe) from hf) (by intro h; cases h)
  | succ n ih => intro σ x1 x2 x3 x4 x5 ls H locs hl hP hS hf; exact kX6_drift_b27 C (fX6_drift_b27_L n) ih σ x1 x2 x3 x4 x5 ls H locs hl hP hS hf
set_option maxRecDepth 100000 in
set_option maxHeartbeats 4000000 in
theorem kX6_drift (C : s_X p s m meth c args cX6_drift (some .int) 8 RX6 G cy sa ad 19) (σ : Sg) (x1 : Int32) (x2 : Int32) (ls : Array Slot) (H : Heap) (locs : List Loc) (hl : lv_has ls 8 [(0, .ref (ad 0)), (1, .int x1), (2, .int x2)]) (hP : va_P G vwCl ((s_WC cy ad sh) σ) H) (hS : va_S (s_A ad 19 s.heap.size) s.heap H locs) (hf : fX6_drift σ x1 x2 = some (re, σe)) : W p l e ({ frames := 2, cells := 0, slots := 0, locals := 41 } : Room) s m args below meth c H locs 0 0 (MQ below (s_Qi (s_WC cy ad sh) G (s_A ad 19 s.heap.size) re σe) args s 0 0 (s_A ad 19 s.heap.size)) (F0 m 0 ls []) := by
  obtain ⟨hx, hb, hr, hml, hown, hts, hlk, hK, hE, hI⟩ := id C
  have hD : ∀ σ : Sg, va_D (s_A ad 19 s.heap.size) ((s_WC cy ad sh) σ) := fun σ => s_D (s_WC_ad cy ad sh σ) hI (fun k hk => Or.inl ⟨k, hk, rfl⟩)
  unfold fX6_drift at hf
  refine lv_iload_n hx hb dX6_drift_0 rfl (lv_at hl 2 rfl) ?_
  refine lv_iconst (v := 1) hx hb dX6_drift_1 (by decide) ?_
  refine lv_icmp_lt (tgt := 11) hx hb dX6_drift_2 (by decide) (fun c1 => ?_) (fun c1 => ?_)
  · rw [if_pos c1] at hf
    exact kX6_drift_b11 C σ _ _ _ (lv_sub hl [] rfl) hP hS hf
  · rw [if_neg c1] at hf
    refine lv_iload_n hx hb dX6_drift_5 rfl (lv_at hl 2 rfl) ?_
    refine lv_bipush (v := 48) hx hb dX6_drift_6 (by decide) ?_
    refine lv_icmp_le (tgt := 13) hx hb dX6_drift_8 (by decide) (fun c2 => ?_) (fun c2 => ?_)
    · rw [if_pos c2] at hf
      refine lv_aload_n hx hb dX6_drift_13 rfl (lv_at hl 0 rfl) ?_
      refine va_get (D := G) (ci := 6) (v := .ref (ad 6)) (C := RX6) (T := TX6) (N := 9) hx hb hts inkX6 hown hK hP 0 rfl rfl 2 (by decide) (hts _ kw_232) (fun _ h9 => h9) rfl dX6_drift_14 ?_
      replace hf := s_bi_some hf
      obtain ⟨r5, σ3, hz4, hf⟩ := hf
      refine s_calli (nn := 0) C (kcX1_latestValue_6 (l := l) (G := G) (cy := cy) (sa := sa) (sh := sh) hI (sz := H.size) σ hz4) gk_X6_208 rfl rfl (by decide +kernel) ⟨Nat.le_of_ble_eq_true rfl, Nat.le_of_ble_eq_true rfl⟩ hP hS (q0 := 6) (ci := 1) rfl rfl rfl (As := []) (rest := []) rfl rfl hl.1 (Nat.le_of_ble_eq_true rfl) dX6_drift_17 (fun H locs hP hS => ?_)
      refine lv_istore_n (lv' := [(3, .int r5), (0, .ref (ad 0)), (1, .int x1), (2, .int x2)]) hx hb dX6_drift_20 rfl hl (by decide) rfl (fun ls hl => ?_)
      refine lv_iconst (v := 0) hx hb dX6_drift_21 (by decide) ?_
      refine lv_istore (lv' := [(4, .int (0 : Int32)), (3, .int r5), (0, .ref (ad 0)), (1, .int x1), (2, .int x2)]) hx hb dX6_drift_22 hl (by decide) rfl (fun ls hl => ?_)
      refine lv_iconst (v := 0) hx hb dX6_drift_24 (by decide) ?_
      refine lv_istore (lv' := [(5, .int (0 : Int32)), (4, .int (0 : Int32)), (3, .int r5), (0, .ref (ad 0)), (1, .int x1), (2, .int x2)]) hx hb dX6_drift_25 hl (by decide) rfl (fun ls hl => ?_)
      exact kX6_drift_b27_L C s_fu σ3 x1 x2 r5 (0 : Int32) (0 : Int32) _ _ _ (lv_sub hl [3, 4, 5, 2, 1, 0] rfl) hP hS hf
    · rw [if_neg c2] at hf
      exact kX6_drift_b11 C σ _ _ _ (lv_sub hl [] rfl) hP hS hf
theorem kcX6_drift {l : Launch} {G : va_G} {cy : Nat → ClassId} {sa : Nat × Nat} {ad : Nat → Nat} {sh : Nat → Option Nat} {sz : Nat} (hI : s_inj ad 19) (σ : Sg) (x1 : Int32) (x2 : Int32) {re : Int32} {σe : Sg} (hf : fX6_drift σ x1 x2 = some (re, σe)) : Met l yX6_drift (kW yX6_drift cX6_drift 8 (some .int)) ({ frames := 2, cells := 0, slots := 0, locals := 41 } : Room) (s_P (s_WC cy ad sh) G cy sa ad 19 [.ref (ad 0), .int x1, .int x2] sz σ) (s_Qi (s_WC cy ad sh) G (s_A ad 19 sz) re σe) 0 0 (s_A ad 19 sz) := by
  refine s_met (own := RX6) (by decide) rfl hI (Nat.le_of_ble_eq_true rfl) (fun p e s m below meth c ls hsz C hP hl => ?_)
  subst hsz
  exact kX6_drift C σ x1 x2 ls _ _ hl hP va_S.rf hf
set_option maxRecDepth 100000 in
set_option maxHeartbeats 4000000 in
theorem kX6_isImage_b13 (C : s_X p s m meth c args cX6_isImage (some .boolean) 1 RX6 G cy sa ad 19) (σ : Sg) (ls : Array Slot) (H : Heap) (locs : List Loc) (hl : lv_has ls 1 []) (hP : va_P G vwCl ((s_WC cy ad sh) σ) H) (hS : va_S (s_A ad 19 s.heap.size) s.heap H locs) (hf : fX6_isImage_b13 σ = some (re, σe)) : W p l e ({ frames := 0, cells := 0, slots := 0, locals := 0 } : Room) s m args below meth c H locs 0 0 (MQ below (s_Qi (s_WC cy ad sh) G (s_A ad 19 s.heap.size) re σe) args s 0 0 (s_A ad 19 s.heap.size)) (F0 m 13 ls []) := by
  obtain ⟨hx, hb, hr, hml, hown, hts, hlk, hK, hE, hI⟩ := id C
  have hD : ∀ σ : Sg, va_D (s_A ad 19 s.heap.size) ((s_WC cy ad sh) σ) := fun σ => s_D (s_WC_ad cy ad sh σ) hI (fun k hk => Or.inl ⟨k, hk, rfl⟩)
  unfold fX6_isImage_b13 at hf
  refine lv_iconst (v := 0) hx hb dX6_isImage_13 (by decide) ?_
  obtain ⟨he1, he2⟩ := s_ret hf
  exact W.zret hx hb hr rfl (fun t ht hW => ⟨⟨_, (), rfl, he1, s_fin (Wd := (s_WC cy ad sh)) ht he2 hP⟩, hS.F ht⟩) hS.2.2 dX6_isImage_14 hlk
set_option maxRecDepth 100000 in
set_option maxHeartbeats 4000000 in
theorem kX6_isImage (C : s_X p s m meth c args cX6_isImage (some .boolean) 1 RX6 G cy sa ad 19) (σ : Sg) (x0 : Int32) (ls : Array Slot) (H : Heap) (locs : List Loc) (hl : lv_has ls 1 [(0, .int x0)]) (hP : va_P G vwCl ((s_WC cy ad sh) σ) H) (hS : va_S (s_A ad 19 s.heap.size) s.heap H locs) (hf : fX6_isImage σ x0 = some (re, σe)) : W p l e ({ frames := 0, cells := 0, slots := 0, locals := 0 } : Room) s m args below meth c H locs 0 0 (MQ below (s_Qi (s_WC cy ad sh) G (s_A ad 19 s.heap.size) re σe) args s 0 0 (s_A ad 19 s.heap.size)) (F0 m 0 ls []) := by
  obtain ⟨hx, hb, hr, hml, hown, hts, hlk, hK, hE, hI⟩ := id C
  have hD : ∀ σ : Sg, va_D (s_A ad 19 s.heap.size) ((s_WC cy ad sh) σ) := fun σ => s_D (s_WC_ad cy ad sh σ) hI (fun k hk => Or.inl ⟨k, hk, rfl⟩)
  unfold fX6_isImage at hf
  refine lv_iload_n hx hb dX6_isImage_0 rfl (lv_at hl 0 rfl) ?_
  refine lv_if_lt (tgt := 13) hx hb dX6_isImage_1 (by decide) (fun c1 => ?_) (fun c1 => ?_)
  · rw [if_pos c1] at hf
    exact kX6_isImage_b13 C σ _ _ _ (lv_sub hl [] rfl) hP hS hf
  · rw [if_neg c1] at hf
    refine lv_iload_n hx hb dX6_isImage_4 rfl (lv_at hl 0 rfl) ?_
    refine lv_iconst (v := 2) hx hb dX6_isImage_5 (by decide) ?_
    refine lv_icmp_ge (tgt := 13) hx hb dX6_isImage_6 (by decide) (fun c2 => ?_) (fun c2 => ?_)
    · rw [if_pos c2] at hf
      exact kX6_isImage_b13 C σ _ _ _ (lv_sub hl [] rfl) hP hS hf
    · rw [if_neg c2] at hf
      refine lv_iconst (v := 1) hx hb dX6_isImage_9 (by decide) ?_
      refine lv_goto (tgt := 14) hx hb dX6_isImage_10 (by decide) ?_
      obtain ⟨he1, he2⟩ := s_ret hf
      exact W.zret hx hb hr rfl (fun t ht hW => ⟨⟨_, (), rfl, he1, s_fin (Wd := (s_WC cy ad sh)) ht he2 hP⟩, hS.F ht⟩) hS.2.2 dX6_isImage_14 hlk
theorem kcX6_isImage {l : Launch} {G : va_G} {cy : Nat → ClassId} {sa : Nat × Nat} {ad : Nat → Nat} {sh : Nat → Option Nat} {sz : Nat} (hI : s_inj ad 19) (σ : Sg) (x0 : Int32) {re : Int32} {σe : Sg} (hf : fX6_isImage σ x0 = some (re, σe)) : Met l yX6_isImage (kW yX6_isImage cX6_isImage 1 (some .boolean)) ({ frames := 0, cells := 0, slots := 0, locals := 0 } : Room) (s_P (s_WC cy ad sh) G cy sa ad 19 [.int x0] sz σ) (s_Qi (s_WC cy ad sh) G (s_A ad 19 sz) re σe) 0 0 (s_A ad 19 sz) := by
  refine s_met (own := RX6) (by decide) rfl hI (Nat.le_of_ble_eq_true rfl) (fun p e s m below meth c ls hsz C hP hl => ?_)
  subst hsz
  exact kX6_isImage C σ x0 ls _ _ hl hP va_S.rf hf
set_option maxRecDepth 100000 in
set_option maxHeartbeats 4000000 in
theorem kX1_copyFrom_13_6 (C : s_X p s m meth c args cX1_copyFrom none 2 RX1 G cy sa ad 19) (σ : Sg) (ls : Array Slot) (H : Heap) (locs : List Loc) (hl : lv_has ls 2 [(0, .ref (ad 13)), (1, .ref (ad 6))]) (hP : va_P G vwCl ((s_WC cy ad sh) σ) H) (hS : va_S (s_A ad 19 s.heap.size) s.heap H locs) (hf : fX1_copyFrom_13_6 σ = some σe) : W p l e ({ frames := 1, cells := 0, slots := 0, locals := 60 } : Room) s m args below meth c H locs 0 0 (MQ below (s_Qv (s_WC cy ad sh) G (s_A ad 19 s.heap.size) σe) args s 0 0 (s_A ad 19 s.heap.size)) (F0 m 0 ls []) := by
  obtain ⟨hx, hb, hr, hml, hown, hts, hlk, hK, hE, hI⟩ := id C
  have hD : ∀ σ : Sg, va_D (s_A ad 19 s.heap.size) ((s_WC cy ad sh) σ) := fun σ => s_D (s_WC_ad cy ad sh σ) hI (fun k hk => Or.inl ⟨k, hk, rfl⟩)
  unfold fX1_copyFrom_13_6 at hf
  refine lv_aload_n hx hb dX1_copyFrom_0 rfl (lv_at hl 1 rfl) ?_
  refine va_get (D := G) (ci := 1) (v := .ref (ad 7)) (C := RX1) (T := TX1) (N := 8) hx hb hts inkX1 hown hK hP 6 rfl rfl 0 (by decide) (hts _ kw_109) (fun _ h9 => h9) rfl dX1_copyFrom_1 ?_
  refine lv_iconst (v := 0) hx hb dX1_copyFrom_4 (by decide) ?_
  refine lv_aload_n hx hb dX1_copyFrom_5 rfl (lv_at hl 0 rfl) ?_
  refine va_get (D := G) (ci := 1) (v := .ref (ad 14)) (C := RX1) (T := TX1) (N := 8) hx hb hts inkX1 hown hK hP 13 rfl rfl 0 (by decide) (hts _ kw_109) (fun _ h9 => h9) rfl dX1_copyFrom_6 ?_
  refine lv_iconst (v := 0) hx hb dX1_copyFrom_9 (by decide) ?_
  refine lv_aload_n hx hb dX1_copyFrom_10 rfl (lv_at hl 1 rfl) ?_
  refine va_get (D := G) (ci := 1) (v := .int (σ 6 1)) (C := RX1) (T := TX1) (N := 8) hx hb hts inkX1 hown hK hP 6 rfl rfl 1 (by decide) (hts _ kw_110) (fun _ h9 => h9) rfl dX1_copyFrom_11 ?_
  replace hf := s_gd_some hf
  obtain ⟨g2, hf⟩ := hf
  obtain ⟨g2a, g2b, g2c, g2d, g2e⟩ := s_cpok_of g2
  refine va_copyi hx hb (hml.trans hl.1.symm) hown (hts _ kw_421) (hts _ kw_423) (hts _ kw_422) (hts _ kw_67) hK hP (hD _) hS 7 14 1 1 rfl rfl rfl rfl rfl g2a g2b g2c g2d g2e (fun _ _ => rfl) (Nat.le_of_ble_eq_true rfl) (by decide +kernel) dX1_copyFrom_14 (fun H locs hP _ hS => ?_)
  obtain ⟨σ1, eσ1⟩ : ∃ z : Sg, z = (s_upr σ 14 (va_cpy (σ 7) (σ 14) (Int32.toNatClampNeg (0 : Int32)) (Int32.toNatClampNeg (0 : Int32)) (Int32.toNatClampNeg (σ 6 1)))) := ⟨_, rfl⟩
  replace hf := s_lt_at eσ1 hf
  replace hP : va_P G vwCl ((s_WC cy ad sh) σ1) H := by rw [eσ1]; exact hP
  refine lv_aload_n hx hb dX1_copyFrom_17 rfl (lv_at hl 0 rfl) ?_
  refine lv_aload_n hx hb dX1_copyFrom_18 rfl (lv_at hl 1 rfl) ?_
  refine va_get (D := G) (ci := 1) (v := .int (σ1 6 1)) (C := RX1) (T := TX1) (N := 8) hx hb hts inkX1 hown hK hP 6 rfl rfl 1 (by decide) (hts _ kw_110) (fun _ h9 => h9) rfl dX1_copyFrom_19 ?_
  refine va_put (D := G) (ci := 1) (v := .int (σ1 6 1)) (ty := .int) (C := RX1) (T := TX1) (N := 8) hx hb hts inkX1 tyX1 tyX1_ok nmX1 hown hK hP (hD _) hS 13 rfl rfl 1 (by decide) (hts _ kw_110) (fun _ h9 => h9) rfl (by decide +kernel) rfl rfl (Nat.le_of_ble_eq_true rfl) dX1_copyFrom_22 (fun H locs hP _ hS => ?_)
  obtain ⟨σ3, eσ3⟩ : ∃ z : Sg, z = (s_up σ1 13 1 (σ1 6 1)) := ⟨_, rfl⟩
  replace hf := s_lt_at eσ3 hf
  replace hP : va_P G vwCl ((s_WC cy ad sh) σ3) H := by rw [eσ3]; exact hP
  refine lv_aload_n hx hb dX1_copyFrom_25 rfl (lv_at hl 0 rfl) ?_
  refine lv_aload_n hx hb dX1_copyFrom_26 rfl (lv_at hl 1 rfl) ?_
  refine va_get (D := G) (ci := 1) (v := .int (σ3 6 2)) (C := RX1) (T := TX1) (N := 8) hx hb hts inkX1 hown hK hP 6 rfl rfl 2 (by decide) (hts _ kw_113) (fun _ h9 => h9) rfl dX1_copyFrom_27 ?_
  refine va_put (D := G) (ci := 1) (v := .int (σ3 6 2)) (ty := .int) (C := RX1) (T := TX1) (N := 8) hx hb hts inkX1 tyX1 tyX1_ok nmX1 hown hK hP (hD _) hS 13 rfl rfl 2 (by decide) (hts _ kw_113) (fun _ h9 => h9) rfl (by decide +kernel) rfl rfl (Nat.le_of_ble_eq_true rfl) dX1_copyFrom_30 (fun H locs hP _ hS => ?_)
  obtain ⟨σ4, eσ4⟩ : ∃ z : Sg, z = (s_up σ3 13 2 (σ3 6 2)) := ⟨_, rfl⟩
  replace hf := s_lt_at eσ4 hf
  replace hP : va_P G vwCl ((s_WC cy ad sh) σ4) H := by rw [eσ4]; exact hP
  refine lv_aload_n hx hb dX1_copyFrom_33 rfl (lv_at hl 0 rfl) ?_
  refine lv_aload_n hx hb dX1_copyFrom_34 rfl (lv_at hl 1 rfl) ?_
  refine va_get (D := G) (ci := 1) (v := .int (σ4 6 3)) (C := RX1) (T := TX1) (N := 8) hx hb hts inkX1 hown hK hP 6 rfl rfl 3 (by decide) (hts _ kw_117) (fun _ h9 => h9) rfl dX1_copyFrom_35 ?_
  refine va_put (D := G) (ci := 1) (v := .int (σ4 6 3)) (ty := .int) (C := RX1) (T := TX1) (N := 8) hx hb hts inkX1 tyX1 tyX1_ok nmX1 hown hK hP (hD _) hS 13 rfl rfl 3 (by decide) (hts _ kw_117) (fun _ h9 => h9) rfl (by decide +kernel) rfl rfl (Nat.le_of_ble_eq_true rfl) dX1_copyFrom_38 (fun H locs hP _ hS => ?_)
  obtain ⟨σ5, eσ5⟩ : ∃ z : Sg, z = (s_up σ4 13 3 (σ4 6 3)) := ⟨_, rfl⟩
  replace hf := s_lt_at eσ5 hf
  replace hP : va_P G vwCl ((s_WC cy ad sh) σ5) H := by rw [eσ5]; exact hP
  refine lv_aload_n hx hb dX1_copyFrom_41 rfl (lv_at hl 0 rfl) ?_
  refine lv_aload_n hx hb dX1_copyFrom_42 rfl (lv_at hl 1 rfl) ?_
  refine va_get (D := G) (ci := 1) (v := .int (σ5 6 4)) (C := RX1) (T := TX1) (N := 8) hx hb hts inkX1 hown hK hP 6 rfl rfl 4 (by decide) (hts _ kw_121) (fun _ h9 => h9) rfl dX1_copyFrom_43 ?_
  refine va_put (D := G) (ci := 1) (v := .int (σ5 6 4)) (ty := .int) (C := RX1) (T := TX1) (N := 8) hx hb hts inkX1 tyX1 tyX1_ok nmX1 hown hK hP (hD _) hS 13 rfl rfl 4 (by decide) (hts _ kw_121) (fun _ h9 => h9) rfl (by decide +kernel) rfl rfl (Nat.le_of_ble_eq_true rfl) dX1_copyFrom_46 (fun H locs hP _ hS => ?_)
  obtain ⟨σ6, eσ6⟩ : ∃ z : Sg, z = (s_up σ5 13 4 (σ5 6 4)) := ⟨_, rfl⟩
  replace hf := s_lt_at eσ6 hf
  replace hP : va_P G vwCl ((s_WC cy ad sh) σ6) H := by rw [eσ6]; exact hP
  refine lv_aload_n hx hb dX1_copyFrom_49 rfl (lv_at hl 0 rfl) ?_
  refine lv_aload_n hx hb dX1_copyFrom_50 rfl (lv_at hl 1 rfl) ?_
  refine va_get (D := G) (ci := 1) (v := .int (σ6 6 5)) (C := RX1) (T := TX1) (N := 8) hx hb hts inkX1 hown hK hP 6 rfl rfl 5 (by decide) (hts _ kw_125) (fun _ h9 => h9) rfl dX1_copyFrom_51 ?_
  refine va_put (D := G) (ci := 1) (v := .int (σ6 6 5)) (ty := .int) (C := RX1) (T := TX1) (N := 8) hx hb hts inkX1 tyX1 tyX1_ok nmX1 hown hK hP (hD _) hS 13 rfl rfl 5 (by decide) (hts _ kw_125) (fun _ h9 => h9) rfl (by decide +kernel) rfl rfl (Nat.le_of_ble_eq_true rfl) dX1_copyFrom_54 (fun H locs hP _ hS => ?_)
  obtain ⟨σ7, eσ7⟩ : ∃ z : Sg, z = (s_up σ6 13 5 (σ6 6 5)) := ⟨_, rfl⟩
  replace hf := s_lt_at eσ7 hf
  replace hP : va_P G vwCl ((s_WC cy ad sh) σ7) H := by rw [eσ7]; exact hP
  refine lv_aload_n hx hb dX1_copyFrom_57 rfl (lv_at hl 0 rfl) ?_
  refine lv_aload_n hx hb dX1_copyFrom_58 rfl (lv_at hl 1 rfl) ?_
  refine va_get (D := G) (ci := 1) (v := .int (σ7 6 6)) (C := RX1) (T := TX1) (N := 8) hx hb hts inkX1 hown hK hP 6 rfl rfl 6 (by decide) (hts _ kw_129) (fun _ h9 => h9) rfl dX1_copyFrom_59 ?_
  refine va_put (D := G) (ci := 1) (v := .int (σ7 6 6)) (ty := .int) (C := RX1) (T := TX1) (N := 8) hx hb hts inkX1 tyX1 tyX1_ok nmX1 hown hK hP (hD _) hS 13 rfl rfl 6 (by decide) (hts _ kw_129) (fun _ h9 => h9) rfl (by decide +kernel) rfl rfl (Nat.le_of_ble_eq_true rfl) dX1_copyFrom_62 (fun H locs hP _ hS => ?_)
  obtain ⟨σ8, eσ8⟩ : ∃ z : Sg, z = (s_up σ7 13 6 (σ7 6 6)) := ⟨_, rfl⟩
  replace hf := s_lt_at eσ8 hf
  replace hP : va_P G vwCl ((s_WC cy ad sh) σ8) H := by rw [eσ8]; exact hP
  refine lv_aload_n hx hb dX1_copyFrom_65 rfl (lv_at hl 0 rfl) ?_
  refine lv_aload_n hx hb dX1_copyFrom_66 rfl (lv_at hl 1 rfl) ?_
  refine va_get (D := G) (ci := 1) (v := .int (σ8 6 7)) (C := RX1) (T := TX1) (N := 8) hx hb hts inkX1 hown hK hP 6 rfl rfl 7 (by decide) (hts _ kw_133) (fun _ h9 => h9) rfl dX1_copyFrom_67 ?_
  refine va_put (D := G) (ci := 1) (v := .int (σ8 6 7)) (ty := .int) (C := RX1) (T := TX1) (N := 8) hx hb hts inkX1 tyX1 tyX1_ok nmX1 hown hK hP (hD _) hS 13 rfl rfl 7 (by decide) (hts _ kw_133) (fun _ h9 => h9) rfl (by decide +kernel) rfl rfl (Nat.le_of_ble_eq_true rfl) dX1_copyFrom_70 (fun H locs hP _ hS => ?_)
  obtain ⟨σ9, eσ9⟩ : ∃ z : Sg, z = (s_up σ8 13 7 (σ8 6 7)) := ⟨_, rfl⟩
  replace hf := s_lt_at eσ9 hf
  replace hP : va_P G vwCl ((s_WC cy ad sh) σ9) H := by rw [eσ9]; exact hP
  have he2 := Option.some.inj hf
  exact W.vret hx hb hr (fun t ht hW => ⟨⟨(), rfl, trivial, s_fin (Wd := (s_WC cy ad sh)) ht he2 hP⟩, hS.F ht⟩) hS.2.2 dX1_copyFrom_73 hlk
theorem kcX1_copyFrom_13_6 {l : Launch} {G : va_G} {cy : Nat → ClassId} {sa : Nat × Nat} {ad : Nat → Nat} {sh : Nat → Option Nat} {sz : Nat} (hI : s_inj ad 19) (σ : Sg) {σe : Sg} (hf : fX1_copyFrom_13_6 σ = some σe) : Met l yX1_copyFrom (kW yX1_copyFrom cX1_copyFrom 2 none) ({ frames := 1, cells := 0, slots := 0, locals := 60 } : Room) (s_P (s_WC cy ad sh) G cy sa ad 19 [.ref (ad 13), .ref (ad 6)] sz σ) (s_Qv (s_WC cy ad sh) G (s_A ad 19 sz) σe) 0 0 (s_A ad 19 sz) := by
  refine s_met (own := RX1) (by decide) rfl hI (Nat.le_of_ble_eq_true rfl) (fun p e s m below meth c ls hsz C hP hl => ?_)
  subst hsz
  exact kX1_copyFrom_13_6 C σ ls _ _ hl hP va_S.rf hf
set_option maxRecDepth 100000 in
set_option maxHeartbeats 4000000 in
theorem kX1_copyFrom_15_6 (C : s_X p s m meth c args cX1_copyFrom none 2 RX1 G cy sa ad 19) (σ : Sg) (ls : Array Slot) (H : Heap) (locs : List Loc) (hl : lv_has ls 2 [(0, .ref (ad 15)), (1, .ref (ad 6))]) (hP : va_P G vwCl ((s_WC cy ad sh) σ) H) (hS : va_S (s_A ad 19 s.heap.size) s.heap H locs) (hf : fX1_copyFrom_15_6 σ = some σe) : W p l e ({ frames := 1, cells := 0, slots := 0, locals := 60 } : Room) s m args below meth c H locs 0 0 (MQ below (s_Qv (s_WC cy ad sh) G (s_A ad 19 s.heap.size) σe) args s 0 0 (s_A ad 19 s.heap.size)) (F0 m 0 ls []) := by
  obtain ⟨hx, hb, hr, hml, hown, hts, hlk, hK, hE, hI⟩ := id C
  have hD : ∀ σ : Sg, va_D (s_A ad 19 s.heap.size) ((s_WC cy ad sh) σ) := fun σ => s_D (s_WC_ad cy ad sh σ) hI (fun k hk => Or.inl ⟨k, hk, rfl⟩)
  unfold fX1_copyFrom_15_6 at hf
  refine lv_aload_n hx hb dX1_copyFrom_0 rfl (lv_at hl 1 rfl) ?_
  refine va_get (D := G) (ci := 1) (v := .ref (ad 7)) (C := RX1) (T := TX1) (N := 8) hx hb hts inkX1 hown hK hP 6 rfl rfl 0 (by decide) (hts _ kw_109) (fun _ h9 => h9) rfl dX1_copyFrom_1 ?_
  refine lv_iconst (v := 0) hx hb dX1_copyFrom_4 (by decide) ?_
  refine lv_aload_n hx hb dX1_copyFrom_5 rfl (lv_at hl 0 rfl) ?_
  refine va_get (D := G) (ci := 1) (v := .ref (ad 16)) (C := RX1) (T := TX1) (N := 8) hx hb hts inkX1 hown hK hP 15 rfl rfl 0 (by decide) (hts _ kw_109) (fun _ h9 => h9) rfl dX1_copyFrom_6 ?_
  refine lv_iconst (v := 0) hx hb dX1_copyFrom_9 (by decide) ?_
  refine lv_aload_n hx hb dX1_copyFrom_10 rfl (lv_at hl 1 rfl) ?_
  refine va_get (D := G) (ci := 1) (v := .int (σ 6 1)) (C := RX1) (T := TX1) (N := 8) hx hb hts inkX1 hown hK hP 6 rfl rfl 1 (by decide) (hts _ kw_110) (fun _ h9 => h9) rfl dX1_copyFrom_11 ?_
  replace hf := s_gd_some hf
  obtain ⟨g2, hf⟩ := hf
  obtain ⟨g2a, g2b, g2c, g2d, g2e⟩ := s_cpok_of g2
  refine va_copyi hx hb (hml.trans hl.1.symm) hown (hts _ kw_421) (hts _ kw_423) (hts _ kw_422) (hts _ kw_67) hK hP (hD _) hS 7 16 1 1 rfl rfl rfl rfl rfl g2a g2b g2c g2d g2e (fun _ _ => rfl) (Nat.le_of_ble_eq_true rfl) (by decide +kernel) dX1_copyFrom_14 (fun H locs hP _ hS => ?_)
  obtain ⟨σ1, eσ1⟩ : ∃ z : Sg, z = (s_upr σ 16 (va_cpy (σ 7) (σ 16) (Int32.toNatClampNeg (0 : Int32)) (Int32.toNatClampNeg (0 : Int32)) (Int32.toNatClampNeg (σ 6 1)))) := ⟨_, rfl⟩
  replace hf := s_lt_at eσ1 hf
  replace hP : va_P G vwCl ((s_WC cy ad sh) σ1) H := by rw [eσ1]; exact hP
  refine lv_aload_n hx hb dX1_copyFrom_17 rfl (lv_at hl 0 rfl) ?_
  refine lv_aload_n hx hb dX1_copyFrom_18 rfl (lv_at hl 1 rfl) ?_
  refine va_get (D := G) (ci := 1) (v := .int (σ1 6 1)) (C := RX1) (T := TX1) (N := 8) hx hb hts inkX1 hown hK hP 6 rfl rfl 1 (by decide) (hts _ kw_110) (fun _ h9 => h9) rfl dX1_copyFrom_19 ?_
  refine va_put (D := G) (ci := 1) (v := .int (σ1 6 1)) (ty := .int) (C := RX1) (T := TX1) (N := 8) hx hb hts inkX1 tyX1 tyX1_ok nmX1 hown hK hP (hD _) hS 15 rfl rfl 1 (by decide) (hts _ kw_110) (fun _ h9 => h9) rfl (by decide +kernel) rfl rfl (Nat.le_of_ble_eq_true rfl) dX1_copyFrom_22 (fun H locs hP _ hS => ?_)
  obtain ⟨σ3, eσ3⟩ : ∃ z : Sg, z = (s_up σ1 15 1 (σ1 6 1)) := ⟨_, rfl⟩
  replace hf := s_lt_at eσ3 hf
  replace hP : va_P G vwCl ((s_WC cy ad sh) σ3) H := by rw [eσ3]; exact hP
  refine lv_aload_n hx hb dX1_copyFrom_25 rfl (lv_at hl 0 rfl) ?_
  refine lv_aload_n hx hb dX1_copyFrom_26 rfl (lv_at hl 1 rfl) ?_
  refine va_get (D := G) (ci := 1) (v := .int (σ3 6 2)) (C := RX1) (T := TX1) (N := 8) hx hb hts inkX1 hown hK hP 6 rfl rfl 2 (by decide) (hts _ kw_113) (fun _ h9 => h9) rfl dX1_copyFrom_27 ?_
  refine va_put (D := G) (ci := 1) (v := .int (σ3 6 2)) (ty := .int) (C := RX1) (T := TX1) (N := 8) hx hb hts inkX1 tyX1 tyX1_ok nmX1 hown hK hP (hD _) hS 15 rfl rfl 2 (by decide) (hts _ kw_113) (fun _ h9 => h9) rfl (by decide +kernel) rfl rfl (Nat.le_of_ble_eq_true rfl) dX1_copyFrom_30 (fun H locs hP _ hS => ?_)
  obtain ⟨σ4, eσ4⟩ : ∃ z : Sg, z = (s_up σ3 15 2 (σ3 6 2)) := ⟨_, rfl⟩
  replace hf := s_lt_at eσ4 hf
  replace hP : va_P G vwCl ((s_WC cy ad sh) σ4) H := by rw [eσ4]; exact hP
  refine lv_aload_n hx hb dX1_copyFrom_33 rfl (lv_at hl 0 rfl) ?_
  refine lv_aload_n hx hb dX1_copyFrom_34 rfl (lv_at hl 1 rfl) ?_
  refine va_get (D := G) (ci := 1) (v := .int (σ4 6 3)) (C := RX1) (T := TX1) (N := 8) hx hb hts inkX1 hown hK hP 6 rfl rfl 3 (by decide) (hts _ kw_117) (fun _ h9 => h9) rfl dX1_copyFrom_35 ?_
  refine va_put (D := G) (ci := 1) (v := .int (σ4 6 3)) (ty := .int) (C := RX1) (T := TX1) (N := 8) hx hb hts inkX1 tyX1 tyX1_ok nmX1 hown hK hP (hD _) hS 15 rfl rfl 3 (by decide) (hts _ kw_117) (fun _ h9 => h9) rfl (by decide +kernel) rfl rfl (Nat.le_of_ble_eq_true rfl) dX1_copyFrom_38 (fun H locs hP _ hS => ?_)
  obtain ⟨σ5, eσ5⟩ : ∃ z : Sg, z = (s_up σ4 15 3 (σ4 6 3)) := ⟨_, rfl⟩
  replace hf := s_lt_at eσ5 hf
  replace hP : va_P G vwCl ((s_WC cy ad sh) σ5) H := by rw [eσ5]; exact hP
  refine lv_aload_n hx hb dX1_copyFrom_41 rfl (lv_at hl 0 rfl) ?_
  refine lv_aload_n hx hb dX1_copyFrom_42 rfl (lv_at hl 1 rfl) ?_
  refine va_get (D := G) (ci := 1) (v := .int (σ5 6 4)) (C := RX1) (T := TX1) (N := 8) hx hb hts inkX1 hown hK hP 6 rfl rfl 4 (by decide) (hts _ kw_121) (fun _ h9 => h9) rfl dX1_copyFrom_43 ?_
  refine va_put (D := G) (ci := 1) (v := .int (σ5 6 4)) (ty := .int) (C := RX1) (T := TX1) (N := 8) hx hb hts inkX1 tyX1 tyX1_ok nmX1 hown hK hP (hD _) hS 15 rfl rfl 4 (by decide) (hts _ kw_121) (fun _ h9 => h9) rfl (by decide +kernel) rfl rfl (Nat.le_of_ble_eq_true rfl) dX1_copyFrom_46 (fun H locs hP _ hS => ?_)
  obtain ⟨σ6, eσ6⟩ : ∃ z : Sg, z = (s_up σ5 15 4 (σ5 6 4)) := ⟨_, rfl⟩
  replace hf := s_lt_at eσ6 hf
  replace hP : va_P G vwCl ((s_WC cy ad sh) σ6) H := by rw [eσ6]; exact hP
  refine lv_aload_n hx hb dX1_copyFrom_49 rfl (lv_at hl 0 rfl) ?_
  refine lv_aload_n hx hb dX1_copyFrom_50 rfl (lv_at hl 1 rfl) ?_
  refine va_get (D := G) (ci := 1) (v := .int (σ6 6 5)) (C := RX1) (T := TX1) (N := 8) hx hb hts inkX1 hown hK hP 6 rfl rfl 5 (by decide) (hts _ kw_125) (fun _ h9 => h9) rfl dX1_copyFrom_51 ?_
  refine va_put (D := G) (ci := 1) (v := .int (σ6 6 5)) (ty := .int) (C := RX1) (T := TX1) (N := 8) hx hb hts inkX1 tyX1 tyX1_ok nmX1 hown hK hP (hD _) hS 15 rfl rfl 5 (by decide) (hts _ kw_125) (fun _ h9 => h9) rfl (by decide +kernel) rfl rfl (Nat.le_of_ble_eq_true rfl) dX1_copyFrom_54 (fun H locs hP _ hS => ?_)
  obtain ⟨σ7, eσ7⟩ : ∃ z : Sg, z = (s_up σ6 15 5 (σ6 6 5)) := ⟨_, rfl⟩
  replace hf := s_lt_at eσ7 hf
  replace hP : va_P G vwCl ((s_WC cy ad sh) σ7) H := by rw [eσ7]; exact hP
  refine lv_aload_n hx hb dX1_copyFrom_57 rfl (lv_at hl 0 rfl) ?_
  refine lv_aload_n hx hb dX1_copyFrom_58 rfl (lv_at hl 1 rfl) ?_
  refine va_get (D := G) (ci := 1) (v := .int (σ7 6 6)) (C := RX1) (T := TX1) (N := 8) hx hb hts inkX1 hown hK hP 6 rfl rfl 6 (by decide) (hts _ kw_129) (fun _ h9 => h9) rfl dX1_copyFrom_59 ?_
  refine va_put (D := G) (ci := 1) (v := .int (σ7 6 6)) (ty := .int) (C := RX1) (T := TX1) (N := 8) hx hb hts inkX1 tyX1 tyX1_ok nmX1 hown hK hP (hD _) hS 15 rfl rfl 6 (by decide) (hts _ kw_129) (fun _ h9 => h9) rfl (by decide +kernel) rfl rfl (Nat.le_of_ble_eq_true rfl) dX1_copyFrom_62 (fun H locs hP _ hS => ?_)
  obtain ⟨σ8, eσ8⟩ : ∃ z : Sg, z = (s_up σ7 15 6 (σ7 6 6)) := ⟨_, rfl⟩
  replace hf := s_lt_at eσ8 hf
  replace hP : va_P G vwCl ((s_WC cy ad sh) σ8) H := by rw [eσ8]; exact hP
  refine lv_aload_n hx hb dX1_copyFrom_65 rfl (lv_at hl 0 rfl) ?_
  refine lv_aload_n hx hb dX1_copyFrom_66 rfl (lv_at hl 1 rfl) ?_
  refine va_get (D := G) (ci := 1) (v := .int (σ8 6 7)) (C := RX1) (T := TX1) (N := 8) hx hb hts inkX1 hown hK hP 6 rfl rfl 7 (by decide) (hts _ kw_133) (fun _ h9 => h9) rfl dX1_copyFrom_67 ?_
  refine va_put (D := G) (ci := 1) (v := .int (σ8 6 7)) (ty := .int) (C := RX1) (T := TX1) (N := 8) hx hb hts inkX1 tyX1 tyX1_ok nmX1 hown hK hP (hD _) hS 15 rfl rfl 7 (by decide) (hts _ kw_133) (fun _ h9 => h9) rfl (by decide +kernel) rfl rfl (Nat.le_of_ble_eq_true rfl) dX1_copyFrom_70 (fun H locs hP _ hS => ?_)
  obtain ⟨σ9, eσ9⟩ : ∃ z : Sg, z = (s_up σ8 15 7 (σ8 6 7)) := ⟨_, rfl⟩
  replace hf := s_lt_at eσ9 hf
  replace hP : va_P G vwCl ((s_WC cy ad sh) σ9) H := by rw [eσ9]; exact hP
  have he2 := Option.some.inj hf
  exact W.vret hx hb hr (fun t ht hW => ⟨⟨(), rfl, trivial, s_fin (Wd := (s_WC cy ad sh)) ht he2 hP⟩, hS.F ht⟩) hS.2.2 dX1_copyFrom_73 hlk
theorem kcX1_copyFrom_15_6 {l : Launch} {G : va_G} {cy : Nat → ClassId} {sa : Nat × Nat} {ad : Nat → Nat} {sh : Nat → Option Nat} {sz : Nat} (hI : s_inj ad 19) (σ : Sg) {σe : Sg} (hf : fX1_copyFrom_15_6 σ = some σe) : Met l yX1_copyFrom (kW yX1_copyFrom cX1_copyFrom 2 none) ({ frames := 1, cells := 0, slots := 0, locals := 60 } : Room) (s_P (s_WC cy ad sh) G cy sa ad 19 [.ref (ad 15), .ref (ad 6)] sz σ) (s_Qv (s_WC cy ad sh) G (s_A ad 19 sz) σe) 0 0 (s_A ad 19 sz) := by
  refine s_met (own := RX1) (by decide) rfl hI (Nat.le_of_ble_eq_true rfl) (fun p e s m below meth c ls hsz C hP hl => ?_)
  subst hsz
  exact kX1_copyFrom_15_6 C σ ls _ _ hl hP va_S.rf hf
set_option maxRecDepth 100000 in
set_option maxHeartbeats 4000000 in
theorem kX6_keep_b23 (C : s_X p s m meth c args cX6_keep (some .int) 3 RX6 G cy sa ad 19) (σ : Sg) (x1 : Int32) (y0 : Int32) (ls : Array Slot) (H : Heap) (locs : List Loc) (hl : lv_has ls 3 [(0, .ref (ad 0)), (1, .int x1)]) (hP : va_P G vwCl ((s_WC cy ad sh) σ) H) (hS : va_S (s_A ad 19 s.heap.size) s.heap H locs) (hf : fX6_keep_b23 σ x1 y0 = some (re, σe)) : W p l e ({ frames := 2, cells := 0, slots := 0, locals := 81 } : Room) s m args below meth c H locs 0 0 (MQ below (s_Qi (s_WC cy ad sh) G (s_A ad 19 s.heap.size) re σe) args s 0 0 (s_A ad 19 s.heap.size)) (F0 m 23 ls [.int y0]) := by
  obtain ⟨hx, hb, hr, hml, hown, hts, hlk, hK, hE, hI⟩ := id C
  have hD : ∀ σ : Sg, va_D (s_A ad 19 s.heap.size) ((s_WC cy ad sh) σ) := fun σ => s_D (s_WC_ad cy ad sh σ) hI (fun k hk => Or.inl ⟨k, hk, rfl⟩)
  unfold fX6_keep_b23 at hf
  refine lv_istore_n (lv' := [(2, .int y0), (0, .ref (ad 0)), (1, .int x1)]) hx hb dX6_keep_23 rfl hl (by decide) rfl (fun ls hl => ?_)
  refine lv_aload_n hx hb dX6_keep_24 rfl (lv_at hl 1 rfl) ?_
  refine va_get (D := G) (ci := 6) (v := .ref (ad 12)) (C := RX6) (T := TX6) (N := 9) hx hb hts inkX6 hown hK hP 0 rfl rfl 5 (by decide) (hts _ kw_235) (fun _ h9 => h9) rfl dX6_keep_25 ?_
  refine lv_iload_n hx hb dX6_keep_28 rfl (lv_at hl 2 rfl) ?_
  by_cases c1 : x1 = 0
  · rw [if_pos c1] at hf
    refine va_aldq hx hb hK hP 12 3 rfl rfl (by rw [c1]; unfold vp_in; decide) dX6_keep_29 ?_
    refine W.eq (g2 := F0 m 30 ls [.ref (ad 13)]) (by rw [c1]; rfl) ?_
    refine lv_aload_n hx hb dX6_keep_30 rfl (lv_at hl 1 rfl) ?_
    refine va_get (D := G) (ci := 6) (v := .ref (ad 6)) (C := RX6) (T := TX6) (N := 9) hx hb hts inkX6 hown hK hP 0 rfl rfl 2 (by decide) (hts _ kw_232) (fun _ h9 => h9) rfl dX6_keep_31 ?_
    replace hf := s_bv_some hf
    obtain ⟨σ3, hz4, hf⟩ := hf
    refine s_callv (nn := 1) C (kcX1_copyFrom_13_6 (l := l) (G := G) (cy := cy) (sa := sa) (sh := sh) hI (sz := H.size) σ hz4) gk_X6_85 rfl rfl (by decide +kernel) ⟨Nat.le_of_ble_eq_true rfl, Nat.le_of_ble_eq_true rfl⟩ hP hS (q0 := 13) (ci := 1) rfl rfl rfl (As := [.ref (ad 6)]) (rest := []) rfl rfl hl.1 (Nat.le_of_ble_eq_true rfl) dX6_keep_34 (fun H locs hP hS => ?_)
    refine lv_aload_n hx hb dX6_keep_37 rfl (lv_at hl 1 rfl) ?_
    refine va_get (D := G) (ci := 6) (v := .ref (ad 17)) (C := RX6) (T := TX6) (N := 9) hx hb hts inkX6 hown hK hP 0 rfl rfl 6 (by decide) (hts _ kw_236) (fun _ h9 => h9) rfl dX6_keep_38 ?_
    refine lv_iload_n hx hb dX6_keep_41 rfl (lv_at hl 2 rfl) ?_
    refine lv_iconst (v := 1) hx hb dX6_keep_42 (by decide) ?_
    replace hf := s_gd_some hf
    obtain ⟨g5, hf⟩ := hf
    refine va_zast hx hb hK hP (hD _) hS 17 2 rfl rfl (s_in_of g5) dX6_keep_43 (fun H locs hP _ hS => ?_)
    obtain ⟨σ6, eσ6⟩ : ∃ z : Sg, z = (s_up σ3 17 (Int32.toNatClampNeg x1) (vp_nar .boolean (1 : Int32))) := ⟨_, rfl⟩
    replace hf := s_lt_at eσ6 hf
    replace hP : va_P G vwCl ((s_WC cy ad sh) σ6) H := by rw [eσ6]; exact hP
    refine lv_iload_n hx hb dX6_keep_44 rfl (lv_at hl 0 rfl) ?_
    obtain ⟨he1, he2⟩ := s_ret hf
    exact W.iret hx hb hr (fun t ht hW => ⟨⟨_, (), rfl, he1, s_fin (Wd := (s_WC cy ad sh)) ht he2 hP⟩, hS.F ht⟩) hS.2.2 dX6_keep_45 hlk
  · rw [if_neg c1] at hf
    by_cases c2 : x1 = 1
    · rw [if_pos c2] at hf
      refine va_aldq hx hb hK hP 12 3 rfl rfl (by rw [c2]; unfold vp_in; decide) dX6_keep_29 ?_
      refine W.eq (g2 := F0 m 30 ls [.ref (ad 15)]) (by rw [c2]; rfl) ?_
      refine lv_aload_n hx hb dX6_keep_30 rfl (lv_at hl 1 rfl) ?_
      refine va_get (D := G) (ci := 6) (v := .ref (ad 6)) (C := RX6) (T := TX6) (N := 9) hx hb hts inkX6 hown hK hP 0 rfl rfl 2 (by decide) (hts _ kw_232) (fun _ h9 => h9) rfl dX6_keep_31 ?_
      replace hf := s_bv_some hf
      obtain ⟨σ7, hz8, hf⟩ := hf
      refine s_callv (nn := 1) C (kcX1_copyFrom_15_6 (l := l) (G := G) (cy := cy) (sa := sa) (sh := sh) hI (sz := H.size) σ hz8) gk_X6_85 rfl rfl (by decide +kernel) ⟨Nat.le_of_ble_eq_true rfl, Nat.le_of_ble_eq_true rfl⟩ hP hS (q0 := 15) (ci := 1) rfl rfl rfl (As := [.ref (ad 6)]) (rest := []) rfl rfl hl.1 (Nat.le_of_ble_eq_true rfl) dX6_keep_34 (fun H locs hP hS => ?_)
      refine lv_aload_n hx hb dX6_keep_37 rfl (lv_at hl 1 rfl) ?_
      refine va_get (D := G) (ci := 6) (v := .ref (ad 17)) (C := RX6) (T := TX6) (N := 9) hx hb hts inkX6 hown hK hP 0 rfl rfl 6 (by decide) (hts _ kw_236) (fun _ h9 => h9) rfl dX6_keep_38 ?_
      refine lv_iload_n hx hb dX6_keep_41 rfl (lv_at hl 2 rfl) ?_
      refine lv_iconst (v := 1) hx hb dX6_keep_42 (by decide) ?_
      replace hf := s_gd_some hf
      obtain ⟨g9, hf⟩ := hf
      refine va_zast hx hb hK hP (hD _) hS 17 2 rfl rfl (s_in_of g9) dX6_keep_43 (fun H locs hP _ hS => ?_)
      obtain ⟨σ10, eσ10⟩ : ∃ z : Sg, z = (s_up σ7 17 (Int32.toNatClampNeg x1) (vp_nar .boolean (1 : Int32))) := ⟨_, rfl⟩
      replace hf := s_lt_at eσ10 hf
      replace hP : va_P G vwCl ((s_WC cy ad sh) σ10) H := by rw [eσ10]; exact hP
      refine lv_iload_n hx hb dX6_keep_44 rfl (lv_at hl 0 rfl) ?_
      obtain ⟨he1, he2⟩ := s_ret hf
      exact W.iret hx hb hr (fun t ht hW => ⟨⟨_, (), rfl, he1, s_fin (Wd := (s_WC cy ad sh)) ht he2 hP⟩, hS.F ht⟩) hS.2.2 dX6_keep_45 hlk
    · rw [if_neg c2] at hf
      cases hf
set_option maxRecDepth 100000 in
set_option maxHeartbeats 4000000 in
theorem kX6_keep (C : s_X p s m meth c args cX6_keep (some .int) 3 RX6 G cy sa ad 19) (σ : Sg) (x1 : Int32) (ls : Array Slot) (H : Heap) (locs : List Loc) (hl : lv_has ls 3 [(0, .ref (ad 0)), (1, .int x1)]) (hP : va_P G vwCl ((s_WC cy ad sh) σ) H) (hS : va_S (s_A ad 19 s.heap.size) s.heap H locs) (hf : fX6_keep σ x1 = some (re, σe)) : W p l e ({ frames := 2, cells := 0, slots := 0, locals := 81 } : Room) s m args below meth c H locs 0 0 (MQ below (s_Qi (s_WC cy ad sh) G (s_A ad 19 s.heap.size) re σe) args s 0 0 (s_A ad 19 s.heap.size)) (F0 m 0 ls []) := by
  obtain ⟨hx, hb, hr, hml, hown, hts, hlk, hK, hE, hI⟩ := id C
  have hD : ∀ σ : Sg, va_D (s_A ad 19 s.heap.size) ((s_WC cy ad sh) σ) := fun σ => s_D (s_WC_ad cy ad sh σ) hI (fun k hk => Or.inl ⟨k, hk, rfl⟩)
  unfold fX6_keep at hf
  refine lv_iload_n hx hb dX6_keep_0 rfl (lv_at hl 1 rfl) ?_
  replace hf := s_bi_some hf
  obtain ⟨r3, σ1, hz2, hf⟩ := hf
  refine s_calliS (nn := 1) C (kcX6_isImage (l := l) (G := G) (cy := cy) (sa := sa) (sh := sh) hI (sz := H.size) σ x1 hz2) gk_X6_219 rfl rfl (by decide +kernel) ⟨Nat.le_of_ble_eq_true rfl, Nat.le_of_ble_eq_true rfl⟩ hP hS (As := [.int x1]) (rest := []) rfl rfl hl.1 (Nat.le_of_ble_eq_true rfl) dX6_keep_1 (fun H locs hP hS => ?_)
  refine lv_if_ne (tgt := 9) hx hb dX6_keep_4 (by decide) (fun c4 => ?_) (fun c4 => ?_)
  · rw [if_neg c4] at hf
    refine lv_aload_n hx hb dX6_keep_9 rfl (lv_at hl 0 rfl) ?_
    refine va_get (D := G) (ci := 6) (v := .ref (ad 17)) (C := RX6) (T := TX6) (N := 9) hx hb hts inkX6 hown hK hP 0 rfl rfl 6 (by decide) (hts _ kw_236) (fun _ h9 => h9) rfl dX6_keep_10 ?_
    refine lv_iload_n hx hb dX6_keep_13 rfl (lv_at hl 1 rfl) ?_
    replace hf := s_gd_some hf
    obtain ⟨g5, hf⟩ := hf
    refine va_zald hx hb hK hP 17 2 rfl rfl (s_in_of g5) dX6_keep_14 ?_
    refine lv_if_eq (tgt := 22) hx hb dX6_keep_15 (by decide) (fun c6 => ?_) (fun c6 => ?_)
    · rw [if_pos c6] at hf
      refine lv_iconst (v := 0) hx hb dX6_keep_22 (by decide) ?_
      exact kX6_keep_b23 C σ1 x1 (0 : Int32) _ _ _ (lv_sub hl [0, 1] rfl) hP hS hf
    · rw [if_neg c6] at hf
      refine lv_iconst (v := 1) hx hb dX6_keep_18 (by decide) ?_
      refine lv_goto (tgt := 23) hx hb dX6_keep_19 (by decide) ?_
      exact kX6_keep_b23 C σ1 x1 (1 : Int32) _ _ _ (lv_sub hl [0, 1] rfl) hP hS hf
  · rw [if_pos c4] at hf
    refine lv_iconst (v := -1) hx hb dX6_keep_7 (by decide) ?_
    obtain ⟨he1, he2⟩ := s_ret hf
    exact W.iret hx hb hr (fun t ht hW => ⟨⟨_, (), rfl, he1, s_fin (Wd := (s_WC cy ad sh)) ht he2 hP⟩, hS.F ht⟩) hS.2.2 dX6_keep_8 hlk
theorem kcX6_keep {l : Launch} {G : va_G} {cy : Nat → ClassId} {sa : Nat × Nat} {ad : Nat → Nat} {sh : Nat → Option Nat} {sz : Nat} (hI : s_inj ad 19) (σ : Sg) (x1 : Int32) {re : Int32} {σe : Sg} (hf : fX6_keep σ x1 = some (re, σe)) : Met l yX6_keep (kW yX6_keep cX6_keep 3 (some .int)) ({ frames := 2, cells := 0, slots := 0, locals := 81 } : Room) (s_P (s_WC cy ad sh) G cy sa ad 19 [.ref (ad 0), .int x1] sz σ) (s_Qi (s_WC cy ad sh) G (s_A ad 19 sz) re σe) 0 0 (s_A ad 19 sz) := by
  refine s_met (own := RX6) (by decide) rfl hI (Nat.le_of_ble_eq_true rfl) (fun p e s m below meth c ls hsz C hP hl => ?_)
  subst hsz
  exact kX6_keep C σ x1 ls _ _ hl hP va_S.rf hf
set_option maxRecDepth 100000 in
set_option maxHeartbeats 4000000 in
theorem kX1_copyFrom_6_13 (C : s_X p s m meth c args cX1_copyFrom none 2 RX1 G cy sa ad 19) (σ : Sg) (ls : Array Slot) (H : Heap) (locs : List Loc) (hl : lv_has ls 2 [(0, .ref (ad 6)), (1, .ref (ad 13))]) (hP : va_P G vwCl ((s_WC cy ad sh) σ) H) (hS : va_S (s_A ad 19 s.heap.size) s.heap H locs) (hf : fX1_copyFrom_6_13 σ = some σe) : W p l e ({ frames := 1, cells := 0, slots := 0, locals := 60 } : Room) s m args below meth c H locs 0 0 (MQ below (s_Qv (s_WC cy ad sh) G (s_A ad 19 s.heap.size) σe) args s 0 0 (s_A ad 19 s.heap.size)) (F0 m 0 ls []) := by
  obtain ⟨hx, hb, hr, hml, hown, hts, hlk, hK, hE, hI⟩ := id C
  have hD : ∀ σ : Sg, va_D (s_A ad 19 s.heap.size) ((s_WC cy ad sh) σ) := fun σ => s_D (s_WC_ad cy ad sh σ) hI (fun k hk => Or.inl ⟨k, hk, rfl⟩)
  unfold fX1_copyFrom_6_13 at hf
  refine lv_aload_n hx hb dX1_copyFrom_0 rfl (lv_at hl 1 rfl) ?_
  refine va_get (D := G) (ci := 1) (v := .ref (ad 14)) (C := RX1) (T := TX1) (N := 8) hx hb hts inkX1 hown hK hP 13 rfl rfl 0 (by decide) (hts _ kw_109) (fun _ h9 => h9) rfl dX1_copyFrom_1 ?_
  refine lv_iconst (v := 0) hx hb dX1_copyFrom_4 (by decide) ?_
  refine lv_aload_n hx hb dX1_copyFrom_5 rfl (lv_at hl 0 rfl) ?_
  refine va_get (D := G) (ci := 1) (v := .ref (ad 7)) (C := RX1) (T := TX1) (N := 8) hx hb hts inkX1 hown hK hP 6 rfl rfl 0 (by decide) (hts _ kw_109) (fun _ h9 => h9) rfl dX1_copyFrom_6 ?_
  refine lv_iconst (v := 0) hx hb dX1_copyFrom_9 (by decide) ?_
  refine lv_aload_n hx hb dX1_copyFrom_10 rfl (lv_at hl 1 rfl) ?_
  refine va_get (D := G) (ci := 1) (v := .int (σ 13 1)) (C := RX1) (T := TX1) (N := 8) hx hb hts inkX1 hown hK hP 13 rfl rfl 1 (by decide) (hts _ kw_110) (fun _ h9 => h9) rfl dX1_copyFrom_11 ?_
  replace hf := s_gd_some hf
  obtain ⟨g2, hf⟩ := hf
  obtain ⟨g2a, g2b, g2c, g2d, g2e⟩ := s_cpok_of g2
  refine va_copyi hx hb (hml.trans hl.1.symm) hown (hts _ kw_421) (hts _ kw_423) (hts _ kw_422) (hts _ kw_67) hK hP (hD _) hS 14 7 1 1 rfl rfl rfl rfl rfl g2a g2b g2c g2d g2e (fun _ _ => rfl) (Nat.le_of_ble_eq_true rfl) (by decide +kernel) dX1_copyFrom_14 (fun H locs hP _ hS => ?_)
  obtain ⟨σ1, eσ1⟩ : ∃ z : Sg, z = (s_upr σ 7 (va_cpy (σ 14) (σ 7) (Int32.toNatClampNeg (0 : Int32)) (Int32.toNatClampNeg (0 : Int32)) (Int32.toNatClampNeg (σ 13 1)))) := ⟨_, rfl⟩
  replace hf := s_lt_at eσ1 hf
  replace hP : va_P G vwCl ((s_WC cy ad sh) σ1) H := by rw [eσ1]; exact hP
  refine lv_aload_n hx hb dX1_copyFrom_17 rfl (lv_at hl 0 rfl) ?_
  refine lv_aload_n hx hb dX1_copyFrom_18 rfl (lv_at hl 1 rfl) ?_
  refine va_get (D := G) (ci := 1) (v := .int (σ1 13 1)) (C := RX1) (T := TX1) (N := 8) hx hb hts inkX1 hown hK hP 13 rfl rfl 1 (by decide) (hts _ kw_110) (fun _ h9 => h9) rfl dX1_copyFrom_19 ?_
  refine va_put (D := G) (ci := 1) (v := .int (σ1 13 1)) (ty := .int) (C := RX1) (T := TX1) (N := 8) hx hb hts inkX1 tyX1 tyX1_ok nmX1 hown hK hP (hD _) hS 6 rfl rfl 1 (by decide) (hts _ kw_110) (fun _ h9 => h9) rfl (by decide +kernel) rfl rfl (Nat.le_of_ble_eq_true rfl) dX1_copyFrom_22 (fun H locs hP _ hS => ?_)
  obtain ⟨σ3, eσ3⟩ : ∃ z : Sg, z = (s_up σ1 6 1 (σ1 13 1)) := ⟨_, rfl⟩
  replace hf := s_lt_at eσ3 hf
  replace hP : va_P G vwCl ((s_WC cy ad sh) σ3) H := by rw [eσ3]; exact hP
  refine lv_aload_n hx hb dX1_copyFrom_25 rfl (lv_at hl 0 rfl) ?_
  refine lv_aload_n hx hb dX1_copyFrom_26 rfl (lv_at hl 1 rfl) ?_
  refine va_get (D := G) (ci := 1) (v := .int (σ3 13 2)) (C := RX1) (T := TX1) (N := 8) hx hb hts inkX1 hown hK hP 13 rfl rfl 2 (by decide) (hts _ kw_113) (fun _ h9 => h9) rfl dX1_copyFrom_27 ?_
  refine va_put (D := G) (ci := 1) (v := .int (σ3 13 2)) (ty := .int) (C := RX1) (T := TX1) (N := 8) hx hb hts inkX1 tyX1 tyX1_ok nmX1 hown hK hP (hD _) hS 6 rfl rfl 2 (by decide) (hts _ kw_113) (fun _ h9 => h9) rfl (by decide +kernel) rfl rfl (Nat.le_of_ble_eq_true rfl) dX1_copyFrom_30 (fun H locs hP _ hS => ?_)
  obtain ⟨σ4, eσ4⟩ : ∃ z : Sg, z = (s_up σ3 6 2 (σ3 13 2)) := ⟨_, rfl⟩
  replace hf := s_lt_at eσ4 hf
  replace hP : va_P G vwCl ((s_WC cy ad sh) σ4) H := by rw [eσ4]; exact hP
  refine lv_aload_n hx hb dX1_copyFrom_33 rfl (lv_at hl 0 rfl) ?_
  refine lv_aload_n hx hb dX1_copyFrom_34 rfl (lv_at hl 1 rfl) ?_
  refine va_get (D := G) (ci := 1) (v := .int (σ4 13 3)) (C := RX1) (T := TX1) (N := 8) hx hb hts inkX1 hown hK hP 13 rfl rfl 3 (by decide) (hts _ kw_117) (fun _ h9 => h9) rfl dX1_copyFrom_35 ?_
  refine va_put (D := G) (ci := 1) (v := .int (σ4 13 3)) (ty := .int) (C := RX1) (T := TX1) (N := 8) hx hb hts inkX1 tyX1 tyX1_ok nmX1 hown hK hP (hD _) hS 6 rfl rfl 3 (by decide) (hts _ kw_117) (fun _ h9 => h9) rfl (by decide +kernel) rfl rfl (Nat.le_of_ble_eq_true rfl) dX1_copyFrom_38 (fun H locs hP _ hS => ?_)
  obtain ⟨σ5, eσ5⟩ : ∃ z : Sg, z = (s_up σ4 6 3 (σ4 13 3)) := ⟨_, rfl⟩
  replace hf := s_lt_at eσ5 hf
  replace hP : va_P G vwCl ((s_WC cy ad sh) σ5) H := by rw [eσ5]; exact hP
  refine lv_aload_n hx hb dX1_copyFrom_41 rfl (lv_at hl 0 rfl) ?_
  refine lv_aload_n hx hb dX1_copyFrom_42 rfl (lv_at hl 1 rfl) ?_
  refine va_get (D := G) (ci := 1) (v := .int (σ5 13 4)) (C := RX1) (T := TX1) (N := 8) hx hb hts inkX1 hown hK hP 13 rfl rfl 4 (by decide) (hts _ kw_121) (fun _ h9 => h9) rfl dX1_copyFrom_43 ?_
  refine va_put (D := G) (ci := 1) (v := .int (σ5 13 4)) (ty := .int) (C := RX1) (T := TX1) (N := 8) hx hb hts inkX1 tyX1 tyX1_ok nmX1 hown hK hP (hD _) hS 6 rfl rfl 4 (by decide) (hts _ kw_121) (fun _ h9 => h9) rfl (by decide +kernel) rfl rfl (Nat.le_of_ble_eq_true rfl) dX1_copyFrom_46 (fun H locs hP _ hS => ?_)
  obtain ⟨σ6, eσ6⟩ : ∃ z : Sg, z = (s_up σ5 6 4 (σ5 13 4)) := ⟨_, rfl⟩
  replace hf := s_lt_at eσ6 hf
  replace hP : va_P G vwCl ((s_WC cy ad sh) σ6) H := by rw [eσ6]; exact hP
  refine lv_aload_n hx hb dX1_copyFrom_49 rfl (lv_at hl 0 rfl) ?_
  refine lv_aload_n hx hb dX1_copyFrom_50 rfl (lv_at hl 1 rfl) ?_
  refine va_get (D := G) (ci := 1) (v := .int (σ6 13 5)) (C := RX1) (T := TX1) (N := 8) hx hb hts inkX1 hown hK hP 13 rfl rfl 5 (by decide) (hts _ kw_125) (fun _ h9 => h9) rfl dX1_copyFrom_51 ?_
  refine va_put (D := G) (ci := 1) (v := .int (σ6 13 5)) (ty := .int) (C := RX1) (T := TX1) (N := 8) hx hb hts inkX1 tyX1 tyX1_ok nmX1 hown hK hP (hD _) hS 6 rfl rfl 5 (by decide) (hts _ kw_125) (fun _ h9 => h9) rfl (by decide +kernel) rfl rfl (Nat.le_of_ble_eq_true rfl) dX1_copyFrom_54 (fun H locs hP _ hS => ?_)
  obtain ⟨σ7, eσ7⟩ : ∃ z : Sg, z = (s_up σ6 6 5 (σ6 13 5)) := ⟨_, rfl⟩
  replace hf := s_lt_at eσ7 hf
  replace hP : va_P G vwCl ((s_WC cy ad sh) σ7) H := by rw [eσ7]; exact hP
  refine lv_aload_n hx hb dX1_copyFrom_57 rfl (lv_at hl 0 rfl) ?_
  refine lv_aload_n hx hb dX1_copyFrom_58 rfl (lv_at hl 1 rfl) ?_
  refine va_get (D := G) (ci := 1) (v := .int (σ7 13 6)) (C := RX1) (T := TX1) (N := 8) hx hb hts inkX1 hown hK hP 13 rfl rfl 6 (by decide) (hts _ kw_129) (fun _ h9 => h9) rfl dX1_copyFrom_59 ?_
  refine va_put (D := G) (ci := 1) (v := .int (σ7 13 6)) (ty := .int) (C := RX1) (T := TX1) (N := 8) hx hb hts inkX1 tyX1 tyX1_ok nmX1 hown hK hP (hD _) hS 6 rfl rfl 6 (by decide) (hts _ kw_129) (fun _ h9 => h9) rfl (by decide +kernel) rfl rfl (Nat.le_of_ble_eq_true rfl) dX1_copyFrom_62 (fun H locs hP _ hS => ?_)
  obtain ⟨σ8, eσ8⟩ : ∃ z : Sg, z = (s_up σ7 6 6 (σ7 13 6)) := ⟨_, rfl⟩
  replace hf := s_lt_at eσ8 hf
  replace hP : va_P G vwCl ((s_WC cy ad sh) σ8) H := by rw [eσ8]; exact hP
  refine lv_aload_n hx hb dX1_copyFrom_65 rfl (lv_at hl 0 rfl) ?_
  refine lv_aload_n hx hb dX1_copyFrom_66 rfl (lv_at hl 1 rfl) ?_
  refine va_get (D := G) (ci := 1) (v := .int (σ8 13 7)) (C := RX1) (T := TX1) (N := 8) hx hb hts inkX1 hown hK hP 13 rfl rfl 7 (by decide) (hts _ kw_133) (fun _ h9 => h9) rfl dX1_copyFrom_67 ?_
  refine va_put (D := G) (ci := 1) (v := .int (σ8 13 7)) (ty := .int) (C := RX1) (T := TX1) (N := 8) hx hb hts inkX1 tyX1 tyX1_ok nmX1 hown hK hP (hD _) hS 6 rfl rfl 7 (by decide) (hts _ kw_133) (fun _ h9 => h9) rfl (by decide +kernel) rfl rfl (Nat.le_of_ble_eq_true rfl) dX1_copyFrom_70 (fun H locs hP _ hS => ?_)
  obtain ⟨σ9, eσ9⟩ : ∃ z : Sg, z = (s_up σ8 6 7 (σ8 13 7)) := ⟨_, rfl⟩
  replace hf := s_lt_at eσ9 hf
  replace hP : va_P G vwCl ((s_WC cy ad sh) σ9) H := by rw [eσ9]; exact hP
  have he2 := Option.some.inj hf
  exact W.vret hx hb hr (fun t ht hW => ⟨⟨(), rfl, trivial, s_fin (Wd := (s_WC cy ad sh)) ht he2 hP⟩, hS.F ht⟩) hS.2.2 dX1_copyFrom_73 hlk
theorem kcX1_copyFrom_6_13 {l : Launch} {G : va_G} {cy : Nat → ClassId} {sa : Nat × Nat} {ad : Nat → Nat} {sh : Nat → Option Nat} {sz : Nat} (hI : s_inj ad 19) (σ : Sg) {σe : Sg} (hf : fX1_copyFrom_6_13 σ = some σe) : Met l yX1_copyFrom (kW yX1_copyFrom cX1_copyFrom 2 none) ({ frames := 1, cells := 0, slots := 0, locals := 60 } : Room) (s_P (s_WC cy ad sh) G cy sa ad 19 [.ref (ad 6), .ref (ad 13)] sz σ) (s_Qv (s_WC cy ad sh) G (s_A ad 19 sz) σe) 0 0 (s_A ad 19 sz) := by
  refine s_met (own := RX1) (by decide) rfl hI (Nat.le_of_ble_eq_true rfl) (fun p e s m below meth c ls hsz C hP hl => ?_)
  subst hsz
  exact kX1_copyFrom_6_13 C σ ls _ _ hl hP va_S.rf hf
set_option maxRecDepth 100000 in
set_option maxHeartbeats 4000000 in
theorem kX1_copyFrom_6_15 (C : s_X p s m meth c args cX1_copyFrom none 2 RX1 G cy sa ad 19) (σ : Sg) (ls : Array Slot) (H : Heap) (locs : List Loc) (hl : lv_has ls 2 [(0, .ref (ad 6)), (1, .ref (ad 15))]) (hP : va_P G vwCl ((s_WC cy ad sh) σ) H) (hS : va_S (s_A ad 19 s.heap.size) s.heap H locs) (hf : fX1_copyFrom_6_15 σ = some σe) : W p l e ({ frames := 1, cells := 0, slots := 0, locals := 60 } : Room) s m args below meth c H locs 0 0 (MQ below (s_Qv (s_WC cy ad sh) G (s_A ad 19 s.heap.size) σe) args s 0 0 (s_A ad 19 s.heap.size)) (F0 m 0 ls []) := by
  obtain ⟨hx, hb, hr, hml, hown, hts, hlk, hK, hE, hI⟩ := id C
  have hD : ∀ σ : Sg, va_D (s_A ad 19 s.heap.size) ((s_WC cy ad sh) σ) := fun σ => s_D (s_WC_ad cy ad sh σ) hI (fun k hk => Or.inl ⟨k, hk, rfl⟩)
  unfold fX1_copyFrom_6_15 at hf
  refine lv_aload_n hx hb dX1_copyFrom_0 rfl (lv_at hl 1 rfl) ?_
  refine va_get (D := G) (ci := 1) (v := .ref (ad 16)) (C := RX1) (T := TX1) (N := 8) hx hb hts inkX1 hown hK hP 15 rfl rfl 0 (by decide) (hts _ kw_109) (fun _ h9 => h9) rfl dX1_copyFrom_1 ?_
  refine lv_iconst (v := 0) hx hb dX1_copyFrom_4 (by decide) ?_
  refine lv_aload_n hx hb dX1_copyFrom_5 rfl (lv_at hl 0 rfl) ?_
  refine va_get (D := G) (ci := 1) (v := .ref (ad 7)) (C := RX1) (T := TX1) (N := 8) hx hb hts inkX1 hown hK hP 6 rfl rfl 0 (by decide) (hts _ kw_109) (fun _ h9 => h9) rfl dX1_copyFrom_6 ?_
  refine lv_iconst (v := 0) hx hb dX1_copyFrom_9 (by decide) ?_
  refine lv_aload_n hx hb dX1_copyFrom_10 rfl (lv_at hl 1 rfl) ?_
  refine va_get (D := G) (ci := 1) (v := .int (σ 15 1)) (C := RX1) (T := TX1) (N := 8) hx hb hts inkX1 hown hK hP 15 rfl rfl 1 (by decide) (hts _ kw_110) (fun _ h9 => h9) rfl dX1_copyFrom_11 ?_
  replace hf := s_gd_some hf
  obtain ⟨g2, hf⟩ := hf
  obtain ⟨g2a, g2b, g2c, g2d, g2e⟩ := s_cpok_of g2
  refine va_copyi hx hb (hml.trans hl.1.symm) hown (hts _ kw_421) (hts _ kw_423) (hts _ kw_422) (hts _ kw_67) hK hP (hD _) hS 16 7 1 1 rfl rfl rfl rfl rfl g2a g2b g2c g2d g2e (fun _ _ => rfl) (Nat.le_of_ble_eq_true rfl) (by decide +kernel) dX1_copyFrom_14 (fun H locs hP _ hS => ?_)
  obtain ⟨σ1, eσ1⟩ : ∃ z : Sg, z = (s_upr σ 7 (va_cpy (σ 16) (σ 7) (Int32.toNatClampNeg (0 : Int32)) (Int32.toNatClampNeg (0 : Int32)) (Int32.toNatClampNeg (σ 15 1)))) := ⟨_, rfl⟩
  replace hf := s_lt_at eσ1 hf
  replace hP : va_P G vwCl ((s_WC cy ad sh) σ1) H := by rw [eσ1]; exact hP
  refine lv_aload_n hx hb dX1_copyFrom_17 rfl (lv_at hl 0 rfl) ?_
  refine lv_aload_n hx hb dX1_copyFrom_18 rfl (lv_at hl 1 rfl) ?_
  refine va_get (D := G) (ci := 1) (v := .int (σ1 15 1)) (C := RX1) (T := TX1) (N := 8) hx hb hts inkX1 hown hK hP 15 rfl rfl 1 (by decide) (hts _ kw_110) (fun _ h9 => h9) rfl dX1_copyFrom_19 ?_
  refine va_put (D := G) (ci := 1) (v := .int (σ1 15 1)) (ty := .int) (C := RX1) (T := TX1) (N := 8) hx hb hts inkX1 tyX1 tyX1_ok nmX1 hown hK hP (hD _) hS 6 rfl rfl 1 (by decide) (hts _ kw_110) (fun _ h9 => h9) rfl (by decide +kernel) rfl rfl (Nat.le_of_ble_eq_true rfl) dX1_copyFrom_22 (fun H locs hP _ hS => ?_)
  obtain ⟨σ3, eσ3⟩ : ∃ z : Sg, z = (s_up σ1 6 1 (σ1 15 1)) := ⟨_, rfl⟩
  replace hf := s_lt_at eσ3 hf
  replace hP : va_P G vwCl ((s_WC cy ad sh) σ3) H := by rw [eσ3]; exact hP
  refine lv_aload_n hx hb dX1_copyFrom_25 rfl (lv_at hl 0 rfl) ?_
  refine lv_aload_n hx hb dX1_copyFrom_26 rfl (lv_at hl 1 rfl) ?_
  refine va_get (D := G) (ci := 1) (v := .int (σ3 15 2)) (C := RX1) (T := TX1) (N := 8) hx hb hts inkX1 hown hK hP 15 rfl rfl 2 (by decide) (hts _ kw_113) (fun _ h9 => h9) rfl dX1_copyFrom_27 ?_
  refine va_put (D := G) (ci := 1) (v := .int (σ3 15 2)) (ty := .int) (C := RX1) (T := TX1) (N := 8) hx hb hts inkX1 tyX1 tyX1_ok nmX1 hown hK hP (hD _) hS 6 rfl rfl 2 (by decide) (hts _ kw_113) (fun _ h9 => h9) rfl (by decide +kernel) rfl rfl (Nat.le_of_ble_eq_true rfl) dX1_copyFrom_30 (fun H locs hP _ hS => ?_)
  obtain ⟨σ4, eσ4⟩ : ∃ z : Sg, z = (s_up σ3 6 2 (σ3 15 2)) := ⟨_, rfl⟩
  replace hf := s_lt_at eσ4 hf
  replace hP : va_P G vwCl ((s_WC cy ad sh) σ4) H := by rw [eσ4]; exact hP
  refine lv_aload_n hx hb dX1_copyFrom_33 rfl (lv_at hl 0 rfl) ?_
  refine lv_aload_n hx hb dX1_copyFrom_34 rfl (lv_at hl 1 rfl) ?_
  refine va_get (D := G) (ci := 1) (v := .int (σ4 15 3)) (C := RX1) (T := TX1) (N := 8) hx hb hts inkX1 hown hK hP 15 rfl rfl 3 (by decide) (hts _ kw_117) (fun _ h9 => h9) rfl dX1_copyFrom_35 ?_
  refine va_put (D := G) (ci := 1) (v := .int (σ4 15 3)) (ty := .int) (C := RX1) (T := TX1) (N := 8) hx hb hts inkX1 tyX1 tyX1_ok nmX1 hown hK hP (hD _) hS 6 rfl rfl 3 (by decide) (hts _ kw_117) (fun _ h9 => h9) rfl (by decide +kernel) rfl rfl (Nat.le_of_ble_eq_true rfl) dX1_copyFrom_38 (fun H locs hP _ hS => ?_)
  obtain ⟨σ5, eσ5⟩ : ∃ z : Sg, z = (s_up σ4 6 3 (σ4 15 3)) := ⟨_, rfl⟩
  replace hf := s_lt_at eσ5 hf
  replace hP : va_P G vwCl ((s_WC cy ad sh) σ5) H := by rw [eσ5]; exact hP
  refine lv_aload_n hx hb dX1_copyFrom_41 rfl (lv_at hl 0 rfl) ?_
  refine lv_aload_n hx hb dX1_copyFrom_42 rfl (lv_at hl 1 rfl) ?_
  refine va_get (D := G) (ci := 1) (v := .int (σ5 15 4)) (C := RX1) (T := TX1) (N := 8) hx hb hts inkX1 hown hK hP 15 rfl rfl 4 (by decide) (hts _ kw_121) (fun _ h9 => h9) rfl dX1_copyFrom_43 ?_
  refine va_put (D := G) (ci := 1) (v := .int (σ5 15 4)) (ty := .int) (C := RX1) (T := TX1) (N := 8) hx hb hts inkX1 tyX1 tyX1_ok nmX1 hown hK hP (hD _) hS 6 rfl rfl 4 (by decide) (hts _ kw_121) (fun _ h9 => h9) rfl (by decide +kernel) rfl rfl (Nat.le_of_ble_eq_true rfl) dX1_copyFrom_46 (fun H locs hP _ hS => ?_)
  obtain ⟨σ6, eσ6⟩ : ∃ z : Sg, z = (s_up σ5 6 4 (σ5 15 4)) := ⟨_, rfl⟩
  replace hf := s_lt_at eσ6 hf
  replace hP : va_P G vwCl ((s_WC cy ad sh) σ6) H := by rw [eσ6]; exact hP
  refine lv_aload_n hx hb dX1_copyFrom_49 rfl (lv_at hl 0 rfl) ?_
  refine lv_aload_n hx hb dX1_copyFrom_50 rfl (lv_at hl 1 rfl) ?_
  refine va_get (D := G) (ci := 1) (v := .int (σ6 15 5)) (C := RX1) (T := TX1) (N := 8) hx hb hts inkX1 hown hK hP 15 rfl rfl 5 (by decide) (hts _ kw_125) (fun _ h9 => h9) rfl dX1_copyFrom_51 ?_
  refine va_put (D := G) (ci := 1) (v := .int (σ6 15 5)) (ty := .int) (C := RX1) (T := TX1) (N := 8) hx hb hts inkX1 tyX1 tyX1_ok nmX1 hown hK hP (hD _) hS 6 rfl rfl 5 (by decide) (hts _ kw_125) (fun _ h9 => h9) rfl (by decide +kernel) rfl rfl (Nat.le_of_ble_eq_true rfl) dX1_copyFrom_54 (fun H locs hP _ hS => ?_)
  obtain ⟨σ7, eσ7⟩ : ∃ z : Sg, z = (s_up σ6 6 5 (σ6 15 5)) := ⟨_, rfl⟩
  replace hf := s_lt_at eσ7 hf
  replace hP : va_P G vwCl ((s_WC cy ad sh) σ7) H := by rw [eσ7]; exact hP
  refine lv_aload_n hx hb dX1_copyFrom_57 rfl (lv_at hl 0 rfl) ?_
  refine lv_aload_n hx hb dX1_copyFrom_58 rfl (lv_at hl 1 rfl) ?_
  refine va_get (D := G) (ci := 1) (v := .int (σ7 15 6)) (C := RX1) (T := TX1) (N := 8) hx hb hts inkX1 hown hK hP 15 rfl rfl 6 (by decide) (hts _ kw_129) (fun _ h9 => h9) rfl dX1_copyFrom_59 ?_
  refine va_put (D := G) (ci := 1) (v := .int (σ7 15 6)) (ty := .int) (C := RX1) (T := TX1) (N := 8) hx hb hts inkX1 tyX1 tyX1_ok nmX1 hown hK hP (hD _) hS 6 rfl rfl 6 (by decide) (hts _ kw_129) (fun _ h9 => h9) rfl (by decide +kernel) rfl rfl (Nat.le_of_ble_eq_true rfl) dX1_copyFrom_62 (fun H locs hP _ hS => ?_)
  obtain ⟨σ8, eσ8⟩ : ∃ z : Sg, z = (s_up σ7 6 6 (σ7 15 6)) := ⟨_, rfl⟩
  replace hf := s_lt_at eσ8 hf
  replace hP : va_P G vwCl ((s_WC cy ad sh) σ8) H := by rw [eσ8]; exact hP
  refine lv_aload_n hx hb dX1_copyFrom_65 rfl (lv_at hl 0 rfl) ?_
  refine lv_aload_n hx hb dX1_copyFrom_66 rfl (lv_at hl 1 rfl) ?_
  refine va_get (D := G) (ci := 1) (v := .int (σ8 15 7)) (C := RX1) (T := TX1) (N := 8) hx hb hts inkX1 hown hK hP 15 rfl rfl 7 (by decide) (hts _ kw_133) (fun _ h9 => h9) rfl dX1_copyFrom_67 ?_
  refine va_put (D := G) (ci := 1) (v := .int (σ8 15 7)) (ty := .int) (C := RX1) (T := TX1) (N := 8) hx hb hts inkX1 tyX1 tyX1_ok nmX1 hown hK hP (hD _) hS 6 rfl rfl 7 (by decide) (hts _ kw_133) (fun _ h9 => h9) rfl (by decide +kernel) rfl rfl (Nat.le_of_ble_eq_true rfl) dX1_copyFrom_70 (fun H locs hP _ hS => ?_)
  obtain ⟨σ9, eσ9⟩ : ∃ z : Sg, z = (s_up σ8 6 7 (σ8 15 7)) := ⟨_, rfl⟩
  replace hf := s_lt_at eσ9 hf
  replace hP : va_P G vwCl ((s_WC cy ad sh) σ9) H := by rw [eσ9]; exact hP
  have he2 := Option.some.inj hf
  exact W.vret hx hb hr (fun t ht hW => ⟨⟨(), rfl, trivial, s_fin (Wd := (s_WC cy ad sh)) ht he2 hP⟩, hS.F ht⟩) hS.2.2 dX1_copyFrom_73 hlk
theorem kcX1_copyFrom_6_15 {l : Launch} {G : va_G} {cy : Nat → ClassId} {sa : Nat × Nat} {ad : Nat → Nat} {sh : Nat → Option Nat} {sz : Nat} (hI : s_inj ad 19) (σ : Sg) {σe : Sg} (hf : fX1_copyFrom_6_15 σ = some σe) : Met l yX1_copyFrom (kW yX1_copyFrom cX1_copyFrom 2 none) ({ frames := 1, cells := 0, slots := 0, locals := 60 } : Room) (s_P (s_WC cy ad sh) G cy sa ad 19 [.ref (ad 6), .ref (ad 15)] sz σ) (s_Qv (s_WC cy ad sh) G (s_A ad 19 sz) σe) 0 0 (s_A ad 19 sz) := by
  refine s_met (own := RX1) (by decide) rfl hI (Nat.le_of_ble_eq_true rfl) (fun p e s m below meth c ls hsz C hP hl => ?_)
  subst hsz
  exact kX1_copyFrom_6_15 C σ ls _ _ hl hP va_S.rf hf
set_option maxRecDepth 100000 in
set_option maxHeartbeats 4000000 in
theorem kX6_back (C : s_X p s m meth c args cX6_back (some .int) 2 RX6 G cy sa ad 19) (σ : Sg) (x1 : Int32) (ls : Array Slot) (H : Heap) (locs : List Loc) (hl : lv_has ls 2 [(0, .ref (ad 0)), (1, .int x1)]) (hP : va_P G vwCl ((s_WC cy ad sh) σ) H) (hS : va_S (s_A ad 19 s.heap.size) s.heap H locs) (hf : fX6_back σ x1 = some (re, σe)) : W p l e ({ frames := 2, cells := 0, slots := 0, locals := 81 } : Room) s m args below meth c H locs 0 0 (MQ below (s_Qi (s_WC cy ad sh) G (s_A ad 19 s.heap.size) re σe) args s 0 0 (s_A ad 19 s.heap.size)) (F0 m 0 ls []) := by
  obtain ⟨hx, hb, hr, hml, hown, hts, hlk, hK, hE, hI⟩ := id C
  have hD : ∀ σ : Sg, va_D (s_A ad 19 s.heap.size) ((s_WC cy ad sh) σ) := fun σ => s_D (s_WC_ad cy ad sh σ) hI (fun k hk => Or.inl ⟨k, hk, rfl⟩)
  unfold fX6_back at hf
  refine lv_iload_n hx hb dX6_back_0 rfl (lv_at hl 1 rfl) ?_
  replace hf := s_bi_some hf
  obtain ⟨r3, σ1, hz2, hf⟩ := hf
  refine s_calliS (nn := 1) C (kcX6_isImage (l := l) (G := G) (cy := cy) (sa := sa) (sh := sh) hI (sz := H.size) σ x1 hz2) gk_X6_219 rfl rfl (by decide +kernel) ⟨Nat.le_of_ble_eq_true rfl, Nat.le_of_ble_eq_true rfl⟩ hP hS (As := [.int x1]) (rest := []) rfl rfl hl.1 (Nat.le_of_ble_eq_true rfl) dX6_back_1 (fun H locs hP hS => ?_)
  refine lv_if_ne (tgt := 9) hx hb dX6_back_4 (by decide) (fun c4 => ?_) (fun c4 => ?_)
  · rw [if_neg c4] at hf
    refine lv_aload_n hx hb dX6_back_9 rfl (lv_at hl 0 rfl) ?_
    refine va_get (D := G) (ci := 6) (v := .ref (ad 17)) (C := RX6) (T := TX6) (N := 9) hx hb hts inkX6 hown hK hP 0 rfl rfl 6 (by decide) (hts _ kw_236) (fun _ h9 => h9) rfl dX6_back_10 ?_
    refine lv_iload_n hx hb dX6_back_13 rfl (lv_at hl 1 rfl) ?_
    replace hf := s_gd_some hf
    obtain ⟨g5, hf⟩ := hf
    refine va_zald hx hb hK hP 17 2 rfl rfl (s_in_of g5) dX6_back_14 ?_
    refine lv_if_ne (tgt := 21) hx hb dX6_back_15 (by decide) (fun c6 => ?_) (fun c6 => ?_)
    · rw [if_neg c6] at hf
      refine lv_aload_n hx hb dX6_back_21 rfl (lv_at hl 0 rfl) ?_
      refine va_get (D := G) (ci := 6) (v := .ref (ad 6)) (C := RX6) (T := TX6) (N := 9) hx hb hts inkX6 hown hK hP 0 rfl rfl 2 (by decide) (hts _ kw_232) (fun _ h9 => h9) rfl dX6_back_22 ?_
      refine lv_aload_n hx hb dX6_back_25 rfl (lv_at hl 0 rfl) ?_
      refine va_get (D := G) (ci := 6) (v := .ref (ad 12)) (C := RX6) (T := TX6) (N := 9) hx hb hts inkX6 hown hK hP 0 rfl rfl 5 (by decide) (hts _ kw_235) (fun _ h9 => h9) rfl dX6_back_26 ?_
      refine lv_iload_n hx hb dX6_back_29 rfl (lv_at hl 1 rfl) ?_
      by_cases c7 : x1 = 0
      · rw [if_pos c7] at hf
        refine va_aldq hx hb hK hP 12 3 rfl rfl (by rw [c7]; unfold vp_in; decide) dX6_back_30 ?_
        refine W.eq (g2 := F0 m 31 ls [.ref (ad 13), .ref (ad 6)]) (by rw [c7]; rfl) ?_
        replace hf := s_bv_some hf
        obtain ⟨σ9, hz10, hf⟩ := hf
        refine s_callv (nn := 1) C (kcX1_copyFrom_6_13 (l := l) (G := G) (cy := cy) (sa := sa) (sh := sh) hI (sz := H.size) σ1 hz10) gk_X6_85 rfl rfl (by decide +kernel) ⟨Nat.le_of_ble_eq_true rfl, Nat.le_of_ble_eq_true rfl⟩ hP hS (q0 := 6) (ci := 1) rfl rfl rfl (As := [.ref (ad 13)]) (rest := []) rfl rfl hl.1 (Nat.le_of_ble_eq_true rfl) dX6_back_31 (fun H locs hP hS => ?_)
        refine lv_aload_n hx hb dX6_back_34 rfl (lv_at hl 0 rfl) ?_
        refine va_get (D := G) (ci := 6) (v := .ref (ad 6)) (C := RX6) (T := TX6) (N := 9) hx hb hts inkX6 hown hK hP 0 rfl rfl 2 (by decide) (hts _ kw_232) (fun _ h9 => h9) rfl dX6_back_35 ?_
        refine va_getN (D := G) (ci := 1) (v := .int (σ9 6 1)) (C := RX1) (T := TX1) (N := 8) hx hb hts inkX1 hown hK hP 6 rfl rfl 1 (by decide) (kn_X6_88 hE) (fun _ h9 => h9) rfl dX6_back_38 ?_
        obtain ⟨he1, he2⟩ := s_ret hf
        exact W.iret hx hb hr (fun t ht hW => ⟨⟨_, (), rfl, he1, s_fin (Wd := (s_WC cy ad sh)) ht he2 hP⟩, hS.F ht⟩) hS.2.2 dX6_back_41 hlk
      · rw [if_neg c7] at hf
        by_cases c8 : x1 = 1
        · rw [if_pos c8] at hf
          refine va_aldq hx hb hK hP 12 3 rfl rfl (by rw [c8]; unfold vp_in; decide) dX6_back_30 ?_
          refine W.eq (g2 := F0 m 31 ls [.ref (ad 15), .ref (ad 6)]) (by rw [c8]; rfl) ?_
          replace hf := s_bv_some hf
          obtain ⟨σ11, hz12, hf⟩ := hf
          refine s_callv (nn := 1) C (kcX1_copyFrom_6_15 (l := l) (G := G) (cy := cy) (sa := sa) (sh := sh) hI (sz := H.size) σ1 hz12) gk_X6_85 rfl rfl (by decide +kernel) ⟨Nat.le_of_ble_eq_true rfl, Nat.le_of_ble_eq_true rfl⟩ hP hS (q0 := 6) (ci := 1) rfl rfl rfl (As := [.ref (ad 15)]) (rest := []) rfl rfl hl.1 (Nat.le_of_ble_eq_true rfl) dX6_back_31 (fun H locs hP hS => ?_)
          refine lv_aload_n hx hb dX6_back_34 rfl (lv_at hl 0 rfl) ?_
          refine va_get (D := G) (ci := 6) (v := .ref (ad 6)) (C := RX6) (T := TX6) (N := 9) hx hb hts inkX6 hown hK hP 0 rfl rfl 2 (by decide) (hts _ kw_232) (fun _ h9 => h9) rfl dX6_back_35 ?_
          refine va_getN (D := G) (ci := 1) (v := .int (σ11 6 1)) (C := RX1) (T := TX1) (N := 8) hx hb hts inkX1 hown hK hP 6 rfl rfl 1 (by decide) (kn_X6_88 hE) (fun _ h9 => h9) rfl dX6_back_38 ?_
          obtain ⟨he1, he2⟩ := s_ret hf
          exact W.iret hx hb hr (fun t ht hW => ⟨⟨_, (), rfl, he1, s_fin (Wd := (s_WC cy ad sh)) ht he2 hP⟩, hS.F ht⟩) hS.2.2 dX6_back_41 hlk
        · rw [if_neg c8] at hf
          cases hf
    · rw [if_pos c6] at hf
      refine lv_bipush (v := -2) hx hb dX6_back_18 (by decide) ?_
      obtain ⟨he1, he2⟩ := s_ret hf
      exact W.iret hx hb hr (fun t ht hW => ⟨⟨_, (), rfl, he1, s_fin (Wd := (s_WC cy ad sh)) ht he2 hP⟩, hS.F ht⟩) hS.2.2 dX6_back_20 hlk
  · rw [if_pos c4] at hf
    refine lv_iconst (v := -1) hx hb dX6_back_7 (by decide) ?_
    obtain ⟨he1, he2⟩ := s_ret hf
    exact W.iret hx hb hr (fun t ht hW => ⟨⟨_, (), rfl, he1, s_fin (Wd := (s_WC cy ad sh)) ht he2 hP⟩, hS.F ht⟩) hS.2.2 dX6_back_8 hlk
theorem kcX6_back {l : Launch} {G : va_G} {cy : Nat → ClassId} {sa : Nat × Nat} {ad : Nat → Nat} {sh : Nat → Option Nat} {sz : Nat} (hI : s_inj ad 19) (σ : Sg) (x1 : Int32) {re : Int32} {σe : Sg} (hf : fX6_back σ x1 = some (re, σe)) : Met l yX6_back (kW yX6_back cX6_back 2 (some .int)) ({ frames := 2, cells := 0, slots := 0, locals := 81 } : Room) (s_P (s_WC cy ad sh) G cy sa ad 19 [.ref (ad 0), .int x1] sz σ) (s_Qi (s_WC cy ad sh) G (s_A ad 19 sz) re σe) 0 0 (s_A ad 19 sz) := by
  refine s_met (own := RX6) (by decide) rfl hI (Nat.le_of_ble_eq_true rfl) (fun p e s m below meth c ls hsz C hP hl => ?_)
  subst hsz
  exact kX6_back C σ x1 ls _ _ hl hP va_S.rf hf
set_option maxRecDepth 100000 in
set_option maxHeartbeats 4000000 in
theorem kX6_isSheet_b13 (C : s_X p s m meth c args cX6_isSheet (some .boolean) 1 RX6 G cy sa ad 19) (σ : Sg) (ls : Array Slot) (H : Heap) (locs : List Loc) (hl : lv_has ls 1 []) (hP : va_P G vwCl ((s_WC cy ad sh) σ) H) (hS : va_S (s_A ad 19 s.heap.size) s.heap H locs) (hf : fX6_isSheet_b13 σ = some (re, σe)) : W p l e ({ frames := 0, cells := 0, slots := 0, locals := 0 } : Room) s m args below meth c H locs 0 0 (MQ below (s_Qi (s_WC cy ad sh) G (s_A ad 19 s.heap.size) re σe) args s 0 0 (s_A ad 19 s.heap.size)) (F0 m 13 ls []) := by
  obtain ⟨hx, hb, hr, hml, hown, hts, hlk, hK, hE, hI⟩ := id C
  have hD : ∀ σ : Sg, va_D (s_A ad 19 s.heap.size) ((s_WC cy ad sh) σ) := fun σ => s_D (s_WC_ad cy ad sh σ) hI (fun k hk => Or.inl ⟨k, hk, rfl⟩)
  unfold fX6_isSheet_b13 at hf
  refine lv_iconst (v := 0) hx hb dX6_isSheet_13 (by decide) ?_
  obtain ⟨he1, he2⟩ := s_ret hf
  exact W.zret hx hb hr rfl (fun t ht hW => ⟨⟨_, (), rfl, he1, s_fin (Wd := (s_WC cy ad sh)) ht he2 hP⟩, hS.F ht⟩) hS.2.2 dX6_isSheet_14 hlk
set_option maxRecDepth 100000 in
set_option maxHeartbeats 4000000 in
theorem kX6_isSheet (C : s_X p s m meth c args cX6_isSheet (some .boolean) 1 RX6 G cy sa ad 19) (σ : Sg) (x0 : Int32) (ls : Array Slot) (H : Heap) (locs : List Loc) (hl : lv_has ls 1 [(0, .int x0)]) (hP : va_P G vwCl ((s_WC cy ad sh) σ) H) (hS : va_S (s_A ad 19 s.heap.size) s.heap H locs) (hf : fX6_isSheet σ x0 = some (re, σe)) : W p l e ({ frames := 0, cells := 0, slots := 0, locals := 0 } : Room) s m args below meth c H locs 0 0 (MQ below (s_Qi (s_WC cy ad sh) G (s_A ad 19 s.heap.size) re σe) args s 0 0 (s_A ad 19 s.heap.size)) (F0 m 0 ls []) := by
  obtain ⟨hx, hb, hr, hml, hown, hts, hlk, hK, hE, hI⟩ := id C
  have hD : ∀ σ : Sg, va_D (s_A ad 19 s.heap.size) ((s_WC cy ad sh) σ) := fun σ => s_D (s_WC_ad cy ad sh σ) hI (fun k hk => Or.inl ⟨k, hk, rfl⟩)
  unfold fX6_isSheet at hf
  refine lv_iload_n hx hb dX6_isSheet_0 rfl (lv_at hl 0 rfl) ?_
  refine lv_if_lt (tgt := 13) hx hb dX6_isSheet_1 (by decide) (fun c1 => ?_) (fun c1 => ?_)
  · rw [if_pos c1] at hf
    exact kX6_isSheet_b13 C σ _ _ _ (lv_sub hl [] rfl) hP hS hf
  · rw [if_neg c1] at hf
    refine lv_iload_n hx hb dX6_isSheet_4 rfl (lv_at hl 0 rfl) ?_
    refine lv_iconst (v := 4) hx hb dX6_isSheet_5 (by decide) ?_
    refine lv_icmp_ge (tgt := 13) hx hb dX6_isSheet_6 (by decide) (fun c2 => ?_) (fun c2 => ?_)
    · rw [if_pos c2] at hf
      exact kX6_isSheet_b13 C σ _ _ _ (lv_sub hl [] rfl) hP hS hf
    · rw [if_neg c2] at hf
      refine lv_iconst (v := 1) hx hb dX6_isSheet_9 (by decide) ?_
      refine lv_goto (tgt := 14) hx hb dX6_isSheet_10 (by decide) ?_
      obtain ⟨he1, he2⟩ := s_ret hf
      exact W.zret hx hb hr rfl (fun t ht hW => ⟨⟨_, (), rfl, he1, s_fin (Wd := (s_WC cy ad sh)) ht he2 hP⟩, hS.F ht⟩) hS.2.2 dX6_isSheet_14 hlk
theorem kcX6_isSheet {l : Launch} {G : va_G} {cy : Nat → ClassId} {sa : Nat × Nat} {ad : Nat → Nat} {sh : Nat → Option Nat} {sz : Nat} (hI : s_inj ad 19) (σ : Sg) (x0 : Int32) {re : Int32} {σe : Sg} (hf : fX6_isSheet σ x0 = some (re, σe)) : Met l yX6_isSheet (kW yX6_isSheet cX6_isSheet 1 (some .boolean)) ({ frames := 0, cells := 0, slots := 0, locals := 0 } : Room) (s_P (s_WC cy ad sh) G cy sa ad 19 [.int x0] sz σ) (s_Qi (s_WC cy ad sh) G (s_A ad 19 sz) re σe) 0 0 (s_A ad 19 sz) := by
  refine s_met (own := RX6) (by decide) rfl hI (Nat.le_of_ble_eq_true rfl) (fun p e s m below meth c ls hsz C hP hl => ?_)
  subst hsz
  exact kX6_isSheet C σ x0 ls _ _ hl hP va_S.rf hf
set_option maxRecDepth 100000 in
set_option maxHeartbeats 4000000 in
theorem kX6_isLane_b13 (C : s_X p s m meth c args cX6_isLane (some .boolean) 1 RX6 G cy sa ad 19) (σ : Sg) (ls : Array Slot) (H : Heap) (locs : List Loc) (hl : lv_has ls 1 []) (hP : va_P G vwCl ((s_WC cy ad sh) σ) H) (hS : va_S (s_A ad 19 s.heap.size) s.heap H locs) (hf : fX6_isLane_b13 σ = some (re, σe)) : W p l e ({ frames := 0, cells := 0, slots := 0, locals := 0 } : Room) s m args below meth c H locs 0 0 (MQ below (s_Qi (s_WC cy ad sh) G (s_A ad 19 s.heap.size) re σe) args s 0 0 (s_A ad 19 s.heap.size)) (F0 m 13 ls []) := by
  obtain ⟨hx, hb, hr, hml, hown, hts, hlk, hK, hE, hI⟩ := id C
  have hD : ∀ σ : Sg, va_D (s_A ad 19 s.heap.size) ((s_WC cy ad sh) σ) := fun σ => s_D (s_WC_ad cy ad sh σ) hI (fun k hk => Or.inl ⟨k, hk, rfl⟩)
  unfold fX6_isLane_b13 at hf
  refine lv_iconst (v := 0) hx hb dX6_isLane_13 (by decide) ?_
  obtain ⟨he1, he2⟩ := s_ret hf
  exact W.zret hx hb hr rfl (fun t ht hW => ⟨⟨_, (), rfl, he1, s_fin (Wd := (s_WC cy ad sh)) ht he2 hP⟩, hS.F ht⟩) hS.2.2 dX6_isLane_14 hlk
set_option maxRecDepth 100000 in
set_option maxHeartbeats 4000000 in
theorem kX6_isLane (C : s_X p s m meth c args cX6_isLane (some .boolean) 1 RX6 G cy sa ad 19) (σ : Sg) (x0 : Int32) (ls : Array Slot) (H : Heap) (locs : List Loc) (hl : lv_has ls 1 [(0, .int x0)]) (hP : va_P G vwCl ((s_WC cy ad sh) σ) H) (hS : va_S (s_A ad 19 s.heap.size) s.heap H locs) (hf : fX6_isLane σ x0 = some (re, σe)) : W p l e ({ frames := 0, cells := 0, slots := 0, locals := 0 } : Room) s m args below meth c H locs 0 0 (MQ below (s_Qi (s_WC cy ad sh) G (s_A ad 19 s.heap.size) re σe) args s 0 0 (s_A ad 19 s.heap.size)) (F0 m 0 ls []) := by
  obtain ⟨hx, hb, hr, hml, hown, hts, hlk, hK, hE, hI⟩ := id C
  have hD : ∀ σ : Sg, va_D (s_A ad 19 s.heap.size) ((s_WC cy ad sh) σ) := fun σ => s_D (s_WC_ad cy ad sh σ) hI (fun k hk => Or.inl ⟨k, hk, rfl⟩)
  unfold fX6_isLane at hf
  refine lv_iload_n hx hb dX6_isLane_0 rfl (lv_at hl 0 rfl) ?_
  refine lv_if_lt (tgt := 13) hx hb dX6_isLane_1 (by decide) (fun c1 => ?_) (fun c1 => ?_)
  · rw [if_pos c1] at hf
    exact kX6_isLane_b13 C σ _ _ _ (lv_sub hl [] rfl) hP hS hf
  · rw [if_neg c1] at hf
    refine lv_iload_n hx hb dX6_isLane_4 rfl (lv_at hl 0 rfl) ?_
    refine lv_iconst (v := 2) hx hb dX6_isLane_5 (by decide) ?_
    refine lv_icmp_gt (tgt := 13) hx hb dX6_isLane_6 (by decide) (fun c2 => ?_) (fun c2 => ?_)
    · rw [if_pos c2] at hf
      exact kX6_isLane_b13 C σ _ _ _ (lv_sub hl [] rfl) hP hS hf
    · rw [if_neg c2] at hf
      refine lv_iconst (v := 1) hx hb dX6_isLane_9 (by decide) ?_
      refine lv_goto (tgt := 14) hx hb dX6_isLane_10 (by decide) ?_
      obtain ⟨he1, he2⟩ := s_ret hf
      exact W.zret hx hb hr rfl (fun t ht hW => ⟨⟨_, (), rfl, he1, s_fin (Wd := (s_WC cy ad sh)) ht he2 hP⟩, hS.F ht⟩) hS.2.2 dX6_isLane_14 hlk
theorem kcX6_isLane {l : Launch} {G : va_G} {cy : Nat → ClassId} {sa : Nat × Nat} {ad : Nat → Nat} {sh : Nat → Option Nat} {sz : Nat} (hI : s_inj ad 19) (σ : Sg) (x0 : Int32) {re : Int32} {σe : Sg} (hf : fX6_isLane σ x0 = some (re, σe)) : Met l yX6_isLane (kW yX6_isLane cX6_isLane 1 (some .boolean)) ({ frames := 0, cells := 0, slots := 0, locals := 0 } : Room) (s_P (s_WC cy ad sh) G cy sa ad 19 [.int x0] sz σ) (s_Qi (s_WC cy ad sh) G (s_A ad 19 sz) re σe) 0 0 (s_A ad 19 sz) := by
  refine s_met (own := RX6) (by decide) rfl hI (Nat.le_of_ble_eq_true rfl) (fun p e s m below meth c ls hsz C hP hl => ?_)
  subst hsz
  exact kX6_isLane C σ x0 ls _ _ hl hP va_S.rf hf
set_option maxRecDepth 100000 in
set_option maxHeartbeats 4000000 in
theorem kX6_torn (C : s_X p s m meth c args cX6_torn (some .int) 1 RX6 G cy sa ad 19) (σ : Sg) (ls : Array Slot) (H : Heap) (locs : List Loc) (hl : lv_has ls 1 [(0, .ref (ad 0))]) (hP : va_P G vwCl ((s_WC cy ad sh) σ) H) (hS : va_S (s_A ad 19 s.heap.size) s.heap H locs) (hf : fX6_torn σ = some (re, σe)) : W p l e ({ frames := 0, cells := 0, slots := 0, locals := 0 } : Room) s m args below meth c H locs 0 0 (MQ below (s_Qi (s_WC cy ad sh) G (s_A ad 19 s.heap.size) re σe) args s 0 0 (s_A ad 19 s.heap.size)) (F0 m 0 ls []) := by
  obtain ⟨hx, hb, hr, hml, hown, hts, hlk, hK, hE, hI⟩ := id C
  have hD : ∀ σ : Sg, va_D (s_A ad 19 s.heap.size) ((s_WC cy ad sh) σ) := fun σ => s_D (s_WC_ad cy ad sh σ) hI (fun k hk => Or.inl ⟨k, hk, rfl⟩)
  unfold fX6_torn at hf
  refine lv_aload_n hx hb dX6_torn_0 rfl (lv_at hl 0 rfl) ?_
  refine va_get (D := G) (ci := 6) (v := .int (σ 0 8)) (C := RX6) (T := TX6) (N := 9) hx hb hts inkX6 hown hK hP 0 rfl rfl 8 (by decide) (hts _ kw_238) (fun _ h9 => h9) rfl dX6_torn_1 ?_
  obtain ⟨he1, he2⟩ := s_ret hf
  exact W.iret hx hb hr (fun t ht hW => ⟨⟨_, (), rfl, he1, s_fin (Wd := (s_WC cy ad sh)) ht he2 hP⟩, hS.F ht⟩) hS.2.2 dX6_torn_4 hlk
theorem kcX6_torn {l : Launch} {G : va_G} {cy : Nat → ClassId} {sa : Nat × Nat} {ad : Nat → Nat} {sh : Nat → Option Nat} {sz : Nat} (hI : s_inj ad 19) (σ : Sg) {re : Int32} {σe : Sg} (hf : fX6_torn σ = some (re, σe)) : Met l yX6_torn (kW yX6_torn cX6_torn 1 (some .int)) ({ frames := 0, cells := 0, slots := 0, locals := 0 } : Room) (s_P (s_WC cy ad sh) G cy sa ad 19 [.ref (ad 0)] sz σ) (s_Qi (s_WC cy ad sh) G (s_A ad 19 sz) re σe) 0 0 (s_A ad 19 sz) := by
  refine s_met (own := RX6) (by decide) rfl hI (Nat.le_of_ble_eq_true rfl) (fun p e s m below meth c ls hsz C hP hl => ?_)
  subst hsz
  exact kX6_torn C σ ls _ _ hl hP va_S.rf hf
set_option maxRecDepth 100000 in
set_option maxHeartbeats 4000000 in
theorem kX6_countImages_b25 (C : s_X p s m meth c args cX6_countImages (some .int) 3 RX6 G cy sa ad 19) (k4 : Sg → Int32 → Int32 → Option (Int32 × Sg)) (hk4 : ∀ (σ : Sg) (x1 : Int32) (x2 : Int32) (ls : Array Slot) (H : Heap) (locs : List Loc), lv_has ls 3 [(0, .ref (ad 0)), (1, .int x1), (2, .int x2)] → va_P G vwCl ((s_WC cy ad sh) σ) H → va_S (s_A ad 19 s.heap.size) s.heap H locs → k4 σ x1 x2 = some (re, σe) → W p l e ({ frames := 0, cells := 0, slots := 0, locals := 0 } : Room) s m args below meth c H locs 0 0 (MQ below (s_Qi (s_WC cy ad sh) G (s_A ad 19 s.heap.size) re σe) args s 0 0 (s_A ad 19 s.heap.size)) (F0 m 4 ls [])) (σ : Sg) (x1 : Int32) (x2 : Int32) (ls : Array Slot) (H : Heap) (locs : List Loc) (hl : lv_has ls 3 [(0, .ref (ad 0)), (1, .int x1), (2, .int x2)]) (hP : va_P G vwCl ((s_WC cy ad sh) σ) H) (hS : va_S (s_A ad 19 s.heap.size) s.heap H locs) (hf : fX6_countImages_b25 k4 σ x1 x2 = some (re, σe)) : W p l e ({ frames := 0, cells := 0, slots := 0, locals := 0 } : Room) s m args below meth c H locs 0 0 (MQ below (s_Qi (s_WC cy ad sh) G (s_A ad 19 s.heap.size) re σe) args s 0 0 (s_A ad 19 s.heap.size)) (F0 m 25 ls []) := by
  obtain ⟨hx, hb, hr, hml, hown, hts, hlk, hK, hE, hI⟩ := id C
  have hD : ∀ σ : Sg, va_D (s_A ad 19 s.heap.size) ((s_WC cy ad sh) σ) := fun σ => s_D (s_WC_ad cy ad sh σ) hI (fun k hk => Or.inl ⟨k, hk, rfl⟩)
  unfold fX6_countImages_b25 at hf
  obtain ⟨t1, et1⟩ : ∃ z : Int32, z = (x2 + 1) := ⟨_, rfl⟩
  replace hf := s_lt_at et1 hf
  refine lv_iinc (v := t1) (lv' := [(2, .int t1), (0, .ref (ad 0)), (1, .int x1)]) hx hb dX6_countImages_25 hl (k := 2) rfl (by rw [et1]; rfl) (by decide) rfl (fun ls hl => ?_)
  refine lv_goto (tgt := 4) hx hb dX6_countImages_28 (by decide) ?_
  exact hk4 σ x1 t1 _ _ _ (lv_sub hl [1, 2, 0] rfl) hP hS hf
set_option maxRecDepth 100000 in
set_option maxHeartbeats 4000000 in
theorem kX6_countImages_b4 (C : s_X p s m meth c args cX6_countImages (some .int) 3 RX6 G cy sa ad 19) (k4 : Sg → Int32 → Int32 → Option (Int32 × Sg)) (hk4 : ∀ (σ : Sg) (x1 : Int32) (x2 : Int32) (ls : Array Slot) (H : Heap) (locs : List Loc), lv_has ls 3 [(0, .ref (ad 0)), (1, .int x1), (2, .int x2)] → va_P G vwCl ((s_WC cy ad sh) σ) H → va_S (s_A ad 19 s.heap.size) s.heap H locs → k4 σ x1 x2 = some (re, σe) → W p l e ({ frames := 0, cells := 0, slots := 0, locals := 0 } : Room) s m args below meth c H locs 0 0 (MQ below (s_Qi (s_WC cy ad sh) G (s_A ad 19 s.heap.size) re σe) args s 0 0 (s_A ad 19 s.heap.size)) (F0 m 4 ls [])) (σ : Sg) (x1 : Int32) (x2 : Int32) (ls : Array Slot) (H : Heap) (locs : List Loc) (hl : lv_has ls 3 [(0, .ref (ad 0)), (1, .int x1), (2, .int x2)]) (hP : va_P G vwCl ((s_WC cy ad sh) σ) H) (hS : va_S (s_A ad 19 s.heap.size) s.heap H locs) (hf : fX6_countImages_b4 k4 σ x1 x2 = some (re, σe)) : W p l e ({ frames := 0, cells := 0, slots := 0, locals := 0 } : Room) s m args below meth c H locs 0 0 (MQ below (s_Qi (s_WC cy ad sh) G (s_A ad 19 s.heap.size) re σe) args s 0 0 (s_A ad 19 s.heap.size)) (F0 m 4 ls []) := by
  obtain ⟨hx, hb, hr, hml, hown, hts, hlk, hK, hE, hI⟩ := id C
  have hD : ∀ σ : Sg, va_D (s_A ad 19 s.heap.size) ((s_WC cy ad sh) σ) := fun σ => s_D (s_WC_ad cy ad sh σ) hI (fun k hk => Or.inl ⟨k, hk, rfl⟩)
  unfold fX6_countImages_b4 at hf
  refine lv_iload_n hx hb dX6_countImages_4 rfl (lv_at hl 2 rfl) ?_
  refine lv_aload_n hx hb dX6_countImages_5 rfl (lv_at hl 0 rfl) ?_
  refine va_get (D := G) (ci := 6) (v := .ref (ad 17)) (C := RX6) (T := TX6) (N := 9) hx hb hts inkX6 hown hK hP 0 rfl rfl 6 (by decide) (hts _ kw_236) (fun _ h9 => h9) rfl dX6_countImages_6 ?_
  refine va_alen (v := (2 : Int32)) hx hb hK hP 17 2 rfl rfl (by show Int32.ofNat 2 = 2; decide) dX6_countImages_9 ?_
  refine lv_icmp_ge (tgt := 31) hx hb dX6_countImages_10 (by decide) (fun c1 => ?_) (fun c1 => ?_)
  · rw [if_pos c1] at hf
    refine lv_iload_n hx hb dX6_countImages_31 rfl (lv_at hl 1 rfl) ?_
    obtain ⟨he1, he2⟩ := s_ret hf
    exact W.iret hx hb hr (fun t ht hW => ⟨⟨_, (), rfl, he1, s_fin (Wd := (s_WC cy ad sh)) ht he2 hP⟩, hS.F ht⟩) hS.2.2 dX6_countImages_32 hlk
  · rw [if_neg c1] at hf
    refine lv_aload_n hx hb dX6_countImages_13 rfl (lv_at hl 0 rfl) ?_
    refine va_get (D := G) (ci := 6) (v := .ref (ad 17)) (C := RX6) (T := TX6) (N := 9) hx hb hts inkX6 hown hK hP 0 rfl rfl 6 (by decide) (hts _ kw_236) (fun _ h9 => h9) rfl dX6_countImages_14 ?_
    refine lv_iload_n hx hb dX6_countImages_17 rfl (lv_at hl 2 rfl) ?_
    replace hf := s_gd_some hf
    obtain ⟨g2, hf⟩ := hf
    refine va_zald hx hb hK hP 17 2 rfl rfl (s_in_of g2) dX6_countImages_18 ?_
    refine lv_if_eq (tgt := 25) hx hb dX6_countImages_19 (by decide) (fun c3 => ?_) (fun c3 => ?_)
    · rw [if_pos c3] at hf
      exact kX6_countImages_b25 C k4 hk4 σ x1 x2 _ _ _ (lv_sub hl [0, 1, 2] rfl) hP hS hf
    · rw [if_neg c3] at hf
      obtain ⟨t4, et4⟩ : ∃ z : Int32, z = (x1 + 1) := ⟨_, rfl⟩
      replace hf := s_lt_at et4 hf
      refine lv_iinc (v := t4) (lv' := [(1, .int t4), (0, .ref (ad 0)), (2, .int x2)]) hx hb dX6_countImages_22 hl (k := 1) rfl (by rw [et4]; rfl) (by decide) rfl (fun ls hl => ?_)
      exact kX6_countImages_b25 C k4 hk4 σ t4 x2 _ _ _ (lv_sub hl [1, 0, 2] rfl) hP hS hf
set_option maxRecDepth 100000 in
set_option maxHeartbeats 4000000 in
theorem kX6_countImages_b4_L (C : s_X p s m meth c args cX6_countImages (some .int) 3 RX6 G cy sa ad 19) : ∀ (n : Nat), ∀ (σ : Sg) (x1 : Int32) (x2 : Int32) (ls : Array Slot) (H : Heap) (locs : List Loc), lv_has ls 3 [(0, .ref (ad 0)), (1, .int x1), (2, .int x2)] → va_P G vwCl ((s_WC cy ad sh) σ) H → va_S (s_A ad 19 s.heap.size) s.heap H locs → fX6_countImages_b4_L n σ x1 x2 = some (re, σe) → W p l e ({ frames := 0, cells := 0, slots := 0, locals := 0 } : Room) s m args below meth c H locs 0 0 (MQ below (s_Qi (s_WC cy ad sh) G (s_A ad 19 s.heap.size) re σe) args s 0 0 (s_A ad 19 s.heap.size)) (F0 m 4 ls []) := by
  intro n
  induction n with
  | zero => intro σ x1 x2 ls H locs hl hP hS hf; exact absurd (show (none : Option (Int32 × Sg)) = some (re, σe) from hf) (by intro h; cases h)
  | succ n ih => intro σ x1 x2 ls H locs hl hP hS hf; exact kX6_countImages_b4 C (fX6_countImages_b4_L n) ih σ x1 x2 ls H locs hl hP hS hf
set_option maxRecDepth 100000 in
set_option maxHeartbeats 4000000 in
theorem kX6_countImages (C : s_X p s m meth c args cX6_countImages (some .int) 3 RX6 G cy sa ad 19) (σ : Sg) (ls : Array Slot) (H : Heap) (locs : List Loc) (hl : lv_has ls 3 [(0, .ref (ad 0))]) (hP : va_P G vwCl ((s_WC cy ad sh) σ) H) (hS : va_S (s_A ad 19 s.heap.size) s.heap H locs) (hf : fX6_countImages σ = some (re, σe)) : W p l e ({ frames := 0, cells := 0, slots := 0, locals := 0 } : Room) s m args below meth c H locs 0 0 (MQ below (s_Qi (s_WC cy ad sh) G (s_A ad 19 s.heap.size) re σe) args s 0 0 (s_A ad 19 s.heap.size)) (F0 m 0 ls []) := by
  obtain ⟨hx, hb, hr, hml, hown, hts, hlk, hK, hE, hI⟩ := id C
  have hD : ∀ σ : Sg, va_D (s_A ad 19 s.heap.size) ((s_WC cy ad sh) σ) := fun σ => s_D (s_WC_ad cy ad sh σ) hI (fun k hk => Or.inl ⟨k, hk, rfl⟩)
  unfold fX6_countImages at hf
  refine lv_iconst (v := 0) hx hb dX6_countImages_0 (by decide) ?_
  refine lv_istore_n (lv' := [(1, .int (0 : Int32)), (0, .ref (ad 0))]) hx hb dX6_countImages_1 rfl hl (by decide) rfl (fun ls hl => ?_)
  refine lv_iconst (v := 0) hx hb dX6_countImages_2 (by decide) ?_
  refine lv_istore_n (lv' := [(2, .int (0 : Int32)), (1, .int (0 : Int32)), (0, .ref (ad 0))]) hx hb dX6_countImages_3 rfl hl (by decide) rfl (fun ls hl => ?_)
  exact kX6_countImages_b4_L C s_fu σ (0 : Int32) (0 : Int32) _ _ _ (lv_sub hl [2, 1, 0] rfl) hP hS hf
theorem kcX6_countImages {l : Launch} {G : va_G} {cy : Nat → ClassId} {sa : Nat × Nat} {ad : Nat → Nat} {sh : Nat → Option Nat} {sz : Nat} (hI : s_inj ad 19) (σ : Sg) {re : Int32} {σe : Sg} (hf : fX6_countImages σ = some (re, σe)) : Met l yX6_countImages (kW yX6_countImages cX6_countImages 3 (some .int)) ({ frames := 0, cells := 0, slots := 0, locals := 0 } : Room) (s_P (s_WC cy ad sh) G cy sa ad 19 [.ref (ad 0)] sz σ) (s_Qi (s_WC cy ad sh) G (s_A ad 19 sz) re σe) 0 0 (s_A ad 19 sz) := by
  refine s_met (own := RX6) (by decide) rfl hI (Nat.le_of_ble_eq_true rfl) (fun p e s m below meth c ls hsz C hP hl => ?_)
  subst hsz
  exact kX6_countImages C σ ls _ _ hl hP va_S.rf hf
set_option maxRecDepth 100000 in
set_option maxHeartbeats 4000000 in
theorem kX6_countShownBytes_b11 (C : s_X p s m meth c args cX6_countShownBytes (some .int) 3 RX6 G cy sa ad 19) (k11 : Sg → Int32 → Int32 → Option (Int32 × Sg)) (hk11 : ∀ (σ : Sg) (x1 : Int32) (x2 : Int32) (ls : Array Slot) (H : Heap) (locs : List Loc), lv_has ls 3 [(0, .ref (ad 0)), (1, .int x1), (2, .int x2)] → va_P G vwCl ((s_WC cy ad sh) σ) H → va_S (s_A ad 19 s.heap.size) s.heap H locs → k11 σ x1 x2 = some (re, σe) → W p l e ({ frames := 4, cells := 0, slots := 0, locals := 89 } : Room) s m args below meth c H locs 0 0 (MQ below (s_Qi (s_WC cy ad sh) G (s_A ad 19 s.heap.size) re σe) args s 0 0 (s_A ad 19 s.heap.size)) (F0 m 11 ls [])) (σ : Sg) (x1 : Int32) (x2 : Int32) (ls : Array Slot) (H : Heap) (locs : List Loc) (hl : lv_has ls 3 [(0, .ref (ad 0)), (1, .int x1), (2, .int x2)]) (hP : va_P G vwCl ((s_WC cy ad sh) σ) H) (hS : va_S (s_A ad 19 s.heap.size) s.heap H locs) (hf : fX6_countShownBytes_b11 k11 σ x1 x2 = some (re, σe)) : W p l e ({ frames := 4, cells := 0, slots := 0, locals := 89 } : Room) s m args below meth c H locs 0 0 (MQ below (s_Qi (s_WC cy ad sh) G (s_A ad 19 s.heap.size) re σe) args s 0 0 (s_A ad 19 s.heap.size)) (F0 m 11 ls []) := by
  obtain ⟨hx, hb, hr, hml, hown, hts, hlk, hK, hE, hI⟩ := id C
  have hD : ∀ σ : Sg, va_D (s_A ad 19 s.heap.size) ((s_WC cy ad sh) σ) := fun σ => s_D (s_WC_ad cy ad sh σ) hI (fun k hk => Or.inl ⟨k, hk, rfl⟩)
  unfold fX6_countShownBytes_b11 at hf
  refine lv_iload_n hx hb dX6_countShownBytes_11 rfl (lv_at hl 2 rfl) ?_
  refine lv_aload_n hx hb dX6_countShownBytes_12 rfl (lv_at hl 0 rfl) ?_
  refine va_get (D := G) (ci := 6) (v := .ref (ad 6)) (C := RX6) (T := TX6) (N := 9) hx hb hts inkX6 hown hK hP 0 rfl rfl 2 (by decide) (hts _ kw_232) (fun _ h9 => h9) rfl dX6_countShownBytes_13 ?_
  refine va_getN (D := G) (ci := 1) (v := .int (σ 6 1)) (C := RX1) (T := TX1) (N := 8) hx hb hts inkX1 hown hK hP 6 rfl rfl 1 (by decide) (kn_X6_88 hE) (fun _ h9 => h9) rfl dX6_countShownBytes_16 ?_
  refine lv_icmp_ge (tgt := 50) hx hb dX6_countShownBytes_19 (by decide) (fun c1 => ?_) (fun c1 => ?_)
  · rw [if_pos c1] at hf
    refine lv_iload_n hx hb dX6_countShownBytes_50 rfl (lv_at hl 1 rfl) ?_
    obtain ⟨he1, he2⟩ := s_ret hf
    exact W.iret hx hb hr (fun t ht hW => ⟨⟨_, (), rfl, he1, s_fin (Wd := (s_WC cy ad sh)) ht he2 hP⟩, hS.F ht⟩) hS.2.2 dX6_countShownBytes_51 hlk
  · rw [if_neg c1] at hf
    refine lv_aload_n hx hb dX6_countShownBytes_22 rfl (lv_at hl 0 rfl) ?_
    refine va_get (D := G) (ci := 6) (v := .ref (ad 8)) (C := RX6) (T := TX6) (N := 9) hx hb hts inkX6 hown hK hP 0 rfl rfl 3 (by decide) (hts _ kw_233) (fun _ h9 => h9) rfl dX6_countShownBytes_23 ?_
    refine lv_iload_n hx hb dX6_countShownBytes_26 rfl (lv_at hl 2 rfl) ?_
    replace hf := s_bv_some hf
    obtain ⟨σ2, hz3, hf⟩ := hf
    refine s_callv (nn := 1) C (kcX0_slideTo (l := l) (G := G) (cy := cy) (sa := sa) (sh := sh) hI (sz := H.size) σ x2 hz3) gk_X6_184 rfl rfl (by decide +kernel) ⟨Nat.le_of_ble_eq_true rfl, Nat.le_of_ble_eq_true rfl⟩ hP hS (q0 := 8) (ci := 0) rfl rfl rfl (As := [.int x2]) (rest := []) rfl rfl hl.1 (Nat.le_of_ble_eq_true rfl) dX6_countShownBytes_27 (fun H locs hP hS => ?_)
    refine lv_aload_n hx hb dX6_countShownBytes_30 rfl (lv_at hl 0 rfl) ?_
    replace hf := s_bv_some hf
    obtain ⟨σ4, hz5, hf⟩ := hf
    refine s_callv (nn := 0) C (kcX6_writeWords (l := l) (G := G) (cy := cy) (sa := sa) (sh := sh) hI (sz := H.size) σ2 hz5) gk_X6_161 rfl rfl (by decide +kernel) ⟨Nat.le_of_ble_eq_true rfl, Nat.le_of_ble_eq_true rfl⟩ hP hS (q0 := 0) (ci := 6) rfl rfl rfl (As := []) (rest := []) rfl rfl hl.1 (Nat.le_of_ble_eq_true rfl) dX6_countShownBytes_31 (fun H locs hP hS => ?_)
    refine lv_iload_n hx hb dX6_countShownBytes_34 rfl (lv_at hl 1 rfl) ?_
    refine lv_aload_n hx hb dX6_countShownBytes_35 rfl (lv_at hl 0 rfl) ?_
    refine va_get (D := G) (ci := 6) (v := .ref (ad 10)) (C := RX6) (T := TX6) (N := 9) hx hb hts inkX6 hown hK hP 0 rfl rfl 4 (by decide) (hts _ kw_234) (fun _ h9 => h9) rfl dX6_countShownBytes_36 ?_
    refine va_getN (D := G) (ci := 5) (v := .int (σ4 10 1)) (C := RX5) (T := TX5) (N := 2) hx hb hts inkX5 hown hK hP 10 rfl rfl 1 (by decide) (kn_X6_164 hE) (fun _ h9 => h9) rfl dX6_countShownBytes_39 ?_
    refine lv_iadd hx hb dX6_countShownBytes_42 ?_
    refine lv_topi (fun t6 et6 => ?_)
    replace hf := s_lt_at et6 hf
    refine lv_istore_n (lv' := [(1, .int t6), (0, .ref (ad 0)), (2, .int x2)]) hx hb dX6_countShownBytes_43 rfl hl (by decide) rfl (fun ls hl => ?_)
    obtain ⟨t7, et7⟩ : ∃ z : Int32, z = (x2 + 1) := ⟨_, rfl⟩
    replace hf := s_lt_at et7 hf
    refine lv_iinc (v := t7) (lv' := [(2, .int t7), (1, .int t6), (0, .ref (ad 0))]) hx hb dX6_countShownBytes_44 hl (k := 2) rfl (by rw [et7]; rfl) (by decide) rfl (fun ls hl => ?_)
    refine lv_goto (tgt := 11) hx hb dX6_countShownBytes_47 (by decide) ?_
    exact hk11 σ4 t6 t7 _ _ _ (lv_sub hl [2, 1, 0] rfl) hP hS hf
set_option maxRecDepth 100000 in
set_option maxHeartbeats 4000000 in
theorem kX6_countShownBytes_b11_L (C : s_X p s m meth c args cX6_countShownBytes (some .int) 3 RX6 G cy sa ad 19) : ∀ (n : Nat), ∀ (σ : Sg) (x1 : Int32) (x2 : Int32) (ls : Array Slot) (H : Heap) (locs : List Loc), lv_has ls 3 [(0, .ref (ad 0)), (1, .int x1), (2, .int x2)] → va_P G vwCl ((s_WC cy ad sh) σ) H → va_S (s_A ad 19 s.heap.size) s.heap H locs → fX6_countShownBytes_b11_L n σ x1 x2 = some (re, σe) → W p l e ({ frames := 4, cells := 0, slots := 0, locals := 89 } : Room) s m args below meth c H locs 0 0 (MQ below (s_Qi (s_WC cy ad sh) G (s_A ad 19 s.heap.size) re σe) args s 0 0 (s_A ad 19 s.heap.size)) (F0 m 11 ls []) := by
  intro n
  induction n with
  | zero => intro σ x1 x2 ls H locs hl hP hS hf; exact absurd (show (none : Option (Int32 × Sg)) = some (re, σe) from hf) (by intro h; cases h)
  | succ n ih => intro σ x1 x2 ls H locs hl hP hS hf; exact kX6_countShownBytes_b11 C (fX6_countShownBytes_b11_L n) ih σ x1 x2 ls H locs hl hP hS hf
set_option maxRecDepth 100000 in
set_option maxHeartbeats 4000000 in
theorem kX6_countShownBytes (C : s_X p s m meth c args cX6_countShownBytes (some .int) 3 RX6 G cy sa ad 19) (σ : Sg) (ls : Array Slot) (H : Heap) (locs : List Loc) (hl : lv_has ls 3 [(0, .ref (ad 0))]) (hP : va_P G vwCl ((s_WC cy ad sh) σ) H) (hS : va_S (s_A ad 19 s.heap.size) s.heap H locs) (hf : fX6_countShownBytes σ = some (re, σe)) : W p l e ({ frames := 4, cells := 0, slots := 0, locals := 89 } : Room) s m args below meth c H locs 0 0 (MQ below (s_Qi (s_WC cy ad sh) G (s_A ad 19 s.heap.size) re σe) args s 0 0 (s_A ad 19 s.heap.size)) (F0 m 0 ls []) := by
  obtain ⟨hx, hb, hr, hml, hown, hts, hlk, hK, hE, hI⟩ := id C
  have hD : ∀ σ : Sg, va_D (s_A ad 19 s.heap.size) ((s_WC cy ad sh) σ) := fun σ => s_D (s_WC_ad cy ad sh σ) hI (fun k hk => Or.inl ⟨k, hk, rfl⟩)
  unfold fX6_countShownBytes at hf
  refine lv_iconst (v := 0) hx hb dX6_countShownBytes_0 (by decide) ?_
  refine lv_istore_n (lv' := [(1, .int (0 : Int32)), (0, .ref (ad 0))]) hx hb dX6_countShownBytes_1 rfl hl (by decide) rfl (fun ls hl => ?_)
  refine lv_aload_n hx hb dX6_countShownBytes_2 rfl (lv_at hl 1 rfl) ?_
  refine va_get (D := G) (ci := 6) (v := .ref (ad 8)) (C := RX6) (T := TX6) (N := 9) hx hb hts inkX6 hown hK hP 0 rfl rfl 3 (by decide) (hts _ kw_233) (fun _ h9 => h9) rfl dX6_countShownBytes_3 ?_
  replace hf := s_bv_some hf
  obtain ⟨σ1, hz2, hf⟩ := hf
  refine s_callv (nn := 0) C (kcX0_clear (l := l) (G := G) (cy := cy) (sa := sa) (sh := sh) hI (sz := H.size) σ hz2) gk_X6_181 rfl rfl (by decide +kernel) ⟨Nat.le_of_ble_eq_true rfl, Nat.le_of_ble_eq_true rfl⟩ hP hS (q0 := 8) (ci := 0) rfl rfl rfl (As := []) (rest := []) rfl rfl hl.1 (Nat.le_of_ble_eq_true rfl) dX6_countShownBytes_6 (fun H locs hP hS => ?_)
  refine lv_iconst (v := 0) hx hb dX6_countShownBytes_9 (by decide) ?_
  refine lv_istore_n (lv' := [(2, .int (0 : Int32)), (1, .int (0 : Int32)), (0, .ref (ad 0))]) hx hb dX6_countShownBytes_10 rfl hl (by decide) rfl (fun ls hl => ?_)
  exact kX6_countShownBytes_b11_L C s_fu σ1 (0 : Int32) (0 : Int32) _ _ _ (lv_sub hl [2, 1, 0] rfl) hP hS hf
theorem kcX6_countShownBytes {l : Launch} {G : va_G} {cy : Nat → ClassId} {sa : Nat × Nat} {ad : Nat → Nat} {sh : Nat → Option Nat} {sz : Nat} (hI : s_inj ad 19) (σ : Sg) {re : Int32} {σe : Sg} (hf : fX6_countShownBytes σ = some (re, σe)) : Met l yX6_countShownBytes (kW yX6_countShownBytes cX6_countShownBytes 3 (some .int)) ({ frames := 4, cells := 0, slots := 0, locals := 89 } : Room) (s_P (s_WC cy ad sh) G cy sa ad 19 [.ref (ad 0)] sz σ) (s_Qi (s_WC cy ad sh) G (s_A ad 19 sz) re σe) 0 0 (s_A ad 19 sz) := by
  refine s_met (own := RX6) (by decide) rfl hI (Nat.le_of_ble_eq_true rfl) (fun p e s m below meth c ls hsz C hP hl => ?_)
  subst hsz
  exact kX6_countShownBytes C σ ls _ _ hl hP va_S.rf hf
set_option maxRecDepth 100000 in
set_option maxHeartbeats 4000000 in
theorem kX6_lay_n (C : s_X p s m meth c args cX6_lay (some .int) 5 RX6 G cy sa ad 19) (σ : Sg) (x1 : Int32) (x2 : Int32) (x3 : Int32) (ls : Array Slot) (H : Heap) (locs : List Loc) (hsh : sh (Int32.toNatClampNeg x1) = none) (hl : lv_has ls 5 [(0, .ref (ad 0)), (1, .int x1), (2, .int x2), (3, .int x3)]) (hP : va_P G vwCl ((s_WC cy ad sh) σ) H) (hS : va_S (s_A ad 19 s.heap.size) s.heap H locs) (hf : fX6_lay_n σ x1 x2 x3 = some (re, σe)) : W p l e ({ frames := 1, cells := 0, slots := 0, locals := 20 } : Room) s m args below meth c H locs 0 0 (MQ below (s_Qi (s_WC cy ad sh) G (s_A ad 19 s.heap.size) re σe) args s 0 0 (s_A ad 19 s.heap.size)) (F0 m 0 ls []) := by
  obtain ⟨hx, hb, hr, hml, hown, hts, hlk, hK, hE, hI⟩ := id C
  have hD : ∀ σ : Sg, va_D (s_A ad 19 s.heap.size) ((s_WC cy ad sh) σ) := fun σ => s_D (s_WC_ad cy ad sh σ) hI (fun k hk => Or.inl ⟨k, hk, rfl⟩)
  unfold fX6_lay_n at hf
  refine lv_iload_n hx hb dX6_lay_0 rfl (lv_at hl 1 rfl) ?_
  replace hf := s_bi_some hf
  obtain ⟨r3, σ1, hz2, hf⟩ := hf
  refine s_calliS (nn := 1) C (kcX6_isSheet (l := l) (G := G) (cy := cy) (sa := sa) (sh := sh) hI (sz := H.size) σ x1 hz2) gk_X6_222 rfl rfl (by decide +kernel) ⟨Nat.le_of_ble_eq_true rfl, Nat.le_of_ble_eq_true rfl⟩ hP hS (As := [.int x1]) (rest := []) rfl rfl hl.1 (Nat.le_of_ble_eq_true rfl) dX6_lay_1 (fun H locs hP hS => ?_)
  refine lv_if_ne (tgt := 9) hx hb dX6_lay_4 (by decide) (fun c4 => ?_) (fun c4 => ?_)
  · rw [if_neg c4] at hf
    refine lv_aload_n hx hb dX6_lay_9 rfl (lv_at hl 0 rfl) ?_
    refine va_get (D := G) (ci := 6) (v := .ref (ad 18)) (C := RX6) (T := TX6) (N := 9) hx hb hts inkX6 hown hK hP 0 rfl rfl 7 (by decide) (hts _ kw_237) (fun _ h9 => h9) rfl dX6_lay_10 ?_
    refine lv_iload_n hx hb dX6_lay_13 rfl (lv_at hl 1 rfl) ?_
    replace hf := s_gd_some hf
    obtain ⟨g5, hf⟩ := hf
    refine va_aldq hx hb hK hP 18 4 rfl rfl (s_in_of g5) dX6_lay_14 ?_
    refine W.eq (g2 := F0 m 15 ls [.null]) (by rw [hsh]; rfl) ?_
    refine lv_astoreN (lv' := [(4, .null), (0, .ref (ad 0)), (1, .int x1), (2, .int x2), (3, .int x3)]) hx hb dX6_lay_15 hl (by decide) rfl (fun ls hl => ?_)
    refine lv_aloadN hx hb dX6_lay_17 (lv_at hl 0 rfl) ?_
    refine lv_ifnonnullN hx hb dX6_lay_19 ?_
    refine lv_bipush (v := -11) hx hb dX6_lay_22 (by decide) ?_
    obtain ⟨he1, he2⟩ := s_ret hf
    exact W.iret hx hb hr (fun t ht hW => ⟨⟨_, (), rfl, he1, s_fin (Wd := (s_WC cy ad sh)) ht he2 hP⟩, hS.F ht⟩) hS.2.2 dX6_lay_24 hlk
  · rw [if_pos c4] at hf
    refine lv_iconst (v := -1) hx hb dX6_lay_7 (by decide) ?_
    obtain ⟨he1, he2⟩ := s_ret hf
    exact W.iret hx hb hr (fun t ht hW => ⟨⟨_, (), rfl, he1, s_fin (Wd := (s_WC cy ad sh)) ht he2 hP⟩, hS.F ht⟩) hS.2.2 dX6_lay_8 hlk
theorem kcX6_lay_n {l : Launch} {G : va_G} {cy : Nat → ClassId} {sa : Nat × Nat} {ad : Nat → Nat} {sh : Nat → Option Nat} {sz : Nat} (hI : s_inj ad 19) (σ : Sg) (x1 : Int32) (x2 : Int32) (x3 : Int32) {re : Int32} {σe : Sg} (hsh : sh (Int32.toNatClampNeg x1) = none) (hf : fX6_lay_n σ x1 x2 x3 = some (re, σe)) : Met l yX6_lay (kW yX6_lay cX6_lay 5 (some .int)) ({ frames := 1, cells := 0, slots := 0, locals := 20 } : Room) (s_P (s_WC cy ad sh) G cy sa ad 19 [.ref (ad 0), .int x1, .int x2, .int x3] sz σ) (s_Qi (s_WC cy ad sh) G (s_A ad 19 sz) re σe) 0 0 (s_A ad 19 sz) := by
  refine s_met (own := RX6) (by decide) rfl hI (Nat.le_of_ble_eq_true rfl) (fun p e s m below meth c ls hsz C hP hl => ?_)
  subst hsz
  exact kX6_lay_n C σ x1 x2 x3 ls _ _ hsh hl hP va_S.rf hf
set_option maxRecDepth 100000 in
set_option maxHeartbeats 4000000 in
theorem kX6_isSheet_P_b13 (C : s_X p s m meth c args cX6_isSheet (some .boolean) 1 RX6 G cy sa ad 21) (σ : Sg) (ls : Array Slot) (H : Heap) (locs : List Loc) (hl : lv_has ls 1 []) (hP : va_P G vwCl ((s_W1 cy ad sh) σ) H) (hS : va_S (s_A ad 21 s.heap.size) s.heap H locs) (hf : fX6_isSheet_P_b13 σ = some (re, σe)) : W p l e ({ frames := 0, cells := 0, slots := 0, locals := 0 } : Room) s m args below meth c H locs 0 0 (MQ below (s_Qi (s_W1 cy ad sh) G (s_A ad 21 s.heap.size) re σe) args s 0 0 (s_A ad 21 s.heap.size)) (F0 m 13 ls []) := by
  obtain ⟨hx, hb, hr, hml, hown, hts, hlk, hK, hE, hI⟩ := id C
  have hD : ∀ σ : Sg, va_D (s_A ad 21 s.heap.size) ((s_W1 cy ad sh) σ) := fun σ => s_D (s_W1_ad cy ad sh σ) hI (fun k hk => Or.inl ⟨k, hk, rfl⟩)
  unfold fX6_isSheet_P_b13 at hf
  refine lv_iconst (v := 0) hx hb dX6_isSheet_13 (by decide) ?_
  obtain ⟨he1, he2⟩ := s_ret hf
  exact W.zret hx hb hr rfl (fun t ht hW => ⟨⟨_, (), rfl, he1, s_fin (Wd := (s_W1 cy ad sh)) ht he2 hP⟩, hS.F ht⟩) hS.2.2 dX6_isSheet_14 hlk
set_option maxRecDepth 100000 in
set_option maxHeartbeats 4000000 in
theorem kX6_isSheet_P (C : s_X p s m meth c args cX6_isSheet (some .boolean) 1 RX6 G cy sa ad 21) (σ : Sg) (x0 : Int32) (ls : Array Slot) (H : Heap) (locs : List Loc) (hl : lv_has ls 1 [(0, .int x0)]) (hP : va_P G vwCl ((s_W1 cy ad sh) σ) H) (hS : va_S (s_A ad 21 s.heap.size) s.heap H locs) (hf : fX6_isSheet_P σ x0 = some (re, σe)) : W p l e ({ frames := 0, cells := 0, slots := 0, locals := 0 } : Room) s m args below meth c H locs 0 0 (MQ below (s_Qi (s_W1 cy ad sh) G (s_A ad 21 s.heap.size) re σe) args s 0 0 (s_A ad 21 s.heap.size)) (F0 m 0 ls []) := by
  obtain ⟨hx, hb, hr, hml, hown, hts, hlk, hK, hE, hI⟩ := id C
  have hD : ∀ σ : Sg, va_D (s_A ad 21 s.heap.size) ((s_W1 cy ad sh) σ) := fun σ => s_D (s_W1_ad cy ad sh σ) hI (fun k hk => Or.inl ⟨k, hk, rfl⟩)
  unfold fX6_isSheet_P at hf
  refine lv_iload_n hx hb dX6_isSheet_0 rfl (lv_at hl 0 rfl) ?_
  refine lv_if_lt (tgt := 13) hx hb dX6_isSheet_1 (by decide) (fun c1 => ?_) (fun c1 => ?_)
  · rw [if_pos c1] at hf
    exact kX6_isSheet_P_b13 C σ _ _ _ (lv_sub hl [] rfl) hP hS hf
  · rw [if_neg c1] at hf
    refine lv_iload_n hx hb dX6_isSheet_4 rfl (lv_at hl 0 rfl) ?_
    refine lv_iconst (v := 4) hx hb dX6_isSheet_5 (by decide) ?_
    refine lv_icmp_ge (tgt := 13) hx hb dX6_isSheet_6 (by decide) (fun c2 => ?_) (fun c2 => ?_)
    · rw [if_pos c2] at hf
      exact kX6_isSheet_P_b13 C σ _ _ _ (lv_sub hl [] rfl) hP hS hf
    · rw [if_neg c2] at hf
      refine lv_iconst (v := 1) hx hb dX6_isSheet_9 (by decide) ?_
      refine lv_goto (tgt := 14) hx hb dX6_isSheet_10 (by decide) ?_
      obtain ⟨he1, he2⟩ := s_ret hf
      exact W.zret hx hb hr rfl (fun t ht hW => ⟨⟨_, (), rfl, he1, s_fin (Wd := (s_W1 cy ad sh)) ht he2 hP⟩, hS.F ht⟩) hS.2.2 dX6_isSheet_14 hlk
theorem kcX6_isSheet_P {l : Launch} {G : va_G} {cy : Nat → ClassId} {sa : Nat × Nat} {ad : Nat → Nat} {sh : Nat → Option Nat} {sz : Nat} (hI : s_inj ad 21) (σ : Sg) (x0 : Int32) {re : Int32} {σe : Sg} (hf : fX6_isSheet_P σ x0 = some (re, σe)) : Met l yX6_isSheet (kW yX6_isSheet cX6_isSheet 1 (some .boolean)) ({ frames := 0, cells := 0, slots := 0, locals := 0 } : Room) (s_P (s_W1 cy ad sh) G cy sa ad 21 [.int x0] sz σ) (s_Qi (s_W1 cy ad sh) G (s_A ad 21 sz) re σe) 0 0 (s_A ad 21 sz) := by
  refine s_met (own := RX6) (by decide) rfl hI (Nat.le_of_ble_eq_true rfl) (fun p e s m below meth c ls hsz C hP hl => ?_)
  subst hsz
  exact kX6_isSheet_P C σ x0 ls _ _ hl hP va_S.rf hf
set_option maxRecDepth 100000 in
set_option maxHeartbeats 4000000 in
theorem kX2_hasCell_P_b17 (C : s_X p s m meth c args cX2_hasCell (some .boolean) 2 RX2 G cy sa ad 21) (σ : Sg) (ls : Array Slot) (H : Heap) (locs : List Loc) (hl : lv_has ls 2 []) (hP : va_P G vwCl ((s_W1 cy ad sh) σ) H) (hS : va_S (s_A ad 21 s.heap.size) s.heap H locs) (hf : fX2_hasCell_P_b17 σ = some (re, σe)) : W p l e ({ frames := 0, cells := 0, slots := 0, locals := 0 } : Room) s m args below meth c H locs 0 0 (MQ below (s_Qi (s_W1 cy ad sh) G (s_A ad 21 s.heap.size) re σe) args s 0 0 (s_A ad 21 s.heap.size)) (F0 m 17 ls []) := by
  obtain ⟨hx, hb, hr, hml, hown, hts, hlk, hK, hE, hI⟩ := id C
  have hD : ∀ σ : Sg, va_D (s_A ad 21 s.heap.size) ((s_W1 cy ad sh) σ) := fun σ => s_D (s_W1_ad cy ad sh σ) hI (fun k hk => Or.inl ⟨k, hk, rfl⟩)
  unfold fX2_hasCell_P_b17 at hf
  refine lv_iconst (v := 0) hx hb dX2_hasCell_17 (by decide) ?_
  obtain ⟨he1, he2⟩ := s_ret hf
  exact W.zret hx hb hr rfl (fun t ht hW => ⟨⟨_, (), rfl, he1, s_fin (Wd := (s_W1 cy ad sh)) ht he2 hP⟩, hS.F ht⟩) hS.2.2 dX2_hasCell_18 hlk
set_option maxRecDepth 100000 in
set_option maxHeartbeats 4000000 in
theorem kX2_hasCell_P (C : s_X p s m meth c args cX2_hasCell (some .boolean) 2 RX2 G cy sa ad 21) (σ : Sg) (x1 : Int32) (ls : Array Slot) (H : Heap) (locs : List Loc) (hl : lv_has ls 2 [(0, .ref (ad 19)), (1, .int x1)]) (hP : va_P G vwCl ((s_W1 cy ad sh) σ) H) (hS : va_S (s_A ad 21 s.heap.size) s.heap H locs) (hf : fX2_hasCell_P σ x1 = some (re, σe)) : W p l e ({ frames := 0, cells := 0, slots := 0, locals := 0 } : Room) s m args below meth c H locs 0 0 (MQ below (s_Qi (s_W1 cy ad sh) G (s_A ad 21 s.heap.size) re σe) args s 0 0 (s_A ad 21 s.heap.size)) (F0 m 0 ls []) := by
  obtain ⟨hx, hb, hr, hml, hown, hts, hlk, hK, hE, hI⟩ := id C
  have hD : ∀ σ : Sg, va_D (s_A ad 21 s.heap.size) ((s_W1 cy ad sh) σ) := fun σ => s_D (s_W1_ad cy ad sh σ) hI (fun k hk => Or.inl ⟨k, hk, rfl⟩)
  unfold fX2_hasCell_P at hf
  refine lv_iload_n hx hb dX2_hasCell_0 rfl (lv_at hl 1 rfl) ?_
  refine lv_if_lt (tgt := 17) hx hb dX2_hasCell_1 (by decide) (fun c1 => ?_) (fun c1 => ?_)
  · rw [if_pos c1] at hf
    exact kX2_hasCell_P_b17 C σ _ _ _ (lv_sub hl [] rfl) hP hS hf
  · rw [if_neg c1] at hf
    refine lv_iload_n hx hb dX2_hasCell_4 rfl (lv_at hl 1 rfl) ?_
    refine lv_aload_n hx hb dX2_hasCell_5 rfl (lv_at hl 0 rfl) ?_
    refine va_get (D := G) (ci := 2) (v := .ref (ad 20)) (C := RX2) (T := TX2) (N := 2) hx hb hts inkX2 hown hK hP 19 rfl rfl 1 (by decide) (hts _ kw_713) (fun _ h9 => h9) rfl dX2_hasCell_6 ?_
    refine va_alen (v := (Int32.ofNat (Int32.toNatClampNeg (σ 19 1)))) hx hb hK hP 20 1 rfl rfl rfl dX2_hasCell_9 ?_
    refine lv_icmp_ge (tgt := 17) hx hb dX2_hasCell_10 (by decide) (fun c2 => ?_) (fun c2 => ?_)
    · rw [if_pos c2] at hf
      exact kX2_hasCell_P_b17 C σ _ _ _ (lv_sub hl [] rfl) hP hS hf
    · rw [if_neg c2] at hf
      refine lv_iconst (v := 1) hx hb dX2_hasCell_13 (by decide) ?_
      refine lv_goto (tgt := 18) hx hb dX2_hasCell_14 (by decide) ?_
      obtain ⟨he1, he2⟩ := s_ret hf
      exact W.zret hx hb hr rfl (fun t ht hW => ⟨⟨_, (), rfl, he1, s_fin (Wd := (s_W1 cy ad sh)) ht he2 hP⟩, hS.F ht⟩) hS.2.2 dX2_hasCell_18 hlk
theorem kcX2_hasCell_P {l : Launch} {G : va_G} {cy : Nat → ClassId} {sa : Nat × Nat} {ad : Nat → Nat} {sh : Nat → Option Nat} {sz : Nat} (hI : s_inj ad 21) (σ : Sg) (x1 : Int32) {re : Int32} {σe : Sg} (hf : fX2_hasCell_P σ x1 = some (re, σe)) : Met l yX2_hasCell (kW yX2_hasCell cX2_hasCell 2 (some .boolean)) ({ frames := 0, cells := 0, slots := 0, locals := 0 } : Room) (s_P (s_W1 cy ad sh) G cy sa ad 21 [.ref (ad 19), .int x1] sz σ) (s_Qi (s_W1 cy ad sh) G (s_A ad 21 sz) re σe) 0 0 (s_A ad 21 sz) := by
  refine s_met (own := RX2) (by decide) rfl hI (Nat.le_of_ble_eq_true rfl) (fun p e s m below meth c ls hsz C hP hl => ?_)
  subst hsz
  exact kX2_hasCell_P C σ x1 ls _ _ hl hP va_S.rf hf
set_option maxRecDepth 100000 in
set_option maxHeartbeats 4000000 in
theorem kX2_write_P_b39 (C : s_X p s m meth c args cX2_write none 3 RX2 G cy sa ad 21) (σ : Sg) (y1 : Int32) (y2 : Int32) (ls : Array Slot) (H : Heap) (locs : List Loc) (hl : lv_has ls 3 []) (hP : va_P G vwCl ((s_W1 cy ad sh) σ) H) (hS : va_S (s_A ad 21 s.heap.size) s.heap H locs) (hf : fX2_write_P_b39 σ y1 y2 = some σe) : W p l e ({ frames := 1, cells := 0, slots := 0, locals := 21 } : Room) s m args below meth c H locs 0 0 (MQ below (s_Qv (s_W1 cy ad sh) G (s_A ad 21 s.heap.size) σe) args s 0 0 (s_A ad 21 s.heap.size)) (F0 m 39 ls [.int y2, .int y1, .ref (ad 20)]) := by
  obtain ⟨hx, hb, hr, hml, hown, hts, hlk, hK, hE, hI⟩ := id C
  have hD : ∀ σ : Sg, va_D (s_A ad 21 s.heap.size) ((s_W1 cy ad sh) σ) := fun σ => s_D (s_W1_ad cy ad sh σ) hI (fun k hk => Or.inl ⟨k, hk, rfl⟩)
  unfold fX2_write_P_b39 at hf
  replace hf := s_gd_some hf
  obtain ⟨g1, hf⟩ := hf
  refine va_iast hx hb hK hP (hD _) hS 20 1 rfl rfl (s_in_of g1) dX2_write_39 (fun H locs hP _ hS => ?_)
  obtain ⟨σ2, eσ2⟩ : ∃ z : Sg, z = (s_up σ 20 (Int32.toNatClampNeg y1) y2) := ⟨_, rfl⟩
  replace hf := s_lt_at eσ2 hf
  replace hP : va_P G vwCl ((s_W1 cy ad sh) σ2) H := by rw [eσ2]; exact hP
  have he2 := Option.some.inj hf
  exact W.vret hx hb hr (fun t ht hW => ⟨⟨(), rfl, trivial, s_fin (Wd := (s_W1 cy ad sh)) ht he2 hP⟩, hS.F ht⟩) hS.2.2 dX2_write_40 hlk
set_option maxRecDepth 100000 in
set_option maxHeartbeats 4000000 in
theorem kX2_write_P (C : s_X p s m meth c args cX2_write none 3 RX2 G cy sa ad 21) (σ : Sg) (x1 : Int32) (x2 : Int32) (ls : Array Slot) (H : Heap) (locs : List Loc) (hl : lv_has ls 3 [(0, .ref (ad 19)), (1, .int x1), (2, .int x2)]) (hP : va_P G vwCl ((s_W1 cy ad sh) σ) H) (hS : va_S (s_A ad 21 s.heap.size) s.heap H locs) (hf : fX2_write_P σ x1 x2 = some σe) : W p l e ({ frames := 1, cells := 0, slots := 0, locals := 21 } : Room) s m args below meth c H locs 0 0 (MQ below (s_Qv (s_W1 cy ad sh) G (s_A ad 21 s.heap.size) σe) args s 0 0 (s_A ad 21 s.heap.size)) (F0 m 0 ls []) := by
  obtain ⟨hx, hb, hr, hml, hown, hts, hlk, hK, hE, hI⟩ := id C
  have hD : ∀ σ : Sg, va_D (s_A ad 21 s.heap.size) ((s_W1 cy ad sh) σ) := fun σ => s_D (s_W1_ad cy ad sh σ) hI (fun k hk => Or.inl ⟨k, hk, rfl⟩)
  unfold fX2_write_P at hf
  refine lv_aload_n hx hb dX2_write_0 rfl (lv_at hl 0 rfl) ?_
  refine lv_iload_n hx hb dX2_write_1 rfl (lv_at hl 1 rfl) ?_
  replace hf := s_bi_some hf
  obtain ⟨r3, σ1, hz2, hf⟩ := hf
  refine s_calli (nn := 1) C (kcX2_hasCell_P (l := l) (G := G) (cy := cy) (sa := sa) (sh := sh) hI (sz := H.size) σ x1 hz2) gk_X2_25 rfl rfl (by decide +kernel) ⟨Nat.le_of_ble_eq_true rfl, Nat.le_of_ble_eq_true rfl⟩ hP hS (q0 := 19) (ci := 2) rfl rfl rfl (As := [.int x1]) (rest := []) rfl rfl hl.1 (Nat.le_of_ble_eq_true rfl) dX2_write_2 (fun H locs hP hS => ?_)
  refine lv_if_eq (tgt := 40) hx hb dX2_write_5 (by decide) (fun c4 => ?_) (fun c4 => ?_)
  · rw [if_pos c4] at hf
    have he2 := Option.some.inj hf
    exact W.vret hx hb hr (fun t ht hW => ⟨⟨(), rfl, trivial, s_fin (Wd := (s_W1 cy ad sh)) ht he2 hP⟩, hS.F ht⟩) hS.2.2 dX2_write_40 hlk
  · rw [if_neg c4] at hf
    refine lv_aload_n hx hb dX2_write_8 rfl (lv_at hl 0 rfl) ?_
    refine va_get (D := G) (ci := 2) (v := .ref (ad 20)) (C := RX2) (T := TX2) (N := 2) hx hb hts inkX2 hown hK hP 19 rfl rfl 1 (by decide) (hts _ kw_713) (fun _ h9 => h9) rfl dX2_write_9 ?_
    refine lv_iload_n hx hb dX2_write_12 rfl (lv_at hl 1 rfl) ?_
    refine lv_aload_n hx hb dX2_write_13 rfl (lv_at hl 0 rfl) ?_
    refine va_get (D := G) (ci := 2) (v := .int (σ1 19 0)) (C := RX2) (T := TX2) (N := 2) hx hb hts inkX2 hown hK hP 19 rfl rfl 0 (by decide) (hts _ kw_711) (fun _ h9 => h9) rfl dX2_write_14 ?_
    refine lv_if_ne (tgt := 25) hx hb dX2_write_17 (by decide) (fun c5 => ?_) (fun c5 => ?_)
    · rw [if_neg c5] at hf
      refine lv_aload_n hx hb dX2_write_25 rfl (lv_at hl 0 rfl) ?_
      refine va_get (D := G) (ci := 2) (v := .int (σ1 19 0)) (C := RX2) (T := TX2) (N := 2) hx hb hts inkX2 hown hK hP 19 rfl rfl 0 (by decide) (hts _ kw_711) (fun _ h9 => h9) rfl dX2_write_26 ?_
      refine lv_iconst (v := 1) hx hb dX2_write_29 (by decide) ?_
      refine lv_icmp_ne (tgt := 38) hx hb dX2_write_30 (by decide) (fun c6 => ?_) (fun c6 => ?_)
      · rw [if_neg c6] at hf
        refine lv_iload_n hx hb dX2_write_38 rfl (lv_at hl 2 rfl) ?_
        exact kX2_write_P_b39 C σ1 x1 x2 _ _ _ (lv_sub hl [] rfl) hP hS hf
      · rw [if_pos c6] at hf
        refine lv_iload_n hx hb dX2_write_33 rfl (lv_at hl 2 rfl) ?_
        refine lv_i2s (v := (Int16.toInt32 (Int32.toInt16 x2))) hx hb dX2_write_34 rfl ?_
        refine lv_goto (tgt := 39) hx hb dX2_write_35 (by decide) ?_
        exact kX2_write_P_b39 C σ1 x1 (Int16.toInt32 (Int32.toInt16 x2)) _ _ _ (lv_sub hl [] rfl) hP hS hf
    · rw [if_pos c5] at hf
      refine lv_iload_n hx hb dX2_write_20 rfl (lv_at hl 2 rfl) ?_
      refine lv_i2b (v := (Int8.toInt32 (Int32.toInt8 x2))) hx hb dX2_write_21 rfl ?_
      refine lv_goto (tgt := 39) hx hb dX2_write_22 (by decide) ?_
      exact kX2_write_P_b39 C σ1 x1 (Int8.toInt32 (Int32.toInt8 x2)) _ _ _ (lv_sub hl [] rfl) hP hS hf
theorem kcX2_write_P {l : Launch} {G : va_G} {cy : Nat → ClassId} {sa : Nat × Nat} {ad : Nat → Nat} {sh : Nat → Option Nat} {sz : Nat} (hI : s_inj ad 21) (σ : Sg) (x1 : Int32) (x2 : Int32) {σe : Sg} (hf : fX2_write_P σ x1 x2 = some σe) : Met l yX2_write (kW yX2_write cX2_write 3 none) ({ frames := 1, cells := 0, slots := 0, locals := 21 } : Room) (s_P (s_W1 cy ad sh) G cy sa ad 21 [.ref (ad 19), .int x1, .int x2] sz σ) (s_Qv (s_W1 cy ad sh) G (s_A ad 21 sz) σe) 0 0 (s_A ad 21 sz) := by
  refine s_met (own := RX2) (by decide) rfl hI (Nat.le_of_ble_eq_true rfl) (fun p e s m below meth c ls hsz C hP hl => ?_)
  subst hsz
  exact kX2_write_P C σ x1 x2 ls _ _ hl hP va_S.rf hf
set_option maxRecDepth 100000 in
set_option maxHeartbeats 4000000 in
theorem kX6_lay_P_p (C : s_X p s m meth c args cX6_lay (some .int) 5 RX6 G cy sa ad 21) (σ : Sg) (x1 : Int32) (x2 : Int32) (x3 : Int32) (ls : Array Slot) (H : Heap) (locs : List Loc) (hsh : sh (Int32.toNatClampNeg x1) = some (ad 19)) (hl : lv_has ls 5 [(0, .ref (ad 0)), (1, .int x1), (2, .int x2), (3, .int x3)]) (hP : va_P G vwCl ((s_W1 cy ad sh) σ) H) (hS : va_S (s_A ad 21 s.heap.size) s.heap H locs) (hf : fX6_lay_P_p σ x1 x2 x3 = some (re, σe)) : W p l e ({ frames := 2, cells := 0, slots := 0, locals := 43 } : Room) s m args below meth c H locs 0 0 (MQ below (s_Qi (s_W1 cy ad sh) G (s_A ad 21 s.heap.size) re σe) args s 0 0 (s_A ad 21 s.heap.size)) (F0 m 0 ls []) := by
  obtain ⟨hx, hb, hr, hml, hown, hts, hlk, hK, hE, hI⟩ := id C
  have hD : ∀ σ : Sg, va_D (s_A ad 21 s.heap.size) ((s_W1 cy ad sh) σ) := fun σ => s_D (s_W1_ad cy ad sh σ) hI (fun k hk => Or.inl ⟨k, hk, rfl⟩)
  unfold fX6_lay_P_p at hf
  refine lv_iload_n hx hb dX6_lay_0 rfl (lv_at hl 1 rfl) ?_
  replace hf := s_bi_some hf
  obtain ⟨r3, σ1, hz2, hf⟩ := hf
  refine s_calliS (nn := 1) C (kcX6_isSheet_P (l := l) (G := G) (cy := cy) (sa := sa) (sh := sh) hI (sz := H.size) σ x1 hz2) gk_X6_222 rfl rfl (by decide +kernel) ⟨Nat.le_of_ble_eq_true rfl, Nat.le_of_ble_eq_true rfl⟩ hP hS (As := [.int x1]) (rest := []) rfl rfl hl.1 (Nat.le_of_ble_eq_true rfl) dX6_lay_1 (fun H locs hP hS => ?_)
  refine lv_if_ne (tgt := 9) hx hb dX6_lay_4 (by decide) (fun c4 => ?_) (fun c4 => ?_)
  · rw [if_neg c4] at hf
    refine lv_aload_n hx hb dX6_lay_9 rfl (lv_at hl 0 rfl) ?_
    refine va_get (D := G) (ci := 6) (v := .ref (ad 18)) (C := RX6) (T := TX6) (N := 9) hx hb hts inkX6 hown hK hP 0 rfl rfl 7 (by decide) (hts _ kw_237) (fun _ h9 => h9) rfl dX6_lay_10 ?_
    refine lv_iload_n hx hb dX6_lay_13 rfl (lv_at hl 1 rfl) ?_
    replace hf := s_gd_some hf
    obtain ⟨g11, hf⟩ := hf
    refine va_aldq hx hb hK hP 18 4 rfl rfl (s_in_of g11) dX6_lay_14 ?_
    refine W.eq (g2 := F0 m 15 ls [.ref (ad 19)]) (by rw [hsh]; rfl) ?_
    refine lv_astore (lv' := [(4, .ref (ad 19)), (0, .ref (ad 0)), (1, .int x1), (2, .int x2), (3, .int x3)]) hx hb dX6_lay_15 hl (by decide) rfl (fun ls hl => ?_)
    refine lv_aload hx hb dX6_lay_17 (lv_at hl 0 rfl) ?_
    refine lv_ifnonnull (tgt := 25) hx hb dX6_lay_19 (by decide) ?_
    refine lv_aload hx hb dX6_lay_25 (lv_at hl 0 rfl) ?_
    refine lv_iload_n hx hb dX6_lay_27 rfl (lv_at hl 3 rfl) ?_
    replace hf := s_bi_some hf
    obtain ⟨r7, σ5, hz6, hf⟩ := hf
    refine s_calli (nn := 1) C (kcX2_hasCell_P (l := l) (G := G) (cy := cy) (sa := sa) (sh := sh) hI (sz := H.size) σ1 x2 hz6) gk_X6_231 rfl rfl (by decide +kernel) ⟨Nat.le_of_ble_eq_true rfl, Nat.le_of_ble_eq_true rfl⟩ hP hS (q0 := 19) (ci := 2) rfl rfl rfl (As := [.int x2]) (rest := []) rfl rfl hl.1 (Nat.le_of_ble_eq_true rfl) dX6_lay_28 (fun H locs hP hS => ?_)
    refine lv_if_ne (tgt := 37) hx hb dX6_lay_31 (by decide) (fun c8 => ?_) (fun c8 => ?_)
    · rw [if_neg c8] at hf
      refine lv_aload hx hb dX6_lay_37 (lv_at hl 0 rfl) ?_
      refine lv_iload_n hx hb dX6_lay_39 rfl (lv_at hl 3 rfl) ?_
      refine lv_iload_n hx hb dX6_lay_40 rfl (lv_at hl 4 rfl) ?_
      replace hf := s_bv_some hf
      obtain ⟨σ9, hz10, hf⟩ := hf
      refine s_callv (nn := 2) C (kcX2_write_P (l := l) (G := G) (cy := cy) (sa := sa) (sh := sh) hI (sz := H.size) σ5 x2 x3 hz10) gk_X6_234 rfl rfl (by decide +kernel) ⟨Nat.le_of_ble_eq_true rfl, Nat.le_of_ble_eq_true rfl⟩ hP hS (q0 := 19) (ci := 2) rfl rfl rfl (As := [.int x2, .int x3]) (rest := []) rfl rfl hl.1 (Nat.le_of_ble_eq_true rfl) dX6_lay_41 (fun H locs hP hS => ?_)
      refine lv_iconst (v := 1) hx hb dX6_lay_44 (by decide) ?_
      obtain ⟨he1, he2⟩ := s_ret hf
      exact W.iret hx hb hr (fun t ht hW => ⟨⟨_, (), rfl, he1, s_fin (Wd := (s_W1 cy ad sh)) ht he2 hP⟩, hS.F ht⟩) hS.2.2 dX6_lay_45 hlk
    · rw [if_pos c8] at hf
      refine lv_bipush (v := -12) hx hb dX6_lay_34 (by decide) ?_
      obtain ⟨he1, he2⟩ := s_ret hf
      exact W.iret hx hb hr (fun t ht hW => ⟨⟨_, (), rfl, he1, s_fin (Wd := (s_W1 cy ad sh)) ht he2 hP⟩, hS.F ht⟩) hS.2.2 dX6_lay_36 hlk
  · rw [if_pos c4] at hf
    refine lv_iconst (v := -1) hx hb dX6_lay_7 (by decide) ?_
    obtain ⟨he1, he2⟩ := s_ret hf
    exact W.iret hx hb hr (fun t ht hW => ⟨⟨_, (), rfl, he1, s_fin (Wd := (s_W1 cy ad sh)) ht he2 hP⟩, hS.F ht⟩) hS.2.2 dX6_lay_8 hlk
theorem kcX6_lay_P_p {l : Launch} {G : va_G} {cy : Nat → ClassId} {sa : Nat × Nat} {ad : Nat → Nat} {sh : Nat → Option Nat} {sz : Nat} (hI : s_inj ad 21) (σ : Sg) (x1 : Int32) (x2 : Int32) (x3 : Int32) {re : Int32} {σe : Sg} (hsh : sh (Int32.toNatClampNeg x1) = some (ad 19)) (hf : fX6_lay_P_p σ x1 x2 x3 = some (re, σe)) : Met l yX6_lay (kW yX6_lay cX6_lay 5 (some .int)) ({ frames := 2, cells := 0, slots := 0, locals := 43 } : Room) (s_P (s_W1 cy ad sh) G cy sa ad 21 [.ref (ad 0), .int x1, .int x2, .int x3] sz σ) (s_Qi (s_W1 cy ad sh) G (s_A ad 21 sz) re σe) 0 0 (s_A ad 21 sz) := by
  refine s_met (own := RX6) (by decide) rfl hI (Nat.le_of_ble_eq_true rfl) (fun p e s m below meth c ls hsz C hP hl => ?_)
  subst hsz
  exact kX6_lay_P_p C σ x1 x2 x3 ls _ _ hsh hl hP va_S.rf hf
set_option maxRecDepth 100000 in
set_option maxHeartbeats 4000000 in
theorem kX6_tearAt (C : s_X p s m meth c args cX6_tearAt (some .int) 3 RX6 G cy sa ad 19) (σ : Sg) (x1 : Int32) (x2 : Int32) (ls : Array Slot) (H : Heap) (locs : List Loc) (hl : lv_has ls 3 [(0, .null), (1, .int x1), (2, .int x2)]) (hP : va_P G vwCl ((s_WC cy ad sh) σ) H) (hS : va_S (s_A ad 19 s.heap.size) s.heap H locs) (hf : fX6_tearAt σ x1 x2 = some (re, σe)) : W p l e ({ frames := 0, cells := 0, slots := 0, locals := 0 } : Room) s m args below meth c H locs 0 0 (MQ below (s_Qi (s_WC cy ad sh) G (s_A ad 19 s.heap.size) re σe) args s 0 0 (s_A ad 19 s.heap.size)) (F0 m 0 ls []) := by
  obtain ⟨hx, hb, hr, hml, hown, hts, hlk, hK, hE, hI⟩ := id C
  have hD : ∀ σ : Sg, va_D (s_A ad 19 s.heap.size) ((s_WC cy ad sh) σ) := fun σ => s_D (s_WC_ad cy ad sh σ) hI (fun k hk => Or.inl ⟨k, hk, rfl⟩)
  unfold fX6_tearAt at hf
  refine lv_aload_nN hx hb dX6_tearAt_0 rfl (lv_at hl 0 rfl) ?_
  refine lv_ifnonnullN hx hb dX6_tearAt_1 ?_
  refine lv_iconst (v := 1) hx hb dX6_tearAt_4 (by decide) ?_
  obtain ⟨he1, he2⟩ := s_ret hf
  exact W.iret hx hb hr (fun t ht hW => ⟨⟨_, (), rfl, he1, s_fin (Wd := (s_WC cy ad sh)) ht he2 hP⟩, hS.F ht⟩) hS.2.2 dX6_tearAt_5 hlk
theorem kcX6_tearAt {l : Launch} {G : va_G} {cy : Nat → ClassId} {sa : Nat × Nat} {ad : Nat → Nat} {sh : Nat → Option Nat} {sz : Nat} (hI : s_inj ad 19) (σ : Sg) (x1 : Int32) (x2 : Int32) {re : Int32} {σe : Sg} (hf : fX6_tearAt σ x1 x2 = some (re, σe)) : Met l yX6_tearAt (kW yX6_tearAt cX6_tearAt 3 (some .int)) ({ frames := 0, cells := 0, slots := 0, locals := 0 } : Room) (s_P (s_WC cy ad sh) G cy sa ad 19 [.null, .int x1, .int x2] sz σ) (s_Qi (s_WC cy ad sh) G (s_A ad 19 sz) re σe) 0 0 (s_A ad 19 sz) := by
  refine s_met (own := RX6) (by decide) rfl hI (Nat.le_of_ble_eq_true rfl) (fun p e s m below meth c ls hsz C hP hl => ?_)
  subst hsz
  exact kX6_tearAt C σ x1 x2 ls _ _ hl hP va_S.rf hf
set_option maxRecDepth 100000 in
set_option maxHeartbeats 4000000 in
theorem kX6_cellOf_b21 (C : s_X p s m meth c args cX6_cellOf (some .int) 2 RX6 G cy sa ad 19) (σ : Sg) (ls : Array Slot) (H : Heap) (locs : List Loc) (hl : lv_has ls 2 []) (hP : va_P G vwCl ((s_WC cy ad sh) σ) H) (hS : va_S (s_A ad 19 s.heap.size) s.heap H locs) (hf : fX6_cellOf_b21 σ = some (re, σe)) : W p l e ({ frames := 0, cells := 0, slots := 0, locals := 0 } : Room) s m args below meth c H locs 0 0 (MQ below (s_Qi (s_WC cy ad sh) G (s_A ad 19 s.heap.size) re σe) args s 0 0 (s_A ad 19 s.heap.size)) (F0 m 21 ls []) := by
  obtain ⟨hx, hb, hr, hml, hown, hts, hlk, hK, hE, hI⟩ := id C
  have hD : ∀ σ : Sg, va_D (s_A ad 19 s.heap.size) ((s_WC cy ad sh) σ) := fun σ => s_D (s_WC_ad cy ad sh σ) hI (fun k hk => Or.inl ⟨k, hk, rfl⟩)
  unfold fX6_cellOf_b21 at hf
  refine lv_iconst (v := 0) hx hb dX6_cellOf_21 (by decide) ?_
  obtain ⟨he1, he2⟩ := s_ret hf
  exact W.iret hx hb hr (fun t ht hW => ⟨⟨_, (), rfl, he1, s_fin (Wd := (s_WC cy ad sh)) ht he2 hP⟩, hS.F ht⟩) hS.2.2 dX6_cellOf_22 hlk
set_option maxRecDepth 100000 in
set_option maxHeartbeats 4000000 in
theorem kX6_cellOf (C : s_X p s m meth c args cX6_cellOf (some .int) 2 RX6 G cy sa ad 19) (σ : Sg) (x1 : Int32) (ls : Array Slot) (H : Heap) (locs : List Loc) (hl : lv_has ls 2 [(0, .null), (1, .int x1)]) (hP : va_P G vwCl ((s_WC cy ad sh) σ) H) (hS : va_S (s_A ad 19 s.heap.size) s.heap H locs) (hf : fX6_cellOf σ x1 = some (re, σe)) : W p l e ({ frames := 0, cells := 0, slots := 0, locals := 0 } : Room) s m args below meth c H locs 0 0 (MQ below (s_Qi (s_WC cy ad sh) G (s_A ad 19 s.heap.size) re σe) args s 0 0 (s_A ad 19 s.heap.size)) (F0 m 0 ls []) := by
  obtain ⟨hx, hb, hr, hml, hown, hts, hlk, hK, hE, hI⟩ := id C
  have hD : ∀ σ : Sg, va_D (s_A ad 19 s.heap.size) ((s_WC cy ad sh) σ) := fun σ => s_D (s_WC_ad cy ad sh σ) hI (fun k hk => Or.inl ⟨k, hk, rfl⟩)
  unfold fX6_cellOf at hf
  refine lv_aload_nN hx hb dX6_cellOf_0 rfl (lv_at hl 0 rfl) ?_
  refine lv_ifnullN (tgt := 21) hx hb dX6_cellOf_1 (by decide) ?_
  exact kX6_cellOf_b21 C σ _ _ _ (lv_sub hl [] rfl) hP hS hf
theorem kcX6_cellOf {l : Launch} {G : va_G} {cy : Nat → ClassId} {sa : Nat × Nat} {ad : Nat → Nat} {sh : Nat → Option Nat} {sz : Nat} (hI : s_inj ad 19) (σ : Sg) (x1 : Int32) {re : Int32} {σe : Sg} (hf : fX6_cellOf σ x1 = some (re, σe)) : Met l yX6_cellOf (kW yX6_cellOf cX6_cellOf 2 (some .int)) ({ frames := 0, cells := 0, slots := 0, locals := 0 } : Room) (s_P (s_WC cy ad sh) G cy sa ad 19 [.null, .int x1] sz σ) (s_Qi (s_WC cy ad sh) G (s_A ad 19 sz) re σe) 0 0 (s_A ad 19 sz) := by
  refine s_met (own := RX6) (by decide) rfl hI (Nat.le_of_ble_eq_true rfl) (fun p e s m below meth c ls hsz C hP hl => ?_)
  subst hsz
  exact kX6_cellOf C σ x1 ls _ _ hl hP va_S.rf hf
set_option maxRecDepth 100000 in
set_option maxHeartbeats 4000000 in
theorem kX6_read_n_b26 (C : s_X p s m meth c args cX6_read (some .int) 8 RX6 G cy sa ad 19) (σ : Sg) (ls : Array Slot) (H : Heap) (locs : List Loc) (hl : lv_has ls 8 []) (hP : va_P G vwCl ((s_WC cy ad sh) σ) H) (hS : va_S (s_A ad 19 s.heap.size) s.heap H locs) (hf : fX6_read_n_b26 σ = some (re, σe)) : W p l e ({ frames := 4, cells := 0, slots := 0, locals := 83 } : Room) s m args below meth c H locs 0 0 (MQ below (s_Qi (s_WC cy ad sh) G (s_A ad 19 s.heap.size) re σe) args s 0 0 (s_A ad 19 s.heap.size)) (F0 m 26 ls []) := by
  obtain ⟨hx, hb, hr, hml, hown, hts, hlk, hK, hE, hI⟩ := id C
  have hD : ∀ σ : Sg, va_D (s_A ad 19 s.heap.size) ((s_WC cy ad sh) σ) := fun σ => s_D (s_WC_ad cy ad sh σ) hI (fun k hk => Or.inl ⟨k, hk, rfl⟩)
  unfold fX6_read_n_b26 at hf
  refine lv_iconst (v := -1) hx hb dX6_read_26 (by decide) ?_
  obtain ⟨he1, he2⟩ := s_ret hf
  exact W.iret hx hb hr (fun t ht hW => ⟨⟨_, (), rfl, he1, s_fin (Wd := (s_WC cy ad sh)) ht he2 hP⟩, hS.F ht⟩) hS.2.2 dX6_read_27 hlk
set_option maxRecDepth 100000 in
set_option maxHeartbeats 4000000 in
theorem kX6_read_n_b115 (C : s_X p s m meth c args cX6_read (some .int) 8 RX6 G cy sa ad 19) (σ : Sg) (x6 : Int32) (x7 : Int32) (ls : Array Slot) (H : Heap) (locs : List Loc) (hl : lv_has ls 8 [(0, .ref (ad 0)), (6, .int x6), (7, .int x7)]) (hP : va_P G vwCl ((s_WC cy ad sh) σ) H) (hS : va_S (s_A ad 19 s.heap.size) s.heap H locs) (hf : fX6_read_n_b115 σ x6 x7 = some (re, σe)) : W p l e ({ frames := 4, cells := 0, slots := 0, locals := 83 } : Room) s m args below meth c H locs 0 0 (MQ below (s_Qi (s_WC cy ad sh) G (s_A ad 19 s.heap.size) re σe) args s 0 0 (s_A ad 19 s.heap.size)) (F0 m 115 ls []) := by
  obtain ⟨hx, hb, hr, hml, hown, hts, hlk, hK, hE, hI⟩ := id C
  have hD : ∀ σ : Sg, va_D (s_A ad 19 s.heap.size) ((s_WC cy ad sh) σ) := fun σ => s_D (s_WC_ad cy ad sh σ) hI (fun k hk => Or.inl ⟨k, hk, rfl⟩)
  unfold fX6_read_n_b115 at hf
  refine lv_aload_n hx hb dX6_read_115 rfl (lv_at hl 0 rfl) ?_
  refine lv_iload hx hb dX6_read_116 (lv_at hl 1 rfl) ?_
  refine va_put (D := G) (ci := 6) (v := .int x6) (ty := .int) (C := RX6) (T := TX6) (N := 9) hx hb hts inkX6 tyX6 tyX6_ok nmX6 hown hK hP (hD _) hS 0 rfl rfl 8 (by decide) (hts _ kw_238) (fun _ h9 => h9) rfl (by decide +kernel) rfl rfl (Nat.le_of_ble_eq_true rfl) dX6_read_118 (fun H locs hP _ hS => ?_)
  obtain ⟨σ1, eσ1⟩ : ∃ z : Sg, z = (s_up σ 0 8 x6) := ⟨_, rfl⟩
  replace hf := s_lt_at eσ1 hf
  replace hP : va_P G vwCl ((s_WC cy ad sh) σ1) H := by rw [eσ1]; exact hP
  refine lv_iload hx hb dX6_read_121 (lv_at hl 2 rfl) ?_
  obtain ⟨he1, he2⟩ := s_ret hf
  exact W.iret hx hb hr (fun t ht hW => ⟨⟨_, (), rfl, he1, s_fin (Wd := (s_WC cy ad sh)) ht he2 hP⟩, hS.F ht⟩) hS.2.2 dX6_read_123 hlk
set_option maxRecDepth 100000 in
set_option maxHeartbeats 4000000 in
theorem kX6_read_n_b43 (C : s_X p s m meth c args cX6_read (some .int) 8 RX6 G cy sa ad 19) (k43 : Sg → Int32 → Int32 → Int32 → Int32 → Int32 → Int32 → Int32 → Option (Int32 × Sg)) (hk43 : ∀ (σ : Sg) (x1 : Int32) (x2 : Int32) (x3 : Int32) (x4 : Int32) (x5 : Int32) (x6 : Int32) (x7 : Int32) (ls : Array Slot) (H : Heap) (locs : List Loc), sh (Int32.toNatClampNeg x1) = none → lv_has ls 8 [(0, .ref (ad 0)), (1, .int x1), (2, .int x2), (3, .int x3), (4, .int x4), (5, .int x5), (6, .int x6), (7, .int x7)] → va_P G vwCl ((s_WC cy ad sh) σ) H → va_S (s_A ad 19 s.heap.size) s.heap H locs → k43 σ x1 x2 x3 x4 x5 x6 x7 = some (re, σe) → W p l e ({ frames := 4, cells := 0, slots := 0, locals := 83 } : Room) s m args below meth c H locs 0 0 (MQ below (s_Qi (s_WC cy ad sh) G (s_A ad 19 s.heap.size) re σe) args s 0 0 (s_A ad 19 s.heap.size)) (F0 m 43 ls [])) (σ : Sg) (x1 : Int32) (x2 : Int32) (x3 : Int32) (x4 : Int32) (x5 : Int32) (x6 : Int32) (x7 : Int32) (ls : Array Slot) (H : Heap) (locs : List Loc) (hsh : sh (Int32.toNatClampNeg x1) = none) (hl : lv_has ls 8 [(0, .ref (ad 0)), (1, .int x1), (2, .int x2), (3, .int x3), (4, .int x4), (5, .int x5), (6, .int x6), (7, .int x7)]) (hP : va_P G vwCl ((s_WC cy ad sh) σ) H) (hS : va_S (s_A ad 19 s.heap.size) s.heap H locs) (hf : fX6_read_n_b43 k43 σ x1 x2 x3 x4 x5 x6 x7 = some (re, σe)) : W p l e ({ frames := 4, cells := 0, slots := 0, locals := 83 } : Room) s m args below meth c H locs 0 0 (MQ below (s_Qi (s_WC cy ad sh) G (s_A ad 19 s.heap.size) re σe) args s 0 0 (s_A ad 19 s.heap.size)) (F0 m 43 ls []) := by
  obtain ⟨hx, hb, hr, hml, hown, hts, hlk, hK, hE, hI⟩ := id C
  have hD : ∀ σ : Sg, va_D (s_A ad 19 s.heap.size) ((s_WC cy ad sh) σ) := fun σ => s_D (s_WC_ad cy ad sh σ) hI (fun k hk => Or.inl ⟨k, hk, rfl⟩)
  unfold fX6_read_n_b43 at hf
  refine lv_iload hx hb dX6_read_43 (lv_at hl 7 rfl) ?_
  refine lv_iload hx hb dX6_read_45 (lv_at hl 4 rfl) ?_
  refine lv_icmp_ge (tgt := 115) hx hb dX6_read_47 (by decide) (fun c1 => ?_) (fun c1 => ?_)
  · rw [if_pos c1] at hf
    exact kX6_read_n_b115 C σ x6 x7 _ _ _ (lv_sub hl [0, 6, 7] rfl) hP hS hf
  · rw [if_neg c1] at hf
    refine lv_aload_n hx hb dX6_read_50 rfl (lv_at hl 0 rfl) ?_
    refine va_get (D := G) (ci := 6) (v := .ref (ad 18)) (C := RX6) (T := TX6) (N := 9) hx hb hts inkX6 hown hK hP 0 rfl rfl 7 (by decide) (hts _ kw_237) (fun _ h9 => h9) rfl dX6_read_51 ?_
    refine lv_iload_n hx hb dX6_read_54 rfl (lv_at hl 1 rfl) ?_
    replace hf := s_gd_some hf
    obtain ⟨g16, hf⟩ := hf
    refine va_aldq hx hb hK hP 18 4 rfl rfl (s_in_of g16) dX6_read_55 ?_
    refine W.eq (g2 := F0 m 56 ls [.null]) (by rw [hsh]; rfl) ?_
    refine lv_iload_n hx hb dX6_read_56 rfl (lv_at hl 2 rfl) ?_
    refine lv_iload_n hx hb dX6_read_57 rfl (lv_at hl 3 rfl) ?_
    refine lv_iload hx hb dX6_read_58 (lv_at hl 7 rfl) ?_
    refine lv_iadd hx hb dX6_read_60 ?_
    replace hf := s_bi_some hf
    obtain ⟨r4, σ2, hz3, hf⟩ := hf
    refine s_calliS (nn := 3) C (kcX6_tearAt (l := l) (G := G) (cy := cy) (sa := sa) (sh := sh) hI (sz := H.size) σ x2 (x3 + x7) hz3) gk_X6_237 rfl rfl (by decide +kernel) ⟨Nat.le_of_ble_eq_true rfl, Nat.le_of_ble_eq_true rfl⟩ hP hS (As := [.null, .int x2, .int (x3 + x7)]) (rest := []) rfl rfl hl.1 (Nat.le_of_ble_eq_true rfl) dX6_read_61 (fun H locs hP hS => ?_)
    refine lv_istore (lv' := [(6, .int r4), (0, .ref (ad 0)), (1, .int x1), (2, .int x2), (3, .int x3), (4, .int x4), (5, .int x5), (7, .int x7)]) hx hb dX6_read_64 hl (by decide) rfl (fun ls hl => ?_)
    refine lv_iload hx hb dX6_read_66 (lv_at hl 0 rfl) ?_
    refine lv_if_eq (tgt := 74) hx hb dX6_read_68 (by decide) (fun c5 => ?_) (fun c5 => ?_)
    · rw [if_pos c5] at hf
      refine lv_aload_n hx hb dX6_read_74 rfl (lv_at hl 1 rfl) ?_
      refine lv_aload_n hx hb dX6_read_75 rfl (lv_at hl 1 rfl) ?_
      refine va_get (D := G) (ci := 6) (v := .ref (ad 18)) (C := RX6) (T := TX6) (N := 9) hx hb hts inkX6 hown hK hP 0 rfl rfl 7 (by decide) (hts _ kw_237) (fun _ h9 => h9) rfl dX6_read_76 ?_
      refine lv_iload_n hx hb dX6_read_79 rfl (lv_at hl 2 rfl) ?_
      replace hf := s_gd_some hf
      obtain ⟨g15, hf⟩ := hf
      refine va_aldq hx hb hK hP 18 4 rfl rfl (s_in_of g15) dX6_read_80 ?_
      refine W.eq (g2 := F0 m 81 ls [.null, .ref (ad 0)]) (by rw [hsh]; rfl) ?_
      refine lv_iload_n hx hb dX6_read_81 rfl (lv_at hl 4 rfl) ?_
      refine lv_iload hx hb dX6_read_82 (lv_at hl 7 rfl) ?_
      refine lv_iadd hx hb dX6_read_84 ?_
      replace hf := s_bi_some hf
      obtain ⟨r8, σ6, hz7, hf⟩ := hf
      refine s_calliS (nn := 2) C (kcX6_cellOf (l := l) (G := G) (cy := cy) (sa := sa) (sh := sh) hI (sz := H.size) σ2 (x3 + x7) hz7) gk_X6_241 rfl rfl (by decide +kernel) ⟨Nat.le_of_ble_eq_true rfl, Nat.le_of_ble_eq_true rfl⟩ hP hS (As := [.null, .int (x3 + x7)]) (rest := [.ref (ad 0)]) rfl rfl hl.1 (Nat.le_of_ble_eq_true rfl) dX6_read_85 (fun H locs hP hS => ?_)
      replace hf := s_bi_some hf
      obtain ⟨r11, σ9, hz10, hf⟩ := hf
      refine s_calli (nn := 1) C (kcX6_add (l := l) (G := G) (cy := cy) (sa := sa) (sh := sh) hI (sz := H.size) σ6 r8 hz10) gk_X6_245 rfl rfl (by decide +kernel) ⟨Nat.le_of_ble_eq_true rfl, Nat.le_of_ble_eq_true rfl⟩ hP hS (q0 := 0) (ci := 6) rfl rfl rfl (As := [.int r8]) (rest := []) rfl rfl hl.1 (Nat.le_of_ble_eq_true rfl) dX6_read_88 (fun H locs hP hS => ?_)
      refine lv_if_ge (tgt := 109) hx hb dX6_read_91 (by decide) (fun c12 => ?_) (fun c12 => ?_)
      · rw [if_pos c12] at hf
        obtain ⟨t13, et13⟩ : ∃ z : Int32, z = (x7 + 1) := ⟨_, rfl⟩
        replace hf := s_lt_at et13 hf
        refine lv_iinc (v := t13) (lv' := [(7, .int t13), (6, .int r4), (0, .ref (ad 0)), (1, .int x1), (2, .int x2), (3, .int x3), (4, .int x4), (5, .int x5)]) hx hb dX6_read_109 hl (k := 7) rfl (by rw [et13]; rfl) (by decide) rfl (fun ls hl => ?_)
        refine lv_goto (tgt := 43) hx hb dX6_read_112 (by decide) ?_
        exact hk43 σ9 x1 x2 x3 x4 x5 r4 t13 _ _ _ hsh (lv_sub hl [2, 3, 4, 5, 6, 7, 1, 0] rfl) hP hS hf
      · rw [if_neg c12] at hf
        refine lv_aload_n hx hb dX6_read_94 rfl (lv_at hl 1 rfl) ?_
        refine va_get (D := G) (ci := 6) (v := .ref (ad 6)) (C := RX6) (T := TX6) (N := 9) hx hb hts inkX6 hown hK hP 0 rfl rfl 2 (by decide) (hts _ kw_232) (fun _ h9 => h9) rfl dX6_read_95 ?_
        refine lv_iload hx hb dX6_read_98 (lv_at hl 6 rfl) ?_
        refine va_putN (D := G) (ci := 1) (v := .int x5) (ty := .int) (C := RX1) (T := TX1) (N := 8) hx hb hts inkX1 tyX1 tyX1_ok nmX1 hown hK hP (hD _) hS 6 rfl rfl 1 (by decide) (kn_X6_88 hE) (fun _ h9 => h9) rfl (by decide +kernel) rfl rfl (Nat.le_of_ble_eq_true rfl) dX6_read_100 (fun H locs hP _ hS => ?_)
        obtain ⟨σ14, eσ14⟩ : ∃ z : Sg, z = (s_up σ9 6 1 x5) := ⟨_, rfl⟩
        replace hf := s_lt_at eσ14 hf
        replace hP : va_P G vwCl ((s_WC cy ad sh) σ14) H := by rw [eσ14]; exact hP
        refine lv_bipush (v := -20) hx hb dX6_read_103 (by decide) ?_
        refine lv_iload hx hb dX6_read_105 (lv_at hl 7 rfl) ?_
        refine lv_isub hx hb dX6_read_107 ?_
        obtain ⟨he1, he2⟩ := s_ret hf
        exact W.iret hx hb hr (fun t ht hW => ⟨⟨_, (), rfl, he1, s_fin (Wd := (s_WC cy ad sh)) ht he2 hP⟩, hS.F ht⟩) hS.2.2 dX6_read_108 hlk
    · rw [if_neg c5] at hf
      refine lv_goto (tgt := 115) hx hb dX6_read_71 (by decide) ?_
      exact kX6_read_n_b115 C σ2 r4 x7 _ _ _ (lv_sub hl [1, 0, 7] rfl) hP hS hf
set_option maxRecDepth 100000 in
set_option maxHeartbeats 4000000 in
theorem kX6_read_n_b43_L (C : s_X p s m meth c args cX6_read (some .int) 8 RX6 G cy sa ad 19) : ∀ (n : Nat), ∀ (σ : Sg) (x1 : Int32) (x2 : Int32) (x3 : Int32) (x4 : Int32) (x5 : Int32) (x6 : Int32) (x7 : Int32) (ls : Array Slot) (H : Heap) (locs : List Loc), sh (Int32.toNatClampNeg x1) = none → lv_has ls 8 [(0, .ref (ad 0)), (1, .int x1), (2, .int x2), (3, .int x3), (4, .int x4), (5, .int x5), (6, .int x6), (7, .int x7)] → va_P G vwCl ((s_WC cy ad sh) σ) H → va_S (s_A ad 19 s.heap.size) s.heap H locs → fX6_read_n_b43_L n σ x1 x2 x3 x4 x5 x6 x7 = some (re, σe) → W p l e ({ frames := 4, cells := 0, slots := 0, locals := 83 } : Room) s m args below meth c H locs 0 0 (MQ below (s_Qi (s_WC cy ad sh) G (s_A ad 19 s.heap.size) re σe) args s 0 0 (s_A ad 19 s.heap.size)) (F0 m 43 ls []) := by
  intro n
  induction n with
  | zero => intro σ x1 x2 x3 x4 x5 x6 x7 ls H locs hsh hl hP hS hf; exact absurd (show (none : Option (Int32 × Sg)) = some (re, σe) from hf) (by intro h; cases h)
  | succ n ih => intro σ x1 x2 x3 x4 x5 x6 x7 ls H locs hsh hl hP hS hf; exact kX6_read_n_b43 C (fX6_read_n_b43_L n) ih σ x1 x2 x3 x4 x5 x6 x7 ls H locs hsh hl hP hS hf
set_option maxRecDepth 100000 in
set_option maxHeartbeats 4000000 in
theorem kX6_read_n (C : s_X p s m meth c args cX6_read (some .int) 8 RX6 G cy sa ad 19) (σ : Sg) (x1 : Int32) (x2 : Int32) (x3 : Int32) (x4 : Int32) (ls : Array Slot) (H : Heap) (locs : List Loc) (hsh : sh (Int32.toNatClampNeg x1) = none) (hl : lv_has ls 8 [(0, .ref (ad 0)), (1, .int x1), (2, .int x2), (3, .int x3), (4, .int x4)]) (hP : va_P G vwCl ((s_WC cy ad sh) σ) H) (hS : va_S (s_A ad 19 s.heap.size) s.heap H locs) (hf : fX6_read_n σ x1 x2 x3 x4 = some (re, σe)) : W p l e ({ frames := 4, cells := 0, slots := 0, locals := 83 } : Room) s m args below meth c H locs 0 0 (MQ below (s_Qi (s_WC cy ad sh) G (s_A ad 19 s.heap.size) re σe) args s 0 0 (s_A ad 19 s.heap.size)) (F0 m 0 ls []) := by
  obtain ⟨hx, hb, hr, hml, hown, hts, hlk, hK, hE, hI⟩ := id C
  have hD : ∀ σ : Sg, va_D (s_A ad 19 s.heap.size) ((s_WC cy ad sh) σ) := fun σ => s_D (s_WC_ad cy ad sh σ) hI (fun k hk => Or.inl ⟨k, hk, rfl⟩)
  unfold fX6_read_n at hf
  refine lv_iload_n hx hb dX6_read_0 rfl (lv_at hl 1 rfl) ?_
  replace hf := s_bi_some hf
  obtain ⟨r3, σ1, hz2, hf⟩ := hf
  refine s_calliS (nn := 1) C (kcX6_isSheet (l := l) (G := G) (cy := cy) (sa := sa) (sh := sh) hI (sz := H.size) σ x1 hz2) gk_X6_222 rfl rfl (by decide +kernel) ⟨Nat.le_of_ble_eq_true rfl, Nat.le_of_ble_eq_true rfl⟩ hP hS (As := [.int x1]) (rest := []) rfl rfl hl.1 (Nat.le_of_ble_eq_true rfl) dX6_read_1 (fun H locs hP hS => ?_)
  refine lv_if_eq (tgt := 26) hx hb dX6_read_4 (by decide) (fun c4 => ?_) (fun c4 => ?_)
  · rw [if_pos c4] at hf
    exact kX6_read_n_b26 C σ1 _ _ _ (lv_sub hl [] rfl) hP hS hf
  · rw [if_neg c4] at hf
    refine lv_iload_n hx hb dX6_read_7 rfl (lv_at hl 2 rfl) ?_
    replace hf := s_bi_some hf
    obtain ⟨r7, σ5, hz6, hf⟩ := hf
    refine s_calliS (nn := 1) C (kcX6_isLane (l := l) (G := G) (cy := cy) (sa := sa) (sh := sh) hI (sz := H.size) σ1 x2 hz6) gk_X6_225 rfl rfl (by decide +kernel) ⟨Nat.le_of_ble_eq_true rfl, Nat.le_of_ble_eq_true rfl⟩ hP hS (As := [.int x2]) (rest := []) rfl rfl hl.1 (Nat.le_of_ble_eq_true rfl) dX6_read_8 (fun H locs hP hS => ?_)
    refine lv_if_eq (tgt := 26) hx hb dX6_read_11 (by decide) (fun c8 => ?_) (fun c8 => ?_)
    · rw [if_pos c8] at hf
      exact kX6_read_n_b26 C σ5 _ _ _ (lv_sub hl [] rfl) hP hS hf
    · rw [if_neg c8] at hf
      refine lv_iload hx hb dX6_read_14 (lv_at hl 4 rfl) ?_
      refine lv_if_lt (tgt := 26) hx hb dX6_read_16 (by decide) (fun c9 => ?_) (fun c9 => ?_)
      · rw [if_pos c9] at hf
        exact kX6_read_n_b26 C σ5 _ _ _ (lv_sub hl [] rfl) hP hS hf
      · rw [if_neg c9] at hf
        refine lv_iload hx hb dX6_read_19 (lv_at hl 4 rfl) ?_
        refine lv_bipush (v := 40) hx hb dX6_read_21 (by decide) ?_
        refine lv_icmp_le (tgt := 28) hx hb dX6_read_23 (by decide) (fun c10 => ?_) (fun c10 => ?_)
        · rw [if_pos c10] at hf
          refine lv_aload_n hx hb dX6_read_28 rfl (lv_at hl 0 rfl) ?_
          refine va_get (D := G) (ci := 6) (v := .ref (ad 6)) (C := RX6) (T := TX6) (N := 9) hx hb hts inkX6 hown hK hP 0 rfl rfl 2 (by decide) (hts _ kw_232) (fun _ h9 => h9) rfl dX6_read_29 ?_
          refine va_getN (D := G) (ci := 1) (v := .int (σ5 6 1)) (C := RX1) (T := TX1) (N := 8) hx hb hts inkX1 hown hK hP 6 rfl rfl 1 (by decide) (kn_X6_88 hE) (fun _ h9 => h9) rfl dX6_read_32 ?_
          refine lv_topi (fun t11 et11 => ?_)
          replace hf := s_lt_at et11 hf
          refine lv_istore (lv' := [(5, .int t11), (0, .ref (ad 0)), (1, .int x1), (2, .int x2), (3, .int x3), (4, .int x4)]) hx hb dX6_read_35 hl (by decide) rfl (fun ls hl => ?_)
          refine lv_iconst (v := 0) hx hb dX6_read_37 (by decide) ?_
          refine lv_istore (lv' := [(6, .int (0 : Int32)), (5, .int t11), (0, .ref (ad 0)), (1, .int x1), (2, .int x2), (3, .int x3), (4, .int x4)]) hx hb dX6_read_38 hl (by decide) rfl (fun ls hl => ?_)
          refine lv_iconst (v := 0) hx hb dX6_read_40 (by decide) ?_
          refine lv_istore (lv' := [(7, .int (0 : Int32)), (6, .int (0 : Int32)), (5, .int t11), (0, .ref (ad 0)), (1, .int x1), (2, .int x2), (3, .int x3), (4, .int x4)]) hx hb dX6_read_41 hl (by decide) rfl (fun ls hl => ?_)
          exact kX6_read_n_b43_L C s_fu σ5 x1 x2 x3 x4 t11 (0 : Int32) (0 : Int32) _ _ _ hsh (lv_sub hl [3, 4, 5, 6, 7, 2, 1, 0] rfl) hP hS hf
        · rw [if_neg c10] at hf
          exact kX6_read_n_b26 C σ5 _ _ _ (lv_sub hl [] rfl) hP hS hf
theorem kcX6_read_n {l : Launch} {G : va_G} {cy : Nat → ClassId} {sa : Nat × Nat} {ad : Nat → Nat} {sh : Nat → Option Nat} {sz : Nat} (hI : s_inj ad 19) (σ : Sg) (x1 : Int32) (x2 : Int32) (x3 : Int32) (x4 : Int32) {re : Int32} {σe : Sg} (hsh : sh (Int32.toNatClampNeg x1) = none) (hf : fX6_read_n σ x1 x2 x3 x4 = some (re, σe)) : Met l yX6_read (kW yX6_read cX6_read 8 (some .int)) ({ frames := 4, cells := 0, slots := 0, locals := 83 } : Room) (s_P (s_WC cy ad sh) G cy sa ad 19 [.ref (ad 0), .int x1, .int x2, .int x3, .int x4] sz σ) (s_Qi (s_WC cy ad sh) G (s_A ad 19 sz) re σe) 0 0 (s_A ad 19 sz) := by
  refine s_met (own := RX6) (by decide) rfl hI (Nat.le_of_ble_eq_true rfl) (fun p e s m below meth c ls hsz C hP hl => ?_)
  subst hsz
  exact kX6_read_n C σ x1 x2 x3 x4 ls _ _ hsh hl hP va_S.rf hf
set_option maxRecDepth 100000 in
set_option maxHeartbeats 4000000 in
theorem kX6_isLane_P_b13 (C : s_X p s m meth c args cX6_isLane (some .boolean) 1 RX6 G cy sa ad 21) (σ : Sg) (ls : Array Slot) (H : Heap) (locs : List Loc) (hl : lv_has ls 1 []) (hP : va_P G vwCl ((s_W1 cy ad sh) σ) H) (hS : va_S (s_A ad 21 s.heap.size) s.heap H locs) (hf : fX6_isLane_P_b13 σ = some (re, σe)) : W p l e ({ frames := 0, cells := 0, slots := 0, locals := 0 } : Room) s m args below meth c H locs 0 0 (MQ below (s_Qi (s_W1 cy ad sh) G (s_A ad 21 s.heap.size) re σe) args s 0 0 (s_A ad 21 s.heap.size)) (F0 m 13 ls []) := by
  obtain ⟨hx, hb, hr, hml, hown, hts, hlk, hK, hE, hI⟩ := id C
  have hD : ∀ σ : Sg, va_D (s_A ad 21 s.heap.size) ((s_W1 cy ad sh) σ) := fun σ => s_D (s_W1_ad cy ad sh σ) hI (fun k hk => Or.inl ⟨k, hk, rfl⟩)
  unfold fX6_isLane_P_b13 at hf
  refine lv_iconst (v := 0) hx hb dX6_isLane_13 (by decide) ?_
  obtain ⟨he1, he2⟩ := s_ret hf
  exact W.zret hx hb hr rfl (fun t ht hW => ⟨⟨_, (), rfl, he1, s_fin (Wd := (s_W1 cy ad sh)) ht he2 hP⟩, hS.F ht⟩) hS.2.2 dX6_isLane_14 hlk
set_option maxRecDepth 100000 in
set_option maxHeartbeats 4000000 in
theorem kX6_isLane_P (C : s_X p s m meth c args cX6_isLane (some .boolean) 1 RX6 G cy sa ad 21) (σ : Sg) (x0 : Int32) (ls : Array Slot) (H : Heap) (locs : List Loc) (hl : lv_has ls 1 [(0, .int x0)]) (hP : va_P G vwCl ((s_W1 cy ad sh) σ) H) (hS : va_S (s_A ad 21 s.heap.size) s.heap H locs) (hf : fX6_isLane_P σ x0 = some (re, σe)) : W p l e ({ frames := 0, cells := 0, slots := 0, locals := 0 } : Room) s m args below meth c H locs 0 0 (MQ below (s_Qi (s_W1 cy ad sh) G (s_A ad 21 s.heap.size) re σe) args s 0 0 (s_A ad 21 s.heap.size)) (F0 m 0 ls []) := by
  obtain ⟨hx, hb, hr, hml, hown, hts, hlk, hK, hE, hI⟩ := id C
  have hD : ∀ σ : Sg, va_D (s_A ad 21 s.heap.size) ((s_W1 cy ad sh) σ) := fun σ => s_D (s_W1_ad cy ad sh σ) hI (fun k hk => Or.inl ⟨k, hk, rfl⟩)
  unfold fX6_isLane_P at hf
  refine lv_iload_n hx hb dX6_isLane_0 rfl (lv_at hl 0 rfl) ?_
  refine lv_if_lt (tgt := 13) hx hb dX6_isLane_1 (by decide) (fun c1 => ?_) (fun c1 => ?_)
  · rw [if_pos c1] at hf
    exact kX6_isLane_P_b13 C σ _ _ _ (lv_sub hl [] rfl) hP hS hf
  · rw [if_neg c1] at hf
    refine lv_iload_n hx hb dX6_isLane_4 rfl (lv_at hl 0 rfl) ?_
    refine lv_iconst (v := 2) hx hb dX6_isLane_5 (by decide) ?_
    refine lv_icmp_gt (tgt := 13) hx hb dX6_isLane_6 (by decide) (fun c2 => ?_) (fun c2 => ?_)
    · rw [if_pos c2] at hf
      exact kX6_isLane_P_b13 C σ _ _ _ (lv_sub hl [] rfl) hP hS hf
    · rw [if_neg c2] at hf
      refine lv_iconst (v := 1) hx hb dX6_isLane_9 (by decide) ?_
      refine lv_goto (tgt := 14) hx hb dX6_isLane_10 (by decide) ?_
      obtain ⟨he1, he2⟩ := s_ret hf
      exact W.zret hx hb hr rfl (fun t ht hW => ⟨⟨_, (), rfl, he1, s_fin (Wd := (s_W1 cy ad sh)) ht he2 hP⟩, hS.F ht⟩) hS.2.2 dX6_isLane_14 hlk
theorem kcX6_isLane_P {l : Launch} {G : va_G} {cy : Nat → ClassId} {sa : Nat × Nat} {ad : Nat → Nat} {sh : Nat → Option Nat} {sz : Nat} (hI : s_inj ad 21) (σ : Sg) (x0 : Int32) {re : Int32} {σe : Sg} (hf : fX6_isLane_P σ x0 = some (re, σe)) : Met l yX6_isLane (kW yX6_isLane cX6_isLane 1 (some .boolean)) ({ frames := 0, cells := 0, slots := 0, locals := 0 } : Room) (s_P (s_W1 cy ad sh) G cy sa ad 21 [.int x0] sz σ) (s_Qi (s_W1 cy ad sh) G (s_A ad 21 sz) re σe) 0 0 (s_A ad 21 sz) := by
  refine s_met (own := RX6) (by decide) rfl hI (Nat.le_of_ble_eq_true rfl) (fun p e s m below meth c ls hsz C hP hl => ?_)
  subst hsz
  exact kX6_isLane_P C σ x0 ls _ _ hl hP va_S.rf hf
set_option maxRecDepth 100000 in
set_option maxHeartbeats 4000000 in
theorem kX6_tearAt_P (C : s_X p s m meth c args cX6_tearAt (some .int) 3 RX6 G cy sa ad 21) (σ : Sg) (x1 : Int32) (x2 : Int32) (ls : Array Slot) (H : Heap) (locs : List Loc) (hl : lv_has ls 3 [(0, .ref (ad 19)), (1, .int x1), (2, .int x2)]) (hP : va_P G vwCl ((s_W1 cy ad sh) σ) H) (hS : va_S (s_A ad 21 s.heap.size) s.heap H locs) (hf : fX6_tearAt_P σ x1 x2 = some (re, σe)) : W p l e ({ frames := 1, cells := 0, slots := 0, locals := 21 } : Room) s m args below meth c H locs 0 0 (MQ below (s_Qi (s_W1 cy ad sh) G (s_A ad 21 s.heap.size) re σe) args s 0 0 (s_A ad 21 s.heap.size)) (F0 m 0 ls []) := by
  obtain ⟨hx, hb, hr, hml, hown, hts, hlk, hK, hE, hI⟩ := id C
  have hD : ∀ σ : Sg, va_D (s_A ad 21 s.heap.size) ((s_W1 cy ad sh) σ) := fun σ => s_D (s_W1_ad cy ad sh σ) hI (fun k hk => Or.inl ⟨k, hk, rfl⟩)
  unfold fX6_tearAt_P at hf
  refine lv_aload_n hx hb dX6_tearAt_0 rfl (lv_at hl 0 rfl) ?_
  refine lv_ifnonnull (tgt := 6) hx hb dX6_tearAt_1 (by decide) ?_
  refine lv_aload_n hx hb dX6_tearAt_6 rfl (lv_at hl 0 rfl) ?_
  refine va_getN (D := G) (ci := 2) (v := .int (σ 19 0)) (C := RX2) (T := TX2) (N := 2) hx hb hts inkX2 hown hK hP 19 rfl rfl 0 (by decide) (kn_X6_267 hE) (fun _ h9 => h9) rfl dX6_tearAt_7 ?_
  refine lv_iload_n hx hb dX6_tearAt_10 rfl (lv_at hl 1 rfl) ?_
  refine lv_icmp_eq (tgt := 16) hx hb dX6_tearAt_11 (by decide) (fun c1 => ?_) (fun c1 => ?_)
  · rw [if_pos c1] at hf
    refine lv_aload_n hx hb dX6_tearAt_16 rfl (lv_at hl 0 rfl) ?_
    refine lv_iload_n hx hb dX6_tearAt_17 rfl (lv_at hl 2 rfl) ?_
    replace hf := s_bi_some hf
    obtain ⟨r4, σ2, hz3, hf⟩ := hf
    refine s_calli (nn := 1) C (kcX2_hasCell_P (l := l) (G := G) (cy := cy) (sa := sa) (sh := sh) hI (sz := H.size) σ x2 hz3) gk_X6_231 rfl rfl (by decide +kernel) ⟨Nat.le_of_ble_eq_true rfl, Nat.le_of_ble_eq_true rfl⟩ hP hS (q0 := 19) (ci := 2) rfl rfl rfl (As := [.int x2]) (rest := []) rfl rfl hl.1 (Nat.le_of_ble_eq_true rfl) dX6_tearAt_18 (fun H locs hP hS => ?_)
    refine lv_if_eq (tgt := 28) hx hb dX6_tearAt_21 (by decide) (fun c5 => ?_) (fun c5 => ?_)
    · rw [if_pos c5] at hf
      refine lv_iconst (v := 2) hx hb dX6_tearAt_28 (by decide) ?_
      obtain ⟨he1, he2⟩ := s_ret hf
      exact W.iret hx hb hr (fun t ht hW => ⟨⟨_, (), rfl, he1, s_fin (Wd := (s_W1 cy ad sh)) ht he2 hP⟩, hS.F ht⟩) hS.2.2 dX6_tearAt_29 hlk
    · rw [if_neg c5] at hf
      refine lv_iconst (v := 0) hx hb dX6_tearAt_24 (by decide) ?_
      refine lv_goto (tgt := 29) hx hb dX6_tearAt_25 (by decide) ?_
      obtain ⟨he1, he2⟩ := s_ret hf
      exact W.iret hx hb hr (fun t ht hW => ⟨⟨_, (), rfl, he1, s_fin (Wd := (s_W1 cy ad sh)) ht he2 hP⟩, hS.F ht⟩) hS.2.2 dX6_tearAt_29 hlk
  · rw [if_neg c1] at hf
    refine lv_iconst (v := 3) hx hb dX6_tearAt_14 (by decide) ?_
    obtain ⟨he1, he2⟩ := s_ret hf
    exact W.iret hx hb hr (fun t ht hW => ⟨⟨_, (), rfl, he1, s_fin (Wd := (s_W1 cy ad sh)) ht he2 hP⟩, hS.F ht⟩) hS.2.2 dX6_tearAt_15 hlk
theorem kcX6_tearAt_P {l : Launch} {G : va_G} {cy : Nat → ClassId} {sa : Nat × Nat} {ad : Nat → Nat} {sh : Nat → Option Nat} {sz : Nat} (hI : s_inj ad 21) (σ : Sg) (x1 : Int32) (x2 : Int32) {re : Int32} {σe : Sg} (hf : fX6_tearAt_P σ x1 x2 = some (re, σe)) : Met l yX6_tearAt (kW yX6_tearAt cX6_tearAt 3 (some .int)) ({ frames := 1, cells := 0, slots := 0, locals := 21 } : Room) (s_P (s_W1 cy ad sh) G cy sa ad 21 [.ref (ad 19), .int x1, .int x2] sz σ) (s_Qi (s_W1 cy ad sh) G (s_A ad 21 sz) re σe) 0 0 (s_A ad 21 sz) := by
  refine s_met (own := RX6) (by decide) rfl hI (Nat.le_of_ble_eq_true rfl) (fun p e s m below meth c ls hsz C hP hl => ?_)
  subst hsz
  exact kX6_tearAt_P C σ x1 x2 ls _ _ hl hP va_S.rf hf
set_option maxRecDepth 100000 in
set_option maxHeartbeats 4000000 in
theorem kX6_cellOf_P_b21 (C : s_X p s m meth c args cX6_cellOf (some .int) 2 RX6 G cy sa ad 21) (σ : Sg) (ls : Array Slot) (H : Heap) (locs : List Loc) (hl : lv_has ls 2 []) (hP : va_P G vwCl ((s_W1 cy ad sh) σ) H) (hS : va_S (s_A ad 21 s.heap.size) s.heap H locs) (hf : fX6_cellOf_P_b21 σ = some (re, σe)) : W p l e ({ frames := 1, cells := 0, slots := 0, locals := 21 } : Room) s m args below meth c H locs 0 0 (MQ below (s_Qi (s_W1 cy ad sh) G (s_A ad 21 s.heap.size) re σe) args s 0 0 (s_A ad 21 s.heap.size)) (F0 m 21 ls []) := by
  obtain ⟨hx, hb, hr, hml, hown, hts, hlk, hK, hE, hI⟩ := id C
  have hD : ∀ σ : Sg, va_D (s_A ad 21 s.heap.size) ((s_W1 cy ad sh) σ) := fun σ => s_D (s_W1_ad cy ad sh σ) hI (fun k hk => Or.inl ⟨k, hk, rfl⟩)
  unfold fX6_cellOf_P_b21 at hf
  refine lv_iconst (v := 0) hx hb dX6_cellOf_21 (by decide) ?_
  obtain ⟨he1, he2⟩ := s_ret hf
  exact W.iret hx hb hr (fun t ht hW => ⟨⟨_, (), rfl, he1, s_fin (Wd := (s_W1 cy ad sh)) ht he2 hP⟩, hS.F ht⟩) hS.2.2 dX6_cellOf_22 hlk
set_option maxRecDepth 100000 in
set_option maxHeartbeats 4000000 in
theorem kX6_cellOf_P (C : s_X p s m meth c args cX6_cellOf (some .int) 2 RX6 G cy sa ad 21) (σ : Sg) (x1 : Int32) (ls : Array Slot) (H : Heap) (locs : List Loc) (hl : lv_has ls 2 [(0, .ref (ad 19)), (1, .int x1)]) (hP : va_P G vwCl ((s_W1 cy ad sh) σ) H) (hS : va_S (s_A ad 21 s.heap.size) s.heap H locs) (hf : fX6_cellOf_P σ x1 = some (re, σe)) : W p l e ({ frames := 1, cells := 0, slots := 0, locals := 21 } : Room) s m args below meth c H locs 0 0 (MQ below (s_Qi (s_W1 cy ad sh) G (s_A ad 21 s.heap.size) re σe) args s 0 0 (s_A ad 21 s.heap.size)) (F0 m 0 ls []) := by
  obtain ⟨hx, hb, hr, hml, hown, hts, hlk, hK, hE, hI⟩ := id C
  have hD : ∀ σ : Sg, va_D (s_A ad 21 s.heap.size) ((s_W1 cy ad sh) σ) := fun σ => s_D (s_W1_ad cy ad sh σ) hI (fun k hk => Or.inl ⟨k, hk, rfl⟩)
  unfold fX6_cellOf_P at hf
  refine lv_aload_n hx hb dX6_cellOf_0 rfl (lv_at hl 0 rfl) ?_
  refine lv_ifnull hx hb dX6_cellOf_1 ?_
  refine lv_aload_n hx hb dX6_cellOf_4 rfl (lv_at hl 0 rfl) ?_
  refine lv_iload_n hx hb dX6_cellOf_5 rfl (lv_at hl 1 rfl) ?_
  replace hf := s_bi_some hf
  obtain ⟨r3, σ1, hz2, hf⟩ := hf
  refine s_calli (nn := 1) C (kcX2_hasCell_P (l := l) (G := G) (cy := cy) (sa := sa) (sh := sh) hI (sz := H.size) σ x1 hz2) gk_X6_231 rfl rfl (by decide +kernel) ⟨Nat.le_of_ble_eq_true rfl, Nat.le_of_ble_eq_true rfl⟩ hP hS (q0 := 19) (ci := 2) rfl rfl rfl (As := [.int x1]) (rest := []) rfl rfl hl.1 (Nat.le_of_ble_eq_true rfl) dX6_cellOf_6 (fun H locs hP hS => ?_)
  refine lv_if_eq (tgt := 21) hx hb dX6_cellOf_9 (by decide) (fun c4 => ?_) (fun c4 => ?_)
  · rw [if_pos c4] at hf
    exact kX6_cellOf_P_b21 C σ1 _ _ _ (lv_sub hl [] rfl) hP hS hf
  · rw [if_neg c4] at hf
    refine lv_aload_n hx hb dX6_cellOf_12 rfl (lv_at hl 0 rfl) ?_
    refine va_getN (D := G) (ci := 2) (v := .ref (ad 20)) (C := RX2) (T := TX2) (N := 2) hx hb hts inkX2 hown hK hP 19 rfl rfl 1 (by decide) (kn_X6_251 hE) (fun _ h9 => h9) rfl dX6_cellOf_13 ?_
    refine lv_iload_n hx hb dX6_cellOf_16 rfl (lv_at hl 1 rfl) ?_
    replace hf := s_gd_some hf
    obtain ⟨g5, hf⟩ := hf
    refine va_iald hx hb hK hP 20 1 rfl rfl (s_in_of g5) dX6_cellOf_17 ?_
    refine lv_goto (tgt := 22) hx hb dX6_cellOf_18 (by decide) ?_
    obtain ⟨he1, he2⟩ := s_ret hf
    exact W.iret hx hb hr (fun t ht hW => ⟨⟨_, (), rfl, he1, s_fin (Wd := (s_W1 cy ad sh)) ht he2 hP⟩, hS.F ht⟩) hS.2.2 dX6_cellOf_22 hlk
theorem kcX6_cellOf_P {l : Launch} {G : va_G} {cy : Nat → ClassId} {sa : Nat × Nat} {ad : Nat → Nat} {sh : Nat → Option Nat} {sz : Nat} (hI : s_inj ad 21) (σ : Sg) (x1 : Int32) {re : Int32} {σe : Sg} (hf : fX6_cellOf_P σ x1 = some (re, σe)) : Met l yX6_cellOf (kW yX6_cellOf cX6_cellOf 2 (some .int)) ({ frames := 1, cells := 0, slots := 0, locals := 21 } : Room) (s_P (s_W1 cy ad sh) G cy sa ad 21 [.ref (ad 19), .int x1] sz σ) (s_Qi (s_W1 cy ad sh) G (s_A ad 21 sz) re σe) 0 0 (s_A ad 21 sz) := by
  refine s_met (own := RX6) (by decide) rfl hI (Nat.le_of_ble_eq_true rfl) (fun p e s m below meth c ls hsz C hP hl => ?_)
  subst hsz
  exact kX6_cellOf_P C σ x1 ls _ _ hl hP va_S.rf hf
set_option maxRecDepth 100000 in
set_option maxHeartbeats 4000000 in
theorem kX6_isHundredths_P_b16 (C : s_X p s m meth c args cX6_isHundredths (some .boolean) 1 RX6 G cy sa ad 21) (σ : Sg) (ls : Array Slot) (H : Heap) (locs : List Loc) (hl : lv_has ls 1 []) (hP : va_P G vwCl ((s_W1 cy ad sh) σ) H) (hS : va_S (s_A ad 21 s.heap.size) s.heap H locs) (hf : fX6_isHundredths_P_b16 σ = some (re, σe)) : W p l e ({ frames := 0, cells := 0, slots := 0, locals := 0 } : Room) s m args below meth c H locs 0 0 (MQ below (s_Qi (s_W1 cy ad sh) G (s_A ad 21 s.heap.size) re σe) args s 0 0 (s_A ad 21 s.heap.size)) (F0 m 16 ls []) := by
  obtain ⟨hx, hb, hr, hml, hown, hts, hlk, hK, hE, hI⟩ := id C
  have hD : ∀ σ : Sg, va_D (s_A ad 21 s.heap.size) ((s_W1 cy ad sh) σ) := fun σ => s_D (s_W1_ad cy ad sh σ) hI (fun k hk => Or.inl ⟨k, hk, rfl⟩)
  unfold fX6_isHundredths_P_b16 at hf
  refine lv_iconst (v := 0) hx hb dX6_isHundredths_16 (by decide) ?_
  obtain ⟨he1, he2⟩ := s_ret hf
  exact W.zret hx hb hr rfl (fun t ht hW => ⟨⟨_, (), rfl, he1, s_fin (Wd := (s_W1 cy ad sh)) ht he2 hP⟩, hS.F ht⟩) hS.2.2 dX6_isHundredths_17 hlk
set_option maxRecDepth 100000 in
set_option maxHeartbeats 4000000 in
theorem kX6_isHundredths_P (C : s_X p s m meth c args cX6_isHundredths (some .boolean) 1 RX6 G cy sa ad 21) (σ : Sg) (x0 : Int32) (ls : Array Slot) (H : Heap) (locs : List Loc) (hl : lv_has ls 1 [(0, .int x0)]) (hP : va_P G vwCl ((s_W1 cy ad sh) σ) H) (hS : va_S (s_A ad 21 s.heap.size) s.heap H locs) (hf : fX6_isHundredths_P σ x0 = some (re, σe)) : W p l e ({ frames := 0, cells := 0, slots := 0, locals := 0 } : Room) s m args below meth c H locs 0 0 (MQ below (s_Qi (s_W1 cy ad sh) G (s_A ad 21 s.heap.size) re σe) args s 0 0 (s_A ad 21 s.heap.size)) (F0 m 0 ls []) := by
  obtain ⟨hx, hb, hr, hml, hown, hts, hlk, hK, hE, hI⟩ := id C
  have hD : ∀ σ : Sg, va_D (s_A ad 21 s.heap.size) ((s_W1 cy ad sh) σ) := fun σ => s_D (s_W1_ad cy ad sh σ) hI (fun k hk => Or.inl ⟨k, hk, rfl⟩)
  unfold fX6_isHundredths_P at hf
  refine lv_iload_n hx hb dX6_isHundredths_0 rfl (lv_at hl 0 rfl) ?_
  refine lv_ldc (v := -999999) hx hb hown (hts _ kw_619) dX6_isHundredths_1 ?_
  refine lv_icmp_lt (tgt := 16) hx hb dX6_isHundredths_3 (by decide) (fun c1 => ?_) (fun c1 => ?_)
  · rw [if_pos c1] at hf
    exact kX6_isHundredths_P_b16 C σ _ _ _ (lv_sub hl [] rfl) hP hS hf
  · rw [if_neg c1] at hf
    refine lv_iload_n hx hb dX6_isHundredths_6 rfl (lv_at hl 0 rfl) ?_
    refine lv_ldc (v := 999999) hx hb hown (hts _ kw_620) dX6_isHundredths_7 ?_
    refine lv_icmp_gt (tgt := 16) hx hb dX6_isHundredths_9 (by decide) (fun c2 => ?_) (fun c2 => ?_)
    · rw [if_pos c2] at hf
      exact kX6_isHundredths_P_b16 C σ _ _ _ (lv_sub hl [] rfl) hP hS hf
    · rw [if_neg c2] at hf
      refine lv_iconst (v := 1) hx hb dX6_isHundredths_12 (by decide) ?_
      refine lv_goto (tgt := 17) hx hb dX6_isHundredths_13 (by decide) ?_
      obtain ⟨he1, he2⟩ := s_ret hf
      exact W.zret hx hb hr rfl (fun t ht hW => ⟨⟨_, (), rfl, he1, s_fin (Wd := (s_W1 cy ad sh)) ht he2 hP⟩, hS.F ht⟩) hS.2.2 dX6_isHundredths_17 hlk
theorem kcX6_isHundredths_P {l : Launch} {G : va_G} {cy : Nat → ClassId} {sa : Nat × Nat} {ad : Nat → Nat} {sh : Nat → Option Nat} {sz : Nat} (hI : s_inj ad 21) (σ : Sg) (x0 : Int32) {re : Int32} {σe : Sg} (hf : fX6_isHundredths_P σ x0 = some (re, σe)) : Met l yX6_isHundredths (kW yX6_isHundredths cX6_isHundredths 1 (some .boolean)) ({ frames := 0, cells := 0, slots := 0, locals := 0 } : Room) (s_P (s_W1 cy ad sh) G cy sa ad 21 [.int x0] sz σ) (s_Qi (s_W1 cy ad sh) G (s_A ad 21 sz) re σe) 0 0 (s_A ad 21 sz) := by
  refine s_met (own := RX6) (by decide) rfl hI (Nat.le_of_ble_eq_true rfl) (fun p e s m below meth c ls hsz C hP hl => ?_)
  subst hsz
  exact kX6_isHundredths_P C σ x0 ls _ _ hl hP va_S.rf hf
set_option maxRecDepth 100000 in
set_option maxHeartbeats 4000000 in
theorem kX1_isFull_6_P (C : s_X p s m meth c args cX1_isFull (some .boolean) 1 RX1 G cy sa ad 21) (σ : Sg) (ls : Array Slot) (H : Heap) (locs : List Loc) (hl : lv_has ls 1 [(0, .ref (ad 6))]) (hP : va_P G vwCl ((s_W1 cy ad sh) σ) H) (hS : va_S (s_A ad 21 s.heap.size) s.heap H locs) (hf : fX1_isFull_6_P σ = some (re, σe)) : W p l e ({ frames := 0, cells := 0, slots := 0, locals := 0 } : Room) s m args below meth c H locs 0 0 (MQ below (s_Qi (s_W1 cy ad sh) G (s_A ad 21 s.heap.size) re σe) args s 0 0 (s_A ad 21 s.heap.size)) (F0 m 0 ls []) := by
  obtain ⟨hx, hb, hr, hml, hown, hts, hlk, hK, hE, hI⟩ := id C
  have hD : ∀ σ : Sg, va_D (s_A ad 21 s.heap.size) ((s_W1 cy ad sh) σ) := fun σ => s_D (s_W1_ad cy ad sh σ) hI (fun k hk => Or.inl ⟨k, hk, rfl⟩)
  unfold fX1_isFull_6_P at hf
  refine lv_aload_n hx hb dX1_isFull_0 rfl (lv_at hl 0 rfl) ?_
  refine va_get (D := G) (ci := 1) (v := .int (σ 6 1)) (C := RX1) (T := TX1) (N := 8) hx hb hts inkX1 hown hK hP 6 rfl rfl 1 (by decide) (hts _ kw_110) (fun _ h9 => h9) rfl dX1_isFull_1 ?_
  refine lv_bipush (v := 96) hx hb dX1_isFull_4 (by decide) ?_
  refine lv_icmp_lt (tgt := 13) hx hb dX1_isFull_6 (by decide) (fun c1 => ?_) (fun c1 => ?_)
  · rw [if_pos c1] at hf
    refine lv_iconst (v := 0) hx hb dX1_isFull_13 (by decide) ?_
    obtain ⟨he1, he2⟩ := s_ret hf
    exact W.zret hx hb hr rfl (fun t ht hW => ⟨⟨_, (), rfl, he1, s_fin (Wd := (s_W1 cy ad sh)) ht he2 hP⟩, hS.F ht⟩) hS.2.2 dX1_isFull_14 hlk
  · rw [if_neg c1] at hf
    refine lv_iconst (v := 1) hx hb dX1_isFull_9 (by decide) ?_
    refine lv_goto (tgt := 14) hx hb dX1_isFull_10 (by decide) ?_
    obtain ⟨he1, he2⟩ := s_ret hf
    exact W.zret hx hb hr rfl (fun t ht hW => ⟨⟨_, (), rfl, he1, s_fin (Wd := (s_W1 cy ad sh)) ht he2 hP⟩, hS.F ht⟩) hS.2.2 dX1_isFull_14 hlk
theorem kcX1_isFull_6_P {l : Launch} {G : va_G} {cy : Nat → ClassId} {sa : Nat × Nat} {ad : Nat → Nat} {sh : Nat → Option Nat} {sz : Nat} (hI : s_inj ad 21) (σ : Sg) {re : Int32} {σe : Sg} (hf : fX1_isFull_6_P σ = some (re, σe)) : Met l yX1_isFull (kW yX1_isFull cX1_isFull 1 (some .boolean)) ({ frames := 0, cells := 0, slots := 0, locals := 0 } : Room) (s_P (s_W1 cy ad sh) G cy sa ad 21 [.ref (ad 6)] sz σ) (s_Qi (s_W1 cy ad sh) G (s_A ad 21 sz) re σe) 0 0 (s_A ad 21 sz) := by
  refine s_met (own := RX1) (by decide) rfl hI (Nat.le_of_ble_eq_true rfl) (fun p e s m below meth c ls hsz C hP hl => ?_)
  subst hsz
  exact kX1_isFull_6_P C σ ls _ _ hl hP va_S.rf hf
set_option maxRecDepth 100000 in
set_option maxHeartbeats 4000000 in
theorem kX1_append_6_P (C : s_X p s m meth c args cX1_append none 2 RX1 G cy sa ad 21) (σ : Sg) (x1 : Int32) (ls : Array Slot) (H : Heap) (locs : List Loc) (hl : lv_has ls 2 [(0, .ref (ad 6)), (1, .int x1)]) (hP : va_P G vwCl ((s_W1 cy ad sh) σ) H) (hS : va_S (s_A ad 21 s.heap.size) s.heap H locs) (hf : fX1_append_6_P σ x1 = some σe) : W p l e ({ frames := 1, cells := 0, slots := 0, locals := 20 } : Room) s m args below meth c H locs 0 0 (MQ below (s_Qv (s_W1 cy ad sh) G (s_A ad 21 s.heap.size) σe) args s 0 0 (s_A ad 21 s.heap.size)) (F0 m 0 ls []) := by
  obtain ⟨hx, hb, hr, hml, hown, hts, hlk, hK, hE, hI⟩ := id C
  have hD : ∀ σ : Sg, va_D (s_A ad 21 s.heap.size) ((s_W1 cy ad sh) σ) := fun σ => s_D (s_W1_ad cy ad sh σ) hI (fun k hk => Or.inl ⟨k, hk, rfl⟩)
  unfold fX1_append_6_P at hf
  refine lv_aload_n hx hb dX1_append_0 rfl (lv_at hl 0 rfl) ?_
  replace hf := s_bi_some hf
  obtain ⟨r3, σ1, hz2, hf⟩ := hf
  refine s_calli (nn := 0) C (kcX1_isFull_6_P (l := l) (G := G) (cy := cy) (sa := sa) (sh := sh) hI (sz := H.size) σ hz2) gk_X1_51 rfl rfl (by decide +kernel) ⟨Nat.le_of_ble_eq_true rfl, Nat.le_of_ble_eq_true rfl⟩ hP hS (q0 := 6) (ci := 1) rfl rfl rfl (As := []) (rest := []) rfl rfl hl.1 (Nat.le_of_ble_eq_true rfl) dX1_append_1 (fun H locs hP hS => ?_)
  refine lv_if_ne (tgt := 27) hx hb dX1_append_4 (by decide) (fun c4 => ?_) (fun c4 => ?_)
  · rw [if_neg c4] at hf
    have he2 := Option.some.inj hf
    exact W.vret hx hb hr (fun t ht hW => ⟨⟨(), rfl, trivial, s_fin (Wd := (s_W1 cy ad sh)) ht he2 hP⟩, hS.F ht⟩) hS.2.2 dX1_append_27 hlk
  · rw [if_pos c4] at hf
    refine lv_aload_n hx hb dX1_append_7 rfl (lv_at hl 0 rfl) ?_
    refine va_get (D := G) (ci := 1) (v := .ref (ad 7)) (C := RX1) (T := TX1) (N := 8) hx hb hts inkX1 hown hK hP 6 rfl rfl 0 (by decide) (hts _ kw_109) (fun _ h9 => h9) rfl dX1_append_8 ?_
    refine lv_aload_n hx hb dX1_append_11 rfl (lv_at hl 0 rfl) ?_
    refine va_get (D := G) (ci := 1) (v := .int (σ1 6 1)) (C := RX1) (T := TX1) (N := 8) hx hb hts inkX1 hown hK hP 6 rfl rfl 1 (by decide) (hts _ kw_110) (fun _ h9 => h9) rfl dX1_append_12 ?_
    refine lv_iload_n hx hb dX1_append_15 rfl (lv_at hl 1 rfl) ?_
    replace hf := s_gd_some hf
    obtain ⟨g5, hf⟩ := hf
    refine va_iast hx hb hK hP (hD _) hS 7 1 rfl rfl (s_in_of g5) dX1_append_16 (fun H locs hP _ hS => ?_)
    obtain ⟨σ6, eσ6⟩ : ∃ z : Sg, z = (s_up σ1 7 (Int32.toNatClampNeg (σ1 6 1)) x1) := ⟨_, rfl⟩
    replace hf := s_lt_at eσ6 hf
    replace hP : va_P G vwCl ((s_W1 cy ad sh) σ6) H := by rw [eσ6]; exact hP
    refine lv_aload_n hx hb dX1_append_17 rfl (lv_at hl 0 rfl) ?_
    refine lv_dup hx hb dX1_append_18 rfl ?_
    refine va_get (D := G) (ci := 1) (v := .int (σ6 6 1)) (C := RX1) (T := TX1) (N := 8) hx hb hts inkX1 hown hK hP 6 rfl rfl 1 (by decide) (hts _ kw_110) (fun _ h9 => h9) rfl dX1_append_19 ?_
    refine lv_iconst (v := 1) hx hb dX1_append_22 (by decide) ?_
    refine lv_iadd hx hb dX1_append_23 ?_
    refine va_put (D := G) (ci := 1) (v := .int ((σ6 6 1) + (1 : Int32))) (ty := .int) (C := RX1) (T := TX1) (N := 8) hx hb hts inkX1 tyX1 tyX1_ok nmX1 hown hK hP (hD _) hS 6 rfl rfl 1 (by decide) (hts _ kw_110) (fun _ h9 => h9) rfl (by decide +kernel) rfl rfl (Nat.le_of_ble_eq_true rfl) dX1_append_24 (fun H locs hP _ hS => ?_)
    obtain ⟨σ7, eσ7⟩ : ∃ z : Sg, z = (s_up σ6 6 1 ((σ6 6 1) + (1 : Int32))) := ⟨_, rfl⟩
    replace hf := s_lt_at eσ7 hf
    replace hP : va_P G vwCl ((s_W1 cy ad sh) σ7) H := by rw [eσ7]; exact hP
    have he2 := Option.some.inj hf
    exact W.vret hx hb hr (fun t ht hW => ⟨⟨(), rfl, trivial, s_fin (Wd := (s_W1 cy ad sh)) ht he2 hP⟩, hS.F ht⟩) hS.2.2 dX1_append_27 hlk
theorem kcX1_append_6_P {l : Launch} {G : va_G} {cy : Nat → ClassId} {sa : Nat × Nat} {ad : Nat → Nat} {sh : Nat → Option Nat} {sz : Nat} (hI : s_inj ad 21) (σ : Sg) (x1 : Int32) {σe : Sg} (hf : fX1_append_6_P σ x1 = some σe) : Met l yX1_append (kW yX1_append cX1_append 2 none) ({ frames := 1, cells := 0, slots := 0, locals := 20 } : Room) (s_P (s_W1 cy ad sh) G cy sa ad 21 [.ref (ad 6), .int x1] sz σ) (s_Qv (s_W1 cy ad sh) G (s_A ad 21 sz) σe) 0 0 (s_A ad 21 sz) := by
  refine s_met (own := RX1) (by decide) rfl hI (Nat.le_of_ble_eq_true rfl) (fun p e s m below meth c ls hsz C hP hl => ?_)
  subst hsz
  exact kX1_append_6_P C σ x1 ls _ _ hl hP va_S.rf hf
set_option maxRecDepth 100000 in
set_option maxHeartbeats 4000000 in
theorem kX6_putBehind_P (C : s_X p s m meth c args cX6_putBehind (some .int) 2 RX6 G cy sa ad 21) (σ : Sg) (x1 : Int32) (ls : Array Slot) (H : Heap) (locs : List Loc) (hl : lv_has ls 2 [(0, .ref (ad 0)), (1, .int x1)]) (hP : va_P G vwCl ((s_W1 cy ad sh) σ) H) (hS : va_S (s_A ad 21 s.heap.size) s.heap H locs) (hf : fX6_putBehind_P σ x1 = some (re, σe)) : W p l e ({ frames := 2, cells := 0, slots := 0, locals := 41 } : Room) s m args below meth c H locs 0 0 (MQ below (s_Qi (s_W1 cy ad sh) G (s_A ad 21 s.heap.size) re σe) args s 0 0 (s_A ad 21 s.heap.size)) (F0 m 0 ls []) := by
  obtain ⟨hx, hb, hr, hml, hown, hts, hlk, hK, hE, hI⟩ := id C
  have hD : ∀ σ : Sg, va_D (s_A ad 21 s.heap.size) ((s_W1 cy ad sh) σ) := fun σ => s_D (s_W1_ad cy ad sh σ) hI (fun k hk => Or.inl ⟨k, hk, rfl⟩)
  unfold fX6_putBehind_P at hf
  refine lv_aload_n hx hb dX6_putBehind_0 rfl (lv_at hl 0 rfl) ?_
  refine va_get (D := G) (ci := 6) (v := .ref (ad 6)) (C := RX6) (T := TX6) (N := 9) hx hb hts inkX6 hown hK hP 0 rfl rfl 2 (by decide) (hts _ kw_232) (fun _ h9 => h9) rfl dX6_putBehind_1 ?_
  replace hf := s_bi_some hf
  obtain ⟨r3, σ1, hz2, hf⟩ := hf
  refine s_calli (nn := 0) C (kcX1_isFull_6_P (l := l) (G := G) (cy := cy) (sa := sa) (sh := sh) hI (sz := H.size) σ hz2) gk_X6_211 rfl rfl (by decide +kernel) ⟨Nat.le_of_ble_eq_true rfl, Nat.le_of_ble_eq_true rfl⟩ hP hS (q0 := 6) (ci := 1) rfl rfl rfl (As := []) (rest := []) rfl rfl hl.1 (Nat.le_of_ble_eq_true rfl) dX6_putBehind_4 (fun H locs hP hS => ?_)
  refine lv_if_eq (tgt := 13) hx hb dX6_putBehind_7 (by decide) (fun c4 => ?_) (fun c4 => ?_)
  · rw [if_pos c4] at hf
    refine lv_aload_n hx hb dX6_putBehind_13 rfl (lv_at hl 0 rfl) ?_
    refine va_get (D := G) (ci := 6) (v := .ref (ad 6)) (C := RX6) (T := TX6) (N := 9) hx hb hts inkX6 hown hK hP 0 rfl rfl 2 (by decide) (hts _ kw_232) (fun _ h9 => h9) rfl dX6_putBehind_14 ?_
    refine lv_iload_n hx hb dX6_putBehind_17 rfl (lv_at hl 1 rfl) ?_
    replace hf := s_bv_some hf
    obtain ⟨σ5, hz6, hf⟩ := hf
    refine s_callv (nn := 1) C (kcX1_append_6_P (l := l) (G := G) (cy := cy) (sa := sa) (sh := sh) hI (sz := H.size) σ1 x1 hz6) gk_X6_213 rfl rfl (by decide +kernel) ⟨Nat.le_of_ble_eq_true rfl, Nat.le_of_ble_eq_true rfl⟩ hP hS (q0 := 6) (ci := 1) rfl rfl rfl (As := [.int x1]) (rest := []) rfl rfl hl.1 (Nat.le_of_ble_eq_true rfl) dX6_putBehind_18 (fun H locs hP hS => ?_)
    refine lv_aload_n hx hb dX6_putBehind_21 rfl (lv_at hl 0 rfl) ?_
    refine va_get (D := G) (ci := 6) (v := .ref (ad 6)) (C := RX6) (T := TX6) (N := 9) hx hb hts inkX6 hown hK hP 0 rfl rfl 2 (by decide) (hts _ kw_232) (fun _ h9 => h9) rfl dX6_putBehind_22 ?_
    refine va_getN (D := G) (ci := 1) (v := .int (σ5 6 1)) (C := RX1) (T := TX1) (N := 8) hx hb hts inkX1 hown hK hP 6 rfl rfl 1 (by decide) (kn_X6_88 hE) (fun _ h9 => h9) rfl dX6_putBehind_25 ?_
    obtain ⟨he1, he2⟩ := s_ret hf
    exact W.iret hx hb hr (fun t ht hW => ⟨⟨_, (), rfl, he1, s_fin (Wd := (s_W1 cy ad sh)) ht he2 hP⟩, hS.F ht⟩) hS.2.2 dX6_putBehind_28 hlk
  · rw [if_neg c4] at hf
    refine lv_bipush (v := -3) hx hb dX6_putBehind_10 (by decide) ?_
    obtain ⟨he1, he2⟩ := s_ret hf
    exact W.iret hx hb hr (fun t ht hW => ⟨⟨_, (), rfl, he1, s_fin (Wd := (s_W1 cy ad sh)) ht he2 hP⟩, hS.F ht⟩) hS.2.2 dX6_putBehind_12 hlk
theorem kcX6_putBehind_P {l : Launch} {G : va_G} {cy : Nat → ClassId} {sa : Nat × Nat} {ad : Nat → Nat} {sh : Nat → Option Nat} {sz : Nat} (hI : s_inj ad 21) (σ : Sg) (x1 : Int32) {re : Int32} {σe : Sg} (hf : fX6_putBehind_P σ x1 = some (re, σe)) : Met l yX6_putBehind (kW yX6_putBehind cX6_putBehind 2 (some .int)) ({ frames := 2, cells := 0, slots := 0, locals := 41 } : Room) (s_P (s_W1 cy ad sh) G cy sa ad 21 [.ref (ad 0), .int x1] sz σ) (s_Qi (s_W1 cy ad sh) G (s_A ad 21 sz) re σe) 0 0 (s_A ad 21 sz) := by
  refine s_met (own := RX6) (by decide) rfl hI (Nat.le_of_ble_eq_true rfl) (fun p e s m below meth c ls hsz C hP hl => ?_)
  subst hsz
  exact kX6_putBehind_P C σ x1 ls _ _ hl hP va_S.rf hf
set_option maxRecDepth 100000 in
set_option maxHeartbeats 4000000 in
theorem kX6_add_P (C : s_X p s m meth c args cX6_add (some .int) 2 RX6 G cy sa ad 21) (σ : Sg) (x1 : Int32) (ls : Array Slot) (H : Heap) (locs : List Loc) (hl : lv_has ls 2 [(0, .ref (ad 0)), (1, .int x1)]) (hP : va_P G vwCl ((s_W1 cy ad sh) σ) H) (hS : va_S (s_A ad 21 s.heap.size) s.heap H locs) (hf : fX6_add_P σ x1 = some (re, σe)) : W p l e ({ frames := 3, cells := 0, slots := 0, locals := 62 } : Room) s m args below meth c H locs 0 0 (MQ below (s_Qi (s_W1 cy ad sh) G (s_A ad 21 s.heap.size) re σe) args s 0 0 (s_A ad 21 s.heap.size)) (F0 m 0 ls []) := by
  obtain ⟨hx, hb, hr, hml, hown, hts, hlk, hK, hE, hI⟩ := id C
  have hD : ∀ σ : Sg, va_D (s_A ad 21 s.heap.size) ((s_W1 cy ad sh) σ) := fun σ => s_D (s_W1_ad cy ad sh σ) hI (fun k hk => Or.inl ⟨k, hk, rfl⟩)
  unfold fX6_add_P at hf
  refine lv_iload_n hx hb dX6_add_0 rfl (lv_at hl 1 rfl) ?_
  replace hf := s_bi_some hf
  obtain ⟨r3, σ1, hz2, hf⟩ := hf
  refine s_calliS (nn := 1) C (kcX6_isHundredths_P (l := l) (G := G) (cy := cy) (sa := sa) (sh := sh) hI (sz := H.size) σ x1 hz2) gk_X6_196 rfl rfl (by decide +kernel) ⟨Nat.le_of_ble_eq_true rfl, Nat.le_of_ble_eq_true rfl⟩ hP hS (As := [.int x1]) (rest := []) rfl rfl hl.1 (Nat.le_of_ble_eq_true rfl) dX6_add_1 (fun H locs hP hS => ?_)
  refine lv_if_ne (tgt := 9) hx hb dX6_add_4 (by decide) (fun c4 => ?_) (fun c4 => ?_)
  · rw [if_neg c4] at hf
    refine lv_aload_n hx hb dX6_add_9 rfl (lv_at hl 0 rfl) ?_
    refine lv_iload_n hx hb dX6_add_10 rfl (lv_at hl 1 rfl) ?_
    replace hf := s_bi_some hf
    obtain ⟨r7, σ5, hz6, hf⟩ := hf
    refine s_calli (nn := 1) C (kcX6_putBehind_P (l := l) (G := G) (cy := cy) (sa := sa) (sh := sh) hI (sz := H.size) σ1 x1 hz6) gk_X6_199 rfl rfl (by decide +kernel) ⟨Nat.le_of_ble_eq_true rfl, Nat.le_of_ble_eq_true rfl⟩ hP hS (q0 := 0) (ci := 6) rfl rfl rfl (As := [.int x1]) (rest := []) rfl rfl hl.1 (Nat.le_of_ble_eq_true rfl) dX6_add_11 (fun H locs hP hS => ?_)
    obtain ⟨he1, he2⟩ := s_ret hf
    exact W.iret hx hb hr (fun t ht hW => ⟨⟨_, (), rfl, he1, s_fin (Wd := (s_W1 cy ad sh)) ht he2 hP⟩, hS.F ht⟩) hS.2.2 dX6_add_14 hlk
  · rw [if_pos c4] at hf
    refine lv_iconst (v := -1) hx hb dX6_add_7 (by decide) ?_
    obtain ⟨he1, he2⟩ := s_ret hf
    exact W.iret hx hb hr (fun t ht hW => ⟨⟨_, (), rfl, he1, s_fin (Wd := (s_W1 cy ad sh)) ht he2 hP⟩, hS.F ht⟩) hS.2.2 dX6_add_8 hlk
theorem kcX6_add_P {l : Launch} {G : va_G} {cy : Nat → ClassId} {sa : Nat × Nat} {ad : Nat → Nat} {sh : Nat → Option Nat} {sz : Nat} (hI : s_inj ad 21) (σ : Sg) (x1 : Int32) {re : Int32} {σe : Sg} (hf : fX6_add_P σ x1 = some (re, σe)) : Met l yX6_add (kW yX6_add cX6_add 2 (some .int)) ({ frames := 3, cells := 0, slots := 0, locals := 62 } : Room) (s_P (s_W1 cy ad sh) G cy sa ad 21 [.ref (ad 0), .int x1] sz σ) (s_Qi (s_W1 cy ad sh) G (s_A ad 21 sz) re σe) 0 0 (s_A ad 21 sz) := by
  refine s_met (own := RX6) (by decide) rfl hI (Nat.le_of_ble_eq_true rfl) (fun p e s m below meth c ls hsz C hP hl => ?_)
  subst hsz
  exact kX6_add_P C σ x1 ls _ _ hl hP va_S.rf hf
set_option maxRecDepth 100000 in
set_option maxHeartbeats 4000000 in
theorem kX6_read_P_p_b26 (C : s_X p s m meth c args cX6_read (some .int) 8 RX6 G cy sa ad 21) (σ : Sg) (ls : Array Slot) (H : Heap) (locs : List Loc) (hl : lv_has ls 8 []) (hP : va_P G vwCl ((s_W1 cy ad sh) σ) H) (hS : va_S (s_A ad 21 s.heap.size) s.heap H locs) (hf : fX6_read_P_p_b26 σ = some (re, σe)) : W p l e ({ frames := 4, cells := 0, slots := 0, locals := 83 } : Room) s m args below meth c H locs 0 0 (MQ below (s_Qi (s_W1 cy ad sh) G (s_A ad 21 s.heap.size) re σe) args s 0 0 (s_A ad 21 s.heap.size)) (F0 m 26 ls []) := by
  obtain ⟨hx, hb, hr, hml, hown, hts, hlk, hK, hE, hI⟩ := id C
  have hD : ∀ σ : Sg, va_D (s_A ad 21 s.heap.size) ((s_W1 cy ad sh) σ) := fun σ => s_D (s_W1_ad cy ad sh σ) hI (fun k hk => Or.inl ⟨k, hk, rfl⟩)
  unfold fX6_read_P_p_b26 at hf
  refine lv_iconst (v := -1) hx hb dX6_read_26 (by decide) ?_
  obtain ⟨he1, he2⟩ := s_ret hf
  exact W.iret hx hb hr (fun t ht hW => ⟨⟨_, (), rfl, he1, s_fin (Wd := (s_W1 cy ad sh)) ht he2 hP⟩, hS.F ht⟩) hS.2.2 dX6_read_27 hlk
set_option maxRecDepth 100000 in
set_option maxHeartbeats 4000000 in
theorem kX6_read_P_p_b115 (C : s_X p s m meth c args cX6_read (some .int) 8 RX6 G cy sa ad 21) (σ : Sg) (x6 : Int32) (x7 : Int32) (ls : Array Slot) (H : Heap) (locs : List Loc) (hl : lv_has ls 8 [(0, .ref (ad 0)), (6, .int x6), (7, .int x7)]) (hP : va_P G vwCl ((s_W1 cy ad sh) σ) H) (hS : va_S (s_A ad 21 s.heap.size) s.heap H locs) (hf : fX6_read_P_p_b115 σ x6 x7 = some (re, σe)) : W p l e ({ frames := 4, cells := 0, slots := 0, locals := 83 } : Room) s m args below meth c H locs 0 0 (MQ below (s_Qi (s_W1 cy ad sh) G (s_A ad 21 s.heap.size) re σe) args s 0 0 (s_A ad 21 s.heap.size)) (F0 m 115 ls []) := by
  obtain ⟨hx, hb, hr, hml, hown, hts, hlk, hK, hE, hI⟩ := id C
  have hD : ∀ σ : Sg, va_D (s_A ad 21 s.heap.size) ((s_W1 cy ad sh) σ) := fun σ => s_D (s_W1_ad cy ad sh σ) hI (fun k hk => Or.inl ⟨k, hk, rfl⟩)
  unfold fX6_read_P_p_b115 at hf
  refine lv_aload_n hx hb dX6_read_115 rfl (lv_at hl 0 rfl) ?_
  refine lv_iload hx hb dX6_read_116 (lv_at hl 1 rfl) ?_
  refine va_put (D := G) (ci := 6) (v := .int x6) (ty := .int) (C := RX6) (T := TX6) (N := 9) hx hb hts inkX6 tyX6 tyX6_ok nmX6 hown hK hP (hD _) hS 0 rfl rfl 8 (by decide) (hts _ kw_238) (fun _ h9 => h9) rfl (by decide +kernel) rfl rfl (Nat.le_of_ble_eq_true rfl) dX6_read_118 (fun H locs hP _ hS => ?_)
  obtain ⟨σ1, eσ1⟩ : ∃ z : Sg, z = (s_up σ 0 8 x6) := ⟨_, rfl⟩
  replace hf := s_lt_at eσ1 hf
  replace hP : va_P G vwCl ((s_W1 cy ad sh) σ1) H := by rw [eσ1]; exact hP
  refine lv_iload hx hb dX6_read_121 (lv_at hl 2 rfl) ?_
  obtain ⟨he1, he2⟩ := s_ret hf
  exact W.iret hx hb hr (fun t ht hW => ⟨⟨_, (), rfl, he1, s_fin (Wd := (s_W1 cy ad sh)) ht he2 hP⟩, hS.F ht⟩) hS.2.2 dX6_read_123 hlk
set_option maxRecDepth 100000 in
set_option maxHeartbeats 4000000 in
theorem kX6_read_P_p_b43 (C : s_X p s m meth c args cX6_read (some .int) 8 RX6 G cy sa ad 21) (k43 : Sg → Int32 → Int32 → Int32 → Int32 → Int32 → Int32 → Int32 → Option (Int32 × Sg)) (hk43 : ∀ (σ : Sg) (x1 : Int32) (x2 : Int32) (x3 : Int32) (x4 : Int32) (x5 : Int32) (x6 : Int32) (x7 : Int32) (ls : Array Slot) (H : Heap) (locs : List Loc), sh (Int32.toNatClampNeg x1) = some (ad 19) → lv_has ls 8 [(0, .ref (ad 0)), (1, .int x1), (2, .int x2), (3, .int x3), (4, .int x4), (5, .int x5), (6, .int x6), (7, .int x7)] → va_P G vwCl ((s_W1 cy ad sh) σ) H → va_S (s_A ad 21 s.heap.size) s.heap H locs → k43 σ x1 x2 x3 x4 x5 x6 x7 = some (re, σe) → W p l e ({ frames := 4, cells := 0, slots := 0, locals := 83 } : Room) s m args below meth c H locs 0 0 (MQ below (s_Qi (s_W1 cy ad sh) G (s_A ad 21 s.heap.size) re σe) args s 0 0 (s_A ad 21 s.heap.size)) (F0 m 43 ls [])) (σ : Sg) (x1 : Int32) (x2 : Int32) (x3 : Int32) (x4 : Int32) (x5 : Int32) (x6 : Int32) (x7 : Int32) (ls : Array Slot) (H : Heap) (locs : List Loc) (hsh : sh (Int32.toNatClampNeg x1) = some (ad 19)) (hl : lv_has ls 8 [(0, .ref (ad 0)), (1, .int x1), (2, .int x2), (3, .int x3), (4, .int x4), (5, .int x5), (6, .int x6), (7, .int x7)]) (hP : va_P G vwCl ((s_W1 cy ad sh) σ) H) (hS : va_S (s_A ad 21 s.heap.size) s.heap H locs) (hf : fX6_read_P_p_b43 k43 σ x1 x2 x3 x4 x5 x6 x7 = some (re, σe)) : W p l e ({ frames := 4, cells := 0, slots := 0, locals := 83 } : Room) s m args below meth c H locs 0 0 (MQ below (s_Qi (s_W1 cy ad sh) G (s_A ad 21 s.heap.size) re σe) args s 0 0 (s_A ad 21 s.heap.size)) (F0 m 43 ls []) := by
  obtain ⟨hx, hb, hr, hml, hown, hts, hlk, hK, hE, hI⟩ := id C
  have hD : ∀ σ : Sg, va_D (s_A ad 21 s.heap.size) ((s_W1 cy ad sh) σ) := fun σ => s_D (s_W1_ad cy ad sh σ) hI (fun k hk => Or.inl ⟨k, hk, rfl⟩)
  unfold fX6_read_P_p_b43 at hf
  refine lv_iload hx hb dX6_read_43 (lv_at hl 7 rfl) ?_
  refine lv_iload hx hb dX6_read_45 (lv_at hl 4 rfl) ?_
  refine lv_icmp_ge (tgt := 115) hx hb dX6_read_47 (by decide) (fun c1 => ?_) (fun c1 => ?_)
  · rw [if_pos c1] at hf
    exact kX6_read_P_p_b115 C σ x6 x7 _ _ _ (lv_sub hl [0, 6, 7] rfl) hP hS hf
  · rw [if_neg c1] at hf
    refine lv_aload_n hx hb dX6_read_50 rfl (lv_at hl 0 rfl) ?_
    refine va_get (D := G) (ci := 6) (v := .ref (ad 18)) (C := RX6) (T := TX6) (N := 9) hx hb hts inkX6 hown hK hP 0 rfl rfl 7 (by decide) (hts _ kw_237) (fun _ h9 => h9) rfl dX6_read_51 ?_
    refine lv_iload_n hx hb dX6_read_54 rfl (lv_at hl 1 rfl) ?_
    replace hf := s_gd_some hf
    obtain ⟨g16, hf⟩ := hf
    refine va_aldq hx hb hK hP 18 4 rfl rfl (s_in_of g16) dX6_read_55 ?_
    refine W.eq (g2 := F0 m 56 ls [.ref (ad 19)]) (by rw [hsh]; rfl) ?_
    refine lv_iload_n hx hb dX6_read_56 rfl (lv_at hl 2 rfl) ?_
    refine lv_iload_n hx hb dX6_read_57 rfl (lv_at hl 3 rfl) ?_
    refine lv_iload hx hb dX6_read_58 (lv_at hl 7 rfl) ?_
    refine lv_iadd hx hb dX6_read_60 ?_
    replace hf := s_bi_some hf
    obtain ⟨r4, σ2, hz3, hf⟩ := hf
    refine s_calliS (nn := 3) C (kcX6_tearAt_P (l := l) (G := G) (cy := cy) (sa := sa) (sh := sh) hI (sz := H.size) σ x2 (x3 + x7) hz3) gk_X6_237 rfl rfl (by decide +kernel) ⟨Nat.le_of_ble_eq_true rfl, Nat.le_of_ble_eq_true rfl⟩ hP hS (As := [.ref (ad 19), .int x2, .int (x3 + x7)]) (rest := []) rfl rfl hl.1 (Nat.le_of_ble_eq_true rfl) dX6_read_61 (fun H locs hP hS => ?_)
    refine lv_istore (lv' := [(6, .int r4), (0, .ref (ad 0)), (1, .int x1), (2, .int x2), (3, .int x3), (4, .int x4), (5, .int x5), (7, .int x7)]) hx hb dX6_read_64 hl (by decide) rfl (fun ls hl => ?_)
    refine lv_iload hx hb dX6_read_66 (lv_at hl 0 rfl) ?_
    refine lv_if_eq (tgt := 74) hx hb dX6_read_68 (by decide) (fun c5 => ?_) (fun c5 => ?_)
    · rw [if_pos c5] at hf
      refine lv_aload_n hx hb dX6_read_74 rfl (lv_at hl 1 rfl) ?_
      refine lv_aload_n hx hb dX6_read_75 rfl (lv_at hl 1 rfl) ?_
      refine va_get (D := G) (ci := 6) (v := .ref (ad 18)) (C := RX6) (T := TX6) (N := 9) hx hb hts inkX6 hown hK hP 0 rfl rfl 7 (by decide) (hts _ kw_237) (fun _ h9 => h9) rfl dX6_read_76 ?_
      refine lv_iload_n hx hb dX6_read_79 rfl (lv_at hl 2 rfl) ?_
      replace hf := s_gd_some hf
      obtain ⟨g15, hf⟩ := hf
      refine va_aldq hx hb hK hP 18 4 rfl rfl (s_in_of g15) dX6_read_80 ?_
      refine W.eq (g2 := F0 m 81 ls [.ref (ad 19), .ref (ad 0)]) (by rw [hsh]; rfl) ?_
      refine lv_iload_n hx hb dX6_read_81 rfl (lv_at hl 4 rfl) ?_
      refine lv_iload hx hb dX6_read_82 (lv_at hl 7 rfl) ?_
      refine lv_iadd hx hb dX6_read_84 ?_
      replace hf := s_bi_some hf
      obtain ⟨r8, σ6, hz7, hf⟩ := hf
      refine s_calliS (nn := 2) C (kcX6_cellOf_P (l := l) (G := G) (cy := cy) (sa := sa) (sh := sh) hI (sz := H.size) σ2 (x3 + x7) hz7) gk_X6_241 rfl rfl (by decide +kernel) ⟨Nat.le_of_ble_eq_true rfl, Nat.le_of_ble_eq_true rfl⟩ hP hS (As := [.ref (ad 19), .int (x3 + x7)]) (rest := [.ref (ad 0)]) rfl rfl hl.1 (Nat.le_of_ble_eq_true rfl) dX6_read_85 (fun H locs hP hS => ?_)
      replace hf := s_bi_some hf
      obtain ⟨r11, σ9, hz10, hf⟩ := hf
      refine s_calli (nn := 1) C (kcX6_add_P (l := l) (G := G) (cy := cy) (sa := sa) (sh := sh) hI (sz := H.size) σ6 r8 hz10) gk_X6_245 rfl rfl (by decide +kernel) ⟨Nat.le_of_ble_eq_true rfl, Nat.le_of_ble_eq_true rfl⟩ hP hS (q0 := 0) (ci := 6) rfl rfl rfl (As := [.int r8]) (rest := []) rfl rfl hl.1 (Nat.le_of_ble_eq_true rfl) dX6_read_88 (fun H locs hP hS => ?_)
      refine lv_if_ge (tgt := 109) hx hb dX6_read_91 (by decide) (fun c12 => ?_) (fun c12 => ?_)
      · rw [if_pos c12] at hf
        obtain ⟨t13, et13⟩ : ∃ z : Int32, z = (x7 + 1) := ⟨_, rfl⟩
        replace hf := s_lt_at et13 hf
        refine lv_iinc (v := t13) (lv' := [(7, .int t13), (6, .int r4), (0, .ref (ad 0)), (1, .int x1), (2, .int x2), (3, .int x3), (4, .int x4), (5, .int x5)]) hx hb dX6_read_109 hl (k := 7) rfl (by rw [et13]; rfl) (by decide) rfl (fun ls hl => ?_)
        refine lv_goto (tgt := 43) hx hb dX6_read_112 (by decide) ?_
        exact hk43 σ9 x1 x2 x3 x4 x5 r4 t13 _ _ _ hsh (lv_sub hl [2, 3, 4, 5, 6, 7, 1, 0] rfl) hP hS hf
      · rw [if_neg c12] at hf
        refine lv_aload_n hx hb dX6_read_94 rfl (lv_at hl 1 rfl) ?_
        refine va_get (D := G) (ci := 6) (v := .ref (ad 6)) (C := RX6) (T := TX6) (N := 9) hx hb hts inkX6 hown hK hP 0 rfl rfl 2 (by decide) (hts _ kw_232) (fun _ h9 => h9) rfl dX6_read_95 ?_
        refine lv_iload hx hb dX6_read_98 (lv_at hl 6 rfl) ?_
        refine va_putN (D := G) (ci := 1) (v := .int x5) (ty := .int) (C := RX1) (T := TX1) (N := 8) hx hb hts inkX1 tyX1 tyX1_ok nmX1 hown hK hP (hD _) hS 6 rfl rfl 1 (by decide) (kn_X6_88 hE) (fun _ h9 => h9) rfl (by decide +kernel) rfl rfl (Nat.le_of_ble_eq_true rfl) dX6_read_100 (fun H locs hP _ hS => ?_)
        obtain ⟨σ14, eσ14⟩ : ∃ z : Sg, z = (s_up σ9 6 1 x5) := ⟨_, rfl⟩
        replace hf := s_lt_at eσ14 hf
        replace hP : va_P G vwCl ((s_W1 cy ad sh) σ14) H := by rw [eσ14]; exact hP
        refine lv_bipush (v := -20) hx hb dX6_read_103 (by decide) ?_
        refine lv_iload hx hb dX6_read_105 (lv_at hl 7 rfl) ?_
        refine lv_isub hx hb dX6_read_107 ?_
        obtain ⟨he1, he2⟩ := s_ret hf
        exact W.iret hx hb hr (fun t ht hW => ⟨⟨_, (), rfl, he1, s_fin (Wd := (s_W1 cy ad sh)) ht he2 hP⟩, hS.F ht⟩) hS.2.2 dX6_read_108 hlk
    · rw [if_neg c5] at hf
      refine lv_goto (tgt := 115) hx hb dX6_read_71 (by decide) ?_
      exact kX6_read_P_p_b115 C σ2 r4 x7 _ _ _ (lv_sub hl [1, 0, 7] rfl) hP hS hf
set_option maxRecDepth 100000 in
set_option maxHeartbeats 4000000 in
theorem kX6_read_P_p_b43_L (C : s_X p s m meth c args cX6_read (some .int) 8 RX6 G cy sa ad 21) : ∀ (n : Nat), ∀ (σ : Sg) (x1 : Int32) (x2 : Int32) (x3 : Int32) (x4 : Int32) (x5 : Int32) (x6 : Int32) (x7 : Int32) (ls : Array Slot) (H : Heap) (locs : List Loc), sh (Int32.toNatClampNeg x1) = some (ad 19) → lv_has ls 8 [(0, .ref (ad 0)), (1, .int x1), (2, .int x2), (3, .int x3), (4, .int x4), (5, .int x5), (6, .int x6), (7, .int x7)] → va_P G vwCl ((s_W1 cy ad sh) σ) H → va_S (s_A ad 21 s.heap.size) s.heap H locs → fX6_read_P_p_b43_L n σ x1 x2 x3 x4 x5 x6 x7 = some (re, σe) → W p l e ({ frames := 4, cells := 0, slots := 0, locals := 83 } : Room) s m args below meth c H locs 0 0 (MQ below (s_Qi (s_W1 cy ad sh) G (s_A ad 21 s.heap.size) re σe) args s 0 0 (s_A ad 21 s.heap.size)) (F0 m 43 ls []) := by
  intro n
  induction n with
  | zero => intro σ x1 x2 x3 x4 x5 x6 x7 ls H locs hsh hl hP hS hf; exact absurd (show (none : Option (Int32 × Sg)) = some (re, σe) from hf) (by intro h; cases h)
  | succ n ih => intro σ x1 x2 x3 x4 x5 x6 x7 ls H locs hsh hl hP hS hf; exact kX6_read_P_p_b43 C (fX6_read_P_p_b43_L n) ih σ x1 x2 x3 x4 x5 x6 x7 ls H locs hsh hl hP hS hf
set_option maxRecDepth 100000 in
set_option maxHeartbeats 4000000 in
theorem kX6_read_P_p (C : s_X p s m meth c args cX6_read (some .int) 8 RX6 G cy sa ad 21) (σ : Sg) (x1 : Int32) (x2 : Int32) (x3 : Int32) (x4 : Int32) (ls : Array Slot) (H : Heap) (locs : List Loc) (hsh : sh (Int32.toNatClampNeg x1) = some (ad 19)) (hl : lv_has ls 8 [(0, .ref (ad 0)), (1, .int x1), (2, .int x2), (3, .int x3), (4, .int x4)]) (hP : va_P G vwCl ((s_W1 cy ad sh) σ) H) (hS : va_S (s_A ad 21 s.heap.size) s.heap H locs) (hf : fX6_read_P_p σ x1 x2 x3 x4 = some (re, σe)) : W p l e ({ frames := 4, cells := 0, slots := 0, locals := 83 } : Room) s m args below meth c H locs 0 0 (MQ below (s_Qi (s_W1 cy ad sh) G (s_A ad 21 s.heap.size) re σe) args s 0 0 (s_A ad 21 s.heap.size)) (F0 m 0 ls []) := by
  obtain ⟨hx, hb, hr, hml, hown, hts, hlk, hK, hE, hI⟩ := id C
  have hD : ∀ σ : Sg, va_D (s_A ad 21 s.heap.size) ((s_W1 cy ad sh) σ) := fun σ => s_D (s_W1_ad cy ad sh σ) hI (fun k hk => Or.inl ⟨k, hk, rfl⟩)
  unfold fX6_read_P_p at hf
  refine lv_iload_n hx hb dX6_read_0 rfl (lv_at hl 1 rfl) ?_
  replace hf := s_bi_some hf
  obtain ⟨r3, σ1, hz2, hf⟩ := hf
  refine s_calliS (nn := 1) C (kcX6_isSheet_P (l := l) (G := G) (cy := cy) (sa := sa) (sh := sh) hI (sz := H.size) σ x1 hz2) gk_X6_222 rfl rfl (by decide +kernel) ⟨Nat.le_of_ble_eq_true rfl, Nat.le_of_ble_eq_true rfl⟩ hP hS (As := [.int x1]) (rest := []) rfl rfl hl.1 (Nat.le_of_ble_eq_true rfl) dX6_read_1 (fun H locs hP hS => ?_)
  refine lv_if_eq (tgt := 26) hx hb dX6_read_4 (by decide) (fun c4 => ?_) (fun c4 => ?_)
  · rw [if_pos c4] at hf
    exact kX6_read_P_p_b26 C σ1 _ _ _ (lv_sub hl [] rfl) hP hS hf
  · rw [if_neg c4] at hf
    refine lv_iload_n hx hb dX6_read_7 rfl (lv_at hl 2 rfl) ?_
    replace hf := s_bi_some hf
    obtain ⟨r7, σ5, hz6, hf⟩ := hf
    refine s_calliS (nn := 1) C (kcX6_isLane_P (l := l) (G := G) (cy := cy) (sa := sa) (sh := sh) hI (sz := H.size) σ1 x2 hz6) gk_X6_225 rfl rfl (by decide +kernel) ⟨Nat.le_of_ble_eq_true rfl, Nat.le_of_ble_eq_true rfl⟩ hP hS (As := [.int x2]) (rest := []) rfl rfl hl.1 (Nat.le_of_ble_eq_true rfl) dX6_read_8 (fun H locs hP hS => ?_)
    refine lv_if_eq (tgt := 26) hx hb dX6_read_11 (by decide) (fun c8 => ?_) (fun c8 => ?_)
    · rw [if_pos c8] at hf
      exact kX6_read_P_p_b26 C σ5 _ _ _ (lv_sub hl [] rfl) hP hS hf
    · rw [if_neg c8] at hf
      refine lv_iload hx hb dX6_read_14 (lv_at hl 4 rfl) ?_
      refine lv_if_lt (tgt := 26) hx hb dX6_read_16 (by decide) (fun c9 => ?_) (fun c9 => ?_)
      · rw [if_pos c9] at hf
        exact kX6_read_P_p_b26 C σ5 _ _ _ (lv_sub hl [] rfl) hP hS hf
      · rw [if_neg c9] at hf
        refine lv_iload hx hb dX6_read_19 (lv_at hl 4 rfl) ?_
        refine lv_bipush (v := 40) hx hb dX6_read_21 (by decide) ?_
        refine lv_icmp_le (tgt := 28) hx hb dX6_read_23 (by decide) (fun c10 => ?_) (fun c10 => ?_)
        · rw [if_pos c10] at hf
          refine lv_aload_n hx hb dX6_read_28 rfl (lv_at hl 0 rfl) ?_
          refine va_get (D := G) (ci := 6) (v := .ref (ad 6)) (C := RX6) (T := TX6) (N := 9) hx hb hts inkX6 hown hK hP 0 rfl rfl 2 (by decide) (hts _ kw_232) (fun _ h9 => h9) rfl dX6_read_29 ?_
          refine va_getN (D := G) (ci := 1) (v := .int (σ5 6 1)) (C := RX1) (T := TX1) (N := 8) hx hb hts inkX1 hown hK hP 6 rfl rfl 1 (by decide) (kn_X6_88 hE) (fun _ h9 => h9) rfl dX6_read_32 ?_
          refine lv_topi (fun t11 et11 => ?_)
          replace hf := s_lt_at et11 hf
          refine lv_istore (lv' := [(5, .int t11), (0, .ref (ad 0)), (1, .int x1), (2, .int x2), (3, .int x3), (4, .int x4)]) hx hb dX6_read_35 hl (by decide) rfl (fun ls hl => ?_)
          refine lv_iconst (v := 0) hx hb dX6_read_37 (by decide) ?_
          refine lv_istore (lv' := [(6, .int (0 : Int32)), (5, .int t11), (0, .ref (ad 0)), (1, .int x1), (2, .int x2), (3, .int x3), (4, .int x4)]) hx hb dX6_read_38 hl (by decide) rfl (fun ls hl => ?_)
          refine lv_iconst (v := 0) hx hb dX6_read_40 (by decide) ?_
          refine lv_istore (lv' := [(7, .int (0 : Int32)), (6, .int (0 : Int32)), (5, .int t11), (0, .ref (ad 0)), (1, .int x1), (2, .int x2), (3, .int x3), (4, .int x4)]) hx hb dX6_read_41 hl (by decide) rfl (fun ls hl => ?_)
          exact kX6_read_P_p_b43_L C s_fu σ5 x1 x2 x3 x4 t11 (0 : Int32) (0 : Int32) _ _ _ hsh (lv_sub hl [3, 4, 5, 6, 7, 2, 1, 0] rfl) hP hS hf
        · rw [if_neg c10] at hf
          exact kX6_read_P_p_b26 C σ5 _ _ _ (lv_sub hl [] rfl) hP hS hf
theorem kcX6_read_P_p {l : Launch} {G : va_G} {cy : Nat → ClassId} {sa : Nat × Nat} {ad : Nat → Nat} {sh : Nat → Option Nat} {sz : Nat} (hI : s_inj ad 21) (σ : Sg) (x1 : Int32) (x2 : Int32) (x3 : Int32) (x4 : Int32) {re : Int32} {σe : Sg} (hsh : sh (Int32.toNatClampNeg x1) = some (ad 19)) (hf : fX6_read_P_p σ x1 x2 x3 x4 = some (re, σe)) : Met l yX6_read (kW yX6_read cX6_read 8 (some .int)) ({ frames := 4, cells := 0, slots := 0, locals := 83 } : Room) (s_P (s_W1 cy ad sh) G cy sa ad 21 [.ref (ad 0), .int x1, .int x2, .int x3, .int x4] sz σ) (s_Qi (s_W1 cy ad sh) G (s_A ad 21 sz) re σe) 0 0 (s_A ad 21 sz) := by
  refine s_met (own := RX6) (by decide) rfl hI (Nat.le_of_ble_eq_true rfl) (fun p e s m below meth c ls hsz C hP hl => ?_)
  subst hsz
  exact kX6_read_P_p C σ x1 x2 x3 x4 ls _ _ hsh hl hP va_S.rf hf
set_option maxRecDepth 100000 in
set_option maxHeartbeats 4000000 in
theorem kX6_count_n (C : s_X p s m meth c args cX6_count (some .int) 2 RX6 G cy sa ad 19) (hsh : sh (Int32.toNatClampNeg (0 : Int32)) = none) (σ : Sg) (x1 : Int32) (ls : Array Slot) (H : Heap) (locs : List Loc) (hl : lv_has ls 2 [(0, .ref (ad 0)), (1, .int x1)]) (hP : va_P G vwCl ((s_WC cy ad sh) σ) H) (hS : va_S (s_A ad 19 s.heap.size) s.heap H locs) (hf : fX6_count_n σ x1 = some (re, σe)) : W p l e ({ frames := 5, cells := 0, slots := 0, locals := 111 } : Room) s m args below meth c H locs 0 0 (MQ below (s_Qi (s_WC cy ad sh) G (s_A ad 19 s.heap.size) re σe) args s 0 0 (s_A ad 19 s.heap.size)) (F0 m 0 ls []) := by
  obtain ⟨hx, hb, hr, hml, hown, hts, hlk, hK, hE, hI⟩ := id C
  have hD : ∀ σ : Sg, va_D (s_A ad 19 s.heap.size) ((s_WC cy ad sh) σ) := fun σ => s_D (s_WC_ad cy ad sh σ) hI (fun k hk => Or.inl ⟨k, hk, rfl⟩)
  unfold fX6_count_n at hf
  refine lv_iload_n hx hb dX6_count_0 rfl (lv_at hl 1 rfl) ?_
  by_cases c1 : x1 = 0
  · rw [if_pos c1] at hf
    refine lv_tableIn (off := 31) (tgt := 32) hx hb dX6_count_1 (by rw [c1]; decide) (by rw [c1]; decide) (by rw [c1]; rfl) (by decide) ?_
    refine lv_aload_n hx hb dX6_count_32 rfl (lv_at hl 0 rfl) ?_
    replace hf := s_bi_some hf
    obtain ⟨r4, σ2, hz3, hf⟩ := hf
    refine s_calli (nn := 0) C (kcX6_countImages (l := l) (G := G) (cy := cy) (sa := sa) (sh := sh) hI (sz := H.size) σ hz3) gk_X6_248 rfl rfl (by decide +kernel) ⟨Nat.le_of_ble_eq_true rfl, Nat.le_of_ble_eq_true rfl⟩ hP hS (q0 := 0) (ci := 6) rfl rfl rfl (As := []) (rest := []) rfl rfl hl.1 (Nat.le_of_ble_eq_true rfl) dX6_count_33 (fun H locs hP hS => ?_)
    obtain ⟨he1, he2⟩ := s_ret hf
    exact W.iret hx hb hr (fun t ht hW => ⟨⟨_, (), rfl, he1, s_fin (Wd := (s_WC cy ad sh)) ht he2 hP⟩, hS.F ht⟩) hS.2.2 dX6_count_36 hlk
  · rw [if_neg c1] at hf
    by_cases c5 : x1 = 1
    · rw [if_pos c5] at hf
      refine lv_tableIn (off := 36) (tgt := 37) hx hb dX6_count_1 (by rw [c5]; decide) (by rw [c5]; decide) (by rw [c5]; rfl) (by decide) ?_
      refine lv_aload_n hx hb dX6_count_37 rfl (lv_at hl 0 rfl) ?_
      refine va_get (D := G) (ci := 6) (v := .ref (ad 1)) (C := RX6) (T := TX6) (N := 9) hx hb hts inkX6 hown hK hP 0 rfl rfl 0 (by decide) (hts _ kw_230) (fun _ h9 => h9) rfl dX6_count_38 ?_
      refine va_getN (D := G) (ci := 3) (v := .int (σ 1 1)) (C := RX3) (T := TX3) (N := 2) hx hb hts inkX3 hown hK hP 1 rfl rfl 1 (by decide) (kn_X6_72 hE) (fun _ h9 => h9) rfl dX6_count_41 ?_
      obtain ⟨he1, he2⟩ := s_ret hf
      exact W.iret hx hb hr (fun t ht hW => ⟨⟨_, (), rfl, he1, s_fin (Wd := (s_WC cy ad sh)) ht he2 hP⟩, hS.F ht⟩) hS.2.2 dX6_count_44 hlk
    · rw [if_neg c5] at hf
      by_cases c6 : x1 = 2
      · rw [if_pos c6] at hf
        refine lv_tableIn (off := 44) (tgt := 45) hx hb dX6_count_1 (by rw [c6]; decide) (by rw [c6]; decide) (by rw [c6]; rfl) (by decide) ?_
        refine lv_aload_n hx hb dX6_count_45 rfl (lv_at hl 0 rfl) ?_
        refine va_get (D := G) (ci := 6) (v := .ref (ad 18)) (C := RX6) (T := TX6) (N := 9) hx hb hts inkX6 hown hK hP 0 rfl rfl 7 (by decide) (hts _ kw_237) (fun _ h9 => h9) rfl dX6_count_46 ?_
        refine lv_iconst (v := 0) hx hb dX6_count_49 (by decide) ?_
        replace hf := s_gd_some hf
        obtain ⟨g7, hf⟩ := hf
        refine va_aldq hx hb hK hP 18 4 rfl rfl (s_in_of g7) dX6_count_50 ?_
        refine W.eq (g2 := F0 m 51 ls [.null]) (by rw [hsh]; rfl) ?_
        refine lv_ifnonnullN hx hb dX6_count_51 ?_
        refine lv_bipush (v := -4) hx hb dX6_count_54 (by decide) ?_
        refine lv_goto (tgt := 69) hx hb dX6_count_56 (by decide) ?_
        obtain ⟨he1, he2⟩ := s_ret hf
        exact W.iret hx hb hr (fun t ht hW => ⟨⟨_, (), rfl, he1, s_fin (Wd := (s_WC cy ad sh)) ht he2 hP⟩, hS.F ht⟩) hS.2.2 dX6_count_69 hlk
      · rw [if_neg c6] at hf
        by_cases c8 : x1 = 3
        · rw [if_pos c8] at hf
          refine lv_tableIn (off := 69) (tgt := 70) hx hb dX6_count_1 (by rw [c8]; decide) (by rw [c8]; decide) (by rw [c8]; rfl) (by decide) ?_
          refine lv_aload_n hx hb dX6_count_70 rfl (lv_at hl 0 rfl) ?_
          replace hf := s_bi_some hf
          obtain ⟨r11, σ9, hz10, hf⟩ := hf
          refine s_calli (nn := 0) C (kcX6_countShownBytes (l := l) (G := G) (cy := cy) (sa := sa) (sh := sh) hI (sz := H.size) σ hz10) gk_X6_255 rfl rfl (by decide +kernel) ⟨Nat.le_of_ble_eq_true rfl, Nat.le_of_ble_eq_true rfl⟩ hP hS (q0 := 0) (ci := 6) rfl rfl rfl (As := []) (rest := []) rfl rfl hl.1 (Nat.le_of_ble_eq_true rfl) dX6_count_71 (fun H locs hP hS => ?_)
          obtain ⟨he1, he2⟩ := s_ret hf
          exact W.iret hx hb hr (fun t ht hW => ⟨⟨_, (), rfl, he1, s_fin (Wd := (s_WC cy ad sh)) ht he2 hP⟩, hS.F ht⟩) hS.2.2 dX6_count_74 hlk
        · rw [if_neg c8] at hf
          have qc1 := lv_neT c1 (a := 0) (by decide)
          have qc5 := lv_neT c5 (a := 1) (by decide)
          have qc6 := lv_neT c6 (a := 2) (by decide)
          have qc8 := lv_neT c8 (a := 3) (by decide)
          refine lv_tableOut (tgt := 75) hx hb dX6_count_1 (by omega) (by decide) ?_
          refine lv_iconst (v := -1) hx hb dX6_count_75 (by decide) ?_
          obtain ⟨he1, he2⟩ := s_ret hf
          exact W.iret hx hb hr (fun t ht hW => ⟨⟨_, (), rfl, he1, s_fin (Wd := (s_WC cy ad sh)) ht he2 hP⟩, hS.F ht⟩) hS.2.2 dX6_count_76 hlk
theorem kcX6_count_n {l : Launch} {G : va_G} {cy : Nat → ClassId} {sa : Nat × Nat} {ad : Nat → Nat} {sh : Nat → Option Nat} {sz : Nat} (hI : s_inj ad 19) (hsh : sh (Int32.toNatClampNeg (0 : Int32)) = none) (σ : Sg) (x1 : Int32) {re : Int32} {σe : Sg} (hf : fX6_count_n σ x1 = some (re, σe)) : Met l yX6_count (kW yX6_count cX6_count 2 (some .int)) ({ frames := 5, cells := 0, slots := 0, locals := 111 } : Room) (s_P (s_WC cy ad sh) G cy sa ad 19 [.ref (ad 0), .int x1] sz σ) (s_Qi (s_WC cy ad sh) G (s_A ad 19 sz) re σe) 0 0 (s_A ad 19 sz) := by
  refine s_met (own := RX6) (by decide) rfl hI (Nat.le_of_ble_eq_true rfl) (fun p e s m below meth c ls hsz C hP hl => ?_)
  subst hsz
  exact kX6_count_n C hsh σ x1 ls _ _ hl hP va_S.rf hf
set_option maxRecDepth 100000 in
set_option maxHeartbeats 4000000 in
theorem kX6_count_P_p (C : s_X p s m meth c args cX6_count (some .int) 2 RX6 G cy sa ad 21) (hsh : sh (Int32.toNatClampNeg (0 : Int32)) = some (ad 19)) (σ : Sg) (x1 : Int32) (ls : Array Slot) (H : Heap) (locs : List Loc) (hl : lv_has ls 2 [(0, .ref (ad 0)), (1, .int x1)]) (hP : va_P G vwCl ((s_W1 cy ad sh) σ) H) (hS : va_S (s_A ad 21 s.heap.size) s.heap H locs) (hf : fX6_count_P_p σ x1 = some (re, σe)) : W p l e ({ frames := 0, cells := 0, slots := 0, locals := 0 } : Room) s m args below meth c H locs 0 0 (MQ below (s_Qi (s_W1 cy ad sh) G (s_A ad 21 s.heap.size) re σe) args s 0 0 (s_A ad 21 s.heap.size)) (F0 m 0 ls []) := by
  obtain ⟨hx, hb, hr, hml, hown, hts, hlk, hK, hE, hI⟩ := id C
  have hD : ∀ σ : Sg, va_D (s_A ad 21 s.heap.size) ((s_W1 cy ad sh) σ) := fun σ => s_D (s_W1_ad cy ad sh σ) hI (fun k hk => Or.inl ⟨k, hk, rfl⟩)
  unfold fX6_count_P_p at hf
  refine lv_iload_n hx hb dX6_count_0 rfl (lv_at hl 1 rfl) ?_
  by_cases c1 : x1 = 0
  · rw [if_pos c1] at hf
    refine lv_tableIn (off := 31) (tgt := 32) hx hb dX6_count_1 (by rw [c1]; decide) (by rw [c1]; decide) (by rw [c1]; rfl) (by decide) ?_
    refine lv_aload_n hx hb dX6_count_32 rfl (lv_at hl 0 rfl) ?_
    cases hf
  · rw [if_neg c1] at hf
    by_cases c2 : x1 = 1
    · rw [if_pos c2] at hf
      refine lv_tableIn (off := 36) (tgt := 37) hx hb dX6_count_1 (by rw [c2]; decide) (by rw [c2]; decide) (by rw [c2]; rfl) (by decide) ?_
      refine lv_aload_n hx hb dX6_count_37 rfl (lv_at hl 0 rfl) ?_
      refine va_get (D := G) (ci := 6) (v := .ref (ad 1)) (C := RX6) (T := TX6) (N := 9) hx hb hts inkX6 hown hK hP 0 rfl rfl 0 (by decide) (hts _ kw_230) (fun _ h9 => h9) rfl dX6_count_38 ?_
      refine va_getN (D := G) (ci := 3) (v := .int (σ 1 1)) (C := RX3) (T := TX3) (N := 2) hx hb hts inkX3 hown hK hP 1 rfl rfl 1 (by decide) (kn_X6_72 hE) (fun _ h9 => h9) rfl dX6_count_41 ?_
      obtain ⟨he1, he2⟩ := s_ret hf
      exact W.iret hx hb hr (fun t ht hW => ⟨⟨_, (), rfl, he1, s_fin (Wd := (s_W1 cy ad sh)) ht he2 hP⟩, hS.F ht⟩) hS.2.2 dX6_count_44 hlk
    · rw [if_neg c2] at hf
      by_cases c3 : x1 = 2
      · rw [if_pos c3] at hf
        refine lv_tableIn (off := 44) (tgt := 45) hx hb dX6_count_1 (by rw [c3]; decide) (by rw [c3]; decide) (by rw [c3]; rfl) (by decide) ?_
        refine lv_aload_n hx hb dX6_count_45 rfl (lv_at hl 0 rfl) ?_
        refine va_get (D := G) (ci := 6) (v := .ref (ad 18)) (C := RX6) (T := TX6) (N := 9) hx hb hts inkX6 hown hK hP 0 rfl rfl 7 (by decide) (hts _ kw_237) (fun _ h9 => h9) rfl dX6_count_46 ?_
        refine lv_iconst (v := 0) hx hb dX6_count_49 (by decide) ?_
        replace hf := s_gd_some hf
        obtain ⟨g5, hf⟩ := hf
        refine va_aldq hx hb hK hP 18 4 rfl rfl (s_in_of g5) dX6_count_50 ?_
        refine W.eq (g2 := F0 m 51 ls [.ref (ad 19)]) (by rw [hsh]; rfl) ?_
        refine lv_ifnonnull (tgt := 59) hx hb dX6_count_51 (by decide) ?_
        refine lv_aload_n hx hb dX6_count_59 rfl (lv_at hl 0 rfl) ?_
        refine va_get (D := G) (ci := 6) (v := .ref (ad 18)) (C := RX6) (T := TX6) (N := 9) hx hb hts inkX6 hown hK hP 0 rfl rfl 7 (by decide) (hts _ kw_237) (fun _ h9 => h9) rfl dX6_count_60 ?_
        refine lv_iconst (v := 0) hx hb dX6_count_63 (by decide) ?_
        replace hf := s_gd_some hf
        obtain ⟨g4, hf⟩ := hf
        refine va_aldq hx hb hK hP 18 4 rfl rfl (s_in_of g4) dX6_count_64 ?_
        refine W.eq (g2 := F0 m 65 ls [.ref (ad 19)]) (by rw [hsh]; rfl) ?_
        refine va_getN (D := G) (ci := 2) (v := .ref (ad 20)) (C := RX2) (T := TX2) (N := 2) hx hb hts inkX2 hown hK hP 19 rfl rfl 1 (by decide) (kn_X6_251 hE) (fun _ h9 => h9) rfl dX6_count_65 ?_
        refine va_alen (v := (Int32.ofNat (Int32.toNatClampNeg (σ 19 1)))) hx hb hK hP 20 1 rfl rfl rfl dX6_count_68 ?_
        obtain ⟨he1, he2⟩ := s_ret hf
        exact W.iret hx hb hr (fun t ht hW => ⟨⟨_, (), rfl, he1, s_fin (Wd := (s_W1 cy ad sh)) ht he2 hP⟩, hS.F ht⟩) hS.2.2 dX6_count_69 hlk
      · rw [if_neg c3] at hf
        by_cases c6 : x1 = 3
        · rw [if_pos c6] at hf
          refine lv_tableIn (off := 69) (tgt := 70) hx hb dX6_count_1 (by rw [c6]; decide) (by rw [c6]; decide) (by rw [c6]; rfl) (by decide) ?_
          refine lv_aload_n hx hb dX6_count_70 rfl (lv_at hl 0 rfl) ?_
          cases hf
        · rw [if_neg c6] at hf
          have qc1 := lv_neT c1 (a := 0) (by decide)
          have qc2 := lv_neT c2 (a := 1) (by decide)
          have qc3 := lv_neT c3 (a := 2) (by decide)
          have qc6 := lv_neT c6 (a := 3) (by decide)
          refine lv_tableOut (tgt := 75) hx hb dX6_count_1 (by omega) (by decide) ?_
          refine lv_iconst (v := -1) hx hb dX6_count_75 (by decide) ?_
          obtain ⟨he1, he2⟩ := s_ret hf
          exact W.iret hx hb hr (fun t ht hW => ⟨⟨_, (), rfl, he1, s_fin (Wd := (s_W1 cy ad sh)) ht he2 hP⟩, hS.F ht⟩) hS.2.2 dX6_count_76 hlk
theorem kcX6_count_P_p {l : Launch} {G : va_G} {cy : Nat → ClassId} {sa : Nat × Nat} {ad : Nat → Nat} {sh : Nat → Option Nat} {sz : Nat} (hI : s_inj ad 21) (hsh : sh (Int32.toNatClampNeg (0 : Int32)) = some (ad 19)) (σ : Sg) (x1 : Int32) {re : Int32} {σe : Sg} (hf : fX6_count_P_p σ x1 = some (re, σe)) : Met l yX6_count (kW yX6_count cX6_count 2 (some .int)) ({ frames := 0, cells := 0, slots := 0, locals := 0 } : Room) (s_P (s_W1 cy ad sh) G cy sa ad 21 [.ref (ad 0), .int x1] sz σ) (s_Qi (s_W1 cy ad sh) G (s_A ad 21 sz) re σe) 0 0 (s_A ad 21 sz) := by
  refine s_met (own := RX6) (by decide) rfl hI (Nat.le_of_ble_eq_true rfl) (fun p e s m below meth c ls hsz C hP hl => ?_)
  subst hsz
  exact kX6_count_P_p C hsh σ x1 ls _ _ hl hP va_S.rf hf
set_option maxRecDepth 100000 in
set_option maxHeartbeats 4000000 in
theorem kX6_count_x (C : s_X p s m meth c args cX6_count (some .int) 2 RX6 G cy sa ad 19) (σ : Sg) (x1 : Int32) (ls : Array Slot) (H : Heap) (locs : List Loc) (hl : lv_has ls 2 [(0, .ref (ad 0)), (1, .int x1)]) (hP : va_P G vwCl ((s_WC cy ad sh) σ) H) (hS : va_S (s_A ad 19 s.heap.size) s.heap H locs) (hf : fX6_count_x σ x1 = some (re, σe)) : W p l e ({ frames := 5, cells := 0, slots := 0, locals := 111 } : Room) s m args below meth c H locs 0 0 (MQ below (s_Qi (s_WC cy ad sh) G (s_A ad 19 s.heap.size) re σe) args s 0 0 (s_A ad 19 s.heap.size)) (F0 m 0 ls []) := by
  obtain ⟨hx, hb, hr, hml, hown, hts, hlk, hK, hE, hI⟩ := id C
  have hD : ∀ σ : Sg, va_D (s_A ad 19 s.heap.size) ((s_WC cy ad sh) σ) := fun σ => s_D (s_WC_ad cy ad sh σ) hI (fun k hk => Or.inl ⟨k, hk, rfl⟩)
  unfold fX6_count_x at hf
  refine lv_iload_n hx hb dX6_count_0 rfl (lv_at hl 1 rfl) ?_
  by_cases c1 : x1 = 0
  · rw [if_pos c1] at hf
    refine lv_tableIn (off := 31) (tgt := 32) hx hb dX6_count_1 (by rw [c1]; decide) (by rw [c1]; decide) (by rw [c1]; rfl) (by decide) ?_
    refine lv_aload_n hx hb dX6_count_32 rfl (lv_at hl 0 rfl) ?_
    replace hf := s_bi_some hf
    obtain ⟨r4, σ2, hz3, hf⟩ := hf
    refine s_calli (nn := 0) C (kcX6_countImages (l := l) (G := G) (cy := cy) (sa := sa) (sh := sh) hI (sz := H.size) σ hz3) gk_X6_248 rfl rfl (by decide +kernel) ⟨Nat.le_of_ble_eq_true rfl, Nat.le_of_ble_eq_true rfl⟩ hP hS (q0 := 0) (ci := 6) rfl rfl rfl (As := []) (rest := []) rfl rfl hl.1 (Nat.le_of_ble_eq_true rfl) dX6_count_33 (fun H locs hP hS => ?_)
    obtain ⟨he1, he2⟩ := s_ret hf
    exact W.iret hx hb hr (fun t ht hW => ⟨⟨_, (), rfl, he1, s_fin (Wd := (s_WC cy ad sh)) ht he2 hP⟩, hS.F ht⟩) hS.2.2 dX6_count_36 hlk
  · rw [if_neg c1] at hf
    by_cases c5 : x1 = 1
    · rw [if_pos c5] at hf
      refine lv_tableIn (off := 36) (tgt := 37) hx hb dX6_count_1 (by rw [c5]; decide) (by rw [c5]; decide) (by rw [c5]; rfl) (by decide) ?_
      refine lv_aload_n hx hb dX6_count_37 rfl (lv_at hl 0 rfl) ?_
      refine va_get (D := G) (ci := 6) (v := .ref (ad 1)) (C := RX6) (T := TX6) (N := 9) hx hb hts inkX6 hown hK hP 0 rfl rfl 0 (by decide) (hts _ kw_230) (fun _ h9 => h9) rfl dX6_count_38 ?_
      refine va_getN (D := G) (ci := 3) (v := .int (σ 1 1)) (C := RX3) (T := TX3) (N := 2) hx hb hts inkX3 hown hK hP 1 rfl rfl 1 (by decide) (kn_X6_72 hE) (fun _ h9 => h9) rfl dX6_count_41 ?_
      obtain ⟨he1, he2⟩ := s_ret hf
      exact W.iret hx hb hr (fun t ht hW => ⟨⟨_, (), rfl, he1, s_fin (Wd := (s_WC cy ad sh)) ht he2 hP⟩, hS.F ht⟩) hS.2.2 dX6_count_44 hlk
    · rw [if_neg c5] at hf
      by_cases c6 : x1 = 2
      · rw [if_pos c6] at hf
        refine lv_tableIn (off := 44) (tgt := 45) hx hb dX6_count_1 (by rw [c6]; decide) (by rw [c6]; decide) (by rw [c6]; rfl) (by decide) ?_
        refine lv_aload_n hx hb dX6_count_45 rfl (lv_at hl 0 rfl) ?_
        refine va_get (D := G) (ci := 6) (v := .ref (ad 18)) (C := RX6) (T := TX6) (N := 9) hx hb hts inkX6 hown hK hP 0 rfl rfl 7 (by decide) (hts _ kw_237) (fun _ h9 => h9) rfl dX6_count_46 ?_
        refine lv_iconst (v := 0) hx hb dX6_count_49 (by decide) ?_
        cases hf
      · rw [if_neg c6] at hf
        by_cases c7 : x1 = 3
        · rw [if_pos c7] at hf
          refine lv_tableIn (off := 69) (tgt := 70) hx hb dX6_count_1 (by rw [c7]; decide) (by rw [c7]; decide) (by rw [c7]; rfl) (by decide) ?_
          refine lv_aload_n hx hb dX6_count_70 rfl (lv_at hl 0 rfl) ?_
          replace hf := s_bi_some hf
          obtain ⟨r10, σ8, hz9, hf⟩ := hf
          refine s_calli (nn := 0) C (kcX6_countShownBytes (l := l) (G := G) (cy := cy) (sa := sa) (sh := sh) hI (sz := H.size) σ hz9) gk_X6_255 rfl rfl (by decide +kernel) ⟨Nat.le_of_ble_eq_true rfl, Nat.le_of_ble_eq_true rfl⟩ hP hS (q0 := 0) (ci := 6) rfl rfl rfl (As := []) (rest := []) rfl rfl hl.1 (Nat.le_of_ble_eq_true rfl) dX6_count_71 (fun H locs hP hS => ?_)
          obtain ⟨he1, he2⟩ := s_ret hf
          exact W.iret hx hb hr (fun t ht hW => ⟨⟨_, (), rfl, he1, s_fin (Wd := (s_WC cy ad sh)) ht he2 hP⟩, hS.F ht⟩) hS.2.2 dX6_count_74 hlk
        · rw [if_neg c7] at hf
          have qc1 := lv_neT c1 (a := 0) (by decide)
          have qc5 := lv_neT c5 (a := 1) (by decide)
          have qc6 := lv_neT c6 (a := 2) (by decide)
          have qc7 := lv_neT c7 (a := 3) (by decide)
          refine lv_tableOut (tgt := 75) hx hb dX6_count_1 (by omega) (by decide) ?_
          refine lv_iconst (v := -1) hx hb dX6_count_75 (by decide) ?_
          obtain ⟨he1, he2⟩ := s_ret hf
          exact W.iret hx hb hr (fun t ht hW => ⟨⟨_, (), rfl, he1, s_fin (Wd := (s_WC cy ad sh)) ht he2 hP⟩, hS.F ht⟩) hS.2.2 dX6_count_76 hlk
theorem kcX6_count_x {l : Launch} {G : va_G} {cy : Nat → ClassId} {sa : Nat × Nat} {ad : Nat → Nat} {sh : Nat → Option Nat} {sz : Nat} (hI : s_inj ad 19) (σ : Sg) (x1 : Int32) {re : Int32} {σe : Sg} (hf : fX6_count_x σ x1 = some (re, σe)) : Met l yX6_count (kW yX6_count cX6_count 2 (some .int)) ({ frames := 5, cells := 0, slots := 0, locals := 111 } : Room) (s_P (s_WC cy ad sh) G cy sa ad 19 [.ref (ad 0), .int x1] sz σ) (s_Qi (s_WC cy ad sh) G (s_A ad 19 sz) re σe) 0 0 (s_A ad 19 sz) := by
  refine s_met (own := RX6) (by decide) rfl hI (Nat.le_of_ble_eq_true rfl) (fun p e s m below meth c ls hsz C hP hl => ?_)
  subst hsz
  exact kX6_count_x C σ x1 ls _ _ hl hP va_S.rf hf
end
