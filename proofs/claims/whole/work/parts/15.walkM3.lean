section
variable {p : Program} {l : Launch} {e : Env} {s : State} {m : MethodId} {below : List Frame} {meth : Method} {c : Code} {G : va_G} {cy : Nat → ClassId} {sa : Nat × Nat} {ad : Nat → Nat} {args : Array Value} {re : Int32} {σe : Sg}
set_option maxRecDepth 100000 in
set_option maxHeartbeats 4000000 in
theorem kX7_shows (C : s_X p s m meth c args cX7_shows none 2 RX7 G cy sa ad 12) (σ : Sg) (x1 : Int32) (ls : Array Slot) (H : Heap) (locs : List Loc) (hl : lv_has ls 2 [(0, .ref (ad 0)), (1, .int x1)]) (hP : va_P G vwCl ((s_WM cy ad) σ) H) (hS : va_S (s_A ad 12 s.heap.size) s.heap H locs) (hf : fX7_shows σ x1 = some σe) : W p l e ({ frames := 0, cells := 0, slots := 0, locals := 0 } : Room) s m args below meth c H locs 0 0 (MQ below (s_Qv (s_WM cy ad) G (s_A ad 12 s.heap.size) σe) args s 0 0 (s_A ad 12 s.heap.size)) (F0 m 0 ls []) := by
  obtain ⟨hx, hb, hr, hml, hown, hts, hlk, hK, hE, hI⟩ := id C
  have hD : ∀ σ : Sg, va_D (s_A ad 12 s.heap.size) ((s_WM cy ad) σ) := fun σ => s_D (s_WM_ad cy ad σ) hI (fun k hk => Or.inl ⟨k, hk, rfl⟩)
  unfold fX7_shows at hf
  refine lv_aload_n hx hb dX7_shows_0 rfl (lv_at hl 0 rfl) ?_
  refine va_get (D := G) (ci := 7) (v := .ref (ad 7)) (C := RX7) (T := TX7) (N := 28) hx hb hts inkX7 hown hK hP 0 rfl rfl 21 (by decide) (hts _ kw_803) (fun _ h9 => h9) rfl dX7_shows_1 ?_
  refine lv_aload_n hx hb dX7_shows_4 rfl (lv_at hl 0 rfl) ?_
  refine va_get (D := G) (ci := 7) (v := .int (σ 0 22)) (C := RX7) (T := TX7) (N := 28) hx hb hts inkX7 hown hK hP 0 rfl rfl 22 (by decide) (hts _ kw_804) (fun _ h9 => h9) rfl dX7_shows_5 ?_
  refine lv_iload_n hx hb dX7_shows_8 rfl (lv_at hl 1 rfl) ?_
  replace hf := s_gd_some hf
  obtain ⟨g1, hf⟩ := hf
  refine va_iast hx hb hK hP (hD _) hS 7 1 rfl rfl (s_in_of g1) dX7_shows_9 (fun H locs hP _ hS => ?_)
  obtain ⟨σ2, eσ2⟩ : ∃ z : Sg, z = (s_up σ 7 (Int32.toNatClampNeg (σ 0 22)) x1) := ⟨_, rfl⟩
  replace hf := s_lt_at eσ2 hf
  replace hP : va_P G vwCl ((s_WM cy ad) σ2) H := by rw [eσ2]; exact hP
  refine lv_aload_n hx hb dX7_shows_10 rfl (lv_at hl 0 rfl) ?_
  refine lv_dup hx hb dX7_shows_11 rfl ?_
  refine va_get (D := G) (ci := 7) (v := .int (σ2 0 22)) (C := RX7) (T := TX7) (N := 28) hx hb hts inkX7 hown hK hP 0 rfl rfl 22 (by decide) (hts _ kw_804) (fun _ h9 => h9) rfl dX7_shows_12 ?_
  refine lv_iconst (v := 1) hx hb dX7_shows_15 (by decide) ?_
  refine lv_iadd hx hb dX7_shows_16 ?_
  refine va_put (D := G) (ci := 7) (v := .int ((σ2 0 22) + (1 : Int32))) (ty := .int) (C := RX7) (T := TX7) (N := 28) hx hb hts inkX7 tyX7 tyX7_ok nmX7 hown hK hP (hD _) hS 0 rfl rfl 22 (by decide) (hts _ kw_804) (fun _ h9 => h9) rfl (by decide +kernel) rfl rfl (Nat.le_of_ble_eq_true rfl) dX7_shows_17 (fun H locs hP _ hS => ?_)
  obtain ⟨σ3, eσ3⟩ : ∃ z : Sg, z = (s_up σ2 0 22 ((σ2 0 22) + (1 : Int32))) := ⟨_, rfl⟩
  replace hf := s_lt_at eσ3 hf
  replace hP : va_P G vwCl ((s_WM cy ad) σ3) H := by rw [eσ3]; exact hP
  have he2 := Option.some.inj hf
  exact W.vret hx hb hr (fun t ht hW => ⟨⟨(), rfl, trivial, s_fin (Wd := (s_WM cy ad)) ht he2 hP⟩, hS.F ht⟩) hS.2.2 dX7_shows_20 hlk
theorem kcX7_shows {l : Launch} {G : va_G} {cy : Nat → ClassId} {sa : Nat × Nat} {ad : Nat → Nat}  {sz : Nat} (hI : s_inj ad 12) (σ : Sg) (x1 : Int32) {σe : Sg} (hf : fX7_shows σ x1 = some σe) : Met l yX7_shows (kW yX7_shows cX7_shows 2 none) ({ frames := 0, cells := 0, slots := 0, locals := 0 } : Room) (s_P (s_WM cy ad) G cy sa ad 12 [.ref (ad 0), .int x1] sz σ) (s_Qv (s_WM cy ad) G (s_A ad 12 sz) σe) 0 0 (s_A ad 12 sz) := by
  refine s_met (own := RX7) (by decide) rfl hI (Nat.le_of_ble_eq_true rfl) (fun p e s m below meth c ls hsz C hP hl => ?_)
  subst hsz
  exact kX7_shows C σ x1 ls _ _ hl hP va_S.rf hf
set_option maxRecDepth 100000 in
set_option maxHeartbeats 4000000 in
theorem kX7_showsNumber_b18 (C : s_X p s m meth c args cX7_showsNumber none 3 RX7 G cy sa ad 12) (k18 : Sg → Int32 → Int32 → Option Sg) (hk18 : ∀ (σ : Sg) (x1 : Int32) (x2 : Int32) (ls : Array Slot) (H : Heap) (locs : List Loc), lv_has ls 3 [(0, .ref (ad 0)), (1, .int x1), (2, .int x2)] → va_P G vwCl ((s_WM cy ad) σ) H → va_S (s_A ad 12 s.heap.size) s.heap H locs → k18 σ x1 x2 = some σe → W p l e ({ frames := 1, cells := 0, slots := 0, locals := 21 } : Room) s m args below meth c H locs 0 0 (MQ below (s_Qv (s_WM cy ad) G (s_A ad 12 s.heap.size) σe) args s 0 0 (s_A ad 12 s.heap.size)) (F0 m 18 ls [])) (σ : Sg) (x1 : Int32) (x2 : Int32) (ls : Array Slot) (H : Heap) (locs : List Loc) (hl : lv_has ls 3 [(0, .ref (ad 0)), (1, .int x1), (2, .int x2)]) (hP : va_P G vwCl ((s_WM cy ad) σ) H) (hS : va_S (s_A ad 12 s.heap.size) s.heap H locs) (hf : fX7_showsNumber_b18 k18 σ x1 x2 = some σe) : W p l e ({ frames := 1, cells := 0, slots := 0, locals := 21 } : Room) s m args below meth c H locs 0 0 (MQ below (s_Qv (s_WM cy ad) G (s_A ad 12 s.heap.size) σe) args s 0 0 (s_A ad 12 s.heap.size)) (F0 m 18 ls []) := by
  obtain ⟨hx, hb, hr, hml, hown, hts, hlk, hK, hE, hI⟩ := id C
  have hD : ∀ σ : Sg, va_D (s_A ad 12 s.heap.size) ((s_WM cy ad) σ) := fun σ => s_D (s_WM_ad cy ad σ) hI (fun k hk => Or.inl ⟨k, hk, rfl⟩)
  unfold fX7_showsNumber_b18 at hf
  refine lv_iload_n hx hb dX7_showsNumber_18 rfl (lv_at hl 2 rfl) ?_
  refine lv_if_le (tgt := 43) hx hb dX7_showsNumber_19 (by decide) (fun c1 => ?_) (fun c1 => ?_)
  · rw [if_pos c1] at hf
    have he2 := Option.some.inj hf
    exact W.vret hx hb hr (fun t ht hW => ⟨⟨(), rfl, trivial, s_fin (Wd := (s_WM cy ad)) ht he2 hP⟩, hS.F ht⟩) hS.2.2 dX7_showsNumber_43 hlk
  · rw [if_neg c1] at hf
    refine lv_aload_n hx hb dX7_showsNumber_22 rfl (lv_at hl 0 rfl) ?_
    refine lv_bipush (v := 48) hx hb dX7_showsNumber_23 (by decide) ?_
    refine lv_iload_n hx hb dX7_showsNumber_25 rfl (lv_at hl 1 rfl) ?_
    refine lv_iload_n hx hb dX7_showsNumber_26 rfl (lv_at hl 2 rfl) ?_
    replace hf := s_gd_some hf
    obtain ⟨g2, hf⟩ := hf
    refine lv_idiv hx hb dX7_showsNumber_27 (s_nz_of g2) ?_
    refine lv_bipush (v := 10) hx hb dX7_showsNumber_28 (by decide) ?_
    refine lv_irem hx hb dX7_showsNumber_30 (by decide) ?_
    refine lv_topi (fun t3 et3 => ?_)
    replace hf := s_lt_at et3 hf
    refine lv_iadd hx hb dX7_showsNumber_31 ?_
    replace hf := s_bv_some hf
    obtain ⟨σ4, hz5, hf⟩ := hf
    refine s_callv (nn := 1) C (kcX7_shows (l := l) (G := G) (cy := cy) (sa := sa) hI (sz := H.size) σ ((48 : Int32) + t3) hz5) gk_X7_189 rfl rfl (by decide +kernel) ⟨Nat.le_of_ble_eq_true rfl, Nat.le_of_ble_eq_true rfl⟩ hP hS (q0 := 0) (ci := 7) rfl rfl rfl (As := [.int ((48 : Int32) + t3)]) (rest := []) rfl rfl hl.1 (Nat.le_of_ble_eq_true rfl) dX7_showsNumber_32 (fun H locs hP hS => ?_)
    refine lv_iload_n hx hb dX7_showsNumber_35 rfl (lv_at hl 2 rfl) ?_
    refine lv_bipush (v := 10) hx hb dX7_showsNumber_36 (by decide) ?_
    refine lv_idiv hx hb dX7_showsNumber_38 (by decide) ?_
    refine lv_topi (fun t6 et6 => ?_)
    replace hf := s_lt_at et6 hf
    refine lv_istore_n (lv' := [(2, .int t6), (0, .ref (ad 0)), (1, .int x1)]) hx hb dX7_showsNumber_39 rfl hl (by decide) rfl (fun ls hl => ?_)
    refine lv_goto (tgt := 18) hx hb dX7_showsNumber_40 (by decide) ?_
    exact hk18 σ4 x1 t6 _ _ _ (lv_sub hl [1, 2, 0] rfl) hP hS hf
set_option maxRecDepth 100000 in
set_option maxHeartbeats 4000000 in
theorem kX7_showsNumber_b18_L (C : s_X p s m meth c args cX7_showsNumber none 3 RX7 G cy sa ad 12) : ∀ (n : Nat), ∀ (σ : Sg) (x1 : Int32) (x2 : Int32) (ls : Array Slot) (H : Heap) (locs : List Loc), lv_has ls 3 [(0, .ref (ad 0)), (1, .int x1), (2, .int x2)] → va_P G vwCl ((s_WM cy ad) σ) H → va_S (s_A ad 12 s.heap.size) s.heap H locs → fX7_showsNumber_b18_L n σ x1 x2 = some σe → W p l e ({ frames := 1, cells := 0, slots := 0, locals := 21 } : Room) s m args below meth c H locs 0 0 (MQ below (s_Qv (s_WM cy ad) G (s_A ad 12 s.heap.size) σe) args s 0 0 (s_A ad 12 s.heap.size)) (F0 m 18 ls []) := by
  intro n
  induction n with
  | zero => intro σ x1 x2 ls H locs hl hP hS hf; exact absurd (show (none : Option Sg) = some σe from hf) (by intro h; cases h)
  | succ n ih => intro σ x1 x2 ls H locs hl hP hS hf; exact kX7_showsNumber_b18 C (fX7_showsNumber_b18_L n) ih σ x1 x2 ls H locs hl hP hS hf
set_option maxRecDepth 100000 in
set_option maxHeartbeats 4000000 in
theorem kX7_showsNumber_b2 (C : s_X p s m meth c args cX7_showsNumber none 3 RX7 G cy sa ad 12) (k2 : Sg → Int32 → Int32 → Option Sg) (hk2 : ∀ (σ : Sg) (x1 : Int32) (x2 : Int32) (ls : Array Slot) (H : Heap) (locs : List Loc), lv_has ls 3 [(0, .ref (ad 0)), (1, .int x1), (2, .int x2)] → va_P G vwCl ((s_WM cy ad) σ) H → va_S (s_A ad 12 s.heap.size) s.heap H locs → k2 σ x1 x2 = some σe → W p l e ({ frames := 1, cells := 0, slots := 0, locals := 21 } : Room) s m args below meth c H locs 0 0 (MQ below (s_Qv (s_WM cy ad) G (s_A ad 12 s.heap.size) σe) args s 0 0 (s_A ad 12 s.heap.size)) (F0 m 2 ls [])) (σ : Sg) (x1 : Int32) (x2 : Int32) (ls : Array Slot) (H : Heap) (locs : List Loc) (hl : lv_has ls 3 [(0, .ref (ad 0)), (1, .int x1), (2, .int x2)]) (hP : va_P G vwCl ((s_WM cy ad) σ) H) (hS : va_S (s_A ad 12 s.heap.size) s.heap H locs) (hf : fX7_showsNumber_b2 k2 σ x1 x2 = some σe) : W p l e ({ frames := 1, cells := 0, slots := 0, locals := 21 } : Room) s m args below meth c H locs 0 0 (MQ below (s_Qv (s_WM cy ad) G (s_A ad 12 s.heap.size) σe) args s 0 0 (s_A ad 12 s.heap.size)) (F0 m 2 ls []) := by
  obtain ⟨hx, hb, hr, hml, hown, hts, hlk, hK, hE, hI⟩ := id C
  have hD : ∀ σ : Sg, va_D (s_A ad 12 s.heap.size) ((s_WM cy ad) σ) := fun σ => s_D (s_WM_ad cy ad σ) hI (fun k hk => Or.inl ⟨k, hk, rfl⟩)
  unfold fX7_showsNumber_b2 at hf
  refine lv_iload_n hx hb dX7_showsNumber_2 rfl (lv_at hl 1 rfl) ?_
  refine lv_iload_n hx hb dX7_showsNumber_3 rfl (lv_at hl 2 rfl) ?_
  replace hf := s_gd_some hf
  obtain ⟨g1, hf⟩ := hf
  refine lv_idiv hx hb dX7_showsNumber_4 (s_nz_of g1) ?_
  refine lv_bipush (v := 9) hx hb dX7_showsNumber_5 (by decide) ?_
  refine lv_icmp_le (tgt := 18) hx hb dX7_showsNumber_7 (by decide) (fun c2 => ?_) (fun c2 => ?_)
  · rw [if_pos c2] at hf
    exact kX7_showsNumber_b18_L C s_fu σ x1 x2 _ _ _ (lv_sub hl [0, 1, 2] rfl) hP hS hf
  · rw [if_neg c2] at hf
    refine lv_iload_n hx hb dX7_showsNumber_10 rfl (lv_at hl 2 rfl) ?_
    refine lv_bipush (v := 10) hx hb dX7_showsNumber_11 (by decide) ?_
    refine lv_imul hx hb dX7_showsNumber_13 ?_
    refine lv_topi (fun t3 et3 => ?_)
    replace hf := s_lt_at et3 hf
    refine lv_istore_n (lv' := [(2, .int t3), (0, .ref (ad 0)), (1, .int x1)]) hx hb dX7_showsNumber_14 rfl hl (by decide) rfl (fun ls hl => ?_)
    refine lv_goto (tgt := 2) hx hb dX7_showsNumber_15 (by decide) ?_
    exact hk2 σ x1 t3 _ _ _ (lv_sub hl [1, 2, 0] rfl) hP hS hf
set_option maxRecDepth 100000 in
set_option maxHeartbeats 4000000 in
theorem kX7_showsNumber_b2_L (C : s_X p s m meth c args cX7_showsNumber none 3 RX7 G cy sa ad 12) : ∀ (n : Nat), ∀ (σ : Sg) (x1 : Int32) (x2 : Int32) (ls : Array Slot) (H : Heap) (locs : List Loc), lv_has ls 3 [(0, .ref (ad 0)), (1, .int x1), (2, .int x2)] → va_P G vwCl ((s_WM cy ad) σ) H → va_S (s_A ad 12 s.heap.size) s.heap H locs → fX7_showsNumber_b2_L n σ x1 x2 = some σe → W p l e ({ frames := 1, cells := 0, slots := 0, locals := 21 } : Room) s m args below meth c H locs 0 0 (MQ below (s_Qv (s_WM cy ad) G (s_A ad 12 s.heap.size) σe) args s 0 0 (s_A ad 12 s.heap.size)) (F0 m 2 ls []) := by
  intro n
  induction n with
  | zero => intro σ x1 x2 ls H locs hl hP hS hf; exact absurd (show (none : Option Sg) = some σe from hf) (by intro h; cases h)
  | succ n ih => intro σ x1 x2 ls H locs hl hP hS hf; exact kX7_showsNumber_b2 C (fX7_showsNumber_b2_L n) ih σ x1 x2 ls H locs hl hP hS hf
set_option maxRecDepth 100000 in
set_option maxHeartbeats 4000000 in
theorem kX7_showsNumber (C : s_X p s m meth c args cX7_showsNumber none 3 RX7 G cy sa ad 12) (σ : Sg) (x1 : Int32) (ls : Array Slot) (H : Heap) (locs : List Loc) (hl : lv_has ls 3 [(0, .ref (ad 0)), (1, .int x1)]) (hP : va_P G vwCl ((s_WM cy ad) σ) H) (hS : va_S (s_A ad 12 s.heap.size) s.heap H locs) (hf : fX7_showsNumber σ x1 = some σe) : W p l e ({ frames := 1, cells := 0, slots := 0, locals := 21 } : Room) s m args below meth c H locs 0 0 (MQ below (s_Qv (s_WM cy ad) G (s_A ad 12 s.heap.size) σe) args s 0 0 (s_A ad 12 s.heap.size)) (F0 m 0 ls []) := by
  obtain ⟨hx, hb, hr, hml, hown, hts, hlk, hK, hE, hI⟩ := id C
  have hD : ∀ σ : Sg, va_D (s_A ad 12 s.heap.size) ((s_WM cy ad) σ) := fun σ => s_D (s_WM_ad cy ad σ) hI (fun k hk => Or.inl ⟨k, hk, rfl⟩)
  unfold fX7_showsNumber at hf
  refine lv_iconst (v := 1) hx hb dX7_showsNumber_0 (by decide) ?_
  refine lv_istore_n (lv' := [(2, .int (1 : Int32)), (0, .ref (ad 0)), (1, .int x1)]) hx hb dX7_showsNumber_1 rfl hl (by decide) rfl (fun ls hl => ?_)
  exact kX7_showsNumber_b2_L C s_fu σ x1 (1 : Int32) _ _ _ (lv_sub hl [1, 2, 0] rfl) hP hS hf
theorem kcX7_showsNumber {l : Launch} {G : va_G} {cy : Nat → ClassId} {sa : Nat × Nat} {ad : Nat → Nat}  {sz : Nat} (hI : s_inj ad 12) (σ : Sg) (x1 : Int32) {σe : Sg} (hf : fX7_showsNumber σ x1 = some σe) : Met l yX7_showsNumber (kW yX7_showsNumber cX7_showsNumber 3 none) ({ frames := 1, cells := 0, slots := 0, locals := 21 } : Room) (s_P (s_WM cy ad) G cy sa ad 12 [.ref (ad 0), .int x1] sz σ) (s_Qv (s_WM cy ad) G (s_A ad 12 sz) σe) 0 0 (s_A ad 12 sz) := by
  refine s_met (own := RX7) (by decide) rfl hI (Nat.le_of_ble_eq_true rfl) (fun p e s m below meth c ls hsz C hP hl => ?_)
  subst hsz
  exact kX7_showsNumber C σ x1 ls _ _ hl hP va_S.rf hf
set_option maxRecDepth 100000 in
set_option maxHeartbeats 4000000 in
theorem kX7_shownOf_b164 (C : s_X p s m meth c args cX7_shownOf (some .int) 6 RX7 G cy sa ad 12) (σ : Sg) (ls : Array Slot) (H : Heap) (locs : List Loc) (hl : lv_has ls 6 [(0, .ref (ad 0))]) (hP : va_P G vwCl ((s_WM cy ad) σ) H) (hS : va_S (s_A ad 12 s.heap.size) s.heap H locs) (hf : fX7_shownOf_b164 σ = some (re, σe)) : W p l e ({ frames := 3, cells := 0, slots := 0, locals := 72 } : Room) s m args below meth c H locs 0 0 (MQ below (s_Qi (s_WM cy ad) G (s_A ad 12 s.heap.size) re σe) args s 0 0 (s_A ad 12 s.heap.size)) (F0 m 164 ls []) := by
  obtain ⟨hx, hb, hr, hml, hown, hts, hlk, hK, hE, hI⟩ := id C
  have hD : ∀ σ : Sg, va_D (s_A ad 12 s.heap.size) ((s_WM cy ad) σ) := fun σ => s_D (s_WM_ad cy ad σ) hI (fun k hk => Or.inl ⟨k, hk, rfl⟩)
  unfold fX7_shownOf_b164 at hf
  refine lv_aload_n hx hb dX7_shownOf_164 rfl (lv_at hl 0 rfl) ?_
  refine va_get (D := G) (ci := 7) (v := .int (σ 0 22)) (C := RX7) (T := TX7) (N := 28) hx hb hts inkX7 hown hK hP 0 rfl rfl 22 (by decide) (hts _ kw_804) (fun _ h9 => h9) rfl dX7_shownOf_165 ?_
  obtain ⟨he1, he2⟩ := s_ret hf
  exact W.iret hx hb hr (fun t ht hW => ⟨⟨_, (), rfl, he1, s_fin (Wd := (s_WM cy ad)) ht he2 hP⟩, hS.F ht⟩) hS.2.2 dX7_shownOf_168 hlk
set_option maxRecDepth 100000 in
set_option maxHeartbeats 4000000 in
theorem kX7_shownOf_b152 (C : s_X p s m meth c args cX7_shownOf (some .int) 6 RX7 G cy sa ad 12) (σ : Sg) (x5 : Int32) (ls : Array Slot) (H : Heap) (locs : List Loc) (hl : lv_has ls 6 [(0, .ref (ad 0)), (5, .int x5)]) (hP : va_P G vwCl ((s_WM cy ad) σ) H) (hS : va_S (s_A ad 12 s.heap.size) s.heap H locs) (hf : fX7_shownOf_b152 σ x5 = some (re, σe)) : W p l e ({ frames := 3, cells := 0, slots := 0, locals := 72 } : Room) s m args below meth c H locs 0 0 (MQ below (s_Qi (s_WM cy ad) G (s_A ad 12 s.heap.size) re σe) args s 0 0 (s_A ad 12 s.heap.size)) (F0 m 152 ls []) := by
  obtain ⟨hx, hb, hr, hml, hown, hts, hlk, hK, hE, hI⟩ := id C
  have hD : ∀ σ : Sg, va_D (s_A ad 12 s.heap.size) ((s_WM cy ad) σ) := fun σ => s_D (s_WM_ad cy ad σ) hI (fun k hk => Or.inl ⟨k, hk, rfl⟩)
  unfold fX7_shownOf_b152 at hf
  refine lv_aload_n hx hb dX7_shownOf_152 rfl (lv_at hl 0 rfl) ?_
  refine lv_bipush (v := 48) hx hb dX7_shownOf_153 (by decide) ?_
  refine lv_iload hx hb dX7_shownOf_155 (lv_at hl 1 rfl) ?_
  refine lv_bipush (v := 10) hx hb dX7_shownOf_157 (by decide) ?_
  refine lv_irem hx hb dX7_shownOf_159 (by decide) ?_
  refine lv_topi (fun t1 et1 => ?_)
  replace hf := s_lt_at et1 hf
  refine lv_iadd hx hb dX7_shownOf_160 ?_
  replace hf := s_bv_some hf
  obtain ⟨σ2, hz3, hf⟩ := hf
  refine s_callv (nn := 1) C (kcX7_shows (l := l) (G := G) (cy := cy) (sa := sa) hI (sz := H.size) σ ((48 : Int32) + t1) hz3) gk_X7_189 rfl rfl (by decide +kernel) ⟨Nat.le_of_ble_eq_true rfl, Nat.le_of_ble_eq_true rfl⟩ hP hS (q0 := 0) (ci := 7) rfl rfl rfl (As := [.int ((48 : Int32) + t1)]) (rest := []) rfl rfl hl.1 (Nat.le_of_ble_eq_true rfl) dX7_shownOf_161 (fun H locs hP hS => ?_)
  exact kX7_shownOf_b164 C σ2 _ _ _ (lv_sub hl [0] rfl) hP hS hf
set_option maxRecDepth 100000 in
set_option maxHeartbeats 4000000 in
theorem kX7_shownOf_b139 (C : s_X p s m meth c args cX7_shownOf (some .int) 6 RX7 G cy sa ad 12) (σ : Sg) (x3 : Int32) (x5 : Int32) (ls : Array Slot) (H : Heap) (locs : List Loc) (hl : lv_has ls 6 [(0, .ref (ad 0)), (3, .int x3), (5, .int x5)]) (hP : va_P G vwCl ((s_WM cy ad) σ) H) (hS : va_S (s_A ad 12 s.heap.size) s.heap H locs) (hf : fX7_shownOf_b139 σ x3 x5 = some (re, σe)) : W p l e ({ frames := 3, cells := 0, slots := 0, locals := 72 } : Room) s m args below meth c H locs 0 0 (MQ below (s_Qi (s_WM cy ad) G (s_A ad 12 s.heap.size) re σe) args s 0 0 (s_A ad 12 s.heap.size)) (F0 m 139 ls []) := by
  obtain ⟨hx, hb, hr, hml, hown, hts, hlk, hK, hE, hI⟩ := id C
  have hD : ∀ σ : Sg, va_D (s_A ad 12 s.heap.size) ((s_WM cy ad) σ) := fun σ => s_D (s_WM_ad cy ad σ) hI (fun k hk => Or.inl ⟨k, hk, rfl⟩)
  unfold fX7_shownOf_b139 at hf
  refine lv_iload_n hx hb dX7_shownOf_139 rfl (lv_at hl 1 rfl) ?_
  refine lv_iconst (v := 1) hx hb dX7_shownOf_140 (by decide) ?_
  refine lv_icmp_eq (tgt := 152) hx hb dX7_shownOf_141 (by decide) (fun c1 => ?_) (fun c1 => ?_)
  · rw [if_pos c1] at hf
    exact kX7_shownOf_b152 C σ x5 _ _ _ (lv_sub hl [0, 2] rfl) hP hS hf
  · rw [if_neg c1] at hf
    refine lv_iload hx hb dX7_shownOf_144 (lv_at hl 2 rfl) ?_
    refine lv_bipush (v := 10) hx hb dX7_shownOf_146 (by decide) ?_
    refine lv_irem hx hb dX7_shownOf_148 (by decide) ?_
    refine lv_topi (fun t2 et2 => ?_)
    replace hf := s_lt_at et2 hf
    refine lv_if_le (tgt := 164) hx hb dX7_shownOf_149 (by decide) (fun c3 => ?_) (fun c3 => ?_)
    · rw [if_pos c3] at hf
      exact kX7_shownOf_b164 C σ _ _ _ (lv_sub hl [0] rfl) hP hS hf
    · rw [if_neg c3] at hf
      exact kX7_shownOf_b152 C σ x5 _ _ _ (lv_sub hl [0, 2] rfl) hP hS hf
set_option maxRecDepth 100000 in
set_option maxHeartbeats 4000000 in
theorem kX7_shownOf_b121 (C : s_X p s m meth c args cX7_shownOf (some .int) 6 RX7 G cy sa ad 12) (σ : Sg) (x3 : Int32) (x5 : Int32) (ls : Array Slot) (H : Heap) (locs : List Loc) (hl : lv_has ls 6 [(0, .ref (ad 0)), (3, .int x3), (5, .int x5)]) (hP : va_P G vwCl ((s_WM cy ad) σ) H) (hS : va_S (s_A ad 12 s.heap.size) s.heap H locs) (hf : fX7_shownOf_b121 σ x3 x5 = some (re, σe)) : W p l e ({ frames := 3, cells := 0, slots := 0, locals := 72 } : Room) s m args below meth c H locs 0 0 (MQ below (s_Qi (s_WM cy ad) G (s_A ad 12 s.heap.size) re σe) args s 0 0 (s_A ad 12 s.heap.size)) (F0 m 121 ls []) := by
  obtain ⟨hx, hb, hr, hml, hown, hts, hlk, hK, hE, hI⟩ := id C
  have hD : ∀ σ : Sg, va_D (s_A ad 12 s.heap.size) ((s_WM cy ad) σ) := fun σ => s_D (s_WM_ad cy ad σ) hI (fun k hk => Or.inl ⟨k, hk, rfl⟩)
  unfold fX7_shownOf_b121 at hf
  refine lv_aload_n hx hb dX7_shownOf_121 rfl (lv_at hl 0 rfl) ?_
  refine lv_bipush (v := 46) hx hb dX7_shownOf_122 (by decide) ?_
  replace hf := s_bv_some hf
  obtain ⟨σ1, hz2, hf⟩ := hf
  refine s_callv (nn := 1) C (kcX7_shows (l := l) (G := G) (cy := cy) (sa := sa) hI (sz := H.size) σ (46 : Int32) hz2) gk_X7_189 rfl rfl (by decide +kernel) ⟨Nat.le_of_ble_eq_true rfl, Nat.le_of_ble_eq_true rfl⟩ hP hS (q0 := 0) (ci := 7) rfl rfl rfl (As := [.int (46 : Int32)]) (rest := []) rfl rfl hl.1 (Nat.le_of_ble_eq_true rfl) dX7_shownOf_124 (fun H locs hP hS => ?_)
  refine lv_aload_n hx hb dX7_shownOf_127 rfl (lv_at hl 0 rfl) ?_
  refine lv_bipush (v := 48) hx hb dX7_shownOf_128 (by decide) ?_
  refine lv_iload hx hb dX7_shownOf_130 (lv_at hl 2 rfl) ?_
  refine lv_bipush (v := 10) hx hb dX7_shownOf_132 (by decide) ?_
  refine lv_idiv hx hb dX7_shownOf_134 (by decide) ?_
  refine lv_iadd hx hb dX7_shownOf_135 ?_
  replace hf := s_bv_some hf
  obtain ⟨σ3, hz4, hf⟩ := hf
  refine s_callv (nn := 1) C (kcX7_shows (l := l) (G := G) (cy := cy) (sa := sa) hI (sz := H.size) σ1 ((48 : Int32) + (x5 / (10 : Int32))) hz4) gk_X7_189 rfl rfl (by decide +kernel) ⟨Nat.le_of_ble_eq_true rfl, Nat.le_of_ble_eq_true rfl⟩ hP hS (q0 := 0) (ci := 7) rfl rfl rfl (As := [.int ((48 : Int32) + (x5 / (10 : Int32)))]) (rest := []) rfl rfl hl.1 (Nat.le_of_ble_eq_true rfl) dX7_shownOf_136 (fun H locs hP hS => ?_)
  exact kX7_shownOf_b139 C σ3 x3 x5 _ _ _ (lv_sub hl [0, 1, 2] rfl) hP hS hf
set_option maxRecDepth 100000 in
set_option maxHeartbeats 4000000 in
theorem kX7_shownOf_b93 (C : s_X p s m meth c args cX7_shownOf (some .int) 6 RX7 G cy sa ad 12) (σ : Sg) (x3 : Int32) (y0 : Int32) (ls : Array Slot) (H : Heap) (locs : List Loc) (hl : lv_has ls 6 [(0, .ref (ad 0)), (3, .int x3)]) (hP : va_P G vwCl ((s_WM cy ad) σ) H) (hS : va_S (s_A ad 12 s.heap.size) s.heap H locs) (hf : fX7_shownOf_b93 σ x3 y0 = some (re, σe)) : W p l e ({ frames := 3, cells := 0, slots := 0, locals := 72 } : Room) s m args below meth c H locs 0 0 (MQ below (s_Qi (s_WM cy ad) G (s_A ad 12 s.heap.size) re σe) args s 0 0 (s_A ad 12 s.heap.size)) (F0 m 93 ls [.int y0]) := by
  obtain ⟨hx, hb, hr, hml, hown, hts, hlk, hK, hE, hI⟩ := id C
  have hD : ∀ σ : Sg, va_D (s_A ad 12 s.heap.size) ((s_WM cy ad) σ) := fun σ => s_D (s_WM_ad cy ad σ) hI (fun k hk => Or.inl ⟨k, hk, rfl⟩)
  unfold fX7_shownOf_b93 at hf
  refine lv_istore (lv' := [(4, .int y0), (0, .ref (ad 0)), (3, .int x3)]) hx hb dX7_shownOf_93 hl (by decide) rfl (fun ls hl => ?_)
  refine lv_aload_n hx hb dX7_shownOf_95 rfl (lv_at hl 1 rfl) ?_
  refine lv_iload hx hb dX7_shownOf_96 (lv_at hl 0 rfl) ?_
  refine lv_bipush (v := 100) hx hb dX7_shownOf_98 (by decide) ?_
  refine lv_idiv hx hb dX7_shownOf_100 (by decide) ?_
  replace hf := s_bv_some hf
  obtain ⟨σ1, hz2, hf⟩ := hf
  refine s_callv (nn := 1) C (kcX7_showsNumber (l := l) (G := G) (cy := cy) (sa := sa) hI (sz := H.size) σ (y0 / (100 : Int32)) hz2) gk_X7_192 rfl rfl (by decide +kernel) ⟨Nat.le_of_ble_eq_true rfl, Nat.le_of_ble_eq_true rfl⟩ hP hS (q0 := 0) (ci := 7) rfl rfl rfl (As := [.int (y0 / (100 : Int32))]) (rest := []) rfl rfl hl.1 (Nat.le_of_ble_eq_true rfl) dX7_shownOf_101 (fun H locs hP hS => ?_)
  refine lv_iload hx hb dX7_shownOf_104 (lv_at hl 0 rfl) ?_
  refine lv_bipush (v := 100) hx hb dX7_shownOf_106 (by decide) ?_
  refine lv_irem hx hb dX7_shownOf_108 (by decide) ?_
  refine lv_topi (fun t3 et3 => ?_)
  replace hf := s_lt_at et3 hf
  refine lv_istore (lv' := [(5, .int t3), (4, .int y0), (0, .ref (ad 0)), (3, .int x3)]) hx hb dX7_shownOf_109 hl (by decide) rfl (fun ls hl => ?_)
  refine lv_iload_n hx hb dX7_shownOf_111 rfl (lv_at hl 3 rfl) ?_
  refine lv_iconst (v := 1) hx hb dX7_shownOf_112 (by decide) ?_
  refine lv_icmp_eq (tgt := 121) hx hb dX7_shownOf_113 (by decide) (fun c4 => ?_) (fun c4 => ?_)
  · rw [if_pos c4] at hf
    exact kX7_shownOf_b121 C σ1 x3 t3 _ _ _ (lv_sub hl [2, 3, 0] rfl) hP hS hf
  · rw [if_neg c4] at hf
    refine lv_iload hx hb dX7_shownOf_116 (lv_at hl 0 rfl) ?_
    refine lv_if_le (tgt := 139) hx hb dX7_shownOf_118 (by decide) (fun c5 => ?_) (fun c5 => ?_)
    · rw [if_pos c5] at hf
      exact kX7_shownOf_b139 C σ1 x3 t3 _ _ _ (lv_sub hl [2, 3, 0] rfl) hP hS hf
    · rw [if_neg c5] at hf
      exact kX7_shownOf_b121 C σ1 x3 t3 _ _ _ (lv_sub hl [2, 3, 0] rfl) hP hS hf
set_option maxRecDepth 100000 in
set_option maxHeartbeats 4000000 in
theorem kX7_shownOf_b83 (C : s_X p s m meth c args cX7_shownOf (some .int) 6 RX7 G cy sa ad 12) (σ : Sg) (x2 : Int32) (x3 : Int32) (ls : Array Slot) (H : Heap) (locs : List Loc) (hl : lv_has ls 6 [(0, .ref (ad 0)), (2, .int x2), (3, .int x3)]) (hP : va_P G vwCl ((s_WM cy ad) σ) H) (hS : va_S (s_A ad 12 s.heap.size) s.heap H locs) (hf : fX7_shownOf_b83 σ x2 x3 = some (re, σe)) : W p l e ({ frames := 3, cells := 0, slots := 0, locals := 72 } : Room) s m args below meth c H locs 0 0 (MQ below (s_Qi (s_WM cy ad) G (s_A ad 12 s.heap.size) re σe) args s 0 0 (s_A ad 12 s.heap.size)) (F0 m 83 ls []) := by
  obtain ⟨hx, hb, hr, hml, hown, hts, hlk, hK, hE, hI⟩ := id C
  have hD : ∀ σ : Sg, va_D (s_A ad 12 s.heap.size) ((s_WM cy ad) σ) := fun σ => s_D (s_WM_ad cy ad σ) hI (fun k hk => Or.inl ⟨k, hk, rfl⟩)
  unfold fX7_shownOf_b83 at hf
  refine lv_iload_n hx hb dX7_shownOf_83 rfl (lv_at hl 1 rfl) ?_
  refine lv_if_ge (tgt := 92) hx hb dX7_shownOf_84 (by decide) (fun c1 => ?_) (fun c1 => ?_)
  · rw [if_pos c1] at hf
    refine lv_iload_n hx hb dX7_shownOf_92 rfl (lv_at hl 1 rfl) ?_
    exact kX7_shownOf_b93 C σ x3 x2 _ _ _ (lv_sub hl [0, 2] rfl) hP hS hf
  · rw [if_neg c1] at hf
    refine lv_iload_n hx hb dX7_shownOf_87 rfl (lv_at hl 1 rfl) ?_
    refine lv_ineg hx hb dX7_shownOf_88 ?_
    refine lv_goto (tgt := 93) hx hb dX7_shownOf_89 (by decide) ?_
    exact kX7_shownOf_b93 C σ x3 (-x2) _ _ _ (lv_sub hl [0, 2] rfl) hP hS hf
set_option maxRecDepth 100000 in
set_option maxHeartbeats 4000000 in
theorem kX7_shownOf (C : s_X p s m meth c args cX7_shownOf (some .int) 6 RX7 G cy sa ad 12) (σ : Sg) (x1 : Int32) (ls : Array Slot) (H : Heap) (locs : List Loc) (hl : lv_has ls 6 [(0, .ref (ad 0)), (1, .int x1)]) (hP : va_P G vwCl ((s_WM cy ad) σ) H) (hS : va_S (s_A ad 12 s.heap.size) s.heap H locs) (hf : fX7_shownOf σ x1 = some (re, σe)) : W p l e ({ frames := 3, cells := 0, slots := 0, locals := 72 } : Room) s m args below meth c H locs 0 0 (MQ below (s_Qi (s_WM cy ad) G (s_A ad 12 s.heap.size) re σe) args s 0 0 (s_A ad 12 s.heap.size)) (F0 m 0 ls []) := by
  obtain ⟨hx, hb, hr, hml, hown, hts, hlk, hK, hE, hI⟩ := id C
  have hD : ∀ σ : Sg, va_D (s_A ad 12 s.heap.size) ((s_WM cy ad) σ) := fun σ => s_D (s_WM_ad cy ad σ) hI (fun k hk => Or.inl ⟨k, hk, rfl⟩)
  unfold fX7_shownOf at hf
  refine lv_aload_n hx hb dX7_shownOf_0 rfl (lv_at hl 0 rfl) ?_
  refine lv_iconst (v := 0) hx hb dX7_shownOf_1 (by decide) ?_
  refine va_put (D := G) (ci := 7) (v := .int (0 : Int32)) (ty := .int) (C := RX7) (T := TX7) (N := 28) hx hb hts inkX7 tyX7 tyX7_ok nmX7 hown hK hP (hD _) hS 0 rfl rfl 22 (by decide) (hts _ kw_804) (fun _ h9 => h9) rfl (by decide +kernel) rfl rfl (Nat.le_of_ble_eq_true rfl) dX7_shownOf_2 (fun H locs hP _ hS => ?_)
  obtain ⟨σ1, eσ1⟩ : ∃ z : Sg, z = (s_up σ 0 22 (0 : Int32)) := ⟨_, rfl⟩
  replace hf := s_lt_at eσ1 hf
  replace hP : va_P G vwCl ((s_WM cy ad) σ1) H := by rw [eσ1]; exact hP
  refine lv_aload_n hx hb dX7_shownOf_5 rfl (lv_at hl 0 rfl) ?_
  refine lv_iload_n hx hb dX7_shownOf_6 rfl (lv_at hl 1 rfl) ?_
  replace hf := s_bi_some hf
  obtain ⟨r4, σ2, hz3, hf⟩ := hf
  refine s_calli (nn := 1) C (kcX7_isResult (l := l) (G := G) (cy := cy) (sa := sa) hI (sz := H.size) σ1 x1 hz3) gk_X7_168 rfl rfl (by decide +kernel) ⟨Nat.le_of_ble_eq_true rfl, Nat.le_of_ble_eq_true rfl⟩ hP hS (q0 := 0) (ci := 7) rfl rfl rfl (As := [.int x1]) (rest := []) rfl rfl hl.1 (Nat.le_of_ble_eq_true rfl) dX7_shownOf_7 (fun H locs hP hS => ?_)
  refine lv_if_ne (tgt := 42) hx hb dX7_shownOf_10 (by decide) (fun c5 => ?_) (fun c5 => ?_)
  · rw [if_neg c5] at hf
    refine lv_aload_n hx hb dX7_shownOf_42 rfl (lv_at hl 0 rfl) ?_
    replace hf := s_bi_some hf
    obtain ⟨r8, σ6, hz7, hf⟩ := hf
    refine s_calli (nn := 0) C (kcX7_rounded (l := l) (G := G) (cy := cy) (sa := sa) hI (sz := H.size) σ2 hz7) gk_X7_183 rfl rfl (by decide +kernel) ⟨Nat.le_of_ble_eq_true rfl, Nat.le_of_ble_eq_true rfl⟩ hP hS (q0 := 0) (ci := 7) rfl rfl rfl (As := []) (rest := []) rfl rfl hl.1 (Nat.le_of_ble_eq_true rfl) dX7_shownOf_43 (fun H locs hP hS => ?_)
    refine lv_istore_n (lv' := [(2, .int r8), (0, .ref (ad 0)), (1, .int x1)]) hx hb dX7_shownOf_46 rfl hl (by decide) rfl (fun ls hl => ?_)
    refine lv_aload_n hx hb dX7_shownOf_47 rfl (lv_at hl 1 rfl) ?_
    refine va_get (D := G) (ci := 7) (v := .ref (ad 1)) (C := RX7) (T := TX7) (N := 28) hx hb hts inkX7 hown hK hP 0 rfl rfl 0 (by decide) (hts _ kw_782) (fun _ h9 => h9) rfl dX7_shownOf_48 ?_
    refine lv_bipush (v := 101) hx hb dX7_shownOf_51 (by decide) ?_
    refine va_iald hx hb hK hP 1 1 rfl rfl (by unfold vp_in; decide) dX7_shownOf_53 ?_
    rw [cl_101]
    refine lv_topi (fun t9 et9 => ?_)
    replace hf := s_lt_at et9 hf
    refine lv_istore_n (lv' := [(3, .int t9), (2, .int r8), (0, .ref (ad 0)), (1, .int x1)]) hx hb dX7_shownOf_54 rfl hl (by decide) rfl (fun ls hl => ?_)
    refine lv_iload_n hx hb dX7_shownOf_55 rfl (lv_at hl 1 rfl) ?_
    refine lv_if_ge (tgt := 68) hx hb dX7_shownOf_56 (by decide) (fun c10 => ?_) (fun c10 => ?_)
    · rw [if_pos c10] at hf
      refine lv_iload_n hx hb dX7_shownOf_68 rfl (lv_at hl 1 rfl) ?_
      refine lv_if_le (tgt := 83) hx hb dX7_shownOf_69 (by decide) (fun c11 => ?_) (fun c11 => ?_)
      · rw [if_pos c11] at hf
        exact kX7_shownOf_b83 C σ6 r8 t9 _ _ _ (lv_sub hl [2, 1, 0] rfl) hP hS hf
      · rw [if_neg c11] at hf
        refine lv_iload_n hx hb dX7_shownOf_72 rfl (lv_at hl 0 rfl) ?_
        refine lv_iconst (v := 2) hx hb dX7_shownOf_73 (by decide) ?_
        refine lv_icmp_ne (tgt := 83) hx hb dX7_shownOf_74 (by decide) (fun c12 => ?_) (fun c12 => ?_)
        · rw [if_neg c12] at hf
          exact kX7_shownOf_b83 C σ6 r8 t9 _ _ _ (lv_sub hl [2, 1, 0] rfl) hP hS hf
        · rw [if_pos c12] at hf
          refine lv_aload_n hx hb dX7_shownOf_77 rfl (lv_at hl 2 rfl) ?_
          refine lv_bipush (v := 43) hx hb dX7_shownOf_78 (by decide) ?_
          replace hf := s_bv_some hf
          obtain ⟨σ13, hz14, hf⟩ := hf
          refine s_callv (nn := 1) C (kcX7_shows (l := l) (G := G) (cy := cy) (sa := sa) hI (sz := H.size) σ6 (43 : Int32) hz14) gk_X7_189 rfl rfl (by decide +kernel) ⟨Nat.le_of_ble_eq_true rfl, Nat.le_of_ble_eq_true rfl⟩ hP hS (q0 := 0) (ci := 7) rfl rfl rfl (As := [.int (43 : Int32)]) (rest := []) rfl rfl hl.1 (Nat.le_of_ble_eq_true rfl) dX7_shownOf_80 (fun H locs hP hS => ?_)
          exact kX7_shownOf_b83 C σ13 r8 t9 _ _ _ (lv_sub hl [2, 1, 0] rfl) hP hS hf
    · rw [if_neg c10] at hf
      refine lv_aload_n hx hb dX7_shownOf_59 rfl (lv_at hl 2 rfl) ?_
      refine lv_bipush (v := 45) hx hb dX7_shownOf_60 (by decide) ?_
      replace hf := s_bv_some hf
      obtain ⟨σ15, hz16, hf⟩ := hf
      refine s_callv (nn := 1) C (kcX7_shows (l := l) (G := G) (cy := cy) (sa := sa) hI (sz := H.size) σ6 (45 : Int32) hz16) gk_X7_189 rfl rfl (by decide +kernel) ⟨Nat.le_of_ble_eq_true rfl, Nat.le_of_ble_eq_true rfl⟩ hP hS (q0 := 0) (ci := 7) rfl rfl rfl (As := [.int (45 : Int32)]) (rest := []) rfl rfl hl.1 (Nat.le_of_ble_eq_true rfl) dX7_shownOf_62 (fun H locs hP hS => ?_)
      refine lv_goto (tgt := 83) hx hb dX7_shownOf_65 (by decide) ?_
      exact kX7_shownOf_b83 C σ15 r8 t9 _ _ _ (lv_sub hl [2, 1, 0] rfl) hP hS hf
  · rw [if_pos c5] at hf
    refine lv_aload_n hx hb dX7_shownOf_13 rfl (lv_at hl 0 rfl) ?_
    refine lv_bipush (v := 110) hx hb dX7_shownOf_14 (by decide) ?_
    replace hf := s_bv_some hf
    obtain ⟨σ17, hz18, hf⟩ := hf
    refine s_callv (nn := 1) C (kcX7_shows (l := l) (G := G) (cy := cy) (sa := sa) hI (sz := H.size) σ2 (110 : Int32) hz18) gk_X7_189 rfl rfl (by decide +kernel) ⟨Nat.le_of_ble_eq_true rfl, Nat.le_of_ble_eq_true rfl⟩ hP hS (q0 := 0) (ci := 7) rfl rfl rfl (As := [.int (110 : Int32)]) (rest := []) rfl rfl hl.1 (Nat.le_of_ble_eq_true rfl) dX7_shownOf_16 (fun H locs hP hS => ?_)
    refine lv_aload_n hx hb dX7_shownOf_19 rfl (lv_at hl 0 rfl) ?_
    refine lv_bipush (v := 111) hx hb dX7_shownOf_20 (by decide) ?_
    replace hf := s_bv_some hf
    obtain ⟨σ19, hz20, hf⟩ := hf
    refine s_callv (nn := 1) C (kcX7_shows (l := l) (G := G) (cy := cy) (sa := sa) hI (sz := H.size) σ17 (111 : Int32) hz20) gk_X7_189 rfl rfl (by decide +kernel) ⟨Nat.le_of_ble_eq_true rfl, Nat.le_of_ble_eq_true rfl⟩ hP hS (q0 := 0) (ci := 7) rfl rfl rfl (As := [.int (111 : Int32)]) (rest := []) rfl rfl hl.1 (Nat.le_of_ble_eq_true rfl) dX7_shownOf_22 (fun H locs hP hS => ?_)
    refine lv_aload_n hx hb dX7_shownOf_25 rfl (lv_at hl 0 rfl) ?_
    refine lv_bipush (v := 110) hx hb dX7_shownOf_26 (by decide) ?_
    replace hf := s_bv_some hf
    obtain ⟨σ21, hz22, hf⟩ := hf
    refine s_callv (nn := 1) C (kcX7_shows (l := l) (G := G) (cy := cy) (sa := sa) hI (sz := H.size) σ19 (110 : Int32) hz22) gk_X7_189 rfl rfl (by decide +kernel) ⟨Nat.le_of_ble_eq_true rfl, Nat.le_of_ble_eq_true rfl⟩ hP hS (q0 := 0) (ci := 7) rfl rfl rfl (As := [.int (110 : Int32)]) (rest := []) rfl rfl hl.1 (Nat.le_of_ble_eq_true rfl) dX7_shownOf_28 (fun H locs hP hS => ?_)
    refine lv_aload_n hx hb dX7_shownOf_31 rfl (lv_at hl 0 rfl) ?_
    refine lv_bipush (v := 101) hx hb dX7_shownOf_32 (by decide) ?_
    replace hf := s_bv_some hf
    obtain ⟨σ23, hz24, hf⟩ := hf
    refine s_callv (nn := 1) C (kcX7_shows (l := l) (G := G) (cy := cy) (sa := sa) hI (sz := H.size) σ21 (101 : Int32) hz24) gk_X7_189 rfl rfl (by decide +kernel) ⟨Nat.le_of_ble_eq_true rfl, Nat.le_of_ble_eq_true rfl⟩ hP hS (q0 := 0) (ci := 7) rfl rfl rfl (As := [.int (101 : Int32)]) (rest := []) rfl rfl hl.1 (Nat.le_of_ble_eq_true rfl) dX7_shownOf_34 (fun H locs hP hS => ?_)
    refine lv_aload_n hx hb dX7_shownOf_37 rfl (lv_at hl 0 rfl) ?_
    refine va_get (D := G) (ci := 7) (v := .int (σ23 0 22)) (C := RX7) (T := TX7) (N := 28) hx hb hts inkX7 hown hK hP 0 rfl rfl 22 (by decide) (hts _ kw_804) (fun _ h9 => h9) rfl dX7_shownOf_38 ?_
    obtain ⟨he1, he2⟩ := s_ret hf
    exact W.iret hx hb hr (fun t ht hW => ⟨⟨_, (), rfl, he1, s_fin (Wd := (s_WM cy ad)) ht he2 hP⟩, hS.F ht⟩) hS.2.2 dX7_shownOf_41 hlk
theorem kcX7_shownOf {l : Launch} {G : va_G} {cy : Nat → ClassId} {sa : Nat × Nat} {ad : Nat → Nat}  {sz : Nat} (hI : s_inj ad 12) (σ : Sg) (x1 : Int32) {re : Int32} {σe : Sg} (hf : fX7_shownOf σ x1 = some (re, σe)) : Met l yX7_shownOf (kW yX7_shownOf cX7_shownOf 6 (some .int)) ({ frames := 3, cells := 0, slots := 0, locals := 72 } : Room) (s_P (s_WM cy ad) G cy sa ad 12 [.ref (ad 0), .int x1] sz σ) (s_Qi (s_WM cy ad) G (s_A ad 12 sz) re σe) 0 0 (s_A ad 12 sz) := by
  refine s_met (own := RX7) (by decide) rfl hI (Nat.le_of_ble_eq_true rfl) (fun p e s m below meth c ls hsz C hP hl => ?_)
  subst hsz
  exact kX7_shownOf C σ x1 ls _ _ hl hP va_S.rf hf
set_option maxRecDepth 100000 in
set_option maxHeartbeats 4000000 in
theorem kX7_shown_b12 (C : s_X p s m meth c args cX7_shown (some .int) 3 RX7 G cy sa ad 12) (σ : Sg) (ls : Array Slot) (H : Heap) (locs : List Loc) (hl : lv_has ls 3 []) (hP : va_P G vwCl ((s_WM cy ad) σ) H) (hS : va_S (s_A ad 12 s.heap.size) s.heap H locs) (hf : fX7_shown_b12 σ = some (re, σe)) : W p l e ({ frames := 4, cells := 0, slots := 0, locals := 97 } : Room) s m args below meth c H locs 0 0 (MQ below (s_Qi (s_WM cy ad) G (s_A ad 12 s.heap.size) re σe) args s 0 0 (s_A ad 12 s.heap.size)) (F0 m 12 ls []) := by
  obtain ⟨hx, hb, hr, hml, hown, hts, hlk, hK, hE, hI⟩ := id C
  have hD : ∀ σ : Sg, va_D (s_A ad 12 s.heap.size) ((s_WM cy ad) σ) := fun σ => s_D (s_WM_ad cy ad σ) hI (fun k hk => Or.inl ⟨k, hk, rfl⟩)
  unfold fX7_shown_b12 at hf
  refine lv_iconst (v := -1) hx hb dX7_shown_12 (by decide) ?_
  obtain ⟨he1, he2⟩ := s_ret hf
  exact W.iret hx hb hr (fun t ht hW => ⟨⟨_, (), rfl, he1, s_fin (Wd := (s_WM cy ad)) ht he2 hP⟩, hS.F ht⟩) hS.2.2 dX7_shown_13 hlk
set_option maxRecDepth 100000 in
set_option maxHeartbeats 4000000 in
theorem kX7_shown (C : s_X p s m meth c args cX7_shown (some .int) 3 RX7 G cy sa ad 12) (σ : Sg) (x1 : Int32) (x2 : Int32) (ls : Array Slot) (H : Heap) (locs : List Loc) (hl : lv_has ls 3 [(0, .ref (ad 0)), (1, .int x1), (2, .int x2)]) (hP : va_P G vwCl ((s_WM cy ad) σ) H) (hS : va_S (s_A ad 12 s.heap.size) s.heap H locs) (hf : fX7_shown σ x1 x2 = some (re, σe)) : W p l e ({ frames := 4, cells := 0, slots := 0, locals := 97 } : Room) s m args below meth c H locs 0 0 (MQ below (s_Qi (s_WM cy ad) G (s_A ad 12 s.heap.size) re σe) args s 0 0 (s_A ad 12 s.heap.size)) (F0 m 0 ls []) := by
  obtain ⟨hx, hb, hr, hml, hown, hts, hlk, hK, hE, hI⟩ := id C
  have hD : ∀ σ : Sg, va_D (s_A ad 12 s.heap.size) ((s_WM cy ad) σ) := fun σ => s_D (s_WM_ad cy ad σ) hI (fun k hk => Or.inl ⟨k, hk, rfl⟩)
  unfold fX7_shown at hf
  refine lv_aload_n hx hb dX7_shown_0 rfl (lv_at hl 0 rfl) ?_
  refine lv_iload_n hx hb dX7_shown_1 rfl (lv_at hl 1 rfl) ?_
  replace hf := s_bi_some hf
  obtain ⟨r3, σ1, hz2, hf⟩ := hf
  refine s_calli (nn := 1) C (kcX7_isThere (l := l) (G := G) (cy := cy) (sa := sa) hI (sz := H.size) σ x1 hz2) gk_X7_180 rfl rfl (by decide +kernel) ⟨Nat.le_of_ble_eq_true rfl, Nat.le_of_ble_eq_true rfl⟩ hP hS (q0 := 0) (ci := 7) rfl rfl rfl (As := [.int x1]) (rest := []) rfl rfl hl.1 (Nat.le_of_ble_eq_true rfl) dX7_shown_2 (fun H locs hP hS => ?_)
  refine lv_if_eq (tgt := 12) hx hb dX7_shown_5 (by decide) (fun c4 => ?_) (fun c4 => ?_)
  · rw [if_pos c4] at hf
    exact kX7_shown_b12 C σ1 _ _ _ (lv_sub hl [] rfl) hP hS hf
  · rw [if_neg c4] at hf
    refine lv_iload_n hx hb dX7_shown_8 rfl (lv_at hl 2 rfl) ?_
    refine lv_if_ge (tgt := 14) hx hb dX7_shown_9 (by decide) (fun c5 => ?_) (fun c5 => ?_)
    · rw [if_pos c5] at hf
      refine lv_iload_n hx hb dX7_shown_14 rfl (lv_at hl 2 rfl) ?_
      refine lv_aload_n hx hb dX7_shown_15 rfl (lv_at hl 0 rfl) ?_
      refine lv_iload_n hx hb dX7_shown_16 rfl (lv_at hl 1 rfl) ?_
      replace hf := s_bi_some hf
      obtain ⟨r8, σ6, hz7, hf⟩ := hf
      refine s_calli (nn := 1) C (kcX7_shownOf (l := l) (G := G) (cy := cy) (sa := sa) hI (sz := H.size) σ1 x1 hz7) gk_X7_195 rfl rfl (by decide +kernel) ⟨Nat.le_of_ble_eq_true rfl, Nat.le_of_ble_eq_true rfl⟩ hP hS (q0 := 0) (ci := 7) rfl rfl rfl (As := [.int x1]) (rest := [.int x2]) rfl rfl hl.1 (Nat.le_of_ble_eq_true rfl) dX7_shown_17 (fun H locs hP hS => ?_)
      refine lv_icmp_ge (tgt := 32) hx hb dX7_shown_20 (by decide) (fun c9 => ?_) (fun c9 => ?_)
      · rw [if_pos c9] at hf
        refine lv_bipush (v := -4) hx hb dX7_shown_32 (by decide) ?_
        obtain ⟨he1, he2⟩ := s_ret hf
        exact W.iret hx hb hr (fun t ht hW => ⟨⟨_, (), rfl, he1, s_fin (Wd := (s_WM cy ad)) ht he2 hP⟩, hS.F ht⟩) hS.2.2 dX7_shown_34 hlk
      · rw [if_neg c9] at hf
        refine lv_aload_n hx hb dX7_shown_23 rfl (lv_at hl 0 rfl) ?_
        refine va_get (D := G) (ci := 7) (v := .ref (ad 7)) (C := RX7) (T := TX7) (N := 28) hx hb hts inkX7 hown hK hP 0 rfl rfl 21 (by decide) (hts _ kw_803) (fun _ h9 => h9) rfl dX7_shown_24 ?_
        refine lv_iload_n hx hb dX7_shown_27 rfl (lv_at hl 2 rfl) ?_
        replace hf := s_gd_some hf
        obtain ⟨g10, hf⟩ := hf
        refine va_iald hx hb hK hP 7 1 rfl rfl (s_in_of g10) dX7_shown_28 ?_
        refine lv_goto (tgt := 34) hx hb dX7_shown_29 (by decide) ?_
        obtain ⟨he1, he2⟩ := s_ret hf
        exact W.iret hx hb hr (fun t ht hW => ⟨⟨_, (), rfl, he1, s_fin (Wd := (s_WM cy ad)) ht he2 hP⟩, hS.F ht⟩) hS.2.2 dX7_shown_34 hlk
    · rw [if_neg c5] at hf
      exact kX7_shown_b12 C σ1 _ _ _ (lv_sub hl [] rfl) hP hS hf
theorem kcX7_shown {l : Launch} {G : va_G} {cy : Nat → ClassId} {sa : Nat × Nat} {ad : Nat → Nat}  {sz : Nat} (hI : s_inj ad 12) (σ : Sg) (x1 : Int32) (x2 : Int32) {re : Int32} {σe : Sg} (hf : fX7_shown σ x1 x2 = some (re, σe)) : Met l yX7_shown (kW yX7_shown cX7_shown 3 (some .int)) ({ frames := 4, cells := 0, slots := 0, locals := 97 } : Room) (s_P (s_WM cy ad) G cy sa ad 12 [.ref (ad 0), .int x1, .int x2] sz σ) (s_Qi (s_WM cy ad) G (s_A ad 12 sz) re σe) 0 0 (s_A ad 12 sz) := by
  refine s_met (own := RX7) (by decide) rfl hI (Nat.le_of_ble_eq_true rfl) (fun p e s m below meth c ls hsz C hP hl => ?_)
  subst hsz
  exact kX7_shown C σ x1 x2 ls _ _ hl hP va_S.rf hf
set_option maxRecDepth 100000 in
set_option maxHeartbeats 4000000 in
theorem kX7_off (C : s_X p s m meth c args cX7_off (some .int) 2 RX7 G cy sa ad 12) (σ : Sg) (x0 : Int32) (x1 : Int32) (ls : Array Slot) (H : Heap) (locs : List Loc) (hl : lv_has ls 2 [(0, .int x0), (1, .int x1)]) (hP : va_P G vwCl ((s_WM cy ad) σ) H) (hS : va_S (s_A ad 12 s.heap.size) s.heap H locs) (hf : fX7_off σ x0 x1 = some (re, σe)) : W p l e ({ frames := 0, cells := 0, slots := 0, locals := 0 } : Room) s m args below meth c H locs 0 0 (MQ below (s_Qi (s_WM cy ad) G (s_A ad 12 s.heap.size) re σe) args s 0 0 (s_A ad 12 s.heap.size)) (F0 m 0 ls []) := by
  obtain ⟨hx, hb, hr, hml, hown, hts, hlk, hK, hE, hI⟩ := id C
  have hD : ∀ σ : Sg, va_D (s_A ad 12 s.heap.size) ((s_WM cy ad) σ) := fun σ => s_D (s_WM_ad cy ad σ) hI (fun k hk => Or.inl ⟨k, hk, rfl⟩)
  unfold fX7_off at hf
  refine lv_iload_n hx hb dX7_off_0 rfl (lv_at hl 0 rfl) ?_
  refine lv_iload_n hx hb dX7_off_1 rfl (lv_at hl 1 rfl) ?_
  refine lv_icmp_ge (tgt := 11) hx hb dX7_off_2 (by decide) (fun c1 => ?_) (fun c1 => ?_)
  · rw [if_pos c1] at hf
    refine lv_iload_n hx hb dX7_off_11 rfl (lv_at hl 0 rfl) ?_
    refine lv_iload_n hx hb dX7_off_12 rfl (lv_at hl 1 rfl) ?_
    refine lv_isub hx hb dX7_off_13 ?_
    obtain ⟨he1, he2⟩ := s_ret hf
    exact W.iret hx hb hr (fun t ht hW => ⟨⟨_, (), rfl, he1, s_fin (Wd := (s_WM cy ad)) ht he2 hP⟩, hS.F ht⟩) hS.2.2 dX7_off_14 hlk
  · rw [if_neg c1] at hf
    refine lv_iload_n hx hb dX7_off_5 rfl (lv_at hl 1 rfl) ?_
    refine lv_iload_n hx hb dX7_off_6 rfl (lv_at hl 0 rfl) ?_
    refine lv_isub hx hb dX7_off_7 ?_
    refine lv_goto (tgt := 14) hx hb dX7_off_8 (by decide) ?_
    obtain ⟨he1, he2⟩ := s_ret hf
    exact W.iret hx hb hr (fun t ht hW => ⟨⟨_, (), rfl, he1, s_fin (Wd := (s_WM cy ad)) ht he2 hP⟩, hS.F ht⟩) hS.2.2 dX7_off_14 hlk
theorem kcX7_off {l : Launch} {G : va_G} {cy : Nat → ClassId} {sa : Nat × Nat} {ad : Nat → Nat}  {sz : Nat} (hI : s_inj ad 12) (σ : Sg) (x0 : Int32) (x1 : Int32) {re : Int32} {σe : Sg} (hf : fX7_off σ x0 x1 = some (re, σe)) : Met l yX7_off (kW yX7_off cX7_off 2 (some .int)) ({ frames := 0, cells := 0, slots := 0, locals := 0 } : Room) (s_P (s_WM cy ad) G cy sa ad 12 [.int x0, .int x1] sz σ) (s_Qi (s_WM cy ad) G (s_A ad 12 sz) re σe) 0 0 (s_A ad 12 sz) := by
  refine s_met (own := RX7) (by decide) rfl hI (Nat.le_of_ble_eq_true rfl) (fun p e s m below meth c ls hsz C hP hl => ?_)
  subst hsz
  exact kX7_off C σ x0 x1 ls _ _ hl hP va_S.rf hf
set_option maxRecDepth 100000 in
set_option maxHeartbeats 4000000 in
theorem kX7_puts_6_b29 (C : s_X p s m meth c args cX7_puts none 4 RX7 G cy sa ad 12) (σ : Sg) (x2 : Int32) (x3 : Int32) (ls : Array Slot) (H : Heap) (locs : List Loc) (hl : lv_has ls 4 [(0, .ref (ad 6)), (2, .int x2), (3, .int x3)]) (hP : va_P G vwCl ((s_WM cy ad) σ) H) (hS : va_S (s_A ad 12 s.heap.size) s.heap H locs) (hf : fX7_puts_6_b29 σ x2 x3 = some σe) : W p l e ({ frames := 0, cells := 0, slots := 0, locals := 0 } : Room) s m args below meth c H locs 0 0 (MQ below (s_Qv (s_WM cy ad) G (s_A ad 12 s.heap.size) σe) args s 0 0 (s_A ad 12 s.heap.size)) (F0 m 29 ls []) := by
  obtain ⟨hx, hb, hr, hml, hown, hts, hlk, hK, hE, hI⟩ := id C
  have hD : ∀ σ : Sg, va_D (s_A ad 12 s.heap.size) ((s_WM cy ad) σ) := fun σ => s_D (s_WM_ad cy ad σ) hI (fun k hk => Or.inl ⟨k, hk, rfl⟩)
  unfold fX7_puts_6_b29 at hf
  refine lv_aload_n hx hb dX7_puts_29 rfl (lv_at hl 0 rfl) ?_
  refine lv_iload_n hx hb dX7_puts_30 rfl (lv_at hl 2 rfl) ?_
  refine lv_iload_n hx hb dX7_puts_31 rfl (lv_at hl 1 rfl) ?_
  replace hf := s_gd_some hf
  obtain ⟨g1, hf⟩ := hf
  refine va_iast hx hb hK hP (hD _) hS 6 1 rfl rfl (s_in_of g1) dX7_puts_32 (fun H locs hP _ hS => ?_)
  obtain ⟨σ2, eσ2⟩ : ∃ z : Sg, z = (s_up σ 6 (Int32.toNatClampNeg x3) x2) := ⟨_, rfl⟩
  replace hf := s_lt_at eσ2 hf
  replace hP : va_P G vwCl ((s_WM cy ad) σ2) H := by rw [eσ2]; exact hP
  have he2 := Option.some.inj hf
  exact W.vret hx hb hr (fun t ht hW => ⟨⟨(), rfl, trivial, s_fin (Wd := (s_WM cy ad)) ht he2 hP⟩, hS.F ht⟩) hS.2.2 dX7_puts_33 hlk
set_option maxRecDepth 100000 in
set_option maxHeartbeats 4000000 in
theorem kX7_puts_6_b2 (C : s_X p s m meth c args cX7_puts none 4 RX7 G cy sa ad 12) (k2 : Sg → Int32 → Int32 → Option Sg) (hk2 : ∀ (σ : Sg) (x2 : Int32) (x3 : Int32) (ls : Array Slot) (H : Heap) (locs : List Loc), lv_has ls 4 [(0, .ref (ad 6)), (2, .int x2), (3, .int x3)] → va_P G vwCl ((s_WM cy ad) σ) H → va_S (s_A ad 12 s.heap.size) s.heap H locs → k2 σ x2 x3 = some σe → W p l e ({ frames := 0, cells := 0, slots := 0, locals := 0 } : Room) s m args below meth c H locs 0 0 (MQ below (s_Qv (s_WM cy ad) G (s_A ad 12 s.heap.size) σe) args s 0 0 (s_A ad 12 s.heap.size)) (F0 m 2 ls [])) (σ : Sg) (x2 : Int32) (x3 : Int32) (ls : Array Slot) (H : Heap) (locs : List Loc) (hl : lv_has ls 4 [(0, .ref (ad 6)), (2, .int x2), (3, .int x3)]) (hP : va_P G vwCl ((s_WM cy ad) σ) H) (hS : va_S (s_A ad 12 s.heap.size) s.heap H locs) (hf : fX7_puts_6_b2 k2 σ x2 x3 = some σe) : W p l e ({ frames := 0, cells := 0, slots := 0, locals := 0 } : Room) s m args below meth c H locs 0 0 (MQ below (s_Qv (s_WM cy ad) G (s_A ad 12 s.heap.size) σe) args s 0 0 (s_A ad 12 s.heap.size)) (F0 m 2 ls []) := by
  obtain ⟨hx, hb, hr, hml, hown, hts, hlk, hK, hE, hI⟩ := id C
  have hD : ∀ σ : Sg, va_D (s_A ad 12 s.heap.size) ((s_WM cy ad) σ) := fun σ => s_D (s_WM_ad cy ad σ) hI (fun k hk => Or.inl ⟨k, hk, rfl⟩)
  unfold fX7_puts_6_b2 at hf
  refine lv_iload_n hx hb dX7_puts_2 rfl (lv_at hl 2 rfl) ?_
  refine lv_if_le (tgt := 29) hx hb dX7_puts_3 (by decide) (fun c1 => ?_) (fun c1 => ?_)
  · rw [if_pos c1] at hf
    exact kX7_puts_6_b29 C σ x2 x3 _ _ _ (lv_sub hl [0, 1, 2] rfl) hP hS hf
  · rw [if_neg c1] at hf
    refine lv_aload_n hx hb dX7_puts_6 rfl (lv_at hl 0 rfl) ?_
    refine lv_iload_n hx hb dX7_puts_7 rfl (lv_at hl 2 rfl) ?_
    refine lv_iconst (v := 1) hx hb dX7_puts_8 (by decide) ?_
    refine lv_isub hx hb dX7_puts_9 ?_
    replace hf := s_gd_some hf
    obtain ⟨g2, hf⟩ := hf
    refine va_iald hx hb hK hP 6 1 rfl rfl (s_in_of g2) dX7_puts_10 ?_
    refine lv_iload_n hx hb dX7_puts_11 rfl (lv_at hl 1 rfl) ?_
    refine lv_icmp_le (tgt := 29) hx hb dX7_puts_12 (by decide) (fun c3 => ?_) (fun c3 => ?_)
    · rw [if_pos c3] at hf
      exact kX7_puts_6_b29 C σ x2 x3 _ _ _ (lv_sub hl [0, 1, 2] rfl) hP hS hf
    · rw [if_neg c3] at hf
      refine lv_aload_n hx hb dX7_puts_15 rfl (lv_at hl 0 rfl) ?_
      refine lv_iload_n hx hb dX7_puts_16 rfl (lv_at hl 2 rfl) ?_
      refine lv_aload_n hx hb dX7_puts_17 rfl (lv_at hl 0 rfl) ?_
      refine lv_iload_n hx hb dX7_puts_18 rfl (lv_at hl 2 rfl) ?_
      refine lv_iconst (v := 1) hx hb dX7_puts_19 (by decide) ?_
      refine lv_isub hx hb dX7_puts_20 ?_
      replace hf := s_gd_some hf
      obtain ⟨g4, hf⟩ := hf
      refine va_iald hx hb hK hP 6 1 rfl rfl (s_in_of g4) dX7_puts_21 ?_
      replace hf := s_gd_some hf
      obtain ⟨g5, hf⟩ := hf
      refine va_iast hx hb hK hP (hD _) hS 6 1 rfl rfl (s_in_of g5) dX7_puts_22 (fun H locs hP _ hS => ?_)
      obtain ⟨σ6, eσ6⟩ : ∃ z : Sg, z = (s_up σ 6 (Int32.toNatClampNeg x3) (σ 6 (Int32.toNatClampNeg (x3 - (1 : Int32))))) := ⟨_, rfl⟩
      replace hf := s_lt_at eσ6 hf
      replace hP : va_P G vwCl ((s_WM cy ad) σ6) H := by rw [eσ6]; exact hP
      obtain ⟨t7, et7⟩ : ∃ z : Int32, z = (x3 + (-1)) := ⟨_, rfl⟩
      replace hf := s_lt_at et7 hf
      refine lv_iinc (v := t7) (lv' := [(3, .int t7), (0, .ref (ad 6)), (2, .int x2)]) hx hb dX7_puts_23 hl (k := 2) rfl (by rw [et7]; rfl) (by decide) rfl (fun ls hl => ?_)
      refine lv_goto (tgt := 2) hx hb dX7_puts_26 (by decide) ?_
      exact hk2 σ6 x2 t7 _ _ _ (lv_sub hl [1, 2, 0] rfl) hP hS hf
set_option maxRecDepth 100000 in
set_option maxHeartbeats 4000000 in
theorem kX7_puts_6_b2_L (C : s_X p s m meth c args cX7_puts none 4 RX7 G cy sa ad 12) : ∀ (n : Nat), ∀ (σ : Sg) (x2 : Int32) (x3 : Int32) (ls : Array Slot) (H : Heap) (locs : List Loc), lv_has ls 4 [(0, .ref (ad 6)), (2, .int x2), (3, .int x3)] → va_P G vwCl ((s_WM cy ad) σ) H → va_S (s_A ad 12 s.heap.size) s.heap H locs → fX7_puts_6_b2_L n σ x2 x3 = some σe → W p l e ({ frames := 0, cells := 0, slots := 0, locals := 0 } : Room) s m args below meth c H locs 0 0 (MQ below (s_Qv (s_WM cy ad) G (s_A ad 12 s.heap.size) σe) args s 0 0 (s_A ad 12 s.heap.size)) (F0 m 2 ls []) := by
  intro n
  induction n with
  | zero => intro σ x2 x3 ls H locs hl hP hS hf; exact absurd (show (none : Option Sg) = some σe from hf) (by intro h; cases h)
  | succ n ih => intro σ x2 x3 ls H locs hl hP hS hf; exact kX7_puts_6_b2 C (fX7_puts_6_b2_L n) ih σ x2 x3 ls H locs hl hP hS hf
set_option maxRecDepth 100000 in
set_option maxHeartbeats 4000000 in
theorem kX7_puts_6 (C : s_X p s m meth c args cX7_puts none 4 RX7 G cy sa ad 12) (σ : Sg) (x1 : Int32) (x2 : Int32) (ls : Array Slot) (H : Heap) (locs : List Loc) (hl : lv_has ls 4 [(0, .ref (ad 6)), (1, .int x1), (2, .int x2)]) (hP : va_P G vwCl ((s_WM cy ad) σ) H) (hS : va_S (s_A ad 12 s.heap.size) s.heap H locs) (hf : fX7_puts_6 σ x1 x2 = some σe) : W p l e ({ frames := 0, cells := 0, slots := 0, locals := 0 } : Room) s m args below meth c H locs 0 0 (MQ below (s_Qv (s_WM cy ad) G (s_A ad 12 s.heap.size) σe) args s 0 0 (s_A ad 12 s.heap.size)) (F0 m 0 ls []) := by
  obtain ⟨hx, hb, hr, hml, hown, hts, hlk, hK, hE, hI⟩ := id C
  have hD : ∀ σ : Sg, va_D (s_A ad 12 s.heap.size) ((s_WM cy ad) σ) := fun σ => s_D (s_WM_ad cy ad σ) hI (fun k hk => Or.inl ⟨k, hk, rfl⟩)
  unfold fX7_puts_6 at hf
  refine lv_iload_n hx hb dX7_puts_0 rfl (lv_at hl 1 rfl) ?_
  refine lv_istore_n (lv' := [(3, .int x1), (0, .ref (ad 6)), (1, .int x1), (2, .int x2)]) hx hb dX7_puts_1 rfl hl (by decide) rfl (fun ls hl => ?_)
  exact kX7_puts_6_b2_L C s_fu σ x2 x1 _ _ _ (lv_sub hl [1, 3, 0] rfl) hP hS hf
theorem kcX7_puts_6 {l : Launch} {G : va_G} {cy : Nat → ClassId} {sa : Nat × Nat} {ad : Nat → Nat}  {sz : Nat} (hI : s_inj ad 12) (σ : Sg) (x1 : Int32) (x2 : Int32) {σe : Sg} (hf : fX7_puts_6 σ x1 x2 = some σe) : Met l yX7_puts (kW yX7_puts cX7_puts 4 none) ({ frames := 0, cells := 0, slots := 0, locals := 0 } : Room) (s_P (s_WM cy ad) G cy sa ad 12 [.ref (ad 6), .int x1, .int x2] sz σ) (s_Qv (s_WM cy ad) G (s_A ad 12 sz) σe) 0 0 (s_A ad 12 sz) := by
  refine s_met (own := RX7) (by decide) rfl hI (Nat.le_of_ble_eq_true rfl) (fun p e s m below meth c ls hsz C hP hl => ?_)
  subst hsz
  exact kX7_puts_6 C σ x1 x2 ls _ _ hl hP va_S.rf hf
set_option maxRecDepth 100000 in
set_option maxHeartbeats 4000000 in
theorem kX7_spreadOf_b16 (C : s_X p s m meth c args cX7_spreadOf (some .int) 3 RX7 G cy sa ad 12) (k16 : Sg → Int32 → Int32 → Option (Int32 × Sg)) (hk16 : ∀ (σ : Sg) (x1 : Int32) (x2 : Int32) (ls : Array Slot) (H : Heap) (locs : List Loc), lv_has ls 3 [(0, .ref (ad 0)), (1, .int x1), (2, .int x2)] → va_P G vwCl ((s_WM cy ad) σ) H → va_S (s_A ad 12 s.heap.size) s.heap H locs → k16 σ x1 x2 = some (re, σe) → W p l e ({ frames := 1, cells := 0, slots := 0, locals := 23 } : Room) s m args below meth c H locs 0 0 (MQ below (s_Qi (s_WM cy ad) G (s_A ad 12 s.heap.size) re σe) args s 0 0 (s_A ad 12 s.heap.size)) (F0 m 16 ls [])) (σ : Sg) (x1 : Int32) (x2 : Int32) (ls : Array Slot) (H : Heap) (locs : List Loc) (hl : lv_has ls 3 [(0, .ref (ad 0)), (1, .int x1), (2, .int x2)]) (hP : va_P G vwCl ((s_WM cy ad) σ) H) (hS : va_S (s_A ad 12 s.heap.size) s.heap H locs) (hf : fX7_spreadOf_b16 k16 σ x1 x2 = some (re, σe)) : W p l e ({ frames := 1, cells := 0, slots := 0, locals := 23 } : Room) s m args below meth c H locs 0 0 (MQ below (s_Qi (s_WM cy ad) G (s_A ad 12 s.heap.size) re σe) args s 0 0 (s_A ad 12 s.heap.size)) (F0 m 16 ls []) := by
  obtain ⟨hx, hb, hr, hml, hown, hts, hlk, hK, hE, hI⟩ := id C
  have hD : ∀ σ : Sg, va_D (s_A ad 12 s.heap.size) ((s_WM cy ad) σ) := fun σ => s_D (s_WM_ad cy ad σ) hI (fun k hk => Or.inl ⟨k, hk, rfl⟩)
  unfold fX7_spreadOf_b16 at hf
  refine lv_iload_n hx hb dX7_spreadOf_16 rfl (lv_at hl 2 rfl) ?_
  refine lv_aload_n hx hb dX7_spreadOf_17 rfl (lv_at hl 0 rfl) ?_
  refine va_get (D := G) (ci := 7) (v := .int (σ 0 15)) (C := RX7) (T := TX7) (N := 28) hx hb hts inkX7 hown hK hP 0 rfl rfl 15 (by decide) (hts _ kw_797) (fun _ h9 => h9) rfl dX7_spreadOf_18 ?_
  refine lv_icmp_ge (tgt := 48) hx hb dX7_spreadOf_21 (by decide) (fun c1 => ?_) (fun c1 => ?_)
  · rw [if_pos c1] at hf
    refine lv_aload_n hx hb dX7_spreadOf_48 rfl (lv_at hl 0 rfl) ?_
    refine va_get (D := G) (ci := 7) (v := .ref (ad 6)) (C := RX7) (T := TX7) (N := 28) hx hb hts inkX7 hown hK hP 0 rfl rfl 16 (by decide) (hts _ kw_798) (fun _ h9 => h9) rfl dX7_spreadOf_49 ?_
    refine lv_aload_n hx hb dX7_spreadOf_52 rfl (lv_at hl 0 rfl) ?_
    refine va_get (D := G) (ci := 7) (v := .int (σ 0 15)) (C := RX7) (T := TX7) (N := 28) hx hb hts inkX7 hown hK hP 0 rfl rfl 15 (by decide) (hts _ kw_797) (fun _ h9 => h9) rfl dX7_spreadOf_53 ?_
    refine lv_iconst (v := 1) hx hb dX7_spreadOf_56 (by decide) ?_
    refine lv_isub hx hb dX7_spreadOf_57 ?_
    refine lv_iconst (v := 2) hx hb dX7_spreadOf_58 (by decide) ?_
    refine lv_idiv hx hb dX7_spreadOf_59 (by decide) ?_
    replace hf := s_gd_some hf
    obtain ⟨g2, hf⟩ := hf
    refine va_iald hx hb hK hP 6 1 rfl rfl (s_in_of g2) dX7_spreadOf_60 ?_
    obtain ⟨he1, he2⟩ := s_ret hf
    exact W.iret hx hb hr (fun t ht hW => ⟨⟨_, (), rfl, he1, s_fin (Wd := (s_WM cy ad)) ht he2 hP⟩, hS.F ht⟩) hS.2.2 dX7_spreadOf_61 hlk
  · rw [if_neg c1] at hf
    refine lv_aload_n hx hb dX7_spreadOf_24 rfl (lv_at hl 0 rfl) ?_
    refine va_get (D := G) (ci := 7) (v := .ref (ad 6)) (C := RX7) (T := TX7) (N := 28) hx hb hts inkX7 hown hK hP 0 rfl rfl 16 (by decide) (hts _ kw_798) (fun _ h9 => h9) rfl dX7_spreadOf_25 ?_
    refine lv_iload_n hx hb dX7_spreadOf_28 rfl (lv_at hl 2 rfl) ?_
    refine lv_aload_n hx hb dX7_spreadOf_29 rfl (lv_at hl 0 rfl) ?_
    refine va_get (D := G) (ci := 7) (v := .ref (ad 5)) (C := RX7) (T := TX7) (N := 28) hx hb hts inkX7 hown hK hP 0 rfl rfl 14 (by decide) (hts _ kw_796) (fun _ h9 => h9) rfl dX7_spreadOf_30 ?_
    refine lv_iload_n hx hb dX7_spreadOf_33 rfl (lv_at hl 2 rfl) ?_
    replace hf := s_gd_some hf
    obtain ⟨g3, hf⟩ := hf
    refine va_iald hx hb hK hP 5 1 rfl rfl (s_in_of g3) dX7_spreadOf_34 ?_
    refine lv_iload_n hx hb dX7_spreadOf_35 rfl (lv_at hl 1 rfl) ?_
    replace hf := s_bi_some hf
    obtain ⟨r6, σ4, hz5, hf⟩ := hf
    refine s_calliS (nn := 2) C (kcX7_off (l := l) (G := G) (cy := cy) (sa := sa) hI (sz := H.size) σ (σ 5 (Int32.toNatClampNeg x2)) x1 hz5) gk_X7_198 rfl rfl (by decide +kernel) ⟨Nat.le_of_ble_eq_true rfl, Nat.le_of_ble_eq_true rfl⟩ hP hS (As := [.int (σ 5 (Int32.toNatClampNeg x2)), .int x1]) (rest := [.int x2, .ref (ad 6)]) rfl rfl hl.1 (Nat.le_of_ble_eq_true rfl) dX7_spreadOf_36 (fun H locs hP hS => ?_)
    replace hf := s_bv_some hf
    obtain ⟨σ7, hz8, hf⟩ := hf
    refine s_callvS (nn := 3) C (kcX7_puts_6 (l := l) (G := G) (cy := cy) (sa := sa) hI (sz := H.size) σ4 x2 r6 hz8) gk_X7_147 rfl rfl (by decide +kernel) ⟨Nat.le_of_ble_eq_true rfl, Nat.le_of_ble_eq_true rfl⟩ hP hS (As := [.ref (ad 6), .int x2, .int r6]) (rest := []) rfl rfl hl.1 (Nat.le_of_ble_eq_true rfl) dX7_spreadOf_39 (fun H locs hP hS => ?_)
    obtain ⟨t9, et9⟩ : ∃ z : Int32, z = (x2 + 1) := ⟨_, rfl⟩
    replace hf := s_lt_at et9 hf
    refine lv_iinc (v := t9) (lv' := [(2, .int t9), (0, .ref (ad 0)), (1, .int x1)]) hx hb dX7_spreadOf_42 hl (k := 2) rfl (by rw [et9]; rfl) (by decide) rfl (fun ls hl => ?_)
    refine lv_goto (tgt := 16) hx hb dX7_spreadOf_45 (by decide) ?_
    exact hk16 σ7 x1 t9 _ _ _ (lv_sub hl [1, 2, 0] rfl) hP hS hf
set_option maxRecDepth 100000 in
set_option maxHeartbeats 4000000 in
theorem kX7_spreadOf_b16_L (C : s_X p s m meth c args cX7_spreadOf (some .int) 3 RX7 G cy sa ad 12) : ∀ (n : Nat), ∀ (σ : Sg) (x1 : Int32) (x2 : Int32) (ls : Array Slot) (H : Heap) (locs : List Loc), lv_has ls 3 [(0, .ref (ad 0)), (1, .int x1), (2, .int x2)] → va_P G vwCl ((s_WM cy ad) σ) H → va_S (s_A ad 12 s.heap.size) s.heap H locs → fX7_spreadOf_b16_L n σ x1 x2 = some (re, σe) → W p l e ({ frames := 1, cells := 0, slots := 0, locals := 23 } : Room) s m args below meth c H locs 0 0 (MQ below (s_Qi (s_WM cy ad) G (s_A ad 12 s.heap.size) re σe) args s 0 0 (s_A ad 12 s.heap.size)) (F0 m 16 ls []) := by
  intro n
  induction n with
  | zero => intro σ x1 x2 ls H locs hl hP hS hf; exact absurd (show (none : Option (Int32 × Sg)) = some (re, σe) from hf) (by intro h; cases h)
  | succ n ih => intro σ x1 x2 ls H locs hl hP hS hf; exact kX7_spreadOf_b16 C (fX7_spreadOf_b16_L n) ih σ x1 x2 ls H locs hl hP hS hf
set_option maxRecDepth 100000 in
set_option maxHeartbeats 4000000 in
theorem kX7_spreadOf (C : s_X p s m meth c args cX7_spreadOf (some .int) 3 RX7 G cy sa ad 12) (σ : Sg) (ls : Array Slot) (H : Heap) (locs : List Loc) (hl : lv_has ls 3 [(0, .ref (ad 0))]) (hP : va_P G vwCl ((s_WM cy ad) σ) H) (hS : va_S (s_A ad 12 s.heap.size) s.heap H locs) (hf : fX7_spreadOf σ = some (re, σe)) : W p l e ({ frames := 1, cells := 0, slots := 0, locals := 23 } : Room) s m args below meth c H locs 0 0 (MQ below (s_Qi (s_WM cy ad) G (s_A ad 12 s.heap.size) re σe) args s 0 0 (s_A ad 12 s.heap.size)) (F0 m 0 ls []) := by
  obtain ⟨hx, hb, hr, hml, hown, hts, hlk, hK, hE, hI⟩ := id C
  have hD : ∀ σ : Sg, va_D (s_A ad 12 s.heap.size) ((s_WM cy ad) σ) := fun σ => s_D (s_WM_ad cy ad σ) hI (fun k hk => Or.inl ⟨k, hk, rfl⟩)
  unfold fX7_spreadOf at hf
  refine lv_aload_n hx hb dX7_spreadOf_0 rfl (lv_at hl 0 rfl) ?_
  refine va_get (D := G) (ci := 7) (v := .ref (ad 5)) (C := RX7) (T := TX7) (N := 28) hx hb hts inkX7 hown hK hP 0 rfl rfl 14 (by decide) (hts _ kw_796) (fun _ h9 => h9) rfl dX7_spreadOf_1 ?_
  refine lv_aload_n hx hb dX7_spreadOf_4 rfl (lv_at hl 0 rfl) ?_
  refine va_get (D := G) (ci := 7) (v := .int (σ 0 15)) (C := RX7) (T := TX7) (N := 28) hx hb hts inkX7 hown hK hP 0 rfl rfl 15 (by decide) (hts _ kw_797) (fun _ h9 => h9) rfl dX7_spreadOf_5 ?_
  refine lv_iconst (v := 1) hx hb dX7_spreadOf_8 (by decide) ?_
  refine lv_isub hx hb dX7_spreadOf_9 ?_
  refine lv_iconst (v := 2) hx hb dX7_spreadOf_10 (by decide) ?_
  refine lv_idiv hx hb dX7_spreadOf_11 (by decide) ?_
  replace hf := s_gd_some hf
  obtain ⟨g1, hf⟩ := hf
  refine va_iald hx hb hK hP 5 1 rfl rfl (s_in_of g1) dX7_spreadOf_12 ?_
  refine lv_topi (fun t2 et2 => ?_)
  replace hf := s_lt_at et2 hf
  refine lv_istore_n (lv' := [(1, .int t2), (0, .ref (ad 0))]) hx hb dX7_spreadOf_13 rfl hl (by decide) rfl (fun ls hl => ?_)
  refine lv_iconst (v := 0) hx hb dX7_spreadOf_14 (by decide) ?_
  refine lv_istore_n (lv' := [(2, .int (0 : Int32)), (1, .int t2), (0, .ref (ad 0))]) hx hb dX7_spreadOf_15 rfl hl (by decide) rfl (fun ls hl => ?_)
  exact kX7_spreadOf_b16_L C s_fu σ t2 (0 : Int32) _ _ _ (lv_sub hl [2, 1, 0] rfl) hP hS hf
theorem kcX7_spreadOf {l : Launch} {G : va_G} {cy : Nat → ClassId} {sa : Nat × Nat} {ad : Nat → Nat}  {sz : Nat} (hI : s_inj ad 12) (σ : Sg) {re : Int32} {σe : Sg} (hf : fX7_spreadOf σ = some (re, σe)) : Met l yX7_spreadOf (kW yX7_spreadOf cX7_spreadOf 3 (some .int)) ({ frames := 1, cells := 0, slots := 0, locals := 23 } : Room) (s_P (s_WM cy ad) G cy sa ad 12 [.ref (ad 0)] sz σ) (s_Qi (s_WM cy ad) G (s_A ad 12 sz) re σe) 0 0 (s_A ad 12 sz) := by
  refine s_met (own := RX7) (by decide) rfl hI (Nat.le_of_ble_eq_true rfl) (fun p e s m below meth c ls hsz C hP hl => ?_)
  subst hsz
  exact kX7_spreadOf C σ ls _ _ hl hP va_S.rf hf
set_option maxRecDepth 100000 in
set_option maxHeartbeats 4000000 in
theorem kX7_middle_b18 (C : s_X p s m meth c args cX7_middle (some .int) 3 RX7 G cy sa ad 12) (σ : Sg) (ls : Array Slot) (H : Heap) (locs : List Loc) (hl : lv_has ls 3 []) (hP : va_P G vwCl ((s_WM cy ad) σ) H) (hS : va_S (s_A ad 12 s.heap.size) s.heap H locs) (hf : fX7_middle_b18 σ = some (re, σe)) : W p l e ({ frames := 3, cells := 0, slots := 0, locals := 62 } : Room) s m args below meth c H locs 0 0 (MQ below (s_Qi (s_WM cy ad) G (s_A ad 12 s.heap.size) re σe) args s 0 0 (s_A ad 12 s.heap.size)) (F0 m 18 ls []) := by
  obtain ⟨hx, hb, hr, hml, hown, hts, hlk, hK, hE, hI⟩ := id C
  have hD : ∀ σ : Sg, va_D (s_A ad 12 s.heap.size) ((s_WM cy ad) σ) := fun σ => s_D (s_WM_ad cy ad σ) hI (fun k hk => Or.inl ⟨k, hk, rfl⟩)
  unfold fX7_middle_b18 at hf
  refine lv_ldc (v := 100000000) hx hb hown (hts _ kw_936) dX7_middle_18 ?_
  obtain ⟨he1, he2⟩ := s_ret hf
  exact W.iret hx hb hr (fun t ht hW => ⟨⟨_, (), rfl, he1, s_fin (Wd := (s_WM cy ad)) ht he2 hP⟩, hS.F ht⟩) hS.2.2 dX7_middle_20 hlk
set_option maxRecDepth 100000 in
set_option maxHeartbeats 4000000 in
theorem kX7_middle (C : s_X p s m meth c args cX7_middle (some .int) 3 RX7 G cy sa ad 12) (σ : Sg) (x1 : Int32) (x2 : Int32) (ls : Array Slot) (H : Heap) (locs : List Loc) (hl : lv_has ls 3 [(0, .ref (ad 0)), (1, .int x1), (2, .int x2)]) (hP : va_P G vwCl ((s_WM cy ad) σ) H) (hS : va_S (s_A ad 12 s.heap.size) s.heap H locs) (hf : fX7_middle σ x1 x2 = some (re, σe)) : W p l e ({ frames := 3, cells := 0, slots := 0, locals := 62 } : Room) s m args below meth c H locs 0 0 (MQ below (s_Qi (s_WM cy ad) G (s_A ad 12 s.heap.size) re σe) args s 0 0 (s_A ad 12 s.heap.size)) (F0 m 0 ls []) := by
  obtain ⟨hx, hb, hr, hml, hown, hts, hlk, hK, hE, hI⟩ := id C
  have hD : ∀ σ : Sg, va_D (s_A ad 12 s.heap.size) ((s_WM cy ad) σ) := fun σ => s_D (s_WM_ad cy ad σ) hI (fun k hk => Or.inl ⟨k, hk, rfl⟩)
  unfold fX7_middle at hf
  refine lv_aload_n hx hb dX7_middle_0 rfl (lv_at hl 0 rfl) ?_
  refine lv_iload_n hx hb dX7_middle_1 rfl (lv_at hl 1 rfl) ?_
  replace hf := s_bi_some hf
  obtain ⟨r3, σ1, hz2, hf⟩ := hf
  refine s_calli (nn := 1) C (kcX7_isThere (l := l) (G := G) (cy := cy) (sa := sa) hI (sz := H.size) σ x1 hz2) gk_X7_180 rfl rfl (by decide +kernel) ⟨Nat.le_of_ble_eq_true rfl, Nat.le_of_ble_eq_true rfl⟩ hP hS (q0 := 0) (ci := 7) rfl rfl rfl (As := [.int x1]) (rest := []) rfl rfl hl.1 (Nat.le_of_ble_eq_true rfl) dX7_middle_2 (fun H locs hP hS => ?_)
  refine lv_if_eq (tgt := 18) hx hb dX7_middle_5 (by decide) (fun c4 => ?_) (fun c4 => ?_)
  · rw [if_pos c4] at hf
    exact kX7_middle_b18 C σ1 _ _ _ (lv_sub hl [] rfl) hP hS hf
  · rw [if_neg c4] at hf
    refine lv_iload_n hx hb dX7_middle_8 rfl (lv_at hl 2 rfl) ?_
    refine lv_i2l (v := (Int32.toInt64 x2)) hx hb dX7_middle_9 rfl ?_
    refine lv_lconst (v := 0) hx hb dX7_middle_10 (by decide) ?_
    refine lv_lconst (v := 1) hx hb dX7_middle_11 (by decide) ?_
    replace hf := s_bi_some hf
    obtain ⟨r7, σ5, hz6, hf⟩ := hf
    refine s_calliS (nn := 3) C (kcX7_in (l := l) (G := G) (cy := cy) (sa := sa) hI (sz := H.size) σ1 (Int32.toInt64 x2) (0 : Int64) (1 : Int64) hz6) gk_X7_54 rfl rfl (by decide +kernel) ⟨Nat.le_of_ble_eq_true rfl, Nat.le_of_ble_eq_true rfl⟩ hP hS (As := [.long (Int32.toInt64 x2), .long (0 : Int64), .long (1 : Int64)]) (rest := []) rfl rfl hl.1 (Nat.le_of_ble_eq_true rfl) dX7_middle_12 (fun H locs hP hS => ?_)
    refine lv_if_ne (tgt := 21) hx hb dX7_middle_15 (by decide) (fun c8 => ?_) (fun c8 => ?_)
    · rw [if_neg c8] at hf
      refine lv_aload_n hx hb dX7_middle_21 rfl (lv_at hl 0 rfl) ?_
      refine lv_iload_n hx hb dX7_middle_22 rfl (lv_at hl 1 rfl) ?_
      replace hf := s_bv_some hf
      obtain ⟨σ9, hz10, hf⟩ := hf
      refine s_callv (nn := 1) C (kcX7_rowOf (l := l) (G := G) (cy := cy) (sa := sa) hI (sz := H.size) σ5 x1 hz10) gk_X7_151 rfl rfl (by decide +kernel) ⟨Nat.le_of_ble_eq_true rfl, Nat.le_of_ble_eq_true rfl⟩ hP hS (q0 := 0) (ci := 7) rfl rfl rfl (As := [.int x1]) (rest := []) rfl rfl hl.1 (Nat.le_of_ble_eq_true rfl) dX7_middle_23 (fun H locs hP hS => ?_)
      refine lv_aload_n hx hb dX7_middle_26 rfl (lv_at hl 0 rfl) ?_
      refine va_get (D := G) (ci := 7) (v := .int (σ9 0 15)) (C := RX7) (T := TX7) (N := 28) hx hb hts inkX7 hown hK hP 0 rfl rfl 15 (by decide) (hts _ kw_797) (fun _ h9 => h9) rfl dX7_middle_27 ?_
      refine lv_if_ne (tgt := 38) hx hb dX7_middle_30 (by decide) (fun c11 => ?_) (fun c11 => ?_)
      · rw [if_neg c11] at hf
        refine lv_iload_n hx hb dX7_middle_38 rfl (lv_at hl 2 rfl) ?_
        refine lv_if_ne (tgt := 58) hx hb dX7_middle_39 (by decide) (fun c12 => ?_) (fun c12 => ?_)
        · rw [if_neg c12] at hf
          refine lv_aload_n hx hb dX7_middle_58 rfl (lv_at hl 0 rfl) ?_
          replace hf := s_bi_some hf
          obtain ⟨r15, σ13, hz14, hf⟩ := hf
          refine s_calli (nn := 0) C (kcX7_spreadOf (l := l) (G := G) (cy := cy) (sa := sa) hI (sz := H.size) σ9 hz14) gk_X7_201 rfl rfl (by decide +kernel) ⟨Nat.le_of_ble_eq_true rfl, Nat.le_of_ble_eq_true rfl⟩ hP hS (q0 := 0) (ci := 7) rfl rfl rfl (As := []) (rest := []) rfl rfl hl.1 (Nat.le_of_ble_eq_true rfl) dX7_middle_59 (fun H locs hP hS => ?_)
          obtain ⟨he1, he2⟩ := s_ret hf
          exact W.iret hx hb hr (fun t ht hW => ⟨⟨_, (), rfl, he1, s_fin (Wd := (s_WM cy ad)) ht he2 hP⟩, hS.F ht⟩) hS.2.2 dX7_middle_62 hlk
        · rw [if_pos c12] at hf
          refine lv_aload_n hx hb dX7_middle_42 rfl (lv_at hl 0 rfl) ?_
          refine va_get (D := G) (ci := 7) (v := .ref (ad 5)) (C := RX7) (T := TX7) (N := 28) hx hb hts inkX7 hown hK hP 0 rfl rfl 14 (by decide) (hts _ kw_796) (fun _ h9 => h9) rfl dX7_middle_43 ?_
          refine lv_aload_n hx hb dX7_middle_46 rfl (lv_at hl 0 rfl) ?_
          refine va_get (D := G) (ci := 7) (v := .int (σ9 0 15)) (C := RX7) (T := TX7) (N := 28) hx hb hts inkX7 hown hK hP 0 rfl rfl 15 (by decide) (hts _ kw_797) (fun _ h9 => h9) rfl dX7_middle_47 ?_
          refine lv_iconst (v := 1) hx hb dX7_middle_50 (by decide) ?_
          refine lv_isub hx hb dX7_middle_51 ?_
          refine lv_iconst (v := 2) hx hb dX7_middle_52 (by decide) ?_
          refine lv_idiv hx hb dX7_middle_53 (by decide) ?_
          replace hf := s_gd_some hf
          obtain ⟨g16, hf⟩ := hf
          refine va_iald hx hb hK hP 5 1 rfl rfl (s_in_of g16) dX7_middle_54 ?_
          refine lv_goto (tgt := 62) hx hb dX7_middle_55 (by decide) ?_
          obtain ⟨he1, he2⟩ := s_ret hf
          exact W.iret hx hb hr (fun t ht hW => ⟨⟨_, (), rfl, he1, s_fin (Wd := (s_WM cy ad)) ht he2 hP⟩, hS.F ht⟩) hS.2.2 dX7_middle_62 hlk
      · rw [if_pos c11] at hf
        refine lv_ldc (v := 100000000) hx hb hown (hts _ kw_936) dX7_middle_33 ?_
        refine lv_goto (tgt := 62) hx hb dX7_middle_35 (by decide) ?_
        obtain ⟨he1, he2⟩ := s_ret hf
        exact W.iret hx hb hr (fun t ht hW => ⟨⟨_, (), rfl, he1, s_fin (Wd := (s_WM cy ad)) ht he2 hP⟩, hS.F ht⟩) hS.2.2 dX7_middle_62 hlk
    · rw [if_pos c8] at hf
      exact kX7_middle_b18 C σ5 _ _ _ (lv_sub hl [] rfl) hP hS hf
theorem kcX7_middle {l : Launch} {G : va_G} {cy : Nat → ClassId} {sa : Nat × Nat} {ad : Nat → Nat}  {sz : Nat} (hI : s_inj ad 12) (σ : Sg) (x1 : Int32) (x2 : Int32) {re : Int32} {σe : Sg} (hf : fX7_middle σ x1 x2 = some (re, σe)) : Met l yX7_middle (kW yX7_middle cX7_middle 3 (some .int)) ({ frames := 3, cells := 0, slots := 0, locals := 62 } : Room) (s_P (s_WM cy ad) G cy sa ad 12 [.ref (ad 0), .int x1, .int x2] sz σ) (s_Qi (s_WM cy ad) G (s_A ad 12 sz) re σe) 0 0 (s_A ad 12 sz) := by
  refine s_met (own := RX7) (by decide) rfl hI (Nat.le_of_ble_eq_true rfl) (fun p e s m below meth c ls hsz C hP hl => ?_)
  subst hsz
  exact kX7_middle C σ x1 x2 ls _ _ hl hP va_S.rf hf
set_option maxRecDepth 100000 in
set_option maxHeartbeats 4000000 in
theorem kX7_isFar (C : s_X p s m meth c args cX7_isFar (some .boolean) 4 RX7 G cy sa ad 12) (σ : Sg) (x1 : Int32) (x2 : Int32) (ls : Array Slot) (H : Heap) (locs : List Loc) (hl : lv_has ls 4 [(0, .ref (ad 0)), (1, .int x1), (2, .int x2)]) (hP : va_P G vwCl ((s_WM cy ad) σ) H) (hS : va_S (s_A ad 12 s.heap.size) s.heap H locs) (hf : fX7_isFar σ x1 x2 = some (re, σe)) : W p l e ({ frames := 2, cells := 0, slots := 0, locals := 46 } : Room) s m args below meth c H locs 0 0 (MQ below (s_Qi (s_WM cy ad) G (s_A ad 12 s.heap.size) re σe) args s 0 0 (s_A ad 12 s.heap.size)) (F0 m 0 ls []) := by
  obtain ⟨hx, hb, hr, hml, hown, hts, hlk, hK, hE, hI⟩ := id C
  have hD : ∀ σ : Sg, va_D (s_A ad 12 s.heap.size) ((s_WM cy ad) σ) := fun σ => s_D (s_WM_ad cy ad σ) hI (fun k hk => Or.inl ⟨k, hk, rfl⟩)
  unfold fX7_isFar at hf
  refine lv_aload_n hx hb dX7_isFar_0 rfl (lv_at hl 0 rfl) ?_
  refine va_get (D := G) (ci := 7) (v := .ref (ad 1)) (C := RX7) (T := TX7) (N := 28) hx hb hts inkX7 hown hK hP 0 rfl rfl 0 (by decide) (hts _ kw_782) (fun _ h9 => h9) rfl dX7_isFar_1 ?_
  refine lv_iload_n hx hb dX7_isFar_4 rfl (lv_at hl 1 rfl) ?_
  replace hf := s_gd_some hf
  obtain ⟨g1, hf⟩ := hf
  refine va_iald hx hb hK hP 1 1 rfl rfl (s_in_of g1) dX7_isFar_5 ?_
  refine lv_ldc (v := 100000000) hx hb hown (hts _ kw_936) dX7_isFar_6 ?_
  refine lv_icmp_ne (tgt := 13) hx hb dX7_isFar_8 (by decide) (fun c2 => ?_) (fun c2 => ?_)
  · rw [if_neg c2] at hf
    refine lv_aload_n hx hb dX7_isFar_13 rfl (lv_at hl 0 rfl) ?_
    refine lv_iload_n hx hb dX7_isFar_14 rfl (lv_at hl 1 rfl) ?_
    replace hf := s_bv_some hf
    obtain ⟨σ3, hz4, hf⟩ := hf
    refine s_callv (nn := 1) C (kcX7_rowOf (l := l) (G := G) (cy := cy) (sa := sa) hI (sz := H.size) σ x1 hz4) gk_X7_151 rfl rfl (by decide +kernel) ⟨Nat.le_of_ble_eq_true rfl, Nat.le_of_ble_eq_true rfl⟩ hP hS (q0 := 0) (ci := 7) rfl rfl rfl (As := [.int x1]) (rest := []) rfl rfl hl.1 (Nat.le_of_ble_eq_true rfl) dX7_isFar_15 (fun H locs hP hS => ?_)
    refine lv_aload_n hx hb dX7_isFar_18 rfl (lv_at hl 0 rfl) ?_
    refine va_get (D := G) (ci := 7) (v := .ref (ad 5)) (C := RX7) (T := TX7) (N := 28) hx hb hts inkX7 hown hK hP 0 rfl rfl 14 (by decide) (hts _ kw_796) (fun _ h9 => h9) rfl dX7_isFar_19 ?_
    refine lv_aload_n hx hb dX7_isFar_22 rfl (lv_at hl 0 rfl) ?_
    refine va_get (D := G) (ci := 7) (v := .int (σ3 0 15)) (C := RX7) (T := TX7) (N := 28) hx hb hts inkX7 hown hK hP 0 rfl rfl 15 (by decide) (hts _ kw_797) (fun _ h9 => h9) rfl dX7_isFar_23 ?_
    refine lv_iconst (v := 1) hx hb dX7_isFar_26 (by decide) ?_
    refine lv_isub hx hb dX7_isFar_27 ?_
    refine lv_iconst (v := 2) hx hb dX7_isFar_28 (by decide) ?_
    refine lv_idiv hx hb dX7_isFar_29 (by decide) ?_
    replace hf := s_gd_some hf
    obtain ⟨g5, hf⟩ := hf
    refine va_iald hx hb hK hP 5 1 rfl rfl (s_in_of g5) dX7_isFar_30 ?_
    refine lv_topi (fun t6 et6 => ?_)
    replace hf := s_lt_at et6 hf
    refine lv_istore_n (lv' := [(3, .int t6), (0, .ref (ad 0)), (1, .int x1), (2, .int x2)]) hx hb dX7_isFar_31 rfl hl (by decide) rfl (fun ls hl => ?_)
    refine lv_aload_n hx hb dX7_isFar_32 rfl (lv_at hl 1 rfl) ?_
    refine va_get (D := G) (ci := 7) (v := .ref (ad 1)) (C := RX7) (T := TX7) (N := 28) hx hb hts inkX7 hown hK hP 0 rfl rfl 0 (by decide) (hts _ kw_782) (fun _ h9 => h9) rfl dX7_isFar_33 ?_
    refine lv_iload_n hx hb dX7_isFar_36 rfl (lv_at hl 2 rfl) ?_
    replace hf := s_gd_some hf
    obtain ⟨g7, hf⟩ := hf
    refine va_iald hx hb hK hP 1 1 rfl rfl (s_in_of g7) dX7_isFar_37 ?_
    refine lv_iload_n hx hb dX7_isFar_38 rfl (lv_at hl 0 rfl) ?_
    replace hf := s_bi_some hf
    obtain ⟨r10, σ8, hz9, hf⟩ := hf
    refine s_calliS (nn := 2) C (kcX7_off (l := l) (G := G) (cy := cy) (sa := sa) hI (sz := H.size) σ3 (σ3 1 (Int32.toNatClampNeg x1)) t6 hz9) gk_X7_198 rfl rfl (by decide +kernel) ⟨Nat.le_of_ble_eq_true rfl, Nat.le_of_ble_eq_true rfl⟩ hP hS (As := [.int (σ3 1 (Int32.toNatClampNeg x1)), .int t6]) (rest := []) rfl rfl hl.1 (Nat.le_of_ble_eq_true rfl) dX7_isFar_39 (fun H locs hP hS => ?_)
    refine lv_i2l (v := (Int32.toInt64 r10)) hx hb dX7_isFar_42 rfl ?_
    refine lv_iload_n hx hb dX7_isFar_43 rfl (lv_at hl 3 rfl) ?_
    refine lv_i2l (v := (Int32.toInt64 x2)) hx hb dX7_isFar_44 rfl ?_
    refine lv_aload_n hx hb dX7_isFar_45 rfl (lv_at hl 1 rfl) ?_
    replace hf := s_bi_some hf
    obtain ⟨r13, σ11, hz12, hf⟩ := hf
    refine s_calli (nn := 0) C (kcX7_spreadOf (l := l) (G := G) (cy := cy) (sa := sa) hI (sz := H.size) σ8 hz12) gk_X7_201 rfl rfl (by decide +kernel) ⟨Nat.le_of_ble_eq_true rfl, Nat.le_of_ble_eq_true rfl⟩ hP hS (q0 := 0) (ci := 7) rfl rfl rfl (As := []) (rest := [.long (Int32.toInt64 x2), .long (Int32.toInt64 r10)]) rfl rfl hl.1 (Nat.le_of_ble_eq_true rfl) dX7_isFar_46 (fun H locs hP hS => ?_)
    refine lv_i2l (v := (Int32.toInt64 r13)) hx hb dX7_isFar_49 rfl ?_
    refine lv_lmul hx hb dX7_isFar_50 ?_
    refine W.lcmp hx hb dX7_isFar_51 ?_
    refine lv_if_le (tgt := 59) hx hb dX7_isFar_52 (by decide) (fun c14 => ?_) (fun c14 => ?_)
    · rw [if_pos c14] at hf
      refine lv_iconst (v := 0) hx hb dX7_isFar_59 (by decide) ?_
      obtain ⟨he1, he2⟩ := s_ret hf
      exact W.zret hx hb hr rfl (fun t ht hW => ⟨⟨_, (), rfl, he1, s_fin (Wd := (s_WM cy ad)) ht he2 hP⟩, hS.F ht⟩) hS.2.2 dX7_isFar_60 hlk
    · rw [if_neg c14] at hf
      refine lv_iconst (v := 1) hx hb dX7_isFar_55 (by decide) ?_
      refine lv_goto (tgt := 60) hx hb dX7_isFar_56 (by decide) ?_
      obtain ⟨he1, he2⟩ := s_ret hf
      exact W.zret hx hb hr rfl (fun t ht hW => ⟨⟨_, (), rfl, he1, s_fin (Wd := (s_WM cy ad)) ht he2 hP⟩, hS.F ht⟩) hS.2.2 dX7_isFar_60 hlk
  · rw [if_pos c2] at hf
    refine lv_iconst (v := 0) hx hb dX7_isFar_11 (by decide) ?_
    obtain ⟨he1, he2⟩ := s_ret hf
    exact W.zret hx hb hr rfl (fun t ht hW => ⟨⟨_, (), rfl, he1, s_fin (Wd := (s_WM cy ad)) ht he2 hP⟩, hS.F ht⟩) hS.2.2 dX7_isFar_12 hlk
theorem kcX7_isFar {l : Launch} {G : va_G} {cy : Nat → ClassId} {sa : Nat × Nat} {ad : Nat → Nat}  {sz : Nat} (hI : s_inj ad 12) (σ : Sg) (x1 : Int32) (x2 : Int32) {re : Int32} {σe : Sg} (hf : fX7_isFar σ x1 x2 = some (re, σe)) : Met l yX7_isFar (kW yX7_isFar cX7_isFar 4 (some .boolean)) ({ frames := 2, cells := 0, slots := 0, locals := 46 } : Room) (s_P (s_WM cy ad) G cy sa ad 12 [.ref (ad 0), .int x1, .int x2] sz σ) (s_Qi (s_WM cy ad) G (s_A ad 12 sz) re σe) 0 0 (s_A ad 12 sz) := by
  refine s_met (own := RX7) (by decide) rfl hI (Nat.le_of_ble_eq_true rfl) (fun p e s m below meth c ls hsz C hP hl => ?_)
  subst hsz
  exact kX7_isFar C σ x1 x2 ls _ _ hl hP va_S.rf hf
set_option maxRecDepth 100000 in
set_option maxHeartbeats 4000000 in
theorem kX7_far_b20 (C : s_X p s m meth c args cX7_far (some .int) 3 RX7 G cy sa ad 12) (σ : Sg) (ls : Array Slot) (H : Heap) (locs : List Loc) (hl : lv_has ls 3 []) (hP : va_P G vwCl ((s_WM cy ad) σ) H) (hS : va_S (s_A ad 12 s.heap.size) s.heap H locs) (hf : fX7_far_b20 σ = some (re, σe)) : W p l e ({ frames := 3, cells := 0, slots := 0, locals := 69 } : Room) s m args below meth c H locs 0 0 (MQ below (s_Qi (s_WM cy ad) G (s_A ad 12 s.heap.size) re σe) args s 0 0 (s_A ad 12 s.heap.size)) (F0 m 20 ls []) := by
  obtain ⟨hx, hb, hr, hml, hown, hts, hlk, hK, hE, hI⟩ := id C
  have hD : ∀ σ : Sg, va_D (s_A ad 12 s.heap.size) ((s_WM cy ad) σ) := fun σ => s_D (s_WM_ad cy ad σ) hI (fun k hk => Or.inl ⟨k, hk, rfl⟩)
  unfold fX7_far_b20 at hf
  refine lv_iconst (v := -1) hx hb dX7_far_20 (by decide) ?_
  obtain ⟨he1, he2⟩ := s_ret hf
  exact W.iret hx hb hr (fun t ht hW => ⟨⟨_, (), rfl, he1, s_fin (Wd := (s_WM cy ad)) ht he2 hP⟩, hS.F ht⟩) hS.2.2 dX7_far_21 hlk
set_option maxRecDepth 100000 in
set_option maxHeartbeats 4000000 in
theorem kX7_far (C : s_X p s m meth c args cX7_far (some .int) 3 RX7 G cy sa ad 12) (σ : Sg) (x1 : Int32) (x2 : Int32) (ls : Array Slot) (H : Heap) (locs : List Loc) (hl : lv_has ls 3 [(0, .ref (ad 0)), (1, .int x1), (2, .int x2)]) (hP : va_P G vwCl ((s_WM cy ad) σ) H) (hS : va_S (s_A ad 12 s.heap.size) s.heap H locs) (hf : fX7_far σ x1 x2 = some (re, σe)) : W p l e ({ frames := 3, cells := 0, slots := 0, locals := 69 } : Room) s m args below meth c H locs 0 0 (MQ below (s_Qi (s_WM cy ad) G (s_A ad 12 s.heap.size) re σe) args s 0 0 (s_A ad 12 s.heap.size)) (F0 m 0 ls []) := by
  obtain ⟨hx, hb, hr, hml, hown, hts, hlk, hK, hE, hI⟩ := id C
  have hD : ∀ σ : Sg, va_D (s_A ad 12 s.heap.size) ((s_WM cy ad) σ) := fun σ => s_D (s_WM_ad cy ad σ) hI (fun k hk => Or.inl ⟨k, hk, rfl⟩)
  unfold fX7_far at hf
  refine lv_aload_n hx hb dX7_far_0 rfl (lv_at hl 0 rfl) ?_
  refine lv_iload_n hx hb dX7_far_1 rfl (lv_at hl 1 rfl) ?_
  replace hf := s_bi_some hf
  obtain ⟨r3, σ1, hz2, hf⟩ := hf
  refine s_calli (nn := 1) C (kcX7_isThere (l := l) (G := G) (cy := cy) (sa := sa) hI (sz := H.size) σ x1 hz2) gk_X7_180 rfl rfl (by decide +kernel) ⟨Nat.le_of_ble_eq_true rfl, Nat.le_of_ble_eq_true rfl⟩ hP hS (q0 := 0) (ci := 7) rfl rfl rfl (As := [.int x1]) (rest := []) rfl rfl hl.1 (Nat.le_of_ble_eq_true rfl) dX7_far_2 (fun H locs hP hS => ?_)
  refine lv_if_eq (tgt := 20) hx hb dX7_far_5 (by decide) (fun c4 => ?_) (fun c4 => ?_)
  · rw [if_pos c4] at hf
    exact kX7_far_b20 C σ1 _ _ _ (lv_sub hl [] rfl) hP hS hf
  · rw [if_neg c4] at hf
    refine lv_iload_n hx hb dX7_far_8 rfl (lv_at hl 2 rfl) ?_
    refine lv_i2l (v := (Int32.toInt64 x2)) hx hb dX7_far_9 rfl ?_
    refine lv_lconst (v := 1) hx hb dX7_far_10 (by decide) ?_
    refine lv_ldc2 (v := 20) hx hb hown (hts _ kw_1037) dX7_far_11 ?_
    replace hf := s_bi_some hf
    obtain ⟨r7, σ5, hz6, hf⟩ := hf
    refine s_calliS (nn := 3) C (kcX7_in (l := l) (G := G) (cy := cy) (sa := sa) hI (sz := H.size) σ1 (Int32.toInt64 x2) (1 : Int64) (20 : Int64) hz6) gk_X7_54 rfl rfl (by decide +kernel) ⟨Nat.le_of_ble_eq_true rfl, Nat.le_of_ble_eq_true rfl⟩ hP hS (As := [.long (Int32.toInt64 x2), .long (1 : Int64), .long (20 : Int64)]) (rest := []) rfl rfl hl.1 (Nat.le_of_ble_eq_true rfl) dX7_far_14 (fun H locs hP hS => ?_)
    refine lv_if_ne (tgt := 22) hx hb dX7_far_17 (by decide) (fun c8 => ?_) (fun c8 => ?_)
    · rw [if_neg c8] at hf
      refine lv_aload_n hx hb dX7_far_22 rfl (lv_at hl 0 rfl) ?_
      refine lv_iload_n hx hb dX7_far_23 rfl (lv_at hl 1 rfl) ?_
      refine lv_iload_n hx hb dX7_far_24 rfl (lv_at hl 2 rfl) ?_
      replace hf := s_bi_some hf
      obtain ⟨r11, σ9, hz10, hf⟩ := hf
      refine s_calli (nn := 2) C (kcX7_isFar (l := l) (G := G) (cy := cy) (sa := sa) hI (sz := H.size) σ5 x1 x2 hz10) gk_X7_206 rfl rfl (by decide +kernel) ⟨Nat.le_of_ble_eq_true rfl, Nat.le_of_ble_eq_true rfl⟩ hP hS (q0 := 0) (ci := 7) rfl rfl rfl (As := [.int x1, .int x2]) (rest := []) rfl rfl hl.1 (Nat.le_of_ble_eq_true rfl) dX7_far_25 (fun H locs hP hS => ?_)
      refine lv_if_eq (tgt := 35) hx hb dX7_far_28 (by decide) (fun c12 => ?_) (fun c12 => ?_)
      · rw [if_pos c12] at hf
        refine lv_iconst (v := 0) hx hb dX7_far_35 (by decide) ?_
        obtain ⟨he1, he2⟩ := s_ret hf
        exact W.iret hx hb hr (fun t ht hW => ⟨⟨_, (), rfl, he1, s_fin (Wd := (s_WM cy ad)) ht he2 hP⟩, hS.F ht⟩) hS.2.2 dX7_far_36 hlk
      · rw [if_neg c12] at hf
        refine lv_iconst (v := 1) hx hb dX7_far_31 (by decide) ?_
        refine lv_goto (tgt := 36) hx hb dX7_far_32 (by decide) ?_
        obtain ⟨he1, he2⟩ := s_ret hf
        exact W.iret hx hb hr (fun t ht hW => ⟨⟨_, (), rfl, he1, s_fin (Wd := (s_WM cy ad)) ht he2 hP⟩, hS.F ht⟩) hS.2.2 dX7_far_36 hlk
    · rw [if_pos c8] at hf
      exact kX7_far_b20 C σ5 _ _ _ (lv_sub hl [] rfl) hP hS hf
theorem kcX7_far {l : Launch} {G : va_G} {cy : Nat → ClassId} {sa : Nat × Nat} {ad : Nat → Nat}  {sz : Nat} (hI : s_inj ad 12) (σ : Sg) (x1 : Int32) (x2 : Int32) {re : Int32} {σe : Sg} (hf : fX7_far σ x1 x2 = some (re, σe)) : Met l yX7_far (kW yX7_far cX7_far 3 (some .int)) ({ frames := 3, cells := 0, slots := 0, locals := 69 } : Room) (s_P (s_WM cy ad) G cy sa ad 12 [.ref (ad 0), .int x1, .int x2] sz σ) (s_Qi (s_WM cy ad) G (s_A ad 12 sz) re σe) 0 0 (s_A ad 12 sz) := by
  refine s_met (own := RX7) (by decide) rfl hI (Nat.le_of_ble_eq_true rfl) (fun p e s m below meth c ls hsz C hP hl => ?_)
  subst hsz
  exact kX7_far C σ x1 x2 ls _ _ hl hP va_S.rf hf
set_option maxRecDepth 100000 in
set_option maxHeartbeats 4000000 in
theorem kX7_fars_b45 (C : s_X p s m meth c args cX7_fars (some .int) 4 RX7 G cy sa ad 12) (k22 : Sg → Int32 → Int32 → Int32 → Option (Int32 × Sg)) (hk22 : ∀ (σ : Sg) (x1 : Int32) (x2 : Int32) (x3 : Int32) (ls : Array Slot) (H : Heap) (locs : List Loc), lv_has ls 4 [(0, .ref (ad 0)), (1, .int x1), (2, .int x2), (3, .int x3)] → va_P G vwCl ((s_WM cy ad) σ) H → va_S (s_A ad 12 s.heap.size) s.heap H locs → k22 σ x1 x2 x3 = some (re, σe) → W p l e ({ frames := 3, cells := 0, slots := 0, locals := 69 } : Room) s m args below meth c H locs 0 0 (MQ below (s_Qi (s_WM cy ad) G (s_A ad 12 s.heap.size) re σe) args s 0 0 (s_A ad 12 s.heap.size)) (F0 m 22 ls [])) (σ : Sg) (x1 : Int32) (x3 : Int32) (y0 : Int32) (y1 : Int32) (ls : Array Slot) (H : Heap) (locs : List Loc) (hl : lv_has ls 4 [(0, .ref (ad 0)), (1, .int x1), (3, .int x3)]) (hP : va_P G vwCl ((s_WM cy ad) σ) H) (hS : va_S (s_A ad 12 s.heap.size) s.heap H locs) (hf : fX7_fars_b45 k22 σ x1 x3 y0 y1 = some (re, σe)) : W p l e ({ frames := 3, cells := 0, slots := 0, locals := 69 } : Room) s m args below meth c H locs 0 0 (MQ below (s_Qi (s_WM cy ad) G (s_A ad 12 s.heap.size) re σe) args s 0 0 (s_A ad 12 s.heap.size)) (F0 m 45 ls [.int y1, .int y0]) := by
  obtain ⟨hx, hb, hr, hml, hown, hts, hlk, hK, hE, hI⟩ := id C
  have hD : ∀ σ : Sg, va_D (s_A ad 12 s.heap.size) ((s_WM cy ad) σ) := fun σ => s_D (s_WM_ad cy ad σ) hI (fun k hk => Or.inl ⟨k, hk, rfl⟩)
  unfold fX7_fars_b45 at hf
  refine lv_iadd hx hb dX7_fars_45 ?_
  refine lv_topi (fun t1 et1 => ?_)
  replace hf := s_lt_at et1 hf
  refine lv_istore_n (lv' := [(2, .int t1), (0, .ref (ad 0)), (1, .int x1), (3, .int x3)]) hx hb dX7_fars_46 rfl hl (by decide) rfl (fun ls hl => ?_)
  obtain ⟨t2, et2⟩ : ∃ z : Int32, z = (x3 + 1) := ⟨_, rfl⟩
  replace hf := s_lt_at et2 hf
  refine lv_iinc (v := t2) (lv' := [(3, .int t2), (2, .int t1), (0, .ref (ad 0)), (1, .int x1)]) hx hb dX7_fars_47 hl (k := 3) rfl (by rw [et2]; rfl) (by decide) rfl (fun ls hl => ?_)
  refine lv_goto (tgt := 22) hx hb dX7_fars_50 (by decide) ?_
  exact hk22 σ x1 t1 t2 _ _ _ (lv_sub hl [2, 3, 1, 0] rfl) hP hS hf
set_option maxRecDepth 100000 in
set_option maxHeartbeats 4000000 in
theorem kX7_fars_b22 (C : s_X p s m meth c args cX7_fars (some .int) 4 RX7 G cy sa ad 12) (k22 : Sg → Int32 → Int32 → Int32 → Option (Int32 × Sg)) (hk22 : ∀ (σ : Sg) (x1 : Int32) (x2 : Int32) (x3 : Int32) (ls : Array Slot) (H : Heap) (locs : List Loc), lv_has ls 4 [(0, .ref (ad 0)), (1, .int x1), (2, .int x2), (3, .int x3)] → va_P G vwCl ((s_WM cy ad) σ) H → va_S (s_A ad 12 s.heap.size) s.heap H locs → k22 σ x1 x2 x3 = some (re, σe) → W p l e ({ frames := 3, cells := 0, slots := 0, locals := 69 } : Room) s m args below meth c H locs 0 0 (MQ below (s_Qi (s_WM cy ad) G (s_A ad 12 s.heap.size) re σe) args s 0 0 (s_A ad 12 s.heap.size)) (F0 m 22 ls [])) (σ : Sg) (x1 : Int32) (x2 : Int32) (x3 : Int32) (ls : Array Slot) (H : Heap) (locs : List Loc) (hl : lv_has ls 4 [(0, .ref (ad 0)), (1, .int x1), (2, .int x2), (3, .int x3)]) (hP : va_P G vwCl ((s_WM cy ad) σ) H) (hS : va_S (s_A ad 12 s.heap.size) s.heap H locs) (hf : fX7_fars_b22 k22 σ x1 x2 x3 = some (re, σe)) : W p l e ({ frames := 3, cells := 0, slots := 0, locals := 69 } : Room) s m args below meth c H locs 0 0 (MQ below (s_Qi (s_WM cy ad) G (s_A ad 12 s.heap.size) re σe) args s 0 0 (s_A ad 12 s.heap.size)) (F0 m 22 ls []) := by
  obtain ⟨hx, hb, hr, hml, hown, hts, hlk, hK, hE, hI⟩ := id C
  have hD : ∀ σ : Sg, va_D (s_A ad 12 s.heap.size) ((s_WM cy ad) σ) := fun σ => s_D (s_WM_ad cy ad σ) hI (fun k hk => Or.inl ⟨k, hk, rfl⟩)
  unfold fX7_fars_b22 at hf
  refine lv_iload_n hx hb dX7_fars_22 rfl (lv_at hl 3 rfl) ?_
  refine lv_aload_n hx hb dX7_fars_23 rfl (lv_at hl 0 rfl) ?_
  replace hf := s_bi_some hf
  obtain ⟨r3, σ1, hz2, hf⟩ := hf
  refine s_calli (nn := 0) C (kcX7_many (l := l) (G := G) (cy := cy) (sa := sa) hI (sz := H.size) σ hz2) gk_X7_141 rfl rfl (by decide +kernel) ⟨Nat.le_of_ble_eq_true rfl, Nat.le_of_ble_eq_true rfl⟩ hP hS (q0 := 0) (ci := 7) rfl rfl rfl (As := []) (rest := [.int x3]) rfl rfl hl.1 (Nat.le_of_ble_eq_true rfl) dX7_fars_24 (fun H locs hP hS => ?_)
  refine lv_icmp_ge (tgt := 53) hx hb dX7_fars_27 (by decide) (fun c4 => ?_) (fun c4 => ?_)
  · rw [if_pos c4] at hf
    refine lv_iload_n hx hb dX7_fars_53 rfl (lv_at hl 2 rfl) ?_
    obtain ⟨he1, he2⟩ := s_ret hf
    exact W.iret hx hb hr (fun t ht hW => ⟨⟨_, (), rfl, he1, s_fin (Wd := (s_WM cy ad)) ht he2 hP⟩, hS.F ht⟩) hS.2.2 dX7_fars_54 hlk
  · rw [if_neg c4] at hf
    refine lv_iload_n hx hb dX7_fars_30 rfl (lv_at hl 2 rfl) ?_
    refine lv_aload_n hx hb dX7_fars_31 rfl (lv_at hl 0 rfl) ?_
    refine lv_iload_n hx hb dX7_fars_32 rfl (lv_at hl 3 rfl) ?_
    refine lv_iload_n hx hb dX7_fars_33 rfl (lv_at hl 1 rfl) ?_
    replace hf := s_bi_some hf
    obtain ⟨r7, σ5, hz6, hf⟩ := hf
    refine s_calli (nn := 2) C (kcX7_isFar (l := l) (G := G) (cy := cy) (sa := sa) hI (sz := H.size) σ1 x3 x1 hz6) gk_X7_206 rfl rfl (by decide +kernel) ⟨Nat.le_of_ble_eq_true rfl, Nat.le_of_ble_eq_true rfl⟩ hP hS (q0 := 0) (ci := 7) rfl rfl rfl (As := [.int x3, .int x1]) (rest := [.int x2]) rfl rfl hl.1 (Nat.le_of_ble_eq_true rfl) dX7_fars_34 (fun H locs hP hS => ?_)
    refine lv_if_eq (tgt := 44) hx hb dX7_fars_37 (by decide) (fun c8 => ?_) (fun c8 => ?_)
    · rw [if_pos c8] at hf
      refine lv_iconst (v := 0) hx hb dX7_fars_44 (by decide) ?_
      exact kX7_fars_b45 C k22 hk22 σ5 x1 x3 x2 (0 : Int32) _ _ _ (lv_sub hl [0, 1, 3] rfl) hP hS hf
    · rw [if_neg c8] at hf
      refine lv_iconst (v := 1) hx hb dX7_fars_40 (by decide) ?_
      refine lv_goto (tgt := 45) hx hb dX7_fars_41 (by decide) ?_
      exact kX7_fars_b45 C k22 hk22 σ5 x1 x3 x2 (1 : Int32) _ _ _ (lv_sub hl [0, 1, 3] rfl) hP hS hf
set_option maxRecDepth 100000 in
set_option maxHeartbeats 4000000 in
theorem kX7_fars_b22_L (C : s_X p s m meth c args cX7_fars (some .int) 4 RX7 G cy sa ad 12) : ∀ (n : Nat), ∀ (σ : Sg) (x1 : Int32) (x2 : Int32) (x3 : Int32) (ls : Array Slot) (H : Heap) (locs : List Loc), lv_has ls 4 [(0, .ref (ad 0)), (1, .int x1), (2, .int x2), (3, .int x3)] → va_P G vwCl ((s_WM cy ad) σ) H → va_S (s_A ad 12 s.heap.size) s.heap H locs → fX7_fars_b22_L n σ x1 x2 x3 = some (re, σe) → W p l e ({ frames := 3, cells := 0, slots := 0, locals := 69 } : Room) s m args below meth c H locs 0 0 (MQ below (s_Qi (s_WM cy ad) G (s_A ad 12 s.heap.size) re σe) args s 0 0 (s_A ad 12 s.heap.size)) (F0 m 22 ls []) := by
  intro n
  induction n with
  | zero => intro σ x1 x2 x3 ls H locs hl hP hS hf; exact absurd (show (none : Option (Int32 × Sg)) = some (re, σe) from hf) (by intro h; cases h)
  | succ n ih => intro σ x1 x2 x3 ls H locs hl hP hS hf; exact kX7_fars_b22 C (fX7_fars_b22_L n) ih σ x1 x2 x3 ls H locs hl hP hS hf
set_option maxRecDepth 100000 in
set_option maxHeartbeats 4000000 in
theorem kX7_fars (C : s_X p s m meth c args cX7_fars (some .int) 4 RX7 G cy sa ad 12) (σ : Sg) (x1 : Int32) (ls : Array Slot) (H : Heap) (locs : List Loc) (hl : lv_has ls 4 [(0, .ref (ad 0)), (1, .int x1)]) (hP : va_P G vwCl ((s_WM cy ad) σ) H) (hS : va_S (s_A ad 12 s.heap.size) s.heap H locs) (hf : fX7_fars σ x1 = some (re, σe)) : W p l e ({ frames := 3, cells := 0, slots := 0, locals := 69 } : Room) s m args below meth c H locs 0 0 (MQ below (s_Qi (s_WM cy ad) G (s_A ad 12 s.heap.size) re σe) args s 0 0 (s_A ad 12 s.heap.size)) (F0 m 0 ls []) := by
  obtain ⟨hx, hb, hr, hml, hown, hts, hlk, hK, hE, hI⟩ := id C
  have hD : ∀ σ : Sg, va_D (s_A ad 12 s.heap.size) ((s_WM cy ad) σ) := fun σ => s_D (s_WM_ad cy ad σ) hI (fun k hk => Or.inl ⟨k, hk, rfl⟩)
  unfold fX7_fars at hf
  refine lv_aload_n hx hb dX7_fars_0 rfl (lv_at hl 0 rfl) ?_
  replace hf := s_bv_some hf
  obtain ⟨σ1, hz2, hf⟩ := hf
  refine s_callv (nn := 0) C (kcX7_starts (l := l) (G := G) (cy := cy) (sa := sa) hI (sz := H.size) σ hz2) gk_X7_128 rfl rfl (by decide +kernel) ⟨Nat.le_of_ble_eq_true rfl, Nat.le_of_ble_eq_true rfl⟩ hP hS (q0 := 0) (ci := 7) rfl rfl rfl (As := []) (rest := []) rfl rfl hl.1 (Nat.le_of_ble_eq_true rfl) dX7_fars_1 (fun H locs hP hS => ?_)
  refine lv_iload_n hx hb dX7_fars_4 rfl (lv_at hl 1 rfl) ?_
  refine lv_i2l (v := (Int32.toInt64 x1)) hx hb dX7_fars_5 rfl ?_
  refine lv_lconst (v := 1) hx hb dX7_fars_6 (by decide) ?_
  refine lv_ldc2 (v := 20) hx hb hown (hts _ kw_1037) dX7_fars_7 ?_
  replace hf := s_bi_some hf
  obtain ⟨r5, σ3, hz4, hf⟩ := hf
  refine s_calliS (nn := 3) C (kcX7_in (l := l) (G := G) (cy := cy) (sa := sa) hI (sz := H.size) σ1 (Int32.toInt64 x1) (1 : Int64) (20 : Int64) hz4) gk_X7_54 rfl rfl (by decide +kernel) ⟨Nat.le_of_ble_eq_true rfl, Nat.le_of_ble_eq_true rfl⟩ hP hS (As := [.long (Int32.toInt64 x1), .long (1 : Int64), .long (20 : Int64)]) (rest := []) rfl rfl hl.1 (Nat.le_of_ble_eq_true rfl) dX7_fars_10 (fun H locs hP hS => ?_)
  refine lv_if_ne (tgt := 18) hx hb dX7_fars_13 (by decide) (fun c6 => ?_) (fun c6 => ?_)
  · rw [if_neg c6] at hf
    refine lv_iconst (v := 0) hx hb dX7_fars_18 (by decide) ?_
    refine lv_istore_n (lv' := [(2, .int (0 : Int32)), (0, .ref (ad 0)), (1, .int x1)]) hx hb dX7_fars_19 rfl hl (by decide) rfl (fun ls hl => ?_)
    refine lv_iconst (v := 0) hx hb dX7_fars_20 (by decide) ?_
    refine lv_istore_n (lv' := [(3, .int (0 : Int32)), (2, .int (0 : Int32)), (0, .ref (ad 0)), (1, .int x1)]) hx hb dX7_fars_21 rfl hl (by decide) rfl (fun ls hl => ?_)
    exact kX7_fars_b22_L C s_fu σ3 x1 (0 : Int32) (0 : Int32) _ _ _ (lv_sub hl [2, 3, 1, 0] rfl) hP hS hf
  · rw [if_pos c6] at hf
    refine lv_iconst (v := -1) hx hb dX7_fars_16 (by decide) ?_
    obtain ⟨he1, he2⟩ := s_ret hf
    exact W.iret hx hb hr (fun t ht hW => ⟨⟨_, (), rfl, he1, s_fin (Wd := (s_WM cy ad)) ht he2 hP⟩, hS.F ht⟩) hS.2.2 dX7_fars_17 hlk
theorem kcX7_fars {l : Launch} {G : va_G} {cy : Nat → ClassId} {sa : Nat × Nat} {ad : Nat → Nat}  {sz : Nat} (hI : s_inj ad 12) (σ : Sg) (x1 : Int32) {re : Int32} {σe : Sg} (hf : fX7_fars σ x1 = some (re, σe)) : Met l yX7_fars (kW yX7_fars cX7_fars 4 (some .int)) ({ frames := 3, cells := 0, slots := 0, locals := 69 } : Room) (s_P (s_WM cy ad) G cy sa ad 12 [.ref (ad 0), .int x1] sz σ) (s_Qi (s_WM cy ad) G (s_A ad 12 sz) re σe) 0 0 (s_A ad 12 sz) := by
  refine s_met (own := RX7) (by decide) rfl hI (Nat.le_of_ble_eq_true rfl) (fun p e s m below meth c ls hsz C hP hl => ?_)
  subst hsz
  exact kX7_fars C σ x1 ls _ _ hl hP va_S.rf hf
set_option maxRecDepth 100000 in
set_option maxHeartbeats 4000000 in
theorem kX7_above_b156 (C : s_X p s m meth c args cX7_above (some .int) 10 RX7 G cy sa ad 12) (k37 : Sg → Int32 → Int32 → Int32 → Int32 → Int32 → Int32 → Int32 → Int32 → Option (Int32 × Sg)) (hk37 : ∀ (σ : Sg) (x1 : Int32) (x2 : Int32) (x3 : Int32) (x4 : Int32) (x5 : Int32) (x6 : Int32) (x7 : Int32) (x8 : Int32) (ls : Array Slot) (H : Heap) (locs : List Loc), lv_has ls 10 [(0, .ref (ad 0)), (1, .int x1), (2, .int x2), (3, .int x3), (4, .int x4), (5, .int x5), (6, .int x6), (7, .int x7), (8, .int x8)] → va_P G vwCl ((s_WM cy ad) σ) H → va_S (s_A ad 12 s.heap.size) s.heap H locs → k37 σ x1 x2 x3 x4 x5 x6 x7 x8 = some (re, σe) → W p l e ({ frames := 3, cells := 0, slots := 0, locals := 72 } : Room) s m args below meth c H locs 0 0 (MQ below (s_Qi (s_WM cy ad) G (s_A ad 12 s.heap.size) re σe) args s 0 0 (s_A ad 12 s.heap.size)) (F0 m 37 ls [])) (σ : Sg) (x1 : Int32) (x2 : Int32) (x3 : Int32) (x4 : Int32) (x6 : Int32) (x7 : Int32) (x8 : Int32) (y0 : Int32) (ls : Array Slot) (H : Heap) (locs : List Loc) (hl : lv_has ls 10 [(0, .ref (ad 0)), (1, .int x1), (2, .int x2), (3, .int x3), (4, .int x4), (6, .int x6), (7, .int x7), (8, .int x8)]) (hP : va_P G vwCl ((s_WM cy ad) σ) H) (hS : va_S (s_A ad 12 s.heap.size) s.heap H locs) (hf : fX7_above_b156 k37 σ x1 x2 x3 x4 x6 x7 x8 y0 = some (re, σe)) : W p l e ({ frames := 3, cells := 0, slots := 0, locals := 72 } : Room) s m args below meth c H locs 0 0 (MQ below (s_Qi (s_WM cy ad) G (s_A ad 12 s.heap.size) re σe) args s 0 0 (s_A ad 12 s.heap.size)) (F0 m 156 ls [.int y0]) := by
  obtain ⟨hx, hb, hr, hml, hown, hts, hlk, hK, hE, hI⟩ := id C
  have hD : ∀ σ : Sg, va_D (s_A ad 12 s.heap.size) ((s_WM cy ad) σ) := fun σ => s_D (s_WM_ad cy ad σ) hI (fun k hk => Or.inl ⟨k, hk, rfl⟩)
  unfold fX7_above_b156 at hf
  refine lv_istore (lv' := [(5, .int y0), (0, .ref (ad 0)), (1, .int x1), (2, .int x2), (3, .int x3), (4, .int x4), (6, .int x6), (7, .int x7), (8, .int x8)]) hx hb dX7_above_156 hl (by decide) rfl (fun ls hl => ?_)
  obtain ⟨t1, et1⟩ : ∃ z : Int32, z = (x8 + 1) := ⟨_, rfl⟩
  replace hf := s_lt_at et1 hf
  refine lv_iinc (v := t1) (lv' := [(8, .int t1), (5, .int y0), (0, .ref (ad 0)), (1, .int x1), (2, .int x2), (3, .int x3), (4, .int x4), (6, .int x6), (7, .int x7)]) hx hb dX7_above_158 hl (k := 8) rfl (by rw [et1]; rfl) (by decide) rfl (fun ls hl => ?_)
  refine lv_goto (tgt := 37) hx hb dX7_above_161 (by decide) ?_
  exact hk37 σ x1 x2 x3 x4 y0 x6 x7 t1 _ _ _ (lv_sub hl [2, 3, 4, 5, 6, 1, 7, 8, 0] rfl) hP hS hf
set_option maxRecDepth 100000 in
set_option maxHeartbeats 4000000 in
theorem kX7_above_b142 (C : s_X p s m meth c args cX7_above (some .int) 10 RX7 G cy sa ad 12) (k37 : Sg → Int32 → Int32 → Int32 → Int32 → Int32 → Int32 → Int32 → Int32 → Option (Int32 × Sg)) (hk37 : ∀ (σ : Sg) (x1 : Int32) (x2 : Int32) (x3 : Int32) (x4 : Int32) (x5 : Int32) (x6 : Int32) (x7 : Int32) (x8 : Int32) (ls : Array Slot) (H : Heap) (locs : List Loc), lv_has ls 10 [(0, .ref (ad 0)), (1, .int x1), (2, .int x2), (3, .int x3), (4, .int x4), (5, .int x5), (6, .int x6), (7, .int x7), (8, .int x8)] → va_P G vwCl ((s_WM cy ad) σ) H → va_S (s_A ad 12 s.heap.size) s.heap H locs → k37 σ x1 x2 x3 x4 x5 x6 x7 x8 = some (re, σe) → W p l e ({ frames := 3, cells := 0, slots := 0, locals := 72 } : Room) s m args below meth c H locs 0 0 (MQ below (s_Qi (s_WM cy ad) G (s_A ad 12 s.heap.size) re σe) args s 0 0 (s_A ad 12 s.heap.size)) (F0 m 37 ls [])) (σ : Sg) (x1 : Int32) (x2 : Int32) (x3 : Int32) (x5 : Int32) (x6 : Int32) (x7 : Int32) (x8 : Int32) (x9 : Int32) (y0 : Int32) (ls : Array Slot) (H : Heap) (locs : List Loc) (hl : lv_has ls 10 [(0, .ref (ad 0)), (1, .int x1), (2, .int x2), (3, .int x3), (5, .int x5), (6, .int x6), (7, .int x7), (8, .int x8), (9, .int x9)]) (hP : va_P G vwCl ((s_WM cy ad) σ) H) (hS : va_S (s_A ad 12 s.heap.size) s.heap H locs) (hf : fX7_above_b142 k37 σ x1 x2 x3 x5 x6 x7 x8 x9 y0 = some (re, σe)) : W p l e ({ frames := 3, cells := 0, slots := 0, locals := 72 } : Room) s m args below meth c H locs 0 0 (MQ below (s_Qi (s_WM cy ad) G (s_A ad 12 s.heap.size) re σe) args s 0 0 (s_A ad 12 s.heap.size)) (F0 m 142 ls [.int y0]) := by
  obtain ⟨hx, hb, hr, hml, hown, hts, hlk, hK, hE, hI⟩ := id C
  have hD : ∀ σ : Sg, va_D (s_A ad 12 s.heap.size) ((s_WM cy ad) σ) := fun σ => s_D (s_WM_ad cy ad σ) hI (fun k hk => Or.inl ⟨k, hk, rfl⟩)
  unfold fX7_above_b142 at hf
  refine lv_istore (lv' := [(4, .int y0), (0, .ref (ad 0)), (1, .int x1), (2, .int x2), (3, .int x3), (5, .int x5), (6, .int x6), (7, .int x7), (8, .int x8), (9, .int x9)]) hx hb dX7_above_142 hl (by decide) rfl (fun ls hl => ?_)
  refine lv_iload hx hb dX7_above_144 (lv_at hl 9 rfl) ?_
  refine lv_if_eq (tgt := 154) hx hb dX7_above_146 (by decide) (fun c1 => ?_) (fun c1 => ?_)
  · rw [if_pos c1] at hf
    refine lv_iload hx hb dX7_above_154 (lv_at hl 5 rfl) ?_
    exact kX7_above_b156 C k37 hk37 σ x1 x2 x3 y0 x6 x7 x8 x5 _ _ _ (lv_sub hl [1, 2, 3, 4, 0, 6, 7, 8] rfl) hP hS hf
  · rw [if_neg c1] at hf
    refine lv_iload hx hb dX7_above_149 (lv_at hl 8 rfl) ?_
    refine lv_goto (tgt := 156) hx hb dX7_above_151 (by decide) ?_
    exact kX7_above_b156 C k37 hk37 σ x1 x2 x3 y0 x6 x7 x8 x8 _ _ _ (lv_sub hl [1, 2, 3, 4, 0, 6, 7, 8] rfl) hP hS hf
set_option maxRecDepth 100000 in
set_option maxHeartbeats 4000000 in
theorem kX7_above_b140 (C : s_X p s m meth c args cX7_above (some .int) 10 RX7 G cy sa ad 12) (k37 : Sg → Int32 → Int32 → Int32 → Int32 → Int32 → Int32 → Int32 → Int32 → Option (Int32 × Sg)) (hk37 : ∀ (σ : Sg) (x1 : Int32) (x2 : Int32) (x3 : Int32) (x4 : Int32) (x5 : Int32) (x6 : Int32) (x7 : Int32) (x8 : Int32) (ls : Array Slot) (H : Heap) (locs : List Loc), lv_has ls 10 [(0, .ref (ad 0)), (1, .int x1), (2, .int x2), (3, .int x3), (4, .int x4), (5, .int x5), (6, .int x6), (7, .int x7), (8, .int x8)] → va_P G vwCl ((s_WM cy ad) σ) H → va_S (s_A ad 12 s.heap.size) s.heap H locs → k37 σ x1 x2 x3 x4 x5 x6 x7 x8 = some (re, σe) → W p l e ({ frames := 3, cells := 0, slots := 0, locals := 72 } : Room) s m args below meth c H locs 0 0 (MQ below (s_Qi (s_WM cy ad) G (s_A ad 12 s.heap.size) re σe) args s 0 0 (s_A ad 12 s.heap.size)) (F0 m 37 ls [])) (σ : Sg) (x1 : Int32) (x2 : Int32) (x3 : Int32) (x4 : Int32) (x5 : Int32) (x6 : Int32) (x7 : Int32) (x8 : Int32) (x9 : Int32) (ls : Array Slot) (H : Heap) (locs : List Loc) (hl : lv_has ls 10 [(0, .ref (ad 0)), (1, .int x1), (2, .int x2), (3, .int x3), (4, .int x4), (5, .int x5), (6, .int x6), (7, .int x7), (8, .int x8), (9, .int x9)]) (hP : va_P G vwCl ((s_WM cy ad) σ) H) (hS : va_S (s_A ad 12 s.heap.size) s.heap H locs) (hf : fX7_above_b140 k37 σ x1 x2 x3 x4 x5 x6 x7 x8 x9 = some (re, σe)) : W p l e ({ frames := 3, cells := 0, slots := 0, locals := 72 } : Room) s m args below meth c H locs 0 0 (MQ below (s_Qi (s_WM cy ad) G (s_A ad 12 s.heap.size) re σe) args s 0 0 (s_A ad 12 s.heap.size)) (F0 m 140 ls []) := by
  obtain ⟨hx, hb, hr, hml, hown, hts, hlk, hK, hE, hI⟩ := id C
  have hD : ∀ σ : Sg, va_D (s_A ad 12 s.heap.size) ((s_WM cy ad) σ) := fun σ => s_D (s_WM_ad cy ad σ) hI (fun k hk => Or.inl ⟨k, hk, rfl⟩)
  unfold fX7_above_b140 at hf
  refine lv_iload hx hb dX7_above_140 (lv_at hl 4 rfl) ?_
  exact kX7_above_b142 C k37 hk37 σ x1 x2 x3 x5 x6 x7 x8 x9 x4 _ _ _ (lv_sub hl [0, 1, 2, 3, 5, 6, 7, 8, 9] rfl) hP hS hf
set_option maxRecDepth 100000 in
set_option maxHeartbeats 4000000 in
theorem kX7_above_b121 (C : s_X p s m meth c args cX7_above (some .int) 10 RX7 G cy sa ad 12) (k37 : Sg → Int32 → Int32 → Int32 → Int32 → Int32 → Int32 → Int32 → Int32 → Option (Int32 × Sg)) (hk37 : ∀ (σ : Sg) (x1 : Int32) (x2 : Int32) (x3 : Int32) (x4 : Int32) (x5 : Int32) (x6 : Int32) (x7 : Int32) (x8 : Int32) (ls : Array Slot) (H : Heap) (locs : List Loc), lv_has ls 10 [(0, .ref (ad 0)), (1, .int x1), (2, .int x2), (3, .int x3), (4, .int x4), (5, .int x5), (6, .int x6), (7, .int x7), (8, .int x8)] → va_P G vwCl ((s_WM cy ad) σ) H → va_S (s_A ad 12 s.heap.size) s.heap H locs → k37 σ x1 x2 x3 x4 x5 x6 x7 x8 = some (re, σe) → W p l e ({ frames := 3, cells := 0, slots := 0, locals := 72 } : Room) s m args below meth c H locs 0 0 (MQ below (s_Qi (s_WM cy ad) G (s_A ad 12 s.heap.size) re σe) args s 0 0 (s_A ad 12 s.heap.size)) (F0 m 37 ls [])) (σ : Sg) (x1 : Int32) (x2 : Int32) (x4 : Int32) (x5 : Int32) (x6 : Int32) (x7 : Int32) (x8 : Int32) (x9 : Int32) (y0 : Int32) (y1 : Int32) (ls : Array Slot) (H : Heap) (locs : List Loc) (hl : lv_has ls 10 [(0, .ref (ad 0)), (1, .int x1), (2, .int x2), (4, .int x4), (5, .int x5), (6, .int x6), (7, .int x7), (8, .int x8), (9, .int x9)]) (hP : va_P G vwCl ((s_WM cy ad) σ) H) (hS : va_S (s_A ad 12 s.heap.size) s.heap H locs) (hf : fX7_above_b121 k37 σ x1 x2 x4 x5 x6 x7 x8 x9 y0 y1 = some (re, σe)) : W p l e ({ frames := 3, cells := 0, slots := 0, locals := 72 } : Room) s m args below meth c H locs 0 0 (MQ below (s_Qi (s_WM cy ad) G (s_A ad 12 s.heap.size) re σe) args s 0 0 (s_A ad 12 s.heap.size)) (F0 m 121 ls [.int y1, .int y0]) := by
  obtain ⟨hx, hb, hr, hml, hown, hts, hlk, hK, hE, hI⟩ := id C
  have hD : ∀ σ : Sg, va_D (s_A ad 12 s.heap.size) ((s_WM cy ad) σ) := fun σ => s_D (s_WM_ad cy ad σ) hI (fun k hk => Or.inl ⟨k, hk, rfl⟩)
  unfold fX7_above_b121 at hf
  refine lv_iadd hx hb dX7_above_121 ?_
  refine lv_topi (fun t1 et1 => ?_)
  replace hf := s_lt_at et1 hf
  refine lv_istore_n (lv' := [(3, .int t1), (0, .ref (ad 0)), (1, .int x1), (2, .int x2), (4, .int x4), (5, .int x5), (6, .int x6), (7, .int x7), (8, .int x8), (9, .int x9)]) hx hb dX7_above_122 rfl hl (by decide) rfl (fun ls hl => ?_)
  refine lv_iload hx hb dX7_above_123 (lv_at hl 9 rfl) ?_
  refine lv_if_eq (tgt := 140) hx hb dX7_above_125 (by decide) (fun c2 => ?_) (fun c2 => ?_)
  · rw [if_pos c2] at hf
    exact kX7_above_b140 C k37 hk37 σ x1 x2 t1 x4 x5 x6 x7 x8 x9 _ _ _ (lv_sub hl [1, 2, 3, 0, 4, 5, 6, 7, 8, 9] rfl) hP hS hf
  · rw [if_neg c2] at hf
    refine lv_iload hx hb dX7_above_128 (lv_at hl 4 rfl) ?_
    refine lv_bipush (v := -4) hx hb dX7_above_130 (by decide) ?_
    refine lv_icmp_ne (tgt := 140) hx hb dX7_above_132 (by decide) (fun c3 => ?_) (fun c3 => ?_)
    · rw [if_neg c3] at hf
      exact kX7_above_b140 C k37 hk37 σ x1 x2 t1 x4 x5 x6 x7 x8 x9 _ _ _ (lv_sub hl [1, 2, 3, 0, 4, 5, 6, 7, 8, 9] rfl) hP hS hf
    · rw [if_pos c3] at hf
      refine lv_iload hx hb dX7_above_135 (lv_at hl 8 rfl) ?_
      refine lv_goto (tgt := 142) hx hb dX7_above_137 (by decide) ?_
      exact kX7_above_b142 C k37 hk37 σ x1 x2 t1 x5 x6 x7 x8 x9 x8 _ _ _ (lv_sub hl [1, 2, 3, 0, 5, 6, 7, 8, 9] rfl) hP hS hf
set_option maxRecDepth 100000 in
set_option maxHeartbeats 4000000 in
theorem kX7_above_b108 (C : s_X p s m meth c args cX7_above (some .int) 10 RX7 G cy sa ad 12) (k37 : Sg → Int32 → Int32 → Int32 → Int32 → Int32 → Int32 → Int32 → Int32 → Option (Int32 × Sg)) (hk37 : ∀ (σ : Sg) (x1 : Int32) (x2 : Int32) (x3 : Int32) (x4 : Int32) (x5 : Int32) (x6 : Int32) (x7 : Int32) (x8 : Int32) (ls : Array Slot) (H : Heap) (locs : List Loc), lv_has ls 10 [(0, .ref (ad 0)), (1, .int x1), (2, .int x2), (3, .int x3), (4, .int x4), (5, .int x5), (6, .int x6), (7, .int x7), (8, .int x8)] → va_P G vwCl ((s_WM cy ad) σ) H → va_S (s_A ad 12 s.heap.size) s.heap H locs → k37 σ x1 x2 x3 x4 x5 x6 x7 x8 = some (re, σe) → W p l e ({ frames := 3, cells := 0, slots := 0, locals := 72 } : Room) s m args below meth c H locs 0 0 (MQ below (s_Qi (s_WM cy ad) G (s_A ad 12 s.heap.size) re σe) args s 0 0 (s_A ad 12 s.heap.size)) (F0 m 37 ls [])) (σ : Sg) (x1 : Int32) (x2 : Int32) (x3 : Int32) (x4 : Int32) (x5 : Int32) (x6 : Int32) (x8 : Int32) (x9 : Int32) (y0 : Int32) (ls : Array Slot) (H : Heap) (locs : List Loc) (hl : lv_has ls 10 [(0, .ref (ad 0)), (1, .int x1), (2, .int x2), (3, .int x3), (4, .int x4), (5, .int x5), (6, .int x6), (8, .int x8), (9, .int x9)]) (hP : va_P G vwCl ((s_WM cy ad) σ) H) (hS : va_S (s_A ad 12 s.heap.size) s.heap H locs) (hf : fX7_above_b108 k37 σ x1 x2 x3 x4 x5 x6 x8 x9 y0 = some (re, σe)) : W p l e ({ frames := 3, cells := 0, slots := 0, locals := 72 } : Room) s m args below meth c H locs 0 0 (MQ below (s_Qi (s_WM cy ad) G (s_A ad 12 s.heap.size) re σe) args s 0 0 (s_A ad 12 s.heap.size)) (F0 m 108 ls [.int y0]) := by
  obtain ⟨hx, hb, hr, hml, hown, hts, hlk, hK, hE, hI⟩ := id C
  have hD : ∀ σ : Sg, va_D (s_A ad 12 s.heap.size) ((s_WM cy ad) σ) := fun σ => s_D (s_WM_ad cy ad σ) hI (fun k hk => Or.inl ⟨k, hk, rfl⟩)
  unfold fX7_above_b108 at hf
  refine lv_istore (lv' := [(7, .int y0), (0, .ref (ad 0)), (1, .int x1), (2, .int x2), (3, .int x3), (4, .int x4), (5, .int x5), (6, .int x6), (8, .int x8), (9, .int x9)]) hx hb dX7_above_108 hl (by decide) rfl (fun ls hl => ?_)
  refine lv_iload_n hx hb dX7_above_110 rfl (lv_at hl 4 rfl) ?_
  refine lv_iload hx hb dX7_above_111 (lv_at hl 9 rfl) ?_
  refine lv_if_eq (tgt := 120) hx hb dX7_above_113 (by decide) (fun c1 => ?_) (fun c1 => ?_)
  · rw [if_pos c1] at hf
    refine lv_iconst (v := 0) hx hb dX7_above_120 (by decide) ?_
    exact kX7_above_b121 C k37 hk37 σ x1 x2 x4 x5 x6 y0 x8 x9 x3 (0 : Int32) _ _ _ (lv_sub hl [1, 2, 3, 5, 6, 7, 0, 8, 9] rfl) hP hS hf
  · rw [if_neg c1] at hf
    refine lv_iconst (v := 1) hx hb dX7_above_116 (by decide) ?_
    refine lv_goto (tgt := 121) hx hb dX7_above_117 (by decide) ?_
    exact kX7_above_b121 C k37 hk37 σ x1 x2 x4 x5 x6 y0 x8 x9 x3 (1 : Int32) _ _ _ (lv_sub hl [1, 2, 3, 5, 6, 7, 0, 8, 9] rfl) hP hS hf
set_option maxRecDepth 100000 in
set_option maxHeartbeats 4000000 in
theorem kX7_above_b92 (C : s_X p s m meth c args cX7_above (some .int) 10 RX7 G cy sa ad 12) (k37 : Sg → Int32 → Int32 → Int32 → Int32 → Int32 → Int32 → Int32 → Int32 → Option (Int32 × Sg)) (hk37 : ∀ (σ : Sg) (x1 : Int32) (x2 : Int32) (x3 : Int32) (x4 : Int32) (x5 : Int32) (x6 : Int32) (x7 : Int32) (x8 : Int32) (ls : Array Slot) (H : Heap) (locs : List Loc), lv_has ls 10 [(0, .ref (ad 0)), (1, .int x1), (2, .int x2), (3, .int x3), (4, .int x4), (5, .int x5), (6, .int x6), (7, .int x7), (8, .int x8)] → va_P G vwCl ((s_WM cy ad) σ) H → va_S (s_A ad 12 s.heap.size) s.heap H locs → k37 σ x1 x2 x3 x4 x5 x6 x7 x8 = some (re, σe) → W p l e ({ frames := 3, cells := 0, slots := 0, locals := 72 } : Room) s m args below meth c H locs 0 0 (MQ below (s_Qi (s_WM cy ad) G (s_A ad 12 s.heap.size) re σe) args s 0 0 (s_A ad 12 s.heap.size)) (F0 m 37 ls [])) (σ : Sg) (x1 : Int32) (x2 : Int32) (x3 : Int32) (x4 : Int32) (x5 : Int32) (x7 : Int32) (x8 : Int32) (x9 : Int32) (y0 : Int32) (ls : Array Slot) (H : Heap) (locs : List Loc) (hl : lv_has ls 10 [(0, .ref (ad 0)), (1, .int x1), (2, .int x2), (3, .int x3), (4, .int x4), (5, .int x5), (7, .int x7), (8, .int x8), (9, .int x9)]) (hP : va_P G vwCl ((s_WM cy ad) σ) H) (hS : va_S (s_A ad 12 s.heap.size) s.heap H locs) (hf : fX7_above_b92 k37 σ x1 x2 x3 x4 x5 x7 x8 x9 y0 = some (re, σe)) : W p l e ({ frames := 3, cells := 0, slots := 0, locals := 72 } : Room) s m args below meth c H locs 0 0 (MQ below (s_Qi (s_WM cy ad) G (s_A ad 12 s.heap.size) re σe) args s 0 0 (s_A ad 12 s.heap.size)) (F0 m 92 ls [.int y0]) := by
  obtain ⟨hx, hb, hr, hml, hown, hts, hlk, hK, hE, hI⟩ := id C
  have hD : ∀ σ : Sg, va_D (s_A ad 12 s.heap.size) ((s_WM cy ad) σ) := fun σ => s_D (s_WM_ad cy ad σ) hI (fun k hk => Or.inl ⟨k, hk, rfl⟩)
  unfold fX7_above_b92 at hf
  refine lv_istore (lv' := [(6, .int y0), (0, .ref (ad 0)), (1, .int x1), (2, .int x2), (3, .int x3), (4, .int x4), (5, .int x5), (7, .int x7), (8, .int x8), (9, .int x9)]) hx hb dX7_above_92 hl (by decide) rfl (fun ls hl => ?_)
  refine lv_iload hx hb dX7_above_94 (lv_at hl 0 rfl) ?_
  refine lv_iload hx hb dX7_above_96 (lv_at hl 7 rfl) ?_
  refine lv_icmp_le (tgt := 106) hx hb dX7_above_98 (by decide) (fun c1 => ?_) (fun c1 => ?_)
  · rw [if_pos c1] at hf
    refine lv_iload hx hb dX7_above_106 (lv_at hl 7 rfl) ?_
    exact kX7_above_b108 C k37 hk37 σ x1 x2 x3 x4 x5 y0 x8 x9 x7 _ _ _ (lv_sub hl [1, 2, 3, 4, 5, 6, 0, 8, 9] rfl) hP hS hf
  · rw [if_neg c1] at hf
    refine lv_iload hx hb dX7_above_101 (lv_at hl 0 rfl) ?_
    refine lv_goto (tgt := 108) hx hb dX7_above_103 (by decide) ?_
    exact kX7_above_b108 C k37 hk37 σ x1 x2 x3 x4 x5 y0 x8 x9 y0 _ _ _ (lv_sub hl [1, 2, 3, 4, 5, 6, 0, 8, 9] rfl) hP hS hf
set_option maxRecDepth 100000 in
set_option maxHeartbeats 4000000 in
theorem kX7_above_b77 (C : s_X p s m meth c args cX7_above (some .int) 10 RX7 G cy sa ad 12) (k37 : Sg → Int32 → Int32 → Int32 → Int32 → Int32 → Int32 → Int32 → Int32 → Option (Int32 × Sg)) (hk37 : ∀ (σ : Sg) (x1 : Int32) (x2 : Int32) (x3 : Int32) (x4 : Int32) (x5 : Int32) (x6 : Int32) (x7 : Int32) (x8 : Int32) (ls : Array Slot) (H : Heap) (locs : List Loc), lv_has ls 10 [(0, .ref (ad 0)), (1, .int x1), (2, .int x2), (3, .int x3), (4, .int x4), (5, .int x5), (6, .int x6), (7, .int x7), (8, .int x8)] → va_P G vwCl ((s_WM cy ad) σ) H → va_S (s_A ad 12 s.heap.size) s.heap H locs → k37 σ x1 x2 x3 x4 x5 x6 x7 x8 = some (re, σe) → W p l e ({ frames := 3, cells := 0, slots := 0, locals := 72 } : Room) s m args below meth c H locs 0 0 (MQ below (s_Qi (s_WM cy ad) G (s_A ad 12 s.heap.size) re σe) args s 0 0 (s_A ad 12 s.heap.size)) (F0 m 37 ls [])) (σ : Sg) (x1 : Int32) (x2 : Int32) (x3 : Int32) (x4 : Int32) (x5 : Int32) (x6 : Int32) (x7 : Int32) (x8 : Int32) (y0 : Int32) (ls : Array Slot) (H : Heap) (locs : List Loc) (hl : lv_has ls 10 [(0, .ref (ad 0)), (1, .int x1), (2, .int x2), (3, .int x3), (4, .int x4), (5, .int x5), (6, .int x6), (7, .int x7), (8, .int x8)]) (hP : va_P G vwCl ((s_WM cy ad) σ) H) (hS : va_S (s_A ad 12 s.heap.size) s.heap H locs) (hf : fX7_above_b77 k37 σ x1 x2 x3 x4 x5 x6 x7 x8 y0 = some (re, σe)) : W p l e ({ frames := 3, cells := 0, slots := 0, locals := 72 } : Room) s m args below meth c H locs 0 0 (MQ below (s_Qi (s_WM cy ad) G (s_A ad 12 s.heap.size) re σe) args s 0 0 (s_A ad 12 s.heap.size)) (F0 m 77 ls [.int y0]) := by
  obtain ⟨hx, hb, hr, hml, hown, hts, hlk, hK, hE, hI⟩ := id C
  have hD : ∀ σ : Sg, va_D (s_A ad 12 s.heap.size) ((s_WM cy ad) σ) := fun σ => s_D (s_WM_ad cy ad σ) hI (fun k hk => Or.inl ⟨k, hk, rfl⟩)
  unfold fX7_above_b77 at hf
  refine lv_istore (lv' := [(9, .int y0), (0, .ref (ad 0)), (1, .int x1), (2, .int x2), (3, .int x3), (4, .int x4), (5, .int x5), (6, .int x6), (7, .int x7), (8, .int x8)]) hx hb dX7_above_77 hl (by decide) rfl (fun ls hl => ?_)
  refine lv_iload hx hb dX7_above_79 (lv_at hl 0 rfl) ?_
  refine lv_if_eq (tgt := 91) hx hb dX7_above_81 (by decide) (fun c1 => ?_) (fun c1 => ?_)
  · rw [if_pos c1] at hf
    refine lv_iconst (v := 0) hx hb dX7_above_91 (by decide) ?_
    exact kX7_above_b92 C k37 hk37 σ x1 x2 x3 x4 x5 x7 x8 y0 (0 : Int32) _ _ _ (lv_sub hl [1, 2, 3, 4, 5, 6, 8, 9, 0] rfl) hP hS hf
  · rw [if_neg c1] at hf
    refine lv_iload hx hb dX7_above_84 (lv_at hl 7 rfl) ?_
    refine lv_iconst (v := 1) hx hb dX7_above_86 (by decide) ?_
    refine lv_iadd hx hb dX7_above_87 ?_
    refine lv_goto (tgt := 92) hx hb dX7_above_88 (by decide) ?_
    exact kX7_above_b92 C k37 hk37 σ x1 x2 x3 x4 x5 x7 x8 y0 (x6 + (1 : Int32)) _ _ _ (lv_sub hl [1, 2, 3, 4, 5, 6, 8, 9, 0] rfl) hP hS hf
set_option maxRecDepth 100000 in
set_option maxHeartbeats 4000000 in
theorem kX7_above_b76 (C : s_X p s m meth c args cX7_above (some .int) 10 RX7 G cy sa ad 12) (k37 : Sg → Int32 → Int32 → Int32 → Int32 → Int32 → Int32 → Int32 → Int32 → Option (Int32 × Sg)) (hk37 : ∀ (σ : Sg) (x1 : Int32) (x2 : Int32) (x3 : Int32) (x4 : Int32) (x5 : Int32) (x6 : Int32) (x7 : Int32) (x8 : Int32) (ls : Array Slot) (H : Heap) (locs : List Loc), lv_has ls 10 [(0, .ref (ad 0)), (1, .int x1), (2, .int x2), (3, .int x3), (4, .int x4), (5, .int x5), (6, .int x6), (7, .int x7), (8, .int x8)] → va_P G vwCl ((s_WM cy ad) σ) H → va_S (s_A ad 12 s.heap.size) s.heap H locs → k37 σ x1 x2 x3 x4 x5 x6 x7 x8 = some (re, σe) → W p l e ({ frames := 3, cells := 0, slots := 0, locals := 72 } : Room) s m args below meth c H locs 0 0 (MQ below (s_Qi (s_WM cy ad) G (s_A ad 12 s.heap.size) re σe) args s 0 0 (s_A ad 12 s.heap.size)) (F0 m 37 ls [])) (σ : Sg) (x1 : Int32) (x2 : Int32) (x3 : Int32) (x4 : Int32) (x5 : Int32) (x6 : Int32) (x7 : Int32) (x8 : Int32) (ls : Array Slot) (H : Heap) (locs : List Loc) (hl : lv_has ls 10 [(0, .ref (ad 0)), (1, .int x1), (2, .int x2), (3, .int x3), (4, .int x4), (5, .int x5), (6, .int x6), (7, .int x7), (8, .int x8)]) (hP : va_P G vwCl ((s_WM cy ad) σ) H) (hS : va_S (s_A ad 12 s.heap.size) s.heap H locs) (hf : fX7_above_b76 k37 σ x1 x2 x3 x4 x5 x6 x7 x8 = some (re, σe)) : W p l e ({ frames := 3, cells := 0, slots := 0, locals := 72 } : Room) s m args below meth c H locs 0 0 (MQ below (s_Qi (s_WM cy ad) G (s_A ad 12 s.heap.size) re σe) args s 0 0 (s_A ad 12 s.heap.size)) (F0 m 76 ls []) := by
  obtain ⟨hx, hb, hr, hml, hown, hts, hlk, hK, hE, hI⟩ := id C
  have hD : ∀ σ : Sg, va_D (s_A ad 12 s.heap.size) ((s_WM cy ad) σ) := fun σ => s_D (s_WM_ad cy ad σ) hI (fun k hk => Or.inl ⟨k, hk, rfl⟩)
  unfold fX7_above_b76 at hf
  refine lv_iconst (v := 0) hx hb dX7_above_76 (by decide) ?_
  exact kX7_above_b77 C k37 hk37 σ x1 x2 x3 x4 x5 x6 x7 x8 (0 : Int32) _ _ _ (lv_sub hl [0, 1, 2, 3, 4, 5, 6, 7, 8] rfl) hP hS hf
set_option maxRecDepth 100000 in
set_option maxHeartbeats 4000000 in
theorem kX7_above_b37 (C : s_X p s m meth c args cX7_above (some .int) 10 RX7 G cy sa ad 12) (k37 : Sg → Int32 → Int32 → Int32 → Int32 → Int32 → Int32 → Int32 → Int32 → Option (Int32 × Sg)) (hk37 : ∀ (σ : Sg) (x1 : Int32) (x2 : Int32) (x3 : Int32) (x4 : Int32) (x5 : Int32) (x6 : Int32) (x7 : Int32) (x8 : Int32) (ls : Array Slot) (H : Heap) (locs : List Loc), lv_has ls 10 [(0, .ref (ad 0)), (1, .int x1), (2, .int x2), (3, .int x3), (4, .int x4), (5, .int x5), (6, .int x6), (7, .int x7), (8, .int x8)] → va_P G vwCl ((s_WM cy ad) σ) H → va_S (s_A ad 12 s.heap.size) s.heap H locs → k37 σ x1 x2 x3 x4 x5 x6 x7 x8 = some (re, σe) → W p l e ({ frames := 3, cells := 0, slots := 0, locals := 72 } : Room) s m args below meth c H locs 0 0 (MQ below (s_Qi (s_WM cy ad) G (s_A ad 12 s.heap.size) re σe) args s 0 0 (s_A ad 12 s.heap.size)) (F0 m 37 ls [])) (σ : Sg) (x1 : Int32) (x2 : Int32) (x3 : Int32) (x4 : Int32) (x5 : Int32) (x6 : Int32) (x7 : Int32) (x8 : Int32) (ls : Array Slot) (H : Heap) (locs : List Loc) (hl : lv_has ls 10 [(0, .ref (ad 0)), (1, .int x1), (2, .int x2), (3, .int x3), (4, .int x4), (5, .int x5), (6, .int x6), (7, .int x7), (8, .int x8)]) (hP : va_P G vwCl ((s_WM cy ad) σ) H) (hS : va_S (s_A ad 12 s.heap.size) s.heap H locs) (hf : fX7_above_b37 k37 σ x1 x2 x3 x4 x5 x6 x7 x8 = some (re, σe)) : W p l e ({ frames := 3, cells := 0, slots := 0, locals := 72 } : Room) s m args below meth c H locs 0 0 (MQ below (s_Qi (s_WM cy ad) G (s_A ad 12 s.heap.size) re σe) args s 0 0 (s_A ad 12 s.heap.size)) (F0 m 37 ls []) := by
  obtain ⟨hx, hb, hr, hml, hown, hts, hlk, hK, hE, hI⟩ := id C
  have hD : ∀ σ : Sg, va_D (s_A ad 12 s.heap.size) ((s_WM cy ad) σ) := fun σ => s_D (s_WM_ad cy ad σ) hI (fun k hk => Or.inl ⟨k, hk, rfl⟩)
  unfold fX7_above_b37 at hf
  refine lv_iload hx hb dX7_above_37 (lv_at hl 8 rfl) ?_
  refine lv_aload_n hx hb dX7_above_39 rfl (lv_at hl 0 rfl) ?_
  replace hf := s_bi_some hf
  obtain ⟨r3, σ1, hz2, hf⟩ := hf
  refine s_calli (nn := 0) C (kcX7_many (l := l) (G := G) (cy := cy) (sa := sa) hI (sz := H.size) σ hz2) gk_X7_141 rfl rfl (by decide +kernel) ⟨Nat.le_of_ble_eq_true rfl, Nat.le_of_ble_eq_true rfl⟩ hP hS (q0 := 0) (ci := 7) rfl rfl rfl (As := []) (rest := [.int x8]) rfl rfl hl.1 (Nat.le_of_ble_eq_true rfl) dX7_above_40 (fun H locs hP hS => ?_)
  refine lv_icmp_ge (tgt := 164) hx hb dX7_above_43 (by decide) (fun c4 => ?_) (fun c4 => ?_)
  · rw [if_pos c4] at hf
    refine lv_iload_n hx hb dX7_above_164 rfl (lv_at hl 2 rfl) ?_
    refine lv_if_ne (tgt := 172) hx hb dX7_above_165 (by decide) (fun c5 => ?_) (fun c5 => ?_)
    · rw [if_neg c5] at hf
      refine lv_iload_n hx hb dX7_above_172 rfl (lv_at hl 2 rfl) ?_
      refine lv_iconst (v := 1) hx hb dX7_above_173 (by decide) ?_
      refine lv_icmp_ne (tgt := 182) hx hb dX7_above_174 (by decide) (fun c6 => ?_) (fun c6 => ?_)
      · rw [if_neg c6] at hf
        refine lv_iload_n hx hb dX7_above_182 rfl (lv_at hl 2 rfl) ?_
        refine lv_iconst (v := 2) hx hb dX7_above_183 (by decide) ?_
        refine lv_icmp_ne (tgt := 192) hx hb dX7_above_184 (by decide) (fun c7 => ?_) (fun c7 => ?_)
        · rw [if_neg c7] at hf
          refine lv_iload hx hb dX7_above_192 (lv_at hl 7 rfl) ?_
          obtain ⟨he1, he2⟩ := s_ret hf
          exact W.iret hx hb hr (fun t ht hW => ⟨⟨_, (), rfl, he1, s_fin (Wd := (s_WM cy ad)) ht he2 hP⟩, hS.F ht⟩) hS.2.2 dX7_above_194 hlk
        · rw [if_pos c7] at hf
          refine lv_iload hx hb dX7_above_187 (lv_at hl 5 rfl) ?_
          refine lv_goto (tgt := 194) hx hb dX7_above_189 (by decide) ?_
          obtain ⟨he1, he2⟩ := s_ret hf
          exact W.iret hx hb hr (fun t ht hW => ⟨⟨_, (), rfl, he1, s_fin (Wd := (s_WM cy ad)) ht he2 hP⟩, hS.F ht⟩) hS.2.2 dX7_above_194 hlk
      · rw [if_pos c6] at hf
        refine lv_iload hx hb dX7_above_177 (lv_at hl 4 rfl) ?_
        refine lv_goto (tgt := 194) hx hb dX7_above_179 (by decide) ?_
        obtain ⟨he1, he2⟩ := s_ret hf
        exact W.iret hx hb hr (fun t ht hW => ⟨⟨_, (), rfl, he1, s_fin (Wd := (s_WM cy ad)) ht he2 hP⟩, hS.F ht⟩) hS.2.2 dX7_above_194 hlk
    · rw [if_pos c5] at hf
      refine lv_iload_n hx hb dX7_above_168 rfl (lv_at hl 3 rfl) ?_
      refine lv_goto (tgt := 194) hx hb dX7_above_169 (by decide) ?_
      obtain ⟨he1, he2⟩ := s_ret hf
      exact W.iret hx hb hr (fun t ht hW => ⟨⟨_, (), rfl, he1, s_fin (Wd := (s_WM cy ad)) ht he2 hP⟩, hS.F ht⟩) hS.2.2 dX7_above_194 hlk
  · rw [if_neg c4] at hf
    refine lv_aload_n hx hb dX7_above_46 rfl (lv_at hl 0 rfl) ?_
    refine lv_iload hx hb dX7_above_47 (lv_at hl 8 rfl) ?_
    replace hf := s_bi_some hf
    obtain ⟨r10, σ8, hz9, hf⟩ := hf
    refine s_calli (nn := 1) C (kcX7_isResult (l := l) (G := G) (cy := cy) (sa := sa) hI (sz := H.size) σ1 x8 hz9) gk_X7_168 rfl rfl (by decide +kernel) ⟨Nat.le_of_ble_eq_true rfl, Nat.le_of_ble_eq_true rfl⟩ hP hS (q0 := 0) (ci := 7) rfl rfl rfl (As := [.int x8]) (rest := []) rfl rfl hl.1 (Nat.le_of_ble_eq_true rfl) dX7_above_49 (fun H locs hP hS => ?_)
    refine lv_if_eq (tgt := 76) hx hb dX7_above_52 (by decide) (fun c11 => ?_) (fun c11 => ?_)
    · rw [if_pos c11] at hf
      exact kX7_above_b76 C k37 hk37 σ8 x1 x2 x3 x4 x5 x6 x7 x8 _ _ _ (lv_sub hl [0, 1, 2, 3, 4, 5, 6, 7, 8] rfl) hP hS hf
    · rw [if_neg c11] at hf
      refine lv_aload_n hx hb dX7_above_55 rfl (lv_at hl 0 rfl) ?_
      refine va_get (D := G) (ci := 7) (v := .int (σ8 0 19)) (C := RX7) (T := TX7) (N := 28) hx hb hts inkX7 hown hK hP 0 rfl rfl 19 (by decide) (hts _ kw_801) (fun _ h9 => h9) rfl dX7_above_56 ?_
      refine lv_i2l (v := (Int32.toInt64 (σ8 0 19))) hx hb dX7_above_59 rfl ?_
      refine lv_iload_n hx hb dX7_above_60 rfl (lv_at hl 1 rfl) ?_
      refine lv_i2l (v := (Int32.toInt64 x1)) hx hb dX7_above_61 rfl ?_
      refine lv_aload_n hx hb dX7_above_62 rfl (lv_at hl 0 rfl) ?_
      refine va_get (D := G) (ci := 7) (v := .int (σ8 0 20)) (C := RX7) (T := TX7) (N := 28) hx hb hts inkX7 hown hK hP 0 rfl rfl 20 (by decide) (hts _ kw_802) (fun _ h9 => h9) rfl dX7_above_63 ?_
      refine lv_i2l (v := (Int32.toInt64 (σ8 0 20))) hx hb dX7_above_66 rfl ?_
      refine lv_lmul hx hb dX7_above_67 ?_
      refine W.lcmp hx hb dX7_above_68 ?_
      refine lv_if_le (tgt := 76) hx hb dX7_above_69 (by decide) (fun c12 => ?_) (fun c12 => ?_)
      · rw [if_pos c12] at hf
        exact kX7_above_b76 C k37 hk37 σ8 x1 x2 x3 x4 x5 x6 x7 x8 _ _ _ (lv_sub hl [0, 1, 2, 3, 4, 5, 6, 7, 8] rfl) hP hS hf
      · rw [if_neg c12] at hf
        refine lv_iconst (v := 1) hx hb dX7_above_72 (by decide) ?_
        refine lv_goto (tgt := 77) hx hb dX7_above_73 (by decide) ?_
        exact kX7_above_b77 C k37 hk37 σ8 x1 x2 x3 x4 x5 x6 x7 x8 (1 : Int32) _ _ _ (lv_sub hl [0, 1, 2, 3, 4, 5, 6, 7, 8] rfl) hP hS hf
set_option maxRecDepth 100000 in
set_option maxHeartbeats 4000000 in
theorem kX7_above_b37_L (C : s_X p s m meth c args cX7_above (some .int) 10 RX7 G cy sa ad 12) : ∀ (n : Nat), ∀ (σ : Sg) (x1 : Int32) (x2 : Int32) (x3 : Int32) (x4 : Int32) (x5 : Int32) (x6 : Int32) (x7 : Int32) (x8 : Int32) (ls : Array Slot) (H : Heap) (locs : List Loc), lv_has ls 10 [(0, .ref (ad 0)), (1, .int x1), (2, .int x2), (3, .int x3), (4, .int x4), (5, .int x5), (6, .int x6), (7, .int x7), (8, .int x8)] → va_P G vwCl ((s_WM cy ad) σ) H → va_S (s_A ad 12 s.heap.size) s.heap H locs → fX7_above_b37_L n σ x1 x2 x3 x4 x5 x6 x7 x8 = some (re, σe) → W p l e ({ frames := 3, cells := 0, slots := 0, locals := 72 } : Room) s m args below meth c H locs 0 0 (MQ below (s_Qi (s_WM cy ad) G (s_A ad 12 s.heap.size) re σe) args s 0 0 (s_A ad 12 s.heap.size)) (F0 m 37 ls []) := by
  intro n
  induction n with
  | zero => intro σ x1 x2 x3 x4 x5 x6 x7 x8 ls H locs hl hP hS hf; exact absurd (show (none : Option (Int32 × Sg)) = some (re, σe) from hf) (by intro h; cases h)
  | succ n ih => intro σ x1 x2 x3 x4 x5 x6 x7 x8 ls H locs hl hP hS hf; exact kX7_above_b37 C (fX7_above_b37_L n) ih σ x1 x2 x3 x4 x5 x6 x7 x8 ls H locs hl hP hS hf
set_option maxRecDepth 100000 in
set_option maxHeartbeats 4000000 in
theorem kX7_above (C : s_X p s m meth c args cX7_above (some .int) 10 RX7 G cy sa ad 12) (σ : Sg) (x1 : Int32) (x2 : Int32) (ls : Array Slot) (H : Heap) (locs : List Loc) (hl : lv_has ls 10 [(0, .ref (ad 0)), (1, .int x1), (2, .int x2)]) (hP : va_P G vwCl ((s_WM cy ad) σ) H) (hS : va_S (s_A ad 12 s.heap.size) s.heap H locs) (hf : fX7_above σ x1 x2 = some (re, σe)) : W p l e ({ frames := 3, cells := 0, slots := 0, locals := 72 } : Room) s m args below meth c H locs 0 0 (MQ below (s_Qi (s_WM cy ad) G (s_A ad 12 s.heap.size) re σe) args s 0 0 (s_A ad 12 s.heap.size)) (F0 m 0 ls []) := by
  obtain ⟨hx, hb, hr, hml, hown, hts, hlk, hK, hE, hI⟩ := id C
  have hD : ∀ σ : Sg, va_D (s_A ad 12 s.heap.size) ((s_WM cy ad) σ) := fun σ => s_D (s_WM_ad cy ad σ) hI (fun k hk => Or.inl ⟨k, hk, rfl⟩)
  unfold fX7_above at hf
  refine lv_aload_n hx hb dX7_above_0 rfl (lv_at hl 0 rfl) ?_
  replace hf := s_bv_some hf
  obtain ⟨σ1, hz2, hf⟩ := hf
  refine s_callv (nn := 0) C (kcX7_starts (l := l) (G := G) (cy := cy) (sa := sa) hI (sz := H.size) σ hz2) gk_X7_128 rfl rfl (by decide +kernel) ⟨Nat.le_of_ble_eq_true rfl, Nat.le_of_ble_eq_true rfl⟩ hP hS (q0 := 0) (ci := 7) rfl rfl rfl (As := []) (rest := []) rfl rfl hl.1 (Nat.le_of_ble_eq_true rfl) dX7_above_1 (fun H locs hP hS => ?_)
  refine lv_iload_n hx hb dX7_above_4 rfl (lv_at hl 2 rfl) ?_
  refine lv_i2l (v := (Int32.toInt64 x2)) hx hb dX7_above_5 rfl ?_
  refine lv_lconst (v := 0) hx hb dX7_above_6 (by decide) ?_
  refine lv_ldc2 (v := 3) hx hb hown (hts _ kw_1050) dX7_above_7 ?_
  replace hf := s_bi_some hf
  obtain ⟨r5, σ3, hz4, hf⟩ := hf
  refine s_calliS (nn := 3) C (kcX7_in (l := l) (G := G) (cy := cy) (sa := sa) hI (sz := H.size) σ1 (Int32.toInt64 x2) (0 : Int64) (3 : Int64) hz4) gk_X7_54 rfl rfl (by decide +kernel) ⟨Nat.le_of_ble_eq_true rfl, Nat.le_of_ble_eq_true rfl⟩ hP hS (As := [.long (Int32.toInt64 x2), .long (0 : Int64), .long (3 : Int64)]) (rest := []) rfl rfl hl.1 (Nat.le_of_ble_eq_true rfl) dX7_above_10 (fun H locs hP hS => ?_)
  refine lv_if_ne (tgt := 18) hx hb dX7_above_13 (by decide) (fun c6 => ?_) (fun c6 => ?_)
  · rw [if_neg c6] at hf
    refine lv_iconst (v := 0) hx hb dX7_above_18 (by decide) ?_
    refine lv_istore_n (lv' := [(3, .int (0 : Int32)), (0, .ref (ad 0)), (1, .int x1), (2, .int x2)]) hx hb dX7_above_19 rfl hl (by decide) rfl (fun ls hl => ?_)
    refine lv_bipush (v := -4) hx hb dX7_above_20 (by decide) ?_
    refine lv_istore (lv' := [(4, .int (-4 : Int32)), (3, .int (0 : Int32)), (0, .ref (ad 0)), (1, .int x1), (2, .int x2)]) hx hb dX7_above_22 hl (by decide) rfl (fun ls hl => ?_)
    refine lv_bipush (v := -4) hx hb dX7_above_24 (by decide) ?_
    refine lv_istore (lv' := [(5, .int (-4 : Int32)), (4, .int (-4 : Int32)), (3, .int (0 : Int32)), (0, .ref (ad 0)), (1, .int x1), (2, .int x2)]) hx hb dX7_above_26 hl (by decide) rfl (fun ls hl => ?_)
    refine lv_iconst (v := 0) hx hb dX7_above_28 (by decide) ?_
    refine lv_istore (lv' := [(6, .int (0 : Int32)), (5, .int (-4 : Int32)), (4, .int (-4 : Int32)), (3, .int (0 : Int32)), (0, .ref (ad 0)), (1, .int x1), (2, .int x2)]) hx hb dX7_above_29 hl (by decide) rfl (fun ls hl => ?_)
    refine lv_iconst (v := 0) hx hb dX7_above_31 (by decide) ?_
    refine lv_istore (lv' := [(7, .int (0 : Int32)), (6, .int (0 : Int32)), (5, .int (-4 : Int32)), (4, .int (-4 : Int32)), (3, .int (0 : Int32)), (0, .ref (ad 0)), (1, .int x1), (2, .int x2)]) hx hb dX7_above_32 hl (by decide) rfl (fun ls hl => ?_)
    refine lv_iconst (v := 0) hx hb dX7_above_34 (by decide) ?_
    refine lv_istore (lv' := [(8, .int (0 : Int32)), (7, .int (0 : Int32)), (6, .int (0 : Int32)), (5, .int (-4 : Int32)), (4, .int (-4 : Int32)), (3, .int (0 : Int32)), (0, .ref (ad 0)), (1, .int x1), (2, .int x2)]) hx hb dX7_above_35 hl (by decide) rfl (fun ls hl => ?_)
    exact kX7_above_b37_L C s_fu σ3 x1 x2 (0 : Int32) (-4 : Int32) (-4 : Int32) (0 : Int32) (0 : Int32) (0 : Int32) _ _ _ (lv_sub hl [6, 7, 8, 5, 4, 3, 2, 1, 0] rfl) hP hS hf
  · rw [if_pos c6] at hf
    refine lv_iconst (v := -1) hx hb dX7_above_16 (by decide) ?_
    obtain ⟨he1, he2⟩ := s_ret hf
    exact W.iret hx hb hr (fun t ht hW => ⟨⟨_, (), rfl, he1, s_fin (Wd := (s_WM cy ad)) ht he2 hP⟩, hS.F ht⟩) hS.2.2 dX7_above_17 hlk
theorem kcX7_above {l : Launch} {G : va_G} {cy : Nat → ClassId} {sa : Nat × Nat} {ad : Nat → Nat}  {sz : Nat} (hI : s_inj ad 12) (σ : Sg) (x1 : Int32) (x2 : Int32) {re : Int32} {σe : Sg} (hf : fX7_above σ x1 x2 = some (re, σe)) : Met l yX7_above (kW yX7_above cX7_above 10 (some .int)) ({ frames := 3, cells := 0, slots := 0, locals := 72 } : Room) (s_P (s_WM cy ad) G cy sa ad 12 [.ref (ad 0), .int x1, .int x2] sz σ) (s_Qi (s_WM cy ad) G (s_A ad 12 sz) re σe) 0 0 (s_A ad 12 sz) := by
  refine s_met (own := RX7) (by decide) rfl hI (Nat.le_of_ble_eq_true rfl) (fun p e s m below meth c ls hsz C hP hl => ?_)
  subst hsz
  exact kX7_above C σ x1 x2 ls _ _ hl hP va_S.rf hf
set_option maxRecDepth 100000 in
set_option maxHeartbeats 4000000 in
theorem kX7_most_b104 (C : s_X p s m meth c args cX7_most (some .int) 6 RX7 G cy sa ad 12) (k24 : Sg → Int32 → Int32 → Int32 → Int32 → Option (Int32 × Sg)) (hk24 : ∀ (σ : Sg) (x1 : Int32) (x2 : Int32) (x3 : Int32) (x4 : Int32) (ls : Array Slot) (H : Heap) (locs : List Loc), lv_has ls 6 [(0, .ref (ad 0)), (1, .int x1), (2, .int x2), (3, .int x3), (4, .int x4)] → va_P G vwCl ((s_WM cy ad) σ) H → va_S (s_A ad 12 s.heap.size) s.heap H locs → k24 σ x1 x2 x3 x4 = some (re, σe) → W p l e ({ frames := 3, cells := 0, slots := 0, locals := 72 } : Room) s m args below meth c H locs 0 0 (MQ below (s_Qi (s_WM cy ad) G (s_A ad 12 s.heap.size) re σe) args s 0 0 (s_A ad 12 s.heap.size)) (F0 m 24 ls [])) (σ : Sg) (x1 : Int32) (x2 : Int32) (x3 : Int32) (x4 : Int32) (ls : Array Slot) (H : Heap) (locs : List Loc) (hl : lv_has ls 6 [(0, .ref (ad 0)), (1, .int x1), (2, .int x2), (3, .int x3), (4, .int x4)]) (hP : va_P G vwCl ((s_WM cy ad) σ) H) (hS : va_S (s_A ad 12 s.heap.size) s.heap H locs) (hf : fX7_most_b104 k24 σ x1 x2 x3 x4 = some (re, σe)) : W p l e ({ frames := 3, cells := 0, slots := 0, locals := 72 } : Room) s m args below meth c H locs 0 0 (MQ below (s_Qi (s_WM cy ad) G (s_A ad 12 s.heap.size) re σe) args s 0 0 (s_A ad 12 s.heap.size)) (F0 m 104 ls []) := by
  obtain ⟨hx, hb, hr, hml, hown, hts, hlk, hK, hE, hI⟩ := id C
  have hD : ∀ σ : Sg, va_D (s_A ad 12 s.heap.size) ((s_WM cy ad) σ) := fun σ => s_D (s_WM_ad cy ad σ) hI (fun k hk => Or.inl ⟨k, hk, rfl⟩)
  unfold fX7_most_b104 at hf
  obtain ⟨t1, et1⟩ : ∃ z : Int32, z = (x4 + 1) := ⟨_, rfl⟩
  replace hf := s_lt_at et1 hf
  refine lv_iinc (v := t1) (lv' := [(4, .int t1), (0, .ref (ad 0)), (1, .int x1), (2, .int x2), (3, .int x3)]) hx hb dX7_most_104 hl (k := 4) rfl (by rw [et1]; rfl) (by decide) rfl (fun ls hl => ?_)
  refine lv_goto (tgt := 24) hx hb dX7_most_107 (by decide) ?_
  exact hk24 σ x1 x2 x3 t1 _ _ _ (lv_sub hl [1, 2, 3, 4, 0] rfl) hP hS hf
set_option maxRecDepth 100000 in
set_option maxHeartbeats 4000000 in
theorem kX7_most_b103 (C : s_X p s m meth c args cX7_most (some .int) 6 RX7 G cy sa ad 12) (k24 : Sg → Int32 → Int32 → Int32 → Int32 → Option (Int32 × Sg)) (hk24 : ∀ (σ : Sg) (x1 : Int32) (x2 : Int32) (x3 : Int32) (x4 : Int32) (ls : Array Slot) (H : Heap) (locs : List Loc), lv_has ls 6 [(0, .ref (ad 0)), (1, .int x1), (2, .int x2), (3, .int x3), (4, .int x4)] → va_P G vwCl ((s_WM cy ad) σ) H → va_S (s_A ad 12 s.heap.size) s.heap H locs → k24 σ x1 x2 x3 x4 = some (re, σe) → W p l e ({ frames := 3, cells := 0, slots := 0, locals := 72 } : Room) s m args below meth c H locs 0 0 (MQ below (s_Qi (s_WM cy ad) G (s_A ad 12 s.heap.size) re σe) args s 0 0 (s_A ad 12 s.heap.size)) (F0 m 24 ls [])) (σ : Sg) (x1 : Int32) (x2 : Int32) (x4 : Int32) (y0 : Int32) (ls : Array Slot) (H : Heap) (locs : List Loc) (hl : lv_has ls 6 [(0, .ref (ad 0)), (1, .int x1), (2, .int x2), (4, .int x4)]) (hP : va_P G vwCl ((s_WM cy ad) σ) H) (hS : va_S (s_A ad 12 s.heap.size) s.heap H locs) (hf : fX7_most_b103 k24 σ x1 x2 x4 y0 = some (re, σe)) : W p l e ({ frames := 3, cells := 0, slots := 0, locals := 72 } : Room) s m args below meth c H locs 0 0 (MQ below (s_Qi (s_WM cy ad) G (s_A ad 12 s.heap.size) re σe) args s 0 0 (s_A ad 12 s.heap.size)) (F0 m 103 ls [.int y0]) := by
  obtain ⟨hx, hb, hr, hml, hown, hts, hlk, hK, hE, hI⟩ := id C
  have hD : ∀ σ : Sg, va_D (s_A ad 12 s.heap.size) ((s_WM cy ad) σ) := fun σ => s_D (s_WM_ad cy ad σ) hI (fun k hk => Or.inl ⟨k, hk, rfl⟩)
  unfold fX7_most_b103 at hf
  refine lv_istore_n (lv' := [(3, .int y0), (0, .ref (ad 0)), (1, .int x1), (2, .int x2), (4, .int x4)]) hx hb dX7_most_103 rfl hl (by decide) rfl (fun ls hl => ?_)
  exact kX7_most_b104 C k24 hk24 σ x1 x2 y0 x4 _ _ _ (lv_sub hl [1, 2, 3, 0, 4] rfl) hP hS hf
set_option maxRecDepth 100000 in
set_option maxHeartbeats 4000000 in
theorem kX7_most_b89 (C : s_X p s m meth c args cX7_most (some .int) 6 RX7 G cy sa ad 12) (k24 : Sg → Int32 → Int32 → Int32 → Int32 → Option (Int32 × Sg)) (hk24 : ∀ (σ : Sg) (x1 : Int32) (x2 : Int32) (x3 : Int32) (x4 : Int32) (ls : Array Slot) (H : Heap) (locs : List Loc), lv_has ls 6 [(0, .ref (ad 0)), (1, .int x1), (2, .int x2), (3, .int x3), (4, .int x4)] → va_P G vwCl ((s_WM cy ad) σ) H → va_S (s_A ad 12 s.heap.size) s.heap H locs → k24 σ x1 x2 x3 x4 = some (re, σe) → W p l e ({ frames := 3, cells := 0, slots := 0, locals := 72 } : Room) s m args below meth c H locs 0 0 (MQ below (s_Qi (s_WM cy ad) G (s_A ad 12 s.heap.size) re σe) args s 0 0 (s_A ad 12 s.heap.size)) (F0 m 24 ls [])) (σ : Sg) (x1 : Int32) (x3 : Int32) (x4 : Int32) (x5 : Int32) (y0 : Int32) (ls : Array Slot) (H : Heap) (locs : List Loc) (hl : lv_has ls 6 [(0, .ref (ad 0)), (1, .int x1), (3, .int x3), (4, .int x4), (5, .int x5)]) (hP : va_P G vwCl ((s_WM cy ad) σ) H) (hS : va_S (s_A ad 12 s.heap.size) s.heap H locs) (hf : fX7_most_b89 k24 σ x1 x3 x4 x5 y0 = some (re, σe)) : W p l e ({ frames := 3, cells := 0, slots := 0, locals := 72 } : Room) s m args below meth c H locs 0 0 (MQ below (s_Qi (s_WM cy ad) G (s_A ad 12 s.heap.size) re σe) args s 0 0 (s_A ad 12 s.heap.size)) (F0 m 89 ls [.int y0]) := by
  obtain ⟨hx, hb, hr, hml, hown, hts, hlk, hK, hE, hI⟩ := id C
  have hD : ∀ σ : Sg, va_D (s_A ad 12 s.heap.size) ((s_WM cy ad) σ) := fun σ => s_D (s_WM_ad cy ad σ) hI (fun k hk => Or.inl ⟨k, hk, rfl⟩)
  unfold fX7_most_b89 at hf
  refine lv_istore_n (lv' := [(2, .int y0), (0, .ref (ad 0)), (1, .int x1), (3, .int x3), (4, .int x4), (5, .int x5)]) hx hb dX7_most_89 rfl hl (by decide) rfl (fun ls hl => ?_)
  refine lv_iload hx hb dX7_most_90 (lv_at hl 5 rfl) ?_
  refine lv_if_eq (tgt := 102) hx hb dX7_most_92 (by decide) (fun c1 => ?_) (fun c1 => ?_)
  · rw [if_pos c1] at hf
    refine lv_iload_n hx hb dX7_most_102 rfl (lv_at hl 3 rfl) ?_
    exact kX7_most_b103 C k24 hk24 σ x1 y0 x4 x3 _ _ _ (lv_sub hl [1, 2, 0, 4] rfl) hP hS hf
  · rw [if_neg c1] at hf
    refine lv_aload_n hx hb dX7_most_95 rfl (lv_at hl 1 rfl) ?_
    refine va_get (D := G) (ci := 7) (v := .int (σ 0 19)) (C := RX7) (T := TX7) (N := 28) hx hb hts inkX7 hown hK hP 0 rfl rfl 19 (by decide) (hts _ kw_801) (fun _ h9 => h9) rfl dX7_most_96 ?_
    refine lv_goto (tgt := 103) hx hb dX7_most_99 (by decide) ?_
    exact kX7_most_b103 C k24 hk24 σ x1 y0 x4 (σ 0 19) _ _ _ (lv_sub hl [1, 2, 0, 4] rfl) hP hS hf
set_option maxRecDepth 100000 in
set_option maxHeartbeats 4000000 in
theorem kX7_most_b76 (C : s_X p s m meth c args cX7_most (some .int) 6 RX7 G cy sa ad 12) (k24 : Sg → Int32 → Int32 → Int32 → Int32 → Option (Int32 × Sg)) (hk24 : ∀ (σ : Sg) (x1 : Int32) (x2 : Int32) (x3 : Int32) (x4 : Int32) (ls : Array Slot) (H : Heap) (locs : List Loc), lv_has ls 6 [(0, .ref (ad 0)), (1, .int x1), (2, .int x2), (3, .int x3), (4, .int x4)] → va_P G vwCl ((s_WM cy ad) σ) H → va_S (s_A ad 12 s.heap.size) s.heap H locs → k24 σ x1 x2 x3 x4 = some (re, σe) → W p l e ({ frames := 3, cells := 0, slots := 0, locals := 72 } : Room) s m args below meth c H locs 0 0 (MQ below (s_Qi (s_WM cy ad) G (s_A ad 12 s.heap.size) re σe) args s 0 0 (s_A ad 12 s.heap.size)) (F0 m 24 ls [])) (σ : Sg) (x1 : Int32) (x2 : Int32) (x3 : Int32) (x4 : Int32) (y0 : Int32) (ls : Array Slot) (H : Heap) (locs : List Loc) (hl : lv_has ls 6 [(0, .ref (ad 0)), (1, .int x1), (2, .int x2), (3, .int x3), (4, .int x4)]) (hP : va_P G vwCl ((s_WM cy ad) σ) H) (hS : va_S (s_A ad 12 s.heap.size) s.heap H locs) (hf : fX7_most_b76 k24 σ x1 x2 x3 x4 y0 = some (re, σe)) : W p l e ({ frames := 3, cells := 0, slots := 0, locals := 72 } : Room) s m args below meth c H locs 0 0 (MQ below (s_Qi (s_WM cy ad) G (s_A ad 12 s.heap.size) re σe) args s 0 0 (s_A ad 12 s.heap.size)) (F0 m 76 ls [.int y0]) := by
  obtain ⟨hx, hb, hr, hml, hown, hts, hlk, hK, hE, hI⟩ := id C
  have hD : ∀ σ : Sg, va_D (s_A ad 12 s.heap.size) ((s_WM cy ad) σ) := fun σ => s_D (s_WM_ad cy ad σ) hI (fun k hk => Or.inl ⟨k, hk, rfl⟩)
  unfold fX7_most_b76 at hf
  refine lv_istore (lv' := [(5, .int y0), (0, .ref (ad 0)), (1, .int x1), (2, .int x2), (3, .int x3), (4, .int x4)]) hx hb dX7_most_76 hl (by decide) rfl (fun ls hl => ?_)
  refine lv_iload hx hb dX7_most_78 (lv_at hl 0 rfl) ?_
  refine lv_if_eq (tgt := 88) hx hb dX7_most_80 (by decide) (fun c1 => ?_) (fun c1 => ?_)
  · rw [if_pos c1] at hf
    refine lv_iload_n hx hb dX7_most_88 rfl (lv_at hl 3 rfl) ?_
    exact kX7_most_b89 C k24 hk24 σ x1 x3 x4 y0 x2 _ _ _ (lv_sub hl [1, 2, 4, 5, 0] rfl) hP hS hf
  · rw [if_neg c1] at hf
    refine lv_iload hx hb dX7_most_83 (lv_at hl 5 rfl) ?_
    refine lv_goto (tgt := 89) hx hb dX7_most_85 (by decide) ?_
    exact kX7_most_b89 C k24 hk24 σ x1 x3 x4 y0 x4 _ _ _ (lv_sub hl [1, 2, 4, 5, 0] rfl) hP hS hf
set_option maxRecDepth 100000 in
set_option maxHeartbeats 4000000 in
theorem kX7_most_b71 (C : s_X p s m meth c args cX7_most (some .int) 6 RX7 G cy sa ad 12) (k24 : Sg → Int32 → Int32 → Int32 → Int32 → Option (Int32 × Sg)) (hk24 : ∀ (σ : Sg) (x1 : Int32) (x2 : Int32) (x3 : Int32) (x4 : Int32) (ls : Array Slot) (H : Heap) (locs : List Loc), lv_has ls 6 [(0, .ref (ad 0)), (1, .int x1), (2, .int x2), (3, .int x3), (4, .int x4)] → va_P G vwCl ((s_WM cy ad) σ) H → va_S (s_A ad 12 s.heap.size) s.heap H locs → k24 σ x1 x2 x3 x4 = some (re, σe) → W p l e ({ frames := 3, cells := 0, slots := 0, locals := 72 } : Room) s m args below meth c H locs 0 0 (MQ below (s_Qi (s_WM cy ad) G (s_A ad 12 s.heap.size) re σe) args s 0 0 (s_A ad 12 s.heap.size)) (F0 m 24 ls [])) (σ : Sg) (x1 : Int32) (x2 : Int32) (x3 : Int32) (x4 : Int32) (ls : Array Slot) (H : Heap) (locs : List Loc) (hl : lv_has ls 6 [(0, .ref (ad 0)), (1, .int x1), (2, .int x2), (3, .int x3), (4, .int x4)]) (hP : va_P G vwCl ((s_WM cy ad) σ) H) (hS : va_S (s_A ad 12 s.heap.size) s.heap H locs) (hf : fX7_most_b71 k24 σ x1 x2 x3 x4 = some (re, σe)) : W p l e ({ frames := 3, cells := 0, slots := 0, locals := 72 } : Room) s m args below meth c H locs 0 0 (MQ below (s_Qi (s_WM cy ad) G (s_A ad 12 s.heap.size) re σe) args s 0 0 (s_A ad 12 s.heap.size)) (F0 m 71 ls []) := by
  obtain ⟨hx, hb, hr, hml, hown, hts, hlk, hK, hE, hI⟩ := id C
  have hD : ∀ σ : Sg, va_D (s_A ad 12 s.heap.size) ((s_WM cy ad) σ) := fun σ => s_D (s_WM_ad cy ad σ) hI (fun k hk => Or.inl ⟨k, hk, rfl⟩)
  unfold fX7_most_b71 at hf
  refine lv_iconst (v := 1) hx hb dX7_most_71 (by decide) ?_
  refine lv_goto (tgt := 76) hx hb dX7_most_72 (by decide) ?_
  exact kX7_most_b76 C k24 hk24 σ x1 x2 x3 x4 (1 : Int32) _ _ _ (lv_sub hl [0, 1, 2, 3, 4] rfl) hP hS hf
set_option maxRecDepth 100000 in
set_option maxHeartbeats 4000000 in
theorem kX7_most_b75 (C : s_X p s m meth c args cX7_most (some .int) 6 RX7 G cy sa ad 12) (k24 : Sg → Int32 → Int32 → Int32 → Int32 → Option (Int32 × Sg)) (hk24 : ∀ (σ : Sg) (x1 : Int32) (x2 : Int32) (x3 : Int32) (x4 : Int32) (ls : Array Slot) (H : Heap) (locs : List Loc), lv_has ls 6 [(0, .ref (ad 0)), (1, .int x1), (2, .int x2), (3, .int x3), (4, .int x4)] → va_P G vwCl ((s_WM cy ad) σ) H → va_S (s_A ad 12 s.heap.size) s.heap H locs → k24 σ x1 x2 x3 x4 = some (re, σe) → W p l e ({ frames := 3, cells := 0, slots := 0, locals := 72 } : Room) s m args below meth c H locs 0 0 (MQ below (s_Qi (s_WM cy ad) G (s_A ad 12 s.heap.size) re σe) args s 0 0 (s_A ad 12 s.heap.size)) (F0 m 24 ls [])) (σ : Sg) (x1 : Int32) (x2 : Int32) (x3 : Int32) (x4 : Int32) (ls : Array Slot) (H : Heap) (locs : List Loc) (hl : lv_has ls 6 [(0, .ref (ad 0)), (1, .int x1), (2, .int x2), (3, .int x3), (4, .int x4)]) (hP : va_P G vwCl ((s_WM cy ad) σ) H) (hS : va_S (s_A ad 12 s.heap.size) s.heap H locs) (hf : fX7_most_b75 k24 σ x1 x2 x3 x4 = some (re, σe)) : W p l e ({ frames := 3, cells := 0, slots := 0, locals := 72 } : Room) s m args below meth c H locs 0 0 (MQ below (s_Qi (s_WM cy ad) G (s_A ad 12 s.heap.size) re σe) args s 0 0 (s_A ad 12 s.heap.size)) (F0 m 75 ls []) := by
  obtain ⟨hx, hb, hr, hml, hown, hts, hlk, hK, hE, hI⟩ := id C
  have hD : ∀ σ : Sg, va_D (s_A ad 12 s.heap.size) ((s_WM cy ad) σ) := fun σ => s_D (s_WM_ad cy ad σ) hI (fun k hk => Or.inl ⟨k, hk, rfl⟩)
  unfold fX7_most_b75 at hf
  refine lv_iconst (v := 0) hx hb dX7_most_75 (by decide) ?_
  exact kX7_most_b76 C k24 hk24 σ x1 x2 x3 x4 (0 : Int32) _ _ _ (lv_sub hl [0, 1, 2, 3, 4] rfl) hP hS hf
set_option maxRecDepth 100000 in
set_option maxHeartbeats 4000000 in
theorem kX7_most_b24 (C : s_X p s m meth c args cX7_most (some .int) 6 RX7 G cy sa ad 12) (k24 : Sg → Int32 → Int32 → Int32 → Int32 → Option (Int32 × Sg)) (hk24 : ∀ (σ : Sg) (x1 : Int32) (x2 : Int32) (x3 : Int32) (x4 : Int32) (ls : Array Slot) (H : Heap) (locs : List Loc), lv_has ls 6 [(0, .ref (ad 0)), (1, .int x1), (2, .int x2), (3, .int x3), (4, .int x4)] → va_P G vwCl ((s_WM cy ad) σ) H → va_S (s_A ad 12 s.heap.size) s.heap H locs → k24 σ x1 x2 x3 x4 = some (re, σe) → W p l e ({ frames := 3, cells := 0, slots := 0, locals := 72 } : Room) s m args below meth c H locs 0 0 (MQ below (s_Qi (s_WM cy ad) G (s_A ad 12 s.heap.size) re σe) args s 0 0 (s_A ad 12 s.heap.size)) (F0 m 24 ls [])) (σ : Sg) (x1 : Int32) (x2 : Int32) (x3 : Int32) (x4 : Int32) (ls : Array Slot) (H : Heap) (locs : List Loc) (hl : lv_has ls 6 [(0, .ref (ad 0)), (1, .int x1), (2, .int x2), (3, .int x3), (4, .int x4)]) (hP : va_P G vwCl ((s_WM cy ad) σ) H) (hS : va_S (s_A ad 12 s.heap.size) s.heap H locs) (hf : fX7_most_b24 k24 σ x1 x2 x3 x4 = some (re, σe)) : W p l e ({ frames := 3, cells := 0, slots := 0, locals := 72 } : Room) s m args below meth c H locs 0 0 (MQ below (s_Qi (s_WM cy ad) G (s_A ad 12 s.heap.size) re σe) args s 0 0 (s_A ad 12 s.heap.size)) (F0 m 24 ls []) := by
  obtain ⟨hx, hb, hr, hml, hown, hts, hlk, hK, hE, hI⟩ := id C
  have hD : ∀ σ : Sg, va_D (s_A ad 12 s.heap.size) ((s_WM cy ad) σ) := fun σ => s_D (s_WM_ad cy ad σ) hI (fun k hk => Or.inl ⟨k, hk, rfl⟩)
  unfold fX7_most_b24 at hf
  refine lv_iload hx hb dX7_most_24 (lv_at hl 4 rfl) ?_
  refine lv_aload_n hx hb dX7_most_26 rfl (lv_at hl 0 rfl) ?_
  replace hf := s_bi_some hf
  obtain ⟨r3, σ1, hz2, hf⟩ := hf
  refine s_calli (nn := 0) C (kcX7_many (l := l) (G := G) (cy := cy) (sa := sa) hI (sz := H.size) σ hz2) gk_X7_141 rfl rfl (by decide +kernel) ⟨Nat.le_of_ble_eq_true rfl, Nat.le_of_ble_eq_true rfl⟩ hP hS (q0 := 0) (ci := 7) rfl rfl rfl (As := []) (rest := [.int x4]) rfl rfl hl.1 (Nat.le_of_ble_eq_true rfl) dX7_most_27 (fun H locs hP hS => ?_)
  refine lv_icmp_ge (tgt := 110) hx hb dX7_most_30 (by decide) (fun c4 => ?_) (fun c4 => ?_)
  · rw [if_pos c4] at hf
    refine lv_iload_n hx hb dX7_most_110 rfl (lv_at hl 2 rfl) ?_
    obtain ⟨he1, he2⟩ := s_ret hf
    exact W.iret hx hb hr (fun t ht hW => ⟨⟨_, (), rfl, he1, s_fin (Wd := (s_WM cy ad)) ht he2 hP⟩, hS.F ht⟩) hS.2.2 dX7_most_111 hlk
  · rw [if_neg c4] at hf
    refine lv_aload_n hx hb dX7_most_33 rfl (lv_at hl 0 rfl) ?_
    refine lv_iload hx hb dX7_most_34 (lv_at hl 4 rfl) ?_
    replace hf := s_bi_some hf
    obtain ⟨r7, σ5, hz6, hf⟩ := hf
    refine s_calli (nn := 1) C (kcX7_isResult (l := l) (G := G) (cy := cy) (sa := sa) hI (sz := H.size) σ1 x4 hz6) gk_X7_168 rfl rfl (by decide +kernel) ⟨Nat.le_of_ble_eq_true rfl, Nat.le_of_ble_eq_true rfl⟩ hP hS (q0 := 0) (ci := 7) rfl rfl rfl (As := [.int x4]) (rest := []) rfl rfl hl.1 (Nat.le_of_ble_eq_true rfl) dX7_most_36 (fun H locs hP hS => ?_)
    refine lv_if_eq (tgt := 104) hx hb dX7_most_39 (by decide) (fun c8 => ?_) (fun c8 => ?_)
    · rw [if_pos c8] at hf
      exact kX7_most_b104 C k24 hk24 σ5 x1 x2 x3 x4 _ _ _ (lv_sub hl [0, 1, 2, 3, 4] rfl) hP hS hf
    · rw [if_neg c8] at hf
      refine lv_iload_n hx hb dX7_most_42 rfl (lv_at hl 2 rfl) ?_
      refine lv_bipush (v := -4) hx hb dX7_most_43 (by decide) ?_
      refine lv_icmp_eq (tgt := 71) hx hb dX7_most_45 (by decide) (fun c9 => ?_) (fun c9 => ?_)
      · rw [if_pos c9] at hf
        exact kX7_most_b71 C k24 hk24 σ5 x1 x2 x3 x4 _ _ _ (lv_sub hl [0, 1, 2, 3, 4] rfl) hP hS hf
      · rw [if_neg c9] at hf
        refine lv_iload_n hx hb dX7_most_48 rfl (lv_at hl 1 rfl) ?_
        refine lv_if_ne (tgt := 63) hx hb dX7_most_49 (by decide) (fun c10 => ?_) (fun c10 => ?_)
        · rw [if_neg c10] at hf
          refine lv_aload_n hx hb dX7_most_63 rfl (lv_at hl 0 rfl) ?_
          refine va_get (D := G) (ci := 7) (v := .int (σ5 0 19)) (C := RX7) (T := TX7) (N := 28) hx hb hts inkX7 hown hK hP 0 rfl rfl 19 (by decide) (hts _ kw_801) (fun _ h9 => h9) rfl dX7_most_64 ?_
          refine lv_iload_n hx hb dX7_most_67 rfl (lv_at hl 3 rfl) ?_
          refine lv_icmp_le (tgt := 75) hx hb dX7_most_68 (by decide) (fun c11 => ?_) (fun c11 => ?_)
          · rw [if_pos c11] at hf
            exact kX7_most_b75 C k24 hk24 σ5 x1 x2 x3 x4 _ _ _ (lv_sub hl [0, 1, 2, 3, 4] rfl) hP hS hf
          · rw [if_neg c11] at hf
            exact kX7_most_b71 C k24 hk24 σ5 x1 x2 x3 x4 _ _ _ (lv_sub hl [0, 1, 2, 3, 4] rfl) hP hS hf
        · rw [if_pos c10] at hf
          refine lv_aload_n hx hb dX7_most_52 rfl (lv_at hl 0 rfl) ?_
          refine va_get (D := G) (ci := 7) (v := .int (σ5 0 19)) (C := RX7) (T := TX7) (N := 28) hx hb hts inkX7 hown hK hP 0 rfl rfl 19 (by decide) (hts _ kw_801) (fun _ h9 => h9) rfl dX7_most_53 ?_
          refine lv_iload_n hx hb dX7_most_56 rfl (lv_at hl 3 rfl) ?_
          refine lv_icmp_ge (tgt := 75) hx hb dX7_most_57 (by decide) (fun c12 => ?_) (fun c12 => ?_)
          · rw [if_pos c12] at hf
            exact kX7_most_b75 C k24 hk24 σ5 x1 x2 x3 x4 _ _ _ (lv_sub hl [0, 1, 2, 3, 4] rfl) hP hS hf
          · rw [if_neg c12] at hf
            refine lv_goto (tgt := 71) hx hb dX7_most_60 (by decide) ?_
            exact kX7_most_b71 C k24 hk24 σ5 x1 x2 x3 x4 _ _ _ (lv_sub hl [0, 1, 2, 3, 4] rfl) hP hS hf
set_option maxRecDepth 100000 in
set_option maxHeartbeats 4000000 in
theorem kX7_most_b24_L (C : s_X p s m meth c args cX7_most (some .int) 6 RX7 G cy sa ad 12) : ∀ (n : Nat), ∀ (σ : Sg) (x1 : Int32) (x2 : Int32) (x3 : Int32) (x4 : Int32) (ls : Array Slot) (H : Heap) (locs : List Loc), lv_has ls 6 [(0, .ref (ad 0)), (1, .int x1), (2, .int x2), (3, .int x3), (4, .int x4)] → va_P G vwCl ((s_WM cy ad) σ) H → va_S (s_A ad 12 s.heap.size) s.heap H locs → fX7_most_b24_L n σ x1 x2 x3 x4 = some (re, σe) → W p l e ({ frames := 3, cells := 0, slots := 0, locals := 72 } : Room) s m args below meth c H locs 0 0 (MQ below (s_Qi (s_WM cy ad) G (s_A ad 12 s.heap.size) re σe) args s 0 0 (s_A ad 12 s.heap.size)) (F0 m 24 ls []) := by
  intro n
  induction n with
  | zero => intro σ x1 x2 x3 x4 ls H locs hl hP hS hf; exact absurd (show (none : Option (Int32 × Sg)) = some (re, σe) from hf) (by intro h; cases h)
  | succ n ih => intro σ x1 x2 x3 x4 ls H locs hl hP hS hf; exact kX7_most_b24 C (fX7_most_b24_L n) ih σ x1 x2 x3 x4 ls H locs hl hP hS hf
set_option maxRecDepth 100000 in
set_option maxHeartbeats 4000000 in
theorem kX7_most (C : s_X p s m meth c args cX7_most (some .int) 6 RX7 G cy sa ad 12) (σ : Sg) (x1 : Int32) (ls : Array Slot) (H : Heap) (locs : List Loc) (hl : lv_has ls 6 [(0, .ref (ad 0)), (1, .int x1)]) (hP : va_P G vwCl ((s_WM cy ad) σ) H) (hS : va_S (s_A ad 12 s.heap.size) s.heap H locs) (hf : fX7_most σ x1 = some (re, σe)) : W p l e ({ frames := 3, cells := 0, slots := 0, locals := 72 } : Room) s m args below meth c H locs 0 0 (MQ below (s_Qi (s_WM cy ad) G (s_A ad 12 s.heap.size) re σe) args s 0 0 (s_A ad 12 s.heap.size)) (F0 m 0 ls []) := by
  obtain ⟨hx, hb, hr, hml, hown, hts, hlk, hK, hE, hI⟩ := id C
  have hD : ∀ σ : Sg, va_D (s_A ad 12 s.heap.size) ((s_WM cy ad) σ) := fun σ => s_D (s_WM_ad cy ad σ) hI (fun k hk => Or.inl ⟨k, hk, rfl⟩)
  unfold fX7_most at hf
  refine lv_aload_n hx hb dX7_most_0 rfl (lv_at hl 0 rfl) ?_
  replace hf := s_bv_some hf
  obtain ⟨σ1, hz2, hf⟩ := hf
  refine s_callv (nn := 0) C (kcX7_starts (l := l) (G := G) (cy := cy) (sa := sa) hI (sz := H.size) σ hz2) gk_X7_128 rfl rfl (by decide +kernel) ⟨Nat.le_of_ble_eq_true rfl, Nat.le_of_ble_eq_true rfl⟩ hP hS (q0 := 0) (ci := 7) rfl rfl rfl (As := []) (rest := []) rfl rfl hl.1 (Nat.le_of_ble_eq_true rfl) dX7_most_1 (fun H locs hP hS => ?_)
  refine lv_iload_n hx hb dX7_most_4 rfl (lv_at hl 1 rfl) ?_
  refine lv_i2l (v := (Int32.toInt64 x1)) hx hb dX7_most_5 rfl ?_
  refine lv_lconst (v := 0) hx hb dX7_most_6 (by decide) ?_
  refine lv_lconst (v := 1) hx hb dX7_most_7 (by decide) ?_
  replace hf := s_bi_some hf
  obtain ⟨r5, σ3, hz4, hf⟩ := hf
  refine s_calliS (nn := 3) C (kcX7_in (l := l) (G := G) (cy := cy) (sa := sa) hI (sz := H.size) σ1 (Int32.toInt64 x1) (0 : Int64) (1 : Int64) hz4) gk_X7_54 rfl rfl (by decide +kernel) ⟨Nat.le_of_ble_eq_true rfl, Nat.le_of_ble_eq_true rfl⟩ hP hS (As := [.long (Int32.toInt64 x1), .long (0 : Int64), .long (1 : Int64)]) (rest := []) rfl rfl hl.1 (Nat.le_of_ble_eq_true rfl) dX7_most_8 (fun H locs hP hS => ?_)
  refine lv_if_ne (tgt := 16) hx hb dX7_most_11 (by decide) (fun c6 => ?_) (fun c6 => ?_)
  · rw [if_neg c6] at hf
    refine lv_bipush (v := -4) hx hb dX7_most_16 (by decide) ?_
    refine lv_istore_n (lv' := [(2, .int (-4 : Int32)), (0, .ref (ad 0)), (1, .int x1)]) hx hb dX7_most_18 rfl hl (by decide) rfl (fun ls hl => ?_)
    refine lv_iconst (v := 0) hx hb dX7_most_19 (by decide) ?_
    refine lv_istore_n (lv' := [(3, .int (0 : Int32)), (2, .int (-4 : Int32)), (0, .ref (ad 0)), (1, .int x1)]) hx hb dX7_most_20 rfl hl (by decide) rfl (fun ls hl => ?_)
    refine lv_iconst (v := 0) hx hb dX7_most_21 (by decide) ?_
    refine lv_istore (lv' := [(4, .int (0 : Int32)), (3, .int (0 : Int32)), (2, .int (-4 : Int32)), (0, .ref (ad 0)), (1, .int x1)]) hx hb dX7_most_22 hl (by decide) rfl (fun ls hl => ?_)
    exact kX7_most_b24_L C s_fu σ3 x1 (-4 : Int32) (0 : Int32) (0 : Int32) _ _ _ (lv_sub hl [3, 4, 2, 1, 0] rfl) hP hS hf
  · rw [if_pos c6] at hf
    refine lv_iconst (v := -1) hx hb dX7_most_14 (by decide) ?_
    obtain ⟨he1, he2⟩ := s_ret hf
    exact W.iret hx hb hr (fun t ht hW => ⟨⟨_, (), rfl, he1, s_fin (Wd := (s_WM cy ad)) ht he2 hP⟩, hS.F ht⟩) hS.2.2 dX7_most_15 hlk
theorem kcX7_most {l : Launch} {G : va_G} {cy : Nat → ClassId} {sa : Nat × Nat} {ad : Nat → Nat}  {sz : Nat} (hI : s_inj ad 12) (σ : Sg) (x1 : Int32) {re : Int32} {σe : Sg} (hf : fX7_most σ x1 = some (re, σe)) : Met l yX7_most (kW yX7_most cX7_most 6 (some .int)) ({ frames := 3, cells := 0, slots := 0, locals := 72 } : Room) (s_P (s_WM cy ad) G cy sa ad 12 [.ref (ad 0), .int x1] sz σ) (s_Qi (s_WM cy ad) G (s_A ad 12 sz) re σe) 0 0 (s_A ad 12 sz) := by
  refine s_met (own := RX7) (by decide) rfl hI (Nat.le_of_ble_eq_true rfl) (fun p e s m below meth c ls hsz C hP hl => ?_)
  subst hsz
  exact kX7_most C σ x1 ls _ _ hl hP va_S.rf hf
set_option maxRecDepth 100000 in
set_option maxHeartbeats 4000000 in
theorem kX7_comes (C : s_X p s m meth c args cX7_comes (some .int) 2 RX7 G cy sa ad 12) (σ : Sg) (x1 : Int32) (ls : Array Slot) (H : Heap) (locs : List Loc) (hl : lv_has ls 2 [(0, .ref (ad 0)), (1, .int x1)]) (hP : va_P G vwCl ((s_WM cy ad) σ) H) (hS : va_S (s_A ad 12 s.heap.size) s.heap H locs) (hf : fX7_comes σ x1 = some (re, σe)) : W p l e ({ frames := 1, cells := 0, slots := 0, locals := 20 } : Room) s m args below meth c H locs 0 0 (MQ below (s_Qi (s_WM cy ad) G (s_A ad 12 s.heap.size) re σe) args s 0 0 (s_A ad 12 s.heap.size)) (F0 m 0 ls []) := by
  obtain ⟨hx, hb, hr, hml, hown, hts, hlk, hK, hE, hI⟩ := id C
  have hD : ∀ σ : Sg, va_D (s_A ad 12 s.heap.size) ((s_WM cy ad) σ) := fun σ => s_D (s_WM_ad cy ad σ) hI (fun k hk => Or.inl ⟨k, hk, rfl⟩)
  unfold fX7_comes at hf
  refine lv_aload_n hx hb dX7_comes_0 rfl (lv_at hl 0 rfl) ?_
  replace hf := s_bi_some hf
  obtain ⟨r3, σ1, hz2, hf⟩ := hf
  refine s_calli (nn := 0) C (kcX7_many (l := l) (G := G) (cy := cy) (sa := sa) hI (sz := H.size) σ hz2) gk_X7_141 rfl rfl (by decide +kernel) ⟨Nat.le_of_ble_eq_true rfl, Nat.le_of_ble_eq_true rfl⟩ hP hS (q0 := 0) (ci := 7) rfl rfl rfl (As := []) (rest := []) rfl rfl hl.1 (Nat.le_of_ble_eq_true rfl) dX7_comes_1 (fun H locs hP hS => ?_)
  refine lv_bipush (v := 96) hx hb dX7_comes_4 (by decide) ?_
  refine lv_icmp_ne (tgt := 12) hx hb dX7_comes_6 (by decide) (fun c4 => ?_) (fun c4 => ?_)
  · rw [if_neg c4] at hf
    refine lv_aload_n hx hb dX7_comes_12 rfl (lv_at hl 0 rfl) ?_
    refine va_get (D := G) (ci := 7) (v := .ref (ad 1)) (C := RX7) (T := TX7) (N := 28) hx hb hts inkX7 hown hK hP 0 rfl rfl 0 (by decide) (hts _ kw_782) (fun _ h9 => h9) rfl dX7_comes_13 ?_
    refine lv_aload_n hx hb dX7_comes_16 rfl (lv_at hl 0 rfl) ?_
    replace hf := s_bi_some hf
    obtain ⟨r7, σ5, hz6, hf⟩ := hf
    refine s_calli (nn := 0) C (kcX7_many (l := l) (G := G) (cy := cy) (sa := sa) hI (sz := H.size) σ1 hz6) gk_X7_141 rfl rfl (by decide +kernel) ⟨Nat.le_of_ble_eq_true rfl, Nat.le_of_ble_eq_true rfl⟩ hP hS (q0 := 0) (ci := 7) rfl rfl rfl (As := []) (rest := [.ref (ad 1)]) rfl rfl hl.1 (Nat.le_of_ble_eq_true rfl) dX7_comes_17 (fun H locs hP hS => ?_)
    refine lv_iload_n hx hb dX7_comes_20 rfl (lv_at hl 1 rfl) ?_
    replace hf := s_gd_some hf
    obtain ⟨g8, hf⟩ := hf
    refine va_iast hx hb hK hP (hD _) hS 1 1 rfl rfl (s_in_of g8) dX7_comes_21 (fun H locs hP _ hS => ?_)
    obtain ⟨σ9, eσ9⟩ : ∃ z : Sg, z = (s_up σ5 1 (Int32.toNatClampNeg r7) x1) := ⟨_, rfl⟩
    replace hf := s_lt_at eσ9 hf
    replace hP : va_P G vwCl ((s_WM cy ad) σ9) H := by rw [eσ9]; exact hP
    refine lv_aload_n hx hb dX7_comes_22 rfl (lv_at hl 0 rfl) ?_
    refine va_get (D := G) (ci := 7) (v := .ref (ad 1)) (C := RX7) (T := TX7) (N := 28) hx hb hts inkX7 hown hK hP 0 rfl rfl 0 (by decide) (hts _ kw_782) (fun _ h9 => h9) rfl dX7_comes_23 ?_
    refine lv_bipush (v := 102) hx hb dX7_comes_26 (by decide) ?_
    refine lv_dup2_11 hx hb dX7_comes_28 rfl rfl ?_
    refine va_iald hx hb hK hP 1 1 rfl rfl (by unfold vp_in; decide) dX7_comes_29 ?_
    rw [cl_102]
    refine lv_iconst (v := 1) hx hb dX7_comes_30 (by decide) ?_
    refine lv_iadd hx hb dX7_comes_31 ?_
    refine va_iast hx hb hK hP (hD _) hS 1 1 rfl rfl (by unfold vp_in; decide) dX7_comes_32 (fun H locs hP _ hS => ?_)
    rw [cl_102] at hP
    obtain ⟨σ10, eσ10⟩ : ∃ z : Sg, z = (s_up σ9 1 102 ((σ9 1 102) + (1 : Int32))) := ⟨_, rfl⟩
    replace hf := s_lt_at eσ10 hf
    replace hP : va_P G vwCl ((s_WM cy ad) σ10) H := by rw [eσ10]; exact hP
    refine lv_aload_n hx hb dX7_comes_33 rfl (lv_at hl 0 rfl) ?_
    replace hf := s_bi_some hf
    obtain ⟨r13, σ11, hz12, hf⟩ := hf
    refine s_calli (nn := 0) C (kcX7_many (l := l) (G := G) (cy := cy) (sa := sa) hI (sz := H.size) σ10 hz12) gk_X7_141 rfl rfl (by decide +kernel) ⟨Nat.le_of_ble_eq_true rfl, Nat.le_of_ble_eq_true rfl⟩ hP hS (q0 := 0) (ci := 7) rfl rfl rfl (As := []) (rest := []) rfl rfl hl.1 (Nat.le_of_ble_eq_true rfl) dX7_comes_34 (fun H locs hP hS => ?_)
    obtain ⟨he1, he2⟩ := s_ret hf
    exact W.iret hx hb hr (fun t ht hW => ⟨⟨_, (), rfl, he1, s_fin (Wd := (s_WM cy ad)) ht he2 hP⟩, hS.F ht⟩) hS.2.2 dX7_comes_37 hlk
  · rw [if_pos c4] at hf
    refine lv_bipush (v := -3) hx hb dX7_comes_9 (by decide) ?_
    obtain ⟨he1, he2⟩ := s_ret hf
    exact W.iret hx hb hr (fun t ht hW => ⟨⟨_, (), rfl, he1, s_fin (Wd := (s_WM cy ad)) ht he2 hP⟩, hS.F ht⟩) hS.2.2 dX7_comes_11 hlk
theorem kcX7_comes {l : Launch} {G : va_G} {cy : Nat → ClassId} {sa : Nat × Nat} {ad : Nat → Nat}  {sz : Nat} (hI : s_inj ad 12) (σ : Sg) (x1 : Int32) {re : Int32} {σe : Sg} (hf : fX7_comes σ x1 = some (re, σe)) : Met l yX7_comes (kW yX7_comes cX7_comes 2 (some .int)) ({ frames := 1, cells := 0, slots := 0, locals := 20 } : Room) (s_P (s_WM cy ad) G cy sa ad 12 [.ref (ad 0), .int x1] sz σ) (s_Qi (s_WM cy ad) G (s_A ad 12 sz) re σe) 0 0 (s_A ad 12 sz) := by
  refine s_met (own := RX7) (by decide) rfl hI (Nat.le_of_ble_eq_true rfl) (fun p e s m below meth c ls hsz C hP hl => ?_)
  subst hsz
  exact kX7_comes C σ x1 ls _ _ hl hP va_S.rf hf
end
