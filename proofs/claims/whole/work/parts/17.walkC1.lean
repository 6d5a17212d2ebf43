section
variable {p : Program} {l : Launch} {e : Env} {s : State} {m : MethodId} {below : List Frame} {meth : Method} {c : Code} {G : va_G} {cy : Nat → ClassId} {sa : Nat × Nat} {ad : Nat → Nat} {args : Array Value} {re : Int32} {σe : Sg}
set_option maxRecDepth 100000 in
set_option maxHeartbeats 4000000 in
theorem kJ3_checkIndex_8e157_n_b9 (C : s_X p s m meth c args cJ3_checkIndex_8e157 (some .int) 3 RJ3 G cy sa ad 27) (σ : Sg) (x0 : Int32) (x1 : Int32) (ls : Array Slot) (H : Heap) (locs : List Loc) (hl : lv_has ls 3 [(0, .int x0), (1, .int x1), (2, .null)]) (hP : va_P G vwCl ((s_WC cy ad) σ) H) (hS : va_S (s_A ad 27 s.heap.size) s.heap H locs) (hf : fJ3_checkIndex_8e157_n_b9 σ x0 x1 = some (re, σe)) : W p l e ({ frames := 0, cells := 0, slots := 0, locals := 0 } : Room) s m args below meth c H locs 0 0 (MQ below (s_Qi (s_WC cy ad) G (s_A ad 27 s.heap.size) re σe) args s 0 0 (s_A ad 27 s.heap.size)) (F0 m 9 ls []) := by
  obtain ⟨hx, hb, hr, hml, hown, hts, hlk, hK, hE, hI⟩ := id C
  have hD : ∀ σ : Sg, va_D (s_A ad 27 s.heap.size) ((s_WC cy ad) σ) := fun σ => s_D (s_WC_ad cy ad σ) hI (fun k hk => Or.inl ⟨k, hk, rfl⟩)
  unfold fJ3_checkIndex_8e157_n_b9 at hf
  refine lv_aload_nN hx hb dJ3_checkIndex_8e157_9 rfl (lv_at hl 2 rfl) ?_
  refine lv_iload_n hx hb dJ3_checkIndex_8e157_10 rfl (lv_at hl 0 rfl) ?_
  refine lv_iload_n hx hb dJ3_checkIndex_8e157_11 rfl (lv_at hl 1 rfl) ?_
  cases hf
set_option maxRecDepth 100000 in
set_option maxHeartbeats 4000000 in
theorem kJ3_checkIndex_8e157_n_b16 (C : s_X p s m meth c args cJ3_checkIndex_8e157 (some .int) 3 RJ3 G cy sa ad 27) (σ : Sg) (x0 : Int32) (ls : Array Slot) (H : Heap) (locs : List Loc) (hl : lv_has ls 3 [(0, .int x0)]) (hP : va_P G vwCl ((s_WC cy ad) σ) H) (hS : va_S (s_A ad 27 s.heap.size) s.heap H locs) (hf : fJ3_checkIndex_8e157_n_b16 σ x0 = some (re, σe)) : W p l e ({ frames := 0, cells := 0, slots := 0, locals := 0 } : Room) s m args below meth c H locs 0 0 (MQ below (s_Qi (s_WC cy ad) G (s_A ad 27 s.heap.size) re σe) args s 0 0 (s_A ad 27 s.heap.size)) (F0 m 16 ls []) := by
  obtain ⟨hx, hb, hr, hml, hown, hts, hlk, hK, hE, hI⟩ := id C
  have hD : ∀ σ : Sg, va_D (s_A ad 27 s.heap.size) ((s_WC cy ad) σ) := fun σ => s_D (s_WC_ad cy ad σ) hI (fun k hk => Or.inl ⟨k, hk, rfl⟩)
  unfold fJ3_checkIndex_8e157_n_b16 at hf
  refine lv_iload_n hx hb dJ3_checkIndex_8e157_16 rfl (lv_at hl 0 rfl) ?_
  obtain ⟨he1, he2⟩ := s_ret hf
  exact W.iret hx hb hr (fun t ht hW => ⟨⟨_, (), rfl, he1, s_fin (Wd := (s_WC cy ad)) ht he2 hP⟩, hS.F ht⟩) hS.2.2 dJ3_checkIndex_8e157_17 hlk
set_option maxRecDepth 100000 in
set_option maxHeartbeats 4000000 in
theorem kJ3_checkIndex_8e157_n (C : s_X p s m meth c args cJ3_checkIndex_8e157 (some .int) 3 RJ3 G cy sa ad 27) (σ : Sg) (x0 : Int32) (x1 : Int32) (ls : Array Slot) (H : Heap) (locs : List Loc) (hl : lv_has ls 3 [(0, .int x0), (1, .int x1), (2, .null)]) (hP : va_P G vwCl ((s_WC cy ad) σ) H) (hS : va_S (s_A ad 27 s.heap.size) s.heap H locs) (hf : fJ3_checkIndex_8e157_n σ x0 x1 = some (re, σe)) : W p l e ({ frames := 0, cells := 0, slots := 0, locals := 0 } : Room) s m args below meth c H locs 0 0 (MQ below (s_Qi (s_WC cy ad) G (s_A ad 27 s.heap.size) re σe) args s 0 0 (s_A ad 27 s.heap.size)) (F0 m 0 ls []) := by
  obtain ⟨hx, hb, hr, hml, hown, hts, hlk, hK, hE, hI⟩ := id C
  have hD : ∀ σ : Sg, va_D (s_A ad 27 s.heap.size) ((s_WC cy ad) σ) := fun σ => s_D (s_WC_ad cy ad σ) hI (fun k hk => Or.inl ⟨k, hk, rfl⟩)
  unfold fJ3_checkIndex_8e157_n at hf
  refine lv_iload_n hx hb dJ3_checkIndex_8e157_0 rfl (lv_at hl 0 rfl) ?_
  refine lv_if_lt (tgt := 9) hx hb dJ3_checkIndex_8e157_1 (by decide) (fun c1 => ?_) (fun c1 => ?_)
  · rw [if_pos c1] at hf
    exact kJ3_checkIndex_8e157_n_b9 C σ x0 x1 _ _ _ (lv_sub hl [0, 1, 2] rfl) hP hS hf
  · rw [if_neg c1] at hf
    refine lv_iload_n hx hb dJ3_checkIndex_8e157_4 rfl (lv_at hl 0 rfl) ?_
    refine lv_iload_n hx hb dJ3_checkIndex_8e157_5 rfl (lv_at hl 1 rfl) ?_
    refine lv_icmp_lt (tgt := 16) hx hb dJ3_checkIndex_8e157_6 (by decide) (fun c2 => ?_) (fun c2 => ?_)
    · rw [if_pos c2] at hf
      exact kJ3_checkIndex_8e157_n_b16 C σ x0 _ _ _ (lv_sub hl [0] rfl) hP hS hf
    · rw [if_neg c2] at hf
      exact kJ3_checkIndex_8e157_n_b9 C σ x0 x1 _ _ _ (lv_sub hl [0, 1, 2] rfl) hP hS hf
theorem kcJ3_checkIndex_8e157_n {l : Launch} {G : va_G} {cy : Nat → ClassId} {sa : Nat × Nat} {ad : Nat → Nat}  {sz : Nat} (hI : s_inj ad 27) (σ : Sg) (x0 : Int32) (x1 : Int32) {re : Int32} {σe : Sg} (hf : fJ3_checkIndex_8e157_n σ x0 x1 = some (re, σe)) : Met l yJ3_checkIndex_8e157 (kW yJ3_checkIndex_8e157 cJ3_checkIndex_8e157 3 (some .int)) ({ frames := 0, cells := 0, slots := 0, locals := 0 } : Room) (s_P (s_WC cy ad) G cy sa ad 27 [.int x0, .int x1, .null] sz σ) (s_Qi (s_WC cy ad) G (s_A ad 27 sz) re σe) 0 0 (s_A ad 27 sz) := by
  refine s_met (own := RJ3) (by decide) rfl hI (Nat.le_of_ble_eq_true rfl) (fun p e s m below meth c ls hsz C hP hl => ?_)
  subst hsz
  exact kJ3_checkIndex_8e157_n C σ x0 x1 ls _ _ hl hP va_S.rf hf
set_option maxRecDepth 100000 in
set_option maxHeartbeats 4000000 in
theorem kJ3_checkIndex_8e157_t_b9 (C : s_X p s m meth c args cJ3_checkIndex_8e157 (some .int) 3 RJ3 G cy sa ad 27) (tf : Nat) (σ : Sg) (x0 : Int32) (x1 : Int32) (ls : Array Slot) (H : Heap) (locs : List Loc) (hl : lv_has ls 3 [(0, .int x0), (1, .int x1), (2, .ref tf)]) (hP : va_P G vwCl ((s_WC cy ad) σ) H) (hS : va_S (s_A ad 27 s.heap.size) s.heap H locs) (hf : fJ3_checkIndex_8e157_t_b9 σ x0 x1 = some (re, σe)) : W p l e ({ frames := 0, cells := 0, slots := 0, locals := 0 } : Room) s m args below meth c H locs 0 0 (MQ below (s_Qi (s_WC cy ad) G (s_A ad 27 s.heap.size) re σe) args s 0 0 (s_A ad 27 s.heap.size)) (F0 m 9 ls []) := by
  obtain ⟨hx, hb, hr, hml, hown, hts, hlk, hK, hE, hI⟩ := id C
  have hD : ∀ σ : Sg, va_D (s_A ad 27 s.heap.size) ((s_WC cy ad) σ) := fun σ => s_D (s_WC_ad cy ad σ) hI (fun k hk => Or.inl ⟨k, hk, rfl⟩)
  unfold fJ3_checkIndex_8e157_t_b9 at hf
  refine lv_aload_n hx hb dJ3_checkIndex_8e157_9 rfl (lv_at hl 2 rfl) ?_
  refine lv_iload_n hx hb dJ3_checkIndex_8e157_10 rfl (lv_at hl 0 rfl) ?_
  refine lv_iload_n hx hb dJ3_checkIndex_8e157_11 rfl (lv_at hl 1 rfl) ?_
  cases hf
set_option maxRecDepth 100000 in
set_option maxHeartbeats 4000000 in
theorem kJ3_checkIndex_8e157_t_b16 (C : s_X p s m meth c args cJ3_checkIndex_8e157 (some .int) 3 RJ3 G cy sa ad 27) (tf : Nat) (σ : Sg) (x0 : Int32) (ls : Array Slot) (H : Heap) (locs : List Loc) (hl : lv_has ls 3 [(0, .int x0)]) (hP : va_P G vwCl ((s_WC cy ad) σ) H) (hS : va_S (s_A ad 27 s.heap.size) s.heap H locs) (hf : fJ3_checkIndex_8e157_t_b16 σ x0 = some (re, σe)) : W p l e ({ frames := 0, cells := 0, slots := 0, locals := 0 } : Room) s m args below meth c H locs 0 0 (MQ below (s_Qi (s_WC cy ad) G (s_A ad 27 s.heap.size) re σe) args s 0 0 (s_A ad 27 s.heap.size)) (F0 m 16 ls []) := by
  obtain ⟨hx, hb, hr, hml, hown, hts, hlk, hK, hE, hI⟩ := id C
  have hD : ∀ σ : Sg, va_D (s_A ad 27 s.heap.size) ((s_WC cy ad) σ) := fun σ => s_D (s_WC_ad cy ad σ) hI (fun k hk => Or.inl ⟨k, hk, rfl⟩)
  unfold fJ3_checkIndex_8e157_t_b16 at hf
  refine lv_iload_n hx hb dJ3_checkIndex_8e157_16 rfl (lv_at hl 0 rfl) ?_
  obtain ⟨he1, he2⟩ := s_ret hf
  exact W.iret hx hb hr (fun t ht hW => ⟨⟨_, (), rfl, he1, s_fin (Wd := (s_WC cy ad)) ht he2 hP⟩, hS.F ht⟩) hS.2.2 dJ3_checkIndex_8e157_17 hlk
set_option maxRecDepth 100000 in
set_option maxHeartbeats 4000000 in
theorem kJ3_checkIndex_8e157_t (C : s_X p s m meth c args cJ3_checkIndex_8e157 (some .int) 3 RJ3 G cy sa ad 27) (tf : Nat) (σ : Sg) (x0 : Int32) (x1 : Int32) (ls : Array Slot) (H : Heap) (locs : List Loc) (hl : lv_has ls 3 [(0, .int x0), (1, .int x1), (2, .ref tf)]) (hP : va_P G vwCl ((s_WC cy ad) σ) H) (hS : va_S (s_A ad 27 s.heap.size) s.heap H locs) (hf : fJ3_checkIndex_8e157_t σ x0 x1 = some (re, σe)) : W p l e ({ frames := 0, cells := 0, slots := 0, locals := 0 } : Room) s m args below meth c H locs 0 0 (MQ below (s_Qi (s_WC cy ad) G (s_A ad 27 s.heap.size) re σe) args s 0 0 (s_A ad 27 s.heap.size)) (F0 m 0 ls []) := by
  obtain ⟨hx, hb, hr, hml, hown, hts, hlk, hK, hE, hI⟩ := id C
  have hD : ∀ σ : Sg, va_D (s_A ad 27 s.heap.size) ((s_WC cy ad) σ) := fun σ => s_D (s_WC_ad cy ad σ) hI (fun k hk => Or.inl ⟨k, hk, rfl⟩)
  unfold fJ3_checkIndex_8e157_t at hf
  refine lv_iload_n hx hb dJ3_checkIndex_8e157_0 rfl (lv_at hl 0 rfl) ?_
  refine lv_if_lt (tgt := 9) hx hb dJ3_checkIndex_8e157_1 (by decide) (fun c1 => ?_) (fun c1 => ?_)
  · rw [if_pos c1] at hf
    exact kJ3_checkIndex_8e157_t_b9 C tf σ x0 x1 _ _ _ (lv_sub hl [0, 1, 2] rfl) hP hS hf
  · rw [if_neg c1] at hf
    refine lv_iload_n hx hb dJ3_checkIndex_8e157_4 rfl (lv_at hl 0 rfl) ?_
    refine lv_iload_n hx hb dJ3_checkIndex_8e157_5 rfl (lv_at hl 1 rfl) ?_
    refine lv_icmp_lt (tgt := 16) hx hb dJ3_checkIndex_8e157_6 (by decide) (fun c2 => ?_) (fun c2 => ?_)
    · rw [if_pos c2] at hf
      exact kJ3_checkIndex_8e157_t_b16 C tf σ x0 _ _ _ (lv_sub hl [0] rfl) hP hS hf
    · rw [if_neg c2] at hf
      exact kJ3_checkIndex_8e157_t_b9 C tf σ x0 x1 _ _ _ (lv_sub hl [0, 1, 2] rfl) hP hS hf
theorem kcJ3_checkIndex_8e157_t {l : Launch} {G : va_G} {cy : Nat → ClassId} {sa : Nat × Nat} {ad : Nat → Nat}  {sz : Nat} (hI : s_inj ad 27) (tf : Nat) (σ : Sg) (x0 : Int32) (x1 : Int32) {re : Int32} {σe : Sg} (hf : fJ3_checkIndex_8e157_t σ x0 x1 = some (re, σe)) : Met l yJ3_checkIndex_8e157 (kW yJ3_checkIndex_8e157 cJ3_checkIndex_8e157 3 (some .int)) ({ frames := 0, cells := 0, slots := 0, locals := 0 } : Room) (s_P (s_WC cy ad) G cy sa ad 27 [.int x0, .int x1, .ref tf] sz σ) (s_Qi (s_WC cy ad) G (s_A ad 27 sz) re σe) 0 0 (s_A ad 27 sz) := by
  refine s_met (own := RJ3) (by decide) rfl hI (Nat.le_of_ble_eq_true rfl) (fun p e s m below meth c ls hsz C hP hl => ?_)
  subst hsz
  exact kJ3_checkIndex_8e157_t C tf σ x0 x1 ls _ _ hl hP va_S.rf hf
set_option maxRecDepth 100000 in
set_option maxHeartbeats 4000000 in
theorem kJ0_checkIndex_df160 (C : s_X p s m meth c args cJ0_checkIndex_df160 none 2 RJ0 G cy sa ad 27) (σ : Sg) (x0 x1 : Int32) (ls : Array Slot) (H : Heap) (locs : List Loc) (hl : lv_has ls 2 [(0, .int x0), (1, .int x1)]) (hP : va_P G vwCl ((s_WC cy ad) σ) H) (hS : va_S (s_A ad 27 s.heap.size) s.heap H locs) (hf : fJ0_checkIndex_df160 σ x0 x1 = some σe) : W p l e ({ frames := 1, cells := 0, slots := 0, locals := 22 } : Room) s m args below meth c H locs 0 0 (MQ below (s_Qv (s_WC cy ad) G (s_A ad 27 s.heap.size) σe) args s 0 0 (s_A ad 27 s.heap.size)) (F0 m 0 ls []) := by
  obtain ⟨hx, hb, hr, hml, hown, hts, hlk, hK, hE, hI⟩ := id C
  unfold fJ0_checkIndex_df160 at hf
  refine lv_iload_n hx hb dJ0_checkIndex_df160_0 rfl (lv_at hl 0 rfl) ?_
  refine lv_iload_n hx hb dJ0_checkIndex_df160_1 rfl (lv_at hl 1 rfl) ?_
  rcases hE.2.2.2.2 with hq | ⟨tf, hq⟩
  · refine va_gets hx hb hq hS hown (hts _ kw_348) (fun _ h9 => h9) dJ0_checkIndex_df160_2 ?_
    replace hf := s_bi_some hf
    obtain ⟨r1, σ1, hz, hf⟩ := hf
    refine s_calliS (nn := 3) C (kcJ3_checkIndex_8e157_n (l := l) (G := G) (cy := cy) (sa := sa) hI (sz := H.size) σ x0 x1 hz) gk_J0_1059 rfl rfl (by decide +kernel) ⟨Nat.le_of_ble_eq_true rfl, Nat.le_of_ble_eq_true rfl⟩ hP hS (As := [.int x0, .int x1, .null]) (rest := []) rfl rfl hl.1 (Nat.le_of_ble_eq_true rfl) dJ0_checkIndex_df160_5 (fun H locs hP hS => ?_)
    refine lv_pop hx hb dJ0_checkIndex_df160_8 rfl ?_
    have he2 := Option.some.inj hf
    exact W.vret hx hb hr (fun t ht hW => ⟨⟨(), rfl, trivial, s_fin (Wd := (s_WC cy ad)) ht he2 hP⟩, hS.F ht⟩) hS.2.2 dJ0_checkIndex_df160_9 hlk
  · refine va_gets hx hb hq hS hown (hts _ kw_348) (fun _ h9 => h9) dJ0_checkIndex_df160_2 ?_
    replace hf := s_bi_some hf
    obtain ⟨r1, σ1, hz, hf⟩ := hf
    refine s_calliS (nn := 3) C (kcJ3_checkIndex_8e157_t (l := l) (G := G) (cy := cy) (sa := sa) hI (sz := H.size) tf σ x0 x1 (show fJ3_checkIndex_8e157_t σ x0 x1 = _ from hz)) gk_J0_1059 rfl rfl (by decide +kernel) ⟨Nat.le_of_ble_eq_true rfl, Nat.le_of_ble_eq_true rfl⟩ hP hS (As := [.int x0, .int x1, .ref tf]) (rest := []) rfl rfl hl.1 (Nat.le_of_ble_eq_true rfl) dJ0_checkIndex_df160_5 (fun H locs hP hS => ?_)
    refine lv_pop hx hb dJ0_checkIndex_df160_8 rfl ?_
    have he2 := Option.some.inj hf
    exact W.vret hx hb hr (fun t ht hW => ⟨⟨(), rfl, trivial, s_fin (Wd := (s_WC cy ad)) ht he2 hP⟩, hS.F ht⟩) hS.2.2 dJ0_checkIndex_df160_9 hlk
theorem kcJ0_checkIndex_df160 {l : Launch} {G : va_G} {cy : Nat → ClassId} {sa : Nat × Nat} {ad : Nat → Nat} {sz : Nat} (hI : s_inj ad 27) (σ : Sg) (x0 x1 : Int32) {σe : Sg} (hf : fJ0_checkIndex_df160 σ x0 x1 = some σe) : Met l yJ0_checkIndex_df160 (kW yJ0_checkIndex_df160 cJ0_checkIndex_df160 2 none) ({ frames := 1, cells := 0, slots := 0, locals := 22 } : Room) (s_P (s_WC cy ad) G cy sa ad 27 [.int x0, .int x1] sz σ) (s_Qv (s_WC cy ad) G (s_A ad 27 sz) σe) 0 0 (s_A ad 27 sz) := by
  refine s_met (own := RJ0) (by decide) rfl hI (Nat.le_of_ble_eq_true rfl) (fun p e s m below meth c ls hsz C hP hl => ?_)
  subst hsz
  exact kJ0_checkIndex_df160 C σ x0 x1 ls _ _ hl hP va_S.rf hf
set_option maxRecDepth 100000 in
set_option maxHeartbeats 4000000 in
theorem kJ0_coder_7d493 (C : s_X p s m meth c args cJ0_coder_7d493 (some .byte) 1 RJ0 G cy sa ad 27) (σ : Sg) (ls : Array Slot) (H : Heap) (locs : List Loc) (hl : lv_has ls 1 [(0, .ref sa.1)]) (hP : va_P G vwCl ((s_WC cy ad) σ) H) (hS : va_S (s_A ad 27 s.heap.size) s.heap H locs) (hf : fJ0_coder_7d493 σ = some (re, σe)) : W p l e ({ frames := 0, cells := 0, slots := 0, locals := 0 } : Room) s m args below meth c H locs 0 0 (MQ below (s_Qi (s_WC cy ad) G (s_A ad 27 s.heap.size) re σe) args s 0 0 (s_A ad 27 s.heap.size)) (F0 m 0 ls []) := by
  obtain ⟨hx, hb, hr, hml, hown, hts, hlk, hK, hE, hI⟩ := id C
  have hD : ∀ σ : Sg, va_D (s_A ad 27 s.heap.size) ((s_WC cy ad) σ) := fun σ => s_D (s_WC_ad cy ad σ) hI (fun k hk => Or.inl ⟨k, hk, rfl⟩)
  unfold fJ0_coder_7d493 at hf
  refine va_gets hx hb hE.2.2.2.1 hS hown (hts _ kw_332) (fun _ h9 => h9) dJ0_coder_7d493_0 ?_
  refine lv_if_eq (tgt := 13) hx hb dJ0_coder_7d493_3 (by decide) (fun c1 => ?_) (fun c1 => ?_)
  · rw [if_pos c1] at hf
    refine lv_iconst (v := 1) hx hb dJ0_coder_7d493_13 (by decide) ?_
    obtain ⟨he1, he2⟩ := s_ret hf
    exact W.zret hx hb hr rfl (fun t ht hW => ⟨⟨_, (), rfl, he1, s_fin (Wd := (s_WC cy ad)) ht he2 hP⟩, hS.F ht⟩) hS.2.2 dJ0_coder_7d493_14 hlk
  · rw [if_neg c1] at hf
    refine lv_aload_n hx hb dJ0_coder_7d493_6 rfl (lv_at hl 0 rfl) ?_
    refine vk_getf hx hb (hE.2.2.1.1 0 (by decide)).2.1 hS hown (hts _ kw_1156) (fun _ h9 => h9) dJ0_coder_7d493_7 ?_
    refine W.eq (g2 := F0 m 10 ls [.int (0 : Int32)]) rfl ?_
    refine lv_goto (tgt := 14) hx hb dJ0_coder_7d493_10 (by decide) ?_
    obtain ⟨he1, he2⟩ := s_ret hf
    exact W.zret hx hb hr rfl (fun t ht hW => ⟨⟨_, (), rfl, he1, s_fin (Wd := (s_WC cy ad)) ht he2 hP⟩, hS.F ht⟩) hS.2.2 dJ0_coder_7d493_14 hlk
theorem kcJ0_coder_7d493 {l : Launch} {G : va_G} {cy : Nat → ClassId} {sa : Nat × Nat} {ad : Nat → Nat}  {sz : Nat} (hI : s_inj ad 27) (σ : Sg) {re : Int32} {σe : Sg} (hf : fJ0_coder_7d493 σ = some (re, σe)) : Met l yJ0_coder_7d493 (kW yJ0_coder_7d493 cJ0_coder_7d493 1 (some .byte)) ({ frames := 0, cells := 0, slots := 0, locals := 0 } : Room) (s_P (s_WC cy ad) G cy sa ad 27 [.ref sa.1] sz σ) (s_Qi (s_WC cy ad) G (s_A ad 27 sz) re σe) 0 0 (s_A ad 27 sz) := by
  refine s_met (own := RJ0) (by decide) rfl hI (Nat.le_of_ble_eq_true rfl) (fun p e s m below meth c ls hsz C hP hl => ?_)
  subst hsz
  exact kJ0_coder_7d493 C σ ls _ _ hl hP va_S.rf hf
set_option maxRecDepth 100000 in
set_option maxHeartbeats 4000000 in
theorem kJ0_isLatin1_aae02_b17 (C : s_X p s m meth c args cJ0_isLatin1_aae02 (some .boolean) 1 RJ0 G cy sa ad 27) (σ : Sg) (ls : Array Slot) (H : Heap) (locs : List Loc) (hl : lv_has ls 1 []) (hP : va_P G vwCl ((s_WC cy ad) σ) H) (hS : va_S (s_A ad 27 s.heap.size) s.heap H locs) (hf : fJ0_isLatin1_aae02_b17 σ = some (re, σe)) : W p l e ({ frames := 0, cells := 0, slots := 0, locals := 0 } : Room) s m args below meth c H locs 0 0 (MQ below (s_Qi (s_WC cy ad) G (s_A ad 27 s.heap.size) re σe) args s 0 0 (s_A ad 27 s.heap.size)) (F0 m 17 ls []) := by
  obtain ⟨hx, hb, hr, hml, hown, hts, hlk, hK, hE, hI⟩ := id C
  have hD : ∀ σ : Sg, va_D (s_A ad 27 s.heap.size) ((s_WC cy ad) σ) := fun σ => s_D (s_WC_ad cy ad σ) hI (fun k hk => Or.inl ⟨k, hk, rfl⟩)
  unfold fJ0_isLatin1_aae02_b17 at hf
  refine lv_iconst (v := 0) hx hb dJ0_isLatin1_aae02_17 (by decide) ?_
  obtain ⟨he1, he2⟩ := s_ret hf
  exact W.zret hx hb hr rfl (fun t ht hW => ⟨⟨_, (), rfl, he1, s_fin (Wd := (s_WC cy ad)) ht he2 hP⟩, hS.F ht⟩) hS.2.2 dJ0_isLatin1_aae02_18 hlk
set_option maxRecDepth 100000 in
set_option maxHeartbeats 4000000 in
theorem kJ0_isLatin1_aae02 (C : s_X p s m meth c args cJ0_isLatin1_aae02 (some .boolean) 1 RJ0 G cy sa ad 27) (σ : Sg) (ls : Array Slot) (H : Heap) (locs : List Loc) (hl : lv_has ls 1 [(0, .ref sa.1)]) (hP : va_P G vwCl ((s_WC cy ad) σ) H) (hS : va_S (s_A ad 27 s.heap.size) s.heap H locs) (hf : fJ0_isLatin1_aae02 σ = some (re, σe)) : W p l e ({ frames := 0, cells := 0, slots := 0, locals := 0 } : Room) s m args below meth c H locs 0 0 (MQ below (s_Qi (s_WC cy ad) G (s_A ad 27 s.heap.size) re σe) args s 0 0 (s_A ad 27 s.heap.size)) (F0 m 0 ls []) := by
  obtain ⟨hx, hb, hr, hml, hown, hts, hlk, hK, hE, hI⟩ := id C
  have hD : ∀ σ : Sg, va_D (s_A ad 27 s.heap.size) ((s_WC cy ad) σ) := fun σ => s_D (s_WC_ad cy ad σ) hI (fun k hk => Or.inl ⟨k, hk, rfl⟩)
  unfold fJ0_isLatin1_aae02 at hf
  refine va_gets hx hb hE.2.2.2.1 hS hown (hts _ kw_332) (fun _ h9 => h9) dJ0_isLatin1_aae02_0 ?_
  refine lv_if_eq (tgt := 17) hx hb dJ0_isLatin1_aae02_3 (by decide) (fun c1 => ?_) (fun c1 => ?_)
  · rw [if_pos c1] at hf
    exact kJ0_isLatin1_aae02_b17 C σ _ _ _ (lv_sub hl [] rfl) hP hS hf
  · rw [if_neg c1] at hf
    refine lv_aload_n hx hb dJ0_isLatin1_aae02_6 rfl (lv_at hl 0 rfl) ?_
    refine vk_getf hx hb (hE.2.2.1.1 0 (by decide)).2.1 hS hown (hts _ kw_1156) (fun _ h9 => h9) dJ0_isLatin1_aae02_7 ?_
    refine W.eq (g2 := F0 m 10 ls [.int (0 : Int32)]) rfl ?_
    refine lv_if_ne (tgt := 17) hx hb dJ0_isLatin1_aae02_10 (by decide) (fun c2 => ?_) (fun c2 => ?_)
    · rw [if_neg c2] at hf
      exact kJ0_isLatin1_aae02_b17 C σ _ _ _ (lv_sub hl [] rfl) hP hS hf
    · rw [if_pos c2] at hf
      refine lv_iconst (v := 1) hx hb dJ0_isLatin1_aae02_13 (by decide) ?_
      refine lv_goto (tgt := 18) hx hb dJ0_isLatin1_aae02_14 (by decide) ?_
      obtain ⟨he1, he2⟩ := s_ret hf
      exact W.zret hx hb hr rfl (fun t ht hW => ⟨⟨_, (), rfl, he1, s_fin (Wd := (s_WC cy ad)) ht he2 hP⟩, hS.F ht⟩) hS.2.2 dJ0_isLatin1_aae02_18 hlk
theorem kcJ0_isLatin1_aae02 {l : Launch} {G : va_G} {cy : Nat → ClassId} {sa : Nat × Nat} {ad : Nat → Nat}  {sz : Nat} (hI : s_inj ad 27) (σ : Sg) {re : Int32} {σe : Sg} (hf : fJ0_isLatin1_aae02 σ = some (re, σe)) : Met l yJ0_isLatin1_aae02 (kW yJ0_isLatin1_aae02 cJ0_isLatin1_aae02 1 (some .boolean)) ({ frames := 0, cells := 0, slots := 0, locals := 0 } : Room) (s_P (s_WC cy ad) G cy sa ad 27 [.ref sa.1] sz σ) (s_Qi (s_WC cy ad) G (s_A ad 27 sz) re σe) 0 0 (s_A ad 27 sz) := by
  refine s_met (own := RJ0) (by decide) rfl hI (Nat.le_of_ble_eq_true rfl) (fun p e s m below meth c ls hsz C hP hl => ?_)
  subst hsz
  exact kJ0_isLatin1_aae02 C σ ls _ _ hl hP va_S.rf hf
set_option maxRecDepth 100000 in
set_option maxHeartbeats 4000000 in
theorem kJ0_length_8abf5 (C : s_X p s m meth c args cJ0_length_8abf5 (some .int) 1 RJ0 G cy sa ad 27) (σ : Sg) (ls : Array Slot) (H : Heap) (locs : List Loc) (hl : lv_has ls 1 [(0, .ref sa.1)]) (hP : va_P G vwCl ((s_WC cy ad) σ) H) (hS : va_S (s_A ad 27 s.heap.size) s.heap H locs) (hf : fJ0_length_8abf5 σ = some (re, σe)) : W p l e ({ frames := 1, cells := 0, slots := 0, locals := 20 } : Room) s m args below meth c H locs 0 0 (MQ below (s_Qi (s_WC cy ad) G (s_A ad 27 s.heap.size) re σe) args s 0 0 (s_A ad 27 s.heap.size)) (F0 m 0 ls []) := by
  obtain ⟨hx, hb, hr, hml, hown, hts, hlk, hK, hE, hI⟩ := id C
  have hD : ∀ σ : Sg, va_D (s_A ad 27 s.heap.size) ((s_WC cy ad) σ) := fun σ => s_D (s_WC_ad cy ad σ) hI (fun k hk => Or.inl ⟨k, hk, rfl⟩)
  unfold fJ0_length_8abf5 at hf
  refine lv_aload_n hx hb dJ0_length_8abf5_0 rfl (lv_at hl 0 rfl) ?_
  refine vk_getf hx hb (hE.2.2.1.1 0 (by decide)).2.2.1 hS hown (hts _ kw_1155) (fun _ h9 => h9) dJ0_length_8abf5_1 ?_
  refine W.eq (g2 := F0 m 4 ls [.ref sa.2]) rfl ?_
  refine va_tlen (v := 76) hx hb (hE.2.2.1.1 0 (by decide)).2.2.2 hS (by decide) dJ0_length_8abf5_4 ?_
  refine lv_aload_n hx hb dJ0_length_8abf5_5 rfl (lv_at hl 0 rfl) ?_
  replace hf := s_bi_some hf
  obtain ⟨r3, σ1, hz2, hf⟩ := hf
  refine s_calliR (nn := 0) C (kcJ0_coder_7d493 (l := l) (G := G) (cy := cy) (sa := sa) hI (sz := H.size) σ hz2) gk_J0_335 rfl rfl (by decide +kernel) ⟨Nat.le_of_ble_eq_true rfl, Nat.le_of_ble_eq_true rfl⟩ hP hS (vk_recv (i := 0) hE.2.2.1 (by decide) hS) (As := []) (rest := [.int (76 : Int32)]) rfl rfl hl.1 (Nat.le_of_ble_eq_true rfl) dJ0_length_8abf5_6 (fun H locs hP hS => ?_)
  refine lv_ishr hx hb dJ0_length_8abf5_9 ?_
  obtain ⟨he1, he2⟩ := s_ret hf
  exact W.iret hx hb hr (fun t ht hW => ⟨⟨_, (), rfl, he1, s_fin (Wd := (s_WC cy ad)) ht he2 hP⟩, hS.F ht⟩) hS.2.2 dJ0_length_8abf5_10 hlk
theorem kcJ0_length_8abf5 {l : Launch} {G : va_G} {cy : Nat → ClassId} {sa : Nat × Nat} {ad : Nat → Nat}  {sz : Nat} (hI : s_inj ad 27) (σ : Sg) {re : Int32} {σe : Sg} (hf : fJ0_length_8abf5 σ = some (re, σe)) : Met l yJ0_length_8abf5 (kW yJ0_length_8abf5 cJ0_length_8abf5 1 (some .int)) ({ frames := 1, cells := 0, slots := 0, locals := 20 } : Room) (s_P (s_WC cy ad) G cy sa ad 27 [.ref sa.1] sz σ) (s_Qi (s_WC cy ad) G (s_A ad 27 sz) re σe) 0 0 (s_A ad 27 sz) := by
  refine s_met (own := RJ0) (by decide) rfl hI (Nat.le_of_ble_eq_true rfl) (fun p e s m below meth c ls hsz C hP hl => ?_)
  subst hsz
  exact kJ0_length_8abf5 C σ ls _ _ hl hP va_S.rf hf
set_option maxRecDepth 100000 in
set_option maxHeartbeats 4000000 in
theorem kJ1_charAt_3b067 (C : s_X p s m meth c args cJ1_charAt_3b067 (some .char) 2 RJ1 G cy sa ad 27) (σ : Sg) (x1 : Int32) (ls : Array Slot) (H : Heap) (locs : List Loc) (hl : lv_has ls 2 [(0, .ref sa.2), (1, .int x1)]) (hP : va_P G vwCl ((s_WC cy ad) σ) H) (hS : va_S (s_A ad 27 s.heap.size) s.heap H locs) (hf : fJ1_charAt_3b067 σ x1 = some (re, σe)) : W p l e ({ frames := 2, cells := 0, slots := 0, locals := 43 } : Room) s m args below meth c H locs 0 0 (MQ below (s_Qi (s_WC cy ad) G (s_A ad 27 s.heap.size) re σe) args s 0 0 (s_A ad 27 s.heap.size)) (F0 m 0 ls []) := by
  obtain ⟨hx, hb, hr, hml, hown, hts, hlk, hK, hE, hI⟩ := id C
  have hD : ∀ σ : Sg, va_D (s_A ad 27 s.heap.size) ((s_WC cy ad) σ) := fun σ => s_D (s_WC_ad cy ad σ) hI (fun k hk => Or.inl ⟨k, hk, rfl⟩)
  unfold fJ1_charAt_3b067 at hf
  refine lv_iload_n hx hb dJ1_charAt_3b067_0 rfl (lv_at hl 1 rfl) ?_
  refine lv_aload_n hx hb dJ1_charAt_3b067_1 rfl (lv_at hl 0 rfl) ?_
  refine va_tlen (v := 76) hx hb (hE.2.2.1.1 0 (by decide)).2.2.2 hS (by decide) dJ1_charAt_3b067_2 ?_
  replace hf := s_bv_some hf
  obtain ⟨σ1, hz2, hf⟩ := hf
  refine s_callvS (nn := 2) C (kcJ0_checkIndex_df160 (l := l) (G := G) (cy := cy) (sa := sa) hI (sz := H.size) σ x1 (76 : Int32) hz2) gk_J1_9 rfl rfl (by decide +kernel) ⟨Nat.le_of_ble_eq_true rfl, Nat.le_of_ble_eq_true rfl⟩ hP hS (As := [.int x1, .int (76 : Int32)]) (rest := []) rfl rfl hl.1 (Nat.le_of_ble_eq_true rfl) dJ1_charAt_3b067_3 (fun H locs hP hS => ?_)
  refine lv_aload_n hx hb dJ1_charAt_3b067_6 rfl (lv_at hl 0 rfl) ?_
  refine lv_iload_n hx hb dJ1_charAt_3b067_7 rfl (lv_at hl 1 rfl) ?_
  replace hf := s_gd_some hf
  obtain ⟨g3, hf⟩ := hf
  refine va_tb (v := .int (s_byt.getD (Int32.toNatClampNeg x1) 0)) hx hb (hE.2.2.1.1 0 (by decide)).2.2.2 hS (s_in_of g3) rfl dJ1_charAt_3b067_8 ?_
  refine lv_sipush (v := 255) hx hb dJ1_charAt_3b067_9 (by decide) ?_
  refine lv_iand hx hb dJ1_charAt_3b067_12 ?_
  refine lv_i2c (v := (s_i2c ((s_byt.getD (Int32.toNatClampNeg x1) 0) &&& (255 : Int32)))) hx hb dJ1_charAt_3b067_13 rfl ?_
  replace hf := s_gd_some hf
  obtain ⟨g4, hf⟩ := hf
  obtain ⟨he1, he2⟩ := s_ret hf
  exact W.zret hx hb hr (s_c_nar g4) (fun t ht hW => ⟨⟨_, (), rfl, he1, s_fin (Wd := (s_WC cy ad)) ht he2 hP⟩, hS.F ht⟩) hS.2.2 dJ1_charAt_3b067_14 hlk
theorem kcJ1_charAt_3b067 {l : Launch} {G : va_G} {cy : Nat → ClassId} {sa : Nat × Nat} {ad : Nat → Nat}  {sz : Nat} (hI : s_inj ad 27) (σ : Sg) (x1 : Int32) {re : Int32} {σe : Sg} (hf : fJ1_charAt_3b067 σ x1 = some (re, σe)) : Met l yJ1_charAt_3b067 (kW yJ1_charAt_3b067 cJ1_charAt_3b067 2 (some .char)) ({ frames := 2, cells := 0, slots := 0, locals := 43 } : Room) (s_P (s_WC cy ad) G cy sa ad 27 [.ref sa.2, .int x1] sz σ) (s_Qi (s_WC cy ad) G (s_A ad 27 sz) re σe) 0 0 (s_A ad 27 sz) := by
  refine s_met (own := RJ1) (by decide) rfl hI (Nat.le_of_ble_eq_true rfl) (fun p e s m below meth c ls hsz C hP hl => ?_)
  subst hsz
  exact kJ1_charAt_3b067 C σ x1 ls _ _ hl hP va_S.rf hf
set_option maxRecDepth 100000 in
set_option maxHeartbeats 4000000 in
theorem kJ0_charAt_5068e (C : s_X p s m meth c args cJ0_charAt_5068e (some .char) 2 RJ0 G cy sa ad 27) (σ : Sg) (x1 : Int32) (ls : Array Slot) (H : Heap) (locs : List Loc) (hl : lv_has ls 2 [(0, .ref sa.1), (1, .int x1)]) (hP : va_P G vwCl ((s_WC cy ad) σ) H) (hS : va_S (s_A ad 27 s.heap.size) s.heap H locs) (hf : fJ0_charAt_5068e σ x1 = some (re, σe)) : W p l e ({ frames := 3, cells := 0, slots := 0, locals := 64 } : Room) s m args below meth c H locs 0 0 (MQ below (s_Qi (s_WC cy ad) G (s_A ad 27 s.heap.size) re σe) args s 0 0 (s_A ad 27 s.heap.size)) (F0 m 0 ls []) := by
  obtain ⟨hx, hb, hr, hml, hown, hts, hlk, hK, hE, hI⟩ := id C
  have hD : ∀ σ : Sg, va_D (s_A ad 27 s.heap.size) ((s_WC cy ad) σ) := fun σ => s_D (s_WC_ad cy ad σ) hI (fun k hk => Or.inl ⟨k, hk, rfl⟩)
  unfold fJ0_charAt_5068e at hf
  refine lv_aload_n hx hb dJ0_charAt_5068e_0 rfl (lv_at hl 0 rfl) ?_
  replace hf := s_bi_some hf
  obtain ⟨r3, σ1, hz2, hf⟩ := hf
  refine s_calliR (nn := 0) C (kcJ0_isLatin1_aae02 (l := l) (G := G) (cy := cy) (sa := sa) hI (sz := H.size) σ hz2) gk_J0_492 rfl rfl (by decide +kernel) ⟨Nat.le_of_ble_eq_true rfl, Nat.le_of_ble_eq_true rfl⟩ hP hS (vk_recv (i := 0) hE.2.2.1 (by decide) hS) (As := []) (rest := []) rfl rfl hl.1 (Nat.le_of_ble_eq_true rfl) dJ0_charAt_5068e_1 (fun H locs hP hS => ?_)
  refine lv_if_eq (tgt := 16) hx hb dJ0_charAt_5068e_4 (by decide) (fun c4 => ?_) (fun c4 => ?_)
  · rw [if_pos c4] at hf
    refine lv_aload_n hx hb dJ0_charAt_5068e_16 rfl (lv_at hl 0 rfl) ?_
    refine vk_getf hx hb (hE.2.2.1.1 0 (by decide)).2.2.1 hS hown (hts _ kw_1155) (fun _ h9 => h9) dJ0_charAt_5068e_17 ?_
    refine W.eq (g2 := F0 m 20 ls [.ref sa.2]) rfl ?_
    refine lv_iload_n hx hb dJ0_charAt_5068e_20 rfl (lv_at hl 1 rfl) ?_
    cases hf
  · rw [if_neg c4] at hf
    refine lv_aload_n hx hb dJ0_charAt_5068e_7 rfl (lv_at hl 0 rfl) ?_
    refine vk_getf hx hb (hE.2.2.1.1 0 (by decide)).2.2.1 hS hown (hts _ kw_1155) (fun _ h9 => h9) dJ0_charAt_5068e_8 ?_
    refine W.eq (g2 := F0 m 11 ls [.ref sa.2]) rfl ?_
    refine lv_iload_n hx hb dJ0_charAt_5068e_11 rfl (lv_at hl 1 rfl) ?_
    replace hf := s_bi_some hf
    obtain ⟨r7, σ5, hz6, hf⟩ := hf
    refine s_calliS (nn := 2) C (kcJ1_charAt_3b067 (l := l) (G := G) (cy := cy) (sa := sa) hI (sz := H.size) σ1 x1 hz6) gk_J0_495 rfl rfl (by decide +kernel) ⟨Nat.le_of_ble_eq_true rfl, Nat.le_of_ble_eq_true rfl⟩ hP hS (As := [.ref sa.2, .int x1]) (rest := []) rfl rfl hl.1 (Nat.le_of_ble_eq_true rfl) dJ0_charAt_5068e_12 (fun H locs hP hS => ?_)
    replace hf := s_gd_some hf
    obtain ⟨g8, hf⟩ := hf
    obtain ⟨he1, he2⟩ := s_ret hf
    exact W.zret hx hb hr (s_c_nar g8) (fun t ht hW => ⟨⟨_, (), rfl, he1, s_fin (Wd := (s_WC cy ad)) ht he2 hP⟩, hS.F ht⟩) hS.2.2 dJ0_charAt_5068e_15 hlk
theorem kcJ0_charAt_5068e {l : Launch} {G : va_G} {cy : Nat → ClassId} {sa : Nat × Nat} {ad : Nat → Nat}  {sz : Nat} (hI : s_inj ad 27) (σ : Sg) (x1 : Int32) {re : Int32} {σe : Sg} (hf : fJ0_charAt_5068e σ x1 = some (re, σe)) : Met l yJ0_charAt_5068e (kW yJ0_charAt_5068e cJ0_charAt_5068e 2 (some .char)) ({ frames := 3, cells := 0, slots := 0, locals := 64 } : Room) (s_P (s_WC cy ad) G cy sa ad 27 [.ref sa.1, .int x1] sz σ) (s_Qi (s_WC cy ad) G (s_A ad 27 sz) re σe) 0 0 (s_A ad 27 sz) := by
  refine s_met (own := RJ0) (by decide) rfl hI (Nat.le_of_ble_eq_true rfl) (fun p e s m below meth c ls hsz C hP hl => ?_)
  subst hsz
  exact kJ0_charAt_5068e C σ x1 ls _ _ hl hP va_S.rf hf
set_option maxRecDepth 100000 in
set_option maxHeartbeats 4000000 in
theorem kX3_isFull (C : s_X p s m meth c args cX3_isFull (some .boolean) 1 RX3 G cy sa ad 27) (σ : Sg) (ls : Array Slot) (H : Heap) (locs : List Loc) (hl : lv_has ls 1 [(0, .ref (ad 1))]) (hP : va_P G vwCl ((s_WC cy ad) σ) H) (hS : va_S (s_A ad 27 s.heap.size) s.heap H locs) (hf : fX3_isFull σ = some (re, σe)) : W p l e ({ frames := 0, cells := 0, slots := 0, locals := 0 } : Room) s m args below meth c H locs 0 0 (MQ below (s_Qi (s_WC cy ad) G (s_A ad 27 s.heap.size) re σe) args s 0 0 (s_A ad 27 s.heap.size)) (F0 m 0 ls []) := by
  obtain ⟨hx, hb, hr, hml, hown, hts, hlk, hK, hE, hI⟩ := id C
  have hD : ∀ σ : Sg, va_D (s_A ad 27 s.heap.size) ((s_WC cy ad) σ) := fun σ => s_D (s_WC_ad cy ad σ) hI (fun k hk => Or.inl ⟨k, hk, rfl⟩)
  unfold fX3_isFull at hf
  refine lv_aload_n hx hb dX3_isFull_0 rfl (lv_at hl 0 rfl) ?_
  refine va_get (D := G) (ci := 3) (v := .int (σ 1 1)) (C := RX3) (T := TX3) (N := 2) hx hb hts inkX3 hown hK hP 1 rfl rfl 1 (by decide) (hts _ kw_86) (fun _ h9 => h9) rfl dX3_isFull_1 ?_
  refine lv_sipush (v := 320) hx hb dX3_isFull_4 (by decide) ?_
  refine lv_icmp_lt (tgt := 14) hx hb dX3_isFull_7 (by decide) (fun c1 => ?_) (fun c1 => ?_)
  · rw [if_pos c1] at hf
    refine lv_iconst (v := 0) hx hb dX3_isFull_14 (by decide) ?_
    obtain ⟨he1, he2⟩ := s_ret hf
    exact W.zret hx hb hr rfl (fun t ht hW => ⟨⟨_, (), rfl, he1, s_fin (Wd := (s_WC cy ad)) ht he2 hP⟩, hS.F ht⟩) hS.2.2 dX3_isFull_15 hlk
  · rw [if_neg c1] at hf
    refine lv_iconst (v := 1) hx hb dX3_isFull_10 (by decide) ?_
    refine lv_goto (tgt := 15) hx hb dX3_isFull_11 (by decide) ?_
    obtain ⟨he1, he2⟩ := s_ret hf
    exact W.zret hx hb hr rfl (fun t ht hW => ⟨⟨_, (), rfl, he1, s_fin (Wd := (s_WC cy ad)) ht he2 hP⟩, hS.F ht⟩) hS.2.2 dX3_isFull_15 hlk
theorem kcX3_isFull {l : Launch} {G : va_G} {cy : Nat → ClassId} {sa : Nat × Nat} {ad : Nat → Nat}  {sz : Nat} (hI : s_inj ad 27) (σ : Sg) {re : Int32} {σe : Sg} (hf : fX3_isFull σ = some (re, σe)) : Met l yX3_isFull (kW yX3_isFull cX3_isFull 1 (some .boolean)) ({ frames := 0, cells := 0, slots := 0, locals := 0 } : Room) (s_P (s_WC cy ad) G cy sa ad 27 [.ref (ad 1)] sz σ) (s_Qi (s_WC cy ad) G (s_A ad 27 sz) re σe) 0 0 (s_A ad 27 sz) := by
  refine s_met (own := RX3) (by decide) rfl hI (Nat.le_of_ble_eq_true rfl) (fun p e s m below meth c ls hsz C hP hl => ?_)
  subst hsz
  exact kX3_isFull C σ ls _ _ hl hP va_S.rf hf
set_option maxRecDepth 100000 in
set_option maxHeartbeats 4000000 in
theorem kX3_append (C : s_X p s m meth c args cX3_append none 2 RX3 G cy sa ad 27) (σ : Sg) (x1 : Int32) (ls : Array Slot) (H : Heap) (locs : List Loc) (hl : lv_has ls 2 [(0, .ref (ad 1)), (1, .int x1)]) (hP : va_P G vwCl ((s_WC cy ad) σ) H) (hS : va_S (s_A ad 27 s.heap.size) s.heap H locs) (hf : fX3_append σ x1 = some σe) : W p l e ({ frames := 1, cells := 0, slots := 0, locals := 20 } : Room) s m args below meth c H locs 0 0 (MQ below (s_Qv (s_WC cy ad) G (s_A ad 27 s.heap.size) σe) args s 0 0 (s_A ad 27 s.heap.size)) (F0 m 0 ls []) := by
  obtain ⟨hx, hb, hr, hml, hown, hts, hlk, hK, hE, hI⟩ := id C
  have hD : ∀ σ : Sg, va_D (s_A ad 27 s.heap.size) ((s_WC cy ad) σ) := fun σ => s_D (s_WC_ad cy ad σ) hI (fun k hk => Or.inl ⟨k, hk, rfl⟩)
  unfold fX3_append at hf
  refine lv_aload_n hx hb dX3_append_0 rfl (lv_at hl 0 rfl) ?_
  replace hf := s_bi_some hf
  obtain ⟨r3, σ1, hz2, hf⟩ := hf
  refine s_calli (nn := 0) C (kcX3_isFull (l := l) (G := G) (cy := cy) (sa := sa) hI (sz := H.size) σ hz2) gk_X3_19 rfl rfl (by decide +kernel) ⟨Nat.le_of_ble_eq_true rfl, Nat.le_of_ble_eq_true rfl⟩ hP hS (q0 := 1) (ci := 3) rfl rfl rfl (As := []) (rest := []) rfl rfl hl.1 (Nat.le_of_ble_eq_true rfl) dX3_append_1 (fun H locs hP hS => ?_)
  refine lv_if_ne (tgt := 28) hx hb dX3_append_4 (by decide) (fun c4 => ?_) (fun c4 => ?_)
  · rw [if_neg c4] at hf
    have he2 := Option.some.inj hf
    exact W.vret hx hb hr (fun t ht hW => ⟨⟨(), rfl, trivial, s_fin (Wd := (s_WC cy ad)) ht he2 hP⟩, hS.F ht⟩) hS.2.2 dX3_append_28 hlk
  · rw [if_pos c4] at hf
    refine lv_aload_n hx hb dX3_append_7 rfl (lv_at hl 0 rfl) ?_
    refine va_get (D := G) (ci := 3) (v := .ref (ad 2)) (C := RX3) (T := TX3) (N := 2) hx hb hts inkX3 hown hK hP 1 rfl rfl 0 (by decide) (hts _ kw_85) (fun _ h9 => h9) rfl dX3_append_8 ?_
    refine lv_aload_n hx hb dX3_append_11 rfl (lv_at hl 0 rfl) ?_
    refine va_get (D := G) (ci := 3) (v := .int (σ1 1 1)) (C := RX3) (T := TX3) (N := 2) hx hb hts inkX3 hown hK hP 1 rfl rfl 1 (by decide) (hts _ kw_86) (fun _ h9 => h9) rfl dX3_append_12 ?_
    refine lv_iload_n hx hb dX3_append_15 rfl (lv_at hl 1 rfl) ?_
    refine lv_i2b (v := (Int8.toInt32 (Int32.toInt8 x1))) hx hb dX3_append_16 rfl ?_
    replace hf := s_gd_some hf
    obtain ⟨g5, hf⟩ := hf
    refine va_bast hx hb hK hP (hD _) hS 2 0 rfl rfl (s_in_of g5) dX3_append_17 (fun H locs hP _ hS => ?_)
    obtain ⟨σ6, eσ6⟩ : ∃ z : Sg, z = (s_up σ1 2 (Int32.toNatClampNeg (σ1 1 1)) (vp_nar .byte (Int8.toInt32 (Int32.toInt8 x1)))) := ⟨_, rfl⟩
    replace hf := s_lt_at eσ6 hf
    replace hP : va_P G vwCl ((s_WC cy ad) σ6) H := by rw [eσ6]; exact hP
    refine lv_aload_n hx hb dX3_append_18 rfl (lv_at hl 0 rfl) ?_
    refine lv_dup hx hb dX3_append_19 rfl ?_
    refine va_get (D := G) (ci := 3) (v := .int (σ6 1 1)) (C := RX3) (T := TX3) (N := 2) hx hb hts inkX3 hown hK hP 1 rfl rfl 1 (by decide) (hts _ kw_86) (fun _ h9 => h9) rfl dX3_append_20 ?_
    refine lv_iconst (v := 1) hx hb dX3_append_23 (by decide) ?_
    refine lv_iadd hx hb dX3_append_24 ?_
    refine va_put (D := G) (ci := 3) (v := .int ((σ6 1 1) + (1 : Int32))) (ty := .int) (C := RX3) (T := TX3) (N := 2) hx hb hts inkX3 tyX3 tyX3_ok nmX3 hown hK hP (hD _) hS 1 rfl rfl 1 (by decide) (hts _ kw_86) (fun _ h9 => h9) rfl (by decide +kernel) rfl rfl (Nat.le_of_ble_eq_true rfl) dX3_append_25 (fun H locs hP _ hS => ?_)
    obtain ⟨σ7, eσ7⟩ : ∃ z : Sg, z = (s_up σ6 1 1 ((σ6 1 1) + (1 : Int32))) := ⟨_, rfl⟩
    replace hf := s_lt_at eσ7 hf
    replace hP : va_P G vwCl ((s_WC cy ad) σ7) H := by rw [eσ7]; exact hP
    have he2 := Option.some.inj hf
    exact W.vret hx hb hr (fun t ht hW => ⟨⟨(), rfl, trivial, s_fin (Wd := (s_WC cy ad)) ht he2 hP⟩, hS.F ht⟩) hS.2.2 dX3_append_28 hlk
theorem kcX3_append {l : Launch} {G : va_G} {cy : Nat → ClassId} {sa : Nat × Nat} {ad : Nat → Nat}  {sz : Nat} (hI : s_inj ad 27) (σ : Sg) (x1 : Int32) {σe : Sg} (hf : fX3_append σ x1 = some σe) : Met l yX3_append (kW yX3_append cX3_append 2 none) ({ frames := 1, cells := 0, slots := 0, locals := 20 } : Room) (s_P (s_WC cy ad) G cy sa ad 27 [.ref (ad 1), .int x1] sz σ) (s_Qv (s_WC cy ad) G (s_A ad 27 sz) σe) 0 0 (s_A ad 27 sz) := by
  refine s_met (own := RX3) (by decide) rfl hI (Nat.le_of_ble_eq_true rfl) (fun p e s m below meth c ls hsz C hP hl => ?_)
  subst hsz
  exact kX3_append C σ x1 ls _ _ hl hP va_S.rf hf
set_option maxRecDepth 100000 in
set_option maxHeartbeats 4000000 in
theorem kX6_feed_b10 (C : s_X p s m meth c args cX6_feed (some .int) 2 RX6 G cy sa ad 27) (σ : Sg) (ls : Array Slot) (H : Heap) (locs : List Loc) (hl : lv_has ls 2 []) (hP : va_P G vwCl ((s_WC cy ad) σ) H) (hS : va_S (s_A ad 27 s.heap.size) s.heap H locs) (hf : fX6_feed_b10 σ = some (re, σe)) : W p l e ({ frames := 2, cells := 0, slots := 0, locals := 41 } : Room) s m args below meth c H locs 0 0 (MQ below (s_Qi (s_WC cy ad) G (s_A ad 27 s.heap.size) re σe) args s 0 0 (s_A ad 27 s.heap.size)) (F0 m 10 ls []) := by
  obtain ⟨hx, hb, hr, hml, hown, hts, hlk, hK, hE, hI⟩ := id C
  have hD : ∀ σ : Sg, va_D (s_A ad 27 s.heap.size) ((s_WC cy ad) σ) := fun σ => s_D (s_WC_ad cy ad σ) hI (fun k hk => Or.inl ⟨k, hk, rfl⟩)
  unfold fX6_feed_b10 at hf
  refine lv_iconst (v := -1) hx hb dX6_feed_10 (by decide) ?_
  obtain ⟨he1, he2⟩ := s_ret hf
  exact W.iret hx hb hr (fun t ht hW => ⟨⟨_, (), rfl, he1, s_fin (Wd := (s_WC cy ad)) ht he2 hP⟩, hS.F ht⟩) hS.2.2 dX6_feed_11 hlk
set_option maxRecDepth 100000 in
set_option maxHeartbeats 4000000 in
theorem kX6_feed (C : s_X p s m meth c args cX6_feed (some .int) 2 RX6 G cy sa ad 27) (σ : Sg) (x1 : Int32) (ls : Array Slot) (H : Heap) (locs : List Loc) (hl : lv_has ls 2 [(0, .ref (ad 0)), (1, .int x1)]) (hP : va_P G vwCl ((s_WC cy ad) σ) H) (hS : va_S (s_A ad 27 s.heap.size) s.heap H locs) (hf : fX6_feed σ x1 = some (re, σe)) : W p l e ({ frames := 2, cells := 0, slots := 0, locals := 41 } : Room) s m args below meth c H locs 0 0 (MQ below (s_Qi (s_WC cy ad) G (s_A ad 27 s.heap.size) re σe) args s 0 0 (s_A ad 27 s.heap.size)) (F0 m 0 ls []) := by
  obtain ⟨hx, hb, hr, hml, hown, hts, hlk, hK, hE, hI⟩ := id C
  have hD : ∀ σ : Sg, va_D (s_A ad 27 s.heap.size) ((s_WC cy ad) σ) := fun σ => s_D (s_WC_ad cy ad σ) hI (fun k hk => Or.inl ⟨k, hk, rfl⟩)
  unfold fX6_feed at hf
  refine lv_iload_n hx hb dX6_feed_0 rfl (lv_at hl 1 rfl) ?_
  refine lv_if_lt (tgt := 10) hx hb dX6_feed_1 (by decide) (fun c1 => ?_) (fun c1 => ?_)
  · rw [if_pos c1] at hf
    exact kX6_feed_b10 C σ _ _ _ (lv_sub hl [] rfl) hP hS hf
  · rw [if_neg c1] at hf
    refine lv_iload_n hx hb dX6_feed_4 rfl (lv_at hl 1 rfl) ?_
    refine lv_bipush (v := 127) hx hb dX6_feed_5 (by decide) ?_
    refine lv_icmp_le (tgt := 12) hx hb dX6_feed_7 (by decide) (fun c2 => ?_) (fun c2 => ?_)
    · rw [if_pos c2] at hf
      refine lv_aload_n hx hb dX6_feed_12 rfl (lv_at hl 0 rfl) ?_
      refine va_get (D := G) (ci := 6) (v := .ref (ad 1)) (C := RX6) (T := TX6) (N := 9) hx hb hts inkX6 hown hK hP 0 rfl rfl 0 (by decide) (hts _ kw_250) (fun _ h9 => h9) rfl dX6_feed_13 ?_
      replace hf := s_bi_some hf
      obtain ⟨r5, σ3, hz4, hf⟩ := hf
      refine s_calli (nn := 0) C (kcX3_isFull (l := l) (G := G) (cy := cy) (sa := sa) hI (sz := H.size) σ hz4) gk_X6_65 rfl rfl (by decide +kernel) ⟨Nat.le_of_ble_eq_true rfl, Nat.le_of_ble_eq_true rfl⟩ hP hS (q0 := 1) (ci := 3) rfl rfl rfl (As := []) (rest := []) rfl rfl hl.1 (Nat.le_of_ble_eq_true rfl) dX6_feed_16 (fun H locs hP hS => ?_)
      refine lv_if_eq (tgt := 25) hx hb dX6_feed_19 (by decide) (fun c6 => ?_) (fun c6 => ?_)
      · rw [if_pos c6] at hf
        refine lv_aload_n hx hb dX6_feed_25 rfl (lv_at hl 0 rfl) ?_
        refine va_get (D := G) (ci := 6) (v := .ref (ad 1)) (C := RX6) (T := TX6) (N := 9) hx hb hts inkX6 hown hK hP 0 rfl rfl 0 (by decide) (hts _ kw_250) (fun _ h9 => h9) rfl dX6_feed_26 ?_
        refine lv_iload_n hx hb dX6_feed_29 rfl (lv_at hl 1 rfl) ?_
        replace hf := s_bv_some hf
        obtain ⟨σ7, hz8, hf⟩ := hf
        refine s_callv (nn := 1) C (kcX3_append (l := l) (G := G) (cy := cy) (sa := sa) hI (sz := H.size) σ3 x1 hz8) gk_X6_69 rfl rfl (by decide +kernel) ⟨Nat.le_of_ble_eq_true rfl, Nat.le_of_ble_eq_true rfl⟩ hP hS (q0 := 1) (ci := 3) rfl rfl rfl (As := [.int x1]) (rest := []) rfl rfl hl.1 (Nat.le_of_ble_eq_true rfl) dX6_feed_30 (fun H locs hP hS => ?_)
        refine lv_aload_n hx hb dX6_feed_33 rfl (lv_at hl 0 rfl) ?_
        refine va_get (D := G) (ci := 6) (v := .ref (ad 1)) (C := RX6) (T := TX6) (N := 9) hx hb hts inkX6 hown hK hP 0 rfl rfl 0 (by decide) (hts _ kw_250) (fun _ h9 => h9) rfl dX6_feed_34 ?_
        refine va_getN (D := G) (ci := 3) (v := .int (σ7 1 1)) (C := RX3) (T := TX3) (N := 2) hx hb hts inkX3 hown hK hP 1 rfl rfl 1 (by decide) (kn_X6_73 hE) (fun _ h9 => h9) rfl dX6_feed_37 ?_
        obtain ⟨he1, he2⟩ := s_ret hf
        exact W.iret hx hb hr (fun t ht hW => ⟨⟨_, (), rfl, he1, s_fin (Wd := (s_WC cy ad)) ht he2 hP⟩, hS.F ht⟩) hS.2.2 dX6_feed_40 hlk
      · rw [if_neg c6] at hf
        refine lv_bipush (v := -3) hx hb dX6_feed_22 (by decide) ?_
        obtain ⟨he1, he2⟩ := s_ret hf
        exact W.iret hx hb hr (fun t ht hW => ⟨⟨_, (), rfl, he1, s_fin (Wd := (s_WC cy ad)) ht he2 hP⟩, hS.F ht⟩) hS.2.2 dX6_feed_24 hlk
    · rw [if_neg c2] at hf
      exact kX6_feed_b10 C σ _ _ _ (lv_sub hl [] rfl) hP hS hf
theorem kcX6_feed {l : Launch} {G : va_G} {cy : Nat → ClassId} {sa : Nat × Nat} {ad : Nat → Nat}  {sz : Nat} (hI : s_inj ad 27) (σ : Sg) (x1 : Int32) {re : Int32} {σe : Sg} (hf : fX6_feed σ x1 = some (re, σe)) : Met l yX6_feed (kW yX6_feed cX6_feed 2 (some .int)) ({ frames := 2, cells := 0, slots := 0, locals := 41 } : Room) (s_P (s_WC cy ad) G cy sa ad 27 [.ref (ad 0), .int x1] sz σ) (s_Qi (s_WC cy ad) G (s_A ad 27 sz) re σe) 0 0 (s_A ad 27 sz) := by
  refine s_met (own := RX6) (by decide) rfl hI (Nat.le_of_ble_eq_true rfl) (fun p e s m below meth c ls hsz C hP hl => ?_)
  subst hsz
  exact kX6_feed C σ x1 ls _ _ hl hP va_S.rf hf
set_option maxRecDepth 100000 in
set_option maxHeartbeats 4000000 in
theorem kX6_end_b17 (C : s_X p s m meth c args cX6_end (some .int) 3 RX6 G cy sa ad 27) (σ : Sg) (ls : Array Slot) (H : Heap) (locs : List Loc) (hl : lv_has ls 3 []) (hP : va_P G vwCl ((s_WC cy ad) σ) H) (hS : va_S (s_A ad 27 s.heap.size) s.heap H locs) (hf : fX6_end_b17 σ = some (re, σe)) : W p l e ({ frames := 0, cells := 0, slots := 0, locals := 0 } : Room) s m args below meth c H locs 0 0 (MQ below (s_Qi (s_WC cy ad) G (s_A ad 27 s.heap.size) re σe) args s 0 0 (s_A ad 27 s.heap.size)) (F0 m 17 ls []) := by
  obtain ⟨hx, hb, hr, hml, hown, hts, hlk, hK, hE, hI⟩ := id C
  have hD : ∀ σ : Sg, va_D (s_A ad 27 s.heap.size) ((s_WC cy ad) σ) := fun σ => s_D (s_WC_ad cy ad σ) hI (fun k hk => Or.inl ⟨k, hk, rfl⟩)
  unfold fX6_end_b17 at hf
  refine lv_iconst (v := -1) hx hb dX6_end_17 (by decide) ?_
  obtain ⟨he1, he2⟩ := s_ret hf
  exact W.iret hx hb hr (fun t ht hW => ⟨⟨_, (), rfl, he1, s_fin (Wd := (s_WC cy ad)) ht he2 hP⟩, hS.F ht⟩) hS.2.2 dX6_end_18 hlk
set_option maxRecDepth 100000 in
set_option maxHeartbeats 4000000 in
theorem kX6_end (C : s_X p s m meth c args cX6_end (some .int) 3 RX6 G cy sa ad 27) (σ : Sg) (x1 : Int32) (ls : Array Slot) (H : Heap) (locs : List Loc) (hl : lv_has ls 3 [(0, .ref (ad 0)), (1, .int x1)]) (hP : va_P G vwCl ((s_WC cy ad) σ) H) (hS : va_S (s_A ad 27 s.heap.size) s.heap H locs) (hf : fX6_end σ x1 = some (re, σe)) : W p l e ({ frames := 0, cells := 0, slots := 0, locals := 0 } : Room) s m args below meth c H locs 0 0 (MQ below (s_Qi (s_WC cy ad) G (s_A ad 27 s.heap.size) re σe) args s 0 0 (s_A ad 27 s.heap.size)) (F0 m 0 ls []) := by
  obtain ⟨hx, hb, hr, hml, hown, hts, hlk, hK, hE, hI⟩ := id C
  have hD : ∀ σ : Sg, va_D (s_A ad 27 s.heap.size) ((s_WC cy ad) σ) := fun σ => s_D (s_WC_ad cy ad σ) hI (fun k hk => Or.inl ⟨k, hk, rfl⟩)
  unfold fX6_end at hf
  refine lv_aload_n hx hb dX6_end_0 rfl (lv_at hl 0 rfl) ?_
  refine va_get (D := G) (ci := 6) (v := .ref (ad 1)) (C := RX6) (T := TX6) (N := 9) hx hb hts inkX6 hown hK hP 0 rfl rfl 0 (by decide) (hts _ kw_250) (fun _ h9 => h9) rfl dX6_end_1 ?_
  refine va_getN (D := G) (ci := 3) (v := .int (σ 1 1)) (C := RX3) (T := TX3) (N := 2) hx hb hts inkX3 hown hK hP 1 rfl rfl 1 (by decide) (kn_X6_73 hE) (fun _ h9 => h9) rfl dX6_end_4 ?_
  refine lv_topi (fun t1 et1 => ?_)
  replace hf := s_lt_at et1 hf
  refine lv_istore_n (lv' := [(2, .int t1), (0, .ref (ad 0)), (1, .int x1)]) hx hb dX6_end_7 rfl hl (by decide) rfl (fun ls hl => ?_)
  refine lv_iload_n hx hb dX6_end_8 rfl (lv_at hl 2 rfl) ?_
  refine lv_if_lt (tgt := 17) hx hb dX6_end_9 (by decide) (fun c2 => ?_) (fun c2 => ?_)
  · rw [if_pos c2] at hf
    exact kX6_end_b17 C σ _ _ _ (lv_sub hl [] rfl) hP hS hf
  · rw [if_neg c2] at hf
    refine lv_iload_n hx hb dX6_end_12 rfl (lv_at hl 2 rfl) ?_
    refine lv_iload_n hx hb dX6_end_13 rfl (lv_at hl 0 rfl) ?_
    refine lv_icmp_le (tgt := 19) hx hb dX6_end_14 (by decide) (fun c3 => ?_) (fun c3 => ?_)
    · rw [if_pos c3] at hf
      refine lv_aload_n hx hb dX6_end_19 rfl (lv_at hl 1 rfl) ?_
      refine va_get (D := G) (ci := 6) (v := .ref (ad 1)) (C := RX6) (T := TX6) (N := 9) hx hb hts inkX6 hown hK hP 0 rfl rfl 0 (by decide) (hts _ kw_250) (fun _ h9 => h9) rfl dX6_end_20 ?_
      refine lv_iload_n hx hb dX6_end_23 rfl (lv_at hl 2 rfl) ?_
      refine va_putN (D := G) (ci := 3) (v := .int x1) (ty := .int) (C := RX3) (T := TX3) (N := 2) hx hb hts inkX3 tyX3 tyX3_ok nmX3 hown hK hP (hD _) hS 1 rfl rfl 1 (by decide) (kn_X6_73 hE) (fun _ h9 => h9) rfl (by decide +kernel) rfl rfl (Nat.le_of_ble_eq_true rfl) dX6_end_24 (fun H locs hP _ hS => ?_)
      obtain ⟨σ4, eσ4⟩ : ∃ z : Sg, z = (s_up σ 1 1 x1) := ⟨_, rfl⟩
      replace hf := s_lt_at eσ4 hf
      replace hP : va_P G vwCl ((s_WC cy ad) σ4) H := by rw [eσ4]; exact hP
      refine lv_iload_n hx hb dX6_end_27 rfl (lv_at hl 0 rfl) ?_
      obtain ⟨he1, he2⟩ := s_ret hf
      exact W.iret hx hb hr (fun t ht hW => ⟨⟨_, (), rfl, he1, s_fin (Wd := (s_WC cy ad)) ht he2 hP⟩, hS.F ht⟩) hS.2.2 dX6_end_28 hlk
    · rw [if_neg c3] at hf
      exact kX6_end_b17 C σ _ _ _ (lv_sub hl [] rfl) hP hS hf
theorem kcX6_end {l : Launch} {G : va_G} {cy : Nat → ClassId} {sa : Nat × Nat} {ad : Nat → Nat}  {sz : Nat} (hI : s_inj ad 27) (σ : Sg) (x1 : Int32) {re : Int32} {σe : Sg} (hf : fX6_end σ x1 = some (re, σe)) : Met l yX6_end (kW yX6_end cX6_end 3 (some .int)) ({ frames := 0, cells := 0, slots := 0, locals := 0 } : Room) (s_P (s_WC cy ad) G cy sa ad 27 [.ref (ad 0), .int x1] sz σ) (s_Qi (s_WC cy ad) G (s_A ad 27 sz) re σe) 0 0 (s_A ad 27 sz) := by
  refine s_met (own := RX6) (by decide) rfl hI (Nat.le_of_ble_eq_true rfl) (fun p e s m below meth c ls hsz C hP hl => ?_)
  subst hsz
  exact kX6_end C σ x1 ls _ _ hl hP va_S.rf hf
set_option maxRecDepth 100000 in
set_option maxHeartbeats 4000000 in
theorem kX1_reset_4 (C : s_X p s m meth c args cX1_reset none 1 RX1 G cy sa ad 27) (σ : Sg) (ls : Array Slot) (H : Heap) (locs : List Loc) (hl : lv_has ls 1 [(0, .ref (ad 4))]) (hP : va_P G vwCl ((s_WC cy ad) σ) H) (hS : va_S (s_A ad 27 s.heap.size) s.heap H locs) (hf : fX1_reset_4 σ = some σe) : W p l e ({ frames := 0, cells := 0, slots := 0, locals := 0 } : Room) s m args below meth c H locs 0 0 (MQ below (s_Qv (s_WC cy ad) G (s_A ad 27 s.heap.size) σe) args s 0 0 (s_A ad 27 s.heap.size)) (F0 m 0 ls []) := by
  obtain ⟨hx, hb, hr, hml, hown, hts, hlk, hK, hE, hI⟩ := id C
  have hD : ∀ σ : Sg, va_D (s_A ad 27 s.heap.size) ((s_WC cy ad) σ) := fun σ => s_D (s_WC_ad cy ad σ) hI (fun k hk => Or.inl ⟨k, hk, rfl⟩)
  unfold fX1_reset_4 at hf
  refine lv_aload_n hx hb dX1_reset_0 rfl (lv_at hl 0 rfl) ?_
  refine lv_iconst (v := 0) hx hb dX1_reset_1 (by decide) ?_
  refine va_put (D := G) (ci := 1) (v := .int (0 : Int32)) (ty := .int) (C := RX1) (T := TX1) (N := 8) hx hb hts inkX1 tyX1 tyX1_ok nmX1 hown hK hP (hD _) hS 4 rfl rfl 1 (by decide) (hts _ kw_112) (fun _ h9 => h9) rfl (by decide +kernel) rfl rfl (Nat.le_of_ble_eq_true rfl) dX1_reset_2 (fun H locs hP _ hS => ?_)
  obtain ⟨σ1, eσ1⟩ : ∃ z : Sg, z = (s_up σ 4 1 (0 : Int32)) := ⟨_, rfl⟩
  replace hf := s_lt_at eσ1 hf
  replace hP : va_P G vwCl ((s_WC cy ad) σ1) H := by rw [eσ1]; exact hP
  refine lv_aload_n hx hb dX1_reset_5 rfl (lv_at hl 0 rfl) ?_
  refine lv_iconst (v := 5) hx hb dX1_reset_6 (by decide) ?_
  refine va_put (D := G) (ci := 1) (v := .int (5 : Int32)) (ty := .int) (C := RX1) (T := TX1) (N := 8) hx hb hts inkX1 tyX1 tyX1_ok nmX1 hown hK hP (hD _) hS 4 rfl rfl 2 (by decide) (hts _ kw_115) (fun _ h9 => h9) rfl (by decide +kernel) rfl rfl (Nat.le_of_ble_eq_true rfl) dX1_reset_7 (fun H locs hP _ hS => ?_)
  obtain ⟨σ2, eσ2⟩ : ∃ z : Sg, z = (s_up σ1 4 2 (5 : Int32)) := ⟨_, rfl⟩
  replace hf := s_lt_at eσ2 hf
  replace hP : va_P G vwCl ((s_WC cy ad) σ2) H := by rw [eσ2]; exact hP
  refine lv_aload_n hx hb dX1_reset_10 rfl (lv_at hl 0 rfl) ?_
  refine lv_iconst (v := 1) hx hb dX1_reset_11 (by decide) ?_
  refine va_put (D := G) (ci := 1) (v := .int (1 : Int32)) (ty := .int) (C := RX1) (T := TX1) (N := 8) hx hb hts inkX1 tyX1 tyX1_ok nmX1 hown hK hP (hD _) hS 4 rfl rfl 3 (by decide) (hts _ kw_119) (fun _ h9 => h9) rfl (by decide +kernel) rfl rfl (Nat.le_of_ble_eq_true rfl) dX1_reset_12 (fun H locs hP _ hS => ?_)
  obtain ⟨σ3, eσ3⟩ : ∃ z : Sg, z = (s_up σ2 4 3 (1 : Int32)) := ⟨_, rfl⟩
  replace hf := s_lt_at eσ3 hf
  replace hP : va_P G vwCl ((s_WC cy ad) σ3) H := by rw [eσ3]; exact hP
  refine lv_aload_n hx hb dX1_reset_15 rfl (lv_at hl 0 rfl) ?_
  refine lv_iconst (v := 1) hx hb dX1_reset_16 (by decide) ?_
  refine va_put (D := G) (ci := 1) (v := .int (1 : Int32)) (ty := .int) (C := RX1) (T := TX1) (N := 8) hx hb hts inkX1 tyX1 tyX1_ok nmX1 hown hK hP (hD _) hS 4 rfl rfl 4 (by decide) (hts _ kw_123) (fun _ h9 => h9) rfl (by decide +kernel) rfl rfl (Nat.le_of_ble_eq_true rfl) dX1_reset_17 (fun H locs hP _ hS => ?_)
  obtain ⟨σ4, eσ4⟩ : ∃ z : Sg, z = (s_up σ3 4 4 (1 : Int32)) := ⟨_, rfl⟩
  replace hf := s_lt_at eσ4 hf
  replace hP : va_P G vwCl ((s_WC cy ad) σ4) H := by rw [eσ4]; exact hP
  refine lv_aload_n hx hb dX1_reset_20 rfl (lv_at hl 0 rfl) ?_
  refine lv_iconst (v := 2) hx hb dX1_reset_21 (by decide) ?_
  refine va_put (D := G) (ci := 1) (v := .int (2 : Int32)) (ty := .int) (C := RX1) (T := TX1) (N := 8) hx hb hts inkX1 tyX1 tyX1_ok nmX1 hown hK hP (hD _) hS 4 rfl rfl 5 (by decide) (hts _ kw_127) (fun _ h9 => h9) rfl (by decide +kernel) rfl rfl (Nat.le_of_ble_eq_true rfl) dX1_reset_22 (fun H locs hP _ hS => ?_)
  obtain ⟨σ5, eσ5⟩ : ∃ z : Sg, z = (s_up σ4 4 5 (2 : Int32)) := ⟨_, rfl⟩
  replace hf := s_lt_at eσ5 hf
  replace hP : va_P G vwCl ((s_WC cy ad) σ5) H := by rw [eσ5]; exact hP
  refine lv_aload_n hx hb dX1_reset_25 rfl (lv_at hl 0 rfl) ?_
  refine lv_iconst (v := 0) hx hb dX1_reset_26 (by decide) ?_
  refine va_put (D := G) (ci := 1) (v := .int (0 : Int32)) (ty := .int) (C := RX1) (T := TX1) (N := 8) hx hb hts inkX1 tyX1 tyX1_ok nmX1 hown hK hP (hD _) hS 4 rfl rfl 6 (by decide) (hts _ kw_131) (fun _ h9 => h9) rfl (by decide +kernel) rfl rfl (Nat.le_of_ble_eq_true rfl) dX1_reset_27 (fun H locs hP _ hS => ?_)
  obtain ⟨σ6, eσ6⟩ : ∃ z : Sg, z = (s_up σ5 4 6 (0 : Int32)) := ⟨_, rfl⟩
  replace hf := s_lt_at eσ6 hf
  replace hP : va_P G vwCl ((s_WC cy ad) σ6) H := by rw [eσ6]; exact hP
  refine lv_aload_n hx hb dX1_reset_30 rfl (lv_at hl 0 rfl) ?_
  refine lv_iconst (v := 0) hx hb dX1_reset_31 (by decide) ?_
  refine va_put (D := G) (ci := 1) (v := .int (0 : Int32)) (ty := .int) (C := RX1) (T := TX1) (N := 8) hx hb hts inkX1 tyX1 tyX1_ok nmX1 hown hK hP (hD _) hS 4 rfl rfl 7 (by decide) (hts _ kw_135) (fun _ h9 => h9) rfl (by decide +kernel) rfl rfl (Nat.le_of_ble_eq_true rfl) dX1_reset_32 (fun H locs hP _ hS => ?_)
  obtain ⟨σ7, eσ7⟩ : ∃ z : Sg, z = (s_up σ6 4 7 (0 : Int32)) := ⟨_, rfl⟩
  replace hf := s_lt_at eσ7 hf
  replace hP : va_P G vwCl ((s_WC cy ad) σ7) H := by rw [eσ7]; exact hP
  have he2 := Option.some.inj hf
  exact W.vret hx hb hr (fun t ht hW => ⟨⟨(), rfl, trivial, s_fin (Wd := (s_WC cy ad)) ht he2 hP⟩, hS.F ht⟩) hS.2.2 dX1_reset_35 hlk
theorem kcX1_reset_4 {l : Launch} {G : va_G} {cy : Nat → ClassId} {sa : Nat × Nat} {ad : Nat → Nat}  {sz : Nat} (hI : s_inj ad 27) (σ : Sg) {σe : Sg} (hf : fX1_reset_4 σ = some σe) : Met l yX1_reset (kW yX1_reset cX1_reset 1 none) ({ frames := 0, cells := 0, slots := 0, locals := 0 } : Room) (s_P (s_WC cy ad) G cy sa ad 27 [.ref (ad 4)] sz σ) (s_Qv (s_WC cy ad) G (s_A ad 27 sz) σe) 0 0 (s_A ad 27 sz) := by
  refine s_met (own := RX1) (by decide) rfl hI (Nat.le_of_ble_eq_true rfl) (fun p e s m below meth c ls hsz C hP hl => ?_)
  subst hsz
  exact kX1_reset_4 C σ ls _ _ hl hP va_S.rf hf
set_option maxRecDepth 100000 in
set_option maxHeartbeats 4000000 in
theorem kX3_byteAt_b21 (C : s_X p s m meth c args cX3_byteAt (some .int) 2 RX3 G cy sa ad 27) (σ : Sg) (ls : Array Slot) (H : Heap) (locs : List Loc) (hl : lv_has ls 2 []) (hP : va_P G vwCl ((s_WC cy ad) σ) H) (hS : va_S (s_A ad 27 s.heap.size) s.heap H locs) (hf : fX3_byteAt_b21 σ = some (re, σe)) : W p l e ({ frames := 0, cells := 0, slots := 0, locals := 0 } : Room) s m args below meth c H locs 0 0 (MQ below (s_Qi (s_WC cy ad) G (s_A ad 27 s.heap.size) re σe) args s 0 0 (s_A ad 27 s.heap.size)) (F0 m 21 ls []) := by
  obtain ⟨hx, hb, hr, hml, hown, hts, hlk, hK, hE, hI⟩ := id C
  have hD : ∀ σ : Sg, va_D (s_A ad 27 s.heap.size) ((s_WC cy ad) σ) := fun σ => s_D (s_WC_ad cy ad σ) hI (fun k hk => Or.inl ⟨k, hk, rfl⟩)
  unfold fX3_byteAt_b21 at hf
  refine lv_iconst (v := -1) hx hb dX3_byteAt_21 (by decide) ?_
  obtain ⟨he1, he2⟩ := s_ret hf
  exact W.iret hx hb hr (fun t ht hW => ⟨⟨_, (), rfl, he1, s_fin (Wd := (s_WC cy ad)) ht he2 hP⟩, hS.F ht⟩) hS.2.2 dX3_byteAt_22 hlk
set_option maxRecDepth 100000 in
set_option maxHeartbeats 4000000 in
theorem kX3_byteAt (C : s_X p s m meth c args cX3_byteAt (some .int) 2 RX3 G cy sa ad 27) (σ : Sg) (x1 : Int32) (ls : Array Slot) (H : Heap) (locs : List Loc) (hl : lv_has ls 2 [(0, .ref (ad 1)), (1, .int x1)]) (hP : va_P G vwCl ((s_WC cy ad) σ) H) (hS : va_S (s_A ad 27 s.heap.size) s.heap H locs) (hf : fX3_byteAt σ x1 = some (re, σe)) : W p l e ({ frames := 0, cells := 0, slots := 0, locals := 0 } : Room) s m args below meth c H locs 0 0 (MQ below (s_Qi (s_WC cy ad) G (s_A ad 27 s.heap.size) re σe) args s 0 0 (s_A ad 27 s.heap.size)) (F0 m 0 ls []) := by
  obtain ⟨hx, hb, hr, hml, hown, hts, hlk, hK, hE, hI⟩ := id C
  have hD : ∀ σ : Sg, va_D (s_A ad 27 s.heap.size) ((s_WC cy ad) σ) := fun σ => s_D (s_WC_ad cy ad σ) hI (fun k hk => Or.inl ⟨k, hk, rfl⟩)
  unfold fX3_byteAt at hf
  refine lv_iload_n hx hb dX3_byteAt_0 rfl (lv_at hl 1 rfl) ?_
  refine lv_if_lt (tgt := 21) hx hb dX3_byteAt_1 (by decide) (fun c1 => ?_) (fun c1 => ?_)
  · rw [if_pos c1] at hf
    exact kX3_byteAt_b21 C σ _ _ _ (lv_sub hl [] rfl) hP hS hf
  · rw [if_neg c1] at hf
    refine lv_iload_n hx hb dX3_byteAt_4 rfl (lv_at hl 1 rfl) ?_
    refine lv_aload_n hx hb dX3_byteAt_5 rfl (lv_at hl 0 rfl) ?_
    refine va_get (D := G) (ci := 3) (v := .int (σ 1 1)) (C := RX3) (T := TX3) (N := 2) hx hb hts inkX3 hown hK hP 1 rfl rfl 1 (by decide) (hts _ kw_86) (fun _ h9 => h9) rfl dX3_byteAt_6 ?_
    refine lv_icmp_ge (tgt := 21) hx hb dX3_byteAt_9 (by decide) (fun c2 => ?_) (fun c2 => ?_)
    · rw [if_pos c2] at hf
      exact kX3_byteAt_b21 C σ _ _ _ (lv_sub hl [] rfl) hP hS hf
    · rw [if_neg c2] at hf
      refine lv_aload_n hx hb dX3_byteAt_12 rfl (lv_at hl 0 rfl) ?_
      refine va_get (D := G) (ci := 3) (v := .ref (ad 2)) (C := RX3) (T := TX3) (N := 2) hx hb hts inkX3 hown hK hP 1 rfl rfl 0 (by decide) (hts _ kw_85) (fun _ h9 => h9) rfl dX3_byteAt_13 ?_
      refine lv_iload_n hx hb dX3_byteAt_16 rfl (lv_at hl 1 rfl) ?_
      replace hf := s_gd_some hf
      obtain ⟨g3, hf⟩ := hf
      refine va_bald hx hb hK hP 2 0 rfl rfl (s_in_of g3) dX3_byteAt_17 ?_
      refine lv_goto (tgt := 22) hx hb dX3_byteAt_18 (by decide) ?_
      obtain ⟨he1, he2⟩ := s_ret hf
      exact W.iret hx hb hr (fun t ht hW => ⟨⟨_, (), rfl, he1, s_fin (Wd := (s_WC cy ad)) ht he2 hP⟩, hS.F ht⟩) hS.2.2 dX3_byteAt_22 hlk
theorem kcX3_byteAt {l : Launch} {G : va_G} {cy : Nat → ClassId} {sa : Nat × Nat} {ad : Nat → Nat}  {sz : Nat} (hI : s_inj ad 27) (σ : Sg) (x1 : Int32) {re : Int32} {σe : Sg} (hf : fX3_byteAt σ x1 = some (re, σe)) : Met l yX3_byteAt (kW yX3_byteAt cX3_byteAt 2 (some .int)) ({ frames := 0, cells := 0, slots := 0, locals := 0 } : Room) (s_P (s_WC cy ad) G cy sa ad 27 [.ref (ad 1), .int x1] sz σ) (s_Qi (s_WC cy ad) G (s_A ad 27 sz) re σe) 0 0 (s_A ad 27 sz) := by
  refine s_met (own := RX3) (by decide) rfl hI (Nat.le_of_ble_eq_true rfl) (fun p e s m below meth c ls hsz C hP hl => ?_)
  subst hsz
  exact kX3_byteAt C σ x1 ls _ _ hl hP va_S.rf hf
set_option maxRecDepth 100000 in
set_option maxHeartbeats 4000000 in
theorem kX4_isLetter_b16 (C : s_X p s m meth c args cX4_isLetter (some .boolean) 1 RX4 G cy sa ad 27) (σ : Sg) (ls : Array Slot) (H : Heap) (locs : List Loc) (hl : lv_has ls 1 []) (hP : va_P G vwCl ((s_WC cy ad) σ) H) (hS : va_S (s_A ad 27 s.heap.size) s.heap H locs) (hf : fX4_isLetter_b16 σ = some (re, σe)) : W p l e ({ frames := 0, cells := 0, slots := 0, locals := 0 } : Room) s m args below meth c H locs 0 0 (MQ below (s_Qi (s_WC cy ad) G (s_A ad 27 s.heap.size) re σe) args s 0 0 (s_A ad 27 s.heap.size)) (F0 m 16 ls []) := by
  obtain ⟨hx, hb, hr, hml, hown, hts, hlk, hK, hE, hI⟩ := id C
  have hD : ∀ σ : Sg, va_D (s_A ad 27 s.heap.size) ((s_WC cy ad) σ) := fun σ => s_D (s_WC_ad cy ad σ) hI (fun k hk => Or.inl ⟨k, hk, rfl⟩)
  unfold fX4_isLetter_b16 at hf
  refine lv_iconst (v := 0) hx hb dX4_isLetter_16 (by decide) ?_
  obtain ⟨he1, he2⟩ := s_ret hf
  exact W.zret hx hb hr rfl (fun t ht hW => ⟨⟨_, (), rfl, he1, s_fin (Wd := (s_WC cy ad)) ht he2 hP⟩, hS.F ht⟩) hS.2.2 dX4_isLetter_17 hlk
set_option maxRecDepth 100000 in
set_option maxHeartbeats 4000000 in
theorem kX4_isLetter (C : s_X p s m meth c args cX4_isLetter (some .boolean) 1 RX4 G cy sa ad 27) (σ : Sg) (x0 : Int32) (ls : Array Slot) (H : Heap) (locs : List Loc) (hl : lv_has ls 1 [(0, .int x0)]) (hP : va_P G vwCl ((s_WC cy ad) σ) H) (hS : va_S (s_A ad 27 s.heap.size) s.heap H locs) (hf : fX4_isLetter σ x0 = some (re, σe)) : W p l e ({ frames := 0, cells := 0, slots := 0, locals := 0 } : Room) s m args below meth c H locs 0 0 (MQ below (s_Qi (s_WC cy ad) G (s_A ad 27 s.heap.size) re σe) args s 0 0 (s_A ad 27 s.heap.size)) (F0 m 0 ls []) := by
  obtain ⟨hx, hb, hr, hml, hown, hts, hlk, hK, hE, hI⟩ := id C
  have hD : ∀ σ : Sg, va_D (s_A ad 27 s.heap.size) ((s_WC cy ad) σ) := fun σ => s_D (s_WC_ad cy ad σ) hI (fun k hk => Or.inl ⟨k, hk, rfl⟩)
  unfold fX4_isLetter at hf
  refine lv_iload_n hx hb dX4_isLetter_0 rfl (lv_at hl 0 rfl) ?_
  refine lv_bipush (v := 97) hx hb dX4_isLetter_1 (by decide) ?_
  refine lv_icmp_lt (tgt := 16) hx hb dX4_isLetter_3 (by decide) (fun c1 => ?_) (fun c1 => ?_)
  · rw [if_pos c1] at hf
    exact kX4_isLetter_b16 C σ _ _ _ (lv_sub hl [] rfl) hP hS hf
  · rw [if_neg c1] at hf
    refine lv_iload_n hx hb dX4_isLetter_6 rfl (lv_at hl 0 rfl) ?_
    refine lv_bipush (v := 122) hx hb dX4_isLetter_7 (by decide) ?_
    refine lv_icmp_gt (tgt := 16) hx hb dX4_isLetter_9 (by decide) (fun c2 => ?_) (fun c2 => ?_)
    · rw [if_pos c2] at hf
      exact kX4_isLetter_b16 C σ _ _ _ (lv_sub hl [] rfl) hP hS hf
    · rw [if_neg c2] at hf
      refine lv_iconst (v := 1) hx hb dX4_isLetter_12 (by decide) ?_
      refine lv_goto (tgt := 17) hx hb dX4_isLetter_13 (by decide) ?_
      obtain ⟨he1, he2⟩ := s_ret hf
      exact W.zret hx hb hr rfl (fun t ht hW => ⟨⟨_, (), rfl, he1, s_fin (Wd := (s_WC cy ad)) ht he2 hP⟩, hS.F ht⟩) hS.2.2 dX4_isLetter_17 hlk
theorem kcX4_isLetter {l : Launch} {G : va_G} {cy : Nat → ClassId} {sa : Nat × Nat} {ad : Nat → Nat}  {sz : Nat} (hI : s_inj ad 27) (σ : Sg) (x0 : Int32) {re : Int32} {σe : Sg} (hf : fX4_isLetter σ x0 = some (re, σe)) : Met l yX4_isLetter (kW yX4_isLetter cX4_isLetter 1 (some .boolean)) ({ frames := 0, cells := 0, slots := 0, locals := 0 } : Room) (s_P (s_WC cy ad) G cy sa ad 27 [.int x0] sz σ) (s_Qi (s_WC cy ad) G (s_A ad 27 sz) re σe) 0 0 (s_A ad 27 sz) := by
  refine s_met (own := RX4) (by decide) rfl hI (Nat.le_of_ble_eq_true rfl) (fun p e s m below meth c ls hsz C hP hl => ?_)
  subst hsz
  exact kX4_isLetter C σ x0 ls _ _ hl hP va_S.rf hf
set_option maxRecDepth 100000 in
set_option maxHeartbeats 4000000 in
theorem kX4_isFigure_b16 (C : s_X p s m meth c args cX4_isFigure (some .boolean) 1 RX4 G cy sa ad 27) (σ : Sg) (ls : Array Slot) (H : Heap) (locs : List Loc) (hl : lv_has ls 1 []) (hP : va_P G vwCl ((s_WC cy ad) σ) H) (hS : va_S (s_A ad 27 s.heap.size) s.heap H locs) (hf : fX4_isFigure_b16 σ = some (re, σe)) : W p l e ({ frames := 0, cells := 0, slots := 0, locals := 0 } : Room) s m args below meth c H locs 0 0 (MQ below (s_Qi (s_WC cy ad) G (s_A ad 27 s.heap.size) re σe) args s 0 0 (s_A ad 27 s.heap.size)) (F0 m 16 ls []) := by
  obtain ⟨hx, hb, hr, hml, hown, hts, hlk, hK, hE, hI⟩ := id C
  have hD : ∀ σ : Sg, va_D (s_A ad 27 s.heap.size) ((s_WC cy ad) σ) := fun σ => s_D (s_WC_ad cy ad σ) hI (fun k hk => Or.inl ⟨k, hk, rfl⟩)
  unfold fX4_isFigure_b16 at hf
  refine lv_iconst (v := 0) hx hb dX4_isFigure_16 (by decide) ?_
  obtain ⟨he1, he2⟩ := s_ret hf
  exact W.zret hx hb hr rfl (fun t ht hW => ⟨⟨_, (), rfl, he1, s_fin (Wd := (s_WC cy ad)) ht he2 hP⟩, hS.F ht⟩) hS.2.2 dX4_isFigure_17 hlk
set_option maxRecDepth 100000 in
set_option maxHeartbeats 4000000 in
theorem kX4_isFigure (C : s_X p s m meth c args cX4_isFigure (some .boolean) 1 RX4 G cy sa ad 27) (σ : Sg) (x0 : Int32) (ls : Array Slot) (H : Heap) (locs : List Loc) (hl : lv_has ls 1 [(0, .int x0)]) (hP : va_P G vwCl ((s_WC cy ad) σ) H) (hS : va_S (s_A ad 27 s.heap.size) s.heap H locs) (hf : fX4_isFigure σ x0 = some (re, σe)) : W p l e ({ frames := 0, cells := 0, slots := 0, locals := 0 } : Room) s m args below meth c H locs 0 0 (MQ below (s_Qi (s_WC cy ad) G (s_A ad 27 s.heap.size) re σe) args s 0 0 (s_A ad 27 s.heap.size)) (F0 m 0 ls []) := by
  obtain ⟨hx, hb, hr, hml, hown, hts, hlk, hK, hE, hI⟩ := id C
  have hD : ∀ σ : Sg, va_D (s_A ad 27 s.heap.size) ((s_WC cy ad) σ) := fun σ => s_D (s_WC_ad cy ad σ) hI (fun k hk => Or.inl ⟨k, hk, rfl⟩)
  unfold fX4_isFigure at hf
  refine lv_iload_n hx hb dX4_isFigure_0 rfl (lv_at hl 0 rfl) ?_
  refine lv_bipush (v := 48) hx hb dX4_isFigure_1 (by decide) ?_
  refine lv_icmp_lt (tgt := 16) hx hb dX4_isFigure_3 (by decide) (fun c1 => ?_) (fun c1 => ?_)
  · rw [if_pos c1] at hf
    exact kX4_isFigure_b16 C σ _ _ _ (lv_sub hl [] rfl) hP hS hf
  · rw [if_neg c1] at hf
    refine lv_iload_n hx hb dX4_isFigure_6 rfl (lv_at hl 0 rfl) ?_
    refine lv_bipush (v := 57) hx hb dX4_isFigure_7 (by decide) ?_
    refine lv_icmp_gt (tgt := 16) hx hb dX4_isFigure_9 (by decide) (fun c2 => ?_) (fun c2 => ?_)
    · rw [if_pos c2] at hf
      exact kX4_isFigure_b16 C σ _ _ _ (lv_sub hl [] rfl) hP hS hf
    · rw [if_neg c2] at hf
      refine lv_iconst (v := 1) hx hb dX4_isFigure_12 (by decide) ?_
      refine lv_goto (tgt := 17) hx hb dX4_isFigure_13 (by decide) ?_
      obtain ⟨he1, he2⟩ := s_ret hf
      exact W.zret hx hb hr rfl (fun t ht hW => ⟨⟨_, (), rfl, he1, s_fin (Wd := (s_WC cy ad)) ht he2 hP⟩, hS.F ht⟩) hS.2.2 dX4_isFigure_17 hlk
theorem kcX4_isFigure {l : Launch} {G : va_G} {cy : Nat → ClassId} {sa : Nat × Nat} {ad : Nat → Nat}  {sz : Nat} (hI : s_inj ad 27) (σ : Sg) (x0 : Int32) {re : Int32} {σe : Sg} (hf : fX4_isFigure σ x0 = some (re, σe)) : Met l yX4_isFigure (kW yX4_isFigure cX4_isFigure 1 (some .boolean)) ({ frames := 0, cells := 0, slots := 0, locals := 0 } : Room) (s_P (s_WC cy ad) G cy sa ad 27 [.int x0] sz σ) (s_Qi (s_WC cy ad) G (s_A ad 27 sz) re σe) 0 0 (s_A ad 27 sz) := by
  refine s_met (own := RX4) (by decide) rfl hI (Nat.le_of_ble_eq_true rfl) (fun p e s m below meth c ls hsz C hP hl => ?_)
  subst hsz
  exact kX4_isFigure C σ x0 ls _ _ hl hP va_S.rf hf
set_option maxRecDepth 100000 in
set_option maxHeartbeats 4000000 in
theorem kX4_refuse (C : s_X p s m meth c args cX4_refuse none 2 RX4 G cy sa ad 27) (σ : Sg) (x1 : Int32) (ls : Array Slot) (H : Heap) (locs : List Loc) (hl : lv_has ls 2 [(0, .ref (ad 3)), (1, .int x1)]) (hP : va_P G vwCl ((s_WC cy ad) σ) H) (hS : va_S (s_A ad 27 s.heap.size) s.heap H locs) (hf : fX4_refuse σ x1 = some σe) : W p l e ({ frames := 0, cells := 0, slots := 0, locals := 0 } : Room) s m args below meth c H locs 0 0 (MQ below (s_Qv (s_WC cy ad) G (s_A ad 27 s.heap.size) σe) args s 0 0 (s_A ad 27 s.heap.size)) (F0 m 0 ls []) := by
  obtain ⟨hx, hb, hr, hml, hown, hts, hlk, hK, hE, hI⟩ := id C
  have hD : ∀ σ : Sg, va_D (s_A ad 27 s.heap.size) ((s_WC cy ad) σ) := fun σ => s_D (s_WC_ad cy ad σ) hI (fun k hk => Or.inl ⟨k, hk, rfl⟩)
  unfold fX4_refuse at hf
  refine lv_aload_n hx hb dX4_refuse_0 rfl (lv_at hl 0 rfl) ?_
  refine lv_iload_n hx hb dX4_refuse_1 rfl (lv_at hl 1 rfl) ?_
  refine va_put (D := G) (ci := 4) (v := .int x1) (ty := .int) (C := RX4) (T := TX4) (N := 12) hx hb hts inkX4 tyX4 tyX4_ok nmX4 hown hK hP (hD _) hS 3 rfl rfl 10 (by decide) (hts _ kw_167) (fun _ h9 => h9) rfl (by decide +kernel) rfl rfl (Nat.le_of_ble_eq_true rfl) dX4_refuse_2 (fun H locs hP _ hS => ?_)
  obtain ⟨σ1, eσ1⟩ : ∃ z : Sg, z = (s_up σ 3 10 x1) := ⟨_, rfl⟩
  replace hf := s_lt_at eσ1 hf
  replace hP : va_P G vwCl ((s_WC cy ad) σ1) H := by rw [eσ1]; exact hP
  refine lv_aload_n hx hb dX4_refuse_5 rfl (lv_at hl 0 rfl) ?_
  refine lv_aload_n hx hb dX4_refuse_6 rfl (lv_at hl 0 rfl) ?_
  refine va_get (D := G) (ci := 4) (v := .int (σ1 3 6)) (C := RX4) (T := TX4) (N := 12) hx hb hts inkX4 hown hK hP 3 rfl rfl 6 (by decide) (hts _ kw_163) (fun _ h9 => h9) rfl dX4_refuse_7 ?_
  refine va_put (D := G) (ci := 4) (v := .int (σ1 3 6)) (ty := .int) (C := RX4) (T := TX4) (N := 12) hx hb hts inkX4 tyX4 tyX4_ok nmX4 hown hK hP (hD _) hS 3 rfl rfl 11 (by decide) (hts _ kw_169) (fun _ h9 => h9) rfl (by decide +kernel) rfl rfl (Nat.le_of_ble_eq_true rfl) dX4_refuse_10 (fun H locs hP _ hS => ?_)
  obtain ⟨σ2, eσ2⟩ : ∃ z : Sg, z = (s_up σ1 3 11 (σ1 3 6)) := ⟨_, rfl⟩
  replace hf := s_lt_at eσ2 hf
  replace hP : va_P G vwCl ((s_WC cy ad) σ2) H := by rw [eσ2]; exact hP
  have he2 := Option.some.inj hf
  exact W.vret hx hb hr (fun t ht hW => ⟨⟨(), rfl, trivial, s_fin (Wd := (s_WC cy ad)) ht he2 hP⟩, hS.F ht⟩) hS.2.2 dX4_refuse_13 hlk
theorem kcX4_refuse {l : Launch} {G : va_G} {cy : Nat → ClassId} {sa : Nat × Nat} {ad : Nat → Nat}  {sz : Nat} (hI : s_inj ad 27) (σ : Sg) (x1 : Int32) {σe : Sg} (hf : fX4_refuse σ x1 = some σe) : Met l yX4_refuse (kW yX4_refuse cX4_refuse 2 none) ({ frames := 0, cells := 0, slots := 0, locals := 0 } : Room) (s_P (s_WC cy ad) G cy sa ad 27 [.ref (ad 3), .int x1] sz σ) (s_Qv (s_WC cy ad) G (s_A ad 27 sz) σe) 0 0 (s_A ad 27 sz) := by
  refine s_met (own := RX4) (by decide) rfl hI (Nat.le_of_ble_eq_true rfl) (fun p e s m below meth c ls hsz C hP hl => ?_)
  subst hsz
  exact kX4_refuse C σ x1 ls _ _ hl hP va_S.rf hf
set_option maxRecDepth 100000 in
set_option maxHeartbeats 4000000 in
theorem kX4_scanNumber_b84 (C : s_X p s m meth c args cX4_scanNumber none 2 RX4 G cy sa ad 27) (σ : Sg) (ls : Array Slot) (H : Heap) (locs : List Loc) (hl : lv_has ls 2 [(0, .ref (ad 3))]) (hP : va_P G vwCl ((s_WC cy ad) σ) H) (hS : va_S (s_A ad 27 s.heap.size) s.heap H locs) (hf : fX4_scanNumber_b84 σ = some σe) : W p l e ({ frames := 1, cells := 0, slots := 0, locals := 21 } : Room) s m args below meth c H locs 0 0 (MQ below (s_Qv (s_WC cy ad) G (s_A ad 27 s.heap.size) σe) args s 0 0 (s_A ad 27 s.heap.size)) (F0 m 84 ls []) := by
  obtain ⟨hx, hb, hr, hml, hown, hts, hlk, hK, hE, hI⟩ := id C
  have hD : ∀ σ : Sg, va_D (s_A ad 27 s.heap.size) ((s_WC cy ad) σ) := fun σ => s_D (s_WC_ad cy ad σ) hI (fun k hk => Or.inl ⟨k, hk, rfl⟩)
  unfold fX4_scanNumber_b84 at hf
  refine lv_aload_n hx hb dX4_scanNumber_84 rfl (lv_at hl 0 rfl) ?_
  refine va_get (D := G) (ci := 4) (v := .int (σ 3 7)) (C := RX4) (T := TX4) (N := 12) hx hb hts inkX4 hown hK hP 3 rfl rfl 7 (by decide) (hts _ kw_164) (fun _ h9 => h9) rfl dX4_scanNumber_85 ?_
  refine lv_aload_n hx hb dX4_scanNumber_88 rfl (lv_at hl 0 rfl) ?_
  refine va_get (D := G) (ci := 4) (v := .int (σ 3 6)) (C := RX4) (T := TX4) (N := 12) hx hb hts inkX4 hown hK hP 3 rfl rfl 6 (by decide) (hts _ kw_163) (fun _ h9 => h9) rfl dX4_scanNumber_89 ?_
  refine lv_isub hx hb dX4_scanNumber_92 ?_
  refine lv_iconst (v := 4) hx hb dX4_scanNumber_93 (by decide) ?_
  refine lv_icmp_le (tgt := 102) hx hb dX4_scanNumber_94 (by decide) (fun c1 => ?_) (fun c1 => ?_)
  · rw [if_pos c1] at hf
    have he2 := Option.some.inj hf
    exact W.vret hx hb hr (fun t ht hW => ⟨⟨(), rfl, trivial, s_fin (Wd := (s_WC cy ad)) ht he2 hP⟩, hS.F ht⟩) hS.2.2 dX4_scanNumber_102 hlk
  · rw [if_neg c1] at hf
    refine lv_aload_n hx hb dX4_scanNumber_97 rfl (lv_at hl 0 rfl) ?_
    refine lv_iconst (v := 1) hx hb dX4_scanNumber_98 (by decide) ?_
    replace hf := s_bv_some hf
    obtain ⟨σ2, hz3, hf⟩ := hf
    refine s_callv (nn := 1) C (kcX4_refuse (l := l) (G := G) (cy := cy) (sa := sa) hI (sz := H.size) σ (1 : Int32) hz3) gk_X4_70 rfl rfl (by decide +kernel) ⟨Nat.le_of_ble_eq_true rfl, Nat.le_of_ble_eq_true rfl⟩ hP hS (q0 := 3) (ci := 4) rfl rfl rfl (As := [.int (1 : Int32)]) (rest := []) rfl rfl hl.1 (Nat.le_of_ble_eq_true rfl) dX4_scanNumber_99 (fun H locs hP hS => ?_)
    have he2 := Option.some.inj hf
    exact W.vret hx hb hr (fun t ht hW => ⟨⟨(), rfl, trivial, s_fin (Wd := (s_WC cy ad)) ht he2 hP⟩, hS.F ht⟩) hS.2.2 dX4_scanNumber_102 hlk
set_option maxRecDepth 100000 in
set_option maxHeartbeats 4000000 in
theorem kX4_scanNumber_b71 (C : s_X p s m meth c args cX4_scanNumber none 2 RX4 G cy sa ad 27) (k10 : Sg → Option Sg) (hk10 : ∀ (σ : Sg) (ls : Array Slot) (H : Heap) (locs : List Loc), lv_has ls 2 [(0, .ref (ad 3)), (1, .ref (ad 1))] → va_P G vwCl ((s_WC cy ad) σ) H → va_S (s_A ad 27 s.heap.size) s.heap H locs → k10 σ = some σe → W p l e ({ frames := 1, cells := 0, slots := 0, locals := 21 } : Room) s m args below meth c H locs 0 0 (MQ below (s_Qv (s_WC cy ad) G (s_A ad 27 s.heap.size) σe) args s 0 0 (s_A ad 27 s.heap.size)) (F0 m 10 ls [])) (σ : Sg) (ls : Array Slot) (H : Heap) (locs : List Loc) (hl : lv_has ls 2 [(0, .ref (ad 3)), (1, .ref (ad 1))]) (hP : va_P G vwCl ((s_WC cy ad) σ) H) (hS : va_S (s_A ad 27 s.heap.size) s.heap H locs) (hf : fX4_scanNumber_b71 k10 σ = some σe) : W p l e ({ frames := 1, cells := 0, slots := 0, locals := 21 } : Room) s m args below meth c H locs 0 0 (MQ below (s_Qv (s_WC cy ad) G (s_A ad 27 s.heap.size) σe) args s 0 0 (s_A ad 27 s.heap.size)) (F0 m 71 ls []) := by
  obtain ⟨hx, hb, hr, hml, hown, hts, hlk, hK, hE, hI⟩ := id C
  have hD : ∀ σ : Sg, va_D (s_A ad 27 s.heap.size) ((s_WC cy ad) σ) := fun σ => s_D (s_WC_ad cy ad σ) hI (fun k hk => Or.inl ⟨k, hk, rfl⟩)
  unfold fX4_scanNumber_b71 at hf
  refine lv_aload_n hx hb dX4_scanNumber_71 rfl (lv_at hl 0 rfl) ?_
  refine lv_dup hx hb dX4_scanNumber_72 rfl ?_
  refine va_get (D := G) (ci := 4) (v := .int (σ 3 7)) (C := RX4) (T := TX4) (N := 12) hx hb hts inkX4 hown hK hP 3 rfl rfl 7 (by decide) (hts _ kw_164) (fun _ h9 => h9) rfl dX4_scanNumber_73 ?_
  refine lv_iconst (v := 1) hx hb dX4_scanNumber_76 (by decide) ?_
  refine lv_iadd hx hb dX4_scanNumber_77 ?_
  refine va_put (D := G) (ci := 4) (v := .int ((σ 3 7) + (1 : Int32))) (ty := .int) (C := RX4) (T := TX4) (N := 12) hx hb hts inkX4 tyX4 tyX4_ok nmX4 hown hK hP (hD _) hS 3 rfl rfl 7 (by decide) (hts _ kw_164) (fun _ h9 => h9) rfl (by decide +kernel) rfl rfl (Nat.le_of_ble_eq_true rfl) dX4_scanNumber_78 (fun H locs hP _ hS => ?_)
  obtain ⟨σ1, eσ1⟩ : ∃ z : Sg, z = (s_up σ 3 7 ((σ 3 7) + (1 : Int32))) := ⟨_, rfl⟩
  replace hf := s_lt_at eσ1 hf
  replace hP : va_P G vwCl ((s_WC cy ad) σ1) H := by rw [eσ1]; exact hP
  refine lv_goto (tgt := 10) hx hb dX4_scanNumber_81 (by decide) ?_
  exact hk10 σ1 _ _ _ (lv_sub hl [0, 1] rfl) hP hS hf
set_option maxRecDepth 100000 in
set_option maxHeartbeats 4000000 in
theorem kX4_scanNumber_b10 (C : s_X p s m meth c args cX4_scanNumber none 2 RX4 G cy sa ad 27) (k10 : Sg → Option Sg) (hk10 : ∀ (σ : Sg) (ls : Array Slot) (H : Heap) (locs : List Loc), lv_has ls 2 [(0, .ref (ad 3)), (1, .ref (ad 1))] → va_P G vwCl ((s_WC cy ad) σ) H → va_S (s_A ad 27 s.heap.size) s.heap H locs → k10 σ = some σe → W p l e ({ frames := 1, cells := 0, slots := 0, locals := 21 } : Room) s m args below meth c H locs 0 0 (MQ below (s_Qv (s_WC cy ad) G (s_A ad 27 s.heap.size) σe) args s 0 0 (s_A ad 27 s.heap.size)) (F0 m 10 ls [])) (σ : Sg) (ls : Array Slot) (H : Heap) (locs : List Loc) (hl : lv_has ls 2 [(0, .ref (ad 3)), (1, .ref (ad 1))]) (hP : va_P G vwCl ((s_WC cy ad) σ) H) (hS : va_S (s_A ad 27 s.heap.size) s.heap H locs) (hf : fX4_scanNumber_b10 k10 σ = some σe) : W p l e ({ frames := 1, cells := 0, slots := 0, locals := 21 } : Room) s m args below meth c H locs 0 0 (MQ below (s_Qv (s_WC cy ad) G (s_A ad 27 s.heap.size) σe) args s 0 0 (s_A ad 27 s.heap.size)) (F0 m 10 ls []) := by
  obtain ⟨hx, hb, hr, hml, hown, hts, hlk, hK, hE, hI⟩ := id C
  have hD : ∀ σ : Sg, va_D (s_A ad 27 s.heap.size) ((s_WC cy ad) σ) := fun σ => s_D (s_WC_ad cy ad σ) hI (fun k hk => Or.inl ⟨k, hk, rfl⟩)
  unfold fX4_scanNumber_b10 at hf
  refine lv_aload_n hx hb dX4_scanNumber_10 rfl (lv_at hl 0 rfl) ?_
  refine va_get (D := G) (ci := 4) (v := .int (σ 3 7)) (C := RX4) (T := TX4) (N := 12) hx hb hts inkX4 hown hK hP 3 rfl rfl 7 (by decide) (hts _ kw_164) (fun _ h9 => h9) rfl dX4_scanNumber_11 ?_
  refine lv_aload_n hx hb dX4_scanNumber_14 rfl (lv_at hl 1 rfl) ?_
  refine va_getN (D := G) (ci := 3) (v := .int (σ 1 1)) (C := RX3) (T := TX3) (N := 2) hx hb hts inkX3 hown hK hP 1 rfl rfl 1 (by decide) (kn_X4_134 hE) (fun _ h9 => h9) rfl dX4_scanNumber_15 ?_
  refine lv_icmp_ge (tgt := 84) hx hb dX4_scanNumber_18 (by decide) (fun c1 => ?_) (fun c1 => ?_)
  · rw [if_pos c1] at hf
    exact kX4_scanNumber_b84 C σ _ _ _ (lv_sub hl [0] rfl) hP hS hf
  · rw [if_neg c1] at hf
    refine lv_aload_n hx hb dX4_scanNumber_21 rfl (lv_at hl 1 rfl) ?_
    refine lv_aload_n hx hb dX4_scanNumber_22 rfl (lv_at hl 0 rfl) ?_
    refine va_get (D := G) (ci := 4) (v := .int (σ 3 7)) (C := RX4) (T := TX4) (N := 12) hx hb hts inkX4 hown hK hP 3 rfl rfl 7 (by decide) (hts _ kw_164) (fun _ h9 => h9) rfl dX4_scanNumber_23 ?_
    replace hf := s_bi_some hf
    obtain ⟨r4, σ2, hz3, hf⟩ := hf
    refine s_calli (nn := 1) C (kcX3_byteAt (l := l) (G := G) (cy := cy) (sa := sa) hI (sz := H.size) σ (σ 3 7) hz3) gk_X4_60 rfl rfl (by decide +kernel) ⟨Nat.le_of_ble_eq_true rfl, Nat.le_of_ble_eq_true rfl⟩ hP hS (q0 := 1) (ci := 3) rfl rfl rfl (As := [.int (σ 3 7)]) (rest := []) rfl rfl hl.1 (Nat.le_of_ble_eq_true rfl) dX4_scanNumber_26 (fun H locs hP hS => ?_)
    replace hf := s_bi_some hf
    obtain ⟨r7, σ5, hz6, hf⟩ := hf
    refine s_calliS (nn := 1) C (kcX4_isFigure (l := l) (G := G) (cy := cy) (sa := sa) hI (sz := H.size) σ2 r4 hz6) gk_X4_144 rfl rfl (by decide +kernel) ⟨Nat.le_of_ble_eq_true rfl, Nat.le_of_ble_eq_true rfl⟩ hP hS (As := [.int r4]) (rest := []) rfl rfl hl.1 (Nat.le_of_ble_eq_true rfl) dX4_scanNumber_29 (fun H locs hP hS => ?_)
    refine lv_if_eq (tgt := 84) hx hb dX4_scanNumber_32 (by decide) (fun c8 => ?_) (fun c8 => ?_)
    · rw [if_pos c8] at hf
      exact kX4_scanNumber_b84 C σ5 _ _ _ (lv_sub hl [0] rfl) hP hS hf
    · rw [if_neg c8] at hf
      refine lv_aload_n hx hb dX4_scanNumber_35 rfl (lv_at hl 0 rfl) ?_
      refine va_get (D := G) (ci := 4) (v := .int (σ5 3 7)) (C := RX4) (T := TX4) (N := 12) hx hb hts inkX4 hown hK hP 3 rfl rfl 7 (by decide) (hts _ kw_164) (fun _ h9 => h9) rfl dX4_scanNumber_36 ?_
      refine lv_aload_n hx hb dX4_scanNumber_39 rfl (lv_at hl 0 rfl) ?_
      refine va_get (D := G) (ci := 4) (v := .int (σ5 3 6)) (C := RX4) (T := TX4) (N := 12) hx hb hts inkX4 hown hK hP 3 rfl rfl 6 (by decide) (hts _ kw_163) (fun _ h9 => h9) rfl dX4_scanNumber_40 ?_
      refine lv_isub hx hb dX4_scanNumber_43 ?_
      refine lv_iconst (v := 4) hx hb dX4_scanNumber_44 (by decide) ?_
      refine lv_icmp_ge (tgt := 71) hx hb dX4_scanNumber_45 (by decide) (fun c9 => ?_) (fun c9 => ?_)
      · rw [if_pos c9] at hf
        exact kX4_scanNumber_b71 C k10 hk10 σ5 _ _ _ (lv_sub hl [0, 1] rfl) hP hS hf
      · rw [if_neg c9] at hf
        refine lv_aload_n hx hb dX4_scanNumber_48 rfl (lv_at hl 0 rfl) ?_
        refine lv_bipush (v := 10) hx hb dX4_scanNumber_49 (by decide) ?_
        refine lv_aload_n hx hb dX4_scanNumber_51 rfl (lv_at hl 0 rfl) ?_
        refine va_get (D := G) (ci := 4) (v := .int (σ5 3 9)) (C := RX4) (T := TX4) (N := 12) hx hb hts inkX4 hown hK hP 3 rfl rfl 9 (by decide) (hts _ kw_166) (fun _ h9 => h9) rfl dX4_scanNumber_52 ?_
        refine lv_imul hx hb dX4_scanNumber_55 ?_
        refine lv_aload_n hx hb dX4_scanNumber_56 rfl (lv_at hl 1 rfl) ?_
        refine lv_aload_n hx hb dX4_scanNumber_57 rfl (lv_at hl 0 rfl) ?_
        refine va_get (D := G) (ci := 4) (v := .int (σ5 3 7)) (C := RX4) (T := TX4) (N := 12) hx hb hts inkX4 hown hK hP 3 rfl rfl 7 (by decide) (hts _ kw_164) (fun _ h9 => h9) rfl dX4_scanNumber_58 ?_
        replace hf := s_bi_some hf
        obtain ⟨r12, σ10, hz11, hf⟩ := hf
        refine s_calli (nn := 1) C (kcX3_byteAt (l := l) (G := G) (cy := cy) (sa := sa) hI (sz := H.size) σ5 (σ5 3 7) hz11) gk_X4_60 rfl rfl (by decide +kernel) ⟨Nat.le_of_ble_eq_true rfl, Nat.le_of_ble_eq_true rfl⟩ hP hS (q0 := 1) (ci := 3) rfl rfl rfl (As := [.int (σ5 3 7)]) (rest := [.int ((10 : Int32) * (σ5 3 9)), .ref (ad 3)]) rfl rfl hl.1 (Nat.le_of_ble_eq_true rfl) dX4_scanNumber_61 (fun H locs hP hS => ?_)
        refine lv_iadd hx hb dX4_scanNumber_64 ?_
        refine lv_bipush (v := 48) hx hb dX4_scanNumber_65 (by decide) ?_
        refine lv_isub hx hb dX4_scanNumber_67 ?_
        refine va_put (D := G) (ci := 4) (v := .int ((((10 : Int32) * (σ5 3 9)) + r12) - (48 : Int32))) (ty := .int) (C := RX4) (T := TX4) (N := 12) hx hb hts inkX4 tyX4 tyX4_ok nmX4 hown hK hP (hD _) hS 3 rfl rfl 9 (by decide) (hts _ kw_166) (fun _ h9 => h9) rfl (by decide +kernel) rfl rfl (Nat.le_of_ble_eq_true rfl) dX4_scanNumber_68 (fun H locs hP _ hS => ?_)
        obtain ⟨σ13, eσ13⟩ : ∃ z : Sg, z = (s_up σ10 3 9 ((((10 : Int32) * (σ5 3 9)) + r12) - (48 : Int32))) := ⟨_, rfl⟩
        replace hf := s_lt_at eσ13 hf
        replace hP : va_P G vwCl ((s_WC cy ad) σ13) H := by rw [eσ13]; exact hP
        exact kX4_scanNumber_b71 C k10 hk10 σ13 _ _ _ (lv_sub hl [0, 1] rfl) hP hS hf
set_option maxRecDepth 100000 in
set_option maxHeartbeats 4000000 in
theorem kX4_scanNumber_b10_L (C : s_X p s m meth c args cX4_scanNumber none 2 RX4 G cy sa ad 27) : ∀ (n : Nat), ∀ (σ : Sg) (ls : Array Slot) (H : Heap) (locs : List Loc), lv_has ls 2 [(0, .ref (ad 3)), (1, .ref (ad 1))] → va_P G vwCl ((s_WC cy ad) σ) H → va_S (s_A ad 27 s.heap.size) s.heap H locs → fX4_scanNumber_b10_L n σ = some σe → W p l e ({ frames := 1, cells := 0, slots := 0, locals := 21 } : Room) s m args below meth c H locs 0 0 (MQ below (s_Qv (s_WC cy ad) G (s_A ad 27 s.heap.size) σe) args s 0 0 (s_A ad 27 s.heap.size)) (F0 m 10 ls []) := by
  intro n
  induction n with
  | zero => intro σ  ls H locs hl hP hS hf; exact absurd (show (none : Option Sg) = some σe from hf) (by intro h; cases h)
  | succ n ih => intro σ  ls H locs hl hP hS hf; exact kX4_scanNumber_b10 C (fX4_scanNumber_b10_L n) ih σ  ls H locs hl hP hS hf
set_option maxRecDepth 100000 in
set_option maxHeartbeats 4000000 in
theorem kX4_scanNumber (C : s_X p s m meth c args cX4_scanNumber none 2 RX4 G cy sa ad 27) (σ : Sg) (ls : Array Slot) (H : Heap) (locs : List Loc) (hl : lv_has ls 2 [(0, .ref (ad 3)), (1, .ref (ad 1))]) (hP : va_P G vwCl ((s_WC cy ad) σ) H) (hS : va_S (s_A ad 27 s.heap.size) s.heap H locs) (hf : fX4_scanNumber σ = some σe) : W p l e ({ frames := 1, cells := 0, slots := 0, locals := 21 } : Room) s m args below meth c H locs 0 0 (MQ below (s_Qv (s_WC cy ad) G (s_A ad 27 s.heap.size) σe) args s 0 0 (s_A ad 27 s.heap.size)) (F0 m 0 ls []) := by
  obtain ⟨hx, hb, hr, hml, hown, hts, hlk, hK, hE, hI⟩ := id C
  have hD : ∀ σ : Sg, va_D (s_A ad 27 s.heap.size) ((s_WC cy ad) σ) := fun σ => s_D (s_WC_ad cy ad σ) hI (fun k hk => Or.inl ⟨k, hk, rfl⟩)
  unfold fX4_scanNumber at hf
  refine lv_aload_n hx hb dX4_scanNumber_0 rfl (lv_at hl 0 rfl) ?_
  refine lv_iconst (v := 2) hx hb dX4_scanNumber_1 (by decide) ?_
  refine va_put (D := G) (ci := 4) (v := .int (2 : Int32)) (ty := .int) (C := RX4) (T := TX4) (N := 12) hx hb hts inkX4 tyX4 tyX4_ok nmX4 hown hK hP (hD _) hS 3 rfl rfl 5 (by decide) (hts _ kw_162) (fun _ h9 => h9) rfl (by decide +kernel) rfl rfl (Nat.le_of_ble_eq_true rfl) dX4_scanNumber_2 (fun H locs hP _ hS => ?_)
  obtain ⟨σ1, eσ1⟩ : ∃ z : Sg, z = (s_up σ 3 5 (2 : Int32)) := ⟨_, rfl⟩
  replace hf := s_lt_at eσ1 hf
  replace hP : va_P G vwCl ((s_WC cy ad) σ1) H := by rw [eσ1]; exact hP
  refine lv_aload_n hx hb dX4_scanNumber_5 rfl (lv_at hl 0 rfl) ?_
  refine lv_iconst (v := 0) hx hb dX4_scanNumber_6 (by decide) ?_
  refine va_put (D := G) (ci := 4) (v := .int (0 : Int32)) (ty := .int) (C := RX4) (T := TX4) (N := 12) hx hb hts inkX4 tyX4 tyX4_ok nmX4 hown hK hP (hD _) hS 3 rfl rfl 9 (by decide) (hts _ kw_166) (fun _ h9 => h9) rfl (by decide +kernel) rfl rfl (Nat.le_of_ble_eq_true rfl) dX4_scanNumber_7 (fun H locs hP _ hS => ?_)
  obtain ⟨σ2, eσ2⟩ : ∃ z : Sg, z = (s_up σ1 3 9 (0 : Int32)) := ⟨_, rfl⟩
  replace hf := s_lt_at eσ2 hf
  replace hP : va_P G vwCl ((s_WC cy ad) σ2) H := by rw [eσ2]; exact hP
  exact kX4_scanNumber_b10_L C s_fu σ2 _ _ _ (lv_sub hl [0, 1] rfl) hP hS hf
theorem kcX4_scanNumber {l : Launch} {G : va_G} {cy : Nat → ClassId} {sa : Nat × Nat} {ad : Nat → Nat}  {sz : Nat} (hI : s_inj ad 27) (σ : Sg) {σe : Sg} (hf : fX4_scanNumber σ = some σe) : Met l yX4_scanNumber (kW yX4_scanNumber cX4_scanNumber 2 none) ({ frames := 1, cells := 0, slots := 0, locals := 21 } : Room) (s_P (s_WC cy ad) G cy sa ad 27 [.ref (ad 3), .ref (ad 1)] sz σ) (s_Qv (s_WC cy ad) G (s_A ad 27 sz) σe) 0 0 (s_A ad 27 sz) := by
  refine s_met (own := RX4) (by decide) rfl hI (Nat.le_of_ble_eq_true rfl) (fun p e s m below meth c ls hsz C hP hl => ?_)
  subst hsz
  exact kX4_scanNumber C σ ls _ _ hl hP va_S.rf hf
set_option maxRecDepth 100000 in
set_option maxHeartbeats 4000000 in
theorem kX4_numberOfName_b101 (C : s_X p s m meth c args cX4_numberOfName (some .int) 7 RX4 G cy sa ad 27) (k13 : Sg → Int32 → Int32 → Int32 → Int32 → Option (Int32 × Sg)) (hk13 : ∀ (σ : Sg) (x2 : Int32) (x3 : Int32) (x4 : Int32) (x5 : Int32) (ls : Array Slot) (H : Heap) (locs : List Loc), lv_has ls 7 [(0, .ref (ad 3)), (1, .ref (ad 1)), (2, .int x2), (3, .int x3), (4, .int x4), (5, .int x5)] → va_P G vwCl ((s_WC cy ad) σ) H → va_S (s_A ad 27 s.heap.size) s.heap H locs → k13 σ x2 x3 x4 x5 = some (re, σe) → W p l e ({ frames := 4, cells := 0, slots := 0, locals := 85 } : Room) s m args below meth c H locs 0 0 (MQ below (s_Qi (s_WC cy ad) G (s_A ad 27 s.heap.size) re σe) args s 0 0 (s_A ad 27 s.heap.size)) (F0 m 13 ls [])) (σ : Sg) (x2 : Int32) (x3 : Int32) (x4 : Int32) (x5 : Int32) (ls : Array Slot) (H : Heap) (locs : List Loc) (hl : lv_has ls 7 [(0, .ref (ad 3)), (1, .ref (ad 1)), (2, .int x2), (3, .int x3), (4, .int x4), (5, .int x5)]) (hP : va_P G vwCl ((s_WC cy ad) σ) H) (hS : va_S (s_A ad 27 s.heap.size) s.heap H locs) (hf : fX4_numberOfName_b101 k13 σ x2 x3 x4 x5 = some (re, σe)) : W p l e ({ frames := 4, cells := 0, slots := 0, locals := 85 } : Room) s m args below meth c H locs 0 0 (MQ below (s_Qi (s_WC cy ad) G (s_A ad 27 s.heap.size) re σe) args s 0 0 (s_A ad 27 s.heap.size)) (F0 m 101 ls []) := by
  obtain ⟨hx, hb, hr, hml, hown, hts, hlk, hK, hE, hI⟩ := id C
  have hD : ∀ σ : Sg, va_D (s_A ad 27 s.heap.size) ((s_WC cy ad) σ) := fun σ => s_D (s_WC_ad cy ad σ) hI (fun k hk => Or.inl ⟨k, hk, rfl⟩)
  unfold fX4_numberOfName_b101 at hf
  obtain ⟨t1, et1⟩ : ∃ z : Int32, z = (x5 + 1) := ⟨_, rfl⟩
  replace hf := s_lt_at et1 hf
  refine lv_iinc (v := t1) (lv' := [(5, .int t1), (0, .ref (ad 3)), (1, .ref (ad 1)), (2, .int x2), (3, .int x3), (4, .int x4)]) hx hb dX4_numberOfName_101 hl (k := 5) rfl (by rw [et1]; rfl) (by decide) rfl (fun ls hl => ?_)
  refine lv_goto (tgt := 13) hx hb dX4_numberOfName_104 (by decide) ?_
  exact hk13 σ x2 x3 x4 t1 _ _ _ (lv_sub hl [1, 2, 3, 4, 5, 0] rfl) hP hS hf
set_option maxRecDepth 100000 in
set_option maxHeartbeats 4000000 in
theorem kX4_numberOfName_b90 (C : s_X p s m meth c args cX4_numberOfName (some .int) 7 RX4 G cy sa ad 27) (k13 : Sg → Int32 → Int32 → Int32 → Int32 → Option (Int32 × Sg)) (hk13 : ∀ (σ : Sg) (x2 : Int32) (x3 : Int32) (x4 : Int32) (x5 : Int32) (ls : Array Slot) (H : Heap) (locs : List Loc), lv_has ls 7 [(0, .ref (ad 3)), (1, .ref (ad 1)), (2, .int x2), (3, .int x3), (4, .int x4), (5, .int x5)] → va_P G vwCl ((s_WC cy ad) σ) H → va_S (s_A ad 27 s.heap.size) s.heap H locs → k13 σ x2 x3 x4 x5 = some (re, σe) → W p l e ({ frames := 4, cells := 0, slots := 0, locals := 85 } : Room) s m args below meth c H locs 0 0 (MQ below (s_Qi (s_WC cy ad) G (s_A ad 27 s.heap.size) re σe) args s 0 0 (s_A ad 27 s.heap.size)) (F0 m 13 ls [])) (σ : Sg) (x2 : Int32) (x5 : Int32) (ls : Array Slot) (H : Heap) (locs : List Loc) (hl : lv_has ls 7 [(0, .ref (ad 3)), (1, .ref (ad 1)), (2, .int x2), (5, .int x5)]) (hP : va_P G vwCl ((s_WC cy ad) σ) H) (hS : va_S (s_A ad 27 s.heap.size) s.heap H locs) (hf : fX4_numberOfName_b90 k13 σ x2 x5 = some (re, σe)) : W p l e ({ frames := 4, cells := 0, slots := 0, locals := 85 } : Room) s m args below meth c H locs 0 0 (MQ below (s_Qi (s_WC cy ad) G (s_A ad 27 s.heap.size) re σe) args s 0 0 (s_A ad 27 s.heap.size)) (F0 m 90 ls []) := by
  obtain ⟨hx, hb, hr, hml, hown, hts, hlk, hK, hE, hI⟩ := id C
  have hD : ∀ σ : Sg, va_D (s_A ad 27 s.heap.size) ((s_WC cy ad) σ) := fun σ => s_D (s_WC_ad cy ad σ) hI (fun k hk => Or.inl ⟨k, hk, rfl⟩)
  unfold fX4_numberOfName_b90 at hf
  obtain ⟨t1, et1⟩ : ∃ z : Int32, z = (x2 + 1) := ⟨_, rfl⟩
  replace hf := s_lt_at et1 hf
  refine lv_iinc (v := t1) (lv' := [(2, .int t1), (0, .ref (ad 3)), (1, .ref (ad 1)), (5, .int x5)]) hx hb dX4_numberOfName_90 hl (k := 2) rfl (by rw [et1]; rfl) (by decide) rfl (fun ls hl => ?_)
  refine lv_aload_n hx hb dX4_numberOfName_93 rfl (lv_at hl 1 rfl) ?_
  refine va_get (D := G) (ci := 4) (v := .int (σ 3 6)) (C := RX4) (T := TX4) (N := 12) hx hb hts inkX4 hown hK hP 3 rfl rfl 6 (by decide) (hts _ kw_163) (fun _ h9 => h9) rfl dX4_numberOfName_94 ?_
  refine lv_topi (fun t2 et2 => ?_)
  replace hf := s_lt_at et2 hf
  refine lv_istore_n (lv' := [(3, .int t2), (2, .int t1), (0, .ref (ad 3)), (1, .ref (ad 1)), (5, .int x5)]) hx hb dX4_numberOfName_97 rfl hl (by decide) rfl (fun ls hl => ?_)
  refine lv_iconst (v := 1) hx hb dX4_numberOfName_98 (by decide) ?_
  refine lv_istore (lv' := [(4, .int (1 : Int32)), (3, .int t2), (2, .int t1), (0, .ref (ad 3)), (1, .ref (ad 1)), (5, .int x5)]) hx hb dX4_numberOfName_99 hl (by decide) rfl (fun ls hl => ?_)
  exact kX4_numberOfName_b101 C k13 hk13 σ t1 t2 (1 : Int32) x5 _ _ _ (lv_sub hl [3, 4, 2, 1, 0, 5] rfl) hP hS hf
set_option maxRecDepth 100000 in
set_option maxHeartbeats 4000000 in
theorem kX4_numberOfName_b67 (C : s_X p s m meth c args cX4_numberOfName (some .int) 7 RX4 G cy sa ad 27) (k13 : Sg → Int32 → Int32 → Int32 → Int32 → Option (Int32 × Sg)) (hk13 : ∀ (σ : Sg) (x2 : Int32) (x3 : Int32) (x4 : Int32) (x5 : Int32) (ls : Array Slot) (H : Heap) (locs : List Loc), lv_has ls 7 [(0, .ref (ad 3)), (1, .ref (ad 1)), (2, .int x2), (3, .int x3), (4, .int x4), (5, .int x5)] → va_P G vwCl ((s_WC cy ad) σ) H → va_S (s_A ad 27 s.heap.size) s.heap H locs → k13 σ x2 x3 x4 x5 = some (re, σe) → W p l e ({ frames := 4, cells := 0, slots := 0, locals := 85 } : Room) s m args below meth c H locs 0 0 (MQ below (s_Qi (s_WC cy ad) G (s_A ad 27 s.heap.size) re σe) args s 0 0 (s_A ad 27 s.heap.size)) (F0 m 13 ls [])) (σ : Sg) (x2 : Int32) (x3 : Int32) (x5 : Int32) (y0 : Int32) (ls : Array Slot) (H : Heap) (locs : List Loc) (hl : lv_has ls 7 [(0, .ref (ad 3)), (1, .ref (ad 1)), (2, .int x2), (3, .int x3), (5, .int x5)]) (hP : va_P G vwCl ((s_WC cy ad) σ) H) (hS : va_S (s_A ad 27 s.heap.size) s.heap H locs) (hf : fX4_numberOfName_b67 k13 σ x2 x3 x5 y0 = some (re, σe)) : W p l e ({ frames := 4, cells := 0, slots := 0, locals := 85 } : Room) s m args below meth c H locs 0 0 (MQ below (s_Qi (s_WC cy ad) G (s_A ad 27 s.heap.size) re σe) args s 0 0 (s_A ad 27 s.heap.size)) (F0 m 67 ls [.int y0]) := by
  obtain ⟨hx, hb, hr, hml, hown, hts, hlk, hK, hE, hI⟩ := id C
  have hD : ∀ σ : Sg, va_D (s_A ad 27 s.heap.size) ((s_WC cy ad) σ) := fun σ => s_D (s_WC_ad cy ad σ) hI (fun k hk => Or.inl ⟨k, hk, rfl⟩)
  unfold fX4_numberOfName_b67 at hf
  refine lv_istore (lv' := [(4, .int y0), (0, .ref (ad 3)), (1, .ref (ad 1)), (2, .int x2), (3, .int x3), (5, .int x5)]) hx hb dX4_numberOfName_67 hl (by decide) rfl (fun ls hl => ?_)
  obtain ⟨t1, et1⟩ : ∃ z : Int32, z = (x3 + 1) := ⟨_, rfl⟩
  replace hf := s_lt_at et1 hf
  refine lv_iinc (v := t1) (lv' := [(3, .int t1), (4, .int y0), (0, .ref (ad 3)), (1, .ref (ad 1)), (2, .int x2), (5, .int x5)]) hx hb dX4_numberOfName_69 hl (k := 4) rfl (by rw [et1]; rfl) (by decide) rfl (fun ls hl => ?_)
  refine lv_goto (tgt := 101) hx hb dX4_numberOfName_72 (by decide) ?_
  exact kX4_numberOfName_b101 C k13 hk13 σ x2 t1 y0 x5 _ _ _ (lv_sub hl [2, 3, 4, 0, 1, 5] rfl) hP hS hf
set_option maxRecDepth 100000 in
set_option maxHeartbeats 4000000 in
theorem kX4_numberOfName_b66 (C : s_X p s m meth c args cX4_numberOfName (some .int) 7 RX4 G cy sa ad 27) (k13 : Sg → Int32 → Int32 → Int32 → Int32 → Option (Int32 × Sg)) (hk13 : ∀ (σ : Sg) (x2 : Int32) (x3 : Int32) (x4 : Int32) (x5 : Int32) (ls : Array Slot) (H : Heap) (locs : List Loc), lv_has ls 7 [(0, .ref (ad 3)), (1, .ref (ad 1)), (2, .int x2), (3, .int x3), (4, .int x4), (5, .int x5)] → va_P G vwCl ((s_WC cy ad) σ) H → va_S (s_A ad 27 s.heap.size) s.heap H locs → k13 σ x2 x3 x4 x5 = some (re, σe) → W p l e ({ frames := 4, cells := 0, slots := 0, locals := 85 } : Room) s m args below meth c H locs 0 0 (MQ below (s_Qi (s_WC cy ad) G (s_A ad 27 s.heap.size) re σe) args s 0 0 (s_A ad 27 s.heap.size)) (F0 m 13 ls [])) (σ : Sg) (x2 : Int32) (x3 : Int32) (x5 : Int32) (ls : Array Slot) (H : Heap) (locs : List Loc) (hl : lv_has ls 7 [(0, .ref (ad 3)), (1, .ref (ad 1)), (2, .int x2), (3, .int x3), (5, .int x5)]) (hP : va_P G vwCl ((s_WC cy ad) σ) H) (hS : va_S (s_A ad 27 s.heap.size) s.heap H locs) (hf : fX4_numberOfName_b66 k13 σ x2 x3 x5 = some (re, σe)) : W p l e ({ frames := 4, cells := 0, slots := 0, locals := 85 } : Room) s m args below meth c H locs 0 0 (MQ below (s_Qi (s_WC cy ad) G (s_A ad 27 s.heap.size) re σe) args s 0 0 (s_A ad 27 s.heap.size)) (F0 m 66 ls []) := by
  obtain ⟨hx, hb, hr, hml, hown, hts, hlk, hK, hE, hI⟩ := id C
  have hD : ∀ σ : Sg, va_D (s_A ad 27 s.heap.size) ((s_WC cy ad) σ) := fun σ => s_D (s_WC_ad cy ad σ) hI (fun k hk => Or.inl ⟨k, hk, rfl⟩)
  unfold fX4_numberOfName_b66 at hf
  refine lv_iconst (v := 0) hx hb dX4_numberOfName_66 (by decide) ?_
  exact kX4_numberOfName_b67 C k13 hk13 σ x2 x3 x5 (0 : Int32) _ _ _ (lv_sub hl [0, 1, 2, 3, 4] rfl) hP hS hf
set_option maxRecDepth 100000 in
set_option maxHeartbeats 4000000 in
theorem kX4_numberOfName_b13 (C : s_X p s m meth c args cX4_numberOfName (some .int) 7 RX4 G cy sa ad 27) (k13 : Sg → Int32 → Int32 → Int32 → Int32 → Option (Int32 × Sg)) (hk13 : ∀ (σ : Sg) (x2 : Int32) (x3 : Int32) (x4 : Int32) (x5 : Int32) (ls : Array Slot) (H : Heap) (locs : List Loc), lv_has ls 7 [(0, .ref (ad 3)), (1, .ref (ad 1)), (2, .int x2), (3, .int x3), (4, .int x4), (5, .int x5)] → va_P G vwCl ((s_WC cy ad) σ) H → va_S (s_A ad 27 s.heap.size) s.heap H locs → k13 σ x2 x3 x4 x5 = some (re, σe) → W p l e ({ frames := 4, cells := 0, slots := 0, locals := 85 } : Room) s m args below meth c H locs 0 0 (MQ below (s_Qi (s_WC cy ad) G (s_A ad 27 s.heap.size) re σe) args s 0 0 (s_A ad 27 s.heap.size)) (F0 m 13 ls [])) (σ : Sg) (x2 : Int32) (x3 : Int32) (x4 : Int32) (x5 : Int32) (ls : Array Slot) (H : Heap) (locs : List Loc) (hl : lv_has ls 7 [(0, .ref (ad 3)), (1, .ref (ad 1)), (2, .int x2), (3, .int x3), (4, .int x4), (5, .int x5)]) (hP : va_P G vwCl ((s_WC cy ad) σ) H) (hS : va_S (s_A ad 27 s.heap.size) s.heap H locs) (hf : fX4_numberOfName_b13 k13 σ x2 x3 x4 x5 = some (re, σe)) : W p l e ({ frames := 4, cells := 0, slots := 0, locals := 85 } : Room) s m args below meth c H locs 0 0 (MQ below (s_Qi (s_WC cy ad) G (s_A ad 27 s.heap.size) re σe) args s 0 0 (s_A ad 27 s.heap.size)) (F0 m 13 ls []) := by
  obtain ⟨hx, hb, hr, hml, hown, hts, hlk, hK, hE, hI⟩ := id C
  have hD : ∀ σ : Sg, va_D (s_A ad 27 s.heap.size) ((s_WC cy ad) σ) := fun σ => s_D (s_WC_ad cy ad σ) hI (fun k hk => Or.inl ⟨k, hk, rfl⟩)
  unfold fX4_numberOfName_b13 at hf
  refine lv_iload hx hb dX4_numberOfName_13 (lv_at hl 5 rfl) ?_
  refine va_ldcS hx hb hown hE.2.1 dX4_numberOfName_15 ?_
  replace hf := s_bi_some hf
  obtain ⟨r3, σ1, hz2, hf⟩ := hf
  refine s_calliR (nn := 0) C (kcJ0_length_8abf5 (l := l) (G := G) (cy := cy) (sa := sa) hI (sz := H.size) σ hz2) gk_X4_156 rfl rfl (by decide +kernel) ⟨Nat.le_of_ble_eq_true rfl, Nat.le_of_ble_eq_true rfl⟩ hP hS (vk_recv (i := 0) hE.2.2.1 (by decide) hS) (As := []) (rest := [.int x5]) rfl rfl hl.1 (Nat.le_of_ble_eq_true rfl) dX4_numberOfName_17 (fun H locs hP hS => ?_)
  refine lv_icmp_ge (tgt := 107) hx hb dX4_numberOfName_20 (by decide) (fun c4 => ?_) (fun c4 => ?_)
  · rw [if_pos c4] at hf
    refine lv_bipush (v := -4) hx hb dX4_numberOfName_107 (by decide) ?_
    obtain ⟨he1, he2⟩ := s_ret hf
    exact W.iret hx hb hr (fun t ht hW => ⟨⟨_, (), rfl, he1, s_fin (Wd := (s_WC cy ad)) ht he2 hP⟩, hS.F ht⟩) hS.2.2 dX4_numberOfName_109 hlk
  · rw [if_neg c4] at hf
    refine va_ldcS hx hb hown hE.2.1 dX4_numberOfName_23 ?_
    refine lv_iload hx hb dX4_numberOfName_25 (lv_at hl 5 rfl) ?_
    replace hf := s_bi_some hf
    obtain ⟨r7, σ5, hz6, hf⟩ := hf
    refine s_calliR (nn := 1) C (kcJ0_charAt_5068e (l := l) (G := G) (cy := cy) (sa := sa) hI (sz := H.size) σ1 x5 hz6) gk_X4_161 rfl rfl (by decide +kernel) ⟨Nat.le_of_ble_eq_true rfl, Nat.le_of_ble_eq_true rfl⟩ hP hS (vk_recv (i := 0) hE.2.2.1 (by decide) hS) (As := [.int x5]) (rest := []) rfl rfl hl.1 (Nat.le_of_ble_eq_true rfl) dX4_numberOfName_27 (fun H locs hP hS => ?_)
    refine lv_istore (lv' := [(6, .int r7), (0, .ref (ad 3)), (1, .ref (ad 1)), (2, .int x2), (3, .int x3), (4, .int x4), (5, .int x5)]) hx hb dX4_numberOfName_30 hl (by decide) rfl (fun ls hl => ?_)
    refine lv_iload hx hb dX4_numberOfName_32 (lv_at hl 0 rfl) ?_
    refine lv_bipush (v := 32) hx hb dX4_numberOfName_34 (by decide) ?_
    refine lv_icmp_eq (tgt := 75) hx hb dX4_numberOfName_36 (by decide) (fun c8 => ?_) (fun c8 => ?_)
    · rw [if_pos c8] at hf
      refine lv_iload hx hb dX4_numberOfName_75 (lv_at hl 5 rfl) ?_
      refine lv_if_eq (tgt := 90) hx hb dX4_numberOfName_77 (by decide) (fun c9 => ?_) (fun c9 => ?_)
      · rw [if_pos c9] at hf
        exact kX4_numberOfName_b90 C k13 hk13 σ5 x2 x5 _ _ _ (lv_sub hl [1, 2, 3, 6] rfl) hP hS hf
      · rw [if_neg c9] at hf
        refine lv_iload_n hx hb dX4_numberOfName_80 rfl (lv_at hl 4 rfl) ?_
        refine lv_aload_n hx hb dX4_numberOfName_81 rfl (lv_at hl 1 rfl) ?_
        refine va_get (D := G) (ci := 4) (v := .int (σ5 3 7)) (C := RX4) (T := TX4) (N := 12) hx hb hts inkX4 hown hK hP 3 rfl rfl 7 (by decide) (hts _ kw_164) (fun _ h9 => h9) rfl dX4_numberOfName_82 ?_
        refine lv_icmp_ne (tgt := 90) hx hb dX4_numberOfName_85 (by decide) (fun c10 => ?_) (fun c10 => ?_)
        · rw [if_neg c10] at hf
          exact kX4_numberOfName_b90 C k13 hk13 σ5 x2 x5 _ _ _ (lv_sub hl [1, 2, 3, 6] rfl) hP hS hf
        · rw [if_pos c10] at hf
          refine lv_iload_n hx hb dX4_numberOfName_88 rfl (lv_at hl 3 rfl) ?_
          obtain ⟨he1, he2⟩ := s_ret hf
          exact W.iret hx hb hr (fun t ht hW => ⟨⟨_, (), rfl, he1, s_fin (Wd := (s_WC cy ad)) ht he2 hP⟩, hS.F ht⟩) hS.2.2 dX4_numberOfName_89 hlk
    · rw [if_neg c8] at hf
      refine lv_iload hx hb dX4_numberOfName_39 (lv_at hl 5 rfl) ?_
      refine lv_if_eq (tgt := 66) hx hb dX4_numberOfName_41 (by decide) (fun c11 => ?_) (fun c11 => ?_)
      · rw [if_pos c11] at hf
        exact kX4_numberOfName_b66 C k13 hk13 σ5 x2 x3 x5 _ _ _ (lv_sub hl [1, 2, 3, 4, 6] rfl) hP hS hf
      · rw [if_neg c11] at hf
        refine lv_iload_n hx hb dX4_numberOfName_44 rfl (lv_at hl 4 rfl) ?_
        refine lv_aload_n hx hb dX4_numberOfName_45 rfl (lv_at hl 1 rfl) ?_
        refine va_get (D := G) (ci := 4) (v := .int (σ5 3 7)) (C := RX4) (T := TX4) (N := 12) hx hb hts inkX4 hown hK hP 3 rfl rfl 7 (by decide) (hts _ kw_164) (fun _ h9 => h9) rfl dX4_numberOfName_46 ?_
        refine lv_icmp_ge (tgt := 66) hx hb dX4_numberOfName_49 (by decide) (fun c12 => ?_) (fun c12 => ?_)
        · rw [if_pos c12] at hf
          exact kX4_numberOfName_b66 C k13 hk13 σ5 x2 x3 x5 _ _ _ (lv_sub hl [1, 2, 3, 4, 6] rfl) hP hS hf
        · rw [if_neg c12] at hf
          refine lv_aload_n hx hb dX4_numberOfName_52 rfl (lv_at hl 2 rfl) ?_
          refine lv_iload_n hx hb dX4_numberOfName_53 rfl (lv_at hl 4 rfl) ?_
          replace hf := s_bi_some hf
          obtain ⟨r15, σ13, hz14, hf⟩ := hf
          refine s_calli (nn := 1) C (kcX3_byteAt (l := l) (G := G) (cy := cy) (sa := sa) hI (sz := H.size) σ5 x3 hz14) gk_X4_60 rfl rfl (by decide +kernel) ⟨Nat.le_of_ble_eq_true rfl, Nat.le_of_ble_eq_true rfl⟩ hP hS (q0 := 1) (ci := 3) rfl rfl rfl (As := [.int x3]) (rest := []) rfl rfl hl.1 (Nat.le_of_ble_eq_true rfl) dX4_numberOfName_54 (fun H locs hP hS => ?_)
          refine lv_iload hx hb dX4_numberOfName_57 (lv_at hl 0 rfl) ?_
          refine lv_icmp_ne (tgt := 66) hx hb dX4_numberOfName_59 (by decide) (fun c16 => ?_) (fun c16 => ?_)
          · rw [if_neg c16] at hf
            exact kX4_numberOfName_b66 C k13 hk13 σ13 x2 x3 x5 _ _ _ (lv_sub hl [1, 2, 3, 4, 6] rfl) hP hS hf
          · rw [if_pos c16] at hf
            refine lv_iconst (v := 1) hx hb dX4_numberOfName_62 (by decide) ?_
            refine lv_goto (tgt := 67) hx hb dX4_numberOfName_63 (by decide) ?_
            exact kX4_numberOfName_b67 C k13 hk13 σ13 x2 x3 x5 (1 : Int32) _ _ _ (lv_sub hl [1, 2, 3, 4, 6] rfl) hP hS hf
set_option maxRecDepth 100000 in
set_option maxHeartbeats 4000000 in
theorem kX4_numberOfName_b13_L (C : s_X p s m meth c args cX4_numberOfName (some .int) 7 RX4 G cy sa ad 27) : ∀ (n : Nat), ∀ (σ : Sg) (x2 : Int32) (x3 : Int32) (x4 : Int32) (x5 : Int32) (ls : Array Slot) (H : Heap) (locs : List Loc), lv_has ls 7 [(0, .ref (ad 3)), (1, .ref (ad 1)), (2, .int x2), (3, .int x3), (4, .int x4), (5, .int x5)] → va_P G vwCl ((s_WC cy ad) σ) H → va_S (s_A ad 27 s.heap.size) s.heap H locs → fX4_numberOfName_b13_L n σ x2 x3 x4 x5 = some (re, σe) → W p l e ({ frames := 4, cells := 0, slots := 0, locals := 85 } : Room) s m args below meth c H locs 0 0 (MQ below (s_Qi (s_WC cy ad) G (s_A ad 27 s.heap.size) re σe) args s 0 0 (s_A ad 27 s.heap.size)) (F0 m 13 ls []) := by
  intro n
  induction n with
  | zero => intro σ x2 x3 x4 x5 ls H locs hl hP hS hf; exact absurd (show (none : Option (Int32 × Sg)) = some (re, σe) from hf) (by intro h; cases h)
  | succ n ih => intro σ x2 x3 x4 x5 ls H locs hl hP hS hf; exact kX4_numberOfName_b13 C (fX4_numberOfName_b13_L n) ih σ x2 x3 x4 x5 ls H locs hl hP hS hf
set_option maxRecDepth 100000 in
set_option maxHeartbeats 4000000 in
theorem kX4_numberOfName (C : s_X p s m meth c args cX4_numberOfName (some .int) 7 RX4 G cy sa ad 27) (σ : Sg) (ls : Array Slot) (H : Heap) (locs : List Loc) (hl : lv_has ls 7 [(0, .ref (ad 3)), (1, .ref (ad 1))]) (hP : va_P G vwCl ((s_WC cy ad) σ) H) (hS : va_S (s_A ad 27 s.heap.size) s.heap H locs) (hf : fX4_numberOfName σ = some (re, σe)) : W p l e ({ frames := 4, cells := 0, slots := 0, locals := 85 } : Room) s m args below meth c H locs 0 0 (MQ below (s_Qi (s_WC cy ad) G (s_A ad 27 s.heap.size) re σe) args s 0 0 (s_A ad 27 s.heap.size)) (F0 m 0 ls []) := by
  obtain ⟨hx, hb, hr, hml, hown, hts, hlk, hK, hE, hI⟩ := id C
  have hD : ∀ σ : Sg, va_D (s_A ad 27 s.heap.size) ((s_WC cy ad) σ) := fun σ => s_D (s_WC_ad cy ad σ) hI (fun k hk => Or.inl ⟨k, hk, rfl⟩)
  unfold fX4_numberOfName at hf
  refine lv_iconst (v := 0) hx hb dX4_numberOfName_0 (by decide) ?_
  refine lv_istore_n (lv' := [(2, .int (0 : Int32)), (0, .ref (ad 3)), (1, .ref (ad 1))]) hx hb dX4_numberOfName_1 rfl hl (by decide) rfl (fun ls hl => ?_)
  refine lv_aload_n hx hb dX4_numberOfName_2 rfl (lv_at hl 1 rfl) ?_
  refine va_get (D := G) (ci := 4) (v := .int (σ 3 6)) (C := RX4) (T := TX4) (N := 12) hx hb hts inkX4 hown hK hP 3 rfl rfl 6 (by decide) (hts _ kw_163) (fun _ h9 => h9) rfl dX4_numberOfName_3 ?_
  refine lv_topi (fun t1 et1 => ?_)
  replace hf := s_lt_at et1 hf
  refine lv_istore_n (lv' := [(3, .int t1), (2, .int (0 : Int32)), (0, .ref (ad 3)), (1, .ref (ad 1))]) hx hb dX4_numberOfName_6 rfl hl (by decide) rfl (fun ls hl => ?_)
  refine lv_iconst (v := 1) hx hb dX4_numberOfName_7 (by decide) ?_
  refine lv_istore (lv' := [(4, .int (1 : Int32)), (3, .int t1), (2, .int (0 : Int32)), (0, .ref (ad 3)), (1, .ref (ad 1))]) hx hb dX4_numberOfName_8 hl (by decide) rfl (fun ls hl => ?_)
  refine lv_iconst (v := 0) hx hb dX4_numberOfName_10 (by decide) ?_
  refine lv_istore (lv' := [(5, .int (0 : Int32)), (4, .int (1 : Int32)), (3, .int t1), (2, .int (0 : Int32)), (0, .ref (ad 3)), (1, .ref (ad 1))]) hx hb dX4_numberOfName_11 hl (by decide) rfl (fun ls hl => ?_)
  exact kX4_numberOfName_b13_L C s_fu σ (0 : Int32) t1 (1 : Int32) (0 : Int32) _ _ _ (lv_sub hl [4, 5, 3, 2, 1, 0] rfl) hP hS hf
theorem kcX4_numberOfName {l : Launch} {G : va_G} {cy : Nat → ClassId} {sa : Nat × Nat} {ad : Nat → Nat}  {sz : Nat} (hI : s_inj ad 27) (σ : Sg) {re : Int32} {σe : Sg} (hf : fX4_numberOfName σ = some (re, σe)) : Met l yX4_numberOfName (kW yX4_numberOfName cX4_numberOfName 7 (some .int)) ({ frames := 4, cells := 0, slots := 0, locals := 85 } : Room) (s_P (s_WC cy ad) G cy sa ad 27 [.ref (ad 3), .ref (ad 1)] sz σ) (s_Qi (s_WC cy ad) G (s_A ad 27 sz) re σe) 0 0 (s_A ad 27 sz) := by
  refine s_met (own := RX4) (by decide) rfl hI (Nat.le_of_ble_eq_true rfl) (fun p e s m below meth c ls hsz C hP hl => ?_)
  subst hsz
  exact kX4_numberOfName C σ ls _ _ hl hP va_S.rf hf
set_option maxRecDepth 100000 in
set_option maxHeartbeats 4000000 in
theorem kX4_scanName_b43 (C : s_X p s m meth c args cX4_scanName none 2 RX4 G cy sa ad 27) (σ : Sg) (ls : Array Slot) (H : Heap) (locs : List Loc) (hl : lv_has ls 2 [(0, .ref (ad 3)), (1, .ref (ad 1))]) (hP : va_P G vwCl ((s_WC cy ad) σ) H) (hS : va_S (s_A ad 27 s.heap.size) s.heap H locs) (hf : fX4_scanName_b43 σ = some σe) : W p l e ({ frames := 5, cells := 0, slots := 0, locals := 111 } : Room) s m args below meth c H locs 0 0 (MQ below (s_Qv (s_WC cy ad) G (s_A ad 27 s.heap.size) σe) args s 0 0 (s_A ad 27 s.heap.size)) (F0 m 43 ls []) := by
  obtain ⟨hx, hb, hr, hml, hown, hts, hlk, hK, hE, hI⟩ := id C
  have hD : ∀ σ : Sg, va_D (s_A ad 27 s.heap.size) ((s_WC cy ad) σ) := fun σ => s_D (s_WC_ad cy ad σ) hI (fun k hk => Or.inl ⟨k, hk, rfl⟩)
  unfold fX4_scanName_b43 at hf
  refine lv_aload_n hx hb dX4_scanName_43 rfl (lv_at hl 0 rfl) ?_
  refine lv_aload_n hx hb dX4_scanName_44 rfl (lv_at hl 0 rfl) ?_
  refine lv_aload_n hx hb dX4_scanName_45 rfl (lv_at hl 1 rfl) ?_
  replace hf := s_bi_some hf
  obtain ⟨r3, σ1, hz2, hf⟩ := hf
  refine s_calli (nn := 1) C (kcX4_numberOfName (l := l) (G := G) (cy := cy) (sa := sa) hI (sz := H.size) σ hz2) gk_X4_150 rfl rfl (by decide +kernel) ⟨Nat.le_of_ble_eq_true rfl, Nat.le_of_ble_eq_true rfl⟩ hP hS (q0 := 3) (ci := 4) rfl rfl rfl (As := [.ref (ad 1)]) (rest := [.ref (ad 3)]) rfl rfl hl.1 (Nat.le_of_ble_eq_true rfl) dX4_scanName_46 (fun H locs hP hS => ?_)
  refine va_put (D := G) (ci := 4) (v := .int r3) (ty := .int) (C := RX4) (T := TX4) (N := 12) hx hb hts inkX4 tyX4 tyX4_ok nmX4 hown hK hP (hD _) hS 3 rfl rfl 8 (by decide) (hts _ kw_165) (fun _ h9 => h9) rfl (by decide +kernel) rfl rfl (Nat.le_of_ble_eq_true rfl) dX4_scanName_49 (fun H locs hP _ hS => ?_)
  obtain ⟨σ4, eσ4⟩ : ∃ z : Sg, z = (s_up σ1 3 8 r3) := ⟨_, rfl⟩
  replace hf := s_lt_at eσ4 hf
  replace hP : va_P G vwCl ((s_WC cy ad) σ4) H := by rw [eσ4]; exact hP
  have he2 := Option.some.inj hf
  exact W.vret hx hb hr (fun t ht hW => ⟨⟨(), rfl, trivial, s_fin (Wd := (s_WC cy ad)) ht he2 hP⟩, hS.F ht⟩) hS.2.2 dX4_scanName_52 hlk
set_option maxRecDepth 100000 in
set_option maxHeartbeats 4000000 in
theorem kX4_scanName_b5 (C : s_X p s m meth c args cX4_scanName none 2 RX4 G cy sa ad 27) (k5 : Sg → Option Sg) (hk5 : ∀ (σ : Sg) (ls : Array Slot) (H : Heap) (locs : List Loc), lv_has ls 2 [(0, .ref (ad 3)), (1, .ref (ad 1))] → va_P G vwCl ((s_WC cy ad) σ) H → va_S (s_A ad 27 s.heap.size) s.heap H locs → k5 σ = some σe → W p l e ({ frames := 5, cells := 0, slots := 0, locals := 111 } : Room) s m args below meth c H locs 0 0 (MQ below (s_Qv (s_WC cy ad) G (s_A ad 27 s.heap.size) σe) args s 0 0 (s_A ad 27 s.heap.size)) (F0 m 5 ls [])) (σ : Sg) (ls : Array Slot) (H : Heap) (locs : List Loc) (hl : lv_has ls 2 [(0, .ref (ad 3)), (1, .ref (ad 1))]) (hP : va_P G vwCl ((s_WC cy ad) σ) H) (hS : va_S (s_A ad 27 s.heap.size) s.heap H locs) (hf : fX4_scanName_b5 k5 σ = some σe) : W p l e ({ frames := 5, cells := 0, slots := 0, locals := 111 } : Room) s m args below meth c H locs 0 0 (MQ below (s_Qv (s_WC cy ad) G (s_A ad 27 s.heap.size) σe) args s 0 0 (s_A ad 27 s.heap.size)) (F0 m 5 ls []) := by
  obtain ⟨hx, hb, hr, hml, hown, hts, hlk, hK, hE, hI⟩ := id C
  have hD : ∀ σ : Sg, va_D (s_A ad 27 s.heap.size) ((s_WC cy ad) σ) := fun σ => s_D (s_WC_ad cy ad σ) hI (fun k hk => Or.inl ⟨k, hk, rfl⟩)
  unfold fX4_scanName_b5 at hf
  refine lv_aload_n hx hb dX4_scanName_5 rfl (lv_at hl 0 rfl) ?_
  refine va_get (D := G) (ci := 4) (v := .int (σ 3 7)) (C := RX4) (T := TX4) (N := 12) hx hb hts inkX4 hown hK hP 3 rfl rfl 7 (by decide) (hts _ kw_164) (fun _ h9 => h9) rfl dX4_scanName_6 ?_
  refine lv_aload_n hx hb dX4_scanName_9 rfl (lv_at hl 1 rfl) ?_
  refine va_getN (D := G) (ci := 3) (v := .int (σ 1 1)) (C := RX3) (T := TX3) (N := 2) hx hb hts inkX3 hown hK hP 1 rfl rfl 1 (by decide) (kn_X4_134 hE) (fun _ h9 => h9) rfl dX4_scanName_10 ?_
  refine lv_icmp_ge (tgt := 43) hx hb dX4_scanName_13 (by decide) (fun c1 => ?_) (fun c1 => ?_)
  · rw [if_pos c1] at hf
    exact kX4_scanName_b43 C σ _ _ _ (lv_sub hl [0, 1] rfl) hP hS hf
  · rw [if_neg c1] at hf
    refine lv_aload_n hx hb dX4_scanName_16 rfl (lv_at hl 1 rfl) ?_
    refine lv_aload_n hx hb dX4_scanName_17 rfl (lv_at hl 0 rfl) ?_
    refine va_get (D := G) (ci := 4) (v := .int (σ 3 7)) (C := RX4) (T := TX4) (N := 12) hx hb hts inkX4 hown hK hP 3 rfl rfl 7 (by decide) (hts _ kw_164) (fun _ h9 => h9) rfl dX4_scanName_18 ?_
    replace hf := s_bi_some hf
    obtain ⟨r4, σ2, hz3, hf⟩ := hf
    refine s_calli (nn := 1) C (kcX3_byteAt (l := l) (G := G) (cy := cy) (sa := sa) hI (sz := H.size) σ (σ 3 7) hz3) gk_X4_60 rfl rfl (by decide +kernel) ⟨Nat.le_of_ble_eq_true rfl, Nat.le_of_ble_eq_true rfl⟩ hP hS (q0 := 1) (ci := 3) rfl rfl rfl (As := [.int (σ 3 7)]) (rest := []) rfl rfl hl.1 (Nat.le_of_ble_eq_true rfl) dX4_scanName_21 (fun H locs hP hS => ?_)
    replace hf := s_bi_some hf
    obtain ⟨r7, σ5, hz6, hf⟩ := hf
    refine s_calliS (nn := 1) C (kcX4_isLetter (l := l) (G := G) (cy := cy) (sa := sa) hI (sz := H.size) σ2 r4 hz6) gk_X4_137 rfl rfl (by decide +kernel) ⟨Nat.le_of_ble_eq_true rfl, Nat.le_of_ble_eq_true rfl⟩ hP hS (As := [.int r4]) (rest := []) rfl rfl hl.1 (Nat.le_of_ble_eq_true rfl) dX4_scanName_24 (fun H locs hP hS => ?_)
    refine lv_if_eq (tgt := 43) hx hb dX4_scanName_27 (by decide) (fun c8 => ?_) (fun c8 => ?_)
    · rw [if_pos c8] at hf
      exact kX4_scanName_b43 C σ5 _ _ _ (lv_sub hl [0, 1] rfl) hP hS hf
    · rw [if_neg c8] at hf
      refine lv_aload_n hx hb dX4_scanName_30 rfl (lv_at hl 0 rfl) ?_
      refine lv_dup hx hb dX4_scanName_31 rfl ?_
      refine va_get (D := G) (ci := 4) (v := .int (σ5 3 7)) (C := RX4) (T := TX4) (N := 12) hx hb hts inkX4 hown hK hP 3 rfl rfl 7 (by decide) (hts _ kw_164) (fun _ h9 => h9) rfl dX4_scanName_32 ?_
      refine lv_iconst (v := 1) hx hb dX4_scanName_35 (by decide) ?_
      refine lv_iadd hx hb dX4_scanName_36 ?_
      refine va_put (D := G) (ci := 4) (v := .int ((σ5 3 7) + (1 : Int32))) (ty := .int) (C := RX4) (T := TX4) (N := 12) hx hb hts inkX4 tyX4 tyX4_ok nmX4 hown hK hP (hD _) hS 3 rfl rfl 7 (by decide) (hts _ kw_164) (fun _ h9 => h9) rfl (by decide +kernel) rfl rfl (Nat.le_of_ble_eq_true rfl) dX4_scanName_37 (fun H locs hP _ hS => ?_)
      obtain ⟨σ9, eσ9⟩ : ∃ z : Sg, z = (s_up σ5 3 7 ((σ5 3 7) + (1 : Int32))) := ⟨_, rfl⟩
      replace hf := s_lt_at eσ9 hf
      replace hP : va_P G vwCl ((s_WC cy ad) σ9) H := by rw [eσ9]; exact hP
      refine lv_goto (tgt := 5) hx hb dX4_scanName_40 (by decide) ?_
      exact hk5 σ9 _ _ _ (lv_sub hl [0, 1] rfl) hP hS hf
set_option maxRecDepth 100000 in
set_option maxHeartbeats 4000000 in
theorem kX4_scanName_b5_L (C : s_X p s m meth c args cX4_scanName none 2 RX4 G cy sa ad 27) : ∀ (n : Nat), ∀ (σ : Sg) (ls : Array Slot) (H : Heap) (locs : List Loc), lv_has ls 2 [(0, .ref (ad 3)), (1, .ref (ad 1))] → va_P G vwCl ((s_WC cy ad) σ) H → va_S (s_A ad 27 s.heap.size) s.heap H locs → fX4_scanName_b5_L n σ = some σe → W p l e ({ frames := 5, cells := 0, slots := 0, locals := 111 } : Room) s m args below meth c H locs 0 0 (MQ below (s_Qv (s_WC cy ad) G (s_A ad 27 s.heap.size) σe) args s 0 0 (s_A ad 27 s.heap.size)) (F0 m 5 ls []) := by
  intro n
  induction n with
  | zero => intro σ  ls H locs hl hP hS hf; exact absurd (show (none : Option Sg) = some σe from hf) (by intro h; cases h)
  | succ n ih => intro σ  ls H locs hl hP hS hf; exact kX4_scanName_b5 C (fX4_scanName_b5_L n) ih σ  ls H locs hl hP hS hf
set_option maxRecDepth 100000 in
set_option maxHeartbeats 4000000 in
theorem kX4_scanName (C : s_X p s m meth c args cX4_scanName none 2 RX4 G cy sa ad 27) (σ : Sg) (ls : Array Slot) (H : Heap) (locs : List Loc) (hl : lv_has ls 2 [(0, .ref (ad 3)), (1, .ref (ad 1))]) (hP : va_P G vwCl ((s_WC cy ad) σ) H) (hS : va_S (s_A ad 27 s.heap.size) s.heap H locs) (hf : fX4_scanName σ = some σe) : W p l e ({ frames := 5, cells := 0, slots := 0, locals := 111 } : Room) s m args below meth c H locs 0 0 (MQ below (s_Qv (s_WC cy ad) G (s_A ad 27 s.heap.size) σe) args s 0 0 (s_A ad 27 s.heap.size)) (F0 m 0 ls []) := by
  obtain ⟨hx, hb, hr, hml, hown, hts, hlk, hK, hE, hI⟩ := id C
  have hD : ∀ σ : Sg, va_D (s_A ad 27 s.heap.size) ((s_WC cy ad) σ) := fun σ => s_D (s_WC_ad cy ad σ) hI (fun k hk => Or.inl ⟨k, hk, rfl⟩)
  unfold fX4_scanName at hf
  refine lv_aload_n hx hb dX4_scanName_0 rfl (lv_at hl 0 rfl) ?_
  refine lv_iconst (v := 1) hx hb dX4_scanName_1 (by decide) ?_
  refine va_put (D := G) (ci := 4) (v := .int (1 : Int32)) (ty := .int) (C := RX4) (T := TX4) (N := 12) hx hb hts inkX4 tyX4 tyX4_ok nmX4 hown hK hP (hD _) hS 3 rfl rfl 5 (by decide) (hts _ kw_162) (fun _ h9 => h9) rfl (by decide +kernel) rfl rfl (Nat.le_of_ble_eq_true rfl) dX4_scanName_2 (fun H locs hP _ hS => ?_)
  obtain ⟨σ1, eσ1⟩ : ∃ z : Sg, z = (s_up σ 3 5 (1 : Int32)) := ⟨_, rfl⟩
  replace hf := s_lt_at eσ1 hf
  replace hP : va_P G vwCl ((s_WC cy ad) σ1) H := by rw [eσ1]; exact hP
  exact kX4_scanName_b5_L C s_fu σ1 _ _ _ (lv_sub hl [0, 1] rfl) hP hS hf
theorem kcX4_scanName {l : Launch} {G : va_G} {cy : Nat → ClassId} {sa : Nat × Nat} {ad : Nat → Nat}  {sz : Nat} (hI : s_inj ad 27) (σ : Sg) {σe : Sg} (hf : fX4_scanName σ = some σe) : Met l yX4_scanName (kW yX4_scanName cX4_scanName 2 none) ({ frames := 5, cells := 0, slots := 0, locals := 111 } : Room) (s_P (s_WC cy ad) G cy sa ad 27 [.ref (ad 3), .ref (ad 1)] sz σ) (s_Qv (s_WC cy ad) G (s_A ad 27 sz) σe) 0 0 (s_A ad 27 sz) := by
  refine s_met (own := RX4) (by decide) rfl hI (Nat.le_of_ble_eq_true rfl) (fun p e s m below meth c ls hsz C hP hl => ?_)
  subst hsz
  exact kX4_scanName C σ ls _ _ hl hP va_S.rf hf
set_option maxRecDepth 100000 in
set_option maxHeartbeats 4000000 in
theorem kX4_scan_b128 (C : s_X p s m meth c args cX4_scan none 3 RX4 G cy sa ad 27) (σ : Sg) (ls : Array Slot) (H : Heap) (locs : List Loc) (hl : lv_has ls 3 [(0, .ref (ad 3))]) (hP : va_P G vwCl ((s_WC cy ad) σ) H) (hS : va_S (s_A ad 27 s.heap.size) s.heap H locs) (hf : fX4_scan_b128 σ = some σe) : W p l e ({ frames := 6, cells := 0, slots := 0, locals := 132 } : Room) s m args below meth c H locs 0 0 (MQ below (s_Qv (s_WC cy ad) G (s_A ad 27 s.heap.size) σe) args s 0 0 (s_A ad 27 s.heap.size)) (F0 m 128 ls []) := by
  obtain ⟨hx, hb, hr, hml, hown, hts, hlk, hK, hE, hI⟩ := id C
  have hD : ∀ σ : Sg, va_D (s_A ad 27 s.heap.size) ((s_WC cy ad) σ) := fun σ => s_D (s_WC_ad cy ad σ) hI (fun k hk => Or.inl ⟨k, hk, rfl⟩)
  unfold fX4_scan_b128 at hf
  refine lv_aload_n hx hb dX4_scan_128 rfl (lv_at hl 0 rfl) ?_
  refine lv_iconst (v := 3) hx hb dX4_scan_129 (by decide) ?_
  refine va_put (D := G) (ci := 4) (v := .int (3 : Int32)) (ty := .int) (C := RX4) (T := TX4) (N := 12) hx hb hts inkX4 tyX4 tyX4_ok nmX4 hown hK hP (hD _) hS 3 rfl rfl 5 (by decide) (hts _ kw_162) (fun _ h9 => h9) rfl (by decide +kernel) rfl rfl (Nat.le_of_ble_eq_true rfl) dX4_scan_130 (fun H locs hP _ hS => ?_)
  obtain ⟨σ1, eσ1⟩ : ∃ z : Sg, z = (s_up σ 3 5 (3 : Int32)) := ⟨_, rfl⟩
  replace hf := s_lt_at eσ1 hf
  replace hP : va_P G vwCl ((s_WC cy ad) σ1) H := by rw [eσ1]; exact hP
  refine lv_aload_n hx hb dX4_scan_133 rfl (lv_at hl 0 rfl) ?_
  refine lv_aload_n hx hb dX4_scan_134 rfl (lv_at hl 0 rfl) ?_
  refine va_get (D := G) (ci := 4) (v := .int (σ1 3 6)) (C := RX4) (T := TX4) (N := 12) hx hb hts inkX4 hown hK hP 3 rfl rfl 6 (by decide) (hts _ kw_163) (fun _ h9 => h9) rfl dX4_scan_135 ?_
  refine lv_iconst (v := 1) hx hb dX4_scan_138 (by decide) ?_
  refine lv_iadd hx hb dX4_scan_139 ?_
  refine va_put (D := G) (ci := 4) (v := .int ((σ1 3 6) + (1 : Int32))) (ty := .int) (C := RX4) (T := TX4) (N := 12) hx hb hts inkX4 tyX4 tyX4_ok nmX4 hown hK hP (hD _) hS 3 rfl rfl 7 (by decide) (hts _ kw_164) (fun _ h9 => h9) rfl (by decide +kernel) rfl rfl (Nat.le_of_ble_eq_true rfl) dX4_scan_140 (fun H locs hP _ hS => ?_)
  obtain ⟨σ2, eσ2⟩ : ∃ z : Sg, z = (s_up σ1 3 7 ((σ1 3 6) + (1 : Int32))) := ⟨_, rfl⟩
  replace hf := s_lt_at eσ2 hf
  replace hP : va_P G vwCl ((s_WC cy ad) σ2) H := by rw [eσ2]; exact hP
  refine lv_goto (tgt := 151) hx hb dX4_scan_143 (by decide) ?_
  have he2 := Option.some.inj hf
  exact W.vret hx hb hr (fun t ht hW => ⟨⟨(), rfl, trivial, s_fin (Wd := (s_WC cy ad)) ht he2 hP⟩, hS.F ht⟩) hS.2.2 dX4_scan_151 hlk
set_option maxRecDepth 100000 in
set_option maxHeartbeats 4000000 in
theorem kX4_scan_b45 (C : s_X p s m meth c args cX4_scan none 3 RX4 G cy sa ad 27) (σ : Sg) (ls : Array Slot) (H : Heap) (locs : List Loc) (hl : lv_has ls 3 [(0, .ref (ad 3)), (1, .ref (ad 1))]) (hP : va_P G vwCl ((s_WC cy ad) σ) H) (hS : va_S (s_A ad 27 s.heap.size) s.heap H locs) (hf : fX4_scan_b45 σ = some σe) : W p l e ({ frames := 6, cells := 0, slots := 0, locals := 132 } : Room) s m args below meth c H locs 0 0 (MQ below (s_Qv (s_WC cy ad) G (s_A ad 27 s.heap.size) σe) args s 0 0 (s_A ad 27 s.heap.size)) (F0 m 45 ls []) := by
  obtain ⟨hx, hb, hr, hml, hown, hts, hlk, hK, hE, hI⟩ := id C
  have hD : ∀ σ : Sg, va_D (s_A ad 27 s.heap.size) ((s_WC cy ad) σ) := fun σ => s_D (s_WC_ad cy ad σ) hI (fun k hk => Or.inl ⟨k, hk, rfl⟩)
  unfold fX4_scan_b45 at hf
  refine lv_aload_n hx hb dX4_scan_45 rfl (lv_at hl 0 rfl) ?_
  refine lv_aload_n hx hb dX4_scan_46 rfl (lv_at hl 0 rfl) ?_
  refine va_get (D := G) (ci := 4) (v := .int (σ 3 6)) (C := RX4) (T := TX4) (N := 12) hx hb hts inkX4 hown hK hP 3 rfl rfl 6 (by decide) (hts _ kw_163) (fun _ h9 => h9) rfl dX4_scan_47 ?_
  refine va_put (D := G) (ci := 4) (v := .int (σ 3 6)) (ty := .int) (C := RX4) (T := TX4) (N := 12) hx hb hts inkX4 tyX4 tyX4_ok nmX4 hown hK hP (hD _) hS 3 rfl rfl 7 (by decide) (hts _ kw_164) (fun _ h9 => h9) rfl (by decide +kernel) rfl rfl (Nat.le_of_ble_eq_true rfl) dX4_scan_50 (fun H locs hP _ hS => ?_)
  obtain ⟨σ1, eσ1⟩ : ∃ z : Sg, z = (s_up σ 3 7 (σ 3 6)) := ⟨_, rfl⟩
  replace hf := s_lt_at eσ1 hf
  replace hP : va_P G vwCl ((s_WC cy ad) σ1) H := by rw [eσ1]; exact hP
  refine lv_aload_n hx hb dX4_scan_53 rfl (lv_at hl 0 rfl) ?_
  refine lv_bipush (v := -4) hx hb dX4_scan_54 (by decide) ?_
  refine va_put (D := G) (ci := 4) (v := .int (-4 : Int32)) (ty := .int) (C := RX4) (T := TX4) (N := 12) hx hb hts inkX4 tyX4 tyX4_ok nmX4 hown hK hP (hD _) hS 3 rfl rfl 8 (by decide) (hts _ kw_165) (fun _ h9 => h9) rfl (by decide +kernel) rfl rfl (Nat.le_of_ble_eq_true rfl) dX4_scan_56 (fun H locs hP _ hS => ?_)
  obtain ⟨σ2, eσ2⟩ : ∃ z : Sg, z = (s_up σ1 3 8 (-4 : Int32)) := ⟨_, rfl⟩
  replace hf := s_lt_at eσ2 hf
  replace hP : va_P G vwCl ((s_WC cy ad) σ2) H := by rw [eσ2]; exact hP
  refine lv_aload_n hx hb dX4_scan_59 rfl (lv_at hl 1 rfl) ?_
  refine lv_aload_n hx hb dX4_scan_60 rfl (lv_at hl 0 rfl) ?_
  refine va_get (D := G) (ci := 4) (v := .int (σ2 3 6)) (C := RX4) (T := TX4) (N := 12) hx hb hts inkX4 hown hK hP 3 rfl rfl 6 (by decide) (hts _ kw_163) (fun _ h9 => h9) rfl dX4_scan_61 ?_
  replace hf := s_bi_some hf
  obtain ⟨r5, σ3, hz4, hf⟩ := hf
  refine s_calli (nn := 1) C (kcX3_byteAt (l := l) (G := G) (cy := cy) (sa := sa) hI (sz := H.size) σ2 (σ2 3 6) hz4) gk_X4_60 rfl rfl (by decide +kernel) ⟨Nat.le_of_ble_eq_true rfl, Nat.le_of_ble_eq_true rfl⟩ hP hS (q0 := 1) (ci := 3) rfl rfl rfl (As := [.int (σ2 3 6)]) (rest := []) rfl rfl hl.1 (Nat.le_of_ble_eq_true rfl) dX4_scan_64 (fun H locs hP hS => ?_)
  refine lv_istore_n (lv' := [(2, .int r5), (0, .ref (ad 3)), (1, .ref (ad 1))]) hx hb dX4_scan_67 rfl hl (by decide) rfl (fun ls hl => ?_)
  refine lv_iload_n hx hb dX4_scan_68 rfl (lv_at hl 0 rfl) ?_
  refine lv_if_ge (tgt := 80) hx hb dX4_scan_69 (by decide) (fun c6 => ?_) (fun c6 => ?_)
  · rw [if_pos c6] at hf
    refine lv_iload_n hx hb dX4_scan_80 rfl (lv_at hl 0 rfl) ?_
    replace hf := s_bi_some hf
    obtain ⟨r9, σ7, hz8, hf⟩ := hf
    refine s_calliS (nn := 1) C (kcX4_isLetter (l := l) (G := G) (cy := cy) (sa := sa) hI (sz := H.size) σ3 r5 hz8) gk_X4_137 rfl rfl (by decide +kernel) ⟨Nat.le_of_ble_eq_true rfl, Nat.le_of_ble_eq_true rfl⟩ hP hS (As := [.int r5]) (rest := []) rfl rfl hl.1 (Nat.le_of_ble_eq_true rfl) dX4_scan_81 (fun H locs hP hS => ?_)
    refine lv_if_eq (tgt := 95) hx hb dX4_scan_84 (by decide) (fun c10 => ?_) (fun c10 => ?_)
    · rw [if_pos c10] at hf
      refine lv_iload_n hx hb dX4_scan_95 rfl (lv_at hl 0 rfl) ?_
      replace hf := s_bi_some hf
      obtain ⟨r13, σ11, hz12, hf⟩ := hf
      refine s_calliS (nn := 1) C (kcX4_isFigure (l := l) (G := G) (cy := cy) (sa := sa) hI (sz := H.size) σ7 r5 hz12) gk_X4_144 rfl rfl (by decide +kernel) ⟨Nat.le_of_ble_eq_true rfl, Nat.le_of_ble_eq_true rfl⟩ hP hS (As := [.int r5]) (rest := []) rfl rfl hl.1 (Nat.le_of_ble_eq_true rfl) dX4_scan_96 (fun H locs hP hS => ?_)
      refine lv_if_eq (tgt := 110) hx hb dX4_scan_99 (by decide) (fun c14 => ?_) (fun c14 => ?_)
      · rw [if_pos c14] at hf
        refine lv_iload_n hx hb dX4_scan_110 rfl (lv_at hl 0 rfl) ?_
        refine lv_bipush (v := 45) hx hb dX4_scan_111 (by decide) ?_
        refine lv_icmp_eq (tgt := 128) hx hb dX4_scan_113 (by decide) (fun c15 => ?_) (fun c15 => ?_)
        · rw [if_pos c15] at hf
          exact kX4_scan_b128 C σ11 _ _ _ (lv_sub hl [1] rfl) hP hS hf
        · rw [if_neg c15] at hf
          refine lv_iload_n hx hb dX4_scan_116 rfl (lv_at hl 0 rfl) ?_
          refine lv_bipush (v := 46) hx hb dX4_scan_117 (by decide) ?_
          refine lv_icmp_eq (tgt := 128) hx hb dX4_scan_119 (by decide) (fun c16 => ?_) (fun c16 => ?_)
          · rw [if_pos c16] at hf
            exact kX4_scan_b128 C σ11 _ _ _ (lv_sub hl [1] rfl) hP hS hf
          · rw [if_neg c16] at hf
            refine lv_iload_n hx hb dX4_scan_122 rfl (lv_at hl 0 rfl) ?_
            refine lv_bipush (v := 59) hx hb dX4_scan_123 (by decide) ?_
            refine lv_icmp_ne (tgt := 146) hx hb dX4_scan_125 (by decide) (fun c17 => ?_) (fun c17 => ?_)
            · rw [if_neg c17] at hf
              refine lv_aload_n hx hb dX4_scan_146 rfl (lv_at hl 1 rfl) ?_
              refine lv_iconst (v := 1) hx hb dX4_scan_147 (by decide) ?_
              replace hf := s_bv_some hf
              obtain ⟨σ18, hz19, hf⟩ := hf
              refine s_callv (nn := 1) C (kcX4_refuse (l := l) (G := G) (cy := cy) (sa := sa) hI (sz := H.size) σ11 (1 : Int32) hz19) gk_X4_70 rfl rfl (by decide +kernel) ⟨Nat.le_of_ble_eq_true rfl, Nat.le_of_ble_eq_true rfl⟩ hP hS (q0 := 3) (ci := 4) rfl rfl rfl (As := [.int (1 : Int32)]) (rest := []) rfl rfl hl.1 (Nat.le_of_ble_eq_true rfl) dX4_scan_148 (fun H locs hP hS => ?_)
              have he2 := Option.some.inj hf
              exact W.vret hx hb hr (fun t ht hW => ⟨⟨(), rfl, trivial, s_fin (Wd := (s_WC cy ad)) ht he2 hP⟩, hS.F ht⟩) hS.2.2 dX4_scan_151 hlk
            · rw [if_pos c17] at hf
              exact kX4_scan_b128 C σ11 _ _ _ (lv_sub hl [1] rfl) hP hS hf
      · rw [if_neg c14] at hf
        refine lv_aload_n hx hb dX4_scan_102 rfl (lv_at hl 1 rfl) ?_
        refine lv_aload_n hx hb dX4_scan_103 rfl (lv_at hl 2 rfl) ?_
        replace hf := s_bv_some hf
        obtain ⟨σ20, hz21, hf⟩ := hf
        refine s_callv (nn := 1) C (kcX4_scanNumber (l := l) (G := G) (cy := cy) (sa := sa) hI (sz := H.size) σ11 hz21) gk_X4_147 rfl rfl (by decide +kernel) ⟨Nat.le_of_ble_eq_true rfl, Nat.le_of_ble_eq_true rfl⟩ hP hS (q0 := 3) (ci := 4) rfl rfl rfl (As := [.ref (ad 1)]) (rest := []) rfl rfl hl.1 (Nat.le_of_ble_eq_true rfl) dX4_scan_104 (fun H locs hP hS => ?_)
        refine lv_goto (tgt := 151) hx hb dX4_scan_107 (by decide) ?_
        have he2 := Option.some.inj hf
        exact W.vret hx hb hr (fun t ht hW => ⟨⟨(), rfl, trivial, s_fin (Wd := (s_WC cy ad)) ht he2 hP⟩, hS.F ht⟩) hS.2.2 dX4_scan_151 hlk
    · rw [if_neg c10] at hf
      refine lv_aload_n hx hb dX4_scan_87 rfl (lv_at hl 1 rfl) ?_
      refine lv_aload_n hx hb dX4_scan_88 rfl (lv_at hl 2 rfl) ?_
      replace hf := s_bv_some hf
      obtain ⟨σ22, hz23, hf⟩ := hf
      refine s_callv (nn := 1) C (kcX4_scanName (l := l) (G := G) (cy := cy) (sa := sa) hI (sz := H.size) σ7 hz23) gk_X4_141 rfl rfl (by decide +kernel) ⟨Nat.le_of_ble_eq_true rfl, Nat.le_of_ble_eq_true rfl⟩ hP hS (q0 := 3) (ci := 4) rfl rfl rfl (As := [.ref (ad 1)]) (rest := []) rfl rfl hl.1 (Nat.le_of_ble_eq_true rfl) dX4_scan_89 (fun H locs hP hS => ?_)
      refine lv_goto (tgt := 151) hx hb dX4_scan_92 (by decide) ?_
      have he2 := Option.some.inj hf
      exact W.vret hx hb hr (fun t ht hW => ⟨⟨(), rfl, trivial, s_fin (Wd := (s_WC cy ad)) ht he2 hP⟩, hS.F ht⟩) hS.2.2 dX4_scan_151 hlk
  · rw [if_neg c6] at hf
    refine lv_aload_n hx hb dX4_scan_72 rfl (lv_at hl 1 rfl) ?_
    refine lv_iconst (v := 0) hx hb dX4_scan_73 (by decide) ?_
    refine va_put (D := G) (ci := 4) (v := .int (0 : Int32)) (ty := .int) (C := RX4) (T := TX4) (N := 12) hx hb hts inkX4 tyX4 tyX4_ok nmX4 hown hK hP (hD _) hS 3 rfl rfl 5 (by decide) (hts _ kw_162) (fun _ h9 => h9) rfl (by decide +kernel) rfl rfl (Nat.le_of_ble_eq_true rfl) dX4_scan_74 (fun H locs hP _ hS => ?_)
    obtain ⟨σ24, eσ24⟩ : ∃ z : Sg, z = (s_up σ3 3 5 (0 : Int32)) := ⟨_, rfl⟩
    replace hf := s_lt_at eσ24 hf
    replace hP : va_P G vwCl ((s_WC cy ad) σ24) H := by rw [eσ24]; exact hP
    refine lv_goto (tgt := 151) hx hb dX4_scan_77 (by decide) ?_
    have he2 := Option.some.inj hf
    exact W.vret hx hb hr (fun t ht hW => ⟨⟨(), rfl, trivial, s_fin (Wd := (s_WC cy ad)) ht he2 hP⟩, hS.F ht⟩) hS.2.2 dX4_scan_151 hlk
set_option maxRecDepth 100000 in
set_option maxHeartbeats 4000000 in
theorem kX4_scan_b8 (C : s_X p s m meth c args cX4_scan none 3 RX4 G cy sa ad 27) (k8 : Sg → Option Sg) (hk8 : ∀ (σ : Sg) (ls : Array Slot) (H : Heap) (locs : List Loc), lv_has ls 3 [(0, .ref (ad 3)), (1, .ref (ad 1))] → va_P G vwCl ((s_WC cy ad) σ) H → va_S (s_A ad 27 s.heap.size) s.heap H locs → k8 σ = some σe → W p l e ({ frames := 6, cells := 0, slots := 0, locals := 132 } : Room) s m args below meth c H locs 0 0 (MQ below (s_Qv (s_WC cy ad) G (s_A ad 27 s.heap.size) σe) args s 0 0 (s_A ad 27 s.heap.size)) (F0 m 8 ls [])) (σ : Sg) (ls : Array Slot) (H : Heap) (locs : List Loc) (hl : lv_has ls 3 [(0, .ref (ad 3)), (1, .ref (ad 1))]) (hP : va_P G vwCl ((s_WC cy ad) σ) H) (hS : va_S (s_A ad 27 s.heap.size) s.heap H locs) (hf : fX4_scan_b8 k8 σ = some σe) : W p l e ({ frames := 6, cells := 0, slots := 0, locals := 132 } : Room) s m args below meth c H locs 0 0 (MQ below (s_Qv (s_WC cy ad) G (s_A ad 27 s.heap.size) σe) args s 0 0 (s_A ad 27 s.heap.size)) (F0 m 8 ls []) := by
  obtain ⟨hx, hb, hr, hml, hown, hts, hlk, hK, hE, hI⟩ := id C
  have hD : ∀ σ : Sg, va_D (s_A ad 27 s.heap.size) ((s_WC cy ad) σ) := fun σ => s_D (s_WC_ad cy ad σ) hI (fun k hk => Or.inl ⟨k, hk, rfl⟩)
  unfold fX4_scan_b8 at hf
  refine lv_aload_n hx hb dX4_scan_8 rfl (lv_at hl 0 rfl) ?_
  refine va_get (D := G) (ci := 4) (v := .int (σ 3 6)) (C := RX4) (T := TX4) (N := 12) hx hb hts inkX4 hown hK hP 3 rfl rfl 6 (by decide) (hts _ kw_163) (fun _ h9 => h9) rfl dX4_scan_9 ?_
  refine lv_aload_n hx hb dX4_scan_12 rfl (lv_at hl 1 rfl) ?_
  refine va_getN (D := G) (ci := 3) (v := .int (σ 1 1)) (C := RX3) (T := TX3) (N := 2) hx hb hts inkX3 hown hK hP 1 rfl rfl 1 (by decide) (kn_X4_134 hE) (fun _ h9 => h9) rfl dX4_scan_13 ?_
  refine lv_icmp_ge (tgt := 45) hx hb dX4_scan_16 (by decide) (fun c1 => ?_) (fun c1 => ?_)
  · rw [if_pos c1] at hf
    exact kX4_scan_b45 C σ _ _ _ (lv_sub hl [0, 1] rfl) hP hS hf
  · rw [if_neg c1] at hf
    refine lv_aload_n hx hb dX4_scan_19 rfl (lv_at hl 1 rfl) ?_
    refine lv_aload_n hx hb dX4_scan_20 rfl (lv_at hl 0 rfl) ?_
    refine va_get (D := G) (ci := 4) (v := .int (σ 3 6)) (C := RX4) (T := TX4) (N := 12) hx hb hts inkX4 hown hK hP 3 rfl rfl 6 (by decide) (hts _ kw_163) (fun _ h9 => h9) rfl dX4_scan_21 ?_
    replace hf := s_bi_some hf
    obtain ⟨r4, σ2, hz3, hf⟩ := hf
    refine s_calli (nn := 1) C (kcX3_byteAt (l := l) (G := G) (cy := cy) (sa := sa) hI (sz := H.size) σ (σ 3 6) hz3) gk_X4_60 rfl rfl (by decide +kernel) ⟨Nat.le_of_ble_eq_true rfl, Nat.le_of_ble_eq_true rfl⟩ hP hS (q0 := 1) (ci := 3) rfl rfl rfl (As := [.int (σ 3 6)]) (rest := []) rfl rfl hl.1 (Nat.le_of_ble_eq_true rfl) dX4_scan_24 (fun H locs hP hS => ?_)
    refine lv_bipush (v := 32) hx hb dX4_scan_27 (by decide) ?_
    refine lv_icmp_ne (tgt := 45) hx hb dX4_scan_29 (by decide) (fun c5 => ?_) (fun c5 => ?_)
    · rw [if_neg c5] at hf
      exact kX4_scan_b45 C σ2 _ _ _ (lv_sub hl [0, 1] rfl) hP hS hf
    · rw [if_pos c5] at hf
      refine lv_aload_n hx hb dX4_scan_32 rfl (lv_at hl 0 rfl) ?_
      refine lv_dup hx hb dX4_scan_33 rfl ?_
      refine va_get (D := G) (ci := 4) (v := .int (σ2 3 6)) (C := RX4) (T := TX4) (N := 12) hx hb hts inkX4 hown hK hP 3 rfl rfl 6 (by decide) (hts _ kw_163) (fun _ h9 => h9) rfl dX4_scan_34 ?_
      refine lv_iconst (v := 1) hx hb dX4_scan_37 (by decide) ?_
      refine lv_iadd hx hb dX4_scan_38 ?_
      refine va_put (D := G) (ci := 4) (v := .int ((σ2 3 6) + (1 : Int32))) (ty := .int) (C := RX4) (T := TX4) (N := 12) hx hb hts inkX4 tyX4 tyX4_ok nmX4 hown hK hP (hD _) hS 3 rfl rfl 6 (by decide) (hts _ kw_163) (fun _ h9 => h9) rfl (by decide +kernel) rfl rfl (Nat.le_of_ble_eq_true rfl) dX4_scan_39 (fun H locs hP _ hS => ?_)
      obtain ⟨σ6, eσ6⟩ : ∃ z : Sg, z = (s_up σ2 3 6 ((σ2 3 6) + (1 : Int32))) := ⟨_, rfl⟩
      replace hf := s_lt_at eσ6 hf
      replace hP : va_P G vwCl ((s_WC cy ad) σ6) H := by rw [eσ6]; exact hP
      refine lv_goto (tgt := 8) hx hb dX4_scan_42 (by decide) ?_
      exact hk8 σ6 _ _ _ (lv_sub hl [0, 1] rfl) hP hS hf
set_option maxRecDepth 100000 in
set_option maxHeartbeats 4000000 in
theorem kX4_scan_b8_L (C : s_X p s m meth c args cX4_scan none 3 RX4 G cy sa ad 27) : ∀ (n : Nat), ∀ (σ : Sg) (ls : Array Slot) (H : Heap) (locs : List Loc), lv_has ls 3 [(0, .ref (ad 3)), (1, .ref (ad 1))] → va_P G vwCl ((s_WC cy ad) σ) H → va_S (s_A ad 27 s.heap.size) s.heap H locs → fX4_scan_b8_L n σ = some σe → W p l e ({ frames := 6, cells := 0, slots := 0, locals := 132 } : Room) s m args below meth c H locs 0 0 (MQ below (s_Qv (s_WC cy ad) G (s_A ad 27 s.heap.size) σe) args s 0 0 (s_A ad 27 s.heap.size)) (F0 m 8 ls []) := by
  intro n
  induction n with
  | zero => intro σ  ls H locs hl hP hS hf; exact absurd (show (none : Option Sg) = some σe from hf) (by intro h; cases h)
  | succ n ih => intro σ  ls H locs hl hP hS hf; exact kX4_scan_b8 C (fX4_scan_b8_L n) ih σ  ls H locs hl hP hS hf
set_option maxRecDepth 100000 in
set_option maxHeartbeats 4000000 in
theorem kX4_scan (C : s_X p s m meth c args cX4_scan none 3 RX4 G cy sa ad 27) (σ : Sg) (ls : Array Slot) (H : Heap) (locs : List Loc) (hl : lv_has ls 3 [(0, .ref (ad 3)), (1, .ref (ad 1))]) (hP : va_P G vwCl ((s_WC cy ad) σ) H) (hS : va_S (s_A ad 27 s.heap.size) s.heap H locs) (hf : fX4_scan σ = some σe) : W p l e ({ frames := 6, cells := 0, slots := 0, locals := 132 } : Room) s m args below meth c H locs 0 0 (MQ below (s_Qv (s_WC cy ad) G (s_A ad 27 s.heap.size) σe) args s 0 0 (s_A ad 27 s.heap.size)) (F0 m 0 ls []) := by
  obtain ⟨hx, hb, hr, hml, hown, hts, hlk, hK, hE, hI⟩ := id C
  have hD : ∀ σ : Sg, va_D (s_A ad 27 s.heap.size) ((s_WC cy ad) σ) := fun σ => s_D (s_WC_ad cy ad σ) hI (fun k hk => Or.inl ⟨k, hk, rfl⟩)
  unfold fX4_scan at hf
  refine lv_aload_n hx hb dX4_scan_0 rfl (lv_at hl 0 rfl) ?_
  refine lv_aload_n hx hb dX4_scan_1 rfl (lv_at hl 0 rfl) ?_
  refine va_get (D := G) (ci := 4) (v := .int (σ 3 7)) (C := RX4) (T := TX4) (N := 12) hx hb hts inkX4 hown hK hP 3 rfl rfl 7 (by decide) (hts _ kw_164) (fun _ h9 => h9) rfl dX4_scan_2 ?_
  refine va_put (D := G) (ci := 4) (v := .int (σ 3 7)) (ty := .int) (C := RX4) (T := TX4) (N := 12) hx hb hts inkX4 tyX4 tyX4_ok nmX4 hown hK hP (hD _) hS 3 rfl rfl 6 (by decide) (hts _ kw_163) (fun _ h9 => h9) rfl (by decide +kernel) rfl rfl (Nat.le_of_ble_eq_true rfl) dX4_scan_5 (fun H locs hP _ hS => ?_)
  obtain ⟨σ1, eσ1⟩ : ∃ z : Sg, z = (s_up σ 3 6 (σ 3 7)) := ⟨_, rfl⟩
  replace hf := s_lt_at eσ1 hf
  replace hP : va_P G vwCl ((s_WC cy ad) σ1) H := by rw [eσ1]; exact hP
  exact kX4_scan_b8_L C s_fu σ1 _ _ _ (lv_sub hl [0, 1] rfl) hP hS hf
theorem kcX4_scan {l : Launch} {G : va_G} {cy : Nat → ClassId} {sa : Nat × Nat} {ad : Nat → Nat}  {sz : Nat} (hI : s_inj ad 27) (σ : Sg) {σe : Sg} (hf : fX4_scan σ = some σe) : Met l yX4_scan (kW yX4_scan cX4_scan 3 none) ({ frames := 6, cells := 0, slots := 0, locals := 132 } : Room) (s_P (s_WC cy ad) G cy sa ad 27 [.ref (ad 3), .ref (ad 1)] sz σ) (s_Qv (s_WC cy ad) G (s_A ad 27 sz) σe) 0 0 (s_A ad 27 sz) := by
  refine s_met (own := RX4) (by decide) rfl hI (Nat.le_of_ble_eq_true rfl) (fun p e s m below meth c ls hsz C hP hl => ?_)
  subst hsz
  exact kX4_scan C σ ls _ _ hl hP va_S.rf hf
set_option maxRecDepth 100000 in
set_option maxHeartbeats 4000000 in
theorem kX4_takeNumber_b31 (C : s_X p s m meth c args cX4_takeNumber (some .int) 4 RX4 G cy sa ad 27) (σ : Sg) (x1 : Int32) (ls : Array Slot) (H : Heap) (locs : List Loc) (hl : lv_has ls 4 [(0, .ref (ad 3)), (1, .int x1)]) (hP : va_P G vwCl ((s_WC cy ad) σ) H) (hS : va_S (s_A ad 27 s.heap.size) s.heap H locs) (hf : fX4_takeNumber_b31 σ x1 = some (re, σe)) : W p l e ({ frames := 1, cells := 0, slots := 0, locals := 21 } : Room) s m args below meth c H locs 0 0 (MQ below (s_Qi (s_WC cy ad) G (s_A ad 27 s.heap.size) re σe) args s 0 0 (s_A ad 27 s.heap.size)) (F0 m 31 ls []) := by
  obtain ⟨hx, hb, hr, hml, hown, hts, hlk, hK, hE, hI⟩ := id C
  have hD : ∀ σ : Sg, va_D (s_A ad 27 s.heap.size) ((s_WC cy ad) σ) := fun σ => s_D (s_WC_ad cy ad σ) hI (fun k hk => Or.inl ⟨k, hk, rfl⟩)
  unfold fX4_takeNumber_b31 at hf
  refine lv_aload_n hx hb dX4_takeNumber_31 rfl (lv_at hl 0 rfl) ?_
  refine lv_iconst (v := 3) hx hb dX4_takeNumber_32 (by decide) ?_
  replace hf := s_bv_some hf
  obtain ⟨σ1, hz2, hf⟩ := hf
  refine s_callv (nn := 1) C (kcX4_refuse (l := l) (G := G) (cy := cy) (sa := sa) hI (sz := H.size) σ (3 : Int32) hz2) gk_X4_70 rfl rfl (by decide +kernel) ⟨Nat.le_of_ble_eq_true rfl, Nat.le_of_ble_eq_true rfl⟩ hP hS (q0 := 3) (ci := 4) rfl rfl rfl (As := [.int (3 : Int32)]) (rest := []) rfl rfl hl.1 (Nat.le_of_ble_eq_true rfl) dX4_takeNumber_33 (fun H locs hP hS => ?_)
  refine lv_iload_n hx hb dX4_takeNumber_36 rfl (lv_at hl 1 rfl) ?_
  obtain ⟨he1, he2⟩ := s_ret hf
  exact W.iret hx hb hr (fun t ht hW => ⟨⟨_, (), rfl, he1, s_fin (Wd := (s_WC cy ad)) ht he2 hP⟩, hS.F ht⟩) hS.2.2 dX4_takeNumber_37 hlk
set_option maxRecDepth 100000 in
set_option maxHeartbeats 4000000 in
theorem kX4_takeNumber (C : s_X p s m meth c args cX4_takeNumber (some .int) 4 RX4 G cy sa ad 27) (σ : Sg) (x1 : Int32) (x2 : Int32) (x3 : Int32) (ls : Array Slot) (H : Heap) (locs : List Loc) (hl : lv_has ls 4 [(0, .ref (ad 3)), (1, .int x1), (2, .int x2), (3, .int x3)]) (hP : va_P G vwCl ((s_WC cy ad) σ) H) (hS : va_S (s_A ad 27 s.heap.size) s.heap H locs) (hf : fX4_takeNumber σ x1 x2 x3 = some (re, σe)) : W p l e ({ frames := 1, cells := 0, slots := 0, locals := 21 } : Room) s m args below meth c H locs 0 0 (MQ below (s_Qi (s_WC cy ad) G (s_A ad 27 s.heap.size) re σe) args s 0 0 (s_A ad 27 s.heap.size)) (F0 m 0 ls []) := by
  obtain ⟨hx, hb, hr, hml, hown, hts, hlk, hK, hE, hI⟩ := id C
  have hD : ∀ σ : Sg, va_D (s_A ad 27 s.heap.size) ((s_WC cy ad) σ) := fun σ => s_D (s_WC_ad cy ad σ) hI (fun k hk => Or.inl ⟨k, hk, rfl⟩)
  unfold fX4_takeNumber at hf
  refine lv_aload_n hx hb dX4_takeNumber_0 rfl (lv_at hl 0 rfl) ?_
  refine va_get (D := G) (ci := 4) (v := .int (σ 3 5)) (C := RX4) (T := TX4) (N := 12) hx hb hts inkX4 hown hK hP 3 rfl rfl 5 (by decide) (hts _ kw_162) (fun _ h9 => h9) rfl dX4_takeNumber_1 ?_
  refine lv_iconst (v := 2) hx hb dX4_takeNumber_4 (by decide) ?_
  refine lv_icmp_eq (tgt := 15) hx hb dX4_takeNumber_5 (by decide) (fun c1 => ?_) (fun c1 => ?_)
  · rw [if_pos c1] at hf
    refine lv_aload_n hx hb dX4_takeNumber_15 rfl (lv_at hl 0 rfl) ?_
    refine va_get (D := G) (ci := 4) (v := .int (σ 3 9)) (C := RX4) (T := TX4) (N := 12) hx hb hts inkX4 hown hK hP 3 rfl rfl 9 (by decide) (hts _ kw_166) (fun _ h9 => h9) rfl dX4_takeNumber_16 ?_
    refine lv_iload_n hx hb dX4_takeNumber_19 rfl (lv_at hl 1 rfl) ?_
    refine lv_icmp_lt (tgt := 31) hx hb dX4_takeNumber_20 (by decide) (fun c2 => ?_) (fun c2 => ?_)
    · rw [if_pos c2] at hf
      exact kX4_takeNumber_b31 C σ x1 _ _ _ (lv_sub hl [0, 1] rfl) hP hS hf
    · rw [if_neg c2] at hf
      refine lv_aload_n hx hb dX4_takeNumber_23 rfl (lv_at hl 0 rfl) ?_
      refine va_get (D := G) (ci := 4) (v := .int (σ 3 9)) (C := RX4) (T := TX4) (N := 12) hx hb hts inkX4 hown hK hP 3 rfl rfl 9 (by decide) (hts _ kw_166) (fun _ h9 => h9) rfl dX4_takeNumber_24 ?_
      refine lv_iload_n hx hb dX4_takeNumber_27 rfl (lv_at hl 2 rfl) ?_
      refine lv_icmp_le (tgt := 38) hx hb dX4_takeNumber_28 (by decide) (fun c3 => ?_) (fun c3 => ?_)
      · rw [if_pos c3] at hf
        refine lv_aload_n hx hb dX4_takeNumber_38 rfl (lv_at hl 0 rfl) ?_
        refine lv_iload_n hx hb dX4_takeNumber_39 rfl (lv_at hl 3 rfl) ?_
        refine va_put (D := G) (ci := 4) (v := .int x3) (ty := .int) (C := RX4) (T := TX4) (N := 12) hx hb hts inkX4 tyX4 tyX4_ok nmX4 hown hK hP (hD _) hS 3 rfl rfl 1 (by decide) (hts _ kw_158) (fun _ h9 => h9) rfl (by decide +kernel) rfl rfl (Nat.le_of_ble_eq_true rfl) dX4_takeNumber_40 (fun H locs hP _ hS => ?_)
        obtain ⟨σ4, eσ4⟩ : ∃ z : Sg, z = (s_up σ 3 1 x3) := ⟨_, rfl⟩
        replace hf := s_lt_at eσ4 hf
        replace hP : va_P G vwCl ((s_WC cy ad) σ4) H := by rw [eσ4]; exact hP
        refine lv_aload_n hx hb dX4_takeNumber_43 rfl (lv_at hl 0 rfl) ?_
        refine va_get (D := G) (ci := 4) (v := .int (σ4 3 9)) (C := RX4) (T := TX4) (N := 12) hx hb hts inkX4 hown hK hP 3 rfl rfl 9 (by decide) (hts _ kw_166) (fun _ h9 => h9) rfl dX4_takeNumber_44 ?_
        obtain ⟨he1, he2⟩ := s_ret hf
        exact W.iret hx hb hr (fun t ht hW => ⟨⟨_, (), rfl, he1, s_fin (Wd := (s_WC cy ad)) ht he2 hP⟩, hS.F ht⟩) hS.2.2 dX4_takeNumber_47 hlk
      · rw [if_neg c3] at hf
        exact kX4_takeNumber_b31 C σ x1 _ _ _ (lv_sub hl [0, 1] rfl) hP hS hf
  · rw [if_neg c1] at hf
    refine lv_aload_n hx hb dX4_takeNumber_8 rfl (lv_at hl 0 rfl) ?_
    refine lv_iconst (v := 2) hx hb dX4_takeNumber_9 (by decide) ?_
    replace hf := s_bv_some hf
    obtain ⟨σ5, hz6, hf⟩ := hf
    refine s_callv (nn := 1) C (kcX4_refuse (l := l) (G := G) (cy := cy) (sa := sa) hI (sz := H.size) σ (2 : Int32) hz6) gk_X4_70 rfl rfl (by decide +kernel) ⟨Nat.le_of_ble_eq_true rfl, Nat.le_of_ble_eq_true rfl⟩ hP hS (q0 := 3) (ci := 4) rfl rfl rfl (As := [.int (2 : Int32)]) (rest := []) rfl rfl hl.1 (Nat.le_of_ble_eq_true rfl) dX4_takeNumber_10 (fun H locs hP hS => ?_)
    refine lv_iload_n hx hb dX4_takeNumber_13 rfl (lv_at hl 1 rfl) ?_
    obtain ⟨he1, he2⟩ := s_ret hf
    exact W.iret hx hb hr (fun t ht hW => ⟨⟨_, (), rfl, he1, s_fin (Wd := (s_WC cy ad)) ht he2 hP⟩, hS.F ht⟩) hS.2.2 dX4_takeNumber_14 hlk
theorem kcX4_takeNumber {l : Launch} {G : va_G} {cy : Nat → ClassId} {sa : Nat × Nat} {ad : Nat → Nat}  {sz : Nat} (hI : s_inj ad 27) (σ : Sg) (x1 : Int32) (x2 : Int32) (x3 : Int32) {re : Int32} {σe : Sg} (hf : fX4_takeNumber σ x1 x2 x3 = some (re, σe)) : Met l yX4_takeNumber (kW yX4_takeNumber cX4_takeNumber 4 (some .int)) ({ frames := 1, cells := 0, slots := 0, locals := 21 } : Room) (s_P (s_WC cy ad) G cy sa ad 27 [.ref (ad 3), .int x1, .int x2, .int x3] sz σ) (s_Qi (s_WC cy ad) G (s_A ad 27 sz) re σe) 0 0 (s_A ad 27 sz) := by
  refine s_met (own := RX4) (by decide) rfl hI (Nat.le_of_ble_eq_true rfl) (fun p e s m below meth c ls hsz C hP hl => ?_)
  subst hsz
  exact kX4_takeNumber C σ x1 x2 x3 ls _ _ hl hP va_S.rf hf
set_option maxRecDepth 100000 in
set_option maxHeartbeats 4000000 in
theorem kX4_takeChoice_b16 (C : s_X p s m meth c args cX4_takeChoice (some .int) 3 RX4 G cy sa ad 27) (σ : Sg) (ls : Array Slot) (H : Heap) (locs : List Loc) (hl : lv_has ls 3 [(0, .ref (ad 3))]) (hP : va_P G vwCl ((s_WC cy ad) σ) H) (hS : va_S (s_A ad 27 s.heap.size) s.heap H locs) (hf : fX4_takeChoice_b16 σ = some (re, σe)) : W p l e ({ frames := 1, cells := 0, slots := 0, locals := 21 } : Room) s m args below meth c H locs 0 0 (MQ below (s_Qi (s_WC cy ad) G (s_A ad 27 s.heap.size) re σe) args s 0 0 (s_A ad 27 s.heap.size)) (F0 m 16 ls []) := by
  obtain ⟨hx, hb, hr, hml, hown, hts, hlk, hK, hE, hI⟩ := id C
  have hD : ∀ σ : Sg, va_D (s_A ad 27 s.heap.size) ((s_WC cy ad) σ) := fun σ => s_D (s_WC_ad cy ad σ) hI (fun k hk => Or.inl ⟨k, hk, rfl⟩)
  unfold fX4_takeChoice_b16 at hf
  refine lv_aload_n hx hb dX4_takeChoice_16 rfl (lv_at hl 0 rfl) ?_
  refine lv_iconst (v := 2) hx hb dX4_takeChoice_17 (by decide) ?_
  replace hf := s_bv_some hf
  obtain ⟨σ1, hz2, hf⟩ := hf
  refine s_callv (nn := 1) C (kcX4_refuse (l := l) (G := G) (cy := cy) (sa := sa) hI (sz := H.size) σ (2 : Int32) hz2) gk_X4_70 rfl rfl (by decide +kernel) ⟨Nat.le_of_ble_eq_true rfl, Nat.le_of_ble_eq_true rfl⟩ hP hS (q0 := 3) (ci := 4) rfl rfl rfl (As := [.int (2 : Int32)]) (rest := []) rfl rfl hl.1 (Nat.le_of_ble_eq_true rfl) dX4_takeChoice_18 (fun H locs hP hS => ?_)
  refine lv_iconst (v := 0) hx hb dX4_takeChoice_21 (by decide) ?_
  obtain ⟨he1, he2⟩ := s_ret hf
  exact W.iret hx hb hr (fun t ht hW => ⟨⟨_, (), rfl, he1, s_fin (Wd := (s_WC cy ad)) ht he2 hP⟩, hS.F ht⟩) hS.2.2 dX4_takeChoice_22 hlk
set_option maxRecDepth 100000 in
set_option maxHeartbeats 4000000 in
theorem kX4_takeChoice (C : s_X p s m meth c args cX4_takeChoice (some .int) 3 RX4 G cy sa ad 27) (σ : Sg) (x1 : Int32) (x2 : Int32) (ls : Array Slot) (H : Heap) (locs : List Loc) (hl : lv_has ls 3 [(0, .ref (ad 3)), (1, .int x1), (2, .int x2)]) (hP : va_P G vwCl ((s_WC cy ad) σ) H) (hS : va_S (s_A ad 27 s.heap.size) s.heap H locs) (hf : fX4_takeChoice σ x1 x2 = some (re, σe)) : W p l e ({ frames := 1, cells := 0, slots := 0, locals := 21 } : Room) s m args below meth c H locs 0 0 (MQ below (s_Qi (s_WC cy ad) G (s_A ad 27 s.heap.size) re σe) args s 0 0 (s_A ad 27 s.heap.size)) (F0 m 0 ls []) := by
  obtain ⟨hx, hb, hr, hml, hown, hts, hlk, hK, hE, hI⟩ := id C
  have hD : ∀ σ : Sg, va_D (s_A ad 27 s.heap.size) ((s_WC cy ad) σ) := fun σ => s_D (s_WC_ad cy ad σ) hI (fun k hk => Or.inl ⟨k, hk, rfl⟩)
  unfold fX4_takeChoice at hf
  refine lv_aload_n hx hb dX4_takeChoice_0 rfl (lv_at hl 0 rfl) ?_
  refine va_get (D := G) (ci := 4) (v := .int (σ 3 8)) (C := RX4) (T := TX4) (N := 12) hx hb hts inkX4 hown hK hP 3 rfl rfl 8 (by decide) (hts _ kw_165) (fun _ h9 => h9) rfl dX4_takeChoice_1 ?_
  refine lv_iload_n hx hb dX4_takeChoice_4 rfl (lv_at hl 1 rfl) ?_
  refine lv_icmp_lt (tgt := 16) hx hb dX4_takeChoice_5 (by decide) (fun c1 => ?_) (fun c1 => ?_)
  · rw [if_pos c1] at hf
    exact kX4_takeChoice_b16 C σ _ _ _ (lv_sub hl [0] rfl) hP hS hf
  · rw [if_neg c1] at hf
    refine lv_aload_n hx hb dX4_takeChoice_8 rfl (lv_at hl 0 rfl) ?_
    refine va_get (D := G) (ci := 4) (v := .int (σ 3 8)) (C := RX4) (T := TX4) (N := 12) hx hb hts inkX4 hown hK hP 3 rfl rfl 8 (by decide) (hts _ kw_165) (fun _ h9 => h9) rfl dX4_takeChoice_9 ?_
    refine lv_iload_n hx hb dX4_takeChoice_12 rfl (lv_at hl 2 rfl) ?_
    refine lv_icmp_le (tgt := 23) hx hb dX4_takeChoice_13 (by decide) (fun c2 => ?_) (fun c2 => ?_)
    · rw [if_pos c2] at hf
      refine lv_aload_n hx hb dX4_takeChoice_23 rfl (lv_at hl 0 rfl) ?_
      refine lv_bipush (v := 11) hx hb dX4_takeChoice_24 (by decide) ?_
      refine va_put (D := G) (ci := 4) (v := .int (11 : Int32)) (ty := .int) (C := RX4) (T := TX4) (N := 12) hx hb hts inkX4 tyX4 tyX4_ok nmX4 hown hK hP (hD _) hS 3 rfl rfl 1 (by decide) (hts _ kw_158) (fun _ h9 => h9) rfl (by decide +kernel) rfl rfl (Nat.le_of_ble_eq_true rfl) dX4_takeChoice_26 (fun H locs hP _ hS => ?_)
      obtain ⟨σ3, eσ3⟩ : ∃ z : Sg, z = (s_up σ 3 1 (11 : Int32)) := ⟨_, rfl⟩
      replace hf := s_lt_at eσ3 hf
      replace hP : va_P G vwCl ((s_WC cy ad) σ3) H := by rw [eσ3]; exact hP
      refine lv_aload_n hx hb dX4_takeChoice_29 rfl (lv_at hl 0 rfl) ?_
      refine va_get (D := G) (ci := 4) (v := .int (σ3 3 8)) (C := RX4) (T := TX4) (N := 12) hx hb hts inkX4 hown hK hP 3 rfl rfl 8 (by decide) (hts _ kw_165) (fun _ h9 => h9) rfl dX4_takeChoice_30 ?_
      refine lv_iload_n hx hb dX4_takeChoice_33 rfl (lv_at hl 1 rfl) ?_
      refine lv_isub hx hb dX4_takeChoice_34 ?_
      obtain ⟨he1, he2⟩ := s_ret hf
      exact W.iret hx hb hr (fun t ht hW => ⟨⟨_, (), rfl, he1, s_fin (Wd := (s_WC cy ad)) ht he2 hP⟩, hS.F ht⟩) hS.2.2 dX4_takeChoice_35 hlk
    · rw [if_neg c2] at hf
      exact kX4_takeChoice_b16 C σ _ _ _ (lv_sub hl [0] rfl) hP hS hf
theorem kcX4_takeChoice {l : Launch} {G : va_G} {cy : Nat → ClassId} {sa : Nat × Nat} {ad : Nat → Nat}  {sz : Nat} (hI : s_inj ad 27) (σ : Sg) (x1 : Int32) (x2 : Int32) {re : Int32} {σe : Sg} (hf : fX4_takeChoice σ x1 x2 = some (re, σe)) : Met l yX4_takeChoice (kW yX4_takeChoice cX4_takeChoice 3 (some .int)) ({ frames := 1, cells := 0, slots := 0, locals := 21 } : Room) (s_P (s_WC cy ad) G cy sa ad 27 [.ref (ad 3), .int x1, .int x2] sz σ) (s_Qi (s_WC cy ad) G (s_A ad 27 sz) re σe) 0 0 (s_A ad 27 sz) := by
  refine s_met (own := RX4) (by decide) rfl hI (Nat.le_of_ble_eq_true rfl) (fun p e s m below meth c ls hsz C hP hl => ?_)
  subst hsz
  exact kX4_takeChoice C σ x1 x2 ls _ _ hl hP va_S.rf hf
set_option maxRecDepth 100000 in
set_option maxHeartbeats 4000000 in
theorem kX1_isFull_4 (C : s_X p s m meth c args cX1_isFull (some .boolean) 1 RX1 G cy sa ad 27) (σ : Sg) (ls : Array Slot) (H : Heap) (locs : List Loc) (hl : lv_has ls 1 [(0, .ref (ad 4))]) (hP : va_P G vwCl ((s_WC cy ad) σ) H) (hS : va_S (s_A ad 27 s.heap.size) s.heap H locs) (hf : fX1_isFull_4 σ = some (re, σe)) : W p l e ({ frames := 0, cells := 0, slots := 0, locals := 0 } : Room) s m args below meth c H locs 0 0 (MQ below (s_Qi (s_WC cy ad) G (s_A ad 27 s.heap.size) re σe) args s 0 0 (s_A ad 27 s.heap.size)) (F0 m 0 ls []) := by
  obtain ⟨hx, hb, hr, hml, hown, hts, hlk, hK, hE, hI⟩ := id C
  have hD : ∀ σ : Sg, va_D (s_A ad 27 s.heap.size) ((s_WC cy ad) σ) := fun σ => s_D (s_WC_ad cy ad σ) hI (fun k hk => Or.inl ⟨k, hk, rfl⟩)
  unfold fX1_isFull_4 at hf
  refine lv_aload_n hx hb dX1_isFull_0 rfl (lv_at hl 0 rfl) ?_
  refine va_get (D := G) (ci := 1) (v := .int (σ 4 1)) (C := RX1) (T := TX1) (N := 8) hx hb hts inkX1 hown hK hP 4 rfl rfl 1 (by decide) (hts _ kw_112) (fun _ h9 => h9) rfl dX1_isFull_1 ?_
  refine lv_bipush (v := 96) hx hb dX1_isFull_4 (by decide) ?_
  refine lv_icmp_lt (tgt := 13) hx hb dX1_isFull_6 (by decide) (fun c1 => ?_) (fun c1 => ?_)
  · rw [if_pos c1] at hf
    refine lv_iconst (v := 0) hx hb dX1_isFull_13 (by decide) ?_
    obtain ⟨he1, he2⟩ := s_ret hf
    exact W.zret hx hb hr rfl (fun t ht hW => ⟨⟨_, (), rfl, he1, s_fin (Wd := (s_WC cy ad)) ht he2 hP⟩, hS.F ht⟩) hS.2.2 dX1_isFull_14 hlk
  · rw [if_neg c1] at hf
    refine lv_iconst (v := 1) hx hb dX1_isFull_9 (by decide) ?_
    refine lv_goto (tgt := 14) hx hb dX1_isFull_10 (by decide) ?_
    obtain ⟨he1, he2⟩ := s_ret hf
    exact W.zret hx hb hr rfl (fun t ht hW => ⟨⟨_, (), rfl, he1, s_fin (Wd := (s_WC cy ad)) ht he2 hP⟩, hS.F ht⟩) hS.2.2 dX1_isFull_14 hlk
theorem kcX1_isFull_4 {l : Launch} {G : va_G} {cy : Nat → ClassId} {sa : Nat × Nat} {ad : Nat → Nat}  {sz : Nat} (hI : s_inj ad 27) (σ : Sg) {re : Int32} {σe : Sg} (hf : fX1_isFull_4 σ = some (re, σe)) : Met l yX1_isFull (kW yX1_isFull cX1_isFull 1 (some .boolean)) ({ frames := 0, cells := 0, slots := 0, locals := 0 } : Room) (s_P (s_WC cy ad) G cy sa ad 27 [.ref (ad 4)] sz σ) (s_Qi (s_WC cy ad) G (s_A ad 27 sz) re σe) 0 0 (s_A ad 27 sz) := by
  refine s_met (own := RX1) (by decide) rfl hI (Nat.le_of_ble_eq_true rfl) (fun p e s m below meth c ls hsz C hP hl => ?_)
  subst hsz
  exact kX1_isFull_4 C σ ls _ _ hl hP va_S.rf hf
set_option maxRecDepth 100000 in
set_option maxHeartbeats 4000000 in
theorem kX1_append_4 (C : s_X p s m meth c args cX1_append none 2 RX1 G cy sa ad 27) (σ : Sg) (x1 : Int32) (ls : Array Slot) (H : Heap) (locs : List Loc) (hl : lv_has ls 2 [(0, .ref (ad 4)), (1, .int x1)]) (hP : va_P G vwCl ((s_WC cy ad) σ) H) (hS : va_S (s_A ad 27 s.heap.size) s.heap H locs) (hf : fX1_append_4 σ x1 = some σe) : W p l e ({ frames := 1, cells := 0, slots := 0, locals := 20 } : Room) s m args below meth c H locs 0 0 (MQ below (s_Qv (s_WC cy ad) G (s_A ad 27 s.heap.size) σe) args s 0 0 (s_A ad 27 s.heap.size)) (F0 m 0 ls []) := by
  obtain ⟨hx, hb, hr, hml, hown, hts, hlk, hK, hE, hI⟩ := id C
  have hD : ∀ σ : Sg, va_D (s_A ad 27 s.heap.size) ((s_WC cy ad) σ) := fun σ => s_D (s_WC_ad cy ad σ) hI (fun k hk => Or.inl ⟨k, hk, rfl⟩)
  unfold fX1_append_4 at hf
  refine lv_aload_n hx hb dX1_append_0 rfl (lv_at hl 0 rfl) ?_
  replace hf := s_bi_some hf
  obtain ⟨r3, σ1, hz2, hf⟩ := hf
  refine s_calli (nn := 0) C (kcX1_isFull_4 (l := l) (G := G) (cy := cy) (sa := sa) hI (sz := H.size) σ hz2) gk_X1_51 rfl rfl (by decide +kernel) ⟨Nat.le_of_ble_eq_true rfl, Nat.le_of_ble_eq_true rfl⟩ hP hS (q0 := 4) (ci := 1) rfl rfl rfl (As := []) (rest := []) rfl rfl hl.1 (Nat.le_of_ble_eq_true rfl) dX1_append_1 (fun H locs hP hS => ?_)
  refine lv_if_ne (tgt := 27) hx hb dX1_append_4 (by decide) (fun c4 => ?_) (fun c4 => ?_)
  · rw [if_neg c4] at hf
    have he2 := Option.some.inj hf
    exact W.vret hx hb hr (fun t ht hW => ⟨⟨(), rfl, trivial, s_fin (Wd := (s_WC cy ad)) ht he2 hP⟩, hS.F ht⟩) hS.2.2 dX1_append_27 hlk
  · rw [if_pos c4] at hf
    refine lv_aload_n hx hb dX1_append_7 rfl (lv_at hl 0 rfl) ?_
    refine va_get (D := G) (ci := 1) (v := .ref (ad 5)) (C := RX1) (T := TX1) (N := 8) hx hb hts inkX1 hown hK hP 4 rfl rfl 0 (by decide) (hts _ kw_111) (fun _ h9 => h9) rfl dX1_append_8 ?_
    refine lv_aload_n hx hb dX1_append_11 rfl (lv_at hl 0 rfl) ?_
    refine va_get (D := G) (ci := 1) (v := .int (σ1 4 1)) (C := RX1) (T := TX1) (N := 8) hx hb hts inkX1 hown hK hP 4 rfl rfl 1 (by decide) (hts _ kw_112) (fun _ h9 => h9) rfl dX1_append_12 ?_
    refine lv_iload_n hx hb dX1_append_15 rfl (lv_at hl 1 rfl) ?_
    replace hf := s_gd_some hf
    obtain ⟨g5, hf⟩ := hf
    refine va_iast hx hb hK hP (hD _) hS 5 1 rfl rfl (s_in_of g5) dX1_append_16 (fun H locs hP _ hS => ?_)
    obtain ⟨σ6, eσ6⟩ : ∃ z : Sg, z = (s_up σ1 5 (Int32.toNatClampNeg (σ1 4 1)) x1) := ⟨_, rfl⟩
    replace hf := s_lt_at eσ6 hf
    replace hP : va_P G vwCl ((s_WC cy ad) σ6) H := by rw [eσ6]; exact hP
    refine lv_aload_n hx hb dX1_append_17 rfl (lv_at hl 0 rfl) ?_
    refine lv_dup hx hb dX1_append_18 rfl ?_
    refine va_get (D := G) (ci := 1) (v := .int (σ6 4 1)) (C := RX1) (T := TX1) (N := 8) hx hb hts inkX1 hown hK hP 4 rfl rfl 1 (by decide) (hts _ kw_112) (fun _ h9 => h9) rfl dX1_append_19 ?_
    refine lv_iconst (v := 1) hx hb dX1_append_22 (by decide) ?_
    refine lv_iadd hx hb dX1_append_23 ?_
    refine va_put (D := G) (ci := 1) (v := .int ((σ6 4 1) + (1 : Int32))) (ty := .int) (C := RX1) (T := TX1) (N := 8) hx hb hts inkX1 tyX1 tyX1_ok nmX1 hown hK hP (hD _) hS 4 rfl rfl 1 (by decide) (hts _ kw_112) (fun _ h9 => h9) rfl (by decide +kernel) rfl rfl (Nat.le_of_ble_eq_true rfl) dX1_append_24 (fun H locs hP _ hS => ?_)
    obtain ⟨σ7, eσ7⟩ : ∃ z : Sg, z = (s_up σ6 4 1 ((σ6 4 1) + (1 : Int32))) := ⟨_, rfl⟩
    replace hf := s_lt_at eσ7 hf
    replace hP : va_P G vwCl ((s_WC cy ad) σ7) H := by rw [eσ7]; exact hP
    have he2 := Option.some.inj hf
    exact W.vret hx hb hr (fun t ht hW => ⟨⟨(), rfl, trivial, s_fin (Wd := (s_WC cy ad)) ht he2 hP⟩, hS.F ht⟩) hS.2.2 dX1_append_27 hlk
theorem kcX1_append_4 {l : Launch} {G : va_G} {cy : Nat → ClassId} {sa : Nat × Nat} {ad : Nat → Nat}  {sz : Nat} (hI : s_inj ad 27) (σ : Sg) (x1 : Int32) {σe : Sg} (hf : fX1_append_4 σ x1 = some σe) : Met l yX1_append (kW yX1_append cX1_append 2 none) ({ frames := 1, cells := 0, slots := 0, locals := 20 } : Room) (s_P (s_WC cy ad) G cy sa ad 27 [.ref (ad 4), .int x1] sz σ) (s_Qv (s_WC cy ad) G (s_A ad 27 sz) σe) 0 0 (s_A ad 27 sz) := by
  refine s_met (own := RX1) (by decide) rfl hI (Nat.le_of_ble_eq_true rfl) (fun p e s m below meth c ls hsz C hP hl => ?_)
  subst hsz
  exact kX1_append_4 C σ x1 ls _ _ hl hP va_S.rf hf
set_option maxRecDepth 100000 in
set_option maxHeartbeats 4000000 in
theorem kX4_takeWhole_b40 (C : s_X p s m meth c args cX4_takeWhole none 1 RX4 G cy sa ad 27) (σ : Sg) (y1 : Int32) (ls : Array Slot) (H : Heap) (locs : List Loc) (hl : lv_has ls 1 []) (hP : va_P G vwCl ((s_WC cy ad) σ) H) (hS : va_S (s_A ad 27 s.heap.size) s.heap H locs) (hf : fX4_takeWhole_b40 σ y1 = some σe) : W p l e ({ frames := 2, cells := 0, slots := 0, locals := 44 } : Room) s m args below meth c H locs 0 0 (MQ below (s_Qv (s_WC cy ad) G (s_A ad 27 s.heap.size) σe) args s 0 0 (s_A ad 27 s.heap.size)) (F0 m 40 ls [.int y1, .ref (ad 4)]) := by
  obtain ⟨hx, hb, hr, hml, hown, hts, hlk, hK, hE, hI⟩ := id C
  have hD : ∀ σ : Sg, va_D (s_A ad 27 s.heap.size) ((s_WC cy ad) σ) := fun σ => s_D (s_WC_ad cy ad σ) hI (fun k hk => Or.inl ⟨k, hk, rfl⟩)
  unfold fX4_takeWhole_b40 at hf
  replace hf := s_bv_some hf
  obtain ⟨σ1, hz2, hf⟩ := hf
  refine s_callv (nn := 1) C (kcX1_append_4 (l := l) (G := G) (cy := cy) (sa := sa) hI (sz := H.size) σ y1 hz2) gk_X4_124 rfl rfl (by decide +kernel) ⟨Nat.le_of_ble_eq_true rfl, Nat.le_of_ble_eq_true rfl⟩ hP hS (q0 := 4) (ci := 1) rfl rfl rfl (As := [.int y1]) (rest := []) rfl rfl hl.1 (Nat.le_of_ble_eq_true rfl) dX4_takeWhole_40 (fun H locs hP hS => ?_)
  have he2 := Option.some.inj hf
  exact W.vret hx hb hr (fun t ht hW => ⟨⟨(), rfl, trivial, s_fin (Wd := (s_WC cy ad)) ht he2 hP⟩, hS.F ht⟩) hS.2.2 dX4_takeWhole_43 hlk
set_option maxRecDepth 100000 in
set_option maxHeartbeats 4000000 in
theorem kX4_takeWhole (C : s_X p s m meth c args cX4_takeWhole none 1 RX4 G cy sa ad 27) (σ : Sg) (ls : Array Slot) (H : Heap) (locs : List Loc) (hl : lv_has ls 1 [(0, .ref (ad 3))]) (hP : va_P G vwCl ((s_WC cy ad) σ) H) (hS : va_S (s_A ad 27 s.heap.size) s.heap H locs) (hf : fX4_takeWhole σ = some σe) : W p l e ({ frames := 2, cells := 0, slots := 0, locals := 44 } : Room) s m args below meth c H locs 0 0 (MQ below (s_Qv (s_WC cy ad) G (s_A ad 27 s.heap.size) σe) args s 0 0 (s_A ad 27 s.heap.size)) (F0 m 0 ls []) := by
  obtain ⟨hx, hb, hr, hml, hown, hts, hlk, hK, hE, hI⟩ := id C
  have hD : ∀ σ : Sg, va_D (s_A ad 27 s.heap.size) ((s_WC cy ad) σ) := fun σ => s_D (s_WC_ad cy ad σ) hI (fun k hk => Or.inl ⟨k, hk, rfl⟩)
  unfold fX4_takeWhole at hf
  refine lv_aload_n hx hb dX4_takeWhole_0 rfl (lv_at hl 0 rfl) ?_
  refine lv_bipush (v := 100) hx hb dX4_takeWhole_1 (by decide) ?_
  refine lv_aload_n hx hb dX4_takeWhole_3 rfl (lv_at hl 0 rfl) ?_
  refine lv_iconst (v := 0) hx hb dX4_takeWhole_4 (by decide) ?_
  refine lv_sipush (v := 9999) hx hb dX4_takeWhole_5 (by decide) ?_
  refine lv_bipush (v := 8) hx hb dX4_takeWhole_8 (by decide) ?_
  replace hf := s_bi_some hf
  obtain ⟨r3, σ1, hz2, hf⟩ := hf
  refine s_calli (nn := 3) C (kcX4_takeNumber (l := l) (G := G) (cy := cy) (sa := sa) hI (sz := H.size) σ (0 : Int32) (9999 : Int32) (8 : Int32) hz2) gk_X4_76 rfl rfl (by decide +kernel) ⟨Nat.le_of_ble_eq_true rfl, Nat.le_of_ble_eq_true rfl⟩ hP hS (q0 := 3) (ci := 4) rfl rfl rfl (As := [.int (0 : Int32), .int (9999 : Int32), .int (8 : Int32)]) (rest := [.int (100 : Int32), .ref (ad 3)]) rfl rfl hl.1 (Nat.le_of_ble_eq_true rfl) dX4_takeWhole_10 (fun H locs hP hS => ?_)
  refine lv_imul hx hb dX4_takeWhole_13 ?_
  refine va_put (D := G) (ci := 4) (v := .int ((100 : Int32) * r3)) (ty := .int) (C := RX4) (T := TX4) (N := 12) hx hb hts inkX4 tyX4 tyX4_ok nmX4 hown hK hP (hD _) hS 3 rfl rfl 4 (by decide) (hts _ kw_161) (fun _ h9 => h9) rfl (by decide +kernel) rfl rfl (Nat.le_of_ble_eq_true rfl) dX4_takeWhole_14 (fun H locs hP _ hS => ?_)
  obtain ⟨σ4, eσ4⟩ : ∃ z : Sg, z = (s_up σ1 3 4 ((100 : Int32) * r3)) := ⟨_, rfl⟩
  replace hf := s_lt_at eσ4 hf
  replace hP : va_P G vwCl ((s_WC cy ad) σ4) H := by rw [eσ4]; exact hP
  refine lv_aload_n hx hb dX4_takeWhole_17 rfl (lv_at hl 0 rfl) ?_
  refine va_get (D := G) (ci := 4) (v := .ref (ad 4)) (C := RX4) (T := TX4) (N := 12) hx hb hts inkX4 hown hK hP 3 rfl rfl 0 (by decide) (hts _ kw_156) (fun _ h9 => h9) rfl dX4_takeWhole_18 ?_
  refine lv_aload_n hx hb dX4_takeWhole_21 rfl (lv_at hl 0 rfl) ?_
  refine va_get (D := G) (ci := 4) (v := .int (σ4 3 3)) (C := RX4) (T := TX4) (N := 12) hx hb hts inkX4 hown hK hP 3 rfl rfl 3 (by decide) (hts _ kw_160) (fun _ h9 => h9) rfl dX4_takeWhole_22 ?_
  refine lv_if_eq (tgt := 36) hx hb dX4_takeWhole_25 (by decide) (fun c5 => ?_) (fun c5 => ?_)
  · rw [if_pos c5] at hf
    refine lv_aload_n hx hb dX4_takeWhole_36 rfl (lv_at hl 0 rfl) ?_
    refine va_get (D := G) (ci := 4) (v := .int (σ4 3 4)) (C := RX4) (T := TX4) (N := 12) hx hb hts inkX4 hown hK hP 3 rfl rfl 4 (by decide) (hts _ kw_161) (fun _ h9 => h9) rfl dX4_takeWhole_37 ?_
    exact kX4_takeWhole_b40 C σ4 (σ4 3 4) _ _ _ (lv_sub hl [] rfl) hP hS hf
  · rw [if_neg c5] at hf
    refine lv_aload_n hx hb dX4_takeWhole_28 rfl (lv_at hl 0 rfl) ?_
    refine va_get (D := G) (ci := 4) (v := .int (σ4 3 4)) (C := RX4) (T := TX4) (N := 12) hx hb hts inkX4 hown hK hP 3 rfl rfl 4 (by decide) (hts _ kw_161) (fun _ h9 => h9) rfl dX4_takeWhole_29 ?_
    refine lv_ineg hx hb dX4_takeWhole_32 ?_
    refine lv_goto (tgt := 40) hx hb dX4_takeWhole_33 (by decide) ?_
    exact kX4_takeWhole_b40 C σ4 (-(σ4 3 4)) _ _ _ (lv_sub hl [] rfl) hP hS hf
theorem kcX4_takeWhole {l : Launch} {G : va_G} {cy : Nat → ClassId} {sa : Nat × Nat} {ad : Nat → Nat}  {sz : Nat} (hI : s_inj ad 27) (σ : Sg) {σe : Sg} (hf : fX4_takeWhole σ = some σe) : Met l yX4_takeWhole (kW yX4_takeWhole cX4_takeWhole 1 none) ({ frames := 2, cells := 0, slots := 0, locals := 44 } : Room) (s_P (s_WC cy ad) G cy sa ad 27 [.ref (ad 3)] sz σ) (s_Qv (s_WC cy ad) G (s_A ad 27 sz) σe) 0 0 (s_A ad 27 sz) := by
  refine s_met (own := RX4) (by decide) rfl hI (Nat.le_of_ble_eq_true rfl) (fun p e s m below meth c ls hsz C hP hl => ?_)
  subst hsz
  exact kX4_takeWhole C σ ls _ _ hl hP va_S.rf hf
set_option maxRecDepth 100000 in
set_option maxHeartbeats 4000000 in
theorem kX4_takeReadingOrMore_b88 (C : s_X p s m meth c args cX4_takeReadingOrMore none 3 RX4 G cy sa ad 27) (σ : Sg) (x2 : Int32) (ls : Array Slot) (H : Heap) (locs : List Loc) (hl : lv_has ls 3 [(0, .ref (ad 3)), (2, .int x2)]) (hP : va_P G vwCl ((s_WC cy ad) σ) H) (hS : va_S (s_A ad 27 s.heap.size) s.heap H locs) (hf : fX4_takeReadingOrMore_b88 σ x2 = some σe) : W p l e ({ frames := 3, cells := 0, slots := 0, locals := 64 } : Room) s m args below meth c H locs 0 0 (MQ below (s_Qv (s_WC cy ad) G (s_A ad 27 s.heap.size) σe) args s 0 0 (s_A ad 27 s.heap.size)) (F0 m 88 ls []) := by
  obtain ⟨hx, hb, hr, hml, hown, hts, hlk, hK, hE, hI⟩ := id C
  have hD : ∀ σ : Sg, va_D (s_A ad 27 s.heap.size) ((s_WC cy ad) σ) := fun σ => s_D (s_WC_ad cy ad σ) hI (fun k hk => Or.inl ⟨k, hk, rfl⟩)
  unfold fX4_takeReadingOrMore_b88 at hf
  refine lv_aload_n hx hb dX4_takeReadingOrMore_88 rfl (lv_at hl 0 rfl) ?_
  refine va_get (D := G) (ci := 4) (v := .ref (ad 4)) (C := RX4) (T := TX4) (N := 12) hx hb hts inkX4 hown hK hP 3 rfl rfl 0 (by decide) (hts _ kw_156) (fun _ h9 => h9) rfl dX4_takeReadingOrMore_89 ?_
  replace hf := s_bi_some hf
  obtain ⟨r3, σ1, hz2, hf⟩ := hf
  refine s_calli (nn := 0) C (kcX1_isFull_4 (l := l) (G := G) (cy := cy) (sa := sa) hI (sz := H.size) σ hz2) gk_X4_119 rfl rfl (by decide +kernel) ⟨Nat.le_of_ble_eq_true rfl, Nat.le_of_ble_eq_true rfl⟩ hP hS (q0 := 4) (ci := 1) rfl rfl rfl (As := []) (rest := []) rfl rfl hl.1 (Nat.le_of_ble_eq_true rfl) dX4_takeReadingOrMore_92 (fun H locs hP hS => ?_)
  refine lv_if_eq (tgt := 106) hx hb dX4_takeReadingOrMore_95 (by decide) (fun c4 => ?_) (fun c4 => ?_)
  · rw [if_pos c4] at hf
    refine lv_aload_n hx hb dX4_takeReadingOrMore_106 rfl (lv_at hl 0 rfl) ?_
    refine va_get (D := G) (ci := 4) (v := .int (σ1 3 8)) (C := RX4) (T := TX4) (N := 12) hx hb hts inkX4 hown hK hP 3 rfl rfl 8 (by decide) (hts _ kw_165) (fun _ h9 => h9) rfl dX4_takeReadingOrMore_107 ?_
    refine lv_bipush (v := 6) hx hb dX4_takeReadingOrMore_110 (by decide) ?_
    refine lv_icmp_ne (tgt := 133) hx hb dX4_takeReadingOrMore_112 (by decide) (fun c5 => ?_) (fun c5 => ?_)
    · rw [if_neg c5] at hf
      refine lv_aload_n hx hb dX4_takeReadingOrMore_133 rfl (lv_at hl 0 rfl) ?_
      refine lv_iload_n hx hb dX4_takeReadingOrMore_134 rfl (lv_at hl 1 rfl) ?_
      replace hf := s_gd_some hf
      obtain ⟨g6, hf⟩ := hf
      refine va_put (D := G) (ci := 4) (v := .int x2) (ty := .boolean) (C := RX4) (T := TX4) (N := 12) hx hb hts inkX4 tyX4 tyX4_ok nmX4 hown hK hP (hD _) hS 3 rfl rfl 3 (by decide) (hts _ kw_160) (fun _ h9 => h9) rfl (by decide +kernel) (s_z_nar g6) (s_z_fit g6) (Nat.le_of_ble_eq_true rfl) dX4_takeReadingOrMore_135 (fun H locs hP _ hS => ?_)
      obtain ⟨σ7, eσ7⟩ : ∃ z : Sg, z = (s_up σ1 3 3 x2) := ⟨_, rfl⟩
      replace hf := s_lt_at eσ7 hf
      replace hP : va_P G vwCl ((s_WC cy ad) σ7) H := by rw [eσ7]; exact hP
      refine lv_aload_n hx hb dX4_takeReadingOrMore_138 rfl (lv_at hl 0 rfl) ?_
      refine lv_bipush (v := 7) hx hb dX4_takeReadingOrMore_139 (by decide) ?_
      refine va_put (D := G) (ci := 4) (v := .int (7 : Int32)) (ty := .int) (C := RX4) (T := TX4) (N := 12) hx hb hts inkX4 tyX4 tyX4_ok nmX4 hown hK hP (hD _) hS 3 rfl rfl 1 (by decide) (hts _ kw_158) (fun _ h9 => h9) rfl (by decide +kernel) rfl rfl (Nat.le_of_ble_eq_true rfl) dX4_takeReadingOrMore_141 (fun H locs hP _ hS => ?_)
      obtain ⟨σ8, eσ8⟩ : ∃ z : Sg, z = (s_up σ7 3 1 (7 : Int32)) := ⟨_, rfl⟩
      replace hf := s_lt_at eσ8 hf
      replace hP : va_P G vwCl ((s_WC cy ad) σ8) H := by rw [eσ8]; exact hP
      refine lv_iload_n hx hb dX4_takeReadingOrMore_144 rfl (lv_at hl 1 rfl) ?_
      refine lv_if_ne (tgt := 152) hx hb dX4_takeReadingOrMore_145 (by decide) (fun c9 => ?_) (fun c9 => ?_)
      · rw [if_neg c9] at hf
        have he2 := Option.some.inj hf
        exact W.vret hx hb hr (fun t ht hW => ⟨⟨(), rfl, trivial, s_fin (Wd := (s_WC cy ad)) ht he2 hP⟩, hS.F ht⟩) hS.2.2 dX4_takeReadingOrMore_152 hlk
      · rw [if_pos c9] at hf
        refine lv_aload_n hx hb dX4_takeReadingOrMore_148 rfl (lv_at hl 0 rfl) ?_
        replace hf := s_bv_some hf
        obtain ⟨σ10, hz11, hf⟩ := hf
        refine s_callv (nn := 0) C (kcX4_takeWhole (l := l) (G := G) (cy := cy) (sa := sa) hI (sz := H.size) σ8 hz11) gk_X4_110 rfl rfl (by decide +kernel) ⟨Nat.le_of_ble_eq_true rfl, Nat.le_of_ble_eq_true rfl⟩ hP hS (q0 := 3) (ci := 4) rfl rfl rfl (As := []) (rest := []) rfl rfl hl.1 (Nat.le_of_ble_eq_true rfl) dX4_takeReadingOrMore_149 (fun H locs hP hS => ?_)
        have he2 := Option.some.inj hf
        exact W.vret hx hb hr (fun t ht hW => ⟨⟨(), rfl, trivial, s_fin (Wd := (s_WC cy ad)) ht he2 hP⟩, hS.F ht⟩) hS.2.2 dX4_takeReadingOrMore_152 hlk
    · rw [if_pos c5] at hf
      refine lv_aload_n hx hb dX4_takeReadingOrMore_115 rfl (lv_at hl 0 rfl) ?_
      refine va_get (D := G) (ci := 4) (v := .ref (ad 4)) (C := RX4) (T := TX4) (N := 12) hx hb hts inkX4 hown hK hP 3 rfl rfl 0 (by decide) (hts _ kw_156) (fun _ h9 => h9) rfl dX4_takeReadingOrMore_116 ?_
      refine lv_ldc (v := 100000000) hx hb hown (hts _ kw_435) dX4_takeReadingOrMore_119 ?_
      replace hf := s_bv_some hf
      obtain ⟨σ12, hz13, hf⟩ := hf
      refine s_callv (nn := 1) C (kcX1_append_4 (l := l) (G := G) (cy := cy) (sa := sa) hI (sz := H.size) σ1 (100000000 : Int32) hz13) gk_X4_124 rfl rfl (by decide +kernel) ⟨Nat.le_of_ble_eq_true rfl, Nat.le_of_ble_eq_true rfl⟩ hP hS (q0 := 4) (ci := 1) rfl rfl rfl (As := [.int (100000000 : Int32)]) (rest := []) rfl rfl hl.1 (Nat.le_of_ble_eq_true rfl) dX4_takeReadingOrMore_121 (fun H locs hP hS => ?_)
      refine lv_aload_n hx hb dX4_takeReadingOrMore_124 rfl (lv_at hl 0 rfl) ?_
      refine lv_bipush (v := 10) hx hb dX4_takeReadingOrMore_125 (by decide) ?_
      refine va_put (D := G) (ci := 4) (v := .int (10 : Int32)) (ty := .int) (C := RX4) (T := TX4) (N := 12) hx hb hts inkX4 tyX4 tyX4_ok nmX4 hown hK hP (hD _) hS 3 rfl rfl 1 (by decide) (hts _ kw_158) (fun _ h9 => h9) rfl (by decide +kernel) rfl rfl (Nat.le_of_ble_eq_true rfl) dX4_takeReadingOrMore_127 (fun H locs hP _ hS => ?_)
      obtain ⟨σ14, eσ14⟩ : ∃ z : Sg, z = (s_up σ12 3 1 (10 : Int32)) := ⟨_, rfl⟩
      replace hf := s_lt_at eσ14 hf
      replace hP : va_P G vwCl ((s_WC cy ad) σ14) H := by rw [eσ14]; exact hP
      refine lv_goto (tgt := 152) hx hb dX4_takeReadingOrMore_130 (by decide) ?_
      have he2 := Option.some.inj hf
      exact W.vret hx hb hr (fun t ht hW => ⟨⟨(), rfl, trivial, s_fin (Wd := (s_WC cy ad)) ht he2 hP⟩, hS.F ht⟩) hS.2.2 dX4_takeReadingOrMore_152 hlk
  · rw [if_neg c4] at hf
    refine lv_aload_n hx hb dX4_takeReadingOrMore_98 rfl (lv_at hl 0 rfl) ?_
    refine lv_iconst (v := 5) hx hb dX4_takeReadingOrMore_99 (by decide) ?_
    replace hf := s_bv_some hf
    obtain ⟨σ15, hz16, hf⟩ := hf
    refine s_callv (nn := 1) C (kcX4_refuse (l := l) (G := G) (cy := cy) (sa := sa) hI (sz := H.size) σ1 (5 : Int32) hz16) gk_X4_70 rfl rfl (by decide +kernel) ⟨Nat.le_of_ble_eq_true rfl, Nat.le_of_ble_eq_true rfl⟩ hP hS (q0 := 3) (ci := 4) rfl rfl rfl (As := [.int (5 : Int32)]) (rest := []) rfl rfl hl.1 (Nat.le_of_ble_eq_true rfl) dX4_takeReadingOrMore_100 (fun H locs hP hS => ?_)
    refine lv_goto (tgt := 152) hx hb dX4_takeReadingOrMore_103 (by decide) ?_
    have he2 := Option.some.inj hf
    exact W.vret hx hb hr (fun t ht hW => ⟨⟨(), rfl, trivial, s_fin (Wd := (s_WC cy ad)) ht he2 hP⟩, hS.F ht⟩) hS.2.2 dX4_takeReadingOrMore_152 hlk
set_option maxRecDepth 100000 in
set_option maxHeartbeats 4000000 in
theorem kX4_takeReadingOrMore_b59 (C : s_X p s m meth c args cX4_takeReadingOrMore none 3 RX4 G cy sa ad 27) (σ : Sg) (x2 : Int32) (ls : Array Slot) (H : Heap) (locs : List Loc) (hl : lv_has ls 3 [(0, .ref (ad 3)), (2, .int x2)]) (hP : va_P G vwCl ((s_WC cy ad) σ) H) (hS : va_S (s_A ad 27 s.heap.size) s.heap H locs) (hf : fX4_takeReadingOrMore_b59 σ x2 = some σe) : W p l e ({ frames := 3, cells := 0, slots := 0, locals := 64 } : Room) s m args below meth c H locs 0 0 (MQ below (s_Qv (s_WC cy ad) G (s_A ad 27 s.heap.size) σe) args s 0 0 (s_A ad 27 s.heap.size)) (F0 m 59 ls []) := by
  obtain ⟨hx, hb, hr, hml, hown, hts, hlk, hK, hE, hI⟩ := id C
  have hD : ∀ σ : Sg, va_D (s_A ad 27 s.heap.size) ((s_WC cy ad) σ) := fun σ => s_D (s_WC_ad cy ad σ) hI (fun k hk => Or.inl ⟨k, hk, rfl⟩)
  unfold fX4_takeReadingOrMore_b59 at hf
  refine lv_iload_n hx hb dX4_takeReadingOrMore_59 rfl (lv_at hl 1 rfl) ?_
  refine lv_if_ne (tgt := 88) hx hb dX4_takeReadingOrMore_60 (by decide) (fun c1 => ?_) (fun c1 => ?_)
  · rw [if_neg c1] at hf
    exact kX4_takeReadingOrMore_b88 C σ x2 _ _ _ (lv_sub hl [0, 1] rfl) hP hS hf
  · rw [if_pos c1] at hf
    refine lv_aload_n hx hb dX4_takeReadingOrMore_63 rfl (lv_at hl 0 rfl) ?_
    refine va_get (D := G) (ci := 4) (v := .int (σ 3 5)) (C := RX4) (T := TX4) (N := 12) hx hb hts inkX4 hown hK hP 3 rfl rfl 5 (by decide) (hts _ kw_162) (fun _ h9 => h9) rfl dX4_takeReadingOrMore_64 ?_
    refine lv_iconst (v := 2) hx hb dX4_takeReadingOrMore_67 (by decide) ?_
    refine lv_icmp_eq (tgt := 88) hx hb dX4_takeReadingOrMore_68 (by decide) (fun c2 => ?_) (fun c2 => ?_)
    · rw [if_pos c2] at hf
      exact kX4_takeReadingOrMore_b88 C σ x2 _ _ _ (lv_sub hl [0, 1] rfl) hP hS hf
    · rw [if_neg c2] at hf
      refine lv_aload_n hx hb dX4_takeReadingOrMore_71 rfl (lv_at hl 0 rfl) ?_
      refine va_get (D := G) (ci := 4) (v := .int (σ 3 8)) (C := RX4) (T := TX4) (N := 12) hx hb hts inkX4 hown hK hP 3 rfl rfl 8 (by decide) (hts _ kw_165) (fun _ h9 => h9) rfl dX4_takeReadingOrMore_72 ?_
      refine lv_bipush (v := 6) hx hb dX4_takeReadingOrMore_75 (by decide) ?_
      refine lv_icmp_eq (tgt := 88) hx hb dX4_takeReadingOrMore_77 (by decide) (fun c3 => ?_) (fun c3 => ?_)
      · rw [if_pos c3] at hf
        exact kX4_takeReadingOrMore_b88 C σ x2 _ _ _ (lv_sub hl [0, 1] rfl) hP hS hf
      · rw [if_neg c3] at hf
        refine lv_aload_n hx hb dX4_takeReadingOrMore_80 rfl (lv_at hl 0 rfl) ?_
        refine lv_iconst (v := 2) hx hb dX4_takeReadingOrMore_81 (by decide) ?_
        replace hf := s_bv_some hf
        obtain ⟨σ4, hz5, hf⟩ := hf
        refine s_callv (nn := 1) C (kcX4_refuse (l := l) (G := G) (cy := cy) (sa := sa) hI (sz := H.size) σ (2 : Int32) hz5) gk_X4_70 rfl rfl (by decide +kernel) ⟨Nat.le_of_ble_eq_true rfl, Nat.le_of_ble_eq_true rfl⟩ hP hS (q0 := 3) (ci := 4) rfl rfl rfl (As := [.int (2 : Int32)]) (rest := []) rfl rfl hl.1 (Nat.le_of_ble_eq_true rfl) dX4_takeReadingOrMore_82 (fun H locs hP hS => ?_)
        refine lv_goto (tgt := 152) hx hb dX4_takeReadingOrMore_85 (by decide) ?_
        have he2 := Option.some.inj hf
        exact W.vret hx hb hr (fun t ht hW => ⟨⟨(), rfl, trivial, s_fin (Wd := (s_WC cy ad)) ht he2 hP⟩, hS.F ht⟩) hS.2.2 dX4_takeReadingOrMore_152 hlk
set_option maxRecDepth 100000 in
set_option maxHeartbeats 4000000 in
theorem kX4_takeReadingOrMore_b36 (C : s_X p s m meth c args cX4_takeReadingOrMore none 3 RX4 G cy sa ad 27) (σ : Sg) (x1 : Int32) (x2 : Int32) (ls : Array Slot) (H : Heap) (locs : List Loc) (hl : lv_has ls 3 [(0, .ref (ad 3)), (1, .int x1), (2, .int x2)]) (hP : va_P G vwCl ((s_WC cy ad) σ) H) (hS : va_S (s_A ad 27 s.heap.size) s.heap H locs) (hf : fX4_takeReadingOrMore_b36 σ x1 x2 = some σe) : W p l e ({ frames := 3, cells := 0, slots := 0, locals := 64 } : Room) s m args below meth c H locs 0 0 (MQ below (s_Qv (s_WC cy ad) G (s_A ad 27 s.heap.size) σe) args s 0 0 (s_A ad 27 s.heap.size)) (F0 m 36 ls []) := by
  obtain ⟨hx, hb, hr, hml, hown, hts, hlk, hK, hE, hI⟩ := id C
  have hD : ∀ σ : Sg, va_D (s_A ad 27 s.heap.size) ((s_WC cy ad) σ) := fun σ => s_D (s_WC_ad cy ad σ) hI (fun k hk => Or.inl ⟨k, hk, rfl⟩)
  unfold fX4_takeReadingOrMore_b36 at hf
  refine lv_aload_n hx hb dX4_takeReadingOrMore_36 rfl (lv_at hl 0 rfl) ?_
  refine va_get (D := G) (ci := 4) (v := .int (σ 3 1)) (C := RX4) (T := TX4) (N := 12) hx hb hts inkX4 hown hK hP 3 rfl rfl 1 (by decide) (hts _ kw_158) (fun _ h9 => h9) rfl dX4_takeReadingOrMore_37 ?_
  refine lv_iconst (v := 5) hx hb dX4_takeReadingOrMore_40 (by decide) ?_
  refine lv_icmp_eq (tgt := 59) hx hb dX4_takeReadingOrMore_41 (by decide) (fun c1 => ?_) (fun c1 => ?_)
  · rw [if_pos c1] at hf
    exact kX4_takeReadingOrMore_b59 C σ x2 _ _ _ (lv_sub hl [0, 2] rfl) hP hS hf
  · rw [if_neg c1] at hf
    refine lv_iload_n hx hb dX4_takeReadingOrMore_44 rfl (lv_at hl 1 rfl) ?_
    refine lv_bipush (v := 59) hx hb dX4_takeReadingOrMore_45 (by decide) ?_
    refine lv_icmp_ne (tgt := 59) hx hb dX4_takeReadingOrMore_47 (by decide) (fun c2 => ?_) (fun c2 => ?_)
    · rw [if_neg c2] at hf
      exact kX4_takeReadingOrMore_b59 C σ x2 _ _ _ (lv_sub hl [0, 2] rfl) hP hS hf
    · rw [if_pos c2] at hf
      refine lv_aload_n hx hb dX4_takeReadingOrMore_50 rfl (lv_at hl 0 rfl) ?_
      refine lv_bipush (v := 12) hx hb dX4_takeReadingOrMore_51 (by decide) ?_
      refine va_put (D := G) (ci := 4) (v := .int (12 : Int32)) (ty := .int) (C := RX4) (T := TX4) (N := 12) hx hb hts inkX4 tyX4 tyX4_ok nmX4 hown hK hP (hD _) hS 3 rfl rfl 1 (by decide) (hts _ kw_158) (fun _ h9 => h9) rfl (by decide +kernel) rfl rfl (Nat.le_of_ble_eq_true rfl) dX4_takeReadingOrMore_53 (fun H locs hP _ hS => ?_)
      obtain ⟨σ3, eσ3⟩ : ∃ z : Sg, z = (s_up σ 3 1 (12 : Int32)) := ⟨_, rfl⟩
      replace hf := s_lt_at eσ3 hf
      replace hP : va_P G vwCl ((s_WC cy ad) σ3) H := by rw [eσ3]; exact hP
      refine lv_goto (tgt := 152) hx hb dX4_takeReadingOrMore_56 (by decide) ?_
      have he2 := Option.some.inj hf
      exact W.vret hx hb hr (fun t ht hW => ⟨⟨(), rfl, trivial, s_fin (Wd := (s_WC cy ad)) ht he2 hP⟩, hS.F ht⟩) hS.2.2 dX4_takeReadingOrMore_152 hlk
set_option maxRecDepth 100000 in
set_option maxHeartbeats 4000000 in
theorem kX4_takeReadingOrMore_b11 (C : s_X p s m meth c args cX4_takeReadingOrMore none 3 RX4 G cy sa ad 27) (σ : Sg) (x1 : Int32) (y0 : Int32) (ls : Array Slot) (H : Heap) (locs : List Loc) (hl : lv_has ls 3 [(0, .ref (ad 3)), (1, .int x1)]) (hP : va_P G vwCl ((s_WC cy ad) σ) H) (hS : va_S (s_A ad 27 s.heap.size) s.heap H locs) (hf : fX4_takeReadingOrMore_b11 σ x1 y0 = some σe) : W p l e ({ frames := 3, cells := 0, slots := 0, locals := 64 } : Room) s m args below meth c H locs 0 0 (MQ below (s_Qv (s_WC cy ad) G (s_A ad 27 s.heap.size) σe) args s 0 0 (s_A ad 27 s.heap.size)) (F0 m 11 ls [.int y0]) := by
  obtain ⟨hx, hb, hr, hml, hown, hts, hlk, hK, hE, hI⟩ := id C
  have hD : ∀ σ : Sg, va_D (s_A ad 27 s.heap.size) ((s_WC cy ad) σ) := fun σ => s_D (s_WC_ad cy ad σ) hI (fun k hk => Or.inl ⟨k, hk, rfl⟩)
  unfold fX4_takeReadingOrMore_b11 at hf
  refine lv_istore_n (lv' := [(2, .int y0), (0, .ref (ad 3)), (1, .int x1)]) hx hb dX4_takeReadingOrMore_11 rfl hl (by decide) rfl (fun ls hl => ?_)
  refine lv_aload_n hx hb dX4_takeReadingOrMore_12 rfl (lv_at hl 1 rfl) ?_
  refine va_get (D := G) (ci := 4) (v := .int (σ 3 1)) (C := RX4) (T := TX4) (N := 12) hx hb hts inkX4 hown hK hP 3 rfl rfl 1 (by decide) (hts _ kw_158) (fun _ h9 => h9) rfl dX4_takeReadingOrMore_13 ?_
  refine lv_bipush (v := 8) hx hb dX4_takeReadingOrMore_16 (by decide) ?_
  refine lv_icmp_ne (tgt := 36) hx hb dX4_takeReadingOrMore_18 (by decide) (fun c1 => ?_) (fun c1 => ?_)
  · rw [if_neg c1] at hf
    exact kX4_takeReadingOrMore_b36 C σ x1 y0 _ _ _ (lv_sub hl [1, 2, 0] rfl) hP hS hf
  · rw [if_pos c1] at hf
    refine lv_iload_n hx hb dX4_takeReadingOrMore_21 rfl (lv_at hl 2 rfl) ?_
    refine lv_bipush (v := 46) hx hb dX4_takeReadingOrMore_22 (by decide) ?_
    refine lv_icmp_ne (tgt := 36) hx hb dX4_takeReadingOrMore_24 (by decide) (fun c2 => ?_) (fun c2 => ?_)
    · rw [if_neg c2] at hf
      exact kX4_takeReadingOrMore_b36 C σ x1 y0 _ _ _ (lv_sub hl [1, 2, 0] rfl) hP hS hf
    · rw [if_pos c2] at hf
      refine lv_aload_n hx hb dX4_takeReadingOrMore_27 rfl (lv_at hl 1 rfl) ?_
      refine lv_bipush (v := 9) hx hb dX4_takeReadingOrMore_28 (by decide) ?_
      refine va_put (D := G) (ci := 4) (v := .int (9 : Int32)) (ty := .int) (C := RX4) (T := TX4) (N := 12) hx hb hts inkX4 tyX4 tyX4_ok nmX4 hown hK hP (hD _) hS 3 rfl rfl 1 (by decide) (hts _ kw_158) (fun _ h9 => h9) rfl (by decide +kernel) rfl rfl (Nat.le_of_ble_eq_true rfl) dX4_takeReadingOrMore_30 (fun H locs hP _ hS => ?_)
      obtain ⟨σ3, eσ3⟩ : ∃ z : Sg, z = (s_up σ 3 1 (9 : Int32)) := ⟨_, rfl⟩
      replace hf := s_lt_at eσ3 hf
      replace hP : va_P G vwCl ((s_WC cy ad) σ3) H := by rw [eσ3]; exact hP
      refine lv_goto (tgt := 152) hx hb dX4_takeReadingOrMore_33 (by decide) ?_
      have he2 := Option.some.inj hf
      exact W.vret hx hb hr (fun t ht hW => ⟨⟨(), rfl, trivial, s_fin (Wd := (s_WC cy ad)) ht he2 hP⟩, hS.F ht⟩) hS.2.2 dX4_takeReadingOrMore_152 hlk
set_option maxRecDepth 100000 in
set_option maxHeartbeats 4000000 in
theorem kX4_takeReadingOrMore (C : s_X p s m meth c args cX4_takeReadingOrMore none 3 RX4 G cy sa ad 27) (σ : Sg) (x1 : Int32) (ls : Array Slot) (H : Heap) (locs : List Loc) (hl : lv_has ls 3 [(0, .ref (ad 3)), (1, .int x1)]) (hP : va_P G vwCl ((s_WC cy ad) σ) H) (hS : va_S (s_A ad 27 s.heap.size) s.heap H locs) (hf : fX4_takeReadingOrMore σ x1 = some σe) : W p l e ({ frames := 3, cells := 0, slots := 0, locals := 64 } : Room) s m args below meth c H locs 0 0 (MQ below (s_Qv (s_WC cy ad) G (s_A ad 27 s.heap.size) σe) args s 0 0 (s_A ad 27 s.heap.size)) (F0 m 0 ls []) := by
  obtain ⟨hx, hb, hr, hml, hown, hts, hlk, hK, hE, hI⟩ := id C
  have hD : ∀ σ : Sg, va_D (s_A ad 27 s.heap.size) ((s_WC cy ad) σ) := fun σ => s_D (s_WC_ad cy ad σ) hI (fun k hk => Or.inl ⟨k, hk, rfl⟩)
  unfold fX4_takeReadingOrMore at hf
  refine lv_iload_n hx hb dX4_takeReadingOrMore_0 rfl (lv_at hl 1 rfl) ?_
  refine lv_bipush (v := 45) hx hb dX4_takeReadingOrMore_1 (by decide) ?_
  refine lv_icmp_ne (tgt := 10) hx hb dX4_takeReadingOrMore_3 (by decide) (fun c1 => ?_) (fun c1 => ?_)
  · rw [if_neg c1] at hf
    refine lv_iconst (v := 0) hx hb dX4_takeReadingOrMore_10 (by decide) ?_
    exact kX4_takeReadingOrMore_b11 C σ x1 (0 : Int32) _ _ _ (lv_sub hl [0, 1] rfl) hP hS hf
  · rw [if_pos c1] at hf
    refine lv_iconst (v := 1) hx hb dX4_takeReadingOrMore_6 (by decide) ?_
    refine lv_goto (tgt := 11) hx hb dX4_takeReadingOrMore_7 (by decide) ?_
    exact kX4_takeReadingOrMore_b11 C σ x1 (1 : Int32) _ _ _ (lv_sub hl [0, 1] rfl) hP hS hf
theorem kcX4_takeReadingOrMore {l : Launch} {G : va_G} {cy : Nat → ClassId} {sa : Nat × Nat} {ad : Nat → Nat}  {sz : Nat} (hI : s_inj ad 27) (σ : Sg) (x1 : Int32) {σe : Sg} (hf : fX4_takeReadingOrMore σ x1 = some σe) : Met l yX4_takeReadingOrMore (kW yX4_takeReadingOrMore cX4_takeReadingOrMore 3 none) ({ frames := 3, cells := 0, slots := 0, locals := 64 } : Room) (s_P (s_WC cy ad) G cy sa ad 27 [.ref (ad 3), .int x1] sz σ) (s_Qv (s_WC cy ad) G (s_A ad 27 sz) σe) 0 0 (s_A ad 27 sz) := by
  refine s_met (own := RX4) (by decide) rfl hI (Nat.le_of_ble_eq_true rfl) (fun p e s m below meth c ls hsz C hP hl => ?_)
  subst hsz
  exact kX4_takeReadingOrMore C σ x1 ls _ _ hl hP va_S.rf hf
set_option maxRecDepth 100000 in
set_option maxHeartbeats 4000000 in
theorem kX1_has_4_b16 (C : s_X p s m meth c args cX1_has (some .boolean) 2 RX1 G cy sa ad 27) (σ : Sg) (ls : Array Slot) (H : Heap) (locs : List Loc) (hl : lv_has ls 2 []) (hP : va_P G vwCl ((s_WC cy ad) σ) H) (hS : va_S (s_A ad 27 s.heap.size) s.heap H locs) (hf : fX1_has_4_b16 σ = some (re, σe)) : W p l e ({ frames := 0, cells := 0, slots := 0, locals := 0 } : Room) s m args below meth c H locs 0 0 (MQ below (s_Qi (s_WC cy ad) G (s_A ad 27 s.heap.size) re σe) args s 0 0 (s_A ad 27 s.heap.size)) (F0 m 16 ls []) := by
  obtain ⟨hx, hb, hr, hml, hown, hts, hlk, hK, hE, hI⟩ := id C
  have hD : ∀ σ : Sg, va_D (s_A ad 27 s.heap.size) ((s_WC cy ad) σ) := fun σ => s_D (s_WC_ad cy ad σ) hI (fun k hk => Or.inl ⟨k, hk, rfl⟩)
  unfold fX1_has_4_b16 at hf
  refine lv_iconst (v := 0) hx hb dX1_has_16 (by decide) ?_
  obtain ⟨he1, he2⟩ := s_ret hf
  exact W.zret hx hb hr rfl (fun t ht hW => ⟨⟨_, (), rfl, he1, s_fin (Wd := (s_WC cy ad)) ht he2 hP⟩, hS.F ht⟩) hS.2.2 dX1_has_17 hlk
set_option maxRecDepth 100000 in
set_option maxHeartbeats 4000000 in
theorem kX1_has_4 (C : s_X p s m meth c args cX1_has (some .boolean) 2 RX1 G cy sa ad 27) (σ : Sg) (x1 : Int32) (ls : Array Slot) (H : Heap) (locs : List Loc) (hl : lv_has ls 2 [(0, .ref (ad 4)), (1, .int x1)]) (hP : va_P G vwCl ((s_WC cy ad) σ) H) (hS : va_S (s_A ad 27 s.heap.size) s.heap H locs) (hf : fX1_has_4 σ x1 = some (re, σe)) : W p l e ({ frames := 0, cells := 0, slots := 0, locals := 0 } : Room) s m args below meth c H locs 0 0 (MQ below (s_Qi (s_WC cy ad) G (s_A ad 27 s.heap.size) re σe) args s 0 0 (s_A ad 27 s.heap.size)) (F0 m 0 ls []) := by
  obtain ⟨hx, hb, hr, hml, hown, hts, hlk, hK, hE, hI⟩ := id C
  have hD : ∀ σ : Sg, va_D (s_A ad 27 s.heap.size) ((s_WC cy ad) σ) := fun σ => s_D (s_WC_ad cy ad σ) hI (fun k hk => Or.inl ⟨k, hk, rfl⟩)
  unfold fX1_has_4 at hf
  refine lv_iload_n hx hb dX1_has_0 rfl (lv_at hl 1 rfl) ?_
  refine lv_if_lt (tgt := 16) hx hb dX1_has_1 (by decide) (fun c1 => ?_) (fun c1 => ?_)
  · rw [if_pos c1] at hf
    exact kX1_has_4_b16 C σ _ _ _ (lv_sub hl [] rfl) hP hS hf
  · rw [if_neg c1] at hf
    refine lv_iload_n hx hb dX1_has_4 rfl (lv_at hl 1 rfl) ?_
    refine lv_aload_n hx hb dX1_has_5 rfl (lv_at hl 0 rfl) ?_
    refine va_get (D := G) (ci := 1) (v := .int (σ 4 1)) (C := RX1) (T := TX1) (N := 8) hx hb hts inkX1 hown hK hP 4 rfl rfl 1 (by decide) (hts _ kw_112) (fun _ h9 => h9) rfl dX1_has_6 ?_
    refine lv_icmp_ge (tgt := 16) hx hb dX1_has_9 (by decide) (fun c2 => ?_) (fun c2 => ?_)
    · rw [if_pos c2] at hf
      exact kX1_has_4_b16 C σ _ _ _ (lv_sub hl [] rfl) hP hS hf
    · rw [if_neg c2] at hf
      refine lv_iconst (v := 1) hx hb dX1_has_12 (by decide) ?_
      refine lv_goto (tgt := 17) hx hb dX1_has_13 (by decide) ?_
      obtain ⟨he1, he2⟩ := s_ret hf
      exact W.zret hx hb hr rfl (fun t ht hW => ⟨⟨_, (), rfl, he1, s_fin (Wd := (s_WC cy ad)) ht he2 hP⟩, hS.F ht⟩) hS.2.2 dX1_has_17 hlk
theorem kcX1_has_4 {l : Launch} {G : va_G} {cy : Nat → ClassId} {sa : Nat × Nat} {ad : Nat → Nat}  {sz : Nat} (hI : s_inj ad 27) (σ : Sg) (x1 : Int32) {re : Int32} {σe : Sg} (hf : fX1_has_4 σ x1 = some (re, σe)) : Met l yX1_has (kW yX1_has cX1_has 2 (some .boolean)) ({ frames := 0, cells := 0, slots := 0, locals := 0 } : Room) (s_P (s_WC cy ad) G cy sa ad 27 [.ref (ad 4), .int x1] sz σ) (s_Qi (s_WC cy ad) G (s_A ad 27 sz) re σe) 0 0 (s_A ad 27 sz) := by
  refine s_met (own := RX1) (by decide) rfl hI (Nat.le_of_ble_eq_true rfl) (fun p e s m below meth c ls hsz C hP hl => ?_)
  subst hsz
  exact kX1_has_4 C σ x1 ls _ _ hl hP va_S.rf hf
set_option maxRecDepth 100000 in
set_option maxHeartbeats 4000000 in
theorem kX1_change_4 (C : s_X p s m meth c args cX1_change none 3 RX1 G cy sa ad 27) (σ : Sg) (x1 : Int32) (x2 : Int32) (ls : Array Slot) (H : Heap) (locs : List Loc) (hl : lv_has ls 3 [(0, .ref (ad 4)), (1, .int x1), (2, .int x2)]) (hP : va_P G vwCl ((s_WC cy ad) σ) H) (hS : va_S (s_A ad 27 s.heap.size) s.heap H locs) (hf : fX1_change_4 σ x1 x2 = some σe) : W p l e ({ frames := 1, cells := 0, slots := 0, locals := 21 } : Room) s m args below meth c H locs 0 0 (MQ below (s_Qv (s_WC cy ad) G (s_A ad 27 s.heap.size) σe) args s 0 0 (s_A ad 27 s.heap.size)) (F0 m 0 ls []) := by
  obtain ⟨hx, hb, hr, hml, hown, hts, hlk, hK, hE, hI⟩ := id C
  have hD : ∀ σ : Sg, va_D (s_A ad 27 s.heap.size) ((s_WC cy ad) σ) := fun σ => s_D (s_WC_ad cy ad σ) hI (fun k hk => Or.inl ⟨k, hk, rfl⟩)
  unfold fX1_change_4 at hf
  refine lv_aload_n hx hb dX1_change_0 rfl (lv_at hl 0 rfl) ?_
  refine lv_iload_n hx hb dX1_change_1 rfl (lv_at hl 1 rfl) ?_
  replace hf := s_bi_some hf
  obtain ⟨r3, σ1, hz2, hf⟩ := hf
  refine s_calli (nn := 1) C (kcX1_has_4 (l := l) (G := G) (cy := cy) (sa := sa) hI (sz := H.size) σ x1 hz2) gk_X1_46 rfl rfl (by decide +kernel) ⟨Nat.le_of_ble_eq_true rfl, Nat.le_of_ble_eq_true rfl⟩ hP hS (q0 := 4) (ci := 1) rfl rfl rfl (As := [.int x1]) (rest := []) rfl rfl hl.1 (Nat.le_of_ble_eq_true rfl) dX1_change_2 (fun H locs hP hS => ?_)
  refine lv_if_eq (tgt := 15) hx hb dX1_change_5 (by decide) (fun c4 => ?_) (fun c4 => ?_)
  · rw [if_pos c4] at hf
    have he2 := Option.some.inj hf
    exact W.vret hx hb hr (fun t ht hW => ⟨⟨(), rfl, trivial, s_fin (Wd := (s_WC cy ad)) ht he2 hP⟩, hS.F ht⟩) hS.2.2 dX1_change_15 hlk
  · rw [if_neg c4] at hf
    refine lv_aload_n hx hb dX1_change_8 rfl (lv_at hl 0 rfl) ?_
    refine va_get (D := G) (ci := 1) (v := .ref (ad 5)) (C := RX1) (T := TX1) (N := 8) hx hb hts inkX1 hown hK hP 4 rfl rfl 0 (by decide) (hts _ kw_111) (fun _ h9 => h9) rfl dX1_change_9 ?_
    refine lv_iload_n hx hb dX1_change_12 rfl (lv_at hl 1 rfl) ?_
    refine lv_iload_n hx hb dX1_change_13 rfl (lv_at hl 2 rfl) ?_
    replace hf := s_gd_some hf
    obtain ⟨g5, hf⟩ := hf
    refine va_iast hx hb hK hP (hD _) hS 5 1 rfl rfl (s_in_of g5) dX1_change_14 (fun H locs hP _ hS => ?_)
    obtain ⟨σ6, eσ6⟩ : ∃ z : Sg, z = (s_up σ1 5 (Int32.toNatClampNeg x1) x2) := ⟨_, rfl⟩
    replace hf := s_lt_at eσ6 hf
    replace hP : va_P G vwCl ((s_WC cy ad) σ6) H := by rw [eσ6]; exact hP
    have he2 := Option.some.inj hf
    exact W.vret hx hb hr (fun t ht hW => ⟨⟨(), rfl, trivial, s_fin (Wd := (s_WC cy ad)) ht he2 hP⟩, hS.F ht⟩) hS.2.2 dX1_change_15 hlk
theorem kcX1_change_4 {l : Launch} {G : va_G} {cy : Nat → ClassId} {sa : Nat × Nat} {ad : Nat → Nat}  {sz : Nat} (hI : s_inj ad 27) (σ : Sg) (x1 : Int32) (x2 : Int32) {σe : Sg} (hf : fX1_change_4 σ x1 x2 = some σe) : Met l yX1_change (kW yX1_change cX1_change 3 none) ({ frames := 1, cells := 0, slots := 0, locals := 21 } : Room) (s_P (s_WC cy ad) G cy sa ad 27 [.ref (ad 4), .int x1, .int x2] sz σ) (s_Qv (s_WC cy ad) G (s_A ad 27 sz) σe) 0 0 (s_A ad 27 sz) := by
  refine s_met (own := RX1) (by decide) rfl hI (Nat.le_of_ble_eq_true rfl) (fun p e s m below meth c ls hsz C hP hl => ?_)
  subst hsz
  exact kX1_change_4 C σ x1 x2 ls _ _ hl hP va_S.rf hf
set_option maxRecDepth 100000 in
set_option maxHeartbeats 4000000 in
theorem kX4_takeFraction_b93 (C : s_X p s m meth c args cX4_takeFraction none 3 RX4 G cy sa ad 27) (σ : Sg) (y1 : Int32) (y2 : Int32) (ls : Array Slot) (H : Heap) (locs : List Loc) (hl : lv_has ls 3 []) (hP : va_P G vwCl ((s_WC cy ad) σ) H) (hS : va_S (s_A ad 27 s.heap.size) s.heap H locs) (hf : fX4_takeFraction_b93 σ y1 y2 = some σe) : W p l e ({ frames := 2, cells := 0, slots := 0, locals := 44 } : Room) s m args below meth c H locs 0 0 (MQ below (s_Qv (s_WC cy ad) G (s_A ad 27 s.heap.size) σe) args s 0 0 (s_A ad 27 s.heap.size)) (F0 m 93 ls [.int y2, .int y1, .ref (ad 4)]) := by
  obtain ⟨hx, hb, hr, hml, hown, hts, hlk, hK, hE, hI⟩ := id C
  have hD : ∀ σ : Sg, va_D (s_A ad 27 s.heap.size) ((s_WC cy ad) σ) := fun σ => s_D (s_WC_ad cy ad σ) hI (fun k hk => Or.inl ⟨k, hk, rfl⟩)
  unfold fX4_takeFraction_b93 at hf
  replace hf := s_bv_some hf
  obtain ⟨σ1, hz2, hf⟩ := hf
  refine s_callv (nn := 2) C (kcX1_change_4 (l := l) (G := G) (cy := cy) (sa := sa) hI (sz := H.size) σ y1 y2 hz2) gk_X4_130 rfl rfl (by decide +kernel) ⟨Nat.le_of_ble_eq_true rfl, Nat.le_of_ble_eq_true rfl⟩ hP hS (q0 := 4) (ci := 1) rfl rfl rfl (As := [.int y1, .int y2]) (rest := []) rfl rfl hl.1 (Nat.le_of_ble_eq_true rfl) dX4_takeFraction_93 (fun H locs hP hS => ?_)
  have he2 := Option.some.inj hf
  exact W.vret hx hb hr (fun t ht hW => ⟨⟨(), rfl, trivial, s_fin (Wd := (s_WC cy ad)) ht he2 hP⟩, hS.F ht⟩) hS.2.2 dX4_takeFraction_96 hlk
set_option maxRecDepth 100000 in
set_option maxHeartbeats 4000000 in
theorem kX4_takeFraction_b57 (C : s_X p s m meth c args cX4_takeFraction none 3 RX4 G cy sa ad 27) (σ : Sg) (y1 : Int32) (y2 : Int32) (ls : Array Slot) (H : Heap) (locs : List Loc) (hl : lv_has ls 3 [(0, .ref (ad 3))]) (hP : va_P G vwCl ((s_WC cy ad) σ) H) (hS : va_S (s_A ad 27 s.heap.size) s.heap H locs) (hf : fX4_takeFraction_b57 σ y1 y2 = some σe) : W p l e ({ frames := 2, cells := 0, slots := 0, locals := 44 } : Room) s m args below meth c H locs 0 0 (MQ below (s_Qv (s_WC cy ad) G (s_A ad 27 s.heap.size) σe) args s 0 0 (s_A ad 27 s.heap.size)) (F0 m 57 ls [.int y2, .int y1, .ref (ad 3)]) := by
  obtain ⟨hx, hb, hr, hml, hown, hts, hlk, hK, hE, hI⟩ := id C
  have hD : ∀ σ : Sg, va_D (s_A ad 27 s.heap.size) ((s_WC cy ad) σ) := fun σ => s_D (s_WC_ad cy ad σ) hI (fun k hk => Or.inl ⟨k, hk, rfl⟩)
  unfold fX4_takeFraction_b57 at hf
  refine lv_iadd hx hb dX4_takeFraction_57 ?_
  refine va_put (D := G) (ci := 4) (v := .int (y1 + y2)) (ty := .int) (C := RX4) (T := TX4) (N := 12) hx hb hts inkX4 tyX4 tyX4_ok nmX4 hown hK hP (hD _) hS 3 rfl rfl 4 (by decide) (hts _ kw_161) (fun _ h9 => h9) rfl (by decide +kernel) rfl rfl (Nat.le_of_ble_eq_true rfl) dX4_takeFraction_58 (fun H locs hP _ hS => ?_)
  obtain ⟨σ1, eσ1⟩ : ∃ z : Sg, z = (s_up σ 3 4 (y1 + y2)) := ⟨_, rfl⟩
  replace hf := s_lt_at eσ1 hf
  replace hP : va_P G vwCl ((s_WC cy ad) σ1) H := by rw [eσ1]; exact hP
  refine lv_aload_n hx hb dX4_takeFraction_61 rfl (lv_at hl 0 rfl) ?_
  refine va_get (D := G) (ci := 4) (v := .ref (ad 4)) (C := RX4) (T := TX4) (N := 12) hx hb hts inkX4 hown hK hP 3 rfl rfl 0 (by decide) (hts _ kw_156) (fun _ h9 => h9) rfl dX4_takeFraction_62 ?_
  refine lv_aload_n hx hb dX4_takeFraction_65 rfl (lv_at hl 0 rfl) ?_
  refine va_get (D := G) (ci := 4) (v := .ref (ad 4)) (C := RX4) (T := TX4) (N := 12) hx hb hts inkX4 hown hK hP 3 rfl rfl 0 (by decide) (hts _ kw_156) (fun _ h9 => h9) rfl dX4_takeFraction_66 ?_
  refine va_getN (D := G) (ci := 1) (v := .int (σ1 4 1)) (C := RX1) (T := TX1) (N := 8) hx hb hts inkX1 hown hK hP 4 rfl rfl 1 (by decide) (kn_X4_127 hE) (fun _ h9 => h9) rfl dX4_takeFraction_69 ?_
  refine lv_iconst (v := 1) hx hb dX4_takeFraction_72 (by decide) ?_
  refine lv_isub hx hb dX4_takeFraction_73 ?_
  refine lv_aload_n hx hb dX4_takeFraction_74 rfl (lv_at hl 0 rfl) ?_
  refine va_get (D := G) (ci := 4) (v := .int (σ1 3 3)) (C := RX4) (T := TX4) (N := 12) hx hb hts inkX4 hown hK hP 3 rfl rfl 3 (by decide) (hts _ kw_160) (fun _ h9 => h9) rfl dX4_takeFraction_75 ?_
  refine lv_if_eq (tgt := 89) hx hb dX4_takeFraction_78 (by decide) (fun c2 => ?_) (fun c2 => ?_)
  · rw [if_pos c2] at hf
    refine lv_aload_n hx hb dX4_takeFraction_89 rfl (lv_at hl 0 rfl) ?_
    refine va_get (D := G) (ci := 4) (v := .int (σ1 3 4)) (C := RX4) (T := TX4) (N := 12) hx hb hts inkX4 hown hK hP 3 rfl rfl 4 (by decide) (hts _ kw_161) (fun _ h9 => h9) rfl dX4_takeFraction_90 ?_
    exact kX4_takeFraction_b93 C σ1 ((σ1 4 1) - (1 : Int32)) (σ1 3 4) _ _ _ (lv_sub hl [] rfl) hP hS hf
  · rw [if_neg c2] at hf
    refine lv_aload_n hx hb dX4_takeFraction_81 rfl (lv_at hl 0 rfl) ?_
    refine va_get (D := G) (ci := 4) (v := .int (σ1 3 4)) (C := RX4) (T := TX4) (N := 12) hx hb hts inkX4 hown hK hP 3 rfl rfl 4 (by decide) (hts _ kw_161) (fun _ h9 => h9) rfl dX4_takeFraction_82 ?_
    refine lv_ineg hx hb dX4_takeFraction_85 ?_
    refine lv_goto (tgt := 93) hx hb dX4_takeFraction_86 (by decide) ?_
    exact kX4_takeFraction_b93 C σ1 ((σ1 4 1) - (1 : Int32)) (-(σ1 3 4)) _ _ _ (lv_sub hl [] rfl) hP hS hf
set_option maxRecDepth 100000 in
set_option maxHeartbeats 4000000 in
theorem kX4_takeFraction_b29 (C : s_X p s m meth c args cX4_takeFraction none 3 RX4 G cy sa ad 27) (σ : Sg) (x1 : Int32) (ls : Array Slot) (H : Heap) (locs : List Loc) (hl : lv_has ls 3 [(0, .ref (ad 3)), (1, .int x1)]) (hP : va_P G vwCl ((s_WC cy ad) σ) H) (hS : va_S (s_A ad 27 s.heap.size) s.heap H locs) (hf : fX4_takeFraction_b29 σ x1 = some σe) : W p l e ({ frames := 2, cells := 0, slots := 0, locals := 44 } : Room) s m args below meth c H locs 0 0 (MQ below (s_Qv (s_WC cy ad) G (s_A ad 27 s.heap.size) σe) args s 0 0 (s_A ad 27 s.heap.size)) (F0 m 29 ls []) := by
  obtain ⟨hx, hb, hr, hml, hown, hts, hlk, hK, hE, hI⟩ := id C
  have hD : ∀ σ : Sg, va_D (s_A ad 27 s.heap.size) ((s_WC cy ad) σ) := fun σ => s_D (s_WC_ad cy ad σ) hI (fun k hk => Or.inl ⟨k, hk, rfl⟩)
  unfold fX4_takeFraction_b29 at hf
  refine lv_aload_n hx hb dX4_takeFraction_29 rfl (lv_at hl 0 rfl) ?_
  refine lv_iconst (v := 0) hx hb dX4_takeFraction_30 (by decide) ?_
  refine lv_bipush (v := 99) hx hb dX4_takeFraction_31 (by decide) ?_
  refine lv_bipush (v := 10) hx hb dX4_takeFraction_33 (by decide) ?_
  replace hf := s_bi_some hf
  obtain ⟨r3, σ1, hz2, hf⟩ := hf
  refine s_calli (nn := 3) C (kcX4_takeNumber (l := l) (G := G) (cy := cy) (sa := sa) hI (sz := H.size) σ (0 : Int32) (99 : Int32) (10 : Int32) hz2) gk_X4_76 rfl rfl (by decide +kernel) ⟨Nat.le_of_ble_eq_true rfl, Nat.le_of_ble_eq_true rfl⟩ hP hS (q0 := 3) (ci := 4) rfl rfl rfl (As := [.int (0 : Int32), .int (99 : Int32), .int (10 : Int32)]) (rest := []) rfl rfl hl.1 (Nat.le_of_ble_eq_true rfl) dX4_takeFraction_35 (fun H locs hP hS => ?_)
  refine lv_istore_n (lv' := [(2, .int r3), (0, .ref (ad 3)), (1, .int x1)]) hx hb dX4_takeFraction_38 rfl hl (by decide) rfl (fun ls hl => ?_)
  refine lv_aload_n hx hb dX4_takeFraction_39 rfl (lv_at hl 1 rfl) ?_
  refine lv_dup hx hb dX4_takeFraction_40 rfl ?_
  refine va_get (D := G) (ci := 4) (v := .int (σ1 3 4)) (C := RX4) (T := TX4) (N := 12) hx hb hts inkX4 hown hK hP 3 rfl rfl 4 (by decide) (hts _ kw_161) (fun _ h9 => h9) rfl dX4_takeFraction_41 ?_
  refine lv_iload_n hx hb dX4_takeFraction_44 rfl (lv_at hl 2 rfl) ?_
  refine lv_iconst (v := 1) hx hb dX4_takeFraction_45 (by decide) ?_
  refine lv_icmp_ne (tgt := 56) hx hb dX4_takeFraction_46 (by decide) (fun c4 => ?_) (fun c4 => ?_)
  · rw [if_neg c4] at hf
    refine lv_iload_n hx hb dX4_takeFraction_56 rfl (lv_at hl 0 rfl) ?_
    exact kX4_takeFraction_b57 C σ1 (σ1 3 4) r3 _ _ _ (lv_sub hl [1] rfl) hP hS hf
  · rw [if_pos c4] at hf
    refine lv_bipush (v := 10) hx hb dX4_takeFraction_49 (by decide) ?_
    refine lv_iload_n hx hb dX4_takeFraction_51 rfl (lv_at hl 0 rfl) ?_
    refine lv_imul hx hb dX4_takeFraction_52 ?_
    refine lv_goto (tgt := 57) hx hb dX4_takeFraction_53 (by decide) ?_
    exact kX4_takeFraction_b57 C σ1 (σ1 3 4) ((10 : Int32) * r3) _ _ _ (lv_sub hl [1] rfl) hP hS hf
set_option maxRecDepth 100000 in
set_option maxHeartbeats 4000000 in
theorem kX4_takeFraction (C : s_X p s m meth c args cX4_takeFraction none 3 RX4 G cy sa ad 27) (σ : Sg) (ls : Array Slot) (H : Heap) (locs : List Loc) (hl : lv_has ls 3 [(0, .ref (ad 3))]) (hP : va_P G vwCl ((s_WC cy ad) σ) H) (hS : va_S (s_A ad 27 s.heap.size) s.heap H locs) (hf : fX4_takeFraction σ = some σe) : W p l e ({ frames := 2, cells := 0, slots := 0, locals := 44 } : Room) s m args below meth c H locs 0 0 (MQ below (s_Qv (s_WC cy ad) G (s_A ad 27 s.heap.size) σe) args s 0 0 (s_A ad 27 s.heap.size)) (F0 m 0 ls []) := by
  obtain ⟨hx, hb, hr, hml, hown, hts, hlk, hK, hE, hI⟩ := id C
  have hD : ∀ σ : Sg, va_D (s_A ad 27 s.heap.size) ((s_WC cy ad) σ) := fun σ => s_D (s_WC_ad cy ad σ) hI (fun k hk => Or.inl ⟨k, hk, rfl⟩)
  unfold fX4_takeFraction at hf
  refine lv_aload_n hx hb dX4_takeFraction_0 rfl (lv_at hl 0 rfl) ?_
  refine va_get (D := G) (ci := 4) (v := .int (σ 3 7)) (C := RX4) (T := TX4) (N := 12) hx hb hts inkX4 hown hK hP 3 rfl rfl 7 (by decide) (hts _ kw_164) (fun _ h9 => h9) rfl dX4_takeFraction_1 ?_
  refine lv_aload_n hx hb dX4_takeFraction_4 rfl (lv_at hl 0 rfl) ?_
  refine va_get (D := G) (ci := 4) (v := .int (σ 3 6)) (C := RX4) (T := TX4) (N := 12) hx hb hts inkX4 hown hK hP 3 rfl rfl 6 (by decide) (hts _ kw_163) (fun _ h9 => h9) rfl dX4_takeFraction_5 ?_
  refine lv_isub hx hb dX4_takeFraction_8 ?_
  refine lv_topi (fun t1 et1 => ?_)
  replace hf := s_lt_at et1 hf
  refine lv_istore_n (lv' := [(1, .int t1), (0, .ref (ad 3))]) hx hb dX4_takeFraction_9 rfl hl (by decide) rfl (fun ls hl => ?_)
  refine lv_aload_n hx hb dX4_takeFraction_10 rfl (lv_at hl 1 rfl) ?_
  refine va_get (D := G) (ci := 4) (v := .int (σ 3 5)) (C := RX4) (T := TX4) (N := 12) hx hb hts inkX4 hown hK hP 3 rfl rfl 5 (by decide) (hts _ kw_162) (fun _ h9 => h9) rfl dX4_takeFraction_11 ?_
  refine lv_iconst (v := 2) hx hb dX4_takeFraction_14 (by decide) ?_
  refine lv_icmp_ne (tgt := 29) hx hb dX4_takeFraction_15 (by decide) (fun c2 => ?_) (fun c2 => ?_)
  · rw [if_neg c2] at hf
    exact kX4_takeFraction_b29 C σ t1 _ _ _ (lv_sub hl [1, 0] rfl) hP hS hf
  · rw [if_pos c2] at hf
    refine lv_iload_n hx hb dX4_takeFraction_18 rfl (lv_at hl 0 rfl) ?_
    refine lv_iconst (v := 2) hx hb dX4_takeFraction_19 (by decide) ?_
    refine lv_icmp_le (tgt := 29) hx hb dX4_takeFraction_20 (by decide) (fun c3 => ?_) (fun c3 => ?_)
    · rw [if_pos c3] at hf
      exact kX4_takeFraction_b29 C σ t1 _ _ _ (lv_sub hl [1, 0] rfl) hP hS hf
    · rw [if_neg c3] at hf
      refine lv_aload_n hx hb dX4_takeFraction_23 rfl (lv_at hl 1 rfl) ?_
      refine lv_iconst (v := 3) hx hb dX4_takeFraction_24 (by decide) ?_
      replace hf := s_bv_some hf
      obtain ⟨σ4, hz5, hf⟩ := hf
      refine s_callv (nn := 1) C (kcX4_refuse (l := l) (G := G) (cy := cy) (sa := sa) hI (sz := H.size) σ (3 : Int32) hz5) gk_X4_70 rfl rfl (by decide +kernel) ⟨Nat.le_of_ble_eq_true rfl, Nat.le_of_ble_eq_true rfl⟩ hP hS (q0 := 3) (ci := 4) rfl rfl rfl (As := [.int (3 : Int32)]) (rest := []) rfl rfl hl.1 (Nat.le_of_ble_eq_true rfl) dX4_takeFraction_25 (fun H locs hP hS => ?_)
      have he2 := Option.some.inj hf
      exact W.vret hx hb hr (fun t ht hW => ⟨⟨(), rfl, trivial, s_fin (Wd := (s_WC cy ad)) ht he2 hP⟩, hS.F ht⟩) hS.2.2 dX4_takeFraction_28 hlk
theorem kcX4_takeFraction {l : Launch} {G : va_G} {cy : Nat → ClassId} {sa : Nat × Nat} {ad : Nat → Nat}  {sz : Nat} (hI : s_inj ad 27) (σ : Sg) {σe : Sg} (hf : fX4_takeFraction σ = some σe) : Met l yX4_takeFraction (kW yX4_takeFraction cX4_takeFraction 3 none) ({ frames := 2, cells := 0, slots := 0, locals := 44 } : Room) (s_P (s_WC cy ad) G cy sa ad 27 [.ref (ad 3)] sz σ) (s_Qv (s_WC cy ad) G (s_A ad 27 sz) σe) 0 0 (s_A ad 27 sz) := by
  refine s_met (own := RX4) (by decide) rfl hI (Nat.le_of_ble_eq_true rfl) (fun p e s m below meth c ls hsz C hP hl => ?_)
  subst hsz
  exact kX4_takeFraction C σ ls _ _ hl hP va_S.rf hf
set_option maxRecDepth 100000 in
set_option maxHeartbeats 4000000 in
theorem kX4_takeLineEnd (C : s_X p s m meth c args cX4_takeLineEnd none 2 RX4 G cy sa ad 27) (σ : Sg) (x1 : Int32) (ls : Array Slot) (H : Heap) (locs : List Loc) (hl : lv_has ls 2 [(0, .ref (ad 3)), (1, .int x1)]) (hP : va_P G vwCl ((s_WC cy ad) σ) H) (hS : va_S (s_A ad 27 s.heap.size) s.heap H locs) (hf : fX4_takeLineEnd σ x1 = some σe) : W p l e ({ frames := 1, cells := 0, slots := 0, locals := 21 } : Room) s m args below meth c H locs 0 0 (MQ below (s_Qv (s_WC cy ad) G (s_A ad 27 s.heap.size) σe) args s 0 0 (s_A ad 27 s.heap.size)) (F0 m 0 ls []) := by
  obtain ⟨hx, hb, hr, hml, hown, hts, hlk, hK, hE, hI⟩ := id C
  have hD : ∀ σ : Sg, va_D (s_A ad 27 s.heap.size) ((s_WC cy ad) σ) := fun σ => s_D (s_WC_ad cy ad σ) hI (fun k hk => Or.inl ⟨k, hk, rfl⟩)
  unfold fX4_takeLineEnd at hf
  refine lv_iload_n hx hb dX4_takeLineEnd_0 rfl (lv_at hl 1 rfl) ?_
  refine lv_bipush (v := 59) hx hb dX4_takeLineEnd_1 (by decide) ?_
  refine lv_icmp_ne (tgt := 15) hx hb dX4_takeLineEnd_3 (by decide) (fun c1 => ?_) (fun c1 => ?_)
  · rw [if_neg c1] at hf
    refine lv_aload_n hx hb dX4_takeLineEnd_15 rfl (lv_at hl 0 rfl) ?_
    refine lv_iconst (v := 2) hx hb dX4_takeLineEnd_16 (by decide) ?_
    replace hf := s_bv_some hf
    obtain ⟨σ2, hz3, hf⟩ := hf
    refine s_callv (nn := 1) C (kcX4_refuse (l := l) (G := G) (cy := cy) (sa := sa) hI (sz := H.size) σ (2 : Int32) hz3) gk_X4_70 rfl rfl (by decide +kernel) ⟨Nat.le_of_ble_eq_true rfl, Nat.le_of_ble_eq_true rfl⟩ hP hS (q0 := 3) (ci := 4) rfl rfl rfl (As := [.int (2 : Int32)]) (rest := []) rfl rfl hl.1 (Nat.le_of_ble_eq_true rfl) dX4_takeLineEnd_17 (fun H locs hP hS => ?_)
    have he2 := Option.some.inj hf
    exact W.vret hx hb hr (fun t ht hW => ⟨⟨(), rfl, trivial, s_fin (Wd := (s_WC cy ad)) ht he2 hP⟩, hS.F ht⟩) hS.2.2 dX4_takeLineEnd_20 hlk
  · rw [if_pos c1] at hf
    refine lv_aload_n hx hb dX4_takeLineEnd_6 rfl (lv_at hl 0 rfl) ?_
    refine lv_bipush (v := 12) hx hb dX4_takeLineEnd_7 (by decide) ?_
    refine va_put (D := G) (ci := 4) (v := .int (12 : Int32)) (ty := .int) (C := RX4) (T := TX4) (N := 12) hx hb hts inkX4 tyX4 tyX4_ok nmX4 hown hK hP (hD _) hS 3 rfl rfl 1 (by decide) (hts _ kw_158) (fun _ h9 => h9) rfl (by decide +kernel) rfl rfl (Nat.le_of_ble_eq_true rfl) dX4_takeLineEnd_9 (fun H locs hP _ hS => ?_)
    obtain ⟨σ4, eσ4⟩ : ∃ z : Sg, z = (s_up σ 3 1 (12 : Int32)) := ⟨_, rfl⟩
    replace hf := s_lt_at eσ4 hf
    replace hP : va_P G vwCl ((s_WC cy ad) σ4) H := by rw [eσ4]; exact hP
    refine lv_goto (tgt := 20) hx hb dX4_takeLineEnd_12 (by decide) ?_
    have he2 := Option.some.inj hf
    exact W.vret hx hb hr (fun t ht hW => ⟨⟨(), rfl, trivial, s_fin (Wd := (s_WC cy ad)) ht he2 hP⟩, hS.F ht⟩) hS.2.2 dX4_takeLineEnd_20 hlk
theorem kcX4_takeLineEnd {l : Launch} {G : va_G} {cy : Nat → ClassId} {sa : Nat × Nat} {ad : Nat → Nat}  {sz : Nat} (hI : s_inj ad 27) (σ : Sg) (x1 : Int32) {σe : Sg} (hf : fX4_takeLineEnd σ x1 = some σe) : Met l yX4_takeLineEnd (kW yX4_takeLineEnd cX4_takeLineEnd 2 none) ({ frames := 1, cells := 0, slots := 0, locals := 21 } : Room) (s_P (s_WC cy ad) G cy sa ad 27 [.ref (ad 3), .int x1] sz σ) (s_Qv (s_WC cy ad) G (s_A ad 27 sz) σe) 0 0 (s_A ad 27 sz) := by
  refine s_met (own := RX4) (by decide) rfl hI (Nat.le_of_ble_eq_true rfl) (fun p e s m below meth c ls hsz C hP hl => ?_)
  subst hsz
  exact kX4_takeLineEnd C σ x1 ls _ _ hl hP va_S.rf hf
set_option maxRecDepth 100000 in
set_option maxHeartbeats 4000000 in
theorem kX4_takeLineName_b15 (C : s_X p s m meth c args cX4_takeLineName none 1 RX4 G cy sa ad 27) (σ : Sg) (ls : Array Slot) (H : Heap) (locs : List Loc) (hl : lv_has ls 1 [(0, .ref (ad 3))]) (hP : va_P G vwCl ((s_WC cy ad) σ) H) (hS : va_S (s_A ad 27 s.heap.size) s.heap H locs) (hf : fX4_takeLineName_b15 σ = some σe) : W p l e ({ frames := 1, cells := 0, slots := 0, locals := 21 } : Room) s m args below meth c H locs 0 0 (MQ below (s_Qv (s_WC cy ad) G (s_A ad 27 s.heap.size) σe) args s 0 0 (s_A ad 27 s.heap.size)) (F0 m 15 ls []) := by
  obtain ⟨hx, hb, hr, hml, hown, hts, hlk, hK, hE, hI⟩ := id C
  have hD : ∀ σ : Sg, va_D (s_A ad 27 s.heap.size) ((s_WC cy ad) σ) := fun σ => s_D (s_WC_ad cy ad σ) hI (fun k hk => Or.inl ⟨k, hk, rfl⟩)
  unfold fX4_takeLineName_b15 at hf
  refine lv_aload_n hx hb dX4_takeLineName_15 rfl (lv_at hl 0 rfl) ?_
  refine lv_iconst (v := 2) hx hb dX4_takeLineName_16 (by decide) ?_
  replace hf := s_bv_some hf
  obtain ⟨σ1, hz2, hf⟩ := hf
  refine s_callv (nn := 1) C (kcX4_refuse (l := l) (G := G) (cy := cy) (sa := sa) hI (sz := H.size) σ (2 : Int32) hz2) gk_X4_70 rfl rfl (by decide +kernel) ⟨Nat.le_of_ble_eq_true rfl, Nat.le_of_ble_eq_true rfl⟩ hP hS (q0 := 3) (ci := 4) rfl rfl rfl (As := [.int (2 : Int32)]) (rest := []) rfl rfl hl.1 (Nat.le_of_ble_eq_true rfl) dX4_takeLineName_17 (fun H locs hP hS => ?_)
  refine lv_goto (tgt := 77) hx hb dX4_takeLineName_20 (by decide) ?_
  have he2 := Option.some.inj hf
  exact W.vret hx hb hr (fun t ht hW => ⟨⟨(), rfl, trivial, s_fin (Wd := (s_WC cy ad)) ht he2 hP⟩, hS.F ht⟩) hS.2.2 dX4_takeLineName_77 hlk
set_option maxRecDepth 100000 in
set_option maxHeartbeats 4000000 in
theorem kX4_takeLineName_b54 (C : s_X p s m meth c args cX4_takeLineName none 1 RX4 G cy sa ad 27) (σ : Sg) (ls : Array Slot) (H : Heap) (locs : List Loc) (hl : lv_has ls 1 [(0, .ref (ad 3))]) (hP : va_P G vwCl ((s_WC cy ad) σ) H) (hS : va_S (s_A ad 27 s.heap.size) s.heap H locs) (hf : fX4_takeLineName_b54 σ = some σe) : W p l e ({ frames := 1, cells := 0, slots := 0, locals := 21 } : Room) s m args below meth c H locs 0 0 (MQ below (s_Qv (s_WC cy ad) G (s_A ad 27 s.heap.size) σe) args s 0 0 (s_A ad 27 s.heap.size)) (F0 m 54 ls []) := by
  obtain ⟨hx, hb, hr, hml, hown, hts, hlk, hK, hE, hI⟩ := id C
  have hD : ∀ σ : Sg, va_D (s_A ad 27 s.heap.size) ((s_WC cy ad) σ) := fun σ => s_D (s_WC_ad cy ad σ) hI (fun k hk => Or.inl ⟨k, hk, rfl⟩)
  unfold fX4_takeLineName_b54 at hf
  refine lv_aload_n hx hb dX4_takeLineName_54 rfl (lv_at hl 0 rfl) ?_
  refine lv_dup hx hb dX4_takeLineName_55 rfl ?_
  refine va_get (D := G) (ci := 4) (v := .int (σ 3 2)) (C := RX4) (T := TX4) (N := 12) hx hb hts inkX4 hown hK hP 3 rfl rfl 2 (by decide) (hts _ kw_159) (fun _ h9 => h9) rfl dX4_takeLineName_56 ?_
  refine lv_iconst (v := 1) hx hb dX4_takeLineName_59 (by decide) ?_
  refine lv_aload_n hx hb dX4_takeLineName_60 rfl (lv_at hl 0 rfl) ?_
  refine va_get (D := G) (ci := 4) (v := .int (σ 3 8)) (C := RX4) (T := TX4) (N := 12) hx hb hts inkX4 hown hK hP 3 rfl rfl 8 (by decide) (hts _ kw_165) (fun _ h9 => h9) rfl dX4_takeLineName_61 ?_
  refine lv_ishl hx hb dX4_takeLineName_64 ?_
  refine lv_ior hx hb dX4_takeLineName_65 ?_
  refine va_put (D := G) (ci := 4) (v := .int ((σ 3 2) ||| ((1 : Int32) <<< ((σ 3 8) &&& 31)))) (ty := .int) (C := RX4) (T := TX4) (N := 12) hx hb hts inkX4 tyX4 tyX4_ok nmX4 hown hK hP (hD _) hS 3 rfl rfl 2 (by decide) (hts _ kw_159) (fun _ h9 => h9) rfl (by decide +kernel) rfl rfl (Nat.le_of_ble_eq_true rfl) dX4_takeLineName_66 (fun H locs hP _ hS => ?_)
  obtain ⟨σ1, eσ1⟩ : ∃ z : Sg, z = (s_up σ 3 2 ((σ 3 2) ||| ((1 : Int32) <<< ((σ 3 8) &&& 31)))) := ⟨_, rfl⟩
  replace hf := s_lt_at eσ1 hf
  replace hP : va_P G vwCl ((s_WC cy ad) σ1) H := by rw [eσ1]; exact hP
  refine lv_aload_n hx hb dX4_takeLineName_69 rfl (lv_at hl 0 rfl) ?_
  refine lv_aload_n hx hb dX4_takeLineName_70 rfl (lv_at hl 0 rfl) ?_
  refine va_get (D := G) (ci := 4) (v := .int (σ1 3 8)) (C := RX4) (T := TX4) (N := 12) hx hb hts inkX4 hown hK hP 3 rfl rfl 8 (by decide) (hts _ kw_165) (fun _ h9 => h9) rfl dX4_takeLineName_71 ?_
  refine va_put (D := G) (ci := 4) (v := .int (σ1 3 8)) (ty := .int) (C := RX4) (T := TX4) (N := 12) hx hb hts inkX4 tyX4 tyX4_ok nmX4 hown hK hP (hD _) hS 3 rfl rfl 1 (by decide) (hts _ kw_158) (fun _ h9 => h9) rfl (by decide +kernel) rfl rfl (Nat.le_of_ble_eq_true rfl) dX4_takeLineName_74 (fun H locs hP _ hS => ?_)
  obtain ⟨σ2, eσ2⟩ : ∃ z : Sg, z = (s_up σ1 3 1 (σ1 3 8)) := ⟨_, rfl⟩
  replace hf := s_lt_at eσ2 hf
  replace hP : va_P G vwCl ((s_WC cy ad) σ2) H := by rw [eσ2]; exact hP
  have he2 := Option.some.inj hf
  exact W.vret hx hb hr (fun t ht hW => ⟨⟨(), rfl, trivial, s_fin (Wd := (s_WC cy ad)) ht he2 hP⟩, hS.F ht⟩) hS.2.2 dX4_takeLineName_77 hlk
set_option maxRecDepth 100000 in
set_option maxHeartbeats 4000000 in
theorem kX4_takeLineName (C : s_X p s m meth c args cX4_takeLineName none 1 RX4 G cy sa ad 27) (σ : Sg) (ls : Array Slot) (H : Heap) (locs : List Loc) (hl : lv_has ls 1 [(0, .ref (ad 3))]) (hP : va_P G vwCl ((s_WC cy ad) σ) H) (hS : va_S (s_A ad 27 s.heap.size) s.heap H locs) (hf : fX4_takeLineName σ = some σe) : W p l e ({ frames := 1, cells := 0, slots := 0, locals := 21 } : Room) s m args below meth c H locs 0 0 (MQ below (s_Qv (s_WC cy ad) G (s_A ad 27 s.heap.size) σe) args s 0 0 (s_A ad 27 s.heap.size)) (F0 m 0 ls []) := by
  obtain ⟨hx, hb, hr, hml, hown, hts, hlk, hK, hE, hI⟩ := id C
  have hD : ∀ σ : Sg, va_D (s_A ad 27 s.heap.size) ((s_WC cy ad) σ) := fun σ => s_D (s_WC_ad cy ad σ) hI (fun k hk => Or.inl ⟨k, hk, rfl⟩)
  unfold fX4_takeLineName at hf
  refine lv_aload_n hx hb dX4_takeLineName_0 rfl (lv_at hl 0 rfl) ?_
  refine va_get (D := G) (ci := 4) (v := .int (σ 3 8)) (C := RX4) (T := TX4) (N := 12) hx hb hts inkX4 hown hK hP 3 rfl rfl 8 (by decide) (hts _ kw_165) (fun _ h9 => h9) rfl dX4_takeLineName_1 ?_
  refine lv_if_lt (tgt := 15) hx hb dX4_takeLineName_4 (by decide) (fun c1 => ?_) (fun c1 => ?_)
  · rw [if_pos c1] at hf
    exact kX4_takeLineName_b15 C σ _ _ _ (lv_sub hl [0] rfl) hP hS hf
  · rw [if_neg c1] at hf
    refine lv_aload_n hx hb dX4_takeLineName_7 rfl (lv_at hl 0 rfl) ?_
    refine va_get (D := G) (ci := 4) (v := .int (σ 3 8)) (C := RX4) (T := TX4) (N := 12) hx hb hts inkX4 hown hK hP 3 rfl rfl 8 (by decide) (hts _ kw_165) (fun _ h9 => h9) rfl dX4_takeLineName_8 ?_
    refine lv_iconst (v := 5) hx hb dX4_takeLineName_11 (by decide) ?_
    refine lv_icmp_le (tgt := 23) hx hb dX4_takeLineName_12 (by decide) (fun c2 => ?_) (fun c2 => ?_)
    · rw [if_pos c2] at hf
      refine lv_aload_n hx hb dX4_takeLineName_23 rfl (lv_at hl 0 rfl) ?_
      refine va_get (D := G) (ci := 4) (v := .int (σ 3 8)) (C := RX4) (T := TX4) (N := 12) hx hb hts inkX4 hown hK hP 3 rfl rfl 8 (by decide) (hts _ kw_165) (fun _ h9 => h9) rfl dX4_takeLineName_24 ?_
      refine lv_iconst (v := 5) hx hb dX4_takeLineName_27 (by decide) ?_
      refine lv_icmp_eq (tgt := 54) hx hb dX4_takeLineName_28 (by decide) (fun c3 => ?_) (fun c3 => ?_)
      · rw [if_pos c3] at hf
        exact kX4_takeLineName_b54 C σ _ _ _ (lv_sub hl [0] rfl) hP hS hf
      · rw [if_neg c3] at hf
        refine lv_aload_n hx hb dX4_takeLineName_31 rfl (lv_at hl 0 rfl) ?_
        refine va_get (D := G) (ci := 4) (v := .int (σ 3 2)) (C := RX4) (T := TX4) (N := 12) hx hb hts inkX4 hown hK hP 3 rfl rfl 2 (by decide) (hts _ kw_159) (fun _ h9 => h9) rfl dX4_takeLineName_32 ?_
        refine lv_aload_n hx hb dX4_takeLineName_35 rfl (lv_at hl 0 rfl) ?_
        refine va_get (D := G) (ci := 4) (v := .int (σ 3 8)) (C := RX4) (T := TX4) (N := 12) hx hb hts inkX4 hown hK hP 3 rfl rfl 8 (by decide) (hts _ kw_165) (fun _ h9 => h9) rfl dX4_takeLineName_36 ?_
        refine lv_ishr hx hb dX4_takeLineName_39 ?_
        refine lv_iconst (v := 1) hx hb dX4_takeLineName_40 (by decide) ?_
        refine lv_iand hx hb dX4_takeLineName_41 ?_
        refine lv_iconst (v := 1) hx hb dX4_takeLineName_42 (by decide) ?_
        refine lv_icmp_ne (tgt := 54) hx hb dX4_takeLineName_43 (by decide) (fun c4 => ?_) (fun c4 => ?_)
        · rw [if_neg c4] at hf
          exact kX4_takeLineName_b54 C σ _ _ _ (lv_sub hl [0] rfl) hP hS hf
        · rw [if_pos c4] at hf
          refine lv_aload_n hx hb dX4_takeLineName_46 rfl (lv_at hl 0 rfl) ?_
          refine lv_iconst (v := 4) hx hb dX4_takeLineName_47 (by decide) ?_
          replace hf := s_bv_some hf
          obtain ⟨σ5, hz6, hf⟩ := hf
          refine s_callv (nn := 1) C (kcX4_refuse (l := l) (G := G) (cy := cy) (sa := sa) hI (sz := H.size) σ (4 : Int32) hz6) gk_X4_70 rfl rfl (by decide +kernel) ⟨Nat.le_of_ble_eq_true rfl, Nat.le_of_ble_eq_true rfl⟩ hP hS (q0 := 3) (ci := 4) rfl rfl rfl (As := [.int (4 : Int32)]) (rest := []) rfl rfl hl.1 (Nat.le_of_ble_eq_true rfl) dX4_takeLineName_48 (fun H locs hP hS => ?_)
          refine lv_goto (tgt := 77) hx hb dX4_takeLineName_51 (by decide) ?_
          have he2 := Option.some.inj hf
          exact W.vret hx hb hr (fun t ht hW => ⟨⟨(), rfl, trivial, s_fin (Wd := (s_WC cy ad)) ht he2 hP⟩, hS.F ht⟩) hS.2.2 dX4_takeLineName_77 hlk
    · rw [if_neg c2] at hf
      exact kX4_takeLineName_b15 C σ _ _ _ (lv_sub hl [0] rfl) hP hS hf
theorem kcX4_takeLineName {l : Launch} {G : va_G} {cy : Nat → ClassId} {sa : Nat × Nat} {ad : Nat → Nat}  {sz : Nat} (hI : s_inj ad 27) (σ : Sg) {σe : Sg} (hf : fX4_takeLineName σ = some σe) : Met l yX4_takeLineName (kW yX4_takeLineName cX4_takeLineName 1 none) ({ frames := 1, cells := 0, slots := 0, locals := 21 } : Room) (s_P (s_WC cy ad) G cy sa ad 27 [.ref (ad 3)] sz σ) (s_Qv (s_WC cy ad) G (s_A ad 27 sz) σe) 0 0 (s_A ad 27 sz) := by
  refine s_met (own := RX4) (by decide) rfl hI (Nat.le_of_ble_eq_true rfl) (fun p e s m below meth c ls hsz C hP hl => ?_)
  subst hsz
  exact kX4_takeLineName C σ ls _ _ hl hP va_S.rf hf
set_option maxRecDepth 100000 in
set_option maxHeartbeats 4000000 in
theorem kX4_takeToken (C : s_X p s m meth c args cX4_takeToken none 2 RX4 G cy sa ad 27) (σ : Sg) (x1 : Int32) (ls : Array Slot) (H : Heap) (locs : List Loc) (hl : lv_has ls 2 [(0, .ref (ad 3)), (1, .int x1)]) (hP : va_P G vwCl ((s_WC cy ad) σ) H) (hS : va_S (s_A ad 27 s.heap.size) s.heap H locs) (hf : fX4_takeToken σ x1 = some σe) : W p l e ({ frames := 4, cells := 0, slots := 0, locals := 86 } : Room) s m args below meth c H locs 0 0 (MQ below (s_Qv (s_WC cy ad) G (s_A ad 27 s.heap.size) σe) args s 0 0 (s_A ad 27 s.heap.size)) (F0 m 0 ls []) := by
  obtain ⟨hx, hb, hr, hml, hown, hts, hlk, hK, hE, hI⟩ := id C
  have hD : ∀ σ : Sg, va_D (s_A ad 27 s.heap.size) ((s_WC cy ad) σ) := fun σ => s_D (s_WC_ad cy ad σ) hI (fun k hk => Or.inl ⟨k, hk, rfl⟩)
  unfold fX4_takeToken at hf
  refine lv_aload_n hx hb dX4_takeToken_0 rfl (lv_at hl 0 rfl) ?_
  refine va_get (D := G) (ci := 4) (v := .int (σ 3 1)) (C := RX4) (T := TX4) (N := 12) hx hb hts inkX4 hown hK hP 3 rfl rfl 1 (by decide) (hts _ kw_158) (fun _ h9 => h9) rfl dX4_takeToken_1 ?_
  by_cases c1 : (σ 3 1) = 0
  · rw [if_pos c1] at hf
    refine lv_tableIn (off := 75) (tgt := 79) hx hb dX4_takeToken_4 (by rw [c1]; decide) (by rw [c1]; decide) (by rw [c1]; rfl) (by decide) ?_
    refine lv_aload_n hx hb dX4_takeToken_79 rfl (lv_at hl 0 rfl) ?_
    refine va_get (D := G) (ci := 4) (v := .ref (ad 4)) (C := RX4) (T := TX4) (N := 12) hx hb hts inkX4 hown hK hP 3 rfl rfl 0 (by decide) (hts _ kw_156) (fun _ h9 => h9) rfl dX4_takeToken_80 ?_
    refine lv_aload_n hx hb dX4_takeToken_83 rfl (lv_at hl 0 rfl) ?_
    refine lv_iconst (v := 1) hx hb dX4_takeToken_84 (by decide) ?_
    refine lv_bipush (v := 24) hx hb dX4_takeToken_85 (by decide) ?_
    refine lv_bipush (v := 11) hx hb dX4_takeToken_87 (by decide) ?_
    replace hf := s_bi_some hf
    obtain ⟨r4, σ2, hz3, hf⟩ := hf
    refine s_calli (nn := 3) C (kcX4_takeNumber (l := l) (G := G) (cy := cy) (sa := sa) hI (sz := H.size) σ (1 : Int32) (24 : Int32) (11 : Int32) hz3) gk_X4_76 rfl rfl (by decide +kernel) ⟨Nat.le_of_ble_eq_true rfl, Nat.le_of_ble_eq_true rfl⟩ hP hS (q0 := 3) (ci := 4) rfl rfl rfl (As := [.int (1 : Int32), .int (24 : Int32), .int (11 : Int32)]) (rest := [.ref (ad 4)]) rfl rfl hl.1 (Nat.le_of_ble_eq_true rfl) dX4_takeToken_89 (fun H locs hP hS => ?_)
    refine va_putN (D := G) (ci := 1) (v := .int r4) (ty := .int) (C := RX1) (T := TX1) (N := 8) hx hb hts inkX1 tyX1 tyX1_ok nmX1 hown hK hP (hD _) hS 4 rfl rfl 2 (by decide) (kn_X4_80 hE) (fun _ h9 => h9) rfl (by decide +kernel) rfl rfl (Nat.le_of_ble_eq_true rfl) dX4_takeToken_92 (fun H locs hP _ hS => ?_)
    obtain ⟨σ5, eσ5⟩ : ∃ z : Sg, z = (s_up σ2 4 2 r4) := ⟨_, rfl⟩
    replace hf := s_lt_at eσ5 hf
    replace hP : va_P G vwCl ((s_WC cy ad) σ5) H := by rw [eσ5]; exact hP
    refine lv_goto (tgt := 228) hx hb dX4_takeToken_95 (by decide) ?_
    have he2 := Option.some.inj hf
    exact W.vret hx hb hr (fun t ht hW => ⟨⟨(), rfl, trivial, s_fin (Wd := (s_WC cy ad)) ht he2 hP⟩, hS.F ht⟩) hS.2.2 dX4_takeToken_228 hlk
  · rw [if_neg c1] at hf
    by_cases c6 : (σ 3 1) = 1
    · rw [if_pos c6] at hf
      refine lv_tableIn (off := 94) (tgt := 98) hx hb dX4_takeToken_4 (by rw [c6]; decide) (by rw [c6]; decide) (by rw [c6]; rfl) (by decide) ?_
      refine lv_aload_n hx hb dX4_takeToken_98 rfl (lv_at hl 0 rfl) ?_
      refine va_get (D := G) (ci := 4) (v := .ref (ad 4)) (C := RX4) (T := TX4) (N := 12) hx hb hts inkX4 hown hK hP 3 rfl rfl 0 (by decide) (hts _ kw_156) (fun _ h9 => h9) rfl dX4_takeToken_99 ?_
      refine lv_aload_n hx hb dX4_takeToken_102 rfl (lv_at hl 0 rfl) ?_
      refine lv_iconst (v := 1) hx hb dX4_takeToken_103 (by decide) ?_
      refine lv_bipush (v := 24) hx hb dX4_takeToken_104 (by decide) ?_
      refine lv_bipush (v := 11) hx hb dX4_takeToken_106 (by decide) ?_
      replace hf := s_bi_some hf
      obtain ⟨r9, σ7, hz8, hf⟩ := hf
      refine s_calli (nn := 3) C (kcX4_takeNumber (l := l) (G := G) (cy := cy) (sa := sa) hI (sz := H.size) σ (1 : Int32) (24 : Int32) (11 : Int32) hz8) gk_X4_76 rfl rfl (by decide +kernel) ⟨Nat.le_of_ble_eq_true rfl, Nat.le_of_ble_eq_true rfl⟩ hP hS (q0 := 3) (ci := 4) rfl rfl rfl (As := [.int (1 : Int32), .int (24 : Int32), .int (11 : Int32)]) (rest := [.ref (ad 4)]) rfl rfl hl.1 (Nat.le_of_ble_eq_true rfl) dX4_takeToken_108 (fun H locs hP hS => ?_)
      refine va_putN (D := G) (ci := 1) (v := .int r9) (ty := .int) (C := RX1) (T := TX1) (N := 8) hx hb hts inkX1 tyX1 tyX1_ok nmX1 hown hK hP (hD _) hS 4 rfl rfl 3 (by decide) (kn_X4_83 hE) (fun _ h9 => h9) rfl (by decide +kernel) rfl rfl (Nat.le_of_ble_eq_true rfl) dX4_takeToken_111 (fun H locs hP _ hS => ?_)
      obtain ⟨σ10, eσ10⟩ : ∃ z : Sg, z = (s_up σ7 4 3 r9) := ⟨_, rfl⟩
      replace hf := s_lt_at eσ10 hf
      replace hP : va_P G vwCl ((s_WC cy ad) σ10) H := by rw [eσ10]; exact hP
      refine lv_goto (tgt := 228) hx hb dX4_takeToken_114 (by decide) ?_
      have he2 := Option.some.inj hf
      exact W.vret hx hb hr (fun t ht hW => ⟨⟨(), rfl, trivial, s_fin (Wd := (s_WC cy ad)) ht he2 hP⟩, hS.F ht⟩) hS.2.2 dX4_takeToken_228 hlk
    · rw [if_neg c6] at hf
      by_cases c11 : (σ 3 1) = 2
      · rw [if_pos c11] at hf
        refine lv_tableIn (off := 113) (tgt := 117) hx hb dX4_takeToken_4 (by rw [c11]; decide) (by rw [c11]; decide) (by rw [c11]; rfl) (by decide) ?_
        refine lv_aload_n hx hb dX4_takeToken_117 rfl (lv_at hl 0 rfl) ?_
        refine va_get (D := G) (ci := 4) (v := .ref (ad 4)) (C := RX4) (T := TX4) (N := 12) hx hb hts inkX4 hown hK hP 3 rfl rfl 0 (by decide) (hts _ kw_156) (fun _ h9 => h9) rfl dX4_takeToken_118 ?_
        refine lv_aload_n hx hb dX4_takeToken_121 rfl (lv_at hl 0 rfl) ?_
        refine lv_iconst (v := 0) hx hb dX4_takeToken_122 (by decide) ?_
        refine lv_bipush (v := 100) hx hb dX4_takeToken_123 (by decide) ?_
        refine lv_bipush (v := 6) hx hb dX4_takeToken_125 (by decide) ?_
        replace hf := s_bi_some hf
        obtain ⟨r14, σ12, hz13, hf⟩ := hf
        refine s_calli (nn := 3) C (kcX4_takeNumber (l := l) (G := G) (cy := cy) (sa := sa) hI (sz := H.size) σ (0 : Int32) (100 : Int32) (6 : Int32) hz13) gk_X4_76 rfl rfl (by decide +kernel) ⟨Nat.le_of_ble_eq_true rfl, Nat.le_of_ble_eq_true rfl⟩ hP hS (q0 := 3) (ci := 4) rfl rfl rfl (As := [.int (0 : Int32), .int (100 : Int32), .int (6 : Int32)]) (rest := [.ref (ad 4)]) rfl rfl hl.1 (Nat.le_of_ble_eq_true rfl) dX4_takeToken_127 (fun H locs hP hS => ?_)
        refine va_putN (D := G) (ci := 1) (v := .int r14) (ty := .int) (C := RX1) (T := TX1) (N := 8) hx hb hts inkX1 tyX1 tyX1_ok nmX1 hown hK hP (hD _) hS 4 rfl rfl 4 (by decide) (kn_X4_86 hE) (fun _ h9 => h9) rfl (by decide +kernel) rfl rfl (Nat.le_of_ble_eq_true rfl) dX4_takeToken_130 (fun H locs hP _ hS => ?_)
        obtain ⟨σ15, eσ15⟩ : ∃ z : Sg, z = (s_up σ12 4 4 r14) := ⟨_, rfl⟩
        replace hf := s_lt_at eσ15 hf
        replace hP : va_P G vwCl ((s_WC cy ad) σ15) H := by rw [eσ15]; exact hP
        refine lv_goto (tgt := 228) hx hb dX4_takeToken_133 (by decide) ?_
        have he2 := Option.some.inj hf
        exact W.vret hx hb hr (fun t ht hW => ⟨⟨(), rfl, trivial, s_fin (Wd := (s_WC cy ad)) ht he2 hP⟩, hS.F ht⟩) hS.2.2 dX4_takeToken_228 hlk
      · rw [if_neg c11] at hf
        by_cases c16 : (σ 3 1) = 3
        · rw [if_pos c16] at hf
          refine lv_tableIn (off := 161) (tgt := 165) hx hb dX4_takeToken_4 (by rw [c16]; decide) (by rw [c16]; decide) (by rw [c16]; rfl) (by decide) ?_
          refine lv_aload_n hx hb dX4_takeToken_165 rfl (lv_at hl 0 rfl) ?_
          refine va_get (D := G) (ci := 4) (v := .ref (ad 4)) (C := RX4) (T := TX4) (N := 12) hx hb hts inkX4 hown hK hP 3 rfl rfl 0 (by decide) (hts _ kw_156) (fun _ h9 => h9) rfl dX4_takeToken_166 ?_
          refine lv_aload_n hx hb dX4_takeToken_169 rfl (lv_at hl 0 rfl) ?_
          refine lv_bipush (v := 7) hx hb dX4_takeToken_170 (by decide) ?_
          refine lv_bipush (v := 11) hx hb dX4_takeToken_172 (by decide) ?_
          replace hf := s_bi_some hf
          obtain ⟨r19, σ17, hz18, hf⟩ := hf
          refine s_calli (nn := 2) C (kcX4_takeChoice (l := l) (G := G) (cy := cy) (sa := sa) hI (sz := H.size) σ (7 : Int32) (11 : Int32) hz18) gk_X4_98 rfl rfl (by decide +kernel) ⟨Nat.le_of_ble_eq_true rfl, Nat.le_of_ble_eq_true rfl⟩ hP hS (q0 := 3) (ci := 4) rfl rfl rfl (As := [.int (7 : Int32), .int (11 : Int32)]) (rest := [.ref (ad 4)]) rfl rfl hl.1 (Nat.le_of_ble_eq_true rfl) dX4_takeToken_174 (fun H locs hP hS => ?_)
          refine va_putN (D := G) (ci := 1) (v := .int r19) (ty := .int) (C := RX1) (T := TX1) (N := 8) hx hb hts inkX1 tyX1 tyX1_ok nmX1 hown hK hP (hD _) hS 4 rfl rfl 6 (by decide) (kn_X4_101 hE) (fun _ h9 => h9) rfl (by decide +kernel) rfl rfl (Nat.le_of_ble_eq_true rfl) dX4_takeToken_177 (fun H locs hP _ hS => ?_)
          obtain ⟨σ20, eσ20⟩ : ∃ z : Sg, z = (s_up σ17 4 6 r19) := ⟨_, rfl⟩
          replace hf := s_lt_at eσ20 hf
          replace hP : va_P G vwCl ((s_WC cy ad) σ20) H := by rw [eσ20]; exact hP
          refine lv_goto (tgt := 228) hx hb dX4_takeToken_180 (by decide) ?_
          have he2 := Option.some.inj hf
          exact W.vret hx hb hr (fun t ht hW => ⟨⟨(), rfl, trivial, s_fin (Wd := (s_WC cy ad)) ht he2 hP⟩, hS.F ht⟩) hS.2.2 dX4_takeToken_228 hlk
        · rw [if_neg c16] at hf
          by_cases c21 : (σ 3 1) = 4
          · rw [if_pos c21] at hf
            refine lv_tableIn (off := 179) (tgt := 183) hx hb dX4_takeToken_4 (by rw [c21]; decide) (by rw [c21]; decide) (by rw [c21]; rfl) (by decide) ?_
            refine lv_aload_n hx hb dX4_takeToken_183 rfl (lv_at hl 0 rfl) ?_
            refine va_get (D := G) (ci := 4) (v := .ref (ad 4)) (C := RX4) (T := TX4) (N := 12) hx hb hts inkX4 hown hK hP 3 rfl rfl 0 (by decide) (hts _ kw_156) (fun _ h9 => h9) rfl dX4_takeToken_184 ?_
            refine lv_aload_n hx hb dX4_takeToken_187 rfl (lv_at hl 0 rfl) ?_
            refine lv_bipush (v := 12) hx hb dX4_takeToken_188 (by decide) ?_
            refine lv_bipush (v := 14) hx hb dX4_takeToken_190 (by decide) ?_
            replace hf := s_bi_some hf
            obtain ⟨r24, σ22, hz23, hf⟩ := hf
            refine s_calli (nn := 2) C (kcX4_takeChoice (l := l) (G := G) (cy := cy) (sa := sa) hI (sz := H.size) σ (12 : Int32) (14 : Int32) hz23) gk_X4_98 rfl rfl (by decide +kernel) ⟨Nat.le_of_ble_eq_true rfl, Nat.le_of_ble_eq_true rfl⟩ hP hS (q0 := 3) (ci := 4) rfl rfl rfl (As := [.int (12 : Int32), .int (14 : Int32)]) (rest := [.ref (ad 4)]) rfl rfl hl.1 (Nat.le_of_ble_eq_true rfl) dX4_takeToken_192 (fun H locs hP hS => ?_)
            refine va_putN (D := G) (ci := 1) (v := .int r24) (ty := .int) (C := RX1) (T := TX1) (N := 8) hx hb hts inkX1 tyX1 tyX1_ok nmX1 hown hK hP (hD _) hS 4 rfl rfl 7 (by decide) (kn_X4_104 hE) (fun _ h9 => h9) rfl (by decide +kernel) rfl rfl (Nat.le_of_ble_eq_true rfl) dX4_takeToken_195 (fun H locs hP _ hS => ?_)
            obtain ⟨σ25, eσ25⟩ : ∃ z : Sg, z = (s_up σ22 4 7 r24) := ⟨_, rfl⟩
            replace hf := s_lt_at eσ25 hf
            replace hP : va_P G vwCl ((s_WC cy ad) σ25) H := by rw [eσ25]; exact hP
            refine lv_goto (tgt := 228) hx hb dX4_takeToken_198 (by decide) ?_
            have he2 := Option.some.inj hf
            exact W.vret hx hb hr (fun t ht hW => ⟨⟨(), rfl, trivial, s_fin (Wd := (s_WC cy ad)) ht he2 hP⟩, hS.F ht⟩) hS.2.2 dX4_takeToken_228 hlk
          · rw [if_neg c21] at hf
            by_cases c26 : (σ 3 1) = 5
            · rw [if_pos c26] at hf
              refine lv_tableIn (off := 219) (tgt := 223) hx hb dX4_takeToken_4 (by rw [c26]; decide) (by rw [c26]; decide) (by rw [c26]; rfl) (by decide) ?_
              refine lv_aload_n hx hb dX4_takeToken_223 rfl (lv_at hl 0 rfl) ?_
              refine lv_iload_n hx hb dX4_takeToken_224 rfl (lv_at hl 1 rfl) ?_
              replace hf := s_bv_some hf
              obtain ⟨σ27, hz28, hf⟩ := hf
              refine s_callv (nn := 1) C (kcX4_takeReadingOrMore (l := l) (G := G) (cy := cy) (sa := sa) hI (sz := H.size) σ x1 hz28) gk_X4_116 rfl rfl (by decide +kernel) ⟨Nat.le_of_ble_eq_true rfl, Nat.le_of_ble_eq_true rfl⟩ hP hS (q0 := 3) (ci := 4) rfl rfl rfl (As := [.int x1]) (rest := []) rfl rfl hl.1 (Nat.le_of_ble_eq_true rfl) dX4_takeToken_225 (fun H locs hP hS => ?_)
              have he2 := Option.some.inj hf
              exact W.vret hx hb hr (fun t ht hW => ⟨⟨(), rfl, trivial, s_fin (Wd := (s_WC cy ad)) ht he2 hP⟩, hS.F ht⟩) hS.2.2 dX4_takeToken_228 hlk
            · rw [if_neg c26] at hf
              by_cases c29 : (σ 3 1) = 6
              · rw [if_pos c29] at hf
                refine lv_tableIn (off := 132) (tgt := 136) hx hb dX4_takeToken_4 (by rw [c29]; decide) (by rw [c29]; decide) (by rw [c29]; rfl) (by decide) ?_
                refine lv_aload_n hx hb dX4_takeToken_136 rfl (lv_at hl 0 rfl) ?_
                refine va_get (D := G) (ci := 4) (v := .ref (ad 4)) (C := RX4) (T := TX4) (N := 12) hx hb hts inkX4 hown hK hP 3 rfl rfl 0 (by decide) (hts _ kw_156) (fun _ h9 => h9) rfl dX4_takeToken_137 ?_
                refine lv_aload_n hx hb dX4_takeToken_140 rfl (lv_at hl 0 rfl) ?_
                refine lv_iconst (v := 1) hx hb dX4_takeToken_141 (by decide) ?_
                refine lv_aload_n hx hb dX4_takeToken_142 rfl (lv_at hl 0 rfl) ?_
                refine va_get (D := G) (ci := 4) (v := .ref (ad 4)) (C := RX4) (T := TX4) (N := 12) hx hb hts inkX4 hown hK hP 3 rfl rfl 0 (by decide) (hts _ kw_156) (fun _ h9 => h9) rfl dX4_takeToken_143 ?_
                refine va_getN (D := G) (ci := 1) (v := .int (σ 4 4)) (C := RX1) (T := TX1) (N := 8) hx hb hts inkX1 hown hK hP 4 rfl rfl 4 (by decide) (kn_X4_86 hE) (fun _ h9 => h9) rfl dX4_takeToken_146 ?_
                refine va_mmax hx hb (hml.trans hl.1.symm) hown (hts _ kw_395) (hts _ kw_396) (hts _ kw_69) (hts _ kw_397) (Nat.le_of_ble_eq_true rfl) (Nat.le_of_ble_eq_true rfl) (Nat.zero_le _) (Nat.zero_le _) dX4_takeToken_149 ?_
                refine lv_topi (fun t30 et30 => ?_)
                replace hf := s_lt_at et30 hf
                refine lv_bipush (v := 100) hx hb dX4_takeToken_152 (by decide) ?_
                refine lv_bipush (v := 11) hx hb dX4_takeToken_154 (by decide) ?_
                replace hf := s_bi_some hf
                obtain ⟨r33, σ31, hz32, hf⟩ := hf
                refine s_calli (nn := 3) C (kcX4_takeNumber (l := l) (G := G) (cy := cy) (sa := sa) hI (sz := H.size) σ t30 (100 : Int32) (11 : Int32) hz32) gk_X4_76 rfl rfl (by decide +kernel) ⟨Nat.le_of_ble_eq_true rfl, Nat.le_of_ble_eq_true rfl⟩ hP hS (q0 := 3) (ci := 4) rfl rfl rfl (As := [.int t30, .int (100 : Int32), .int (11 : Int32)]) (rest := [.ref (ad 4)]) rfl rfl hl.1 (Nat.le_of_ble_eq_true rfl) dX4_takeToken_156 (fun H locs hP hS => ?_)
                refine va_putN (D := G) (ci := 1) (v := .int r33) (ty := .int) (C := RX1) (T := TX1) (N := 8) hx hb hts inkX1 tyX1 tyX1_ok nmX1 hown hK hP (hD _) hS 4 rfl rfl 5 (by decide) (kn_X4_95 hE) (fun _ h9 => h9) rfl (by decide +kernel) rfl rfl (Nat.le_of_ble_eq_true rfl) dX4_takeToken_159 (fun H locs hP _ hS => ?_)
                obtain ⟨σ34, eσ34⟩ : ∃ z : Sg, z = (s_up σ31 4 5 r33) := ⟨_, rfl⟩
                replace hf := s_lt_at eσ34 hf
                replace hP : va_P G vwCl ((s_WC cy ad) σ34) H := by rw [eσ34]; exact hP
                refine lv_goto (tgt := 228) hx hb dX4_takeToken_162 (by decide) ?_
                have he2 := Option.some.inj hf
                exact W.vret hx hb hr (fun t ht hW => ⟨⟨(), rfl, trivial, s_fin (Wd := (s_WC cy ad)) ht he2 hP⟩, hS.F ht⟩) hS.2.2 dX4_takeToken_228 hlk
              · rw [if_neg c29] at hf
                by_cases c35 : (σ 3 1) = 7
                · rw [if_pos c35] at hf
                  refine lv_tableIn (off := 205) (tgt := 209) hx hb dX4_takeToken_4 (by rw [c35]; decide) (by rw [c35]; decide) (by rw [c35]; rfl) (by decide) ?_
                  refine lv_aload_n hx hb dX4_takeToken_209 rfl (lv_at hl 0 rfl) ?_
                  replace hf := s_bv_some hf
                  obtain ⟨σ36, hz37, hf⟩ := hf
                  refine s_callv (nn := 0) C (kcX4_takeWhole (l := l) (G := G) (cy := cy) (sa := sa) hI (sz := H.size) σ hz37) gk_X4_110 rfl rfl (by decide +kernel) ⟨Nat.le_of_ble_eq_true rfl, Nat.le_of_ble_eq_true rfl⟩ hP hS (q0 := 3) (ci := 4) rfl rfl rfl (As := []) (rest := []) rfl rfl hl.1 (Nat.le_of_ble_eq_true rfl) dX4_takeToken_210 (fun H locs hP hS => ?_)
                  refine lv_goto (tgt := 228) hx hb dX4_takeToken_213 (by decide) ?_
                  have he2 := Option.some.inj hf
                  exact W.vret hx hb hr (fun t ht hW => ⟨⟨(), rfl, trivial, s_fin (Wd := (s_WC cy ad)) ht he2 hP⟩, hS.F ht⟩) hS.2.2 dX4_takeToken_228 hlk
                · rw [if_neg c35] at hf
                  by_cases c38 : (σ 3 1) = 8
                  · rw [if_pos c38] at hf
                    refine lv_tableIn (off := 219) (tgt := 223) hx hb dX4_takeToken_4 (by rw [c38]; decide) (by rw [c38]; decide) (by rw [c38]; rfl) (by decide) ?_
                    refine lv_aload_n hx hb dX4_takeToken_223 rfl (lv_at hl 0 rfl) ?_
                    refine lv_iload_n hx hb dX4_takeToken_224 rfl (lv_at hl 1 rfl) ?_
                    replace hf := s_bv_some hf
                    obtain ⟨σ39, hz40, hf⟩ := hf
                    refine s_callv (nn := 1) C (kcX4_takeReadingOrMore (l := l) (G := G) (cy := cy) (sa := sa) hI (sz := H.size) σ x1 hz40) gk_X4_116 rfl rfl (by decide +kernel) ⟨Nat.le_of_ble_eq_true rfl, Nat.le_of_ble_eq_true rfl⟩ hP hS (q0 := 3) (ci := 4) rfl rfl rfl (As := [.int x1]) (rest := []) rfl rfl hl.1 (Nat.le_of_ble_eq_true rfl) dX4_takeToken_225 (fun H locs hP hS => ?_)
                    have he2 := Option.some.inj hf
                    exact W.vret hx hb hr (fun t ht hW => ⟨⟨(), rfl, trivial, s_fin (Wd := (s_WC cy ad)) ht he2 hP⟩, hS.F ht⟩) hS.2.2 dX4_takeToken_228 hlk
                  · rw [if_neg c38] at hf
                    by_cases c41 : (σ 3 1) = 9
                    · rw [if_pos c41] at hf
                      refine lv_tableIn (off := 212) (tgt := 216) hx hb dX4_takeToken_4 (by rw [c41]; decide) (by rw [c41]; decide) (by rw [c41]; rfl) (by decide) ?_
                      refine lv_aload_n hx hb dX4_takeToken_216 rfl (lv_at hl 0 rfl) ?_
                      replace hf := s_bv_some hf
                      obtain ⟨σ42, hz43, hf⟩ := hf
                      refine s_callv (nn := 0) C (kcX4_takeFraction (l := l) (G := G) (cy := cy) (sa := sa) hI (sz := H.size) σ hz43) gk_X4_113 rfl rfl (by decide +kernel) ⟨Nat.le_of_ble_eq_true rfl, Nat.le_of_ble_eq_true rfl⟩ hP hS (q0 := 3) (ci := 4) rfl rfl rfl (As := []) (rest := []) rfl rfl hl.1 (Nat.le_of_ble_eq_true rfl) dX4_takeToken_217 (fun H locs hP hS => ?_)
                      refine lv_goto (tgt := 228) hx hb dX4_takeToken_220 (by decide) ?_
                      have he2 := Option.some.inj hf
                      exact W.vret hx hb hr (fun t ht hW => ⟨⟨(), rfl, trivial, s_fin (Wd := (s_WC cy ad)) ht he2 hP⟩, hS.F ht⟩) hS.2.2 dX4_takeToken_228 hlk
                    · rw [if_neg c41] at hf
                      by_cases c44 : (σ 3 1) = 10
                      · rw [if_pos c44] at hf
                        refine lv_tableIn (off := 219) (tgt := 223) hx hb dX4_takeToken_4 (by rw [c44]; decide) (by rw [c44]; decide) (by rw [c44]; rfl) (by decide) ?_
                        refine lv_aload_n hx hb dX4_takeToken_223 rfl (lv_at hl 0 rfl) ?_
                        refine lv_iload_n hx hb dX4_takeToken_224 rfl (lv_at hl 1 rfl) ?_
                        replace hf := s_bv_some hf
                        obtain ⟨σ45, hz46, hf⟩ := hf
                        refine s_callv (nn := 1) C (kcX4_takeReadingOrMore (l := l) (G := G) (cy := cy) (sa := sa) hI (sz := H.size) σ x1 hz46) gk_X4_116 rfl rfl (by decide +kernel) ⟨Nat.le_of_ble_eq_true rfl, Nat.le_of_ble_eq_true rfl⟩ hP hS (q0 := 3) (ci := 4) rfl rfl rfl (As := [.int x1]) (rest := []) rfl rfl hl.1 (Nat.le_of_ble_eq_true rfl) dX4_takeToken_225 (fun H locs hP hS => ?_)
                        have he2 := Option.some.inj hf
                        exact W.vret hx hb hr (fun t ht hW => ⟨⟨(), rfl, trivial, s_fin (Wd := (s_WC cy ad)) ht he2 hP⟩, hS.F ht⟩) hS.2.2 dX4_takeToken_228 hlk
                      · rw [if_neg c44] at hf
                        by_cases c47 : (σ 3 1) = 11
                        · rw [if_pos c47] at hf
                          refine lv_tableIn (off := 197) (tgt := 201) hx hb dX4_takeToken_4 (by rw [c47]; decide) (by rw [c47]; decide) (by rw [c47]; rfl) (by decide) ?_
                          refine lv_aload_n hx hb dX4_takeToken_201 rfl (lv_at hl 0 rfl) ?_
                          refine lv_iload_n hx hb dX4_takeToken_202 rfl (lv_at hl 1 rfl) ?_
                          replace hf := s_bv_some hf
                          obtain ⟨σ48, hz49, hf⟩ := hf
                          refine s_callv (nn := 1) C (kcX4_takeLineEnd (l := l) (G := G) (cy := cy) (sa := sa) hI (sz := H.size) σ x1 hz49) gk_X4_107 rfl rfl (by decide +kernel) ⟨Nat.le_of_ble_eq_true rfl, Nat.le_of_ble_eq_true rfl⟩ hP hS (q0 := 3) (ci := 4) rfl rfl rfl (As := [.int x1]) (rest := []) rfl rfl hl.1 (Nat.le_of_ble_eq_true rfl) dX4_takeToken_203 (fun H locs hP hS => ?_)
                          refine lv_goto (tgt := 228) hx hb dX4_takeToken_206 (by decide) ?_
                          have he2 := Option.some.inj hf
                          exact W.vret hx hb hr (fun t ht hW => ⟨⟨(), rfl, trivial, s_fin (Wd := (s_WC cy ad)) ht he2 hP⟩, hS.F ht⟩) hS.2.2 dX4_takeToken_228 hlk
                        · rw [if_neg c47] at hf
                          by_cases c50 : (σ 3 1) = 12
                          · rw [if_pos c50] at hf
                            refine lv_tableIn (off := 68) (tgt := 72) hx hb dX4_takeToken_4 (by rw [c50]; decide) (by rw [c50]; decide) (by rw [c50]; rfl) (by decide) ?_
                            refine lv_aload_n hx hb dX4_takeToken_72 rfl (lv_at hl 0 rfl) ?_
                            replace hf := s_bv_some hf
                            obtain ⟨σ51, hz52, hf⟩ := hf
                            refine s_callv (nn := 0) C (kcX4_takeLineName (l := l) (G := G) (cy := cy) (sa := sa) hI (sz := H.size) σ hz52) gk_X4_73 rfl rfl (by decide +kernel) ⟨Nat.le_of_ble_eq_true rfl, Nat.le_of_ble_eq_true rfl⟩ hP hS (q0 := 3) (ci := 4) rfl rfl rfl (As := []) (rest := []) rfl rfl hl.1 (Nat.le_of_ble_eq_true rfl) dX4_takeToken_73 (fun H locs hP hS => ?_)
                            refine lv_goto (tgt := 228) hx hb dX4_takeToken_76 (by decide) ?_
                            have he2 := Option.some.inj hf
                            exact W.vret hx hb hr (fun t ht hW => ⟨⟨(), rfl, trivial, s_fin (Wd := (s_WC cy ad)) ht he2 hP⟩, hS.F ht⟩) hS.2.2 dX4_takeToken_228 hlk
                          · rw [if_neg c50] at hf
                            have qc1 := lv_neT c1 (a := 0) (by decide)
                            have qc6 := lv_neT c6 (a := 1) (by decide)
                            have qc11 := lv_neT c11 (a := 2) (by decide)
                            have qc16 := lv_neT c16 (a := 3) (by decide)
                            have qc21 := lv_neT c21 (a := 4) (by decide)
                            have qc26 := lv_neT c26 (a := 5) (by decide)
                            have qc29 := lv_neT c29 (a := 6) (by decide)
                            have qc35 := lv_neT c35 (a := 7) (by decide)
                            have qc38 := lv_neT c38 (a := 8) (by decide)
                            have qc41 := lv_neT c41 (a := 9) (by decide)
                            have qc44 := lv_neT c44 (a := 10) (by decide)
                            have qc47 := lv_neT c47 (a := 11) (by decide)
                            have qc50 := lv_neT c50 (a := 12) (by decide)
                            refine lv_tableOut (tgt := 223) hx hb dX4_takeToken_4 (by omega) (by decide) ?_
                            refine lv_aload_n hx hb dX4_takeToken_223 rfl (lv_at hl 0 rfl) ?_
                            refine lv_iload_n hx hb dX4_takeToken_224 rfl (lv_at hl 1 rfl) ?_
                            replace hf := s_bv_some hf
                            obtain ⟨σ53, hz54, hf⟩ := hf
                            refine s_callv (nn := 1) C (kcX4_takeReadingOrMore (l := l) (G := G) (cy := cy) (sa := sa) hI (sz := H.size) σ x1 hz54) gk_X4_116 rfl rfl (by decide +kernel) ⟨Nat.le_of_ble_eq_true rfl, Nat.le_of_ble_eq_true rfl⟩ hP hS (q0 := 3) (ci := 4) rfl rfl rfl (As := [.int x1]) (rest := []) rfl rfl hl.1 (Nat.le_of_ble_eq_true rfl) dX4_takeToken_225 (fun H locs hP hS => ?_)
                            have he2 := Option.some.inj hf
                            exact W.vret hx hb hr (fun t ht hW => ⟨⟨(), rfl, trivial, s_fin (Wd := (s_WC cy ad)) ht he2 hP⟩, hS.F ht⟩) hS.2.2 dX4_takeToken_228 hlk
theorem kcX4_takeToken {l : Launch} {G : va_G} {cy : Nat → ClassId} {sa : Nat × Nat} {ad : Nat → Nat}  {sz : Nat} (hI : s_inj ad 27) (σ : Sg) (x1 : Int32) {σe : Sg} (hf : fX4_takeToken σ x1 = some σe) : Met l yX4_takeToken (kW yX4_takeToken cX4_takeToken 2 none) ({ frames := 4, cells := 0, slots := 0, locals := 86 } : Room) (s_P (s_WC cy ad) G cy sa ad 27 [.ref (ad 3), .int x1] sz σ) (s_Qv (s_WC cy ad) G (s_A ad 27 sz) σe) 0 0 (s_A ad 27 sz) := by
  refine s_met (own := RX4) (by decide) rfl hI (Nat.le_of_ble_eq_true rfl) (fun p e s m below meth c ls hsz C hP hl => ?_)
  subst hsz
  exact kX4_takeToken C σ x1 ls _ _ hl hP va_S.rf hf
set_option maxRecDepth 100000 in
set_option maxHeartbeats 4000000 in
theorem kX4_tell_b112 (C : s_X p s m meth c args cX4_tell (some .boolean) 3 RX4 G cy sa ad 27) (σ : Sg) (ls : Array Slot) (H : Heap) (locs : List Loc) (hl : lv_has ls 3 [(0, .ref (ad 3))]) (hP : va_P G vwCl ((s_WC cy ad) σ) H) (hS : va_S (s_A ad 27 s.heap.size) s.heap H locs) (hf : fX4_tell_b112 σ = some (re, σe)) : W p l e ({ frames := 7, cells := 0, slots := 0, locals := 154 } : Room) s m args below meth c H locs 0 0 (MQ below (s_Qi (s_WC cy ad) G (s_A ad 27 s.heap.size) re σe) args s 0 0 (s_A ad 27 s.heap.size)) (F0 m 112 ls []) := by
  obtain ⟨hx, hb, hr, hml, hown, hts, hlk, hK, hE, hI⟩ := id C
  have hD : ∀ σ : Sg, va_D (s_A ad 27 s.heap.size) ((s_WC cy ad) σ) := fun σ => s_D (s_WC_ad cy ad σ) hI (fun k hk => Or.inl ⟨k, hk, rfl⟩)
  unfold fX4_tell_b112 at hf
  refine lv_aload_n hx hb dX4_tell_112 rfl (lv_at hl 0 rfl) ?_
  refine va_get (D := G) (ci := 4) (v := .int (σ 3 10)) (C := RX4) (T := TX4) (N := 12) hx hb hts inkX4 hown hK hP 3 rfl rfl 10 (by decide) (hts _ kw_167) (fun _ h9 => h9) rfl dX4_tell_113 ?_
  refine lv_if_ne (tgt := 123) hx hb dX4_tell_116 (by decide) (fun c1 => ?_) (fun c1 => ?_)
  · rw [if_neg c1] at hf
    refine lv_iconst (v := 0) hx hb dX4_tell_123 (by decide) ?_
    obtain ⟨he1, he2⟩ := s_ret hf
    exact W.zret hx hb hr rfl (fun t ht hW => ⟨⟨_, (), rfl, he1, s_fin (Wd := (s_WC cy ad)) ht he2 hP⟩, hS.F ht⟩) hS.2.2 dX4_tell_124 hlk
  · rw [if_pos c1] at hf
    refine lv_iconst (v := 1) hx hb dX4_tell_119 (by decide) ?_
    refine lv_goto (tgt := 124) hx hb dX4_tell_120 (by decide) ?_
    obtain ⟨he1, he2⟩ := s_ret hf
    exact W.zret hx hb hr rfl (fun t ht hW => ⟨⟨_, (), rfl, he1, s_fin (Wd := (s_WC cy ad)) ht he2 hP⟩, hS.F ht⟩) hS.2.2 dX4_tell_124 hlk
set_option maxRecDepth 100000 in
set_option maxHeartbeats 4000000 in
theorem kX4_tell_b91 (C : s_X p s m meth c args cX4_tell (some .boolean) 3 RX4 G cy sa ad 27) (σ : Sg) (ls : Array Slot) (H : Heap) (locs : List Loc) (hl : lv_has ls 3 [(0, .ref (ad 3))]) (hP : va_P G vwCl ((s_WC cy ad) σ) H) (hS : va_S (s_A ad 27 s.heap.size) s.heap H locs) (hf : fX4_tell_b91 σ = some (re, σe)) : W p l e ({ frames := 7, cells := 0, slots := 0, locals := 154 } : Room) s m args below meth c H locs 0 0 (MQ below (s_Qi (s_WC cy ad) G (s_A ad 27 s.heap.size) re σe) args s 0 0 (s_A ad 27 s.heap.size)) (F0 m 91 ls []) := by
  obtain ⟨hx, hb, hr, hml, hown, hts, hlk, hK, hE, hI⟩ := id C
  have hD : ∀ σ : Sg, va_D (s_A ad 27 s.heap.size) ((s_WC cy ad) σ) := fun σ => s_D (s_WC_ad cy ad σ) hI (fun k hk => Or.inl ⟨k, hk, rfl⟩)
  unfold fX4_tell_b91 at hf
  refine lv_aload_n hx hb dX4_tell_91 rfl (lv_at hl 0 rfl) ?_
  refine va_get (D := G) (ci := 4) (v := .int (σ 3 10)) (C := RX4) (T := TX4) (N := 12) hx hb hts inkX4 hown hK hP 3 rfl rfl 10 (by decide) (hts _ kw_167) (fun _ h9 => h9) rfl dX4_tell_92 ?_
  refine lv_if_ne (tgt := 112) hx hb dX4_tell_95 (by decide) (fun c1 => ?_) (fun c1 => ?_)
  · rw [if_neg c1] at hf
    exact kX4_tell_b112 C σ _ _ _ (lv_sub hl [0] rfl) hP hS hf
  · rw [if_pos c1] at hf
    refine lv_aload_n hx hb dX4_tell_98 rfl (lv_at hl 0 rfl) ?_
    refine va_get (D := G) (ci := 4) (v := .int (σ 3 1)) (C := RX4) (T := TX4) (N := 12) hx hb hts inkX4 hown hK hP 3 rfl rfl 1 (by decide) (hts _ kw_158) (fun _ h9 => h9) rfl dX4_tell_99 ?_
    refine lv_bipush (v := 12) hx hb dX4_tell_102 (by decide) ?_
    refine lv_icmp_eq (tgt := 112) hx hb dX4_tell_104 (by decide) (fun c2 => ?_) (fun c2 => ?_)
    · rw [if_pos c2] at hf
      exact kX4_tell_b112 C σ _ _ _ (lv_sub hl [0] rfl) hP hS hf
    · rw [if_neg c2] at hf
      refine lv_aload_n hx hb dX4_tell_107 rfl (lv_at hl 0 rfl) ?_
      refine lv_iconst (v := 2) hx hb dX4_tell_108 (by decide) ?_
      replace hf := s_bv_some hf
      obtain ⟨σ3, hz4, hf⟩ := hf
      refine s_callv (nn := 1) C (kcX4_refuse (l := l) (G := G) (cy := cy) (sa := sa) hI (sz := H.size) σ (2 : Int32) hz4) gk_X4_70 rfl rfl (by decide +kernel) ⟨Nat.le_of_ble_eq_true rfl, Nat.le_of_ble_eq_true rfl⟩ hP hS (q0 := 3) (ci := 4) rfl rfl rfl (As := [.int (2 : Int32)]) (rest := []) rfl rfl hl.1 (Nat.le_of_ble_eq_true rfl) dX4_tell_109 (fun H locs hP hS => ?_)
      exact kX4_tell_b112 C σ3 _ _ _ (lv_sub hl [0] rfl) hP hS hf
set_option maxRecDepth 100000 in
set_option maxHeartbeats 4000000 in
theorem kX4_tell_b85 (C : s_X p s m meth c args cX4_tell (some .boolean) 3 RX4 G cy sa ad 27) (k40 : Sg → Int32 → Option (Int32 × Sg)) (hk40 : ∀ (σ : Sg) (x2 : Int32) (ls : Array Slot) (H : Heap) (locs : List Loc), lv_has ls 3 [(0, .ref (ad 3)), (1, .ref (ad 1)), (2, .int x2)] → va_P G vwCl ((s_WC cy ad) σ) H → va_S (s_A ad 27 s.heap.size) s.heap H locs → k40 σ x2 = some (re, σe) → W p l e ({ frames := 7, cells := 0, slots := 0, locals := 154 } : Room) s m args below meth c H locs 0 0 (MQ below (s_Qi (s_WC cy ad) G (s_A ad 27 s.heap.size) re σe) args s 0 0 (s_A ad 27 s.heap.size)) (F0 m 40 ls [])) (σ : Sg) (x2 : Int32) (ls : Array Slot) (H : Heap) (locs : List Loc) (hl : lv_has ls 3 [(0, .ref (ad 3)), (1, .ref (ad 1)), (2, .int x2)]) (hP : va_P G vwCl ((s_WC cy ad) σ) H) (hS : va_S (s_A ad 27 s.heap.size) s.heap H locs) (hf : fX4_tell_b85 k40 σ x2 = some (re, σe)) : W p l e ({ frames := 7, cells := 0, slots := 0, locals := 154 } : Room) s m args below meth c H locs 0 0 (MQ below (s_Qi (s_WC cy ad) G (s_A ad 27 s.heap.size) re σe) args s 0 0 (s_A ad 27 s.heap.size)) (F0 m 85 ls []) := by
  obtain ⟨hx, hb, hr, hml, hown, hts, hlk, hK, hE, hI⟩ := id C
  have hD : ∀ σ : Sg, va_D (s_A ad 27 s.heap.size) ((s_WC cy ad) σ) := fun σ => s_D (s_WC_ad cy ad σ) hI (fun k hk => Or.inl ⟨k, hk, rfl⟩)
  unfold fX4_tell_b85 at hf
  obtain ⟨t1, et1⟩ : ∃ z : Int32, z = (x2 + 1) := ⟨_, rfl⟩
  replace hf := s_lt_at et1 hf
  refine lv_iinc (v := t1) (lv' := [(2, .int t1), (0, .ref (ad 3)), (1, .ref (ad 1))]) hx hb dX4_tell_85 hl (k := 2) rfl (by rw [et1]; rfl) (by decide) rfl (fun ls hl => ?_)
  refine lv_goto (tgt := 40) hx hb dX4_tell_88 (by decide) ?_
  exact hk40 σ t1 _ _ _ (lv_sub hl [1, 2, 0] rfl) hP hS hf
set_option maxRecDepth 100000 in
set_option maxHeartbeats 4000000 in
theorem kX4_tell_b40 (C : s_X p s m meth c args cX4_tell (some .boolean) 3 RX4 G cy sa ad 27) (k40 : Sg → Int32 → Option (Int32 × Sg)) (hk40 : ∀ (σ : Sg) (x2 : Int32) (ls : Array Slot) (H : Heap) (locs : List Loc), lv_has ls 3 [(0, .ref (ad 3)), (1, .ref (ad 1)), (2, .int x2)] → va_P G vwCl ((s_WC cy ad) σ) H → va_S (s_A ad 27 s.heap.size) s.heap H locs → k40 σ x2 = some (re, σe) → W p l e ({ frames := 7, cells := 0, slots := 0, locals := 154 } : Room) s m args below meth c H locs 0 0 (MQ below (s_Qi (s_WC cy ad) G (s_A ad 27 s.heap.size) re σe) args s 0 0 (s_A ad 27 s.heap.size)) (F0 m 40 ls [])) (σ : Sg) (x2 : Int32) (ls : Array Slot) (H : Heap) (locs : List Loc) (hl : lv_has ls 3 [(0, .ref (ad 3)), (1, .ref (ad 1)), (2, .int x2)]) (hP : va_P G vwCl ((s_WC cy ad) σ) H) (hS : va_S (s_A ad 27 s.heap.size) s.heap H locs) (hf : fX4_tell_b40 k40 σ x2 = some (re, σe)) : W p l e ({ frames := 7, cells := 0, slots := 0, locals := 154 } : Room) s m args below meth c H locs 0 0 (MQ below (s_Qi (s_WC cy ad) G (s_A ad 27 s.heap.size) re σe) args s 0 0 (s_A ad 27 s.heap.size)) (F0 m 40 ls []) := by
  obtain ⟨hx, hb, hr, hml, hown, hts, hlk, hK, hE, hI⟩ := id C
  have hD : ∀ σ : Sg, va_D (s_A ad 27 s.heap.size) ((s_WC cy ad) σ) := fun σ => s_D (s_WC_ad cy ad σ) hI (fun k hk => Or.inl ⟨k, hk, rfl⟩)
  unfold fX4_tell_b40 at hf
  refine lv_iload_n hx hb dX4_tell_40 rfl (lv_at hl 2 rfl) ?_
  refine lv_sipush (v := 320) hx hb dX4_tell_41 (by decide) ?_
  refine lv_icmp_ge (tgt := 91) hx hb dX4_tell_44 (by decide) (fun c1 => ?_) (fun c1 => ?_)
  · rw [if_pos c1] at hf
    exact kX4_tell_b91 C σ _ _ _ (lv_sub hl [0] rfl) hP hS hf
  · rw [if_neg c1] at hf
    refine lv_aload_n hx hb dX4_tell_47 rfl (lv_at hl 0 rfl) ?_
    refine va_get (D := G) (ci := 4) (v := .int (σ 3 10)) (C := RX4) (T := TX4) (N := 12) hx hb hts inkX4 hown hK hP 3 rfl rfl 10 (by decide) (hts _ kw_167) (fun _ h9 => h9) rfl dX4_tell_48 ?_
    refine lv_if_ne (tgt := 91) hx hb dX4_tell_51 (by decide) (fun c2 => ?_) (fun c2 => ?_)
    · rw [if_neg c2] at hf
      exact kX4_tell_b91 C σ _ _ _ (lv_sub hl [0] rfl) hP hS hf
    · rw [if_pos c2] at hf
      refine lv_aload_n hx hb dX4_tell_54 rfl (lv_at hl 0 rfl) ?_
      refine va_get (D := G) (ci := 4) (v := .int (σ 3 5)) (C := RX4) (T := TX4) (N := 12) hx hb hts inkX4 hown hK hP 3 rfl rfl 5 (by decide) (hts _ kw_162) (fun _ h9 => h9) rfl dX4_tell_55 ?_
      refine lv_if_eq (tgt := 91) hx hb dX4_tell_58 (by decide) (fun c3 => ?_) (fun c3 => ?_)
      · rw [if_pos c3] at hf
        exact kX4_tell_b91 C σ _ _ _ (lv_sub hl [0] rfl) hP hS hf
      · rw [if_neg c3] at hf
        refine lv_aload_n hx hb dX4_tell_61 rfl (lv_at hl 0 rfl) ?_
        refine lv_aload_n hx hb dX4_tell_62 rfl (lv_at hl 1 rfl) ?_
        refine lv_aload_n hx hb dX4_tell_63 rfl (lv_at hl 0 rfl) ?_
        refine va_get (D := G) (ci := 4) (v := .int (σ 3 6)) (C := RX4) (T := TX4) (N := 12) hx hb hts inkX4 hown hK hP 3 rfl rfl 6 (by decide) (hts _ kw_163) (fun _ h9 => h9) rfl dX4_tell_64 ?_
        replace hf := s_bi_some hf
        obtain ⟨r6, σ4, hz5, hf⟩ := hf
        refine s_calli (nn := 1) C (kcX3_byteAt (l := l) (G := G) (cy := cy) (sa := sa) hI (sz := H.size) σ (σ 3 6) hz5) gk_X4_60 rfl rfl (by decide +kernel) ⟨Nat.le_of_ble_eq_true rfl, Nat.le_of_ble_eq_true rfl⟩ hP hS (q0 := 1) (ci := 3) rfl rfl rfl (As := [.int (σ 3 6)]) (rest := [.ref (ad 3)]) rfl rfl hl.1 (Nat.le_of_ble_eq_true rfl) dX4_tell_67 (fun H locs hP hS => ?_)
        replace hf := s_bv_some hf
        obtain ⟨σ7, hz8, hf⟩ := hf
        refine s_callv (nn := 1) C (kcX4_takeToken (l := l) (G := G) (cy := cy) (sa := sa) hI (sz := H.size) σ4 r6 hz8) gk_X4_66 rfl rfl (by decide +kernel) ⟨Nat.le_of_ble_eq_true rfl, Nat.le_of_ble_eq_true rfl⟩ hP hS (q0 := 3) (ci := 4) rfl rfl rfl (As := [.int r6]) (rest := []) rfl rfl hl.1 (Nat.le_of_ble_eq_true rfl) dX4_tell_70 (fun H locs hP hS => ?_)
        refine lv_aload_n hx hb dX4_tell_73 rfl (lv_at hl 0 rfl) ?_
        refine va_get (D := G) (ci := 4) (v := .int (σ7 3 10)) (C := RX4) (T := TX4) (N := 12) hx hb hts inkX4 hown hK hP 3 rfl rfl 10 (by decide) (hts _ kw_167) (fun _ h9 => h9) rfl dX4_tell_74 ?_
        refine lv_if_ne (tgt := 85) hx hb dX4_tell_77 (by decide) (fun c9 => ?_) (fun c9 => ?_)
        · rw [if_neg c9] at hf
          exact kX4_tell_b85 C k40 hk40 σ7 x2 _ _ _ (lv_sub hl [0, 1, 2] rfl) hP hS hf
        · rw [if_pos c9] at hf
          refine lv_aload_n hx hb dX4_tell_80 rfl (lv_at hl 0 rfl) ?_
          refine lv_aload_n hx hb dX4_tell_81 rfl (lv_at hl 1 rfl) ?_
          replace hf := s_bv_some hf
          obtain ⟨σ10, hz11, hf⟩ := hf
          refine s_callv (nn := 1) C (kcX4_scan (l := l) (G := G) (cy := cy) (sa := sa) hI (sz := H.size) σ7 hz11) gk_X4_56 rfl rfl (by decide +kernel) ⟨Nat.le_of_ble_eq_true rfl, Nat.le_of_ble_eq_true rfl⟩ hP hS (q0 := 3) (ci := 4) rfl rfl rfl (As := [.ref (ad 1)]) (rest := []) rfl rfl hl.1 (Nat.le_of_ble_eq_true rfl) dX4_tell_82 (fun H locs hP hS => ?_)
          exact kX4_tell_b85 C k40 hk40 σ10 x2 _ _ _ (lv_sub hl [0, 1, 2] rfl) hP hS hf
set_option maxRecDepth 100000 in
set_option maxHeartbeats 4000000 in
theorem kX4_tell_b40_L (C : s_X p s m meth c args cX4_tell (some .boolean) 3 RX4 G cy sa ad 27) : ∀ (n : Nat), ∀ (σ : Sg) (x2 : Int32) (ls : Array Slot) (H : Heap) (locs : List Loc), lv_has ls 3 [(0, .ref (ad 3)), (1, .ref (ad 1)), (2, .int x2)] → va_P G vwCl ((s_WC cy ad) σ) H → va_S (s_A ad 27 s.heap.size) s.heap H locs → fX4_tell_b40_L n σ x2 = some (re, σe) → W p l e ({ frames := 7, cells := 0, slots := 0, locals := 154 } : Room) s m args below meth c H locs 0 0 (MQ below (s_Qi (s_WC cy ad) G (s_A ad 27 s.heap.size) re σe) args s 0 0 (s_A ad 27 s.heap.size)) (F0 m 40 ls []) := by
  intro n
  induction n with
  | zero => intro σ x2 ls H locs hl hP hS hf; exact absurd (show (none : Option (Int32 × Sg)) = some (re, σe) from hf) (by intro h; cases h)
  | succ n ih => intro σ x2 ls H locs hl hP hS hf; exact kX4_tell_b40 C (fX4_tell_b40_L n) ih σ x2 ls H locs hl hP hS hf
set_option maxRecDepth 100000 in
set_option maxHeartbeats 4000000 in
theorem kX4_tell (C : s_X p s m meth c args cX4_tell (some .boolean) 3 RX4 G cy sa ad 27) (σ : Sg) (ls : Array Slot) (H : Heap) (locs : List Loc) (hl : lv_has ls 3 [(0, .ref (ad 3)), (1, .ref (ad 1))]) (hP : va_P G vwCl ((s_WC cy ad) σ) H) (hS : va_S (s_A ad 27 s.heap.size) s.heap H locs) (hf : fX4_tell σ = some (re, σe)) : W p l e ({ frames := 7, cells := 0, slots := 0, locals := 154 } : Room) s m args below meth c H locs 0 0 (MQ below (s_Qi (s_WC cy ad) G (s_A ad 27 s.heap.size) re σe) args s 0 0 (s_A ad 27 s.heap.size)) (F0 m 0 ls []) := by
  obtain ⟨hx, hb, hr, hml, hown, hts, hlk, hK, hE, hI⟩ := id C
  have hD : ∀ σ : Sg, va_D (s_A ad 27 s.heap.size) ((s_WC cy ad) σ) := fun σ => s_D (s_WC_ad cy ad σ) hI (fun k hk => Or.inl ⟨k, hk, rfl⟩)
  unfold fX4_tell at hf
  refine lv_aload_n hx hb dX4_tell_0 rfl (lv_at hl 0 rfl) ?_
  refine va_get (D := G) (ci := 4) (v := .ref (ad 4)) (C := RX4) (T := TX4) (N := 12) hx hb hts inkX4 hown hK hP 3 rfl rfl 0 (by decide) (hts _ kw_156) (fun _ h9 => h9) rfl dX4_tell_1 ?_
  replace hf := s_bv_some hf
  obtain ⟨σ1, hz2, hf⟩ := hf
  refine s_callv (nn := 0) C (kcX1_reset_4 (l := l) (G := G) (cy := cy) (sa := sa) hI (sz := H.size) σ hz2) gk_X4_53 rfl rfl (by decide +kernel) ⟨Nat.le_of_ble_eq_true rfl, Nat.le_of_ble_eq_true rfl⟩ hP hS (q0 := 4) (ci := 1) rfl rfl rfl (As := []) (rest := []) rfl rfl hl.1 (Nat.le_of_ble_eq_true rfl) dX4_tell_4 (fun H locs hP hS => ?_)
  refine lv_aload_n hx hb dX4_tell_7 rfl (lv_at hl 0 rfl) ?_
  refine lv_bipush (v := 12) hx hb dX4_tell_8 (by decide) ?_
  refine va_put (D := G) (ci := 4) (v := .int (12 : Int32)) (ty := .int) (C := RX4) (T := TX4) (N := 12) hx hb hts inkX4 tyX4 tyX4_ok nmX4 hown hK hP (hD _) hS 3 rfl rfl 1 (by decide) (hts _ kw_158) (fun _ h9 => h9) rfl (by decide +kernel) rfl rfl (Nat.le_of_ble_eq_true rfl) dX4_tell_10 (fun H locs hP _ hS => ?_)
  obtain ⟨σ3, eσ3⟩ : ∃ z : Sg, z = (s_up σ1 3 1 (12 : Int32)) := ⟨_, rfl⟩
  replace hf := s_lt_at eσ3 hf
  replace hP : va_P G vwCl ((s_WC cy ad) σ3) H := by rw [eσ3]; exact hP
  refine lv_aload_n hx hb dX4_tell_13 rfl (lv_at hl 0 rfl) ?_
  refine lv_iconst (v := 0) hx hb dX4_tell_14 (by decide) ?_
  refine va_put (D := G) (ci := 4) (v := .int (0 : Int32)) (ty := .int) (C := RX4) (T := TX4) (N := 12) hx hb hts inkX4 tyX4 tyX4_ok nmX4 hown hK hP (hD _) hS 3 rfl rfl 2 (by decide) (hts _ kw_159) (fun _ h9 => h9) rfl (by decide +kernel) rfl rfl (Nat.le_of_ble_eq_true rfl) dX4_tell_15 (fun H locs hP _ hS => ?_)
  obtain ⟨σ4, eσ4⟩ : ∃ z : Sg, z = (s_up σ3 3 2 (0 : Int32)) := ⟨_, rfl⟩
  replace hf := s_lt_at eσ4 hf
  replace hP : va_P G vwCl ((s_WC cy ad) σ4) H := by rw [eσ4]; exact hP
  refine lv_aload_n hx hb dX4_tell_18 rfl (lv_at hl 0 rfl) ?_
  refine lv_iconst (v := 0) hx hb dX4_tell_19 (by decide) ?_
  refine va_put (D := G) (ci := 4) (v := .int (0 : Int32)) (ty := .int) (C := RX4) (T := TX4) (N := 12) hx hb hts inkX4 tyX4 tyX4_ok nmX4 hown hK hP (hD _) hS 3 rfl rfl 7 (by decide) (hts _ kw_164) (fun _ h9 => h9) rfl (by decide +kernel) rfl rfl (Nat.le_of_ble_eq_true rfl) dX4_tell_20 (fun H locs hP _ hS => ?_)
  obtain ⟨σ5, eσ5⟩ : ∃ z : Sg, z = (s_up σ4 3 7 (0 : Int32)) := ⟨_, rfl⟩
  replace hf := s_lt_at eσ5 hf
  replace hP : va_P G vwCl ((s_WC cy ad) σ5) H := by rw [eσ5]; exact hP
  refine lv_aload_n hx hb dX4_tell_23 rfl (lv_at hl 0 rfl) ?_
  refine lv_iconst (v := 0) hx hb dX4_tell_24 (by decide) ?_
  refine va_put (D := G) (ci := 4) (v := .int (0 : Int32)) (ty := .int) (C := RX4) (T := TX4) (N := 12) hx hb hts inkX4 tyX4 tyX4_ok nmX4 hown hK hP (hD _) hS 3 rfl rfl 10 (by decide) (hts _ kw_167) (fun _ h9 => h9) rfl (by decide +kernel) rfl rfl (Nat.le_of_ble_eq_true rfl) dX4_tell_25 (fun H locs hP _ hS => ?_)
  obtain ⟨σ6, eσ6⟩ : ∃ z : Sg, z = (s_up σ5 3 10 (0 : Int32)) := ⟨_, rfl⟩
  replace hf := s_lt_at eσ6 hf
  replace hP : va_P G vwCl ((s_WC cy ad) σ6) H := by rw [eσ6]; exact hP
  refine lv_aload_n hx hb dX4_tell_28 rfl (lv_at hl 0 rfl) ?_
  refine lv_iconst (v := 0) hx hb dX4_tell_29 (by decide) ?_
  refine va_put (D := G) (ci := 4) (v := .int (0 : Int32)) (ty := .int) (C := RX4) (T := TX4) (N := 12) hx hb hts inkX4 tyX4 tyX4_ok nmX4 hown hK hP (hD _) hS 3 rfl rfl 11 (by decide) (hts _ kw_169) (fun _ h9 => h9) rfl (by decide +kernel) rfl rfl (Nat.le_of_ble_eq_true rfl) dX4_tell_30 (fun H locs hP _ hS => ?_)
  obtain ⟨σ7, eσ7⟩ : ∃ z : Sg, z = (s_up σ6 3 11 (0 : Int32)) := ⟨_, rfl⟩
  replace hf := s_lt_at eσ7 hf
  replace hP : va_P G vwCl ((s_WC cy ad) σ7) H := by rw [eσ7]; exact hP
  refine lv_aload_n hx hb dX4_tell_33 rfl (lv_at hl 0 rfl) ?_
  refine lv_aload_n hx hb dX4_tell_34 rfl (lv_at hl 1 rfl) ?_
  replace hf := s_bv_some hf
  obtain ⟨σ8, hz9, hf⟩ := hf
  refine s_callv (nn := 1) C (kcX4_scan (l := l) (G := G) (cy := cy) (sa := sa) hI (sz := H.size) σ7 hz9) gk_X4_56 rfl rfl (by decide +kernel) ⟨Nat.le_of_ble_eq_true rfl, Nat.le_of_ble_eq_true rfl⟩ hP hS (q0 := 3) (ci := 4) rfl rfl rfl (As := [.ref (ad 1)]) (rest := []) rfl rfl hl.1 (Nat.le_of_ble_eq_true rfl) dX4_tell_35 (fun H locs hP hS => ?_)
  refine lv_iconst (v := 0) hx hb dX4_tell_38 (by decide) ?_
  refine lv_istore_n (lv' := [(2, .int (0 : Int32)), (0, .ref (ad 3)), (1, .ref (ad 1))]) hx hb dX4_tell_39 rfl hl (by decide) rfl (fun ls hl => ?_)
  exact kX4_tell_b40_L C s_fu σ8 (0 : Int32) _ _ _ (lv_sub hl [1, 2, 0] rfl) hP hS hf
theorem kcX4_tell {l : Launch} {G : va_G} {cy : Nat → ClassId} {sa : Nat × Nat} {ad : Nat → Nat}  {sz : Nat} (hI : s_inj ad 27) (σ : Sg) {re : Int32} {σe : Sg} (hf : fX4_tell σ = some (re, σe)) : Met l yX4_tell (kW yX4_tell cX4_tell 3 (some .boolean)) ({ frames := 7, cells := 0, slots := 0, locals := 154 } : Room) (s_P (s_WC cy ad) G cy sa ad 27 [.ref (ad 3), .ref (ad 1)] sz σ) (s_Qi (s_WC cy ad) G (s_A ad 27 sz) re σe) 0 0 (s_A ad 27 sz) := by
  refine s_met (own := RX4) (by decide) rfl hI (Nat.le_of_ble_eq_true rfl) (fun p e s m below meth c ls hsz C hP hl => ?_)
  subst hsz
  exact kX4_tell C σ ls _ _ hl hP va_S.rf hf
end
