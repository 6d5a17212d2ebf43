section
variable {p : Program} {l : Launch} {e : Env} {s : State} {m : MethodId} {below : List Frame} {meth : Method} {c : Code} {G : va_G} {cy : Nat → ClassId} {sa : Nat × Nat} {b L cells slots aC aM : Nat} {xs : Nat → Int32} {Q : State → Prop} {Rel : Sg → Sg → Prop} {x3 : Int32}
set_option maxRecDepth 100000 in
set_option maxHeartbeats 4000000 in
theorem lw_op_feed (hx : p.tables.exec = Jvm.exec) (hb : c.code = code) (hml : c.maxLocals = 4) (hown : s.vm.findClass RL = some m.cls) (hts : ∀ w ∈ kwL, w.before #[Value.ref b] s = true) (hK : va_K G vwCl (s_ty cy) s) (hE : s_E sa (fun q : Nat => s.heap.size ≤ q) s s.heap) (hX : va_X b L xs s s.heap) (hbl : b < s.heap.size) (hcs1 : cells ≤ room_1.cells ∧ slots ≤ room_1.slots) (hi : ∀ k : Int32, k = 1 ∨ k = 2 ∨ k = 3 ∨ k = 4 → vp_in (x3 + k) L) (hop : s_pure_feed Rel) {H : Heap} {locs : List Loc} (hLS : s_LS Rel G cy (fun q : Nat => s.heap.size ≤ q) H aC aM) (hS : va_S (fun q : Nat => s.heap.size ≤ q) s.heap H locs) {ls : Array Slot} (hl : lv_has ls 4 [(0, .ref b), (1, .ref aC), (2, .ref aM), (3, .int x3)]) (hnext : ∀ (H : Heap) (locs : List Loc), s_LS Rel G cy (fun q : Nat => s.heap.size ≤ q) H aC aM → va_S (fun q : Nat => s.heap.size ≤ q) s.heap H locs → W p l e room_1 s m #[Value.ref b] below meth c H locs cells slots Q (F0 m 1116 ls [])) : W p l e room_1 s m #[Value.ref b] below meth c H locs cells slots Q (F0 m 184 ls []) := by
  have hbA : ¬ (fun q : Nat => s.heap.size ≤ q) b := Nat.not_le.mpr hbl
  obtain ⟨adC, adM, σC, σM, e1, e2, hR, hP, hD⟩ := hLS
  subst e1
  subst e2
  obtain ⟨r, σC1, σM1, hz1, hz2, hR1⟩ := hop σC σM hR (xs (Int32.toNatClampNeg (x3 + 1)))
  refine lv_aload_n hx hb dL_law_184 rfl (lv_at hl 1 rfl) ?_
  refine lv_aload_n hx hb dL_law_185 rfl (lv_at hl 0 rfl) ?_
  refine lv_iload_n hx hb dL_law_186 rfl (lv_at hl 3 rfl) ?_
  refine lv_iconst (v := 1) hx hb dL_law_187 (by decide) ?_
  refine lv_iadd hx hb dL_law_188 ?_
  refine va_sld hx hb hX hbl hbA hS (hi 1 (Or.inl rfl)) dL_law_189 ?_
  refine s_lcall (nn := 1) hx hb hml hown hts hK hE (fun _ h => h) (s_WC_ad cy adC) (kcX6_feed (l := l) (G := G) (cy := cy) (sa := sa) (s_inj_of (s_WC_ad cy adC σC) hD) (sz := H.size) σC (xs (Int32.toNatClampNeg (x3 + 1))) hz1) gk_L_13 rfl rfl (by decide +kernel) ⟨Nat.le_of_ble_eq_true rfl, Nat.le_of_ble_eq_true rfl⟩ hcs1 hP hD hS (q0 := 0) (ci := 6) rfl rfl rfl (As := [.int (xs (Int32.toNatClampNeg (x3 + 1)))]) (rest := []) rfl rfl hl.1 (Nat.le_of_ble_eq_true rfl) dL_law_190 (fun H locs hP hD hS => ?_)
  replace hP := s_perm_P List.perm_append_comm hP
  replace hD := s_perm_D List.perm_append_comm hD
  refine lv_aload_n hx hb dL_law_193 rfl (lv_at hl 2 rfl) ?_
  refine lv_aload_n hx hb dL_law_194 rfl (lv_at hl 0 rfl) ?_
  refine lv_iload_n hx hb dL_law_195 rfl (lv_at hl 3 rfl) ?_
  refine lv_iconst (v := 1) hx hb dL_law_196 (by decide) ?_
  refine lv_iadd hx hb dL_law_197 ?_
  refine va_sld hx hb hX hbl hbA hS (hi 1 (Or.inl rfl)) dL_law_198 ?_
  refine s_lcall (nn := 1) hx hb hml hown hts hK hE (fun _ h => h) (s_WM_ad cy adM) (kcX7_feed (l := l) (G := G) (cy := cy) (sa := sa) (s_inj_of (s_WM_ad cy adM σM) hD) (sz := H.size) σM (xs (Int32.toNatClampNeg (x3 + 1))) hz2) gk_L_17 rfl rfl (by decide +kernel) ⟨Nat.le_of_ble_eq_true rfl, Nat.le_of_ble_eq_true rfl⟩ hcs1 hP hD hS (q0 := 0) (ci := 7) rfl rfl rfl (As := [.int (xs (Int32.toNatClampNeg (x3 + 1)))]) (rest := [.int r]) rfl rfl hl.1 (Nat.le_of_ble_eq_true rfl) dL_law_199 (fun H locs hP hD hS => ?_)
  refine lv_icmp_eq (tgt := 1116) hx hb dL_law_202 (by decide) (fun _ => ?_) (fun c1 => absurd rfl c1)
  exact hnext H locs ⟨adC, adM, σC1, σM1, rfl, rfl, hR1, s_perm_P List.perm_append_comm hP, s_perm_D List.perm_append_comm hD⟩ hS
set_option maxRecDepth 100000 in
set_option maxHeartbeats 4000000 in
theorem lw_op_end (hx : p.tables.exec = Jvm.exec) (hb : c.code = code) (hml : c.maxLocals = 4) (hown : s.vm.findClass RL = some m.cls) (hts : ∀ w ∈ kwL, w.before #[Value.ref b] s = true) (hK : va_K G vwCl (s_ty cy) s) (hE : s_E sa (fun q : Nat => s.heap.size ≤ q) s s.heap) (hX : va_X b L xs s s.heap) (hbl : b < s.heap.size) (hcs1 : cells ≤ room_1.cells ∧ slots ≤ room_1.slots) (hi : ∀ k : Int32, k = 1 ∨ k = 2 ∨ k = 3 ∨ k = 4 → vp_in (x3 + k) L) (hop : s_pure_end Rel) {H : Heap} {locs : List Loc} (hLS : s_LS Rel G cy (fun q : Nat => s.heap.size ≤ q) H aC aM) (hS : va_S (fun q : Nat => s.heap.size ≤ q) s.heap H locs) {ls : Array Slot} (hl : lv_has ls 4 [(0, .ref b), (1, .ref aC), (2, .ref aM), (3, .int x3)]) (hnext : ∀ (H : Heap) (locs : List Loc), s_LS Rel G cy (fun q : Nat => s.heap.size ≤ q) H aC aM → va_S (fun q : Nat => s.heap.size ≤ q) s.heap H locs → W p l e room_1 s m #[Value.ref b] below meth c H locs cells slots Q (F0 m 1116 ls [])) : W p l e room_1 s m #[Value.ref b] below meth c H locs cells slots Q (F0 m 207 ls []) := by
  have hbA : ¬ (fun q : Nat => s.heap.size ≤ q) b := Nat.not_le.mpr hbl
  obtain ⟨adC, adM, σC, σM, e1, e2, hR, hP, hD⟩ := hLS
  subst e1
  subst e2
  obtain ⟨r, σC1, σM1, hz1, hz2, hR1⟩ := hop σC σM hR (xs (Int32.toNatClampNeg (x3 + 1)))
  refine lv_aload_n hx hb dL_law_207 rfl (lv_at hl 1 rfl) ?_
  refine lv_aload_n hx hb dL_law_208 rfl (lv_at hl 0 rfl) ?_
  refine lv_iload_n hx hb dL_law_209 rfl (lv_at hl 3 rfl) ?_
  refine lv_iconst (v := 1) hx hb dL_law_210 (by decide) ?_
  refine lv_iadd hx hb dL_law_211 ?_
  refine va_sld hx hb hX hbl hbA hS (hi 1 (Or.inl rfl)) dL_law_212 ?_
  refine s_lcall (nn := 1) hx hb hml hown hts hK hE (fun _ h => h) (s_WC_ad cy adC) (kcX6_end (l := l) (G := G) (cy := cy) (sa := sa) (s_inj_of (s_WC_ad cy adC σC) hD) (sz := H.size) σC (xs (Int32.toNatClampNeg (x3 + 1))) hz1) gk_L_18 rfl rfl (by decide +kernel) ⟨Nat.le_of_ble_eq_true rfl, Nat.le_of_ble_eq_true rfl⟩ hcs1 hP hD hS (q0 := 0) (ci := 6) rfl rfl rfl (As := [.int (xs (Int32.toNatClampNeg (x3 + 1)))]) (rest := []) rfl rfl hl.1 (Nat.le_of_ble_eq_true rfl) dL_law_213 (fun H locs hP hD hS => ?_)
  replace hP := s_perm_P List.perm_append_comm hP
  replace hD := s_perm_D List.perm_append_comm hD
  refine lv_aload_n hx hb dL_law_216 rfl (lv_at hl 2 rfl) ?_
  refine lv_aload_n hx hb dL_law_217 rfl (lv_at hl 0 rfl) ?_
  refine lv_iload_n hx hb dL_law_218 rfl (lv_at hl 3 rfl) ?_
  refine lv_iconst (v := 1) hx hb dL_law_219 (by decide) ?_
  refine lv_iadd hx hb dL_law_220 ?_
  refine va_sld hx hb hX hbl hbA hS (hi 1 (Or.inl rfl)) dL_law_221 ?_
  refine s_lcall (nn := 1) hx hb hml hown hts hK hE (fun _ h => h) (s_WM_ad cy adM) (kcX7_end (l := l) (G := G) (cy := cy) (sa := sa) (s_inj_of (s_WM_ad cy adM σM) hD) (sz := H.size) σM (xs (Int32.toNatClampNeg (x3 + 1))) hz2) gk_L_21 rfl rfl (by decide +kernel) ⟨Nat.le_of_ble_eq_true rfl, Nat.le_of_ble_eq_true rfl⟩ hcs1 hP hD hS (q0 := 0) (ci := 7) rfl rfl rfl (As := [.int (xs (Int32.toNatClampNeg (x3 + 1)))]) (rest := [.int r]) rfl rfl hl.1 (Nat.le_of_ble_eq_true rfl) dL_law_222 (fun H locs hP hD hS => ?_)
  refine lv_icmp_eq (tgt := 1116) hx hb dL_law_225 (by decide) (fun _ => ?_) (fun c1 => absurd rfl c1)
  exact hnext H locs ⟨adC, adM, σC1, σM1, rfl, rfl, hR1, s_perm_P List.perm_append_comm hP, s_perm_D List.perm_append_comm hD⟩ hS
set_option maxRecDepth 100000 in
set_option maxHeartbeats 4000000 in
theorem lw_op_text (hx : p.tables.exec = Jvm.exec) (hb : c.code = code) (hml : c.maxLocals = 4) (hown : s.vm.findClass RL = some m.cls) (hts : ∀ w ∈ kwL, w.before #[Value.ref b] s = true) (hK : va_K G vwCl (s_ty cy) s) (hE : s_E sa (fun q : Nat => s.heap.size ≤ q) s s.heap) (hX : va_X b L xs s s.heap) (hbl : b < s.heap.size) (hcs1 : cells ≤ room_1.cells ∧ slots ≤ room_1.slots) (hi : ∀ k : Int32, k = 1 ∨ k = 2 ∨ k = 3 ∨ k = 4 → vp_in (x3 + k) L) (hop : s_pure_text Rel) {H : Heap} {locs : List Loc} (hLS : s_LS Rel G cy (fun q : Nat => s.heap.size ≤ q) H aC aM) (hS : va_S (fun q : Nat => s.heap.size ≤ q) s.heap H locs) {ls : Array Slot} (hl : lv_has ls 4 [(0, .ref b), (1, .ref aC), (2, .ref aM), (3, .int x3)]) (hnext : ∀ (H : Heap) (locs : List Loc), s_LS Rel G cy (fun q : Nat => s.heap.size ≤ q) H aC aM → va_S (fun q : Nat => s.heap.size ≤ q) s.heap H locs → W p l e room_1 s m #[Value.ref b] below meth c H locs cells slots Q (F0 m 1116 ls [])) : W p l e room_1 s m #[Value.ref b] below meth c H locs cells slots Q (F0 m 230 ls []) := by
  have hbA : ¬ (fun q : Nat => s.heap.size ≤ q) b := Nat.not_le.mpr hbl
  obtain ⟨adC, adM, σC, σM, e1, e2, hR, hP, hD⟩ := hLS
  subst e1
  subst e2
  obtain ⟨r, σC1, σM1, hz1, hz2, hR1⟩ := hop σC σM hR
  refine lv_aload_n hx hb dL_law_230 rfl (lv_at hl 1 rfl) ?_
  refine s_lcall (nn := 0) hx hb hml hown hts hK hE (fun _ h => h) (s_WC_ad cy adC) (kcX6_text (l := l) (G := G) (cy := cy) (sa := sa) (s_inj_of (s_WC_ad cy adC σC) hD) (sz := H.size) σC hz1) gk_L_22 rfl rfl (by decide +kernel) ⟨Nat.le_of_ble_eq_true rfl, Nat.le_of_ble_eq_true rfl⟩ hcs1 hP hD hS (q0 := 0) (ci := 6) rfl rfl rfl (As := []) (rest := []) rfl rfl hl.1 (Nat.le_of_ble_eq_true rfl) dL_law_231 (fun H locs hP hD hS => ?_)
  replace hP := s_perm_P List.perm_append_comm hP
  replace hD := s_perm_D List.perm_append_comm hD
  refine lv_aload_n hx hb dL_law_234 rfl (lv_at hl 2 rfl) ?_
  refine s_lcall (nn := 0) hx hb hml hown hts hK hE (fun _ h => h) (s_WM_ad cy adM) (kcX7_text (l := l) (G := G) (cy := cy) (sa := sa) (s_inj_of (s_WM_ad cy adM σM) hD) (sz := H.size) σM hz2) gk_L_26 rfl rfl (by decide +kernel) ⟨Nat.le_of_ble_eq_true rfl, Nat.le_of_ble_eq_true rfl⟩ hcs1 hP hD hS (q0 := 0) (ci := 7) rfl rfl rfl (As := []) (rest := [.int r]) rfl rfl hl.1 (Nat.le_of_ble_eq_true rfl) dL_law_235 (fun H locs hP hD hS => ?_)
  refine lv_icmp_eq (tgt := 1116) hx hb dL_law_238 (by decide) (fun _ => ?_) (fun c1 => absurd rfl c1)
  exact hnext H locs ⟨adC, adM, σC1, σM1, rfl, rfl, hR1, s_perm_P List.perm_append_comm hP, s_perm_D List.perm_append_comm hD⟩ hS
set_option maxRecDepth 100000 in
set_option maxHeartbeats 4000000 in
theorem lw_op_fault (hx : p.tables.exec = Jvm.exec) (hb : c.code = code) (hml : c.maxLocals = 4) (hown : s.vm.findClass RL = some m.cls) (hts : ∀ w ∈ kwL, w.before #[Value.ref b] s = true) (hK : va_K G vwCl (s_ty cy) s) (hE : s_E sa (fun q : Nat => s.heap.size ≤ q) s s.heap) (hX : va_X b L xs s s.heap) (hbl : b < s.heap.size) (hcs1 : cells ≤ room_1.cells ∧ slots ≤ room_1.slots) (hi : ∀ k : Int32, k = 1 ∨ k = 2 ∨ k = 3 ∨ k = 4 → vp_in (x3 + k) L) (hop : s_pure_fault Rel) {H : Heap} {locs : List Loc} (hLS : s_LS Rel G cy (fun q : Nat => s.heap.size ≤ q) H aC aM) (hS : va_S (fun q : Nat => s.heap.size ≤ q) s.heap H locs) {ls : Array Slot} (hl : lv_has ls 4 [(0, .ref b), (1, .ref aC), (2, .ref aM), (3, .int x3)]) (hnext : ∀ (H : Heap) (locs : List Loc), s_LS Rel G cy (fun q : Nat => s.heap.size ≤ q) H aC aM → va_S (fun q : Nat => s.heap.size ≤ q) s.heap H locs → W p l e room_1 s m #[Value.ref b] below meth c H locs cells slots Q (F0 m 1116 ls [])) : W p l e room_1 s m #[Value.ref b] below meth c H locs cells slots Q (F0 m 243 ls []) := by
  have hbA : ¬ (fun q : Nat => s.heap.size ≤ q) b := Nat.not_le.mpr hbl
  obtain ⟨adC, adM, σC, σM, e1, e2, hR, hP, hD⟩ := hLS
  subst e1
  subst e2
  obtain ⟨r, σC1, σM1, hz1, hz2, hR1⟩ := hop σC σM hR
  refine lv_aload_n hx hb dL_law_243 rfl (lv_at hl 1 rfl) ?_
  refine s_lcall (nn := 0) hx hb hml hown hts hK hE (fun _ h => h) (s_WC_ad cy adC) (kcX6_fault (l := l) (G := G) (cy := cy) (sa := sa) (s_inj_of (s_WC_ad cy adC σC) hD) (sz := H.size) σC hz1) gk_L_27 rfl rfl (by decide +kernel) ⟨Nat.le_of_ble_eq_true rfl, Nat.le_of_ble_eq_true rfl⟩ hcs1 hP hD hS (q0 := 0) (ci := 6) rfl rfl rfl (As := []) (rest := []) rfl rfl hl.1 (Nat.le_of_ble_eq_true rfl) dL_law_244 (fun H locs hP hD hS => ?_)
  replace hP := s_perm_P List.perm_append_comm hP
  replace hD := s_perm_D List.perm_append_comm hD
  refine lv_aload_n hx hb dL_law_247 rfl (lv_at hl 2 rfl) ?_
  refine s_lcall (nn := 0) hx hb hml hown hts hK hE (fun _ h => h) (s_WM_ad cy adM) (kcX7_fault (l := l) (G := G) (cy := cy) (sa := sa) (s_inj_of (s_WM_ad cy adM σM) hD) (sz := H.size) σM hz2) gk_L_30 rfl rfl (by decide +kernel) ⟨Nat.le_of_ble_eq_true rfl, Nat.le_of_ble_eq_true rfl⟩ hcs1 hP hD hS (q0 := 0) (ci := 7) rfl rfl rfl (As := []) (rest := [.int r]) rfl rfl hl.1 (Nat.le_of_ble_eq_true rfl) dL_law_248 (fun H locs hP hD hS => ?_)
  refine lv_icmp_eq (tgt := 1116) hx hb dL_law_251 (by decide) (fun _ => ?_) (fun c1 => absurd rfl c1)
  exact hnext H locs ⟨adC, adM, σC1, σM1, rfl, rfl, hR1, s_perm_P List.perm_append_comm hP, s_perm_D List.perm_append_comm hD⟩ hS
set_option maxRecDepth 100000 in
set_option maxHeartbeats 4000000 in
theorem lw_op_rule (hx : p.tables.exec = Jvm.exec) (hb : c.code = code) (hml : c.maxLocals = 4) (hown : s.vm.findClass RL = some m.cls) (hts : ∀ w ∈ kwL, w.before #[Value.ref b] s = true) (hK : va_K G vwCl (s_ty cy) s) (hE : s_E sa (fun q : Nat => s.heap.size ≤ q) s s.heap) (hX : va_X b L xs s s.heap) (hbl : b < s.heap.size) (hcs1 : cells ≤ room_1.cells ∧ slots ≤ room_1.slots) (hi : ∀ k : Int32, k = 1 ∨ k = 2 ∨ k = 3 ∨ k = 4 → vp_in (x3 + k) L) (hop : s_pure_rule Rel) {H : Heap} {locs : List Loc} (hLS : s_LS Rel G cy (fun q : Nat => s.heap.size ≤ q) H aC aM) (hS : va_S (fun q : Nat => s.heap.size ≤ q) s.heap H locs) {ls : Array Slot} (hl : lv_has ls 4 [(0, .ref b), (1, .ref aC), (2, .ref aM), (3, .int x3)]) (hnext : ∀ (H : Heap) (locs : List Loc), s_LS Rel G cy (fun q : Nat => s.heap.size ≤ q) H aC aM → va_S (fun q : Nat => s.heap.size ≤ q) s.heap H locs → W p l e room_1 s m #[Value.ref b] below meth c H locs cells slots Q (F0 m 1116 ls [])) : W p l e room_1 s m #[Value.ref b] below meth c H locs cells slots Q (F0 m 256 ls []) := by
  have hbA : ¬ (fun q : Nat => s.heap.size ≤ q) b := Nat.not_le.mpr hbl
  obtain ⟨adC, adM, σC, σM, e1, e2, hR, hP, hD⟩ := hLS
  subst e1
  subst e2
  obtain ⟨r, σC1, σM1, hz1, hz2, hR1⟩ := hop σC σM hR (xs (Int32.toNatClampNeg (x3 + 1)))
  refine lv_aload_n hx hb dL_law_256 rfl (lv_at hl 1 rfl) ?_
  refine lv_aload_n hx hb dL_law_257 rfl (lv_at hl 0 rfl) ?_
  refine lv_iload_n hx hb dL_law_258 rfl (lv_at hl 3 rfl) ?_
  refine lv_iconst (v := 1) hx hb dL_law_259 (by decide) ?_
  refine lv_iadd hx hb dL_law_260 ?_
  refine va_sld hx hb hX hbl hbA hS (hi 1 (Or.inl rfl)) dL_law_261 ?_
  refine s_lcall (nn := 1) hx hb hml hown hts hK hE (fun _ h => h) (s_WC_ad cy adC) (kcX6_rule (l := l) (G := G) (cy := cy) (sa := sa) (s_inj_of (s_WC_ad cy adC σC) hD) (sz := H.size) σC (xs (Int32.toNatClampNeg (x3 + 1))) hz1) gk_L_31 rfl rfl (by decide +kernel) ⟨Nat.le_of_ble_eq_true rfl, Nat.le_of_ble_eq_true rfl⟩ hcs1 hP hD hS (q0 := 0) (ci := 6) rfl rfl rfl (As := [.int (xs (Int32.toNatClampNeg (x3 + 1)))]) (rest := []) rfl rfl hl.1 (Nat.le_of_ble_eq_true rfl) dL_law_262 (fun H locs hP hD hS => ?_)
  replace hP := s_perm_P List.perm_append_comm hP
  replace hD := s_perm_D List.perm_append_comm hD
  refine lv_aload_n hx hb dL_law_265 rfl (lv_at hl 2 rfl) ?_
  refine lv_aload_n hx hb dL_law_266 rfl (lv_at hl 0 rfl) ?_
  refine lv_iload_n hx hb dL_law_267 rfl (lv_at hl 3 rfl) ?_
  refine lv_iconst (v := 1) hx hb dL_law_268 (by decide) ?_
  refine lv_iadd hx hb dL_law_269 ?_
  refine va_sld hx hb hX hbl hbA hS (hi 1 (Or.inl rfl)) dL_law_270 ?_
  refine s_lcall (nn := 1) hx hb hml hown hts hK hE (fun _ h => h) (s_WM_ad cy adM) (kcX7_rule (l := l) (G := G) (cy := cy) (sa := sa) (s_inj_of (s_WM_ad cy adM σM) hD) (sz := H.size) σM (xs (Int32.toNatClampNeg (x3 + 1))) hz2) gk_L_34 rfl rfl (by decide +kernel) ⟨Nat.le_of_ble_eq_true rfl, Nat.le_of_ble_eq_true rfl⟩ hcs1 hP hD hS (q0 := 0) (ci := 7) rfl rfl rfl (As := [.int (xs (Int32.toNatClampNeg (x3 + 1)))]) (rest := [.int r]) rfl rfl hl.1 (Nat.le_of_ble_eq_true rfl) dL_law_271 (fun H locs hP hD hS => ?_)
  refine lv_icmp_eq (tgt := 1116) hx hb dL_law_274 (by decide) (fun _ => ?_) (fun c1 => absurd rfl c1)
  exact hnext H locs ⟨adC, adM, σC1, σM1, rfl, rfl, hR1, s_perm_P List.perm_append_comm hP, s_perm_D List.perm_append_comm hD⟩ hS
set_option maxRecDepth 100000 in
set_option maxHeartbeats 4000000 in
theorem lw_op_reading (hx : p.tables.exec = Jvm.exec) (hb : c.code = code) (hml : c.maxLocals = 4) (hown : s.vm.findClass RL = some m.cls) (hts : ∀ w ∈ kwL, w.before #[Value.ref b] s = true) (hK : va_K G vwCl (s_ty cy) s) (hE : s_E sa (fun q : Nat => s.heap.size ≤ q) s s.heap) (hX : va_X b L xs s s.heap) (hbl : b < s.heap.size) (hcs1 : cells ≤ room_1.cells ∧ slots ≤ room_1.slots) (hi : ∀ k : Int32, k = 1 ∨ k = 2 ∨ k = 3 ∨ k = 4 → vp_in (x3 + k) L) (hop : s_pure_reading Rel) {H : Heap} {locs : List Loc} (hLS : s_LS Rel G cy (fun q : Nat => s.heap.size ≤ q) H aC aM) (hS : va_S (fun q : Nat => s.heap.size ≤ q) s.heap H locs) {ls : Array Slot} (hl : lv_has ls 4 [(0, .ref b), (1, .ref aC), (2, .ref aM), (3, .int x3)]) (hnext : ∀ (H : Heap) (locs : List Loc), s_LS Rel G cy (fun q : Nat => s.heap.size ≤ q) H aC aM → va_S (fun q : Nat => s.heap.size ≤ q) s.heap H locs → W p l e room_1 s m #[Value.ref b] below meth c H locs cells slots Q (F0 m 1116 ls [])) : W p l e room_1 s m #[Value.ref b] below meth c H locs cells slots Q (F0 m 279 ls []) := by
  have hbA : ¬ (fun q : Nat => s.heap.size ≤ q) b := Nat.not_le.mpr hbl
  obtain ⟨adC, adM, σC, σM, e1, e2, hR, hP, hD⟩ := hLS
  subst e1
  subst e2
  obtain ⟨r, σC1, σM1, hz1, hz2, hR1⟩ := hop σC σM hR (xs (Int32.toNatClampNeg (x3 + 1)))
  refine lv_aload_n hx hb dL_law_279 rfl (lv_at hl 1 rfl) ?_
  refine lv_aload_n hx hb dL_law_280 rfl (lv_at hl 0 rfl) ?_
  refine lv_iload_n hx hb dL_law_281 rfl (lv_at hl 3 rfl) ?_
  refine lv_iconst (v := 1) hx hb dL_law_282 (by decide) ?_
  refine lv_iadd hx hb dL_law_283 ?_
  refine va_sld hx hb hX hbl hbA hS (hi 1 (Or.inl rfl)) dL_law_284 ?_
  refine s_lcall (nn := 1) hx hb hml hown hts hK hE (fun _ h => h) (s_WC_ad cy adC) (kcX6_reading (l := l) (G := G) (cy := cy) (sa := sa) (s_inj_of (s_WC_ad cy adC σC) hD) (sz := H.size) σC (xs (Int32.toNatClampNeg (x3 + 1))) hz1) gk_L_35 rfl rfl (by decide +kernel) ⟨Nat.le_of_ble_eq_true rfl, Nat.le_of_ble_eq_true rfl⟩ hcs1 hP hD hS (q0 := 0) (ci := 6) rfl rfl rfl (As := [.int (xs (Int32.toNatClampNeg (x3 + 1)))]) (rest := []) rfl rfl hl.1 (Nat.le_of_ble_eq_true rfl) dL_law_285 (fun H locs hP hD hS => ?_)
  replace hP := s_perm_P List.perm_append_comm hP
  replace hD := s_perm_D List.perm_append_comm hD
  refine lv_aload_n hx hb dL_law_288 rfl (lv_at hl 2 rfl) ?_
  refine lv_aload_n hx hb dL_law_289 rfl (lv_at hl 0 rfl) ?_
  refine lv_iload_n hx hb dL_law_290 rfl (lv_at hl 3 rfl) ?_
  refine lv_iconst (v := 1) hx hb dL_law_291 (by decide) ?_
  refine lv_iadd hx hb dL_law_292 ?_
  refine va_sld hx hb hX hbl hbA hS (hi 1 (Or.inl rfl)) dL_law_293 ?_
  refine s_lcall (nn := 1) hx hb hml hown hts hK hE (fun _ h => h) (s_WM_ad cy adM) (kcX7_reading (l := l) (G := G) (cy := cy) (sa := sa) (s_inj_of (s_WM_ad cy adM σM) hD) (sz := H.size) σM (xs (Int32.toNatClampNeg (x3 + 1))) hz2) gk_L_38 rfl rfl (by decide +kernel) ⟨Nat.le_of_ble_eq_true rfl, Nat.le_of_ble_eq_true rfl⟩ hcs1 hP hD hS (q0 := 0) (ci := 7) rfl rfl rfl (As := [.int (xs (Int32.toNatClampNeg (x3 + 1)))]) (rest := [.int r]) rfl rfl hl.1 (Nat.le_of_ble_eq_true rfl) dL_law_294 (fun H locs hP hD hS => ?_)
  refine lv_icmp_eq (tgt := 1116) hx hb dL_law_297 (by decide) (fun _ => ?_) (fun c1 => absurd rfl c1)
  exact hnext H locs ⟨adC, adM, σC1, σM1, rfl, rfl, hR1, s_perm_P List.perm_append_comm hP, s_perm_D List.perm_append_comm hD⟩ hS
set_option maxRecDepth 100000 in
set_option maxHeartbeats 4000000 in
theorem lw_op_row (hx : p.tables.exec = Jvm.exec) (hb : c.code = code) (hml : c.maxLocals = 4) (hown : s.vm.findClass RL = some m.cls) (hts : ∀ w ∈ kwL, w.before #[Value.ref b] s = true) (hK : va_K G vwCl (s_ty cy) s) (hE : s_E sa (fun q : Nat => s.heap.size ≤ q) s s.heap) (hX : va_X b L xs s s.heap) (hbl : b < s.heap.size) (hcs1 : cells ≤ room_1.cells ∧ slots ≤ room_1.slots) (hi : ∀ k : Int32, k = 1 ∨ k = 2 ∨ k = 3 ∨ k = 4 → vp_in (x3 + k) L) (hop : s_pure_row Rel) {H : Heap} {locs : List Loc} (hLS : s_LS Rel G cy (fun q : Nat => s.heap.size ≤ q) H aC aM) (hS : va_S (fun q : Nat => s.heap.size ≤ q) s.heap H locs) {ls : Array Slot} (hl : lv_has ls 4 [(0, .ref b), (1, .ref aC), (2, .ref aM), (3, .int x3)]) (hnext : ∀ (H : Heap) (locs : List Loc), s_LS Rel G cy (fun q : Nat => s.heap.size ≤ q) H aC aM → va_S (fun q : Nat => s.heap.size ≤ q) s.heap H locs → W p l e room_1 s m #[Value.ref b] below meth c H locs cells slots Q (F0 m 1116 ls [])) : W p l e room_1 s m #[Value.ref b] below meth c H locs cells slots Q (F0 m 302 ls []) := by
  have hbA : ¬ (fun q : Nat => s.heap.size ≤ q) b := Nat.not_le.mpr hbl
  obtain ⟨adC, adM, σC, σM, e1, e2, hR, hP, hD⟩ := hLS
  subst e1
  subst e2
  obtain ⟨r, σC1, σM1, hz1, hz2, hR1⟩ := hop σC σM hR (xs (Int32.toNatClampNeg (x3 + 1))) (xs (Int32.toNatClampNeg (x3 + 2)))
  refine lv_aload_n hx hb dL_law_302 rfl (lv_at hl 1 rfl) ?_
  refine lv_aload_n hx hb dL_law_303 rfl (lv_at hl 0 rfl) ?_
  refine lv_iload_n hx hb dL_law_304 rfl (lv_at hl 3 rfl) ?_
  refine lv_iconst (v := 1) hx hb dL_law_305 (by decide) ?_
  refine lv_iadd hx hb dL_law_306 ?_
  refine va_sld hx hb hX hbl hbA hS (hi 1 (Or.inl rfl)) dL_law_307 ?_
  refine lv_aload_n hx hb dL_law_308 rfl (lv_at hl 0 rfl) ?_
  refine lv_iload_n hx hb dL_law_309 rfl (lv_at hl 3 rfl) ?_
  refine lv_iconst (v := 2) hx hb dL_law_310 (by decide) ?_
  refine lv_iadd hx hb dL_law_311 ?_
  refine va_sld hx hb hX hbl hbA hS (hi 2 (Or.inr (Or.inl rfl))) dL_law_312 ?_
  refine s_lcall (nn := 2) hx hb hml hown hts hK hE (fun _ h => h) (s_WC_ad cy adC) (kcX6_row (l := l) (G := G) (cy := cy) (sa := sa) (s_inj_of (s_WC_ad cy adC σC) hD) (sz := H.size) σC (xs (Int32.toNatClampNeg (x3 + 1))) (xs (Int32.toNatClampNeg (x3 + 2))) hz1) gk_L_39 rfl rfl (by decide +kernel) ⟨Nat.le_of_ble_eq_true rfl, Nat.le_of_ble_eq_true rfl⟩ hcs1 hP hD hS (q0 := 0) (ci := 6) rfl rfl rfl (As := [.int (xs (Int32.toNatClampNeg (x3 + 1))), .int (xs (Int32.toNatClampNeg (x3 + 2)))]) (rest := []) rfl rfl hl.1 (Nat.le_of_ble_eq_true rfl) dL_law_313 (fun H locs hP hD hS => ?_)
  replace hP := s_perm_P List.perm_append_comm hP
  replace hD := s_perm_D List.perm_append_comm hD
  refine lv_aload_n hx hb dL_law_316 rfl (lv_at hl 2 rfl) ?_
  refine lv_aload_n hx hb dL_law_317 rfl (lv_at hl 0 rfl) ?_
  refine lv_iload_n hx hb dL_law_318 rfl (lv_at hl 3 rfl) ?_
  refine lv_iconst (v := 1) hx hb dL_law_319 (by decide) ?_
  refine lv_iadd hx hb dL_law_320 ?_
  refine va_sld hx hb hX hbl hbA hS (hi 1 (Or.inl rfl)) dL_law_321 ?_
  refine lv_aload_n hx hb dL_law_322 rfl (lv_at hl 0 rfl) ?_
  refine lv_iload_n hx hb dL_law_323 rfl (lv_at hl 3 rfl) ?_
  refine lv_iconst (v := 2) hx hb dL_law_324 (by decide) ?_
  refine lv_iadd hx hb dL_law_325 ?_
  refine va_sld hx hb hX hbl hbA hS (hi 2 (Or.inr (Or.inl rfl))) dL_law_326 ?_
  refine s_lcall (nn := 2) hx hb hml hown hts hK hE (fun _ h => h) (s_WM_ad cy adM) (kcX7_row (l := l) (G := G) (cy := cy) (sa := sa) (s_inj_of (s_WM_ad cy adM σM) hD) (sz := H.size) σM (xs (Int32.toNatClampNeg (x3 + 1))) (xs (Int32.toNatClampNeg (x3 + 2))) hz2) gk_L_43 rfl rfl (by decide +kernel) ⟨Nat.le_of_ble_eq_true rfl, Nat.le_of_ble_eq_true rfl⟩ hcs1 hP hD hS (q0 := 0) (ci := 7) rfl rfl rfl (As := [.int (xs (Int32.toNatClampNeg (x3 + 1))), .int (xs (Int32.toNatClampNeg (x3 + 2)))]) (rest := [.int r]) rfl rfl hl.1 (Nat.le_of_ble_eq_true rfl) dL_law_327 (fun H locs hP hD hS => ?_)
  refine lv_icmp_eq (tgt := 1116) hx hb dL_law_330 (by decide) (fun _ => ?_) (fun c1 => absurd rfl c1)
  exact hnext H locs ⟨adC, adM, σC1, σM1, rfl, rfl, hR1, s_perm_P List.perm_append_comm hP, s_perm_D List.perm_append_comm hD⟩ hS
set_option maxRecDepth 100000 in
set_option maxHeartbeats 4000000 in
theorem lw_op_item (hx : p.tables.exec = Jvm.exec) (hb : c.code = code) (hml : c.maxLocals = 4) (hown : s.vm.findClass RL = some m.cls) (hts : ∀ w ∈ kwL, w.before #[Value.ref b] s = true) (hK : va_K G vwCl (s_ty cy) s) (hE : s_E sa (fun q : Nat => s.heap.size ≤ q) s s.heap) (hX : va_X b L xs s s.heap) (hbl : b < s.heap.size) (hcs1 : cells ≤ room_1.cells ∧ slots ≤ room_1.slots) (hi : ∀ k : Int32, k = 1 ∨ k = 2 ∨ k = 3 ∨ k = 4 → vp_in (x3 + k) L) (hop : s_pure_item Rel) {H : Heap} {locs : List Loc} (hLS : s_LS Rel G cy (fun q : Nat => s.heap.size ≤ q) H aC aM) (hS : va_S (fun q : Nat => s.heap.size ≤ q) s.heap H locs) {ls : Array Slot} (hl : lv_has ls 4 [(0, .ref b), (1, .ref aC), (2, .ref aM), (3, .int x3)]) (hnext : ∀ (H : Heap) (locs : List Loc), s_LS Rel G cy (fun q : Nat => s.heap.size ≤ q) H aC aM → va_S (fun q : Nat => s.heap.size ≤ q) s.heap H locs → W p l e room_1 s m #[Value.ref b] below meth c H locs cells slots Q (F0 m 1116 ls [])) : W p l e room_1 s m #[Value.ref b] below meth c H locs cells slots Q (F0 m 335 ls []) := by
  have hbA : ¬ (fun q : Nat => s.heap.size ≤ q) b := Nat.not_le.mpr hbl
  obtain ⟨adC, adM, σC, σM, e1, e2, hR, hP, hD⟩ := hLS
  subst e1
  subst e2
  obtain ⟨r, σC1, σM1, hz1, hz2, hR1⟩ := hop σC σM hR (xs (Int32.toNatClampNeg (x3 + 1))) (xs (Int32.toNatClampNeg (x3 + 2)))
  refine lv_aload_n hx hb dL_law_335 rfl (lv_at hl 1 rfl) ?_
  refine lv_aload_n hx hb dL_law_336 rfl (lv_at hl 0 rfl) ?_
  refine lv_iload_n hx hb dL_law_337 rfl (lv_at hl 3 rfl) ?_
  refine lv_iconst (v := 1) hx hb dL_law_338 (by decide) ?_
  refine lv_iadd hx hb dL_law_339 ?_
  refine va_sld hx hb hX hbl hbA hS (hi 1 (Or.inl rfl)) dL_law_340 ?_
  refine lv_aload_n hx hb dL_law_341 rfl (lv_at hl 0 rfl) ?_
  refine lv_iload_n hx hb dL_law_342 rfl (lv_at hl 3 rfl) ?_
  refine lv_iconst (v := 2) hx hb dL_law_343 (by decide) ?_
  refine lv_iadd hx hb dL_law_344 ?_
  refine va_sld hx hb hX hbl hbA hS (hi 2 (Or.inr (Or.inl rfl))) dL_law_345 ?_
  refine s_lcall (nn := 2) hx hb hml hown hts hK hE (fun _ h => h) (s_WC_ad cy adC) (kcX6_item (l := l) (G := G) (cy := cy) (sa := sa) (s_inj_of (s_WC_ad cy adC σC) hD) (sz := H.size) σC (xs (Int32.toNatClampNeg (x3 + 1))) (xs (Int32.toNatClampNeg (x3 + 2))) hz1) gk_L_44 rfl rfl (by decide +kernel) ⟨Nat.le_of_ble_eq_true rfl, Nat.le_of_ble_eq_true rfl⟩ hcs1 hP hD hS (q0 := 0) (ci := 6) rfl rfl rfl (As := [.int (xs (Int32.toNatClampNeg (x3 + 1))), .int (xs (Int32.toNatClampNeg (x3 + 2)))]) (rest := []) rfl rfl hl.1 (Nat.le_of_ble_eq_true rfl) dL_law_346 (fun H locs hP hD hS => ?_)
  replace hP := s_perm_P List.perm_append_comm hP
  replace hD := s_perm_D List.perm_append_comm hD
  refine lv_aload_n hx hb dL_law_349 rfl (lv_at hl 2 rfl) ?_
  refine lv_aload_n hx hb dL_law_350 rfl (lv_at hl 0 rfl) ?_
  refine lv_iload_n hx hb dL_law_351 rfl (lv_at hl 3 rfl) ?_
  refine lv_iconst (v := 1) hx hb dL_law_352 (by decide) ?_
  refine lv_iadd hx hb dL_law_353 ?_
  refine va_sld hx hb hX hbl hbA hS (hi 1 (Or.inl rfl)) dL_law_354 ?_
  refine lv_aload_n hx hb dL_law_355 rfl (lv_at hl 0 rfl) ?_
  refine lv_iload_n hx hb dL_law_356 rfl (lv_at hl 3 rfl) ?_
  refine lv_iconst (v := 2) hx hb dL_law_357 (by decide) ?_
  refine lv_iadd hx hb dL_law_358 ?_
  refine va_sld hx hb hX hbl hbA hS (hi 2 (Or.inr (Or.inl rfl))) dL_law_359 ?_
  refine s_lcall (nn := 2) hx hb hml hown hts hK hE (fun _ h => h) (s_WM_ad cy adM) (kcX7_item (l := l) (G := G) (cy := cy) (sa := sa) (s_inj_of (s_WM_ad cy adM σM) hD) (sz := H.size) σM (xs (Int32.toNatClampNeg (x3 + 1))) (xs (Int32.toNatClampNeg (x3 + 2))) hz2) gk_L_47 rfl rfl (by decide +kernel) ⟨Nat.le_of_ble_eq_true rfl, Nat.le_of_ble_eq_true rfl⟩ hcs1 hP hD hS (q0 := 0) (ci := 7) rfl rfl rfl (As := [.int (xs (Int32.toNatClampNeg (x3 + 1))), .int (xs (Int32.toNatClampNeg (x3 + 2)))]) (rest := [.int r]) rfl rfl hl.1 (Nat.le_of_ble_eq_true rfl) dL_law_360 (fun H locs hP hD hS => ?_)
  refine lv_icmp_eq (tgt := 1116) hx hb dL_law_363 (by decide) (fun _ => ?_) (fun c1 => absurd rfl c1)
  exact hnext H locs ⟨adC, adM, σC1, σM1, rfl, rfl, hR1, s_perm_P List.perm_append_comm hP, s_perm_D List.perm_append_comm hD⟩ hS
set_option maxRecDepth 100000 in
set_option maxHeartbeats 4000000 in
theorem lw_op_result (hx : p.tables.exec = Jvm.exec) (hb : c.code = code) (hml : c.maxLocals = 4) (hown : s.vm.findClass RL = some m.cls) (hts : ∀ w ∈ kwL, w.before #[Value.ref b] s = true) (hK : va_K G vwCl (s_ty cy) s) (hE : s_E sa (fun q : Nat => s.heap.size ≤ q) s s.heap) (hX : va_X b L xs s s.heap) (hbl : b < s.heap.size) (hcs1 : cells ≤ room_1.cells ∧ slots ≤ room_1.slots) (hi : ∀ k : Int32, k = 1 ∨ k = 2 ∨ k = 3 ∨ k = 4 → vp_in (x3 + k) L) (hop : s_pure_result Rel) {H : Heap} {locs : List Loc} (hLS : s_LS Rel G cy (fun q : Nat => s.heap.size ≤ q) H aC aM) (hS : va_S (fun q : Nat => s.heap.size ≤ q) s.heap H locs) {ls : Array Slot} (hl : lv_has ls 4 [(0, .ref b), (1, .ref aC), (2, .ref aM), (3, .int x3)]) (hnext : ∀ (H : Heap) (locs : List Loc), s_LS Rel G cy (fun q : Nat => s.heap.size ≤ q) H aC aM → va_S (fun q : Nat => s.heap.size ≤ q) s.heap H locs → W p l e room_1 s m #[Value.ref b] below meth c H locs cells slots Q (F0 m 1116 ls [])) : W p l e room_1 s m #[Value.ref b] below meth c H locs cells slots Q (F0 m 368 ls []) := by
  have hbA : ¬ (fun q : Nat => s.heap.size ≤ q) b := Nat.not_le.mpr hbl
  obtain ⟨adC, adM, σC, σM, e1, e2, hR, hP, hD⟩ := hLS
  subst e1
  subst e2
  obtain ⟨r, σC1, σM1, hz1, hz2, hR1⟩ := hop σC σM hR (xs (Int32.toNatClampNeg (x3 + 1))) (xs (Int32.toNatClampNeg (x3 + 2)))
  refine lv_aload_n hx hb dL_law_368 rfl (lv_at hl 1 rfl) ?_
  refine lv_aload_n hx hb dL_law_369 rfl (lv_at hl 0 rfl) ?_
  refine lv_iload_n hx hb dL_law_370 rfl (lv_at hl 3 rfl) ?_
  refine lv_iconst (v := 1) hx hb dL_law_371 (by decide) ?_
  refine lv_iadd hx hb dL_law_372 ?_
  refine va_sld hx hb hX hbl hbA hS (hi 1 (Or.inl rfl)) dL_law_373 ?_
  refine lv_aload_n hx hb dL_law_374 rfl (lv_at hl 0 rfl) ?_
  refine lv_iload_n hx hb dL_law_375 rfl (lv_at hl 3 rfl) ?_
  refine lv_iconst (v := 2) hx hb dL_law_376 (by decide) ?_
  refine lv_iadd hx hb dL_law_377 ?_
  refine va_sld hx hb hX hbl hbA hS (hi 2 (Or.inr (Or.inl rfl))) dL_law_378 ?_
  refine s_lcall (nn := 2) hx hb hml hown hts hK hE (fun _ h => h) (s_WC_ad cy adC) (kcX6_result (l := l) (G := G) (cy := cy) (sa := sa) (s_inj_of (s_WC_ad cy adC σC) hD) (sz := H.size) σC (xs (Int32.toNatClampNeg (x3 + 1))) (xs (Int32.toNatClampNeg (x3 + 2))) hz1) gk_L_48 rfl rfl (by decide +kernel) ⟨Nat.le_of_ble_eq_true rfl, Nat.le_of_ble_eq_true rfl⟩ hcs1 hP hD hS (q0 := 0) (ci := 6) rfl rfl rfl (As := [.int (xs (Int32.toNatClampNeg (x3 + 1))), .int (xs (Int32.toNatClampNeg (x3 + 2)))]) (rest := []) rfl rfl hl.1 (Nat.le_of_ble_eq_true rfl) dL_law_379 (fun H locs hP hD hS => ?_)
  replace hP := s_perm_P List.perm_append_comm hP
  replace hD := s_perm_D List.perm_append_comm hD
  refine lv_aload_n hx hb dL_law_382 rfl (lv_at hl 2 rfl) ?_
  refine lv_aload_n hx hb dL_law_383 rfl (lv_at hl 0 rfl) ?_
  refine lv_iload_n hx hb dL_law_384 rfl (lv_at hl 3 rfl) ?_
  refine lv_iconst (v := 1) hx hb dL_law_385 (by decide) ?_
  refine lv_iadd hx hb dL_law_386 ?_
  refine va_sld hx hb hX hbl hbA hS (hi 1 (Or.inl rfl)) dL_law_387 ?_
  refine lv_aload_n hx hb dL_law_388 rfl (lv_at hl 0 rfl) ?_
  refine lv_iload_n hx hb dL_law_389 rfl (lv_at hl 3 rfl) ?_
  refine lv_iconst (v := 2) hx hb dL_law_390 (by decide) ?_
  refine lv_iadd hx hb dL_law_391 ?_
  refine va_sld hx hb hX hbl hbA hS (hi 2 (Or.inr (Or.inl rfl))) dL_law_392 ?_
  refine s_lcall (nn := 2) hx hb hml hown hts hK hE (fun _ h => h) (s_WM_ad cy adM) (kcX7_result (l := l) (G := G) (cy := cy) (sa := sa) (s_inj_of (s_WM_ad cy adM σM) hD) (sz := H.size) σM (xs (Int32.toNatClampNeg (x3 + 1))) (xs (Int32.toNatClampNeg (x3 + 2))) hz2) gk_L_51 rfl rfl (by decide +kernel) ⟨Nat.le_of_ble_eq_true rfl, Nat.le_of_ble_eq_true rfl⟩ hcs1 hP hD hS (q0 := 0) (ci := 7) rfl rfl rfl (As := [.int (xs (Int32.toNatClampNeg (x3 + 1))), .int (xs (Int32.toNatClampNeg (x3 + 2)))]) (rest := [.int r]) rfl rfl hl.1 (Nat.le_of_ble_eq_true rfl) dL_law_393 (fun H locs hP hD hS => ?_)
  refine lv_icmp_eq (tgt := 1116) hx hb dL_law_396 (by decide) (fun _ => ?_) (fun c1 => absurd rfl c1)
  exact hnext H locs ⟨adC, adM, σC1, σM1, rfl, rfl, hR1, s_perm_P List.perm_append_comm hP, s_perm_D List.perm_append_comm hD⟩ hS
set_option maxRecDepth 100000 in
set_option maxHeartbeats 4000000 in
theorem lw_op_rank (hx : p.tables.exec = Jvm.exec) (hb : c.code = code) (hml : c.maxLocals = 4) (hown : s.vm.findClass RL = some m.cls) (hts : ∀ w ∈ kwL, w.before #[Value.ref b] s = true) (hK : va_K G vwCl (s_ty cy) s) (hE : s_E sa (fun q : Nat => s.heap.size ≤ q) s s.heap) (hX : va_X b L xs s s.heap) (hbl : b < s.heap.size) (hcs1 : cells ≤ room_1.cells ∧ slots ≤ room_1.slots) (hi : ∀ k : Int32, k = 1 ∨ k = 2 ∨ k = 3 ∨ k = 4 → vp_in (x3 + k) L) (hop : s_pure_rank Rel) {H : Heap} {locs : List Loc} (hLS : s_LS Rel G cy (fun q : Nat => s.heap.size ≤ q) H aC aM) (hS : va_S (fun q : Nat => s.heap.size ≤ q) s.heap H locs) {ls : Array Slot} (hl : lv_has ls 4 [(0, .ref b), (1, .ref aC), (2, .ref aM), (3, .int x3)]) (hnext : ∀ (H : Heap) (locs : List Loc), s_LS Rel G cy (fun q : Nat => s.heap.size ≤ q) H aC aM → va_S (fun q : Nat => s.heap.size ≤ q) s.heap H locs → W p l e room_1 s m #[Value.ref b] below meth c H locs cells slots Q (F0 m 1116 ls [])) : W p l e room_1 s m #[Value.ref b] below meth c H locs cells slots Q (F0 m 401 ls []) := by
  have hbA : ¬ (fun q : Nat => s.heap.size ≤ q) b := Nat.not_le.mpr hbl
  obtain ⟨adC, adM, σC, σM, e1, e2, hR, hP, hD⟩ := hLS
  subst e1
  subst e2
  obtain ⟨r, σC1, σM1, hz1, hz2, hR1⟩ := hop σC σM hR (xs (Int32.toNatClampNeg (x3 + 1))) (xs (Int32.toNatClampNeg (x3 + 2))) (xs (Int32.toNatClampNeg (x3 + 3)))
  refine lv_aload_n hx hb dL_law_401 rfl (lv_at hl 1 rfl) ?_
  refine lv_aload_n hx hb dL_law_402 rfl (lv_at hl 0 rfl) ?_
  refine lv_iload_n hx hb dL_law_403 rfl (lv_at hl 3 rfl) ?_
  refine lv_iconst (v := 1) hx hb dL_law_404 (by decide) ?_
  refine lv_iadd hx hb dL_law_405 ?_
  refine va_sld hx hb hX hbl hbA hS (hi 1 (Or.inl rfl)) dL_law_406 ?_
  refine lv_aload_n hx hb dL_law_407 rfl (lv_at hl 0 rfl) ?_
  refine lv_iload_n hx hb dL_law_408 rfl (lv_at hl 3 rfl) ?_
  refine lv_iconst (v := 2) hx hb dL_law_409 (by decide) ?_
  refine lv_iadd hx hb dL_law_410 ?_
  refine va_sld hx hb hX hbl hbA hS (hi 2 (Or.inr (Or.inl rfl))) dL_law_411 ?_
  refine lv_aload_n hx hb dL_law_412 rfl (lv_at hl 0 rfl) ?_
  refine lv_iload_n hx hb dL_law_413 rfl (lv_at hl 3 rfl) ?_
  refine lv_iconst (v := 3) hx hb dL_law_414 (by decide) ?_
  refine lv_iadd hx hb dL_law_415 ?_
  refine va_sld hx hb hX hbl hbA hS (hi 3 (Or.inr (Or.inr (Or.inl rfl)))) dL_law_416 ?_
  refine s_lcall (nn := 3) hx hb hml hown hts hK hE (fun _ h => h) (s_WC_ad cy adC) (kcX6_rank (l := l) (G := G) (cy := cy) (sa := sa) (s_inj_of (s_WC_ad cy adC σC) hD) (sz := H.size) σC (xs (Int32.toNatClampNeg (x3 + 1))) (xs (Int32.toNatClampNeg (x3 + 2))) (xs (Int32.toNatClampNeg (x3 + 3))) hz1) gk_L_52 rfl rfl (by decide +kernel) ⟨Nat.le_of_ble_eq_true rfl, Nat.le_of_ble_eq_true rfl⟩ hcs1 hP hD hS (q0 := 0) (ci := 6) rfl rfl rfl (As := [.int (xs (Int32.toNatClampNeg (x3 + 1))), .int (xs (Int32.toNatClampNeg (x3 + 2))), .int (xs (Int32.toNatClampNeg (x3 + 3)))]) (rest := []) rfl rfl hl.1 (Nat.le_of_ble_eq_true rfl) dL_law_417 (fun H locs hP hD hS => ?_)
  replace hP := s_perm_P List.perm_append_comm hP
  replace hD := s_perm_D List.perm_append_comm hD
  refine lv_aload_n hx hb dL_law_420 rfl (lv_at hl 2 rfl) ?_
  refine lv_aload_n hx hb dL_law_421 rfl (lv_at hl 0 rfl) ?_
  refine lv_iload_n hx hb dL_law_422 rfl (lv_at hl 3 rfl) ?_
  refine lv_iconst (v := 1) hx hb dL_law_423 (by decide) ?_
  refine lv_iadd hx hb dL_law_424 ?_
  refine va_sld hx hb hX hbl hbA hS (hi 1 (Or.inl rfl)) dL_law_425 ?_
  refine lv_aload_n hx hb dL_law_426 rfl (lv_at hl 0 rfl) ?_
  refine lv_iload_n hx hb dL_law_427 rfl (lv_at hl 3 rfl) ?_
  refine lv_iconst (v := 2) hx hb dL_law_428 (by decide) ?_
  refine lv_iadd hx hb dL_law_429 ?_
  refine va_sld hx hb hX hbl hbA hS (hi 2 (Or.inr (Or.inl rfl))) dL_law_430 ?_
  refine lv_aload_n hx hb dL_law_431 rfl (lv_at hl 0 rfl) ?_
  refine lv_iload_n hx hb dL_law_432 rfl (lv_at hl 3 rfl) ?_
  refine lv_iconst (v := 3) hx hb dL_law_433 (by decide) ?_
  refine lv_iadd hx hb dL_law_434 ?_
  refine va_sld hx hb hX hbl hbA hS (hi 3 (Or.inr (Or.inr (Or.inl rfl)))) dL_law_435 ?_
  refine s_lcall (nn := 3) hx hb hml hown hts hK hE (fun _ h => h) (s_WM_ad cy adM) (kcX7_rank (l := l) (G := G) (cy := cy) (sa := sa) (s_inj_of (s_WM_ad cy adM σM) hD) (sz := H.size) σM (xs (Int32.toNatClampNeg (x3 + 1))) (xs (Int32.toNatClampNeg (x3 + 2))) (xs (Int32.toNatClampNeg (x3 + 3))) hz2) gk_L_56 rfl rfl (by decide +kernel) ⟨Nat.le_of_ble_eq_true rfl, Nat.le_of_ble_eq_true rfl⟩ hcs1 hP hD hS (q0 := 0) (ci := 7) rfl rfl rfl (As := [.int (xs (Int32.toNatClampNeg (x3 + 1))), .int (xs (Int32.toNatClampNeg (x3 + 2))), .int (xs (Int32.toNatClampNeg (x3 + 3)))]) (rest := [.int r]) rfl rfl hl.1 (Nat.le_of_ble_eq_true rfl) dL_law_436 (fun H locs hP hD hS => ?_)
  refine lv_icmp_eq (tgt := 1116) hx hb dL_law_439 (by decide) (fun _ => ?_) (fun c1 => absurd rfl c1)
  exact hnext H locs ⟨adC, adM, σC1, σM1, rfl, rfl, hR1, s_perm_P List.perm_append_comm hP, s_perm_D List.perm_append_comm hD⟩ hS
set_option maxRecDepth 100000 in
set_option maxHeartbeats 4000000 in
theorem lw_op_shown (hx : p.tables.exec = Jvm.exec) (hb : c.code = code) (hml : c.maxLocals = 4) (hown : s.vm.findClass RL = some m.cls) (hts : ∀ w ∈ kwL, w.before #[Value.ref b] s = true) (hK : va_K G vwCl (s_ty cy) s) (hE : s_E sa (fun q : Nat => s.heap.size ≤ q) s s.heap) (hX : va_X b L xs s s.heap) (hbl : b < s.heap.size) (hcs1 : cells ≤ room_1.cells ∧ slots ≤ room_1.slots) (hi : ∀ k : Int32, k = 1 ∨ k = 2 ∨ k = 3 ∨ k = 4 → vp_in (x3 + k) L) (hop : s_pure_shown Rel) {H : Heap} {locs : List Loc} (hLS : s_LS Rel G cy (fun q : Nat => s.heap.size ≤ q) H aC aM) (hS : va_S (fun q : Nat => s.heap.size ≤ q) s.heap H locs) {ls : Array Slot} (hl : lv_has ls 4 [(0, .ref b), (1, .ref aC), (2, .ref aM), (3, .int x3)]) (hnext : ∀ (H : Heap) (locs : List Loc), s_LS Rel G cy (fun q : Nat => s.heap.size ≤ q) H aC aM → va_S (fun q : Nat => s.heap.size ≤ q) s.heap H locs → W p l e room_1 s m #[Value.ref b] below meth c H locs cells slots Q (F0 m 1116 ls [])) : W p l e room_1 s m #[Value.ref b] below meth c H locs cells slots Q (F0 m 444 ls []) := by
  have hbA : ¬ (fun q : Nat => s.heap.size ≤ q) b := Nat.not_le.mpr hbl
  obtain ⟨adC, adM, σC, σM, e1, e2, hR, hP, hD⟩ := hLS
  subst e1
  subst e2
  obtain ⟨r, σC1, σM1, hz1, hz2, hR1⟩ := hop σC σM hR (xs (Int32.toNatClampNeg (x3 + 1))) (xs (Int32.toNatClampNeg (x3 + 2)))
  refine lv_aload_n hx hb dL_law_444 rfl (lv_at hl 1 rfl) ?_
  refine lv_aload_n hx hb dL_law_445 rfl (lv_at hl 0 rfl) ?_
  refine lv_iload_n hx hb dL_law_446 rfl (lv_at hl 3 rfl) ?_
  refine lv_iconst (v := 1) hx hb dL_law_447 (by decide) ?_
  refine lv_iadd hx hb dL_law_448 ?_
  refine va_sld hx hb hX hbl hbA hS (hi 1 (Or.inl rfl)) dL_law_449 ?_
  refine lv_aload_n hx hb dL_law_450 rfl (lv_at hl 0 rfl) ?_
  refine lv_iload_n hx hb dL_law_451 rfl (lv_at hl 3 rfl) ?_
  refine lv_iconst (v := 2) hx hb dL_law_452 (by decide) ?_
  refine lv_iadd hx hb dL_law_453 ?_
  refine va_sld hx hb hX hbl hbA hS (hi 2 (Or.inr (Or.inl rfl))) dL_law_454 ?_
  refine s_lcall (nn := 2) hx hb hml hown hts hK hE (fun _ h => h) (s_WC_ad cy adC) (kcX6_shown (l := l) (G := G) (cy := cy) (sa := sa) (s_inj_of (s_WC_ad cy adC σC) hD) (sz := H.size) σC (xs (Int32.toNatClampNeg (x3 + 1))) (xs (Int32.toNatClampNeg (x3 + 2))) hz1) gk_L_57 rfl rfl (by decide +kernel) ⟨Nat.le_of_ble_eq_true rfl, Nat.le_of_ble_eq_true rfl⟩ hcs1 hP hD hS (q0 := 0) (ci := 6) rfl rfl rfl (As := [.int (xs (Int32.toNatClampNeg (x3 + 1))), .int (xs (Int32.toNatClampNeg (x3 + 2)))]) (rest := []) rfl rfl hl.1 (Nat.le_of_ble_eq_true rfl) dL_law_455 (fun H locs hP hD hS => ?_)
  replace hP := s_perm_P List.perm_append_comm hP
  replace hD := s_perm_D List.perm_append_comm hD
  refine lv_aload_n hx hb dL_law_458 rfl (lv_at hl 2 rfl) ?_
  refine lv_aload_n hx hb dL_law_459 rfl (lv_at hl 0 rfl) ?_
  refine lv_iload_n hx hb dL_law_460 rfl (lv_at hl 3 rfl) ?_
  refine lv_iconst (v := 1) hx hb dL_law_461 (by decide) ?_
  refine lv_iadd hx hb dL_law_462 ?_
  refine va_sld hx hb hX hbl hbA hS (hi 1 (Or.inl rfl)) dL_law_463 ?_
  refine lv_aload_n hx hb dL_law_464 rfl (lv_at hl 0 rfl) ?_
  refine lv_iload_n hx hb dL_law_465 rfl (lv_at hl 3 rfl) ?_
  refine lv_iconst (v := 2) hx hb dL_law_466 (by decide) ?_
  refine lv_iadd hx hb dL_law_467 ?_
  refine va_sld hx hb hX hbl hbA hS (hi 2 (Or.inr (Or.inl rfl))) dL_law_468 ?_
  refine s_lcall (nn := 2) hx hb hml hown hts hK hE (fun _ h => h) (s_WM_ad cy adM) (kcX7_shown (l := l) (G := G) (cy := cy) (sa := sa) (s_inj_of (s_WM_ad cy adM σM) hD) (sz := H.size) σM (xs (Int32.toNatClampNeg (x3 + 1))) (xs (Int32.toNatClampNeg (x3 + 2))) hz2) gk_L_60 rfl rfl (by decide +kernel) ⟨Nat.le_of_ble_eq_true rfl, Nat.le_of_ble_eq_true rfl⟩ hcs1 hP hD hS (q0 := 0) (ci := 7) rfl rfl rfl (As := [.int (xs (Int32.toNatClampNeg (x3 + 1))), .int (xs (Int32.toNatClampNeg (x3 + 2)))]) (rest := [.int r]) rfl rfl hl.1 (Nat.le_of_ble_eq_true rfl) dL_law_469 (fun H locs hP hD hS => ?_)
  refine lv_icmp_eq (tgt := 1116) hx hb dL_law_472 (by decide) (fun _ => ?_) (fun c1 => absurd rfl c1)
  exact hnext H locs ⟨adC, adM, σC1, σM1, rfl, rfl, hR1, s_perm_P List.perm_append_comm hP, s_perm_D List.perm_append_comm hD⟩ hS
set_option maxRecDepth 100000 in
set_option maxHeartbeats 4000000 in
theorem lw_op_middle (hx : p.tables.exec = Jvm.exec) (hb : c.code = code) (hml : c.maxLocals = 4) (hown : s.vm.findClass RL = some m.cls) (hts : ∀ w ∈ kwL, w.before #[Value.ref b] s = true) (hK : va_K G vwCl (s_ty cy) s) (hE : s_E sa (fun q : Nat => s.heap.size ≤ q) s s.heap) (hX : va_X b L xs s s.heap) (hbl : b < s.heap.size) (hcs1 : cells ≤ room_1.cells ∧ slots ≤ room_1.slots) (hi : ∀ k : Int32, k = 1 ∨ k = 2 ∨ k = 3 ∨ k = 4 → vp_in (x3 + k) L) (hop : s_pure_middle Rel) {H : Heap} {locs : List Loc} (hLS : s_LS Rel G cy (fun q : Nat => s.heap.size ≤ q) H aC aM) (hS : va_S (fun q : Nat => s.heap.size ≤ q) s.heap H locs) {ls : Array Slot} (hl : lv_has ls 4 [(0, .ref b), (1, .ref aC), (2, .ref aM), (3, .int x3)]) (hnext : ∀ (H : Heap) (locs : List Loc), s_LS Rel G cy (fun q : Nat => s.heap.size ≤ q) H aC aM → va_S (fun q : Nat => s.heap.size ≤ q) s.heap H locs → W p l e room_1 s m #[Value.ref b] below meth c H locs cells slots Q (F0 m 1116 ls [])) : W p l e room_1 s m #[Value.ref b] below meth c H locs cells slots Q (F0 m 477 ls []) := by
  have hbA : ¬ (fun q : Nat => s.heap.size ≤ q) b := Nat.not_le.mpr hbl
  obtain ⟨adC, adM, σC, σM, e1, e2, hR, hP, hD⟩ := hLS
  subst e1
  subst e2
  obtain ⟨r, σC1, σM1, hz1, hz2, hR1⟩ := hop σC σM hR (xs (Int32.toNatClampNeg (x3 + 1))) (xs (Int32.toNatClampNeg (x3 + 2)))
  refine lv_aload_n hx hb dL_law_477 rfl (lv_at hl 1 rfl) ?_
  refine lv_aload_n hx hb dL_law_478 rfl (lv_at hl 0 rfl) ?_
  refine lv_iload_n hx hb dL_law_479 rfl (lv_at hl 3 rfl) ?_
  refine lv_iconst (v := 1) hx hb dL_law_480 (by decide) ?_
  refine lv_iadd hx hb dL_law_481 ?_
  refine va_sld hx hb hX hbl hbA hS (hi 1 (Or.inl rfl)) dL_law_482 ?_
  refine lv_aload_n hx hb dL_law_483 rfl (lv_at hl 0 rfl) ?_
  refine lv_iload_n hx hb dL_law_484 rfl (lv_at hl 3 rfl) ?_
  refine lv_iconst (v := 2) hx hb dL_law_485 (by decide) ?_
  refine lv_iadd hx hb dL_law_486 ?_
  refine va_sld hx hb hX hbl hbA hS (hi 2 (Or.inr (Or.inl rfl))) dL_law_487 ?_
  refine s_lcall (nn := 2) hx hb hml hown hts hK hE (fun _ h => h) (s_WC_ad cy adC) (kcX6_middle (l := l) (G := G) (cy := cy) (sa := sa) (s_inj_of (s_WC_ad cy adC σC) hD) (sz := H.size) σC (xs (Int32.toNatClampNeg (x3 + 1))) (xs (Int32.toNatClampNeg (x3 + 2))) hz1) gk_L_61 rfl rfl (by decide +kernel) ⟨Nat.le_of_ble_eq_true rfl, Nat.le_of_ble_eq_true rfl⟩ hcs1 hP hD hS (q0 := 0) (ci := 6) rfl rfl rfl (As := [.int (xs (Int32.toNatClampNeg (x3 + 1))), .int (xs (Int32.toNatClampNeg (x3 + 2)))]) (rest := []) rfl rfl hl.1 (Nat.le_of_ble_eq_true rfl) dL_law_488 (fun H locs hP hD hS => ?_)
  replace hP := s_perm_P List.perm_append_comm hP
  replace hD := s_perm_D List.perm_append_comm hD
  refine lv_aload_n hx hb dL_law_491 rfl (lv_at hl 2 rfl) ?_
  refine lv_aload_n hx hb dL_law_492 rfl (lv_at hl 0 rfl) ?_
  refine lv_iload_n hx hb dL_law_493 rfl (lv_at hl 3 rfl) ?_
  refine lv_iconst (v := 1) hx hb dL_law_494 (by decide) ?_
  refine lv_iadd hx hb dL_law_495 ?_
  refine va_sld hx hb hX hbl hbA hS (hi 1 (Or.inl rfl)) dL_law_496 ?_
  refine lv_aload_n hx hb dL_law_497 rfl (lv_at hl 0 rfl) ?_
  refine lv_iload_n hx hb dL_law_498 rfl (lv_at hl 3 rfl) ?_
  refine lv_iconst (v := 2) hx hb dL_law_499 (by decide) ?_
  refine lv_iadd hx hb dL_law_500 ?_
  refine va_sld hx hb hX hbl hbA hS (hi 2 (Or.inr (Or.inl rfl))) dL_law_501 ?_
  refine s_lcall (nn := 2) hx hb hml hown hts hK hE (fun _ h => h) (s_WM_ad cy adM) (kcX7_middle (l := l) (G := G) (cy := cy) (sa := sa) (s_inj_of (s_WM_ad cy adM σM) hD) (sz := H.size) σM (xs (Int32.toNatClampNeg (x3 + 1))) (xs (Int32.toNatClampNeg (x3 + 2))) hz2) gk_L_64 rfl rfl (by decide +kernel) ⟨Nat.le_of_ble_eq_true rfl, Nat.le_of_ble_eq_true rfl⟩ hcs1 hP hD hS (q0 := 0) (ci := 7) rfl rfl rfl (As := [.int (xs (Int32.toNatClampNeg (x3 + 1))), .int (xs (Int32.toNatClampNeg (x3 + 2)))]) (rest := [.int r]) rfl rfl hl.1 (Nat.le_of_ble_eq_true rfl) dL_law_502 (fun H locs hP hD hS => ?_)
  refine lv_icmp_eq (tgt := 1116) hx hb dL_law_505 (by decide) (fun _ => ?_) (fun c1 => absurd rfl c1)
  exact hnext H locs ⟨adC, adM, σC1, σM1, rfl, rfl, hR1, s_perm_P List.perm_append_comm hP, s_perm_D List.perm_append_comm hD⟩ hS
set_option maxRecDepth 100000 in
set_option maxHeartbeats 4000000 in
theorem lw_op_far (hx : p.tables.exec = Jvm.exec) (hb : c.code = code) (hml : c.maxLocals = 4) (hown : s.vm.findClass RL = some m.cls) (hts : ∀ w ∈ kwL, w.before #[Value.ref b] s = true) (hK : va_K G vwCl (s_ty cy) s) (hE : s_E sa (fun q : Nat => s.heap.size ≤ q) s s.heap) (hX : va_X b L xs s s.heap) (hbl : b < s.heap.size) (hcs1 : cells ≤ room_1.cells ∧ slots ≤ room_1.slots) (hi : ∀ k : Int32, k = 1 ∨ k = 2 ∨ k = 3 ∨ k = 4 → vp_in (x3 + k) L) (hop : s_pure_far Rel) {H : Heap} {locs : List Loc} (hLS : s_LS Rel G cy (fun q : Nat => s.heap.size ≤ q) H aC aM) (hS : va_S (fun q : Nat => s.heap.size ≤ q) s.heap H locs) {ls : Array Slot} (hl : lv_has ls 4 [(0, .ref b), (1, .ref aC), (2, .ref aM), (3, .int x3)]) (hnext : ∀ (H : Heap) (locs : List Loc), s_LS Rel G cy (fun q : Nat => s.heap.size ≤ q) H aC aM → va_S (fun q : Nat => s.heap.size ≤ q) s.heap H locs → W p l e room_1 s m #[Value.ref b] below meth c H locs cells slots Q (F0 m 1116 ls [])) : W p l e room_1 s m #[Value.ref b] below meth c H locs cells slots Q (F0 m 510 ls []) := by
  have hbA : ¬ (fun q : Nat => s.heap.size ≤ q) b := Nat.not_le.mpr hbl
  obtain ⟨adC, adM, σC, σM, e1, e2, hR, hP, hD⟩ := hLS
  subst e1
  subst e2
  obtain ⟨r, σC1, σM1, hz1, hz2, hR1⟩ := hop σC σM hR (xs (Int32.toNatClampNeg (x3 + 1))) (xs (Int32.toNatClampNeg (x3 + 2)))
  refine lv_aload_n hx hb dL_law_510 rfl (lv_at hl 1 rfl) ?_
  refine lv_aload_n hx hb dL_law_511 rfl (lv_at hl 0 rfl) ?_
  refine lv_iload_n hx hb dL_law_512 rfl (lv_at hl 3 rfl) ?_
  refine lv_iconst (v := 1) hx hb dL_law_513 (by decide) ?_
  refine lv_iadd hx hb dL_law_514 ?_
  refine va_sld hx hb hX hbl hbA hS (hi 1 (Or.inl rfl)) dL_law_515 ?_
  refine lv_aload_n hx hb dL_law_516 rfl (lv_at hl 0 rfl) ?_
  refine lv_iload_n hx hb dL_law_517 rfl (lv_at hl 3 rfl) ?_
  refine lv_iconst (v := 2) hx hb dL_law_518 (by decide) ?_
  refine lv_iadd hx hb dL_law_519 ?_
  refine va_sld hx hb hX hbl hbA hS (hi 2 (Or.inr (Or.inl rfl))) dL_law_520 ?_
  refine s_lcall (nn := 2) hx hb hml hown hts hK hE (fun _ h => h) (s_WC_ad cy adC) (kcX6_far (l := l) (G := G) (cy := cy) (sa := sa) (s_inj_of (s_WC_ad cy adC σC) hD) (sz := H.size) σC (xs (Int32.toNatClampNeg (x3 + 1))) (xs (Int32.toNatClampNeg (x3 + 2))) hz1) gk_L_65 rfl rfl (by decide +kernel) ⟨Nat.le_of_ble_eq_true rfl, Nat.le_of_ble_eq_true rfl⟩ hcs1 hP hD hS (q0 := 0) (ci := 6) rfl rfl rfl (As := [.int (xs (Int32.toNatClampNeg (x3 + 1))), .int (xs (Int32.toNatClampNeg (x3 + 2)))]) (rest := []) rfl rfl hl.1 (Nat.le_of_ble_eq_true rfl) dL_law_521 (fun H locs hP hD hS => ?_)
  replace hP := s_perm_P List.perm_append_comm hP
  replace hD := s_perm_D List.perm_append_comm hD
  refine lv_aload_n hx hb dL_law_524 rfl (lv_at hl 2 rfl) ?_
  refine lv_aload_n hx hb dL_law_525 rfl (lv_at hl 0 rfl) ?_
  refine lv_iload_n hx hb dL_law_526 rfl (lv_at hl 3 rfl) ?_
  refine lv_iconst (v := 1) hx hb dL_law_527 (by decide) ?_
  refine lv_iadd hx hb dL_law_528 ?_
  refine va_sld hx hb hX hbl hbA hS (hi 1 (Or.inl rfl)) dL_law_529 ?_
  refine lv_aload_n hx hb dL_law_530 rfl (lv_at hl 0 rfl) ?_
  refine lv_iload_n hx hb dL_law_531 rfl (lv_at hl 3 rfl) ?_
  refine lv_iconst (v := 2) hx hb dL_law_532 (by decide) ?_
  refine lv_iadd hx hb dL_law_533 ?_
  refine va_sld hx hb hX hbl hbA hS (hi 2 (Or.inr (Or.inl rfl))) dL_law_534 ?_
  refine s_lcall (nn := 2) hx hb hml hown hts hK hE (fun _ h => h) (s_WM_ad cy adM) (kcX7_far (l := l) (G := G) (cy := cy) (sa := sa) (s_inj_of (s_WM_ad cy adM σM) hD) (sz := H.size) σM (xs (Int32.toNatClampNeg (x3 + 1))) (xs (Int32.toNatClampNeg (x3 + 2))) hz2) gk_L_68 rfl rfl (by decide +kernel) ⟨Nat.le_of_ble_eq_true rfl, Nat.le_of_ble_eq_true rfl⟩ hcs1 hP hD hS (q0 := 0) (ci := 7) rfl rfl rfl (As := [.int (xs (Int32.toNatClampNeg (x3 + 1))), .int (xs (Int32.toNatClampNeg (x3 + 2)))]) (rest := [.int r]) rfl rfl hl.1 (Nat.le_of_ble_eq_true rfl) dL_law_535 (fun H locs hP hD hS => ?_)
  refine lv_icmp_eq (tgt := 1116) hx hb dL_law_538 (by decide) (fun _ => ?_) (fun c1 => absurd rfl c1)
  exact hnext H locs ⟨adC, adM, σC1, σM1, rfl, rfl, hR1, s_perm_P List.perm_append_comm hP, s_perm_D List.perm_append_comm hD⟩ hS
set_option maxRecDepth 100000 in
set_option maxHeartbeats 4000000 in
theorem lw_op_fars (hx : p.tables.exec = Jvm.exec) (hb : c.code = code) (hml : c.maxLocals = 4) (hown : s.vm.findClass RL = some m.cls) (hts : ∀ w ∈ kwL, w.before #[Value.ref b] s = true) (hK : va_K G vwCl (s_ty cy) s) (hE : s_E sa (fun q : Nat => s.heap.size ≤ q) s s.heap) (hX : va_X b L xs s s.heap) (hbl : b < s.heap.size) (hcs1 : cells ≤ room_1.cells ∧ slots ≤ room_1.slots) (hi : ∀ k : Int32, k = 1 ∨ k = 2 ∨ k = 3 ∨ k = 4 → vp_in (x3 + k) L) (hop : s_pure_fars Rel) {H : Heap} {locs : List Loc} (hLS : s_LS Rel G cy (fun q : Nat => s.heap.size ≤ q) H aC aM) (hS : va_S (fun q : Nat => s.heap.size ≤ q) s.heap H locs) {ls : Array Slot} (hl : lv_has ls 4 [(0, .ref b), (1, .ref aC), (2, .ref aM), (3, .int x3)]) (hnext : ∀ (H : Heap) (locs : List Loc), s_LS Rel G cy (fun q : Nat => s.heap.size ≤ q) H aC aM → va_S (fun q : Nat => s.heap.size ≤ q) s.heap H locs → W p l e room_1 s m #[Value.ref b] below meth c H locs cells slots Q (F0 m 1116 ls [])) : W p l e room_1 s m #[Value.ref b] below meth c H locs cells slots Q (F0 m 543 ls []) := by
  have hbA : ¬ (fun q : Nat => s.heap.size ≤ q) b := Nat.not_le.mpr hbl
  obtain ⟨adC, adM, σC, σM, e1, e2, hR, hP, hD⟩ := hLS
  subst e1
  subst e2
  obtain ⟨r, σC1, σM1, hz1, hz2, hR1⟩ := hop σC σM hR (xs (Int32.toNatClampNeg (x3 + 1)))
  refine lv_aload_n hx hb dL_law_543 rfl (lv_at hl 1 rfl) ?_
  refine lv_aload_n hx hb dL_law_544 rfl (lv_at hl 0 rfl) ?_
  refine lv_iload_n hx hb dL_law_545 rfl (lv_at hl 3 rfl) ?_
  refine lv_iconst (v := 1) hx hb dL_law_546 (by decide) ?_
  refine lv_iadd hx hb dL_law_547 ?_
  refine va_sld hx hb hX hbl hbA hS (hi 1 (Or.inl rfl)) dL_law_548 ?_
  refine s_lcall (nn := 1) hx hb hml hown hts hK hE (fun _ h => h) (s_WC_ad cy adC) (kcX6_fars (l := l) (G := G) (cy := cy) (sa := sa) (s_inj_of (s_WC_ad cy adC σC) hD) (sz := H.size) σC (xs (Int32.toNatClampNeg (x3 + 1))) hz1) gk_L_69 rfl rfl (by decide +kernel) ⟨Nat.le_of_ble_eq_true rfl, Nat.le_of_ble_eq_true rfl⟩ hcs1 hP hD hS (q0 := 0) (ci := 6) rfl rfl rfl (As := [.int (xs (Int32.toNatClampNeg (x3 + 1)))]) (rest := []) rfl rfl hl.1 (Nat.le_of_ble_eq_true rfl) dL_law_549 (fun H locs hP hD hS => ?_)
  replace hP := s_perm_P List.perm_append_comm hP
  replace hD := s_perm_D List.perm_append_comm hD
  refine lv_aload_n hx hb dL_law_552 rfl (lv_at hl 2 rfl) ?_
  refine lv_aload_n hx hb dL_law_553 rfl (lv_at hl 0 rfl) ?_
  refine lv_iload_n hx hb dL_law_554 rfl (lv_at hl 3 rfl) ?_
  refine lv_iconst (v := 1) hx hb dL_law_555 (by decide) ?_
  refine lv_iadd hx hb dL_law_556 ?_
  refine va_sld hx hb hX hbl hbA hS (hi 1 (Or.inl rfl)) dL_law_557 ?_
  refine s_lcall (nn := 1) hx hb hml hown hts hK hE (fun _ h => h) (s_WM_ad cy adM) (kcX7_fars (l := l) (G := G) (cy := cy) (sa := sa) (s_inj_of (s_WM_ad cy adM σM) hD) (sz := H.size) σM (xs (Int32.toNatClampNeg (x3 + 1))) hz2) gk_L_72 rfl rfl (by decide +kernel) ⟨Nat.le_of_ble_eq_true rfl, Nat.le_of_ble_eq_true rfl⟩ hcs1 hP hD hS (q0 := 0) (ci := 7) rfl rfl rfl (As := [.int (xs (Int32.toNatClampNeg (x3 + 1)))]) (rest := [.int r]) rfl rfl hl.1 (Nat.le_of_ble_eq_true rfl) dL_law_558 (fun H locs hP hD hS => ?_)
  refine lv_icmp_eq (tgt := 1116) hx hb dL_law_561 (by decide) (fun _ => ?_) (fun c1 => absurd rfl c1)
  exact hnext H locs ⟨adC, adM, σC1, σM1, rfl, rfl, hR1, s_perm_P List.perm_append_comm hP, s_perm_D List.perm_append_comm hD⟩ hS
set_option maxRecDepth 100000 in
set_option maxHeartbeats 4000000 in
theorem lw_op_above (hx : p.tables.exec = Jvm.exec) (hb : c.code = code) (hml : c.maxLocals = 4) (hown : s.vm.findClass RL = some m.cls) (hts : ∀ w ∈ kwL, w.before #[Value.ref b] s = true) (hK : va_K G vwCl (s_ty cy) s) (hE : s_E sa (fun q : Nat => s.heap.size ≤ q) s s.heap) (hX : va_X b L xs s s.heap) (hbl : b < s.heap.size) (hcs1 : cells ≤ room_1.cells ∧ slots ≤ room_1.slots) (hi : ∀ k : Int32, k = 1 ∨ k = 2 ∨ k = 3 ∨ k = 4 → vp_in (x3 + k) L) (hop : s_pure_above Rel) {H : Heap} {locs : List Loc} (hLS : s_LS Rel G cy (fun q : Nat => s.heap.size ≤ q) H aC aM) (hS : va_S (fun q : Nat => s.heap.size ≤ q) s.heap H locs) {ls : Array Slot} (hl : lv_has ls 4 [(0, .ref b), (1, .ref aC), (2, .ref aM), (3, .int x3)]) (hnext : ∀ (H : Heap) (locs : List Loc), s_LS Rel G cy (fun q : Nat => s.heap.size ≤ q) H aC aM → va_S (fun q : Nat => s.heap.size ≤ q) s.heap H locs → W p l e room_1 s m #[Value.ref b] below meth c H locs cells slots Q (F0 m 1116 ls [])) : W p l e room_1 s m #[Value.ref b] below meth c H locs cells slots Q (F0 m 566 ls []) := by
  have hbA : ¬ (fun q : Nat => s.heap.size ≤ q) b := Nat.not_le.mpr hbl
  obtain ⟨adC, adM, σC, σM, e1, e2, hR, hP, hD⟩ := hLS
  subst e1
  subst e2
  obtain ⟨r, σC1, σM1, hz1, hz2, hR1⟩ := hop σC σM hR (xs (Int32.toNatClampNeg (x3 + 1))) (xs (Int32.toNatClampNeg (x3 + 2)))
  refine lv_aload_n hx hb dL_law_566 rfl (lv_at hl 1 rfl) ?_
  refine lv_aload_n hx hb dL_law_567 rfl (lv_at hl 0 rfl) ?_
  refine lv_iload_n hx hb dL_law_568 rfl (lv_at hl 3 rfl) ?_
  refine lv_iconst (v := 1) hx hb dL_law_569 (by decide) ?_
  refine lv_iadd hx hb dL_law_570 ?_
  refine va_sld hx hb hX hbl hbA hS (hi 1 (Or.inl rfl)) dL_law_571 ?_
  refine lv_aload_n hx hb dL_law_572 rfl (lv_at hl 0 rfl) ?_
  refine lv_iload_n hx hb dL_law_573 rfl (lv_at hl 3 rfl) ?_
  refine lv_iconst (v := 2) hx hb dL_law_574 (by decide) ?_
  refine lv_iadd hx hb dL_law_575 ?_
  refine va_sld hx hb hX hbl hbA hS (hi 2 (Or.inr (Or.inl rfl))) dL_law_576 ?_
  refine s_lcall (nn := 2) hx hb hml hown hts hK hE (fun _ h => h) (s_WC_ad cy adC) (kcX6_above (l := l) (G := G) (cy := cy) (sa := sa) (s_inj_of (s_WC_ad cy adC σC) hD) (sz := H.size) σC (xs (Int32.toNatClampNeg (x3 + 1))) (xs (Int32.toNatClampNeg (x3 + 2))) hz1) gk_L_73 rfl rfl (by decide +kernel) ⟨Nat.le_of_ble_eq_true rfl, Nat.le_of_ble_eq_true rfl⟩ hcs1 hP hD hS (q0 := 0) (ci := 6) rfl rfl rfl (As := [.int (xs (Int32.toNatClampNeg (x3 + 1))), .int (xs (Int32.toNatClampNeg (x3 + 2)))]) (rest := []) rfl rfl hl.1 (Nat.le_of_ble_eq_true rfl) dL_law_577 (fun H locs hP hD hS => ?_)
  replace hP := s_perm_P List.perm_append_comm hP
  replace hD := s_perm_D List.perm_append_comm hD
  refine lv_aload_n hx hb dL_law_580 rfl (lv_at hl 2 rfl) ?_
  refine lv_aload_n hx hb dL_law_581 rfl (lv_at hl 0 rfl) ?_
  refine lv_iload_n hx hb dL_law_582 rfl (lv_at hl 3 rfl) ?_
  refine lv_iconst (v := 1) hx hb dL_law_583 (by decide) ?_
  refine lv_iadd hx hb dL_law_584 ?_
  refine va_sld hx hb hX hbl hbA hS (hi 1 (Or.inl rfl)) dL_law_585 ?_
  refine lv_aload_n hx hb dL_law_586 rfl (lv_at hl 0 rfl) ?_
  refine lv_iload_n hx hb dL_law_587 rfl (lv_at hl 3 rfl) ?_
  refine lv_iconst (v := 2) hx hb dL_law_588 (by decide) ?_
  refine lv_iadd hx hb dL_law_589 ?_
  refine va_sld hx hb hX hbl hbA hS (hi 2 (Or.inr (Or.inl rfl))) dL_law_590 ?_
  refine s_lcall (nn := 2) hx hb hml hown hts hK hE (fun _ h => h) (s_WM_ad cy adM) (kcX7_above (l := l) (G := G) (cy := cy) (sa := sa) (s_inj_of (s_WM_ad cy adM σM) hD) (sz := H.size) σM (xs (Int32.toNatClampNeg (x3 + 1))) (xs (Int32.toNatClampNeg (x3 + 2))) hz2) gk_L_76 rfl rfl (by decide +kernel) ⟨Nat.le_of_ble_eq_true rfl, Nat.le_of_ble_eq_true rfl⟩ hcs1 hP hD hS (q0 := 0) (ci := 7) rfl rfl rfl (As := [.int (xs (Int32.toNatClampNeg (x3 + 1))), .int (xs (Int32.toNatClampNeg (x3 + 2)))]) (rest := [.int r]) rfl rfl hl.1 (Nat.le_of_ble_eq_true rfl) dL_law_591 (fun H locs hP hD hS => ?_)
  refine lv_icmp_eq (tgt := 1116) hx hb dL_law_594 (by decide) (fun _ => ?_) (fun c1 => absurd rfl c1)
  exact hnext H locs ⟨adC, adM, σC1, σM1, rfl, rfl, hR1, s_perm_P List.perm_append_comm hP, s_perm_D List.perm_append_comm hD⟩ hS
set_option maxRecDepth 100000 in
set_option maxHeartbeats 4000000 in
theorem lw_op_most (hx : p.tables.exec = Jvm.exec) (hb : c.code = code) (hml : c.maxLocals = 4) (hown : s.vm.findClass RL = some m.cls) (hts : ∀ w ∈ kwL, w.before #[Value.ref b] s = true) (hK : va_K G vwCl (s_ty cy) s) (hE : s_E sa (fun q : Nat => s.heap.size ≤ q) s s.heap) (hX : va_X b L xs s s.heap) (hbl : b < s.heap.size) (hcs1 : cells ≤ room_1.cells ∧ slots ≤ room_1.slots) (hi : ∀ k : Int32, k = 1 ∨ k = 2 ∨ k = 3 ∨ k = 4 → vp_in (x3 + k) L) (hop : s_pure_most Rel) {H : Heap} {locs : List Loc} (hLS : s_LS Rel G cy (fun q : Nat => s.heap.size ≤ q) H aC aM) (hS : va_S (fun q : Nat => s.heap.size ≤ q) s.heap H locs) {ls : Array Slot} (hl : lv_has ls 4 [(0, .ref b), (1, .ref aC), (2, .ref aM), (3, .int x3)]) (hnext : ∀ (H : Heap) (locs : List Loc), s_LS Rel G cy (fun q : Nat => s.heap.size ≤ q) H aC aM → va_S (fun q : Nat => s.heap.size ≤ q) s.heap H locs → W p l e room_1 s m #[Value.ref b] below meth c H locs cells slots Q (F0 m 1116 ls [])) : W p l e room_1 s m #[Value.ref b] below meth c H locs cells slots Q (F0 m 599 ls []) := by
  have hbA : ¬ (fun q : Nat => s.heap.size ≤ q) b := Nat.not_le.mpr hbl
  obtain ⟨adC, adM, σC, σM, e1, e2, hR, hP, hD⟩ := hLS
  subst e1
  subst e2
  obtain ⟨r, σC1, σM1, hz1, hz2, hR1⟩ := hop σC σM hR (xs (Int32.toNatClampNeg (x3 + 1)))
  refine lv_aload_n hx hb dL_law_599 rfl (lv_at hl 1 rfl) ?_
  refine lv_aload_n hx hb dL_law_600 rfl (lv_at hl 0 rfl) ?_
  refine lv_iload_n hx hb dL_law_601 rfl (lv_at hl 3 rfl) ?_
  refine lv_iconst (v := 1) hx hb dL_law_602 (by decide) ?_
  refine lv_iadd hx hb dL_law_603 ?_
  refine va_sld hx hb hX hbl hbA hS (hi 1 (Or.inl rfl)) dL_law_604 ?_
  refine s_lcall (nn := 1) hx hb hml hown hts hK hE (fun _ h => h) (s_WC_ad cy adC) (kcX6_most (l := l) (G := G) (cy := cy) (sa := sa) (s_inj_of (s_WC_ad cy adC σC) hD) (sz := H.size) σC (xs (Int32.toNatClampNeg (x3 + 1))) hz1) gk_L_77 rfl rfl (by decide +kernel) ⟨Nat.le_of_ble_eq_true rfl, Nat.le_of_ble_eq_true rfl⟩ hcs1 hP hD hS (q0 := 0) (ci := 6) rfl rfl rfl (As := [.int (xs (Int32.toNatClampNeg (x3 + 1)))]) (rest := []) rfl rfl hl.1 (Nat.le_of_ble_eq_true rfl) dL_law_605 (fun H locs hP hD hS => ?_)
  replace hP := s_perm_P List.perm_append_comm hP
  replace hD := s_perm_D List.perm_append_comm hD
  refine lv_aload_n hx hb dL_law_608 rfl (lv_at hl 2 rfl) ?_
  refine lv_aload_n hx hb dL_law_609 rfl (lv_at hl 0 rfl) ?_
  refine lv_iload_n hx hb dL_law_610 rfl (lv_at hl 3 rfl) ?_
  refine lv_iconst (v := 1) hx hb dL_law_611 (by decide) ?_
  refine lv_iadd hx hb dL_law_612 ?_
  refine va_sld hx hb hX hbl hbA hS (hi 1 (Or.inl rfl)) dL_law_613 ?_
  refine s_lcall (nn := 1) hx hb hml hown hts hK hE (fun _ h => h) (s_WM_ad cy adM) (kcX7_most (l := l) (G := G) (cy := cy) (sa := sa) (s_inj_of (s_WM_ad cy adM σM) hD) (sz := H.size) σM (xs (Int32.toNatClampNeg (x3 + 1))) hz2) gk_L_80 rfl rfl (by decide +kernel) ⟨Nat.le_of_ble_eq_true rfl, Nat.le_of_ble_eq_true rfl⟩ hcs1 hP hD hS (q0 := 0) (ci := 7) rfl rfl rfl (As := [.int (xs (Int32.toNatClampNeg (x3 + 1)))]) (rest := [.int r]) rfl rfl hl.1 (Nat.le_of_ble_eq_true rfl) dL_law_614 (fun H locs hP hD hS => ?_)
  refine lv_icmp_eq (tgt := 1116) hx hb dL_law_617 (by decide) (fun _ => ?_) (fun c1 => absurd rfl c1)
  exact hnext H locs ⟨adC, adM, σC1, σM1, rfl, rfl, hR1, s_perm_P List.perm_append_comm hP, s_perm_D List.perm_append_comm hD⟩ hS
set_option maxRecDepth 100000 in
set_option maxHeartbeats 4000000 in
theorem lw_op_add (hx : p.tables.exec = Jvm.exec) (hb : c.code = code) (hml : c.maxLocals = 4) (hown : s.vm.findClass RL = some m.cls) (hts : ∀ w ∈ kwL, w.before #[Value.ref b] s = true) (hK : va_K G vwCl (s_ty cy) s) (hE : s_E sa (fun q : Nat => s.heap.size ≤ q) s s.heap) (hX : va_X b L xs s s.heap) (hbl : b < s.heap.size) (hcs1 : cells ≤ room_1.cells ∧ slots ≤ room_1.slots) (hi : ∀ k : Int32, k = 1 ∨ k = 2 ∨ k = 3 ∨ k = 4 → vp_in (x3 + k) L) (hop : s_pure_add Rel) {H : Heap} {locs : List Loc} (hLS : s_LS Rel G cy (fun q : Nat => s.heap.size ≤ q) H aC aM) (hS : va_S (fun q : Nat => s.heap.size ≤ q) s.heap H locs) {ls : Array Slot} (hl : lv_has ls 4 [(0, .ref b), (1, .ref aC), (2, .ref aM), (3, .int x3)]) (hnext : ∀ (H : Heap) (locs : List Loc), s_LS Rel G cy (fun q : Nat => s.heap.size ≤ q) H aC aM → va_S (fun q : Nat => s.heap.size ≤ q) s.heap H locs → W p l e room_1 s m #[Value.ref b] below meth c H locs cells slots Q (F0 m 1116 ls [])) : W p l e room_1 s m #[Value.ref b] below meth c H locs cells slots Q (F0 m 622 ls []) := by
  have hbA : ¬ (fun q : Nat => s.heap.size ≤ q) b := Nat.not_le.mpr hbl
  obtain ⟨adC, adM, σC, σM, e1, e2, hR, hP, hD⟩ := hLS
  subst e1
  subst e2
  obtain ⟨r, σC1, σM1, hz1, hz2, hR1⟩ := hop σC σM hR (xs (Int32.toNatClampNeg (x3 + 1)))
  refine lv_aload_n hx hb dL_law_622 rfl (lv_at hl 1 rfl) ?_
  refine lv_aload_n hx hb dL_law_623 rfl (lv_at hl 0 rfl) ?_
  refine lv_iload_n hx hb dL_law_624 rfl (lv_at hl 3 rfl) ?_
  refine lv_iconst (v := 1) hx hb dL_law_625 (by decide) ?_
  refine lv_iadd hx hb dL_law_626 ?_
  refine va_sld hx hb hX hbl hbA hS (hi 1 (Or.inl rfl)) dL_law_627 ?_
  refine s_lcall (nn := 1) hx hb hml hown hts hK hE (fun _ h => h) (s_WC_ad cy adC) (kcX6_add (l := l) (G := G) (cy := cy) (sa := sa) (s_inj_of (s_WC_ad cy adC σC) hD) (sz := H.size) σC (xs (Int32.toNatClampNeg (x3 + 1))) hz1) gk_L_81 rfl rfl (by decide +kernel) ⟨Nat.le_of_ble_eq_true rfl, Nat.le_of_ble_eq_true rfl⟩ hcs1 hP hD hS (q0 := 0) (ci := 6) rfl rfl rfl (As := [.int (xs (Int32.toNatClampNeg (x3 + 1)))]) (rest := []) rfl rfl hl.1 (Nat.le_of_ble_eq_true rfl) dL_law_628 (fun H locs hP hD hS => ?_)
  replace hP := s_perm_P List.perm_append_comm hP
  replace hD := s_perm_D List.perm_append_comm hD
  refine lv_aload_n hx hb dL_law_631 rfl (lv_at hl 2 rfl) ?_
  refine lv_aload_n hx hb dL_law_632 rfl (lv_at hl 0 rfl) ?_
  refine lv_iload_n hx hb dL_law_633 rfl (lv_at hl 3 rfl) ?_
  refine lv_iconst (v := 1) hx hb dL_law_634 (by decide) ?_
  refine lv_iadd hx hb dL_law_635 ?_
  refine va_sld hx hb hX hbl hbA hS (hi 1 (Or.inl rfl)) dL_law_636 ?_
  refine s_lcall (nn := 1) hx hb hml hown hts hK hE (fun _ h => h) (s_WM_ad cy adM) (kcX7_add (l := l) (G := G) (cy := cy) (sa := sa) (s_inj_of (s_WM_ad cy adM σM) hD) (sz := H.size) σM (xs (Int32.toNatClampNeg (x3 + 1))) hz2) gk_L_84 rfl rfl (by decide +kernel) ⟨Nat.le_of_ble_eq_true rfl, Nat.le_of_ble_eq_true rfl⟩ hcs1 hP hD hS (q0 := 0) (ci := 7) rfl rfl rfl (As := [.int (xs (Int32.toNatClampNeg (x3 + 1)))]) (rest := [.int r]) rfl rfl hl.1 (Nat.le_of_ble_eq_true rfl) dL_law_637 (fun H locs hP hD hS => ?_)
  refine lv_icmp_eq (tgt := 1116) hx hb dL_law_640 (by decide) (fun _ => ?_) (fun c1 => absurd rfl c1)
  exact hnext H locs ⟨adC, adM, σC1, σM1, rfl, rfl, hR1, s_perm_P List.perm_append_comm hP, s_perm_D List.perm_append_comm hD⟩ hS
set_option maxRecDepth 100000 in
set_option maxHeartbeats 4000000 in
theorem lw_op_miss (hx : p.tables.exec = Jvm.exec) (hb : c.code = code) (hml : c.maxLocals = 4) (hown : s.vm.findClass RL = some m.cls) (hts : ∀ w ∈ kwL, w.before #[Value.ref b] s = true) (hK : va_K G vwCl (s_ty cy) s) (hE : s_E sa (fun q : Nat => s.heap.size ≤ q) s s.heap) (hX : va_X b L xs s s.heap) (hbl : b < s.heap.size) (hcs1 : cells ≤ room_1.cells ∧ slots ≤ room_1.slots) (hi : ∀ k : Int32, k = 1 ∨ k = 2 ∨ k = 3 ∨ k = 4 → vp_in (x3 + k) L) (hop : s_pure_miss Rel) {H : Heap} {locs : List Loc} (hLS : s_LS Rel G cy (fun q : Nat => s.heap.size ≤ q) H aC aM) (hS : va_S (fun q : Nat => s.heap.size ≤ q) s.heap H locs) {ls : Array Slot} (hl : lv_has ls 4 [(0, .ref b), (1, .ref aC), (2, .ref aM), (3, .int x3)]) (hnext : ∀ (H : Heap) (locs : List Loc), s_LS Rel G cy (fun q : Nat => s.heap.size ≤ q) H aC aM → va_S (fun q : Nat => s.heap.size ≤ q) s.heap H locs → W p l e room_1 s m #[Value.ref b] below meth c H locs cells slots Q (F0 m 1116 ls [])) : W p l e room_1 s m #[Value.ref b] below meth c H locs cells slots Q (F0 m 645 ls []) := by
  have hbA : ¬ (fun q : Nat => s.heap.size ≤ q) b := Nat.not_le.mpr hbl
  obtain ⟨adC, adM, σC, σM, e1, e2, hR, hP, hD⟩ := hLS
  subst e1
  subst e2
  obtain ⟨r, σC1, σM1, hz1, hz2, hR1⟩ := hop σC σM hR
  refine lv_aload_n hx hb dL_law_645 rfl (lv_at hl 1 rfl) ?_
  refine s_lcall (nn := 0) hx hb hml hown hts hK hE (fun _ h => h) (s_WC_ad cy adC) (kcX6_miss (l := l) (G := G) (cy := cy) (sa := sa) (s_inj_of (s_WC_ad cy adC σC) hD) (sz := H.size) σC hz1) gk_L_85 rfl rfl (by decide +kernel) ⟨Nat.le_of_ble_eq_true rfl, Nat.le_of_ble_eq_true rfl⟩ hcs1 hP hD hS (q0 := 0) (ci := 6) rfl rfl rfl (As := []) (rest := []) rfl rfl hl.1 (Nat.le_of_ble_eq_true rfl) dL_law_646 (fun H locs hP hD hS => ?_)
  replace hP := s_perm_P List.perm_append_comm hP
  replace hD := s_perm_D List.perm_append_comm hD
  refine lv_aload_n hx hb dL_law_649 rfl (lv_at hl 2 rfl) ?_
  refine s_lcall (nn := 0) hx hb hml hown hts hK hE (fun _ h => h) (s_WM_ad cy adM) (kcX7_miss (l := l) (G := G) (cy := cy) (sa := sa) (s_inj_of (s_WM_ad cy adM σM) hD) (sz := H.size) σM hz2) gk_L_88 rfl rfl (by decide +kernel) ⟨Nat.le_of_ble_eq_true rfl, Nat.le_of_ble_eq_true rfl⟩ hcs1 hP hD hS (q0 := 0) (ci := 7) rfl rfl rfl (As := []) (rest := [.int r]) rfl rfl hl.1 (Nat.le_of_ble_eq_true rfl) dL_law_650 (fun H locs hP hD hS => ?_)
  refine lv_icmp_eq (tgt := 1116) hx hb dL_law_653 (by decide) (fun _ => ?_) (fun c1 => absurd rfl c1)
  exact hnext H locs ⟨adC, adM, σC1, σM1, rfl, rfl, hR1, s_perm_P List.perm_append_comm hP, s_perm_D List.perm_append_comm hD⟩ hS
set_option maxRecDepth 100000 in
set_option maxHeartbeats 4000000 in
theorem lw_op_set (hx : p.tables.exec = Jvm.exec) (hb : c.code = code) (hml : c.maxLocals = 4) (hown : s.vm.findClass RL = some m.cls) (hts : ∀ w ∈ kwL, w.before #[Value.ref b] s = true) (hK : va_K G vwCl (s_ty cy) s) (hE : s_E sa (fun q : Nat => s.heap.size ≤ q) s s.heap) (hX : va_X b L xs s s.heap) (hbl : b < s.heap.size) (hcs1 : cells ≤ room_1.cells ∧ slots ≤ room_1.slots) (hi : ∀ k : Int32, k = 1 ∨ k = 2 ∨ k = 3 ∨ k = 4 → vp_in (x3 + k) L) (hop : s_pure_set Rel) {H : Heap} {locs : List Loc} (hLS : s_LS Rel G cy (fun q : Nat => s.heap.size ≤ q) H aC aM) (hS : va_S (fun q : Nat => s.heap.size ≤ q) s.heap H locs) {ls : Array Slot} (hl : lv_has ls 4 [(0, .ref b), (1, .ref aC), (2, .ref aM), (3, .int x3)]) (hnext : ∀ (H : Heap) (locs : List Loc), s_LS Rel G cy (fun q : Nat => s.heap.size ≤ q) H aC aM → va_S (fun q : Nat => s.heap.size ≤ q) s.heap H locs → W p l e room_1 s m #[Value.ref b] below meth c H locs cells slots Q (F0 m 1116 ls [])) : W p l e room_1 s m #[Value.ref b] below meth c H locs cells slots Q (F0 m 658 ls []) := by
  have hbA : ¬ (fun q : Nat => s.heap.size ≤ q) b := Nat.not_le.mpr hbl
  obtain ⟨adC, adM, σC, σM, e1, e2, hR, hP, hD⟩ := hLS
  subst e1
  subst e2
  obtain ⟨r, σC1, σM1, hz1, hz2, hR1⟩ := hop σC σM hR (xs (Int32.toNatClampNeg (x3 + 1))) (xs (Int32.toNatClampNeg (x3 + 2)))
  refine lv_aload_n hx hb dL_law_658 rfl (lv_at hl 1 rfl) ?_
  refine lv_aload_n hx hb dL_law_659 rfl (lv_at hl 0 rfl) ?_
  refine lv_iload_n hx hb dL_law_660 rfl (lv_at hl 3 rfl) ?_
  refine lv_iconst (v := 1) hx hb dL_law_661 (by decide) ?_
  refine lv_iadd hx hb dL_law_662 ?_
  refine va_sld hx hb hX hbl hbA hS (hi 1 (Or.inl rfl)) dL_law_663 ?_
  refine lv_aload_n hx hb dL_law_664 rfl (lv_at hl 0 rfl) ?_
  refine lv_iload_n hx hb dL_law_665 rfl (lv_at hl 3 rfl) ?_
  refine lv_iconst (v := 2) hx hb dL_law_666 (by decide) ?_
  refine lv_iadd hx hb dL_law_667 ?_
  refine va_sld hx hb hX hbl hbA hS (hi 2 (Or.inr (Or.inl rfl))) dL_law_668 ?_
  refine s_lcall (nn := 2) hx hb hml hown hts hK hE (fun _ h => h) (s_WC_ad cy adC) (kcX6_set (l := l) (G := G) (cy := cy) (sa := sa) (s_inj_of (s_WC_ad cy adC σC) hD) (sz := H.size) σC (xs (Int32.toNatClampNeg (x3 + 1))) (xs (Int32.toNatClampNeg (x3 + 2))) hz1) gk_L_89 rfl rfl (by decide +kernel) ⟨Nat.le_of_ble_eq_true rfl, Nat.le_of_ble_eq_true rfl⟩ hcs1 hP hD hS (q0 := 0) (ci := 6) rfl rfl rfl (As := [.int (xs (Int32.toNatClampNeg (x3 + 1))), .int (xs (Int32.toNatClampNeg (x3 + 2)))]) (rest := []) rfl rfl hl.1 (Nat.le_of_ble_eq_true rfl) dL_law_669 (fun H locs hP hD hS => ?_)
  replace hP := s_perm_P List.perm_append_comm hP
  replace hD := s_perm_D List.perm_append_comm hD
  refine lv_aload_n hx hb dL_law_672 rfl (lv_at hl 2 rfl) ?_
  refine lv_aload_n hx hb dL_law_673 rfl (lv_at hl 0 rfl) ?_
  refine lv_iload_n hx hb dL_law_674 rfl (lv_at hl 3 rfl) ?_
  refine lv_iconst (v := 1) hx hb dL_law_675 (by decide) ?_
  refine lv_iadd hx hb dL_law_676 ?_
  refine va_sld hx hb hX hbl hbA hS (hi 1 (Or.inl rfl)) dL_law_677 ?_
  refine lv_aload_n hx hb dL_law_678 rfl (lv_at hl 0 rfl) ?_
  refine lv_iload_n hx hb dL_law_679 rfl (lv_at hl 3 rfl) ?_
  refine lv_iconst (v := 2) hx hb dL_law_680 (by decide) ?_
  refine lv_iadd hx hb dL_law_681 ?_
  refine va_sld hx hb hX hbl hbA hS (hi 2 (Or.inr (Or.inl rfl))) dL_law_682 ?_
  refine s_lcall (nn := 2) hx hb hml hown hts hK hE (fun _ h => h) (s_WM_ad cy adM) (kcX7_set (l := l) (G := G) (cy := cy) (sa := sa) (s_inj_of (s_WM_ad cy adM σM) hD) (sz := H.size) σM (xs (Int32.toNatClampNeg (x3 + 1))) (xs (Int32.toNatClampNeg (x3 + 2))) hz2) gk_L_92 rfl rfl (by decide +kernel) ⟨Nat.le_of_ble_eq_true rfl, Nat.le_of_ble_eq_true rfl⟩ hcs1 hP hD hS (q0 := 0) (ci := 7) rfl rfl rfl (As := [.int (xs (Int32.toNatClampNeg (x3 + 1))), .int (xs (Int32.toNatClampNeg (x3 + 2)))]) (rest := [.int r]) rfl rfl hl.1 (Nat.le_of_ble_eq_true rfl) dL_law_683 (fun H locs hP hD hS => ?_)
  refine lv_icmp_eq (tgt := 1116) hx hb dL_law_686 (by decide) (fun _ => ?_) (fun c1 => absurd rfl c1)
  exact hnext H locs ⟨adC, adM, σC1, σM1, rfl, rfl, hR1, s_perm_P List.perm_append_comm hP, s_perm_D List.perm_append_comm hD⟩ hS
set_option maxRecDepth 100000 in
set_option maxHeartbeats 4000000 in
theorem lw_op_lose (hx : p.tables.exec = Jvm.exec) (hb : c.code = code) (hml : c.maxLocals = 4) (hown : s.vm.findClass RL = some m.cls) (hts : ∀ w ∈ kwL, w.before #[Value.ref b] s = true) (hK : va_K G vwCl (s_ty cy) s) (hE : s_E sa (fun q : Nat => s.heap.size ≤ q) s s.heap) (hX : va_X b L xs s s.heap) (hbl : b < s.heap.size) (hcs1 : cells ≤ room_1.cells ∧ slots ≤ room_1.slots) (hi : ∀ k : Int32, k = 1 ∨ k = 2 ∨ k = 3 ∨ k = 4 → vp_in (x3 + k) L) (hop : s_pure_lose Rel) {H : Heap} {locs : List Loc} (hLS : s_LS Rel G cy (fun q : Nat => s.heap.size ≤ q) H aC aM) (hS : va_S (fun q : Nat => s.heap.size ≤ q) s.heap H locs) {ls : Array Slot} (hl : lv_has ls 4 [(0, .ref b), (1, .ref aC), (2, .ref aM), (3, .int x3)]) (hnext : ∀ (H : Heap) (locs : List Loc), s_LS Rel G cy (fun q : Nat => s.heap.size ≤ q) H aC aM → va_S (fun q : Nat => s.heap.size ≤ q) s.heap H locs → W p l e room_1 s m #[Value.ref b] below meth c H locs cells slots Q (F0 m 1116 ls [])) : W p l e room_1 s m #[Value.ref b] below meth c H locs cells slots Q (F0 m 691 ls []) := by
  have hbA : ¬ (fun q : Nat => s.heap.size ≤ q) b := Nat.not_le.mpr hbl
  obtain ⟨adC, adM, σC, σM, e1, e2, hR, hP, hD⟩ := hLS
  subst e1
  subst e2
  obtain ⟨r, σC1, σM1, hz1, hz2, hR1⟩ := hop σC σM hR (xs (Int32.toNatClampNeg (x3 + 1)))
  refine lv_aload_n hx hb dL_law_691 rfl (lv_at hl 1 rfl) ?_
  refine lv_aload_n hx hb dL_law_692 rfl (lv_at hl 0 rfl) ?_
  refine lv_iload_n hx hb dL_law_693 rfl (lv_at hl 3 rfl) ?_
  refine lv_iconst (v := 1) hx hb dL_law_694 (by decide) ?_
  refine lv_iadd hx hb dL_law_695 ?_
  refine va_sld hx hb hX hbl hbA hS (hi 1 (Or.inl rfl)) dL_law_696 ?_
  refine s_lcall (nn := 1) hx hb hml hown hts hK hE (fun _ h => h) (s_WC_ad cy adC) (kcX6_lose (l := l) (G := G) (cy := cy) (sa := sa) (s_inj_of (s_WC_ad cy adC σC) hD) (sz := H.size) σC (xs (Int32.toNatClampNeg (x3 + 1))) hz1) gk_L_93 rfl rfl (by decide +kernel) ⟨Nat.le_of_ble_eq_true rfl, Nat.le_of_ble_eq_true rfl⟩ hcs1 hP hD hS (q0 := 0) (ci := 6) rfl rfl rfl (As := [.int (xs (Int32.toNatClampNeg (x3 + 1)))]) (rest := []) rfl rfl hl.1 (Nat.le_of_ble_eq_true rfl) dL_law_697 (fun H locs hP hD hS => ?_)
  replace hP := s_perm_P List.perm_append_comm hP
  replace hD := s_perm_D List.perm_append_comm hD
  refine lv_aload_n hx hb dL_law_700 rfl (lv_at hl 2 rfl) ?_
  refine lv_aload_n hx hb dL_law_701 rfl (lv_at hl 0 rfl) ?_
  refine lv_iload_n hx hb dL_law_702 rfl (lv_at hl 3 rfl) ?_
  refine lv_iconst (v := 1) hx hb dL_law_703 (by decide) ?_
  refine lv_iadd hx hb dL_law_704 ?_
  refine va_sld hx hb hX hbl hbA hS (hi 1 (Or.inl rfl)) dL_law_705 ?_
  refine s_lcall (nn := 1) hx hb hml hown hts hK hE (fun _ h => h) (s_WM_ad cy adM) (kcX7_lose (l := l) (G := G) (cy := cy) (sa := sa) (s_inj_of (s_WM_ad cy adM σM) hD) (sz := H.size) σM (xs (Int32.toNatClampNeg (x3 + 1))) hz2) gk_L_96 rfl rfl (by decide +kernel) ⟨Nat.le_of_ble_eq_true rfl, Nat.le_of_ble_eq_true rfl⟩ hcs1 hP hD hS (q0 := 0) (ci := 7) rfl rfl rfl (As := [.int (xs (Int32.toNatClampNeg (x3 + 1)))]) (rest := [.int r]) rfl rfl hl.1 (Nat.le_of_ble_eq_true rfl) dL_law_706 (fun H locs hP hD hS => ?_)
  refine lv_icmp_eq (tgt := 1116) hx hb dL_law_709 (by decide) (fun _ => ?_) (fun c1 => absurd rfl c1)
  exact hnext H locs ⟨adC, adM, σC1, σM1, rfl, rfl, hR1, s_perm_P List.perm_append_comm hP, s_perm_D List.perm_append_comm hD⟩ hS
set_option maxRecDepth 100000 in
set_option maxHeartbeats 4000000 in
theorem lw_op_drop (hx : p.tables.exec = Jvm.exec) (hb : c.code = code) (hml : c.maxLocals = 4) (hown : s.vm.findClass RL = some m.cls) (hts : ∀ w ∈ kwL, w.before #[Value.ref b] s = true) (hK : va_K G vwCl (s_ty cy) s) (hE : s_E sa (fun q : Nat => s.heap.size ≤ q) s s.heap) (hX : va_X b L xs s s.heap) (hbl : b < s.heap.size) (hcs1 : cells ≤ room_1.cells ∧ slots ≤ room_1.slots) (hi : ∀ k : Int32, k = 1 ∨ k = 2 ∨ k = 3 ∨ k = 4 → vp_in (x3 + k) L) (hop : s_pure_drop Rel) {H : Heap} {locs : List Loc} (hLS : s_LS Rel G cy (fun q : Nat => s.heap.size ≤ q) H aC aM) (hS : va_S (fun q : Nat => s.heap.size ≤ q) s.heap H locs) {ls : Array Slot} (hl : lv_has ls 4 [(0, .ref b), (1, .ref aC), (2, .ref aM), (3, .int x3)]) (hnext : ∀ (H : Heap) (locs : List Loc), s_LS Rel G cy (fun q : Nat => s.heap.size ≤ q) H aC aM → va_S (fun q : Nat => s.heap.size ≤ q) s.heap H locs → W p l e room_1 s m #[Value.ref b] below meth c H locs cells slots Q (F0 m 1116 ls [])) : W p l e room_1 s m #[Value.ref b] below meth c H locs cells slots Q (F0 m 714 ls []) := by
  have hbA : ¬ (fun q : Nat => s.heap.size ≤ q) b := Nat.not_le.mpr hbl
  obtain ⟨adC, adM, σC, σM, e1, e2, hR, hP, hD⟩ := hLS
  subst e1
  subst e2
  obtain ⟨r, σC1, σM1, hz1, hz2, hR1⟩ := hop σC σM hR (xs (Int32.toNatClampNeg (x3 + 1)))
  refine lv_aload_n hx hb dL_law_714 rfl (lv_at hl 1 rfl) ?_
  refine lv_aload_n hx hb dL_law_715 rfl (lv_at hl 0 rfl) ?_
  refine lv_iload_n hx hb dL_law_716 rfl (lv_at hl 3 rfl) ?_
  refine lv_iconst (v := 1) hx hb dL_law_717 (by decide) ?_
  refine lv_iadd hx hb dL_law_718 ?_
  refine va_sld hx hb hX hbl hbA hS (hi 1 (Or.inl rfl)) dL_law_719 ?_
  refine s_lcall (nn := 1) hx hb hml hown hts hK hE (fun _ h => h) (s_WC_ad cy adC) (kcX6_drop (l := l) (G := G) (cy := cy) (sa := sa) (s_inj_of (s_WC_ad cy adC σC) hD) (sz := H.size) σC (xs (Int32.toNatClampNeg (x3 + 1))) hz1) gk_L_97 rfl rfl (by decide +kernel) ⟨Nat.le_of_ble_eq_true rfl, Nat.le_of_ble_eq_true rfl⟩ hcs1 hP hD hS (q0 := 0) (ci := 6) rfl rfl rfl (As := [.int (xs (Int32.toNatClampNeg (x3 + 1)))]) (rest := []) rfl rfl hl.1 (Nat.le_of_ble_eq_true rfl) dL_law_720 (fun H locs hP hD hS => ?_)
  replace hP := s_perm_P List.perm_append_comm hP
  replace hD := s_perm_D List.perm_append_comm hD
  refine lv_aload_n hx hb dL_law_723 rfl (lv_at hl 2 rfl) ?_
  refine lv_aload_n hx hb dL_law_724 rfl (lv_at hl 0 rfl) ?_
  refine lv_iload_n hx hb dL_law_725 rfl (lv_at hl 3 rfl) ?_
  refine lv_iconst (v := 1) hx hb dL_law_726 (by decide) ?_
  refine lv_iadd hx hb dL_law_727 ?_
  refine va_sld hx hb hX hbl hbA hS (hi 1 (Or.inl rfl)) dL_law_728 ?_
  refine s_lcall (nn := 1) hx hb hml hown hts hK hE (fun _ h => h) (s_WM_ad cy adM) (kcX7_drop (l := l) (G := G) (cy := cy) (sa := sa) (s_inj_of (s_WM_ad cy adM σM) hD) (sz := H.size) σM (xs (Int32.toNatClampNeg (x3 + 1))) hz2) gk_L_100 rfl rfl (by decide +kernel) ⟨Nat.le_of_ble_eq_true rfl, Nat.le_of_ble_eq_true rfl⟩ hcs1 hP hD hS (q0 := 0) (ci := 7) rfl rfl rfl (As := [.int (xs (Int32.toNatClampNeg (x3 + 1)))]) (rest := [.int r]) rfl rfl hl.1 (Nat.le_of_ble_eq_true rfl) dL_law_729 (fun H locs hP hD hS => ?_)
  refine lv_icmp_eq (tgt := 1116) hx hb dL_law_732 (by decide) (fun _ => ?_) (fun c1 => absurd rfl c1)
  exact hnext H locs ⟨adC, adM, σC1, σM1, rfl, rfl, hR1, s_perm_P List.perm_append_comm hP, s_perm_D List.perm_append_comm hD⟩ hS
set_option maxRecDepth 100000 in
set_option maxHeartbeats 4000000 in
theorem lw_op_width (hx : p.tables.exec = Jvm.exec) (hb : c.code = code) (hml : c.maxLocals = 4) (hown : s.vm.findClass RL = some m.cls) (hts : ∀ w ∈ kwL, w.before #[Value.ref b] s = true) (hK : va_K G vwCl (s_ty cy) s) (hE : s_E sa (fun q : Nat => s.heap.size ≤ q) s s.heap) (hX : va_X b L xs s s.heap) (hbl : b < s.heap.size) (hcs1 : cells ≤ room_1.cells ∧ slots ≤ room_1.slots) (hi : ∀ k : Int32, k = 1 ∨ k = 2 ∨ k = 3 ∨ k = 4 → vp_in (x3 + k) L) (hop : s_pure_width Rel) {H : Heap} {locs : List Loc} (hLS : s_LS Rel G cy (fun q : Nat => s.heap.size ≤ q) H aC aM) (hS : va_S (fun q : Nat => s.heap.size ≤ q) s.heap H locs) {ls : Array Slot} (hl : lv_has ls 4 [(0, .ref b), (1, .ref aC), (2, .ref aM), (3, .int x3)]) (hnext : ∀ (H : Heap) (locs : List Loc), s_LS Rel G cy (fun q : Nat => s.heap.size ≤ q) H aC aM → va_S (fun q : Nat => s.heap.size ≤ q) s.heap H locs → W p l e room_1 s m #[Value.ref b] below meth c H locs cells slots Q (F0 m 1116 ls [])) : W p l e room_1 s m #[Value.ref b] below meth c H locs cells slots Q (F0 m 737 ls []) := by
  have hbA : ¬ (fun q : Nat => s.heap.size ≤ q) b := Nat.not_le.mpr hbl
  obtain ⟨adC, adM, σC, σM, e1, e2, hR, hP, hD⟩ := hLS
  subst e1
  subst e2
  obtain ⟨r, σC1, σM1, hz1, hz2, hR1⟩ := hop σC σM hR (xs (Int32.toNatClampNeg (x3 + 1)))
  refine lv_aload_n hx hb dL_law_737 rfl (lv_at hl 1 rfl) ?_
  refine lv_aload_n hx hb dL_law_738 rfl (lv_at hl 0 rfl) ?_
  refine lv_iload_n hx hb dL_law_739 rfl (lv_at hl 3 rfl) ?_
  refine lv_iconst (v := 1) hx hb dL_law_740 (by decide) ?_
  refine lv_iadd hx hb dL_law_741 ?_
  refine va_sld hx hb hX hbl hbA hS (hi 1 (Or.inl rfl)) dL_law_742 ?_
  refine s_lcall (nn := 1) hx hb hml hown hts hK hE (fun _ h => h) (s_WC_ad cy adC) (kcX6_width (l := l) (G := G) (cy := cy) (sa := sa) (s_inj_of (s_WC_ad cy adC σC) hD) (sz := H.size) σC (xs (Int32.toNatClampNeg (x3 + 1))) hz1) gk_L_101 rfl rfl (by decide +kernel) ⟨Nat.le_of_ble_eq_true rfl, Nat.le_of_ble_eq_true rfl⟩ hcs1 hP hD hS (q0 := 0) (ci := 6) rfl rfl rfl (As := [.int (xs (Int32.toNatClampNeg (x3 + 1)))]) (rest := []) rfl rfl hl.1 (Nat.le_of_ble_eq_true rfl) dL_law_743 (fun H locs hP hD hS => ?_)
  replace hP := s_perm_P List.perm_append_comm hP
  replace hD := s_perm_D List.perm_append_comm hD
  refine lv_aload_n hx hb dL_law_746 rfl (lv_at hl 2 rfl) ?_
  refine lv_aload_n hx hb dL_law_747 rfl (lv_at hl 0 rfl) ?_
  refine lv_iload_n hx hb dL_law_748 rfl (lv_at hl 3 rfl) ?_
  refine lv_iconst (v := 1) hx hb dL_law_749 (by decide) ?_
  refine lv_iadd hx hb dL_law_750 ?_
  refine va_sld hx hb hX hbl hbA hS (hi 1 (Or.inl rfl)) dL_law_751 ?_
  refine s_lcall (nn := 1) hx hb hml hown hts hK hE (fun _ h => h) (s_WM_ad cy adM) (kcX7_width (l := l) (G := G) (cy := cy) (sa := sa) (s_inj_of (s_WM_ad cy adM σM) hD) (sz := H.size) σM (xs (Int32.toNatClampNeg (x3 + 1))) hz2) gk_L_104 rfl rfl (by decide +kernel) ⟨Nat.le_of_ble_eq_true rfl, Nat.le_of_ble_eq_true rfl⟩ hcs1 hP hD hS (q0 := 0) (ci := 7) rfl rfl rfl (As := [.int (xs (Int32.toNatClampNeg (x3 + 1)))]) (rest := [.int r]) rfl rfl hl.1 (Nat.le_of_ble_eq_true rfl) dL_law_752 (fun H locs hP hD hS => ?_)
  refine lv_icmp_eq (tgt := 1116) hx hb dL_law_755 (by decide) (fun _ => ?_) (fun c1 => absurd rfl c1)
  exact hnext H locs ⟨adC, adM, σC1, σM1, rfl, rfl, hR1, s_perm_P List.perm_append_comm hP, s_perm_D List.perm_append_comm hD⟩ hS
set_option maxRecDepth 100000 in
set_option maxHeartbeats 4000000 in
theorem lw_op_need (hx : p.tables.exec = Jvm.exec) (hb : c.code = code) (hml : c.maxLocals = 4) (hown : s.vm.findClass RL = some m.cls) (hts : ∀ w ∈ kwL, w.before #[Value.ref b] s = true) (hK : va_K G vwCl (s_ty cy) s) (hE : s_E sa (fun q : Nat => s.heap.size ≤ q) s s.heap) (hX : va_X b L xs s s.heap) (hbl : b < s.heap.size) (hcs1 : cells ≤ room_1.cells ∧ slots ≤ room_1.slots) (hi : ∀ k : Int32, k = 1 ∨ k = 2 ∨ k = 3 ∨ k = 4 → vp_in (x3 + k) L) (hop : s_pure_need Rel) {H : Heap} {locs : List Loc} (hLS : s_LS Rel G cy (fun q : Nat => s.heap.size ≤ q) H aC aM) (hS : va_S (fun q : Nat => s.heap.size ≤ q) s.heap H locs) {ls : Array Slot} (hl : lv_has ls 4 [(0, .ref b), (1, .ref aC), (2, .ref aM), (3, .int x3)]) (hnext : ∀ (H : Heap) (locs : List Loc), s_LS Rel G cy (fun q : Nat => s.heap.size ≤ q) H aC aM → va_S (fun q : Nat => s.heap.size ≤ q) s.heap H locs → W p l e room_1 s m #[Value.ref b] below meth c H locs cells slots Q (F0 m 1116 ls [])) : W p l e room_1 s m #[Value.ref b] below meth c H locs cells slots Q (F0 m 760 ls []) := by
  have hbA : ¬ (fun q : Nat => s.heap.size ≤ q) b := Nat.not_le.mpr hbl
  obtain ⟨adC, adM, σC, σM, e1, e2, hR, hP, hD⟩ := hLS
  subst e1
  subst e2
  obtain ⟨r, σC1, σM1, hz1, hz2, hR1⟩ := hop σC σM hR (xs (Int32.toNatClampNeg (x3 + 1)))
  refine lv_aload_n hx hb dL_law_760 rfl (lv_at hl 1 rfl) ?_
  refine lv_aload_n hx hb dL_law_761 rfl (lv_at hl 0 rfl) ?_
  refine lv_iload_n hx hb dL_law_762 rfl (lv_at hl 3 rfl) ?_
  refine lv_iconst (v := 1) hx hb dL_law_763 (by decide) ?_
  refine lv_iadd hx hb dL_law_764 ?_
  refine va_sld hx hb hX hbl hbA hS (hi 1 (Or.inl rfl)) dL_law_765 ?_
  refine s_lcall (nn := 1) hx hb hml hown hts hK hE (fun _ h => h) (s_WC_ad cy adC) (kcX6_need (l := l) (G := G) (cy := cy) (sa := sa) (s_inj_of (s_WC_ad cy adC σC) hD) (sz := H.size) σC (xs (Int32.toNatClampNeg (x3 + 1))) hz1) gk_L_105 rfl rfl (by decide +kernel) ⟨Nat.le_of_ble_eq_true rfl, Nat.le_of_ble_eq_true rfl⟩ hcs1 hP hD hS (q0 := 0) (ci := 6) rfl rfl rfl (As := [.int (xs (Int32.toNatClampNeg (x3 + 1)))]) (rest := []) rfl rfl hl.1 (Nat.le_of_ble_eq_true rfl) dL_law_766 (fun H locs hP hD hS => ?_)
  replace hP := s_perm_P List.perm_append_comm hP
  replace hD := s_perm_D List.perm_append_comm hD
  refine lv_aload_n hx hb dL_law_769 rfl (lv_at hl 2 rfl) ?_
  refine lv_aload_n hx hb dL_law_770 rfl (lv_at hl 0 rfl) ?_
  refine lv_iload_n hx hb dL_law_771 rfl (lv_at hl 3 rfl) ?_
  refine lv_iconst (v := 1) hx hb dL_law_772 (by decide) ?_
  refine lv_iadd hx hb dL_law_773 ?_
  refine va_sld hx hb hX hbl hbA hS (hi 1 (Or.inl rfl)) dL_law_774 ?_
  refine s_lcall (nn := 1) hx hb hml hown hts hK hE (fun _ h => h) (s_WM_ad cy adM) (kcX7_need (l := l) (G := G) (cy := cy) (sa := sa) (s_inj_of (s_WM_ad cy adM σM) hD) (sz := H.size) σM (xs (Int32.toNatClampNeg (x3 + 1))) hz2) gk_L_108 rfl rfl (by decide +kernel) ⟨Nat.le_of_ble_eq_true rfl, Nat.le_of_ble_eq_true rfl⟩ hcs1 hP hD hS (q0 := 0) (ci := 7) rfl rfl rfl (As := [.int (xs (Int32.toNatClampNeg (x3 + 1)))]) (rest := [.int r]) rfl rfl hl.1 (Nat.le_of_ble_eq_true rfl) dL_law_775 (fun H locs hP hD hS => ?_)
  refine lv_icmp_eq (tgt := 1116) hx hb dL_law_778 (by decide) (fun _ => ?_) (fun c1 => absurd rfl c1)
  exact hnext H locs ⟨adC, adM, σC1, σM1, rfl, rfl, hR1, s_perm_P List.perm_append_comm hP, s_perm_D List.perm_append_comm hD⟩ hS
set_option maxRecDepth 100000 in
set_option maxHeartbeats 4000000 in
theorem lw_op_part (hx : p.tables.exec = Jvm.exec) (hb : c.code = code) (hml : c.maxLocals = 4) (hown : s.vm.findClass RL = some m.cls) (hts : ∀ w ∈ kwL, w.before #[Value.ref b] s = true) (hK : va_K G vwCl (s_ty cy) s) (hE : s_E sa (fun q : Nat => s.heap.size ≤ q) s s.heap) (hX : va_X b L xs s s.heap) (hbl : b < s.heap.size) (hcs1 : cells ≤ room_1.cells ∧ slots ≤ room_1.slots) (hi : ∀ k : Int32, k = 1 ∨ k = 2 ∨ k = 3 ∨ k = 4 → vp_in (x3 + k) L) (hop : s_pure_part Rel) {H : Heap} {locs : List Loc} (hLS : s_LS Rel G cy (fun q : Nat => s.heap.size ≤ q) H aC aM) (hS : va_S (fun q : Nat => s.heap.size ≤ q) s.heap H locs) {ls : Array Slot} (hl : lv_has ls 4 [(0, .ref b), (1, .ref aC), (2, .ref aM), (3, .int x3)]) (hnext : ∀ (H : Heap) (locs : List Loc), s_LS Rel G cy (fun q : Nat => s.heap.size ≤ q) H aC aM → va_S (fun q : Nat => s.heap.size ≤ q) s.heap H locs → W p l e room_1 s m #[Value.ref b] below meth c H locs cells slots Q (F0 m 1116 ls [])) : W p l e room_1 s m #[Value.ref b] below meth c H locs cells slots Q (F0 m 783 ls []) := by
  have hbA : ¬ (fun q : Nat => s.heap.size ≤ q) b := Nat.not_le.mpr hbl
  obtain ⟨adC, adM, σC, σM, e1, e2, hR, hP, hD⟩ := hLS
  subst e1
  subst e2
  obtain ⟨r, σC1, σM1, hz1, hz2, hR1⟩ := hop σC σM hR (xs (Int32.toNatClampNeg (x3 + 1))) (xs (Int32.toNatClampNeg (x3 + 2)))
  refine lv_aload_n hx hb dL_law_783 rfl (lv_at hl 1 rfl) ?_
  refine lv_aload_n hx hb dL_law_784 rfl (lv_at hl 0 rfl) ?_
  refine lv_iload_n hx hb dL_law_785 rfl (lv_at hl 3 rfl) ?_
  refine lv_iconst (v := 1) hx hb dL_law_786 (by decide) ?_
  refine lv_iadd hx hb dL_law_787 ?_
  refine va_sld hx hb hX hbl hbA hS (hi 1 (Or.inl rfl)) dL_law_788 ?_
  refine lv_aload_n hx hb dL_law_789 rfl (lv_at hl 0 rfl) ?_
  refine lv_iload_n hx hb dL_law_790 rfl (lv_at hl 3 rfl) ?_
  refine lv_iconst (v := 2) hx hb dL_law_791 (by decide) ?_
  refine lv_iadd hx hb dL_law_792 ?_
  refine va_sld hx hb hX hbl hbA hS (hi 2 (Or.inr (Or.inl rfl))) dL_law_793 ?_
  refine s_lcall (nn := 2) hx hb hml hown hts hK hE (fun _ h => h) (s_WC_ad cy adC) (kcX6_part (l := l) (G := G) (cy := cy) (sa := sa) (s_inj_of (s_WC_ad cy adC σC) hD) (sz := H.size) σC (xs (Int32.toNatClampNeg (x3 + 1))) (xs (Int32.toNatClampNeg (x3 + 2))) hz1) gk_L_109 rfl rfl (by decide +kernel) ⟨Nat.le_of_ble_eq_true rfl, Nat.le_of_ble_eq_true rfl⟩ hcs1 hP hD hS (q0 := 0) (ci := 6) rfl rfl rfl (As := [.int (xs (Int32.toNatClampNeg (x3 + 1))), .int (xs (Int32.toNatClampNeg (x3 + 2)))]) (rest := []) rfl rfl hl.1 (Nat.le_of_ble_eq_true rfl) dL_law_794 (fun H locs hP hD hS => ?_)
  replace hP := s_perm_P List.perm_append_comm hP
  replace hD := s_perm_D List.perm_append_comm hD
  refine lv_aload_n hx hb dL_law_797 rfl (lv_at hl 2 rfl) ?_
  refine lv_aload_n hx hb dL_law_798 rfl (lv_at hl 0 rfl) ?_
  refine lv_iload_n hx hb dL_law_799 rfl (lv_at hl 3 rfl) ?_
  refine lv_iconst (v := 1) hx hb dL_law_800 (by decide) ?_
  refine lv_iadd hx hb dL_law_801 ?_
  refine va_sld hx hb hX hbl hbA hS (hi 1 (Or.inl rfl)) dL_law_802 ?_
  refine lv_aload_n hx hb dL_law_803 rfl (lv_at hl 0 rfl) ?_
  refine lv_iload_n hx hb dL_law_804 rfl (lv_at hl 3 rfl) ?_
  refine lv_iconst (v := 2) hx hb dL_law_805 (by decide) ?_
  refine lv_iadd hx hb dL_law_806 ?_
  refine va_sld hx hb hX hbl hbA hS (hi 2 (Or.inr (Or.inl rfl))) dL_law_807 ?_
  refine s_lcall (nn := 2) hx hb hml hown hts hK hE (fun _ h => h) (s_WM_ad cy adM) (kcX7_part (l := l) (G := G) (cy := cy) (sa := sa) (s_inj_of (s_WM_ad cy adM σM) hD) (sz := H.size) σM (xs (Int32.toNatClampNeg (x3 + 1))) (xs (Int32.toNatClampNeg (x3 + 2))) hz2) gk_L_112 rfl rfl (by decide +kernel) ⟨Nat.le_of_ble_eq_true rfl, Nat.le_of_ble_eq_true rfl⟩ hcs1 hP hD hS (q0 := 0) (ci := 7) rfl rfl rfl (As := [.int (xs (Int32.toNatClampNeg (x3 + 1))), .int (xs (Int32.toNatClampNeg (x3 + 2)))]) (rest := [.int r]) rfl rfl hl.1 (Nat.le_of_ble_eq_true rfl) dL_law_808 (fun H locs hP hD hS => ?_)
  refine lv_icmp_eq (tgt := 1116) hx hb dL_law_811 (by decide) (fun _ => ?_) (fun c1 => absurd rfl c1)
  exact hnext H locs ⟨adC, adM, σC1, σM1, rfl, rfl, hR1, s_perm_P List.perm_append_comm hP, s_perm_D List.perm_append_comm hD⟩ hS
set_option maxRecDepth 100000 in
set_option maxHeartbeats 4000000 in
theorem lw_op_choose (hx : p.tables.exec = Jvm.exec) (hb : c.code = code) (hml : c.maxLocals = 4) (hown : s.vm.findClass RL = some m.cls) (hts : ∀ w ∈ kwL, w.before #[Value.ref b] s = true) (hK : va_K G vwCl (s_ty cy) s) (hE : s_E sa (fun q : Nat => s.heap.size ≤ q) s s.heap) (hX : va_X b L xs s s.heap) (hbl : b < s.heap.size) (hcs1 : cells ≤ room_1.cells ∧ slots ≤ room_1.slots) (hi : ∀ k : Int32, k = 1 ∨ k = 2 ∨ k = 3 ∨ k = 4 → vp_in (x3 + k) L) (hop : s_pure_choose Rel) {H : Heap} {locs : List Loc} (hLS : s_LS Rel G cy (fun q : Nat => s.heap.size ≤ q) H aC aM) (hS : va_S (fun q : Nat => s.heap.size ≤ q) s.heap H locs) {ls : Array Slot} (hl : lv_has ls 4 [(0, .ref b), (1, .ref aC), (2, .ref aM), (3, .int x3)]) (hnext : ∀ (H : Heap) (locs : List Loc), s_LS Rel G cy (fun q : Nat => s.heap.size ≤ q) H aC aM → va_S (fun q : Nat => s.heap.size ≤ q) s.heap H locs → W p l e room_1 s m #[Value.ref b] below meth c H locs cells slots Q (F0 m 1116 ls [])) : W p l e room_1 s m #[Value.ref b] below meth c H locs cells slots Q (F0 m 816 ls []) := by
  have hbA : ¬ (fun q : Nat => s.heap.size ≤ q) b := Nat.not_le.mpr hbl
  obtain ⟨adC, adM, σC, σM, e1, e2, hR, hP, hD⟩ := hLS
  subst e1
  subst e2
  obtain ⟨r, σC1, σM1, hz1, hz2, hR1⟩ := hop σC σM hR (xs (Int32.toNatClampNeg (x3 + 1)))
  refine lv_aload_n hx hb dL_law_816 rfl (lv_at hl 1 rfl) ?_
  refine lv_aload_n hx hb dL_law_817 rfl (lv_at hl 0 rfl) ?_
  refine lv_iload_n hx hb dL_law_818 rfl (lv_at hl 3 rfl) ?_
  refine lv_iconst (v := 1) hx hb dL_law_819 (by decide) ?_
  refine lv_iadd hx hb dL_law_820 ?_
  refine va_sld hx hb hX hbl hbA hS (hi 1 (Or.inl rfl)) dL_law_821 ?_
  refine s_lcall (nn := 1) hx hb hml hown hts hK hE (fun _ h => h) (s_WC_ad cy adC) (kcX6_choose (l := l) (G := G) (cy := cy) (sa := sa) (s_inj_of (s_WC_ad cy adC σC) hD) (sz := H.size) σC (xs (Int32.toNatClampNeg (x3 + 1))) hz1) gk_L_113 rfl rfl (by decide +kernel) ⟨Nat.le_of_ble_eq_true rfl, Nat.le_of_ble_eq_true rfl⟩ hcs1 hP hD hS (q0 := 0) (ci := 6) rfl rfl rfl (As := [.int (xs (Int32.toNatClampNeg (x3 + 1)))]) (rest := []) rfl rfl hl.1 (Nat.le_of_ble_eq_true rfl) dL_law_822 (fun H locs hP hD hS => ?_)
  replace hP := s_perm_P List.perm_append_comm hP
  replace hD := s_perm_D List.perm_append_comm hD
  refine lv_aload_n hx hb dL_law_825 rfl (lv_at hl 2 rfl) ?_
  refine lv_aload_n hx hb dL_law_826 rfl (lv_at hl 0 rfl) ?_
  refine lv_iload_n hx hb dL_law_827 rfl (lv_at hl 3 rfl) ?_
  refine lv_iconst (v := 1) hx hb dL_law_828 (by decide) ?_
  refine lv_iadd hx hb dL_law_829 ?_
  refine va_sld hx hb hX hbl hbA hS (hi 1 (Or.inl rfl)) dL_law_830 ?_
  refine s_lcall (nn := 1) hx hb hml hown hts hK hE (fun _ h => h) (s_WM_ad cy adM) (kcX7_choose (l := l) (G := G) (cy := cy) (sa := sa) (s_inj_of (s_WM_ad cy adM σM) hD) (sz := H.size) σM (xs (Int32.toNatClampNeg (x3 + 1))) hz2) gk_L_116 rfl rfl (by decide +kernel) ⟨Nat.le_of_ble_eq_true rfl, Nat.le_of_ble_eq_true rfl⟩ hcs1 hP hD hS (q0 := 0) (ci := 7) rfl rfl rfl (As := [.int (xs (Int32.toNatClampNeg (x3 + 1)))]) (rest := [.int r]) rfl rfl hl.1 (Nat.le_of_ble_eq_true rfl) dL_law_831 (fun H locs hP hD hS => ?_)
  refine lv_icmp_eq (tgt := 1116) hx hb dL_law_834 (by decide) (fun _ => ?_) (fun c1 => absurd rfl c1)
  exact hnext H locs ⟨adC, adM, σC1, σM1, rfl, rfl, hR1, s_perm_P List.perm_append_comm hP, s_perm_D List.perm_append_comm hD⟩ hS
set_option maxRecDepth 100000 in
set_option maxHeartbeats 4000000 in
theorem lw_op_form (hx : p.tables.exec = Jvm.exec) (hb : c.code = code) (hml : c.maxLocals = 4) (hown : s.vm.findClass RL = some m.cls) (hts : ∀ w ∈ kwL, w.before #[Value.ref b] s = true) (hK : va_K G vwCl (s_ty cy) s) (hE : s_E sa (fun q : Nat => s.heap.size ≤ q) s s.heap) (hX : va_X b L xs s s.heap) (hbl : b < s.heap.size) (hcs1 : cells ≤ room_1.cells ∧ slots ≤ room_1.slots) (hi : ∀ k : Int32, k = 1 ∨ k = 2 ∨ k = 3 ∨ k = 4 → vp_in (x3 + k) L) (hop : s_pure_form Rel) {H : Heap} {locs : List Loc} (hLS : s_LS Rel G cy (fun q : Nat => s.heap.size ≤ q) H aC aM) (hS : va_S (fun q : Nat => s.heap.size ≤ q) s.heap H locs) {ls : Array Slot} (hl : lv_has ls 4 [(0, .ref b), (1, .ref aC), (2, .ref aM), (3, .int x3)]) (hnext : ∀ (H : Heap) (locs : List Loc), s_LS Rel G cy (fun q : Nat => s.heap.size ≤ q) H aC aM → va_S (fun q : Nat => s.heap.size ≤ q) s.heap H locs → W p l e room_1 s m #[Value.ref b] below meth c H locs cells slots Q (F0 m 1116 ls [])) : W p l e room_1 s m #[Value.ref b] below meth c H locs cells slots Q (F0 m 839 ls []) := by
  have hbA : ¬ (fun q : Nat => s.heap.size ≤ q) b := Nat.not_le.mpr hbl
  obtain ⟨adC, adM, σC, σM, e1, e2, hR, hP, hD⟩ := hLS
  subst e1
  subst e2
  obtain ⟨r, σC1, σM1, hz1, hz2, hR1⟩ := hop σC σM hR (xs (Int32.toNatClampNeg (x3 + 1)))
  refine lv_aload_n hx hb dL_law_839 rfl (lv_at hl 1 rfl) ?_
  refine lv_aload_n hx hb dL_law_840 rfl (lv_at hl 0 rfl) ?_
  refine lv_iload_n hx hb dL_law_841 rfl (lv_at hl 3 rfl) ?_
  refine lv_iconst (v := 1) hx hb dL_law_842 (by decide) ?_
  refine lv_iadd hx hb dL_law_843 ?_
  refine va_sld hx hb hX hbl hbA hS (hi 1 (Or.inl rfl)) dL_law_844 ?_
  refine s_lcall (nn := 1) hx hb hml hown hts hK hE (fun _ h => h) (s_WC_ad cy adC) (kcX6_form (l := l) (G := G) (cy := cy) (sa := sa) (s_inj_of (s_WC_ad cy adC σC) hD) (sz := H.size) σC (xs (Int32.toNatClampNeg (x3 + 1))) hz1) gk_L_117 rfl rfl (by decide +kernel) ⟨Nat.le_of_ble_eq_true rfl, Nat.le_of_ble_eq_true rfl⟩ hcs1 hP hD hS (q0 := 0) (ci := 6) rfl rfl rfl (As := [.int (xs (Int32.toNatClampNeg (x3 + 1)))]) (rest := []) rfl rfl hl.1 (Nat.le_of_ble_eq_true rfl) dL_law_845 (fun H locs hP hD hS => ?_)
  replace hP := s_perm_P List.perm_append_comm hP
  replace hD := s_perm_D List.perm_append_comm hD
  refine lv_aload_n hx hb dL_law_848 rfl (lv_at hl 2 rfl) ?_
  refine lv_aload_n hx hb dL_law_849 rfl (lv_at hl 0 rfl) ?_
  refine lv_iload_n hx hb dL_law_850 rfl (lv_at hl 3 rfl) ?_
  refine lv_iconst (v := 1) hx hb dL_law_851 (by decide) ?_
  refine lv_iadd hx hb dL_law_852 ?_
  refine va_sld hx hb hX hbl hbA hS (hi 1 (Or.inl rfl)) dL_law_853 ?_
  refine s_lcall (nn := 1) hx hb hml hown hts hK hE (fun _ h => h) (s_WM_ad cy adM) (kcX7_form (l := l) (G := G) (cy := cy) (sa := sa) (s_inj_of (s_WM_ad cy adM σM) hD) (sz := H.size) σM (xs (Int32.toNatClampNeg (x3 + 1))) hz2) gk_L_120 rfl rfl (by decide +kernel) ⟨Nat.le_of_ble_eq_true rfl, Nat.le_of_ble_eq_true rfl⟩ hcs1 hP hD hS (q0 := 0) (ci := 7) rfl rfl rfl (As := [.int (xs (Int32.toNatClampNeg (x3 + 1)))]) (rest := [.int r]) rfl rfl hl.1 (Nat.le_of_ble_eq_true rfl) dL_law_854 (fun H locs hP hD hS => ?_)
  refine lv_icmp_eq (tgt := 1116) hx hb dL_law_857 (by decide) (fun _ => ?_) (fun c1 => absurd rfl c1)
  exact hnext H locs ⟨adC, adM, σC1, σM1, rfl, rfl, hR1, s_perm_P List.perm_append_comm hP, s_perm_D List.perm_append_comm hD⟩ hS
set_option maxRecDepth 100000 in
set_option maxHeartbeats 4000000 in
theorem lw_op_drift (hx : p.tables.exec = Jvm.exec) (hb : c.code = code) (hml : c.maxLocals = 4) (hown : s.vm.findClass RL = some m.cls) (hts : ∀ w ∈ kwL, w.before #[Value.ref b] s = true) (hK : va_K G vwCl (s_ty cy) s) (hE : s_E sa (fun q : Nat => s.heap.size ≤ q) s s.heap) (hX : va_X b L xs s s.heap) (hbl : b < s.heap.size) (hcs1 : cells ≤ room_1.cells ∧ slots ≤ room_1.slots) (hi : ∀ k : Int32, k = 1 ∨ k = 2 ∨ k = 3 ∨ k = 4 → vp_in (x3 + k) L) (hop : s_pure_drift Rel) {H : Heap} {locs : List Loc} (hLS : s_LS Rel G cy (fun q : Nat => s.heap.size ≤ q) H aC aM) (hS : va_S (fun q : Nat => s.heap.size ≤ q) s.heap H locs) {ls : Array Slot} (hl : lv_has ls 4 [(0, .ref b), (1, .ref aC), (2, .ref aM), (3, .int x3)]) (hnext : ∀ (H : Heap) (locs : List Loc), s_LS Rel G cy (fun q : Nat => s.heap.size ≤ q) H aC aM → va_S (fun q : Nat => s.heap.size ≤ q) s.heap H locs → W p l e room_1 s m #[Value.ref b] below meth c H locs cells slots Q (F0 m 1116 ls [])) : W p l e room_1 s m #[Value.ref b] below meth c H locs cells slots Q (F0 m 862 ls []) := by
  have hbA : ¬ (fun q : Nat => s.heap.size ≤ q) b := Nat.not_le.mpr hbl
  obtain ⟨adC, adM, σC, σM, e1, e2, hR, hP, hD⟩ := hLS
  subst e1
  subst e2
  obtain ⟨r, σC1, σM1, hz1, hz2, hR1⟩ := hop σC σM hR (xs (Int32.toNatClampNeg (x3 + 1))) (xs (Int32.toNatClampNeg (x3 + 2)))
  refine lv_aload_n hx hb dL_law_862 rfl (lv_at hl 1 rfl) ?_
  refine lv_aload_n hx hb dL_law_863 rfl (lv_at hl 0 rfl) ?_
  refine lv_iload_n hx hb dL_law_864 rfl (lv_at hl 3 rfl) ?_
  refine lv_iconst (v := 1) hx hb dL_law_865 (by decide) ?_
  refine lv_iadd hx hb dL_law_866 ?_
  refine va_sld hx hb hX hbl hbA hS (hi 1 (Or.inl rfl)) dL_law_867 ?_
  refine lv_aload_n hx hb dL_law_868 rfl (lv_at hl 0 rfl) ?_
  refine lv_iload_n hx hb dL_law_869 rfl (lv_at hl 3 rfl) ?_
  refine lv_iconst (v := 2) hx hb dL_law_870 (by decide) ?_
  refine lv_iadd hx hb dL_law_871 ?_
  refine va_sld hx hb hX hbl hbA hS (hi 2 (Or.inr (Or.inl rfl))) dL_law_872 ?_
  refine s_lcall (nn := 2) hx hb hml hown hts hK hE (fun _ h => h) (s_WC_ad cy adC) (kcX6_drift (l := l) (G := G) (cy := cy) (sa := sa) (s_inj_of (s_WC_ad cy adC σC) hD) (sz := H.size) σC (xs (Int32.toNatClampNeg (x3 + 1))) (xs (Int32.toNatClampNeg (x3 + 2))) hz1) gk_L_121 rfl rfl (by decide +kernel) ⟨Nat.le_of_ble_eq_true rfl, Nat.le_of_ble_eq_true rfl⟩ hcs1 hP hD hS (q0 := 0) (ci := 6) rfl rfl rfl (As := [.int (xs (Int32.toNatClampNeg (x3 + 1))), .int (xs (Int32.toNatClampNeg (x3 + 2)))]) (rest := []) rfl rfl hl.1 (Nat.le_of_ble_eq_true rfl) dL_law_873 (fun H locs hP hD hS => ?_)
  replace hP := s_perm_P List.perm_append_comm hP
  replace hD := s_perm_D List.perm_append_comm hD
  refine lv_aload_n hx hb dL_law_876 rfl (lv_at hl 2 rfl) ?_
  refine lv_aload_n hx hb dL_law_877 rfl (lv_at hl 0 rfl) ?_
  refine lv_iload_n hx hb dL_law_878 rfl (lv_at hl 3 rfl) ?_
  refine lv_iconst (v := 1) hx hb dL_law_879 (by decide) ?_
  refine lv_iadd hx hb dL_law_880 ?_
  refine va_sld hx hb hX hbl hbA hS (hi 1 (Or.inl rfl)) dL_law_881 ?_
  refine lv_aload_n hx hb dL_law_882 rfl (lv_at hl 0 rfl) ?_
  refine lv_iload_n hx hb dL_law_883 rfl (lv_at hl 3 rfl) ?_
  refine lv_iconst (v := 2) hx hb dL_law_884 (by decide) ?_
  refine lv_iadd hx hb dL_law_885 ?_
  refine va_sld hx hb hX hbl hbA hS (hi 2 (Or.inr (Or.inl rfl))) dL_law_886 ?_
  refine s_lcall (nn := 2) hx hb hml hown hts hK hE (fun _ h => h) (s_WM_ad cy adM) (kcX7_drift (l := l) (G := G) (cy := cy) (sa := sa) (s_inj_of (s_WM_ad cy adM σM) hD) (sz := H.size) σM (xs (Int32.toNatClampNeg (x3 + 1))) (xs (Int32.toNatClampNeg (x3 + 2))) hz2) gk_L_124 rfl rfl (by decide +kernel) ⟨Nat.le_of_ble_eq_true rfl, Nat.le_of_ble_eq_true rfl⟩ hcs1 hP hD hS (q0 := 0) (ci := 7) rfl rfl rfl (As := [.int (xs (Int32.toNatClampNeg (x3 + 1))), .int (xs (Int32.toNatClampNeg (x3 + 2)))]) (rest := [.int r]) rfl rfl hl.1 (Nat.le_of_ble_eq_true rfl) dL_law_887 (fun H locs hP hD hS => ?_)
  refine lv_icmp_eq (tgt := 1116) hx hb dL_law_890 (by decide) (fun _ => ?_) (fun c1 => absurd rfl c1)
  exact hnext H locs ⟨adC, adM, σC1, σM1, rfl, rfl, hR1, s_perm_P List.perm_append_comm hP, s_perm_D List.perm_append_comm hD⟩ hS
set_option maxRecDepth 100000 in
set_option maxHeartbeats 4000000 in
theorem lw_op_keep (hx : p.tables.exec = Jvm.exec) (hb : c.code = code) (hml : c.maxLocals = 4) (hown : s.vm.findClass RL = some m.cls) (hts : ∀ w ∈ kwL, w.before #[Value.ref b] s = true) (hK : va_K G vwCl (s_ty cy) s) (hE : s_E sa (fun q : Nat => s.heap.size ≤ q) s s.heap) (hX : va_X b L xs s s.heap) (hbl : b < s.heap.size) (hcs1 : cells ≤ room_1.cells ∧ slots ≤ room_1.slots) (hi : ∀ k : Int32, k = 1 ∨ k = 2 ∨ k = 3 ∨ k = 4 → vp_in (x3 + k) L) (hop : s_pure_keep Rel) {H : Heap} {locs : List Loc} (hLS : s_LS Rel G cy (fun q : Nat => s.heap.size ≤ q) H aC aM) (hS : va_S (fun q : Nat => s.heap.size ≤ q) s.heap H locs) {ls : Array Slot} (hl : lv_has ls 4 [(0, .ref b), (1, .ref aC), (2, .ref aM), (3, .int x3)]) (hnext : ∀ (H : Heap) (locs : List Loc), s_LS Rel G cy (fun q : Nat => s.heap.size ≤ q) H aC aM → va_S (fun q : Nat => s.heap.size ≤ q) s.heap H locs → W p l e room_1 s m #[Value.ref b] below meth c H locs cells slots Q (F0 m 1116 ls [])) : W p l e room_1 s m #[Value.ref b] below meth c H locs cells slots Q (F0 m 895 ls []) := by
  have hbA : ¬ (fun q : Nat => s.heap.size ≤ q) b := Nat.not_le.mpr hbl
  obtain ⟨adC, adM, σC, σM, e1, e2, hR, hP, hD⟩ := hLS
  subst e1
  subst e2
  obtain ⟨r, σC1, σM1, hz1, hz2, hR1⟩ := hop σC σM hR (xs (Int32.toNatClampNeg (x3 + 1)))
  refine lv_aload_n hx hb dL_law_895 rfl (lv_at hl 1 rfl) ?_
  refine lv_aload_n hx hb dL_law_896 rfl (lv_at hl 0 rfl) ?_
  refine lv_iload_n hx hb dL_law_897 rfl (lv_at hl 3 rfl) ?_
  refine lv_iconst (v := 1) hx hb dL_law_898 (by decide) ?_
  refine lv_iadd hx hb dL_law_899 ?_
  refine va_sld hx hb hX hbl hbA hS (hi 1 (Or.inl rfl)) dL_law_900 ?_
  refine s_lcall (nn := 1) hx hb hml hown hts hK hE (fun _ h => h) (s_WC_ad cy adC) (kcX6_keep (l := l) (G := G) (cy := cy) (sa := sa) (s_inj_of (s_WC_ad cy adC σC) hD) (sz := H.size) σC (xs (Int32.toNatClampNeg (x3 + 1))) hz1) gk_L_125 rfl rfl (by decide +kernel) ⟨Nat.le_of_ble_eq_true rfl, Nat.le_of_ble_eq_true rfl⟩ hcs1 hP hD hS (q0 := 0) (ci := 6) rfl rfl rfl (As := [.int (xs (Int32.toNatClampNeg (x3 + 1)))]) (rest := []) rfl rfl hl.1 (Nat.le_of_ble_eq_true rfl) dL_law_901 (fun H locs hP hD hS => ?_)
  replace hP := s_perm_P List.perm_append_comm hP
  replace hD := s_perm_D List.perm_append_comm hD
  refine lv_aload_n hx hb dL_law_904 rfl (lv_at hl 2 rfl) ?_
  refine lv_aload_n hx hb dL_law_905 rfl (lv_at hl 0 rfl) ?_
  refine lv_iload_n hx hb dL_law_906 rfl (lv_at hl 3 rfl) ?_
  refine lv_iconst (v := 1) hx hb dL_law_907 (by decide) ?_
  refine lv_iadd hx hb dL_law_908 ?_
  refine va_sld hx hb hX hbl hbA hS (hi 1 (Or.inl rfl)) dL_law_909 ?_
  refine s_lcall (nn := 1) hx hb hml hown hts hK hE (fun _ h => h) (s_WM_ad cy adM) (kcX7_keep (l := l) (G := G) (cy := cy) (sa := sa) (s_inj_of (s_WM_ad cy adM σM) hD) (sz := H.size) σM (xs (Int32.toNatClampNeg (x3 + 1))) hz2) gk_L_128 rfl rfl (by decide +kernel) ⟨Nat.le_of_ble_eq_true rfl, Nat.le_of_ble_eq_true rfl⟩ hcs1 hP hD hS (q0 := 0) (ci := 7) rfl rfl rfl (As := [.int (xs (Int32.toNatClampNeg (x3 + 1)))]) (rest := [.int r]) rfl rfl hl.1 (Nat.le_of_ble_eq_true rfl) dL_law_910 (fun H locs hP hD hS => ?_)
  refine lv_icmp_eq (tgt := 1116) hx hb dL_law_913 (by decide) (fun _ => ?_) (fun c1 => absurd rfl c1)
  exact hnext H locs ⟨adC, adM, σC1, σM1, rfl, rfl, hR1, s_perm_P List.perm_append_comm hP, s_perm_D List.perm_append_comm hD⟩ hS
set_option maxRecDepth 100000 in
set_option maxHeartbeats 4000000 in
theorem lw_op_back (hx : p.tables.exec = Jvm.exec) (hb : c.code = code) (hml : c.maxLocals = 4) (hown : s.vm.findClass RL = some m.cls) (hts : ∀ w ∈ kwL, w.before #[Value.ref b] s = true) (hK : va_K G vwCl (s_ty cy) s) (hE : s_E sa (fun q : Nat => s.heap.size ≤ q) s s.heap) (hX : va_X b L xs s s.heap) (hbl : b < s.heap.size) (hcs1 : cells ≤ room_1.cells ∧ slots ≤ room_1.slots) (hi : ∀ k : Int32, k = 1 ∨ k = 2 ∨ k = 3 ∨ k = 4 → vp_in (x3 + k) L) (hop : s_pure_back Rel) {H : Heap} {locs : List Loc} (hLS : s_LS Rel G cy (fun q : Nat => s.heap.size ≤ q) H aC aM) (hS : va_S (fun q : Nat => s.heap.size ≤ q) s.heap H locs) {ls : Array Slot} (hl : lv_has ls 4 [(0, .ref b), (1, .ref aC), (2, .ref aM), (3, .int x3)]) (hnext : ∀ (H : Heap) (locs : List Loc), s_LS Rel G cy (fun q : Nat => s.heap.size ≤ q) H aC aM → va_S (fun q : Nat => s.heap.size ≤ q) s.heap H locs → W p l e room_1 s m #[Value.ref b] below meth c H locs cells slots Q (F0 m 1116 ls [])) : W p l e room_1 s m #[Value.ref b] below meth c H locs cells slots Q (F0 m 918 ls []) := by
  have hbA : ¬ (fun q : Nat => s.heap.size ≤ q) b := Nat.not_le.mpr hbl
  obtain ⟨adC, adM, σC, σM, e1, e2, hR, hP, hD⟩ := hLS
  subst e1
  subst e2
  obtain ⟨r, σC1, σM1, hz1, hz2, hR1⟩ := hop σC σM hR (xs (Int32.toNatClampNeg (x3 + 1)))
  refine lv_aload_n hx hb dL_law_918 rfl (lv_at hl 1 rfl) ?_
  refine lv_aload_n hx hb dL_law_919 rfl (lv_at hl 0 rfl) ?_
  refine lv_iload_n hx hb dL_law_920 rfl (lv_at hl 3 rfl) ?_
  refine lv_iconst (v := 1) hx hb dL_law_921 (by decide) ?_
  refine lv_iadd hx hb dL_law_922 ?_
  refine va_sld hx hb hX hbl hbA hS (hi 1 (Or.inl rfl)) dL_law_923 ?_
  refine s_lcall (nn := 1) hx hb hml hown hts hK hE (fun _ h => h) (s_WC_ad cy adC) (kcX6_back (l := l) (G := G) (cy := cy) (sa := sa) (s_inj_of (s_WC_ad cy adC σC) hD) (sz := H.size) σC (xs (Int32.toNatClampNeg (x3 + 1))) hz1) gk_L_129 rfl rfl (by decide +kernel) ⟨Nat.le_of_ble_eq_true rfl, Nat.le_of_ble_eq_true rfl⟩ hcs1 hP hD hS (q0 := 0) (ci := 6) rfl rfl rfl (As := [.int (xs (Int32.toNatClampNeg (x3 + 1)))]) (rest := []) rfl rfl hl.1 (Nat.le_of_ble_eq_true rfl) dL_law_924 (fun H locs hP hD hS => ?_)
  replace hP := s_perm_P List.perm_append_comm hP
  replace hD := s_perm_D List.perm_append_comm hD
  refine lv_aload_n hx hb dL_law_927 rfl (lv_at hl 2 rfl) ?_
  refine lv_aload_n hx hb dL_law_928 rfl (lv_at hl 0 rfl) ?_
  refine lv_iload_n hx hb dL_law_929 rfl (lv_at hl 3 rfl) ?_
  refine lv_iconst (v := 1) hx hb dL_law_930 (by decide) ?_
  refine lv_iadd hx hb dL_law_931 ?_
  refine va_sld hx hb hX hbl hbA hS (hi 1 (Or.inl rfl)) dL_law_932 ?_
  refine s_lcall (nn := 1) hx hb hml hown hts hK hE (fun _ h => h) (s_WM_ad cy adM) (kcX7_back (l := l) (G := G) (cy := cy) (sa := sa) (s_inj_of (s_WM_ad cy adM σM) hD) (sz := H.size) σM (xs (Int32.toNatClampNeg (x3 + 1))) hz2) gk_L_132 rfl rfl (by decide +kernel) ⟨Nat.le_of_ble_eq_true rfl, Nat.le_of_ble_eq_true rfl⟩ hcs1 hP hD hS (q0 := 0) (ci := 7) rfl rfl rfl (As := [.int (xs (Int32.toNatClampNeg (x3 + 1)))]) (rest := [.int r]) rfl rfl hl.1 (Nat.le_of_ble_eq_true rfl) dL_law_933 (fun H locs hP hD hS => ?_)
  refine lv_icmp_eq (tgt := 1116) hx hb dL_law_936 (by decide) (fun _ => ?_) (fun c1 => absurd rfl c1)
  exact hnext H locs ⟨adC, adM, σC1, σM1, rfl, rfl, hR1, s_perm_P List.perm_append_comm hP, s_perm_D List.perm_append_comm hD⟩ hS
set_option maxRecDepth 100000 in
set_option maxHeartbeats 4000000 in
theorem lw_op_sheet (hx : p.tables.exec = Jvm.exec) (hb : c.code = code) (hml : c.maxLocals = 4) (hown : s.vm.findClass RL = some m.cls) (hts : ∀ w ∈ kwL, w.before #[Value.ref b] s = true) (hK : va_K G vwCl (s_ty cy) s) (hE : s_E sa (fun q : Nat => s.heap.size ≤ q) s s.heap) (hX : va_X b L xs s s.heap) (hbl : b < s.heap.size) (hcs1 : cells ≤ room_1.cells ∧ slots ≤ room_1.slots) (hi : ∀ k : Int32, k = 1 ∨ k = 2 ∨ k = 3 ∨ k = 4 → vp_in (x3 + k) L) (hop : s_pure_sheet Rel) {H : Heap} {locs : List Loc} (hLS : s_LS Rel G cy (fun q : Nat => s.heap.size ≤ q) H aC aM) (hS : va_S (fun q : Nat => s.heap.size ≤ q) s.heap H locs) {ls : Array Slot} (hl : lv_has ls 4 [(0, .ref b), (1, .ref aC), (2, .ref aM), (3, .int x3)]) (hnext : ∀ (H : Heap) (locs : List Loc), s_LS Rel G cy (fun q : Nat => s.heap.size ≤ q) H aC aM → va_S (fun q : Nat => s.heap.size ≤ q) s.heap H locs → W p l e room_1 s m #[Value.ref b] below meth c H locs cells slots Q (F0 m 1116 ls [])) : W p l e room_1 s m #[Value.ref b] below meth c H locs cells slots Q (F0 m 941 ls []) := by
  have hbA : ¬ (fun q : Nat => s.heap.size ≤ q) b := Nat.not_le.mpr hbl
  obtain ⟨adC, adM, σC, σM, e1, e2, hR, hP, hD⟩ := hLS
  subst e1
  subst e2
  obtain ⟨r, σC1, σM1, hz1, hz2, hR1⟩ := hop σC σM hR (xs (Int32.toNatClampNeg (x3 + 1))) (xs (Int32.toNatClampNeg (x3 + 2))) (xs (Int32.toNatClampNeg (x3 + 3)))
  refine lv_aload_n hx hb dL_law_941 rfl (lv_at hl 1 rfl) ?_
  refine lv_aload_n hx hb dL_law_942 rfl (lv_at hl 0 rfl) ?_
  refine lv_iload_n hx hb dL_law_943 rfl (lv_at hl 3 rfl) ?_
  refine lv_iconst (v := 1) hx hb dL_law_944 (by decide) ?_
  refine lv_iadd hx hb dL_law_945 ?_
  refine va_sld hx hb hX hbl hbA hS (hi 1 (Or.inl rfl)) dL_law_946 ?_
  refine lv_aload_n hx hb dL_law_947 rfl (lv_at hl 0 rfl) ?_
  refine lv_iload_n hx hb dL_law_948 rfl (lv_at hl 3 rfl) ?_
  refine lv_iconst (v := 2) hx hb dL_law_949 (by decide) ?_
  refine lv_iadd hx hb dL_law_950 ?_
  refine va_sld hx hb hX hbl hbA hS (hi 2 (Or.inr (Or.inl rfl))) dL_law_951 ?_
  refine lv_aload_n hx hb dL_law_952 rfl (lv_at hl 0 rfl) ?_
  refine lv_iload_n hx hb dL_law_953 rfl (lv_at hl 3 rfl) ?_
  refine lv_iconst (v := 3) hx hb dL_law_954 (by decide) ?_
  refine lv_iadd hx hb dL_law_955 ?_
  refine va_sld hx hb hX hbl hbA hS (hi 3 (Or.inr (Or.inr (Or.inl rfl)))) dL_law_956 ?_
  refine s_lcall (nn := 3) hx hb hml hown hts hK hE (fun _ h => h) (s_WC_ad cy adC) (kcX6_sheet (l := l) (G := G) (cy := cy) (sa := sa) (s_inj_of (s_WC_ad cy adC σC) hD) (sz := H.size) σC (xs (Int32.toNatClampNeg (x3 + 1))) (xs (Int32.toNatClampNeg (x3 + 2))) (xs (Int32.toNatClampNeg (x3 + 3))) hz1) gk_L_133 rfl rfl (by decide +kernel) ⟨Nat.le_of_ble_eq_true rfl, Nat.le_of_ble_eq_true rfl⟩ hcs1 hP hD hS (q0 := 0) (ci := 6) rfl rfl rfl (As := [.int (xs (Int32.toNatClampNeg (x3 + 1))), .int (xs (Int32.toNatClampNeg (x3 + 2))), .int (xs (Int32.toNatClampNeg (x3 + 3)))]) (rest := []) rfl rfl hl.1 (Nat.le_of_ble_eq_true rfl) dL_law_957 (fun H locs hP hD hS => ?_)
  replace hP := s_perm_P List.perm_append_comm hP
  replace hD := s_perm_D List.perm_append_comm hD
  refine lv_aload_n hx hb dL_law_960 rfl (lv_at hl 2 rfl) ?_
  refine lv_aload_n hx hb dL_law_961 rfl (lv_at hl 0 rfl) ?_
  refine lv_iload_n hx hb dL_law_962 rfl (lv_at hl 3 rfl) ?_
  refine lv_iconst (v := 1) hx hb dL_law_963 (by decide) ?_
  refine lv_iadd hx hb dL_law_964 ?_
  refine va_sld hx hb hX hbl hbA hS (hi 1 (Or.inl rfl)) dL_law_965 ?_
  refine lv_aload_n hx hb dL_law_966 rfl (lv_at hl 0 rfl) ?_
  refine lv_iload_n hx hb dL_law_967 rfl (lv_at hl 3 rfl) ?_
  refine lv_iconst (v := 2) hx hb dL_law_968 (by decide) ?_
  refine lv_iadd hx hb dL_law_969 ?_
  refine va_sld hx hb hX hbl hbA hS (hi 2 (Or.inr (Or.inl rfl))) dL_law_970 ?_
  refine lv_aload_n hx hb dL_law_971 rfl (lv_at hl 0 rfl) ?_
  refine lv_iload_n hx hb dL_law_972 rfl (lv_at hl 3 rfl) ?_
  refine lv_iconst (v := 3) hx hb dL_law_973 (by decide) ?_
  refine lv_iadd hx hb dL_law_974 ?_
  refine va_sld hx hb hX hbl hbA hS (hi 3 (Or.inr (Or.inr (Or.inl rfl)))) dL_law_975 ?_
  refine s_lcall (nn := 3) hx hb hml hown hts hK hE (fun _ h => h) (s_WM_ad cy adM) (kcX7_sheet (l := l) (G := G) (cy := cy) (sa := sa) (s_inj_of (s_WM_ad cy adM σM) hD) (sz := H.size) σM (xs (Int32.toNatClampNeg (x3 + 1))) (xs (Int32.toNatClampNeg (x3 + 2))) (xs (Int32.toNatClampNeg (x3 + 3))) hz2) gk_L_136 rfl rfl (by decide +kernel) ⟨Nat.le_of_ble_eq_true rfl, Nat.le_of_ble_eq_true rfl⟩ hcs1 hP hD hS (q0 := 0) (ci := 7) rfl rfl rfl (As := [.int (xs (Int32.toNatClampNeg (x3 + 1))), .int (xs (Int32.toNatClampNeg (x3 + 2))), .int (xs (Int32.toNatClampNeg (x3 + 3)))]) (rest := [.int r]) rfl rfl hl.1 (Nat.le_of_ble_eq_true rfl) dL_law_976 (fun H locs hP hD hS => ?_)
  refine lv_icmp_eq (tgt := 1116) hx hb dL_law_979 (by decide) (fun _ => ?_) (fun c1 => absurd rfl c1)
  exact hnext H locs ⟨adC, adM, σC1, σM1, rfl, rfl, hR1, s_perm_P List.perm_append_comm hP, s_perm_D List.perm_append_comm hD⟩ hS
set_option maxRecDepth 100000 in
set_option maxHeartbeats 4000000 in
theorem lw_op_lay (hx : p.tables.exec = Jvm.exec) (hb : c.code = code) (hml : c.maxLocals = 4) (hown : s.vm.findClass RL = some m.cls) (hts : ∀ w ∈ kwL, w.before #[Value.ref b] s = true) (hK : va_K G vwCl (s_ty cy) s) (hE : s_E sa (fun q : Nat => s.heap.size ≤ q) s s.heap) (hX : va_X b L xs s s.heap) (hbl : b < s.heap.size) (hcs1 : cells ≤ room_1.cells ∧ slots ≤ room_1.slots) (hi : ∀ k : Int32, k = 1 ∨ k = 2 ∨ k = 3 ∨ k = 4 → vp_in (x3 + k) L) (hop : s_pure_lay Rel) {H : Heap} {locs : List Loc} (hLS : s_LS Rel G cy (fun q : Nat => s.heap.size ≤ q) H aC aM) (hS : va_S (fun q : Nat => s.heap.size ≤ q) s.heap H locs) {ls : Array Slot} (hl : lv_has ls 4 [(0, .ref b), (1, .ref aC), (2, .ref aM), (3, .int x3)]) (hnext : ∀ (H : Heap) (locs : List Loc), s_LS Rel G cy (fun q : Nat => s.heap.size ≤ q) H aC aM → va_S (fun q : Nat => s.heap.size ≤ q) s.heap H locs → W p l e room_1 s m #[Value.ref b] below meth c H locs cells slots Q (F0 m 1116 ls [])) : W p l e room_1 s m #[Value.ref b] below meth c H locs cells slots Q (F0 m 984 ls []) := by
  have hbA : ¬ (fun q : Nat => s.heap.size ≤ q) b := Nat.not_le.mpr hbl
  obtain ⟨adC, adM, σC, σM, e1, e2, hR, hP, hD⟩ := hLS
  subst e1
  subst e2
  obtain ⟨r, σC1, σM1, hz1, hz2, hR1⟩ := hop σC σM hR (xs (Int32.toNatClampNeg (x3 + 1))) (xs (Int32.toNatClampNeg (x3 + 2))) (xs (Int32.toNatClampNeg (x3 + 3)))
  refine lv_aload_n hx hb dL_law_984 rfl (lv_at hl 1 rfl) ?_
  refine lv_aload_n hx hb dL_law_985 rfl (lv_at hl 0 rfl) ?_
  refine lv_iload_n hx hb dL_law_986 rfl (lv_at hl 3 rfl) ?_
  refine lv_iconst (v := 1) hx hb dL_law_987 (by decide) ?_
  refine lv_iadd hx hb dL_law_988 ?_
  refine va_sld hx hb hX hbl hbA hS (hi 1 (Or.inl rfl)) dL_law_989 ?_
  refine lv_aload_n hx hb dL_law_990 rfl (lv_at hl 0 rfl) ?_
  refine lv_iload_n hx hb dL_law_991 rfl (lv_at hl 3 rfl) ?_
  refine lv_iconst (v := 2) hx hb dL_law_992 (by decide) ?_
  refine lv_iadd hx hb dL_law_993 ?_
  refine va_sld hx hb hX hbl hbA hS (hi 2 (Or.inr (Or.inl rfl))) dL_law_994 ?_
  refine lv_aload_n hx hb dL_law_995 rfl (lv_at hl 0 rfl) ?_
  refine lv_iload_n hx hb dL_law_996 rfl (lv_at hl 3 rfl) ?_
  refine lv_iconst (v := 3) hx hb dL_law_997 (by decide) ?_
  refine lv_iadd hx hb dL_law_998 ?_
  refine va_sld hx hb hX hbl hbA hS (hi 3 (Or.inr (Or.inr (Or.inl rfl)))) dL_law_999 ?_
  refine s_lcall (nn := 3) hx hb hml hown hts hK hE (fun _ h => h) (s_WC_ad cy adC) (kcX6_lay (l := l) (G := G) (cy := cy) (sa := sa) (s_inj_of (s_WC_ad cy adC σC) hD) (sz := H.size) σC (xs (Int32.toNatClampNeg (x3 + 1))) (xs (Int32.toNatClampNeg (x3 + 2))) (xs (Int32.toNatClampNeg (x3 + 3))) hz1) gk_L_137 rfl rfl (by decide +kernel) ⟨Nat.le_of_ble_eq_true rfl, Nat.le_of_ble_eq_true rfl⟩ hcs1 hP hD hS (q0 := 0) (ci := 6) rfl rfl rfl (As := [.int (xs (Int32.toNatClampNeg (x3 + 1))), .int (xs (Int32.toNatClampNeg (x3 + 2))), .int (xs (Int32.toNatClampNeg (x3 + 3)))]) (rest := []) rfl rfl hl.1 (Nat.le_of_ble_eq_true rfl) dL_law_1000 (fun H locs hP hD hS => ?_)
  replace hP := s_perm_P List.perm_append_comm hP
  replace hD := s_perm_D List.perm_append_comm hD
  refine lv_aload_n hx hb dL_law_1003 rfl (lv_at hl 2 rfl) ?_
  refine lv_aload_n hx hb dL_law_1004 rfl (lv_at hl 0 rfl) ?_
  refine lv_iload_n hx hb dL_law_1005 rfl (lv_at hl 3 rfl) ?_
  refine lv_iconst (v := 1) hx hb dL_law_1006 (by decide) ?_
  refine lv_iadd hx hb dL_law_1007 ?_
  refine va_sld hx hb hX hbl hbA hS (hi 1 (Or.inl rfl)) dL_law_1008 ?_
  refine lv_aload_n hx hb dL_law_1009 rfl (lv_at hl 0 rfl) ?_
  refine lv_iload_n hx hb dL_law_1010 rfl (lv_at hl 3 rfl) ?_
  refine lv_iconst (v := 2) hx hb dL_law_1011 (by decide) ?_
  refine lv_iadd hx hb dL_law_1012 ?_
  refine va_sld hx hb hX hbl hbA hS (hi 2 (Or.inr (Or.inl rfl))) dL_law_1013 ?_
  refine lv_aload_n hx hb dL_law_1014 rfl (lv_at hl 0 rfl) ?_
  refine lv_iload_n hx hb dL_law_1015 rfl (lv_at hl 3 rfl) ?_
  refine lv_iconst (v := 3) hx hb dL_law_1016 (by decide) ?_
  refine lv_iadd hx hb dL_law_1017 ?_
  refine va_sld hx hb hX hbl hbA hS (hi 3 (Or.inr (Or.inr (Or.inl rfl)))) dL_law_1018 ?_
  refine s_lcall (nn := 3) hx hb hml hown hts hK hE (fun _ h => h) (s_WM_ad cy adM) (kcX7_lay (l := l) (G := G) (cy := cy) (sa := sa) (s_inj_of (s_WM_ad cy adM σM) hD) (sz := H.size) σM (xs (Int32.toNatClampNeg (x3 + 1))) (xs (Int32.toNatClampNeg (x3 + 2))) (xs (Int32.toNatClampNeg (x3 + 3))) hz2) gk_L_140 rfl rfl (by decide +kernel) ⟨Nat.le_of_ble_eq_true rfl, Nat.le_of_ble_eq_true rfl⟩ hcs1 hP hD hS (q0 := 0) (ci := 7) rfl rfl rfl (As := [.int (xs (Int32.toNatClampNeg (x3 + 1))), .int (xs (Int32.toNatClampNeg (x3 + 2))), .int (xs (Int32.toNatClampNeg (x3 + 3)))]) (rest := [.int r]) rfl rfl hl.1 (Nat.le_of_ble_eq_true rfl) dL_law_1019 (fun H locs hP hD hS => ?_)
  refine lv_icmp_eq (tgt := 1116) hx hb dL_law_1022 (by decide) (fun _ => ?_) (fun c1 => absurd rfl c1)
  exact hnext H locs ⟨adC, adM, σC1, σM1, rfl, rfl, hR1, s_perm_P List.perm_append_comm hP, s_perm_D List.perm_append_comm hD⟩ hS
set_option maxRecDepth 100000 in
set_option maxHeartbeats 4000000 in
theorem lw_op_read (hx : p.tables.exec = Jvm.exec) (hb : c.code = code) (hml : c.maxLocals = 4) (hown : s.vm.findClass RL = some m.cls) (hts : ∀ w ∈ kwL, w.before #[Value.ref b] s = true) (hK : va_K G vwCl (s_ty cy) s) (hE : s_E sa (fun q : Nat => s.heap.size ≤ q) s s.heap) (hX : va_X b L xs s s.heap) (hbl : b < s.heap.size) (hcs1 : cells ≤ room_1.cells ∧ slots ≤ room_1.slots) (hi : ∀ k : Int32, k = 1 ∨ k = 2 ∨ k = 3 ∨ k = 4 → vp_in (x3 + k) L) (hop : s_pure_read Rel) {H : Heap} {locs : List Loc} (hLS : s_LS Rel G cy (fun q : Nat => s.heap.size ≤ q) H aC aM) (hS : va_S (fun q : Nat => s.heap.size ≤ q) s.heap H locs) {ls : Array Slot} (hl : lv_has ls 4 [(0, .ref b), (1, .ref aC), (2, .ref aM), (3, .int x3)]) (hnext : ∀ (H : Heap) (locs : List Loc), s_LS Rel G cy (fun q : Nat => s.heap.size ≤ q) H aC aM → va_S (fun q : Nat => s.heap.size ≤ q) s.heap H locs → W p l e room_1 s m #[Value.ref b] below meth c H locs cells slots Q (F0 m 1116 ls [])) : W p l e room_1 s m #[Value.ref b] below meth c H locs cells slots Q (F0 m 1027 ls []) := by
  have hbA : ¬ (fun q : Nat => s.heap.size ≤ q) b := Nat.not_le.mpr hbl
  obtain ⟨adC, adM, σC, σM, e1, e2, hR, hP, hD⟩ := hLS
  subst e1
  subst e2
  obtain ⟨r, σC1, σM1, hz1, hz2, hR1⟩ := hop σC σM hR (xs (Int32.toNatClampNeg (x3 + 1))) (xs (Int32.toNatClampNeg (x3 + 2))) (xs (Int32.toNatClampNeg (x3 + 3))) (xs (Int32.toNatClampNeg (x3 + 4)))
  refine lv_aload_n hx hb dL_law_1027 rfl (lv_at hl 1 rfl) ?_
  refine lv_aload_n hx hb dL_law_1028 rfl (lv_at hl 0 rfl) ?_
  refine lv_iload_n hx hb dL_law_1029 rfl (lv_at hl 3 rfl) ?_
  refine lv_iconst (v := 1) hx hb dL_law_1030 (by decide) ?_
  refine lv_iadd hx hb dL_law_1031 ?_
  refine va_sld hx hb hX hbl hbA hS (hi 1 (Or.inl rfl)) dL_law_1032 ?_
  refine lv_aload_n hx hb dL_law_1033 rfl (lv_at hl 0 rfl) ?_
  refine lv_iload_n hx hb dL_law_1034 rfl (lv_at hl 3 rfl) ?_
  refine lv_iconst (v := 2) hx hb dL_law_1035 (by decide) ?_
  refine lv_iadd hx hb dL_law_1036 ?_
  refine va_sld hx hb hX hbl hbA hS (hi 2 (Or.inr (Or.inl rfl))) dL_law_1037 ?_
  refine lv_aload_n hx hb dL_law_1038 rfl (lv_at hl 0 rfl) ?_
  refine lv_iload_n hx hb dL_law_1039 rfl (lv_at hl 3 rfl) ?_
  refine lv_iconst (v := 3) hx hb dL_law_1040 (by decide) ?_
  refine lv_iadd hx hb dL_law_1041 ?_
  refine va_sld hx hb hX hbl hbA hS (hi 3 (Or.inr (Or.inr (Or.inl rfl)))) dL_law_1042 ?_
  refine lv_aload_n hx hb dL_law_1043 rfl (lv_at hl 0 rfl) ?_
  refine lv_iload_n hx hb dL_law_1044 rfl (lv_at hl 3 rfl) ?_
  refine lv_iconst (v := 4) hx hb dL_law_1045 (by decide) ?_
  refine lv_iadd hx hb dL_law_1046 ?_
  refine va_sld hx hb hX hbl hbA hS (hi 4 (Or.inr (Or.inr (Or.inr rfl)))) dL_law_1047 ?_
  refine s_lcall (nn := 4) hx hb hml hown hts hK hE (fun _ h => h) (s_WC_ad cy adC) (kcX6_read (l := l) (G := G) (cy := cy) (sa := sa) (s_inj_of (s_WC_ad cy adC σC) hD) (sz := H.size) σC (xs (Int32.toNatClampNeg (x3 + 1))) (xs (Int32.toNatClampNeg (x3 + 2))) (xs (Int32.toNatClampNeg (x3 + 3))) (xs (Int32.toNatClampNeg (x3 + 4))) hz1) gk_L_141 rfl rfl (by decide +kernel) ⟨Nat.le_of_ble_eq_true rfl, Nat.le_of_ble_eq_true rfl⟩ hcs1 hP hD hS (q0 := 0) (ci := 6) rfl rfl rfl (As := [.int (xs (Int32.toNatClampNeg (x3 + 1))), .int (xs (Int32.toNatClampNeg (x3 + 2))), .int (xs (Int32.toNatClampNeg (x3 + 3))), .int (xs (Int32.toNatClampNeg (x3 + 4)))]) (rest := []) rfl rfl hl.1 (Nat.le_of_ble_eq_true rfl) dL_law_1048 (fun H locs hP hD hS => ?_)
  replace hP := s_perm_P List.perm_append_comm hP
  replace hD := s_perm_D List.perm_append_comm hD
  refine lv_aload_n hx hb dL_law_1051 rfl (lv_at hl 2 rfl) ?_
  refine lv_aload_n hx hb dL_law_1052 rfl (lv_at hl 0 rfl) ?_
  refine lv_iload_n hx hb dL_law_1053 rfl (lv_at hl 3 rfl) ?_
  refine lv_iconst (v := 1) hx hb dL_law_1054 (by decide) ?_
  refine lv_iadd hx hb dL_law_1055 ?_
  refine va_sld hx hb hX hbl hbA hS (hi 1 (Or.inl rfl)) dL_law_1056 ?_
  refine lv_aload_n hx hb dL_law_1057 rfl (lv_at hl 0 rfl) ?_
  refine lv_iload_n hx hb dL_law_1058 rfl (lv_at hl 3 rfl) ?_
  refine lv_iconst (v := 2) hx hb dL_law_1059 (by decide) ?_
  refine lv_iadd hx hb dL_law_1060 ?_
  refine va_sld hx hb hX hbl hbA hS (hi 2 (Or.inr (Or.inl rfl))) dL_law_1061 ?_
  refine lv_aload_n hx hb dL_law_1062 rfl (lv_at hl 0 rfl) ?_
  refine lv_iload_n hx hb dL_law_1063 rfl (lv_at hl 3 rfl) ?_
  refine lv_iconst (v := 3) hx hb dL_law_1064 (by decide) ?_
  refine lv_iadd hx hb dL_law_1065 ?_
  refine va_sld hx hb hX hbl hbA hS (hi 3 (Or.inr (Or.inr (Or.inl rfl)))) dL_law_1066 ?_
  refine lv_aload_n hx hb dL_law_1067 rfl (lv_at hl 0 rfl) ?_
  refine lv_iload_n hx hb dL_law_1068 rfl (lv_at hl 3 rfl) ?_
  refine lv_iconst (v := 4) hx hb dL_law_1069 (by decide) ?_
  refine lv_iadd hx hb dL_law_1070 ?_
  refine va_sld hx hb hX hbl hbA hS (hi 4 (Or.inr (Or.inr (Or.inr rfl)))) dL_law_1071 ?_
  refine s_lcall (nn := 4) hx hb hml hown hts hK hE (fun _ h => h) (s_WM_ad cy adM) (kcX7_read (l := l) (G := G) (cy := cy) (sa := sa) (s_inj_of (s_WM_ad cy adM σM) hD) (sz := H.size) σM (xs (Int32.toNatClampNeg (x3 + 1))) (xs (Int32.toNatClampNeg (x3 + 2))) (xs (Int32.toNatClampNeg (x3 + 3))) (xs (Int32.toNatClampNeg (x3 + 4))) hz2) gk_L_145 rfl rfl (by decide +kernel) ⟨Nat.le_of_ble_eq_true rfl, Nat.le_of_ble_eq_true rfl⟩ hcs1 hP hD hS (q0 := 0) (ci := 7) rfl rfl rfl (As := [.int (xs (Int32.toNatClampNeg (x3 + 1))), .int (xs (Int32.toNatClampNeg (x3 + 2))), .int (xs (Int32.toNatClampNeg (x3 + 3))), .int (xs (Int32.toNatClampNeg (x3 + 4)))]) (rest := [.int r]) rfl rfl hl.1 (Nat.le_of_ble_eq_true rfl) dL_law_1072 (fun H locs hP hD hS => ?_)
  refine lv_icmp_eq (tgt := 1116) hx hb dL_law_1075 (by decide) (fun _ => ?_) (fun c1 => absurd rfl c1)
  exact hnext H locs ⟨adC, adM, σC1, σM1, rfl, rfl, hR1, s_perm_P List.perm_append_comm hP, s_perm_D List.perm_append_comm hD⟩ hS
set_option maxRecDepth 100000 in
set_option maxHeartbeats 4000000 in
theorem lw_op_torn (hx : p.tables.exec = Jvm.exec) (hb : c.code = code) (hml : c.maxLocals = 4) (hown : s.vm.findClass RL = some m.cls) (hts : ∀ w ∈ kwL, w.before #[Value.ref b] s = true) (hK : va_K G vwCl (s_ty cy) s) (hE : s_E sa (fun q : Nat => s.heap.size ≤ q) s s.heap) (hX : va_X b L xs s s.heap) (hbl : b < s.heap.size) (hcs1 : cells ≤ room_1.cells ∧ slots ≤ room_1.slots) (hi : ∀ k : Int32, k = 1 ∨ k = 2 ∨ k = 3 ∨ k = 4 → vp_in (x3 + k) L) (hop : s_pure_torn Rel) {H : Heap} {locs : List Loc} (hLS : s_LS Rel G cy (fun q : Nat => s.heap.size ≤ q) H aC aM) (hS : va_S (fun q : Nat => s.heap.size ≤ q) s.heap H locs) {ls : Array Slot} (hl : lv_has ls 4 [(0, .ref b), (1, .ref aC), (2, .ref aM), (3, .int x3)]) (hnext : ∀ (H : Heap) (locs : List Loc), s_LS Rel G cy (fun q : Nat => s.heap.size ≤ q) H aC aM → va_S (fun q : Nat => s.heap.size ≤ q) s.heap H locs → W p l e room_1 s m #[Value.ref b] below meth c H locs cells slots Q (F0 m 1116 ls [])) : W p l e room_1 s m #[Value.ref b] below meth c H locs cells slots Q (F0 m 1080 ls []) := by
  have hbA : ¬ (fun q : Nat => s.heap.size ≤ q) b := Nat.not_le.mpr hbl
  obtain ⟨adC, adM, σC, σM, e1, e2, hR, hP, hD⟩ := hLS
  subst e1
  subst e2
  obtain ⟨r, σC1, σM1, hz1, hz2, hR1⟩ := hop σC σM hR
  refine lv_aload_n hx hb dL_law_1080 rfl (lv_at hl 1 rfl) ?_
  refine s_lcall (nn := 0) hx hb hml hown hts hK hE (fun _ h => h) (s_WC_ad cy adC) (kcX6_torn (l := l) (G := G) (cy := cy) (sa := sa) (s_inj_of (s_WC_ad cy adC σC) hD) (sz := H.size) σC hz1) gk_L_146 rfl rfl (by decide +kernel) ⟨Nat.le_of_ble_eq_true rfl, Nat.le_of_ble_eq_true rfl⟩ hcs1 hP hD hS (q0 := 0) (ci := 6) rfl rfl rfl (As := []) (rest := []) rfl rfl hl.1 (Nat.le_of_ble_eq_true rfl) dL_law_1081 (fun H locs hP hD hS => ?_)
  replace hP := s_perm_P List.perm_append_comm hP
  replace hD := s_perm_D List.perm_append_comm hD
  refine lv_aload_n hx hb dL_law_1084 rfl (lv_at hl 2 rfl) ?_
  refine s_lcall (nn := 0) hx hb hml hown hts hK hE (fun _ h => h) (s_WM_ad cy adM) (kcX7_torn (l := l) (G := G) (cy := cy) (sa := sa) (s_inj_of (s_WM_ad cy adM σM) hD) (sz := H.size) σM hz2) gk_L_149 rfl rfl (by decide +kernel) ⟨Nat.le_of_ble_eq_true rfl, Nat.le_of_ble_eq_true rfl⟩ hcs1 hP hD hS (q0 := 0) (ci := 7) rfl rfl rfl (As := []) (rest := [.int r]) rfl rfl hl.1 (Nat.le_of_ble_eq_true rfl) dL_law_1085 (fun H locs hP hD hS => ?_)
  refine lv_icmp_eq (tgt := 1116) hx hb dL_law_1088 (by decide) (fun _ => ?_) (fun c1 => absurd rfl c1)
  exact hnext H locs ⟨adC, adM, σC1, σM1, rfl, rfl, hR1, s_perm_P List.perm_append_comm hP, s_perm_D List.perm_append_comm hD⟩ hS
set_option maxRecDepth 100000 in
set_option maxHeartbeats 4000000 in
theorem lw_op_count (hx : p.tables.exec = Jvm.exec) (hb : c.code = code) (hml : c.maxLocals = 4) (hown : s.vm.findClass RL = some m.cls) (hts : ∀ w ∈ kwL, w.before #[Value.ref b] s = true) (hK : va_K G vwCl (s_ty cy) s) (hE : s_E sa (fun q : Nat => s.heap.size ≤ q) s s.heap) (hX : va_X b L xs s s.heap) (hbl : b < s.heap.size) (hcs1 : cells ≤ room_1.cells ∧ slots ≤ room_1.slots) (hi : ∀ k : Int32, k = 1 ∨ k = 2 ∨ k = 3 ∨ k = 4 → vp_in (x3 + k) L) (hop : s_pure_count Rel) {H : Heap} {locs : List Loc} (hLS : s_LS Rel G cy (fun q : Nat => s.heap.size ≤ q) H aC aM) (hS : va_S (fun q : Nat => s.heap.size ≤ q) s.heap H locs) {ls : Array Slot} (hl : lv_has ls 4 [(0, .ref b), (1, .ref aC), (2, .ref aM), (3, .int x3)]) (hnext : ∀ (H : Heap) (locs : List Loc), s_LS Rel G cy (fun q : Nat => s.heap.size ≤ q) H aC aM → va_S (fun q : Nat => s.heap.size ≤ q) s.heap H locs → W p l e room_1 s m #[Value.ref b] below meth c H locs cells slots Q (F0 m 1116 ls [])) : W p l e room_1 s m #[Value.ref b] below meth c H locs cells slots Q (F0 m 1093 ls []) := by
  have hbA : ¬ (fun q : Nat => s.heap.size ≤ q) b := Nat.not_le.mpr hbl
  obtain ⟨adC, adM, σC, σM, e1, e2, hR, hP, hD⟩ := hLS
  subst e1
  subst e2
  obtain ⟨r, σC1, σM1, hz1, hz2, hR1⟩ := hop σC σM hR (xs (Int32.toNatClampNeg (x3 + 1)))
  refine lv_aload_n hx hb dL_law_1093 rfl (lv_at hl 1 rfl) ?_
  refine lv_aload_n hx hb dL_law_1094 rfl (lv_at hl 0 rfl) ?_
  refine lv_iload_n hx hb dL_law_1095 rfl (lv_at hl 3 rfl) ?_
  refine lv_iconst (v := 1) hx hb dL_law_1096 (by decide) ?_
  refine lv_iadd hx hb dL_law_1097 ?_
  refine va_sld hx hb hX hbl hbA hS (hi 1 (Or.inl rfl)) dL_law_1098 ?_
  refine s_lcall (nn := 1) hx hb hml hown hts hK hE (fun _ h => h) (s_WC_ad cy adC) (kcX6_count (l := l) (G := G) (cy := cy) (sa := sa) (s_inj_of (s_WC_ad cy adC σC) hD) (sz := H.size) σC (xs (Int32.toNatClampNeg (x3 + 1))) hz1) gk_L_150 rfl rfl (by decide +kernel) ⟨Nat.le_of_ble_eq_true rfl, Nat.le_of_ble_eq_true rfl⟩ hcs1 hP hD hS (q0 := 0) (ci := 6) rfl rfl rfl (As := [.int (xs (Int32.toNatClampNeg (x3 + 1)))]) (rest := []) rfl rfl hl.1 (Nat.le_of_ble_eq_true rfl) dL_law_1099 (fun H locs hP hD hS => ?_)
  replace hP := s_perm_P List.perm_append_comm hP
  replace hD := s_perm_D List.perm_append_comm hD
  refine lv_aload_n hx hb dL_law_1102 rfl (lv_at hl 2 rfl) ?_
  refine lv_aload_n hx hb dL_law_1103 rfl (lv_at hl 0 rfl) ?_
  refine lv_iload_n hx hb dL_law_1104 rfl (lv_at hl 3 rfl) ?_
  refine lv_iconst (v := 1) hx hb dL_law_1105 (by decide) ?_
  refine lv_iadd hx hb dL_law_1106 ?_
  refine va_sld hx hb hX hbl hbA hS (hi 1 (Or.inl rfl)) dL_law_1107 ?_
  refine s_lcall (nn := 1) hx hb hml hown hts hK hE (fun _ h => h) (s_WM_ad cy adM) (kcX7_count (l := l) (G := G) (cy := cy) (sa := sa) (s_inj_of (s_WM_ad cy adM σM) hD) (sz := H.size) σM (xs (Int32.toNatClampNeg (x3 + 1))) hz2) gk_L_153 rfl rfl (by decide +kernel) ⟨Nat.le_of_ble_eq_true rfl, Nat.le_of_ble_eq_true rfl⟩ hcs1 hP hD hS (q0 := 0) (ci := 7) rfl rfl rfl (As := [.int (xs (Int32.toNatClampNeg (x3 + 1)))]) (rest := [.int r]) rfl rfl hl.1 (Nat.le_of_ble_eq_true rfl) dL_law_1108 (fun H locs hP hD hS => ?_)
  refine lv_icmp_eq (tgt := 1116) hx hb dL_law_1111 (by decide) (fun _ => ?_) (fun c1 => absurd rfl c1)
  exact hnext H locs ⟨adC, adM, σC1, σM1, rfl, rfl, hR1, s_perm_P List.perm_append_comm hP, s_perm_D List.perm_append_comm hD⟩ hS
end
