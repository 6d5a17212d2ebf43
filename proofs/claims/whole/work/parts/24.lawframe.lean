/-! worlds as sets of cells; the law's calls -/
theorem s_P_iff {G : va_G} {cl : List vw_C} {w : va_W} {H : Heap} : va_P G cl w H ↔ ∀ q ∈ w, va_at G cl q H :=
  ⟨fun h q hq => by obtain ⟨i, hi⟩ := List.getElem?_of_mem hq; exact h i q hi, fun h k q hk => h q (List.mem_of_getElem? hk)⟩
theorem s_D_iff {A : Nat → Prop} {w : va_W} : va_D A w ↔ (w.map Prod.fst).Nodup ∧ ∀ q ∈ w, A q.1 := by
  constructor
  · intro h
    refine ⟨?_, fun q hq => by obtain ⟨i, hi⟩ := List.getElem?_of_mem hq; exact h.2 i q hi⟩
    rw [List.Nodup, List.pairwise_iff_getElem]
    intro i j hi hj hij e
    rw [List.length_map] at hi hj
    rw [List.getElem_map, List.getElem_map] at e
    have := h.1 i j w[i] w[j] (List.getElem?_eq_getElem hi) (List.getElem?_eq_getElem hj) e
    omega
  · intro h
    refine ⟨fun i j p q hi hj e => ?_, fun k q hk => h.2 q (List.mem_of_getElem? hk)⟩
    have h1 := h.1
    rw [List.Nodup, List.pairwise_iff_getElem] at h1
    obtain ⟨hi', ei⟩ := List.getElem?_eq_some_iff.mp hi
    obtain ⟨hj', ej⟩ := List.getElem?_eq_some_iff.mp hj
    rcases Nat.lt_trichotomy i j with z | z | z
    · exact absurd (by rw [List.getElem_map, List.getElem_map, ei, ej]; exact e) (h1 i j (by rw [List.length_map]; exact hi') (by rw [List.length_map]; exact hj') z)
    · exact z
    · exact absurd (by rw [List.getElem_map, List.getElem_map, ei, ej]; exact e.symm) (h1 j i (by rw [List.length_map]; exact hj') (by rw [List.length_map]; exact hi') z)
theorem s_perm_P {G : va_G} {cl : List vw_C} {w w' : va_W} {H : Heap} (hp : w.Perm w') (h : va_P G cl w H) : va_P G cl w' H := s_P_iff.mpr fun q hq => s_P_iff.mp h q (hp.mem_iff.mpr hq)
theorem s_perm_D {A : Nat → Prop} {w w' : va_W} (hp : w.Perm w') (h : va_D A w) : va_D A w' := by
  rw [s_D_iff] at h ⊢
  exact ⟨(hp.map Prod.fst).nodup_iff.mp h.1, fun q hq => h.2 q (hp.mem_iff.mpr hq)⟩
theorem s_same_D {A : Nat → Prop} {w w' : va_W} (e : w.map Prod.fst = w'.map Prod.fst) (h : va_D A w) : va_D A w' := by
  rw [s_D_iff] at h ⊢
  refine ⟨by rw [← e]; exact h.1, fun q hq => ?_⟩
  have : q.1 ∈ w.map Prod.fst := by rw [e]; exact List.mem_map.mpr ⟨q, hq, rfl⟩
  obtain ⟨x, hx, ex⟩ := List.mem_map.mp this
  rw [← ex]
  exact h.2 x hx
theorem s_inj_of {A : Nat → Prop} {w wr : va_W} {ad : Nat → Nat} {n : Nat} (had : w.map Prod.fst = (List.range n).map ad) (h : va_D A (w ++ wr)) : s_inj ad n := by
  have h1 := (s_D_iff.mp h).1
  rw [List.map_append, had] at h1
  have h2 := (List.nodup_append.mp h1).1
  intro i j hi hj e
  rw [List.Nodup, List.pairwise_iff_getElem] at h2
  rcases Nat.lt_trichotomy i j with z | z | z
  · exact absurd (by rw [List.getElem_map, List.getElem_map, List.getElem_range, List.getElem_range]; exact e) (h2 i j (by simpa using hi) (by simpa using hj) z)
  · exact z
  · exact absurd (by rw [List.getElem_map, List.getElem_map, List.getElem_range, List.getElem_range]; exact e.symm) (h2 j i (by simpa using hj) (by simpa using hi) z)
theorem s_out {A : Nat → Prop} {w wr : va_W} {ad : Nat → Nat} {n sz : Nat} {q : Nat × va_E} (had : w.map Prod.fst = (List.range n).map ad) (h : va_D A (w ++ wr)) (hq : q ∈ wr) (hlt : q.1 < sz) : ¬ s_A ad n sz q.1 := by
  intro z
  rcases z with ⟨k, hk, e⟩ | z
  · have h1 := (s_D_iff.mp h).1
    rw [List.map_append, had] at h1
    exact (List.nodup_append.mp h1).2.2 (ad k) (List.mem_map.mpr ⟨k, List.mem_range.mpr hk, rfl⟩) q.1 (List.mem_map.mpr ⟨q, hq, rfl⟩) e
  · omega
theorem s_inA {A : Nat → Prop} {w wr : va_W} {ad : Nat → Nat} {n sz q : Nat} (had : w.map Prod.fst = (List.range n).map ad) (h : va_D A (w ++ wr)) (hA : ∀ q, sz ≤ q → A q) (z : s_A ad n sz q) : A q := by
  rcases z with ⟨k, hk, e⟩ | z
  · have : ad k ∈ w.map Prod.fst := by rw [had]; exact List.mem_map.mpr ⟨k, List.mem_range.mpr hk, rfl⟩
    obtain ⟨x, hx, ex⟩ := List.mem_map.mp this
    rw [← e, ← ex]
    exact (s_D_iff.mp h).2 x (List.mem_append_left _ hx)
  · exact hA q z
section SLAW
variable {p : Program} {l : Launch} {e : Env} {R : Room} {s : State} {m : MethodId} {args : Array Value} {below : List Frame} {meth : Method} {c : Code} {H : Heap} {locs : List Loc} {Q : State → Prop} {cells slots : Nat}
variable {cc : ByteArray} {nL : Nat} {own : String} {G : va_G} {cy : Nat → ClassId} {sa : Nat × Nat} {ad : Nat → Nat} {n : Nat} {Wd : Sg → va_W} {σ σ1 : Sg} {r1 : Int32} {wr : va_W} {A : Nat → Prop}
variable {y : MethodName} {bytes : ByteArray} {maxL idx nn pc : Nat} {rt : Option FieldType} {Cn : String} {rm : Room} {As rest st0 : List Value} {b : Nat} {ls : Array Slot}
theorem s_lcall (hx : p.tables.exec = Jvm.exec) (hb : c.code = cc) (hml : c.maxLocals = nL) (hown : s.vm.findClass own = some m.cls) (hts : ∀ w ∈ kwL, w.before args s = true) (hK : va_K G vwCl (s_ty cy) s) (hE : s_E sa A s s.heap) (hA : ∀ q, s.heap.size ≤ q → A q)
    (had : ∀ σ : Sg, (Wd σ).map Prod.fst = (List.range n).map ad)
    (hM : Met l y (kW y bytes maxL rt) rm (s_P Wd G cy sa ad n (.ref b :: As) H.size σ) (s_Qi Wd G (s_A ad n H.size) r1 σ1) 0 0 (s_A ad n H.size))
    (hg : GoodIn kwL (wsV own idx Cn y (kW y bytes maxL rt))) (hrc : rm.cells = 0) (hrs : rm.slots = 0) (hd : y.cls = Cn ∧ y.cls ≠ "java/lang/invoke/MethodHandle" ∧ y.cls ≠ "java/lang/invoke/VarHandle" ∧ (parseMethodDescriptor y.desc).map (fun d => d.parameters.length) = some nn) (hR : rm.frames + 1 ≤ R.frames ∧ 8 + (maxL + 11) + rm.locals ≤ R.locals) (hcs : cells ≤ R.cells ∧ slots ≤ R.slots)
    (hP : va_P G vwCl (Wd σ ++ wr) H) (hD : va_D A (Wd σ ++ wr)) (hS : va_S A s.heap H locs) {q0 ci : Nat} {vc : vw_C} {fs : List Value} (hc : vwCl[ci]? = some vc) (he : (Wd σ)[q0]? = some (b, .inr (ci, fs))) (hCn : vc.1 = Cn) (hst : st0 = As.reverse ++ .ref b :: rest) (hn : As.length = nn) (hls : ls.size = nL) (hW : (rest.map fun v => v.category).sum ≤ 8) (hdg : decode cc pc = .ok (.invokevirtual idx, 3))
    (kk : ∀ (H1 : Heap) (locs1 : List Loc), va_P G vwCl (Wd σ1 ++ wr) H1 → va_D A (Wd σ1 ++ wr) → va_S A s.heap H1 locs1 → W p l e R s m args below meth c H1 locs1 cells slots Q (F0 m (pc + 3) ls (.int r1 :: rest))) :
    W p l e R s m args below meth c H locs cells slots Q (F0 m pc ls st0) := by
  subst hCn
  have hPc : va_P G vwCl (Wd σ) H := s_P_iff.mpr fun q hq => s_P_iff.mp hP q (List.mem_append_left _ hq)
  have hsub : ∀ q, s_A ad n H.size q → A q := fun q z => s_inA (had σ) hD (fun q h => hA q (Nat.le_trans hS.1 h)) z
  refine va_calli (va_runV (As := As) (rest := rest) ⟨hx, hb, hml, hown, hts⟩ hM (cwV nn hts hg rfl hrc hrs hd hR) ⟨s_P_blind, va_recv hK hPc (ci := ci) (q0 := q0) hc he, fun U hU hW => ⟨rfl, by rw [hU], by rw [hU]; exact hPc, va_K.moved hW.alike hK, hE.go hS hW hU hsub⟩⟩ rfl hn hls hst (lv_room hW) hdg hcs) hS (fun q _ h => hsub q h) hsub (fun r u t H1 locs1 ht hvm hw hB hz1 hk1 hS1 => ?_)
  subst hw
  rw [ht] at hB
  refine kk H1 locs1 (s_P_iff.mpr fun q hq => ?_) (s_same_D (by rw [List.map_append, List.map_append, had, had]) hD) hS1
  rcases List.mem_append.mp hq with h | h
  · exact s_P_iff.mp hB q h
  · have ha := s_P_iff.mp hP q (List.mem_append_right _ h)
    exact ha.kept (hk1 q.1 ha.lt (s_out (had σ) hD h ha.lt))
end SLAW
