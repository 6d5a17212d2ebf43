/-! PURE: the teller and the reader, token by token -/
def r_gc (cB c : Sg) : Prop := ∀ p, p < 3 ∨ 5 < p → c p = cB p
def r_gm (mB m : Sg) : Prop := (∀ p, 1 < p → m p = mB p) ∧ (∀ i, i < 5 ∨ 11 < i → m 0 i = mB 0 i) ∧ ∀ i, i < 309 ∨ 411 < i → m 1 i = mB 1 i
theorem r_gc_t {a b d : Sg} (h : r_gc a b) (k : r_gc b d) : r_gc a d := fun p hp => by rw [k p hp, h p hp]
theorem r_gm_t {a b d : Sg} (h : r_gm a b) (k : r_gm b d) : r_gm a d := ⟨fun p hp => by rw [k.1 p hp, h.1 p hp], fun i hi => by rw [k.2.1 i hi, h.2.1 i hi], fun i hi => by rw [k.2.2 i hi, h.2.2 i hi]⟩
theorem r_gc_o {c c' : Sg} (h : r_o3 c c') : r_gc c c' := fun p hp => h.1 p (by omega)
theorem r_gm_o {m m' : Sg} (h : r_o0 m m') : r_gm m m' := ⟨fun p hp => h.1 p (by omega), fun i hi => h.2 i (by omega), fun i _ => by rw [h.1 1 (by decide)]⟩
theorem r_gc_u {c : Sg} {p : Nat} (i : Nat) (v : Int32) (h : 3 ≤ p ∧ p ≤ 5) : r_gc c (s_up c p i v) := fun q hq => by rw [p_up, if_neg (by omega)]
theorem r_gm_0 {m : Sg} (i : Nat) (v : Int32) (h : 5 ≤ i ∧ i ≤ 11) : r_gm m (s_up m 0 i v) := ⟨fun q hq => by rw [p_up, if_neg (by omega)], fun j hj => by
  show upd (m 0) i v j = _
  rw [p_upd, if_neg (by omega)], fun _ _ => rfl⟩
theorem r_gm_1 {m : Sg} (i : Nat) (v : Int32) (h : 309 ≤ i ∧ i ≤ 411) : r_gm m (s_up m 1 i v) := ⟨fun q hq => by rw [p_up, if_neg (by omega)], fun _ _ => rfl, fun j hj => by
  show upd (m 1) i v j = _
  rw [p_upd, if_neg (by omega)]⟩
def r_B (cB mB : Sg) (n : Nat) : Prop := r_tp cB mB n ∧ mB 3 = s_M0 3 ∧ mB 4 = s_M0 4
theorem r_B_of {cB mB c m : Sg} {n : Nat} (b : r_B cB mB n) (hc : r_gc cB c) (hm : r_gm mB m) : r_B c m n := by
  unfold r_B r_tp
  rw [hc 1 (by omega), hc 2 (by omega), hm.2.1 3 (by omega), hm.1 2 (by omega), hm.1 3 (by omega), hm.1 4 (by omega)]
  exact b
def r_nq (m : Sg) (n : Nat) : Prop := m 0 9 = 1 → ∃ s e, m 0 8 = nI s ∧ m 0 7 = nI e ∧ s ≤ e ∧ e ≤ n
def r_K (cB mB : Sg) (n : Nat) (c m : Sg) (tok w : Nat) : Prop := r_gc cB c ∧ r_gm mB m ∧ c 3 2 = m 0 11 ∧ c 3 1 = nI w ∧ ∃ s e, r_tk c m n s e ∧ tok ≤ s
def r_F (cB mB : Sg) (n : Nat) (c m : Sg) : Prop := r_gc cB c ∧ r_gm mB m ∧ 0 < (m 0 5).toInt ∧ c 3 10 = m 0 5 ∧ c 3 11 = m 0 6 ∧ r_nq m n
def r_cl (c : Sg) (tok : Nat) : Option (Int32 × Sg) := fX4_tell_b40_L (4096 - tok) c (nI tok)
def r_rf (c : Sg) (x : Int32) : Sg := s_up (s_up c 3 10 x) 3 11 (c 3 6)
def r_fl (m : Sg) (x : Int32) : Sg := s_up (s_up m 0 5 x) 0 6 (m 0 8)
theorem p_rf (c : Sg) (x : Int32) : fX4_refuse c x = some (r_rf c x) := by
  unfold fX4_refuse
  rw [p_lt, p_lt]
  rfl
theorem p_fl {m : Sg} (h : m 0 5 = 0) (x : Int32) : fX7_fails m x = some (r_fl m x) := by
  unfold fX7_fails
  rw [if_pos h, p_lt, p_lt]
  rfl
theorem r_rf_g (c : Sg) (x : Int32) : r_gc c (r_rf c x) := r_gc_t (r_gc_u _ _ (by omega)) (r_gc_u _ _ (by omega))
theorem r_fl_g (m : Sg) (x : Int32) : r_gm m (r_fl m x) := r_gm_t (r_gm_0 _ _ (by omega)) (r_gm_0 _ _ (by omega))
/-! nameHere looks at little -/
theorem r_fd_u {tp : Nat → Int32} {e s : Nat} : ∀ (ws : List (List Int32)) (k : Nat) (a b : Int32), r_fd tp e s ws k a → r_fd tp e s ws k b → a = b := by
  intro ws
  induction ws with
  | nil => intro k a b h1 h2; exact h1.trans h2.symm
  | cons w ws ih =>
    intro k a b h1 h2
    rcases h1 with ⟨x1, x2⟩ | ⟨x1, x2⟩
    · rcases h2 with ⟨y1, y2⟩ | ⟨y1, y2⟩
      · rw [x2, y2]
      · exact absurd x1 y1
    · rcases h2 with ⟨y1, y2⟩ | ⟨y1, y2⟩
      · exact absurd y1 x1
      · exact ih _ _ _ x2 y2
theorem p_nhc {c m m' : Sg} {n s e : Nat} {b : Int32} (B : r_B c m n) (B' : r_B c m' n) (e8 : m 0 8 = nI s) (e7 : m 0 7 = nI e) (hs : s ≤ e) (he : e ≤ n) (h7 : m' 0 7 = m 0 7) (h8 : m' 0 8 = m 0 8) (h9 : m' 0 9 = m 0 9) (h2 : m' 2 = m 2) (hb : fX7_nameHere m = some (b, m)) : fX7_nameHere m' = some (b, m') := by
  obtain ⟨⟨hn, t1, t2, t3⟩, k3, k4⟩ := B
  obtain ⟨⟨hn', t1', t2', t3'⟩, k3', k4'⟩ := B'
  by_cases x : m 0 9 = 1
  · obtain ⟨b1, q1, q2⟩ := p_nhr hn t2 e8 e7 x he hs k4 k3
    obtain ⟨b2, q3, q4⟩ := p_nhr hn' t2' (h8.trans e8) (h7.trans e7) (h9.trans x) he hs k4' k3'
    rw [h2] at q4
    have e1 : b1 = b := (Prod.mk.inj (Option.some.inj (q1.symm.trans hb))).1
    rw [q3, ← e1, r_fd_u _ _ _ _ q2 q4]
  · have e1 : -4 = b := (Prod.mk.inj (Option.some.inj ((p_nhN x).symm.trans hb))).1
    rw [p_nhN (by rw [h9]; exact x), ← e1]
theorem r_tk_mv {c c' m m' : Sg} {n s e : Nat} (B : r_B c m n) (B' : r_B c m' n) (hc : ∀ i, 5 ≤ i → i ≤ 10 → c' 3 i = c 3 i) (hm : ∀ i, 5 ≤ i → i ≤ 10 → m' 0 i = m 0 i) (h2 : m' 2 = m 2) (h : r_tk c m n s e) : r_tk c' m' n s e := by
  obtain ⟨⟨x1, x2, x3, x4, x5, x6, x7, x8⟩, ⟨b, y1, y2⟩, z⟩ := h
  have c5 := hc 5 (by omega) (by omega)
  have c8 := hc 8 (by omega) (by omega)
  have c9 := hc 9 (by omega) (by omega)
  have m9 := hm 9 (by omega) (by omega)
  refine ⟨⟨by rw [hc 6 (by omega) (by omega)]; exact x1, by rw [hm 8 (by omega) (by omega)]; exact x2, by rw [hc 7 (by omega) (by omega)]; exact x3, by rw [hm 7 (by omega) (by omega)]; exact x4, x5, x6, by rw [hc 10 (by omega) (by omega)]; exact x7, by rw [hm 5 (by omega) (by omega)]; exact x8⟩, ⟨b, p_nhc B B' x2 x4 x5 x6 (hm 7 (by omega) (by omega)) (hm 8 (by omega) (by omega)) m9 h2 y1, by rw [c8]; exact y2⟩, ?_⟩
  rw [c5, c8, c9, m9, h2, hm 10 (by omega) (by omega)]
  exact z
/-! the class's loop -/
theorem p_clf {c : Sg} {tok : Nat} (h : ¬ c 3 10 = 0) (ht : tok ≤ 400) : r_cl c tok = some (0, c) := by
  unfold r_cl
  rw [show 4096 - tok = (4095 - tok) + 1 by omega]
  show fX4_tell_b40 (fX4_tell_b40_L (4095 - tok)) c (nI tok) = _
  have hb : fX4_tell_b91 c = some (0, c) := by
    unfold fX4_tell_b91 fX4_tell_b112
    rw [if_neg h, if_neg h]
  unfold fX4_tell_b40
  rw [hb]
  by_cases x : (320 : Int32) ≤ nI tok
  · rw [if_pos x]
  · rw [if_neg x, if_neg h]
theorem p_cle {c : Sg} {tok : Nat} (hf : c 3 10 = 0) (h5 : c 3 5 = 0) (hw : ¬ c 3 1 = 12) (ht : tok ≤ 400) : r_cl c tok = some (0, r_rf c 2) := by
  unfold r_cl
  rw [show 4096 - tok = (4095 - tok) + 1 by omega]
  show fX4_tell_b40 (fX4_tell_b40_L (4095 - tok)) c (nI tok) = _
  have hb : fX4_tell_b91 c = some (0, r_rf c 2) := by
    unfold fX4_tell_b91
    rw [if_pos hf, if_neg hw, p_rf, p_bv]
    unfold fX4_tell_b112
    rw [if_neg (show ¬ r_rf c 2 3 10 = 0 by show ¬ (2 : Int32) = 0; decide)]
  unfold fX4_tell_b40
  rw [hb]
  by_cases x : (320 : Int32) ≤ nI tok
  · rw [if_pos x]
  · rw [if_neg x, if_pos hf, if_pos h5]
theorem p_cl12 {c : Sg} {tok : Nat} (hf : c 3 10 = 0) (h5 : c 3 5 = 0) (hw : c 3 1 = 12) (ht : tok ≤ 400) : r_cl c tok = some (1, c) := by
  unfold r_cl
  rw [show 4096 - tok = (4095 - tok) + 1 by omega]
  show fX4_tell_b40 (fX4_tell_b40_L (4095 - tok)) c (nI tok) = _
  have hb : fX4_tell_b91 c = some (1, c) := by
    unfold fX4_tell_b91 fX4_tell_b112
    rw [if_pos hf, if_pos hw, if_pos hf]
  unfold fX4_tell_b40
  rw [hb]
  by_cases x : (320 : Int32) ≤ nI tok
  · rw [if_pos x]
  · rw [if_neg x, if_pos hf, if_pos h5]
theorem p_cls {c m : Sg} {n s e tok : Nat} (B : r_B c m n) (k : r_tk c m n s e) (h5 : ¬ c 3 5 = 0) (hs : s < e) (ht : tok ≤ s) : r_cl c tok = s_bv (fX4_takeToken c (m 2 s)) (fun σ7 => (if (σ7 3 10) = 0 then (s_bv (fX4_scan σ7) (fun σ10 => r_cl σ10 (tok + 1))) else r_cl σ7 (tok + 1))) := by
  obtain ⟨⟨hn, t1, t2, t3⟩, -⟩ := B
  obtain ⟨⟨x1, x2, x3, x4, x5, x6, x7, x8⟩, -⟩ := k
  unfold r_cl
  rw [show 4096 - tok = (4096 - (tok + 1)) + 1 by omega]
  show fX4_tell_b40 (fX4_tell_b40_L (4096 - (tok + 1))) c (nI tok) = _
  unfold fX4_tell_b40 fX4_tell_b85
  rw [if_neg (show ¬ (320 : Int32) ≤ nI tok from nI_ge (b := 320) (by omega) (by omega)), if_pos x7, if_neg h5, x1, p_by hn t1 (by omega), p_bi, (t3 s (by omega)).1]
  have e1 : ∀ σ : Sg, s_lt (nI tok + 1) (fun t1 => fX4_tell_b40_L (4096 - (tok + 1)) σ t1) = fX4_tell_b40_L (4096 - (tok + 1)) σ (nI (tok + 1)) := fun σ => by rw [p_lt, nI_1]
  congr 1
  funext σ7
  rw [e1]
  by_cases y : σ7 3 10 = 0
  · rw [if_pos y, if_pos y]
    congr 1
    funext σ10
    exact e1 σ10
  · rw [if_neg y, if_neg y]
/-- a token is taken, the next one read -/
theorem p_adv {cB mB c m : Sg} {n e tok w : Nat} (B : r_B cB mB n) (hc : r_gc cB c) (hm : r_gm mB m) (h7 : c 3 7 = nI e) (g7 : m 0 7 = nI e) (he : e ≤ n) (hf : c 3 10 = 0) (hb : m 0 5 = 0) (h2 : c 3 2 = m 0 11) (hw : c 3 1 = nI w) (ht : tok < e) : ∃ c1 m1, fX7_readsOn m = some m1 ∧ r_o3 c c1 ∧ r_o0 m m1 ∧ ((s_bv (fX4_scan c) (fun σ10 => r_cl σ10 (tok + 1)) = r_cl c1 (tok + 1) ∧ r_K cB mB n c1 m1 (tok + 1) w) ∨ (s_bv (fX4_scan c) (fun σ10 => r_cl σ10 (tok + 1)) = some (0, c1) ∧ r_F cB mB n c1 m1)) := by
  obtain ⟨tp, k3, k4⟩ := r_B_of B hc hm
  have hn := tp.1
  obtain ⟨c1, m1, f1, f2, o1, o2, h⟩ := p_scan tp h7 g7 he hf hb k3 k4
  refine ⟨c1, m1, f2, o1, o2, ?_⟩
  rw [f1, p_bv]
  have gc1 := r_gc_t hc (r_gc_o o1)
  have gm1 := r_gm_t hm (r_gm_o o2)
  rcases h with ⟨s, e1, h1, h3⟩ | ⟨h1, h3, h4, h5⟩
  · exact Or.inl ⟨rfl, gc1, gm1, by rw [o1.2 2 (by omega), o2.2 11 (by omega)]; exact h2, by rw [o1.2 1 (by omega)]; exact hw, s, e1, h3, by omega⟩
  · refine Or.inr ⟨p_clf (by rw [h1]; decide) (by omega), gc1, gm1, by rw [h3]; decide, by rw [h1, h3], h4, fun z => absurd z h5⟩
/-- a fault at the token that stands there -/
theorem r_F_of {cB mB c m cF : Sg} {n tok w : Nat} {x : Int32} (K : r_K cB mB n c m tok w) (hx : 0 < x.toInt) (g : r_gc c cF) (h10 : cF 3 10 = x) (h11 : cF 3 11 = c 3 6) : r_F cB mB n cF (r_fl m x) := by
  obtain ⟨k1, k2, k3, k4, s, e, ⟨⟨x1, x2, x3, x4, x5, x6, x7, x8⟩, -⟩, k6⟩ := K
  refine ⟨r_gc_t k1 g, r_gm_t k2 (r_fl_g m x), hx, h10, ?_, fun _ => ⟨s, e, x2, x4, x5, x6⟩⟩
  show cF 3 11 = m 0 8
  rw [h11, x1, x2]
/-! the reader, once broken -/
theorem q_brk {m : Sg} (h : 0 < (m 0 5).toInt) : ¬ m 0 5 = 0 ∧ ¬ m 0 5 ≤ 0 ∧ (0 : Int32) < m 0 5 := by
  have w0 : (0 : Int32).toInt = 0 := rfl
  refine ⟨fun z => ?_, fun z => ?_, ?_⟩
  · rw [z, w0] at h; omega
  · rw [q_l, w0] at z; omega
  · rw [q_i, w0]; exact h
theorem b_ro {m : Sg} (h : 0 < (m 0 5).toInt) : fX7_readsOn m = some m := by
  unfold fX7_readsOn
  rw [if_neg (q_brk h).2.1]
theorem b_nr {m : Sg} (h : 0 < (m 0 5).toInt) (a b : Int32) : fX7_numberRead m a b = some (a, m) := by
  unfold fX7_numberRead fX7_numberRead_b20 fX7_numberRead_b47 fX7_numberRead_b62
  rw [if_neg (q_brk h).1, if_neg (q_brk h).1, if_neg (q_brk h).1, b_ro h, p_bv]
theorem b_hr {m : Sg} (h : 0 < (m 0 5).toInt) : fX7_hundredthsRead m = some (0, m) := by
  unfold fX7_hundredthsRead fX7_hundredthsRead_b15
  rw [if_pos (q_brk h).2.2]
theorem b_h41 {m : Sg} (h : 0 < (m 0 5).toInt) : fX7_hundredthsRead_b41 m = some (0, m) := by
  have hb : ∀ y, fX7_hundredthsRead_b87 m y = some (0, m) := fun y => by
    unfold fX7_hundredthsRead_b87
    rw [b_ro h, p_bv, if_neg (q_brk h).1]
  unfold fX7_hundredthsRead_b41 fX7_hundredthsRead_b68
  rw [p_lt, if_neg (q_brk h).1, hb, hb]
  by_cases x : m 0 7 - m 0 8 = 1
  · rw [if_pos x]
  · rw [if_neg x]
theorem b_rr {m : Sg} (h : 0 < (m 0 5).toInt) : fX7_readReading m = some m := by
  unfold fX7_readReading fX7_readReading_b19 fX7_readReading_b46
  rw [if_neg (q_brk h).1, p_lt, if_neg (q_brk h).1, if_neg (q_brk h).2.1]
theorem b_rpL {m : Sg} (h : 0 < (m 0 5).toInt) (f : Nat) : fX7_readPut_b4_L (f + 1) m = some m := by
  show fX7_readPut_b4 (fX7_readPut_b4_L f) m = _
  unfold fX7_readPut_b4
  rw [if_neg (q_brk h).1]
theorem b_rp {m : Sg} (h : 0 < (m 0 5).toInt) : fX7_readPut m = some m := by
  unfold fX7_readPut
  rw [b_rr h, p_bv]
  exact b_rpL h 4095
theorem b_nh {cB mB c m : Sg} {n : Nat} (B : r_B cB mB n) (F : r_F cB mB n c m) : ∃ b, fX7_nameHere m = some (b, m) := by
  obtain ⟨g1, g2, -, -, -, q⟩ := F
  obtain ⟨⟨hn, t1, t2, t3⟩, k3, k4⟩ := r_B_of B g1 g2
  by_cases x : m 0 9 = 1
  · obtain ⟨s, e, e8, e7, hs, he⟩ := q x
    obtain ⟨b, q1, -⟩ := p_nhr hn t2 e8 e7 x he hs k4 k3
    exact ⟨b, q1⟩
  · exact ⟨-4, p_nhN x⟩
theorem b_wr {cB mB c m : Sg} {n : Nat} (B : r_B cB mB n) (F : r_F cB mB n c m) (a b : Int32) : fX7_wordRead m a b = some (0, m) := by
  obtain ⟨x, hx⟩ := b_nh B F
  have h := F.2.2.1
  unfold fX7_wordRead fX7_wordRead_b33
  rw [hx, p_bi, if_neg (q_brk h).1, b_ro h, p_bv, if_neg (q_brk h).1]
theorem b_228 {m : Sg} (h : 0 < (m 0 5).toInt) : fX7_readLine_b228 m = some m := by
  unfold fX7_readLine_b228 fX7_readLine_b248
  rw [if_neg (q_brk h).1, b_ro h, p_bv]
theorem r_F_1 {cB mB c m : Sg} {n : Nat} (F : r_F cB mB n c m) (i : Nat) (v : Int32) (h : 309 ≤ i ∧ i ≤ 411) : r_F cB mB n c (s_up m 1 i v) := by
  obtain ⟨g1, g2, g3, g4, g5, g6⟩ := F
  exact ⟨g1, r_gm_t g2 (r_gm_1 i v h), g3, g4, g5, g6⟩
/-! a number is wanted -/
theorem r_K_d {cB mB c m c' m' : Sg} {n tok w : Nat} (B : r_B cB mB n) (K : r_K cB mB n c m tok w) (hc : ∀ p, ¬ p = 4 → ¬ p = 5 → c' p = c p) (hm : ∀ p, ¬ p = 1 → m' p = m p) (hm1 : ∀ i, i < 309 ∨ 411 < i → m' 1 i = m 1 i) : r_K cB mB n c' m' tok w := by
  obtain ⟨k1, k2, k3, k4, s, e, k5, k6⟩ := K
  have gm : r_gm m m' := ⟨fun p hp => hm p (by omega), fun i _ => by rw [hm 0 (by decide)], hm1⟩
  have gc : r_gc c c' := fun p hp => hc p (by omega) (by omega)
  refine ⟨r_gc_t k1 gc, r_gm_t k2 gm, by rw [hc 3 (by decide) (by decide), hm 0 (by decide)]; exact k3, by rw [hc 3 (by decide) (by decide)]; exact k4, s, e, ?_, k6⟩
  exact r_tk_mv (r_B_of B k1 k2) (r_B_of B k1 (r_gm_t k2 gm)) (fun i _ _ => by rw [hc 3 (by decide) (by decide)]) (fun i _ _ => by rw [hm 0 (by decide)]) (hm 2 (by decide)) k5
theorem p_Lnum {cB mB c m : Sg} {n tok w least most th fi : Nat} (B : r_B cB mB n) (K : r_K cB mB n c m tok w) (hw : w < 12) (hl : least ≤ 9999) (hmo : most ≤ 9999) (hth : th ≤ 12) (htake : ∀ x, fX4_takeToken c x = s_bi (fX4_takeNumber c (nI least) (nI most) (nI th)) (fun r σ => s_lt (s_up σ 4 fi r) (fun σ5 => some σ5))) : ∃ r m1, fX7_numberRead m (nI least) (nI most) = some (r, m1) ∧ m1 1 = m 1 ∧ ((∃ c1 v, r = nI v ∧ least ≤ v ∧ v ≤ most ∧ r_cl c tok = r_cl c1 (tok + 1) ∧ r_K cB mB n c1 m1 (tok + 1) th ∧ c1 4 = upd (c 4) fi (nI v) ∧ c1 5 = c 5) ∨ (∃ cF, r_cl c tok = some (0, cF) ∧ r_F cB mB n cF m1)) := by
  obtain ⟨k1, k2, k3, k4, s, e, k5, k6⟩ := id K
  have B' := r_B_of B k1 k2
  have hn := B'.1.1
  obtain ⟨⟨x1, x2, x3, x4, x5, x6, x7, x8⟩, ⟨b, y1, y2⟩, z⟩ := id k5
  -- no number
  have bad : ¬ c 3 5 = 2 → ¬ m 0 9 = 2 → ∃ r m1, fX7_numberRead m (nI least) (nI most) = some (r, m1) ∧ m1 1 = m 1 ∧ ((∃ c1 v, r = nI v ∧ least ≤ v ∧ v ≤ most ∧ r_cl c tok = r_cl c1 (tok + 1) ∧ r_K cB mB n c1 m1 (tok + 1) th ∧ c1 4 = upd (c 4) fi (nI v) ∧ c1 5 = c 5) ∨ (∃ cF, r_cl c tok = some (0, cF) ∧ r_F cB mB n cF m1)) := by
    intro h5 h9
    have hbr : 0 < (r_fl m 2 0 5).toInt := by show 0 < (2 : Int32).toInt; decide
    refine ⟨nI least, r_fl m 2, ?_, rfl, Or.inr ?_⟩
    · unfold fX7_numberRead fX7_numberRead_b20 fX7_numberRead_b47 fX7_numberRead_b62
      rw [if_pos x8, if_neg h9, p_fl x8, p_bv, if_neg (q_brk hbr).1, if_neg (q_brk hbr).1, b_ro hbr, p_bv]
    · by_cases h0 : c 3 5 = 0
      · refine ⟨_, p_cle x7 h0 (by rw [k4]; exact fun q => by have := (nI_eq (b := 12) (by omega) (by omega)).mp q; omega) (by omega), ?_⟩
        exact r_F_of K (by decide) (r_rf_g c 2) rfl rfl
      · have hse : s < e := by
          rcases z with z | z | z | z
          · exact absurd z.1 h0
          · exact z.1
          · exact z.1
          · exact z.1
        have hT : fX4_takeToken c (m 2 s) = some (s_up (r_rf c 2) 4 fi (nI least)) := by
          rw [htake]
          unfold fX4_takeNumber
          rw [if_neg h5, p_rf, p_bv, p_bi, p_lt]
        have h10 : ¬ s_up (r_rf c 2) 4 fi (nI least) 3 10 = 0 := by show ¬ (2 : Int32) = 0; decide
        refine ⟨s_up (r_rf c 2) 4 fi (nI least), ?_, r_F_of K (by decide) (r_gc_t (r_rf_g c 2) (r_gc_u _ _ (by omega))) rfl rfl⟩
        rw [p_cls B' k5 h0 hse k6, hT, p_bv, if_neg h10, p_clf h10 (by omega)]
  rcases z with z | z | z | z
  · exact bad (by rw [z.1]; decide) (by rw [z.2.1]; decide)
  · exact bad (by rw [z.2.1.1]; decide) (by rw [z.2.1.2]; decide)
  · obtain ⟨hse, ⟨z5, z9, z8⟩, zb, ze, v, v1, v2, v3⟩ := z
    have h0 : ¬ c 3 5 = 0 := by rw [z5]; decide
    have hv9 := v3.1
    by_cases hv : least ≤ v ∧ v ≤ most
    · have hT : fX4_takeToken c (m 2 s) = some (s_up (s_up c 3 1 (nI th)) 4 fi (nI v)) := by
        rw [htake]
        unfold fX4_takeNumber
        have ev : s_up c 3 1 (nI th) 3 9 = nI v := v1
        rw [if_pos z5, v1, if_neg (nI_nlt hv.1 (by omega)), if_pos (nI_le hv.2 (by omega)), p_lt, ev, p_bi, p_lt]
      obtain ⟨c1, m1, a1, a2, a3, a4⟩ := p_adv (c := s_up (s_up c 3 1 (nI th)) 4 fi (nI v)) (m := m) (w := th) (tok := tok) B (r_gc_t k1 (r_gc_t (r_gc_u _ _ (by omega)) (r_gc_u _ _ (by omega)))) k2 x3 x4 x6 x7 x8 k3 rfl (by omega)
      have hM : fX7_numberRead m (nI least) (nI most) = some (nI v, m1) := by
        unfold fX7_numberRead fX7_numberRead_b20 fX7_numberRead_b47 fX7_numberRead_b62
        rw [if_pos x8, if_pos z9, if_pos x8, v2, p_yes (by rw [p_t64, p_t64, p_t64, nI_toInt (by omega), nI_toInt (by omega), nI_toInt (by omega)]; omega), p_bi, if_neg q10, if_pos x8, v2, a1, p_bv]
      have h10 : s_up (s_up c 3 1 (nI th)) 4 fi (nI v) 3 10 = 0 := x7
      have hCL : r_cl c tok = s_bv (fX4_scan (s_up (s_up c 3 1 (nI th)) 4 fi (nI v))) (fun σ10 => r_cl σ10 (tok + 1)) := by
        rw [p_cls B' k5 h0 hse k6, hT, p_bv, if_pos h10]
      refine ⟨nI v, m1, hM, a3.1 1 (by decide), ?_⟩
      rcases a4 with ⟨q1, q2⟩ | ⟨q1, q2⟩
      · exact Or.inl ⟨c1, v, rfl, hv.1, hv.2, by rw [hCL]; exact q1, q2, by rw [a2.1 4 (by decide)]; rfl, by rw [a2.1 5 (by decide)]; rfl⟩
      · exact Or.inr ⟨c1, by rw [hCL]; exact q1, q2⟩
    · have hbr : 0 < (r_fl m 3 0 5).toInt := by show 0 < (3 : Int32).toInt; decide
      refine ⟨nI least, r_fl m 3, ?_, rfl, Or.inr ?_⟩
      · unfold fX7_numberRead fX7_numberRead_b20 fX7_numberRead_b47 fX7_numberRead_b62
        rw [if_pos x8, if_pos z9, if_pos x8, v2, p_no (by rw [p_t64, p_t64, p_t64, nI_toInt (by omega), nI_toInt (by omega), nI_toInt (by omega)]; omega), p_bi, if_pos rfl, p_fl x8, p_bv, if_neg (q_brk hbr).1, b_ro hbr, p_bv]
      · have hT : fX4_takeToken c (m 2 s) = some (s_up (r_rf c 3) 4 fi (nI least)) := by
          rw [htake]
          unfold fX4_takeNumber fX4_takeNumber_b31
          rw [if_pos z5, v1, p_rf, p_bv]
          have := v3.1
          by_cases q : v < least
          · rw [if_pos (nI_lt q (by omega)), p_bi, p_lt]
          · rw [if_neg (nI_nlt (by omega) (by omega)), if_neg (nI_ge (by omega) (by omega)), p_bi, p_lt]
        have h10 : ¬ s_up (r_rf c 3) 4 fi (nI least) 3 10 = 0 := by show ¬ (3 : Int32) = 0; decide
        refine ⟨s_up (r_rf c 3) 4 fi (nI least), ?_, r_F_of K (by decide) (r_gc_t (r_rf_g c 3) (r_gc_u _ _ (by omega))) rfl rfl⟩
        rw [p_cls B' k5 h0 hse k6, hT, p_bv, if_neg h10, p_clf h10 (by omega)]
  · refine bad (by rw [z.2.1.1]; decide) ?_
    rcases z.2.2 with q | q | q
    · rw [q.2]; decide
    · rw [q.2]; decide
    · rw [q.2]; decide
/-! a choice is wanted -/
theorem r_ph_b {j : Nat} (h : j < 15) : r_ph j < 15 := by
  unfold r_ph
  by_cases a : j < 6
  · rw [if_pos a]; omega
  · rw [if_neg a]
    by_cases b : j = 6
    · rw [if_pos b]; omega
    · rw [if_neg b]; omega
theorem p_Lword {cB mB c m : Sg} {n tok w fC many fM fi : Nat} (B : r_B cB mB n) (K : r_K cB mB n c m tok w) (hw : w < 12) (hfi : fC = fM + 1) (hfm : 6 ≤ fM) (hmany : fM + many ≤ 14) (hm1 : 1 ≤ many) (htake : ∀ x, fX4_takeToken c x = s_bi (fX4_takeChoice c (nI fC) (nI (fC + many - 1))) (fun r σ => s_lt (s_up σ 4 fi r) (fun σ5 => some σ5))) : ∃ r m1, fX7_wordRead m (nI fM) (nI many) = some (r, m1) ∧ m1 1 = m 1 ∧ ((∃ c1 v, r = nI v ∧ v < many ∧ r_cl c tok = r_cl c1 (tok + 1) ∧ r_K cB mB n c1 m1 (tok + 1) 11 ∧ c1 4 = upd (c 4) fi (nI v) ∧ c1 5 = c 5) ∨ (∃ cF, r_cl c tok = some (0, cF) ∧ r_F cB mB n cF m1)) := by
  obtain ⟨k1, k2, k3, k4, s, e, k5, k6⟩ := id K
  have B' := r_B_of B k1 k2
  have hn := B'.1.1
  obtain ⟨⟨x1, x2, x3, x4, x5, x6, x7, x8⟩, ⟨b, y1, y2⟩, z⟩ := id k5
  have eM : nI fM + nI many - 1 = nI (fM + many - 1) := by rw [nI_add]; exact pk_sub (b := 1) (by omega)
  have w4 : (-4 : Int32).toInt = -4 := rfl
  -- the two numbers of the name
  have hr : ((fM : Int) ≤ b.toInt ∧ b.toInt ≤ ((fM + many - 1 : Nat) : Int) ↔ (fC : Int) ≤ (c 3 8).toInt ∧ (c 3 8).toInt ≤ ((fC + many - 1 : Nat) : Int)) ∧ ((fC : Int) ≤ (c 3 8).toInt ∧ (c 3 8).toInt ≤ ((fC + many - 1 : Nat) : Int) → ∃ v, v < many ∧ c 3 8 = nI (fC + v) ∧ b = nI (fM + v)) := by
    rcases y2 with ⟨q1, q2⟩ | ⟨j, q1, q2, q3⟩
    · rw [q1, q2, w4]
      exact ⟨by omega, fun h => by omega⟩
    · have hph := r_ph_b q1
      have e9 : (nI (r_ph j)).toInt = (r_ph j : Int) := nI_toInt (by omega)
      have ej : (nI j).toInt = (j : Int) := nI_toInt (by omega)
      rw [q2, q3, e9, ej]
      unfold r_ph
      by_cases j6 : j < 6
      · rw [if_pos j6]; exact ⟨by omega, fun h => by omega⟩
      · rw [if_neg j6]
        by_cases j7 : j = 6
        · rw [if_pos j7]; exact ⟨by omega, fun h => by omega⟩
        · rw [if_neg j7]
          refine ⟨by omega, fun h => ⟨j - fC, by omega, by congr 1; omega, by congr 1; omega⟩⟩
  by_cases good : (fC : Int) ≤ (c 3 8).toInt ∧ (c 3 8).toInt ≤ ((fC + many - 1 : Nat) : Int)
  · obtain ⟨v, hv, g1, g2⟩ := hr.2 good
    have h0 : ¬ c 3 5 = 0 := by
      rcases z with z | z | z | z
      · rw [z.2.2] at good; rw [w4] at good; omega
      · rw [z.2.1.1]; decide
      · rw [z.2.1.1]; decide
      · rw [z.2.1.1]; decide
    have hse : s < e := by
      rcases z with z | z | z | z
      · exact absurd z.1 h0
      · exact z.1
      · exact z.1
      · exact z.1
    have ev : nI (fC + v) - nI fC = nI v := by rw [pk_sub (by omega)]; congr 1; omega
    have ev2 : nI (fM + v) - nI fM = nI v := by rw [pk_sub (by omega)]; congr 1; omega
    have hT : fX4_takeToken c (m 2 s) = some (s_up (s_up c 3 1 11) 4 fi (nI v)) := by
      rw [htake]
      unfold fX4_takeChoice
      have e8 : s_up c 3 1 11 3 8 = nI (fC + v) := g1
      rw [g1, if_neg (nI_nlt (by omega) (by omega)), if_pos (nI_le (by omega) (by omega)), p_lt, e8, ev, p_bi, p_lt]
    obtain ⟨c1, m1, a1, a2, a3, a4⟩ := p_adv (c := s_up (s_up c 3 1 11) 4 fi (nI v)) (m := m) (w := 11) (tok := tok) B (r_gc_t k1 (r_gc_t (r_gc_u _ _ (by omega)) (r_gc_u _ _ (by omega)))) k2 x3 x4 x6 x7 x8 k3 rfl (by omega)
    have hM0 : fX7_wordRead m (nI fM) (nI many) = (if m1 0 5 = 0 then some (nI v, m1) else some (0, m1)) := by
      unfold fX7_wordRead fX7_wordRead_b33
      rw [y1, p_bi, if_pos x8, eM, p_yes (by rw [p_t64, p_t64, p_t64, nI_toInt (by omega), nI_toInt (by omega)]; exact hr.1.mpr good), p_bi, if_neg q10, a1, p_bv, g2, ev2]
    have h10 : s_up (s_up c 3 1 11) 4 fi (nI v) 3 10 = 0 := x7
    have hCL : r_cl c tok = s_bv (fX4_scan (s_up (s_up c 3 1 11) 4 fi (nI v))) (fun σ10 => r_cl σ10 (tok + 1)) := by
      rw [p_cls B' k5 h0 hse k6, hT, p_bv, if_pos h10]
    rcases a4 with ⟨q1, q2⟩ | ⟨q1, q2⟩
    · have hb0 : m1 0 5 = 0 := by
        obtain ⟨-, -, -, -, s', e', ⟨⟨-, -, -, -, -, -, -, q⟩, -⟩, -⟩ := id q2
        exact q
      refine ⟨nI v, m1, by rw [hM0, if_pos hb0], a3.1 1 (by decide), Or.inl ⟨c1, v, rfl, hv, by rw [hCL]; exact q1, q2, by rw [a2.1 4 (by decide)]; rfl, by rw [a2.1 5 (by decide)]; rfl⟩⟩
    · exact ⟨0, m1, by rw [hM0, if_neg (q_brk q2.2.2.1).1], a3.1 1 (by decide), Or.inr ⟨c1, by rw [hCL]; exact q1, q2⟩⟩
  · have hbr : 0 < (r_fl m 2 0 5).toInt := by show 0 < (2 : Int32).toInt; decide
    refine ⟨0, r_fl m 2, ?_, rfl, Or.inr ?_⟩
    · unfold fX7_wordRead fX7_wordRead_b33
      rw [y1, p_bi, if_pos x8, eM, p_no (by rw [p_t64, p_t64, p_t64, nI_toInt (by omega), nI_toInt (by omega)]; exact fun q => good (hr.1.mp q)), p_bi, if_pos rfl, p_fl x8, p_bv, b_ro hbr, p_bv, if_neg (q_brk hbr).1]
    · by_cases h0 : c 3 5 = 0
      · refine ⟨_, p_cle x7 h0 (by rw [k4]; exact fun q => by have := (nI_eq (b := 12) (by omega) (by omega)).mp q; omega) (by omega), ?_⟩
        exact r_F_of K (by decide) (r_rf_g c 2) rfl rfl
      · have hse : s < e := by
          rcases z with z | z | z | z
          · exact absurd z.1 h0
          · exact z.1
          · exact z.1
          · exact z.1
        have hT : fX4_takeToken c (m 2 s) = some (s_up (r_rf c 2) 4 fi 0) := by
          rw [htake]
          unfold fX4_takeChoice fX4_takeChoice_b16
          rw [p_rf, p_bv]
          by_cases q : c 3 8 < nI fC
          · rw [if_pos q, p_bi, p_lt]
          · rw [if_neg q, if_neg (by rw [q_l, nI_toInt (by omega)]; rw [q_i, nI_toInt (by omega)] at q; omega), p_bi, p_lt]
        have h10 : ¬ s_up (r_rf c 2) 4 fi 0 3 10 = 0 := by show ¬ (2 : Int32) = 0; decide
        refine ⟨s_up (r_rf c 2) 4 fi 0, ?_, r_F_of K (by decide) (r_gc_t (r_rf_g c 2) (r_gc_u _ _ (by omega))) rfl rfl⟩
        rw [p_cls B' k5 h0 hse k6, hT, p_bv, if_neg h10, p_clf h10 (by omega)]
/-! the line's end is wanted -/
theorem p_Lend {cB mB c m : Sg} {n tok w : Nat} (B : r_B cB mB n) (K : r_K cB mB n c m tok w) (hw : w < 12) (hT : ∀ s e, r_tk c m n s e → ¬ c 3 5 = 0 → (m 0 9 = 3 → fX4_takeToken c (m 2 s) = some (s_up c 3 1 12)) ∧ (¬ m 0 9 = 3 → fX4_takeToken c (m 2 s) = some (r_rf c 2))) : ∃ m1, fX7_readLine_b228 m = some m1 ∧ m1 1 = m 1 ∧ ((∃ c1, r_cl c tok = r_cl c1 (tok + 1) ∧ r_K cB mB n c1 m1 (tok + 1) 12 ∧ c1 4 = c 4 ∧ c1 5 = c 5) ∨ (∃ cF, r_cl c tok = some (0, cF) ∧ r_F cB mB n cF m1)) := by
  obtain ⟨k1, k2, k3, k4, s, e, k5, k6⟩ := id K
  have B' := r_B_of B k1 k2
  have hn := B'.1.1
  obtain ⟨⟨x1, x2, x3, x4, x5, x6, x7, x8⟩, ⟨b, y1, y2⟩, z⟩ := id k5
  have hs0 : ¬ c 3 5 = 0 → s < e := fun h0 => by
    rcases z with z | z | z | z
    · exact absurd z.1 h0
    · exact z.1
    · exact z.1
    · exact z.1
  unfold fX7_readLine_b228 fX7_readLine_b248
  rw [if_pos x8]
  by_cases h3 : m 0 9 = 3
  · have h0 : ¬ c 3 5 = 0 := by
      rcases z with z | z | z | z
      · rw [z.2.1] at h3; exact absurd h3 (by decide)
      · rw [z.2.1.1]; decide
      · rw [z.2.1.1]; decide
      · rw [z.2.1.1]; decide
    have hse := hs0 h0
    obtain ⟨c1, m1, a1, a2, a3, a4⟩ := p_adv (c := s_up c 3 1 12) (m := m) (w := 12) (tok := tok) B (r_gc_t k1 (r_gc_u _ _ (by omega))) k2 x3 x4 x6 x7 x8 k3 rfl (by omega)
    have h10 : s_up c 3 1 12 3 10 = 0 := x7
    have hCL : r_cl c tok = s_bv (fX4_scan (s_up c 3 1 12)) (fun σ10 => r_cl σ10 (tok + 1)) := by
      rw [p_cls B' k5 h0 hse k6, (hT s e k5 h0).1 h3, p_bv, if_pos h10]
    refine ⟨m1, by rw [if_pos h3, a1, p_bv], a3.1 1 (by decide), ?_⟩
    rcases a4 with ⟨q1, q2⟩ | ⟨q1, q2⟩
    · exact Or.inl ⟨c1, by rw [hCL]; exact q1, q2, by rw [a2.1 4 (by decide)]; rfl, by rw [a2.1 5 (by decide)]; rfl⟩
    · exact Or.inr ⟨c1, by rw [hCL]; exact q1, q2⟩
  · have hbr : 0 < (r_fl m 2 0 5).toInt := by show 0 < (2 : Int32).toInt; decide
    refine ⟨r_fl m 2, by rw [if_neg h3, p_fl x8, p_bv, b_ro hbr, p_bv], rfl, Or.inr ?_⟩
    by_cases h0 : c 3 5 = 0
    · refine ⟨_, p_cle x7 h0 (by rw [k4]; exact fun q => by have := (nI_eq (b := 12) (by omega) (by omega)).mp q; omega) (by omega), ?_⟩
      exact r_F_of K (by decide) (r_rf_g c 2) rfl rfl
    · have h10 : ¬ r_rf c 2 3 10 = 0 := by show ¬ (2 : Int32) = 0; decide
      refine ⟨r_rf c 2, ?_, r_F_of K (by decide) (r_rf_g c 2) rfl rfl⟩
      rw [p_cls B' k5 h0 (hs0 h0) k6, (hT s e k5 h0).2 h3, p_bv, if_neg h10, p_clf h10 (by omega)]
