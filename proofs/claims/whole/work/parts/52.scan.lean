/-! PURE: one token -/
def r_o3 (c c' : Sg) : Prop := (∀ p, ¬ p = 3 → c' p = c p) ∧ ∀ i, i < 5 → c' 3 i = c 3 i
def r_o0 (m m' : Sg) : Prop := (∀ p, ¬ p = 0 → m' p = m p) ∧ ∀ i, i < 5 ∨ 10 < i → m' 0 i = m 0 i
theorem r_o3_r (c : Sg) : r_o3 c c := ⟨fun _ _ => rfl, fun _ _ => rfl⟩
theorem r_o0_r (m : Sg) : r_o0 m m := ⟨fun _ _ => rfl, fun _ _ => rfl⟩
theorem r_o3_t {a b d : Sg} (h : r_o3 a b) (k : r_o3 b d) : r_o3 a d := ⟨fun p hp => by rw [k.1 p hp, h.1 p hp], fun i hi => by rw [k.2 i hi, h.2 i hi]⟩
theorem r_o0_t {a b d : Sg} (h : r_o0 a b) (k : r_o0 b d) : r_o0 a d := ⟨fun p hp => by rw [k.1 p hp, h.1 p hp], fun i hi => by rw [k.2 i hi, h.2 i hi]⟩
theorem r_o3_u {c : Sg} (i : Nat) (v : Int32) (h : 5 ≤ i) : r_o3 c (s_up c 3 i v) := ⟨fun p hp => by rw [p_up, if_neg hp], fun j hj => by
  show upd (c 3) i v j = _
  rw [p_upd, if_neg (by omega)]⟩
theorem r_o0_u {m : Sg} (i : Nat) (v : Int32) (h : 5 ≤ i ∧ i ≤ 10) : r_o0 m (s_up m 0 i v) := ⟨fun p hp => by rw [p_up, if_neg hp], fun j hj => by
  show upd (m 0) i v j = _
  rw [p_upd, if_neg (by omega)]⟩
def r_tp (c m : Sg) (n : Nat) : Prop := n ≤ 320 ∧ c 1 1 = nI n ∧ m 0 3 = nI n ∧ ∀ i, i < n → c 2 i = m 2 i ∧ 0 ≤ (m 2 i).toInt ∧ (m 2 i).toInt ≤ 127
theorem r_tp_o {c c' m m' : Sg} {n : Nat} (h : r_tp c m n) (hc : r_o3 c c') (hm : r_o0 m m') : r_tp c' m' n := by
  unfold r_tp
  rw [hc.1 1 (by decide), hc.1 2 (by decide), hm.2 3 (by omega), hm.1 2 (by decide)]
  exact h
theorem p_let (c : Sg) (b : Int32) : fX4_isLetter c b = some (if 97 ≤ b.toInt ∧ b.toInt ≤ 122 then 1 else 0, c) := by
  have w1 : (97 : Int32).toInt = 97 := rfl
  have w2 : (122 : Int32).toInt = 122 := rfl
  unfold fX4_isLetter fX4_isLetter_b16
  by_cases x : b < 97
  · rw [if_pos x, if_neg (by rw [q_i, w1] at x; omega)]
  · rw [if_neg x]
    rw [q_i, w1] at x
    by_cases y : 122 < b
    · rw [if_pos y, if_neg (by rw [q_i, w2] at y; omega)]
    · rw [if_neg y, if_pos (by rw [q_i, w2] at y; omega)]
theorem p_fig (c : Sg) (b : Int32) : fX4_isFigure c b = some (if 48 ≤ b.toInt ∧ b.toInt ≤ 57 then 1 else 0, c) := by
  have w1 : (48 : Int32).toInt = 48 := rfl
  have w2 : (57 : Int32).toInt = 57 := rfl
  unfold fX4_isFigure fX4_isFigure_b16
  by_cases x : b < 48
  · rw [if_pos x, if_neg (by rw [q_i, w1] at x; omega)]
  · rw [if_neg x]
    rw [q_i, w1] at x
    by_cases y : 57 < b
    · rw [if_pos y, if_neg (by rw [q_i, w2] at y; omega)]
    · rw [if_neg y, if_pos (by rw [q_i, w2] at y; omega)]
theorem p_inl (m : Sg) (b : Int32) : fX7_in m (Int32.toInt64 b) 97 122 = some (if 97 ≤ b.toInt ∧ b.toInt ≤ 122 then 1 else 0, m) := by
  have w1 : (97 : Int64).toInt = 97 := rfl
  have w2 : (122 : Int64).toInt = 122 := rfl
  rw [p_in7, p_t64, w1, w2]
theorem p_inf (m : Sg) (b : Int32) : fX7_in m (Int32.toInt64 b) 48 57 = some (if 48 ≤ b.toInt ∧ b.toInt ≤ 57 then 1 else 0, m) := by
  have w1 : (48 : Int64).toInt = 48 := rfl
  have w2 : (57 : Int64).toInt = 57 := rfl
  rw [p_in7, p_t64, w1, w2]
/-! blanks -/
def r_rs (σ1 : Sg) : Option Sg := (s_lt (s_up σ1 0 8 (σ1 0 7)) (fun σ5 => (s_bi (fX7_byteAt σ5 (σ5 0 7)) (fun r8 σ6 => (s_lt (s_up σ6 0 10 (0 : Int32)) (fun σ9 => (if r8 = (-4 : Int32) then (s_lt (s_up σ9 0 9 (0 : Int32)) (fun σ21 => (some σ21))) else (s_bi (fX7_in σ9 (Int32.toInt64 r8) (97 : Int64) (122 : Int64)) (fun r13 σ11 => (if r13 = 0 then (s_bi (fX7_in σ11 (Int32.toInt64 r8) (48 : Int64) (57 : Int64)) (fun r17 σ15 => (if r17 = 0 then (if r8 = (45 : Int32) then (fX7_readsOn_b265 σ15 r8 (4 : Int32)) else (if r8 = (46 : Int32) then (fX7_readsOn_b265 σ15 r8 (5 : Int32)) else (fX7_readsOn_b265 σ15 r8 (3 : Int32)))) else (fX7_readsOn_b140_L s_fu σ15)))) else (fX7_readsOn_b84_L s_fu σ11)))))))))))
theorem p_bl {n : Nat} : ∀ (f s : Nat) (c m : Sg), r_tp c m n → c 3 6 = nI s → m 0 7 = nI s → s ≤ n → n - s < f → ∃ s' c' m', s ≤ s' ∧ s' ≤ n ∧ (s' < n → ¬ m 2 s' = 32) ∧ fX4_scan_b8_L f c = fX4_scan_b45 c' ∧ fX7_readsOn_b8_L f m = r_rs m' ∧ r_o3 c c' ∧ r_o0 m m' ∧ c' 3 6 = nI s' ∧ m' 0 7 = nI s' ∧ (∀ i, ¬ i = 6 → c' 3 i = c 3 i) ∧ (∀ i, ¬ i = 7 → m' 0 i = m 0 i) := by
  intro f
  induction f with
  | zero => intro s c m _ _ _ _ h; omega
  | succ f ih =>
    intro s c m ht e6 e7 hs hf
    obtain ⟨hn, t1, t2, t3⟩ := id ht
    show ∃ s' c' m', s ≤ s' ∧ s' ≤ n ∧ (s' < n → ¬ m 2 s' = 32) ∧ fX4_scan_b8 (fX4_scan_b8_L f) c = fX4_scan_b45 c' ∧ fX7_readsOn_b8 (fX7_readsOn_b8_L f) m = r_rs m' ∧ _
    unfold fX4_scan_b8 fX7_readsOn_b8
    rw [t1, e6, e7]
    have stay : ∀ b : Int32, ¬ b = 32 → (s_bi (some (b, m)) (fun r3 σ1 => (if r3 = (32 : Int32) then (s_lt (s_up σ1 0 7 ((σ1 0 7) + (1 : Int32))) (fun σ22 => (fX7_readsOn_b8_L f σ22))) else r_rs σ1))) = r_rs m := fun b hb => by rw [p_bi, if_neg hb]
    by_cases x : n ≤ s
    · refine ⟨s, c, m, Nat.le_refl _, hs, fun z => by omega, ?_, ?_, r_o3_r c, r_o0_r m, e6, e7, fun _ _ => rfl, fun _ _ => rfl⟩
      · rw [if_pos (nI_le x (by omega))]
      · rw [p_bmE hn t2 x (by omega)]
        exact stay (-4) (by decide)
    · rw [if_neg (nI_ge (by omega) (by omega)), p_by hn t1 (by omega), p_bi, p_bm hn t2 (by omega), (t3 s (by omega)).1]
      by_cases y : m 2 s = 32
      · have c1 : r_o3 c (s_up c 3 6 (nI (s + 1))) := r_o3_u _ _ (by omega)
        have m1 : r_o0 m (s_up m 0 7 (nI (s + 1))) := r_o0_u _ _ (by omega)
        obtain ⟨s', c', m', a1, a2, a3, a4, a5, a6, a7, a8, a9, a10, a11⟩ := ih (s + 1) (s_up c 3 6 (nI (s + 1))) (s_up m 0 7 (nI (s + 1))) (r_tp_o ht c1 m1) rfl rfl (by omega) (by omega)
        refine ⟨s', c', m', by omega, a2, a3, ?_, ?_, r_o3_t c1 a6, r_o0_t m1 a7, a8, a9, fun i hi => ?_, fun i hi => ?_⟩
        · rw [if_pos y, p_lt, e6, nI_1]; exact a4
        · rw [p_bi, if_pos y, p_lt, e7, nI_1]; exact a5
        · rw [a10 i hi]
          show upd (c 3) 6 (nI (s + 1)) i = _
          rw [p_upd, if_neg hi]
        · rw [a11 i hi]
          show upd (m 0) 7 (nI (s + 1)) i = _
          rw [p_upd, if_neg hi]
      · refine ⟨s, c, m, Nat.le_refl _, hs, fun _ => y, by rw [if_neg y], stay _ y, r_o3_r c, r_o0_r m, e6, e7, fun _ _ => rfl, fun _ _ => rfl⟩
/-! letters -/
theorem p_ltr {n : Nat} : ∀ (f e : Nat) (c m : Sg), r_tp c m n → c 3 7 = nI e → m 0 7 = nI e → e ≤ n → n - e < f → ∃ e' c' m', e ≤ e' ∧ e' ≤ n ∧ (e < n → 97 ≤ (m 2 e).toInt ∧ (m 2 e).toInt ≤ 122 → e < e') ∧ fX4_scanName_b5_L f c = fX4_scanName_b43 c' ∧ fX7_readsOn_b84_L f m = some (s_up m' 0 9 1) ∧ r_o3 c c' ∧ r_o0 m m' ∧ c' 3 7 = nI e' ∧ m' 0 7 = nI e' ∧ (∀ i, ¬ i = 7 → c' 3 i = c 3 i) ∧ (∀ i, ¬ i = 7 → m' 0 i = m 0 i) := by
  intro f
  induction f with
  | zero => intro e c m _ _ _ _ h; omega
  | succ f ih =>
    intro e c m ht e7 g7 he hf
    obtain ⟨hn, t1, t2, t3⟩ := id ht
    show ∃ e' c' m', e ≤ e' ∧ e' ≤ n ∧ _ ∧ fX4_scanName_b5 (fX4_scanName_b5_L f) c = fX4_scanName_b43 c' ∧ fX7_readsOn_b84 (fX7_readsOn_b84_L f) m = some (s_up m' 0 9 1) ∧ _
    unfold fX4_scanName_b5 fX7_readsOn_b84
    rw [t1, e7, g7]
    by_cases x : n ≤ e
    · refine ⟨e, c, m, Nat.le_refl _, he, fun z => by omega, ?_, ?_, r_o3_r c, r_o0_r m, e7, g7, fun _ _ => rfl, fun _ _ => rfl⟩
      · rw [if_pos (nI_le x (by omega))]
      · rw [p_bmE hn t2 x (by omega), p_bi, p_inl, if_neg (by decide), p_bi, if_pos rfl, p_lt]
    · rw [if_neg (nI_ge (by omega) (by omega)), p_by hn t1 (by omega), p_bi, p_bm hn t2 (by omega), p_bi, (t3 e (by omega)).1, p_let, p_bi, p_inl, p_bi]
      by_cases y : 97 ≤ (m 2 e).toInt ∧ (m 2 e).toInt ≤ 122
      · have c1 : r_o3 c (s_up c 3 7 (nI (e + 1))) := r_o3_u _ _ (by omega)
        have m1 : r_o0 m (s_up m 0 7 (nI (e + 1))) := r_o0_u _ _ (by omega)
        obtain ⟨e', c', m', a1, a2, a3, a4, a5, a6, a7, a8, a9, a10, a11⟩ := ih (e + 1) (s_up c 3 7 (nI (e + 1))) (s_up m 0 7 (nI (e + 1))) (r_tp_o ht c1 m1) rfl rfl (by omega) (by omega)
        refine ⟨e', c', m', by omega, a2, fun _ _ => by omega, ?_, ?_, r_o3_t c1 a6, r_o0_t m1 a7, a8, a9, fun i hi => ?_, fun i hi => ?_⟩
        · rw [if_pos y, if_neg q10, p_lt, e7, nI_1]; exact a4
        · rw [if_pos y, if_neg q10, p_lt, g7, nI_1]; exact a5
        · rw [a10 i hi]
          show upd (c 3) 7 (nI (e + 1)) i = _
          rw [p_upd, if_neg hi]
        · rw [a11 i hi]
          show upd (m 0) 7 (nI (e + 1)) i = _
          rw [p_upd, if_neg hi]
      · refine ⟨e, c, m, Nat.le_refl _, he, fun _ z => absurd z y, by rw [if_neg y, if_pos rfl], by rw [if_neg y, if_pos rfl, p_lt], r_o3_r c, r_o0_r m, e7, g7, fun _ _ => rfl, fun _ _ => rfl⟩
/-! figures -/
def r_vb (d v : Nat) : Prop := v ≤ 9999 ∧ (d = 0 → v = 0) ∧ (d ≤ 1 → v ≤ 9) ∧ (d ≤ 2 → v ≤ 99) ∧ (d ≤ 3 → v ≤ 999)
theorem p_figs {n s : Nat} : ∀ (f e v : Nat) (c m : Sg), r_tp c m n → c 3 6 = nI s → m 0 8 = nI s → c 3 7 = nI e → m 0 7 = nI e → c 3 9 = nI v → m 0 10 = nI v → s ≤ e → e ≤ n → r_vb (e - s) v → n - e < f → ∃ e' v' c' m', e ≤ e' ∧ e' ≤ n ∧ (e < n → 48 ≤ (m 2 e).toInt ∧ (m 2 e).toInt ≤ 57 → e < e') ∧ fX4_scanNumber_b10_L f c = fX4_scanNumber_b84 c' ∧ fX7_readsOn_b140_L f m = (s_lt (s_up m' 0 9 (2 : Int32)) (fun σ8 => (if ((σ8 0 7) - (σ8 0 8)) ≤ (4 : Int32) then (some σ8) else (s_bv (fX7_fails σ8 (1 : Int32)) (fun σ10 => (some σ10)))))) ∧ r_o3 c c' ∧ r_o0 m m' ∧ c' 3 7 = nI e' ∧ m' 0 7 = nI e' ∧ c' 3 9 = nI v' ∧ m' 0 10 = nI v' ∧ r_vb (e' - s) v' ∧ (∀ i, ¬ i = 7 → ¬ i = 9 → c' 3 i = c 3 i) ∧ (∀ i, ¬ i = 7 → ¬ i = 10 → m' 0 i = m 0 i) := by
  intro f
  induction f with
  | zero => intro e v c m _ _ _ _ _ _ _ _ _ _ h; omega
  | succ f ih =>
    intro e v c m ht e6 g8 e7 g7 e9 g10 hse he hv hf
    obtain ⟨hn, t1, t2, t3⟩ := id ht
    show ∃ e' v' c' m', e ≤ e' ∧ e' ≤ n ∧ _ ∧ fX4_scanNumber_b10 (fX4_scanNumber_b10_L f) c = fX4_scanNumber_b84 c' ∧ fX7_readsOn_b140 (fX7_readsOn_b140_L f) m = _ ∧ _
    unfold fX4_scanNumber_b10 fX7_readsOn_b140
    rw [t1, e7, g7]
    by_cases x : n ≤ e
    · refine ⟨e, v, c, m, Nat.le_refl _, he, fun z => by omega, ?_, ?_, r_o3_r c, r_o0_r m, e7, g7, e9, g10, hv, fun _ _ _ => rfl, fun _ _ _ => rfl⟩
      · rw [if_pos (nI_le x (by omega))]
      · rw [p_bmE hn t2 x (by omega), p_bi, p_inf, if_neg (by decide), p_bi, if_pos rfl]
    · have hb := t3 e (by omega)
      rw [if_neg (nI_ge (by omega) (by omega)), p_by hn t1 (by omega), p_bi, p_bm hn t2 (by omega), p_bi, hb.1, p_fig, p_bi, p_inf, p_bi]
      by_cases y : 48 ≤ (m 2 e).toInt ∧ (m 2 e).toInt ≤ 57
      · rw [if_pos y, if_neg q10, if_neg q10, e7, g7, e6, g8, pk_sub hse]
        by_cases z : 4 ≤ e - s
        · have c1 : r_o3 c (s_up c 3 7 (nI (e + 1))) := r_o3_u _ _ (by omega)
          have m1 : r_o0 m (s_up (s_up m 0 10 (nI v)) 0 7 (nI (e + 1))) := r_o0_t (r_o0_u _ _ (by omega)) (r_o0_u _ _ (by omega))
          obtain ⟨e', v', c', m', a1, a2, a3, a4, a5, a6, a7, a8, a9, a10, a11, a12, a13, a14⟩ := ih (e + 1) v (s_up c 3 7 (nI (e + 1))) (s_up (s_up m 0 10 (nI v)) 0 7 (nI (e + 1))) (r_tp_o ht c1 m1) e6 g8 rfl rfl e9 rfl (by omega) (by omega) ⟨hv.1, by omega, by omega, by omega, by omega⟩ (by omega)
          refine ⟨e', v', c', m', by omega, a2, fun _ _ => by omega, ?_, ?_, r_o3_t c1 a6, r_o0_t m1 a7, a8, a9, a10, a11, a12, fun i h7 h9 => ?_, fun i h7 h10 => ?_⟩
          · unfold fX4_scanNumber_b71
            rw [if_pos (show (4 : Int32) ≤ nI (e - s) from nI_le (a := 4) z (by omega)), p_lt, e7, nI_1]; exact a4
          · unfold fX7_readsOn_b201
            rw [if_pos (show (4 : Int32) ≤ nI (e - s) from nI_le (a := 4) z (by omega)), g10, p_lt, p_lt]
            have e5 : s_up m 0 10 (nI v) 0 7 + 1 = nI (e + 1) := by
              show m 0 7 + 1 = _
              rw [g7, nI_1]
            rw [e5]; exact a5
          · rw [a13 i h7 h9]
            show upd (c 3) 7 (nI (e + 1)) i = _
            rw [p_upd, if_neg h7]
          · rw [a14 i h7 h10]
            show upd (upd (m 0) 10 (nI v)) 7 (nI (e + 1)) i = _
            rw [p_upd, if_neg h7, p_upd, if_neg h10]
        · obtain ⟨q, hq, eq, eq2⟩ := q_nat hb.2.1
          have ev : (10 : Int32) * nI v + m 2 e - 48 = nI (10 * v + q - 48) := by
            have k1 : (10 : Int32) * nI v = nI (10 * v) := pk_mul 10 v
            have k2 : nI (10 * v + q) - 48 = nI (10 * v + q - 48) := pk_sub (b := 48) (by omega)
            rw [k1, eq, nI_add, k2]
          have c1 : r_o3 c (s_up (s_up c 3 9 (nI (10 * v + q - 48))) 3 7 (nI (e + 1))) := r_o3_t (r_o3_u _ _ (by omega)) (r_o3_u _ _ (by omega))
          have m1 : r_o0 m (s_up (s_up m 0 10 (nI (10 * v + q - 48))) 0 7 (nI (e + 1))) := r_o0_t (r_o0_u _ _ (by omega)) (r_o0_u _ _ (by omega))
          obtain ⟨v1, v2, v3, v4, v5⟩ := hv
          obtain ⟨e', v', c', m', a1, a2, a3, a4, a5, a6, a7, a8, a9, a10, a11, a12, a13, a14⟩ := ih (e + 1) (10 * v + q - 48) (s_up (s_up c 3 9 (nI (10 * v + q - 48))) 3 7 (nI (e + 1))) (s_up (s_up m 0 10 (nI (10 * v + q - 48))) 0 7 (nI (e + 1))) (r_tp_o ht c1 m1) e6 g8 rfl rfl rfl rfl (by omega) (by omega) ⟨by omega, by omega, by omega, by omega, by omega⟩ (by omega)
          refine ⟨e', v', c', m', by omega, a2, fun _ _ => by omega, ?_, ?_, r_o3_t c1 a6, r_o0_t m1 a7, a8, a9, a10, a11, a12, fun i h7 h9 => ?_, fun i h7 h10 => ?_⟩
          · unfold fX4_scanNumber_b71
            rw [if_neg (show ¬ (4 : Int32) ≤ nI (e - s) from nI_ge (b := 4) (by omega) (by omega)), p_by hn t1 (by omega), p_bi, hb.1, e9, ev, p_lt, p_lt]
            have e5 : s_up c 3 9 (nI (10 * v + q - 48)) 3 7 + 1 = nI (e + 1) := by
              show c 3 7 + 1 = _
              rw [e7, nI_1]
            rw [e5]; exact a4
          · unfold fX7_readsOn_b201
            rw [if_neg (show ¬ (4 : Int32) ≤ nI (e - s) from nI_ge (b := 4) (by omega) (by omega)), p_bm hn t2 (by omega), p_bi, g10, ev, p_lt, p_lt]
            have e5 : s_up m 0 10 (nI (10 * v + q - 48)) 0 7 + 1 = nI (e + 1) := by
              show m 0 7 + 1 = _
              rw [g7, nI_1]
            rw [e5]; exact a5
          · rw [a13 i h7 h9]
            show upd (upd (c 3) 9 (nI (10 * v + q - 48))) 7 (nI (e + 1)) i = _
            rw [p_upd, if_neg h7, p_upd, if_neg h9]
          · rw [a14 i h7 h10]
            show upd (upd (m 0) 10 (nI (10 * v + q - 48))) 7 (nI (e + 1)) i = _
            rw [p_upd, if_neg h7, p_upd, if_neg h10]
      · refine ⟨e, v, c, m, Nat.le_refl _, he, fun _ z => absurd z y, by rw [if_neg y, if_pos rfl], by rw [if_neg y, if_pos rfl], r_o3_r c, r_o0_r m, e7, g7, e9, g10, hv, fun _ _ _ => rfl, fun _ _ _ => rfl⟩
/-! a token -/
def r_tk (c m : Sg) (n s e : Nat) : Prop :=
  (c 3 6 = nI s ∧ m 0 8 = nI s ∧ c 3 7 = nI e ∧ m 0 7 = nI e ∧ s ≤ e ∧ e ≤ n ∧ c 3 10 = 0 ∧ m 0 5 = 0) ∧
  (∃ b, fX7_nameHere m = some (b, m) ∧ r_nm (c 3 8) b) ∧
  ((c 3 5 = 0 ∧ m 0 9 = 0 ∧ c 3 8 = -4) ∨
   (s < e ∧ (c 3 5 = 1 ∧ m 0 9 = 1) ∧ (97 ≤ (m 2 s).toInt ∧ (m 2 s).toInt ≤ 122)) ∨
   (s < e ∧ (c 3 5 = 2 ∧ m 0 9 = 2 ∧ c 3 8 = -4) ∧ (48 ≤ (m 2 s).toInt ∧ (m 2 s).toInt ≤ 57) ∧ e ≤ s + 4 ∧ ∃ v, c 3 9 = nI v ∧ m 0 10 = nI v ∧ r_vb (e - s) v) ∨
   (s < e ∧ (c 3 5 = 3 ∧ c 3 8 = -4) ∧ ((m 2 s = 59 ∧ m 0 9 = 3) ∨ (m 2 s = 45 ∧ m 0 9 = 4) ∨ (m 2 s = 46 ∧ m 0 9 = 5))))
theorem p_scan {c m : Sg} {n s0 : Nat} (ht : r_tp c m n) (hc7 : c 3 7 = nI s0) (hm7 : m 0 7 = nI s0) (hs0 : s0 ≤ n) (hf : c 3 10 = 0) (hb : m 0 5 = 0) (k3 : m 3 = s_M0 3) (k4 : m 4 = s_M0 4) : ∃ c' m', fX4_scan c = some c' ∧ fX7_readsOn m = some m' ∧ r_o3 c c' ∧ r_o0 m m' ∧ ((∃ s e, s0 ≤ s ∧ r_tk c' m' n s e) ∨ (c' 3 10 = 1 ∧ m' 0 5 = 1 ∧ c' 3 11 = m' 0 6 ∧ ¬ m' 0 9 = 1)) := by
  obtain ⟨hn, t1, t2, t3⟩ := id ht
  have c0 : r_o3 c (s_up c 3 6 (nI s0)) := r_o3_u _ _ (by omega)
  obtain ⟨s, c1, m1, a1, a2, a3, a4, a5, a6, a7, a8, a9, a10, a11⟩ := p_bl s_fu s0 (s_up c 3 6 (nI s0)) m (r_tp_o ht c0 (r_o0_r m)) rfl hm7 hs0 (by rw [s_fu_e]; omega)
  have hC : fX4_scan c = fX4_scan_b45 c1 := by
    unfold fX4_scan
    rw [p_lt, hc7]; exact a4
  have hM : fX7_readsOn m = r_rs m1 := by
    unfold fX7_readsOn
    rw [if_pos (by rw [hb]; decide)]; exact a5
  rw [hC, hM]
  have o1 : r_o3 c c1 := r_o3_t c0 a6
  have f1 : c1 3 10 = 0 := by rw [a10 10 (by decide)]; exact hf
  have b1 : m1 0 5 = 0 := by rw [a11 5 (by decide)]; exact hb
  -- the class: next, name
  have c2 : r_o3 c1 (s_up (s_up c1 3 7 (nI s)) 3 8 (-4)) := r_o3_t (r_o3_u _ _ (by omega)) (r_o3_u _ _ (by omega))
  have m2 : r_o0 m1 (s_up (s_up m1 0 8 (nI s)) 0 10 0) := r_o0_t (r_o0_u _ _ (by omega)) (r_o0_u _ _ (by omega))
  have o2 : r_o3 c (s_up (s_up c1 3 7 (nI s)) 3 8 (-4)) := r_o3_t o1 c2
  have p2 : r_o0 m (s_up (s_up m1 0 8 (nI s)) 0 10 0) := r_o0_t a7 m2
  have ht2 : r_tp (s_up (s_up c1 3 7 (nI s)) 3 8 (-4)) (s_up (s_up m1 0 8 (nI s)) 0 10 0) n := r_tp_o ht o2 p2
  have g6 : s_up (s_up c1 3 7 (nI s)) 3 8 (-4) 3 6 = nI s := a8
  have e7 : s_up m1 0 8 (nI s) 0 7 = nI s := a9
  have e7' : s_up (s_up m1 0 8 (nI s)) 0 10 0 0 7 = nI s := a9
  have f2 : s_up (s_up c1 3 7 (nI s)) 3 8 (-4) 3 10 = 0 := f1
  have b2 : s_up (s_up m1 0 8 (nI s)) 0 10 0 0 5 = 0 := b1
  have g3 : s_up (s_up m1 0 8 (nI s)) 0 10 0 3 = s_M0 3 := by rw [p2.1 3 (by decide)]; exact k3
  have g4 : s_up (s_up m1 0 8 (nI s)) 0 10 0 4 = s_M0 4 := by rw [p2.1 4 (by decide)]; exact k4
  have mm2 : s_up (s_up m1 0 8 (nI s)) 0 10 0 2 = m 2 := p2.1 2 (by decide)
  have t2a : s_up m1 0 8 (nI s) 0 3 = nI n := ht2.2.2.1
  have mm2a : s_up m1 0 8 (nI s) 2 = m 2 := mm2
  unfold fX4_scan_b45 r_rs
  rw [p_lt, p_lt, a8, g6, p_lt, a9, e7]
  generalize hcc : s_up (s_up c1 3 7 (nI s)) 3 8 (-4) = cc at *
  by_cases x : n ≤ s
  · rw [p_byE hn ht2.2.1 x (by omega), p_bi, p_bmE hn t2a x (by omega), p_bi, p_lt]
    generalize hmm : s_up (s_up m1 0 8 (nI s)) 0 10 0 = mm at *
    rw [if_neg (by decide), p_lt, if_pos rfl, p_lt]
    have e9 : ¬ s_up mm 0 9 0 0 9 = 1 := by show ¬ (0 : Int32) = 1; decide
    refine ⟨_, _, rfl, rfl, r_o3_t o2 (r_o3_u _ _ (by omega)), r_o0_t p2 (r_o0_u _ _ (by omega)), Or.inl ⟨s, s, a1, ⟨g6, ?_, ?_, e7', Nat.le_refl _, a2, f2, b2⟩, ⟨-4, p_nhN e9, Or.inl ⟨?_, rfl⟩⟩, Or.inl ⟨rfl, rfl, ?_⟩⟩⟩
    · rw [← hmm]; rfl
    · rw [← hcc]; rfl
    · rw [← hcc]; rfl
    · rw [← hcc]; rfl
  · have hsn : s < n := by omega
    have hb1 := ht2.2.2.2 s hsn
    have hb0 := t3 s hsn
    have h32 := a3 hsn
    rw [p_by hn ht2.2.1 hsn, p_bi, p_bm hn t2a hsn, p_bi, p_lt, hb1.1, mm2, mm2a]
    rw [mm2] at hb1
    have n4 : ¬ m 2 s = -4 := fun z => by
      rw [z] at hb0
      have : (-4 : Int32).toInt = -4 := rfl
      omega
    have w0 : (0 : Int32).toInt = 0 := rfl
    have g8' : s_up (s_up m1 0 8 (nI s)) 0 10 0 0 8 = nI s := rfl
    have g10' : s_up (s_up m1 0 8 (nI s)) 0 10 0 0 10 = 0 := rfl
    generalize hmm : s_up (s_up m1 0 8 (nI s)) 0 10 0 = mm at *
    have g7 : cc 3 7 = nI s := by rw [← hcc]; rfl
    have g8c : cc 3 8 = -4 := by rw [← hcc]; rfl
    rw [if_pos (show (0 : Int32) ≤ m 2 s by rw [q_l, w0]; exact hb0.2.1), p_lt, if_neg n4, p_let, p_bi, p_inl, p_bi]
    by_cases l : 97 ≤ (m 2 s).toInt ∧ (m 2 s).toInt ≤ 122
    · rw [if_pos l, if_neg q10, if_neg q10]
      have o3 : r_o3 cc (s_up cc 3 5 1) := r_o3_u _ _ (by omega)
      obtain ⟨e, c4, m4, d1, d2, d3, d4, d5, d6, d7, d8, d9, d10, d11⟩ := p_ltr s_fu s (s_up cc 3 5 1) mm (r_tp_o ht2 o3 (r_o0_r _)) g7 e7' a2 (by rw [s_fu_e]; omega)
      have hse := d3 hsn (by rw [mm2]; exact l)
      have ht4 := r_tp_o (r_tp_o ht2 o3 (r_o0_r _)) d6 d7
      have q6 : c4 3 6 = nI s := by rw [d10 6 (by decide)]; exact g6
      have q8 : m4 0 8 = nI s := by rw [d11 8 (by decide)]; exact g8'
      obtain ⟨a, na1, na2⟩ := p_non hn ht4.2.1 q6 d8 d2 (Nat.le_of_lt hse)
      have m5 : r_o0 m4 (s_up m4 0 9 1) := r_o0_u _ _ (by omega)
      obtain ⟨bb, nb1, nb2⟩ := p_nhr (m := s_up m4 0 9 1) hn ht4.2.2.1 q8 d9 rfl d2 (Nat.le_of_lt hse) (by rw [m5.1 4 (by decide), d7.1 4 (by decide)]; exact g4) (by rw [m5.1 3 (by decide), d7.1 3 (by decide)]; exact g3)
      have hnm : r_nm a bb := by
        refine r_nm_of na2 ?_
        have : ∀ (tp tq : Nat → Int32), (∀ i, i < n → tp i = tq i) → ∀ (w : List Int32) (p : Nat), r_rm tp e p w → r_rm tq e p w := by
          intro tp tq htq w
          induction w with
          | nil => intro p h; exact h
          | cons b w ih => intro p h; exact ⟨h.1, by rw [← htq p (by have := h.1; omega)]; exact h.2.1, ih _ h.2.2⟩
        have eqt : ∀ i, i < n → s_up m4 0 9 1 2 i = c4 2 i := fun i hi => ((ht4.2.2.2 i hi).1).symm
        have tr : ∀ (ws : List (List Int32)) (k : Nat) (z : Int32), r_fd (s_up m4 0 9 1 2) e s ws k z → r_fd (c4 2) e s ws k z := by
          intro ws
          induction ws with
          | nil => intro k z h; exact h
          | cons w ws ih =>
            intro k z h
            rcases h with ⟨h1, h2⟩ | ⟨h1, h2⟩
            · exact Or.inl ⟨this _ _ eqt w s h1, h2⟩
            · exact Or.inr ⟨fun q => h1 (this _ _ (fun i hi => (eqt i hi).symm) w s q), ih _ _ h2⟩
        exact tr _ _ _ nb2
      have fC : s_bv (fX4_scanName cc) (fun σ22 => some σ22) = some (s_up c4 3 8 a) := by
        unfold fX4_scanName
        rw [p_lt, d4]
        unfold fX4_scanName_b43
        rw [na1, p_bi, p_lt, p_bv]
      refine ⟨_, _, fC, d5, r_o3_t o2 (r_o3_t o3 (r_o3_t d6 (r_o3_u _ _ (by omega)))), r_o0_t p2 (r_o0_t d7 m5), Or.inl ⟨s, e, a1, ⟨q6, q8, d8, d9, Nat.le_of_lt hse, d2, ?_, ?_⟩, ⟨bb, nb1, hnm⟩, Or.inr (Or.inl ⟨hse, ⟨?_, rfl⟩, ?_⟩)⟩⟩
      · show c4 3 10 = 0
        rw [d10 10 (by decide)]; exact f2
      · show m4 0 5 = 0
        rw [d11 5 (by decide)]; exact b2
      · show c4 3 5 = 1
        rw [d10 5 (by decide)]; rfl
      · rw [m5.1 2 (by decide), d7.1 2 (by decide), mm2]; exact l
    · rw [if_neg l, if_pos rfl, if_pos rfl, p_fig, p_bi, p_inf, p_bi]
      by_cases fg : 48 ≤ (m 2 s).toInt ∧ (m 2 s).toInt ≤ 57
      · rw [if_pos fg, if_neg q10, if_neg q10]
        have o3 : r_o3 cc (s_up (s_up cc 3 5 2) 3 9 0) := r_o3_t (r_o3_u _ _ (by omega)) (r_o3_u _ _ (by omega))
        obtain ⟨e, v, c4, m4, d1, d2, d3, d4, d5, d6, d7, d8, d9, d10, d11, d12, d13, d14⟩ := p_figs (s := s) s_fu s 0 (s_up (s_up cc 3 5 2) 3 9 0) mm (r_tp_o ht2 o3 (r_o0_r _)) g6 g8' g7 e7' rfl g10' (Nat.le_refl _) a2 ⟨by omega, fun _ => rfl, fun _ => by omega, fun _ => by omega, fun _ => by omega⟩ (by rw [s_fu_e]; omega)
        have hse := d3 hsn (by rw [mm2]; exact fg)
        have q6 : c4 3 6 = nI s := by rw [d13 6 (by decide) (by decide)]; exact g6
        have q8 : m4 0 8 = nI s := by rw [d14 8 (by decide) (by decide)]; exact g8'
        have q5 : c4 3 5 = 2 := by rw [d13 5 (by decide) (by decide)]; rfl
        have q10c : c4 3 10 = 0 := by rw [d13 10 (by decide) (by decide)]; exact f2
        have q5m : m4 0 5 = 0 := by rw [d14 5 (by decide) (by decide)]; exact b2
        have q8c : c4 3 8 = -4 := by rw [d13 8 (by decide) (by decide)]; exact g8c
        have fC : s_bv (fX4_scanNumber cc) (fun σ20 => some σ20) = s_bv (fX4_scanNumber_b84 c4) (fun σ20 => some σ20) := by
          unfold fX4_scanNumber
          rw [p_lt, p_lt, d4]
        have m5 : r_o0 m4 (s_up m4 0 9 2) := r_o0_u _ _ (by omega)
        have oC := r_o3_t o2 (r_o3_t o3 d6)
        have oM := r_o0_t p2 (r_o0_t d7 m5)
        have e97 : s_up m4 0 9 2 0 7 = nI e := d9
        have e98 : s_up m4 0 9 2 0 8 = nI s := q8
        have e95 : s_up m4 0 9 2 0 5 = 0 := q5m
        have n9 : ¬ s_up m4 0 9 2 0 9 = 1 := by show ¬ (2 : Int32) = 1; decide
        rw [fC, d5, p_lt, e97, e98]
        unfold fX4_scanNumber_b84
        rw [d8, q6, pk_sub (Nat.le_of_lt hse)]
        by_cases big : e - s ≤ 4
        · have i4 : nI (e - s) ≤ 4 := nI_le (b := 4) big (by omega)
          rw [if_pos i4, if_pos i4, p_bv]
          refine ⟨_, _, rfl, rfl, oC, oM, Or.inl ⟨s, e, a1, ⟨q6, q8, d8, d9, Nat.le_of_lt hse, d2, q10c, q5m⟩, ⟨-4, p_nhN n9, Or.inl ⟨q8c, rfl⟩⟩, Or.inr (Or.inr (Or.inl ⟨hse, ⟨q5, rfl, q8c⟩, ?_, by omega, v, d10, d11, d12⟩))⟩⟩
          rw [m5.1 2 (by decide), d7.1 2 (by decide), mm2]; exact fg
        · have i4 : ¬ nI (e - s) ≤ 4 := nI_ge (a := 4) (by omega) (by omega)
          rw [if_neg i4, if_neg i4]
          unfold fX4_refuse fX7_fails
          rw [if_pos e95, p_lt, p_lt, p_lt, p_lt, p_bv, p_bv, p_bv]
          refine ⟨_, _, rfl, rfl, r_o3_t oC (r_o3_t (r_o3_u _ _ (by omega)) (r_o3_u _ _ (by omega))), r_o0_t oM (r_o0_t (r_o0_u _ _ (by omega)) (r_o0_u _ _ (by omega))), Or.inr ⟨rfl, rfl, ?_, n9⟩⟩
          show c4 3 6 = m4 0 8
          rw [q6, q8]
      · rw [if_neg fg, if_pos rfl, if_pos rfl]
        have w45 : (45 : Int32).toInt = 45 := rfl
        -- the mark's two sides
        have mark : ∀ tok : Int32, ¬ tok = 1 → (m 2 s = 59 ∨ m 2 s = 45 ∨ m 2 s = 46) → fX7_readsOn_b265 mm (m 2 s) tok = some (s_up (s_up mm 0 9 tok) 0 7 (nI (s + 1))) := fun tok _ hm => by
          unfold fX7_readsOn_b265
          have ee : s_up mm 0 9 tok 0 7 + 1 = nI (s + 1) := by
            show mm 0 7 + 1 = _
            rw [e7', nI_1]
          rw [p_lt, p_lt, ee]
          rcases hm with h | h | h
          · rw [if_pos h]
          · rw [if_neg (by rw [h]; decide), if_pos h]
          · rw [if_neg (by rw [h]; decide), if_neg (by rw [h]; decide), if_pos h]
        have fin : ∀ tok : Int32, ¬ tok = 1 → ((m 2 s = 59 ∧ tok = 3) ∨ (m 2 s = 45 ∧ tok = 4) ∨ (m 2 s = 46 ∧ tok = 5)) → ∃ c' m', fX4_scan_b128 cc = some c' ∧ fX7_readsOn_b265 mm (m 2 s) tok = some m' ∧ r_o3 c c' ∧ r_o0 m m' ∧ ((∃ s e, s0 ≤ s ∧ r_tk c' m' n s e) ∨ (c' 3 10 = 1 ∧ m' 0 5 = 1 ∧ c' 3 11 = m' 0 6 ∧ ¬ m' 0 9 = 1)) := fun tok ht1 hm => by
          rw [mark tok ht1 (by rcases hm with h | h | h; exact Or.inl h.1; exact Or.inr (Or.inl h.1); exact Or.inr (Or.inr h.1))]
          unfold fX4_scan_b128
          have ee : s_up cc 3 5 3 3 6 + 1 = nI (s + 1) := by
            show cc 3 6 + 1 = _
            rw [g6, nI_1]
          rw [p_lt, p_lt, ee]
          have oM : r_o0 mm (s_up (s_up mm 0 9 tok) 0 7 (nI (s + 1))) := r_o0_t (r_o0_u _ _ (by omega)) (r_o0_u _ _ (by omega))
          refine ⟨_, _, rfl, rfl, r_o3_t o2 (r_o3_t (r_o3_u _ _ (by omega)) (r_o3_u _ _ (by omega))), r_o0_t p2 oM, Or.inl ⟨s, s + 1, a1, ⟨g6, g8', rfl, rfl, by omega, by omega, f2, b2⟩, ⟨-4, p_nhN (by show ¬ tok = 1; exact ht1), Or.inl ⟨g8c, rfl⟩⟩, Or.inr (Or.inr (Or.inr ⟨by omega, ⟨rfl, g8c⟩, ?_⟩))⟩⟩
          rw [oM.1 2 (by decide), mm2]
          rcases hm with ⟨h1, h2⟩ | ⟨h1, h2⟩ | ⟨h1, h2⟩
          · exact Or.inl ⟨h1, h2⟩
          · exact Or.inr (Or.inl ⟨h1, h2⟩)
          · exact Or.inr (Or.inr ⟨h1, h2⟩)
        by_cases z1 : m 2 s = 45
        · rw [if_pos z1, if_pos z1]
          exact fin 4 (by decide) (Or.inr (Or.inl ⟨z1, rfl⟩))
        · rw [if_neg z1, if_neg z1]
          by_cases z2 : m 2 s = 46
          · rw [if_pos z2, if_pos z2]
            exact fin 5 (by decide) (Or.inr (Or.inr ⟨z2, rfl⟩))
          · rw [if_neg z2, if_neg z2]
            by_cases z3 : m 2 s = 59
            · rw [if_pos z3]
              exact fin 3 (by decide) (Or.inl ⟨z3, rfl⟩)
            · rw [if_neg z3]
              unfold fX4_refuse fX7_readsOn_b265 fX7_fails
              have ee : s_up mm 0 9 3 0 7 + 1 = nI (s + 1) := by
                show mm 0 7 + 1 = _
                rw [e7', nI_1]
              have e95 : s_up (s_up mm 0 9 3) 0 7 (nI (s + 1)) 0 5 = 0 := b2
              rw [p_lt, p_lt, p_bv, p_lt, p_lt, ee, if_neg z3, if_neg z1, if_neg z2, if_pos e95, p_lt, p_lt, p_bv]
              refine ⟨_, _, rfl, rfl, r_o3_t o2 (r_o3_t (r_o3_u _ _ (by omega)) (r_o3_u _ _ (by omega))), r_o0_t p2 (r_o0_t (r_o0_t (r_o0_u _ _ (by omega)) (r_o0_u _ _ (by omega))) (r_o0_t (r_o0_u _ _ (by omega)) (r_o0_u _ _ (by omega)))), Or.inr ⟨rfl, rfl, ?_, ?_⟩⟩
              · show cc 3 6 = mm 0 8
                rw [g6, g8']
              · show ¬ (3 : Int32) = 1
                decide
