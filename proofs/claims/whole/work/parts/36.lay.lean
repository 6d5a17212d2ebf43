/-! PURE: lay -/
theorem q_toI (x : Int32) : x.toInt = if 2 * x.toBitVec.toNat < 2 ^ 32 then (x.toBitVec.toNat : Int) else (x.toBitVec.toNat : Int) - 2 ^ 32 := by
  show x.toBitVec.toInt = _
  rw [BitVec.toInt_eq_toNat_cond]
  rfl
theorem q_s8 (x : Int32) : ((x <<< ((24 : Int32) &&& 31)) >>> ((24 : Int32) &&& 31)) = Int8.toInt32 (Int32.toInt8 x) := by
  apply Int32.toInt_inj.mp
  rw [pk_shr _ _ 24 (by decide), Int8.toInt_toInt32, Int32.toInt_toInt8, q_toI (x <<< _), pk_shl x _ 24 (by decide), q_toI x, Int.shiftRight_eq_div_pow]
  have hb : x.toBitVec.toNat < 2 ^ 32 := x.toBitVec.isLt
  generalize x.toBitVec.toNat = n at hb
  simp only [Int.bmod]
  split <;> split <;> omega
theorem q_s16 (x : Int32) : ((x <<< ((16 : Int32) &&& 31)) >>> ((16 : Int32) &&& 31)) = Int16.toInt32 (Int32.toInt16 x) := by
  apply Int32.toInt_inj.mp
  rw [pk_shr _ _ 16 (by decide), Int16.toInt_toInt32, Int32.toInt_toInt16, q_toI (x <<< _), pk_shl x _ 16 (by decide), q_toI x, Int.shiftRight_eq_div_pow]
  have hb : x.toBitVec.toNat < 2 ^ 32 := x.toBitVec.isLt
  generalize x.toBitVec.toNat = n at hb
  simp only [Int.bmod]
  split <;> split <;> omega
theorem p_isSP (c : Sg) (x : Int32) : fX6_isSheet_P c x = some (if 0 ≤ x.toInt ∧ x.toInt ≤ 3 then 1 else 0, c) := p_isS c x
theorem p_hasP {c : Sg} {n : Nat} (hn : n ≤ 40) (e : c 19 1 = nI n) (x : Int32) : fX2_hasCell_P c x = some (if 0 ≤ x.toInt ∧ x.toInt < n then 1 else 0, c) := by
  have w0 : (0 : Int32).toInt = 0 := rfl
  have hN : (Int32.ofNat n).toInt = n := nI_toInt (n := n) (by omega)
  unfold fX2_hasCell_P fX2_hasCell_P_b17
  rw [e, nI_clamp (by omega)]
  by_cases c1 : x < 0
  · rw [if_pos c1, if_neg (by rw [q_i, w0] at c1; omega)]
  · rw [if_neg c1]
    rw [q_i, w0] at c1
    by_cases c2 : Int32.ofNat n ≤ x
    · rw [if_pos c2, if_neg (by rw [q_l, hN] at c2; omega)]
    · rw [if_neg c2, if_pos (by rw [q_l, hN] at c2; omega)]
/-- what a cell of a lane keeps of a number -/
def r_cv (lane v : Int32) : Int32 := if lane = 0 then Int8.toInt32 (Int32.toInt8 v) else if lane = 1 then Int16.toInt32 (Int32.toInt16 v) else v
theorem r_dsame {D : Nat → Option (Int32 × Nat × (Nat → Int32))} {k : Nat} {t : Int32 × Nat × (Nat → Int32)} (h : D k = some t) : va_up D k (some t) = D := by
  funext j
  by_cases hj : j = k
  · subst hj
    rw [va_up, if_pos rfl, h]
  · rw [va_up, if_neg hj]
theorem z_lay : s_pure_lay Rel := by
  intro c D m h a1 a2 a3
  have w0 : (0 : Int32).toInt = 0 := rfl
  obtain ⟨s1, s2⟩ := h.2.2.2.2.2.1
  refine ⟨fun hD => ?_, fun lane len g hD => ?_⟩
  · by_cases hk : 0 ≤ a1.toInt ∧ a1.toInt ≤ 3
    · obtain ⟨k, hk1, rfl⟩ := nI_of (x := a1) (by rw [q_i, w0]; omega)
      have hk4 : k < 4 := by rw [nI_toInt hk1] at hk; omega
      rw [nI_clamp hk1] at hD
      refine ⟨-11, c, m, ?_, ?_, h⟩
      · unfold fX6_lay_n
        rw [p_isS, if_pos hk, p_bi, if_neg (by decide), p_gd (p_inN hk4 (by omega))]
      · unfold fX7_lay
        rw [p_yes (by rw [p_t64]; exact hk), p_bi, if_neg (by decide), p_gd (p_inN hk4 (by omega)), nI_clamp hk1, if_pos ((s2 k hk4).1 hD)]
    · refine ⟨-1, c, m, ?_, ?_, h⟩
      · unfold fX6_lay_n
        rw [p_isS, if_neg hk, p_bi, if_pos rfl]
      · unfold fX7_lay
        rw [p_no (by rw [p_t64]; exact hk), p_bi, if_pos rfl]
  · have hkk : (Int32.toNatClampNeg a1) < 4 := by
      rcases Nat.lt_or_ge (Int32.toNatClampNeg a1) 4 with z | z
      · exact z
      · rw [s1 _ z] at hD; cases hD
    obtain ⟨t1, t2, t3, t4, t5⟩ := (s2 _ hkk).2 _ hD
    have t3' : len ≤ 40 := t3
    have hld : Rel (s_ld c lane len g) D m := h
    have el : Int32.toNatClampNeg (nI len) = len := nI_clamp (by omega)
    have e19 : s_ld c lane len g 19 1 = nI len := rfl
    have same : va_up D (Int32.toNatClampNeg a1) (some (s_ld c lane len g 19 0, Int32.toNatClampNeg (s_ld c lane len g 19 1), s_ld c lane len g 20)) = D := by
      rw [e19, el]
      exact r_dsame hD
    by_cases hk : 0 ≤ a1.toInt ∧ a1.toInt ≤ 3
    · obtain ⟨k, hk1, rfl⟩ := nI_of (x := a1) (by rw [q_i, w0]; omega)
      have hk4 : k < 4 := by rw [nI_toInt hk1] at hk; omega
      rw [nI_clamp hk1] at hD t1 t4 t5 same ⊢
      have n4 : ¬ m 9 k = -4 := by
        rw [t1, q_e]
        have : (-4 : Int32).toInt = -4 := rfl
        have t2' : 0 ≤ lane.toInt ∧ lane.toInt ≤ 2 := t2
        show ¬ lane.toInt = _
        omega
      have hL : (nI len - 1).toInt = (len : Int) - 1 := by
        rw [show (1 : Int32) = nI 1 from rfl, pk_sub_toInt (by omega) (by omega)]
        omega
      have hz : (0 : Int64).toInt = 0 := rfl
      have t4' : m 10 k = nI len := t4
      by_cases hi : 0 ≤ a2.toInt ∧ a2.toInt < len
      · obtain ⟨i, hi1, rfl⟩ := nI_of (x := a2) (by rw [q_i, w0]; omega)
        have hil : i < len := by rw [nI_toInt hi1] at hi; omega
        have hW : fX2_write_P (s_ld c lane len g) (nI i) a3 = some (s_up (s_ld c lane len g) 20 i (r_cv lane a3)) := by
          have hb : ∀ y : Int32, fX2_write_P_b39 (s_ld c lane len g) (nI i) y = some (s_up (s_ld c lane len g) 20 i y) := fun y => by
            unfold fX2_write_P_b39
            rw [e19, el, p_gd (p_inN hil (by omega)), p_lt, nI_clamp hi1]
          unfold fX2_write_P r_cv
          rw [p_hasP t3' e19, if_pos hi, p_bi, if_neg (by decide), hb, hb, hb]
          show (if lane = 0 then _ else if lane = 1 then _ else _) = _
          by_cases l0 : lane = 0
          · rw [if_pos l0, if_pos l0]
          · rw [if_neg l0, if_neg l0]
            by_cases l1 : lane = 1
            · rw [if_pos l1, if_pos l1]
            · rw [if_neg l1, if_neg l1]
        have hC : fX6_lay_P_p (s_ld c lane len g) (nI k) (nI i) a3 = some (1, s_up (s_ld c lane len g) 20 i (r_cv lane a3)) := by
          unfold fX6_lay_P_p
          rw [p_isSP, if_pos hk, p_bi, if_neg (by decide), p_gd (p_inN hk4 (by omega)), p_hasP t3' e19, if_pos hi, p_bi, if_neg (by decide), hW, p_bv]
        have hM : fX7_lay m (nI k) (nI i) a3 = some (1, s_up m 11 (40 * k + i) (r_cv lane a3)) := by
          have hb : ∀ y : Int32, fX7_lay_b99 m (40 * nI k + nI i) y = some (1, s_up m 11 (40 * k + i) y) := fun y => by
            unfold fX7_lay_b99
            rw [show (40 : Int32) = nI 40 from rfl, pk_mul, nI_add, p_gd (p_inN (by omega) (by omega)), p_lt, nI_clamp (by omega)]
          unfold fX7_lay r_cv
          rw [p_yes (by rw [p_t64]; exact hk), p_bi, if_neg (by decide), p_gd (p_inN hk4 (by omega)), nI_clamp hk1, if_neg n4, p_gd (p_inN hk4 (by omega)), t4', p_yes (by rw [p_t64, p_t64, hL, hz]; omega), p_bi, if_neg (by decide), p_gd (p_inN hk4 (by omega)), p_gd (p_inN hk4 (by omega)), hb, hb, hb, q_s8, q_s16, t1]
          show (if lane = 0 then _ else if lane = 1 then _ else _) = _
          by_cases l0 : lane = 0
          · rw [if_pos l0, if_pos l0]
          · rw [if_neg l0, if_neg l0]
            by_cases l1 : lane = 1
            · rw [if_pos l1, if_pos l1]
            · rw [if_neg l1, if_neg l1]
        refine ⟨1, _, _, hC, hM, ?_, by show Int32.toNatClampNeg (nI len) ≤ 40; rw [el]; exact t3'⟩
        have eD : va_up D k (some (s_up (s_ld c lane len g) 20 i (r_cv lane a3) 19 0, Int32.toNatClampNeg (s_up (s_ld c lane len g) 20 i (r_cv lane a3) 19 1), s_up (s_ld c lane len g) 20 i (r_cv lane a3) 20)) = va_up D k (some (lane, len, upd g i (r_cv lane a3))) := by
          show va_up D k (some (lane, Int32.toNatClampNeg (nI len), upd g i (r_cv lane a3))) = _
          rw [el]
        rw [eD]
        refine r_shs (c := s_up (s_ld c lane len g) 20 i (r_cv lane a3)) (D := D) (m := m) h (fun p x y z => by rw [p_up, if_neg z]) ⟨fun j hj => by rw [va_up, if_neg (by omega)]; exact s1 j hj, fun j hj => ?_⟩
        have e11 : ∀ x, s_up m 11 (40 * k + i) (r_cv lane a3) 11 x = if x = 40 * k + i then r_cv lane a3 else m 11 x := fun x => rfl
        by_cases hjk : j = k
        · subst hjk
          rw [va_up, if_pos rfl]
          refine ⟨fun z => (by cases z), fun t ht => ?_⟩
          cases ht
          refine ⟨t1, t2, t3', t4', fun x hx => ?_⟩
          rw [e11]
          show upd g i (r_cv lane a3) x = _
          rw [p_upd]
          by_cases hxi : x = i
          · rw [if_pos hxi, if_pos (by omega)]
          · rw [if_neg hxi, if_neg (by omega)]
            exact t5 x hx
        · rw [va_up, if_neg hjk]
          refine ⟨(s2 j hj).1, fun t ht => ?_⟩
          obtain ⟨u1, u2, u3, u4, u5⟩ := (s2 j hj).2 t ht
          refine ⟨u1, u2, u3, u4, fun x hx => ?_⟩
          rw [e11, if_neg (by omega)]
          exact u5 x hx
      · refine ⟨-12, s_ld c lane len g, m, ?_, ?_, by rw [same]; exact hld, by show Int32.toNatClampNeg (nI len) ≤ 40; rw [el]; exact t3'⟩
        · unfold fX6_lay_P_p
          rw [p_isSP, if_pos hk, p_bi, if_neg (by decide), p_gd (p_inN hk4 (by omega)), p_hasP t3' e19, if_neg hi, p_bi, if_pos rfl]
        · unfold fX7_lay
          rw [p_yes (by rw [p_t64]; exact hk), p_bi, if_neg (by decide), p_gd (p_inN hk4 (by omega)), nI_clamp hk1, if_neg n4, p_gd (p_inN hk4 (by omega)), t4', p_no (by rw [p_t64, p_t64, hL, hz]; omega), p_bi, if_pos rfl]
    · refine ⟨-1, s_ld c lane len g, m, ?_, ?_, by rw [same]; exact hld, by show Int32.toNatClampNeg (nI len) ≤ 40; rw [el]; exact t3'⟩
      · unfold fX6_lay_P_p
        rw [p_isSP, if_neg hk, p_bi, if_pos rfl]
      · unfold fX7_lay
        rw [p_no (by rw [p_t64]; exact hk), p_bi, if_pos rfl]
