/-! PURE: lay -/
theorem q_toI (x : Int32) : x.toInt = if 2 * x.toBitVec.toNat < 2 ^ 32 then (x.toBitVec.toNat : Int) else (x.toBitVec.toNat : Int) - 2 ^ 32 := by
  show x.toBitVec.toInt = _
  rw [BitVec.toInt_eq_toNat_cond]
  rfl
theorem q_s8 (x : Int32) : ((x <<< ((24 : Int32) &&& 31)) >>> ((24 : Int32) &&& 31)) = Int8.toInt32 (Int32.toInt8 x) := by
  apply Int32.toInt_inj.mp
  rw [pk_shr _ _ 24 (by decide), Int8.toInt_toInt32, Int32.toInt_toInt8, q_toI (x <<< _), pk_shl x _ 24 (by decide), q_toI x, Int.shiftRight_eq_div_pow]
  have hb : x.toBitVec.toNat < 2 ^ 32 := x.toBitVec.isLt
  generalize x.toBitVec.toNat = n at hb
  simp only [Int.bmod]
  split <;> split <;> omega
theorem q_s16 (x : Int32) : ((x <<< ((16 : Int32) &&& 31)) >>> ((16 : Int32) &&& 31)) = Int16.toInt32 (Int32.toInt16 x) := by
  apply Int32.toInt_inj.mp
  rw [pk_shr _ _ 16 (by decide), Int16.toInt_toInt32, Int32.toInt_toInt16, q_toI (x <<< _), pk_shl x _ 16 (by decide), q_toI x, Int.shiftRight_eq_div_pow]
  have hb : x.toBitVec.toNat < 2 ^ 32 := x.toBitVec.isLt
  generalize x.toBitVec.toNat = n at hb
  simp only [Int.bmod]
  split <;> split <;> omega
theorem p_layN {c : Sg} {k : Nat} (hk : k < 4) (e : c (19 + 2 * k) 2 = -1) (a2 a3 : Int32) : fX6_lay c (nI k) a2 a3 = some (-11, c) := by
  have hkk : 0 ≤ (nI k).toInt ∧ (nI k).toInt ≤ 3 := by rw [nI_toInt (by omega)]; omega
  unfold fX6_lay
  rw [p_isS, if_pos hkk, p_bi, if_neg (by decide)]
  match k, hk with
  | 0, _ =>
    have e : c 19 2 = -1 := e
    rw [if_pos (show nI 0 = 0 from rfl), p_isN_19, if_pos e, p_bi, if_neg (by decide)]
  | 1, _ =>
    have e : c 21 2 = -1 := e
    rw [if_neg (show ¬ nI 1 = 0 by decide), if_pos (show nI 1 = 1 from rfl), p_isN_21, if_pos e, p_bi, if_neg (by decide)]
  | 2, _ =>
    have e : c 23 2 = -1 := e
    rw [if_neg (show ¬ nI 2 = 0 by decide), if_neg (show ¬ nI 2 = 1 by decide), if_pos (show nI 2 = 2 from rfl), p_isN_23, if_pos e, p_bi, if_neg (by decide)]
  | 3, _ =>
    have e : c 25 2 = -1 := e
    rw [if_neg (show ¬ nI 3 = 0 by decide), if_neg (show ¬ nI 3 = 1 by decide), if_neg (show ¬ nI 3 = 2 by decide), if_pos (show nI 3 = 3 from rfl), p_isN_25, if_pos e, p_bi, if_neg (by decide)]
theorem p_layO {c : Sg} {k n : Nat} (hk : k < 4) (hn : n ≤ 40) (e : c (19 + 2 * k) 2 = nI n) {a2 : Int32} (hi : ¬ (0 ≤ a2.toInt ∧ a2.toInt < n)) (a3 : Int32) : fX6_lay c (nI k) a2 a3 = some (-12, c) := by
  have hkk : 0 ≤ (nI k).toInt ∧ (nI k).toInt ≤ 3 := by rw [nI_toInt (by omega)]; omega
  unfold fX6_lay
  rw [p_isS, if_pos hkk, p_bi, if_neg (by decide)]
  match k, hk with
  | 0, _ =>
    have e : c 19 2 = nI n := e
    rw [if_pos (show nI 0 = 0 from rfl), p_isN_19, if_neg (by rw [e]; exact nI_m1 hn), p_bi, if_pos rfl, p_has_19 hn e, if_neg hi, p_bi, if_pos rfl]
  | 1, _ =>
    have e : c 21 2 = nI n := e
    rw [if_neg (show ¬ nI 1 = 0 by decide), if_pos (show nI 1 = 1 from rfl), p_isN_21, if_neg (by rw [e]; exact nI_m1 hn), p_bi, if_pos rfl, p_has_21 hn e, if_neg hi, p_bi, if_pos rfl]
  | 2, _ =>
    have e : c 23 2 = nI n := e
    rw [if_neg (show ¬ nI 2 = 0 by decide), if_neg (show ¬ nI 2 = 1 by decide), if_pos (show nI 2 = 2 from rfl), p_isN_23, if_neg (by rw [e]; exact nI_m1 hn), p_bi, if_pos rfl, p_has_23 hn e, if_neg hi, p_bi, if_pos rfl]
  | 3, _ =>
    have e : c 25 2 = nI n := e
    rw [if_neg (show ¬ nI 3 = 0 by decide), if_neg (show ¬ nI 3 = 1 by decide), if_neg (show ¬ nI 3 = 2 by decide), if_pos (show nI 3 = 3 from rfl), p_isN_25, if_neg (by rw [e]; exact nI_m1 hn), p_bi, if_pos rfl, p_has_25 hn e, if_neg hi, p_bi, if_pos rfl]
theorem p_layW {c : Sg} {k n i : Nat} (hk : k < 4) (hn : n ≤ 40) (e : c (19 + 2 * k) 2 = nI n) (hi : i < n) (a3 : Int32) : fX6_lay c (nI k) (nI i) a3 = some (1, s_up c (20 + 2 * k) i (r_cv (c (19 + 2 * k) 1) a3)) := by
  have hkk : 0 ≤ (nI k).toInt ∧ (nI k).toInt ≤ 3 := by rw [nI_toInt (by omega)]; omega
  have hii : 0 ≤ (nI i).toInt ∧ (nI i).toInt < n := by rw [nI_toInt (by omega)]; omega
  unfold fX6_lay
  rw [p_isS, if_pos hkk, p_bi, if_neg (by decide)]
  match k, hk with
  | 0, _ =>
    have e : c 19 2 = nI n := e
    rw [if_pos (show nI 0 = 0 from rfl), p_isN_19, if_neg (by rw [e]; exact nI_m1 hn), p_bi, if_pos rfl, p_has_19 hn e, if_pos hii, p_bi, if_neg (by decide), p_wr_19 hn e hi, p_bv]
  | 1, _ =>
    have e : c 21 2 = nI n := e
    rw [if_neg (show ¬ nI 1 = 0 by decide), if_pos (show nI 1 = 1 from rfl), p_isN_21, if_neg (by rw [e]; exact nI_m1 hn), p_bi, if_pos rfl, p_has_21 hn e, if_pos hii, p_bi, if_neg (by decide), p_wr_21 hn e hi, p_bv]
  | 2, _ =>
    have e : c 23 2 = nI n := e
    rw [if_neg (show ¬ nI 2 = 0 by decide), if_neg (show ¬ nI 2 = 1 by decide), if_pos (show nI 2 = 2 from rfl), p_isN_23, if_neg (by rw [e]; exact nI_m1 hn), p_bi, if_pos rfl, p_has_23 hn e, if_pos hii, p_bi, if_neg (by decide), p_wr_23 hn e hi, p_bv]
  | 3, _ =>
    have e : c 25 2 = nI n := e
    rw [if_neg (show ¬ nI 3 = 0 by decide), if_neg (show ¬ nI 3 = 1 by decide), if_neg (show ¬ nI 3 = 2 by decide), if_pos (show nI 3 = 3 from rfl), p_isN_25, if_neg (by rw [e]; exact nI_m1 hn), p_bi, if_pos rfl, p_has_25 hn e, if_pos hii, p_bi, if_neg (by decide), p_wr_25 hn e hi, p_bv]
theorem z_lay : s_pure_lay Rel := by
  intro c m h a1 a2 a3
  have w0 : (0 : Int32).toInt = 0 := rfl
  by_cases hk : 0 ≤ a1.toInt ∧ a1.toInt ≤ 3
  · obtain ⟨k, hk1, rfl⟩ := nI_of (x := a1) (by rw [q_i, w0]; omega)
    have hk4 : k < 4 := by rw [nI_toInt hk1] at hk; omega
    rcases r_shk h.2.2.2.2.2.1 hk4 with ⟨z1, z2⟩ | ⟨len, t3, e19, t4, t1, t2, t5⟩
    · refine ⟨-11, c, m, p_layN hk4 z1 a2 a3, ?_, h⟩
      unfold fX7_lay
      rw [p_yes (by rw [p_t64]; exact hk), p_bi, if_neg (by decide), p_gd (p_inN hk4 (by omega)), nI_clamp hk1, if_pos z2]
    · have n4 : ¬ m 9 k = -4 := by
        rw [q_e]
        have : (-4 : Int32).toInt = -4 := rfl
        omega
      have hL : (nI len - 1).toInt = (len : Int) - 1 := by
        rw [show (1 : Int32) = nI 1 from rfl, pk_sub_toInt (by omega) (by omega)]
        omega
      have hz : (0 : Int64).toInt = 0 := rfl
      by_cases hi : 0 ≤ a2.toInt ∧ a2.toInt < len
      · obtain ⟨i, hi1, rfl⟩ := nI_of (x := a2) (by rw [q_i, w0]; omega)
        have hil : i < len := by rw [nI_toInt hi1] at hi; omega
        have hC := p_layW (c := c) hk4 t3 e19 hil a3
        rw [t1] at hC
        have hM : fX7_lay m (nI k) (nI i) a3 = some (1, s_up m 11 (40 * k + i) (r_cv (m 9 k) a3)) := by
          have hb : ∀ y : Int32, fX7_lay_b99 m (40 * nI k + nI i) y = some (1, s_up m 11 (40 * k + i) y) := fun y => by
            unfold fX7_lay_b99
            rw [show (40 : Int32) = nI 40 from rfl, pk_mul, nI_add, p_gd (p_inN (by omega) (by omega)), p_lt, nI_clamp (by omega)]
          unfold fX7_lay r_cv
          rw [p_yes (by rw [p_t64]; exact hk), p_bi, if_neg (by decide), p_gd (p_inN hk4 (by omega)), nI_clamp hk1, if_neg n4, p_gd (p_inN hk4 (by omega)), t4, p_yes (by rw [p_t64, p_t64, hL, hz]; omega), p_bi, if_neg (by decide), p_gd (p_inN hk4 (by omega)), p_gd (p_inN hk4 (by omega)), hb, hb, hb, q_s8, q_s16]
          by_cases l0 : m 9 k = 0
          · rw [if_pos l0, if_pos l0]
          · rw [if_neg l0, if_neg l0]
            by_cases l1 : m 9 k = 1
            · rw [if_pos l1, if_pos l1]
            · rw [if_neg l1, if_neg l1]
        refine ⟨1, _, _, hC, hM, ?_⟩
        have e11 : ∀ x, s_up m 11 (40 * k + i) (r_cv (m 9 k) a3) 11 x = if x = 40 * k + i then r_cv (m 9 k) a3 else m 11 x := fun x => rfl
        refine r_shs h (fun p hp => by rw [p_up, if_neg (by omega)]) (fun p x y z => by rw [p_up, if_neg z]) (r_sheet_of fun j hj => ?_)
        have e9 : s_up m 11 (40 * k + i) (r_cv (m 9 k) a3) 9 = m 9 := rfl
        have e10 : s_up m 11 (40 * k + i) (r_cv (m 9 k) a3) 10 = m 10 := rfl
        rw [e9, e10, p_up c (20 + 2 * k) i _ (19 + 2 * j), if_neg (by omega)]
        by_cases hjk : j = k
        · subst hjk
          refine Or.inr ⟨len, t3, e19, t4, t1, t2, fun x hx => ?_⟩
          show s_up c (20 + 2 * j) i (r_cv (m 9 j) a3) (20 + 2 * j) x = s_up m 11 (40 * j + i) (r_cv (m 9 j) a3) 11 (40 * j + x)
          rw [e11, p_up, if_pos rfl, p_upd]
          by_cases hxi : x = i
          · rw [if_pos hxi, if_pos (by omega)]
          · rw [if_neg hxi, if_neg (by omega)]
            exact t5 x hx
        · rw [p_up c (20 + 2 * k) i _ (20 + 2 * j), if_neg (by omega)]
          rcases r_shk h.2.2.2.2.2.1 hj with z | ⟨N, u1, u2, u3, u4, u5, u6⟩
          · exact Or.inl z
          · refine Or.inr ⟨N, u1, u2, u3, u4, u5, fun x hx => ?_⟩
            show _ = s_up m 11 (40 * k + i) (r_cv (m 9 k) a3) 11 (40 * j + x)
            rw [u6 x hx, e11, if_neg (by omega)]
      · refine ⟨-12, c, m, p_layO hk4 t3 e19 hi a3, ?_, h⟩
        unfold fX7_lay
        rw [p_yes (by rw [p_t64]; exact hk), p_bi, if_neg (by decide), p_gd (p_inN hk4 (by omega)), nI_clamp hk1, if_neg n4, p_gd (p_inN hk4 (by omega)), t4, p_no (by rw [p_t64, p_t64, hL, hz]; omega), p_bi, if_pos rfl]
  · refine ⟨-1, c, m, ?_, ?_, h⟩
    · unfold fX6_lay
      rw [p_isS, if_neg hk, p_bi, if_pos rfl]
    · unfold fX7_lay
      rw [p_no (by rw [p_t64]; exact hk), p_bi, if_pos rfl]
