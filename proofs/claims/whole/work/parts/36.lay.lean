/-! PURE: lay -/
theorem q_toI (x : Int32) : x.toInt = if 2 * x.toBitVec.toNat < 2 ^ 32 then (x.toBitVec.toNat : Int) else (x.toBitVec.toNat : Int) - 2 ^ 32 := by
  show x.toBitVec.toInt = _
  rw [BitVec.toInt_eq_toNat_cond]
  rfl
theorem q_s8 (x : Int32) : ((x <<< ((24 : Int32) &&& 31)) >>> ((24 : Int32) &&& 31)) = Int8.toInt32 (Int32.toInt8 x) := by
  apply Int32.toInt_inj.mp
  rw [pk_shr _ _ 24 (by decide), Int8.toInt_toInt32, Int32.toInt_toInt8, q_toI (x <<< _), pk_shl x _ 24 (by decide), q_toI x, Int.shiftRight_eq_div_pow]
  have hb : x.toBitVec.toNat < 2 ^ 32 := x.toBitVec.isLt
  generalize x.toBitVec.toNat = n at hb
  simp only [Int.bmod]
  split <;> split <;> omega
theorem q_s16 (x : Int32) : ((x <<< ((16 : Int32) &&& 31)) >>> ((16 : Int32) &&& 31)) = Int16.toInt32 (Int32.toInt16 x) := by
  apply Int32.toInt_inj.mp
  rw [pk_shr _ _ 16 (by decide), Int16.toInt_toInt32, Int32.toInt_toInt16, q_toI (x <<< _), pk_shl x _ 16 (by decide), q_toI x, Int.shiftRight_eq_div_pow]
  have hb : x.toBitVec.toNat < 2 ^ 32 := x.toBitVec.isLt
  generalize x.toBitVec.toNat = n at hb
  simp only [Int.bmod]
  split <;> split <;> omega
