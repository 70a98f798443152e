theorem ti_ushr1 {x z : Int32} (h : z = (x.toUInt32 >>> ((1 : Int32).toUInt32 &&& Int32.toUInt32 31)).toInt32) (h0 : 0 ≤ x.toInt) : z.toInt = x.toInt / 2 := by
  have e1 : z.toBitVec = x.toBitVec >>> 1 := by rw [h]; rfl
  have e2 : z.toBitVec.toNat = x.toBitVec.toNat / 2 := by
    rw [e1, BitVec.toNat_ushiftRight, Nat.shiftRight_eq_div_pow]
  have hz : z.toInt = z.toBitVec.toInt := rfl
  have hx : x.toInt = x.toBitVec.toInt := rfl
  have hb := x.toBitVec.isLt
  rw [hx, BitVec.toInt_eq_toNat_cond] at h0
  have hlt : x.toBitVec.toNat < 2 ^ 31 := by
    split at h0 <;> omega
  rw [hz, hx, BitVec.toInt_eq_toNat_of_lt (by omega), BitVec.toInt_eq_toNat_of_lt (by omega), e2]
  omega
