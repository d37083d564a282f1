/-! FEED: a byte's value -/
theorem fd_z (y : Int64) : 0 ≤ ((y &&& lI 255).toInt32).toInt ∧ ((y &&& lI 255).toInt32).toInt ≤ 255 := by
  have e : ((y &&& lI 255).toInt32).toBitVec.toNat = (y.toBitVec.toNat &&& 255) % 2 ^ 32 := by
    show (BitVec.signExtend 32 (y.toBitVec &&& 255#64)).toNat = _
    rw [BitVec.signExtend_eq_setWidth_of_le _ (by decide), BitVec.toNat_setWidth, BitVec.toNat_and]
    rfl
  have h1 : y.toBitVec.toNat &&& 255 ≤ 255 := Nat.and_le_right
  have h2 : ((y &&& lI 255).toInt32).toInt = (((y &&& lI 255).toInt32).toBitVec.toNat : Int) := by
    show ((y &&& lI 255).toInt32).toBitVec.toInt = _
    rw [BitVec.toInt_eq_toNat_cond, if_pos (by omega)]
  omega
theorem fd_i (y : Int64) : ∃ z, (y &&& lI 255).toInt32 = iI z ∧ 0 ≤ z ∧ z ≤ 255 := ⟨_, (Int32.ofInt_toInt _).symm, fd_z y⟩
