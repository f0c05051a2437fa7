section
/-! the tape -/
theorem and255 (x : Int) : and32 x 255 = x % 256 := by
  unfold and32 b32
  have e : ((Int32.ofInt x &&& Int32.ofInt 255).toBitVec).toNat = (x % 256).toNat := by
    rw [Int32.toBitVec_and, BitVec.toNat_and]
    show (BitVec.ofInt 32 x).toNat &&& (BitVec.ofInt 32 255).toNat = _
    rw [BitVec.toNat_ofInt, show (BitVec.ofInt 32 255).toNat = 2 ^ 8 - 1 from rfl, Nat.and_two_pow_sub_one_eq_mod]
    omega
  show ((Int32.ofInt x &&& Int32.ofInt 255).toBitVec).toInt = _
  rw [BitVec.toInt_eq_toNat_cond, e]
  omega
theorem wc_of {y : Int} (h0 : 0 ≤ y) (h1 : y < 65536) : wc y = y := by
  unfold wc
  have e : (((Int32.ofInt y).toUInt32 % 65536).toInt32.toBitVec).toNat = y.toNat := by
    show ((Int32.ofInt y).toUInt32 % 65536).toNat = _
    rw [UInt32.toNat_mod]
    show (BitVec.ofInt 32 y).toNat % 65536 = _
    rw [BitVec.toNat_ofInt]
    omega
  show ((((Int32.ofInt y).toUInt32 % 65536).toInt32.toBitVec).toInt) = _
  rw [BitVec.toInt_eq_toNat_cond, e]
  omega
theorem w8_mod (x : Int) : w8 x % 256 = x % 256 := by
  unfold w8
  rw [Int.bmod_def]
  split <;> omega
end
