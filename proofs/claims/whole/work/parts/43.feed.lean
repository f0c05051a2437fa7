section
/-! the tape -/
theorem and255 (x : Int) : and32 x 255 = x % 256 := by
  unfold and32 b32
  have e : ((Int32.ofInt x &&& Int32.ofInt 255).toBitVec).toNat = (x % 256).toNat := by
    rw [Int32.toBitVec_and, BitVec.toNat_and]
    show (BitVec.ofInt 32 x).toNat &&& (BitVec.ofInt 32 255).toNat = _
    rw [BitVec.toNat_ofInt, show (BitVec.ofInt 32 255).toNat = 2 ^ 8 - 1 from rfl, Nat.and_two_pow_sub_one_eq_mod]
    omega
  show ((Int32.ofInt x &&& Int32.ofInt 255).toBitVec).toInt = _
  rw [BitVec.toInt_eq_toNat_cond, e]
  omega
end
