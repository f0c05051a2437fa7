section
/-! sets of bits -/
def Bs (x : Int) (P : Nat → Prop) : Prop := 0 ≤ x ∧ x < 9223372036854775808 ∧ ∀ j : Nat, x.toNat.testBit j = true ↔ P j
theorem Bs_u {x y : Int} {P : Nat → Prop} (h : Bs x P) (h' : Bs y P) : x = y := by
  obtain ⟨a1, a2, a3⟩ := h
  obtain ⟨b1, b2, b3⟩ := h'
  have : x.toNat = y.toNat := Nat.eq_of_testBit_eq (fun j => by
    have e := (a3 j).trans (b3 j).symm
    cases h1 : x.toNat.testBit j <;> cases h2 : y.toNat.testBit j <;> simp_all)
  omega
theorem Bs_0 {P : Nat → Prop} (h : ∀ j, ¬ P j) : Bs 0 P := ⟨by decide, by decide, fun j => by simp [h j]⟩
theorem Bs_c {x : Int} {P R : Nat → Prop} (h : Bs x P) (hc : ∀ j, P j ↔ R j) : Bs x R := ⟨h.1, h.2.1, fun j => (h.2.2 j).trans (hc j)⟩
theorem bv64 {x : Int} (h0 : 0 ≤ x) (h1 : x < 9223372036854775808) : (BitVec.ofInt 64 x).toNat = x.toNat := by
  rw [BitVec.toNat_ofInt]
  omega
theorem or64_n {x y : Int} (h0 : 0 ≤ x) (h1 : x < 9223372036854775808) (g0 : 0 ≤ y) (g1 : y < 9223372036854775808) : 0 ≤ or64 x y ∧ or64 x y < 9223372036854775808 ∧ (or64 x y).toNat = x.toNat ||| y.toNat := by
  have hl : x.toNat ||| y.toNat < 2 ^ 63 := Nat.or_lt_two_pow (by omega) (by omega)
  have e : ((Int64.ofInt x ||| Int64.ofInt y).toBitVec).toNat = x.toNat ||| y.toNat := by
    rw [Int64.toBitVec_or, BitVec.toNat_or]
    show (BitVec.ofInt 64 x).toNat ||| (BitVec.ofInt 64 y).toNat = _
    rw [bv64 h0 h1, bv64 g0 g1]
  have e2 : or64 x y = ((x.toNat ||| y.toNat : Nat) : Int) := by
    show ((Int64.ofInt x ||| Int64.ofInt y).toBitVec).toInt = _
    rw [BitVec.toInt_eq_toNat_cond, e, if_pos (by omega)]
  rw [e2]
  omega
theorem and64_n {x y : Int} (h0 : 0 ≤ x) (h1 : x < 9223372036854775808) (g0 : 0 ≤ y) (g1 : y < 9223372036854775808) : and64 x y = ((x.toNat &&& y.toNat : Nat) : Int) := by
  have hl : x.toNat &&& y.toNat < 2 ^ 63 := Nat.and_lt_two_pow _ (by omega)
  have e : ((Int64.ofInt x &&& Int64.ofInt y).toBitVec).toNat = x.toNat &&& y.toNat := by
    rw [Int64.toBitVec_and, BitVec.toNat_and]
    show (BitVec.ofInt 64 x).toNat &&& (BitVec.ofInt 64 y).toNat = _
    rw [bv64 h0 h1, bv64 g0 g1]
  show ((Int64.ofInt x &&& Int64.ofInt y).toBitVec).toInt = _
  rw [BitVec.toInt_eq_toNat_cond, e, if_pos (by omega)]
theorem sh1 : ∀ i : Fin 63, sh64l 1 (i.val : Int) = 2 ^ i.val := by decide
theorem sh64_a : ∀ i : Fin 63, (((Int32.ofInt (i.val : Int)).toInt64 &&& 63).toBitVec.smod 64) = BitVec.ofNat 64 i.val := by decide
theorem sh64r_n {x : Int} (h0 : 0 ≤ x) (h1 : x < 9223372036854775808) (i : Fin 63) : sh64r x (i.val : Int) = x / 2 ^ i.val := by
  have ex : (BitVec.ofInt 64 x).toInt = x := by
    rw [BitVec.toInt_eq_toNat_cond, bv64 h0 h1, if_pos (by omega)]
    omega
  have e : (Int64.ofInt x >>> ((Int32.ofInt (i.val : Int)).toInt64 &&& 63)).toBitVec = (BitVec.ofInt 64 x).sshiftRight i.val := by
    show BitVec.sshiftRight' (BitVec.ofInt 64 x) (((Int32.ofInt (i.val : Int)).toInt64 &&& 63).toBitVec.smod 64) = _
    rw [sh64_a i]
    show (BitVec.ofInt 64 x).sshiftRight (BitVec.ofNat 64 i.val).toNat = _
    have := i.isLt
    rw [BitVec.toNat_ofNat, Nat.mod_eq_of_lt (by omega)]
  show ((Int64.ofInt x >>> ((Int32.ofInt (i.val : Int)).toInt64 &&& 63)).toBitVec).toInt = _
  rw [e, BitVec.toInt_sshiftRight, ex, Int.shiftRight_eq_div_pow]
  rfl
end
