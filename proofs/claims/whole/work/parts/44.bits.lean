section
/-! sets of bits -/
def Bs (x : Int) (P : Nat → Prop) : Prop := 0 ≤ x ∧ x < 9223372036854775808 ∧ ∀ j : Nat, x.toNat.testBit j = true ↔ P j
theorem Bs_u {x y : Int} {P : Nat → Prop} (h : Bs x P) (h' : Bs y P) : x = y := by
  obtain ⟨a1, a2, a3⟩ := h
  obtain ⟨b1, b2, b3⟩ := h'
  have : x.toNat = y.toNat := Nat.eq_of_testBit_eq (fun j => by
    have e := (a3 j).trans (b3 j).symm
    cases h1 : x.toNat.testBit j <;> cases h2 : y.toNat.testBit j <;> simp_all)
  omega
theorem Bs_0 {P : Nat → Prop} (h : ∀ j, ¬ P j) : Bs 0 P := ⟨by decide, by decide, fun j => by simp [h j]⟩
theorem Bs_c {x : Int} {P R : Nat → Prop} (h : Bs x P) (hc : ∀ j, P j ↔ R j) : Bs x R := ⟨h.1, h.2.1, fun j => (h.2.2 j).trans (hc j)⟩
theorem bv64 {x : Int} (h0 : 0 ≤ x) (h1 : x < 9223372036854775808) : (BitVec.ofInt 64 x).toNat = x.toNat := by
  rw [BitVec.toNat_ofInt]
  omega
theorem or64_n {x y : Int} (h0 : 0 ≤ x) (h1 : x < 9223372036854775808) (g0 : 0 ≤ y) (g1 : y < 9223372036854775808) : 0 ≤ or64 x y ∧ or64 x y < 9223372036854775808 ∧ (or64 x y).toNat = x.toNat ||| y.toNat := by
  have hl : x.toNat ||| y.toNat < 2 ^ 63 := Nat.or_lt_two_pow (by omega) (by omega)
  have e : ((Int64.ofInt x ||| Int64.ofInt y).toBitVec).toNat = x.toNat ||| y.toNat := by
    rw [Int64.toBitVec_or, BitVec.toNat_or]
    show (BitVec.ofInt 64 x).toNat ||| (BitVec.ofInt 64 y).toNat = _
    rw [bv64 h0 h1, bv64 g0 g1]
  have e2 : or64 x y = ((x.toNat ||| y.toNat : Nat) : Int) := by
    show ((Int64.ofInt x ||| Int64.ofInt y).toBitVec).toInt = _
    rw [BitVec.toInt_eq_toNat_cond, e, if_pos (by omega)]
  rw [e2]
  omega
theorem and64_n {x y : Int} (h0 : 0 ≤ x) (h1 : x < 9223372036854775808) (g0 : 0 ≤ y) (g1 : y < 9223372036854775808) : and64 x y = ((x.toNat &&& y.toNat : Nat) : Int) := by
  have hl : x.toNat &&& y.toNat < 2 ^ 63 := Nat.and_lt_two_pow _ (by omega)
  have e : ((Int64.ofInt x &&& Int64.ofInt y).toBitVec).toNat = x.toNat &&& y.toNat := by
    rw [Int64.toBitVec_and, BitVec.toNat_and]
    show (BitVec.ofInt 64 x).toNat &&& (BitVec.ofInt 64 y).toNat = _
    rw [bv64 h0 h1, bv64 g0 g1]
  show ((Int64.ofInt x &&& Int64.ofInt y).toBitVec).toInt = _
  rw [BitVec.toInt_eq_toNat_cond, e, if_pos (by omega)]
theorem sh1 : ∀ i : Fin 63, sh64l 1 (i.val : Int) = 2 ^ i.val := by decide
theorem sh64_a : ∀ i : Fin 63, (((Int32.ofInt (i.val : Int)).toInt64 &&& 63).toBitVec.smod 64) = BitVec.ofNat 64 i.val := by decide
theorem sh64r_n {x : Int} (h0 : 0 ≤ x) (h1 : x < 9223372036854775808) (i : Fin 63) : sh64r x (i.val : Int) = x / 2 ^ i.val := by
  have ex : (BitVec.ofInt 64 x).toInt = x := by
    rw [BitVec.toInt_eq_toNat_cond, bv64 h0 h1, if_pos (by omega)]
    omega
  have e : (Int64.ofInt x >>> ((Int32.ofInt (i.val : Int)).toInt64 &&& 63)).toBitVec = (BitVec.ofInt 64 x).sshiftRight i.val := by
    show BitVec.sshiftRight' (BitVec.ofInt 64 x) (((Int32.ofInt (i.val : Int)).toInt64 &&& 63).toBitVec.smod 64) = _
    rw [sh64_a i]
    show (BitVec.ofInt 64 x).sshiftRight (BitVec.ofNat 64 i.val).toNat = _
    have := i.isLt
    rw [BitVec.toNat_ofNat, Nat.mod_eq_of_lt (by omega)]
  show ((Int64.ofInt x >>> ((Int32.ofInt (i.val : Int)).toInt64 &&& 63)).toBitVec).toInt = _
  rw [e, BitVec.toInt_sshiftRight, ex, Int.shiftRight_eq_div_pow]
  rfl
theorem sh1_i {i : Int} (h0 : 0 ≤ i) (h1 : i < 63) : sh64l 1 i = 2 ^ i.toNat := by
  have := sh1 ⟨i.toNat, by omega⟩
  simp only at this
  rw [show ((i.toNat : Nat) : Int) = i by omega] at this
  exact this
theorem p2_63 {n : Nat} (h : n < 63) : (2 : Int) ^ n < 9223372036854775808 ∧ (0 : Int) ≤ 2 ^ n ∧ ((2 : Int) ^ n).toNat = 2 ^ n := by
  have e : (2 : Int) ^ n = ((2 ^ n : Nat) : Int) := by simp
  have l : (2 : Nat) ^ n < 2 ^ 63 := Nat.pow_lt_pow_right (by decide) h
  rw [e]
  generalize (2 : Nat) ^ n = m at l ⊢
  omega
theorem Bs_a {x i : Int} {P R : Nat → Prop} (h : Bs x P) (h0 : 0 ≤ i) (h1 : i < 63) (hc : ∀ j, R j ↔ (P j ∨ j = i.toNat)) : Bs (or64 x (sh64l 1 i)) R := by
  obtain ⟨a1, a2, a3⟩ := h
  rw [sh1_i h0 h1]
  have p := p2_63 (n := i.toNat) (by omega)
  have o := or64_n a1 a2 p.2.1 p.1
  refine ⟨o.1, o.2.1, fun j => ?_⟩
  rw [o.2.2, p.2.2, Nat.testBit_or, Nat.testBit_two_pow, hc j, Bool.or_eq_true, a3 j]
  simp [eq_comm]
theorem Bs_q {x v : Int} {P : Nat → Prop} (h : Bs x P) (h0 : 0 ≤ v) (h1 : v < 62) : (x / 2 ^ v.toNat).toNat % 2 = (if x.toNat.testBit v.toNat then 1 else 0) ∧ (x / 2 ^ v.toNat).toNat / 2 % 2 = (if x.toNat.testBit (v.toNat + 1) then 1 else 0) := by
  have e : (x / 2 ^ v.toNat).toNat = x.toNat / 2 ^ v.toNat := by
    obtain ⟨m, hm⟩ : ∃ m : Nat, x = m := ⟨x.toNat, by have := h.1; omega⟩
    have e2 : (2 : Int) ^ v.toNat = ((2 ^ v.toNat : Nat) : Int) := by simp
    rw [hm, e2, ← Int.natCast_ediv, Int.toNat_natCast, Int.toNat_natCast]
  rw [e, Nat.testBit_eq_decide_div_mod_eq, Nat.testBit_eq_decide_div_mod_eq, Nat.div_div_eq_div_mul, ← Nat.pow_succ]
  constructor
  · by_cases c : x.toNat / 2 ^ v.toNat % 2 = 1
    · simp [c]
    · simp [c]
      omega
  · by_cases c : x.toNat / 2 ^ (v.toNat + 1) % 2 = 1
    · simp [c]
    · simp [c]
      omega
theorem Bs_1 {x v : Int} {P : Nat → Prop} (h : Bs x P) (h0 : 0 ≤ v) (h1 : v < 62) : and64 (sh64r x v) 1 = 0 ↔ ¬ P v.toNat := by
  have hs := sh64r_n h.1 h.2.1 ⟨v.toNat, by omega⟩
  simp only at hs
  rw [show ((v.toNat : Nat) : Int) = v by omega] at hs
  have p := p2_63 (n := v.toNat) (by omega)
  have d0 : 0 ≤ x / 2 ^ v.toNat := Int.ediv_nonneg h.1 p.2.1
  have d1 : x / 2 ^ v.toNat ≤ x := Int.ediv_le_self _ h.1
  have q := (Bs_q h h0 h1).1
  rw [hs, and64_n d0 (by have := h.2.1; omega) (by decide) (by decide), ← h.2.2 v.toNat]
  have e : (x / 2 ^ v.toNat).toNat &&& (1 : Int).toNat = (x / 2 ^ v.toNat).toNat % 2 := Nat.and_two_pow_sub_one_eq_mod _ 1
  rw [e, q]
  by_cases c : x.toNat.testBit v.toNat = true
  · simp [c]
  · simp [c]
theorem Bs_3 {x v : Int} {P : Nat → Prop} (h : Bs x P) (h0 : 0 ≤ v) (h1 : v < 62) : and64 (sh64r x v) 3 = 0 ↔ (¬ P v.toNat ∧ ¬ P (v.toNat + 1)) := by
  have hs := sh64r_n h.1 h.2.1 ⟨v.toNat, by omega⟩
  simp only at hs
  rw [show ((v.toNat : Nat) : Int) = v by omega] at hs
  have p := p2_63 (n := v.toNat) (by omega)
  have d0 : 0 ≤ x / 2 ^ v.toNat := Int.ediv_nonneg h.1 p.2.1
  have d1 : x / 2 ^ v.toNat ≤ x := Int.ediv_le_self _ h.1
  have q := Bs_q h h0 h1
  rw [hs, and64_n d0 (by have := h.2.1; omega) (by decide) (by decide), ← h.2.2 v.toNat, ← h.2.2 (v.toNat + 1)]
  have e : (x / 2 ^ v.toNat).toNat &&& (3 : Int).toNat = (x / 2 ^ v.toNat).toNat % 4 := Nat.and_two_pow_sub_one_eq_mod _ 2
  rw [e]
  obtain ⟨q1, q2⟩ := q
  generalize (x / 2 ^ v.toNat).toNat = y at *
  constructor
  · intro z
    refine ⟨fun c => ?_, fun c => ?_⟩
    · rw [if_pos c] at q1
      omega
    · rw [if_pos c] at q2
      omega
  · rintro ⟨c, c2⟩
    rw [if_neg c] at q1
    rw [if_neg c2] at q2
    omega
end
