section
/-! sets of bits -/
def Bs (x : Int) (P : Nat → Prop) : Prop := 0 ≤ x ∧ x < 9223372036854775808 ∧ ∀ j : Nat, x.toNat.testBit j = true ↔ P j
theorem Bs_u {x y : Int} {P : Nat → Prop} (h : Bs x P) (h' : Bs y P) : x = y := by
  obtain ⟨a1, a2, a3⟩ := h
  obtain ⟨b1, b2, b3⟩ := h'
  have : x.toNat = y.toNat := Nat.eq_of_testBit_eq (fun j => by
    have e := (a3 j).trans (b3 j).symm
    cases h1 : x.toNat.testBit j <;> cases h2 : y.toNat.testBit j <;> simp_all)
  omega
theorem Bs_0 {P : Nat → Prop} (h : ∀ j, ¬ P j) : Bs 0 P := ⟨by decide, by decide, fun j => by simp [h j]⟩
theorem Bs_c {x : Int} {P R : Nat → Prop} (h : Bs x P) (hc : ∀ j, P j ↔ R j) : Bs x R := ⟨h.1, h.2.1, fun j => (h.2.2 j).trans (hc j)⟩
end
