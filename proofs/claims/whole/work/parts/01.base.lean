/-! my own abstract machine: values, worlds, what an instruction does there (all numbers are Int) -/
abbrev aV : Type := Int ⊕ (Int ⊕ Option Nat)
abbrev vi (x : Int) : aV := .inl x
abbrev vl (x : Int) : aV := .inr (.inl x)
abbrev vr (k : Nat) : aV := .inr (.inr (some k))
abbrev vt : aV := .inr (.inr none)
abbrev aW : Type := Nat → Int → Int
abbrev aQ : Type := Option aV → aW → Prop
abbrev aT : Type := List aV → aW → aQ → Prop
abbrev aK : Type := Nat → List aV → List aV → aW → Prop
/-- an instruction at its place: pc, instruction, length, jump targets with what stays known of the locals there -/
abbrev aE : Type := Nat × Instr × Nat × List (Nat × List Bool)
def w32 (x : Int) : Int := x.bmod 4294967296
def w64 (x : Int) : Int := x.bmod 18446744073709551616
def w16 (x : Int) : Int := x.bmod 65536
def w8 (x : Int) : Int := x.bmod 256
def fu (f : Int → Int) (i v : Int) : Int → Int := fun b => if b = i then v else f b
def sw (σ : aW) (k : Nat) (f : Int → Int) : aW := fun a => if a = k then f else σ a
theorem w32_of {x : Int} (h : -2147483648 ≤ x) (h2 : x < 2147483648) : w32 x = x := by
  unfold w32
  rw [Int.bmod_def]
  split <;> omega
theorem w64_of {x : Int} (h : -9223372036854775808 ≤ x) (h2 : x < 9223372036854775808) : w64 x = x := by
  unfold w64
  rw [Int.bmod_def]
  split <;> omega
theorem w32_in (x : Int) : -2147483648 ≤ w32 x ∧ w32 x < 2147483648 := by
  unfold w32
  rw [Int.bmod_def]
  split <;> omega
theorem w64_in (x : Int) : -9223372036854775808 ≤ w64 x ∧ w64 x < 9223372036854775808 := by
  unfold w64
  rw [Int.bmod_def]
  split <;> omega
theorem w8_in (x : Int) : -128 ≤ w8 x ∧ w8 x < 128 := by
  unfold w8
  rw [Int.bmod_def]
  split <;> omega
theorem w16_in (x : Int) : -32768 ≤ w16 x ∧ w16 x < 32768 := by
  unfold w16
  rw [Int.bmod_def]
  split <;> omega
theorem o32_w (x : Int) : Int32.ofInt (w32 x) = Int32.ofInt x := by
  apply Int32.toInt_inj.mp
  rw [Int32.toInt_ofInt, Int32.toInt_ofInt]
  show (x.bmod 4294967296).bmod 4294967296 = x.bmod 4294967296
  exact Int.bmod_bmod
theorem o64_w (x : Int) : Int64.ofInt (w64 x) = Int64.ofInt x := by
  apply Int64.toInt_inj.mp
  rw [Int64.toInt_ofInt, Int64.toInt_ofInt]
  show (x.bmod 18446744073709551616).bmod 18446744073709551616 = x.bmod 18446744073709551616
  exact Int.bmod_bmod
def r32 (x : Int) : Prop := -2147483648 ≤ x ∧ x < 2147483648
def r64 (x : Int) : Prop := -9223372036854775808 ≤ x ∧ x < 9223372036854775808
theorem o32_t {x : Int} (h : r32 x) : (Int32.ofInt x).toInt = x := by
  rw [Int32.toInt_ofInt]
  exact w32_of h.1 h.2
theorem o64_t {x : Int} (h : r64 x) : (Int64.ofInt x).toInt = x := by
  rw [Int64.toInt_ofInt]
  exact w64_of h.1 h.2
theorem o32_lt {x y : Int} (hx : r32 x) (hy : r32 y) : Int32.ofInt x < Int32.ofInt y ↔ x < y := by
  rw [Int32.lt_iff_toInt_lt, o32_t hx, o32_t hy]
theorem o32_le {x y : Int} (hx : r32 x) (hy : r32 y) : Int32.ofInt x ≤ Int32.ofInt y ↔ x ≤ y := by
  rw [Int32.le_iff_toInt_le, o32_t hx, o32_t hy]
theorem o32_eq {x y : Int} (hx : r32 x) (hy : r32 y) : Int32.ofInt x = Int32.ofInt y ↔ x = y := by
  rw [← Int32.toInt_inj, o32_t hx, o32_t hy]
theorem o64_lt {x y : Int} (hx : r64 x) (hy : r64 y) : Int64.ofInt x < Int64.ofInt y ↔ x < y := by
  rw [Int64.lt_iff_toInt_lt, o64_t hx, o64_t hy]
theorem o64_eq {x y : Int} (hx : r64 x) (hy : r64 y) : Int64.ofInt x = Int64.ofInt y ↔ x = y := by
  rw [← Int64.toInt_inj, o64_t hx, o64_t hy]
theorem o32_back (a : Int32) : Int32.ofInt a.toInt = a := by
  apply Int32.toInt_inj.mp
  exact o32_t ⟨Int32.le_toInt a, Int32.toInt_lt a⟩
theorem o64_back (a : Int64) : Int64.ofInt a.toInt = a := by
  apply Int64.toInt_inj.mp
  exact o64_t ⟨Int64.le_toInt a, Int64.toInt_lt a⟩
theorem r32_t (a : Int32) : r32 a.toInt := ⟨Int32.le_toInt a, Int32.toInt_lt a⟩
theorem r64_t (a : Int64) : r64 a.toInt := ⟨Int64.le_toInt a, Int64.toInt_lt a⟩
theorem o32_add (x y : Int) : Int32.ofInt x + Int32.ofInt y = Int32.ofInt (w32 (x + y)) := by rw [o32_w, Int32.ofInt_add]
theorem o32_sub (x y : Int) : Int32.ofInt x - Int32.ofInt y = Int32.ofInt (w32 (x - y)) := by rw [o32_w, Int32.ofInt_sub]
theorem o32_mul (x y : Int) : Int32.ofInt x * Int32.ofInt y = Int32.ofInt (w32 (x * y)) := by rw [o32_w, Int32.ofInt_mul]
theorem o32_neg (x : Int) : -Int32.ofInt x = Int32.ofInt (w32 (-x)) := by rw [o32_w, Int32.ofInt_neg]
theorem o64_add (x y : Int) : Int64.ofInt x + Int64.ofInt y = Int64.ofInt (w64 (x + y)) := by rw [o64_w, Int64.ofInt_add]
theorem o64_sub (x y : Int) : Int64.ofInt x - Int64.ofInt y = Int64.ofInt (w64 (x - y)) := by rw [o64_w, Int64.ofInt_sub]
theorem o64_mul (x y : Int) : Int64.ofInt x * Int64.ofInt y = Int64.ofInt (w64 (x * y)) := by rw [o64_w, Int64.ofInt_mul]
theorem o64_neg (x : Int) : -Int64.ofInt x = Int64.ofInt (w64 (-x)) := by rw [o64_w, Int64.ofInt_neg]
theorem o32_div {x y : Int} (hx : r32 x) (hy : r32 y) : Int32.ofInt x / Int32.ofInt y = Int32.ofInt (w32 (x.tdiv y)) := by
  apply Int32.toInt_inj.mp
  rw [Int32.toInt_div, o32_t hx, o32_t hy, o32_w, Int32.toInt_ofInt]
theorem o64_div {x y : Int} (hx : r64 x) (hy : r64 y) : Int64.ofInt x / Int64.ofInt y = Int64.ofInt (w64 (x.tdiv y)) := by
  apply Int64.toInt_inj.mp
  rw [Int64.toInt_div, o64_t hx, o64_t hy, o64_w, Int64.toInt_ofInt]
theorem o32_rem {x y : Int} (hx : r32 x) (hy : r32 y) : Int32.ofInt x - Int32.ofInt x / Int32.ofInt y * Int32.ofInt y = Int32.ofInt (x.tmod y) := by
  apply Int32.toInt_inj.mp
  rw [rem_toInt, o32_t hx, o32_t hy, Int32.toInt_ofInt]
  have h1 : ((x.tmod y).natAbs : Int) ≤ x.natAbs := by
    rw [Int.natAbs_tmod]
    exact_mod_cast Nat.mod_le _ _
  have h0 : 0 ≤ x → 0 ≤ x.tmod y := fun h => Int.tmod_nonneg y h
  have h2 : x ≤ 0 → x.tmod y ≤ 0 := fun h => by
    have := Int.tmod_nonneg (a := -x) y (by omega)
    rw [Int.neg_tmod] at this
    omega
  obtain ⟨a1, a2⟩ := hx
  symm
  apply w32_of <;> omega
theorem tmod_r32 {x : Int} (hx : r32 x) (y : Int) : r32 (x.tmod y) := by
  have h1 : ((x.tmod y).natAbs : Int) ≤ x.natAbs := by
    rw [Int.natAbs_tmod]
    exact_mod_cast Nat.mod_le _ _
  have h0 : 0 ≤ x → 0 ≤ x.tmod y := fun h => Int.tmod_nonneg y h
  have h2 : x ≤ 0 → x.tmod y ≤ 0 := fun h => by
    have := Int.tmod_nonneg (a := -x) y (by omega)
    rw [Int.neg_tmod] at this
    omega
  obtain ⟨a1, a2⟩ := hx
  constructor <;> omega
theorem o32_l2i {x : Int} (hx : r64 x) : (Int64.ofInt x).toInt32 = Int32.ofInt (w32 x) := by
  apply Int32.toInt_inj.mp
  rw [Int64.toInt_toInt32, o64_t hx, o32_w, Int32.toInt_ofInt]
theorem o64_i2l {x : Int} (hx : r32 x) : (Int32.ofInt x).toInt64 = Int64.ofInt x := by
  apply Int64.toInt_inj.mp
  rw [Int32.toInt_toInt64, o32_t hx, o64_t ⟨by have := hx.1; omega, by have := hx.2; omega⟩]
theorem r64_of {x : Int} (hx : r32 x) : r64 x := ⟨by have := hx.1; omega, by have := hx.2; omega⟩
theorem o32_i2b {x : Int} (hx : r32 x) : (Int32.ofInt x).toInt8.toInt32 = Int32.ofInt (w8 x) := by
  apply Int32.toInt_inj.mp
  have := w8_in x
  rw [Int8.toInt_toInt32, Int32.toInt_toInt8, o32_t hx, o32_t ⟨by omega, by omega⟩]
  rfl
theorem o32_i2s {x : Int} (hx : r32 x) : (Int32.ofInt x).toInt16.toInt32 = Int32.ofInt (w16 x) := by
  apply Int32.toInt_inj.mp
  have := w16_in x
  rw [Int16.toInt_toInt32, Int32.toInt_toInt16, o32_t hx, o32_t ⟨by omega, by omega⟩]
  rfl
