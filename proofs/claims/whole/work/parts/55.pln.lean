section
/-! least cost over a row of hours -/
def pv (c R : Int → Int) : Nat → Int
  | 0 => -1
  | n + 1 => if 0 ≤ c n ∧ 0 ≤ R n ∧ (pv c R n < 0 ∨ c n + R n < pv c R n) then c n + R n else pv c R n
def pc (c R : Int → Int) : Nat → Int
  | 0 => 0
  | n + 1 => if 0 ≤ c n ∧ 0 ≤ R n ∧ (pv c R n < 0 ∨ c n + R n < pv c R n) then n else pc c R n
theorem pv_s {c R : Int → Int} {i : Int} (h : 0 ≤ i) : pv c R (i + 1).toNat = if 0 ≤ c i ∧ 0 ≤ R i ∧ (pv c R i.toNat < 0 ∨ c i + R i < pv c R i.toNat) then c i + R i else pv c R i.toNat := by
  have e : (i + 1).toNat = i.toNat + 1 := by omega
  have e2 : ((i.toNat : Nat) : Int) = i := by omega
  rw [e]
  show (if 0 ≤ c (i.toNat : Nat) ∧ 0 ≤ R (i.toNat : Nat) ∧ (pv c R i.toNat < 0 ∨ c (i.toNat : Nat) + R (i.toNat : Nat) < pv c R i.toNat) then c (i.toNat : Nat) + R (i.toNat : Nat) else pv c R i.toNat) = _
  rw [e2]
theorem pc_s {c R : Int → Int} {i : Int} (h : 0 ≤ i) : pc c R (i + 1).toNat = if 0 ≤ c i ∧ 0 ≤ R i ∧ (pv c R i.toNat < 0 ∨ c i + R i < pv c R i.toNat) then i else pc c R i.toNat := by
  have e : (i + 1).toNat = i.toNat + 1 := by omega
  have e2 : ((i.toNat : Nat) : Int) = i := by omega
  rw [e]
  show (if 0 ≤ c (i.toNat : Nat) ∧ 0 ≤ R (i.toNat : Nat) ∧ (pv c R i.toNat < 0 ∨ c (i.toNat : Nat) + R (i.toNat : Nat) < pv c R i.toNat) then ((i.toNat : Nat) : Int) else pc c R i.toNat) = _
  rw [e2]
theorem pv_b {c R : Int → Int} {B : Int} (hB : 0 ≤ B) : ∀ {n : Nat}, (∀ i : Int, 0 ≤ i → i < n → c i ≤ 1000000 ∧ R i ≤ B) → -1 ≤ pv c R n ∧ pv c R n ≤ 1000000 + B
  | 0, _ => by
    show -1 ≤ (-1 : Int) ∧ (-1 : Int) ≤ 1000000 + B
    omega
  | n + 1, h => by
    have ih := pv_b hB (n := n) (fun i i0 i1 => h i i0 (by omega))
    have hn := h n (by omega) (by omega)
    have ev : pv c R (n + 1) = if 0 ≤ c n ∧ 0 ≤ R n ∧ (pv c R n < 0 ∨ c n + R n < pv c R n) then c n + R n else pv c R n := rfl
    rw [ev]
    by_cases z : 0 ≤ c n ∧ 0 ≤ R n ∧ (pv c R n < 0 ∨ c n + R n < pv c R n)
    · rw [if_pos z]
      omega
    · rw [if_neg z]
      omega
theorem pc_b {c R : Int → Int} : ∀ {n : Nat}, 0 ≤ pc c R n ∧ (pc c R n < n ∨ pc c R n = 0)
  | 0 => by
    show 0 ≤ (0 : Int) ∧ ((0 : Int) < 0 ∨ (0 : Int) = 0)
    omega
  | n + 1 => by
    have ih := pc_b (c := c) (R := R) (n := n)
    have ec : pc c R (n + 1) = if 0 ≤ c n ∧ 0 ≤ R n ∧ (pv c R n < 0 ∨ c n + R n < pv c R n) then (n : Int) else pc c R n := rfl
    rw [ec]
    by_cases z : 0 ≤ c n ∧ 0 ≤ R n ∧ (pv c R n < 0 ∨ c n + R n < pv c R n)
    · rw [if_pos z]
      omega
    · rw [if_neg z]
      omega
theorem pv_m {c R : Int → Int} : ∀ {n : Nat}, (∀ i : Int, 0 ≤ i → i < n → 0 ≤ c i → 0 ≤ R i → 0 ≤ pv c R n ∧ pv c R n ≤ c i + R i) ∧ (0 ≤ pv c R n → 0 ≤ c (pc c R n) ∧ 0 ≤ R (pc c R n) ∧ c (pc c R n) + R (pc c R n) = pv c R n ∧ pc c R n < n ∧ ∀ i : Int, 0 ≤ i → i < pc c R n → 0 ≤ c i → 0 ≤ R i → ¬ c i + R i = pv c R n)
  | 0 => ⟨fun i i0 i1 => by omega, fun z => absurd z (by show ¬ (0 : Int) ≤ -1; omega)⟩
  | n + 1 => by
    obtain ⟨iA, iB⟩ := pv_m (c := c) (R := R) (n := n)
    show (∀ i : Int, 0 ≤ i → i < ((n + 1 : Nat) : Int) → 0 ≤ c i → 0 ≤ R i → 0 ≤ (if 0 ≤ c n ∧ 0 ≤ R n ∧ (pv c R n < 0 ∨ c n + R n < pv c R n) then c n + R n else pv c R n) ∧ (if 0 ≤ c n ∧ 0 ≤ R n ∧ (pv c R n < 0 ∨ c n + R n < pv c R n) then c n + R n else pv c R n) ≤ c i + R i) ∧ _
    have ev : pv c R (n + 1) = if 0 ≤ c n ∧ 0 ≤ R n ∧ (pv c R n < 0 ∨ c n + R n < pv c R n) then c n + R n else pv c R n := rfl
    have ec : pc c R (n + 1) = if 0 ≤ c n ∧ 0 ≤ R n ∧ (pv c R n < 0 ∨ c n + R n < pv c R n) then (n : Int) else pc c R n := rfl
    rw [ev, ec]
    by_cases h : 0 ≤ c n ∧ 0 ≤ R n ∧ (pv c R n < 0 ∨ c n + R n < pv c R n)
    · simp only [if_pos h]
      refine ⟨fun i i0 i1 a b => ?_, fun _ => ⟨h.1, h.2.1, trivial, by omega, fun i i0 i1 a b => ?_⟩⟩
      · by_cases e : i = n
        · subst e
          omega
        · have := iA i i0 (by omega) a b
          omega
      · have := iA i i0 (by omega) a b
        omega
    · simp only [if_neg h]
      refine ⟨fun i i0 i1 a b => ?_, fun z => ?_⟩
      · by_cases e : i = n
        · subst e
          omega
        · exact iA i i0 (by omega) a b
      · obtain ⟨z1, z2, z3, z4, z5⟩ := iB z
        exact ⟨z1, z2, z3, by omega, z5⟩
def pB (c : Int → Int → Int → Int) (T n : Int) : Nat → Int → Int
  | 0, _ => 0
  | j + 1, l => pv (c (n - 1 - j) l) (pB c T n j) T.toNat
/-- the least cost from hour k on, at a level; -1: there is none -/
def PV (c : Int → Int → Int → Int) (T n k l : Int) : Int := pB c T n (n - k).toNat l
theorem PV_n {c : Int → Int → Int → Int} {T n l : Int} : PV c T n n l = 0 := by
  unfold PV
  rw [Int.sub_self]
  rfl
theorem PV_k {c : Int → Int → Int → Int} {T n k l : Int} (h : k < n) : PV c T n k l = pv (c k l) (PV c T n (k + 1)) T.toNat := by
  unfold PV
  have e : (n - k).toNat = (n - (k + 1)).toNat + 1 := by omega
  have e2 : n - 1 - (((n - (k + 1)).toNat : Nat) : Int) = k := by omega
  rw [e]
  show pv (c (n - 1 - (((n - (k + 1)).toNat : Nat) : Int)) l) (pB c T n (n - (k + 1)).toNat) T.toNat = _
  rw [e2]
theorem PV_b {c : Int → Int → Int → Int} {T n : Int} (hc : ∀ k l i, 0 ≤ k → k < n → c k l i ≤ 1000000) : ∀ (j : Nat) (l : Int), (j : Int) ≤ n → -1 ≤ pB c T n j l ∧ pB c T n j l ≤ 1000000 * j
  | 0, _, _ => by
    show -1 ≤ (0 : Int) ∧ (0 : Int) ≤ 1000000 * 0
    omega
  | j + 1, l, h => by
    have := pv_b (c := c (n - 1 - j) l) (R := pB c T n j) (B := 1000000 * j) (by omega) (n := T.toNat) (fun i i0 i1 => ⟨hc _ _ _ (by omega) (by omega), (PV_b hc j i (by omega)).2⟩)
    show -1 ≤ pv (c (n - 1 - j) l) (pB c T n j) T.toNat ∧ pv (c (n - 1 - j) l) (pB c T n j) T.toNat ≤ _
    omega
theorem PV_r {c : Int → Int → Int → Int} {T n k l : Int} (hc : ∀ k l i, 0 ≤ k → k < n → c k l i ≤ 1000000) (h0 : 0 ≤ k) (h1 : k ≤ n) (hn : n ≤ 24) : -1 ≤ PV c T n k l ∧ PV c T n k l ≤ 24000000 := by
  have := PV_b (T := T) hc (n - k).toNat l (by omega)
  unfold PV
  omega
/-- which level comes next -/
def PC (c : Int → Int → Int → Int) (T n k l : Int) : Int := pc (c k l) (PV c T n (k + 1)) T.toNat
def pL (c : Int → Int → Int → Int) (T n l : Int) : Nat → Int
  | 0 => l
  | k + 1 => PC c T n k (pL c T n l k)
theorem pL_s {c : Int → Int → Int → Int} {T n l k : Int} (h : 0 ≤ k) : pL c T n l (k + 1).toNat = PC c T n k (pL c T n l k.toNat) := by
  have e : (k + 1).toNat = k.toNat + 1 := by omega
  have e2 : ((k.toNat : Nat) : Int) = k := by omega
  rw [e]
  show PC c T n (k.toNat : Nat) (pL c T n l k.toNat) = _
  rw [e2]
theorem PC_b {c : Int → Int → Int → Int} {T n k l : Int} (hT : 0 < T) : 0 ≤ PC c T n k l ∧ PC c T n k l < T := by
  have := pc_b (c := c k l) (R := PV c T n (k + 1)) (n := T.toNat)
  unfold PC
  omega
theorem pL_b {c : Int → Int → Int → Int} {T n l : Int} (h0 : 0 ≤ l) (h1 : l < T) : ∀ k : Nat, 0 ≤ pL c T n l k ∧ pL c T n l k < T
  | 0 => ⟨h0, h1⟩
  | k + 1 => PC_b (by omega)
/-- along the way every cost from there on is finite -/
theorem pL_v {c : Int → Int → Int → Int} {T n l : Int} (h0 : 0 ≤ l) (h1 : l < T) (h : 0 ≤ PV c T n 0 l) : ∀ k : Nat, (k : Int) ≤ n → 0 ≤ PV c T n k (pL c T n l k)
  | 0, _ => h
  | k + 1, hk => by
    have ih := pL_v h0 h1 h k (by omega)
    rw [PV_k (by omega)] at ih
    have := (pv_m.2 ih).2.1
    exact this
def pCap (v : Int) : Int := if v < 0 then 1000000000000 else v
end
