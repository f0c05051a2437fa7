section
/-! the world behind the constructors -/
def ZW : ZF := [(120, 2535, (-1)), (120, 2534, 30), (120, 2511, (-1)), (120, 2510, (-1)), (120, 2509, (-1)), (120, 2508, (-1)), (120, 2507, (-1)), (120, 2506, (-1)), (120, 2505, (-1)), (120, 2504, (-1)), (120, 2503, (-1)), (120, 2502, (-1)), (120, 2501, (-1)), (120, 2500, (-1)), (120, 2499, (-1)), (120, 2498, (-1)), (120, 2497, (-1)), (120, 2496, (-1)), (96, 84, 146), (96, 82, 145), (96, 81, 144), (96, 80, 143), (96, 78, 142), (96, 77, 141), (96, 73, 140), (96, 72, 139), (96, 71, 138), (96, 70, 137), (96, 69, 136), (96, 68, 135), (96, 67, 134), (96, 65, 133), (96, 64, 132), (96, 63, 131), (96, 62, 130), (96, 61, 129), (96, 60, 128), (96, 59, 127), (96, 45, 126), (96, 41, 125), (96, 40, 124), (96, 38, (-1)), (96, 36, 123), (96, 35, 122), (96, 34, 121), (96, 33, 120), (96, 32, 119), (96, 31, 118), (96, 30, 117), (96, 29, 116), (96, 28, 115), (96, 27, 114), (96, 26, 113), (96, 25, 112), (96, 24, 111), (96, 23, 110), (96, 22, 109), (96, 21, 108), (96, 20, 107), (96, 19, 106), (96, 18, 105), (96, 17, 104), (96, 16, 103), (96, 15, 102), (96, 13, 1), (96, 11, 25), (96, 10, 8), (96, 5, 1), (96, 4, 101), (96, 3, 100), (96, 2, 99), (96, 1, 98), (97, 3, (-1)), (97, 2, (-1)), (97, 1, (-1)), (97, 0, (-1)), (0, 15, (-1)), (0, 14, 96), (0, 13, 95), (0, 12, 94), (0, 11, 90), (89, 5, 93), (89, 4, 92), (89, 3, 91), (89, 2, 0), (89, 1, 0), (89, 0, 0), (0, 10, 86), (86, 3, (-1)), (86, 2, (-1)), (86, 1, (-1)), (86, 0, (-1)), (85, 2, 89), (85, 1, 88), (85, 0, 87), (0, 9, 75), (74, 13, 85), (74, 12, 84), (74, 11, 83), (74, 10, 82), (74, 9, 81), (74, 8, 80), (74, 7, 79), (74, 6, 78), (74, 5, 77), (74, 4, 76), (74, 3, (-1)), (74, 2, 30), (74, 1, 0), (74, 0, 0), (0, 8, 64), (63, 13, 74), (63, 12, 73), (63, 11, 72), (63, 10, 71), (63, 9, 70), (63, 8, 69), (63, 7, 68), (63, 6, 67), (63, 5, 66), (63, 4, 65), (63, 3, (-1)), (63, 2, 30), (63, 1, 0), (63, 0, 0), (0, 7, 57), (56, 7, 52), (56, 6, 46), (56, 5, 44), (56, 4, 26), (56, 3, 17), (56, 2, 2), (56, 13, 63), (56, 12, 62), (56, 11, 61), (56, 10, 60), (56, 9, 59), (56, 8, 58), (56, 1, 25), (56, 0, 8), (0, 6, 52), (51, 6, 46), (51, 9, 56), (51, 8, 55), (51, 7, 54), (51, 5, 0), (51, 4, 53), (51, 3, 0), (51, 2, 0), (51, 1, 1), (51, 0, 0), (0, 5, 46), (45, 8, 51), (45, 7, 50), (45, 6, 49), (45, 5, 0), (45, 4, 0), (45, 3, 0), (45, 2, 47), (46, 2, 0), (46, 1, 0), (46, 0, 48), (45, 1, 0), (45, 0, 0), (0, 4, 44), (43, 2, 0), (43, 1, 0), (43, 0, 45), (0, 3, 33), (32, 5, 26), (32, 7, 0), (32, 6, 37), (36, 7, 43), (36, 6, 42), (36, 5, 41), (36, 4, 40), (36, 3, 39), (36, 2, 0), (36, 1, 38), (36, 0, 0), (32, 4, 36), (32, 3, 35), (32, 2, 34), (32, 1, (-1)), (32, 0, 0), (0, 2, 26), (25, 7, 32), (25, 6, 31), (25, 5, 30), (25, 4, 29), (25, 3, 28), (25, 2, 0), (25, 1, 27), (25, 0, 0), (0, 1, 17), (16, 4, 2), (16, 11, 0), (16, 10, 0), (16, 9, (-1)), (16, 8, 25), (16, 7, 24), (16, 6, 23), (16, 5, 22), (16, 3, 21), (16, 2, 20), (16, 1, 19), (16, 0, 18), (0, 0, 2), (1, 18, 16), (1, 17, 15), (1, 16, 14), (1, 15, 0), (1, 14, 13), (1, 13, 12), (1, 12, 11), (1, 11, 10), (1, 10, 9), (1, 9, 8), (1, 8, 7), (1, 7, 6), (1, 6, 5), (1, 5, 4), (1, 4, 3), (1, 3, 0), (1, 2, 0), (1, 1, 0), (1, 0, 1)]
def Zve : aV → aV → Bool
  | .inl x, .inl y => ZB x y
  | .inr (.inl x), .inr (.inl y) => ZB x y
  | .inr (.inr (some k)), .inr (.inr (some m)) => Nat.beq k m
  | .inr (.inr none), .inr (.inr none) => true
  | _, _ => false
theorem Zve_e : ∀ {a b : aV}, Zve a b = true → a = b
  | .inl x, .inl y, h => by
    have h : decide (x = y) = true := h
    rw [of_decide_eq_true h]
  | .inr (.inl x), .inr (.inl y), h => by
    have h : decide (x = y) = true := h
    rw [of_decide_eq_true h]
  | .inr (.inr (some k)), .inr (.inr (some m)), h => by
    have h : Nat.beq k m = true := h
    rw [Nat.eq_of_beq_eq_true h]
  | .inr (.inr none), .inr (.inr none), _ => rfl
  | .inl _, .inr _, h => by cases h
  | .inr (.inl _), .inl _, h => by cases h
  | .inr (.inr none), .inl _, h => by cases h
  | .inr (.inr (some _)), .inl _, h => by cases h
  | .inr (.inl _), .inr (.inr _), h => by cases h
  | .inr (.inr none), .inr (.inl _), h => by cases h
  | .inr (.inr (some _)), .inr (.inl _), h => by cases h
  | .inr (.inr (some _)), .inr (.inr none), h => by cases h
  | .inr (.inr none), .inr (.inr (some _)), h => by cases h
def Zle : List aV → List aV → Bool
  | [], [] => true
  | a :: l, b :: m => Zve a b && Zle l m
  | _, _ => false
theorem Zle_e : ∀ {l m : List aV}, Zle l m = true → l = m
  | [], [], _ => rfl
  | a :: l, b :: m, h => by
    have h : (Zve a b && Zle l m) = true := h
    rw [Bool.and_eq_true] at h
    rw [Zve_e h.1, Zle_e h.2]
  | [], _ :: _, h => by cases h
  | _ :: _, [], h => by cases h
def Zfe : ZF → ZF → Bool
  | [], [] => true
  | a :: l, b :: m => (Nat.beq a.1 b.1 && (ZB a.2.1 b.2.1 && ZB a.2.2 b.2.2)) && Zfe l m
  | _, _ => false
theorem Zfe_e : ∀ {l m : ZF}, Zfe l m = true → l = m
  | [], [], _ => rfl
  | (a1, a2, a3) :: l, (b1, b2, b3) :: m, h => by
    have h : ((Nat.beq a1 b1 && (decide (a2 = b2) && decide (a3 = b3))) && Zfe l m) = true := h
    rw [Bool.and_eq_true, Bool.and_eq_true, Bool.and_eq_true, decide_eq_true_eq, decide_eq_true_eq] at h
    obtain ⟨⟨h1, h2, h3⟩, h4⟩ := h
    rw [Nat.eq_of_beq_eq_true h1, h2, h3, Zfe_e h4]
  | [], _ :: _, h => by cases h
  | _ :: _, [], h => by cases h
def Zoe (a : Option (List aV × List aV × ZT)) (l m : List aV) (n s : Nat) (F : ZF) : Bool := match a with
  | none => false
  | some q => Zle q.1 l && (Zle q.2.1 m && (Nat.beq q.2.2.1 n && (Nat.beq q.2.2.2.1 s && Zfe q.2.2.2.2 F)))
theorem Zoe_e {a : Option (List aV × List aV × ZT)} {l m : List aV} {n s : Nat} {F : ZF} (h : Zoe a l m n s F = true) : a = some (l, m, (n, s, F)) := by
  cases a with
  | none => cases h
  | some q =>
    obtain ⟨q1, q2, q3, q4, q5⟩ := q
    have h : (Zle q1 l && (Zle q2 m && (Nat.beq q3 n && (Nat.beq q4 s && Zfe q5 F)))) = true := h
    rw [Bool.and_eq_true, Bool.and_eq_true, Bool.and_eq_true, Bool.and_eq_true] at h
    obtain ⟨h1, h2, h3, h4, h5⟩ := h
    rw [Zle_e h1, Zle_e h2, Nat.eq_of_beq_eq_true h3, Nat.eq_of_beq_eq_true h4, Zfe_e h5]
set_option maxRecDepth 1000000 in
theorem Z_runb : Zoe (ZTo 20 60 (146, 30052) 276 18 0 [vr 1200, vt, vt, vt] [] (0, 0, [])) [vr 1200, vr 0, vr 96, vi 0] [] 146 30052 ZW = true := by decide +kernel
theorem Z_run : ZTo 20 60 (146, 30052) 276 18 0 [vr 1200, vt, vt, vt] [] (0, 0, []) = some ([vr 1200, vr 0, vr 96, vi 0], [], (146, 30052, ZW)) := Zoe_e Z_runb
end
