section
/-! the hour: what comes to a node goes from it -/
theorem hN_D {ν : aW} {f : Int → Int} {n : Int} : hNo f (ν 101) (ν 102) n (ν 96 6) - hNi f (ν 101) (ν 102) n (ν 96 6) = hDf ν f n := by
  unfold hNo hNi hDf
  have key : ∀ m : Nat, sI (fun p => if hFr f (ν 101) (ν 102) p = n then hm f p else 0) m - sI (fun p => if hTo f (ν 101) (ν 102) p = n then hm f p else 0) m = sI (fun p => f p * (bi (ν 101 p = n) - bi (ν 102 p = n))) m := by
    intro m
    induction m with
    | zero => rfl
    | succ m ih =>
      show sI _ m + (if hFr f (ν 101) (ν 102) (m : Int) = n then hm f m else 0) - (sI _ m + (if hTo f (ν 101) (ν 102) (m : Int) = n then hm f m else 0)) = sI _ m + f m * (bi (ν 101 (m : Int) = n) - bi (ν 102 (m : Int) = n))
      have t : (if hFr f (ν 101) (ν 102) (m : Int) = n then hm f m else 0) - (if hTo f (ν 101) (ν 102) (m : Int) = n then hm f m else 0) = f m * (bi (ν 101 (m : Int) = n) - bi (ν 102 (m : Int) = n)) := by
        unfold hFr hTo hm
        generalize f (m : Int) = x
        by_cases a : ν 101 (m : Int) = n
        · by_cases b : ν 102 (m : Int) = n
          · rw [bi_t a, bi_t b, show (1 : Int) - 1 = 0 from rfl, Int.mul_zero, a, b, Int.sub_self]
          · rw [bi_t a, bi_f b, Int.sub_zero, Int.mul_one]
            by_cases z : 0 < x
            · rw [if_pos z, if_pos z, if_pos a, if_neg b]
              omega
            · rw [if_neg z, if_neg z, if_neg b, if_pos a]
              omega
        · by_cases b : ν 102 (m : Int) = n
          · rw [bi_f a, bi_t b, Int.zero_sub, Int.mul_neg, Int.mul_one]
            by_cases z : 0 < x
            · rw [if_pos z, if_pos z, if_neg a, if_pos b]
              omega
            · rw [if_neg z, if_neg z, if_pos b, if_neg a]
              omega
          · rw [bi_f a, bi_f b, Int.sub_self, Int.mul_zero]
            by_cases z : 0 < x
            · rw [if_pos z, if_pos z, if_neg a, if_neg b]
              omega
            · rw [if_neg z, if_neg z, if_neg b, if_neg a]
              omega
      omega
  exact key _
theorem hN_0 {ν : aW} {f : Int → Int} (h : hP0 ν f) : hNi f (ν 101) (ν 102) 0 (ν 96 6) = 0 := by
  unfold hNi
  rw [sI_c (g := fun _ => 0) (fun p p0 p1 => ?_)]
  · have := sI_b (f := fun _ => 0) (B := 0) (n := (ν 96 6).toNat) (fun i _ _ => ⟨Int.le_refl _, Int.le_refl _⟩)
    omega
  · have q := h p p0 (by omega)
    unfold hTo hm
    by_cases z : 0 < f p
    · rw [if_pos z, if_neg (fun y => by have := q.2 y; omega)]
    · rw [if_neg z]
      by_cases y : ν 101 p = 0
      · rw [if_pos y]
        have := q.1 y
        omega
      · rw [if_neg y]
/-- both sides count the same units at a node -/
theorem hN_e {σ : aW} {a dr n : Int} (hN : INet σ) (nz : ¬ n = 0) : hNi (wRes σ a dr).1 (σ 101) (σ 102) n (σ 96 6) = hNo (wRes σ a dr).1 (σ 101) (σ 102) n (σ 96 6) + hHs (fN σ) (wRes σ a dr).2.1 (σ 96 7) n := by
  have d := (wRes_D (a := a) (dr := dr) hN).1 n nz
  have e := hN_D (ν := fN σ) (f := (wRes σ a dr).1) (n := n)
  rw [fN_k (k := 101) (by omega), fN_k (k := 102) (by omega), fN_6] at e
  omega
end
