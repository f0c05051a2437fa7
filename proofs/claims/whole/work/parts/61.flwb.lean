section
/-! flows: ways -/
def wF (ν : aW) (f : Int → Int) (t p n : Int) : Prop := 0 ≤ p ∧ p < ν 96 6 ∧ (wC ν f p n ∧ wDs ν f t n = wDs ν f t (wO ν p n) + ν 103 p) ∧ ∀ q, 0 ≤ q → q < p → ¬ (wC ν f q n ∧ wDs ν f t n = wDs ν f t (wO ν q n) + ν 103 q)
theorem wF_u {ν : aW} {f : Int → Int} {t p q n : Int} (h : wF ν f t p n) (g : wF ν f t q n) : p = q := by
  obtain ⟨h1, h2, h3, h4⟩ := h
  obtain ⟨g1, g2, g3, g4⟩ := g
  apply Classical.byContradiction
  intro hne
  by_cases e : p < q
  · exact g4 p h1 e h3
  · exact h4 q g1 (by omega) g3
noncomputable def wP (ν : aW) (f : Int → Int) (t n : Int) : Int := Classical.epsilon (fun p => wF ν f t p n)
theorem wP_u {ν : aW} {f : Int → Int} {t p n : Int} (h : wF ν f t p n) : p = wP ν f t n := wF_u h (Classical.epsilon_spec (p := fun p => wF ν f t p n) ⟨p, h⟩)
theorem wP_ok {ν : aW} {f : Int → Int} {t n : Int} (hN : wN ν) (t0 : 0 ≤ t) (t1 : t < ν 96 5) (n0 : 0 ≤ n) (n1 : n < ν 96 5) (hf : wDs ν f t n < 1000000) (hne : n ≠ t) : wF ν f t (wP ν f t n) n := by
  have hD := wDs_ok (f := f) hN t0 t1
  apply Classical.epsilon_spec (p := fun p => wF ν f t p n)
  rcases hD.1.2.2 n n0 n1 hf with z | ⟨p, p0, p1, pc, pl⟩
  · exact absurd z hne
  · have hx : ∃ q, 0 ≤ q ∧ q < ν 96 6 ∧ (wC ν f q n ∧ wDs ν f t n = wDs ν f t (wO ν q n) + ν 103 q) := ⟨p, p0, p1, pc, by have := hD.2 p n p0 p1 pc; omega⟩
    obtain ⟨q, q0, q1, qp, qm⟩ := least (E := fun q => q) (fun _ h _ => h) hx
    exact ⟨q, q0, q1, qp, fun r r0 r1 rp => by have := qm r r0 (by omega) rp; omega⟩
noncomputable def wV (ν : aW) (f : Int → Int) (t : Int) : Nat → Int
  | 0 => 0
  | i + 1 => wO ν (wP ν f t (wV ν f t i)) (wV ν f t i)
/-- how many nodes are nearer -/
def wB (N : Int) (D : Int → Int) (x : Int) : Int := sI (fun n => bi (D n < D x)) N.toNat
theorem wB_lt {N : Int} {D : Int → Int} {x y : Int} (y0 : 0 ≤ y) (y1 : y < N) (h : D y < D x) : wB N D y + 1 ≤ wB N D x := by
  have := (sI_lt (f := fun n => bi (D n < D y)) (g := fun n => bi (D n < D x)) (n := N.toNat) (fun k k0 k1 => by
    unfold bi
    split <;> split <;> omega)).2 ⟨y, y0, by omega, by
    show bi (D y < D y) < bi (D y < D x)
    unfold bi
    rw [if_neg (by omega), if_pos h]
    decide⟩
  unfold wB
  omega
theorem wB_b {N : Int} {D : Int → Int} {x : Int} (x0 : 0 ≤ x) (x1 : x < N) : 0 ≤ wB N D x ∧ wB N D x ≤ N - 1 := by
  have h2 := sI_b (f := fun n => bi (D n < D x)) (B := 1) (n := N.toNat) (fun i i0 i1 => bi_le)
  have h := (sI_lt (f := fun n => bi (D n < D x)) (g := fun _ => 1) (n := N.toNat) (fun i i0 i1 => bi_le.2)).2 ⟨x, x0, by omega, by
    show bi (D x < D x) < 1
    unfold bi
    rw [if_neg (by omega)]
    decide⟩
  rw [sI_1] at h
  unfold wB
  omega
theorem wV_ok {ν : aW} {f : Int → Int} {t : Int} (hN : wN ν) (t0 : 0 ≤ t) (t1 : t < ν 96 5) (hf : wDs ν f t 0 < 1000000) : ∀ i : Nat, (∀ j, j < i → wV ν f t j ≠ t) → 0 ≤ wV ν f t i ∧ wV ν f t i < ν 96 5 ∧ wDs ν f t (wV ν f t i) < 1000000 ∧ wB (ν 96 5) (wDs ν f t) (wV ν f t i) + i ≤ ν 96 5 - 1
  | 0, _ => by
    have hn := hN.1
    have := wB_b (N := ν 96 5) (D := wDs ν f t) (x := 0) (by omega) (by omega)
    refine ⟨Int.le_refl 0, by show (0 : Int) < ν 96 5; omega, hf, ?_⟩
    show wB (ν 96 5) (wDs ν f t) 0 + ((0 : Nat) : Int) ≤ _
    omega
  | i + 1, h => by
    obtain ⟨a1, a2, a3, a4⟩ := wV_ok hN t0 t1 hf i (fun j hj => h j (by omega))
    obtain ⟨b1, b2, b3, b4⟩ := wP_ok hN t0 t1 a1 a2 a3 (h i (by omega))
    have ho := wO_r hN (n := wV ν f t i) b1 b2
    have hp := hN.2.2.2.2 _ b1 b2
    have hl := wB_lt (N := ν 96 5) (D := wDs ν f t) (x := wV ν f t i) (y := wO ν (wP ν f t (wV ν f t i)) (wV ν f t i)) ho.1 ho.2 (by omega)
    show 0 ≤ wO ν (wP ν f t (wV ν f t i)) (wV ν f t i) ∧ wO ν (wP ν f t (wV ν f t i)) (wV ν f t i) < ν 96 5 ∧ wDs ν f t (wO ν (wP ν f t (wV ν f t i)) (wV ν f t i)) < 1000000 ∧ wB (ν 96 5) (wDs ν f t) (wO ν (wP ν f t (wV ν f t i)) (wV ν f t i)) + ((i + 1 : Nat) : Int) ≤ ν 96 5 - 1
    exact ⟨ho.1, ho.2, by omega, by omega⟩
/-- the number of pipes of the way -/
def wE (ν : aW) (f : Int → Int) (t : Int) (k : Nat) : Prop := wV ν f t k = t ∧ ∀ j, j < k → wV ν f t j ≠ t
theorem wE_u {ν : aW} {f : Int → Int} {t : Int} {j k : Nat} (h : wE ν f t j) (g : wE ν f t k) : j = k := by
  apply Classical.byContradiction
  intro hne
  by_cases e : j < k
  · exact g.2 j e h.1
  · exact h.2 k (by omega) g.1
noncomputable def wK (ν : aW) (f : Int → Int) (t : Int) : Nat := Classical.epsilon (wE ν f t)
theorem wK_u {ν : aW} {f : Int → Int} {t : Int} {k : Nat} (h : wE ν f t k) : k = wK ν f t := wE_u h (Classical.epsilon_spec (p := wE ν f t) ⟨k, h⟩)
theorem wK_ok {ν : aW} {f : Int → Int} {t : Int} (hN : wN ν) (t0 : 0 ≤ t) (t1 : t < ν 96 5) (hf : wDs ν f t 0 < 1000000) : wE ν f t (wK ν f t) := by
  apply Classical.epsilon_spec (p := wE ν f t)
  apply Classical.byContradiction
  intro hx
  have key : ∀ i : Nat, ∀ j, j < i → wV ν f t j ≠ t := by
    intro i
    induction i with
    | zero => exact fun j hj => absurd hj (by omega)
    | succ i ih =>
      intro j hj
      by_cases e : j = i
      · subst e
        exact fun z => hx ⟨j, z, ih⟩
      · exact ih j (by omega)
  have a := wV_ok hN t0 t1 hf 12 (key 12)
  have := wB_b (D := wDs ν f t) a.1 a.2.1
  have := hN.2.1
  omega
theorem wK_b {ν : aW} {f : Int → Int} {t : Int} (hN : wN ν) (t0 : 0 ≤ t) (t1 : t < ν 96 5) (hf : wDs ν f t 0 < 1000000) : wK ν f t ≤ 11 := by
  have h := wK_ok hN t0 t1 hf
  have a := wV_ok hN t0 t1 hf _ h.2
  have := wB_b (D := wDs ν f t) a.1 a.2.1
  have := hN.2.1
  omega
/-- the i-th pipe of the way -/
noncomputable def wI (ν : aW) (f : Int → Int) (t : Int) (i : Nat) : Int := wP ν f t (wV ν f t i)
theorem wI_ok {ν : aW} {f : Int → Int} {t : Int} (hN : wN ν) (t0 : 0 ≤ t) (t1 : t < ν 96 5) (hf : wDs ν f t 0 < 1000000) {i : Nat} (hi : i < wK ν f t) : wF ν f t (wI ν f t i) (wV ν f t i) ∧ wV ν f t (i + 1) = wO ν (wI ν f t i) (wV ν f t i) ∧ wDs ν f t (wV ν f t (i + 1)) < wDs ν f t (wV ν f t i) := by
  have h := wK_ok hN t0 t1 hf
  have a := wV_ok hN t0 t1 hf i (fun j hj => h.2 j (by omega))
  have b := wP_ok hN t0 t1 a.1 a.2.1 a.2.2.1 (h.2 i hi)
  have hp := hN.2.2.2.2 _ b.1 b.2.1
  have e := b.2.2.1.2
  refine ⟨b, rfl, ?_⟩
  show wDs ν f t (wO ν (wP ν f t (wV ν f t i)) (wV ν f t i)) < _
  omega
theorem wV_dec {ν : aW} {f : Int → Int} {t : Int} (hN : wN ν) (t0 : 0 ≤ t) (t1 : t < ν 96 5) (hf : wDs ν f t 0 < 1000000) {i : Nat} : ∀ j : Nat, i + j + 1 ≤ wK ν f t → wDs ν f t (wV ν f t (i + j + 1)) < wDs ν f t (wV ν f t i)
  | 0, h => (wI_ok hN t0 t1 hf (i := i) (by omega)).2.2
  | j + 1, h => by
    have a := wV_dec hN t0 t1 hf (i := i) j (by omega)
    have b := (wI_ok hN t0 t1 hf (i := i + j + 1) (by omega)).2.2
    show wDs ν f t (wV ν f t (i + j + 1 + 1)) < _
    omega
theorem wI_ne {ν : aW} {f : Int → Int} {t : Int} (hN : wN ν) (t0 : 0 ≤ t) (t1 : t < ν 96 5) (hf : wDs ν f t 0 < 1000000) {i j : Nat} (hij : i < j) (hj : j < wK ν f t) : wI ν f t i ≠ wI ν f t j := by
  intro e
  obtain ⟨a1, a2, a3⟩ := wI_ok hN t0 t1 hf (i := i) (by omega)
  obtain ⟨b1, b2, b3⟩ := wI_ok hN t0 t1 hf hj
  have hp := hN.2.2.2.2 _ a1.1 a1.2.1
  have d1 := wV_dec hN t0 t1 hf (i := i) (j - i - 1) (by omega)
  rw [show i + (j - i - 1) + 1 = j by omega] at d1
  have d2 := b3
  have ca := a1.2.2.1.1.2
  have cb := b1.2.2.1.1.2
  rw [← e] at cb b2
  unfold wO at a2 b2
  have n1 : wV ν f t i ≠ wV ν f t j := fun z => by rw [z] at d1; omega
  have n2 : wV ν f t i ≠ wV ν f t (j + 1) := fun z => by rw [z] at d1; omega
  split at b2 <;> omega
/-- the units that the way takes -/
noncomputable def wM (ν : aW) (f : Int → Int) (t l : Int) : Nat → Int
  | 0 => l
  | i + 1 => min (wM ν f t l i) (wRm ν f (wI ν f t i))
theorem wM_b {ν : aW} {f : Int → Int} {t l : Int} (hN : wN ν) (t0 : 0 ≤ t) (t1 : t < ν 96 5) (hf : wDs ν f t 0 < 1000000) (hl : 1 ≤ l) : ∀ i : Nat, i ≤ wK ν f t → 1 ≤ wM ν f t l i ∧ wM ν f t l i ≤ l ∧ (∀ j, j < i → wM ν f t l i ≤ wRm ν f (wI ν f t j)) ∧ (wM ν f t l i = l ∨ ∃ j, j < i ∧ wM ν f t l i = wRm ν f (wI ν f t j))
  | 0, _ => ⟨hl, Int.le_refl _, fun j hj => by omega, Or.inl rfl⟩
  | i + 1, h => by
    obtain ⟨a1, a2, a3, a4⟩ := wM_b hN t0 t1 hf hl i (by omega)
    have b := (wI_ok hN t0 t1 hf (i := i) (by omega)).1.2.2.1.1.1
    have e : wM ν f t l (i + 1) = min (wM ν f t l i) (wRm ν f (wI ν f t i)) := rfl
    rw [e]
    refine ⟨by omega, by omega, fun j hj => ?_, ?_⟩
    · by_cases z : j = i
      · subst z
        omega
      · have := a3 j (by omega)
        omega
    · by_cases z : wM ν f t l i ≤ wRm ν f (wI ν f t i)
      · rw [show min (wM ν f t l i) (wRm ν f (wI ν f t i)) = wM ν f t l i by omega]
        rcases a4 with y | ⟨j, j1, j2⟩
        · exact Or.inl y
        · exact Or.inr ⟨j, by omega, j2⟩
      · exact Or.inr ⟨i, by omega, by omega⟩
/-- the flow when i pipes of the way have been taken -/
noncomputable def wL (ν : aW) (f : Int → Int) (t u : Int) : Nat → Int → Int
  | 0 => f
  | i + 1 => fu (wL ν f t u i) (wI ν f t i) (wL ν f t u i (wI ν f t i) + (if ¬ ν 101 (wI ν f t i) = wV ν f t i then -u else u))
noncomputable def wT (ν : aW) (f : Int → Int) (t u : Int) (q : Int → Int) : Nat → Int → Int
  | 0 => q
  | i + 1 => fu (wT ν f t u q i) (wI ν f t i) (wT ν f t u q i (wI ν f t i) + u)
theorem wL_off {ν : aW} {f : Int → Int} {t u p : Int} : ∀ i : Nat, (∀ j, j < i → wI ν f t j ≠ p) → wL ν f t u i p = f p
  | 0, _ => rfl
  | i + 1, h => by
    have e : wL ν f t u (i + 1) p = fu (wL ν f t u i) (wI ν f t i) (wL ν f t u i (wI ν f t i) + (if ¬ ν 101 (wI ν f t i) = wV ν f t i then -u else u)) p := rfl
    rw [e, fu_n (fun z => h i (by omega) z.symm)]
    exact wL_off i (fun j hj => h j (by omega))
theorem wL_new {ν : aW} {f : Int → Int} {t u : Int} (hN : wN ν) (t0 : 0 ≤ t) (t1 : t < ν 96 5) (hf : wDs ν f t 0 < 1000000) {i : Nat} (hi : i < wK ν f t) : wL ν f t u i (wI ν f t i) = f (wI ν f t i) := wL_off i (fun j hj => wI_ne hN t0 t1 hf hj hi)
/-- how the flow in a pipe and its room change -/
theorem wL_rm {ν : aW} {f : Int → Int} {t u : Int} (hN : wN ν) (t0 : 0 ≤ t) (t1 : t < ν 96 5) (hf : wDs ν f t 0 < 1000000) (hu : 0 ≤ u) {i : Nat} (hi : i < wK ν f t) : wRm ν (wL ν f t u (i + 1)) (wI ν f t i) = wRm ν (wL ν f t u i) (wI ν f t i) - u ∧ wRm ν (wL ν f t u i) (wI ν f t i) = wRm ν f (wI ν f t i) ∧ ∀ p, p ≠ wI ν f t i → wRm ν (wL ν f t u (i + 1)) p = wRm ν (wL ν f t u i) p := by
  have e0 := wL_new (u := u) hN t0 t1 hf hi
  obtain ⟨a1, a2, a3⟩ := wI_ok hN t0 t1 hf hi
  have hp := hN.2.2.2.2 _ a1.1 a1.2.1
  have hc := a1.2.2.1.1
  have e : wL ν f t u (i + 1) = fu (wL ν f t u i) (wI ν f t i) (wL ν f t u i (wI ν f t i) + (if ¬ ν 101 (wI ν f t i) = wV ν f t i then -u else u)) := rfl
  unfold wC at hc
  unfold wRm at hc ⊢
  refine ⟨?_, ?_, fun p hne => ?_⟩
  · rw [e, fu_s, e0]
    split at hc
    · rename_i ho
      rw [if_pos ho, if_pos ho]
      split <;> omega
    · omega
  · rw [e0]
  · rw [e, fu_n hne]
end
