section
/-! the hour: what both sides reckon with. f flows, A B ends, L longs, U units (pipe, place) -/
def hm (f : Int → Int) (p : Int) : Int := ((f p).natAbs : Int)
def hFr (f A B : Int → Int) (p : Int) : Int := if 0 < f p then A p else B p
def hTo (f A B : Int → Int) (p : Int) : Int := if 0 < f p then B p else A p
def hTk (f L : Int → Int) (U : Int → Int → Int) (r : Prop) [Decidable r] (p : Int) : Int := sI (fun i => U p ((if r then L p - hm f p else 0) + i)) (hm f p).toNat
def hSO (f L : Int → Int) (U : Int → Int → Int) (p : Int) : Int := hTk f L U (0 < f p) p
def hSB (f L : Int → Int) (U : Int → Int → Int) (p : Int) : Int := hTk f L U (¬ 0 < f p) p
theorem sI_n (f : Int → Int) : sI f 0 = 0 := rfl
theorem hTk_0 {f L : Int → Int} {U : Int → Int → Int} {r : Prop} [Decidable r] {p : Int} (h : hm f p = 0) : hTk f L U r p = 0 := by
  unfold hTk
  rw [h]
  rfl
theorem hTk_b {f L : Int → Int} {U : Int → Int → Int} {r : Prop} [Decidable r] {p : Int} (h1 : hm f p ≤ L p) (h2 : L p ≤ 60) (hU : ∀ k, 0 ≤ k → k < L p → 0 ≤ U p k ∧ U p k ≤ 12000) : 0 ≤ hTk f L U r p ∧ hTk f L U r p ≤ 12000 * hm f p := by
  have m0 : 0 ≤ hm f p := by unfold hm; omega
  have := sI_b (f := fun i => U p ((if r then L p - hm f p else 0) + i)) (B := 12000) (n := (hm f p).toNat) (fun i i0 i1 => hU _ (by split <;> omega) (by split <;> omega))
  unfold hTk
  rw [show (((hm f p).toNat : Nat) : Int) = hm f p by omega] at this
  exact this

def hUo (s : aW) (w p k : Int) : Int := s 64 ((2 * p + w) * 60 + k)
theorem c96 {d : Nat} {Q : aQ} {s : aW} {a1 a2 a3 a4 : Int} (h1 : 0 ≤ a1) (h2 : a1 + a2 ≤ 2400) (h3 : 0 ≤ a3) (h4 : a3 ≤ a2) (h5 : a2 ≤ 60) (hU : ∀ i, 0 ≤ i → i < a2 → 0 ≤ s 64 (a1 + i) ∧ s 64 (a1 + i) ≤ 12000) (k : Q (some (vl (sI (fun i => s 64 ((if a4 = 0 then a1 else a1 + a2 - a3) + i)) a3.toNat))) (sw s 64 (if a4 = 0 then aCp (s 64) (s 64) (a1 + a3) a1 (a2 - a3) else aCp (s 64) (s 64) a1 (a1 + a3) (a2 - a3)))) : aEv (d + 1) true 96 [vr 63, vi a1, vi a2, vi a3, vi a4] s Q := by
  refine e96 (b96_0 ⟨fun _ => by omega, ?_⟩)
  have key : ∀ (m : Nat) (i : Int), 0 ≤ i → i + m = a3 → Yx (d + 1) cd96 2 Q 22 [vr 63, vi a1, vi a2, vi a3, vi a4, vi (if a4 = 0 then a1 else a1 + a2 - a3), vl (sI (fun i => s 64 ((if a4 = 0 then a1 else a1 + a2 - a3) + i)) i.toNat), vt, vi i] [] s := by
    intro m
    induction m with
    | zero =>
      intro i i0 im
      have e : i = a3 := by omega
      subst e
      refine b96_22 ⟨fun _ => ⟨fun z => ⟨by omega, by omega, by omega, ?_⟩, fun z => ⟨by omega, by omega, by omega, ?_⟩⟩, fun z => by omega⟩
      · rw [if_pos z] at k
        exact k
      · rw [if_neg z] at k
        exact k
    | succ m ih =>
      intro i i0 im
      have hb := sI_b (f := fun i => s 64 ((if a4 = 0 then a1 else a1 + a2 - a3) + i)) (B := 12000) (n := i.toNat) (fun j j0 j1 => by
        split
        · exact hU j j0 (by omega)
        · have := hU (a2 - a3 + j) (by omega) (by omega)
          rw [show a1 + (a2 - a3 + j) = a1 + a2 - a3 + j by omega] at this
          exact this)
      have hs := sI_s (f := fun i => s 64 ((if a4 = 0 then a1 else a1 + a2 - a3) + i)) i0
      have hi : 0 ≤ s 64 ((if a4 = 0 then a1 else a1 + a2 - a3) + i) ∧ s 64 ((if a4 = 0 then a1 else a1 + a2 - a3) + i) ≤ 12000 := by
        split
        · exact hU i i0 (by omega)
        · have := hU (a2 - a3 + i) (by omega) (by omega)
          rw [show a1 + (a2 - a3 + i) = a1 + a2 - a3 + i by omega] at this
          exact this
      have r : 0 ≤ (if a4 = 0 then a1 else a1 + a2 - a3) + i ∧ (if a4 = 0 then a1 else a1 + a2 - a3) + i < 2400 := by split <;> omega
      refine b96_22 ⟨fun z => by omega, fun _ => ⟨by omega, r, by omega, by omega, ?_⟩⟩
      have := ih (i + 1) (by omega) (by omega)
      rw [hs] at this
      exact this
  exact key a3.toNat 0 (Int.le_refl _) (by omega)
theorem c15x {d : Nat} {Q : aQ} {s : aW} {p : Int} (h0 : 0 ≤ p ∧ p < 20) (nz : ¬ s 17 p = 0) (k : Q (some (vi (hFr (s 17) (s 2) (s 3) p))) s) : aEv (d + 1) true 15 [vr 56, vi p, vi 0] s Q := by
  refine e15 (b15_0 ⟨h0, fun _ => by omega, h0, ?_⟩)
  unfold hFr at k
  by_cases z : s 17 p ≤ 0
  · rw [if_pos z, if_neg (by omega)]
    rw [if_neg (by omega)] at k
    exact k
  · rw [if_neg z, if_pos rfl]
    rw [if_pos (by omega)] at k
    exact k
theorem c15y {d : Nat} {Q : aQ} {s : aW} {p : Int} (h0 : 0 ≤ p ∧ p < 20) (nz : ¬ s 17 p = 0) (k : Q (some (vi (hTo (s 17) (s 2) (s 3) p))) s) : aEv (d + 1) true 15 [vr 56, vi p, vi 1] s Q := by
  refine e15 (b15_0 ⟨h0, fun _ => by omega, h0, ?_⟩)
  unfold hTo at k
  by_cases z : s 17 p ≤ 0
  · rw [if_pos z, if_pos (by omega)]
    rw [if_neg (by omega)] at k
    exact k
  · rw [if_neg z, if_neg (by omega)]
    rw [if_pos (by omega)] at k
    exact k

def hUol (s : aW) (w p k : Int) : Int := s 75 ((2 * p + w) * 60 + k)
theorem c96l {d : Nat} {Q : aQ} {s : aW} {a1 a2 a3 a4 : Int} (h1 : 0 ≤ a1) (h2 : a1 + a2 ≤ 2400) (h3 : 0 ≤ a3) (h4 : a3 ≤ a2) (h5 : a2 ≤ 60) (hU : ∀ i, 0 ≤ i → i < a2 → 0 ≤ s 75 (a1 + i) ∧ s 75 (a1 + i) ≤ 12000) (k : Q (some (vl (sI (fun i => s 75 ((if a4 = 0 then a1 else a1 + a2 - a3) + i)) a3.toNat))) (sw s 75 (if a4 = 0 then aCp (s 75) (s 75) (a1 + a3) a1 (a2 - a3) else aCp (s 75) (s 75) a1 (a1 + a3) (a2 - a3)))) : aEv (d + 1) true 96 [vr 74, vi a1, vi a2, vi a3, vi a4] s Q := by
  refine e96l (b96l_0 ⟨fun _ => by omega, ?_⟩)
  have key : ∀ (m : Nat) (i : Int), 0 ≤ i → i + m = a3 → Yx (d + 1) cd96 2 Q 22 [vr 74, vi a1, vi a2, vi a3, vi a4, vi (if a4 = 0 then a1 else a1 + a2 - a3), vl (sI (fun i => s 75 ((if a4 = 0 then a1 else a1 + a2 - a3) + i)) i.toNat), vt, vi i] [] s := by
    intro m
    induction m with
    | zero =>
      intro i i0 im
      have e : i = a3 := by omega
      subst e
      refine b96l_22 ⟨fun _ => ⟨fun z => ⟨by omega, by omega, by omega, ?_⟩, fun z => ⟨by omega, by omega, by omega, ?_⟩⟩, fun z => by omega⟩
      · rw [if_pos z] at k
        exact k
      · rw [if_neg z] at k
        exact k
    | succ m ih =>
      intro i i0 im
      have hb := sI_b (f := fun i => s 75 ((if a4 = 0 then a1 else a1 + a2 - a3) + i)) (B := 12000) (n := i.toNat) (fun j j0 j1 => by
        split
        · exact hU j j0 (by omega)
        · have := hU (a2 - a3 + j) (by omega) (by omega)
          rw [show a1 + (a2 - a3 + j) = a1 + a2 - a3 + j by omega] at this
          exact this)
      have hs := sI_s (f := fun i => s 75 ((if a4 = 0 then a1 else a1 + a2 - a3) + i)) i0
      have hi : 0 ≤ s 75 ((if a4 = 0 then a1 else a1 + a2 - a3) + i) ∧ s 75 ((if a4 = 0 then a1 else a1 + a2 - a3) + i) ≤ 12000 := by
        split
        · exact hU i i0 (by omega)
        · have := hU (a2 - a3 + i) (by omega) (by omega)
          rw [show a1 + (a2 - a3 + i) = a1 + a2 - a3 + i by omega] at this
          exact this
      have r : 0 ≤ (if a4 = 0 then a1 else a1 + a2 - a3) + i ∧ (if a4 = 0 then a1 else a1 + a2 - a3) + i < 2400 := by split <;> omega
      refine b96l_22 ⟨fun z => by omega, fun _ => ⟨by omega, r, by omega, by omega, ?_⟩⟩
      have := ih (i + 1) (by omega) (by omega)
      rw [hs] at this
      exact this
  exact key a3.toNat 0 (Int.le_refl _) (by omega)
theorem c15xl {d : Nat} {Q : aQ} {s : aW} {p : Int} (h0 : 0 ≤ p ∧ p < 20) (nz : ¬ s 17 p = 0) (k : Q (some (vi (hFr (s 17) (s 2) (s 3) p))) s) : aEv (d + 1) true 15 [vr 56, vi p, vi 0] s Q := by
  refine e15 (b15_0 ⟨h0, fun _ => by omega, h0, ?_⟩)
  unfold hFr at k
  by_cases z : s 17 p ≤ 0
  · rw [if_pos z, if_neg (by omega)]
    rw [if_neg (by omega)] at k
    exact k
  · rw [if_neg z, if_pos rfl]
    rw [if_pos (by omega)] at k
    exact k
theorem c15yl {d : Nat} {Q : aQ} {s : aW} {p : Int} (h0 : 0 ≤ p ∧ p < 20) (nz : ¬ s 17 p = 0) (k : Q (some (vi (hTo (s 17) (s 2) (s 3) p))) s) : aEv (d + 1) true 15 [vr 56, vi p, vi 1] s Q := by
  refine e15 (b15_0 ⟨h0, fun _ => by omega, h0, ?_⟩)
  unfold hTo at k
  by_cases z : s 17 p ≤ 0
  · rw [if_pos z, if_pos (by omega)]
    rw [if_neg (by omega)] at k
    exact k
  · rw [if_neg z, if_neg (by omega)]
    rw [if_pos (by omega)] at k
    exact k
end
