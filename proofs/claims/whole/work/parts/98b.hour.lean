section
/-! the hour: what both sides reckon with. f flows, A B ends, L longs, U units (pipe, place) -/
def hm (f : Int → Int) (p : Int) : Int := ((f p).natAbs : Int)
def hFr (f A B : Int → Int) (p : Int) : Int := if 0 < f p then A p else B p
def hTo (f A B : Int → Int) (p : Int) : Int := if 0 < f p then B p else A p
def hTk (f L : Int → Int) (U : Int → Int → Int) (r : Prop) [Decidable r] (p : Int) : Int := sI (fun i => U p ((if r then L p - hm f p else 0) + i)) (hm f p).toNat
def hSO (f L : Int → Int) (U : Int → Int → Int) (p : Int) : Int := hTk f L U (0 < f p) p
def hSB (f L : Int → Int) (U : Int → Int → Int) (p : Int) : Int := hTk f L U (¬ 0 < f p) p
theorem sI_n (f : Int → Int) : sI f 0 = 0 := rfl
theorem hTk_0 {f L : Int → Int} {U : Int → Int → Int} {r : Prop} [Decidable r] {p : Int} (h : hm f p = 0) : hTk f L U r p = 0 := by
  unfold hTk
  rw [h]
  rfl
theorem hTk_b {f L : Int → Int} {U : Int → Int → Int} {r : Prop} [Decidable r] {p : Int} (h1 : hm f p ≤ L p) (h2 : L p ≤ 60) (hU : ∀ k, 0 ≤ k → k < L p → 0 ≤ U p k ∧ U p k ≤ 12000) : 0 ≤ hTk f L U r p ∧ hTk f L U r p ≤ 12000 * hm f p := by
  have m0 : 0 ≤ hm f p := by unfold hm; omega
  have := sI_b (f := fun i => U p ((if r then L p - hm f p else 0) + i)) (B := 12000) (n := (hm f p).toNat) (fun i i0 i1 => hU _ (by split <;> omega) (by split <;> omega))
  unfold hTk
  rw [show (((hm f p).toNat : Nat) : Int) = hm f p by omega] at this
  exact this

def hUo (s : aW) (w p k : Int) : Int := s 64 ((2 * p + w) * 60 + k)
theorem c96 {d : Nat} {Q : aQ} {s : aW} {a1 a2 a3 a4 : Int} (h1 : 0 ≤ a1) (h2 : a1 + a2 ≤ 2400) (h3 : 0 ≤ a3) (h4 : a3 ≤ a2) (h5 : a2 ≤ 60) (hU : ∀ i, 0 ≤ i → i < a2 → 0 ≤ s 64 (a1 + i) ∧ s 64 (a1 + i) ≤ 12000) (k : Q (some (vl (sI (fun i => s 64 ((if a4 = 0 then a1 else a1 + a2 - a3) + i)) a3.toNat))) (sw s 64 (if a4 = 0 then aCp (s 64) (s 64) (a1 + a3) a1 (a2 - a3) else aCp (s 64) (s 64) a1 (a1 + a3) (a2 - a3)))) : aEv (d + 1) true 96 [vr 63, vi a1, vi a2, vi a3, vi a4] s Q := by
  refine e96 (b96_0 ⟨fun _ => by omega, ?_⟩)
  have key : ∀ (m : Nat) (i : Int), 0 ≤ i → i + m = a3 → Yx (d + 1) cd96 2 Q 22 [vr 63, vi a1, vi a2, vi a3, vi a4, vi (if a4 = 0 then a1 else a1 + a2 - a3), vl (sI (fun i => s 64 ((if a4 = 0 then a1 else a1 + a2 - a3) + i)) i.toNat), vt, vi i] [] s := by
    intro m
    induction m with
    | zero =>
      intro i i0 im
      have e : i = a3 := by omega
      subst e
      refine b96_22 ⟨fun _ => ⟨fun z => ⟨by omega, by omega, by omega, ?_⟩, fun z => ⟨by omega, by omega, by omega, ?_⟩⟩, fun z => by omega⟩
      · rw [if_pos z, if_pos z] at k
        rw [if_pos z]
        exact k
      · rw [if_neg z, if_neg z] at k
        rw [if_neg z]
        exact k
    | succ m ih =>
      intro i i0 im
      have hb := sI_b (f := fun i => s 64 ((if a4 = 0 then a1 else a1 + a2 - a3) + i)) (B := 12000) (n := i.toNat) (fun j j0 j1 => by
        split
        · exact hU j j0 (by omega)
        · have := hU (a2 - a3 + j) (by omega) (by omega)
          rw [show a1 + (a2 - a3 + j) = a1 + a2 - a3 + j by omega] at this
          exact this)
      have hs := sI_s (f := fun i => s 64 ((if a4 = 0 then a1 else a1 + a2 - a3) + i)) i0
      have hi : 0 ≤ s 64 ((if a4 = 0 then a1 else a1 + a2 - a3) + i) ∧ s 64 ((if a4 = 0 then a1 else a1 + a2 - a3) + i) ≤ 12000 := by
        split
        · exact hU i i0 (by omega)
        · have := hU (a2 - a3 + i) (by omega) (by omega)
          rw [show a1 + (a2 - a3 + i) = a1 + a2 - a3 + i by omega] at this
          exact this
      have r : 0 ≤ (if a4 = 0 then a1 else a1 + a2 - a3) + i ∧ (if a4 = 0 then a1 else a1 + a2 - a3) + i < 2400 := by split <;> omega
      refine b96_22 ⟨fun z => by omega, fun _ => ⟨by omega, r, by omega, by omega, ?_⟩⟩
      have := ih (i + 1) (by omega) (by omega)
      rw [hs] at this
      exact this
  exact key a3.toNat 0 (Int.le_refl _) (by omega)
theorem c15x {d : Nat} {Q : aQ} {s : aW} {p : Int} (h0 : 0 ≤ p ∧ p < 20) (nz : ¬ s 17 p = 0) (k : Q (some (vi (hFr (s 17) (s 2) (s 3) p))) s) : aEv (d + 1) true 15 [vr 56, vi p, vi 0] s Q := by
  refine e15 (b15_0 ⟨h0, fun _ => by omega, h0, ?_⟩)
  unfold hFr at k
  by_cases z : s 17 p ≤ 0
  · rw [if_pos z, if_neg (by omega)]
    rw [if_neg (by omega)] at k
    exact k
  · rw [if_neg z, if_pos rfl]
    rw [if_pos (by omega)] at k
    exact k
theorem c15y {d : Nat} {Q : aQ} {s : aW} {p : Int} (h0 : 0 ≤ p ∧ p < 20) (nz : ¬ s 17 p = 0) (k : Q (some (vi (hTo (s 17) (s 2) (s 3) p))) s) : aEv (d + 1) true 15 [vr 56, vi p, vi 1] s Q := by
  refine e15 (b15_0 ⟨h0, fun _ => by omega, h0, ?_⟩)
  unfold hTo at k
  by_cases z : s 17 p ≤ 0
  · rw [if_pos z, if_pos (by omega)]
    rw [if_neg (by omega)] at k
    exact k
  · rw [if_neg z, if_neg (by omega)]
    rw [if_pos (by omega)] at k
    exact k

def hUol (s : aW) (w p k : Int) : Int := s 75 ((2 * p + w) * 60 + k)
theorem c96l {d : Nat} {Q : aQ} {s : aW} {a1 a2 a3 a4 : Int} (h1 : 0 ≤ a1) (h2 : a1 + a2 ≤ 2400) (h3 : 0 ≤ a3) (h4 : a3 ≤ a2) (h5 : a2 ≤ 60) (hU : ∀ i, 0 ≤ i → i < a2 → 0 ≤ s 75 (a1 + i) ∧ s 75 (a1 + i) ≤ 12000) (k : Q (some (vl (sI (fun i => s 75 ((if a4 = 0 then a1 else a1 + a2 - a3) + i)) a3.toNat))) (sw s 75 (if a4 = 0 then aCp (s 75) (s 75) (a1 + a3) a1 (a2 - a3) else aCp (s 75) (s 75) a1 (a1 + a3) (a2 - a3)))) : aEv (d + 1) true 96 [vr 74, vi a1, vi a2, vi a3, vi a4] s Q := by
  refine e96l (b96l_0 ⟨fun _ => by omega, ?_⟩)
  have key : ∀ (m : Nat) (i : Int), 0 ≤ i → i + m = a3 → Yx (d + 1) cd96 2 Q 22 [vr 74, vi a1, vi a2, vi a3, vi a4, vi (if a4 = 0 then a1 else a1 + a2 - a3), vl (sI (fun i => s 75 ((if a4 = 0 then a1 else a1 + a2 - a3) + i)) i.toNat), vt, vi i] [] s := by
    intro m
    induction m with
    | zero =>
      intro i i0 im
      have e : i = a3 := by omega
      subst e
      refine b96l_22 ⟨fun _ => ⟨fun z => ⟨by omega, by omega, by omega, ?_⟩, fun z => ⟨by omega, by omega, by omega, ?_⟩⟩, fun z => by omega⟩
      · rw [if_pos z, if_pos z] at k
        rw [if_pos z]
        exact k
      · rw [if_neg z, if_neg z] at k
        rw [if_neg z]
        exact k
    | succ m ih =>
      intro i i0 im
      have hb := sI_b (f := fun i => s 75 ((if a4 = 0 then a1 else a1 + a2 - a3) + i)) (B := 12000) (n := i.toNat) (fun j j0 j1 => by
        split
        · exact hU j j0 (by omega)
        · have := hU (a2 - a3 + j) (by omega) (by omega)
          rw [show a1 + (a2 - a3 + j) = a1 + a2 - a3 + j by omega] at this
          exact this)
      have hs := sI_s (f := fun i => s 75 ((if a4 = 0 then a1 else a1 + a2 - a3) + i)) i0
      have hi : 0 ≤ s 75 ((if a4 = 0 then a1 else a1 + a2 - a3) + i) ∧ s 75 ((if a4 = 0 then a1 else a1 + a2 - a3) + i) ≤ 12000 := by
        split
        · exact hU i i0 (by omega)
        · have := hU (a2 - a3 + i) (by omega) (by omega)
          rw [show a1 + (a2 - a3 + i) = a1 + a2 - a3 + i by omega] at this
          exact this
      have r : 0 ≤ (if a4 = 0 then a1 else a1 + a2 - a3) + i ∧ (if a4 = 0 then a1 else a1 + a2 - a3) + i < 2400 := by split <;> omega
      refine b96l_22 ⟨fun z => by omega, fun _ => ⟨by omega, r, by omega, by omega, ?_⟩⟩
      have := ih (i + 1) (by omega) (by omega)
      rw [hs] at this
      exact this
  exact key a3.toNat 0 (Int.le_refl _) (by omega)
theorem c15xl {d : Nat} {Q : aQ} {s : aW} {p : Int} (h0 : 0 ≤ p ∧ p < 20) (nz : ¬ s 17 p = 0) (k : Q (some (vi (hFr (s 17) (s 2) (s 3) p))) s) : aEv (d + 1) true 15 [vr 56, vi p, vi 0] s Q := by
  refine e15 (b15_0 ⟨h0, fun _ => by omega, h0, ?_⟩)
  unfold hFr at k
  by_cases z : s 17 p ≤ 0
  · rw [if_pos z, if_neg (by omega)]
    rw [if_neg (by omega)] at k
    exact k
  · rw [if_neg z, if_pos rfl]
    rw [if_pos (by omega)] at k
    exact k
theorem c15yl {d : Nat} {Q : aQ} {s : aW} {p : Int} (h0 : 0 ≤ p ∧ p < 20) (nz : ¬ s 17 p = 0) (k : Q (some (vi (hTo (s 17) (s 2) (s 3) p))) s) : aEv (d + 1) true 15 [vr 56, vi p, vi 1] s Q := by
  refine e15 (b15_0 ⟨h0, fun _ => by omega, h0, ?_⟩)
  unfold hTo at k
  by_cases z : s 17 p ≤ 0
  · rw [if_pos z, if_pos (by omega)]
    rw [if_neg (by omega)] at k
    exact k
  · rw [if_neg z, if_neg (by omega)]
    rw [if_pos (by omega)] at k
    exact k

/-- the units that stay have moved on -/
def hShf (X X' : Int → Int) (b L m : Int) (r : Prop) : Prop := (r → ∀ j, 0 ≤ j → j < L - m → X' (b + m + j) = X (b + j)) ∧ (¬ r → ∀ j, 0 ≤ j → j < L - m → X' (b + j) = X (b + m + j))
theorem hShf_m {X X' : Int → Int} {b L a4 m : Int} (m0 : 0 ≤ m) (m1 : m ≤ L) (e : X' = if a4 = 0 then aCp X X (b + m) b (L - m) else aCp X X b (b + m) (L - m)) : hShf X X' b L m (¬ a4 = 0) ∧ ∀ k, ¬ (b ≤ k ∧ k < b + L) → X' k = X k := by
  subst e
  refine ⟨⟨fun r j j0 j1 => ?_, fun r j j0 j1 => ?_⟩, fun k hk => ?_⟩
  · rw [if_neg r]
    unfold aCp
    rw [if_pos (by omega), show b + (b + m + j - (b + m)) = b + j by omega]
  · rw [if_pos (Classical.byContradiction fun z => r z)]
    unfold aCp
    rw [if_pos (by omega), show b + m + (b + j - b) = b + m + j by omega]
  · split <;> (unfold aCp; rw [if_neg (by omega)])
def hNi (f A B : Int → Int) (n i : Int) : Int := sI (fun p => if hTo f A B p = n then hm f p else 0) i.toNat
def hNo (f A B : Int → Int) (n i : Int) : Int := sI (fun p => if hFr f A B p = n then hm f p else 0) i.toNat
def hWo (f A B L : Int → Int) (U : Int → Int → Int) (n i : Int) : Int := sI (fun p => if hTo f A B p = n then hSO f L U p else 0) i.toNat
def hWb (f A B L : Int → Int) (U : Int → Int → Int) (n i : Int) : Int := sI (fun p => if hFr f A B p = n then hSB f L U p else 0) i.toNat
theorem hRs0 {x : Int} : ¬ bi ((bi (¬ x ≤ 0)) = (bi ((0 : Int) = 0))) = 0 ↔ 0 < x := by
  have h1 : bi ((0 : Int) = 0) = 1 := bi_t rfl
  by_cases y : x ≤ 0
  · have h2 : bi (¬ x ≤ 0) = 0 := bi_f (fun w => w y)
    rw [h1, h2, bi_f (show ¬ (0 : Int) = 1 by decide)]
    exact ⟨fun w => absurd rfl w, fun w => by omega⟩
  · have h2 : bi (¬ x ≤ 0) = 1 := bi_t y
    rw [h1, h2, bi_t (show (1 : Int) = 1 from rfl)]
    exact ⟨fun _ => by omega, fun _ => by decide⟩
theorem hRs1 {x : Int} : ¬ bi ((bi (¬ x ≤ 0)) = (bi ((1 : Int) = 0))) = 0 ↔ ¬ 0 < x := by
  have h1 : bi ((1 : Int) = 0) = 0 := bi_f (by decide)
  by_cases y : x ≤ 0
  · have h2 : bi (¬ x ≤ 0) = 0 := bi_f (fun w => w y)
    rw [h1, h2, bi_t (show (0 : Int) = 0 from rfl)]
    exact ⟨fun _ => by omega, fun _ => by decide⟩
  · have h2 : bi (¬ x ≤ 0) = 1 := bi_t y
    rw [h1, h2, bi_f (show ¬ (1 : Int) = 0 by decide)]
    exact ⟨fun w => absurd rfl w, fun w => absurd (by omega) w⟩
theorem hm_0 (f : Int → Int) (p : Int) : 0 ≤ hm f p := by unfold hm; omega
theorem hN_b {f A B L : Int → Int} {P n i : Int} (hL : ∀ p, 0 ≤ p → p < P → hm f p ≤ L p ∧ L p ≤ 60) (i0 : 0 ≤ i) (i1 : i ≤ P) : (0 ≤ hNi f A B n i ∧ hNi f A B n i ≤ 60 * i) ∧ (0 ≤ hNo f A B n i ∧ hNo f A B n i ≤ 60 * i) := by
  have a := sI_b (f := fun p => if hTo f A B p = n then hm f p else 0) (B := 60) (n := i.toNat) (fun p p0 p1 => by
    have := hL p p0 (by omega)
    have := hm_0 f p
    split <;> omega)
  have b := sI_b (f := fun p => if hFr f A B p = n then hm f p else 0) (B := 60) (n := i.toNat) (fun p p0 p1 => by
    have := hL p p0 (by omega)
    have := hm_0 f p
    split <;> omega)
  rw [show ((i.toNat : Nat) : Int) = i by omega] at a b
  exact ⟨a, b⟩
theorem hW_b {f A B L : Int → Int} {U V : Int → Int → Int} {P n i : Int} (hL : ∀ p, 0 ≤ p → p < P → hm f p ≤ L p ∧ L p ≤ 60) (hU : ∀ p k, 0 ≤ p → p < P → 0 ≤ k → k < L p → 0 ≤ U p k ∧ U p k ≤ 12000) (hV : ∀ p k, 0 ≤ p → p < P → 0 ≤ k → k < L p → 0 ≤ V p k ∧ V p k ≤ 12000) (i0 : 0 ≤ i) (i1 : i ≤ P) : (0 ≤ hWo f A B L U n i ∧ hWo f A B L U n i ≤ 12000 * hNi f A B n i) ∧ (0 ≤ hWb f A B L V n i ∧ hWb f A B L V n i ≤ 12000 * hNo f A B n i) := by
  have key : ∀ (g c : Int → Int) (m : Nat), (∀ p : Int, 0 ≤ p → p < m → 0 ≤ g p ∧ g p ≤ 12000 * c p) → 0 ≤ sI g m ∧ sI g m ≤ 12000 * sI c m := by
    intro g c m
    induction m with
    | zero => exact fun _ => ⟨Int.le_refl _, Int.le_refl _⟩
    | succ m ih =>
      intro h
      have a := ih (fun p p0 p1 => h p p0 (by omega))
      have b := h m (by omega) (by omega)
      show 0 ≤ sI g m + g m ∧ sI g m + g m ≤ 12000 * (sI c m + c m)
      omega
  refine ⟨key _ _ _ (fun p p0 p1 => ?_), key _ _ _ (fun p p0 p1 => ?_)⟩
  · have h := hL p p0 (by omega)
    have t := hTk_b (r := 0 < f p) h.1 h.2 (fun k k0 k1 => hU p k p0 (by omega) k0 k1)
    show 0 ≤ (if hTo f A B p = n then hSO f L U p else 0) ∧ (if hTo f A B p = n then hSO f L U p else 0) ≤ 12000 * (if hTo f A B p = n then hm f p else 0)
    unfold hSO
    split <;> omega
  · have h := hL p p0 (by omega)
    have t := hTk_b (r := ¬ 0 < f p) h.1 h.2 (fun k k0 k1 => hV p k p0 (by omega) k0 k1)
    show 0 ≤ (if hFr f A B p = n then hSB f L V p else 0) ∧ (if hFr f A B p = n then hSB f L V p else 0) ≤ 12000 * (if hFr f A B p = n then hm f p else 0)
    unfold hSB
    split <;> omega

/-- what the hour needs of the component's pipes -/
def hOk (s : aW) (P : Int) : Prop := s 1 1 = P ∧ 0 ≤ P ∧ P ≤ 20 ∧ (∀ p, 0 ≤ p → p < P → 0 ≤ s 2 p ∧ s 2 p < 12 ∧ 0 ≤ s 3 p ∧ s 3 p < 12 ∧ hm (s 17) p ≤ s 4 p ∧ s 4 p ≤ 60) ∧ (∀ p k, 0 ≤ p → p < P → 0 ≤ k → k < s 4 p → 0 ≤ hUo s 0 p k ∧ hUo s 0 p k ≤ 12000) ∧ (∀ p k, 0 ≤ p → p < P → 0 ≤ k → k < s 4 p → 0 ≤ hUo s 1 p k ∧ hUo s 1 p k ≤ 12000)
def hMv (s0 s : aW) (i : Int) : Prop := (∀ n, 0 ≤ n → n < 12 → s 57 n = hNi (s0 17) (s0 2) (s0 3) n i + (if n = 0 then hNo (s0 17) (s0 2) (s0 3) 0 i else 0) ∧ s 58 n = hWo (s0 17) (s0 2) (s0 3) (s0 4) (hUo s0 0) n i ∧ s 59 n = hWb (s0 17) (s0 2) (s0 3) (s0 4) (hUo s0 1) n i) ∧ (∀ p, 0 ≤ p → p < i → s 65 p = s0 17 p) ∧ (∀ p, i ≤ p → s 65 p = s0 65 p) ∧ (∀ p, 0 ≤ p → p < i → hShf (s0 64) (s 64) ((2 * p + 0) * 60) (s0 4 p) (hm (s0 17) p) (0 < s0 17 p) ∧ hShf (s0 64) (s 64) ((2 * p + 1) * 60) (s0 4 p) (hm (s0 17) p) (¬ 0 < s0 17 p)) ∧ (∀ k, 120 * i ≤ k → s 64 k = s0 64 k)
theorem c17a {d : Nat} {Q : aQ} {s0 : aW} (k : ∀ s, Fr [57, 58, 59] s0 s → (∀ n, 0 ≤ n → n < 12 → s 57 n = 0 ∧ s 58 n = 0 ∧ s 59 n = 0) → Yx (d + 2) cd17 0 Q 37 [vr 56, vr 63, vi 0, vt, vt, vt] [] s) : ∀ (m : Nat) (i : Int) (s : aW), 0 ≤ i → i + m = 12 → Fr [57, 58, 59] s0 s → (∀ n, 0 ≤ n → n < i → s 57 n = 0 ∧ s 58 n = 0 ∧ s 59 n = 0) → Yx (d + 2) cd17 0 Q 2 [vr 56, vr 63, vi i, vt, vt, vt] [] s
  | 0, i, s, i0, im, f, h => b17_2 ⟨fun _ => k s f (fun n n0 n1 => h n n0 (by omega)), fun z => absurd (by omega) z⟩
  | m + 1, i, s, i0, im, f, h => by
    refine b17_2 ⟨fun z => by omega, fun _ => ⟨by omega, by omega, by omega, by omega, c17a k m (i + 1) _ (by omega) (by omega) (Fr_w (Fr_w (Fr_w f (by decide)) (by decide)) (by decide)) (fun n n0 n1 => ?_)⟩⟩
    simp only [sw, Nat.reduceEqDiff, if_true, if_false]
    by_cases e : n = i
    · rw [e, fu_s, fu_s, fu_s]
      exact ⟨rfl, rfl, rfl⟩
    · rw [fu_n e, fu_n e, fu_n e]
      exact h n n0 (by omega)
theorem c17b {d : Nat} {Q : aQ} {s0 : aW} {P : Int} (hO : hOk s0 P) (k : ∀ s, Fr [57, 58, 59, 64, 65] s0 s → hMv s0 s P → Q none s) : ∀ (m : Nat) (i : Int) (s : aW), 0 ≤ i → i + m = P → Fr [57, 58, 59, 64, 65] s0 s → hMv s0 s i → Yx (d + 2) cd17 0 Q 37 [vr 56, vr 63, vi i, vt, vt, vt] [] s
  | 0, i, s, i0, im, f, h => by
    have e : i = P := by omega
    subst e
    exact b17_37 ⟨fun _ => k s f h, fun z => absurd (by rw [f 1 (by decide)]; exact Int.le_of_eq hO.1) z⟩
  | m + 1, i, s, i0, im, f, h => by
    obtain ⟨o1, o2, o3, o4, o5, o6⟩ := hO
    obtain ⟨h1, h2, h2', h3, h4⟩ := h
    have op := o4 i i0 (by omega)
    have s17 : s 17 = s0 17 := f 17 (by decide)
    have s2 : s 2 = s0 2 := f 2 (by decide)
    have s3 : s 3 = s0 3 := f 3 (by decide)
    have s4 : s 4 = s0 4 := f 4 (by decide)
    have hL : ∀ p, 0 ≤ p → p < P → hm (s0 17) p ≤ s0 4 p ∧ s0 4 p ≤ 60 := fun p p0 p1 => ⟨(o4 p p0 p1).2.2.2.2.1, (o4 p p0 p1).2.2.2.2.2⟩
    have em : (((s 17 i)).natAbs : Int) = hm (s0 17) i := by rw [s17]; rfl
    have m0 := hm_0 (s0 17) i
    have nz : ∀ g : Int → Int, sI g (i + 1).toNat = sI g i.toNat + g i := fun g => sI_s i0
    have fin : ∀ t : aW, Fr [57, 58, 59, 64, 65] s0 t → (∀ n, 0 ≤ n → n < 12 → t 57 n = s 57 n + (if hTo (s0 17) (s0 2) (s0 3) i = n then hm (s0 17) i else 0) + (if n = 0 then (if hFr (s0 17) (s0 2) (s0 3) i = 0 then hm (s0 17) i else 0) else 0) ∧ t 58 n = s 58 n + (if hTo (s0 17) (s0 2) (s0 3) i = n then hSO (s0 17) (s0 4) (hUo s0 0) i else 0) ∧ t 59 n = s 59 n + (if hFr (s0 17) (s0 2) (s0 3) i = n then hSB (s0 17) (s0 4) (hUo s0 1) i else 0)) → t 65 = fu (s 65) i (s0 17 i) → (hShf (s0 64) (t 64) ((2 * i + 0) * 60) (s0 4 i) (hm (s0 17) i) (0 < s0 17 i) ∧ hShf (s0 64) (t 64) ((2 * i + 1) * 60) (s0 4 i) (hm (s0 17) i) (¬ 0 < s0 17 i)) → (∀ k, ¬ (120 * i ≤ k ∧ k < 120 * i + 120) → t 64 k = s 64 k) → Yx (d + 2) cd17 0 Q 37 [vr 56, vr 63, vi (i + 1), vt, vt, vt] [] t := fun t ft g1 g2 g3 g4 => by
      refine c17b ⟨o1, o2, o3, o4, o5, o6⟩ k m (i + 1) t (by omega) (by omega) ft ⟨fun n n0 n1 => ?_, fun p p0 p1 => ?_, fun p p0 => ?_, fun p p0 p1 => ?_, fun k k0 => ?_⟩
      · obtain ⟨a1, a2, a3⟩ := h1 n n0 n1
        obtain ⟨b1, b2, b3⟩ := g1 n n0 n1
        unfold hNi hNo hWo hWb at *
        rw [nz, nz, nz, nz]
        refine ⟨?_, by rw [b2, a2], by rw [b3, a3]⟩
        rw [b1, a1]
        by_cases z : n = 0
        · rw [if_pos z, if_pos z, if_pos z]
          omega
        · rw [if_neg z, if_neg z, if_neg z]
          omega
      · rw [g2]
        by_cases e : p = i
        · rw [e, fu_s]
        · rw [fu_n e]
          exact h2 p p0 (by omega)
      · rw [g2, fu_n (by omega)]
        exact h2' p (by omega)
      · by_cases e : p = i
        · rw [e]
          exact g3
        · have hh := h3 p p0 (by omega)
          have hq := hL p p0 (by omega)
          have mp := hm_0 (s0 17) p
          have tk : ∀ k, 120 * p ≤ k → k < 120 * p + 120 → t 64 k = s 64 k := fun k k0 k1 => g4 k (by omega)
          refine ⟨⟨fun r j j0 j1 => ?_, fun r j j0 j1 => ?_⟩, fun r j j0 j1 => ?_, fun r j j0 j1 => ?_⟩
          · rw [tk _ (by omega) (by omega)]; exact hh.1.1 r j j0 j1
          · rw [tk _ (by omega) (by omega)]; exact hh.1.2 r j j0 j1
          · rw [tk _ (by omega) (by omega)]; exact hh.2.1 r j j0 j1
          · rw [tk _ (by omega) (by omega)]; exact hh.2.2 r j j0 j1
      · rw [g4 k (by omega)]
        exact h4 k (by omega)
    refine b17_37 ⟨fun z => absurd z (by rw [f 1 (by decide)]; omega), fun _ => ⟨by omega, by rw [s17]; unfold hm at op; omega, by omega, by omega, fun z => ?_, fun z => ⟨by omega, ?_⟩⟩⟩
    · have z' : ¬ hm (s0 17) i = 0 := by rw [← em]; exact z
      rw [em]
      have fz : ¬ s0 17 i = 0 := fun q => z' (by unfold hm; rw [q]; rfl)
      generalize hu : sw s 65 (fu (s 65) i (s 17 i)) = u
      have uk : ∀ k, ¬ k = 65 → u k = s k := fun k hk => by rw [← hu, sw_n hk]
      have uF : u 65 = fu (s 65) i (s0 17 i) := by rw [← hu, sw_s, s17]
      have u17 : u 17 = s0 17 := (uk 17 (by decide)).trans s17
      have u2 : u 2 = s0 2 := (uk 2 (by decide)).trans s2
      have u3 : u 3 = s0 3 := (uk 3 (by decide)).trans s3
      have u4 : u 4 = s0 4 := (uk 4 (by decide)).trans s4
      have fu' : Fr [57, 58, 59, 64, 65] s0 u := by rw [← hu]; exact Fr_w f (by decide)
      have uU : ∀ k, 120 * i ≤ k → u 64 k = s0 64 k := fun k hk => by rw [uk 64 (by decide)]; exact h4 k hk
      have rT : 0 ≤ hTo (s0 17) (s0 2) (s0 3) i ∧ hTo (s0 17) (s0 2) (s0 3) i < 12 := by unfold hTo; split <;> omega
      have rF : 0 ≤ hFr (s0 17) (s0 2) (s0 3) i ∧ hFr (s0 17) (s0 2) (s0 3) i < 12 := by unfold hFr; split <;> omega
      have bO := hTk_b (L := s0 4) (U := hUo s0 0) (r := 0 < s0 17 i) op.2.2.2.2.1 op.2.2.2.2.2 (fun k k0 k1 => o5 i k i0 (by omega) k0 k1)
      have bB := hTk_b (L := s0 4) (U := hUo s0 1) (r := ¬ 0 < s0 17 i) op.2.2.2.2.1 op.2.2.2.2.2 (fun k k0 k1 => o6 i k i0 (by omega) k0 k1)
      have bN : ∀ n, _ := fun n => hN_b (A := s0 2) (B := s0 3) (n := n) hL i0 (show i ≤ P by omega)
      have bW : ∀ n, _ := fun n => hW_b (A := s0 2) (B := s0 3) (n := n) hL o5 o6 i0 (show i ≤ P by omega)
      refine c15x (by omega) (by rw [u17]; exact fz) ⟨_, rfl, b17_89_1 (c15y (by omega) (by rw [u17]; exact fz) ⟨_, rfl, b17_97_1 ?_⟩)⟩
      rw [u17, u2, u3]
      generalize hF : hFr (s0 17) (s0 2) (s0 3) i = F at *
      generalize hT : hTo (s0 17) (s0 2) (s0 3) i = T at *
      refine ⟨by omega, by omega, by omega, e16 (b16_0 ⟨by omega, ?_⟩)⟩
      rw [u17, u4]
      generalize hρ : bi ((bi (¬ (s0 17 i) ≤ 0)) = (bi ((0 : Int) = 0))) = ρ
      have r0 : ¬ ρ = 0 ↔ 0 < s0 17 i := by rw [← hρ]; exact hRs0
      have e1 : sI (fun j => u 64 ((if ρ = 0 then (2 * i + 0) * 60 else (2 * i + 0) * 60 + s0 4 i - hm (s0 17) i) + j)) (hm (s0 17) i).toNat = hSO (s0 17) (s0 4) (hUo s0 0) i := by
        unfold hSO hTk hUo
        refine sI_c (fun j j0 j1 => ?_)
        by_cases y : 0 < s0 17 i
        · rw [if_neg (r0.2 y), if_pos y, uU _ (by omega)]
          congr 1
          omega
        · rw [if_pos (Classical.byContradiction fun w => y (r0.1 w)), if_neg y, uU _ (by omega)]
          congr 1
          omega
      refine ⟨_, rfl, b17_129_8 (c96 (by omega) (by omega) m0 (by omega) (by omega) (fun j j0 j1 => by rw [uU _ (by omega)]; exact o5 i j i0 (by omega) j0 j1) ⟨_, rfl, b17_132_4 ?_⟩)⟩
      rw [e1]
      obtain ⟨q1, q2⟩ := hShf_m (X := u 64) (a4 := ρ) (b := (2 * i + 0) * 60) (L := s0 4 i) (m := hm (s0 17) i) m0 (by omega) rfl
      generalize hX : (if ρ = 0 then aCp (u 64) (u 64) ((2 * i + 0) * 60 + hm (s0 17) i) ((2 * i + 0) * 60) (s0 4 i - hm (s0 17) i) else aCp (u 64) (u 64) ((2 * i + 0) * 60) ((2 * i + 0) * 60 + hm (s0 17) i) (s0 4 i - hm (s0 17) i)) = X1 at q1 q2 ⊢
      have v57 : ∀ n, 0 ≤ n → n < 12 → u 57 n = s 57 n ∧ u 58 n = s 58 n ∧ u 59 n = s 59 n := fun n _ _ => ⟨by rw [uk 57 (by decide)], by rw [uk 58 (by decide)], by rw [uk 59 (by decide)]⟩
      have aT := h1 T rT.1 rT.2
      have aF := h1 F rF.1 rF.2
      have a0 := h1 0 (by omega) (by omega)
      have cT := bW T
      have cF := bW F
      have dT := bN T
      have dF := bN F
      have d0 := bN 0
      have vT := v57 T rT.1 rT.2
      have vF := v57 F rF.1 rF.2
      have v0 := v57 0 (by omega) (by omega)
      have hso : 0 ≤ hSO (s0 17) (s0 4) (hUo s0 0) i ∧ hSO (s0 17) (s0 4) (hUo s0 0) i ≤ 720000 := by unfold hSO; omega
      have hsb : 0 ≤ hSB (s0 17) (s0 4) (hUo s0 1) i ∧ hSB (s0 17) (s0 4) (hUo s0 1) i ≤ 720000 := by unfold hSB; omega
      refine ⟨by omega, by omega, by omega, by omega, by omega, e16 (b16_0 ⟨by omega, ?_⟩)⟩
      simp only [sw_n (show (58 : Nat) ≠ 64 by decide), sw_n (show (17 : Nat) ≠ 58 by decide), sw_n (show (17 : Nat) ≠ 64 by decide), sw_n (show (4 : Nat) ≠ 64 by decide), sw_n (show (59 : Nat) ≠ 64 by decide), u17, u4]
      generalize hρ1 : bi ((bi (¬ (s0 17 i) ≤ 0)) = (bi ((1 : Int) = 0))) = ρ1
      have r1 : ¬ ρ1 = 0 ↔ ¬ 0 < s0 17 i := by rw [← hρ1]; exact hRs1
      generalize hw : sw (sw u 64 X1) 58 (fu (u 58) T (u 58 T + hSO (s0 17) (s0 4) (hUo s0 0) i)) = w
      have wU : w 64 = X1 := by rw [← hw, sw_n (by decide), sw_s]
      have w58 : w 58 = fu (u 58) T (u 58 T + hSO (s0 17) (s0 4) (hUo s0 0) i) := by rw [← hw, sw_s]
      have wk : ∀ k, ¬ k = 64 → ¬ k = 58 → w k = u k := fun k ka kb => by rw [← hw, sw_n kb, sw_n ka]
      have fw : Fr [57, 58, 59, 64, 65] s0 w := by rw [← hw]; exact Fr_w (Fr_w fu' (by decide)) (by decide)
      have wb : ∀ j, 0 ≤ j → j < s0 4 i → w 64 ((2 * i + 1) * 60 + j) = s0 64 ((2 * i + 1) * 60 + j) := fun j j0 j1 => by
        rw [wU, q2 _ (by omega)]
        exact uU _ (by omega)
      have e2 : sI (fun j => w 64 ((if ρ1 = 0 then (2 * i + 1) * 60 else (2 * i + 1) * 60 + s0 4 i - hm (s0 17) i) + j)) (hm (s0 17) i).toNat = hSB (s0 17) (s0 4) (hUo s0 1) i := by
        unfold hSB hTk hUo
        refine sI_c (fun j j0 j1 => ?_)
        by_cases y : 0 < s0 17 i
        · rw [if_pos (Classical.byContradiction fun w => (r1.1 w) y), if_neg (fun w => w y), wb j j0 (by omega)]
          congr 1
          omega
        · rw [if_neg (r1.2 y), if_pos y, show (2 * i + 1) * 60 + s0 4 i - hm (s0 17) i + j = (2 * i + 1) * 60 + (s0 4 i - hm (s0 17) i + j) by omega, wb _ (by omega) (by omega)]
      refine ⟨_, rfl, b17_164_8 (c96 (by omega) (by omega) m0 (by omega) (by omega) (fun j j0 j1 => by rw [wb j j0 j1]; exact o6 i j i0 (by omega) j0 j1) ⟨_, rfl, b17_167_4 ?_⟩)⟩
      rw [e2]
      obtain ⟨p1, p2⟩ := hShf_m (X := w 64) (a4 := ρ1) (b := (2 * i + 1) * 60) (L := s0 4 i) (m := hm (s0 17) i) m0 (by omega) rfl
      generalize hY : (if ρ1 = 0 then aCp (w 64) (w 64) ((2 * i + 1) * 60 + hm (s0 17) i) ((2 * i + 1) * 60) (s0 4 i - hm (s0 17) i) else aCp (w 64) (w 64) ((2 * i + 1) * 60) ((2 * i + 1) * 60 + hm (s0 17) i) (s0 4 i - hm (s0 17) i)) = X2 at p1 p2 ⊢
      have w57 : w 57 = u 57 := wk 57 (by decide) (by decide)
      have w59 : w 59 = u 59 := wk 59 (by decide) (by decide)
      simp only [sw_n (show (57 : Nat) ≠ 64 by decide), sw_n (show (59 : Nat) ≠ 64 by decide), sw_n (show (57 : Nat) ≠ 59 by decide), w57, w59]
      have sh : hShf (s0 64) X2 ((2 * i + 0) * 60) (s0 4 i) (hm (s0 17) i) (0 < s0 17 i) ∧ hShf (s0 64) X2 ((2 * i + 1) * 60) (s0 4 i) (hm (s0 17) i) (¬ 0 < s0 17 i) := by
        refine ⟨⟨fun r j j0 j1 => ?_, fun r j j0 j1 => ?_⟩, fun r j j0 j1 => ?_, fun r j j0 j1 => ?_⟩
        · rw [p2 _ (by omega), wU, q1.1 (r0.2 r) j j0 j1]
          exact uU _ (by omega)
        · rw [p2 _ (by omega), wU, q1.2 (fun y => r (r0.1 y)) j j0 j1]
          exact uU _ (by omega)
        · rw [p1.1 (r1.2 r) j j0 j1]
          exact wb j j0 (by omega)
        · rw [p1.2 (fun y => r (r1.1 y)) j j0 j1, show (2 * i + 1) * 60 + hm (s0 17) i + j = (2 * i + 1) * 60 + (hm (s0 17) i + j) by omega]
          exact wb _ (by omega) (by omega)
      have off : ∀ k, ¬ (120 * i ≤ k ∧ k < 120 * i + 120) → X2 k = s 64 k := fun k hk => by
        rw [p2 _ (by omega), wU, q2 _ (by omega), uk 64 (by decide)]
      have g58 : ∀ n, 0 ≤ n → n < 12 → w 58 n = s 58 n + (if T = n then hSO (s0 17) (s0 4) (hUo s0 0) i else 0) := fun n n0 n1 => by
        rw [w58]
        by_cases y : n = T
        · rw [y, fu_s, if_pos rfl, vT.2.1]
        · rw [fu_n y, if_neg (fun q => y q.symm), (v57 n n0 n1).2.1, Int.add_zero]
      have g59 : ∀ n, 0 ≤ n → n < 12 → fu (u 59) F (u 59 F + hSB (s0 17) (s0 4) (hUo s0 1) i) n = s 59 n + (if F = n then hSB (s0 17) (s0 4) (hUo s0 1) i else 0) := fun n n0 n1 => by
        by_cases y : n = F
        · rw [y, fu_s, if_pos rfl, vF.2.2]
        · rw [fu_n y, if_neg (fun q => y q.symm), (v57 n n0 n1).2.2, Int.add_zero]
      have g57 : ∀ n, 0 ≤ n → n < 12 → fu (u 57) T (u 57 T + hm (s0 17) i) n = s 57 n + (if T = n then hm (s0 17) i else 0) := fun n n0 n1 => by
        by_cases y : n = T
        · rw [y, fu_s, if_pos rfl, vT.1]
        · rw [fu_n y, if_neg (fun q => y q.symm), (v57 n n0 n1).1, Int.add_zero]
      have u57b : ∀ n, 0 ≤ n → n < 12 → 0 ≤ s 57 n ∧ s 57 n ≤ 4800 := fun n n0 n1 => by
        have x1 := (h1 n n0 n1).1
        have x2 := bN n
        have x3 := bN 0
        split at x1 <;> omega
      have xT := u57b T rT.1 rT.2
      have x0 := u57b 0 (by omega) (by omega)
      have g0 := g57 0 (by omega) (by omega)
      have fk : ∀ (t : aW), t = (sw (sw (sw w 64 X2) 59 (fu (u 59) F (u 59 F + hSB (s0 17) (s0 4) (hUo s0 1) i))) 57 (t 57)) → Fr [57, 58, 59, 64, 65] s0 t ∧ t 65 = fu (s 65) i (s0 17 i) ∧ t 64 = X2 ∧ t 58 = w 58 ∧ t 59 = fu (u 59) F (u 59 F + hSB (s0 17) (s0 4) (hUo s0 1) i) := fun t ht => by
        refine ⟨by rw [ht]; exact Fr_w (Fr_w (Fr_w fw (by decide)) (by decide)) (by decide), ?_, ?_, ?_, ?_⟩
        · rw [ht, sw_n (by decide), sw_n (by decide), sw_n (by decide), wk 65 (by decide) (by decide), uF]
        · rw [ht, sw_n (by decide), sw_n (by decide), sw_s]
        · rw [ht, sw_n (by decide), sw_n (by decide), sw_n (by decide)]
        · rw [ht, sw_n (by decide), sw_s]
      refine ⟨by omega, by omega, by omega, by omega, by omega, fun y => ⟨by omega, ?_⟩, fun y => ⟨by split at g0 <;> omega, by omega, ?_⟩⟩
      · obtain ⟨t1, t2, t3, t4, t5⟩ := fk (sw (sw (sw w 64 X2) 59 (fu (u 59) F (u 59 F + hSB (s0 17) (s0 4) (hUo s0 1) i))) 57 (fu (u 57) T (u 57 T + hm (s0 17) i))) (by rw [sw_s])
        refine fin _ t1 (fun n n0 n1 => ⟨?_, by rw [t4]; exact g58 n n0 n1, by rw [t5]; exact g59 n n0 n1⟩) t2 (by rw [t3]; exact sh) (fun k hk => by rw [t3]; exact off k hk)
        rw [sw_s, g57 n n0 n1, if_neg y]
        split <;> omega
      · obtain ⟨t1, t2, t3, t4, t5⟩ := fk (sw (sw (sw (sw w 64 X2) 59 (fu (u 59) F (u 59 F + hSB (s0 17) (s0 4) (hUo s0 1) i))) 57 (fu (u 57) T (u 57 T + hm (s0 17) i))) 57 (fu (fu (u 57) T (u 57 T + hm (s0 17) i)) 0 (fu (u 57) T (u 57 T + hm (s0 17) i) 0 + hm (s0 17) i))) (by rw [sw_s, sw_sw])
        refine fin _ t1 (fun n n0 n1 => ⟨?_, by rw [t4]; exact g58 n n0 n1, by rw [t5]; exact g59 n n0 n1⟩) t2 (by rw [t3]; exact sh) (fun k hk => by rw [t3]; exact off k hk)
        rw [sw_s, if_pos y]
        by_cases y0 : n = 0
        · rw [y0, fu_s, if_pos rfl, g57 0 (by omega) (by omega)]
        · rw [fu_n y0, if_neg y0, g57 n n0 n1, Int.add_zero]
    · have z' : hm (s0 17) i = 0 := by rw [← em]; exact z
      have f0 : s0 17 i = 0 := by unfold hm at z'; omega
      refine fin _ (Fr_w f (by decide)) (fun n n0 n1 => ?_) (by rw [sw_s, s17]) ?_ (fun k hk => by rw [sw_n (by decide)])
      · rw [sw_n (by decide), sw_n (by decide), sw_n (by decide), z', hSO, hSB, hTk_0 z', hTk_0 z']
        refine ⟨?_, ?_, ?_⟩ <;> simp
      · rw [sw_n (by decide), z']
        have e : ∀ k, 120 * i ≤ k → s 64 k = s0 64 k := h4
        refine ⟨⟨fun r j j0 j1 => ?_, fun r j j0 j1 => ?_⟩, fun r j j0 j1 => ?_, fun r j j0 j1 => ?_⟩ <;> (rw [e _ (by omega)]; congr 1; omega)
theorem c17 {d : Nat} {Q : aQ} {s0 : aW} {P : Int} (hO : hOk s0 P) (k : ∀ s, Fr [57, 58, 59, 64, 65] s0 s → hMv s0 s P → Q none s) : aEv (d + 2) true 17 [vr 56, vr 63] s0 Q := by
  refine e17 (b17_0 (c17a (s0 := s0) (fun s f h => ?_) 12 0 s0 (Int.le_refl _) (by omega) Fr_r (fun n n0 n1 => by omega)))
  have hk : ∀ k, k ∉ ([57, 58, 59] : List Nat) → s k = s0 k := fun k hk => f k hk
  have hO' : hOk s P := by
    unfold hOk hUo at *
    rw [hk 1 (by decide), hk 2 (by decide), hk 3 (by decide), hk 4 (by decide), hk 17 (by decide), hk 64 (by decide)]
    exact hO
  refine c17b hO' (fun t ft ht => k t (Fr_t f ft (fun a ha => ⟨fun z => ha (by simp at z ⊢; omega), ha⟩)) ?_) P.toNat 0 s (Int.le_refl _) (by have := hO.2.1; omega) Fr_r ?_
  · unfold hMv hUo at *
    rw [hk 2 (by decide), hk 3 (by decide), hk 4 (by decide), hk 17 (by decide), hk 64 (by decide), hk 65 (by decide)] at ht
    exact ht
  · refine ⟨fun n n0 n1 => ?_, fun p p0 p1 => by omega, fun _ _ => rfl, fun p p0 p1 => by omega, fun _ _ => rfl⟩
    obtain ⟨a1, a2, a3⟩ := h n n0 n1
    rw [a1, a2, a3]
    refine ⟨?_, rfl, rfl⟩
    show (0 : Int) = 0 + (if n = 0 then 0 else 0)
    split <;> rfl

/-- what the hour needs of the component's pipes -/
def hOkl (s : aW) (P : Int) : Prop := s 1 1 = P ∧ 0 ≤ P ∧ P ≤ 20 ∧ (∀ p, 0 ≤ p → p < P → 0 ≤ s 2 p ∧ s 2 p < 12 ∧ 0 ≤ s 3 p ∧ s 3 p < 12 ∧ hm (s 17) p ≤ s 4 p ∧ s 4 p ≤ 60) ∧ (∀ p k, 0 ≤ p → p < P → 0 ≤ k → k < s 4 p → 0 ≤ hUol s 0 p k ∧ hUol s 0 p k ≤ 12000) ∧ (∀ p k, 0 ≤ p → p < P → 0 ≤ k → k < s 4 p → 0 ≤ hUol s 1 p k ∧ hUol s 1 p k ≤ 12000)
def hMvl (s0 s : aW) (i : Int) : Prop := (∀ n, 0 ≤ n → n < 12 → s 57 n = hNi (s0 17) (s0 2) (s0 3) n i + (if n = 0 then hNo (s0 17) (s0 2) (s0 3) 0 i else 0) ∧ s 58 n = hWo (s0 17) (s0 2) (s0 3) (s0 4) (hUol s0 0) n i ∧ s 59 n = hWb (s0 17) (s0 2) (s0 3) (s0 4) (hUol s0 1) n i) ∧ (∀ p, 0 ≤ p → p < i → s 76 p = s0 17 p) ∧ (∀ p, i ≤ p → s 76 p = s0 76 p) ∧ (∀ p, 0 ≤ p → p < i → hShf (s0 75) (s 75) ((2 * p + 0) * 60) (s0 4 p) (hm (s0 17) p) (0 < s0 17 p) ∧ hShf (s0 75) (s 75) ((2 * p + 1) * 60) (s0 4 p) (hm (s0 17) p) (¬ 0 < s0 17 p)) ∧ (∀ k, 120 * i ≤ k → s 75 k = s0 75 k)
theorem c17al {d : Nat} {Q : aQ} {s0 : aW} (k : ∀ s, Fr [57, 58, 59] s0 s → (∀ n, 0 ≤ n → n < 12 → s 57 n = 0 ∧ s 58 n = 0 ∧ s 59 n = 0) → Yx (d + 2) cd17 0 Q 37 [vr 56, vr 74, vi 0, vt, vt, vt] [] s) : ∀ (m : Nat) (i : Int) (s : aW), 0 ≤ i → i + m = 12 → Fr [57, 58, 59] s0 s → (∀ n, 0 ≤ n → n < i → s 57 n = 0 ∧ s 58 n = 0 ∧ s 59 n = 0) → Yx (d + 2) cd17 0 Q 2 [vr 56, vr 74, vi i, vt, vt, vt] [] s
  | 0, i, s, i0, im, f, h => b17l_2 ⟨fun _ => k s f (fun n n0 n1 => h n n0 (by omega)), fun z => absurd (by omega) z⟩
  | m + 1, i, s, i0, im, f, h => by
    refine b17l_2 ⟨fun z => by omega, fun _ => ⟨by omega, by omega, by omega, by omega, c17al k m (i + 1) _ (by omega) (by omega) (Fr_w (Fr_w (Fr_w f (by decide)) (by decide)) (by decide)) (fun n n0 n1 => ?_)⟩⟩
    simp only [sw, Nat.reduceEqDiff, if_true, if_false]
    by_cases e : n = i
    · rw [e, fu_s, fu_s, fu_s]
      exact ⟨rfl, rfl, rfl⟩
    · rw [fu_n e, fu_n e, fu_n e]
      exact h n n0 (by omega)
theorem c17bl {d : Nat} {Q : aQ} {s0 : aW} {P : Int} (hO : hOkl s0 P) (k : ∀ s, Fr [57, 58, 59, 75, 76] s0 s → hMvl s0 s P → Q none s) : ∀ (m : Nat) (i : Int) (s : aW), 0 ≤ i → i + m = P → Fr [57, 58, 59, 75, 76] s0 s → hMvl s0 s i → Yx (d + 2) cd17 0 Q 37 [vr 56, vr 74, vi i, vt, vt, vt] [] s
  | 0, i, s, i0, im, f, h => by
    have e : i = P := by omega
    subst e
    exact b17l_37 ⟨fun _ => k s f h, fun z => absurd (by rw [f 1 (by decide)]; exact Int.le_of_eq hO.1) z⟩
  | m + 1, i, s, i0, im, f, h => by
    obtain ⟨o1, o2, o3, o4, o5, o6⟩ := hO
    obtain ⟨h1, h2, h2', h3, h4⟩ := h
    have op := o4 i i0 (by omega)
    have s17 : s 17 = s0 17 := f 17 (by decide)
    have s2 : s 2 = s0 2 := f 2 (by decide)
    have s3 : s 3 = s0 3 := f 3 (by decide)
    have s4 : s 4 = s0 4 := f 4 (by decide)
    have hL : ∀ p, 0 ≤ p → p < P → hm (s0 17) p ≤ s0 4 p ∧ s0 4 p ≤ 60 := fun p p0 p1 => ⟨(o4 p p0 p1).2.2.2.2.1, (o4 p p0 p1).2.2.2.2.2⟩
    have em : (((s 17 i)).natAbs : Int) = hm (s0 17) i := by rw [s17]; rfl
    have m0 := hm_0 (s0 17) i
    have nz : ∀ g : Int → Int, sI g (i + 1).toNat = sI g i.toNat + g i := fun g => sI_s i0
    have fin : ∀ t : aW, Fr [57, 58, 59, 75, 76] s0 t → (∀ n, 0 ≤ n → n < 12 → t 57 n = s 57 n + (if hTo (s0 17) (s0 2) (s0 3) i = n then hm (s0 17) i else 0) + (if n = 0 then (if hFr (s0 17) (s0 2) (s0 3) i = 0 then hm (s0 17) i else 0) else 0) ∧ t 58 n = s 58 n + (if hTo (s0 17) (s0 2) (s0 3) i = n then hSO (s0 17) (s0 4) (hUol s0 0) i else 0) ∧ t 59 n = s 59 n + (if hFr (s0 17) (s0 2) (s0 3) i = n then hSB (s0 17) (s0 4) (hUol s0 1) i else 0)) → t 76 = fu (s 76) i (s0 17 i) → (hShf (s0 75) (t 75) ((2 * i + 0) * 60) (s0 4 i) (hm (s0 17) i) (0 < s0 17 i) ∧ hShf (s0 75) (t 75) ((2 * i + 1) * 60) (s0 4 i) (hm (s0 17) i) (¬ 0 < s0 17 i)) → (∀ k, ¬ (120 * i ≤ k ∧ k < 120 * i + 120) → t 75 k = s 75 k) → Yx (d + 2) cd17 0 Q 37 [vr 56, vr 74, vi (i + 1), vt, vt, vt] [] t := fun t ft g1 g2 g3 g4 => by
      refine c17bl ⟨o1, o2, o3, o4, o5, o6⟩ k m (i + 1) t (by omega) (by omega) ft ⟨fun n n0 n1 => ?_, fun p p0 p1 => ?_, fun p p0 => ?_, fun p p0 p1 => ?_, fun k k0 => ?_⟩
      · obtain ⟨a1, a2, a3⟩ := h1 n n0 n1
        obtain ⟨b1, b2, b3⟩ := g1 n n0 n1
        unfold hNi hNo hWo hWb at *
        rw [nz, nz, nz, nz]
        refine ⟨?_, by rw [b2, a2], by rw [b3, a3]⟩
        rw [b1, a1]
        by_cases z : n = 0
        · rw [if_pos z, if_pos z, if_pos z]
          omega
        · rw [if_neg z, if_neg z, if_neg z]
          omega
      · rw [g2]
        by_cases e : p = i
        · rw [e, fu_s]
        · rw [fu_n e]
          exact h2 p p0 (by omega)
      · rw [g2, fu_n (by omega)]
        exact h2' p (by omega)
      · by_cases e : p = i
        · rw [e]
          exact g3
        · have hh := h3 p p0 (by omega)
          have hq := hL p p0 (by omega)
          have mp := hm_0 (s0 17) p
          have tk : ∀ k, 120 * p ≤ k → k < 120 * p + 120 → t 75 k = s 75 k := fun k k0 k1 => g4 k (by omega)
          refine ⟨⟨fun r j j0 j1 => ?_, fun r j j0 j1 => ?_⟩, fun r j j0 j1 => ?_, fun r j j0 j1 => ?_⟩
          · rw [tk _ (by omega) (by omega)]; exact hh.1.1 r j j0 j1
          · rw [tk _ (by omega) (by omega)]; exact hh.1.2 r j j0 j1
          · rw [tk _ (by omega) (by omega)]; exact hh.2.1 r j j0 j1
          · rw [tk _ (by omega) (by omega)]; exact hh.2.2 r j j0 j1
      · rw [g4 k (by omega)]
        exact h4 k (by omega)
    refine b17l_37 ⟨fun z => absurd z (by rw [f 1 (by decide)]; omega), fun _ => ⟨by omega, by rw [s17]; unfold hm at op; omega, by omega, by omega, fun z => ?_, fun z => ⟨by omega, ?_⟩⟩⟩
    · have z' : ¬ hm (s0 17) i = 0 := by rw [← em]; exact z
      rw [em]
      have fz : ¬ s0 17 i = 0 := fun q => z' (by unfold hm; rw [q]; rfl)
      generalize hu : sw s 76 (fu (s 76) i (s 17 i)) = u
      have uk : ∀ k, ¬ k = 76 → u k = s k := fun k hk => by rw [← hu, sw_n hk]
      have uF : u 76 = fu (s 76) i (s0 17 i) := by rw [← hu, sw_s, s17]
      have u17 : u 17 = s0 17 := (uk 17 (by decide)).trans s17
      have u2 : u 2 = s0 2 := (uk 2 (by decide)).trans s2
      have u3 : u 3 = s0 3 := (uk 3 (by decide)).trans s3
      have u4 : u 4 = s0 4 := (uk 4 (by decide)).trans s4
      have fu' : Fr [57, 58, 59, 75, 76] s0 u := by rw [← hu]; exact Fr_w f (by decide)
      have uU : ∀ k, 120 * i ≤ k → u 75 k = s0 75 k := fun k hk => by rw [uk 75 (by decide)]; exact h4 k hk
      have rT : 0 ≤ hTo (s0 17) (s0 2) (s0 3) i ∧ hTo (s0 17) (s0 2) (s0 3) i < 12 := by unfold hTo; split <;> omega
      have rF : 0 ≤ hFr (s0 17) (s0 2) (s0 3) i ∧ hFr (s0 17) (s0 2) (s0 3) i < 12 := by unfold hFr; split <;> omega
      have bO := hTk_b (L := s0 4) (U := hUol s0 0) (r := 0 < s0 17 i) op.2.2.2.2.1 op.2.2.2.2.2 (fun k k0 k1 => o5 i k i0 (by omega) k0 k1)
      have bB := hTk_b (L := s0 4) (U := hUol s0 1) (r := ¬ 0 < s0 17 i) op.2.2.2.2.1 op.2.2.2.2.2 (fun k k0 k1 => o6 i k i0 (by omega) k0 k1)
      have bN : ∀ n, _ := fun n => hN_b (A := s0 2) (B := s0 3) (n := n) hL i0 (show i ≤ P by omega)
      have bW : ∀ n, _ := fun n => hW_b (A := s0 2) (B := s0 3) (n := n) hL o5 o6 i0 (show i ≤ P by omega)
      refine c15x (by omega) (by rw [u17]; exact fz) ⟨_, rfl, b17l_89_1 (c15y (by omega) (by rw [u17]; exact fz) ⟨_, rfl, b17l_97_1 ?_⟩)⟩
      rw [u17, u2, u3]
      generalize hF : hFr (s0 17) (s0 2) (s0 3) i = F at *
      generalize hT : hTo (s0 17) (s0 2) (s0 3) i = T at *
      refine ⟨by omega, by omega, by omega, e16 (b16_0 ⟨by omega, ?_⟩)⟩
      rw [u17, u4]
      generalize hρ : bi ((bi (¬ (s0 17 i) ≤ 0)) = (bi ((0 : Int) = 0))) = ρ
      have r0 : ¬ ρ = 0 ↔ 0 < s0 17 i := by rw [← hρ]; exact hRs0
      have e1 : sI (fun j => u 75 ((if ρ = 0 then (2 * i + 0) * 60 else (2 * i + 0) * 60 + s0 4 i - hm (s0 17) i) + j)) (hm (s0 17) i).toNat = hSO (s0 17) (s0 4) (hUol s0 0) i := by
        unfold hSO hTk hUol
        refine sI_c (fun j j0 j1 => ?_)
        by_cases y : 0 < s0 17 i
        · rw [if_neg (r0.2 y), if_pos y, uU _ (by omega)]
          congr 1
          omega
        · rw [if_pos (Classical.byContradiction fun w => y (r0.1 w)), if_neg y, uU _ (by omega)]
          congr 1
          omega
      refine ⟨_, rfl, b17l_129_8 (c96l (by omega) (by omega) m0 (by omega) (by omega) (fun j j0 j1 => by rw [uU _ (by omega)]; exact o5 i j i0 (by omega) j0 j1) ⟨_, rfl, b17l_132_4 ?_⟩)⟩
      rw [e1]
      obtain ⟨q1, q2⟩ := hShf_m (X := u 75) (a4 := ρ) (b := (2 * i + 0) * 60) (L := s0 4 i) (m := hm (s0 17) i) m0 (by omega) rfl
      generalize hX : (if ρ = 0 then aCp (u 75) (u 75) ((2 * i + 0) * 60 + hm (s0 17) i) ((2 * i + 0) * 60) (s0 4 i - hm (s0 17) i) else aCp (u 75) (u 75) ((2 * i + 0) * 60) ((2 * i + 0) * 60 + hm (s0 17) i) (s0 4 i - hm (s0 17) i)) = X1 at q1 q2 ⊢
      have v57 : ∀ n, 0 ≤ n → n < 12 → u 57 n = s 57 n ∧ u 58 n = s 58 n ∧ u 59 n = s 59 n := fun n _ _ => ⟨by rw [uk 57 (by decide)], by rw [uk 58 (by decide)], by rw [uk 59 (by decide)]⟩
      have aT := h1 T rT.1 rT.2
      have aF := h1 F rF.1 rF.2
      have a0 := h1 0 (by omega) (by omega)
      have cT := bW T
      have cF := bW F
      have dT := bN T
      have dF := bN F
      have d0 := bN 0
      have vT := v57 T rT.1 rT.2
      have vF := v57 F rF.1 rF.2
      have v0 := v57 0 (by omega) (by omega)
      have hso : 0 ≤ hSO (s0 17) (s0 4) (hUol s0 0) i ∧ hSO (s0 17) (s0 4) (hUol s0 0) i ≤ 720000 := by unfold hSO; omega
      have hsb : 0 ≤ hSB (s0 17) (s0 4) (hUol s0 1) i ∧ hSB (s0 17) (s0 4) (hUol s0 1) i ≤ 720000 := by unfold hSB; omega
      refine ⟨by omega, by omega, by omega, by omega, by omega, e16 (b16_0 ⟨by omega, ?_⟩)⟩
      simp only [sw_n (show (58 : Nat) ≠ 75 by decide), sw_n (show (17 : Nat) ≠ 58 by decide), sw_n (show (17 : Nat) ≠ 75 by decide), sw_n (show (4 : Nat) ≠ 75 by decide), sw_n (show (59 : Nat) ≠ 75 by decide), u17, u4]
      generalize hρ1 : bi ((bi (¬ (s0 17 i) ≤ 0)) = (bi ((1 : Int) = 0))) = ρ1
      have r1 : ¬ ρ1 = 0 ↔ ¬ 0 < s0 17 i := by rw [← hρ1]; exact hRs1
      generalize hw : sw (sw u 75 X1) 58 (fu (u 58) T (u 58 T + hSO (s0 17) (s0 4) (hUol s0 0) i)) = w
      have wU : w 75 = X1 := by rw [← hw, sw_n (by decide), sw_s]
      have w58 : w 58 = fu (u 58) T (u 58 T + hSO (s0 17) (s0 4) (hUol s0 0) i) := by rw [← hw, sw_s]
      have wk : ∀ k, ¬ k = 75 → ¬ k = 58 → w k = u k := fun k ka kb => by rw [← hw, sw_n kb, sw_n ka]
      have fw : Fr [57, 58, 59, 75, 76] s0 w := by rw [← hw]; exact Fr_w (Fr_w fu' (by decide)) (by decide)
      have wb : ∀ j, 0 ≤ j → j < s0 4 i → w 75 ((2 * i + 1) * 60 + j) = s0 75 ((2 * i + 1) * 60 + j) := fun j j0 j1 => by
        rw [wU, q2 _ (by omega)]
        exact uU _ (by omega)
      have e2 : sI (fun j => w 75 ((if ρ1 = 0 then (2 * i + 1) * 60 else (2 * i + 1) * 60 + s0 4 i - hm (s0 17) i) + j)) (hm (s0 17) i).toNat = hSB (s0 17) (s0 4) (hUol s0 1) i := by
        unfold hSB hTk hUol
        refine sI_c (fun j j0 j1 => ?_)
        by_cases y : 0 < s0 17 i
        · rw [if_pos (Classical.byContradiction fun w => (r1.1 w) y), if_neg (fun w => w y), wb j j0 (by omega)]
          congr 1
          omega
        · rw [if_neg (r1.2 y), if_pos y, show (2 * i + 1) * 60 + s0 4 i - hm (s0 17) i + j = (2 * i + 1) * 60 + (s0 4 i - hm (s0 17) i + j) by omega, wb _ (by omega) (by omega)]
      refine ⟨_, rfl, b17l_164_8 (c96l (by omega) (by omega) m0 (by omega) (by omega) (fun j j0 j1 => by rw [wb j j0 j1]; exact o6 i j i0 (by omega) j0 j1) ⟨_, rfl, b17l_167_4 ?_⟩)⟩
      rw [e2]
      obtain ⟨p1, p2⟩ := hShf_m (X := w 75) (a4 := ρ1) (b := (2 * i + 1) * 60) (L := s0 4 i) (m := hm (s0 17) i) m0 (by omega) rfl
      generalize hY : (if ρ1 = 0 then aCp (w 75) (w 75) ((2 * i + 1) * 60 + hm (s0 17) i) ((2 * i + 1) * 60) (s0 4 i - hm (s0 17) i) else aCp (w 75) (w 75) ((2 * i + 1) * 60) ((2 * i + 1) * 60 + hm (s0 17) i) (s0 4 i - hm (s0 17) i)) = X2 at p1 p2 ⊢
      have w57 : w 57 = u 57 := wk 57 (by decide) (by decide)
      have w59 : w 59 = u 59 := wk 59 (by decide) (by decide)
      simp only [sw_n (show (57 : Nat) ≠ 75 by decide), sw_n (show (59 : Nat) ≠ 75 by decide), sw_n (show (57 : Nat) ≠ 59 by decide), w57, w59]
      have sh : hShf (s0 75) X2 ((2 * i + 0) * 60) (s0 4 i) (hm (s0 17) i) (0 < s0 17 i) ∧ hShf (s0 75) X2 ((2 * i + 1) * 60) (s0 4 i) (hm (s0 17) i) (¬ 0 < s0 17 i) := by
        refine ⟨⟨fun r j j0 j1 => ?_, fun r j j0 j1 => ?_⟩, fun r j j0 j1 => ?_, fun r j j0 j1 => ?_⟩
        · rw [p2 _ (by omega), wU, q1.1 (r0.2 r) j j0 j1]
          exact uU _ (by omega)
        · rw [p2 _ (by omega), wU, q1.2 (fun y => r (r0.1 y)) j j0 j1]
          exact uU _ (by omega)
        · rw [p1.1 (r1.2 r) j j0 j1]
          exact wb j j0 (by omega)
        · rw [p1.2 (fun y => r (r1.1 y)) j j0 j1, show (2 * i + 1) * 60 + hm (s0 17) i + j = (2 * i + 1) * 60 + (hm (s0 17) i + j) by omega]
          exact wb _ (by omega) (by omega)
      have off : ∀ k, ¬ (120 * i ≤ k ∧ k < 120 * i + 120) → X2 k = s 75 k := fun k hk => by
        rw [p2 _ (by omega), wU, q2 _ (by omega), uk 75 (by decide)]
      have g58 : ∀ n, 0 ≤ n → n < 12 → w 58 n = s 58 n + (if T = n then hSO (s0 17) (s0 4) (hUol s0 0) i else 0) := fun n n0 n1 => by
        rw [w58]
        by_cases y : n = T
        · rw [y, fu_s, if_pos rfl, vT.2.1]
        · rw [fu_n y, if_neg (fun q => y q.symm), (v57 n n0 n1).2.1, Int.add_zero]
      have g59 : ∀ n, 0 ≤ n → n < 12 → fu (u 59) F (u 59 F + hSB (s0 17) (s0 4) (hUol s0 1) i) n = s 59 n + (if F = n then hSB (s0 17) (s0 4) (hUol s0 1) i else 0) := fun n n0 n1 => by
        by_cases y : n = F
        · rw [y, fu_s, if_pos rfl, vF.2.2]
        · rw [fu_n y, if_neg (fun q => y q.symm), (v57 n n0 n1).2.2, Int.add_zero]
      have g57 : ∀ n, 0 ≤ n → n < 12 → fu (u 57) T (u 57 T + hm (s0 17) i) n = s 57 n + (if T = n then hm (s0 17) i else 0) := fun n n0 n1 => by
        by_cases y : n = T
        · rw [y, fu_s, if_pos rfl, vT.1]
        · rw [fu_n y, if_neg (fun q => y q.symm), (v57 n n0 n1).1, Int.add_zero]
      have u57b : ∀ n, 0 ≤ n → n < 12 → 0 ≤ s 57 n ∧ s 57 n ≤ 4800 := fun n n0 n1 => by
        have x1 := (h1 n n0 n1).1
        have x2 := bN n
        have x3 := bN 0
        split at x1 <;> omega
      have xT := u57b T rT.1 rT.2
      have x0 := u57b 0 (by omega) (by omega)
      have g0 := g57 0 (by omega) (by omega)
      have fk : ∀ (t : aW), t = (sw (sw (sw w 75 X2) 59 (fu (u 59) F (u 59 F + hSB (s0 17) (s0 4) (hUol s0 1) i))) 57 (t 57)) → Fr [57, 58, 59, 75, 76] s0 t ∧ t 76 = fu (s 76) i (s0 17 i) ∧ t 75 = X2 ∧ t 58 = w 58 ∧ t 59 = fu (u 59) F (u 59 F + hSB (s0 17) (s0 4) (hUol s0 1) i) := fun t ht => by
        refine ⟨by rw [ht]; exact Fr_w (Fr_w (Fr_w fw (by decide)) (by decide)) (by decide), ?_, ?_, ?_, ?_⟩
        · rw [ht, sw_n (by decide), sw_n (by decide), sw_n (by decide), wk 76 (by decide) (by decide), uF]
        · rw [ht, sw_n (by decide), sw_n (by decide), sw_s]
        · rw [ht, sw_n (by decide), sw_n (by decide), sw_n (by decide)]
        · rw [ht, sw_n (by decide), sw_s]
      refine ⟨by omega, by omega, by omega, by omega, by omega, fun y => ⟨by omega, ?_⟩, fun y => ⟨by split at g0 <;> omega, by omega, ?_⟩⟩
      · obtain ⟨t1, t2, t3, t4, t5⟩ := fk (sw (sw (sw w 75 X2) 59 (fu (u 59) F (u 59 F + hSB (s0 17) (s0 4) (hUol s0 1) i))) 57 (fu (u 57) T (u 57 T + hm (s0 17) i))) (by rw [sw_s])
        refine fin _ t1 (fun n n0 n1 => ⟨?_, by rw [t4]; exact g58 n n0 n1, by rw [t5]; exact g59 n n0 n1⟩) t2 (by rw [t3]; exact sh) (fun k hk => by rw [t3]; exact off k hk)
        rw [sw_s, g57 n n0 n1, if_neg y]
        split <;> omega
      · obtain ⟨t1, t2, t3, t4, t5⟩ := fk (sw (sw (sw (sw w 75 X2) 59 (fu (u 59) F (u 59 F + hSB (s0 17) (s0 4) (hUol s0 1) i))) 57 (fu (u 57) T (u 57 T + hm (s0 17) i))) 57 (fu (fu (u 57) T (u 57 T + hm (s0 17) i)) 0 (fu (u 57) T (u 57 T + hm (s0 17) i) 0 + hm (s0 17) i))) (by rw [sw_s, sw_sw])
        refine fin _ t1 (fun n n0 n1 => ⟨?_, by rw [t4]; exact g58 n n0 n1, by rw [t5]; exact g59 n n0 n1⟩) t2 (by rw [t3]; exact sh) (fun k hk => by rw [t3]; exact off k hk)
        rw [sw_s, if_pos y]
        by_cases y0 : n = 0
        · rw [y0, fu_s, if_pos rfl, g57 0 (by omega) (by omega)]
        · rw [fu_n y0, if_neg y0, g57 n n0 n1, Int.add_zero]
    · have z' : hm (s0 17) i = 0 := by rw [← em]; exact z
      have f0 : s0 17 i = 0 := by unfold hm at z'; omega
      refine fin _ (Fr_w f (by decide)) (fun n n0 n1 => ?_) (by rw [sw_s, s17]) ?_ (fun k hk => by rw [sw_n (by decide)])
      · rw [sw_n (by decide), sw_n (by decide), sw_n (by decide), z', hSO, hSB, hTk_0 z', hTk_0 z']
        refine ⟨?_, ?_, ?_⟩ <;> simp
      · rw [sw_n (by decide), z']
        have e : ∀ k, 120 * i ≤ k → s 75 k = s0 75 k := h4
        refine ⟨⟨fun r j j0 j1 => ?_, fun r j j0 j1 => ?_⟩, fun r j j0 j1 => ?_, fun r j j0 j1 => ?_⟩ <;> (rw [e _ (by omega)]; congr 1; omega)
theorem c17l {d : Nat} {Q : aQ} {s0 : aW} {P : Int} (hO : hOkl s0 P) (k : ∀ s, Fr [57, 58, 59, 75, 76] s0 s → hMvl s0 s P → Q none s) : aEv (d + 2) true 17 [vr 56, vr 74] s0 Q := by
  refine e17l (b17l_0 (c17al (s0 := s0) (fun s f h => ?_) 12 0 s0 (Int.le_refl _) (by omega) Fr_r (fun n n0 n1 => by omega)))
  have hk : ∀ k, k ∉ ([57, 58, 59] : List Nat) → s k = s0 k := fun k hk => f k hk
  have hO' : hOkl s P := by
    unfold hOkl hUol at *
    rw [hk 1 (by decide), hk 2 (by decide), hk 3 (by decide), hk 4 (by decide), hk 17 (by decide), hk 75 (by decide)]
    exact hO
  refine c17bl hO' (fun t ft ht => k t (Fr_t f ft (fun a ha => ⟨fun z => ha (by simp at z ⊢; omega), ha⟩)) ?_) P.toNat 0 s (Int.le_refl _) (by have := hO.2.1; omega) Fr_r ?_
  · unfold hMvl hUol at *
    rw [hk 2 (by decide), hk 3 (by decide), hk 4 (by decide), hk 17 (by decide), hk 75 (by decide), hk 76 (by decide)] at ht
    exact ht
  · refine ⟨fun n n0 n1 => ?_, fun p p0 p1 => by omega, fun _ _ => rfl, fun p p0 p1 => by omega, fun _ _ => rfl⟩
    obtain ⟨a1, a2, a3⟩ := h n n0 n1
    rw [a1, a2, a3]
    refine ⟨?_, rfl, rfl⟩
    show (0 : Int) = 0 + (if n = 0 then 0 else 0)
    split <;> rfl
end
