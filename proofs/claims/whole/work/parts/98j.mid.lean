section
/-! the hour: the pure middle -/
theorem wFS_W {ν : aW} {wf : Int → Int} {nH : Int} (hN : wN ν) (hZ : ∀ p, 0 ≤ p → p < ν 96 6 → 0 ≤ ν 104 p) (hH : ∀ h, 0 ≤ h → h < nH → 1 ≤ ν 109 h ∧ ν 109 h < ν 96 5) : ∀ i : Nat, (i : Int) ≤ nH → ∀ p, 0 ≤ p → p < ν 96 6 → -(ν 104 p) ≤ (wFS ν wf nH i).1 p ∧ (wFS ν wf nH i).1 p ≤ ν 104 p
  | 0, _ => fun p p0 p1 => by
    have := hZ p p0 p1
    show -(ν 104 p) ≤ (0 : Int) ∧ (0 : Int) ≤ ν 104 p
    omega
  | i + 1, hi => fun p p0 p1 => by
    have ih := wFS_W (wf := wf) hN hZ hH i (by omega)
    obtain ⟨h, h0, h1, h2⟩ := gF_ex (q := ν 111) (n := nH) (i := i) (by omega) (by omega)
    have eh := wH_u h0 h1 h2
    have e : wFS ν wf nH (i + 1) = wOne ν wf (wFS ν wf nH i) h := by rw [eh]; rfl
    rw [e]
    have hh := hH h h0 h1
    have d := wOk_r (w := wf h) (s := ((wFS ν wf nH i).1, 0, fun _ => 0)) hN (show 0 ≤ ν 109 h by omega) hh.2 ⟨ih, fun p => ⟨Int.le_refl _, Int.le_refl _⟩, Int.le_refl _⟩
    exact d.1 p p0 p1
theorem wRes_W {σ : aW} {a dr : Int} (hN : INet σ) (p : Int) (p0 : 0 ≤ p) (p1 : p < σ 96 6) : -(σ 104 p) ≤ (wRes σ a dr).1 p ∧ (wRes σ a dr).1 p ≤ σ 104 p := by
  have hn := hN.1
  unfold Nn at hn
  have := wFS_W (wf := wWf σ a dr) (nH := σ 96 7) (wN_of hN) (fun p p0 p1 => ?_) (fun h h0 h1 => ?_) (σ 96 7).toNat (by omega) p p0 (by rw [fN_6]; exact p1)
  · rw [fN_k (k := 104) (by omega)] at this
    exact this
  · rw [fN_6] at p1
    have := hN.2.1 p p0 p1
    unfold Np at this
    rw [fN_k (k := 104) (by omega)]
    omega
  · have := hN.2.2.2.2 h h0 h1
    unfold Nh at this
    rw [fN_k (k := 109) (by omega), fN_5]
    omega
theorem sI_mn {f : Int → Int} : ∀ {n m : Nat}, n ≤ m → (∀ i : Int, 0 ≤ i → i < m → 0 ≤ f i) → sI f n ≤ sI f m
  | n, 0, h, _ => by
    have : n = 0 := by omega
    rw [this]
    exact Int.le_refl _
  | n, m + 1, h, hf => by
    by_cases e : n = m + 1
    · rw [e]
      exact Int.le_refl _
    · have i1 := sI_mn (n := n) (m := m) (by omega) (fun i i0 i1 => hf i i0 (by omega))
      have i2 := hf m (by omega) (by omega)
      show sI f n ≤ sI f m + f m
      omega
theorem sI_pt {f : Int → Int} {p : Int} {n : Nat} (p0 : 0 ≤ p) (p1 : p < n) (hf : ∀ i : Int, 0 ≤ i → i < n → 0 ≤ f i) : f p ≤ sI f n := by
  have a := sI_mn (n := (p + 1).toNat) (m := n) (by omega) hf
  have b := sI_mn (n := 0) (m := p.toNat) (f := f) (by omega) (fun i i0 i1 => hf i i0 (by omega))
  rw [sI_s p0] at a
  rw [sI_n] at b
  omega
theorem hGi_m {nd mm : Int → Int} {n i j : Int} (h : i ≤ j) (hf : ∀ q, 0 ≤ q → q < j → 0 ≤ mm q) : hGi nd mm n i ≤ hGi nd mm n j := by
  refine sI_mn (by omega) (fun q q0 q1 => ?_)
  show 0 ≤ (if nd q = n then mm q else 0)
  split
  · exact hf q q0 (by omega)
  · exact Int.le_refl _
theorem hGi_0 {nd mm : Int → Int} {n i : Int} (hf : ∀ q, 0 ≤ q → q < i → 0 ≤ mm q) : 0 ≤ hGi nd mm n i := by
  by_cases z : 0 ≤ i
  · exact hGi_m (i := 0) z hf
  · unfold hGi
    rw [show i.toNat = 0 by omega]
    exact Int.le_refl _
theorem hGi_p {nd mm : Int → Int} {p j : Int} (p0 : 0 ≤ p) (p1 : p < j) (hf : ∀ q, 0 ≤ q → q < j → 0 ≤ mm q) : mm p ≤ hGi nd mm (nd p) j := by
  have := sI_pt (f := fun q => if nd q = nd p then mm q else 0) (p := p) (n := j.toNat) p0 (by omega) (fun q q0 q1 => by
    show 0 ≤ (if nd q = nd p then mm q else 0)
    split
    · exact hf q q0 (by omega)
    · exact Int.le_refl _)
  simp only [if_true] at this
  exact this
theorem hGi_s {nd mm : Int → Int} {n i : Int} (i0 : 0 ≤ i) : hGi nd mm n (i + 1) = hGi nd mm n i + (if nd i = n then mm i else 0) := sI_s i0
theorem hGi_c {nd nd' mm mm' : Int → Int} {n i : Int} (h : ∀ q, 0 ≤ q → q < i → nd q = nd' q ∧ mm q = mm' q) : hGi nd mm n i = hGi nd' mm' n i := sI_c (fun q q0 q1 => by
  have := h q q0 (by omega)
  show (if nd q = n then mm q else 0) = (if nd' q = n then mm' q else 0)
  rw [this.1, this.2])
theorem hGi_l {nd mm mm' : Int → Int} {n i c : Int} (hc : 0 ≤ c) (h : ∀ q, 0 ≤ q → q < i → 0 ≤ mm q ∧ mm q ≤ c * mm' q) : 0 ≤ hGi nd mm n i ∧ hGi nd mm n i ≤ c * hGi nd mm' n i := by
  have key : ∀ m : Nat, (m : Int) ≤ i → hGi nd mm n m ≤ c * hGi nd mm' n m := by
    intro m
    induction m with
    | zero => intro _; show (0 : Int) ≤ c * 0; omega
    | succ m ih =>
      intro hm
      have a := h m (by omega) (by omega)
      have b := ih (by omega)
      have e1 := hGi_s (nd := nd) (mm := mm) (n := n) (i := m) (by omega)
      have e2 := hGi_s (nd := nd) (mm := mm') (n := n) (i := m) (by omega)
      rw [show ((m + 1 : Nat) : Int) = (m : Int) + 1 by omega, e1, e2, Int.mul_add]
      split
      · omega
      · rw [Int.mul_zero]; omega
  refine ⟨hGi_0 (fun q q0 q1 => (h q q0 q1).1), ?_⟩
  by_cases z : 0 ≤ i
  · have := key i.toNat (by omega)
    rw [show ((i.toNat : Nat) : Int) = i by omega] at this
    exact this
  · unfold hGi
    rw [show i.toNat = 0 by omega]
    show (0 : Int) ≤ c * 0
    omega
def qA (σ : aW) (w : Int → Int) : Int := σ 114 (w 2532)
def qE (σ : aW) (w : Int → Int) (h : Int) : Int → Int := mEf h (sw σ 120 w)
def qD (σ : aW) (l : List rRu) (w : Int → Int) : Int := rAns (qE σ w (-1)) 1 l 5 60 30
noncomputable def qf (σ : aW) (l : List rRu) (w : Int → Int) : Int → Int := (wRes σ (qA σ w) (qD σ l w)).1
noncomputable def qg (σ : aW) (l : List rRu) (w : Int → Int) : Int → Int := (wRes σ (qA σ w) (qD σ l w)).2.1
noncomputable def qs (σ : aW) (l : List rRu) (w : Int → Int) : Int → Int → Int := (wRes σ (qA σ w) (qD σ l w)).2.2
def qSd (σ : aW) (l : List rRu) (w : Int → Int) : Int := rAns (qE σ w (-1)) 0 l 40 120 70
def qPr (σ : aW) (l : List rRu) (w : Int → Int) (h : Int) : Int := rAns (qE σ w h) 2 l 0 1000 10
def qLp (σ : aW) (l : List rRu) (w : Int → Int) (h : Int) : Int := rAns (qE σ w h) 3 l 0 1000 0
def qU0 (w : Int → Int) (p k : Int) : Int := w (60 * p + k)
def qU1 (w : Int → Int) (p k : Int) : Int := w (1200 + 60 * p + k)
noncomputable def qm (σ : aW) (l : List rRu) (w : Int → Int) : Int → Int := hm (qf σ l w)
noncomputable def qFr (σ : aW) (l : List rRu) (w : Int → Int) : Int → Int := hFr (qf σ l w) (σ 101) (σ 102)
noncomputable def qTo (σ : aW) (l : List rRu) (w : Int → Int) : Int → Int := hTo (qf σ l w) (σ 101) (σ 102)
noncomputable def qNo (σ : aW) (l : List rRu) (w : Int → Int) (n : Int) : Int := hGi (qFr σ l w) (qm σ l w) n (σ 96 6)
noncomputable def qNi (σ : aW) (l : List rRu) (w : Int → Int) (n : Int) : Int := hGi (qTo σ l w) (qm σ l w) n (σ 96 6)
noncomputable def qN (σ : aW) (l : List rRu) (w : Int → Int) (n : Int) : Int := if n = 0 then qNo σ l w 0 else qNi σ l w n
noncomputable def qB0 (σ : aW) (l : List rRu) (w : Int → Int) (n : Int) : Int := hWb (qf σ l w) (σ 101) (σ 102) (σ 103) (qU1 w) n (σ 96 6)
noncomputable def qO0 (σ : aW) (l : List rRu) (w : Int → Int) (n : Int) : Int := hWo (qf σ l w) (σ 101) (σ 102) (σ 103) (qU0 w) n (σ 96 6)
noncomputable def qX (σ : aW) (l : List rRu) (w : Int → Int) : Int := hNe (qSd σ l w) (qN σ l w 0) (qB0 σ l w 0)
noncomputable def qWo (σ : aW) (l : List rRu) (w : Int → Int) (n : Int) : Int := if n = 0 then qB0 σ l w 0 + hMd σ (w 2532) (w 2533) (qX σ l w) else qO0 σ l w n
def hFl (f L : Int → Int) (U : Int → Int → Int) (r : Prop) [Decidable r] (W N G : Int) (p k : Int) : Int := if f p = 0 then U p k else if r then (if k < hm f p then hGv W N (G + (hm f p - 1 - k)) 1 else U p (k - hm f p)) else (if k < L p - hm f p then U p (k + hm f p) else hGv W N (G + (k - (L p - hm f p))) 1)
noncomputable def qV0 (σ : aW) (l : List rRu) (w : Int → Int) (p k : Int) : Int := hFl (qf σ l w) (σ 103) (qU0 w) (0 < qf σ l w p) (qWo σ l w (qFr σ l w p)) (qN σ l w (qFr σ l w p)) (hGi (qFr σ l w) (qm σ l w) (qFr σ l w p) p) p k
noncomputable def qGh (σ : aW) (l : List rRu) (w : Int → Int) (n h : Int) : Int := qNo σ l w n + hGi (σ 109) (qg σ l w) n h
noncomputable def qWm (σ : aW) (l : List rRu) (w : Int → Int) (h : Int) : Int := hGv (qWo σ l w (σ 109 h)) (qN σ l w (σ 109 h)) (qGh σ l w (σ 109 h) h) (qg σ l w h)
def qNd (σ : aW) (w : Int → Int) (h : Int) : Int := 100 * (σ 110 h * max 0 (20 - qA σ w))
noncomputable def qUs (σ : aW) (l : List rRu) (w : Int → Int) (h : Int) : Int := hUs (qNd σ w h) (qWm σ l w h) (σ 96 11) (qg σ l w h)
noncomputable def qLf (σ : aW) (l : List rRu) (w : Int → Int) (h : Int) : Int := qWm σ l w h - qUs σ l w h
noncomputable def qWb (σ : aW) (l : List rRu) (w : Int → Int) (n : Int) : Int := qB0 σ l w n + hGi (σ 109) (qLf σ l w) n (σ 96 7)
noncomputable def qV1 (σ : aW) (l : List rRu) (w : Int → Int) (p k : Int) : Int := hFl (qf σ l w) (σ 103) (qU1 w) (¬ 0 < qf σ l w p) (qWb σ l w (qTo σ l w p)) (qN σ l w (qTo σ l w p)) (hGi (qTo σ l w) (qm σ l w) (qTo σ l w p) p) p k
noncomputable def qC0 (σ : aW) (l : List rRu) (w : Int → Int) (p k : Int) : Int := hCl (σ 96 10) (σ 105 p) (qV0 σ l w p k)
noncomputable def qC1 (σ : aW) (l : List rRu) (w : Int → Int) (p k : Int) : Int := hCl (σ 96 10) (σ 105 p) (qV1 σ l w p k)
noncomputable def qLo (σ : aW) (l : List rRu) (w : Int → Int) (p : Int) : Int := sI (qC0 σ l w p) (σ 103 p).toNat + sI (qC1 σ l w p) (σ 103 p).toNat
noncomputable def qBp (σ : aW) (l : List rRu) (w : Int → Int) (h p : Int) : Int := if qf σ l w p = 0 then 0 else hBl (qLo σ l w p) (qs σ l w h p) (qm σ l w p) (qLp σ l w h)
noncomputable def qBl (σ : aW) (l : List rRu) (w : Int → Int) (h i : Int) : Int := sI (qBp σ l w h) i.toNat
/-- the static part of the world -/
def qI (σ : aW) : Prop := INet σ ∧ IAr σ ∧ IOf σ ∧ IDp σ ∧ IBo σ ∧ 0 ≤ σ 96 10 ∧ σ 96 10 ≤ 20 ∧ 15 ≤ σ 96 11 ∧ σ 96 11 ≤ 50
/-- bounds of a state -/
def qB (σ : aW) (w : Int → Int) : Prop := (∀ p k, 0 ≤ p → p < σ 96 6 → 0 ≤ k → k < σ 103 p → (0 ≤ qU0 w p k ∧ qU0 w p k ≤ 12000) ∧ 0 ≤ qU1 w p k ∧ qU1 w p k ≤ 12000) ∧ (σ 120 2532 ≤ w 2532 ∧ 0 ≤ σ 120 2532 ∧ w 2532 ≤ 5048 ∧ 0 ≤ w 2533 ∧ w 2533 ≤ 1000000 ∧ 0 ≤ w 2534 ∧ w 2534 ≤ 12000 ∧ -1 ≤ w 2535 ∧ w 2535 ≤ 2000000000) ∧ (∀ h, 0 ≤ h → h < 16 → 0 ≤ w (2480 + h) ∧ w (2480 + h) ≤ 2000 ∧ (w (2480 + h) = 0 → w (2496 + h) = -1) ∧ -1 ≤ w (2496 + h) ∧ w (2496 + h) ≤ 2000000000 ∧ 0 ≤ w (2400 + h) ∧ w (2400 + h) ≤ w 2532 ∧ 0 ≤ w (2416 + h) ∧ w (2416 + h) ≤ 1000000000 * w 2532 ∧ 0 ≤ w (2432 + h) ∧ w (2432 + h) ≤ 1000000000 * w 2532 ∧ 0 ≤ w (2448 + h) ∧ w (2448 + h) ≤ 1000000000 * w 2532 ∧ 0 ≤ w (2464 + h) ∧ w (2464 + h) ≤ 1000000000 * w 2532) ∧ (∀ p, 0 ≤ p → p < 20 → -60 ≤ w (2512 + p) ∧ w (2512 + p) ≤ 60) ∧ (∀ i, 0 ≤ i → i < 6 → 0 ≤ w (2536 + i) ∧ w (2536 + i) ≤ 1000000000 * w 2532)
/-- what the pipes are -/
theorem qp {σ : aW} (hI : qI σ) (l : List rRu) (w : Int → Int) {p : Int} (p0 : 0 ≤ p) (p1 : p < σ 96 6) : 0 ≤ qm σ l w p ∧ qm σ l w p ≤ σ 103 p ∧ 4 ≤ σ 103 p ∧ σ 103 p ≤ 60 ∧ -60 ≤ qf σ l w p ∧ qf σ l w p ≤ 60 ∧ 0 ≤ σ 105 p ∧ σ 105 p ≤ 200 ∧ p < 20 ∧ 0 ≤ qFr σ l w p ∧ qFr σ l w p < 12 ∧ 0 ≤ qTo σ l w p ∧ qTo σ l w p < 12 ∧ (¬ qf σ l w p = 0 → 0 < qm σ l w p) := by
  have hn := hI.1.1
  have hp := hI.1.2.1 p p0 p1
  unfold Nn at hn
  unfold Np at hp
  have hW := wRes_W (a := qA σ w) (dr := qD σ l w) hI.1 p p0 p1
  have e : (wRes σ (qA σ w) (qD σ l w)).1 p = qf σ l w p := rfl
  rw [e] at hW
  unfold qm hm qFr qTo hFr hTo
  refine ⟨by omega, by omega, by omega, by omega, by omega, by omega, by omega, by omega, by omega, ?_, ?_, ?_, ?_, by omega⟩
  all_goals split <;> omega
theorem qgs {σ : aW} (hI : qI σ) (l : List rRu) (w : Int → Int) : (∀ h, 0 ≤ qg σ l w h) ∧ (∀ h p, 0 ≤ qs σ l w h p ∧ qs σ l w h p ≤ qm σ l w p) := ⟨(wRes_D hI.1).2.2, fun h p => wRes_S hI.1 h p⟩
theorem qNn {σ : aW} (hI : qI σ) (l : List rRu) (w : Int → Int) (n : Int) : (0 ≤ qNo σ l w n ∧ qNo σ l w n ≤ 1200) ∧ (0 ≤ qNi σ l w n ∧ qNi σ l w n ≤ 1200) ∧ (¬ n = 0 → qNi σ l w n = qNo σ l w n + hGi (σ 109) (qg σ l w) n (σ 96 7)) ∧ qNi σ l w 0 = 0 := by
  have hn := hI.1.1
  unfold Nn at hn
  have b := hN_b (f := qf σ l w) (A := σ 101) (B := σ 102) (L := σ 103) (P := σ 96 6) (n := n) (i := σ 96 6) (fun p p0 p1 => by have := qp hI l w p0 p1; exact ⟨this.2.1, this.2.2.2.1⟩) (by omega) (Int.le_refl _)
  have e1 : hNi (qf σ l w) (σ 101) (σ 102) n (σ 96 6) = qNi σ l w n := rfl
  have e2 : hNo (qf σ l w) (σ 101) (σ 102) n (σ 96 6) = qNo σ l w n := rfl
  rw [e1, e2] at b
  refine ⟨by omega, by omega, fun nz => ?_, ?_⟩
  · have := hN_e (a := qA σ w) (dr := qD σ l w) hI.1 nz
    have e3 : hHs (fN σ) (wRes σ (qA σ w) (qD σ l w)).2.1 (σ 96 7) n = hGi (σ 109) (qg σ l w) n (σ 96 7) := sI_c (fun h h0 h1 => by
      show (if ¬ fN σ 109 h = n then 0 else qg σ l w h) = (if σ 109 h = n then qg σ l w h else 0)
      rw [fN_k (k := 109) (by omega)]
      by_cases z : σ 109 h = n
      · rw [if_neg (fun y => y z), if_pos z]
      · rw [if_pos z, if_neg z])
    rw [e3] at this
    exact this
  · have := hN_0 (wRes_D (a := qA σ w) (dr := qD σ l w) hI.1).2.1
    rw [fN_k (k := 101) (by omega), fN_k (k := 102) (by omega), fN_6] at this
    exact this
end
