section
/-! the hour: bounds of the middle -/
theorem hTo_z {σ : aW} (hI : qI σ) (l : List rRu) (w : Int → Int) {p : Int} (p0 : 0 ≤ p) (p1 : p < σ 96 6) (fz : ¬ qf σ l w p = 0) : ¬ qTo σ l w p = 0 := by
  intro z
  have h := qp hI l w p0 p1
  have a := hGi_p (nd := qTo σ l w) (mm := qm σ l w) p0 p1 (fun q q0 q1 => (qp hI l w q0 q1).1)
  have b := (qNn hI l w 0).2.2.2
  unfold qNi at b
  rw [z] at a
  have := h.2.2.2.2.2.2.2.2.2.2.2.2.2 fz
  omega
theorem qN_p {σ : aW} (hI : qI σ) (l : List rRu) (w : Int → Int) {p : Int} (p0 : 0 ≤ p) (p1 : p < σ 96 6) (fz : ¬ qf σ l w p = 0) : 0 < qN σ l w (qFr σ l w p) ∧ 0 < qN σ l w (qTo σ l w p) := by
  have hh := (qp hI l w p0 p1).2.2.2.2.2.2.2.2.2.2.2.2.2 fz
  have a := hGi_p (nd := qTo σ l w) (mm := qm σ l w) p0 p1 (fun q q0 q1 => (qp hI l w q0 q1).1)
  have b := hGi_p (nd := qFr σ l w) (mm := qm σ l w) p0 p1 (fun q q0 q1 => (qp hI l w q0 q1).1)
  have tz := hTo_z hI l w p0 p1 fz
  have c := qNn hI l w (qFr σ l w p)
  have g := hGi_0 (nd := σ 109) (n := qFr σ l w p) (i := σ 96 7) (fun q _ _ => (qgs hI l w).1 q)
  unfold qN
  rw [if_neg tz]
  refine ⟨?_, by unfold qNi; omega⟩
  by_cases z : qFr σ l w p = 0
  · rw [if_pos z]
    unfold qNo
    rw [z] at b
    omega
  · rw [if_neg z, c.2.2.1 z]
    unfold qNo
    omega
theorem qN_b {σ : aW} (hI : qI σ) (l : List rRu) (w : Int → Int) (n : Int) : 0 ≤ qN σ l w n ∧ qN σ l w n ≤ 1200 ∧ qNo σ l w n ≤ qN σ l w n := by
  have c := qNn hI l w n
  have g := hGi_0 (nd := σ 109) (n := n) (i := σ 96 7) (fun q _ _ => (qgs hI l w).1 q)
  unfold qN
  by_cases z : n = 0
  · rw [if_pos z, ← z]
    omega
  · rw [if_neg z]
    have := c.2.2.1 z
    omega
theorem qW0 {σ : aW} {w : Int → Int} (hI : qI σ) (l : List rRu) (hB : qB σ w) (n : Int) : (0 ≤ qO0 σ l w n ∧ qO0 σ l w n ≤ 12000 * qNi σ l w n) ∧ (0 ≤ qB0 σ l w n ∧ qB0 σ l w n ≤ 12000 * qNo σ l w n) := by
  have hn := hI.1.1
  unfold Nn at hn
  exact hW_b (f := qf σ l w) (A := σ 101) (B := σ 102) (L := σ 103) (U := qU0 w) (V := qU1 w) (P := σ 96 6) (n := n) (i := σ 96 6) (fun p p0 p1 => by have := qp hI l w p0 p1; exact ⟨this.2.1, this.2.2.2.1⟩) (fun p k p0 p1 k0 k1 => (hB.1 p k p0 p1 k0 k1).1) (fun p k p0 p1 k0 k1 => (hB.1 p k p0 p1 k0 k1).2) (by omega) (Int.le_refl _)
theorem qSd_b {σ : aW} {l : List rRu} {w : Int → Int} : 40 ≤ qSd σ l w ∧ qSd σ l w ≤ 120 := rAns_b (by decide) (by decide)
theorem qXb {σ : aW} {w : Int → Int} (hI : qI σ) (l : List rRu) (hB : qB σ w) : 0 ≤ qX σ l w ∧ qX σ l w ≤ 100000000 ∧ qB0 σ l w 0 + qX σ l w ≤ 12000 * qN σ l w 0 := by
  have a := qW0 hI l hB 0
  have b := qN_b hI l w 0
  have s := qSd_b (σ := σ) (l := l) (w := w)
  have e : qN σ l w 0 = qNo σ l w 0 := if_pos rfl
  have p0 : 0 ≤ qSd σ l w * 100 * qN σ l w 0 := Int.mul_nonneg (by omega) b.1
  have p1 : qSd σ l w * 100 * qN σ l w 0 ≤ 12000 * qN σ l w 0 := Int.mul_le_mul_of_nonneg_right (by omega) b.1
  unfold qX hNe
  rw [← e] at a
  omega
theorem qMk {σ : aW} {w : Int → Int} (hI : qI σ) (l : List rRu) (hB : qB σ w) : 0 ≤ hMd σ (w 2532) (w 2533) (qX σ l w) ∧ hMd σ (w 2532) (w 2533) (qX σ l w) ≤ qX σ l w := by
  have x := qXb hI l hB
  obtain ⟨_, hA, hO, hD, hBo, _⟩ := hI
  have t := hB.2.1
  exact hMd_b hD hBo hO t.1 (by omega) ⟨t.2.2.2.1, t.2.2.2.2.1⟩ ⟨x.1, by omega⟩
theorem qWob {σ : aW} {w : Int → Int} (hI : qI σ) (l : List rRu) (hB : qB σ w) (n : Int) : 0 ≤ qWo σ l w n ∧ qWo σ l w n ≤ 12000 * qN σ l w n := by
  have a := qW0 hI l hB n
  unfold qWo
  by_cases z : n = 0
  · rw [if_pos z, z]
    have a := qW0 hI l hB 0
    have x := qXb hI l hB
    have m := qMk hI l hB
    omega
  · rw [if_neg z]
    unfold qN
    rw [if_neg z]
    exact a.1
theorem hGv_z {W g a : Int} : hGv W 0 g a = 0 := by
  unfold hGv
  rw [Int.ediv_zero, Int.ediv_zero]
  rfl
/-- what the houses are -/
theorem qh {σ : aW} {w : Int → Int} (hI : qI σ) (l : List rRu) (hB : qB σ w) {h : Int} (h0 : 0 ≤ h) (h1 : h < σ 96 7) : h < 16 ∧ 1 ≤ σ 109 h ∧ σ 109 h < 12 ∧ 0 ≤ qg σ l w h ∧ qg σ l w h ≤ qN σ l w (σ 109 h) ∧ 0 ≤ qWm σ l w h ∧ qWm σ l w h ≤ 12000 * qg σ l w h ∧ 0 ≤ qNd σ w h ∧ qNd σ w h ≤ 300000 ∧ 0 ≤ qUs σ l w h ∧ qUs σ l w h ≤ qNd σ w h ∧ qUs σ l w h ≤ qWm σ l w h ∧ 0 ≤ qGh σ l w (σ 109 h) h ∧ qGh σ l w (σ 109 h) h ≤ 1200 ∧ -40 ≤ qA σ w ∧ qA σ w ≤ 40 := by
  have hn := hI.1.1
  have hh := hI.1.2.2.2.2 h h0 h1
  unfold Nn at hn
  unfold Nh at hh
  have g0 := (qgs hI l w).1
  have gp := hGi_p (nd := σ 109) (mm := qg σ l w) h0 h1 (fun q _ _ => g0 q)
  have gm := hGi_m (nd := σ 109) (mm := qg σ l w) (n := σ 109 h) (i := h) (j := σ 96 7) (by omega) (fun q _ _ => g0 q)
  have g1 := hGi_0 (nd := σ 109) (mm := qg σ l w) (n := σ 109 h) (i := h) (fun q _ _ => g0 q)
  have c := qNn hI l w (σ 109 h)
  have nz : ¬ σ 109 h = 0 := by omega
  have cn := c.2.2.1 nz
  have eN : qN σ l w (σ 109 h) = qNi σ l w (σ 109 h) := if_neg nz
  have wb := qWob hI l hB (σ 109 h)
  have a0 := hI.2.1.2.2.2.2 (w 2532) hB.2.1.1 (by have := hB.2.1; omega)
  have ea : qA σ w = σ 114 (w 2532) := rfl
  have nb := nd_b (x := σ 110 h) (a := qA σ w) (by omega) (by omega) (by omega)
  have gq : qg σ l w h ≤ qN σ l w (σ 109 h) := by omega
  have wm : 0 ≤ qWm σ l w h ∧ qWm σ l w h ≤ 12000 * qg σ l w h := by
    unfold qWm
    by_cases z : qN σ l w (σ 109 h) = 0
    · rw [z, hGv_z]
      have := g0 h
      omega
    · exact hGv_b (by omega) wb.1 wb.2 (g0 h)
  have ub := hUs_b (need := qNd σ w h) (warm := qWm σ l w h) (least := σ 96 11) (got := qg σ l w h) (by unfold qNd; omega) wm.1 (by have := hI.2.2.2.2.2; omega) (g0 h)
  have eU : qUs σ l w h = hUs (qNd σ w h) (qWm σ l w h) (σ 96 11) (qg σ l w h) := rfl
  have eG : qGh σ l w (σ 109 h) h = qNo σ l w (σ 109 h) + hGi (σ 109) (qg σ l w) (σ 109 h) h := rfl
  have eD : qNd σ w h = 100 * (σ 110 h * max 0 (20 - qA σ w)) := rfl
  rw [eU]
  exact ⟨by omega, by omega, by omega, g0 h, gq, wm.1, wm.2, by omega, by omega, ub.1, ub.2.1, ub.2.2, by omega, by omega, by omega, by omega⟩
theorem qWbb {σ : aW} {w : Int → Int} (hI : qI σ) (l : List rRu) (hB : qB σ w) {n : Int} (nz : ¬ n = 0) : 0 ≤ qWb σ l w n ∧ qWb σ l w n ≤ 12000 * qN σ l w n := by
  have a := (qW0 hI l hB n).2
  have b := hGi_l (nd := σ 109) (mm := qLf σ l w) (mm' := qg σ l w) (n := n) (i := σ 96 7) (c := 12000) (by decide) (fun h h0 h1 => by
    have := qh hI l hB h0 h1
    unfold qLf
    omega)
  have c := (qNn hI l w n).2.2.1 nz
  have eN : qN σ l w n = qNi σ l w n := if_neg nz
  unfold qWb
  omega
theorem hFl_b {f L : Int → Int} {U : Int → Int → Int} {r : Prop} [Decidable r] {W N G p k : Int} (hU : ∀ j, 0 ≤ j → j < L p → 0 ≤ U p j ∧ U p j ≤ 12000) (hm1 : hm f p ≤ L p) (k0 : 0 ≤ k) (k1 : k < L p) (hN : ¬ f p = 0 → 0 < N) (w0 : ¬ f p = 0 → 0 ≤ W ∧ W ≤ 12000 * N) : 0 ≤ hFl f L U r W N G p k ∧ hFl f L U r W N G p k ≤ 12000 := by
  have m0 := hm_0 f p
  unfold hFl
  by_cases z : f p = 0
  · rw [if_pos z]
    exact hU k k0 k1
  · rw [if_neg z]
    have g := fun x => hGv_b (g := x) (a := 1) (hN z) (w0 z).1 (w0 z).2 (by decide)
    repeat' split
    · have := g (G + (hm f p - 1 - k)); omega
    · exact hU _ (by omega) (by omega)
    · exact hU _ (by omega) (by omega)
    · have := g (G + (k - (L p - hm f p))); omega
theorem qVb {σ : aW} {w : Int → Int} (hI : qI σ) (l : List rRu) (hB : qB σ w) {p k : Int} (p0 : 0 ≤ p) (p1 : p < σ 96 6) (k0 : 0 ≤ k) (k1 : k < σ 103 p) : (0 ≤ qV0 σ l w p k ∧ qV0 σ l w p k ≤ 12000) ∧ (0 ≤ qV1 σ l w p k ∧ qV1 σ l w p k ≤ 12000) := by
  have h := qp hI l w p0 p1
  refine ⟨hFl_b (fun j j0 j1 => (hB.1 p j p0 p1 j0 j1).1) h.2.1 k0 k1 (fun fz => (qN_p hI l w p0 p1 fz).1) (fun fz => qWob hI l hB _), hFl_b (fun j j0 j1 => (hB.1 p j p0 p1 j0 j1).2) h.2.1 k0 k1 (fun fz => (qN_p hI l w p0 p1 fz).2) (fun fz => qWbb hI l hB (hTo_z hI l w p0 p1 fz))⟩
theorem qCb {σ : aW} {w : Int → Int} (hI : qI σ) (l : List rRu) (hB : qB σ w) {p k : Int} (p0 : 0 ≤ p) (p1 : p < σ 96 6) (k0 : 0 ≤ k) (k1 : k < σ 103 p) : (0 ≤ qC0 σ l w p k ∧ qC0 σ l w p k ≤ qV0 σ l w p k) ∧ (0 ≤ qC1 σ l w p k ∧ qC1 σ l w p k ≤ qV1 σ l w p k) := by
  have h := qp hI l w p0 p1
  have v := qVb hI l hB p0 p1 k0 k1
  have t := hI.2.2.2.2.2
  exact ⟨hCl_b t.1 ⟨by omega, by omega⟩ v.1.1, hCl_b t.1 ⟨by omega, by omega⟩ v.2.1⟩
theorem qLob {σ : aW} {w : Int → Int} (hI : qI σ) (l : List rRu) (hB : qB σ w) {p : Int} (p0 : 0 ≤ p) (p1 : p < σ 96 6) : 0 ≤ qLo σ l w p ∧ qLo σ l w p ≤ 1440000 ∧ 0 ≤ sI (qC0 σ l w p) (σ 103 p).toNat ∧ 0 ≤ sI (qC1 σ l w p) (σ 103 p).toNat := by
  have h := qp hI l w p0 p1
  have a := sI_b (f := qC0 σ l w p) (B := 12000) (n := (σ 103 p).toNat) (fun k k0 k1 => by
    have := qCb hI l hB p0 p1 k0 (by omega)
    have := qVb hI l hB p0 p1 k0 (show k < σ 103 p by omega)
    omega)
  have b := sI_b (f := qC1 σ l w p) (B := 12000) (n := (σ 103 p).toNat) (fun k k0 k1 => by
    have := qCb hI l hB p0 p1 k0 (by omega)
    have := qVb hI l hB p0 p1 k0 (show k < σ 103 p by omega)
    omega)
  unfold qLo
  omega
theorem qBpb {σ : aW} {w : Int → Int} (hI : qI σ) (l : List rRu) (hB : qB σ w) {p : Int} (h : Int) (p0 : 0 ≤ p) (p1 : p < σ 96 6) : 0 ≤ qBp σ l w h p ∧ qBp σ l w h p ≤ 1440000 := by
  have q := qp hI l w p0 p1
  have lo := qLob hI l hB p0 p1
  have s := (qgs hI l w).2 h p
  have lp : 0 ≤ qLp σ l w h ∧ qLp σ l w h ≤ 1000 := rAns_b (by decide) (by decide)
  unfold qBp
  by_cases z : qf σ l w p = 0
  · rw [if_pos z]
    omega
  · rw [if_neg z]
    have m0 := q.2.2.2.2.2.2.2.2.2.2.2.2.2 z
    unfold hBl
    have a0 : 0 ≤ qLo σ l w p * qs σ l w h p := Int.mul_nonneg lo.1 s.1
    have a1 : qLo σ l w p * qs σ l w h p ≤ qLo σ l w p * qm σ l w p := Int.mul_le_mul_of_nonneg_left s.2 lo.1
    have b0 : 0 ≤ qLo σ l w p * qs σ l w h p / qm σ l w p := Int.ediv_nonneg a0 (by omega)
    have b1 : qLo σ l w p * qs σ l w h p / qm σ l w p ≤ qLo σ l w p := Int.ediv_le_of_le_mul m0 a1
    generalize qLo σ l w p * qs σ l w h p / qm σ l w p = y at b0 b1
    have c0 : 0 ≤ y * qLp σ l w h := Int.mul_nonneg b0 lp.1
    have c1 : y * qLp σ l w h ≤ y * 1000 := Int.mul_le_mul_of_nonneg_left lp.2 b0
    omega
theorem qBlb {σ : aW} {w : Int → Int} (hI : qI σ) (l : List rRu) (hB : qB σ w) {i : Int} (h : Int) (i1 : i ≤ σ 96 6) : 0 ≤ qBl σ l w h i ∧ qBl σ l w h i ≤ 28800000 := by
  have hn := hI.1.1
  unfold Nn at hn
  have a := sI_b (f := qBp σ l w h) (B := 1440000) (n := i.toNat) (fun p p0 p1 => qBpb hI l hB h p0 (by omega))
  unfold qBl
  omega
theorem qPrb {σ : aW} {l : List rRu} {w : Int → Int} {h : Int} : (0 ≤ qPr σ l w h ∧ qPr σ l w h ≤ 1000) ∧ (0 ≤ qLp σ l w h ∧ qLp σ l w h ≤ 1000) := ⟨rAns_b (by decide) (by decide), rAns_b (by decide) (by decide)⟩
end
