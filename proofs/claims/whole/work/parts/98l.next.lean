section
/-! the hour: the state behind it -/
def qK (σ : aW) (i : Int) : Prop := (∀ p k, 0 ≤ p → p < σ 96 6 → 0 ≤ k → k < σ 103 p → ¬ i = 60 * p + k ∧ ¬ i = 1200 + 60 * p + k) ∧ (∀ h, 0 ≤ h → h < σ 96 7 → ¬ i = 2400 + h ∧ ¬ i = 2416 + h ∧ ¬ i = 2432 + h ∧ ¬ i = 2448 + h ∧ ¬ i = 2464 + h ∧ ¬ i = 2480 + h ∧ ¬ i = 2496 + h) ∧ (∀ p, 0 ≤ p → p < σ 96 6 → ¬ i = 2512 + p) ∧ ¬ (2532 ≤ i ∧ i < 2542)
def qS1 (σ : aW) (l : List rRu) (w w' : Int → Int) (p k : Int) : Prop := w' (60 * p + k) = qV0 σ l w p k - qC0 σ l w p k ∧ w' (1200 + 60 * p + k) = qV1 σ l w p k - qC1 σ l w p k
def qS2 (σ : aW) (l : List rRu) (w w' : Int → Int) (h : Int) : Prop := w' (2400 + h) = w (2400 + h) + bi (¬ qNd σ w h - qUs σ l w h ≤ 0) ∧ w' (2416 + h) = w (2416 + h) + qUs σ l w h ∧ w' (2432 + h) = w (2432 + h) + (qNd σ w h - qUs σ l w h) ∧ w' (2448 + h) = w (2448 + h) + qPr σ l w h * qUs σ l w h / 1000 ∧ w' (2464 + h) = w (2464 + h) + qBl σ l w h (σ 96 6) ∧ w' (2480 + h) = qg σ l w h ∧ w' (2496 + h) = (if qg σ l w h = 0 then -1 else qWm σ l w h)
def qS3 (σ : aW) (l : List rRu) (w w' : Int → Int) : Prop := w' 2532 = w 2532 + 1 ∧ w' 2533 = w 2533 + hPu σ (w 2532) (w 2533) (qX σ l w) ∧ w' 2534 = (if ¬ qN σ l w 0 = 0 then qB0 σ l w 0 / (100 * qN σ l w 0) else 30) ∧ w' 2535 = (if ¬ qN σ l w 0 = 0 then qWo σ l w 0 / qN σ l w 0 else -1) ∧ w' 2536 = w 2536 + (qX σ l w + hIn σ (w 2532) (w 2533) (qX σ l w) - hMi σ (w 2532) (w 2533) (qX σ l w) - hLe σ (w 2532) (w 2533) (qX σ l w)) ∧ w' 2537 = w 2537 + hMi σ (w 2532) (w 2533) (qX σ l w) ∧ w' 2538 = w 2538 + sI (qUs σ l w) (σ 96 7).toNat ∧ w' 2539 = w 2539 + sI (qLo σ l w) (σ 96 6).toNat ∧ w' 2540 = w 2540 + hCo σ (w 2532) (w 2533) (qX σ l w) ∧ w' 2541 = w 2541 + sI (fun h => qNd σ w h - qUs σ l w h) (σ 96 7).toNat
def qS (σ : aW) (l : List rRu) (w w' : Int → Int) : Prop := (∀ p k, 0 ≤ p → p < σ 96 6 → 0 ≤ k → k < σ 103 p → qS1 σ l w w' p k) ∧ (∀ h, 0 ≤ h → h < σ 96 7 → qS2 σ l w w' h) ∧ (∀ p, 0 ≤ p → p < σ 96 6 → w' (2512 + p) = qf σ l w p) ∧ qS3 σ l w w' ∧ ∀ i, qK σ i → w' i = w i
noncomputable def qHu (σ : aW) (l : List rRu) (w : Int → Int) (i : Int) : Int := if i < 1200 then qV0 σ l w (i / 60) (i % 60) - qC0 σ l w (i / 60) (i % 60) else qV1 σ l w ((i - 1200) / 60) (i % 60) - qC1 σ l w ((i - 1200) / 60) (i % 60)
noncomputable def qHh (σ : aW) (l : List rRu) (w : Int → Int) (r h i : Int) : Int := if r = 0 then w i + bi (¬ qNd σ w h - qUs σ l w h ≤ 0) else if r = 1 then w i + qUs σ l w h else if r = 2 then w i + (qNd σ w h - qUs σ l w h) else if r = 3 then w i + qPr σ l w h * qUs σ l w h / 1000 else if r = 4 then w i + qBl σ l w h (σ 96 6) else if r = 5 then qg σ l w h else (if qg σ l w h = 0 then -1 else qWm σ l w h)
noncomputable def qHs (σ : aW) (l : List rRu) (w : Int → Int) (i : Int) : Int := if i = 2532 then w 2532 + 1 else if i = 2533 then w 2533 + hPu σ (w 2532) (w 2533) (qX σ l w) else if i = 2534 then (if ¬ qN σ l w 0 = 0 then qB0 σ l w 0 / (100 * qN σ l w 0) else 30) else if i = 2535 then (if ¬ qN σ l w 0 = 0 then qWo σ l w 0 / qN σ l w 0 else -1) else if i = 2536 then w 2536 + (qX σ l w + hIn σ (w 2532) (w 2533) (qX σ l w) - hMi σ (w 2532) (w 2533) (qX σ l w) - hLe σ (w 2532) (w 2533) (qX σ l w)) else if i = 2537 then w 2537 + hMi σ (w 2532) (w 2533) (qX σ l w) else if i = 2538 then w 2538 + sI (qUs σ l w) (σ 96 7).toNat else if i = 2539 then w 2539 + sI (qLo σ l w) (σ 96 6).toNat else if i = 2540 then w 2540 + hCo σ (w 2532) (w 2533) (qX σ l w) else w 2541 + sI (fun h => qNd σ w h - qUs σ l w h) (σ 96 7).toNat
noncomputable def qH (σ : aW) (l : List rRu) (w : Int → Int) : Int → Int := fun i =>
  if i < 0 then w i
  else if i < 1200 then (if i / 60 < σ 96 6 ∧ i % 60 < σ 103 (i / 60) then qHu σ l w i else w i)
  else if i < 2400 then (if (i - 1200) / 60 < σ 96 6 ∧ i % 60 < σ 103 ((i - 1200) / 60) then qHu σ l w i else w i)
  else if i < 2512 then (if i % 16 < σ 96 7 then qHh σ l w ((i - 2400) / 16) (i % 16) i else w i)
  else if i < 2532 then (if i - 2512 < σ 96 6 then qf σ l w (i - 2512) else w i)
  else if i < 2542 then qHs σ l w i
  else w i
theorem qS_u {σ : aW} {w w' w'' : Int → Int} {l : List rRu} (hI : qI σ) (h1 : qS σ l w w') (h2 : qS σ l w w'') : w' = w'' := by
  have hn := hI.1.1
  unfold Nn at hn
  funext i
  obtain ⟨a1, a2, a3, a4, a5⟩ := h1
  obtain ⟨b1, b2, b3, b4, b5⟩ := h2
  by_cases c1 : ∃ p k, 0 ≤ p ∧ p < σ 96 6 ∧ 0 ≤ k ∧ k < σ 103 p ∧ (i = 60 * p + k ∨ i = 1200 + 60 * p + k)
  · obtain ⟨p, k, p0, p1, k0, k1, e⟩ := c1
    have x := a1 p k p0 p1 k0 k1
    have y := b1 p k p0 p1 k0 k1
    unfold qS1 at x y
    rcases e with e | e
    · rw [e, x.1, y.1]
    · rw [e, x.2, y.2]
  by_cases c2 : ∃ h, 0 ≤ h ∧ h < σ 96 7 ∧ (i = 2400 + h ∨ i = 2416 + h ∨ i = 2432 + h ∨ i = 2448 + h ∨ i = 2464 + h ∨ i = 2480 + h ∨ i = 2496 + h)
  · obtain ⟨h, h0, h1, e⟩ := c2
    obtain ⟨x1, x2, x3, x4, x5, x6, x7⟩ := a2 h h0 h1
    obtain ⟨y1, y2, y3, y4, y5, y6, y7⟩ := b2 h h0 h1
    rcases e with e | e | e | e | e | e | e <;> rw [e]
    · rw [x1, y1]
    · rw [x2, y2]
    · rw [x3, y3]
    · rw [x4, y4]
    · rw [x5, y5]
    · rw [x6, y6]
    · rw [x7, y7]
  by_cases c3 : ∃ p, 0 ≤ p ∧ p < σ 96 6 ∧ i = 2512 + p
  · obtain ⟨p, p0, p1, e⟩ := c3
    rw [e, a3 p p0 p1, b3 p p0 p1]
  by_cases c4 : 2532 ≤ i ∧ i < 2542
  · have e : i = 2532 ∨ i = 2533 ∨ i = 2534 ∨ i = 2535 ∨ i = 2536 ∨ i = 2537 ∨ i = 2538 ∨ i = 2539 ∨ i = 2540 ∨ i = 2541 := by omega
    obtain ⟨x1, x2, x3, x4, x5, x6, x7, x8, x9, x10⟩ := a4
    obtain ⟨y1, y2, y3, y4, y5, y6, y7, y8, y9, y10⟩ := b4
    rcases e with e | e | e | e | e | e | e | e | e | e <;> rw [e]
    · rw [x1, y1]
    · rw [x2, y2]
    · rw [x3, y3]
    · rw [x4, y4]
    · rw [x5, y5]
    · rw [x6, y6]
    · rw [x7, y7]
    · rw [x8, y8]
    · rw [x9, y9]
    · rw [x10, y10]
  have hk : qK σ i := ⟨fun p k p0 p1 k0 k1 => ⟨fun e => c1 ⟨p, k, p0, p1, k0, k1, Or.inl e⟩, fun e => c1 ⟨p, k, p0, p1, k0, k1, Or.inr e⟩⟩, fun h h0 h1 => ⟨fun e => c2 ⟨h, h0, h1, by omega⟩, fun e => c2 ⟨h, h0, h1, by omega⟩, fun e => c2 ⟨h, h0, h1, by omega⟩, fun e => c2 ⟨h, h0, h1, by omega⟩, fun e => c2 ⟨h, h0, h1, by omega⟩, fun e => c2 ⟨h, h0, h1, by omega⟩, fun e => c2 ⟨h, h0, h1, by omega⟩⟩, fun p p0 p1 e => c3 ⟨p, p0, p1, e⟩, c4⟩
  rw [a5 i hk, b5 i hk]
theorem qH_S {σ : aW} {w : Int → Int} {l : List rRu} (hI : qI σ) : qS σ l w (qH σ l w) := by
  have hn := hI.1.1
  unfold Nn at hn
  refine ⟨fun p k p0 p1 k0 k1 => ?_, fun h h0 h1 => ?_, fun p p0 p1 => ?_, ⟨rfl, rfl, rfl, rfl, rfl, rfl, rfl, rfl, rfl, rfl⟩, fun i hk => ?_⟩
  · have q := qp hI l w p0 p1
    have e1 : (60 * p + k) / 60 = p := by omega
    have e2 : (60 * p + k) % 60 = k := by omega
    have e3 : (1200 + 60 * p + k - 1200) / 60 = p := by omega
    have e4 : (1200 + 60 * p + k) % 60 = k := by omega
    unfold qS1 qH
    constructor
    · rw [if_neg (by omega), if_pos (by omega), e1, e2, if_pos ⟨p1, k1⟩]
      unfold qHu
      rw [if_pos (by omega), e1, e2]
    · rw [if_neg (by omega), if_neg (by omega), if_pos (by omega), e3, e4, if_pos ⟨p1, k1⟩]
      unfold qHu
      rw [if_neg (by omega), e3, e4]
  · have key : ∀ r, 0 ≤ r → r < 7 → qH σ l w (2400 + 16 * r + h) = qHh σ l w r h (2400 + 16 * r + h) := fun r r0 r1 => by
      have e1 : (2400 + 16 * r + h) % 16 = h := by omega
      have e2 : (2400 + 16 * r + h - 2400) / 16 = r := by omega
      unfold qH
      rw [if_neg (by omega), if_neg (by omega), if_neg (by omega), if_pos (by omega), e1, e2, if_pos h1]
    refine ⟨?_, ?_, ?_, ?_, ?_, ?_, ?_⟩
    · exact key 0 (by decide) (by decide)
    · exact key 1 (by decide) (by decide)
    · exact key 2 (by decide) (by decide)
    · exact key 3 (by decide) (by decide)
    · exact key 4 (by decide) (by decide)
    · exact key 5 (by decide) (by decide)
    · exact key 6 (by decide) (by decide)
  · unfold qH
    rw [if_neg (by omega), if_neg (by omega), if_neg (by omega), if_neg (by omega), if_pos (by omega), show 2512 + p - 2512 = p by omega, if_pos p1]
  · obtain ⟨k1, k2, k3, k4⟩ := hk
    unfold qH
    by_cases c0 : i < 0
    · rw [if_pos c0]
    rw [if_neg c0]
    by_cases c1 : i < 1200
    · rw [if_pos c1, if_neg (fun z => (k1 (i / 60) (i % 60) (by omega) z.1 (by omega) z.2).1 (by omega))]
    rw [if_neg c1]
    by_cases c2 : i < 2400
    · rw [if_pos c2, if_neg (fun z => (k1 ((i - 1200) / 60) (i % 60) (by omega) z.1 (by omega) z.2).2 (by omega))]
    rw [if_neg c2]
    by_cases c3 : i < 2512
    · rw [if_pos c3, if_neg (fun z => by have := k2 (i % 16) (by omega) z; omega)]
    rw [if_neg c3]
    by_cases c4 : i < 2532
    · rw [if_pos c4, if_neg (fun z => k3 (i - 2512) (by omega) z (by omega))]
    rw [if_neg c4, if_neg (by omega)]
theorem bi_0q {p : Prop} [Decidable p] : 0 ≤ bi p ∧ bi p ≤ 1 := by
  by_cases h : p
  · rw [bi_t h]; omega
  · rw [bi_f h]; omega
/-- the bounds hold behind the hour -/
theorem qS_b {σ : aW} {w w' : Int → Int} {l : List rRu} (hI : qI σ) (hB : qB σ w) (ht : w 2532 ≤ 5047) (hS : qS σ l w w') : qB σ w' := by
  have hn := hI.1.1
  unfold Nn at hn
  obtain ⟨s1, s2, s3, ⟨t1, t2, t3, t4, t5, t6, t7, t8, t9, t10⟩, s5⟩ := hS
  have hB' := hB
  obtain ⟨b1, ⟨c1, c2, c3, c4, c5, c6, c7, c8, c9⟩, b3, b4, b5⟩ := hB
  have xb := qXb hI l hB'
  have nb := qN_b hI l w 0
  have wb := qWob hI l hB' 0
  have bb := (qW0 hI l hB' 0).2
  have mk := hMk_b (x := qX σ l w) hI.2.2.2.1 hI.2.2.2.2.1 hI.2.2.1 c1 (by omega) ⟨c4, c5⟩ ⟨xb.1, by omega⟩
  have eN : qN σ l w 0 = qNo σ l w 0 := if_pos rfl
  have dv1 : ¬ qN σ l w 0 = 0 → 0 ≤ qB0 σ l w 0 / (100 * qN σ l w 0) ∧ qB0 σ l w 0 / (100 * qN σ l w 0) ≤ 120 := fun q => ⟨Int.ediv_nonneg bb.1 (by omega), Int.ediv_le_of_le_mul (by omega) (by omega)⟩
  have dv2 : ¬ qN σ l w 0 = 0 → 0 ≤ qWo σ l w 0 / qN σ l w 0 ∧ qWo σ l w 0 / qN σ l w 0 ≤ 12000 := fun q => ⟨Int.ediv_nonneg wb.1 (by omega), Int.ediv_le_of_le_mul (by omega) (by omega)⟩
  refine ⟨fun p k p0 p1 k0 k1 => ?_, ⟨by omega, c2, by omega, by omega, by omega, ?_, ?_, ?_, ?_⟩, fun h h0 h1 => ?_, fun p p0 p1 => ?_, fun i i0 i1 => ?_⟩
  · have a := s1 p k p0 p1 k0 k1
    have v := qVb hI l hB' p0 p1 k0 k1
    have c := qCb hI l hB' p0 p1 k0 k1
    unfold qS1 at a
    unfold qU0 qU1
    omega
  · rw [t3]; split <;> omega
  · rw [t3]; split <;> omega
  · rw [t4]; split <;> omega
  · rw [t4]; split <;> omega
  · have o := b3 h h0 h1
    by_cases z : h < σ 96 7
    · obtain ⟨x1, x2, x3, x4, x5, x6, x7⟩ := s2 h h0 z
      have q := qh hI l hB' h0 z
      have bl := qBlb hI l hB' h (Int.le_refl (σ 96 6))
      have pr := (qPrb (σ := σ) (l := l) (w := w) (h := h)).1
      have p0 : 0 ≤ qPr σ l w h * qUs σ l w h := Int.mul_nonneg pr.1 (by omega)
      have p1 : qPr σ l w h * qUs σ l w h ≤ 1000 * qUs σ l w h := Int.mul_le_mul_of_nonneg_right pr.2 (by omega)
      have bo := bi_0q (p := ¬ qNd σ w h - qUs σ l w h ≤ 0)
      have n1 := qN_b hI l w (σ 109 h)
      rw [x1, x2, x3, x4, x5, x6, x7, t1]
      by_cases y : qg σ l w h = 0
      · rw [if_pos y]
        omega
      · rw [if_neg y]
        omega
    · have u : ∀ r, r = 2400 ∨ r = 2416 ∨ r = 2432 ∨ r = 2448 ∨ r = 2464 ∨ r = 2480 ∨ r = 2496 → w' (r + h) = w (r + h) := fun r hr => s5 _ ⟨fun p k p0 p1 k0 k1 => by have := qp hI l w p0 p1; omega, fun h' h0' h1' => by omega, fun p p0 p1 => by omega, by omega⟩
      rw [u 2400 (by omega), u 2416 (by omega), u 2432 (by omega), u 2448 (by omega), u 2464 (by omega), u 2480 (by omega), u 2496 (by omega), t1]
      omega
  · by_cases z : p < σ 96 6
    · rw [s3 p p0 z]
      have := qp hI l w p0 z
      omega
    · rw [s5 _ ⟨fun p k p0 p1 k0 k1 => by have := qp hI l w p0 p1; omega, fun h' h0' h1' => by omega, fun p p0 p1 => by omega, by omega⟩]
      exact b4 p p0 p1
  · have e : i = 0 ∨ i = 1 ∨ i = 2 ∨ i = 3 ∨ i = 4 ∨ i = 5 := by omega
    have m0 := b5 0 (by decide) (by decide)
    have m1 := b5 1 (by decide) (by decide)
    have m2 := b5 2 (by decide) (by decide)
    have m3 := b5 3 (by decide) (by decide)
    have m4 := b5 4 (by decide) (by decide)
    have m5 := b5 5 (by decide) (by decide)
    have u1 := sI_b (f := qUs σ l w) (B := 300000) (n := (σ 96 7).toNat) (fun h h0 h1 => by have := qh hI l hB' h0 (by omega); omega)
    have u2 := sI_b (f := fun h => qNd σ w h - qUs σ l w h) (B := 300000) (n := (σ 96 7).toNat) (fun h h0 h1 => by have := qh hI l hB' h0 (by omega); omega)
    have u3 := sI_b (f := qLo σ l w) (B := 1440000) (n := (σ 96 6).toNat) (fun p p0 p1 => by have := qLob hI l hB' p0 (by omega); omega)
    simp only [show (2536 : Int) + 0 = 2536 by decide, show (2536 : Int) + 1 = 2537 by decide, show (2536 : Int) + 2 = 2538 by decide, show (2536 : Int) + 3 = 2539 by decide, show (2536 : Int) + 4 = 2540 by decide, show (2536 : Int) + 5 = 2541 by decide] at m0 m1 m2 m3 m4 m5
    rcases e with e | e | e | e | e | e <;> rw [e]
    · rw [show (2536 : Int) + 0 = 2536 by decide, t5, t1]; omega
    · rw [show (2536 : Int) + 1 = 2537 by decide, t6, t1]; omega
    · rw [show (2536 : Int) + 2 = 2538 by decide, t7, t1]; omega
    · rw [show (2536 : Int) + 3 = 2539 by decide, t8, t1]; omega
    · rw [show (2536 : Int) + 4 = 2540 by decide, t9, t1]; omega
    · rw [show (2536 : Int) + 5 = 2541 by decide, t10, t1]; omega
end
