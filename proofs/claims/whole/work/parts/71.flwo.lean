section
/-! flows: the reference's flows -/
def mFl (σ s : aW) (a dr : Int) : Prop := (∀ p, 0 ≤ p → p < σ 96 6 → s 126 p = (wRes σ a dr).1 p) ∧ (∀ h, 0 ≤ h → h < σ 96 7 → s 127 h = (wRes σ a dr).2.1 h ∧ s 132 h = σ 110 h * max 0 (20 - a)) ∧ (∀ p h, 0 ≤ p → p < σ 96 6 → 0 ≤ h → h < σ 96 7 → s 128 (20 * h + p) = (wRes σ a dr).2.2 h p)
def wSo (q o : Int → Int) (n : Int) : Prop := (∀ i, 0 ≤ i → i < n → 0 ≤ o i ∧ o i < n) ∧ (∀ i j, 0 ≤ i → i < j → j < n → wBf q (o i) (o j))
theorem wSo_a {q o o' : Int → Int} {n k : Int} (h : wSo q o n) (k0 : 0 ≤ k) (k1 : k ≤ n) (a1 : ∀ j, 0 ≤ j → j < k → o' j = o j) (a2 : o' k = n) (a3 : ∀ j, k < j → j ≤ n → o' j = o (j - 1)) (b1 : k = 0 ∨ q n ≤ q (o (k - 1))) (b2 : ∀ j, k ≤ j → j < n → q (o j) < q n) : wSo q o' (n + 1) := by
  obtain ⟨h1, h2⟩ := h
  have hv : ∀ j, 0 ≤ j → j < k → q n ≤ q (o j) := fun j j0 j1 => by
    rcases b1 with z | z
    · omega
    · by_cases e : j = k - 1
      · rw [e]; exact z
      · have := h2 j (k - 1) j0 (by omega) (by omega)
        unfold wBf at this
        omega
  refine ⟨fun i i0 i1 => ?_, fun i j i0 ij j1 => ?_⟩
  · by_cases e : i < k
    · rw [a1 i i0 e]
      have := h1 i i0 (by omega)
      omega
    · by_cases e2 : i = k
      · rw [e2, a2]
        omega
      · rw [a3 i (by omega) (by omega)]
        have := h1 (i - 1) (by omega) (by omega)
        omega
  · by_cases e : i < k
    · have ri := h1 i i0 (by omega)
      rw [a1 i i0 e]
      by_cases f : j < k
      · rw [a1 j (by omega) f]
        exact h2 i j i0 ij (by omega)
      · by_cases f2 : j = k
        · rw [f2, a2]
          have := hv i i0 e
          unfold wBf
          omega
        · rw [a3 j (by omega) (by omega)]
          exact h2 i (j - 1) i0 (by omega) (by omega)
    · by_cases e2 : i = k
      · rw [e2, a2, a3 j (by omega) (by omega)]
        exact Or.inl (b2 (j - 1) (by omega) (by omega))
      · rw [a3 i (by omega) (by omega), a3 j (by omega) (by omega)]
        exact h2 (i - 1) (j - 1) (by omega) (by omega) (by omega)
theorem c203 {d : Nat} {Q : aQ} {σ s0 : aW} {n a dr : Int} (hN : INet σ) (hG : mG σ s0) (en : n = σ 96 7) (z0 : 0 ≤ σ 120 2532 ∧ σ 120 2532 < 5050) (ea : σ 114 (σ 120 2532) = a) (a0 : -40 ≤ a ∧ a ≤ 40) (d0 : 5 ≤ dr ∧ dr ≤ 60)
    (k : ∀ s, Fg [126, 127, 128, 129, 130, 131, 132] [(96, 66)] s0 s → mFl σ s a dr → Q none s) : Yx (d + 15) cd203 0 Q 15 [vr 96, vi n, vt, vt, vt, vt] [vl dr] s0 := by
  subst en
  have hn := hN.1
  unfold Nn at hn
  have hW := wN_of hN
  have n5 : fN σ 96 5 = σ 96 5 := fN_5
  have n6 : fN σ 96 6 = σ 96 6 := fN_6
  have e109 : fN σ 109 = σ 109 := fN_k (by omega)
  have e111 : fN σ 111 = σ 111 := fN_k (by omega)
  refine b203_15_1 ?_
  refine for_up (X := fun i s => Yx (d + 15) cd203 0 Q 19 [vr 96, vi (σ 96 7), vl dr, vt, vi i, vt] [] s) (I := fun i s => 0 ≤ i ∧ i ≤ 20 ∧ Fr [126] s0 s ∧ ∀ j, 0 ≤ j → j < i → s 126 j = 0) (N := 20) ?_ ?_ 0 s0 ⟨Int.le_refl _, by omega, Fr_r, fun j j0 j1 => by omega⟩
  · rintro i s hi ⟨i0, i1, i2, i3⟩ K
    refine b203_19 ⟨fun z => by omega, fun _ => ⟨by omega, by omega, K _ ⟨by omega, by omega, Fr_w i2 (by decide), fun j j0 j1 => ?_⟩⟩⟩
    rw [sw_s]
    by_cases e : j = i
    · rw [e, fu_s]
    · rw [fu_n e]
      exact i3 j j0 (by omega)
  rintro i s1 hi ⟨i0, i1, f1, v126⟩
  refine b203_19 ⟨fun _ => ?_, fun z => by omega⟩
  refine for_up (X := fun i s => Yx (d + 15) cd203 0 Q 43 [vr 96, vi (σ 96 7), vl dr, vt, vi i, vt] [] s) (I := fun i s => 0 ≤ i ∧ i ≤ 340 ∧ Fr [128] s1 s ∧ ∀ j, 0 ≤ j → j < i → s 128 j = 0) (N := 340) ?_ ?_ 0 s1 ⟨Int.le_refl _, by omega, Fr_r, fun j j0 j1 => by omega⟩
  · rintro i s hi ⟨i0, i1, i2, i3⟩ K
    refine b203_43 ⟨fun z => by omega, fun _ => ⟨by omega, by omega, K _ ⟨by omega, by omega, Fr_w i2 (by decide), fun j j0 j1 => ?_⟩⟩⟩
    rw [sw_s]
    by_cases e : j = i
    · rw [e, fu_s]
    · rw [fu_n e]
      exact i3 j j0 (by omega)
  rintro i' s2 hi' ⟨i0', i1', f2, v128⟩
  refine b203_43 ⟨fun _ => ?_, fun z => by omega⟩
  have g2 : mG σ s2 := mG_f (mG_f hG (Fg_F (P := []) f1) rfl rfl rfl rfl rfl rfl) (Fg_F (P := []) f2) rfl rfl rfl rfl rfl rfl
  refine for_up (X := fun h s => Yx (d + 15) cd203 0 Q 70 [vr 96, vi (σ 96 7), vl dr, vt, vi h, vt] [] s) (I := fun h s => 0 ≤ h ∧ h ≤ σ 96 7 ∧ Fr [127, 130] s2 s ∧ (∀ j, 0 ≤ j → j < h → s 127 j = 0) ∧ wSo (σ 111) (s 130) h) (N := σ 96 7) ?_ ?_ 0 s2 ⟨Int.le_refl _, by omega, Fr_r, fun j j0 j1 => by omega, fun i i0 i1 => by omega, fun i j i0 ij j1 => by omega⟩
  · rintro h s hh ⟨h0, h1, h2, h3, h4⟩ K
    refine b203_70 ⟨fun z => by omega, fun _ => ⟨by omega, ?_⟩⟩
    have r0 : Fr [127, 130] s2 (sw s 127 (fu (s 127) h 0)) := Fr_w h2 (by decide)
    have q127 : ∀ j, 0 ≤ j → j < h + 1 → (sw s 127 (fu (s 127) h 0)) 127 j = 0 := fun j j0 j1 => by
      rw [sw_s]
      by_cases e : j = h
      · rw [e, fu_s]
      · rw [fu_n e]
        exact h3 j j0 (by omega)
    have q130 : (sw s 127 (fu (s 127) h 0)) 130 = s 130 := sw_n (by decide)
    generalize sw s 127 (fu (s 127) h 0) = u at r0 q127 q130
    refine for_dn (X := fun k s => Yx (d + 15) cd203 0 Q 88 [vr 96, vi (σ 96 7), vl dr, vt, vi h, vi k] [] s) (I := fun k v => 0 ≤ k ∧ k ≤ h ∧ Fr [130] u v ∧ (∀ j, 0 ≤ j → j < k → v 130 j = s 130 j) ∧ (∀ j, k < j → j ≤ h → v 130 j = s 130 (j - 1)) ∧ (∀ j, k ≤ j → j < h → σ 111 (s 130 j) < σ 111 h)) (N := 0) ?_ (fun k v hk hI => by omega) h u ⟨h0, Int.le_refl _, Fr_r, fun j j0 j1 => by rw [q130], fun j j0 j1 => by omega, fun j j0 j1 => by omega⟩
    rintro k v hk ⟨k0, k1, k2, k3, k4, k5⟩ L
    have v111 : v 111 = σ 111 := by rw [k2 111 (by decide), r0 111 (by decide)]; exact g2.2.2.2.2.2.2.2.2.1
    have put : (k = 0 ∨ σ 111 h ≤ σ 111 (s 130 (k - 1))) → Yx (d + 15) cd203 0 Q 70 [vr 96, vi (σ 96 7), vl dr, vt, vi (h + 1), vt] [] (sw v 130 (fu (v 130) k h)) := fun z => by
      refine K _ ⟨by omega, by omega, Fr_w (Fr_t r0 k2 (fun c hc => ⟨hc, fun y => hc (by simp at y; simp [y])⟩)) (by decide), fun j j0 j1 => ?_, ?_⟩
      · rw [sw_n (by decide), k2 127 (by decide)]
        exact q127 j j0 j1
      · rw [sw_s]
        refine wSo_a h4 k0 k1 (fun j j0 j1 => ?_) fu_s (fun j j0 j1 => ?_) z k5
        · rw [fu_n (by omega)]
          exact k3 j j0 j1
        · rw [fu_n (by omega)]
          exact k4 j j0 j1
    refine b203_88 ⟨fun z => ⟨by omega, by omega, put (Or.inl (by omega))⟩, fun z => ?_⟩
    have rk := h4.1 (k - 1) (by omega) (by omega)
    rw [v111, k3 (k - 1) (by omega) (by omega)]
    refine ⟨by omega, by omega, by omega, by omega, fun y => ⟨by omega, by omega, put (Or.inr y)⟩, fun y => ⟨by omega, by omega, by omega, by omega, ?_⟩⟩
    rw [show k + (-1) = k - 1 by omega]
    refine L _ ⟨by omega, by omega, Fr_w k2 (by decide), fun j j0 j1 => ?_, fun j j0 j1 => ?_, fun j j0 j1 => ?_⟩
    · rw [sw_s, fu_n (by omega)]
      exact k3 j j0 (by omega)
    · rw [sw_s]
      by_cases e : j = k
      · rw [e, fu_s]
      · rw [fu_n e]
        exact k4 j (by omega) j1
    · by_cases e : j = k - 1
      · rw [e]
        omega
      · exact k5 j (by omega) j1
  rintro h s3 hh ⟨h0, h1, f3, v127, so⟩
  have eh : h = σ 96 7 := by omega
  subst eh
  refine b203_70 ⟨fun _ => ?_, fun z => by omega⟩
  have g3 : mG σ s3 := mG_f g2 (Fg_F (P := []) f3) rfl rfl rfl rfl rfl rfl
  have sord : ∀ i, 0 ≤ i → i < σ 96 7 → gF (σ 111) (σ 96 7) (s3 130 i) = i := fun i i0 i1 => gF_o so.1 (fun i j i0 ij j1 => by have := so.2 i j i0 ij j1; unfold wBf at this; omega) i0 i1
  refine for_up (X := fun i s => Yx (d + 15) cd203 0 Q 157 [vr 96, vi (σ 96 7), vl dr, vt, vi i, vt] [] s) (I := fun i s => 0 ≤ i ∧ i ≤ σ 96 7 ∧ Fg [126, 127, 128, 129, 131, 132] [(96, 66)] s3 s ∧ (∀ p, 0 ≤ p → p < σ 96 6 → s 126 p = (wFS (fN σ) (wWf σ a dr) (σ 96 7) i.toNat).1 p) ∧ (∀ h, 0 ≤ h → h < σ 96 7 → s 127 h = (wFS (fN σ) (wWf σ a dr) (σ 96 7) i.toNat).2.1 h) ∧ (∀ p h, 0 ≤ p → p < σ 96 6 → 0 ≤ h → h < σ 96 7 → s 128 (20 * h + p) = (wFS (fN σ) (wWf σ a dr) (σ 96 7) i.toNat).2.2 h p) ∧ (∀ h, 0 ≤ h → h < σ 96 7 → i ≤ gF (σ 111) (σ 96 7) h → s 127 h = 0 ∧ ∀ p, 0 ≤ p → p < σ 96 6 → s 128 (20 * h + p) = 0) ∧ (∀ h, 0 ≤ h → h < σ 96 7 → gF (σ 111) (σ 96 7) h < i → s 132 h = σ 110 h * max 0 (20 - a)) ∧ (∀ p, 0 ≤ p → p < σ 96 6 → -(fN σ 104 p) ≤ (wFS (fN σ) (wWf σ a dr) (σ 96 7) i.toNat).1 p ∧ (wFS (fN σ) (wWf σ a dr) (σ 96 7) i.toNat).1 p ≤ fN σ 104 p)) (N := σ 96 7) ?_ ?_ 0 s3 ?_
  · rintro i s hi ⟨i0, i1, i2, i3, i4, i5, i6, i7, i8⟩ K
    have gs : mG σ s := mG_f g3 i2 rfl rfl rfl rfl rfl rfl
    have so2 := so.1 i i0 hi
    have hgf := sord i i0 hi
    have s130 : s 130 i = s3 130 i := by rw [Fg_k i2 rfl rfl]
    generalize hhd : s3 130 i = h at *
    have hk := hN.2.2.2.2 h so2.1 so2.2
    unfold Nh at hk
    have eh : h = wH (fN σ 111) (σ 96 7) i := by rw [e111]; exact wH_u so2.1 so2.2 hgf
    have z6 := i6 h so2.1 so2.2 (by omega)
    have ru : mR σ s h ((wFS (fN σ) (wWf σ a dr) (σ 96 7) i.toNat).1, 0, fun _ => 0) := ⟨fun p p0 p1 => ⟨i3 p p0 p1, z6.2 p p0 p1⟩, z6.1⟩
    have ou : wOk (fN σ) ((wFS (fN σ) (wWf σ a dr) (σ 96 7) i.toNat).1, 0, fun _ => 0) := ⟨fun p p0 p1 => i8 p p0 (by omega), fun p => ⟨Int.le_refl _, Int.le_refl _⟩, Int.le_refl _⟩
    refine b203_157 ⟨fun z => by omega, fun _ => ⟨by omega, ?_⟩⟩
    rw [s130]
    refine c202 (t := σ 109 h) hN gs ⟨so2.1, by omega⟩ rfl (by omega) (by omega) z0 ea a0 d0 (by omega) ru ou rfl (fun v vg vr v132 => ⟨rfl, b203_175 ⟨by omega, K v ?_⟩⟩)
    have es : wFS (fN σ) (wWf σ a dr) (σ 96 7) (i + 1).toNat = wOne (fN σ) (wWf σ a dr) (wFS (fN σ) (wWf σ a dr) (σ 96 7) i.toNat) h := by rw [wFS_s i0, ← eh]
    have er : wRs (fN σ) (fN σ 109 h) (wWf σ a dr h) ((wFS (fN σ) (wWf σ a dr) (σ 96 7) i.toNat).1, 0, fun _ => 0) = wRs (fN σ) (σ 109 h) (wWf σ a dr h) ((wFS (fN σ) (wWf σ a dr) (σ 96 7) i.toNat).1, 0, fun _ => 0) := by rw [e109]
    have ok2 := wOk_r (t := σ 109 h) (w := wWf σ a dr h) hW (by omega) (by omega) ou
    rw [es]
    unfold wOne
    rw [er]
    generalize wRs (fN σ) (σ 109 h) (wWf σ a dr h) ((wFS (fN σ) (wWf σ a dr) (σ 96 7) i.toNat).1, 0, fun _ => 0) = T at vr ok2
    have ne : ∀ x, 0 ≤ x → x < σ 96 7 → ¬ gF (σ 111) (σ 96 7) x = i → x ≠ h := fun x x0 x1 y e => y (by rw [e]; exact hgf)
    refine ⟨by omega, by omega, Fg_t i2 vg.1, fun p p0 p1 => (vr.1 p p0 p1).1, fun x x0 x1 => ?_, fun p x p0 p1 x0 x1 => ?_, fun x x0 x1 hx => ?_, fun x x0 x1 hx => ?_, ok2.1⟩
    · by_cases e : x = h
      · rw [e]
        show v 127 h = fu _ h T.2.1 h
        rw [fu_s]
        exact vr.2
      · show v 127 x = fu _ h T.2.1 x
        rw [fu_n e, vg.2.1 x e]
        exact i4 x x0 x1
    · show v 128 (20 * x + p) = (if x = h then T.2.2 else _) p
      by_cases e : x = h
      · rw [if_pos e, e]
        exact (vr.1 p p0 p1).2
      · rw [if_neg e, vg.2.2.1 p x p0 (by omega) e]
        exact i5 p x p0 p1 x0 x1
    · have e := ne x x0 x1 (by omega)
      have := i6 x x0 x1 (by omega)
      rw [vg.2.1 x e]
      refine ⟨this.1, fun p p0 p1 => ?_⟩
      rw [vg.2.2.1 p x p0 (by omega) e]
      exact this.2 p p0 p1
    · by_cases e : x = h
      · rw [e]
        exact v132
      · rw [vg.2.2.2 x e]
        refine i7 x x0 x1 ?_
        have : ¬ gF (σ 111) (σ 96 7) x = i := fun y => e (gF_u (q := σ 111) x0 x1 so2.1 so2.2 (by omega))
        omega
  · rintro i s hi ⟨i0, i1, i2, i3, i4, i5, i6, i7, i8⟩
    have ei : i = σ 96 7 := by omega
    subst ei
    refine b203_157 ⟨fun _ => k s ?_ ⟨i3, fun h y0 y1 => ⟨i4 h y0 y1, i7 h y0 y1 (gF_ub y0 y1).2⟩, i5⟩, fun z => by omega⟩
    exact Fg_t (Fg_t (Fg_t (Fg_F (Fr_s f1 (by decide))) (Fg_F (Fr_s f2 (by decide)))) (Fg_F (Fr_s f3 (by decide)))) (Fg_m i2 (by decide) (by decide))
  · refine ⟨Int.le_refl _, by omega, Fg_r, fun p p0 p1 => ?_, fun x x0 x1 => v127 x x0 x1, fun p x p0 p1 x0 x1 => ?_, fun x x0 x1 hx => ⟨v127 x x0 x1, fun p p0 p1 => ?_⟩, fun x x0 x1 hx => ?_, fun p p0 p1 => ?_⟩
    · rw [f3 126 (by decide), f2 126 (by decide)]
      exact v126 p p0 (by omega)
    · rw [f3 128 (by decide)]
      exact v128 _ (by omega) (by omega)
    · rw [f3 128 (by decide)]
      exact v128 _ (by omega) (by omega)
    · have := (gF_ub (q := σ 111) x0 x1).1
      omega
    · have := hW.2.2.2.2 p p0 (by omega)
      show -(fN σ 104 p) ≤ 0 ∧ 0 ≤ fN σ 104 p
      omega
end
