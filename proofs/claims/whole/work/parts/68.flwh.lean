section
/-! flows: settle -/
theorem c273a {d : Nat} {Q : aQ} {σ : aW} {a1 : Int} (k : ∀ s, Fr [17] σ s → (∀ j, 0 ≤ j → j < 20 → s 17 j = a1) → Q none s) : aEv (d + 0) true 273 [vr 17, vi a1] σ Q := by
  refine e273a (b273a_0 ?_)
  refine for_up (X := fun i s => Yx (d + 0) cd273 0 Q 5 [vr 17, vi a1, vi i, vi 20] [] s) (I := fun i s => 0 ≤ i ∧ i ≤ 20 ∧ Fr [17] σ s ∧ ∀ j, 0 ≤ j → j < i → s 17 j = a1) (N := 20) ?_ ?_ 0 σ ⟨Int.le_refl _, by omega, Fr_r, fun j j0 j1 => by omega⟩
  · rintro i s hi ⟨i0, i1, i2, i3⟩ K
    refine b273a_5 ⟨fun z => by omega, fun _ => ⟨by omega, by omega, K _ ⟨by omega, by omega, Fr_w i2 (by decide), fun j j0 j1 => ?_⟩⟩⟩
    rw [sw_s]
    by_cases e : j = i
    · rw [e, fu_s]
    · rw [fu_n e]
      exact i3 j j0 (by omega)
  · rintro i s hi ⟨i0, i1, i2, i3⟩
    exact b273a_5 ⟨fun _ => k s i2 (fun j j0 j1 => i3 j j0 (by omega)), fun z => by omega⟩
theorem c273b {d : Nat} {Q : aQ} {σ : aW} {a1 : Int} (k : ∀ s, Fr [19] σ s → (∀ j, 0 ≤ j → j < 16 → s 19 j = a1) → Q none s) : aEv (d + 0) true 273 [vr 19, vi a1] σ Q := by
  refine e273b (b273b_0 ?_)
  refine for_up (X := fun i s => Yx (d + 0) cd273 0 Q 5 [vr 19, vi a1, vi i, vi 16] [] s) (I := fun i s => 0 ≤ i ∧ i ≤ 16 ∧ Fr [19] σ s ∧ ∀ j, 0 ≤ j → j < i → s 19 j = a1) (N := 16) ?_ ?_ 0 σ ⟨Int.le_refl _, by omega, Fr_r, fun j j0 j1 => by omega⟩
  · rintro i s hi ⟨i0, i1, i2, i3⟩ K
    refine b273b_5 ⟨fun z => by omega, fun _ => ⟨by omega, by omega, K _ ⟨by omega, by omega, Fr_w i2 (by decide), fun j j0 j1 => ?_⟩⟩⟩
    rw [sw_s]
    by_cases e : j = i
    · rw [e, fu_s]
    · rw [fu_n e]
      exact i3 j j0 (by omega)
  · rintro i s hi ⟨i0, i1, i2, i3⟩
    exact b273b_5 ⟨fun _ => k s i2 (fun j j0 j1 => i3 j j0 (by omega)), fun z => by omega⟩
theorem c273c {d : Nat} {Q : aQ} {σ : aW} {a1 : Int} (k : ∀ s, Fr [20] σ s → (∀ j, 0 ≤ j → j < 320 → s 20 j = a1) → Q none s) : aEv (d + 0) true 273 [vr 20, vi a1] σ Q := by
  refine e273c (b273c_0 ?_)
  refine for_up (X := fun i s => Yx (d + 0) cd273 0 Q 5 [vr 20, vi a1, vi i, vi 320] [] s) (I := fun i s => 0 ≤ i ∧ i ≤ 320 ∧ Fr [20] σ s ∧ ∀ j, 0 ≤ j → j < i → s 20 j = a1) (N := 320) ?_ ?_ 0 σ ⟨Int.le_refl _, by omega, Fr_r, fun j j0 j1 => by omega⟩
  · rintro i s hi ⟨i0, i1, i2, i3⟩ K
    refine b273c_5 ⟨fun z => by omega, fun _ => ⟨by omega, by omega, K _ ⟨by omega, by omega, Fr_w i2 (by decide), fun j j0 j1 => ?_⟩⟩⟩
    rw [sw_s]
    by_cases e : j = i
    · rw [e, fu_s]
    · rw [fu_n e]
      exact i3 j j0 (by omega)
  · rintro i s hi ⟨i0, i1, i2, i3⟩
    exact b273c_5 ⟨fun _ => k s i2 (fun j j0 j1 => i3 j j0 (by omega)), fun z => by omega⟩
theorem wOk_v {ν : aW} {t w : Int} (hN : wN ν) (t0 : 0 ≤ t) (t1 : t < ν 96 5) : ∀ (n : Nat) (s : wSt), wOk ν s → wOk ν (wSv ν t w n s)
  | 0, _, h => h
  | n + 1, s, h => by
    rcases Classical.em (wStop ν t w s) with hs | hs
    · rw [wSv_stop hs]
      exact h
    · rw [wSv_go hs]
      exact wOk_v hN t0 t1 n _ (wOk_s hN t0 t1 hs h)
theorem wOk_r {ν : aW} {t w : Int} {s : wSt} (hN : wN ν) (t0 : 0 ≤ t) (t1 : t < ν 96 5) (h : wOk ν s) : wOk ν (wRs ν t w s) := wOk_v hN t0 t1 _ s h
theorem c3f {d : Nat} {Q : aQ} {σ s0 : aW} (hN : INet σ) (hG : wG σ s0) (k : ∀ s, Fr [17, 19, 20, 21, 22] s0 s → (∀ j, 0 ≤ j → j < 20 → s 17 j = 0) → (∀ j, 0 ≤ j → j < 16 → s 19 j = 0) → (∀ j, 0 ≤ j → j < 320 → s 20 j = 0) → (∀ j, 0 ≤ j → j < 16 → s 22 j = 0) → (∀ p, 0 ≤ p → p < σ 96 6 → s 21 p = wRm (fN σ) (fun _ => 0) p) → Q none s) : aEv (d + 1) true 3 [vr 16] s0 Q := by
  have hn := hN.1
  unfold Nn at hn
  refine e3 (b3_0 (c273a (fun s1 f1 v1 => ⟨rfl, b3_8 (c273b (fun s2 f2 v2 => ⟨rfl, b3_16 (c273c (fun s3 f3 v3 => ⟨rfl, b3_24 ?_⟩))⟩))⟩)))
  have r3 : Fr [17, 19, 20] s0 s3 := Fr_t (Fr_t f1 f2 (N := [17, 19]) (fun k z => ⟨fun y => z (by simp at y; simp [y]), fun y => z (by simp at y; simp [y])⟩)) f3 (fun k z => ⟨fun y => z (by simp at y; rcases y with y | y <;> simp [y]), fun y => z (by simp at y; simp [y])⟩)
  refine for_up (X := fun i s => Yx (d + 1) cd3 0 Q 26 [vr 16, vi i] [] s) (I := fun i s => 0 ≤ i ∧ i ≤ 16 ∧ Fr [22] s3 s ∧ ∀ j, 0 ≤ j → j < i → s 22 j = 0) (N := 16) ?_ ?_ 0 s3 ⟨Int.le_refl _, by omega, Fr_r, fun j j0 j1 => by omega⟩
  · rintro i s hi ⟨i0, i1, i2, i3⟩ K
    refine b3_26 ⟨fun z => by omega, fun _ => ⟨by omega, by omega, K _ ⟨by omega, by omega, Fr_w i2 (by decide), fun j j0 j1 => ?_⟩⟩⟩
    rw [sw_s]
    by_cases e : j = i
    · rw [e, fu_s]
    · rw [fu_n e]
      exact i3 j j0 (by omega)
  rintro i s4 hi ⟨i0, i1, i2, i3⟩
  refine b3_26 ⟨fun _ => ?_, fun z => by omega⟩
  refine for_up (X := fun i s => Yx (d + 1) cd3 0 Q 47 [vr 16, vi i] [] s) (I := fun i s => 0 ≤ i ∧ i ≤ σ 96 6 ∧ Fr [21] s4 s ∧ ∀ p, 0 ≤ p → p < i → s 21 p = wRm (fN σ) (fun _ => 0) p) (N := σ 96 6) ?_ ?_ 0 s4 ⟨Int.le_refl _, by omega, Fr_r, fun j j0 j1 => by omega⟩
  · rintro p s hp ⟨p0, p1, p2, p3⟩ K
    have g1 : wG σ s := Fg_t (Fg_t (Fg_t hG (Fg_F (Fr_s r3 (by decide)))) (Fg_F (Fr_s i2 (by decide)))) (Fg_F (Fr_s p2 (by decide)))
    have o1 := wG_1 hN g1
    obtain ⟨c2, c3, c4, c5, c7, c9, c9b⟩ := wG_p hN g1 p0 hp
    refine b3_47 ⟨fun z => by omega, fun _ => ?_⟩
    rw [c7, c9, c9b, c5]
    refine ⟨by omega, fun _ => by omega, by omega, by omega, K _ ⟨by omega, by omega, Fr_w p2 (by decide), fun j j0 j1 => ?_⟩⟩
    rw [sw_s]
    by_cases e : j = p
    · rw [e, fu_s]
      unfold wRm
      by_cases ho : fN σ 108 p = 0 ∧ fN σ 107 (2 * p) = 0 ∧ fN σ 107 (2 * p + 1) = 0
      · rw [if_neg (fun y => y ho), if_pos ho]
        simp
      · rw [if_pos ho, if_neg ho]
    · rw [fu_n e]
      exact p3 j j0 (by omega)
  · rintro p s hp ⟨p0, p1, p2, p3⟩
    have g1 : wG σ s := Fg_t (Fg_t (Fg_t hG (Fg_F (Fr_s r3 (by decide)))) (Fg_F (Fr_s i2 (by decide)))) (Fg_F (Fr_s p2 (by decide)))
    have o1 := wG_1 hN g1
    refine b3_47 ⟨fun _ => k s (fun c hc => ?_) ?_ ?_ ?_ ?_ (fun p p0 p1 => p3 p p0 (by omega)), fun z => by omega⟩
    · simp only [List.mem_cons, List.not_mem_nil, or_false, not_or] at hc
      rw [p2 c (by simp; omega), i2 c (by simp; omega), r3 c (by simp; omega)]
    · rw [p2 17 (by decide), i2 17 (by decide), f3 17 (by decide), f2 17 (by decide)]
      exact v1
    · rw [p2 19 (by decide), i2 19 (by decide), f3 19 (by decide)]
      exact v2
    · rw [p2 20 (by decide), i2 20 (by decide)]
      exact v3
    · rw [p2 22 (by decide)]
      exact fun j j0 j1 => i3 j j0 (by omega)
/-- what the houses want -/
def wWf (σ : aW) (a dr h : Int) : Int := (σ 110 h * max 0 (20 - a) + dr - 1) / dr
theorem nd_b {x a : Int} (h0 : 0 ≤ x) (h1 : x ≤ 50) (a0 : -40 ≤ a) : 0 ≤ x * max 0 (20 - a) ∧ x * max 0 (20 - a) ≤ 3000 := by
  have b := Int.mul_le_mul h1 (show max 0 (20 - a) ≤ 60 by omega) (show 0 ≤ max 0 (20 - a) by omega) (by omega)
  exact ⟨Int.mul_nonneg h0 (by omega), by omega⟩
theorem wWf_b {σ : aW} {a dr h : Int} (h0 : 0 ≤ σ 110 h) (h1 : σ 110 h ≤ 50) (a0 : -40 ≤ a) (d0 : 5 ≤ dr) (d1 : dr ≤ 60) : 0 ≤ wWf σ a dr h ∧ wWf σ a dr h ≤ 3100 := by
  have b := nd_b h0 h1 a0
  unfold wWf
  generalize σ 110 h * max 0 (20 - a) = z at *
  have := Int.ediv_nonneg (show 0 ≤ z + dr - 1 by omega) (show 0 ≤ dr by omega)
  have := Int.ediv_le_self dr (show 0 ≤ z + dr - 1 by omega)
  omega
noncomputable def wRes (σ : aW) (a dr : Int) : wFt := wFS (fN σ) (wWf σ a dr) (σ 96 7) (σ 96 7).toNat
/-- the component's flows are those of this air and this drop -/
def wFl (σ s : aW) (a dr : Int) : Prop := (∀ p, 0 ≤ p → p < σ 96 6 → s 17 p = (wRes σ a dr).1 p) ∧ (∀ h, 0 ≤ h → h < σ 96 7 → s 18 h = wWf σ a dr h ∧ s 19 h = (wRes σ a dr).2.1 h) ∧ (∀ p h, 0 ≤ p → p < σ 96 6 → 0 ≤ h → h < σ 96 7 → s 20 (p * 16 + h) = (wRes σ a dr).2.2 h p)
theorem c1 {d : Nat} {Q : aQ} {σ s0 : aW} {a dr : Int} (hN : INet σ) (hG : wG σ s0) (a0 : -40 ≤ a ∧ a ≤ 40) (d0 : 5 ≤ dr ∧ dr ≤ 60) (hC : s0 16 9 = s0 1 3 → s0 16 10 = a → s0 16 11 = dr → wFl σ s0 a dr)
    (k : ∀ s, Fg [17, 18, 19, 20, 21, 22, 23, 24] [(16, 9), (16, 10), (16, 11)] s0 s → wFl σ s a dr → s 16 9 = s 1 3 → s 16 10 = a → s 16 11 = dr → Q none s) : aEv (d + 3) true 1 [vr 16, vi a, vi dr] s0 Q := by
  have hn := hN.1
  unfold Nn at hn
  have hW := wN_of hN
  have n5 : fN σ 96 5 = σ 96 5 := fN_5
  have n6 : fN σ 96 6 = σ 96 6 := fN_6
  have e109 : fN σ 109 = σ 109 := fN_k (by omega)
  have e111 : fN σ 111 = σ 111 := fN_k (by omega)
  have main : aEv (d + 2) true 3 [vr 16] s0 (fun r σ' => r = none ∧ Yx (d + 3) cd1 0 Q 35 [vr 16, vi a, vi dr, vt] [] σ') := by
    refine c3f hN hG (fun s1 f1 v17 v19 v20 v22 v21 => ⟨rfl, b1_35 ?_⟩)
    refine for_up (X := fun h s => Yx (d + 3) cd1 0 Q 37 [vr 16, vi a, vi dr, vi h] [] s) (I := fun h s => 0 ≤ h ∧ h ≤ σ 96 7 ∧ Fr [18] s1 s ∧ ∀ x, 0 ≤ x → x < h → s 18 x = wWf σ a dr x) (N := σ 96 7) ?_ ?_ 0 s1 ⟨Int.le_refl _, by omega, Fr_r, fun j j0 j1 => by omega⟩
    · rintro h s hh ⟨h0, h1, h2, h3⟩ K
      have g1 : wG σ s := Fg_t (Fg_t hG (Fg_F (Fr_s f1 (by decide)))) (Fg_F (Fr_s h2 (by decide)))
      have o1 := wG_1 hN g1
      have hk := hN.2.2.2.2 h h0 hh
      unfold Nh at hk
      have s11 : s 11 h = σ 110 h := by rw [Fg_k g1 rfl rfl]; omega
      have nb := nd_b (x := σ 110 h) (a := a) (by omega) (by omega) (by omega)
      refine b1_37 ⟨fun z => by omega, fun _ => ⟨fun _ => ?_, fun z => by omega⟩⟩
      refine e2 (b2_0 ?_)
      rw [s11]
      refine ⟨by omega, by omega, by omega, _, rfl, b1_67_3 ⟨by omega, by omega, by omega, by omega, by omega, K _ ⟨by omega, by omega, Fr_w h2 (by decide), fun x x0 x1 => ?_⟩⟩⟩
      rw [sw_s]
      by_cases e : x = h
      · rw [e, fu_s]
        rfl
      · rw [fu_n e]
        exact h3 x x0 (by omega)
    rintro h s2 hh ⟨h0, h1, h2, h3⟩
    have g2 : wG σ s2 := Fg_t (Fg_t hG (Fg_F (Fr_s f1 (by decide)))) (Fg_F (Fr_s h2 (by decide)))
    have o2 := wG_1 hN g2
    refine b1_37 ⟨fun _ => ?_, fun z => by omega⟩
    refine for_up (X := fun i s => Yx (d + 3) cd1 0 Q 82 [vr 16, vi a, vi dr, vi i] [] s) (I := fun i s => 0 ≤ i ∧ i ≤ σ 96 7 ∧ Fr [17, 19, 20, 21, 22, 23, 24] s2 s ∧ (∀ p, 0 ≤ p → p < σ 96 6 → s 17 p = (wFS (fN σ) (wWf σ a dr) (σ 96 7) i.toNat).1 p ∧ s 21 p = wRm (fN σ) (wFS (fN σ) (wWf σ a dr) (σ 96 7) i.toNat).1 p) ∧ (∀ h, 0 ≤ h → h < σ 96 7 → s 19 h = (wFS (fN σ) (wWf σ a dr) (σ 96 7) i.toNat).2.1 h) ∧ (∀ p h, 0 ≤ p → p < σ 96 6 → 0 ≤ h → h < σ 96 7 → s 20 (p * 16 + h) = (wFS (fN σ) (wWf σ a dr) (σ 96 7) i.toNat).2.2 h p) ∧ (∀ h, 0 ≤ h → h < σ 96 7 → s 22 h = 0 ∨ s 22 h = 1) ∧ sI (s 22) (σ 96 7).toNat = i ∧ (∀ b c, 0 ≤ b → b < σ 96 7 → 0 ≤ c → c < σ 96 7 → ¬ s 22 b = 0 → s 22 c = 0 → wBf (σ 111) b c) ∧ (∀ h, 0 ≤ h → h < σ 96 7 → s 22 h = 0 → s 19 h = 0 ∧ ∀ p, 0 ≤ p → p < σ 96 6 → s 20 (p * 16 + h) = 0) ∧ (∀ p, 0 ≤ p → p < σ 96 6 → -(fN σ 104 p) ≤ (wFS (fN σ) (wWf σ a dr) (σ 96 7) i.toNat).1 p ∧ (wFS (fN σ) (wWf σ a dr) (σ 96 7) i.toNat).1 p ≤ fN σ 104 p)) (N := σ 96 7) ?_ ?_ 0 s2 ?_
    · rintro i s hi ⟨i0, i1, i2, i3, i4, i5, i6, i7, i8, i9, i10⟩ K
      have g1 : wG σ s := Fg_t g2 (Fg_F (Fr_s i2 (by decide)))
      have o1 := wG_1 hN g1
      have hex : ∃ h, 0 ≤ h ∧ h < σ 96 7 ∧ s 22 h = 0 := by
        apply Classical.byContradiction
        intro z
        have e : sI (s 22) (σ 96 7).toNat = sI (fun _ => 1) (σ 96 7).toNat := sI_c (fun h y0 y1 => by
          rcases i6 h y0 (by omega) with w | w
          · exact absurd ⟨h, y0, by omega, w⟩ z
          · exact w)
        rw [sI_1] at e
        omega
      have hrank : ∀ h, 0 ≤ h → h < σ 96 7 → s 12 h = σ 111 h := fun h y0 y1 => by
        have hk := hN.2.2.2.2 h y0 y1
        unfold Nh at hk
        rw [Fg_k g1 rfl rfl]
        omega
      refine b1_82 ⟨fun z => by omega, fun _ => ?_⟩
      refine c4 (n := σ 96 7) (q := σ 111) (by omega) (by omega) (by omega) hrank hex (fun h y0 y1 y2 y3 => ⟨h, rfl, b1_98_2 ?_⟩)
      have hk := hN.2.2.2.2 h y0 y1
      unfold Nh at hk
      have hgf : gF (σ 111) (σ 96 7) h = i := by
        rw [← i7]
        unfold gF
        refine sI_c (fun c c0 c1 => ?_)
        have v := i6 c c0 (by omega)
        by_cases e : s 22 c = 0
        · unfold bi
          by_cases e2 : c = h
          · subst e2
            rw [if_neg (by omega)]
            omega
          · have := y3 c c0 (by omega) e e2
            unfold wBf at this
            rw [if_neg (by omega)]
            omega
        · have := i8 c h c0 (by omega) y0 y1 e y2
          unfold wBf at this
          unfold bi
          rw [if_pos (by omega)]
          omega
      have eh : h = wH (fN σ 111) (σ 96 7) i := by rw [e111]; exact wH_u y0 y1 hgf
      have f3 : Fr [22] s (sw s 22 (fu (s 22) h 1)) := Fr_w Fr_r (by decide)
      have e22 : (sw s 22 (fu (s 22) h 1)) 22 = fu (s 22) h 1 := sw_s
      generalize sw s 22 (fu (s 22) h 1) = u at f3 e22
      have g3 : wG σ u := Fg_t g1 (Fg_F (Fr_s f3 (by decide)))
      have u10 : u 10 h = σ 109 h := by rw [Fg_k g3 rfl rfl]; omega
      have u18 : u 18 h = wWf σ a dr h := by rw [f3 18 (by decide), i2 18 (by decide)]; exact h3 h y0 (by omega)
      have wb := wWf_b (σ := σ) (a := a) (dr := dr) (h := h) (by omega) (by omega) (by omega) d0.1 d0.2
      have ru : wR σ u h ((wFS (fN σ) (wWf σ a dr) (σ 96 7) i.toNat).1, 0, fun _ => 0) := by
        unfold wR
        rw [f3 17 (by decide), f3 19 (by decide), f3 20 (by decide), f3 21 (by decide)]
        exact ⟨fun p p0 p1 => ⟨(i3 p p0 p1).1, (i3 p p0 p1).2, (i9 h y0 y1 y2).2 p p0 p1⟩, (i9 h y0 y1 y2).1⟩
      have ou : wOk (fN σ) ((wFS (fN σ) (wWf σ a dr) (σ 96 7) i.toNat).1, 0, fun _ => 0) := ⟨fun p p0 p1 => i10 p p0 (by omega), fun p => ⟨Int.le_refl _, Int.le_refl _⟩, Int.le_refl _⟩
      refine c5 (t := σ 109 h) hN g3 ⟨y0, by omega⟩ u10 (by omega) (by omega) ru ou u18 (by omega) (fun v vg vr => ⟨rfl, b1_101 ⟨by omega, K v ?_⟩⟩)
      have es : wFS (fN σ) (wWf σ a dr) (σ 96 7) (i + 1).toNat = wOne (fN σ) (wWf σ a dr) (wFS (fN σ) (wWf σ a dr) (σ 96 7) i.toNat) h := by rw [wFS_s i0, ← eh]
      have er : wRs (fN σ) (fN σ 109 h) (wWf σ a dr h) ((wFS (fN σ) (wWf σ a dr) (σ 96 7) i.toNat).1, 0, fun _ => 0) = wRs (fN σ) (σ 109 h) (wWf σ a dr h) ((wFS (fN σ) (wWf σ a dr) (σ 96 7) i.toNat).1, 0, fun _ => 0) := by rw [e109]
      have ok2 := wOk_r (t := σ 109 h) (w := wWf σ a dr h) hW (by omega) (by omega) ou
      have v22 : v 22 = fu (s 22) h 1 := by rw [Fg_k vg.1 rfl rfl, e22]
      rw [es]
      unfold wOne
      rw [er]
      generalize wRs (fN σ) (σ 109 h) (wWf σ a dr h) ((wFS (fN σ) (wWf σ a dr) (σ 96 7) i.toNat).1, 0, fun _ => 0) = T at vr ok2
      refine ⟨by omega, by omega, ?_, fun p p0 p1 => ⟨(vr.1 p p0 p1).1, (vr.1 p p0 p1).2.1⟩, fun x x0 x1 => ?_, fun p x p0 p1 x0 x1 => ?_, fun x x0 x1 => ?_, ?_, fun b c b0 b1 c0 c1 hb hc => ?_, fun x x0 x1 hx => ?_, ok2.1⟩
      · intro c hc
        simp only [List.mem_cons, List.not_mem_nil, or_false, not_or] at hc
        have : v c = u c := by
          funext j
          exact vg.1 c j (by simp; omega) (by simp)
        rw [this, f3 c (by simp; omega), i2 c (by simp; omega)]
      · by_cases e : x = h
        · rw [e]
          show v 19 h = fu _ h T.2.1 h
          rw [fu_s]
          exact vr.2
        · show v 19 x = fu _ h T.2.1 x
          rw [fu_n e, vg.2.1 x e, f3 19 (by decide)]
          exact i4 x x0 x1
      · show v 20 (p * 16 + x) = (if x = h then T.2.2 else _) p
        by_cases e : x = h
        · rw [if_pos e, e]
          exact (vr.1 p p0 p1).2.2
        · rw [if_neg e, vg.2.2 p x p0 x0 (by omega) e, f3 20 (by decide)]
          exact i5 p x p0 p1 x0 x1
      · rw [v22]
        unfold fu
        split
        · exact Or.inr rfl
        · exact i6 x x0 x1
      · rw [v22, sI_fu y0 (by omega)]
        omega
      · rw [v22] at hb hc
        by_cases e2 : c = h
        · rw [e2, fu_s] at hc
          omega
        · rw [fu_n e2] at hc
          by_cases e : b = h
          · rw [e]
            exact y3 c c0 c1 hc e2
          · rw [fu_n e] at hb
            exact i8 b c b0 b1 c0 c1 hb hc
      · rw [v22] at hx
        by_cases e : x = h
        · rw [e, fu_s] at hx
          omega
        · rw [fu_n e] at hx
          have := i9 x x0 x1 hx
          rw [vg.2.1 x e, f3 19 (by decide)]
          refine ⟨this.1, fun p p0 p1 => ?_⟩
          rw [vg.2.2 p x p0 x0 (by omega) e, f3 20 (by decide)]
          exact this.2 p p0 p1
    · rintro i s hi ⟨i0, i1, i2, i3, i4, i5, i6, i7, i8, i9, i10⟩
      have g1 : wG σ s := Fg_t g2 (Fg_F (Fr_s i2 (by decide)))
      have o1 := wG_1 hN g1
      have ei : i = σ 96 7 := by omega
      subst ei
      refine b1_82 ⟨fun _ => k _ (Fg_f (Fg_f (Fg_f (Fg_t (Fg_t (Fg_F (Fr_s f1 (by decide))) (Fg_F (Fr_s h2 (by decide)))) (Fg_F (Fr_s i2 (by decide)))) (by decide)) (by decide)) (by decide)) ?_ ?_ ?_ ?_, fun z => by omega⟩
      · refine ⟨fun p p0 p1 => ?_, fun x x0 x1 => ?_, fun p x p0 p1 x0 x1 => ?_⟩
        · simp only [sw_n (show (17 : Nat) ≠ 16 by decide)]
          exact (i3 p p0 p1).1
        · simp only [sw_n (show (18 : Nat) ≠ 16 by decide), sw_n (show (19 : Nat) ≠ 16 by decide)]
          refine ⟨?_, i4 x x0 x1⟩
          rw [i2 18 (by decide)]
          exact h3 x x0 (by omega)
        · simp only [sw_n (show (20 : Nat) ≠ 16 by decide)]
          exact i5 p x p0 p1 x0 x1
      · simp [sw, fu]
      · simp [sw, fu]
      · simp [sw, fu]
    · have z : ∀ n : Nat, sI (fun _ => 0) n = 0 := by
        intro n
        induction n with
        | zero => rfl
        | succ n ih =>
          show sI (fun _ => 0) n + 0 = 0
          rw [ih]
          rfl
      refine ⟨Int.le_refl _, by omega, Fr_r, fun p p0 p1 => ?_, fun x x0 x1 => ?_, fun p x p0 p1 x0 x1 => ?_, fun x x0 x1 => ?_, ?_, fun b c b0 b1 c0 c1 hb hc => ?_, fun x x0 x1 hx => ?_, fun p p0 p1 => ?_⟩
      · rw [h2 17 (by decide), h2 21 (by decide)]
        exact ⟨v17 p p0 (by omega), v21 p p0 p1⟩
      · rw [h2 19 (by decide)]
        exact v19 x x0 (by omega)
      · rw [h2 20 (by decide)]
        exact v20 _ (by omega) (by omega)
      · rw [h2 22 (by decide)]
        exact Or.inl (v22 x x0 (by omega))
      · rw [h2 22 (by decide), sI_c (g := fun _ => 0) (fun j j0 j1 => v22 j j0 (by omega)), z]
      · rw [h2 22 (by decide)] at hb
        exact absurd (v22 b b0 (by omega)) hb
      · rw [h2 19 (by decide), h2 20 (by decide)]
        exact ⟨v19 x x0 (by omega), fun p p0 p1 => v20 _ (by omega) (by omega)⟩
      · have := hW.2.2.2.2 p p0 (by omega)
        show -(fN σ 104 p) ≤ 0 ∧ 0 ≤ fN σ 104 p
        omega
  refine e1 (b1_0 ⟨fun _ => main, fun z => ⟨fun _ => main, fun z2 => ⟨fun _ => main, fun z3 => k s0 Fg_r (hC z z2 z3) z z2 z3⟩⟩⟩)
end
