section
/-! isolate -/
theorem c128 {d : Nat} {Q : aQ} {σ s : aW} {f : Int} (hN : INet σ) (hF : Fg [7, 13, 14, 15] [(1, 3), (1, 15)] σ s) (hv : 0 ≤ s 1 3 ∧ s 1 3 < 2000000100) (hT : Bs (s 1 15) (KT σ f))
    (k : ∀ u c, Fg [9] [(1, 3)] s u → (∀ v, 0 ≤ v → v < 2 * σ 96 6 → (KT σ f v.toNat → u 9 v = 1) ∧ (¬ KT σ f v.toNat → u 9 v = σ 107 v)) → (∀ v, 2 * σ 96 6 ≤ v → u 9 v = σ 9 v) → c = sI (fun v => u 9 v - σ 107 v) (2 * σ 96 6).toNat → s 1 3 ≤ u 1 3 → u 1 3 ≤ s 1 3 + 40 → Q (some (vi c)) u) : Yx (d + 3) cd128 1 Q 64 [vr 0, vt, vi 0, vi 0] [] s := by
  have hn := hN.1
  unfold Nn at hn
  have e9 : s 9 = σ 9 := Fg_k hF rfl rfl
  refine for_up2 (X := fun i qa qb => Yx (d + 3) cd128 1 Q 64 [vr 0, vt, vi qa, vi i] [] qb) (I := fun i qa qb => 0 ≤ i ∧ i ≤ 2 * σ 96 6 ∧ Fg [9] [(1, 3)] s qb ∧ (∀ v, 0 ≤ v → v < i → (KT σ f v.toNat → qb 9 v = 1) ∧ (¬ KT σ f v.toNat → qb 9 v = σ 107 v)) ∧ (∀ v, i ≤ v → qb 9 v = σ 9 v) ∧ qa = sI (fun v => qb 9 v - σ 107 v) i.toNat ∧ 0 ≤ qa ∧ qa ≤ i ∧ qb 1 3 = s 1 3 + qa) (N := 2 * σ 96 6) ?_ ?_ 0 (0) (s) ⟨Int.le_refl _, by omega, Fg_r, fun v v0 v1 => by omega, fun v _ => by rw [e9], rfl, Int.le_refl _, Int.le_refl _, by simp⟩
  · rintro i c u hi ⟨i0, i1, i2, i3, i4, i5, i6, i7, i8⟩ K
    have hw := hN.2.2.2.1 i i0 (by omega)
    unfold Nv at hw
    have g1 : Fg [7, 9, 13, 14, 15] [(1, 3), (1, 15)] σ u := Fg_t (Fg_m hF (by decide) (by decide)) (Fg_m i2 (by decide) (by decide))
    have u11 : u 1 1 = σ 1 1 := g1 1 1 (by decide) (by decide)
    have u15 : u 1 15 = s 1 15 := i2 1 15 (by decide) (by decide)
    have u8 : u 8 = σ 8 := Fg_k g1 rfl rfl
    have u9 : u 9 i = σ 9 i := i4 i (Int.le_refl _)
    have hB := Bs_1 hT (v := i) i0 (by omega)
    have skip : (KT σ f i.toNat → u 9 i = 1) → Yx (d + 3) cd128 1 Q 64 [vr 0, vt, vi c, vi (i + 1)] [] u := fun z => by
      refine K (c) (u) ⟨by omega, by omega, i2, fun v v0 v1 => ?_, fun v v0 => i4 v (by omega), ?_, i6, by omega, i8⟩
      · by_cases e : v = i
        · subst e
          exact ⟨z, fun _ => by omega⟩
        · exact i3 v v0 (by omega)
      · rw [sI_s i0, ← i5]
        omega
    refine b128_64 ⟨by omega, fun z => by omega, fun _ => ⟨fun z => ⟨by omega, skip (fun w => absurd w (hB.mp (by rw [← u15]; exact z)))⟩, fun z => ?_⟩⟩
    have hK : KT σ f i.toNat := Classical.byContradiction (fun w => z (by rw [u15]; exact hB.mpr w))
    have hV : ¬ σ 106 i = 0 := by
      have := hK.2.1
      rwa [show (((i.toNat : Nat)) : Int) = i by omega] at this
    refine e38 (b38_0 ⟨by omega, fun h => by rw [u8] at h; omega, fun h => ⟨by omega, fun g => ⟨Or.inr rfl, by omega, by omega, _, rfl, b128_102_1 ⟨fun w => by omega, fun _ => ⟨by omega, by omega, ?_⟩⟩⟩, fun g => ⟨_, rfl, b128_102_1 ⟨fun _ => ⟨by omega, skip (fun _ => g)⟩, fun w => absurd rfl w⟩⟩⟩⟩)
    refine K (c + 1) (_) ⟨by omega, by omega, Fg_f (Fg_w i2 (by decide)) (by decide), fun v v0 v1 => ?_, fun v v0 => ?_, ?_, by omega, by omega, ?_⟩
    · simp only [sw_n (show (9 : Nat) ≠ 1 by decide), sw_s]
      by_cases e : v = i
      · subst e
        rw [fu_s]
        exact ⟨fun _ => rfl, fun w => absurd hK w⟩
      · rw [fu_n e]
        exact i3 v v0 (by omega)
    · simp only [sw_n (show (9 : Nat) ≠ 1 by decide), sw_s]
      rw [fu_n (by omega)]
      exact i4 v (by omega)
    · simp only [sw_n (show (9 : Nat) ≠ 1 by decide), sw_s]
      rw [sI_s i0, fu_s, sI_c (g := fun v => u 9 v - σ 107 v) (fun v v0 v1 => by rw [fu_n (by omega)]), ← i5]
      omega
    · simp only [sw_s, fu_s]
      omega
  · rintro i c u hi ⟨i0, i1, i2, i3, i4, i5, i6, i7, i8⟩
    have ei : i = 2 * σ 96 6 := by omega
    subst ei
    have g1 : Fg [7, 9, 13, 14, 15] [(1, 3), (1, 15)] σ u := Fg_t (Fg_m hF (by decide) (by decide)) (Fg_m i2 (by decide) (by decide))
    have u11 : u 1 1 = σ 1 1 := g1 1 1 (by decide) (by decide)
    exact b128_64 ⟨by omega, fun _ => k u c i2 i3 i4 i5 (by omega) (by omega), fun z => by omega⟩
theorem c229 {d : Nat} {Q : aQ} {σ s : aW} {f : Int} (hN : INet σ) (h6 : s 96 6 = σ 96 6) (h7 : s 107 = σ 107) (hT : Bs (s 96 83) (KT σ f))
    (k : ∀ u c, Fr [107] s u → (∀ v, 0 ≤ v → v < 2 * σ 96 6 → (KT σ f v.toNat → u 107 v = 1) ∧ (¬ KT σ f v.toNat → u 107 v = σ 107 v)) → (∀ v, 2 * σ 96 6 ≤ v → u 107 v = σ 107 v) → c = sI (fun v => u 107 v - σ 107 v) (2 * σ 96 6).toNat → Q (some (vi c)) u) : Yx (d + 2) cd229 1 Q 44 [vr 96, vt, vi 0, vi 0] [] s := by
  have hn := hN.1
  unfold Nn at hn
  refine for_up2 (X := fun i qa qb => Yx (d + 2) cd229 1 Q 44 [vr 96, vt, vi qa, vi i] [] qb) (I := fun i qa qb => 0 ≤ i ∧ i ≤ 2 * σ 96 6 ∧ Fr [107] s qb ∧ (∀ v, 0 ≤ v → v < i → (KT σ f v.toNat → qb 107 v = 1) ∧ (¬ KT σ f v.toNat → qb 107 v = σ 107 v)) ∧ (∀ v, i ≤ v → qb 107 v = σ 107 v) ∧ qa = sI (fun v => qb 107 v - σ 107 v) i.toNat ∧ 0 ≤ qa ∧ qa ≤ i) (N := 2 * σ 96 6) ?_ ?_ 0 (0) (s) ⟨Int.le_refl _, by omega, Fr_r, fun v v0 v1 => by omega, fun v _ => by rw [h7], rfl, Int.le_refl _, Int.le_refl _⟩
  · rintro i c u hi ⟨i0, i1, i2, i3, i4, i5, i6, i7⟩ K
    have hw := hN.2.2.2.1 i i0 (by omega)
    unfold Nv at hw
    have u96 : u 96 = s 96 := i2 96 (by decide)
    have u9 : u 107 i = σ 107 i := i4 i (Int.le_refl _)
    have hB := Bs_1 hT (v := i) i0 (by omega)
    have skip : (KT σ f i.toNat → u 107 i = 1) → Yx (d + 2) cd229 1 Q 44 [vr 96, vt, vi c, vi (i + 1)] [] u := fun z => by
      refine K (c) (u) ⟨by omega, by omega, i2, fun v v0 v1 => ?_, fun v v0 => i4 v (by omega), ?_, i6, by omega⟩
      · by_cases e : v = i
        · subst e
          exact ⟨z, fun _ => u9⟩
        · exact i3 v v0 (by omega)
      · rw [sI_s i0, ← i5]
        omega
    refine b229_44 ⟨by rw [u96]; omega, fun z => by rw [u96] at z; omega, fun _ => ⟨fun z => ⟨by omega, skip (fun w => absurd w (hB.mp (by rw [← u96]; exact z)))⟩, fun z => ?_⟩⟩
    have hK : KT σ f i.toNat := Classical.byContradiction (fun w => z (by rw [u96]; exact hB.mpr w))
    refine ⟨by omega, fun g => ⟨by omega, by omega, by omega, ?_⟩, fun g => ⟨by omega, skip (fun _ => by omega)⟩⟩
    refine K (c + 1) (_) ⟨by omega, by omega, Fr_w i2 (by decide), fun v v0 v1 => ?_, fun v v0 => ?_, ?_, by omega, by omega⟩
    · simp only [sw_s]
      by_cases e : v = i
      · subst e
        rw [fu_s]
        exact ⟨fun _ => rfl, fun w => absurd hK w⟩
      · rw [fu_n e]
        exact i3 v v0 (by omega)
    · simp only [sw_s]
      rw [fu_n (by omega)]
      exact i4 v (by omega)
    · simp only [sw_s]
      rw [sI_s i0, fu_s, sI_c (g := fun v => u 107 v - σ 107 v) (fun v v0 v1 => by rw [fu_n (by omega)]), ← i5]
      omega
  · rintro i c u hi ⟨i0, i1, i2, i3, i4, i5, i6, i7⟩
    have ei : i = 2 * σ 96 6 := by omega
    subst ei
    have u96 : u 96 = s 96 := i2 96 (by decide)
    exact b229_44 ⟨by rw [u96]; omega, fun _ => k u c i2 i3 i4 i5, fun z => absurd (by rw [u96]; omega) z⟩
theorem t_isolate {σ : aW} {a1 : Int} (hN : INet σ) (hv : Vr σ) : aEv 59 true 128 [vr 0, vi a1] σ (fun r s => aEv 59 true 229 [vr 96, vi a1] s (Tp (IN1 σ) [7, 9, 13, 14, 15, 107, 108, 142, 143, 144] [(1, 3), (1, 15), (96, 0), (96, 83)] σ r)) := by
  have hn := hN.1
  unfold Nn at hn
  unfold Vr at hv
  have hr : ∀ r : Option aV, Tp (IN1 σ) [7, 9, 13, 14, 15, 107, 108, 142, 143, 144] [(1, 3), (1, 15), (96, 0), (96, 83)] σ r r (sw σ 96 (fu (σ 96) 0 0)) := fun r => ⟨rfl, IN1_r hN, Fg_f Fg_r (by decide)⟩
  refine e128 (b128_0 ?_)
  by_cases h1 : 0 ≤ a1 ∧ a1 < σ 1 1
  · have hb := hN.2.2.1 a1 (by omega) (by omega)
    unfold Nb at hb
    refine ⟨fun _ => ⟨by omega, fun h2 => ?_, fun h2 => ?_⟩, fun z => absurd h1 z⟩
    · have hf : 0 ≤ a1 ∧ a1 < σ 96 6 := by omega
      refine c41 (d := 56) hN hf (fun s s1 s2 s3 s4 => ⟨rfl, b128_37 ?_⟩)
      have v3 : s 1 3 = σ 1 3 := s1 1 3 (by decide) (by decide)
      refine ⟨by omega, by omega, ?_⟩
      have t1 : Fg [7, 13, 14, 15] [(1, 3), (1, 15)] σ (sw (sw s 7 (fu (s 7) a1 1)) 1 (fu (s 1) 3 (s 1 3 + 1))) := Fg_f (Fg_w (Fg_m s1 (by decide) (by decide)) (by decide)) (by decide)
      have t2 : (sw (sw s 7 (fu (s 7) a1 1)) 1 (fu (s 1) 3 (s 1 3 + 1))) 1 3 = σ 1 3 + 1 := by rw [sw_s, fu_s, v3]
      have t3 : (sw (sw s 7 (fu (s 7) a1 1)) 1 (fu (s 1) 3 (s 1 3 + 1))) 1 15 = s 1 15 := by rw [sw_s, fu_n (by decide)]
      have t4 : (sw (sw s 7 (fu (s 7) a1 1)) 1 (fu (s 1) 3 (s 1 3 + 1))) 7 = fu (σ 7) a1 1 := by rw [sw_n (by decide), sw_s, Fg_k s1 rfl rfl]
      generalize sw (sw s 7 (fu (s 7) a1 1)) 1 (fu (s 1) 3 (s 1 3 + 1)) = t at t1 t2 t3 t4
      refine c128 hN t1 (by omega) (by rw [t3]; exact s4) (fun u c u1 u2 u3 u4 u5 u6 => ?_)
      have g1 : Fg [7, 9, 13, 14, 15] [(1, 3), (1, 15)] σ u := Fg_t (Fg_m t1 (by decide) (by decide)) (Fg_m u1 (by decide) (by decide))
      have m6 : u 96 6 = σ 96 6 := g1 96 6 (by decide) (by decide)
      have m8 : u 108 a1 = 0 := by rw [g1 108 a1 (by decide) (by simp)]; omega
      refine e229 (b229_0 ⟨by omega, fun _ => ⟨by omega, fun _ => ?_, fun z => absurd m8 z⟩, fun z => absurd (by omega) z⟩)
      have a0 : Fg [7, 9, 13, 14, 15, 142, 143, 144] [(1, 3), (1, 15), (96, 0), (96, 83)] σ (sw u 96 (fu (u 96) 0 0)) := Fg_f (Fg_m g1 (by decide) (by decide)) (by decide)
      refine c227 (d := 57) hN hf a0 (fun w w1 w2 w3 => ⟨rfl, b229_33 ⟨by omega, ?_⟩⟩)
      have g2 : Fg [7, 9, 13, 14, 15, 142, 143, 144] [(1, 3), (1, 15), (96, 0), (96, 83)] σ w := Fg_t a0 (Fg_m w1 (by decide) (by decide))
      have w8 : w 108 = σ 108 := Fg_k g2 rfl rfl
      have w7 : w 107 = σ 107 := Fg_k g2 rfl rfl
      refine c229 hN (by rw [sw_n (by decide)]; exact g2 96 6 (by decide) (by decide)) (by rw [sw_n (by decide)]; exact w7) (by rw [sw_n (by decide)]; exact w3) (fun y e y1 y2 y3 y4 => ?_)
      have wu : Fg [142, 143, 144] [(96, 0), (96, 83)] u w := Fg_t (Fg_f Fg_r (by decide)) (Fg_m w1 (by decide) (by decide))
      have yw : Fg [107, 108] [] w y := Fg_t (Fg_w Fg_r (by decide)) (Fg_F (Fr_s y1 (by decide)))
      have y9 : ∀ v, y 9 v = u 9 v := fun v => by rw [yw 9 v (by decide) (by simp), wu 9 v (by decide) (by simp)]
      have y8 : ∀ v, y 108 v = fu (σ 108) a1 1 v := fun v => by rw [y1 108 (by decide), sw_s, w8]
      have y7 : ∀ v, y 7 v = fu (σ 7) a1 1 v := fun v => by rw [yw 7 v (by decide) (by simp), wu 7 v (by decide) (by simp), u1 7 v (by decide) (by simp), t4]
      have y13 : y 1 3 = u 1 3 := by rw [yw 1 3 (by decide) (by simp), wu 1 3 (by decide) (by decide)]
      have hall : Fg [7, 9, 13, 14, 15, 107, 108, 142, 143, 144] [(1, 3), (1, 15), (96, 0), (96, 83)] σ y := Fg_t (Fg_m g2 (by decide) (by decide)) (Fg_m yw (by decide) (by decide))
      have hpt : ∀ v, 0 ≤ v → v < 2 * σ 96 6 → y 9 v = y 107 v ∧ (y 107 v = 0 ∨ y 107 v = 1) := fun v v0 v1 => by
        have hw := hN.2.2.2.1 v v0 (by omega)
        unfold Nv at hw
        have q1 := u2 v v0 v1
        have q2 := y2 v v0 v1
        rw [y9 v]
        rcases Classical.em (KT σ a1 v.toNat) with z | z
        · rw [q1.1 z, q2.1 z]
          exact ⟨rfl, Or.inr rfl⟩
        · rw [q1.2 z, q2.2 z]
          exact ⟨rfl, by omega⟩
      refine ⟨?_, ⟨⟨?_, fun p p0 p1 => ?_, fun p p0 p1 => ?_, fun v v0 v1 => ?_, fun h h0 h1 => ?_⟩, by omega, Or.inl (by omega)⟩, hall⟩
      · rw [y4, u4]
        congr 2
        refine sI_c (fun v v0 v1 => ?_)
        have := (hpt v v0 (by omega)).1
        have := y9 v
        omega
      · unfold Nn
        rw [hall 96 5 (by decide) (by decide), hall 96 6 (by decide) (by decide), hall 96 7 (by decide) (by decide), hall 1 0 (by decide) (by decide), hall 1 1 (by decide) (by decide), hall 1 2 (by decide) (by decide)]
        omega
      · rw [hall 96 6 (by decide) (by decide)] at p1
        have := hN.2.1 p p0 p1
        unfold Np at *
        rw [hall 96 5 (by decide) (by decide), Fg_k hall (k := 2) rfl rfl, Fg_k hall (k := 3) rfl rfl, Fg_k hall (k := 4) rfl rfl, Fg_k hall (k := 5) rfl rfl, Fg_k hall (k := 6) rfl rfl, Fg_k hall (k := 101) rfl rfl, Fg_k hall (k := 102) rfl rfl, Fg_k hall (k := 103) rfl rfl, Fg_k hall (k := 104) rfl rfl, Fg_k hall (k := 105) rfl rfl]
        exact this
      · have := hN.2.2.1 p p0 p1
        unfold Nb at *
        rw [y7, y8]
        unfold fu
        split <;> omega
      · have hw := hN.2.2.2.1 v v0 v1
        unfold Nv at *
        rw [Fg_k hall (k := 8) rfl rfl, Fg_k hall (k := 106) rfl rfl]
        refine ⟨hw.1, hw.2.1, ?_⟩
        by_cases e : v < 2 * σ 96 6
        · exact hpt v v0 e
        · rw [y9 v, u3 v (by omega), y3 v (by omega)]
          exact hw.2.2
      · rw [hall 96 7 (by decide) (by decide)] at h1
        have := hN.2.2.2.2 h h0 h1
        unfold Nh at *
        rw [hall 96 5 (by decide) (by decide), Fg_k hall (k := 10) rfl rfl, Fg_k hall (k := 11) rfl rfl, Fg_k hall (k := 12) rfl rfl, Fg_k hall (k := 109) rfl rfl, Fg_k hall (k := 110) rfl rfl, Fg_k hall (k := 111) rfl rfl]
        exact this
    · refine e229 (b229_0 ?_)
      (repeat' first | with_reducible apply And.intro | with_reducible intro _)
      all_goals first | omega | exact hr _
  · refine ⟨fun z => absurd z h1, fun _ => ?_⟩
    refine e229 (b229_0 ?_)
    (repeat' first | with_reducible apply And.intro | with_reducible intro _)
    all_goals first | omega | exact hr _
end
