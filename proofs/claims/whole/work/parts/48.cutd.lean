section
/-! where a burst runs to: the component's round, and what is dry -/
theorem c41 {d : Nat} {Q : aQ} {σ : aW} {f : Int} (hN : INet σ) (hf : 0 ≤ f ∧ f < σ 96 6)
    (k : ∀ s, kF σ s → (∀ n, 0 ≤ n → n < σ 96 5 → (¬ s 14 n = 0 ↔ KN σ f n)) → (∀ n, 0 ≤ n → n < σ 96 5 → (¬ s 15 n = 0 ↔ KW σ f n)) → Bs (s 1 15) (KT σ f) → Q none s) : aEv (d + 2) true 41 [vr 1, vi f] σ Q := by
  have hn := hN.1
  unfold Nn at hn
  have hnd : ∀ i, 0 ≤ i → i < 2 * σ 96 6 → 0 ≤ kNd (σ 101) (σ 102) i ∧ kNd (σ 101) (σ 102) i < σ 96 5 := fun i i0 i1 => (nd_eq hN i0 i1).2
  refine e41 (b41_0 ?_)
  refine for_up (X := fun i s => Yx (d + 2) cd41 0 Q 2 [vr 1, vi f, vi i, vt, vt] [] s) (I := fun i s => 0 ≤ i ∧ i ≤ σ 96 6 ∧ Fr [13] σ s ∧ ∀ j, 0 ≤ j → j < i → s 13 j = bi (j = f)) (N := σ 96 6) ?_ ?_ 0 _ ⟨Int.le_refl _, by omega, Fr_r, fun j j0 j1 => by omega⟩
  · rintro i s hi ⟨g1, g2, g3, g4⟩ K
    refine b41_2 ⟨fun z => ?_, fun _ => ⟨by omega, by omega, K _ ⟨by omega, by omega, Fr_w g3 (by decide), fun j j0 j1 => ?_⟩⟩⟩
    · rw [g3 1 (by decide)] at z
      omega
    · rw [sw_s]
      by_cases e : j = i
      · subst e
        rw [fu_s]
      · rw [fu_n e]
        exact g4 j j0 (by omega)
  rintro i s hi ⟨g1, g2, g3, g4⟩
  have ei : i = σ 96 6 := by omega
  subst ei
  refine b41_2 ⟨fun _ => ?_, fun z => absurd (by rw [g3 1 (by decide)]; omega) z⟩
  refine for_up (X := fun i s => Yx (d + 2) cd41 0 Q 34 [vr 1, vt, vi i, vt, vt] [] s) (I := fun i t => 0 ≤ i ∧ i ≤ σ 96 5 ∧ Fr [14] s t ∧ ∀ j, 0 ≤ j → j < i → t 14 j = 0) (N := σ 96 5) ?_ ?_ 0 _ ⟨Int.le_refl _, by omega, Fr_r, fun j j0 j1 => by omega⟩
  · rintro i t hi ⟨h1, h2, h3, h4⟩ K
    refine b41_34 ⟨fun z => ?_, fun _ => ⟨by omega, by omega, K _ ⟨by omega, by omega, Fr_w h3 (by decide), fun j j0 j1 => ?_⟩⟩⟩
    · rw [h3 1 (by decide), g3 1 (by decide)] at z
      omega
    · rw [sw_s]
      by_cases e : j = i
      · subst e
        rw [fu_s]
      · rw [fu_n e]
        exact h4 j j0 (by omega)
  rintro i t hi ⟨h1, h2, h3, h4⟩
  have ei : i = σ 96 5 := by omega
  subst ei
  refine b41_34 ⟨fun _ => ?_, fun z => absurd (by rw [h3 1 (by decide), g3 1 (by decide)]; omega) z⟩
  have f0 : kF σ (sw t 1 (fu (t 1) 15 0)) := Fg_f (Fg_t (Fg_F (Fr_s g3 (by decide))) (Fg_F (Fr_s h3 (by decide)))) (by decide)
  have e13 : ∀ j, 0 ≤ j → j < σ 96 6 → (sw t 1 (fu (t 1) 15 0)) 13 j = bi (j = f) := fun j j0 j1 => by
    rw [sw_n (by decide), h3 13 (by decide)]
    exact g4 j j0 j1
  have e14 : ∀ j, 0 ≤ j → j < σ 96 5 → (sw t 1 (fu (t 1) 15 0)) 14 j = 0 := fun j j0 j1 => by
    rw [sw_n (by decide)]
    exact h4 j j0 j1
  have e15 : (sw t 1 (fu (t 1) 15 0)) 1 15 = 0 := by rw [sw_s, fu_s]
  generalize sw t 1 (fu (t 1) 15 0) = u at f0 e13 e14 e15
  have s0 : kS (σ 101) (σ 102) (σ 106) (σ 96 6) (σ 96 5) f (u 13) (u 14) := by
    refine ⟨fun p p0 p1 => ?_, fun n n0 n1 => ?_, ?_⟩
    · rw [e13 p p0 p1]
      refine ⟨bi_01, fun z => ?_⟩
      have e : p = f := by
        unfold bi at z
        split at z
        · assumption
        · omega
      subst e
      exact fun R D hc h0 => h0
    · rw [e14 n n0 n1]
      exact ⟨Or.inl rfl, fun z => absurd rfl z⟩
    · rw [e13 f hf.1 hf.2]
      unfold bi
      simp
  have c0 : 1 ≤ kC (σ 96 6) (σ 96 5) (u 13) (u 14) := by
    have q1 := sI_b (f := fu (u 13) f 0) (B := 1) (n := (σ 96 6).toNat) (fun p p0 p1 => by
      unfold fu
      split
      · omega
      · have := (s0.1 p p0 (by omega)).1
        omega)
    have q2 := sI_b (f := u 14) (B := 1) (n := (σ 96 5).toNat) (fun p p0 p1 => by have := (s0.2.1 p p0 (by omega)).1; omega)
    rw [sI_fu (by omega) (by omega)] at q1
    have := (s0.1 f hf.1 hf.2).1
    have := s0.2.2
    unfold kC
    omega
  have v0 : kV (σ 101) (σ 102) (σ 106) (σ 96 6) f 0 0 (u 1 15) (u 13) (u 14) := ⟨fun _ => False, by rw [e15]; exact Bs_0 (fun _ z => z), fun _ z => z.elim, fun _ j j0 j1 => by omega⟩
  have fin : ∀ w : aW, kF σ w → (∀ p, 0 ≤ p → p < σ 96 6 → (¬ w 13 p = 0 ↔ KP σ f p)) → (∀ n, 0 ≤ n → n < σ 96 5 → (¬ w 14 n = 0 ↔ KN σ f n)) → Bs (w 1 15) (KT σ f) → aEv (d + 1) true 43 [vr 1] w (fun r σ' => r = none ∧ Yx (d + 2) cd41 0 Q 115 [vt, vt, vt, vt, vt] [] σ') := by
    intro w w1 w2 w3 w4
    refine c43 hN w1 w2 w4 (fun s z1 z2 => ⟨rfl, b41_115 (k s (Fg_t w1 (Fg_F (Fr_s z1 (by decide)))) ?_ z2 ?_)⟩)
    · rw [z1 14 (by decide)]
      exact w3
    · rw [z1 1 (by decide)]
      exact w4
  refine for_up2 (X := fun r qa qb => Yx (d + 2) cd41 0 Q 64 [vr 1, vt, vi qa, vi r, vt] [] qb) (I := fun r qa qb => 0 ≤ r ∧ kF σ qb ∧ (qa = 0 ∨ qa = 1) ∧ kS (σ 101) (σ 102) (σ 106) (σ 96 6) (σ 96 5) f (qb 13) (qb 14) ∧ kV (σ 101) (σ 102) (σ 106) (σ 96 6) f 0 0 (qb 1 15) (qb 13) (qb 14) ∧ (qa = 1 → r + 1 ≤ kC (σ 96 6) (σ 96 5) (qb 13) (qb 14)) ∧ (qa = 0 → (∀ p, 0 ≤ p → p < σ 96 6 → (¬ qb 13 p = 0 ↔ KP σ f p)) ∧ (∀ n, 0 ≤ n → n < σ 96 5 → (¬ qb 14 n = 0 ↔ KN σ f n)) ∧ Bs (qb 1 15) (KT σ f))) (N := 33) ?_ ?_ 0 (1) (u) ⟨Int.le_refl _, f0, Or.inr rfl, s0, v0, fun _ => by omega, fun z => by cases z⟩
  · rintro r x w hr ⟨j0, j1, j2, j3, j4, j5, j6⟩ K
    refine b41_64 ⟨fun z => fin w j1 (j6 z).1 (j6 z).2.1 (j6 z).2.2, fun z => ⟨fun w => by omega, fun _ => ?_⟩⟩
    have hx : x = 1 := by omega
    have hb := j5 hx
    refine for_up2 (X := fun i qa qb => Yx (d + 2) cd41 0 Q 79 [vr 1, vt, vi qa, vi r, vi i] [] qb) (I := fun i qa qb => 0 ≤ i ∧ i ≤ 2 * σ 96 6 ∧ kF σ qb ∧ kR (σ 101) (σ 102) (σ 106) (σ 96 6) (σ 96 5) f (kC (σ 96 6) (σ 96 5) (w 13) (w 14)) i qa (qb 13) (qb 14) ∧ kV (σ 101) (σ 102) (σ 106) (σ 96 6) f i qa (qb 1 15) (qb 13) (qb 14)) (N := 2 * σ 96 6) ?_ ?_ 0 (0) (w) ⟨Int.le_refl _, by omega, j1, kR_0 j3, j4⟩
    · rintro i y v hi ⟨i0, i1, i2, i3, i4⟩ KK
      have v11 : v 1 1 = σ 96 6 := by rw [i2 1 1 (by decide) (by decide)]; omega
      have v2 : v 2 = σ 2 := Fg_k i2 rfl rfl
      have v3 : v 3 = σ 3 := Fg_k i2 rfl rfl
      have hw := hN.2.2.2.1 i i0 (by omega)
      unfold Nv at hw
      have v8 : v 8 i = σ 106 i := by rw [Fg_k i2 rfl rfl]; omega
      obtain ⟨n1, n2, n3⟩ := nd_eq hN i0 hi
      have hy := i3.2.1
      refine b41_79 ⟨by omega, fun z => by omega, fun _ => ?_⟩
      refine c42 (n := kNd (σ 101) (σ 102) i) (by rw [v2, v3]; exact n1) (by omega) (by omega) (fun z1 z2 => ?_) (fun z1 z2 => ?_) (fun z1 z2 => ?_)
      · refine ⟨_, rfl, b41_97_2 ⟨by omega, ?_⟩⟩
        rw [or32_0 hy]
        exact KK (y) (v) ⟨by omega, by omega, i2, kR_skip i3 (fun _ => by omega), kV_skip i4 (Or.inr ⟨z1, z2⟩)⟩
      · refine ⟨_, rfl, b41_97_2 ⟨by omega, ?_⟩⟩
        rw [or32_0 hy]
        refine KK (y) (_) ⟨by omega, by omega, Fg_f i2 (by decide), ?_, ?_⟩
        · simp only [sw_n (show (13 : Nat) ≠ 1 by decide), sw_n (show (14 : Nat) ≠ 1 by decide)]
          exact kR_skip i3 (fun w => by omega)
        · simp only [sw_n (show (13 : Nat) ≠ 1 by decide), sw_n (show (14 : Nat) ≠ 1 by decide), sw_s, fu_s]
          exact kV_add i4 i3 ⟨i0, hi⟩ (by omega) ⟨n2, n3⟩ (by omega) z1
      · refine ⟨_, rfl, b41_97_2 ⟨by omega, ?_⟩⟩
        by_cases hc : v 13 (i / 2) = 0 ∨ v 14 (kNd (σ 101) (σ 102) i) = 0
        · rw [show bi (v 13 (i / 2) = 0 ∨ v 14 (kNd (σ 101) (σ 102) i) = 0) = 1 by unfold bi; rw [if_pos hc], or32_1 hy]
          refine KK (1) (_) ⟨by omega, by omega, Fg_w (Fg_w i2 (by decide)) (by decide), ?_, ?_⟩
          · simp only [sw_n (show (13 : Nat) ≠ 14 by decide), sw_s]
            exact kR_set i3 ⟨i0, hi⟩ ⟨n2, n3⟩ (by omega) z1 hc
          · exact kV_x i4
        · rw [show bi (v 13 (i / 2) = 0 ∨ v 14 (kNd (σ 101) (σ 102) i) = 0) = 0 by unfold bi; rw [if_neg hc], or32_0 hy]
          have y1 := (i3.1.1 (i / 2) (by omega) (by omega)).1
          have y2 := (i3.1.2.1 _ n2 n3).1
          refine KK (y) (_) ⟨by omega, by omega, Fg_w (Fg_w i2 (by decide)) (by decide), ?_, ?_⟩
          · simp only [sw_n (show (13 : Nat) ≠ 14 by decide), sw_s]
            rw [fu_id (show v 13 (i / 2) = 1 by omega), fu_id (show v 14 (kNd (σ 101) (σ 102) i) = 1 by omega)]
            exact kR_skip i3 (fun w => by omega)
          · simp only [sw_n (show (13 : Nat) ≠ 14 by decide), sw_n (show (1 : Nat) ≠ 14 by decide), sw_n (show (1 : Nat) ≠ 13 by decide), sw_s]
            rw [fu_id (show v 13 (i / 2) = 1 by omega), fu_id (show v 14 (kNd (σ 101) (σ 102) i) = 1 by omega)]
            exact kV_skip i4 (Or.inl (by omega))
    · rintro i y v hi ⟨i0, i1, i2, i3, i4⟩
      have v11 : v 1 1 = σ 96 6 := by rw [i2 1 1 (by decide) (by decide)]; omega
      have ei : i = 2 * σ 96 6 := by omega
      subst ei
      refine b41_79 ⟨by omega, fun _ => ⟨by omega, ?_⟩, fun z => by omega⟩
      refine K (y) (v) ⟨by omega, i2, i3.2.1, i3.1, kV_0 i4, fun z => ?_, fun z => ?_⟩
      · have := i3.2.2.1
        omega
      · subst z
        exact ⟨(kR_end i3).1, (kR_end i3).2, kV_end i4 i3 hnd⟩
  · rintro r x w hr ⟨j0, j1, j2, j3, j4, j5, j6⟩
    refine b41_64 ⟨fun z => fin w j1 (j6 z).1 (j6 z).2.1 (j6 z).2.2, fun z => ?_⟩
    have := kC_b (by omega) (by omega) j3
    have := j5 (by omega)
    omega
/-- the dry nodes -/
def KD (σ : aW) (f n : Int) : Prop := KN σ f n ∨ ¬ KW σ f n
theorem c45 {d : Nat} {Q : aQ} {σ s : aW} {f : Int} (hN : INet σ) (hF : kF σ s) (h14 : ∀ n, 0 ≤ n → n < σ 96 5 → (¬ s 14 n = 0 ↔ KN σ f n)) (h15 : ∀ n, 0 ≤ n → n < σ 96 5 → (¬ s 15 n = 0 ↔ KW σ f n)) (k : ∀ x, Bs x (fun j => (j : Int) < σ 96 5 ∧ KD σ f j) → Q (some (vl x)) s) : aEv (d + 1) true 45 [vr 1] s Q := by
  have hn := hN.1
  unfold Nn at hn
  have e10 : s 1 0 = σ 96 5 := by rw [hF 1 0 (by decide) (by decide)]; omega
  refine e45 (b45_0 ?_)
  refine for_up (X := fun i x => Yx (d + 1) cd45 2 Q 4 [vr 1, vl x, vt, vi i] [] s) (I := fun i x => 0 ≤ i ∧ i ≤ σ 96 5 ∧ Bs x (fun j => (j : Int) < i ∧ KD σ f j)) (N := σ 96 5) ?_ ?_ 0 _ ⟨Int.le_refl _, by omega, Bs_0 (fun j z => by omega)⟩
  · rintro i x hi ⟨i0, i1, i2⟩ K
    have q1 := h14 i i0 hi
    have q2 := h15 i i0 hi
    have ei : ((i.toNat : Nat) : Int) = i := by omega
    have hD : KD σ f i ↔ (¬ s 14 i = 0 ∨ s 15 i = 0) := by
      unfold KD
      rw [← q1, ← q2]
      omega
    refine b45_4 ⟨fun z => by omega, fun _ => ⟨by omega, fun z => ⟨by omega, K _ ⟨by omega, by omega, Bs_c i2 (fun j => ?_)⟩⟩, fun z => ⟨by omega, K _ ⟨by omega, by omega, Bs_a i2 i0 (by omega) (fun j => ?_)⟩⟩⟩⟩
    · constructor
      · exact fun y => ⟨by omega, y.2⟩
      · rintro ⟨y1, y2⟩
        by_cases e : (j : Int) = i
        · rw [e] at y2
          exact absurd (hD.mp y2) z
        · exact ⟨by omega, y2⟩
    · constructor
      · rintro ⟨y1, y2⟩
        by_cases e : (j : Int) = i
        · exact Or.inr (by omega)
        · exact Or.inl ⟨by omega, y2⟩
      · rintro (y | y)
        · exact ⟨by omega, y.2⟩
        · subst y
          rw [ei]
          exact ⟨by omega, hD.mpr z⟩
  · rintro i x hi ⟨i0, i1, i2⟩
    have ei : i = σ 96 5 := by omega
    subst ei
    exact b45_4 ⟨fun _ => k x i2, fun z => by omega⟩
theorem c46 {d : Nat} {Q : aQ} {σ s : aW} {f : Int} (hN : INet σ) (hF : kF σ s) (h14 : ∀ n, 0 ≤ n → n < σ 96 5 → (¬ s 14 n = 0 ↔ KN σ f n)) (h15 : ∀ n, 0 ≤ n → n < σ 96 5 → (¬ s 15 n = 0 ↔ KW σ f n)) (k : ∀ x, Bs x (fun j => (j : Int) < σ 96 7 ∧ KD σ f (σ 109 j)) → Q (some (vl x)) s) : aEv (d + 1) true 46 [vr 1] s Q := by
  have hn := hN.1
  unfold Nn at hn
  have e12 : s 1 2 = σ 96 7 := by rw [hF 1 2 (by decide) (by decide)]; omega
  have e10 : s 10 = σ 10 := Fg_k hF rfl rfl
  refine e46 (b46_0 ?_)
  refine for_up (X := fun i x => Yx (d + 1) cd46 2 Q 4 [vr 1, vl x, vt, vi i] [] s) (I := fun i x => 0 ≤ i ∧ i ≤ σ 96 7 ∧ Bs x (fun j => (j : Int) < i ∧ KD σ f (σ 109 j))) (N := σ 96 7) ?_ ?_ 0 _ ⟨Int.le_refl _, by omega, Bs_0 (fun j z => by omega)⟩
  · rintro i x hi ⟨i0, i1, i2⟩ K
    have hh := hN.2.2.2.2 i i0 hi
    unfold Nh at hh
    have eh : s 10 i = σ 109 i := by rw [e10]; omega
    have q1 := h14 (σ 109 i) (by omega) (by omega)
    have q2 := h15 (σ 109 i) (by omega) (by omega)
    have ei : ((i.toNat : Nat) : Int) = i := by omega
    have hD : KD σ f (σ 109 i) ↔ (¬ s 14 (σ 109 i) = 0 ∨ s 15 (σ 109 i) = 0) := by
      unfold KD
      rw [← q1, ← q2]
      omega
    refine b46_4 ⟨fun z => by omega, fun _ => ?_⟩
    rw [eh]
    refine ⟨by omega, by omega, fun z => ⟨by omega, K _ ⟨by omega, by omega, Bs_c i2 (fun j => ?_)⟩⟩, fun z => ⟨by omega, K _ ⟨by omega, by omega, Bs_a i2 i0 (by omega) (fun j => ?_)⟩⟩⟩
    · constructor
      · exact fun y => ⟨by omega, y.2⟩
      · rintro ⟨y1, y2⟩
        by_cases e : (j : Int) = i
        · rw [e] at y2
          exact absurd (hD.mp y2) z
        · exact ⟨by omega, y2⟩
    · constructor
      · rintro ⟨y1, y2⟩
        by_cases e : (j : Int) = i
        · exact Or.inr (by omega)
        · exact Or.inl ⟨by omega, y2⟩
      · rintro (y | y)
        · exact ⟨by omega, y.2⟩
        · subst y
          rw [ei]
          exact ⟨by omega, hD.mpr z⟩
  · rintro i x hi ⟨i0, i1, i2⟩
    have ei : i = σ 96 7 := by omega
    subst ei
    exact b46_4 ⟨fun _ => k x i2, fun z => by omega⟩
end
