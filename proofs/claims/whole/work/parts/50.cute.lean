section
/-! where a burst runs to: the reference, all of it -/
theorem c227w {d : Nat} {Q : aQ} {σ s0 : aW} {f : Int} (hN : INet σ) (hG : kG σ s0) (h13 : ∀ p, 0 ≤ p → p < σ 96 6 → (¬ s0 142 p = 0 ↔ KP σ f p)) (hT : Bs (s0 96 83) (KT σ f))
    (k : ∀ s, Fr [144] s0 s → (∀ n, 0 ≤ n → n < σ 96 5 → (¬ s 144 n = 0 ↔ KW σ f n)) → Yx (d + 1) cd227 0 Q 419 [vr 96, vt, vt, vi 0, vt, vt, vt] [] s) : Yx (d + 1) cd227 0 Q 275 [vr 96, vt, vt, vi 0, vt, vt, vt] [] s0 := by
  have hn := hN.1
  unfold Nn at hn
  have e6 : s0 96 6 = σ 96 6 := hG 96 6 (by decide) (by decide)
  have e1 : s0 101 = σ 101 := Fg_k hG rfl rfl
  have e2 : s0 102 = σ 102 := Fg_k hG rfl rfl
  have e7 : s0 107 = σ 107 := Fg_k hG rfl rfl
  have e8 : s0 108 = σ 108 := Fg_k hG rfl rfl
  refine for_up (X := fun i s => Yx (d + 1) cd227 0 Q 275 [vr 96, vt, vt, vi i, vt, vt, vt] [] s) (I := fun i s => 0 ≤ i ∧ i ≤ 12 ∧ Fr [144] s0 s ∧ ∀ j, 0 ≤ j → j < i → s 144 j = bi (j = 0)) (N := 12) ?_ ?_ 0 _ ⟨Int.le_refl _, by omega, Fr_r, fun j j0 j1 => by omega⟩
  · rintro i s hi ⟨g1, g2, g3, g4⟩ K
    refine b227_275 ⟨fun z => by omega, fun _ => ⟨by omega, by omega, K _ ⟨by omega, by omega, Fr_w g3 (by decide), fun j j0 j1 => ?_⟩⟩⟩
    rw [sw_s]
    by_cases e : j = i
    · subst e
      rw [fu_s]
    · rw [fu_n e]
      exact g4 j j0 (by omega)
  rintro i s hi ⟨g1, g2, g3, g4⟩
  refine b227_275 ⟨fun _ => ?_, fun z => absurd hi z⟩
  have hw0 : ∀ n, 0 ≤ n → n < σ 96 5 → (s 144 n = 0 ∨ s 144 n = 1) ∧ (¬ s 144 n = 0 → KW σ f n) := fun n n0 n1 => by
    rw [g4 n n0 (by omega)]
    refine ⟨bi_01, fun z => ?_⟩
    have e : n = 0 := by
      unfold bi at z
      split at z
      · assumption
      · omega
    subst e
    exact fun W hw h0 => h0
  have hw1 : ¬ s 144 0 = 0 := by
    rw [g4 0 (by omega) (by omega)]
    decide
  refine lp_m2 (X := fun qa qb => Yx (d + 1) cd227 0 Q 304 [vr 96, vt, vi qa, vt, vt, vt, vt] [] qb) (I := fun qa qb => Fr [144] s0 qb ∧ (qa = 0 ∨ qa = 1) ∧ (∀ n, 0 ≤ n → n < σ 96 5 → (qb 144 n = 0 ∨ qb 144 n = 1) ∧ (¬ qb 144 n = 0 → KW σ f n)) ∧ ¬ qb 144 0 = 0 ∧ (qa = 0 → ∀ n, 0 ≤ n → n < σ 96 5 → (¬ qb 144 n = 0 ↔ KW σ f n))) (fun qa qb => if qa = 0 then 0 else (40 - sI (qb 144) (σ 96 5).toNat).toNat + 1) ?_ (1) (s) ⟨g3, Or.inr rfl, hw0, hw1, fun z => by cases z⟩
  rintro x t ⟨j1, j2, j3, j4, j6⟩ K
  refine b227_304 ⟨fun z => k t j1 (j6 z), fun z => ?_⟩
  have hw : kWr (σ 101) (σ 102) (σ 96 6) (σ 96 5) (KL σ f) (sI (t 144) (σ 96 5).toNat) 0 0 (t 144) := ⟨j3, j4, Or.inl rfl, by omega, fun _ j j0 j1 => by omega⟩
  refine for_up2 (X := fun i qa qb => Yx (d + 1) cd227 0 Q 312 [vr 96, vt, vi qa, vi i, vt, vt, vt] [] qb) (I := fun i qa qb => 0 ≤ i ∧ i ≤ σ 96 6 ∧ Fr [144] s0 qb ∧ kWr (σ 101) (σ 102) (σ 96 6) (σ 96 5) (KL σ f) (sI (t 144) (σ 96 5).toNat) i qa (qb 144)) (N := σ 96 6) ?_ ?_ 0 (0) (t) ⟨Int.le_refl _, by omega, j1, hw⟩
  · rintro i y u hi ⟨i0, i1, i2, i3⟩ KK
    have hp := hN.2.1 i i0 hi
    unfold Np at hp
    have u96 : u 96 = s0 96 := i2 96 (by decide)
    have u1 : u 101 = σ 101 := by rw [i2 101 (by decide), e1]
    have u2 : u 102 = σ 102 := by rw [i2 102 (by decide), e2]
    have u7 : u 107 = σ 107 := by rw [i2 107 (by decide), e7]
    have u8 : u 108 = σ 108 := by rw [i2 108 (by decide), e8]
    have u13 : u 142 i = s0 142 i := by rw [i2 142 (by decide)]
    have q13 := h13 i i0 hi
    have q15 := Bs_3 hT (v := 2 * i) (by omega) (by omega)
    have et : (2 * i).toNat + 1 = (2 * i + 1).toNat := by omega
    rw [et] at q15
    have hKL : KL σ f i ↔ ((σ 108 i = 0 ∧ σ 107 (2 * i) = 0 ∧ σ 107 (2 * i + 1) = 0) ∧ u 142 i = 0 ∧ and64 (sh64r (u 96 83) (2 * i)) 3 = 0) := by
      unfold KL
      rw [u13, u96, q15, ← q13]
      constructor
      · rintro ⟨z1, z2, z3, z4⟩
        exact ⟨z1, by omega, z3, z4⟩
      · rintro ⟨z1, z2, z3, z4⟩
        exact ⟨z1, by omega, z3, z4⟩
    have hskip : (KL σ f i → u 144 (σ 101 i) = u 144 (σ 102 i)) → Yx (d + 1) cd227 0 Q 312 [vr 96, vt, vi y, vi (i + 1), vt, vt, vt] [] u := fun z => KK (y) (u) ⟨by omega, by omega, i2, kWr_skip i3 z⟩
    refine b227_312 ⟨fun z => by rw [u96] at z; omega, fun _ => ?_⟩
    rw [u1, u2, u7, u8]
    refine ⟨by omega, fun z => ⟨by omega, hskip (fun w => absurd (hKL.mp w).1 z)⟩, fun z => ⟨by omega, fun z2 => ⟨by omega, hskip (fun w => absurd (hKL.mp w).2.1 z2)⟩, fun z2 => ⟨by omega, fun z3 => ⟨by omega, hskip (fun w => absurd (hKL.mp w).2.2 z3)⟩, fun z3 => ⟨by omega, by omega, by omega, by omega, fun z4 => ⟨by omega, by omega, by omega, by omega, by omega, ?_⟩, fun z4 => ⟨by omega, hskip (fun _ => z4)⟩⟩⟩⟩⟩
    refine KK (1) (_) ⟨by omega, by omega, Fr_w (Fr_w i2 (by decide)) (by decide), ?_⟩
    simp only [sw_s]
    exact kWr_set i3 ⟨i0, hi⟩ (by omega) (by omega) (hKL.mpr ⟨z, z2, z3⟩) z4
  · rintro i y u hi ⟨i0, i1, i2, i3⟩
    have ei : i = σ 96 6 := by omega
    subst ei
    have u96 : u 96 = s0 96 := i2 96 (by decide)
    refine b227_312 ⟨fun _ => ?_, fun z => absurd (by rw [u96]; omega) z⟩
    refine K (y) (u) ⟨i2, i3.2.2.1, i3.1, i3.2.1, fun w => ?_⟩ ?_
    · subst w
      exact fun n n0 n1 => kWr_end i3 n n0 n1
    · have := i3.2.2.2.1
      have := i3.2.2.1
      have := kWr_b (by omega) i3
      rw [if_neg z]
      split <;> omega
theorem c227 {d : Nat} {Q : aQ} {σ s0 : aW} {f : Int} (hN : INet σ) (hf : 0 ≤ f ∧ f < σ 96 6) (hG : kG σ s0)
    (k : ∀ s, Fg [142, 143, 144] [(96, 83)] s0 s → (∀ n, 0 ≤ n → n < σ 96 5 → (¬ s 143 n = 0 ↔ KD σ f n)) → Bs (s 96 83) (KT σ f) → Q none s) : aEv (d + 1) true 227 [vr 96, vi f] s0 Q := by
  have hn := hN.1
  unfold Nn at hn
  have hnd : ∀ i, 0 ≤ i → i < 2 * σ 96 6 → 0 ≤ kNd (σ 101) (σ 102) i ∧ kNd (σ 101) (σ 102) i < σ 96 5 := fun i i0 i1 => (nd_eq hN i0 i1).2
  refine e227 (b227_0 ?_)
  refine for_up (X := fun i s => Yx (d + 1) cd227 0 Q 2 [vr 96, vi f, vi i, vt, vt, vt, vt] [] s) (I := fun i s => 0 ≤ i ∧ i ≤ 20 ∧ Fr [142] s0 s ∧ ∀ j, 0 ≤ j → j < i → s 142 j = bi (j = f)) (N := 20) ?_ ?_ 0 _ ⟨Int.le_refl _, by omega, Fr_r, fun j j0 j1 => by omega⟩
  · rintro i s hi ⟨g1, g2, g3, g4⟩ K
    refine b227_2 ⟨fun z => by omega, fun _ => ⟨by omega, by omega, K _ ⟨by omega, by omega, Fr_w g3 (by decide), fun j j0 j1 => ?_⟩⟩⟩
    rw [sw_s]
    by_cases e : j = i
    · subst e
      rw [fu_s]
    · rw [fu_n e]
      exact g4 j j0 (by omega)
  rintro i s hi ⟨g1, g2, g3, g4⟩
  refine b227_2 ⟨fun _ => ?_, fun z => absurd hi z⟩
  refine for_up (X := fun i s => Yx (d + 1) cd227 0 Q 32 [vr 96, vt, vi i, vt, vt, vt, vt] [] s) (I := fun i t => 0 ≤ i ∧ i ≤ 12 ∧ Fr [143] s t ∧ ∀ j, 0 ≤ j → j < i → t 143 j = 0) (N := 12) ?_ ?_ 0 _ ⟨Int.le_refl _, by omega, Fr_r, fun j j0 j1 => by omega⟩
  · rintro i t hi ⟨h1, h2, h3, h4⟩ K
    refine b227_32 ⟨fun z => by omega, fun _ => ⟨by omega, by omega, K _ ⟨by omega, by omega, Fr_w h3 (by decide), fun j j0 j1 => ?_⟩⟩⟩
    rw [sw_s]
    by_cases e : j = i
    · subst e
      rw [fu_s]
    · rw [fu_n e]
      exact h4 j j0 (by omega)
  rintro i' t hi' ⟨h1, h2, h3, h4⟩
  refine b227_32 ⟨fun _ => ?_, fun z => absurd hi' z⟩
  have f0 : Fg [142, 143, 144] [(96, 83)] s0 (sw t 96 (fu (t 96) 83 0)) := Fg_f (Fg_t (Fg_F (Fr_s g3 (by decide))) (Fg_F (Fr_s h3 (by decide)))) (by decide)
  have e13 : ∀ j, 0 ≤ j → j < σ 96 6 → (sw t 96 (fu (t 96) 83 0)) 142 j = bi (j = f) := fun j j0 j1 => by
    rw [sw_n (by decide), h3 142 (by decide)]
    exact g4 j j0 (by omega)
  have e14 : ∀ j, 0 ≤ j → j < σ 96 5 → (sw t 96 (fu (t 96) 83 0)) 143 j = 0 := fun j j0 j1 => by
    rw [sw_n (by decide)]
    exact h4 j j0 (by omega)
  have e15 : (sw t 96 (fu (t 96) 83 0)) 96 83 = 0 := by rw [sw_s, fu_s]
  generalize sw t 96 (fu (t 96) 83 0) = u at f0 e13 e14 e15
  have hsub : ∀ w, Fg [142, 143, 144] [(96, 83)] s0 w → kG σ w := fun w z => Fg_t hG (Fg_m z (by decide) (by decide))
  have s1 : kS (σ 101) (σ 102) (σ 106) (σ 96 6) (σ 96 5) f (u 142) (u 143) := by
    refine ⟨fun p p0 p1 => ?_, fun n n0 n1 => ?_, ?_⟩
    · rw [e13 p p0 p1]
      refine ⟨bi_01, fun z => ?_⟩
      have e : p = f := by
        unfold bi at z
        split at z
        · assumption
        · omega
      subst e
      exact fun R D hc h0 => h0
    · rw [e14 n n0 n1]
      exact ⟨Or.inl rfl, fun z => absurd rfl z⟩
    · rw [e13 f hf.1 hf.2]
      unfold bi
      simp
  refine lp_m2 (X := fun qa qb => Yx (d + 1) cd227 0 Q 58 [vr 96, vt, vi qa, vt, vt, vt, vt] [] qb) (I := fun qa qb => Fg [142, 143, 144] [(96, 83)] s0 qb ∧ qb 96 83 = 0 ∧ (qa = 0 ∨ qa = 1) ∧ kS (σ 101) (σ 102) (σ 106) (σ 96 6) (σ 96 5) f (qb 142) (qb 143) ∧ (qa = 0 → (∀ p, 0 ≤ p → p < σ 96 6 → (¬ qb 142 p = 0 ↔ KP σ f p)) ∧ (∀ n, 0 ≤ n → n < σ 96 5 → (¬ qb 143 n = 0 ↔ KN σ f n)))) (fun qa qb => if qa = 0 then 0 else (40 - kC (σ 96 6) (σ 96 5) (qb 142) (qb 143)).toNat + 1) ?_ (1) (u) ⟨f0, e15, Or.inr rfl, s1, fun z => by cases z⟩
  rintro x w ⟨j1, j0, j2, j3, j4⟩ K
  refine b227_58 ⟨fun z => ?_, fun z => ?_⟩
  · obtain ⟨j5, j6⟩ := j4 z
    refine for_up (X := fun p s => Yx (d + 1) cd227 0 Q 189 [vr 96, vt, vt, vi p, vt, vt, vt] [] s) (I := fun p s => 0 ≤ p ∧ p ≤ σ 96 6 ∧ Fg [] [(96, 83)] w s ∧ Bs (s 96 83) (fun j => (j : Int) < 2 * p ∧ KT σ f j)) (N := σ 96 6) ?_ ?_ 0 w ⟨Int.le_refl _, by omega, Fg_r, by rw [j0]; exact Bs_0 (fun j z => by omega)⟩
    · rintro p v hp ⟨p0, p1, p2, p3⟩ KK
      have g1 : kG σ v := Fg_t (hsub w j1) (Fg_m p2 (by decide) (by decide))
      have a6 : v 96 6 = σ 96 6 := g1 96 6 (by decide) (by decide)
      have a2 : v 142 = w 142 := Fg_k p2 rfl rfl
      have a3 : v 143 = w 143 := Fg_k p2 rfl rfl
      refine b227_189 ⟨fun z => by omega, fun _ => ?_⟩
      refine c227v (e := 0) hN g1 ⟨p0, hp⟩ (Or.inl rfl) (by rw [a2]; exact j5) (by rw [a3]; exact j6) (by rw [Int.add_zero]; exact p3) (fun v1 f1 r1 => ?_)
      have g2 : kG σ v1 := Fg_t g1 (Fg_m f1 (by decide) (by decide))
      refine c227v (e := 0 + 1) hN g2 ⟨p0, hp⟩ (Or.inr rfl) (by rw [Fg_k f1 rfl rfl, a2]; exact j5) (by rw [Fg_k f1 rfl rfl, a3]; exact j6) r1 (fun v2 f2 r2 => ?_)
      refine b227_200 ⟨fun _ => ⟨by omega, KK v2 ⟨by omega, by omega, Fg_t (Fg_t p2 f1) f2, ?_⟩⟩, fun z => by omega⟩
      rw [show 2 * (p + 1) = 2 * p + (0 + 1 + 1) by omega]
      exact r2
    · rintro p v hp ⟨p0, p1, p2, p3⟩
      have g1 : kG σ v := Fg_t (hsub w j1) (Fg_m p2 (by decide) (by decide))
      have a6 : v 96 6 = σ 96 6 := g1 96 6 (by decide) (by decide)
      have a2 : v 142 = w 142 := Fg_k p2 rfl rfl
      have a3 : v 143 = w 143 := Fg_k p2 rfl rfl
      have ep : p = σ 96 6 := by omega
      subst ep
      have hT : Bs (v 96 83) (KT σ f) := Bs_c p3 (fun j => ⟨fun z => z.2, fun z => ⟨z.1, z⟩⟩)
      refine b227_189 ⟨fun _ => ?_, fun z => by omega⟩
      refine c227w hN g1 (by rw [a2]; exact j5) hT (fun y y1 y2 => ?_)
      have b3 : y 143 = w 143 := by rw [y1 143 (by decide), a3]
      have b6 : y 96 = v 96 := y1 96 (by decide)
      have b5 : v 96 5 = σ 96 5 := g1 96 5 (by decide) (by decide)
      refine for_up (X := fun i s => Yx (d + 1) cd227 0 Q 419 [vr 96, vt, vt, vi i, vt, vt, vt] [] s) (I := fun i s => 0 ≤ i ∧ i ≤ σ 96 5 ∧ Fr [143] y s ∧ (∀ n, 0 ≤ n → n < i → (¬ s 143 n = 0 ↔ KD σ f n)) ∧ ∀ n, i ≤ n → n < σ 96 5 → s 143 n = w 143 n) (N := σ 96 5) ?_ ?_ 0 y ⟨Int.le_refl _, by omega, Fr_r, fun n n0 n1 => by omega, fun n n0 n1 => by rw [b3]⟩
      · rintro i c hi ⟨c0, c1, c2, c3, c4⟩ KK
        have q1 := j6 i c0 hi
        have q2 := y2 i c0 hi
        have q3 := c4 i (Int.le_refl _) hi
        have q4 : c 144 i = y 144 i := by rw [c2 144 (by decide)]
        have q5 : c 96 5 = σ 96 5 := by rw [c2 96 (by decide), b6, b5]
        have go : ∀ z : Int, (¬ z = 0 ↔ KD σ f i) → Yx (d + 1) cd227 0 Q 419 [vr 96, vt, vt, vi (i + 1), vt, vt, vt] [] (sw c 143 (fu (c 143) i z)) := fun z hz => KK _ ⟨by omega, by omega, Fr_w c2 (by decide), fun n n0 n1 => by
          rw [sw_s]
          by_cases e : n = i
          · rw [e, fu_s]
            exact hz
          · rw [fu_n e]
            exact c3 n n0 (by omega), fun n n0 n1 => by
          rw [sw_s, fu_n (by omega)]
          exact c4 n (by omega) n1⟩
        refine b227_419 ⟨fun z => by omega, fun _ => ⟨by omega, fun z => ⟨by omega, by omega, go 1 ⟨fun _ => Or.inl (q1.mp (by omega)), fun _ => by omega⟩⟩, fun z => ⟨by omega, by omega, by omega, go _ ?_⟩⟩⟩
        unfold KD
        rw [← q1, ← q2, q4]
        unfold bi
        split <;> omega
      · rintro i c hi ⟨c0, c1, c2, c3, c4⟩
        have q5 : c 96 5 = σ 96 5 := by rw [c2 96 (by decide), b6, b5]
        have ei : i = σ 96 5 := by omega
        subst ei
        refine b227_419 ⟨fun _ => k c (Fg_t (Fg_t (Fg_t j1 (Fg_m p2 (by decide) (by decide))) (Fg_F (Fr_s y1 (by decide)))) (Fg_F (Fr_s c2 (by decide)))) c3 ?_, fun z => by omega⟩
        rw [c2 96 (by decide), b6]
        exact hT
  · refine c227r hN (hsub w j1) j3 (fun y v f1 r1 => ?_)
    refine K (y) (v) ⟨Fg_t j1 (Fg_F (Fr_s f1 (by decide))), by rw [f1 96 (by decide)]; exact j0, r1.2.1, r1.1, fun w => ?_⟩ ?_
    · subst w
      exact kR_end r1
    · have := r1.2.2.1
      have := r1.2.1
      have := kC_b (by omega) (by omega) r1.1
      rw [if_neg z]
      split <;> omega
theorem or64_z {x : Int} {P : Nat → Prop} (h : Bs x P) : or64 x 0 = x := by
  obtain ⟨h1, h2, h3⟩ := or64_n h.1 h.2.1 (Int.le_refl 0) (by decide)
  have e : (0 : Int).toNat = 0 := rfl
  rw [e, Nat.or_zero] at h3
  have := h.1
  omega
theorem c228a {d : Nat} {Q : aQ} {σ s : aW} {f : Int} (hN : INet σ) (hG : kG σ s) (h : ∀ n, 0 ≤ n → n < σ 96 5 → (¬ s 143 n = 0 ↔ KD σ f n)) (k : ∀ x, Bs x (fun j => (j : Int) < σ 96 5 ∧ KD σ f j) → Q (some (vl x)) s) : Yx (d + 2) cd228 2 Q 48 [vr 96, vt, vi 1, vl 0, vt, vi 0] [] s := by
  have hn := hN.1
  unfold Nn at hn
  have e5 : s 96 5 = σ 96 5 := hG 96 5 (by decide) (by decide)
  refine for_up (X := fun i x => Yx (d + 2) cd228 2 Q 48 [vr 96, vt, vi 1, vl x, vt, vi i] [] s) (I := fun i x => 0 ≤ i ∧ i ≤ σ 96 5 ∧ Bs x (fun j => (j : Int) < i ∧ KD σ f j)) (N := σ 96 5) ?_ ?_ 0 _ ⟨Int.le_refl _, by omega, Bs_0 (fun j z => by omega)⟩
  · rintro i x hi ⟨i0, i1, i2⟩ K
    have hD := h i i0 hi
    have ei : ((i.toNat : Nat) : Int) = i := by omega
    refine b228_48 ⟨fun z => by omega, fun _ => ⟨fun z => absurd rfl z, fun _ => ⟨by omega, by omega, K _ ⟨by omega, by omega, ?_⟩⟩⟩⟩
    by_cases z : s 143 i = 0
    · rw [if_pos z, or64_z i2]
      refine Bs_c i2 (fun j => ?_)
      constructor
      · exact fun y => ⟨by omega, y.2⟩
      · rintro ⟨y1, y2⟩
        by_cases e : (j : Int) = i
        · rw [e] at y2
          exact absurd z (hD.mpr y2)
        · exact ⟨by omega, y2⟩
    · rw [if_neg z]
      refine Bs_a i2 i0 (by omega) (fun j => ?_)
      constructor
      · rintro ⟨y1, y2⟩
        by_cases e : (j : Int) = i
        · exact Or.inr (by omega)
        · exact Or.inl ⟨by omega, y2⟩
      · rintro (y | y)
        · exact ⟨by omega, y.2⟩
        · subst y
          rw [ei]
          exact ⟨by omega, hD.mp z⟩
  · rintro i x hi ⟨i0, i1, i2⟩
    have ei : i = σ 96 5 := by omega
    subst ei
    exact b228_48 ⟨fun _ => b228_92 ⟨fun _ => k x i2, fun _ => ⟨fun _ => k x i2, fun z => by cases z⟩⟩, fun z => by omega⟩
theorem c228b {d : Nat} {Q : aQ} {σ s : aW} {f : Int} (hN : INet σ) (hG : kG σ s) (h : ∀ n, 0 ≤ n → n < σ 96 5 → (¬ s 143 n = 0 ↔ KD σ f n)) (k : ∀ x, Bs x (fun j => (j : Int) < σ 96 7 ∧ KD σ f (σ 109 j)) → Q (some (vl x)) s) : Yx (d + 2) cd228 2 Q 92 [vr 96, vt, vi 2, vl 0, vt, vi 0] [] s := by
  have hn := hN.1
  unfold Nn at hn
  have e7 : s 96 7 = σ 96 7 := hG 96 7 (by decide) (by decide)
  have e9 : s 109 = σ 109 := Fg_k hG rfl rfl
  refine for_up (X := fun i x => Yx (d + 2) cd228 2 Q 92 [vr 96, vt, vi 2, vl x, vt, vi i] [] s) (I := fun i x => 0 ≤ i ∧ i ≤ σ 96 7 ∧ Bs x (fun j => (j : Int) < i ∧ KD σ f (σ 109 j))) (N := σ 96 7) ?_ ?_ 0 _ ⟨Int.le_refl _, by omega, Bs_0 (fun j z => by omega)⟩
  · rintro i x hi ⟨i0, i1, i2⟩ K
    have hh := hN.2.2.2.2 i i0 hi
    unfold Nh at hh
    have hD := h (σ 109 i) (by omega) (by omega)
    have ei : ((i.toNat : Nat) : Int) = i := by omega
    refine b228_92 ⟨fun z => by omega, fun _ => ⟨fun z => absurd rfl z, fun _ => ?_⟩⟩
    rw [e9]
    refine ⟨by omega, by omega, by omega, K _ ⟨by omega, by omega, ?_⟩⟩
    by_cases z : s 143 (σ 109 i) = 0
    · rw [if_pos z, or64_z i2]
      refine Bs_c i2 (fun j => ?_)
      constructor
      · exact fun y => ⟨by omega, y.2⟩
      · rintro ⟨y1, y2⟩
        by_cases e : (j : Int) = i
        · rw [e] at y2
          exact absurd z (hD.mpr y2)
        · exact ⟨by omega, y2⟩
    · rw [if_neg z]
      refine Bs_a i2 i0 (by omega) (fun j => ?_)
      constructor
      · rintro ⟨y1, y2⟩
        by_cases e : (j : Int) = i
        · exact Or.inr (by omega)
        · exact Or.inl ⟨by omega, y2⟩
      · rintro (y | y)
        · exact ⟨by omega, y.2⟩
        · subst y
          rw [ei]
          exact ⟨by omega, hD.mp z⟩
  · rintro i x hi ⟨i0, i1, i2⟩
    have ei : i = σ 96 7 := by omega
    subst ei
    exact b228_92 ⟨fun _ => k x i2, fun z => by omega⟩
theorem kF_E {σ s : aW} (h : kF σ s) : kE σ (sw s 96 (fu (s 96) 0 0)) := Fg_f (Fg_m h (by decide) (by decide)) (by decide)
theorem t_cut {σ : aW} {a1 a2 : Int} (hN : INet σ) : aEv 59 true 127 [vr 0, vi a1, vi a2] σ (fun r s => aEv 59 true 228 [vr 96, vi a1, vi a2] s (Tp Tn [13, 14, 15, 142, 143, 144] [(1, 15), (96, 0), (96, 83)] σ r)) := by
  have hn := hN.1
  unfold Nn at hn
  have hr : ∀ r : Option aV, Tp Tn [13, 14, 15, 142, 143, 144] [(1, 15), (96, 0), (96, 83)] σ r r (sw σ 96 (fu (σ 96) 0 0)) := fun r => ⟨rfl, trivial, Fg_f Fg_r (by decide)⟩
  refine e127 (b127_0 ?_)
  (repeat' first | with_reducible apply And.intro | with_reducible intro _)
  all_goals first | omega | skip
  · refine e228 (b228_0 ?_)
    (repeat' first | with_reducible apply And.intro | with_reducible intro _)
    all_goals first | omega | exact hr _
  · rename_i h1 h2
    have hf : 0 ≤ a1 ∧ a1 < σ 96 6 := by omega
    refine c41 (d := 56) hN hf (fun s s1 s2 s3 s4 => ⟨rfl, b127_35 ?_⟩)
    have m6 : s 96 6 = σ 96 6 := s1 96 6 (by decide) (by decide)
    have go : ∀ (r : Option aV) (u : aW), u = s → (∀ t, kE σ t → (∀ n, 0 ≤ n → n < σ 96 5 → (¬ t 143 n = 0 ↔ KD σ a1 n)) → Bs (t 96 83) (KT σ a1) → Yx 59 cd228 2 (Tp Tn [13, 14, 15, 142, 143, 144] [(1, 15), (96, 0), (96, 83)] σ r) 34 [vr 96, vt, vi a2, vt, vt, vt] [] t) → aEv 59 true 228 [vr 96, vi a1, vi a2] u (Tp Tn [13, 14, 15, 142, 143, 144] [(1, 15), (96, 0), (96, 83)] σ r) := by
      rintro r u rfl kk
      refine e228 (b228_0 ⟨by omega, fun z => by omega, fun _ => ⟨fun _ => ?_, fun z => absurd h2 z⟩⟩)
      refine c227 (d := 57) hN hf (kE_G (kF_E s1)) (fun t t1 t2 t3 => ⟨rfl, kk t (Fg_t (kF_E s1) (Fg_m t1 (by decide) (by decide))) t2 t3⟩)
    refine ⟨fun z => ?_, fun z => ⟨fun z2 => ?_, fun z2 => ?_⟩⟩
    · refine go _ s rfl (fun t t1 t2 t3 => b228_34 ⟨fun w => absurd z w, fun _ => ⟨?_, trivial, t1⟩⟩)
      rw [Bs_u s4 t3]
    · refine c45 (d := 57) hN s1 s2 s3 (fun x hx => ⟨x, rfl, b127_79_1 ?_⟩)
      refine go _ s rfl (fun t t1 t2 t3 => b228_34 ⟨fun _ => ?_, fun w => absurd w z⟩)
      subst z2
      exact c228a hN (kE_G t1) t2 (fun y hy => ⟨by rw [Bs_u hx hy], trivial, t1⟩)
    · refine c46 (d := 57) hN s1 s2 s3 (fun x hx => ⟨x, rfl, b127_87_1 ?_⟩)
      refine go _ s rfl (fun t t1 t2 t3 => b228_34 ⟨fun _ => ?_, fun w => absurd w z⟩)
      have e2 : a2 = 2 := by omega
      subst e2
      have e5 : t 96 5 = σ 96 5 := t1 96 5 (by decide) (by decide)
      exact b228_48 ⟨fun w => by omega, fun _ => ⟨fun _ => c228b hN (kE_G t1) t2 (fun y hy => ⟨by rw [Bs_u hx hy], trivial, t1⟩), fun w => by cases w⟩⟩
  · refine e228 (b228_0 ?_)
    (repeat' first | with_reducible apply And.intro | with_reducible intro _)
    all_goals first | omega | exact hr _
end
