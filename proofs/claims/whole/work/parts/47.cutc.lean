section
/-! where a burst runs to: the component -/
def KP (σ : aW) (f x : Int) : Prop := kP (σ 101) (σ 102) (σ 106) (σ 96 6) f x
def KN (σ : aW) (f x : Int) : Prop := kN (σ 101) (σ 102) (σ 106) (σ 96 6) f x
def KT (σ : aW) (f : Int) (j : Nat) : Prop := kT (σ 101) (σ 102) (σ 106) (σ 96 6) f j
def KL (σ : aW) (f p : Int) : Prop := (σ 108 p = 0 ∧ σ 107 (2 * p) = 0 ∧ σ 107 (2 * p + 1) = 0) ∧ ¬ KP σ f p ∧ ¬ KT σ f (2 * p).toNat ∧ ¬ KT σ f (2 * p + 1).toNat
def KW (σ : aW) (f x : Int) : Prop := kW (σ 101) (σ 102) (σ 96 6) (KL σ f) x
theorem nd_eq {σ : aW} (hN : INet σ) {i : Int} (h0 : 0 ≤ i) (h1 : i < 2 * σ 96 6) : (if i % 2 = 0 then σ 2 (i / 2) else σ 3 (i / 2)) = kNd (σ 101) (σ 102) i ∧ 0 ≤ kNd (σ 101) (σ 102) i ∧ kNd (σ 101) (σ 102) i < σ 96 5 := by
  have hp := hN.2.1 (i / 2) (by omega) (by omega)
  unfold Np at hp
  unfold kNd
  split <;> omega
theorem c42 {d : Nat} {Q : aQ} {σ : aW} {a1 n : Int} (en : (if a1 % 2 = 0 then σ 2 (a1 / 2) else σ 3 (a1 / 2)) = n) (h1 : 0 ≤ a1 ∧ a1 < 40) (hn : 0 ≤ n ∧ n < 12) (k0 : σ 13 (a1 / 2) = 0 → σ 14 n = 0 → Q (some (vi 0)) σ) (k1 : (¬ σ 13 (a1 / 2) = 0 ∨ ¬ σ 14 n = 0) → ¬ σ 8 a1 = 0 → Q (some (vi 0)) (sw σ 1 (fu (σ 1) 15 (or64 (σ 1 15) (sh64l 1 a1)))))
    (k2 : (¬ σ 13 (a1 / 2) = 0 ∨ ¬ σ 14 n = 0) → σ 8 a1 = 0 → Q (some (vi (bi (σ 13 (a1 / 2) = 0 ∨ σ 14 n = 0)))) (sw (sw σ 13 (fu (σ 13) (a1 / 2) 1)) 14 (fu (σ 14) n 1))) : aEv (d + 1) true 42 [vr 1, vi a1] σ Q := by
  refine e42 (b42_0 ?_)
  rw [en]
  (repeat' first | with_reducible apply And.intro | with_reducible intro _)
  all_goals first
    | omega
    | exact k0 (by assumption) (by assumption)
    | exact k1 (Or.inl (by assumption)) (by assumption)
    | exact k1 (Or.inr (by assumption)) (by assumption)
    | (refine q_eq ?_ (k2 (Or.inl (by assumption)) (by assumption)); clear k0 k1 k2; unfold bi; simp [*])
    | (refine q_eq ?_ (k2 (Or.inr (by assumption)) (by assumption)); clear k0 k1 k2; unfold bi; simp [*])
def kF (σ s : aW) : Prop := Fg [13, 14, 15] [(1, 15)] σ s
theorem c43 {d : Nat} {Q : aQ} {σ s0 : aW} {f : Int} (hN : INet σ) (hF : kF σ s0) (h13 : ∀ p, 0 ≤ p → p < σ 96 6 → (¬ s0 13 p = 0 ↔ KP σ f p)) (hT : Bs (s0 1 15) (KT σ f))
    (k : ∀ s, Fr [15] s0 s → (∀ n, 0 ≤ n → n < σ 96 5 → (¬ s 15 n = 0 ↔ KW σ f n)) → Q none s) : aEv (d + 1) true 43 [vr 1] s0 Q := by
  have hn := hN.1
  unfold Nn at hn
  have e10 : s0 1 0 = σ 96 5 := by rw [hF 1 0 (by decide) (by decide)]; omega
  have e11 : s0 1 1 = σ 96 6 := by rw [hF 1 1 (by decide) (by decide)]; omega
  have e2 : s0 2 = σ 2 := Fg_k hF rfl rfl
  have e3 : s0 3 = σ 3 := Fg_k hF rfl rfl
  have e7 : s0 7 = σ 7 := Fg_k hF rfl rfl
  have e9 : s0 9 = σ 9 := Fg_k hF rfl rfl
  refine e43 (b43_0 ?_)
  refine for_up (X := fun i s => Yx (d + 1) cd43 0 Q 2 [vr 1, vi i, vt, vt, vt] [] s) (I := fun i s => 0 ≤ i ∧ i ≤ σ 96 5 ∧ Fr [15] s0 s ∧ ∀ j, 0 ≤ j → j < i → s 15 j = bi (j = 0)) (N := σ 96 5) ?_ ?_ 0 _ ⟨Int.le_refl _, by omega, Fr_r, fun j j0 j1 => by omega⟩
  · rintro i s hi ⟨g1, g2, g3, g4⟩ K
    refine b43_2 ⟨fun z => ?_, fun _ => ⟨by omega, by omega, K _ ⟨by omega, by omega, Fr_w g3 (by decide), fun j j0 j1 => ?_⟩⟩⟩
    · rw [g3 1 (by decide)] at z
      omega
    · rw [sw_s]
      by_cases e : j = i
      · subst e
        rw [fu_s]
      · rw [fu_n e]
        exact g4 j j0 (by omega)
  · rintro i s hi ⟨g1, g2, g3, g4⟩
    have ei : i = σ 96 5 := by omega
    subst ei
    refine b43_2 ⟨fun _ => ?_, fun z => absurd (by rw [g3 1 (by decide)]; omega) z⟩
    have hw0 : ∀ n, 0 ≤ n → n < σ 96 5 → (s 15 n = 0 ∨ s 15 n = 1) ∧ (¬ s 15 n = 0 → KW σ f n) := fun n n0 n1 => by
      rw [g4 n n0 n1]
      refine ⟨bi_01, fun z => ?_⟩
      have e : n = 0 := by
        unfold bi at z
        split at z
        · assumption
        · omega
      subst e
      exact fun W hw h0 => h0
    have hw1 : ¬ s 15 0 = 0 := by
      rw [g4 0 (by omega) (by omega)]
      decide
    have hw2 : 1 ≤ sI (s 15) (σ 96 5).toNat := by
      have h2 := sI_b (f := fu (s 15) 0 0) (B := 1) (n := (σ 96 5).toNat) (fun p p0 p1 => by
        unfold fu
        split
        · omega
        · have := (hw0 p p0 (by omega)).1
          omega)
      rw [sI_fu (by omega) (by omega)] at h2
      have := (hw0 0 (by omega) (by omega)).1
      omega
    refine for_up2 (X := fun r qa qb => Yx (d + 1) cd43 0 Q 35 [vr 1, vi qa, vi r, vt, vt] [] qb) (I := fun r qa qb => 0 ≤ r ∧ Fr [15] s0 qb ∧ (qa = 0 ∨ qa = 1) ∧ (∀ n, 0 ≤ n → n < σ 96 5 → (qb 15 n = 0 ∨ qb 15 n = 1) ∧ (¬ qb 15 n = 0 → KW σ f n)) ∧ ¬ qb 15 0 = 0 ∧ (qa = 1 → r + 1 ≤ sI (qb 15) (σ 96 5).toNat) ∧ (qa = 0 → ∀ n, 0 ≤ n → n < σ 96 5 → (¬ qb 15 n = 0 ↔ KW σ f n))) (N := 13) ?_ ?_ 0 (1) (s) ⟨Int.le_refl _, g3, Or.inr rfl, hw0, hw1, fun _ => by omega, fun z => by cases z⟩
    · rintro r x t hr ⟨j0, j1, j2, j3, j4, j5, j6⟩ K
      refine b43_35 ⟨fun z => k t j1 (j6 z), fun z => ⟨fun w => by omega, fun _ => ?_⟩⟩
      have hx : x = 1 := by omega
      have hw : kWr (σ 101) (σ 102) (σ 96 6) (σ 96 5) (KL σ f) (sI (t 15) (σ 96 5).toNat) 0 0 (t 15) := ⟨j3, j4, Or.inl rfl, by omega, fun _ j j0 j1 => by omega⟩
      refine for_up2 (X := fun i qa qb => Yx (d + 1) cd43 0 Q 49 [vr 1, vi qa, vi r, vi i, vt] [] qb) (I := fun i qa qb => 0 ≤ i ∧ i ≤ σ 96 6 ∧ Fr [15] s0 qb ∧ kWr (σ 101) (σ 102) (σ 96 6) (σ 96 5) (KL σ f) (sI (t 15) (σ 96 5).toNat) i qa (qb 15)) (N := σ 96 6) ?_ ?_ 0 (0) (t) ⟨Int.le_refl _, by omega, j1, hw⟩
      · rintro i y u hi ⟨i0, i1, i2, i3⟩ KK
        have hp := hN.2.1 i i0 hi
        have hb := hN.2.2.1 i i0 (by omega)
        have hv1 := hN.2.2.2.1 (2 * i) (by omega) (by omega)
        have hv2 := hN.2.2.2.1 (2 * i + 1) (by omega) (by omega)
        unfold Np at hp
        unfold Nb at hb
        unfold Nv at hv1 hv2
        have u1 : u 1 = s0 1 := i2 1 (by decide)
        have u2 : u 2 i = σ 101 i := by rw [i2 2 (by decide), e2]; omega
        have u3 : u 3 i = σ 102 i := by rw [i2 3 (by decide), e3]; omega
        have u7 : u 7 i = σ 108 i := by rw [i2 7 (by decide), e7]; omega
        have u9 : u 9 (2 * i) = σ 107 (2 * i) := by rw [i2 9 (by decide), e9]; omega
        have u9b : u 9 (2 * i + 1) = σ 107 (2 * i + 1) := by rw [i2 9 (by decide), e9]; omega
        have u13 : u 13 i = s0 13 i := by rw [i2 13 (by decide)]
        have q13 := h13 i i0 hi
        have q15 := Bs_3 hT (v := 2 * i) (by omega) (by omega)
        have et : (2 * i).toNat + 1 = (2 * i + 1).toNat := by omega
        rw [et] at q15
        have hKL : KL σ f i ↔ ((u 7 i = 0 ∧ u 9 (2 * i) = 0 ∧ u 9 (2 * i + 1) = 0) ∧ u 13 i = 0 ∧ and64 (sh64r (u 1 15) (2 * i)) 3 = 0) := by
          unfold KL
          rw [u7, u9, u9b, u13, u1, q15, ← q13]
          constructor
          · rintro ⟨z1, z2, z3, z4⟩
            exact ⟨z1, by omega, z3, z4⟩
          · rintro ⟨z1, z2, z3, z4⟩
            exact ⟨z1, by omega, z3, z4⟩
        have hskip : (KL σ f i → u 15 (u 2 i) = u 15 (u 3 i)) → Yx (d + 1) cd43 0 Q 49 [vr 1, vi y, vi r, vi (i + 1), vt] [] u := fun z => KK (y) (u) ⟨by omega, by omega, i2, kWr_skip i3 (by rw [← u2, ← u3]; exact z)⟩
        refine b43_49 ⟨fun z => by rw [u1] at z; omega, fun _ => ⟨by omega, fun z => ⟨by omega, hskip (fun w => absurd (hKL.mp w).1 z)⟩, fun z => ⟨by omega, fun z2 => ⟨by omega, hskip (fun w => absurd (hKL.mp w).2.1 z2)⟩, fun z2 => ⟨by omega, fun z3 => ⟨by omega, hskip (fun w => absurd (hKL.mp w).2.2 z3)⟩, fun z3 => ⟨by omega, by omega, by omega, by omega, fun z4 => ⟨by omega, hskip (fun _ => z4)⟩, fun z4 => ⟨by omega, by omega, by omega, by omega, by omega, ?_⟩⟩⟩⟩⟩⟩
        refine KK (1) (_) ⟨by omega, by omega, Fr_w (Fr_w i2 (by decide)) (by decide), ?_⟩
        simp only [sw_s]
        rw [u2, u3] at z4 ⊢
        exact kWr_set i3 ⟨i0, hi⟩ (by omega) (by omega) (hKL.mpr ⟨z, z2, z3⟩) z4
      · rintro i y u hi ⟨i0, i1, i2, i3⟩
        have ei : i = σ 96 6 := by omega
        subst ei
        have u1 : u 1 = s0 1 := i2 1 (by decide)
        refine b43_49 ⟨fun _ => ⟨by omega, ?_⟩, fun z => absurd (by rw [u1]; omega) z⟩
        refine K (y) (u) ⟨by omega, i2, i3.2.2.1, i3.1, i3.2.1, fun z => ?_, fun z => ?_⟩
        · have := i3.2.2.2.1
          have := j5 hx
          omega
        · subst z
          exact fun n n0 n1 => kWr_end i3 n n0 n1
    · rintro r x t hr ⟨j0, j1, j2, j3, j4, j5, j6⟩
      refine b43_35 ⟨fun z => k t j1 (j6 z), fun z => ?_⟩
      have h2 := sI_b (f := t 15) (B := 1) (n := (σ 96 5).toNat) (fun p p0 p1 => by have := (j3 p p0 (by omega)).1; omega)
      have := j5 (by omega)
      omega
end
