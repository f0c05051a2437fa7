section
/-! flows: the component's distances and ways -/
def wG (σ s : aW) : Prop := Fg [17, 18, 19, 20, 21, 22, 23, 24, 26, 31, 109, 110, 111] [(16, 9), (16, 10), (16, 11), (96, 7)] σ s
theorem wG_p {σ s : aW} (hN : INet σ) (hG : wG σ s) {p : Int} (p0 : 0 ≤ p) (p1 : p < σ 96 6) : s 2 p = fN σ 101 p ∧ s 3 p = fN σ 102 p ∧ s 4 p = fN σ 103 p ∧ s 5 p = fN σ 104 p ∧ s 7 p = fN σ 108 p ∧ s 9 (2 * p) = fN σ 107 (2 * p) ∧ s 9 (2 * p + 1) = fN σ 107 (2 * p + 1) := by
  have hn := hN.1
  unfold Nn at hn
  have hp := hN.2.1 p p0 p1
  have hb := hN.2.2.1 p p0 (by omega)
  have hv := hN.2.2.2.1 (2 * p) (by omega) (by omega)
  have hw := hN.2.2.2.1 (2 * p + 1) (by omega) (by omega)
  unfold Np at hp
  unfold Nb at hb
  unfold Nv at hv hw
  rw [Fg_k hG (k := 2) rfl rfl, Fg_k hG (k := 3) rfl rfl, Fg_k hG (k := 4) rfl rfl, Fg_k hG (k := 5) rfl rfl, Fg_k hG (k := 7) rfl rfl, Fg_k hG (k := 9) rfl rfl, fN_k (k := 101) (by omega), fN_k (k := 102) (by omega), fN_k (k := 103) (by omega), fN_k (k := 104) (by omega), fN_k (k := 108) (by omega), fN_k (k := 107) (by omega)]
  omega
theorem wG_1 {σ s : aW} (hN : INet σ) (hG : wG σ s) : s 1 0 = σ 96 5 ∧ s 1 1 = σ 96 6 ∧ s 1 2 = σ 96 7 ∧ s 1 3 = σ 1 3 := by
  have hn := hN.1
  unfold Nn at hn
  rw [hG 1 0 (by decide) (by decide), hG 1 1 (by decide) (by decide), hG 1 2 (by decide) (by decide), hG 1 3 (by decide) (by decide)]
  omega
theorem c273d {d : Nat} {Q : aQ} {σ : aW} {a1 : Int} (k : ∀ s, Fr [23] σ s → (∀ j, 0 ≤ j → j < 12 → s 23 j = a1) → Q none s) : aEv (d + 0) true 273 [vr 23, vi a1] σ Q := by
  refine e273d (b273d_0 ?_)
  refine for_up (X := fun i s => Yx (d + 0) cd273 0 Q 5 [vr 23, vi a1, vi i, vi 12] [] s) (I := fun i s => 0 ≤ i ∧ i ≤ 12 ∧ Fr [23] σ s ∧ ∀ j, 0 ≤ j → j < i → s 23 j = a1) (N := 12) ?_ ?_ 0 σ ⟨Int.le_refl _, by omega, Fr_r, fun j j0 j1 => by omega⟩
  · rintro i s hi ⟨i0, i1, i2, i3⟩ K
    refine b273d_5 ⟨fun z => by omega, fun _ => ⟨by omega, by omega, K _ ⟨by omega, by omega, Fr_w i2 (by decide), fun j j0 j1 => ?_⟩⟩⟩
    rw [sw_s]
    by_cases e : j = i
    · rw [e, fu_s]
    · rw [fu_n e]
      exact i3 j j0 (by omega)
  · rintro i s hi ⟨i0, i1, i2, i3⟩
    exact b273d_5 ⟨fun _ => k s i2 (fun j j0 j1 => i3 j j0 (by omega)), fun z => by omega⟩
theorem c7q {d : Nat} {Q : aQ} {ν u : aW} {f D0 : Int → Int} {t i p n o l : Int} (hN : wN ν) (hq : wQ ν f t D0 i (u 23)) (p0 : 0 ≤ p) (p1 : p < ν 96 6) (hc : wC ν f p n) (ho : o = wO ν p n) (hl : l = ν 103 p)
    (k : ∀ x u', (x = 0 ∨ x = 1) → Fr [23] u u' → wQ ν f t D0 i (u' 23) → u' 23 n ≤ D0 (wO ν p n) + ν 103 p → (∀ j, j ≠ n → u' 23 j = u 23 j) → (x = 0 → u' 23 = u 23) → Q (some (vi x)) u') : aEv (d + 0) true 7 [vr 16, vi n, vi o, vi l] u Q := by
  subst ho
  subst hl
  have a := wC_r hN p0 p1 hc
  have b := wO_r hN (n := n) p0 p1
  have hp := hN.2.2.2.2 p p0 p1
  have hn := hN.2.1
  have v1 := hq.1.2.1 _ a.1 a.2
  have v2 := hq.1.2.1 _ b.1 b.2
  obtain ⟨g1, g2⟩ := wQ_up hN hq p0 p1 hc
  refine e7 (b7_0 ⟨by omega, by omega, by omega, fun z => ⟨by omega, by omega, by omega, ?_⟩, fun z => ?_⟩)
  · rw [show min (u 23 n) (u 23 (wO ν p n) + ν 103 p) = u 23 (wO ν p n) + ν 103 p by omega] at g1 g2
    refine k 1 _ (Or.inr rfl) (Fr_w Fr_r (by decide)) (by rw [sw_s]; exact g1) (by rw [sw_s]; exact g2) (fun j hj => by rw [sw_s, fu_n hj]) (fun z => by omega)
  · rw [fu_id (show u 23 n = min (u 23 n) (u 23 (wO ν p n) + ν 103 p) by omega)] at g1 g2
    exact k 0 u (Or.inl rfl) Fr_r g1 g2 (fun j hj => rfl) (fun _ => rfl)
theorem c6 {d : Nat} {Q : aQ} {σ s0 : aW} {f : Int → Int} {t : Int} (hN : INet σ) (hG : wG σ s0) (t0 : 0 ≤ t) (t1 : t < σ 96 5) (hf : ∀ p, 0 ≤ p → p < σ 96 6 → s0 17 p = f p ∧ s0 21 p = wRm (fN σ) f p)
    (k : ∀ s, Fr [23] s0 s → (∀ n, 0 ≤ n → n < σ 96 5 → s 23 n = wDs (fN σ) f t n) → Q none s) : aEv (d + 1) true 6 [vr 16, vi t] s0 Q := by
  have hn := hN.1
  unfold Nn at hn
  have hW := wN_of hN
  have n5 : fN σ 96 5 = σ 96 5 := fN_5
  have n6 : fN σ 96 6 = σ 96 6 := fN_6
  have hE := wDs_ok (f := f) hW t0 (by omega)
  refine e6 (b6_0 (c273d (fun s1 f1 v1 => ⟨rfl, b6_9 ⟨by omega, ?_⟩⟩)))
  have q0 : wS (fN σ) f t ((sw s1 23 (fu (s1 23) t 0)) 23) := by
    rw [sw_s]
    refine ⟨fu_s, fun n n0 n1 => ?_, fun n n0 n1 hl => ?_⟩
    · unfold fu
      split
      · omega
      · rw [v1 n n0 (by omega)]
        omega
    · by_cases e : n = t
      · exact Or.inl e
      · rw [fu_n e, v1 n n0 (by omega)] at hl
        omega
  have r0 : Fr [23] s0 (sw s1 23 (fu (s1 23) t 0)) := Fr_w f1 (by decide)
  generalize sw s1 23 (fu (s1 23) t 0) = s2 at q0 r0
  refine for_up2 (X := fun r x s => Yx (d + 1) cd6 0 Q 20 [vr 16, vt, vi x, vi r, vt] [] s) (I := fun r x s => 0 ≤ r ∧ Fr [23] s0 s ∧ wS (fN σ) f t (s 23) ∧ (x = 0 → ∀ n, 0 ≤ n → n < σ 96 5 → s 23 n = wDs (fN σ) f t n) ∧ ((∀ n, 0 ≤ n → n < σ 96 5 → s 23 n = wDs (fN σ) f t n) ∨ r + 1 ≤ wCn (fN σ) (wDs (fN σ) f t) (s 23))) (N := 13) ?_ ?_ 0 1 s2 ⟨Int.le_refl _, r0, q0, fun z => by omega, Or.inr (by have := wCn_0 t0 (by omega) q0 hE; omega)⟩
  · rintro r x w hr ⟨j0, j1, j2, j3, j4⟩ K
    refine b6_20 ⟨fun z => k w j1 (j3 z), fun z => ⟨fun z2 => by omega, fun _ => ?_⟩⟩
    refine for_up2 (X := fun i y u => Yx (d + 1) cd6 0 Q 35 [vr 16, vt, vi y, vi r, vi i] [] u) (I := fun i y u => 0 ≤ i ∧ i ≤ σ 96 6 ∧ Fr [23] s0 u ∧ (y = 0 ∨ y = 1) ∧ wQ (fN σ) f t (w 23) i (u 23) ∧ (y = 0 → u 23 = w 23)) (N := σ 96 6) ?_ ?_ 0 0 w ⟨Int.le_refl _, by omega, j1, Or.inl rfl, wQ_0 j2, fun _ => rfl⟩
    · rintro i y u hi ⟨i0, i1, i2, i3, i4, i5⟩ KK
      have g1 : wG σ u := Fg_t hG (Fg_F (Fr_s i2 (by decide)))
      obtain ⟨c2, c3, c4, -⟩ := wG_p hN g1 i0 hi
      have o1 := wG_1 hN g1
      have u17 : u 17 i = f i := by rw [i2 17 (by decide)]; exact (hf i i0 hi).1
      have u21 : u 21 i = wRm (fN σ) f i := by rw [i2 21 (by decide)]; exact (hf i i0 hi).2
      have hp := hW.2.2.2.2 i i0 (by omega)
      have oA : wO (fN σ) i (fN σ 101 i) = fN σ 102 i := by unfold wO; rw [if_pos rfl]
      have oB : wO (fN σ) i (fN σ 102 i) = fN σ 101 i := by unfold wO; rw [if_neg (by omega)]
      have skip : wRm (fN σ) f i ≤ 0 → Yx (d + 1) cd6 0 Q 35 [vr 16, vt, vi y, vi r, vi (i + 1)] [] u := fun z => KK y u ⟨by omega, by omega, i2, i3, wQ_s i4 (fun n hc => by have := hc.1; omega), i5⟩
      have sideB : ∀ (y' : Int) (u' : aW), (y' = 0 ∨ y' = 1) → Fr [23] s0 u' → wQ (fN σ) f t (w 23) i (u' 23) → (0 ≤ f i → u' 23 (fN σ 101 i) ≤ w 23 (fN σ 102 i) + fN σ 103 i) → (y' = 0 → u' 23 = w 23) → 0 < wRm (fN σ) f i → f i ≤ 0 → aEv (d + 0) true 7 [vr 16, vi (fN σ 102 i), vi (fN σ 101 i), vi (fN σ 103 i)] u' (fun r' σ' => ∃ x : Int, r' = some (vi x) ∧ Yx (d + 1) cd6 0 Q 159 [vr 16, vt, vt, vi r, vi i] [vi x, vi y'] σ') := by
        intro y' u' a1 a2 a3 a4 a5 a6 a7
        refine c7q hW a3 i0 (by omega) ⟨a6, Or.inr ⟨rfl, a7⟩⟩ oB.symm rfl (fun x v b1 b2 b3 b4 b5 b6 => ⟨x, rfl, b6_159_2 ⟨by omega, KK _ v ⟨by omega, by omega, Fr_t a2 b2 (fun k z => ⟨z, z⟩), ?_, wQ_s b3 (fun n hc => ?_), fun z => ?_⟩⟩⟩)
        · rcases b1 with rfl | rfl
          · rw [or32_0 a1]; exact a1
          · rw [or32_1 a1]; exact Or.inr rfl
        · rcases hc.2 with ⟨e, g⟩ | ⟨e, g⟩
          · subst e
            rw [oA, b5 _ (by omega)]
            exact a4 g
          · subst e
            exact b4
        · rcases b1 with rfl | rfl
          · rw [or32_0 a1] at z
            rw [b6 rfl, a5 z]
          · rw [or32_1 a1] at z
            omega
      have sideA : 0 < wRm (fN σ) f i → 0 ≤ f i → aEv (d + 0) true 7 [vr 16, vi (fN σ 101 i), vi (fN σ 102 i), vi (fN σ 103 i)] u (fun r' σ' => ∃ x : Int, r' = some (vi x) ∧ Yx (d + 1) cd6 0 Q 102 [vr 16, vt, vt, vi r, vi i] [vi x, vi y] σ') := by
        intro a6 a7
        refine c7q hW i4 i0 (by omega) ⟨a6, Or.inl ⟨rfl, a7⟩⟩ oA.symm rfl (fun x v b1 b2 b3 b4 b5 b6 => ⟨x, rfl, b6_102_2 ?_⟩)
        rw [oA] at b4
        have v0 : Fr [23] s0 v := Fr_t i2 b2 (fun k z => ⟨z, z⟩)
        have g2 : wG σ v := Fg_t hG (Fg_F (Fr_s v0 (by decide)))
        obtain ⟨e2, e3, e4, -⟩ := wG_p hN g2 i0 hi
        have v17 : v 17 i = f i := by rw [v0 17 (by decide)]; exact (hf i i0 hi).1
        have v21 : v 21 i = wRm (fN σ) f i := by rw [v0 21 (by decide)]; exact (hf i i0 hi).2
        have y1 : or32 y x = 0 ∨ or32 y x = 1 := by
          rcases b1 with rfl | rfl
          · rw [or32_0 i3]; exact i3
          · rw [or32_1 i3]; exact Or.inr rfl
        have y2 : or32 y x = 0 → v 23 = w 23 := fun z => by
          rcases b1 with rfl | rfl
          · rw [or32_0 i3] at z
            rw [b6 rfl, i5 z]
          · rw [or32_1 i3] at z
            omega
        rw [v17, v21, e2, e3, e4]
        refine ⟨by omega, fun z => by omega, fun _ => ⟨by omega, fun z => ⟨by omega, KK _ v ⟨by omega, by omega, v0, y1, wQ_s b3 (fun n hc => ?_), y2⟩⟩, fun z => ⟨by omega, by omega, by omega, sideB _ v y1 v0 b3 (fun _ => b4) y2 a6 (by omega)⟩⟩⟩
        rcases hc.2 with ⟨e, g⟩ | ⟨e, g⟩
        · subst e
          rw [oA]
          exact b4
        · omega
      have sideB0 := sideB y u i3 i2 i4
      refine b6_35 ⟨fun z => by omega, fun _ => ?_⟩
      rw [u17, u21, c2, c3, c4]
      clear KK K sideB
      (repeat' first | with_reducible apply And.intro | with_reducible intro _)
      all_goals first
        | omega
        | exact skip (by omega)
        | exact sideB0 (fun z => by omega) i5 (by omega) (by omega)
        | exact sideA (by omega) (by omega)
    · rintro i y u hi ⟨i0, i1, i2, i3, i4, i5⟩
      have g1 : wG σ u := Fg_t hG (Fg_F (Fr_s i2 (by decide)))
      have o1 := wG_1 hN g1
      have ei : i = σ 96 6 := by omega
      subst ei
      have fin := wQ_end hW hE j2 (by rw [n6]; exact i4)
      rw [n5] at fin
      refine b6_35 ⟨fun _ => ⟨by omega, K y u ⟨by omega, i2, i4.1, fun z => ?_, ?_⟩⟩, fun z => by omega⟩
      · rcases fin with a | ⟨⟨n, n0, n1, a⟩, -⟩
        · exact a
        · rw [i5 z] at a
          exact absurd rfl a
      · rcases fin with a | ⟨-, a⟩
        · exact Or.inl a
        · rcases j4 with b | b
          · left
            intro n n0 n1
            have c1 := i4.2.1 n n0 (by omega)
            have c2 := wS_ge hW i4.1 hE n n0 (by omega)
            have := b n n0 n1
            omega
          · exact Or.inr (by omega)
  · rintro r x w hr ⟨j0, j1, j2, j3, j4⟩
    have fin : ∀ n, 0 ≤ n → n < σ 96 5 → w 23 n = wDs (fN σ) f t n := by
      rcases j4 with a | a
      · exact a
      · have := wCn_b (E := wDs (fN σ) f t) (D := w 23) hW
        omega
    exact b6_20 ⟨fun z => k w j1 fin, fun z => ⟨fun _ => k w j1 fin, fun z2 => by omega⟩⟩
end
