section
/-! ahead: the reference's side, then both -/
theorem c224 {Q : aQ} {σ s : aW} {l : List rRu} {B : Int → Int} {a1 a2 : Int} (hI : qI σ) (hB : qB σ (σ 120)) (hL : σ 120 2533 ≤ qCp σ) (hP : σ 96 44 = 1 → ∀ k, 0 ≤ k → k < σ 96 43 → σ 125 k ≤ qCp σ) (hh : σ 120 2532 ≤ 5000) (hM : mSt σ B l) (hR : Fg zL zP σ s) (hw : s 120 = σ 120) (z : 1 ≤ a1 ∧ a1 ≤ 48) (y : 0 ≤ a2 ∧ a2 ≤ 3)
    (k : ∀ t, Fg yL yP s t → t 120 = σ 120 → t 96 79 = σ 96 7 → (∀ h, 0 ≤ h → h < σ 96 7 → t 140 h = qHn σ l (σ 120) a1.toNat (2432 + h) - σ 120 (2432 + h) ∧ t 141 h = uF σ l (σ 120) a1.toNat h) → Q (some (vl (uA σ l (σ 120) a1.toNat a2))) t) : aEv 59 true 224 [vr 96, vi a1, vi a2] s Q := by
  have hn := hI.1.1
  unfold Nn at hn
  have hb := qHn_b (l := l) hI hB hL hP
  have tb := hB.2.1
  have r7 : ∀ t, Fg yL yP s t → t 96 7 = σ 96 7 := fun t f => by rw [Fg_kq f (k := 96) (i := 7) (by decide) (by decide), Fg_kq hR (k := 96) (i := 7) (by decide) (by decide)]
  have hRy : ∀ t, Fg yL yP s t → Fg zL zP σ t := fun t f => Fg_t hR (Fg_m f (by decide) (by decide))
  refine e224 (d := 42) (b224_0 ⟨fun x => absurd z x, fun _ => ⟨fun _ => ?_, fun x => absurd y x⟩⟩)
  refine for_up (X := fun i t => Yx (42 + 17) cd224 2 Q 35 [vr 96, vi a1, vi a2, vi i, vt, vt, vt, vt] [] t) (I := fun i t => 0 ≤ i ∧ i ≤ 2542 ∧ Fg yL yP s t ∧ t 120 = σ 120 ∧ ∀ j, 0 ≤ j → j < i → t 121 j = σ 120 j) (N := 2542) ?_ ?_ 0 _ ⟨Int.le_refl _, by omega, Fg_f Fg_r (by decide), by rw [sw_n (by decide)]; exact hw, fun j j0 j1 => by omega⟩
  · rintro i t hi ⟨i0, i1, f1, g1, g2⟩ K
    refine b224_35 ⟨fun x => by omega, fun _ => ⟨by omega, by omega, by omega, K _ ⟨by omega, by omega, Fg_w f1 (by decide), by rw [sw_n (by decide)]; exact g1, fun j j0 j1 => ?_⟩⟩⟩
    rw [sw_s]
    by_cases e : j = i
    · rw [e, fu_s, g1]
    · rw [fu_n e]; exact g2 j j0 (by omega)
  rintro i t hi ⟨i0, i1, f1, g1, g2⟩
  refine b224_35 ⟨fun _ => ?_, fun x => by omega⟩
  have f2 : Fg yL yP s (sw t 96 (fu (t 96) 79 (t 96 7))) := Fg_f f1 (by decide)
  refine for_up (X := fun i u => Yx (42 + 17) cd224 2 Q 75 [vr 96, vi a1, vi a2, vl (-1), vt, vi i, vt, vt] [] u) (I := fun i u => 0 ≤ i ∧ i ≤ σ 96 7 ∧ Fg yL yP s u ∧ u 120 = σ 120 ∧ (∀ j, 0 ≤ j → j < 2542 → u 121 j = σ 120 j) ∧ u 96 79 = σ 96 7 ∧ ∀ j, 0 ≤ j → j < i → u 141 j = -1) (N := σ 96 7) ?_ ?_ 0 _ ⟨Int.le_refl _, by omega, f2, by rw [sw_n (by decide)]; exact g1, fun j j0 j1 => by rw [sw_n (by decide)]; exact g2 j j0 (by omega), by rw [sw_s, fu_s]; exact r7 t f1, fun j j0 j1 => by omega⟩
  · rintro i u hi ⟨i0, i1, f1, g1, g2, g3, g4⟩ K
    have u7 := r7 u f1
    refine b224_75 ⟨fun x => by omega, fun _ => ⟨by omega, by omega, K _ ⟨by omega, by omega, Fg_w f1 (by decide), by rw [sw_n (by decide)]; exact g1, fun j j0 j1 => by rw [sw_n (by decide)]; exact g2 j j0 j1, by rw [sw_n (by decide)]; exact g3, fun j j0 j1 => ?_⟩⟩⟩
    rw [sw_s]
    by_cases e : j = i
    · rw [e, fu_s]
    · rw [fu_n e]; exact g4 j j0 (by omega)
  rintro i t hi ⟨i0, i1, f1, g1, g2, g3, g4⟩
  have t7 := r7 t f1
  refine b224_75 ⟨fun _ => ?_, fun x => by omega⟩
  have ei : i = σ 96 7 := by omega
  rw [ei] at g4
  refine for_up (X := fun i (v : Int × aW) => Yx (42 + 17) cd224 2 Q 103 [vr 96, vi a1, vi a2, vl v.1, vt, vi i, vt, vt] [] v.2) (I := fun i v => 0 ≤ i ∧ i ≤ a1 ∧ Fg yL yP s v.2 ∧ v.2 120 = qHn σ l (σ 120) i.toNat ∧ (∀ j, 0 ≤ j → j < 2542 → v.2 121 j = σ 120 j) ∧ v.2 96 79 = σ 96 7 ∧ (∀ h, 0 ≤ h → h < σ 96 7 → v.2 141 h = uF σ l (σ 120) i.toNat h) ∧ v.1 = uG σ l (σ 120) i.toNat) (N := a1) ?_ ?_ 0 (-1, t) ⟨Int.le_refl _, by omega, f1, g1, g2, g3, fun h h0 h1 => g4 h h0 h1, rfl⟩
  · rintro i ⟨x, v⟩ hi ⟨i0, i1, f1, g1, g2, g3, g4, g5⟩ K
    simp only at f1 g1 g2 g3 g4 g5
    show Yx (42 + 17) cd224 2 Q 103 [vr 96, vi a1, vi a2, vl x, vt, vi i, vt, vt] [] v
    have b := hb i.toNat (by omega)
    have e2 : v 120 2532 = qHn σ l (σ 120) i.toNat 2532 := by rw [g1]
    rw [g5]
    refine b224_103 ⟨fun q => by omega, fun _ => ⟨by rw [e2]; omega, ?_⟩⟩
    refine c217 (d := 18) (B := B) hI b.1 hM (hRy v f1) g1 (fun t f3 g6 => ⟨rfl, b224_119 ?_⟩)
    have f4 : Fg yL yP s t := Fg_t f1 (Fg_m f3 (by decide) (by decide))
    rw [e2]
    refine c224n (w := σ 120) (n := i.toNat) hI hB hL hP (by omega) (r7 t f4) g6 (fun j j0 j1 => ?_) (fun h h0 h1 => ?_) i0 (by omega) (fun u f5 g7 => ?_)
    · rw [Fg_k f3 (k := 121) (by decide) (by decide)]; exact g2 j j0 j1
    · rw [Fg_k f3 (k := 141) (by decide) (by decide)]; exact g4 h h0 h1
    · have en : (i + 1).toNat = i.toNat + 1 := by omega
      refine K (uG σ l (σ 120) (i.toNat + 1), u) ⟨by omega, by omega, Fg_t f4 (Fg_F (Fr_s f5 (by decide))), ?_, fun j j0 j1 => ?_, ?_, fun h h0 h1 => ?_, by rw [en]⟩
      · show u 120 = _
        rw [f5 120 (by decide), g6, en]; rfl
      · show u 121 j = _
        rw [f5 121 (by decide), Fg_k f3 (k := 121) (by decide) (by decide)]; exact g2 j j0 j1
      · show u 96 79 = _
        rw [f5 96 (by decide), Fg_kq f3 (k := 96) (i := 79) (by decide) (by decide)]; exact g3
      · show u 141 h = _
        rw [en]; exact g7 h h0 h1
  rintro i ⟨x, v⟩ hi ⟨i0, i1, f1, g1, g2, g3, g4, g5⟩
  simp only at f1 g1 g2 g3 g4 g5
  show Yx (42 + 17) cd224 2 Q 103 [vr 96, vi a1, vi a2, vl x, vt, vi i, vt, vt] [] v
  have e : i = a1 := by omega
  rw [e] at g1 g4 g5 ⊢
  have b := hb a1.toNat (by omega)
  refine b224_103 ⟨fun _ => ?_, fun q => by omega⟩
  refine for_up (X := fun i u => Yx (42 + 17) cd224 2 Q 222 [vr 96, vt, vi a2, vl x, vt, vi i, vt, vt] [] u) (I := fun i u => 0 ≤ i ∧ i ≤ σ 96 7 ∧ Fr [140] v u ∧ ∀ h, 0 ≤ h → h < i → u 140 h = qHn σ l (σ 120) a1.toNat (2432 + h) - σ 120 (2432 + h)) (N := σ 96 7) ?_ ?_ 0 v ⟨Int.le_refl _, by omega, Fr_r, fun j j0 j1 => by omega⟩
  · rintro i u hi ⟨i0, i1, f2, g6⟩ K
    have u7 : u 96 7 = σ 96 7 := by rw [f2 96 (by decide)]; exact r7 v f1
    have u0 : u 120 (2432 + i) = qHn σ l (σ 120) a1.toNat (2432 + i) := by rw [f2 120 (by decide), g1]
    have u1 : u 121 (2432 + i) = σ 120 (2432 + i) := by rw [f2 121 (by decide)]; exact g2 _ (by omega) (by omega)
    have c0 := hB.2.2.1 i i0 (by omega)
    have c1 := b.1.2.2.1 i i0 (by omega)
    have hq := b.1.2.1
    refine b224_222 ⟨fun q => by omega, fun _ => ?_⟩
    rw [u0, u1]
    refine ⟨by omega, by omega, by omega, by omega, by omega, by omega, by omega, K _ ⟨by omega, by omega, Fr_w f2 (by decide), fun h h0 h1 => ?_⟩⟩
    rw [sw_s]
    by_cases e : h = i
    · rw [e, fu_s]
    · rw [fu_n e]; exact g6 h h0 (by omega)
  rintro i u hi ⟨i0, i1, f2, g6⟩
  have e : i = σ 96 7 := by omega
  rw [e] at g6 ⊢
  have fu : Fg yL yP s u := Fg_t f1 (Fg_F (Fr_s f2 (by decide)))
  have u7 := r7 u fu
  have fin : ∀ x, x = uA σ l (σ 120) a1.toNat a2 → Yx (42 + 17) cd224 2 Q 347 [vr 96, vt, vt, vt, vt, vl x, vt, vi 0] [] u := fun x ex => by
    rw [ex]
    refine for_up (X := fun i t => Yx (42 + 17) cd224 2 Q 347 [vr 96, vt, vt, vt, vt, vl (uA σ l (σ 120) a1.toNat a2), vt, vi i] [] t) (I := fun i t => 0 ≤ i ∧ i ≤ 2542 ∧ Fr [120] u t ∧ (∀ j, 0 ≤ j → j < i → t 120 j = σ 120 j) ∧ ∀ j, ¬ (0 ≤ j ∧ j < i) → t 120 j = u 120 j) (N := 2542) ?_ ?_ 0 u ⟨Int.le_refl _, by omega, Fr_r, fun j j0 j1 => by omega, fun _ _ => rfl⟩
    · rintro i t hi ⟨i0, i1, f3, g7, g8⟩ K
      have t1 : t 121 i = σ 120 i := by rw [f3 121 (by decide), f2 121 (by decide)]; exact g2 i i0 hi
      refine b224_347 ⟨fun q => by omega, fun _ => ⟨by omega, by omega, by omega, K _ ⟨by omega, by omega, Fr_w f3 (by decide), fun j j0 j1 => ?_, fun j hj => ?_⟩⟩⟩
      · rw [sw_s]
        by_cases e : j = i
        · rw [e, fu_s, t1]
        · rw [fu_n e]; exact g7 j j0 (by omega)
      · rw [sw_s, fu_n (by omega)]; exact g8 j (by omega)
    · rintro i t hi ⟨i0, i1, f3, g7, g8⟩
      refine b224_347 ⟨fun _ => ?_, fun q => by omega⟩
      refine k t (Fg_t fu (Fg_F (Fr_s f3 (by decide)))) (funext fun j => ?_) ?_ (fun h h0 h1 => ⟨?_, ?_⟩)
      · by_cases hj : 0 ≤ j ∧ j < 2542
        · exact g7 j hj.1 (by omega)
        · rw [g8 j (by omega), f2 120 (by decide), g1]
          exact qHn_o hI hj _
      · rw [f3 96 (by decide), f2 96 (by decide)]; exact g3
      · rw [f3 140 (by decide)]; exact g6 h h0 h1
      · rw [f3 141 (by decide), f2 141 (by decide)]; exact g4 h h0 h1
  have u0 : ∀ j, u 120 j = qHn σ l (σ 120) a1.toNat j := fun j => by rw [f2 120 (by decide), g1]
  have u1 : ∀ j, 0 ≤ j → j < 2542 → u 121 j = σ 120 j := fun j j0 j1 => by rw [f2 121 (by decide)]; exact g2 j j0 j1
  have c3 := hB.2.2.2.2 3 (by omega) (by omega)
  have c4 := hB.2.2.2.2 4 (by omega) (by omega)
  have c5 := hB.2.2.2.2 5 (by omega) (by omega)
  have d3 := b.1.2.2.2.2 3 (by omega) (by omega)
  have d4 := b.1.2.2.2.2 4 (by omega) (by omega)
  have d5 := b.1.2.2.2.2 5 (by omega) (by omega)
  simp only [show (2536 : Int) + 3 = 2539 by decide, show (2536 : Int) + 4 = 2540 by decide, show (2536 : Int) + 5 = 2541 by decide] at c3 c4 c5 d3 d4 d5
  have hq := b.1.2.1
  refine b224_222 ⟨fun _ => ?_, fun q => by omega⟩
  rw [u0, u0, u0, u1 2539 (by omega) (by omega), u1 2540 (by omega) (by omega), u1 2541 (by omega) (by omega)]
  refine ⟨fun p => ⟨fun q => ⟨fun r => by omega, fun r => by omega, fin _ ?_⟩, fun q => fin _ ?_⟩, fun p => ⟨by omega, fin _ ?_⟩⟩
  · unfold uA
    rw [if_neg p, if_neg q]
    by_cases r : a2 = 2
    · rw [if_neg (fun w => w r), if_pos r]
    · rw [if_pos r, if_neg r]
  · unfold uA
    rw [if_neg p, if_pos q, g5]
  · unfold uA
    rw [if_pos p]
abbrev dL : List Nat := [17, 18, 19, 20, 21, 22, 23, 24, 26, 31, 57, 58, 59, 60, 61, 62, 75, 76, 77, 78, 79, 80, 81, 82, 83, 84, 94, 95, 121, 126, 127, 128, 129, 130, 131, 132, 134, 135, 136, 137, 138, 139, 140, 141]
abbrev dP : List (Nat × Int) := [(16, 9), (16, 10), (16, 11), (45, 3), (45, 4), (45, 5), (74, 0), (74, 1), (74, 2), (74, 3), (0, 15), (96, 0), (96, 46), (96, 47), (96, 48), (96, 49), (96, 50), (96, 51), (96, 52), (96, 53), (96, 54), (96, 55), (96, 56), (96, 57), (96, 58), (96, 66), (96, 74), (96, 75), (96, 76), (96, 79)]
theorem t_ahead {σ : aW} {a1 a2 : Int} (hI : qI σ) (hT : σ 56 0 = σ 96 10 ∧ σ 56 1 = σ 96 11) (hS : ISt 63 σ) (hR : IRu σ) (hF : IFc σ) (hh : σ 120 2532 ≤ 5000) (hL : ILv σ) (hA : IAh σ) : aEv 59 true 122 [vr 0, vi a1, vi a2] σ (fun r s => aEv 59 true 224 [vr 96, vi a1, vi a2] s (Tp (fun t => IFc t ∧ IAh t) dL dP σ r)) := by
  obtain ⟨r1, r2, B, l, r3, r4, r5, r6, r7, r8, r9, r10⟩ := hR
  have hRu : rSu σ l := ⟨r5, r8, r7, r6, r9⟩
  have hM : mSt σ B l := ⟨r1, r2, r3, r4⟩
  have hn := hI.1.1
  unfold Nn at hn
  have sc := hS.2.1
  unfold Sc at sc
  have hB : qB σ (σ 120) := qB_I (b := 63) rfl rfl (Int.le_refl _) (by omega) (by rw [sw_id]; exact hS)
  have hb := qHn_b (l := l) hI hB hL.1 hL.2
  have hr : ∀ r : Option aV, Tp (fun t => IFc t ∧ IAh t) dL dP σ r r (sw σ 96 (fu (σ 96) 0 0)) := fun r => by
    have f : Fg [] [(96, 0)] σ (sw σ 96 (fu (σ 96) 0 0)) := Fg_f Fg_r (by decide)
    exact ⟨rfl, ⟨IFc_0 hF, hA⟩, Fg_m f (by decide) (by decide)⟩
  refine e122 (d := 53) (b122_0 ⟨fun z => ?_, fun z => ⟨fun y => ?_, fun y => ?_⟩⟩)
  · exact e224 (d := 42) (b224_0 ⟨fun _ => hr _, fun x => absurd x z⟩)
  rotate_left
  · exact e224 (d := 42) (b224_0 ⟨fun x => absurd z x, fun _ => ⟨fun x => absurd x y, fun _ => hr _⟩⟩)
  refine c148 (d := 56) hS (fun s0 f0 g0 g1 g2 g3 g4 g5 g6 => ⟨rfl, b122_32 ?_⟩)
  have hS0 : ISt 74 (sw s0 120 (σ 120)) := by
    obtain ⟨q1, q2, q3, q4, q5⟩ := hS
    refine qI_Cl (σ := σ) (Fg_kq f0 (by decide) (by decide)) (Fg_k f0 (by decide) (by decide)) ⟨fun p k p0 p1 k0 k1 => ?_, ?_, fun h h0 h1 => ?_, fun p p0 p1 => ?_, fun i i0 i1 => ?_⟩ hB
    · have := q1 p p0 p1 k k0 k1
      have hp := hI.1.2.1 p p0 p1
      unfold Np at hp
      rw [g3 _ (by omega) (by omega), g3 _ (by omega) (by omega)]
      exact ⟨this.1, this.2.1⟩
    · unfold Sc at q2
      rw [g2 0 (by omega) (by omega), g2 1 (by omega) (by omega), g2 2 (by omega) (by omega), g2 3 (by omega) (by omega)]
      omega
    · have := q3 h h0 h1
      have g := g5 h h0 h1
      unfold Sh at this
      obtain ⟨p1, _, _, _, p5, _, _, p8, _, _, p11, _, _, p14, _, _, p17, _, _, p20, _⟩ := this
      exact ⟨by rw [g.1]; exact p1, fun z => by rw [g.2.1]; exact p5 z, by rw [g.2.2.1]; exact p8, by rw [g.2.2.2.1]; exact p11, by rw [g.2.2.2.2.1]; exact p14, by rw [g.2.2.2.2.2.1]; exact p17, by rw [g.2.2.2.2.2.2]; exact p20⟩
    · rw [g4 p p0 p1]
      exact (q4 p p0 p1).1
    · rw [g6 i i0 i1]
      exact (q5 i i0 i1).1
  have f0' : Fg qLl qPl σ s0 := Fg_m f0 (by decide) (by decide)
  have hF0 : IFc s0 := IFc_k f0 (by decide) hF
  refine for_up (X := fun i (v : Int × aW) => Yx (53 + 6) cd122 2 (fun r s => aEv 59 true 224 [vr 96, vi a1, vi a2] s (Tp (fun t => IFc t ∧ IAh t) dL dP σ r)) 37 [vr 0, vi a1, vi a2, vi v.1, vi i, vt] [] v.2) (I := fun i v => 0 ≤ i ∧ i ≤ a1 ∧ Fg qLl qPl σ v.2 ∧ ISt 74 (sw v.2 120 (qHn σ l (σ 120) i.toNat)) ∧ IFc v.2 ∧ v.2 0 15 = σ 96 7 ∧ (∀ h, 0 ≤ h → h < σ 96 7 → v.2 94 h = qHn σ l (σ 120) i.toNat (2432 + h) - σ 120 (2432 + h) ∧ v.2 95 h = uF σ l (σ 120) i.toNat h) ∧ v.1 = uG σ l (σ 120) i.toNat) (N := a1) ?_ ?_ 0 (-1, s0) ⟨Int.le_refl _, by omega, f0', hS0, hF0, by show s0 0 15 = _; omega, fun h h0 h1 => ?_, rfl⟩
  · rintro i ⟨x, v⟩ hi ⟨i0, i1, f1, k1, k2, k3, k4, k5⟩ K
    simp only at f1 k1 k2 k3 k4 k5
    show Yx (53 + 6) cd122 2 _ 37 [vr 0, vi a1, vi a2, vi x, vi i, vt] [] v
    have en : (i + 1).toNat = i.toNat + 1 := by omega
    have b := hb i.toNat (by omega)
    have b' := hb (i.toNat + 1) (by omega)
    have h7 : σ 120 2532 + (i.toNat : Int) ≤ 5047 := by omega
    have v74 : v 74 0 = qHn σ l (σ 120) i.toNat 2532 := by
      have := k1.2.1
      unfold Sc at this
      simp only [sw_s, sw_n (show (74 : Nat) ≠ 120 by decide)] at this
      exact this.1
    refine b122_37 ⟨fun q => by omega, fun _ => c12l (d := 53) hI hT hRu f1 k1 k2 (by omega) (by omega) (by omega) (fun v1 f2 f3 m1 m2 => ⟨rfl, b122_63 ?_⟩)⟩
    have e015 : v1 0 15 = σ 96 7 := by rw [Fg_k f3 (k := 0) (by decide) (by decide)]; exact k3
    refine c149 (d := 58) (H := σ 96 7) (hr := v 74 0) (c1 := fun h => qHn σ l (σ 120) (i.toNat + 1) (2432 + h)) (c0 := fun h => σ 120 (2432 + h)) (c := fun h => qHn σ l (σ 120) i.toNat (2432 + h)) (F := uF σ l (σ 120) i.toNat) e015 (by omega) (by omega) (fun h h0 h1 => ?_) (fun v2 y f4 n1 n2 => ⟨y, rfl, b122_69_1 ?_⟩)
    · have s81 := (m1.2.2.1 h h0 (by omega))
      unfold Sh at s81
      have e81 : v1 81 h = qH σ l (qHn σ l (σ 120) i.toNat) (2432 + h) := s81.2.2.2.2.2.2.2.2.2.2.2.2.2.1
      have s70 := hS.2.2.1 h h0 (by omega)
      unfold Sh at s70
      have e70 : σ 70 h = σ 120 (2432 + h) := s70.2.2.2.2.2.2.2.2.2.2.2.2.2.1
      have c0 := hB.2.2.1 h h0 (by omega)
      have c1 := b'.1.2.2.1 h h0 (by omega)
      have q1 := b'.1.2.1
      refine ⟨e81, by rw [Fg_k f2 (k := 70) (by decide) (by decide)]; exact e70, by rw [Fg_k f3 (k := 94) (by decide) (by decide)]; exact (k4 h h0 h1).1, by rw [Fg_k f3 (k := 95) (by decide) (by decide)]; exact (k4 h h0 h1).2, ?_, ?_, ?_, ?_⟩
      · omega
      · show qHn σ l (σ 120) (i.toNat + 1) (2432 + h) ≤ _
        omega
      · omega
      · show σ 120 (2432 + h) ≤ _
        omega
    · have eG := uG_c (l := l) hI hB hL.1 hL.2 i.toNat h7 n2
      have st : ∀ x', x' = uG σ l (σ 120) (i.toNat + 1) → Yx (53 + 6) cd122 2 (fun r s => aEv 59 true 224 [vr 96, vi a1, vi a2] s (Tp (fun t => IFc t ∧ IAh t) dL dP σ r)) 37 [vr 0, vi a1, vi a2, vi x', vi (i + 1), vt] [] v2 := fun x' ex => by
        refine K (x', v2) ⟨by omega, by omega, Fg_t f2 (Fg_F (Fr_s f4 (by decide))), ?_, IFc_k (Fg_F (P := []) f4) (by decide) m2, ?_, fun h h0 h1 => ?_, by rw [en]; exact ex⟩
        · rw [en]
          refine ISt_l (σ := sw v1 120 (qH σ l (qHn σ l (σ 120) i.toNat))) (fun k k9 k0 => ?_) m1
          by_cases q : k = 120
          · rw [q, sw_s, sw_s]; rfl
          · rw [sw_n q, sw_n q]
            exact f4 k (by simp; omega)
        · show v2 0 15 = _
          rw [f4 0 (by decide)]; exact e015
        · show v2 94 h = _ ∧ v2 95 h = _
          rw [en, uF_c (l := l) hI hB hL.1 hL.2 i.toNat h7 h0 h1]
          have := n1 h h0 h1
          rw [v74] at this
          exact this
      rw [v74]
      refine ⟨fun q => ⟨by omega, st x ?_⟩, fun q => ⟨fun p => ⟨by omega, st x ?_⟩, fun p => ⟨by omega, st _ ?_⟩⟩⟩
      · rw [eG, if_neg (fun w => w.2 q), k5]
      · rw [eG, if_neg (fun w => p (k5.trans w.1)), k5]
      · rw [eG, if_pos ⟨k5.symm.trans p, q⟩]
  · rintro i ⟨x, v⟩ hi ⟨i0, i1, f1, k1, k2, k3, k4, k5⟩
    simp only at f1 k1 k2 k3 k4 k5
    show Yx (53 + 6) cd122 2 _ 37 [vr 0, vi a1, vi a2, vi x, vi i, vt] [] v
    have e : i = a1 := by omega
    rw [e] at k1 k4 k5 ⊢
    have b := hb a1.toNat (by omega)
    have v84 : ∀ j, 0 ≤ j → j < 6 → v 84 j = qHn σ l (σ 120) a1.toNat (2536 + j) := fun j j0 j1 => (k1.2.2.2.2 j j0 j1).1
    have v73 : ∀ j, 0 ≤ j → j < 6 → v 73 j = σ 120 (2536 + j) := fun j j0 j1 => by
      rw [Fg_k f1 (k := 73) (by decide) (by decide)]
      exact (hS.2.2.2.2 j j0 j1).1
    have c3 := hB.2.2.2.2 3 (by omega) (by omega)
    have c4 := hB.2.2.2.2 4 (by omega) (by omega)
    have c5 := hB.2.2.2.2 5 (by omega) (by omega)
    have d3 := b.1.2.2.2.2 3 (by omega) (by omega)
    have d4 := b.1.2.2.2.2 4 (by omega) (by omega)
    have d5 := b.1.2.2.2.2 5 (by omega) (by omega)
    have hq := b.1.2.1
    have fin : ∀ x, x = uA σ l (σ 120) a1.toNat a2 → aEv 59 true 224 [vr 96, vi a1, vi a2] v (Tp (fun t => IFc t ∧ IAh t) dL dP σ (some (vl x))) := fun x ex => by
      rw [ex]
      refine c224 (B := B) (l := l) hI hB hL.1 hL.2 hh hM (Fg_m f1 (by decide) (by decide)) (Fg_k f1 (by decide) (by decide)) z y (fun t f2 p1 p2 p3 => ⟨rfl, ⟨IFc_k f2 (by decide) k2, ?_⟩, ?_⟩)
      · have t7 : t 96 7 = σ 96 7 := by rw [Fg_kq f2 (k := 96) (i := 7) (by decide) (by decide), Fg_kq f1 (k := 96) (i := 7) (by decide) (by decide)]
        have t0 : t 0 15 = σ 96 7 := by rw [Fg_k f2 (k := 0) (by decide) (by decide)]; exact k3
        refine ⟨Or.inr (by omega), by omega, by omega, fun h h0 h1 => ?_⟩
        have p := p3 h h0 (by omega)
        have q := k4 h h0 (by omega)
        rw [p.1, p.2, Fg_k f2 (k := 94) (by decide) (by decide), Fg_k f2 (k := 95) (by decide) (by decide)]
        exact q
      · intro k j hk hj
        have fa : Fg (120 :: dL) dP σ t := Fg_t (Fg_m f1 (by decide) (by decide)) (Fg_m f2 (by decide) (by decide))
        by_cases e : k = 120
        · rw [e, p1]
        · exact fa k j (fun w => (List.mem_cons.mp w).elim e hk) hj
    refine b122_37 ⟨fun _ => ?_, fun q => by omega⟩
    rw [v84 5 (by omega) (by omega), v84 3 (by omega) (by omega), v84 4 (by omega) (by omega), v73 5 (by omega) (by omega), v73 3 (by omega) (by omega), v73 4 (by omega) (by omega)]
    simp only [show (2536 : Int) + 3 = 2539 by decide, show (2536 : Int) + 4 = 2540 by decide, show (2536 : Int) + 5 = 2541 by decide] at c3 c4 c5 d3 d4 d5 ⊢
    refine ⟨fun p => ⟨by omega, fin _ ?_⟩, fun p => ⟨fun q => fin _ ?_, fun q => ⟨fun r => ⟨by omega, fin _ ?_⟩, fun r => ⟨by omega, fin _ ?_⟩⟩⟩⟩
    · unfold uA; rw [if_pos p]
    · unfold uA; rw [if_neg p, if_pos q, k5]
    · unfold uA; rw [if_neg p, if_neg q, if_pos r]
    · unfold uA; rw [if_neg p, if_neg q, if_neg r]
  · show s0 94 h = _ ∧ s0 95 h = _
    have := g1 h h0 (by omega)
    rw [this.1, this.2]
    exact ⟨by show (0 : Int) = σ 120 (2432 + h) - σ 120 (2432 + h); omega, rfl⟩
end
