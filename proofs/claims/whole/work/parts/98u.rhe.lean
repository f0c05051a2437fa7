section
/-! the reference's hour: what the pipes lose -/
theorem hCl_t {g lo u : Int} (g0 : 0 ≤ g ∧ g ≤ 20) (l0 : 0 ≤ lo ∧ lo ≤ 200) (u0 : 0 ≤ u ∧ u ≤ 12000) : (-400000 ≤ (u - 100 * g) * lo ∧ (u - 100 * g) * lo ≤ 2400000) ∧ max 0 (w64 (((u - 100 * g) * lo).tdiv 1000)) = hCl g lo u := by
  have b1 : (u - 100 * g) * lo ≤ 12000 * lo := Int.mul_le_mul_of_nonneg_right (by omega) l0.1
  have b2 : -2000 * lo ≤ (u - 100 * g) * lo := Int.mul_le_mul_of_nonneg_right (by omega) l0.1
  refine ⟨by omega, ?_⟩
  unfold hCl
  generalize (u - 100 * g) * lo = y at b1 b2
  have wi : ∀ x : Int, -1000000 ≤ x → x ≤ 1000000000 → w64 x = x := fun x h1 h2 => w64_of (by omega) (by omega)
  by_cases z : 0 ≤ y
  · rw [Int.tdiv_eq_ediv_of_nonneg z, wi _ (by omega) (by omega)]
  · have e : y.tdiv 1000 = -((-y) / 1000) := by
      rw [← Int.tdiv_eq_ediv_of_nonneg (show 0 ≤ -y by omega), Int.neg_tdiv]
      omega
    rw [e, wi _ (by omega) (by omega)]
    omega
def zC (σ : aW) (l : List rRu) (w : Int → Int) (s0 s : aW) (i : Int) : Prop := Fg [120, 136] [] s0 s ∧ (∀ p k, 0 ≤ p → p < σ 96 6 → 0 ≤ k → k < σ 103 p → (p < i → s 120 (60 * p + k) = qV0 σ l w p k - qC0 σ l w p k ∧ s 120 (1200 + 60 * p + k) = qV1 σ l w p k - qC1 σ l w p k) ∧ (i ≤ p → s 120 (60 * p + k) = qV0 σ l w p k ∧ s 120 (1200 + 60 * p + k) = qV1 σ l w p k)) ∧ s 120 2539 = w 2539 + sI (qLo σ l w) i.toNat ∧ (∀ h, 0 ≤ h → h < σ 96 7 → s 120 (2464 + h) = w (2464 + h) + qBl σ l w h i) ∧ ∀ x, (∀ p k, 0 ≤ p → p < σ 96 6 → 0 ≤ k → k < σ 103 p → ¬ x = 60 * p + k ∧ ¬ x = 1200 + 60 * p + k) → ¬ x = 2539 → (∀ h, 0 ≤ h → h < σ 96 7 → ¬ x = 2464 + h) → s 120 x = s0 120 x
theorem c222 {d : Nat} {Q : aQ} {σ s0 s : aW} {w : Int → Int} {l : List rRu} {p : Int} (hI : qI σ) (hB : qB σ w) (hR : Fg zL zP σ s0) (hY : zY σ l w s0) (p0 : 0 ≤ p) (p1 : p < σ 96 6) (hC : zC σ l w s0 s p)
    (k : ∀ s, zC σ l w s0 s (p + 1) → Q none s) : aEv (d + 2) true 222 [vr 96, vi p] s Q := by
  have hn := hI.1.1
  unfold Nn at hn
  have q := qp hI l w p0 p1
  obtain ⟨a1, a2, a3, a4, a5⟩ := hC
  have hRs : Fg zL zP σ s := Fg_t hR (Fg_m a1 (by decide) (by decide))
  have s10 : s 96 10 = σ 96 10 := Fg_kq hRs (by decide) (by decide)
  have s7 : s 96 7 = σ 96 7 := Fg_kq hRs (by decide) (by decide)
  have s103 : s 103 = σ 103 := Fg_k hRs (by decide) (by decide)
  have s105 : s 105 = σ 105 := Fg_k hRs (by decide) (by decide)
  have s126 : s 126 p = qf σ l w p := by rw [Fg_k a1 (k := 126) (by decide) (by decide)]; exact hY.1 p p0 p1
  have s128 : s 128 = s0 128 := Fg_k a1 (by decide) (by decide)
  have s138 : s 138 = s0 138 := Fg_k a1 (by decide) (by decide)
  have tm := hI.2.2.2.2.2
  have un : ∀ j, 0 ≤ j → j < σ 103 p → s 120 (60 * p + j) = qV0 σ l w p j ∧ s 120 (1200 + 60 * p + j) = qV1 σ l w p j := fun j j0 j1 => (a2 p j p0 p1 j0 j1).2 (Int.le_refl _)
  have lo := qLob hI l hB p0 p1
  have mt := hB.2.2.2.2 3 (by decide) (by decide)
  rw [show (2536 : Int) + 3 = 2539 by decide] at mt
  have uc := hB.2.1
  have u3 := sI_b (f := qLo σ l w) (B := 1440000) (n := p.toNat) (fun p p0 p1 => by have := qLob hI l hB p0 (by omega : p < σ 96 6); omega)
  refine e222 (b222_0 ⟨by omega, ?_⟩)
  refine for_up (X := fun i t => Yx (d + 2) cd222 0 Q 9 [vr 96, vi p, vi i, vt, vt, vt, vt] [] t) (I := fun i t => 0 ≤ i ∧ i ≤ σ 103 p ∧ Fr [120, 136] s t ∧ t 136 p = sI (qC0 σ l w p) i.toNat + sI (qC1 σ l w p) i.toNat ∧ ∀ x, t 120 x = if 60 * p ≤ x ∧ x < 60 * p + i then s 120 x - qC0 σ l w p (x - 60 * p) else if 1200 + 60 * p ≤ x ∧ x < 1200 + 60 * p + i then s 120 x - qC1 σ l w p (x - 1200 - 60 * p) else s 120 x) (N := σ 103 p) ?_ ?_ 0 _ ⟨Int.le_refl _, by omega, Fr_w Fr_r (by decide), by rw [sw_s, fu_s]; rfl, fun x => by rw [sw_n (by decide), if_neg (by omega), if_neg (by omega)]⟩
  · rintro i t hi ⟨i0, i1, f1, g1, g2⟩ K
    have t10 : t 96 10 = σ 96 10 := by rw [f1 96 (by decide)]; exact s10
    have t103 : t 103 = σ 103 := by rw [f1 103 (by decide)]; exact s103
    have t105 : t 105 = σ 105 := by rw [f1 105 (by decide)]; exact s105
    have v := un i i0 hi
    have vb := qVb hI l hB p0 p1 i0 hi
    have cb := qCb hI l hB p0 p1 i0 hi
    have w0 : t 120 (60 * p + i) = qV0 σ l w p i := by rw [g2, if_neg (by omega), if_neg (by omega)]; exact v.1
    have w1 : t 120 (1200 + 60 * p + i) = qV1 σ l w p i := by rw [g2, if_neg (by omega), if_neg (by omega)]; exact v.2
    have sb := sI_b (f := qC0 σ l w p) (B := 12000) (n := i.toNat) (fun k k0 k1 => by
      have := qCb hI l hB p0 p1 k0 (by omega)
      have := qVb hI l hB p0 p1 k0 (show k < σ 103 p by omega)
      omega)
    have sb1 := sI_b (f := qC1 σ l w p) (B := 12000) (n := i.toNat) (fun k k0 k1 => by
      have := qCb hI l hB p0 p1 k0 (by omega)
      have := qVb hI l hB p0 p1 k0 (show k < σ 103 p by omega)
      omega)
    have h0 := hCl_t (g := σ 96 10) (lo := σ 105 p) (u := qV0 σ l w p i) (by omega) (by omega) vb.1
    have h1 := hCl_t (g := σ 96 10) (lo := σ 105 p) (u := qV1 σ l w p i) (by omega) (by omega) vb.2
    have c0 : hCl (σ 96 10) (σ 105 p) (qV0 σ l w p i) = qC0 σ l w p i := rfl
    have c1 : hCl (σ 96 10) (σ 105 p) (qV1 σ l w p i) = qC1 σ l w p i := rfl
    rw [c0] at h0
    rw [c1] at h1
    refine b222_9 ⟨by omega, fun z => by rw [t103] at z; omega, fun _ => b222_21 ⟨fun z => by omega, fun _ => ?_⟩⟩
    rw [show (0 : Int) + 60 * p + i = 60 * p + i by omega, w0, t10, t105, h0.2]
    refine ⟨by omega, by omega, by omega, by omega, by omega, by omega, by omega, by omega, by decide, by omega, by omega, by omega, by omega, by omega, by omega, by omega, ?_⟩
    generalize hu : sw (sw t 120 (fu (t 120) (60 * p + i) (qV0 σ l w p i - qC0 σ l w p i))) 136 (fu (t 136) p (t 136 p + qC0 σ l w p i)) = u
    have hu := hu.symm
    have x1 : u 120 (1200 + 60 * p + i) = qV1 σ l w p i := by rw [hu, sw_n (by decide), sw_s, fu_n (by omega)]; exact w1
    have x2 : u 96 10 = σ 96 10 := by rw [hu, sw_n (by decide), sw_n (by decide)]; exact t10
    have x3 : u 105 = σ 105 := by rw [hu, sw_n (by decide), sw_n (by decide)]; exact t105
    have x4 : u 136 p = t 136 p + qC0 σ l w p i := by rw [hu, sw_s, fu_s]
    refine b222_21 ⟨fun z => by omega, fun _ => ?_⟩
    rw [show (0 : Int) + 1200 + 60 * p + i = 1200 + 60 * p + i by omega, x1, x2, x3, h1.2]
    refine ⟨by omega, by omega, by omega, by omega, by omega, by omega, by omega, by omega, by decide, by omega, by omega, by omega, by omega, by rw [x4]; omega, by omega, by omega, ?_⟩
    refine b222_21 ⟨fun _ => ⟨by omega, K _ ⟨by omega, by omega, ?_, ?_, fun x => ?_⟩⟩, fun z => by omega⟩
    · rw [hu]
      exact Fr_w (Fr_w (Fr_w (Fr_w f1 (by decide)) (by decide)) (by decide)) (by decide)
    · rw [sw_s, fu_s, x4, g1, sI_s i0, sI_s i0]
      omega
    · rw [sw_n (by decide), sw_s]
      unfold fu
      by_cases z : x = 1200 + 60 * p + i
      · rw [if_pos z, if_neg (by omega), if_pos (by omega), z, v.2]
        congr 2
        omega
      · rw [if_neg z, hu, sw_n (by decide), sw_s]
        unfold fu
        by_cases y : x = 60 * p + i
        · rw [if_pos y, if_pos (by omega), y, v.1]
          congr 2
          omega
        · rw [if_neg y, g2]
          repeat' split
          all_goals first | omega | rfl
  · rintro i t hi ⟨i0, i1, f1, g1, g2⟩
    have e : i = σ 103 p := by omega
    rw [e] at g1 g2
    have g1 : t 136 p = qLo σ l w p := g1
    have t103 : t 103 = σ 103 := by rw [f1 103 (by decide)]; exact s103
    have t126 : t 126 p = qf σ l w p := by rw [f1 126 (by decide)]; exact s126
    have t9 : t 120 2539 = w 2539 + sI (qLo σ l w) p.toNat := by rw [g2, if_neg (by omega), if_neg (by omega)]; exact a3
    refine b222_9 ⟨by omega, fun _ => ?_, fun z => by rw [t103] at z; omega⟩
    rw [t126, g1, t9]
    have fin : ∀ v : aW, Fr [120] t v → v 120 2539 = w 2539 + sI (qLo σ l w) p.toNat + qLo σ l w p → (∀ h, 0 ≤ h → h < σ 96 7 → v 120 (2464 + h) = w (2464 + h) + qBl σ l w h (p + 1)) → (∀ x, ¬ x = 2539 → (∀ h, 0 ≤ h → h < σ 96 7 → ¬ x = 2464 + h) → v 120 x = t 120 x) → Q none v := fun v v1 v2 v3 v4 => by
      refine k v ⟨?_, fun pp kk pp0 pp1 kk0 kk1 => ?_, ?_, v3, fun x x1 x2 x3 => ?_⟩
      · exact Fg_t a1 (Fg_F (Fr_s (Fr_t f1 v1 (N := [120, 136]) (by intro k hk; simp at hk ⊢; omega)) (by decide)))
      · have qq := qp hI l w pp0 pp1
        have b := a2 pp kk pp0 pp1 kk0 kk1
        rw [v4 _ (by omega) (fun h h0 h1 => by omega), v4 _ (by omega) (fun h h0 h1 => by omega), g2, g2]
        by_cases ep : pp = p
        · rw [ep] at kk1 b ⊢
          refine ⟨fun _ => ?_, fun z => by omega⟩
          have b := b.2 (Int.le_refl _)
          rw [if_pos (by omega), if_neg (by omega), if_pos (by omega), b.1, b.2, show 60 * p + kk - 60 * p = kk by omega, show 1200 + 60 * p + kk - 1200 - 60 * p = kk by omega]
          exact ⟨rfl, rfl⟩
        · rw [if_neg (by omega), if_neg (by omega), if_neg (by omega), if_neg (by omega)]
          exact ⟨fun z => b.1 (by omega), fun z => b.2 (by omega)⟩
      · rw [v2, sI_s p0]
        omega
      · rw [v4 x x2 x3, g2]
        have nx : ¬ (60 * p ≤ x ∧ x < 60 * p + σ 103 p) := fun z => (x1 p (x - 60 * p) p0 p1 (by omega) (by omega)).1 (by omega)
        have ny : ¬ (1200 + 60 * p ≤ x ∧ x < 1200 + 60 * p + σ 103 p) := fun z => (x1 p (x - 1200 - 60 * p) p0 p1 (by omega) (by omega)).2 (by omega)
        rw [if_neg nx, if_neg ny]
        exact a5 x x1 x2 x3
    have t64 : ∀ h, 0 ≤ h → h < σ 96 7 → t 120 (2464 + h) = w (2464 + h) + qBl σ l w h p := fun h h0 h1 => by
      rw [g2, if_neg (by omega), if_neg (by omega)]
      exact a4 h h0 h1
    have bs : ∀ h, qBl σ l w h (p + 1) = qBl σ l w h p + qBp σ l w h p := fun h => sI_s p0
    generalize hv : sw t 120 (fu (t 120) 2539 (w 2539 + sI (qLo σ l w) p.toNat + qLo σ l w p)) = v
    have hv := hv.symm
    have v1 : Fr [120] t v := by rw [hv]; exact Fr_w Fr_r (by decide)
    have v9 : v 120 2539 = w 2539 + sI (qLo σ l w) p.toNat + qLo σ l w p := by rw [hv, sw_s, fu_s]
    have vo : ∀ x, ¬ x = 2539 → v 120 x = t 120 x := fun x hx => by rw [hv, sw_s, fu_n hx]
    refine ⟨by omega, by omega, by omega, fun fz => ?_, fun fz => fin v v1 v9 (fun h h0 h1 => ?_) (fun x x1 _ => vo x x1)⟩
    · refine for_up (X := fun i u => Yx (d + 2) cd222 0 Q 140 [vr 96, vi p, vi i, vt, vt, vt, vt] [] u) (I := fun i u => 0 ≤ i ∧ i ≤ σ 96 7 ∧ Fr [120] v u ∧ ∀ x, u 120 x = if 2464 ≤ x ∧ x < 2464 + i then w x + qBl σ l w (x - 2464) (p + 1) else v 120 x) (N := σ 96 7) ?_ ?_ 0 v ⟨Int.le_refl _, by omega, Fr_r, fun x => by rw [if_neg (by omega)]⟩
      · rintro h u hh ⟨h0, h1, f2, g3⟩ K
        have x7 : u 96 7 = σ 96 7 := by rw [f2 96 (by decide), v1 96 (by decide), f1 96 (by decide)]; exact s7
        have x136 : u 136 p = qLo σ l w p := by rw [f2 136 (by decide), v1 136 (by decide)]; exact g1
        have x126 : u 126 p = qf σ l w p := by rw [f2 126 (by decide), v1 126 (by decide)]; exact t126
        have x128 : u 128 (20 * h + p) = qs σ l w h p := by rw [f2 128 (by decide), v1 128 (by decide), f1 128 (by decide), s128]; exact hY.2.2.1 p h p0 p1 h0 hh
        have x138 : u 138 h = qLp σ l w h := by rw [f2 138 (by decide), v1 138 (by decide), f1 138 (by decide), s138]; exact (hY.2.2.2 h h0 hh).2
        have x64 : u 120 (2464 + h) = w (2464 + h) + qBl σ l w h p := by rw [g3, if_neg (by omega), vo _ (by omega)]; exact t64 h h0 hh
        have em : ((qf σ l w p).natAbs : Int) = qm σ l w p := rfl
        have sh := (qgs hI l w).2 h p
        have lp := (qPrb (σ := σ) (l := l) (w := w) (h := h)).2
        have m0 := q.2.2.2.2.2.2.2.2.2.2.2.2.2 fz
        have hb := hBl_b lo.1 (by omega) sh.1 (by omega) m0 lp.1 lp.2
        have bl := qBlb hI l hB h (i := p) (by omega)
        have ob := hB.2.2.1 h h0 (by omega)
        have eb : qLo σ l w p * qs σ l w h p / qm σ l w p * qLp σ l w h / 1000 = qBp σ l w h p := by
          unfold qBp
          rw [if_neg fz]
          rfl
        have bp := qBpb hI l hB h p0 p1
        refine b222_140 ⟨fun z => by omega, fun _ => ?_⟩
        rw [x136, x126, x128, x138, x64, em, eb]
        refine ⟨by omega, by omega, by omega, by omega, by omega, by omega, by omega, by omega, by omega, by omega, by omega, by omega, by omega, by omega, by omega, by omega, K _ ⟨by omega, by omega, Fr_w f2 (by decide), fun x => ?_⟩⟩
        rw [sw_s]
        unfold fu
        by_cases z : x = 2464 + h
        · rw [if_pos z, if_pos (by omega), z, show 2464 + h - 2464 = h by omega, bs h]
          omega
        · rw [if_neg z, g3]
          repeat' split
          all_goals first | omega | rfl
      · rintro h u hh ⟨h0, h1, f2, g3⟩
        have e : h = σ 96 7 := by omega
        rw [e] at g3
        have x7 : u 96 7 = σ 96 7 := by rw [f2 96 (by decide), v1 96 (by decide), f1 96 (by decide)]; exact s7
        refine b222_140 ⟨fun _ => fin u (Fr_t v1 f2 (by intro k hk; simp at hk ⊢; omega)) (by rw [g3, if_neg (by omega)]; exact v9) (fun h h0 h1 => by rw [g3, if_pos (by omega), show 2464 + h - 2464 = h by omega]) (fun x x1 x2 => ?_), fun z => by omega⟩
        have nx : ¬ (2464 ≤ x ∧ x < 2464 + σ 96 7) := fun z => x2 (x - 2464) (by omega) (by omega) (by omega)
        rw [g3, if_neg nx]
        exact vo x x1
    · rw [vo _ (by omega), t64 h h0 h1, bs h]
      unfold qBp
      rw [if_pos fz]
      omega
end
