section
/-! the component's hour -/
theorem qB_I {b : Nat} {σ s : aW} {w : Int → Int} (h6 : s 96 6 = σ 96 6) (h3 : s 103 = σ 103) (ht : σ 120 2532 ≤ w 2532) (hz : 0 ≤ σ 120 2532) (hS : ISt b (sw s 120 w)) : qB σ w := by
  obtain ⟨i1, i2, i3, i4, i5⟩ := hS
  refine ⟨fun p k p0 p1 k0 k1 => ?_, ?_, fun h h0 h1 => ?_, fun p p0 p1 => ?_, fun i i0 i1 => ?_⟩
  · have a := i1 p p0 (show p < s 96 6 by omega) k k0 (show k < s 103 p by rw [h3]; exact k1)
    have a2 : 0 ≤ w (60 * p + k) ∧ w (60 * p + k) ≤ 12000 ∧ 0 ≤ w (1200 + 60 * p + k) ∧ w (1200 + 60 * p + k) ≤ 12000 := a.2.2
    unfold qU0 qU1
    omega
  · unfold Sc at i2
    simp only [sw_s] at i2
    omega
  · have a := i3 h h0 h1
    unfold Sh at a
    simp only [sw_s] at a
    omega
  · have a := i4 p p0 p1
    unfold Sp at a
    simp only [sw_s] at a
    omega
  · have a := i5 i i0 i1
    unfold Sm at a
    simp only [sw_s] at a
    omega

theorem qC_I {σ s : aW} {w : Int → Int} (h6 : s 96 6 = σ 96 6) (h3 : s 103 = σ 103) (hS : ISt 63 (sw s 120 w)) : qC σ w s := by
  obtain ⟨i1, i2, i3, i4, i5⟩ := hS
  refine ⟨fun p k p0 p1 k0 k1 => ?_, ?_, fun h h0 h1 => ?_, fun p p0 p1 => ?_, fun i i0 i1 => ?_⟩
  · have a := i1 p p0 (show p < s 96 6 by omega) k k0 (show k < s 103 p by rw [h3]; exact k1)
    exact ⟨a.1, a.2.1⟩
  · obtain ⟨a1, a2, a3, a4, a5, a6, a7, a8, a9, a10, a11⟩ := i2
    exact ⟨a1, a4, a7, a10⟩
  · obtain ⟨a1, a2, a3, a4, a5, a6, a7, a8, a9, a10, a11, a12, a13, a14, a15, a16, a17, a18, a19, a20, a21, a22⟩ := i3 h h0 h1
    exact ⟨a1, a5, a8, a11, a14, a17, a20⟩
  · exact (i4 p p0 p1).1
  · exact (i5 i i0 i1).1
theorem qI_C {σ s : aW} {w : Int → Int} (h6 : s 96 6 = σ 96 6) (h3 : s 103 = σ 103) (hC : qC σ w s) (hB : qB σ w) : ISt 63 (sw s 120 w) := by
  obtain ⟨i1, ⟨j1, j2, j3, j4⟩, i3, i4, i5⟩ := hC
  obtain ⟨u1, ⟨t1, t2, t3, t4, t5, t6, t7, t8, t9⟩, u3, u4, u5⟩ := hB
  refine ⟨fun p p0 p1 k k0 k1 => ?_, ⟨j1, (show 0 ≤ w 2532 by omega), t3, j2, t4, t5, j3, t6, t7, j4, t8, t9⟩, fun h h0 h1 => ?_, fun p p0 p1 => ?_, fun i i0 i1 => ?_⟩
  · have p1' : p < s 96 6 := p1
    have k1' : k < s 103 p := k1
    rw [h3] at k1'
    have a := i1 p k p0 (by omega) k0 k1'
    have b := u1 p k p0 (by omega) k0 k1'
    exact ⟨a.1, a.2, b.1.1, b.1.2, b.2.1, b.2.2⟩
  · obtain ⟨a1, a2, a3, a4, a5, a6, a7⟩ := i3 h h0 h1
    obtain ⟨b1, b2, b3, b4, b5, b6, b7, b8, b9, b10, b11, b12, b13, b14, b15⟩ := u3 h h0 h1
    exact ⟨a1, b1, b2, b3, a2, b4, b5, a3, b6, b7, a4, b8, b9, a5, b10, b11, a6, b12, b13, a7, b14, b15⟩
  · have b := u4 p p0 p1
    exact ⟨i4 p p0 p1, b.1, b.2⟩
  · have b := u5 i i0 i1
    exact ⟨i5 i i0 i1, b.1, b.2⟩
theorem c12 {d : Nat} {Q : aQ} {σ s0 : aW} {w : Int → Int} {l : List rRu} (hI : qI σ) (hT : σ 56 0 = σ 96 10 ∧ σ 56 1 = σ 96 11) (hR : rSu σ l) (hG : Fg qL qP σ s0) (hS : ISt 63 (sw s0 120 w)) (hF : IFc s0) (hz : 0 ≤ σ 120 2532) (ht : σ 120 2532 ≤ w 2532) (ht2 : w 2532 ≤ 5047)
    (k : ∀ s, Fg qL qP σ s → Fg [17, 18, 19, 20, 21, 22, 23, 24, 26, 31, 57, 58, 59, 60, 61, 62, 63, 64, 65, 66, 67, 68, 69, 70, 71, 72, 73] [(16, 9), (16, 10), (16, 11), (45, 3), (45, 4), (45, 5)] s0 s → ISt 63 (sw s 120 (qH σ l w)) → IFc s → Q none s) : aEv (d + 5) true 12 [vr 56, vr 63] s0 Q := by
  have hn := hI.1.1
  unfold Nn at hn
  have z6 : s0 96 6 = σ 96 6 := Fg_kq hG (by decide) (by decide)
  have z3 : s0 103 = σ 103 := Fg_k hG (by decide) (by decide)
  have hB : qB σ w := qB_I z6 z3 ht hz hS
  have hC : qC σ w s0 := qC_I z6 z3 hS
  refine c12a hI hR hG hC hB hF (fun s3 f3 hY3 hF3 => ?_)
  have hG3 : Fg qL qP σ s3 := Fg_t hG (Fg_m f3 (by decide) (by decide))
  have k3 : ∀ k, ([64, 65, 66, 67, 68, 69, 70, 71, 72, 73, 63].contains k) = true → s3 k = s0 k := fun k hk => by
    have : k ∈ [64, 65, 66, 67, 68, 69, 70, 71, 72, 73, 63] := List.contains_iff_mem.mp hk
    simp at this
    exact funext fun j => f3 k j (by simp; omega) (by simp; omega)
  have hC3 : qC σ w s3 := by
    unfold qC at *
    simp only [k3 64 rfl, k3 65 rfl, k3 66 rfl, k3 67 rfl, k3 68 rfl, k3 69 rfl, k3 70 rfl, k3 71 rfl, k3 72 rfl, k3 73 rfl, k3 63 rfl]
    exact hC
  refine c12b hI hG3 hC3 hB hY3 (fun s6 f6 hZ => ?_)
  have hG6 : Fg qL qP σ s6 := Fg_t hG3 (Fg_m f6 (by decide) (by decide))
  have yk : ∀ (s : aW), (∀ k, k = 17 ∨ k = 19 ∨ k = 20 ∨ k = 61 ∨ k = 62 → s k = s3 k) → qY σ l w s := fun s hk => by
    unfold qY at *
    simp only [hk 17 (by omega), hk 19 (by omega), hk 20 (by omega), hk 61 (by omega), hk 62 (by omega)]
    exact hY3
  have y6 : ∀ k, k = 17 ∨ k = 19 ∨ k = 20 ∨ k = 61 ∨ k = 62 → s6 k = s3 k := fun k hk => funext fun j => f6 k j (by simp; omega) (by simp; omega)
  have hY6 := yk s6 y6
  obtain ⟨zn, zf, zg, zs, zu, zb⟩ := hZ
  obtain ⟨v1, ⟨v2, v3, v4, v5⟩, v6, v7, v8⟩ := hC3
  obtain ⟨a1, a2, a3, a4, a5⟩ := hI.2.1
  have a6 := a5 (w 2532) ht (by omega)
  have b60 : s6 63 0 = w 2532 := (f6 63 0 (by decide) (by decide)).trans v2
  have e43 : s6 43 = σ 43 := Fg_k hG6 (by decide) (by decide)
  have e44 : s6 44 = σ 44 := Fg_k hG6 (by decide) (by decide)
  have c6 : ∀ k, k = 66 ∨ k = 67 ∨ k = 68 ∨ k = 69 ∨ k = 70 ∨ k = 71 ∨ k = 72 → s6 k = s3 k := fun k hk => funext fun j => f6 k j (by simp; omega) (by simp; omega)
  refine b12_42 ⟨⟨by rw [e43, b60]; omega, by omega, by rw [e43]; omega, by rw [e43]; omega, by rw [e43]; omega⟩, ?_⟩
  rw [e43, e44, b60, ← a6.1]
  refine c12c hI hB hT.2 hG6 hY6 (fun h h0 h1 => ?_) (fun n n0 n1 => ⟨(zn n n0 n1).1, (zn n n0 n1).2.1⟩) (fun s7 h7 => ?_) (σ 96 7).toNat 0 s6 (Int.le_refl _) (by omega) ⟨Fr_r, fun n n0 n1 => ?_, fun h h0 h1 => by omega, fun h h0 => ⟨rfl, rfl, rfl, rfl, rfl, rfl⟩, ?_, ?_, fun j _ _ => rfl⟩
  · rw [c6 68 (by omega), c6 69 (by omega), c6 70 (by omega), c6 71 (by omega)]
    obtain ⟨x1, x2, x3, x4, x5, x6, x7⟩ := v6 h h0 h1
    exact ⟨x3, x4, x5, x6⟩
  rotate_left
  · have a := zn n n0 n1
    have e1 : hGi (σ 109) (qg σ l w) n 0 = 0 := rfl
    have e2 : hGi (σ 109) (qLf σ l w) n 0 = 0 := rfl
    unfold qGh
    rw [e1, e2, a.2.2.1, a.2.2.2]
    omega
  · have := v8 2 (by decide) (by decide)
    rw [f6 73 2 (by decide) (by decide), this]
    show w (2536 + 2) = w 2538 + 0
    rw [Int.add_zero]; rfl
  · have := v8 5 (by decide) (by decide)
    rw [f6 73 5 (by decide) (by decide), this]
    show w (2536 + 5) = w 2541 + 0
    rw [Int.add_zero]; rfl
  obtain ⟨f7, g1, g2, g3, g4, g5, g6⟩ := h7
  have hG7 : Fg qL qP σ s7 := Fg_t hG6 (Fg_F (Fr_s f7 (by decide)))
  have y7 : ∀ k, k = 17 ∨ k = 19 ∨ k = 20 ∨ k = 61 ∨ k = 62 → s7 k = s3 k := fun k hk => (f7 k (by simp; omega)).trans (y6 k hk)
  have hY7 := yk s7 y7
  have hp : ∀ p, 0 ≤ p → p < σ 96 6 → s7 2 p = σ 101 p ∧ s7 3 p = σ 102 p ∧ s7 4 p = σ 103 p ∧ s7 17 p = qf σ l w p ∧ hm (s7 17) p = qm σ l w p ∧ hTo (s7 17) (s7 2) (s7 3) p = qTo σ l w p := fun p p0 p1 => by
    have h := hI.1.2.1 p p0 p1
    unfold Np at h
    have a : s7 2 p = σ 101 p := by rw [Fg_k hG7 (k := 2) (by decide) (by decide)]; exact h.1
    have b : s7 3 p = σ 102 p := by rw [Fg_k hG7 (k := 3) (by decide) (by decide)]; exact h.2.1
    have c : s7 4 p = σ 103 p := by rw [Fg_k hG7 (k := 4) (by decide) (by decide)]; exact h.2.2.1
    have e := hY7.1 p p0 p1
    refine ⟨a, b, c, e, ?_, ?_⟩
    · unfold qm hm; rw [e]
    · unfold qTo hTo; rw [e, a, b]
  have e11 : s7 1 1 = σ 96 6 := (Fg_kq hG7 (k := 1) (i := 1) (by decide) (by decide)).trans hn.2.2.2.1
  have c57 : s7 57 = s6 57 := f7 57 (by decide)
  refine c21 (w := 1) (P := σ 96 6) (nd := qTo σ l w) (W := qWb σ l w) (Or.inr rfl) ⟨e11, by omega, by omega⟩ (fun p p0 p1 => ?_) (fun p p0 p1 => by rw [if_neg (by decide)]; exact (hp p p0 p1).2.2.2.2.2.symm) (fun n n0 n1 => by rw [if_neg (by decide)]; exact (g1 n n0 n1).2.symm) (fun p p0 p1 fz => ?_) (fun s8 f8 g8 => ⟨rfl, b12_103 ?_⟩)
  · have h := hI.1.2.1 p p0 p1
    unfold Np at h
    have a := hp p p0 p1
    have q := qp hI l w p0 p1
    rw [a.1, a.2.1, a.2.2.1, a.2.2.2.2.1]
    omega
  · rw [(hp p p0 p1).2.2.2.1] at fz
    have q := qp hI l w p0 p1
    rw [c57, (zn (qTo σ l w p) (by omega) (by omega)).1]
    have a := (qN_p hI l w p0 p1 fz).2
    have b := qN_b hI l w (qTo σ l w p)
    have c := qWbb hI l hB (hTo_z hI l w p0 p1 fz)
    omega
  obtain ⟨i1, i2, i3⟩ := g8
  have hG8 : Fg qL qP σ s8 := Fg_t hG7 (Fg_F (Fr_s f8 (by decide)))
  have hY8 := yk s8 (fun k hk => (f8 k (by simp; omega)).trans (y7 k hk))
  have u7 : s7 64 = s6 64 := f7 64 (by decide)
  have h60 : ∀ n i, i ≤ σ 96 6 → hGi (qTo σ l w) (hm (s7 17)) n i = hGi (qTo σ l w) (qm σ l w) n i := fun n i hi => hGi_c (fun q q0 q1 => ⟨rfl, (hp q q0 (by omega)).2.2.2.2.1⟩)
  have epl : ∀ p j, 0 ≤ p → p < σ 96 6 → hPl (0 < s7 17 p ↔ (1 : Int) = 0) (s7 4 p) (hm (s7 17) p) j = (if ¬ 0 < qf σ l w p then hm (qf σ l w) p - 1 - j else σ 103 p - hm (qf σ l w) p + j) := fun p j p0 p1 => by
    have a := hp p p0 p1
    unfold hPl
    rw [a.2.2.2.2.1, a.2.2.1, a.2.2.2.1]
    have e1 : (0 < qf σ l w p ↔ (1 : Int) = 0) ↔ ¬ 0 < qf σ l w p := ⟨fun z y => absurd (z.mp y) (by decide), fun z => ⟨fun y => absurd y z, fun y => absurd y (by decide)⟩⟩
    by_cases z : 0 < qf σ l w p
    · rw [if_neg (fun y => e1.mp y z), if_neg (fun y => y z)]
      rfl
    · rw [if_pos (e1.mpr z), if_pos z]
      rfl
  have rng : ∀ p j, 0 ≤ p → p < σ 96 6 → 0 ≤ j → j < hm (s7 17) p → 0 ≤ hPl (0 < s7 17 p ↔ (1 : Int) = 0) (s7 4 p) (hm (s7 17) p) j ∧ hPl (0 < s7 17 p ↔ (1 : Int) = 0) (s7 4 p) (hm (s7 17) p) j < 60 := fun p j p0 p1 j0 j1 => by
    have a := hp p p0 p1
    have q := qp hI l w p0 p1
    have r := hPl_r (r := 0 < s7 17 p ↔ (1 : Int) = 0) (L := s7 4 p) (m := hm (s7 17) p) (k := j) (by rw [a.2.2.2.2.1, a.2.2.1]; exact q.2.1) (by rw [a.2.2.1]; exact q.2.2.2.1) j0 j1
    rw [a.2.2.1] at r ⊢
    omega
  have hU8 : ∀ p k, 0 ≤ p → p < σ 96 6 → 0 ≤ k → k < σ 103 p → s8 64 ((2 * p + 0) * 60 + k) = qV0 σ l w p k ∧ s8 64 ((2 * p + 1) * 60 + k) = qV1 σ l w p k := fun p j p0 p1 j0 j1 => by
    have q := qp hI l w p0 p1
    refine ⟨?_, ?_⟩
    · rw [i3 ((2 * p + 0) * 60 + j) (fun p' j' p0' p1' j0' j1' e => ?_), u7]
      · exact zu p j p0 p1 j0 j1
      · have := rng p' j' p0' p1' j0' j1'
        omega
    · refine hFl_of (X0 := s3 64) (X1 := s6 64) (fun j j0 j1 => (v1 p j p0 p1 j0 j1).2) (zb p p0 p1) (fun j j0 j1 => ?_) (fun k k0 k1 hk => ?_) j0 j1 q.2.1
      · have a := i2 p p0 p1 j j0 (by rw [(hp p p0 p1).2.2.2.2.1]; exact j1)
        rw [epl p j p0 p1, h60 _ p (by omega), c57, (zn (qTo σ l w p) (by omega) (by omega)).1] at a
        exact a
      · rw [i3 ((2 * p + 1) * 60 + k) (fun p' j' p0' p1' j0' j1' e => ?_), u7]
        have r := rng p' j' p0' p1' j0' j1'
        have ep : p' = p := by omega
        subst ep
        have e' := epl p' j' p0 p1
        rw [(hp p' p0' p1').2.2.2.2.1] at j1'
        refine hk j' j0' j1' ?_
        rw [← e']
        omega
  refine c12d hI hB hT.1 hG8 hY8 hU8 ?_ (fun s9 h9 => ?_) (σ 96 6).toNat 0 s8 (Int.le_refl _) (by omega) ⟨Fr_r, fun p k p0 p1 => by omega, fun x hx => rfl, ?_, fun j _ => rfl, fun h h0 h1 => ?_, fun h _ => rfl⟩
  · rw [f8 63 (by decide), f7 63 (by decide)]; exact b60
  rotate_left
  · have := v8 3 (by decide) (by decide)
    rw [f8 73 (by decide), g6 3 (by decide) (by decide), f6 73 3 (by decide) (by decide), this]
    show w (2536 + 3) = w 2539 + 0
    rw [Int.add_zero]; rfl
  · obtain ⟨x1, x2, x3, x4, x5, x6, x7⟩ := v6 h h0 (by omega)
    rw [f8 72 (by decide), f7 72 (by decide), c6 72 (by omega), x7]
    show w (2464 + h) = w (2464 + h) + 0
    rw [Int.add_zero]
  obtain ⟨f9, o1, o2, o3, o4, o5, o6⟩ := h9
  have hG9 : Fg qL qP σ s9 := Fg_t hG8 (Fg_F (Fr_s f9 (by decide)))
  have hGx : Fg qL qP σ (sw s9 63 (fu (s9 63) 0 (s9 63 0 + 1))) := Fg_f hG9 (by decide)
  have fx : Fg [57, 58, 59, 60, 64, 65, 66, 67, 68, 69, 70, 71, 72, 73, 63] [(45, 3), (45, 4), (45, 5)] s3 (sw s9 63 (fu (s9 63) 0 (s9 63 0 + 1))) := Fg_w (Fg_t (Fg_t (Fg_t (Fg_m f6 (by decide) (by decide)) (Fg_F (Fr_s f7 (by decide)))) (Fg_F (Fr_s f8 (by decide)))) (Fg_F (Fr_s f9 (by decide)))) (by decide)
  refine k _ hGx (Fg_t (Fg_m f3 (by decide) (by decide)) (Fg_m fx (by decide) (by decide))) ?_ (IFc_k fx (by decide) hF3)
  have hS' := qH_S (σ := σ) (w := w) (l := l) hI
  have hB2 := qS_b hI hB ht2 hS'
  obtain ⟨s1, s2, s3', ⟨t1, t2, t3, t4, t5, t6, t7, t8, t9, t10⟩, s5⟩ := hS'
  generalize qH σ l w = w' at *
  have b9 : ∀ i, s9 63 i = s6 63 i := fun i => by rw [f9 63 (by decide), f8 63 (by decide), f7 63 (by decide)]
  refine qI_C ((Fg_kq hGx (by decide) (by decide))) (Fg_k hGx (by decide) (by decide)) ⟨fun p j p0 p1 j0 j1 => ?_, ⟨?_, ?_, ?_, ?_⟩, fun h h0 h1 => ?_, fun p p0 p1 => ?_, fun i i0 i1 => ?_⟩ hB2
  · have a := s1 p j p0 p1 j0 j1
    unfold qS1 at a
    unfold qU0 qU1
    rw [sw_n (by decide), a.1, a.2]
    exact o1 p j p0 p1 j0 j1
  · rw [sw_s, fu_s, b9, b60, t1]
  · rw [sw_s, fu_n (by decide), b9, t2]; exact zs.1
  · rw [sw_s, fu_n (by decide), b9, t3]; exact zs.2.1
  · rw [sw_s, fu_n (by decide), b9, t4]; exact zs.2.2.1
  · have k9 : ∀ k, k = 66 ∨ k = 67 ∨ k = 68 ∨ k = 69 ∨ k = 70 ∨ k = 71 → sw s9 63 (fu (s9 63) 0 (s9 63 0 + 1)) k = s7 k := fun k hk => by
      rw [sw_n (by omega), f9 k (by simp; omega), f8 k (by simp; omega)]
    rw [k9 66 (by omega), k9 67 (by omega), k9 68 (by omega), k9 69 (by omega), k9 70 (by omega), k9 71 (by omega), sw_n (by decide)]
    by_cases z : h < σ 96 7
    · obtain ⟨x1, x2, x3, x4, x5, x6, x7⟩ := s2 h h0 z
      obtain ⟨y1, y2, y3, y4, y5, y6⟩ := g2 h h0 z
      rw [x1, x2, x3, x4, x5, x6, x7, y1, y2, y3, y4, y5, y6, o5 h h0 z]
      refine ⟨rfl, fun nz => ?_, rfl, rfl, rfl, rfl, rfl⟩
      rw [if_neg nz]
    · have u : ∀ r, r = 2400 ∨ r = 2416 ∨ r = 2432 ∨ r = 2448 ∨ r = 2464 ∨ r = 2480 ∨ r = 2496 → w' (r + h) = w (r + h) := fun r hr => s5 _ ⟨fun p k p0 p1 k0 k1 => by have := qp hI l w p0 p1; omega, fun h' h0' h1' => by omega, fun p p0 p1 => by omega, by omega⟩
      rw [u 2400 (by omega), u 2416 (by omega), u 2432 (by omega), u 2448 (by omega), u 2464 (by omega), u 2480 (by omega), u 2496 (by omega)]
      obtain ⟨y1, y2, y3, y4, y5, y6⟩ := g3 h (by omega)
      rw [y1, y2, y3, y4, y5, y6, o6 h (by omega), f8 72 (by decide), f7 72 (by decide), c6 66 (by omega), c6 67 (by omega), c6 68 (by omega), c6 69 (by omega), c6 70 (by omega), c6 71 (by omega), c6 72 (by omega)]
      exact v6 h h0 h1
  · rw [sw_n (by decide), f9 65 (by decide), f8 65 (by decide), f7 65 (by decide)]
    by_cases z : p < σ 96 6
    · rw [zf p p0 z, s3' p p0 z]
    · rw [zg p (by omega), v7 p p0 p1, s5 _ ⟨fun p k p0 p1 k0 k1 => by have := qp hI l w p0 p1; omega, fun h' h0' h1' => by omega, fun p p0 p1 => by omega, by omega⟩]
  · rw [sw_n (by decide)]
    have e : i = 0 ∨ i = 1 ∨ i = 2 ∨ i = 3 ∨ i = 4 ∨ i = 5 := by omega
    have tt : ∀ j, ¬ j = 2 → ¬ j = 3 → ¬ j = 5 → s9 73 j = s6 73 j := fun j a b c => by rw [o4 j b, f8 73 (by decide), g6 j a c]
    rcases e with e | e | e | e | e | e <;> rw [e]
    · rw [tt 0 (by decide) (by decide) (by decide), zs.2.2.2.1]; exact t5.symm
    · rw [tt 1 (by decide) (by decide) (by decide), zs.2.2.2.2.1]; exact t6.symm
    · rw [o4 2 (by decide), f8 73 (by decide), g4]; exact t7.symm
    · rw [o3]; exact t8.symm
    · rw [tt 4 (by decide) (by decide) (by decide), zs.2.2.2.2.2]; exact t9.symm
    · rw [o4 5 (by decide), f8 73 (by decide), g5]; exact t10.symm

theorem qC_Il {σ s : aW} {w : Int → Int} (h6 : s 96 6 = σ 96 6) (h3 : s 103 = σ 103) (hS : ISt 74 (sw s 120 w)) : qCl σ w s := by
  obtain ⟨i1, i2, i3, i4, i5⟩ := hS
  refine ⟨fun p k p0 p1 k0 k1 => ?_, ?_, fun h h0 h1 => ?_, fun p p0 p1 => ?_, fun i i0 i1 => ?_⟩
  · have a := i1 p p0 (show p < s 96 6 by omega) k k0 (show k < s 103 p by rw [h3]; exact k1)
    exact ⟨a.1, a.2.1⟩
  · obtain ⟨a1, a2, a3, a4, a5, a6, a7, a8, a9, a10, a11⟩ := i2
    exact ⟨a1, a4, a7, a10⟩
  · obtain ⟨a1, a2, a3, a4, a5, a6, a7, a8, a9, a10, a11, a12, a13, a14, a15, a16, a17, a18, a19, a20, a21, a22⟩ := i3 h h0 h1
    exact ⟨a1, a5, a8, a11, a14, a17, a20⟩
  · exact (i4 p p0 p1).1
  · exact (i5 i i0 i1).1
theorem qI_Cl {σ s : aW} {w : Int → Int} (h6 : s 96 6 = σ 96 6) (h3 : s 103 = σ 103) (hC : qCl σ w s) (hB : qB σ w) : ISt 74 (sw s 120 w) := by
  obtain ⟨i1, ⟨j1, j2, j3, j4⟩, i3, i4, i5⟩ := hC
  obtain ⟨u1, ⟨t1, t2, t3, t4, t5, t6, t7, t8, t9⟩, u3, u4, u5⟩ := hB
  refine ⟨fun p p0 p1 k k0 k1 => ?_, ⟨j1, (show 0 ≤ w 2532 by omega), t3, j2, t4, t5, j3, t6, t7, j4, t8, t9⟩, fun h h0 h1 => ?_, fun p p0 p1 => ?_, fun i i0 i1 => ?_⟩
  · have p1' : p < s 96 6 := p1
    have k1' : k < s 103 p := k1
    rw [h3] at k1'
    have a := i1 p k p0 (by omega) k0 k1'
    have b := u1 p k p0 (by omega) k0 k1'
    exact ⟨a.1, a.2, b.1.1, b.1.2, b.2.1, b.2.2⟩
  · obtain ⟨a1, a2, a3, a4, a5, a6, a7⟩ := i3 h h0 h1
    obtain ⟨b1, b2, b3, b4, b5, b6, b7, b8, b9, b10, b11, b12, b13, b14, b15⟩ := u3 h h0 h1
    exact ⟨a1, b1, b2, b3, a2, b4, b5, a3, b6, b7, a4, b8, b9, a5, b10, b11, a6, b12, b13, a7, b14, b15⟩
  · have b := u4 p p0 p1
    exact ⟨i4 p p0 p1, b.1, b.2⟩
  · have b := u5 i i0 i1
    exact ⟨i5 i i0 i1, b.1, b.2⟩
theorem c12l {d : Nat} {Q : aQ} {σ s0 : aW} {w : Int → Int} {l : List rRu} (hI : qI σ) (hT : σ 56 0 = σ 96 10 ∧ σ 56 1 = σ 96 11) (hR : rSu σ l) (hG : Fg qLl qPl σ s0) (hS : ISt 74 (sw s0 120 w)) (hF : IFc s0) (hz : 0 ≤ σ 120 2532) (ht : σ 120 2532 ≤ w 2532) (ht2 : w 2532 ≤ 5047)
    (k : ∀ s, Fg qLl qPl σ s → Fg [17, 18, 19, 20, 21, 22, 23, 24, 26, 31, 57, 58, 59, 60, 61, 62, 74, 75, 76, 77, 78, 79, 80, 81, 82, 83, 84] [(16, 9), (16, 10), (16, 11), (45, 3), (45, 4), (45, 5)] s0 s → ISt 74 (sw s 120 (qH σ l w)) → IFc s → Q none s) : aEv (d + 5) true 12 [vr 56, vr 74] s0 Q := by
  have hn := hI.1.1
  unfold Nn at hn
  have z6 : s0 96 6 = σ 96 6 := Fg_kq hG (by decide) (by decide)
  have z3 : s0 103 = σ 103 := Fg_k hG (by decide) (by decide)
  have hB : qB σ w := qB_I z6 z3 ht hz hS
  have hC : qCl σ w s0 := qC_Il z6 z3 hS
  refine c12al hI hR hG hC hB hF (fun s3 f3 hY3 hF3 => ?_)
  have hG3 : Fg qLl qPl σ s3 := Fg_t hG (Fg_m f3 (by decide) (by decide))
  have k3 : ∀ k, ([75, 76, 77, 78, 79, 80, 81, 82, 83, 84, 74].contains k) = true → s3 k = s0 k := fun k hk => by
    have : k ∈ [75, 76, 77, 78, 79, 80, 81, 82, 83, 84, 74] := List.contains_iff_mem.mp hk
    simp at this
    exact funext fun j => f3 k j (by simp; omega) (by simp; omega)
  have hC3 : qCl σ w s3 := by
    unfold qCl at *
    simp only [k3 75 rfl, k3 76 rfl, k3 77 rfl, k3 78 rfl, k3 79 rfl, k3 80 rfl, k3 81 rfl, k3 82 rfl, k3 83 rfl, k3 84 rfl, k3 74 rfl]
    exact hC
  refine c12bl hI hG3 hC3 hB hY3 (fun s6 f6 hZ => ?_)
  have hG6 : Fg qLl qPl σ s6 := Fg_t hG3 (Fg_m f6 (by decide) (by decide))
  have yk : ∀ (s : aW), (∀ k, k = 17 ∨ k = 19 ∨ k = 20 ∨ k = 61 ∨ k = 62 → s k = s3 k) → qY σ l w s := fun s hk => by
    unfold qY at *
    simp only [hk 17 (by omega), hk 19 (by omega), hk 20 (by omega), hk 61 (by omega), hk 62 (by omega)]
    exact hY3
  have y6 : ∀ k, k = 17 ∨ k = 19 ∨ k = 20 ∨ k = 61 ∨ k = 62 → s6 k = s3 k := fun k hk => funext fun j => f6 k j (by simp; omega) (by simp; omega)
  have hY6 := yk s6 y6
  obtain ⟨zn, zf, zg, zs, zu, zb⟩ := hZ
  obtain ⟨v1, ⟨v2, v3, v4, v5⟩, v6, v7, v8⟩ := hC3
  obtain ⟨a1, a2, a3, a4, a5⟩ := hI.2.1
  have a6 := a5 (w 2532) ht (by omega)
  have b60 : s6 74 0 = w 2532 := (f6 74 0 (by decide) (by decide)).trans v2
  have e43 : s6 43 = σ 43 := Fg_k hG6 (by decide) (by decide)
  have e44 : s6 44 = σ 44 := Fg_k hG6 (by decide) (by decide)
  have c6 : ∀ k, k = 77 ∨ k = 78 ∨ k = 79 ∨ k = 80 ∨ k = 81 ∨ k = 82 ∨ k = 83 → s6 k = s3 k := fun k hk => funext fun j => f6 k j (by simp; omega) (by simp; omega)
  refine b12l_42 ⟨⟨by rw [e43, b60]; omega, by omega, by rw [e43]; omega, by rw [e43]; omega, by rw [e43]; omega⟩, ?_⟩
  rw [e43, e44, b60, ← a6.1]
  refine c12cl hI hB hT.2 hG6 hY6 (fun h h0 h1 => ?_) (fun n n0 n1 => ⟨(zn n n0 n1).1, (zn n n0 n1).2.1⟩) (fun s7 h7 => ?_) (σ 96 7).toNat 0 s6 (Int.le_refl _) (by omega) ⟨Fr_r, fun n n0 n1 => ?_, fun h h0 h1 => by omega, fun h h0 => ⟨rfl, rfl, rfl, rfl, rfl, rfl⟩, ?_, ?_, fun j _ _ => rfl⟩
  · rw [c6 79 (by omega), c6 80 (by omega), c6 81 (by omega), c6 82 (by omega)]
    obtain ⟨x1, x2, x3, x4, x5, x6, x7⟩ := v6 h h0 h1
    exact ⟨x3, x4, x5, x6⟩
  rotate_left
  · have a := zn n n0 n1
    have e1 : hGi (σ 109) (qg σ l w) n 0 = 0 := rfl
    have e2 : hGi (σ 109) (qLf σ l w) n 0 = 0 := rfl
    unfold qGh
    rw [e1, e2, a.2.2.1, a.2.2.2]
    omega
  · have := v8 2 (by decide) (by decide)
    rw [f6 84 2 (by decide) (by decide), this]
    show w (2536 + 2) = w 2538 + 0
    rw [Int.add_zero]; rfl
  · have := v8 5 (by decide) (by decide)
    rw [f6 84 5 (by decide) (by decide), this]
    show w (2536 + 5) = w 2541 + 0
    rw [Int.add_zero]; rfl
  obtain ⟨f7, g1, g2, g3, g4, g5, g6⟩ := h7
  have hG7 : Fg qLl qPl σ s7 := Fg_t hG6 (Fg_F (Fr_s f7 (by decide)))
  have y7 : ∀ k, k = 17 ∨ k = 19 ∨ k = 20 ∨ k = 61 ∨ k = 62 → s7 k = s3 k := fun k hk => (f7 k (by simp; omega)).trans (y6 k hk)
  have hY7 := yk s7 y7
  have hp : ∀ p, 0 ≤ p → p < σ 96 6 → s7 2 p = σ 101 p ∧ s7 3 p = σ 102 p ∧ s7 4 p = σ 103 p ∧ s7 17 p = qf σ l w p ∧ hm (s7 17) p = qm σ l w p ∧ hTo (s7 17) (s7 2) (s7 3) p = qTo σ l w p := fun p p0 p1 => by
    have h := hI.1.2.1 p p0 p1
    unfold Np at h
    have a : s7 2 p = σ 101 p := by rw [Fg_k hG7 (k := 2) (by decide) (by decide)]; exact h.1
    have b : s7 3 p = σ 102 p := by rw [Fg_k hG7 (k := 3) (by decide) (by decide)]; exact h.2.1
    have c : s7 4 p = σ 103 p := by rw [Fg_k hG7 (k := 4) (by decide) (by decide)]; exact h.2.2.1
    have e := hY7.1 p p0 p1
    refine ⟨a, b, c, e, ?_, ?_⟩
    · unfold qm hm; rw [e]
    · unfold qTo hTo; rw [e, a, b]
  have e11 : s7 1 1 = σ 96 6 := (Fg_kq hG7 (k := 1) (i := 1) (by decide) (by decide)).trans hn.2.2.2.1
  have c57 : s7 57 = s6 57 := f7 57 (by decide)
  refine c21l (w := 1) (P := σ 96 6) (nd := qTo σ l w) (W := qWb σ l w) (Or.inr rfl) ⟨e11, by omega, by omega⟩ (fun p p0 p1 => ?_) (fun p p0 p1 => by rw [if_neg (by decide)]; exact (hp p p0 p1).2.2.2.2.2.symm) (fun n n0 n1 => by rw [if_neg (by decide)]; exact (g1 n n0 n1).2.symm) (fun p p0 p1 fz => ?_) (fun s8 f8 g8 => ⟨rfl, b12l_103 ?_⟩)
  · have h := hI.1.2.1 p p0 p1
    unfold Np at h
    have a := hp p p0 p1
    have q := qp hI l w p0 p1
    rw [a.1, a.2.1, a.2.2.1, a.2.2.2.2.1]
    omega
  · rw [(hp p p0 p1).2.2.2.1] at fz
    have q := qp hI l w p0 p1
    rw [c57, (zn (qTo σ l w p) (by omega) (by omega)).1]
    have a := (qN_p hI l w p0 p1 fz).2
    have b := qN_b hI l w (qTo σ l w p)
    have c := qWbb hI l hB (hTo_z hI l w p0 p1 fz)
    omega
  obtain ⟨i1, i2, i3⟩ := g8
  have hG8 : Fg qLl qPl σ s8 := Fg_t hG7 (Fg_F (Fr_s f8 (by decide)))
  have hY8 := yk s8 (fun k hk => (f8 k (by simp; omega)).trans (y7 k hk))
  have u7 : s7 75 = s6 75 := f7 75 (by decide)
  have h60 : ∀ n i, i ≤ σ 96 6 → hGi (qTo σ l w) (hm (s7 17)) n i = hGi (qTo σ l w) (qm σ l w) n i := fun n i hi => hGi_c (fun q q0 q1 => ⟨rfl, (hp q q0 (by omega)).2.2.2.2.1⟩)
  have epl : ∀ p j, 0 ≤ p → p < σ 96 6 → hPll (0 < s7 17 p ↔ (1 : Int) = 0) (s7 4 p) (hm (s7 17) p) j = (if ¬ 0 < qf σ l w p then hm (qf σ l w) p - 1 - j else σ 103 p - hm (qf σ l w) p + j) := fun p j p0 p1 => by
    have a := hp p p0 p1
    unfold hPll
    rw [a.2.2.2.2.1, a.2.2.1, a.2.2.2.1]
    have e1 : (0 < qf σ l w p ↔ (1 : Int) = 0) ↔ ¬ 0 < qf σ l w p := ⟨fun z y => absurd (z.mp y) (by decide), fun z => ⟨fun y => absurd y z, fun y => absurd y (by decide)⟩⟩
    by_cases z : 0 < qf σ l w p
    · rw [if_neg (fun y => e1.mp y z), if_neg (fun y => y z)]
      rfl
    · rw [if_pos (e1.mpr z), if_pos z]
      rfl
  have rng : ∀ p j, 0 ≤ p → p < σ 96 6 → 0 ≤ j → j < hm (s7 17) p → 0 ≤ hPll (0 < s7 17 p ↔ (1 : Int) = 0) (s7 4 p) (hm (s7 17) p) j ∧ hPll (0 < s7 17 p ↔ (1 : Int) = 0) (s7 4 p) (hm (s7 17) p) j < 60 := fun p j p0 p1 j0 j1 => by
    have a := hp p p0 p1
    have q := qp hI l w p0 p1
    have r := hPl_rl (r := 0 < s7 17 p ↔ (1 : Int) = 0) (L := s7 4 p) (m := hm (s7 17) p) (k := j) (by rw [a.2.2.2.2.1, a.2.2.1]; exact q.2.1) (by rw [a.2.2.1]; exact q.2.2.2.1) j0 j1
    rw [a.2.2.1] at r ⊢
    omega
  have hU8 : ∀ p k, 0 ≤ p → p < σ 96 6 → 0 ≤ k → k < σ 103 p → s8 75 ((2 * p + 0) * 60 + k) = qV0 σ l w p k ∧ s8 75 ((2 * p + 1) * 60 + k) = qV1 σ l w p k := fun p j p0 p1 j0 j1 => by
    have q := qp hI l w p0 p1
    refine ⟨?_, ?_⟩
    · rw [i3 ((2 * p + 0) * 60 + j) (fun p' j' p0' p1' j0' j1' e => ?_), u7]
      · exact zu p j p0 p1 j0 j1
      · have := rng p' j' p0' p1' j0' j1'
        omega
    · refine hFl_of (X0 := s3 75) (X1 := s6 75) (fun j j0 j1 => (v1 p j p0 p1 j0 j1).2) (zb p p0 p1) (fun j j0 j1 => ?_) (fun k k0 k1 hk => ?_) j0 j1 q.2.1
      · have a := i2 p p0 p1 j j0 (by rw [(hp p p0 p1).2.2.2.2.1]; exact j1)
        rw [epl p j p0 p1, h60 _ p (by omega), c57, (zn (qTo σ l w p) (by omega) (by omega)).1] at a
        exact a
      · rw [i3 ((2 * p + 1) * 60 + k) (fun p' j' p0' p1' j0' j1' e => ?_), u7]
        have r := rng p' j' p0' p1' j0' j1'
        have ep : p' = p := by omega
        subst ep
        have e' := epl p' j' p0 p1
        rw [(hp p' p0' p1').2.2.2.2.1] at j1'
        refine hk j' j0' j1' ?_
        rw [← e']
        omega
  refine c12dl hI hB hT.1 hG8 hY8 hU8 ?_ (fun s9 h9 => ?_) (σ 96 6).toNat 0 s8 (Int.le_refl _) (by omega) ⟨Fr_r, fun p k p0 p1 => by omega, fun x hx => rfl, ?_, fun j _ => rfl, fun h h0 h1 => ?_, fun h _ => rfl⟩
  · rw [f8 74 (by decide), f7 74 (by decide)]; exact b60
  rotate_left
  · have := v8 3 (by decide) (by decide)
    rw [f8 84 (by decide), g6 3 (by decide) (by decide), f6 84 3 (by decide) (by decide), this]
    show w (2536 + 3) = w 2539 + 0
    rw [Int.add_zero]; rfl
  · obtain ⟨x1, x2, x3, x4, x5, x6, x7⟩ := v6 h h0 (by omega)
    rw [f8 83 (by decide), f7 83 (by decide), c6 83 (by omega), x7]
    show w (2464 + h) = w (2464 + h) + 0
    rw [Int.add_zero]
  obtain ⟨f9, o1, o2, o3, o4, o5, o6⟩ := h9
  have hG9 : Fg qLl qPl σ s9 := Fg_t hG8 (Fg_F (Fr_s f9 (by decide)))
  have hGx : Fg qLl qPl σ (sw s9 74 (fu (s9 74) 0 (s9 74 0 + 1))) := Fg_f hG9 (by decide)
  have fx : Fg [57, 58, 59, 60, 75, 76, 77, 78, 79, 80, 81, 82, 83, 84, 74] [(45, 3), (45, 4), (45, 5)] s3 (sw s9 74 (fu (s9 74) 0 (s9 74 0 + 1))) := Fg_w (Fg_t (Fg_t (Fg_t (Fg_m f6 (by decide) (by decide)) (Fg_F (Fr_s f7 (by decide)))) (Fg_F (Fr_s f8 (by decide)))) (Fg_F (Fr_s f9 (by decide)))) (by decide)
  refine k _ hGx (Fg_t (Fg_m f3 (by decide) (by decide)) (Fg_m fx (by decide) (by decide))) ?_ (IFc_k fx (by decide) hF3)
  have hS' := qH_S (σ := σ) (w := w) (l := l) hI
  have hB2 := qS_b hI hB ht2 hS'
  obtain ⟨s1, s2, s3', ⟨t1, t2, t3, t4, t5, t6, t7, t8, t9, t10⟩, s5⟩ := hS'
  generalize qH σ l w = w' at *
  have b9 : ∀ i, s9 74 i = s6 74 i := fun i => by rw [f9 74 (by decide), f8 74 (by decide), f7 74 (by decide)]
  refine qI_Cl ((Fg_kq hGx (by decide) (by decide))) (Fg_k hGx (by decide) (by decide)) ⟨fun p j p0 p1 j0 j1 => ?_, ⟨?_, ?_, ?_, ?_⟩, fun h h0 h1 => ?_, fun p p0 p1 => ?_, fun i i0 i1 => ?_⟩ hB2
  · have a := s1 p j p0 p1 j0 j1
    unfold qS1 at a
    unfold qU0 qU1
    rw [sw_n (by decide), a.1, a.2]
    exact o1 p j p0 p1 j0 j1
  · rw [sw_s, fu_s, b9, b60, t1]
  · rw [sw_s, fu_n (by decide), b9, t2]; exact zs.1
  · rw [sw_s, fu_n (by decide), b9, t3]; exact zs.2.1
  · rw [sw_s, fu_n (by decide), b9, t4]; exact zs.2.2.1
  · have k9 : ∀ k, k = 77 ∨ k = 78 ∨ k = 79 ∨ k = 80 ∨ k = 81 ∨ k = 82 → sw s9 74 (fu (s9 74) 0 (s9 74 0 + 1)) k = s7 k := fun k hk => by
      rw [sw_n (by omega), f9 k (by simp; omega), f8 k (by simp; omega)]
    rw [k9 77 (by omega), k9 78 (by omega), k9 79 (by omega), k9 80 (by omega), k9 81 (by omega), k9 82 (by omega), sw_n (by decide)]
    by_cases z : h < σ 96 7
    · obtain ⟨x1, x2, x3, x4, x5, x6, x7⟩ := s2 h h0 z
      obtain ⟨y1, y2, y3, y4, y5, y6⟩ := g2 h h0 z
      rw [x1, x2, x3, x4, x5, x6, x7, y1, y2, y3, y4, y5, y6, o5 h h0 z]
      refine ⟨rfl, fun nz => ?_, rfl, rfl, rfl, rfl, rfl⟩
      rw [if_neg nz]
    · have u : ∀ r, r = 2400 ∨ r = 2416 ∨ r = 2432 ∨ r = 2448 ∨ r = 2464 ∨ r = 2480 ∨ r = 2496 → w' (r + h) = w (r + h) := fun r hr => s5 _ ⟨fun p k p0 p1 k0 k1 => by have := qp hI l w p0 p1; omega, fun h' h0' h1' => by omega, fun p p0 p1 => by omega, by omega⟩
      rw [u 2400 (by omega), u 2416 (by omega), u 2432 (by omega), u 2448 (by omega), u 2464 (by omega), u 2480 (by omega), u 2496 (by omega)]
      obtain ⟨y1, y2, y3, y4, y5, y6⟩ := g3 h (by omega)
      rw [y1, y2, y3, y4, y5, y6, o6 h (by omega), f8 83 (by decide), f7 83 (by decide), c6 77 (by omega), c6 78 (by omega), c6 79 (by omega), c6 80 (by omega), c6 81 (by omega), c6 82 (by omega), c6 83 (by omega)]
      exact v6 h h0 h1
  · rw [sw_n (by decide), f9 76 (by decide), f8 76 (by decide), f7 76 (by decide)]
    by_cases z : p < σ 96 6
    · rw [zf p p0 z, s3' p p0 z]
    · rw [zg p (by omega), v7 p p0 p1, s5 _ ⟨fun p k p0 p1 k0 k1 => by have := qp hI l w p0 p1; omega, fun h' h0' h1' => by omega, fun p p0 p1 => by omega, by omega⟩]
  · rw [sw_n (by decide)]
    have e : i = 0 ∨ i = 1 ∨ i = 2 ∨ i = 3 ∨ i = 4 ∨ i = 5 := by omega
    have tt : ∀ j, ¬ j = 2 → ¬ j = 3 → ¬ j = 5 → s9 84 j = s6 84 j := fun j a b c => by rw [o4 j b, f8 84 (by decide), g6 j a c]
    rcases e with e | e | e | e | e | e <;> rw [e]
    · rw [tt 0 (by decide) (by decide) (by decide), zs.2.2.2.1]; exact t5.symm
    · rw [tt 1 (by decide) (by decide) (by decide), zs.2.2.2.2.1]; exact t6.symm
    · rw [o4 2 (by decide), f8 84 (by decide), g4]; exact t7.symm
    · rw [o3]; exact t8.symm
    · rw [tt 4 (by decide) (by decide) (by decide), zs.2.2.2.2.2]; exact t9.symm
    · rw [o4 5 (by decide), f8 84 (by decide), g5]; exact t10.symm
end
