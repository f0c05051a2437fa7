section
/-! the component's hour, first half -/
/-- flows and prices of the hour are known -/
def qY (σ : aW) (l : List rRu) (w : Int → Int) (s : aW) : Prop := (∀ p, 0 ≤ p → p < σ 96 6 → s 17 p = qf σ l w p) ∧ (∀ h, 0 ≤ h → h < σ 96 7 → s 19 h = qg σ l w h) ∧ (∀ p h, 0 ≤ p → p < σ 96 6 → 0 ≤ h → h < σ 96 7 → s 20 (p * 16 + h) = qs σ l w h p) ∧ (∀ h, 0 ≤ h → h < σ 96 7 → s 61 h = qPr σ l w h ∧ s 62 h = qLp σ l w h)
theorem Fg_kq {L : List Nat} {P : List (Nat × Int)} {σ s : aW} (h : Fg L P σ s) {k : Nat} {i : Int} (hk : L.contains k = false) (hp : P.contains (k, i) = false) : s k i = σ k i := h k i (fun z => by rw [List.contains_iff_mem.mpr z] at hk; cases hk) (fun z => by rw [List.contains_iff_mem.mpr z] at hp; cases hp)

abbrev qL : List Nat := [17, 18, 19, 20, 21, 22, 23, 24, 26, 31, 57, 58, 59, 60, 61, 62, 64, 65, 66, 67, 68, 69, 70, 71, 72, 73]
abbrev qP : List (Nat × Int) := [(16, 9), (16, 10), (16, 11), (45, 3), (45, 4), (45, 5), (63, 0), (63, 1), (63, 2), (63, 3)]
/-- the state of the component is w -/
def qC (σ : aW) (w : Int → Int) (s : aW) : Prop := (∀ p k, 0 ≤ p → p < σ 96 6 → 0 ≤ k → k < σ 103 p → s 64 ((2 * p + 0) * 60 + k) = qU0 w p k ∧ s 64 ((2 * p + 1) * 60 + k) = qU1 w p k) ∧ (s 63 0 = w 2532 ∧ s 63 1 = w 2533 ∧ s 63 2 = w 2534 ∧ s 63 3 = w 2535) ∧ (∀ h, 0 ≤ h → h < 16 → s 66 h = w (2480 + h) ∧ (¬ w (2480 + h) = 0 → s 67 h = w (2496 + h)) ∧ s 68 h = w (2400 + h) ∧ s 69 h = w (2416 + h) ∧ s 70 h = w (2432 + h) ∧ s 71 h = w (2448 + h) ∧ s 72 h = w (2464 + h)) ∧ (∀ p, 0 ≤ p → p < 20 → s 65 p = w (2512 + p)) ∧ (∀ i, 0 ≤ i → i < 6 → s 73 i = w (2536 + i))
theorem c12a {d : Nat} {Q : aQ} {σ s0 : aW} {w : Int → Int} {l : List rRu} (hI : qI σ) (hR : rSu σ l) (hG : Fg qL qP σ s0) (hC : qC σ w s0) (hB : qB σ w) (hF : IFc s0)
    (k : ∀ s, Fg [17, 18, 19, 20, 21, 22, 23, 24, 26, 31, 61, 62] [(16, 9), (16, 10), (16, 11)] s0 s → qY σ l w s → IFc s → Yx (d + 5) cd12 0 Q 25 [vr 56, vr 63, vi (qSd σ l w), vt, vt, vt, vt] [] s) : aEv (d + 5) true 12 [vr 56, vr 63] s0 Q := by
  have hn := hI.1.1
  unfold Nn at hn
  obtain ⟨v1, ⟨v2, v3, v4, v5⟩, v6, v7, v8⟩ := hC
  obtain ⟨u1, ⟨u2, u3, u4, u5⟩, u6⟩ := hB
  obtain ⟨a1, a2, a3, a4, a5⟩ := hI.2.1
  have a6 := a5 (w 2532) u2 (by omega)
  have hN0 : INet s0 := INet_k hG (by decide) hI.1
  have e43 : s0 43 = σ 43 := Fg_k hG (by decide) (by decide)
  have e44 : s0 44 = σ 44 := Fg_k hG (by decide) (by decide)
  have eR : wRes s0 (qA σ w) (qD σ l w) = wRes σ (qA σ w) (qD σ l w) := by
    have g := fN_g hG (by decide) (by decide) (by decide) (by decide) (by decide)
    exact (wRes_c g.1 g.2.2.1 g.2.2.2).1
  have e6 : s0 96 6 = σ 96 6 := Fg_kq hG (by decide) (by decide)
  have e7 : s0 96 7 = σ 96 7 := Fg_kq hG (by decide) (by decide)
  have eA : qA σ w = σ 114 (w 2532) := rfl
  have q0 := qE_0 (σ := σ) (w := w)
  have hR0 : rSu s0 l := rSu_k hG (by decide) hR
  refine e12 (b12_0 ?_)
  refine c13 (a := qA σ w) (e := qE σ w (-1)) hN0 Fg_r ⟨by rw [e43, v2]; omega, by omega, by rw [e43]; omega, by rw [e43]; omega, by rw [e43]; omega⟩ (by rw [e43, e44, v2]; exact a6.1.symm) (by rw [eA]; exact a6.2) ⟨q0.1, by rw [v2]; exact q0.2.1, by rw [v3]; exact q0.2.2.1, by rw [v4]; exact q0.2.2.2.1, q0.2.2.2.2⟩ hR0 (fun z1 z2 z3 => ?_) (fun s1 f1 g1 g2 g3 g4 g5 => ⟨rfl, b12_5 ?_⟩)
  · have := hF.2 z1
    rw [z2, z3] at this
    exact this
  have hR1 : rSu s1 l := rSu_k f1 (by decide) hR0
  obtain ⟨r1, r2, r3, r4, r5⟩ := hR1
  refine c85 (l := l) (e := qE σ w (-1)) (by unfold r32; omega) (by unfold r32; omega) r1 r2 r3 r4 r5 g5 (fun s2 f2 => ⟨qSd σ l w, rfl, b12_19_1 ?_⟩)
  have f12 : Fg [17, 18, 19, 20, 21, 22, 23, 24, 26, 31] [(16, 9), (16, 10), (16, 11)] s0 s2 := Fg_t f1 (Fg_F (Fr_s f2 (by decide)))
  have hR2 : rSu s2 l := rSu_k f12 (by decide) hR0
  have e11 : s2 11 = σ 11 := (Fg_k f12 (by decide) (by decide)).trans (Fg_k hG (by decide) (by decide))
  have e12 : s2 12 = σ 12 := (Fg_k f12 (by decide) (by decide)).trans (Fg_k hG (by decide) (by decide))
  have e68 : s2 68 = s0 68 := Fg_k f12 (by decide) (by decide)
  have e26 : s2 26 = s1 26 := f2 26 (by decide)
  have eH : s2 1 2 = σ 96 7 := ((Fg_kq f12 (k := 1) (i := 2) (by decide) (by decide)).trans (Fg_kq hG (by decide) (by decide))).trans hn.2.2.2.2.2.2.1
  refine c14 (l := l) (e := fun h => qE σ w h) (H := σ 96 7) ⟨eH, by omega, by omega⟩ hR2 (fun h h0 h1 => ?_) (fun s3 f3 g6 => ⟨rfl, k s3 ?_ ⟨fun p p0 p1 => ?_, fun h h0 h1 => ?_, fun p h p0 p1 h0 h1 => ?_, g6⟩ ?_⟩)
  · have hh := hI.1.2.2.2.2 h h0 h1
    unfold Nh at hh
    have q := qE_e (σ := σ) (w := w) h0
    refine ⟨fun k k0 k1 => ?_, ?_, ?_, ?_⟩
    · rw [e26, g5 k k0 (by omega)]
      exact (q.1 k k0 k1).symm
    · rw [e11, hh.2.1]; exact q.2.1
    · rw [e12, hh.2.2.1]; exact q.2.2.1
    · rw [e68, (v6 h h0 (by omega)).2.2.1]; exact q.2.2.2
  · exact Fg_t (Fg_m f12 (by decide) (by decide)) (Fg_F (Fr_s f3 (by decide)))
  · rw [f3 17 (by decide), f2 17 (by decide), g1.1 p p0 (by omega)]
    unfold qf
    rw [← eR]
    rfl
  · rw [f3 19 (by decide), f2 19 (by decide), (g1.2.1 h h0 (by omega)).2]
    unfold qg
    rw [← eR]
    rfl
  · rw [f3 20 (by decide), f2 20 (by decide), g1.2.2 p h p0 (by omega) h0 (by omega)]
    unfold qs
    rw [← eR]
    rfl
  · have f13 : Fg [26, 31, 61, 62] [] s1 s3 := Fg_t (Fg_F (Fr_s f2 (by decide))) (Fg_F (Fr_s f3 (by decide)))
    refine IFc_k f13 (by decide) ?_
    have n0 := fN_g f1 (by decide) (by decide) (by decide) (by decide) (by decide)
    exact IFc_n g1 n0 rfl rfl rfl rfl g2 g3 g4
/-- behind moving, heating and filling the pipes that go out -/
def qZ (σ : aW) (l : List rRu) (w : Int → Int) (s3 s : aW) : Prop := (∀ n, 0 ≤ n → n < 12 → s 57 n = qN σ l w n ∧ s 58 n = qWo σ l w n ∧ s 59 n = qB0 σ l w n ∧ s 60 n = qNo σ l w n) ∧ (∀ p, 0 ≤ p → p < σ 96 6 → s 65 p = qf σ l w p) ∧ (∀ p, σ 96 6 ≤ p → s 65 p = s3 65 p) ∧ (s 63 1 = w 2533 + hPu σ (w 2532) (w 2533) (qX σ l w) ∧ s 63 2 = (if ¬ qN σ l w 0 = 0 then qB0 σ l w 0 / (100 * qN σ l w 0) else 30) ∧ s 63 3 = (if ¬ qN σ l w 0 = 0 then qWo σ l w 0 / qN σ l w 0 else -1) ∧ s 73 0 = w 2536 + (qX σ l w + hIn σ (w 2532) (w 2533) (qX σ l w) - hMi σ (w 2532) (w 2533) (qX σ l w) - hLe σ (w 2532) (w 2533) (qX σ l w)) ∧ s 73 1 = w 2537 + hMi σ (w 2532) (w 2533) (qX σ l w) ∧ s 73 4 = w 2540 + hCo σ (w 2532) (w 2533) (qX σ l w)) ∧ (∀ p k, 0 ≤ p → p < σ 96 6 → 0 ≤ k → k < σ 103 p → s 64 ((2 * p + 0) * 60 + k) = qV0 σ l w p k) ∧ (∀ p, 0 ≤ p → p < σ 96 6 → hShf (s3 64) (s 64) ((2 * p + 1) * 60) (σ 103 p) (qm σ l w p) (¬ 0 < qf σ l w p))
theorem c12b {d : Nat} {Q : aQ} {σ s3 : aW} {w : Int → Int} {l : List rRu} (hI : qI σ) (hG : Fg qL qP σ s3) (hC : qC σ w s3) (hB : qB σ w) (hY : qY σ l w s3)
    (k : ∀ s, Fg [57, 58, 59, 60, 64, 65] [(63, 1), (63, 2), (63, 3), (73, 0), (73, 1), (73, 4), (45, 3), (45, 4), (45, 5)] s3 s → qZ σ l w s3 s → Yx (d + 5) cd12 0 Q 42 [vr 56, vr 63, vt, vt, vt, vt, vt] [] s) : Yx (d + 5) cd12 0 Q 25 [vr 56, vr 63, vi (qSd σ l w), vt, vt, vt, vt] [] s3 := by
  have hn := hI.1.1
  unfold Nn at hn
  obtain ⟨v1, ⟨v2, v3, v4, v5⟩, v6, v7, v8⟩ := hC
  have hB' := hB
  obtain ⟨u1, ⟨u2, u3, u4, u5⟩, u6⟩ := hB
  obtain ⟨y1, y2, y3, y4⟩ := hY
  have e2 : s3 2 = σ 2 := Fg_k hG (by decide) (by decide)
  have e3 : s3 3 = σ 3 := Fg_k hG (by decide) (by decide)
  have e4 : s3 4 = σ 4 := Fg_k hG (by decide) (by decide)
  have e11 : s3 1 1 = σ 96 6 := (Fg_kq hG (k := 1) (i := 1) (by decide) (by decide)).trans hn.2.2.2.1
  have hp : ∀ p, 0 ≤ p → p < σ 96 6 → s3 2 p = σ 101 p ∧ s3 3 p = σ 102 p ∧ s3 4 p = σ 103 p ∧ s3 17 p = qf σ l w p ∧ hm (s3 17) p = qm σ l w p ∧ hFr (s3 17) (s3 2) (s3 3) p = qFr σ l w p ∧ hTo (s3 17) (s3 2) (s3 3) p = qTo σ l w p := fun p p0 p1 => by
    have h := hI.1.2.1 p p0 p1
    unfold Np at h
    have a : s3 2 p = σ 101 p := by rw [e2]; exact h.1
    have b : s3 3 p = σ 102 p := by rw [e3]; exact h.2.1
    have c : s3 4 p = σ 103 p := by rw [e4]; exact h.2.2.1
    have e := y1 p p0 p1
    refine ⟨a, b, c, e, ?_, ?_, ?_⟩
    · unfold qm hm; rw [e]
    · unfold qFr hFr; rw [e, a, b]
    · unfold qTo hTo; rw [e, a, b]
  have eb : ∀ p, 0 ≤ p → p < σ 96 6 → 0 ≤ s3 2 p ∧ s3 2 p < 12 ∧ 0 ≤ s3 3 p ∧ s3 3 p < 12 ∧ hm (s3 17) p ≤ s3 4 p ∧ s3 4 p ≤ 60 := fun p p0 p1 => by
    have h := hI.1.2.1 p p0 p1
    unfold Np at h
    have a := hp p p0 p1
    have q := qp hI l w p0 p1
    rw [a.1, a.2.1, a.2.2.1, a.2.2.2.2.1]
    omega
  refine b12_25 (c17 (P := σ 96 6) ⟨e11, by omega, by omega, eb, fun p k p0 p1 k0 k1 => ?_, fun p k p0 p1 k0 k1 => ?_⟩ (fun s4 f4 g4 => ⟨rfl, b12_30 ?_⟩))
  · rw [(hp p p0 p1).2.2.1] at k1
    have := (v1 p k p0 p1 k0 k1).1
    have := (u1 p k p0 p1 k0 k1).1
    unfold hUo
    omega
  · rw [(hp p p0 p1).2.2.1] at k1
    have := (v1 p k p0 p1 k0 k1).2
    have := (u1 p k p0 p1 k0 k1).2
    unfold hUo
    omega
  obtain ⟨m1, m2, m3, m4, m5⟩ := g4
  have cNi : ∀ n, hNi (s3 17) (s3 2) (s3 3) n (σ 96 6) = qNi σ l w n := fun n => hGi_c (fun q q0 q1 => ⟨(hp q q0 q1).2.2.2.2.2.2, (hp q q0 q1).2.2.2.2.1⟩)
  have cNo : ∀ n, hNo (s3 17) (s3 2) (s3 3) n (σ 96 6) = qNo σ l w n := fun n => hGi_c (fun q q0 q1 => ⟨(hp q q0 q1).2.2.2.2.2.1, (hp q q0 q1).2.2.2.2.1⟩)
  have cWo : ∀ n, hWo (s3 17) (s3 2) (s3 3) (s3 4) (hUo s3 0) n (σ 96 6) = qO0 σ l w n := fun n => sI_c (fun q q0 q1 => by
    have a := hp q q0 (by omega)
    have b := eb q q0 (by omega)
    show (if hTo (s3 17) (s3 2) (s3 3) q = n then hSO (s3 17) (s3 4) (hUo s3 0) q else 0) = (if qTo σ l w q = n then hSO (qf σ l w) (σ 103) (qU0 w) q else 0)
    rw [a.2.2.2.2.2.2, show hSO (s3 17) (s3 4) (hUo s3 0) q = hSO (qf σ l w) (σ 103) (qU0 w) q from hTk_c a.2.2.2.1 a.2.2.1 (by rw [a.2.2.2.1]) b.2.2.2.2.1 (fun j j0 j1 => (v1 q j q0 (by omega) j0 (by rw [← a.2.2.1]; exact j1)).1)])
  have cWb : ∀ n, hWb (s3 17) (s3 2) (s3 3) (s3 4) (hUo s3 1) n (σ 96 6) = qB0 σ l w n := fun n => sI_c (fun q q0 q1 => by
    have a := hp q q0 (by omega)
    have b := eb q q0 (by omega)
    show (if hFr (s3 17) (s3 2) (s3 3) q = n then hSB (s3 17) (s3 4) (hUo s3 1) q else 0) = (if qFr σ l w q = n then hSB (qf σ l w) (σ 103) (qU1 w) q else 0)
    rw [a.2.2.2.2.2.1, show hSB (s3 17) (s3 4) (hUo s3 1) q = hSB (qf σ l w) (σ 103) (qU1 w) q from hTk_c a.2.2.2.1 a.2.2.1 (by rw [a.2.2.2.1]) b.2.2.2.2.1 (fun j j0 j1 => (v1 q j q0 (by omega) j0 (by rw [← a.2.2.1]; exact j1)).2)])
  have z0 := (qNn hI l w 0).2.2.2
  have n4 : ∀ n, 0 ≤ n → n < 12 → s4 57 n = qN σ l w n ∧ s4 58 n = qO0 σ l w n ∧ s4 59 n = qB0 σ l w n := fun n n0 n1 => by
    obtain ⟨x1, x2, x3⟩ := m1 n n0 n1
    rw [cNi, cNo] at x1
    rw [cWo] at x2
    rw [cWb] at x3
    refine ⟨?_, x2, x3⟩
    rw [x1]
    unfold qN
    by_cases z : n = 0
    · rw [if_pos z, if_pos z, z, z0]; omega
    · rw [if_neg z, if_neg z]; omega
  have hG4 : Fg qL qP σ s4 := Fg_t hG (Fg_F (Fr_s f4 (by decide)))
  have nb := qN_b hI l w 0
  have bb := (qW0 hI l hB' 0).2
  have eN : qN σ l w 0 = qNo σ l w 0 := if_pos rfl
  have n40 := n4 0 (by decide) (by decide)
  have sd := qSd_b (σ := σ) (l := l) (w := w)
  have b4 : s4 63 = s3 63 := f4 63 (by decide)
  have t4 : s4 73 = s3 73 := f4 73 (by decide)
  have tb : ∀ i, 0 ≤ i → i < 6 → 0 ≤ s4 73 i ∧ s4 73 i ≤ 1000000000000000000 := fun i i0 i1 => by
    rw [t4, v8 i i0 i1]
    have := u6.2.2 i i0 i1
    omega
  have e120 : s4 120 = σ 120 := Fg_k hG4 (by decide) (by decide)
  refine c18 (t := w 2532) (z := w 2533) (IDp_k hG4 (by decide) hI.2.2.2.1) (IBo_k hG4 (by decide) hI.2.2.2.2.1) (IOf_k hG4 (by decide) hI.2.2.1) (by rw [b4]; exact v2) (by rw [b4]; exact v3) (by rw [e120]; exact u3) (by rw [e120]; exact u2) (by omega) (by omega) (by omega) (by rw [n40.1]; omega) (by rw [n40.1, n40.2.2]; omega) (fun i hi => tb i (by omega) (by omega)) (fun s5 x ex hx f5 h58 hb1 hb2 hb3 ht0 ht1 ht4 => ⟨rfl, b12_36 ?_⟩)
  rw [n40.1, n40.2.2] at ex
  have ex : x = qX σ l w := ex
  have hq : ∀ k, (k = 50 ∨ k = 112 ∨ k = 113 ∨ k = 115 ∨ k = 125) → s4 k = σ k := fun k hk => by
    rcases hk with z | z | z | z | z <;> rw [z] <;> exact Fg_k hG4 (by decide) (by decide)
  have hq6 : ∀ i, (i = 8 ∨ i = 14 ∨ i = 42 ∨ i = 43 ∨ i = 44) → s4 96 i = σ 96 i := fun k hk => by
    rcases hk with z | z | z | z | z <;> rw [z] <;> exact Fg_kq hG4 (by decide) (by decide)
  have eLv : hLv s4 (w 2532) (w 2533) = hLv σ (w 2532) (w 2533) := by
    unfold hLv
    rw [hq6 44 (by omega), hq6 42 (by omega), hq6 43 (by omega), hq 125 (by omega)]
  have eIn : hIn s4 (w 2532) (w 2533) x = hIn σ (w 2532) (w 2533) x := by unfold hIn; rw [eLv]
  have eMi : hMi s4 (w 2532) (w 2533) x = hMi σ (w 2532) (w 2533) x := by unfold hMi; rw [eIn, hq 115 (by omega)]
  have eLe : hLe s4 (w 2532) (w 2533) x = hLe σ (w 2532) (w 2533) x := by unfold hLe; rw [eIn, eMi, hq 50 (by omega), hq 112 (by omega), hq6 8 (by omega)]
  have eCo : hCo s4 (w 2532) (w 2533) x = hCo σ (w 2532) (w 2533) x := by unfold hCo; rw [eIn, eMi, hq 50 (by omega), hq 112 (by omega), hq 113 (by omega), hq6 8 (by omega), hq6 14 (by omega)]
  have ePu : hPu s4 (w 2532) (w 2533) x = hPu σ (w 2532) (w 2533) x := by unfold hPu; rw [eIn, eLe]
  have eMd : hMd s4 (w 2532) (w 2533) x = hMd σ (w 2532) (w 2533) x := by unfold hMd; rw [eIn, eLe, ePu]
  rw [n40.2.2, eMd, ex] at h58
  rw [n40.1, n40.2.2, eMd, ex] at hb3
  rw [n40.1, n40.2.2] at hb2
  rw [ePu, ex] at hb1
  rw [eIn, eMi, eLe, ex] at ht0
  rw [eMi, ex] at ht1
  rw [eCo, ex] at ht4
  rw [t4] at ht0 ht1 ht4
  have w50 : qWo σ l w 0 = qB0 σ l w 0 + hMd σ (w 2532) (w 2533) (qX σ l w) := if_pos rfl
  rw [← w50] at hb3
  have n5 : ∀ n, 0 ≤ n → n < 12 → s5 57 n = qN σ l w n ∧ s5 58 n = qWo σ l w n ∧ s5 59 n = qB0 σ l w n := fun n n0 n1 => by
    have a := n4 n n0 n1
    refine ⟨?_, ?_, ?_⟩
    · rw [f5 57 n (by decide) (by simp)]; exact a.1
    · by_cases z : n = 0
      · rw [z, h58, w50]
      · rw [f5 58 n (by decide) (by simp; omega), a.2.1]
        unfold qWo
        rw [if_neg z]
    · rw [f5 59 n (by decide) (by simp)]; exact a.2.2
  have c5 : ∀ k, k = 2 ∨ k = 3 ∨ k = 4 ∨ k = 17 ∨ k = 1 → s5 k = s3 k := fun k hk => by
    rcases hk with z | z | z | z | z <;> rw [z] <;> exact (Fg_k f5 (by decide) (by decide)).trans (f4 _ (by decide))
  have u5 : s5 64 = s4 64 := Fg_k f5 (by decide) (by decide)
  refine c21 (w := 0) (P := σ 96 6) (nd := qFr σ l w) (W := qWo σ l w) (Or.inl rfl) ⟨by rw [c5 1 (by omega)]; exact e11, by omega, by omega⟩ (fun p p0 p1 => by rw [c5 2 (by omega), c5 3 (by omega), c5 4 (by omega), c5 17 (by omega)]; exact eb p p0 p1) (fun p p0 p1 => by rw [if_pos rfl, c5 2 (by omega), c5 3 (by omega), c5 17 (by omega)]; exact (hp p p0 p1).2.2.2.2.2.1.symm) (fun n n0 n1 => by rw [if_pos rfl]; exact (n5 n n0 n1).2.1.symm) (fun p p0 p1 fz => ?_) (fun s6 f6 g6 => ⟨rfl, k s6 ?_ ?_⟩)
  · rw [c5 17 (by omega), (hp p p0 p1).2.2.2.1] at fz
    have q := qp hI l w p0 p1
    rw [(n5 (qFr σ l w p) (by omega) (by omega)).1]
    have a := (qN_p hI l w p0 p1 fz).1
    have b := qN_b hI l w (qFr σ l w p)
    have c := qWob hI l hB' (qFr σ l w p)
    omega
  · exact Fg_t (Fg_t (Fg_F (Fr_s f4 (by decide))) (Fg_m f5 (by decide) (by decide))) (Fg_F (Fr_s f6 (by decide)))
  · obtain ⟨i1, i2, i3⟩ := g6
    have hm6 : ∀ p, 0 ≤ p → p < σ 96 6 → hm (s5 17) p = qm σ l w p ∧ s5 4 p = σ 103 p ∧ s5 17 p = qf σ l w p := fun p p0 p1 => by
      rw [c5 17 (by omega), c5 4 (by omega)]
      exact ⟨(hp p p0 p1).2.2.2.2.1, (hp p p0 p1).2.2.1, (hp p p0 p1).2.2.2.1⟩
    have h60 : ∀ n i, i ≤ σ 96 6 → hGi (qFr σ l w) (hm (s5 17)) n i = hGi (qFr σ l w) (qm σ l w) n i := fun n i hi => hGi_c (fun q q0 q1 => ⟨rfl, (hm6 q q0 (by omega)).1⟩)
    have epl : ∀ p j, 0 ≤ p → p < σ 96 6 → hPl (0 < s5 17 p ↔ (0 : Int) = 0) (s5 4 p) (hm (s5 17) p) j = (if 0 < qf σ l w p then hm (qf σ l w) p - 1 - j else σ 103 p - hm (qf σ l w) p + j) := fun p j p0 p1 => by
      have a := hm6 p p0 p1
      unfold hPl
      rw [a.1, a.2.1, a.2.2]
      simp only [iff_true]
      rfl
    have b6 : s6 63 = s5 63 := f6 63 (by decide)
    have t6 : s6 73 = s5 73 := f6 73 (by decide)
    refine ⟨fun n n0 n1 => ?_, fun p p0 p1 => ?_, fun p p0 => ?_, ⟨?_, ?_, ?_, ?_, ?_, ?_⟩, fun p j p0 p1 j0 j1 => ?_, fun p p0 p1 => ?_⟩
    · have a := n5 n n0 n1
      rw [f6 57 (by decide), f6 58 (by decide), f6 59 (by decide)]
      refine ⟨a.1, a.2.1, a.2.2, ?_⟩
      rw [i1 n n0 n1, h60 n _ (Int.le_refl _)]
      rfl
    · rw [f6 65 (by decide), Fg_k f5 (k := 65) (by decide) (by decide), m2 p p0 p1]
      exact y1 p p0 p1
    · rw [f6 65 (by decide), Fg_k f5 (k := 65) (by decide) (by decide), m3 p p0]
    · rw [b6]; exact hb1
    · rw [b6]; exact hb2
    · rw [b6]; exact hb3
    · have := v8 0 (by decide) (by decide)
      rw [t6, ht0, this]; rfl
    · have := v8 1 (by decide) (by decide)
      rw [t6, ht1, this]; rfl
    · have := v8 4 (by decide) (by decide)
      rw [t6, ht4, this]; rfl
    · have q := qp hI l w p0 p1
      refine hFl_of (X0 := s3 64) (X1 := s4 64) (fun j j0 j1 => (v1 p j p0 p1 j0 j1).1) ?_ (fun j j0 j1 => ?_) (fun k k0 k1 hk => ?_) j0 j1 q.2.1
      · have := (m4 p p0 p1).1
        have a := hp p p0 p1
        rw [a.2.2.1, a.2.2.2.2.1, a.2.2.2.1] at this
        exact this
      · have a := i2 p p0 p1 j j0 (by rw [(hm6 p p0 p1).1]; exact j1)
        rw [epl p j p0 p1, h60 _ p (by omega), (n5 (qFr σ l w p) (by omega) (by omega)).1] at a
        exact a
      · rw [i3 ((2 * p + 0) * 60 + k) (fun p' j' p0' p1' j0' j1' e => ?_), u5]
        have r := hPl_r (r := 0 < s5 17 p' ↔ (0 : Int) = 0) (L := s5 4 p') (m := hm (s5 17) p') (k := j') (by rw [(hm6 p' p0' p1').1, (hm6 p' p0' p1').2.1]; exact (qp hI l w p0' p1').2.1) (by rw [(hm6 p' p0' p1').2.1]; exact (qp hI l w p0' p1').2.2.2.1) j0' j1'
        rw [(hm6 p' p0' p1').2.1] at r
        have r2 := (qp hI l w p0' p1').2.2.2.1
        rw [(hm6 p' p0' p1').2.1] at e
        have ep : p' = p := by omega
        subst ep
        have e' := epl p' j' p0 p1
        rw [(hm6 p' p0' p1').2.1] at e'
        rw [(hm6 p' p0' p1').1] at j1'
        refine hk j' j0' j1' ?_
        rw [← e']
        omega
    · have := (m4 p p0 p1).2
      have a := hp p p0 p1
      have q := qp hI l w p0 p1
      rw [a.2.2.1, a.2.2.2.2.1, a.2.2.2.1] at this
      refine hShf_c q.1 this (fun j j0 j1 => ?_)
      rw [i3 ((2 * p + 1) * 60 + j) (fun p' j' p0' p1' j0' j1' e => ?_), u5]
      have r := hPl_r (r := 0 < s5 17 p' ↔ (0 : Int) = 0) (L := s5 4 p') (m := hm (s5 17) p') (k := j') (by rw [(hm6 p' p0' p1').1, (hm6 p' p0' p1').2.1]; exact (qp hI l w p0' p1').2.1) (by rw [(hm6 p' p0' p1').2.1]; exact (qp hI l w p0' p1').2.2.2.1) j0' j1'
      have r2 := (qp hI l w p0' p1').2.2.2.1
      rw [(hm6 p' p0' p1').2.1] at r e
      omega

abbrev qLl : List Nat := [17, 18, 19, 20, 21, 22, 23, 24, 26, 31, 57, 58, 59, 60, 61, 62, 75, 76, 77, 78, 79, 80, 81, 82, 83, 84, 94, 95]
abbrev qPl : List (Nat × Int) := [(16, 9), (16, 10), (16, 11), (45, 3), (45, 4), (45, 5), (74, 0), (74, 1), (74, 2), (74, 3), (0, 15)]
/-- the state of the component is w -/
def qCl (σ : aW) (w : Int → Int) (s : aW) : Prop := (∀ p k, 0 ≤ p → p < σ 96 6 → 0 ≤ k → k < σ 103 p → s 75 ((2 * p + 0) * 60 + k) = qU0 w p k ∧ s 75 ((2 * p + 1) * 60 + k) = qU1 w p k) ∧ (s 74 0 = w 2532 ∧ s 74 1 = w 2533 ∧ s 74 2 = w 2534 ∧ s 74 3 = w 2535) ∧ (∀ h, 0 ≤ h → h < 16 → s 77 h = w (2480 + h) ∧ (¬ w (2480 + h) = 0 → s 78 h = w (2496 + h)) ∧ s 79 h = w (2400 + h) ∧ s 80 h = w (2416 + h) ∧ s 81 h = w (2432 + h) ∧ s 82 h = w (2448 + h) ∧ s 83 h = w (2464 + h)) ∧ (∀ p, 0 ≤ p → p < 20 → s 76 p = w (2512 + p)) ∧ (∀ i, 0 ≤ i → i < 6 → s 84 i = w (2536 + i))
theorem c12al {d : Nat} {Q : aQ} {σ s0 : aW} {w : Int → Int} {l : List rRu} (hI : qI σ) (hR : rSu σ l) (hG : Fg qLl qPl σ s0) (hC : qCl σ w s0) (hB : qB σ w) (hF : IFc s0)
    (k : ∀ s, Fg [17, 18, 19, 20, 21, 22, 23, 24, 26, 31, 61, 62] [(16, 9), (16, 10), (16, 11)] s0 s → qY σ l w s → IFc s → Yx (d + 5) cd12 0 Q 25 [vr 56, vr 74, vi (qSd σ l w), vt, vt, vt, vt] [] s) : aEv (d + 5) true 12 [vr 56, vr 74] s0 Q := by
  have hn := hI.1.1
  unfold Nn at hn
  obtain ⟨v1, ⟨v2, v3, v4, v5⟩, v6, v7, v8⟩ := hC
  obtain ⟨u1, ⟨u2, u3, u4, u5⟩, u6⟩ := hB
  obtain ⟨a1, a2, a3, a4, a5⟩ := hI.2.1
  have a6 := a5 (w 2532) u2 (by omega)
  have hN0 : INet s0 := INet_k hG (by decide) hI.1
  have e43 : s0 43 = σ 43 := Fg_k hG (by decide) (by decide)
  have e44 : s0 44 = σ 44 := Fg_k hG (by decide) (by decide)
  have eR : wRes s0 (qA σ w) (qD σ l w) = wRes σ (qA σ w) (qD σ l w) := by
    have g := fN_g hG (by decide) (by decide) (by decide) (by decide) (by decide)
    exact (wRes_c g.1 g.2.2.1 g.2.2.2).1
  have e6 : s0 96 6 = σ 96 6 := Fg_kq hG (by decide) (by decide)
  have e7 : s0 96 7 = σ 96 7 := Fg_kq hG (by decide) (by decide)
  have eA : qA σ w = σ 114 (w 2532) := rfl
  have q0 := qE_0 (σ := σ) (w := w)
  have hR0 : rSu s0 l := rSu_k hG (by decide) hR
  refine e12l (b12l_0 ?_)
  refine c13l (a := qA σ w) (e := qE σ w (-1)) hN0 Fg_r ⟨by rw [e43, v2]; omega, by omega, by rw [e43]; omega, by rw [e43]; omega, by rw [e43]; omega⟩ (by rw [e43, e44, v2]; exact a6.1.symm) (by rw [eA]; exact a6.2) ⟨q0.1, by rw [v2]; exact q0.2.1, by rw [v3]; exact q0.2.2.1, by rw [v4]; exact q0.2.2.2.1, q0.2.2.2.2⟩ hR0 (fun z1 z2 z3 => ?_) (fun s1 f1 g1 g2 g3 g4 g5 => ⟨rfl, b12l_5 ?_⟩)
  · have := hF.2 z1
    rw [z2, z3] at this
    exact this
  have hR1 : rSu s1 l := rSu_k f1 (by decide) hR0
  obtain ⟨r1, r2, r3, r4, r5⟩ := hR1
  refine c85 (l := l) (e := qE σ w (-1)) (by unfold r32; omega) (by unfold r32; omega) r1 r2 r3 r4 r5 g5 (fun s2 f2 => ⟨qSd σ l w, rfl, b12l_19_1 ?_⟩)
  have f12 : Fg [17, 18, 19, 20, 21, 22, 23, 24, 26, 31] [(16, 9), (16, 10), (16, 11)] s0 s2 := Fg_t f1 (Fg_F (Fr_s f2 (by decide)))
  have hR2 : rSu s2 l := rSu_k f12 (by decide) hR0
  have e11 : s2 11 = σ 11 := (Fg_k f12 (by decide) (by decide)).trans (Fg_k hG (by decide) (by decide))
  have e12 : s2 12 = σ 12 := (Fg_k f12 (by decide) (by decide)).trans (Fg_k hG (by decide) (by decide))
  have e79 : s2 79 = s0 79 := Fg_k f12 (by decide) (by decide)
  have e26 : s2 26 = s1 26 := f2 26 (by decide)
  have eH : s2 1 2 = σ 96 7 := ((Fg_kq f12 (k := 1) (i := 2) (by decide) (by decide)).trans (Fg_kq hG (by decide) (by decide))).trans hn.2.2.2.2.2.2.1
  refine c14l (l := l) (e := fun h => qE σ w h) (H := σ 96 7) ⟨eH, by omega, by omega⟩ hR2 (fun h h0 h1 => ?_) (fun s3 f3 g6 => ⟨rfl, k s3 ?_ ⟨fun p p0 p1 => ?_, fun h h0 h1 => ?_, fun p h p0 p1 h0 h1 => ?_, g6⟩ ?_⟩)
  · have hh := hI.1.2.2.2.2 h h0 h1
    unfold Nh at hh
    have q := qE_e (σ := σ) (w := w) h0
    refine ⟨fun k k0 k1 => ?_, ?_, ?_, ?_⟩
    · rw [e26, g5 k k0 (by omega)]
      exact (q.1 k k0 k1).symm
    · rw [e11, hh.2.1]; exact q.2.1
    · rw [e12, hh.2.2.1]; exact q.2.2.1
    · rw [e79, (v6 h h0 (by omega)).2.2.1]; exact q.2.2.2
  · exact Fg_t (Fg_m f12 (by decide) (by decide)) (Fg_F (Fr_s f3 (by decide)))
  · rw [f3 17 (by decide), f2 17 (by decide), g1.1 p p0 (by omega)]
    unfold qf
    rw [← eR]
    rfl
  · rw [f3 19 (by decide), f2 19 (by decide), (g1.2.1 h h0 (by omega)).2]
    unfold qg
    rw [← eR]
    rfl
  · rw [f3 20 (by decide), f2 20 (by decide), g1.2.2 p h p0 (by omega) h0 (by omega)]
    unfold qs
    rw [← eR]
    rfl
  · have f13 : Fg [26, 31, 61, 62] [] s1 s3 := Fg_t (Fg_F (Fr_s f2 (by decide))) (Fg_F (Fr_s f3 (by decide)))
    refine IFc_k f13 (by decide) ?_
    have n0 := fN_g f1 (by decide) (by decide) (by decide) (by decide) (by decide)
    exact IFc_n g1 n0 rfl rfl rfl rfl g2 g3 g4
/-- behind moving, heating and filling the pipes that go out -/
def qZl (σ : aW) (l : List rRu) (w : Int → Int) (s3 s : aW) : Prop := (∀ n, 0 ≤ n → n < 12 → s 57 n = qN σ l w n ∧ s 58 n = qWo σ l w n ∧ s 59 n = qB0 σ l w n ∧ s 60 n = qNo σ l w n) ∧ (∀ p, 0 ≤ p → p < σ 96 6 → s 76 p = qf σ l w p) ∧ (∀ p, σ 96 6 ≤ p → s 76 p = s3 76 p) ∧ (s 74 1 = w 2533 + hPu σ (w 2532) (w 2533) (qX σ l w) ∧ s 74 2 = (if ¬ qN σ l w 0 = 0 then qB0 σ l w 0 / (100 * qN σ l w 0) else 30) ∧ s 74 3 = (if ¬ qN σ l w 0 = 0 then qWo σ l w 0 / qN σ l w 0 else -1) ∧ s 84 0 = w 2536 + (qX σ l w + hIn σ (w 2532) (w 2533) (qX σ l w) - hMi σ (w 2532) (w 2533) (qX σ l w) - hLe σ (w 2532) (w 2533) (qX σ l w)) ∧ s 84 1 = w 2537 + hMi σ (w 2532) (w 2533) (qX σ l w) ∧ s 84 4 = w 2540 + hCo σ (w 2532) (w 2533) (qX σ l w)) ∧ (∀ p k, 0 ≤ p → p < σ 96 6 → 0 ≤ k → k < σ 103 p → s 75 ((2 * p + 0) * 60 + k) = qV0 σ l w p k) ∧ (∀ p, 0 ≤ p → p < σ 96 6 → hShf (s3 75) (s 75) ((2 * p + 1) * 60) (σ 103 p) (qm σ l w p) (¬ 0 < qf σ l w p))
theorem c12bl {d : Nat} {Q : aQ} {σ s3 : aW} {w : Int → Int} {l : List rRu} (hI : qI σ) (hG : Fg qLl qPl σ s3) (hC : qCl σ w s3) (hB : qB σ w) (hY : qY σ l w s3)
    (k : ∀ s, Fg [57, 58, 59, 60, 75, 76] [(74, 1), (74, 2), (74, 3), (84, 0), (84, 1), (84, 4), (45, 3), (45, 4), (45, 5)] s3 s → qZl σ l w s3 s → Yx (d + 5) cd12 0 Q 42 [vr 56, vr 74, vt, vt, vt, vt, vt] [] s) : Yx (d + 5) cd12 0 Q 25 [vr 56, vr 74, vi (qSd σ l w), vt, vt, vt, vt] [] s3 := by
  have hn := hI.1.1
  unfold Nn at hn
  obtain ⟨v1, ⟨v2, v3, v4, v5⟩, v6, v7, v8⟩ := hC
  have hB' := hB
  obtain ⟨u1, ⟨u2, u3, u4, u5⟩, u6⟩ := hB
  obtain ⟨y1, y2, y3, y4⟩ := hY
  have e2 : s3 2 = σ 2 := Fg_k hG (by decide) (by decide)
  have e3 : s3 3 = σ 3 := Fg_k hG (by decide) (by decide)
  have e4 : s3 4 = σ 4 := Fg_k hG (by decide) (by decide)
  have e11 : s3 1 1 = σ 96 6 := (Fg_kq hG (k := 1) (i := 1) (by decide) (by decide)).trans hn.2.2.2.1
  have hp : ∀ p, 0 ≤ p → p < σ 96 6 → s3 2 p = σ 101 p ∧ s3 3 p = σ 102 p ∧ s3 4 p = σ 103 p ∧ s3 17 p = qf σ l w p ∧ hm (s3 17) p = qm σ l w p ∧ hFr (s3 17) (s3 2) (s3 3) p = qFr σ l w p ∧ hTo (s3 17) (s3 2) (s3 3) p = qTo σ l w p := fun p p0 p1 => by
    have h := hI.1.2.1 p p0 p1
    unfold Np at h
    have a : s3 2 p = σ 101 p := by rw [e2]; exact h.1
    have b : s3 3 p = σ 102 p := by rw [e3]; exact h.2.1
    have c : s3 4 p = σ 103 p := by rw [e4]; exact h.2.2.1
    have e := y1 p p0 p1
    refine ⟨a, b, c, e, ?_, ?_, ?_⟩
    · unfold qm hm; rw [e]
    · unfold qFr hFr; rw [e, a, b]
    · unfold qTo hTo; rw [e, a, b]
  have eb : ∀ p, 0 ≤ p → p < σ 96 6 → 0 ≤ s3 2 p ∧ s3 2 p < 12 ∧ 0 ≤ s3 3 p ∧ s3 3 p < 12 ∧ hm (s3 17) p ≤ s3 4 p ∧ s3 4 p ≤ 60 := fun p p0 p1 => by
    have h := hI.1.2.1 p p0 p1
    unfold Np at h
    have a := hp p p0 p1
    have q := qp hI l w p0 p1
    rw [a.1, a.2.1, a.2.2.1, a.2.2.2.2.1]
    omega
  refine b12l_25 (c17l (P := σ 96 6) ⟨e11, by omega, by omega, eb, fun p k p0 p1 k0 k1 => ?_, fun p k p0 p1 k0 k1 => ?_⟩ (fun s4 f4 g4 => ⟨rfl, b12l_30 ?_⟩))
  · rw [(hp p p0 p1).2.2.1] at k1
    have := (v1 p k p0 p1 k0 k1).1
    have := (u1 p k p0 p1 k0 k1).1
    unfold hUol
    omega
  · rw [(hp p p0 p1).2.2.1] at k1
    have := (v1 p k p0 p1 k0 k1).2
    have := (u1 p k p0 p1 k0 k1).2
    unfold hUol
    omega
  obtain ⟨m1, m2, m3, m4, m5⟩ := g4
  have cNi : ∀ n, hNi (s3 17) (s3 2) (s3 3) n (σ 96 6) = qNi σ l w n := fun n => hGi_c (fun q q0 q1 => ⟨(hp q q0 q1).2.2.2.2.2.2, (hp q q0 q1).2.2.2.2.1⟩)
  have cNo : ∀ n, hNo (s3 17) (s3 2) (s3 3) n (σ 96 6) = qNo σ l w n := fun n => hGi_c (fun q q0 q1 => ⟨(hp q q0 q1).2.2.2.2.2.1, (hp q q0 q1).2.2.2.2.1⟩)
  have cWo : ∀ n, hWo (s3 17) (s3 2) (s3 3) (s3 4) (hUol s3 0) n (σ 96 6) = qO0 σ l w n := fun n => sI_c (fun q q0 q1 => by
    have a := hp q q0 (by omega)
    have b := eb q q0 (by omega)
    show (if hTo (s3 17) (s3 2) (s3 3) q = n then hSO (s3 17) (s3 4) (hUol s3 0) q else 0) = (if qTo σ l w q = n then hSO (qf σ l w) (σ 103) (qU0 w) q else 0)
    rw [a.2.2.2.2.2.2, show hSO (s3 17) (s3 4) (hUol s3 0) q = hSO (qf σ l w) (σ 103) (qU0 w) q from hTk_c a.2.2.2.1 a.2.2.1 (by rw [a.2.2.2.1]) b.2.2.2.2.1 (fun j j0 j1 => (v1 q j q0 (by omega) j0 (by rw [← a.2.2.1]; exact j1)).1)])
  have cWb : ∀ n, hWb (s3 17) (s3 2) (s3 3) (s3 4) (hUol s3 1) n (σ 96 6) = qB0 σ l w n := fun n => sI_c (fun q q0 q1 => by
    have a := hp q q0 (by omega)
    have b := eb q q0 (by omega)
    show (if hFr (s3 17) (s3 2) (s3 3) q = n then hSB (s3 17) (s3 4) (hUol s3 1) q else 0) = (if qFr σ l w q = n then hSB (qf σ l w) (σ 103) (qU1 w) q else 0)
    rw [a.2.2.2.2.2.1, show hSB (s3 17) (s3 4) (hUol s3 1) q = hSB (qf σ l w) (σ 103) (qU1 w) q from hTk_c a.2.2.2.1 a.2.2.1 (by rw [a.2.2.2.1]) b.2.2.2.2.1 (fun j j0 j1 => (v1 q j q0 (by omega) j0 (by rw [← a.2.2.1]; exact j1)).2)])
  have z0 := (qNn hI l w 0).2.2.2
  have n4 : ∀ n, 0 ≤ n → n < 12 → s4 57 n = qN σ l w n ∧ s4 58 n = qO0 σ l w n ∧ s4 59 n = qB0 σ l w n := fun n n0 n1 => by
    obtain ⟨x1, x2, x3⟩ := m1 n n0 n1
    rw [cNi, cNo] at x1
    rw [cWo] at x2
    rw [cWb] at x3
    refine ⟨?_, x2, x3⟩
    rw [x1]
    unfold qN
    by_cases z : n = 0
    · rw [if_pos z, if_pos z, z, z0]; omega
    · rw [if_neg z, if_neg z]; omega
  have hG4 : Fg qLl qPl σ s4 := Fg_t hG (Fg_F (Fr_s f4 (by decide)))
  have nb := qN_b hI l w 0
  have bb := (qW0 hI l hB' 0).2
  have eN : qN σ l w 0 = qNo σ l w 0 := if_pos rfl
  have n40 := n4 0 (by decide) (by decide)
  have sd := qSd_b (σ := σ) (l := l) (w := w)
  have b4 : s4 74 = s3 74 := f4 74 (by decide)
  have t4 : s4 84 = s3 84 := f4 84 (by decide)
  have tb : ∀ i, 0 ≤ i → i < 6 → 0 ≤ s4 84 i ∧ s4 84 i ≤ 1000000000000000000 := fun i i0 i1 => by
    rw [t4, v8 i i0 i1]
    have := u6.2.2 i i0 i1
    omega
  have e120 : s4 120 = σ 120 := Fg_k hG4 (by decide) (by decide)
  refine c18l (t := w 2532) (z := w 2533) (IDp_k hG4 (by decide) hI.2.2.2.1) (IBo_k hG4 (by decide) hI.2.2.2.2.1) (IOf_k hG4 (by decide) hI.2.2.1) (by rw [b4]; exact v2) (by rw [b4]; exact v3) (by rw [e120]; exact u3) (by rw [e120]; exact u2) (by omega) (by omega) (by omega) (by rw [n40.1]; omega) (by rw [n40.1, n40.2.2]; omega) (fun i hi => tb i (by omega) (by omega)) (fun s5 x ex hx f5 h58 hb1 hb2 hb3 ht0 ht1 ht4 => ⟨rfl, b12l_36 ?_⟩)
  rw [n40.1, n40.2.2] at ex
  have ex : x = qX σ l w := ex
  have hq : ∀ k, (k = 50 ∨ k = 112 ∨ k = 113 ∨ k = 115 ∨ k = 125) → s4 k = σ k := fun k hk => by
    rcases hk with z | z | z | z | z <;> rw [z] <;> exact Fg_k hG4 (by decide) (by decide)
  have hq6 : ∀ i, (i = 8 ∨ i = 14 ∨ i = 42 ∨ i = 43 ∨ i = 44) → s4 96 i = σ 96 i := fun k hk => by
    rcases hk with z | z | z | z | z <;> rw [z] <;> exact Fg_kq hG4 (by decide) (by decide)
  have eLv : hLv s4 (w 2532) (w 2533) = hLv σ (w 2532) (w 2533) := by
    unfold hLv
    rw [hq6 44 (by omega), hq6 42 (by omega), hq6 43 (by omega), hq 125 (by omega)]
  have eIn : hIn s4 (w 2532) (w 2533) x = hIn σ (w 2532) (w 2533) x := by unfold hIn; rw [eLv]
  have eMi : hMi s4 (w 2532) (w 2533) x = hMi σ (w 2532) (w 2533) x := by unfold hMi; rw [eIn, hq 115 (by omega)]
  have eLe : hLe s4 (w 2532) (w 2533) x = hLe σ (w 2532) (w 2533) x := by unfold hLe; rw [eIn, eMi, hq 50 (by omega), hq 112 (by omega), hq6 8 (by omega)]
  have eCo : hCo s4 (w 2532) (w 2533) x = hCo σ (w 2532) (w 2533) x := by unfold hCo; rw [eIn, eMi, hq 50 (by omega), hq 112 (by omega), hq 113 (by omega), hq6 8 (by omega), hq6 14 (by omega)]
  have ePu : hPu s4 (w 2532) (w 2533) x = hPu σ (w 2532) (w 2533) x := by unfold hPu; rw [eIn, eLe]
  have eMd : hMd s4 (w 2532) (w 2533) x = hMd σ (w 2532) (w 2533) x := by unfold hMd; rw [eIn, eLe, ePu]
  rw [n40.2.2, eMd, ex] at h58
  rw [n40.1, n40.2.2, eMd, ex] at hb3
  rw [n40.1, n40.2.2] at hb2
  rw [ePu, ex] at hb1
  rw [eIn, eMi, eLe, ex] at ht0
  rw [eMi, ex] at ht1
  rw [eCo, ex] at ht4
  rw [t4] at ht0 ht1 ht4
  have w50 : qWo σ l w 0 = qB0 σ l w 0 + hMd σ (w 2532) (w 2533) (qX σ l w) := if_pos rfl
  rw [← w50] at hb3
  have n5 : ∀ n, 0 ≤ n → n < 12 → s5 57 n = qN σ l w n ∧ s5 58 n = qWo σ l w n ∧ s5 59 n = qB0 σ l w n := fun n n0 n1 => by
    have a := n4 n n0 n1
    refine ⟨?_, ?_, ?_⟩
    · rw [f5 57 n (by decide) (by simp)]; exact a.1
    · by_cases z : n = 0
      · rw [z, h58, w50]
      · rw [f5 58 n (by decide) (by simp; omega), a.2.1]
        unfold qWo
        rw [if_neg z]
    · rw [f5 59 n (by decide) (by simp)]; exact a.2.2
  have c5 : ∀ k, k = 2 ∨ k = 3 ∨ k = 4 ∨ k = 17 ∨ k = 1 → s5 k = s3 k := fun k hk => by
    rcases hk with z | z | z | z | z <;> rw [z] <;> exact (Fg_k f5 (by decide) (by decide)).trans (f4 _ (by decide))
  have u5 : s5 75 = s4 75 := Fg_k f5 (by decide) (by decide)
  refine c21l (w := 0) (P := σ 96 6) (nd := qFr σ l w) (W := qWo σ l w) (Or.inl rfl) ⟨by rw [c5 1 (by omega)]; exact e11, by omega, by omega⟩ (fun p p0 p1 => by rw [c5 2 (by omega), c5 3 (by omega), c5 4 (by omega), c5 17 (by omega)]; exact eb p p0 p1) (fun p p0 p1 => by rw [if_pos rfl, c5 2 (by omega), c5 3 (by omega), c5 17 (by omega)]; exact (hp p p0 p1).2.2.2.2.2.1.symm) (fun n n0 n1 => by rw [if_pos rfl]; exact (n5 n n0 n1).2.1.symm) (fun p p0 p1 fz => ?_) (fun s6 f6 g6 => ⟨rfl, k s6 ?_ ?_⟩)
  · rw [c5 17 (by omega), (hp p p0 p1).2.2.2.1] at fz
    have q := qp hI l w p0 p1
    rw [(n5 (qFr σ l w p) (by omega) (by omega)).1]
    have a := (qN_p hI l w p0 p1 fz).1
    have b := qN_b hI l w (qFr σ l w p)
    have c := qWob hI l hB' (qFr σ l w p)
    omega
  · exact Fg_t (Fg_t (Fg_F (Fr_s f4 (by decide))) (Fg_m f5 (by decide) (by decide))) (Fg_F (Fr_s f6 (by decide)))
  · obtain ⟨i1, i2, i3⟩ := g6
    have hm6 : ∀ p, 0 ≤ p → p < σ 96 6 → hm (s5 17) p = qm σ l w p ∧ s5 4 p = σ 103 p ∧ s5 17 p = qf σ l w p := fun p p0 p1 => by
      rw [c5 17 (by omega), c5 4 (by omega)]
      exact ⟨(hp p p0 p1).2.2.2.2.1, (hp p p0 p1).2.2.1, (hp p p0 p1).2.2.2.1⟩
    have h60 : ∀ n i, i ≤ σ 96 6 → hGi (qFr σ l w) (hm (s5 17)) n i = hGi (qFr σ l w) (qm σ l w) n i := fun n i hi => hGi_c (fun q q0 q1 => ⟨rfl, (hm6 q q0 (by omega)).1⟩)
    have epl : ∀ p j, 0 ≤ p → p < σ 96 6 → hPll (0 < s5 17 p ↔ (0 : Int) = 0) (s5 4 p) (hm (s5 17) p) j = (if 0 < qf σ l w p then hm (qf σ l w) p - 1 - j else σ 103 p - hm (qf σ l w) p + j) := fun p j p0 p1 => by
      have a := hm6 p p0 p1
      unfold hPll
      rw [a.1, a.2.1, a.2.2]
      simp only [iff_true]
      rfl
    have b6 : s6 74 = s5 74 := f6 74 (by decide)
    have t6 : s6 84 = s5 84 := f6 84 (by decide)
    refine ⟨fun n n0 n1 => ?_, fun p p0 p1 => ?_, fun p p0 => ?_, ⟨?_, ?_, ?_, ?_, ?_, ?_⟩, fun p j p0 p1 j0 j1 => ?_, fun p p0 p1 => ?_⟩
    · have a := n5 n n0 n1
      rw [f6 57 (by decide), f6 58 (by decide), f6 59 (by decide)]
      refine ⟨a.1, a.2.1, a.2.2, ?_⟩
      rw [i1 n n0 n1, h60 n _ (Int.le_refl _)]
      rfl
    · rw [f6 76 (by decide), Fg_k f5 (k := 76) (by decide) (by decide), m2 p p0 p1]
      exact y1 p p0 p1
    · rw [f6 76 (by decide), Fg_k f5 (k := 76) (by decide) (by decide), m3 p p0]
    · rw [b6]; exact hb1
    · rw [b6]; exact hb2
    · rw [b6]; exact hb3
    · have := v8 0 (by decide) (by decide)
      rw [t6, ht0, this]; rfl
    · have := v8 1 (by decide) (by decide)
      rw [t6, ht1, this]; rfl
    · have := v8 4 (by decide) (by decide)
      rw [t6, ht4, this]; rfl
    · have q := qp hI l w p0 p1
      refine hFl_of (X0 := s3 75) (X1 := s4 75) (fun j j0 j1 => (v1 p j p0 p1 j0 j1).1) ?_ (fun j j0 j1 => ?_) (fun k k0 k1 hk => ?_) j0 j1 q.2.1
      · have := (m4 p p0 p1).1
        have a := hp p p0 p1
        rw [a.2.2.1, a.2.2.2.2.1, a.2.2.2.1] at this
        exact this
      · have a := i2 p p0 p1 j j0 (by rw [(hm6 p p0 p1).1]; exact j1)
        rw [epl p j p0 p1, h60 _ p (by omega), (n5 (qFr σ l w p) (by omega) (by omega)).1] at a
        exact a
      · rw [i3 ((2 * p + 0) * 60 + k) (fun p' j' p0' p1' j0' j1' e => ?_), u5]
        have r := hPl_rl (r := 0 < s5 17 p' ↔ (0 : Int) = 0) (L := s5 4 p') (m := hm (s5 17) p') (k := j') (by rw [(hm6 p' p0' p1').1, (hm6 p' p0' p1').2.1]; exact (qp hI l w p0' p1').2.1) (by rw [(hm6 p' p0' p1').2.1]; exact (qp hI l w p0' p1').2.2.2.1) j0' j1'
        rw [(hm6 p' p0' p1').2.1] at r
        have r2 := (qp hI l w p0' p1').2.2.2.1
        rw [(hm6 p' p0' p1').2.1] at e
        have ep : p' = p := by omega
        subst ep
        have e' := epl p' j' p0 p1
        rw [(hm6 p' p0' p1').2.1] at e'
        rw [(hm6 p' p0' p1').1] at j1'
        refine hk j' j0' j1' ?_
        rw [← e']
        omega
    · have := (m4 p p0 p1).2
      have a := hp p p0 p1
      have q := qp hI l w p0 p1
      rw [a.2.2.1, a.2.2.2.2.1, a.2.2.2.1] at this
      refine hShf_c q.1 this (fun j j0 j1 => ?_)
      rw [i3 ((2 * p + 1) * 60 + j) (fun p' j' p0' p1' j0' j1' e => ?_), u5]
      have r := hPl_rl (r := 0 < s5 17 p' ↔ (0 : Int) = 0) (L := s5 4 p') (m := hm (s5 17) p') (k := j') (by rw [(hm6 p' p0' p1').1, (hm6 p' p0' p1').2.1]; exact (qp hI l w p0' p1').2.1) (by rw [(hm6 p' p0' p1').2.1]; exact (qp hI l w p0' p1').2.2.2.1) j0' j1'
      have r2 := (qp hI l w p0' p1').2.2.2.1
      rw [(hm6 p' p0' p1').2.1] at r e
      omega
end
