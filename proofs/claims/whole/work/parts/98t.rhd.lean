section
/-! the reference's hour: out and back -/
theorem zp {σ s0 : aW} {w : Int → Int} {l : List rRu} (hY : zY σ l w s0) (e1 : s0 101 = σ 101) (e2 : s0 102 = σ 102) (p : Int) (p0 : 0 ≤ p) (p1 : p < σ 96 6) : hm (s0 126) p = qm σ l w p ∧ hFr (s0 126) (s0 101) (s0 102) p = qFr σ l w p ∧ hTo (s0 126) (s0 101) (s0 102) p = qTo σ l w p := by
  have e := hY.1 p p0 p1
  refine ⟨?_, ?_, ?_⟩
  · unfold qm hm; rw [e]
  · unfold qFr hFr; rw [e, e1, e2]
  · unfold qTo hTo; rw [e, e1, e2]
/-- what a node has, as the reference counts it -/
theorem zN {d : Nat} {Q : aQ} {σ s : aW} {w : Int → Int} {l : List rRu} {n : Int} (hI : qI σ) (hR : Fg zL zP σ s) (hY : zY σ l w s) (k : Q (some (vi (qNo σ l w n))) s) : aEv (d + 2) true 218 [vr 96, vi n] s Q := by
  have hn := hI.1.1
  unfold Nn at hn
  have e1 : s 101 = σ 101 := Fg_k hR (by decide) (by decide)
  have e2 : s 102 = σ 102 := Fg_k hR (by decide) (by decide)
  refine c218 (P := σ 96 6) ⟨Fg_kq hR (by decide) (by decide), by omega, by omega⟩ (fun p p0 p1 => by have := qp hI l w p0 p1; rw [hY.1 p p0 p1]; omega) ?_
  have e : hNo (s 126) (s 101) (s 102) n (σ 96 6) = qNo σ l w n := hGi_c (fun q q0 q1 => ⟨(zp hY e1 e2 q q0 q1).2.1, (zp hY e1 e2 q q0 q1).1⟩)
  rw [e]
  exact k
theorem zG {d : Nat} {Q : aQ} {σ s : aW} {w : Int → Int} {l : List rRu} {n : Int} (hI : qI σ) (hB : qB σ w) (hR : Fg zL zP σ s) (hY : zY σ l w s) (k : Q (some (vi (hGi (σ 109) (qg σ l w) n (σ 96 7)))) s) : aEv (d + 0) true 219 [vr 96, vi n] s Q := by
  have hn := hI.1.1
  unfold Nn at hn
  have e9 : s 109 = σ 109 := Fg_k hR (by decide) (by decide)
  refine c219 (H := σ 96 7) ⟨Fg_kq hR (by decide) (by decide), by omega, by omega⟩ (fun h h0 h1 => by have := qh hI l hB h0 h1; have := qN_b hI l w (σ 109 h); rw [(hY.2.1 h h0 h1).1]; omega) ?_
  have e : hHs s (s 127) (σ 96 7) n = hGi (σ 109) (qg σ l w) n (σ 96 7) := sI_c (fun h h0 h1 => by
    show (if ¬ s 109 h = n then 0 else s 127 h) = (if σ 109 h = n then qg σ l w h else 0)
    rw [e9, (hY.2.1 h h0 (by omega)).1]
    by_cases z : σ 109 h = n
    · rw [if_neg (fun y => y z), if_pos z]
    · rw [if_pos z, if_neg z])
  rw [e]
  exact k
theorem c220p {d : Nat} {Q : aQ} {σ s0 : aW} {w : Int → Int} {l : List rRu} {n : Int} (hI : qI σ) (hB : qB σ w) (hR : Fg zL zP σ s0) (hY : zY σ l w s0) (n0 : 0 ≤ n ∧ n < 12)
    (k : ∀ s, zO σ l w s0 s (fun p => qFr σ l w p < n + 1) (fun h => σ 109 h < n) → s 96 74 = qN σ l w n → s 96 75 = qWo σ l w n → s 96 76 = qNo σ l w n → Yx (d + 3) cd220 0 Q 78 [vr 96, vi n, vi 0, vt, vt, vt] [] s) : ∀ (m : Nat) (i : Int) (s : aW), 0 ≤ i → i + m = σ 96 6 → zO σ l w s0 s (fun p => qFr σ l w p < n ∨ (qFr σ l w p = n ∧ p < i)) (fun h => σ 109 h < n) → s 96 74 = qN σ l w n → s 96 75 = qWo σ l w n → s 96 76 = hGi (qFr σ l w) (qm σ l w) n i → Yx (d + 3) cd220 0 Q 24 [vr 96, vi n, vi i, vt, vt, vt] [] s
  | m, i, s, i0, im, hO, e74, e75, e76 => by
    have hn := hI.1.1
    unfold Nn at hn
    have hO' := hO
    obtain ⟨a1, a2, a3, a4, a5, a6⟩ := hO'
    have s6 : s 96 6 = σ 96 6 := (a1 96 6 (by decide) (by decide)).trans (Fg_kq hR (by decide) (by decide))
    have s101 : s 101 = σ 101 := (Fg_k a1 (by decide) (by decide)).trans (Fg_k hR (by decide) (by decide))
    have s102 : s 102 = σ 102 := (Fg_k a1 (by decide) (by decide)).trans (Fg_k hR (by decide) (by decide))
    have s103 : s 103 = σ 103 := (Fg_k a1 (by decide) (by decide)).trans (Fg_k hR (by decide) (by decide))
    have s126 : s 126 = s0 126 := Fg_k a1 (by decide) (by decide)
    refine b220_24 ⟨fun z => ?_, fun z => ?_⟩
    · have e : i = σ 96 6 := by omega
      rw [e] at e76 hO
      exact k s (zO_c hO (fun p p0 p1 => by omega) (fun h h0 h1 => Iff.rfl)) e74 e75 e76
    · match m, im with
      | 0, im => omega
      | m + 1, im =>
        have i1 : i < σ 96 6 := by omega
        have q := qp hI l w i0 i1
        have f126 : s 126 i = qf σ l w i := by rw [s126]; exact hY.1 i i0 i1
        have eF : (if 0 < qf σ l w i then σ 101 i else σ 102 i) = qFr σ l w i := rfl
        have skip : (qFr σ l w i = n → qf σ l w i = 0) → Yx (d + 3) cd220 0 Q 24 [vr 96, vi n, vi (i + 1), vt, vt, vt] [] s := fun hz => by
          refine c220p hI hB hR hY n0 k m (i + 1) s (by omega) (by omega) ⟨a1, fun p kk p0 p1 k0 k1 => ?_, a3, a4, a5, a6⟩ e74 e75 ?_
          · have b := a2 p kk p0 p1 k0 k1
            refine ⟨fun x => ?_, fun x => b.2 (fun y => x (by omega))⟩
            by_cases y : qFr σ l w p < n ∨ (qFr σ l w p = n ∧ p < i)
            · exact b.1 y
            · have ep : p = i := by omega
              have en : qFr σ l w i = n := by
                have x' := x
                have y' := y
                rw [ep] at x' y'
                omega
              rw [b.2 y]
              unfold qV0
              rw [hFl_0 (by rw [ep]; exact hz en)]
          · rw [e76, hGi_s i0]
            by_cases y : qFr σ l w i = n
            · rw [if_pos y]
              have := hz y
              unfold qm hm
              rw [this]
              omega
            · rw [if_neg y]; omega
        rw [f126, s101, s102, eF]
        refine ⟨by omega, fun y => ⟨by omega, skip (fun _ => y)⟩, fun y => ⟨by omega, fun x => ⟨by omega, skip (fun h => absurd h x)⟩, fun x => ⟨by omega, ?_⟩⟩⟩
        have nb := qN_b hI l w n
        have wb := qWob hI l hB n
        have np := (qN_p hI l w i0 i1 y).1
        rw [x] at np
        have gm := hGi_m (nd := qFr σ l w) (mm := qm σ l w) (n := n) (i := i) (j := σ 96 6) (by omega) (fun p p0 p1 => (qp hI l w p0 p1).1)
        have g0 := hGi_0 (nd := qFr σ l w) (mm := qm σ l w) (n := n) (i := i) (fun p p0 p1 => (qp hI l w p0 (by omega)).1)
        have em : hm (s 126) i = qm σ l w i := by unfold qm hm; rw [f126]
        have eNo : hGi (qFr σ l w) (qm σ l w) n (σ 96 6) = qNo σ l w n := rfl
        have hr : (¬ bi (¬ qf σ l w i ≤ 0) = 0) ↔ 0 < qf σ l w i := by
          by_cases y : qf σ l w i ≤ 0
          · rw [bi_f (fun z => z y)]; simp; omega
          · rw [bi_t y]; simp; omega
        refine c213 (N := qN σ l w n) (W := qWo σ l w n) (G := hGi (qFr σ l w) (qm σ l w) n i) (by omega) (by omega) (by rw [f126]; omega) (by rw [em, s103]; omega) e74 e75 e76 (by rw [f126]; exact y) (by omega) wb.1 wb.2 (by omega) (fun s' f1 k1 k2 k3 => ⟨rfl, b220_70 ⟨by omega, ?_⟩⟩)
        rw [em] at k1
        rw [s103] at k2 k3
        have nD : ¬ (qFr σ l w i < n ∨ (qFr σ l w i = n ∧ i < i)) := by omega
        refine c220p hI hB hR hY n0 k m (i + 1) s' (by omega) (by omega) ⟨?_, fun p kk p0 p1 k0 kk1 => ?_, fun h h0 h1 => ?_, ?_, ?_, fun z hz => ?_⟩ ?_ ?_ ?_
        · exact Fg_t a1 (Fg_m f1 (by decide) (by decide))
        · by_cases e : p = i
          · rw [e] at kk1 ⊢
            refine ⟨fun _ => ?_, fun v => absurd (Or.inr ⟨x, by omega⟩) v⟩
            have := k2 kk k0 kk1
            rw [show 0 + 60 * i + kk = 60 * i + kk by omega] at this
            rw [this]
            unfold qV0
            rw [x]
            exact hFl_c f126 rfl hr (by rw [em]; exact q.2.1) k0 kk1 (fun j j0 j1 => by
              show s 120 (0 + 60 * i + j) = _
              rw [show 0 + 60 * i + j = 60 * i + j by omega]
              exact (a2 i j i0 i1 j0 j1).2 nD)
          · have qq := qp hI l w p0 p1
            rw [k3 _ (by omega)]
            have b := a2 p kk p0 p1 k0 kk1
            exact ⟨fun v => b.1 (by omega), fun v => b.2 (by omega)⟩
        · have o : ∀ r, r = 2400 ∨ r = 2416 ∨ r = 2432 ∨ r = 2448 ∨ r = 2480 ∨ r = 2496 → s' 120 (r + h) = s 120 (r + h) := fun r hr => k3 _ (by omega)
          have o2 : s' 139 h = s 139 h := f1 139 h (by decide) (by simp)
          have b := a3 h h0 h1
          unfold zH1 zH0 at b ⊢
          rw [o 2400 (by omega), o 2416 (by omega), o 2432 (by omega), o 2448 (by omega), o 2480 (by omega), o 2496 (by omega), o2]
          exact b
        · rw [k3 _ (by omega)]; exact a4
        · rw [k3 _ (by omega)]; exact a5
        · by_cases zz : 0 + 60 * i ≤ z ∧ z < 0 + 60 * i + σ 103 i
          · exact absurd (show z = 60 * i + (z - 60 * i) by omega) (hz.1 i (z - 60 * i) i0 i1 (by omega) (by omega))
          · rw [k3 z zz]
            exact a6 z hz
        · rw [f1 96 74 (by decide) (by decide)]; exact e74
        · rw [f1 96 75 (by decide) (by decide)]; exact e75
        · rw [k1, hGi_s i0, if_pos x]
theorem c220 {d : Nat} {Q : aQ} {σ s0 s : aW} {w : Int → Int} {l : List rRu} {n : Int} (hI : qI σ) (hB : qB σ w) (hR : Fg zL zP σ s0) (hY : zY σ l w s0) (hW : ∀ n, 0 ≤ n → n < 12 → s0 134 n = qWo σ l w n) (n0 : 0 ≤ n ∧ n < 12) (hO : zO σ l w s0 s (fun p => qFr σ l w p < n) (fun h => σ 109 h < n))
    (k : ∀ s, zO σ l w s0 s (fun p => qFr σ l w p < n + 1) (fun h => σ 109 h < n + 1) → Q none s) : aEv (d + 3) true 220 [vr 96, vi n] s Q := by
  have hn := hI.1.1
  unfold Nn at hn
  have a1 := hO.1
  have hRs : Fg zL zP σ s := Fg_t hR (Fg_m a1 (by decide) (by decide))
  have hYs : zY σ l w s := by
    have e : ∀ k, k = 126 ∨ k = 127 ∨ k = 128 ∨ k = 132 ∨ k = 137 ∨ k = 138 → s k = s0 k := fun k hk => funext fun j => a1 k j (by simp; omega) (by simp; omega)
    unfold zY at *
    simp only [e 126 (by omega), e 127 (by omega), e 128 (by omega), e 132 (by omega), e 137 (by omega), e 138 (by omega)]
    exact hY
  have nb := qN_b hI l w n
  have nr := qN_r hI l w n
  have s134 : s 134 = s0 134 := Fg_k a1 (by decide) (by decide)
  refine e220 (b220_0 (zN hI hRs hYs ⟨_, rfl, b220_6_2 (zG hI hB hRs hYs ⟨_, rfl, b220_11_3 ?_⟩)⟩))
  rw [nr, s134, hW n n0.1 n0.2]
  refine ⟨by omega, n0, e211 (b211_0 ⟨rfl, b220_22 ?_⟩)⟩
  generalize hu : sw (sw (sw s 96 (fu (s 96) 74 (qN σ l w n))) 96 (fu (fu (s 96) 74 (qN σ l w n)) 75 (qWo σ l w n))) 96 (fu (fu (fu (s 96) 74 (qN σ l w n)) 75 (qWo σ l w n)) 76 0) = u
  have hu := hu.symm
  have u1 : Fg [] [(96, 74), (96, 75), (96, 76)] s u := fun c j hc hj => by
    rw [hu]
    by_cases e : c = 96
    · subst e
      simp at hj
      rw [sw_s, fu_n hj.2.2, fu_n hj.2.1, fu_n hj.1]
    · rw [sw_n e, sw_n e, sw_n e]
  have u120 : u 120 = s 120 := Fg_k u1 (by decide) (by decide)
  have u139 : u 139 = s 139 := Fg_k u1 (by decide) (by decide)
  refine c220p hI hB hR hY n0 (fun t hO2 t74 t75 t76 => c220h hI hB hR hY n0 (fun v hv => k v (zO_c hv (fun p _ _ => Iff.rfl) (fun h h0 h1 => by omega))) (σ 96 7).toNat 0 t (Int.le_refl _) (by omega) (zO_c hO2 (fun p _ _ => Iff.rfl) (fun h h0 h1 => by omega)) t74 t75 (by rw [t76]; show _ = _ + (0 : Int); rw [Int.add_zero])) (σ 96 6).toNat 0 u (Int.le_refl _) (by omega) (zO_c (D := fun p => qFr σ l w p < n) (E := fun h => σ 109 h < n) ?_ (fun p p0 p1 => by omega) (fun h _ _ => Iff.rfl)) ?_ ?_ ?_
  · obtain ⟨a1, a2, a3, a4, a5, a6⟩ := hO
    unfold zO
    unfold zH1 zH0 at *
    rw [u120, u139]
    exact ⟨Fg_t a1 (Fg_m u1 (by decide) (by decide)), a2, a3, a4, a5, a6⟩
  · rw [hu, sw_s, fu_n (by decide), fu_n (by decide), fu_s]
  · rw [hu, sw_s, fu_n (by decide), fu_s]
  · rw [hu, sw_s, fu_s]
    rfl
/-- behind the pipes of D have come back -/
def zB (σ : aW) (l : List rRu) (w : Int → Int) (s0 s : aW) (D : Int → Prop) : Prop := Fg [120] [(96, 74), (96, 75), (96, 76)] s0 s ∧ (∀ p k, 0 ≤ p → p < σ 96 6 → 0 ≤ k → k < σ 103 p → (D p → s 120 (1200 + 60 * p + k) = qV1 σ l w p k) ∧ (¬ D p → s 120 (1200 + 60 * p + k) = qU1 w p k)) ∧ ∀ x, (∀ p k, 0 ≤ p → p < σ 96 6 → 0 ≤ k → k < σ 103 p → ¬ x = 1200 + 60 * p + k) → s 120 x = s0 120 x
theorem zB_c {σ s0 s : aW} {l : List rRu} {w : Int → Int} {D D' : Int → Prop} (h : zB σ l w s0 s D) (hD : ∀ p, 0 ≤ p → p < σ 96 6 → (¬ qf σ l w p = 0) → (D p ↔ D' p)) : zB σ l w s0 s D' := by
  obtain ⟨a1, a2, a3⟩ := h
  refine ⟨a1, fun p k p0 p1 k0 k1 => ?_, a3⟩
  by_cases z : qf σ l w p = 0
  · have e : qV1 σ l w p k = qU1 w p k := by unfold qV1; rw [hFl_0 z]
    have b := a2 p k p0 p1 k0 k1
    rw [e] at b ⊢
    by_cases y : D p
    · exact ⟨fun _ => b.1 y, fun _ => b.1 y⟩
    · exact ⟨fun _ => b.2 y, fun _ => b.2 y⟩
  · have q := hD p p0 p1 z
    exact ⟨fun z => (a2 p k p0 p1 k0 k1).1 (q.mpr z), fun z => (a2 p k p0 p1 k0 k1).2 (fun y => z (q.mp y))⟩
theorem c221p {d : Nat} {Q : aQ} {σ s0 : aW} {w : Int → Int} {l : List rRu} {n : Int} (hI : qI σ) (hB : qB σ w) (hR : Fg zL zP σ s0) (hY : zY σ l w s0) (n0 : 1 ≤ n ∧ n < 12)
    (k : ∀ s, zB σ l w s0 s (fun p => qTo σ l w p < n + 1) → Q none s) : ∀ (m : Nat) (i : Int) (s : aW), 0 ≤ i → i + m = σ 96 6 → zB σ l w s0 s (fun p => qTo σ l w p < n ∨ (qTo σ l w p = n ∧ p < i)) → s 96 74 = qN σ l w n → s 96 75 = qWb σ l w n → s 96 76 = hGi (qTo σ l w) (qm σ l w) n i → Yx (d + 3) cd221 0 Q 70 [vr 96, vi n, vt, vt, vi i] [] s
  | m, i, s, i0, im, hO, e74, e75, e76 => by
    have hn := hI.1.1
    unfold Nn at hn
    have hO' := hO
    obtain ⟨a1, a2, a6⟩ := hO'
    have s6 : s 96 6 = σ 96 6 := (a1 96 6 (by decide) (by decide)).trans (Fg_kq hR (by decide) (by decide))
    have s101 : s 101 = σ 101 := (Fg_k a1 (by decide) (by decide)).trans (Fg_k hR (by decide) (by decide))
    have s102 : s 102 = σ 102 := (Fg_k a1 (by decide) (by decide)).trans (Fg_k hR (by decide) (by decide))
    have s103 : s 103 = σ 103 := (Fg_k a1 (by decide) (by decide)).trans (Fg_k hR (by decide) (by decide))
    have s126 : s 126 = s0 126 := Fg_k a1 (by decide) (by decide)
    refine b221_70 ⟨fun z => ?_, fun z => ?_⟩
    · have e : i = σ 96 6 := by omega
      rw [e] at hO
      exact k s (zB_c hO (fun p p0 p1 _ => by omega))
    · match m, im with
      | 0, im => omega
      | m + 1, im =>
        have i1 : i < σ 96 6 := by omega
        have q := qp hI l w i0 i1
        have f126 : s 126 i = qf σ l w i := by rw [s126]; exact hY.1 i i0 i1
        have eF : (if 0 < qf σ l w i then σ 102 i else σ 101 i) = qTo σ l w i := rfl
        have skip : (qTo σ l w i = n → qf σ l w i = 0) → Yx (d + 3) cd221 0 Q 70 [vr 96, vi n, vt, vt, vi (i + 1)] [] s := fun hz => by
          refine c221p hI hB hR hY n0 k m (i + 1) s (by omega) (by omega) (zB_c hO (fun p p0 p1 fz => ?_)) e74 e75 ?_
          · by_cases e : p = i
            · rw [e] at fz ⊢
              exact ⟨fun x => by omega, fun x => by
                rcases x with x | x
                · exact Or.inl x
                · exact absurd (hz x.1) fz⟩
            · exact ⟨fun x => by omega, fun x => by omega⟩
          · rw [e76, hGi_s i0]
            by_cases y : qTo σ l w i = n
            · rw [if_pos y]
              have := hz y
              unfold qm hm
              rw [this]
              omega
            · rw [if_neg y]; omega
        rw [f126, s101, s102, eF]
        refine ⟨by omega, fun y => ⟨by omega, skip (fun _ => y)⟩, fun y => ⟨by omega, fun x => ⟨by omega, skip (fun h => absurd h x)⟩, fun x => ⟨by omega, ?_⟩⟩⟩
        have nb := qN_b hI l w n
        have wb := qWbb hI l hB (show ¬ n = 0 by omega)
        have np := (qN_p hI l w i0 i1 y).2
        rw [x] at np
        have gm := hGi_m (nd := qTo σ l w) (mm := qm σ l w) (n := n) (i := i) (j := σ 96 6) (by omega) (fun p p0 p1 => (qp hI l w p0 p1).1)
        have g0 := hGi_0 (nd := qTo σ l w) (mm := qm σ l w) (n := n) (i := i) (fun p p0 p1 => (qp hI l w p0 (by omega)).1)
        have em : hm (s 126) i = qm σ l w i := by unfold qm hm; rw [f126]
        have eNo : hGi (qTo σ l w) (qm σ l w) n (σ 96 6) = qNi σ l w n := rfl
        have nn := (qNn hI l w n).2.1
        have hr : (¬ bi (¬ 0 ≤ qf σ l w i) = 0) ↔ ¬ 0 < qf σ l w i := by
          by_cases z : 0 ≤ qf σ l w i
          · rw [bi_f (fun v => v z)]; simp; omega
          · rw [bi_t z]; simp; omega
        refine c213 (N := qN σ l w n) (W := qWb σ l w n) (G := hGi (qTo σ l w) (qm σ l w) n i) (by omega) (by omega) (by rw [f126]; omega) (by rw [em, s103]; omega) e74 e75 e76 (by rw [f126]; exact y) (by omega) wb.1 wb.2 (by omega) (fun s' f1 k1 k2 k3 => ⟨rfl, b221_123 ⟨by omega, ?_⟩⟩)
        rw [em] at k1
        rw [s103] at k2 k3
        have nD : ¬ (qTo σ l w i < n ∨ (qTo σ l w i = n ∧ i < i)) := by omega
        refine c221p hI hB hR hY n0 k m (i + 1) s' (by omega) (by omega) ⟨?_, fun p kk p0 p1 k0 kk1 => ?_, fun z hz => ?_⟩ ?_ ?_ ?_
        · exact Fg_t a1 (Fg_m f1 (by decide) (by decide))
        · by_cases e : p = i
          · rw [e] at kk1 ⊢
            refine ⟨fun _ => ?_, fun v => absurd (Or.inr ⟨x, by omega⟩) v⟩
            rw [k2 kk k0 kk1]
            unfold qV1
            rw [x]
            exact hFl_c f126 rfl hr (by rw [em]; exact q.2.1) k0 kk1 (fun j j0 j1 => (a2 i j i0 i1 j0 j1).2 nD)
          · have qq := qp hI l w p0 p1
            rw [k3 _ (by omega)]
            have b := a2 p kk p0 p1 k0 kk1
            exact ⟨fun v => b.1 (by omega), fun v => b.2 (by omega)⟩
        · by_cases zz : 1200 + 60 * i ≤ z ∧ z < 1200 + 60 * i + σ 103 i
          · exact absurd (show z = 1200 + 60 * i + (z - 1200 - 60 * i) by omega) (hz i (z - 1200 - 60 * i) i0 i1 (by omega) (by omega))
          · rw [k3 z zz]
            exact a6 z hz
        · rw [f1 96 74 (by decide) (by decide)]; exact e74
        · rw [f1 96 75 (by decide) (by decide)]; exact e75
        · rw [k1, hGi_s i0, if_pos x]
theorem c221 {d : Nat} {Q : aQ} {σ s0 s : aW} {w : Int → Int} {l : List rRu} {n : Int} (hI : qI σ) (hB : qB σ w) (hR : Fg zL zP σ s0) (hY : zY σ l w s0) (hW : ∀ n, 0 ≤ n → n < 12 → s0 135 n = qB0 σ l w n) (hL : ∀ h, 0 ≤ h → h < σ 96 7 → s0 139 h = qLf σ l w h) (n0 : 1 ≤ n ∧ n < 12) (hO : zB σ l w s0 s (fun p => qTo σ l w p < n))
    (k : ∀ s, zB σ l w s0 s (fun p => qTo σ l w p < n + 1) → Q none s) : aEv (d + 3) true 221 [vr 96, vi n] s Q := by
  have hn := hI.1.1
  unfold Nn at hn
  have a1 := hO.1
  have hRs : Fg zL zP σ s := Fg_t hR (Fg_m a1 (by decide) (by decide))
  have hYs : zY σ l w s := by
    have e : ∀ k, k = 126 ∨ k = 127 ∨ k = 128 ∨ k = 132 ∨ k = 137 ∨ k = 138 → s k = s0 k := fun k hk => funext fun j => a1 k j (by simp; omega) (by simp; omega)
    unfold zY at *
    simp only [e 126 (by omega), e 127 (by omega), e 128 (by omega), e 132 (by omega), e 137 (by omega), e 138 (by omega)]
    exact hY
  have nb := qN_b hI l w n
  have nr := qN_r hI l w n
  have s135 : s 135 = s0 135 := Fg_k a1 (by decide) (by decide)
  have s139 : s 139 = s0 139 := Fg_k a1 (by decide) (by decide)
  have s109 : s 109 = σ 109 := Fg_k hRs (by decide) (by decide)
  have s7 : s 96 7 = σ 96 7 := Fg_kq hRs (by decide) (by decide)
  have bB := (qW0 hI l hB n).2
  have bNo := qNn hI l w n
  refine e221 (b221_0 ⟨by omega, ?_⟩)
  rw [s135, hW n (by omega) n0.2]
  refine for_up (X := fun i (x : Int) => Yx (d + 3) cd221 0 Q 10 [vr 96, vi n, vl x, vt, vi i] [] s) (I := fun i x => 0 ≤ i ∧ i ≤ σ 96 7 ∧ x = qB0 σ l w n + hGi (σ 109) (qLf σ l w) n i) (N := σ 96 7) ?_ ?_ 0 _ ⟨Int.le_refl _, by omega, by show _ = _ + (0 : Int); rw [Int.add_zero]⟩
  · rintro i x hi ⟨i0, i1, i2⟩ K
    have bl := fun j (hj : j ≤ σ 96 7) => hGi_l (nd := σ 109) (mm := qLf σ l w) (mm' := qg σ l w) (n := n) (i := j) (c := 12000) (by decide) (fun h h0 h1 => by
      have := qh hI l hB h0 (by omega : h < σ 96 7)
      unfold qLf
      omega)
    have gm := fun j (hj : j ≤ σ 96 7) => hGi_m (nd := σ 109) (mm := qg σ l w) (n := n) (i := j) (j := σ 96 7) hj (fun q _ _ => (qgs hI l w).1 q)
    have b1 := bl i (by omega)
    have b2 := bl (i + 1) (by omega)
    have g1 := gm i (by omega)
    have g2 := gm (i + 1) (by omega)
    have es := hGi_s (nd := σ 109) (mm := qLf σ l w) (n := n) i0
    have cn := bNo.2.2.1 (by omega)
    have ei : (if ¬ σ 109 i = n then 0 else qLf σ l w i) = (if σ 109 i = n then qLf σ l w i else 0) := by
      by_cases z : σ 109 i = n
      · rw [if_neg (fun y => y z), if_pos z]
      · rw [if_pos z, if_neg z]
    refine b221_10 ⟨fun z => by omega, fun z => ?_⟩
    rw [s109, s139, hL i i0 hi, ei]
    exact ⟨by omega, fun _ => by omega, by omega, by omega, K _ ⟨by omega, by omega, by omega⟩⟩
  · rintro i x hi ⟨i0, i1, i2⟩
    have e : i = σ 96 7 := by omega
    rw [e] at i2
    have i2 : x = qWb σ l w n := i2
    refine b221_10 ⟨fun z => ?_, fun z => by omega⟩
    refine zN hI hRs hYs ⟨_, rfl, b221_56_2 (zG hI hB hRs hYs ⟨_, rfl, b221_61_3 ?_⟩)⟩
    rw [nr, i2]
    refine ⟨by omega, e211 (b211_0 ⟨rfl, b221_67 ?_⟩)⟩
    generalize hu : sw (sw (sw s 96 (fu (s 96) 74 (qN σ l w n))) 96 (fu (fu (s 96) 74 (qN σ l w n)) 75 (qWb σ l w n))) 96 (fu (fu (fu (s 96) 74 (qN σ l w n)) 75 (qWb σ l w n)) 76 0) = u
    have hu := hu.symm
    have u1 : Fg [] [(96, 74), (96, 75), (96, 76)] s u := fun c j hc hj => by
      rw [hu]
      by_cases e : c = 96
      · subst e
        simp at hj
        rw [sw_s, fu_n hj.2.2, fu_n hj.2.1, fu_n hj.1]
      · rw [sw_n e, sw_n e, sw_n e]
    have u120 : u 120 = s 120 := Fg_k u1 (by decide) (by decide)
    refine c221p hI hB hR hY n0 k (σ 96 6).toNat 0 u (Int.le_refl _) (by omega) (zB_c (D := fun p => qTo σ l w p < n) ?_ (fun p p0 p1 _ => by omega)) ?_ ?_ ?_
    · obtain ⟨a1, a2, a6⟩ := hO
      unfold zB
      rw [u120]
      exact ⟨Fg_t a1 (Fg_m u1 (by decide) (by decide)), a2, a6⟩
    · rw [hu, sw_s, fu_n (by decide), fu_n (by decide), fu_s]
    · rw [hu, sw_s, fu_n (by decide), fu_s]
    · rw [hu, sw_s, fu_s]
      rfl
end
