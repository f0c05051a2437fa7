section
/-! the reference's hour -/
/-- behind the goal of leaving: the first i pipes -/
def zM (σ : aW) (l : List rRu) (w : Int → Int) (s0 s : aW) (i : Int) : Prop := Fr [120, 134, 135] s0 s ∧ (∀ x, s 120 x = if 2512 ≤ x ∧ x < 2512 + i then qf σ l w (x - 2512) else w x) ∧ (∀ n, 0 ≤ n → n < 12 → s 134 n = hWo (qf σ l w) (σ 101) (σ 102) (σ 103) (qU0 w) n i ∧ s 135 n = hWb (qf σ l w) (σ 101) (σ 102) (σ 103) (qU1 w) n i)
theorem c217m {d : Nat} {Q : aQ} {σ s0 : aW} {w : Int → Int} {l : List rRu} {sd : Int} (hI : qI σ) (hB : qB σ w) (hR : Fg zL zP σ s0) (hY : zY σ l w s0)
    (k : ∀ s, zM σ l w s0 s (σ 96 6) → aEv (d + 15) true 218 [vr 96, vi 0] s (fun r σ' => ∃ x : Int, r = some (vi x) ∧ Yx (d + 16) cd217 0 Q 222 [vr 96, vl sd, vt, vt, vt, vt, vt] [vi x] σ')) : ∀ (m : Nat) (i : Int) (s : aW), 0 ≤ i → i + m = σ 96 6 → zM σ l w s0 s i → Yx (d + 16) cd217 0 Q 106 [vr 96, vl sd, vt, vi i, vt, vt, vt] [] s
  | m, i, s, i0, im, hM => by
    have hn := hI.1.1
    unfold Nn at hn
    have hM' := hM
    obtain ⟨a1, a2, a3⟩ := hM'
    have s6 : s 96 6 = σ 96 6 := by rw [a1 96 (by decide)]; exact Fg_kq hR (by decide) (by decide)
    have s101 : s 101 = σ 101 := by rw [a1 101 (by decide)]; exact Fg_k hR (by decide) (by decide)
    have s102 : s 102 = σ 102 := by rw [a1 102 (by decide)]; exact Fg_k hR (by decide) (by decide)
    have s103 : s 103 = σ 103 := by rw [a1 103 (by decide)]; exact Fg_k hR (by decide) (by decide)
    have s126 : s 126 = s0 126 := a1 126 (by decide)
    refine b217_106 ⟨fun z => ?_, fun z => ?_⟩
    · have e : i = σ 96 6 := by omega
      rw [e] at hM
      exact k s hM
    · match m, im with
      | 0, im => omega
      | m + 1, im =>
        have i1 : i < σ 96 6 := by omega
        have q := qp hI l w i0 i1
        have f126 : s 126 i = qf σ l w i := by rw [s126]; exact hY.1 i i0 i1
        have eT : (if 0 < qf σ l w i then σ 102 i else σ 101 i) = qTo σ l w i := rfl
        have eF : (if 0 < qf σ l w i then σ 101 i else σ 102 i) = qFr σ l w i := rfl
        have so : ∀ n, hWo (qf σ l w) (σ 101) (σ 102) (σ 103) (qU0 w) n (i + 1) = hWo (qf σ l w) (σ 101) (σ 102) (σ 103) (qU0 w) n i + (if qTo σ l w i = n then hSO (qf σ l w) (σ 103) (qU0 w) i else 0) := fun n => sI_s i0
        have sb : ∀ n, hWb (qf σ l w) (σ 101) (σ 102) (σ 103) (qU1 w) n (i + 1) = hWb (qf σ l w) (σ 101) (σ 102) (σ 103) (qU1 w) n i + (if qFr σ l w i = n then hSB (qf σ l w) (σ 103) (qU1 w) i else 0) := fun n => sI_s i0
        generalize hv : sw s 120 (fu (s 120) (2512 + i) (s 126 i)) = v
        have hv := hv.symm
        have v1 : Fr [120] s v := by rw [hv]; exact Fr_w Fr_r (by decide)
        have v2 : ∀ x, v 120 x = if 2512 ≤ x ∧ x < 2512 + (i + 1) then qf σ l w (x - 2512) else w x := fun x => by
          rw [hv, sw_s, f126]
          unfold fu
          by_cases y : x = 2512 + i
          · rw [if_pos y, if_pos (by omega), y]
            congr 1
            omega
          · rw [if_neg y, a2]
            repeat' split
            all_goals first | omega | rfl
        rw [f126, s101, s102, eT]
        refine ⟨by omega, by omega, by omega, by omega, fun fz => ⟨by omega, by omega, by omega, ?_⟩, fun fz => ⟨by omega, ?_⟩⟩
        · have em : hm (v 126) i = qm σ l w i := by unfold qm hm; rw [v1 126 (by decide), f126]
          have v126 : v 126 i = qf σ l w i := by rw [v1 126 (by decide)]; exact f126
          have v103 : v 103 = σ 103 := by rw [v1 103 (by decide)]; exact s103
          have vU0 : ∀ j, 0 ≤ j → j < σ 103 i → v 120 (0 + 60 * i + j) = qU0 w i j := fun j j0 j1 => by
            rw [v2, if_neg (by omega), show 0 + 60 * i + j = 60 * i + j by omega]
            rfl
          have vU1 : ∀ j, 0 ≤ j → j < σ 103 i → v 120 (1200 + 60 * i + j) = qU1 w i j := fun j j0 j1 => by
            rw [v2, if_neg (by omega)]
            rfl
          have b0 := hTk_b (f := qf σ l w) (L := σ 103) (U := qU0 w) (r := 0 < qf σ l w i) (p := i) q.2.1 q.2.2.2.1 (fun k k0 k1 => (hB.1 i k i0 i1 k0 k1).1)
          have b1 := hTk_b (f := qf σ l w) (L := σ 103) (U := qU1 w) (r := ¬ 0 < qf σ l w i) (p := i) q.2.1 q.2.2.2.1 (fun k k0 k1 => (hB.1 i k i0 i1 k0 k1).2)
          have wb := fun n => hW_b (f := qf σ l w) (A := σ 101) (B := σ 102) (L := σ 103) (U := qU0 w) (V := qU1 w) (P := σ 96 6) (n := n) (i := i) (fun p p0 p1 => by have := qp hI l w p0 p1; exact ⟨this.2.1, this.2.2.2.1⟩) (fun p k p0 p1 k0 k1 => (hB.1 p k p0 p1 k0 k1).1) (fun p k p0 p1 k0 k1 => (hB.1 p k p0 p1 k0 k1).2) i0 (by omega)
          have nb := fun n => hN_b (f := qf σ l w) (A := σ 101) (B := σ 102) (L := σ 103) (P := σ 96 6) (n := n) (i := i) (fun p p0 p1 => by have := qp hI l w p0 p1; exact ⟨this.2.1, this.2.2.2.1⟩) i0 (by omega)
          have em2 : hm (qf σ l w) i = qm σ l w i := rfl
          rw [em2] at b0 b1
          refine c210 (by omega) (by omega) (by rw [v126]; omega) (by rw [em, v103]; omega) (fun j j0 j1 => by rw [v103] at j1; rw [vU0 j j0 j1]; exact (hB.1 i j i0 i1 j0 j1).1) ⟨_, rfl, b217_174_4 ?_⟩
          have hr0 : bi (¬ 0 ≤ qf σ l w i) = 0 ↔ 0 < qf σ l w i := by
            by_cases y : 0 ≤ qf σ l w i
            · rw [bi_f (fun x => x y)]; simp; omega
            · rw [bi_t y]; simp; omega
          have hr1 : bi (¬ qf σ l w i ≤ 0) = 0 ↔ ¬ 0 < qf σ l w i := by
            by_cases y : qf σ l w i ≤ 0
            · rw [bi_f (fun x => x y)]; simp; omega
            · rw [bi_t y]; simp; omega
          have k0 : hTk (v 126) (v 103) (fun p k => v 120 (0 + 60 * p + k)) (bi (¬ 0 ≤ qf σ l w i) = 0) i = hSO (qf σ l w) (σ 103) (qU0 w) i := hTk_c v126 (by rw [v103]) hr0 (by rw [em, v103]; exact q.2.1) (fun j j0 j1 => vU0 j j0 (by rw [v103] at j1; exact j1))
          rw [k0, v126, v1 101 (by decide), v1 102 (by decide), s101, s102, eF]
          have c4 := (a3 (qTo σ l w i) (by omega) (by omega)).1
          have wb0 := (wb (qTo σ l w i)).1
          have nb0 := (nb (qTo σ l w i)).1
          have eso : hSO (qf σ l w) (σ 103) (qU0 w) i = hTk (qf σ l w) (σ 103) (qU0 w) (0 < qf σ l w i) i := rfl
          have esb : hSB (qf σ l w) (σ 103) (qU1 w) i = hTk (qf σ l w) (σ 103) (qU1 w) (¬ 0 < qf σ l w i) i := rfl
          rw [← eso] at b0
          rw [← esb] at b1
          refine ⟨by rw [c4]; omega, by omega, by omega, by omega, by omega, ?_⟩
          generalize hx : sw v 134 (fu (v 134) (qTo σ l w i) (s 134 (qTo σ l w i) + hSO (qf σ l w) (σ 103) (qU0 w) i)) = x
          have hx := hx.symm
          have x1 : Fr [134] v x := by rw [hx]; exact Fr_w Fr_r (by decide)
          have x126 : x 126 i = qf σ l w i := by rw [x1 126 (by decide)]; exact v126
          have x103 : x 103 = σ 103 := by rw [x1 103 (by decide)]; exact v103
          have xm : hm (x 126) i = qm σ l w i := by unfold qm hm; rw [x126]
          have x120 : x 120 = v 120 := x1 120 (by decide)
          refine c210 (by omega) (by omega) (by rw [x126]; omega) (by rw [xm, x103]; omega) (fun j j0 j1 => by rw [x103] at j1; rw [x120, vU1 j j0 j1]; exact (hB.1 i j i0 i1 j0 j1).2) ⟨_, rfl, b217_209_4 ?_⟩
          have k1 : hTk (x 126) (x 103) (fun p k => x 120 (1200 + 60 * p + k)) (bi (¬ qf σ l w i ≤ 0) = 0) i = hSB (qf σ l w) (σ 103) (qU1 w) i := hTk_c x126 (by rw [x103]) hr1 (by rw [xm, x103]; exact q.2.1) (fun j j0 j1 => by
            show x 120 (1200 + 60 * i + j) = _
            rw [x120]
            exact vU1 j j0 (by rw [x103] at j1; exact j1))
          rw [k1]
          have c5 := (a3 (qFr σ l w i) (by omega) (by omega)).2
          have v135 : v 135 = s 135 := v1 135 (by decide)
          have v134 : v 134 = s 134 := v1 134 (by decide)
          have x135 : x 135 = s 135 := by rw [x1 135 (by decide)]; exact v135
          have wb1 := (wb (qFr σ l w i)).2
          have nb1 := (nb (qFr σ l w i)).2
          refine ⟨by rw [v135, c5]; omega, by omega, by omega, ?_⟩
          refine c217m hI hB hR hY k m (i + 1) _ (by omega) (by omega) ⟨?_, fun y => ?_, fun n n0 n1 => ?_⟩
          · exact Fr_w (Fr_t (N := [120, 134, 135]) (Fr_t (N := [120, 134, 135]) a1 v1 (by intro k hk; simp at hk ⊢; omega)) x1 (by intro k hk; simp at hk ⊢; omega)) (by decide)
          · rw [sw_n (by decide), x120]
            exact v2 y
          · have a := a3 n n0 n1
            rw [sw_n (by decide), sw_s, hx, sw_s, sw_n (by decide), v134, v135, so n, sb n]
            unfold fu
            refine ⟨?_, ?_⟩
            · by_cases y : n = qTo σ l w i
              · rw [if_pos y, if_pos y.symm, y, c4]
              · rw [if_neg y, if_neg (fun u => y u.symm), a.1, Int.add_zero]
            · by_cases y : n = qFr σ l w i
              · rw [if_pos y, if_pos y.symm, y, c5]
              · rw [if_neg y, if_neg (fun u => y u.symm), a.2, Int.add_zero]
        · refine c217m hI hB hR hY k m (i + 1) v (by omega) (by omega) ⟨Fr_t (N := [120, 134, 135]) a1 v1 (by intro k hk; simp at hk ⊢; omega), v2, fun n n0 n1 => ?_⟩
          have a := a3 n n0 n1
          have m0 : hm (qf σ l w) i = 0 := by unfold hm; rw [fz]; rfl
          have eso : hSO (qf σ l w) (σ 103) (qU0 w) i = 0 := hTk_0 m0
          have esb : hSB (qf σ l w) (σ 103) (qU1 w) i = 0 := hTk_0 m0
          rw [v1 134 (by decide), v1 135 (by decide), so n, sb n, eso, esb, a.1, a.2]
          refine ⟨?_, ?_⟩ <;> split <;> omega
end
