section
/-! flows: the reference serves the houses -/
theorem mx_m {x y : Int} (h : 0 ≤ x) : max 0 (x * y) = x * max 0 y := by
  by_cases e : 0 ≤ y
  · rw [show max 0 y = y by omega]
    have := Int.mul_nonneg h e
    omega
  · rw [show max 0 y = 0 by omega, Int.mul_zero]
    have := Int.mul_nonneg h (show 0 ≤ -y by omega)
    rw [Int.mul_neg] at this
    omega
theorem c201 {d : Nat} {Q : aQ} {σ s : aW} {a dr h : Int} (hG : mG σ s) (h0 : 0 ≤ h ∧ h < 17) (z0 : 0 ≤ σ 120 2532 ∧ σ 120 2532 < 5050) (ea : σ 114 (σ 120 2532) = a) (a0 : -40 ≤ a ∧ a ≤ 40) (d0 : 5 ≤ dr ∧ dr ≤ 60) (b0 : 0 ≤ σ 110 h ∧ σ 110 h ≤ 50) (k : Q (some (vi (wWf σ a dr h))) (sw s 132 (fu (s 132) h (σ 110 h * max 0 (20 - a))))) : aEv (d + 1) true 201 [vr 96, vi h, vl dr] s Q := by
  obtain ⟨-, -, -, -, -, -, -, e110, -, e114, -, -, e120⟩ := hG
  have wb := wWf_b (σ := σ) (a := a) (dr := dr) (h := h) b0.1 b0.2 a0.1 d0.1 d0.2
  have nb := nd_b (x := σ 110 h) (a := a) b0.1 b0.2 a0.1
  have em := mx_m (x := σ 110 h) (y := 20 - a) b0.1
  have p1 := Int.mul_le_mul_of_nonneg_left (show 20 - a ≤ 60 by omega) b0.1
  have p2 := Int.mul_le_mul_of_nonneg_left (show -20 ≤ 20 - a by omega) b0.1
  refine e201 (b201_0 ?_)
  rw [e120, e114, e110, ea, em]
  unfold wWf at k wb
  generalize σ 110 h * max 0 (20 - a) = z at *
  exact ⟨by omega, by omega, by omega, by omega, by omega, by omega, by omega, by omega, by omega, by omega, by omega, k⟩
def mR (σ s : aW) (h : Int) (S : wSt) : Prop := (∀ p, 0 ≤ p → p < σ 96 6 → s 126 p = S.1 p ∧ s 128 (20 * h + p) = S.2.2 p) ∧ s 127 h = S.2.1
def mGh (h : Int) (s s' : aW) : Prop := Fg [126, 127, 128, 129, 131, 132] [(96, 66)] s s' ∧ (∀ j, j ≠ h → s' 127 j = s 127 j) ∧ (∀ p x, 0 ≤ p → p < 20 → x ≠ h → s' 128 (20 * x + p) = s 128 (20 * x + p)) ∧ (∀ j, j ≠ h → s' 132 j = s 132 j)
theorem mGh_t {h : Int} {s s' s'' : aW} (a : mGh h s s') (b : mGh h s' s'') : mGh h s s'' := ⟨Fg_t a.1 b.1, fun j hj => (b.2.1 j hj).trans (a.2.1 j hj), fun p x p0 p1 hx => (b.2.2.1 p x p0 p1 hx).trans (a.2.2.1 p x p0 p1 hx), fun j hj => (b.2.2.2 j hj).trans (a.2.2.2 j hj)⟩
theorem c202 {d : Nat} {Q : aQ} {σ s0 : aW} {h t a dr : Int} {S0 : wSt} (hN : INet σ) (hG : mG σ s0) (h0 : 0 ≤ h ∧ h < 17) (ht : σ 109 h = t) (t0 : 1 ≤ t) (t1 : t < σ 96 5) (z0 : 0 ≤ σ 120 2532 ∧ σ 120 2532 < 5050) (ea : σ 114 (σ 120 2532) = a) (a0 : -40 ≤ a ∧ a ≤ 40) (d0 : 5 ≤ dr ∧ dr ≤ 60) (b0 : 0 ≤ σ 110 h ∧ σ 110 h ≤ 50) (hR : mR σ s0 h S0) (hO : wOk (fN σ) S0) (hS : S0.2.1 = 0)
    (k : ∀ s, mGh h s0 s → mR σ s h (wRs (fN σ) t (wWf σ a dr h) S0) → s 132 h = σ 110 h * max 0 (20 - a) → Q none s) : aEv (d + 3) true 202 [vr 96, vi h, vl dr] s0 Q := by
  have hn := hN.1
  unfold Nn at hn
  have hW := wN_of hN
  have n5 : fN σ 96 5 = σ 96 5 := fN_5
  have n6 : fN σ 96 6 = σ 96 6 := fN_6
  have wb := wWf_b (σ := σ) (a := a) (dr := dr) (h := h) b0.1 b0.2 a0.1 d0.1 d0.2
  refine e202 (b202_0 (c201 hG h0 z0 ea a0 d0 b0 ⟨_, rfl, b202_6_1 ?_⟩))
  generalize hw : wWf σ a dr h = w at *
  have i0 : mGh h s0 (sw s0 132 (fu (s0 132) h (σ 110 h * max 0 (20 - a)))) := ⟨Fg_w Fg_r (by decide), fun j _ => by rw [sw_n (by decide)], fun p x _ _ _ => by rw [sw_n (by decide)], fun j hj => by rw [sw_s, fu_n hj]⟩
  have i1 : mR σ (sw s0 132 (fu (s0 132) h (σ 110 h * max 0 (20 - a)))) h S0 := by
    unfold mR
    rw [sw_n (show (126 : Nat) ≠ 132 by decide), sw_n (show (127 : Nat) ≠ 132 by decide), sw_n (show (128 : Nat) ≠ 132 by decide)]
    exact hR
  have i2 : (sw s0 132 (fu (s0 132) h (σ 110 h * max 0 (20 - a)))) 132 h = σ 110 h * max 0 (20 - a) := by rw [sw_s, fu_s]
  generalize sw s0 132 (fu (s0 132) h (σ 110 h * max 0 (20 - a))) = s1 at i0 i1 i2
  have hx : w = w - S0.2.1 := by omega
  rw [hx]
  refine lp_m2 (X := fun (S : wSt) s => Yx (d + 3) cd202 0 Q 8 [vr 96, vi h, vt, vt, vi (w - S.2.1), vt, vt, vt, vt] [] s) (I := fun S s => mGh h s0 s ∧ mR σ s h S ∧ s 132 h = σ 110 h * max 0 (20 - a) ∧ wOk (fN σ) S ∧ S.2.1 ≤ w ∧ wRs (fN σ) t w S = wRs (fN σ) t w S0) (fun S _ => (w - S.2.1).toNat) ?_ S0 s1 ⟨i0, i1, i2, hO, by omega, rfl⟩
  rintro S s ⟨j1, j2, j3, j4, j5, j6⟩ K
  have gs : mG σ s := mG_f hG j1.1 rfl rfl rfl rfl rfl rfl
  have s109 : s 109 h = t := by rw [gs.2.2.2.2.2.2.1]; exact ht
  have fb : ∀ p, 0 ≤ p → p < σ 96 6 → s 126 p = S.1 p ∧ -100 ≤ S.1 p ∧ S.1 p ≤ 100 := fun p p0 p1 => by
    have := j4.1 p p0 (by omega)
    have := hW.2.2.2.2 p p0 (by omega)
    exact ⟨(j2.1 p p0 p1).1, by omega, by omega⟩
  refine b202_8 ⟨fun z => ?_, fun z => ⟨by omega, ?_⟩⟩
  · have e := wRs_stop (ν := fN σ) (t := t) (w := w) (s := S) (Or.inl (by omega))
    rw [e] at j6
    exact k s j1 (by rw [← j6]; exact j2) j3
  rw [s109]
  refine c200 hN gs (show 0 ≤ t by omega) t1 fb (fun hx s2 f2 v66 v131 => ⟨_, rfl, b202_23_1 ⟨fun y => by omega, fun _ => ?_⟩⟩) (fun hx s2 f2 => ⟨_, rfl, b202_23_1 ⟨fun _ => ?_, fun y => absurd rfl y⟩⟩)
  · have hs : ¬ wStop (fN σ) t w S := fun y => by
      rcases y with y | y
      · omega
      · exact y hx
    have ub := wUn_b hW (show 0 ≤ t by omega) (by omega) hs
    have kb := wK_b hW (show 0 ≤ t by omega) (by omega) ub.1
    have gs2 : mG σ s2 := mG_f gs f2 rfl rfl rfl rfl rfl rfl
    have e126 : s2 126 = s 126 := Fg_k f2 rfl rfl
    have e127 : s2 127 = s 127 := Fg_k f2 rfl rfl
    have e128 : s2 128 = s 128 := Fg_k f2 rfl rfl
    have e132 : s2 132 = s 132 := Fg_k f2 rfl rfl
    obtain ⟨d1, d2, d3, d4, -⟩ := mG_n gs2
    refine for_up (X := fun i m => Yx (d + 3) cd202 0 Q 36 [vr 96, vi h, vt, vt, vi (w - S.2.1), vi m, vi 0, vi i, vt] [] s2) (I := fun i m => 0 ≤ i ∧ i ≤ (wK (fN σ) S.1 t : Int) ∧ m = wM (fN σ) S.1 t (w - S.2.1) i.toNat) (N := (wK (fN σ) S.1 t : Int)) ?_ ?_ 0 _ ⟨Int.le_refl _, by omega, rfl⟩
    · rintro i m hi ⟨i0, i1, rfl⟩ K2
      have ei : ((i.toNat : Nat) : Int) = i := by omega
      have hq := v131 i.toNat (by omega)
      rw [ei] at hq
      have ok := (wI_ok hW (show 0 ≤ t by omega) (by omega) ub.1 (i := i.toNat) (by omega)).1
      have p0 := ok.1
      have p1 := ok.2.1
      have hp := hW.2.2.2.2 _ p0 p1
      have fbp := fb _ p0 (by omega)
      have hr := ok.2.2.1.1.1
      have er : wRm (fN σ) S.1 (wI (fN σ) S.1 t i.toNat) = fN σ 104 (wI (fN σ) S.1 t i.toNat) - ((S.1 (wI (fN σ) S.1 t i.toNat)).natAbs : Int) := by
        unfold wRm at hr ⊢
        split at hr
        · rename_i ho
          rw [if_pos ho]
        · omega
      have e2 : (i + 1).toNat = i.toNat + 1 := by omega
      refine b202_36 ⟨fun z => by omega, fun _ => ?_⟩
      rw [hq, d4, e126, fbp.1, ← er]
      exact ⟨by omega, by omega, by omega, by omega, by omega, by omega, by omega, K2 _ ⟨by omega, by omega, by rw [e2]; rfl⟩⟩
    rintro i m hi ⟨i0, i1, rfl⟩
    have ei : i = (wK (fN σ) S.1 t : Int) := by omega
    subst ei
    refine b202_36 ⟨fun _ => ?_, fun z => by omega⟩
    have em : wM (fN σ) S.1 t (w - S.2.1) ((wK (fN σ) S.1 t : Nat) : Int).toNat = wUn (fN σ) t w S := by
      rw [Int.toNat_natCast]
      rfl
    rw [em]
    refine for_up (X := fun i s => Yx (d + 3) cd202 0 Q 89 [vr 96, vi h, vt, vt, vi (w - S.2.1), vi (wUn (fN σ) t w S), vi (wV (fN σ) S.1 t i.toNat), vi i, vt] [] s) (I := fun i v => 0 ≤ i ∧ i ≤ (wK (fN σ) S.1 t : Int) ∧ Fr [126, 128] s2 v ∧ (∀ p, 0 ≤ p → p < σ 96 6 → v 126 p = wL (fN σ) S.1 t (wUn (fN σ) t w S) i.toNat p ∧ v 128 (20 * h + p) = wT (fN σ) S.1 t (wUn (fN σ) t w S) S.2.2 i.toNat p) ∧ (∀ p x, 0 ≤ p → p < 20 → x ≠ h → v 128 (20 * x + p) = s2 128 (20 * x + p))) (N := (wK (fN σ) S.1 t : Int)) ?_ ?_ 0 s2 ⟨Int.le_refl _, by omega, Fr_r, by rw [e126, e128]; exact j2.1, fun _ _ _ _ _ => rfl⟩
    · rintro i v hi ⟨i0, i1, i2, i3, i4⟩ K2
      have ei : ((i.toNat : Nat) : Int) = i := by omega
      have hq := v131 i.toNat (by omega)
      rw [ei] at hq
      have gv : mG σ v := mG_f gs2 (Fg_F (P := []) i2) rfl rfl rfl rfl rfl rfl
      obtain ⟨c1, c2, c3, c4, -⟩ := mG_n gv
      obtain ⟨ok, ok2, ok3⟩ := wI_ok hW (show 0 ≤ t by omega) (by omega) ub.1 (i := i.toNat) (by omega)
      have p0 := ok.1
      have p1 := ok.2.1
      obtain ⟨v126, v128⟩ := i3 _ p0 (by omega)
      have u131 : v 131 i = wI (fN σ) S.1 t i.toNat := by rw [i2 131 (by decide)]; exact hq
      have u66 : v 96 66 = (wK (fN σ) S.1 t : Int) := by rw [i2 96 (by decide)]; exact v66
      have e2 : (i + 1).toNat = i.toNat + 1 := by omega
      have nw := wL_new (u := wUn (fN σ) t w S) hW (show 0 ≤ t by omega) (by omega) ub.1 (i := i.toNat) (by omega)
      have nt := wT_new (u := wUn (fN σ) t w S) (q := S.2.2) hW (show 0 ≤ t by omega) (by omega) ub.1 (i := i.toNat) (by omega)
      have fbp := fb _ p0 (by omega)
      have qb := j4.2.1 (wI (fN σ) S.1 t i.toNat)
      have eo : (if fN σ 101 (wI (fN σ) S.1 t i.toNat) = wV (fN σ) S.1 t i.toNat then fN σ 102 (wI (fN σ) S.1 t i.toNat) else fN σ 101 (wI (fN σ) S.1 t i.toNat)) = wV (fN σ) S.1 t (i + 1).toNat := by
        rw [e2, ok2]
        rfl
      have nx : ∀ u', (∀ p, 0 ≤ p → p < σ 96 6 → u' 126 p = wL (fN σ) S.1 t (wUn (fN σ) t w S) (i + 1).toNat p ∧ u' 128 (20 * h + p) = wT (fN σ) S.1 t (wUn (fN σ) t w S) S.2.2 (i + 1).toNat p) → (∀ p x, 0 ≤ p → p < 20 → x ≠ h → u' 128 (20 * x + p) = s2 128 (20 * x + p)) → Fr [126, 128] s2 u' → Yx (d + 3) cd202 0 Q 89 [vr 96, vi h, vt, vt, vi (w - S.2.1), vi (wUn (fN σ) t w S), vi (wV (fN σ) S.1 t (i + 1).toNat), vi (i + 1), vt] [] u' := fun u' x y z => K2 u' ⟨by omega, by omega, z, x, y⟩
      refine b202_89 ⟨fun z => by omega, fun _ => ?_⟩
      rw [u131, v126, v128, c1, c2, eo, nw, nt]
      have ul := ub.2.2.2
      refine ⟨by omega, by omega, by omega, fun _ => by omega, by split <;> omega, by omega, by omega, by omega, by omega, by omega, by omega, by omega, by omega, nx _ (fun p q0 q1 => ?_) (fun p x q0 q1 hx => ?_) (Fr_w (Fr_w i2 (by decide)) (by decide))⟩
      · obtain ⟨z126, z128⟩ := i3 p q0 q1
        simp only [sw_n (show (126 : Nat) ≠ 128 by decide), sw_s]
        rw [e2]
        by_cases e : p = wI (fN σ) S.1 t i.toNat
        · subst e
          rw [fu_s, fu_s]
          refine ⟨?_, ?_⟩
          · show _ = fu (wL (fN σ) S.1 t (wUn (fN σ) t w S) i.toNat) (wI (fN σ) S.1 t i.toNat) (wL (fN σ) S.1 t (wUn (fN σ) t w S) i.toNat (wI (fN σ) S.1 t i.toNat) + (if ¬ fN σ 101 (wI (fN σ) S.1 t i.toNat) = wV (fN σ) S.1 t i.toNat then -(wUn (fN σ) t w S) else (wUn (fN σ) t w S))) (wI (fN σ) S.1 t i.toNat)
            rw [fu_s, nw]
          · show _ = fu (wT (fN σ) S.1 t (wUn (fN σ) t w S) S.2.2 i.toNat) (wI (fN σ) S.1 t i.toNat) (wT (fN σ) S.1 t (wUn (fN σ) t w S) S.2.2 i.toNat (wI (fN σ) S.1 t i.toNat) + wUn (fN σ) t w S) (wI (fN σ) S.1 t i.toNat)
            rw [fu_s, nt]
        · rw [fu_n e, fu_n (by omega), z126, z128]
          refine ⟨?_, ?_⟩
          · show _ = fu (wL (fN σ) S.1 t (wUn (fN σ) t w S) i.toNat) (wI (fN σ) S.1 t i.toNat) (wL (fN σ) S.1 t (wUn (fN σ) t w S) i.toNat (wI (fN σ) S.1 t i.toNat) + (if ¬ fN σ 101 (wI (fN σ) S.1 t i.toNat) = wV (fN σ) S.1 t i.toNat then -(wUn (fN σ) t w S) else (wUn (fN σ) t w S))) p
            rw [fu_n e]
          · show _ = fu (wT (fN σ) S.1 t (wUn (fN σ) t w S) S.2.2 i.toNat) (wI (fN σ) S.1 t i.toNat) (wT (fN σ) S.1 t (wUn (fN σ) t w S) S.2.2 i.toNat (wI (fN σ) S.1 t i.toNat) + wUn (fN σ) t w S) p
            rw [fu_n e]
      · rw [sw_s, fu_n (by omega)]
        exact i4 p x q0 q1 hx
    · rintro i v hi ⟨i0, i1, i2, i3, i4⟩
      have ei : i = (wK (fN σ) S.1 t : Int) := by omega
      subst ei
      rw [Int.toNat_natCast] at i3
      have v127 : v 127 h = S.2.1 := by rw [i2 127 (by decide), e127]; exact j2.2
      have u66 : v 96 66 = (wK (fN σ) S.1 t : Int) := by rw [i2 96 (by decide)]; exact v66
      have ul := ub.2.2.2
      have g0 := j4.2.2
      refine b202_89 ⟨fun _ => ?_, fun z => by omega⟩
      rw [v127]
      refine ⟨by omega, by omega, by omega, by omega, ?_⟩
      rw [show w - S.2.1 - wUn (fN σ) t w S = w - (wSp (fN σ) t w S).2.1 by show w - S.2.1 - wUn (fN σ) t w S = w - (S.2.1 + wUn (fN σ) t w S); omega]
      refine K (wSp (fN σ) t w S) _ ⟨mGh_t j1 ⟨Fg_w (Fg_t (Fg_m f2 (by decide) (by decide)) (Fg_F (Fr_s i2 (by decide)))) (by decide), fun j hj => ?_, fun p x p0 p1 hx => ?_, fun j hj => ?_⟩, ⟨fun p p0 p1 => ?_, ?_⟩, ?_, wOk_s hW (by omega) (by omega) hs j4, ?_, ?_⟩ ?_
      · rw [sw_s, fu_n hj, i2 127 (by decide), e127]
      · rw [sw_n (by decide), i4 p x p0 p1 hx, e128]
      · rw [sw_n (by decide), i2 132 (by decide), e132]
      · rw [sw_n (show (126 : Nat) ≠ 127 by decide), sw_n (show (128 : Nat) ≠ 127 by decide)]
        exact i3 p p0 p1
      · rw [sw_s, fu_s]
        rfl
      · rw [sw_n (by decide), i2 132 (by decide), e132]
        exact j3
      · show S.2.1 + wUn (fN σ) t w S ≤ w
        omega
      · rw [← j6]
        exact (wRs_go hW (by omega) (by omega) hs).symm
      · show (w - (S.2.1 + wUn (fN σ) t w S)).toNat < (w - S.2.1).toNat
        omega
  · have e := wRs_stop (ν := fN σ) (t := t) (w := w) (s := S) (Or.inr hx)
    rw [e] at j6
    refine k s2 (mGh_t j1 ⟨Fg_m f2 (by decide) (by decide), fun j _ => by rw [Fg_k f2 rfl rfl], fun p x _ _ _ => by rw [Fg_k f2 rfl rfl], fun j _ => by rw [Fg_k f2 rfl rfl]⟩) ?_ ?_
    · rw [← j6]
      unfold mR
      rw [Fg_k f2 (k := 126) rfl rfl, Fg_k f2 (k := 127) rfl rfl, Fg_k f2 (k := 128) rfl rfl]
      exact j2
    · rw [Fg_k f2 (k := 132) rfl rfl]
      exact j3
end
