section
/-! flows: the component takes a way, serves a house -/
def wR (σ s : aW) (h : Int) (S : wSt) : Prop := (∀ p, 0 ≤ p → p < σ 96 6 → s 17 p = S.1 p ∧ s 21 p = wRm (fN σ) S.1 p ∧ s 20 (p * 16 + h) = S.2.2 p) ∧ s 19 h = S.2.1
/-- what serving house h may change -/
def wGh (h : Int) (s s' : aW) : Prop := Fg [17, 19, 20, 21, 23, 24] [] s s' ∧ (∀ j, j ≠ h → s' 19 j = s 19 j) ∧ (∀ p x, 0 ≤ p → 0 ≤ x → x < 16 → x ≠ h → s' 20 (p * 16 + x) = s 20 (p * 16 + x))
theorem wGh_r {h : Int} {s : aW} : wGh h s s := ⟨Fg_r, fun _ _ => rfl, fun _ _ _ _ _ _ => rfl⟩
theorem wGh_t {h : Int} {s s' s'' : aW} (a : wGh h s s') (b : wGh h s' s'') : wGh h s s'' := ⟨Fg_t a.1 b.1, fun j hj => (b.2.1 j hj).trans (a.2.1 j hj), fun p x p0 x0 x1 hx => (b.2.2 p x p0 x0 x1 hx).trans (a.2.2 p x p0 x0 x1 hx)⟩
theorem wGh_F {h : Int} {s s' : aW} (a : Fr [23, 24] s s') : wGh h s s' := ⟨Fg_F (Fr_s a (by decide)), fun j _ => by rw [a 19 (by decide)], fun p x _ _ _ _ => by rw [a 20 (by decide)]⟩
theorem c10 {d : Nat} {Q : aQ} {σ s0 : aW} {h t w : Int} {S : wSt} (hN : INet σ) (hG : wG σ s0) (h0 : 0 ≤ h ∧ h < 16) (t0 : 0 ≤ t) (t1 : t < σ 96 5) (hR : wR σ s0 h S) (hO : wOk (fN σ) S) (hw : s0 18 h = w) (w1 : w ≤ 10000) (hs : ¬ wStop (fN σ) t w S) (hI : ∀ j : Nat, j < wK (fN σ) S.1 t → s0 24 j = wI (fN σ) S.1 t j)
    (k : ∀ s, wGh h s0 s → wR σ s h (wSp (fN σ) t w S) → Q none s) : aEv (d + 1) true 10 [vr 16, vi h, vi (wK (fN σ) S.1 t)] s0 Q := by
  have hn := hN.1
  unfold Nn at hn
  have hW := wN_of hN
  have n5 : fN σ 96 5 = σ 96 5 := fN_5
  have n6 : fN σ 96 6 = σ 96 6 := fN_6
  have ub := wUn_b hW t0 (by omega) hs
  have ur := wUn_r hW t0 (by omega) hs
  have kb := wK_b hW t0 (by omega) ub.1
  have g0 := hO.2.2
  have hR2 := hR.2
  refine e10 (b10_0 ⟨by omega, by omega, by omega, ?_⟩)
  rw [hw, hR2]
  refine for_up2 (X := fun i m s => Yx (d + 1) cd10 0 Q 17 [vr 16, vi h, vi (wK (fN σ) S.1 t), vi m, vi i, vt, vt, vt] [] s) (I := fun i m s => 0 ≤ i ∧ i ≤ (wK (fN σ) S.1 t : Int) ∧ s = s0 ∧ m = wM (fN σ) S.1 t (w - S.2.1) i.toNat) (N := (wK (fN σ) S.1 t : Int)) ?_ ?_ 0 _ s0 ⟨Int.le_refl _, by omega, rfl, rfl⟩
  · rintro i m s hi ⟨i0, i1, rfl, rfl⟩ K
    have ei : ((i.toNat : Nat) : Int) = i := by omega
    have hq := hI i.toNat (by omega)
    rw [ei] at hq
    have ok := (wI_ok hW t0 (by omega) ub.1 (i := i.toNat) (by omega)).1
    have p0 := ok.1
    have p1 := ok.2.1
    have e2 : (i + 1).toNat = i.toNat + 1 := by omega
    refine b10_17 ⟨fun z => by omega, fun _ => ?_⟩
    rw [hq, (hR.1 _ p0 (by omega)).2.1]
    exact ⟨by omega, by omega, by omega, K _ _ ⟨by omega, by omega, rfl, by rw [e2]; rfl⟩⟩
  rintro i m s hi ⟨i0, i1, rfl, rfl⟩
  have ei : i = (wK (fN σ) S.1 t : Int) := by omega
  subst ei
  refine b10_17 ⟨fun _ => ?_, fun z => by omega⟩
  have em : wM (fN σ) S.1 t (w - S.2.1) ((wK (fN σ) S.1 t : Nat) : Int).toNat = wUn (fN σ) t w S := by
    rw [Int.toNat_natCast]
    rfl
  rw [em]
  refine for_up (X := fun i s => Yx (d + 1) cd10 0 Q 52 [vr 16, vi h, vi (wK (fN σ) S.1 t), vi (wUn (fN σ) t w S), vi (wV (fN σ) S.1 t i.toNat), vi i, vt, vt] [] s) (I := fun i v => 0 ≤ i ∧ i ≤ (wK (fN σ) S.1 t : Int) ∧ Fr [17, 20, 21] s v ∧ (∀ p, 0 ≤ p → p < σ 96 6 → v 17 p = wL (fN σ) S.1 t (wUn (fN σ) t w S) i.toNat p ∧ v 21 p = wRm (fN σ) (wL (fN σ) S.1 t (wUn (fN σ) t w S) i.toNat) p ∧ v 20 (p * 16 + h) = wT (fN σ) S.1 t (wUn (fN σ) t w S) S.2.2 i.toNat p) ∧ (∀ p x, 0 ≤ p → 0 ≤ x → x < 16 → x ≠ h → v 20 (p * 16 + x) = s 20 (p * 16 + x))) (N := (wK (fN σ) S.1 t : Int)) ?_ ?_ 0 s ⟨Int.le_refl _, by omega, Fr_r, hR.1, fun _ _ _ _ _ _ => rfl⟩
  · rintro i v hi ⟨i0, i1, i2, i3, i4⟩ K
    have ei : ((i.toNat : Nat) : Int) = i := by omega
    have hq := hI i.toNat (by omega)
    rw [ei] at hq
    have g1 : wG σ v := Fg_t hG (Fg_F (Fr_s i2 (by decide)))
    obtain ⟨ok, ok2, ok3⟩ := wI_ok hW t0 (by omega) ub.1 (i := i.toNat) (by omega)
    have p0 := ok.1
    have p1 := ok.2.1
    obtain ⟨c2, c3, -⟩ := wG_p hN g1 p0 (by omega)
    obtain ⟨v17, v21, v20⟩ := i3 _ p0 (by omega)
    have v24 : v 24 i = wI (fN σ) S.1 t i.toNat := by rw [i2 24 (by decide)]; exact hq
    have e2 : (i + 1).toNat = i.toNat + 1 := by omega
    have r1 := wL_rm (u := wUn (fN σ) t w S) hW t0 (by omega) ub.1 (by omega) (i := i.toNat) (by omega)
    have fb := hO.1 _ p0 p1
    have hp := hW.2.2.2.2 _ p0 p1
    have nw := wL_new (u := wUn (fN σ) t w S) hW t0 (by omega) ub.1 (i := i.toNat) (by omega)
    have nt := wT_new (u := wUn (fN σ) t w S) (q := S.2.2) hW t0 (by omega) ub.1 (i := i.toNat) (by omega)
    have qb := hO.2.1 (wI (fN σ) S.1 t i.toNat)
    have rb : -10000 ≤ wRm (fN σ) S.1 (wI (fN σ) S.1 t i.toNat) ∧ wRm (fN σ) S.1 (wI (fN σ) S.1 t i.toNat) ≤ 60 := by
      unfold wRm
      split <;> omega
    have eo : (if ¬ fN σ 101 (wI (fN σ) S.1 t i.toNat) = wV (fN σ) S.1 t i.toNat then fN σ 101 (wI (fN σ) S.1 t i.toNat) else fN σ 102 (wI (fN σ) S.1 t i.toNat)) = wV (fN σ) S.1 t (i + 1).toNat := by
      rw [e2, ok2]
      unfold wO
      by_cases e4 : fN σ 101 (wI (fN σ) S.1 t i.toNat) = wV (fN σ) S.1 t i.toNat
      · rw [if_neg (fun w => w e4), if_pos e4]
      · rw [if_pos e4, if_neg e4]
    have nx : ∀ u', (∀ p, 0 ≤ p → p < σ 96 6 → u' 17 p = wL (fN σ) S.1 t (wUn (fN σ) t w S) (i + 1).toNat p ∧ u' 21 p = wRm (fN σ) (wL (fN σ) S.1 t (wUn (fN σ) t w S) (i + 1).toNat) p ∧ u' 20 (p * 16 + h) = wT (fN σ) S.1 t (wUn (fN σ) t w S) S.2.2 (i + 1).toNat p) → (∀ p x, 0 ≤ p → 0 ≤ x → x < 16 → x ≠ h → u' 20 (p * 16 + x) = s 20 (p * 16 + x)) → Fr [17, 20, 21] s u' → Yx (d + 1) cd10 0 Q 52 [vr 16, vi h, vi (wK (fN σ) S.1 t), vi (wUn (fN σ) t w S), vi (wV (fN σ) S.1 t (i + 1).toNat), vi (i + 1), vt, vt] [] u' := fun u' a b c => K u' ⟨by omega, by omega, c, a, b⟩
    refine b10_52 ⟨fun z => by omega, fun _ => ?_⟩
    rw [v24, v17, v21, v20, c2, c3, eo, nw, nt, r1.2.1]
    have ul := ub.2.2.2
    refine ⟨by omega, by omega, by omega, fun _ => by omega, by split <;> omega, by omega, by omega, by omega, by omega, by omega, by omega, by omega, by omega, by omega, fun _ => by omega, fun _ => by omega, by omega, nx _ (fun p q0 q1 => ?_) (fun p x q0 x0 x1 hx => ?_) (Fr_w (Fr_w (Fr_w i2 (by decide)) (by decide)) (by decide))⟩
    · obtain ⟨z17, z21, z20⟩ := i3 p q0 q1
      simp only [sw_n (show (17 : Nat) ≠ 20 by decide), sw_n (show (17 : Nat) ≠ 21 by decide), sw_n (show (21 : Nat) ≠ 20 by decide), sw_s]
      rw [e2]
      by_cases e : p = wI (fN σ) S.1 t i.toNat
      · subst e
        rw [fu_s, fu_s, fu_s, r1.1, r1.2.1]
        refine ⟨?_, rfl, ?_⟩
        · show _ = fu (wL (fN σ) S.1 t (wUn (fN σ) t w S) i.toNat) (wI (fN σ) S.1 t i.toNat) (wL (fN σ) S.1 t (wUn (fN σ) t w S) i.toNat (wI (fN σ) S.1 t i.toNat) + (if ¬ fN σ 101 (wI (fN σ) S.1 t i.toNat) = wV (fN σ) S.1 t i.toNat then -(wUn (fN σ) t w S) else (wUn (fN σ) t w S))) (wI (fN σ) S.1 t i.toNat)
          rw [fu_s, nw]
        · show _ = fu (wT (fN σ) S.1 t (wUn (fN σ) t w S) S.2.2 i.toNat) (wI (fN σ) S.1 t i.toNat) (wT (fN σ) S.1 t (wUn (fN σ) t w S) S.2.2 i.toNat (wI (fN σ) S.1 t i.toNat) + wUn (fN σ) t w S) (wI (fN σ) S.1 t i.toNat)
          rw [fu_s, nt]
      · rw [fu_n e, fu_n e, fu_n (by omega), z17, z21, z20, r1.2.2 p e]
        refine ⟨?_, rfl, ?_⟩
        · show _ = fu (wL (fN σ) S.1 t (wUn (fN σ) t w S) i.toNat) (wI (fN σ) S.1 t i.toNat) (wL (fN σ) S.1 t (wUn (fN σ) t w S) i.toNat (wI (fN σ) S.1 t i.toNat) + (if ¬ fN σ 101 (wI (fN σ) S.1 t i.toNat) = wV (fN σ) S.1 t i.toNat then -(wUn (fN σ) t w S) else (wUn (fN σ) t w S))) p
          rw [fu_n e]
        · show _ = fu (wT (fN σ) S.1 t (wUn (fN σ) t w S) S.2.2 i.toNat) (wI (fN σ) S.1 t i.toNat) (wT (fN σ) S.1 t (wUn (fN σ) t w S) S.2.2 i.toNat (wI (fN σ) S.1 t i.toNat) + wUn (fN σ) t w S) p
          rw [fu_n e]
    · rw [sw_s, fu_n (by omega)]
      exact i4 p x q0 x0 x1 hx
  · rintro i v hi ⟨i0, i1, i2, i3, i4⟩
    have ei : i = (wK (fN σ) S.1 t : Int) := by omega
    subst ei
    rw [Int.toNat_natCast] at i3
    have v19 : v 19 h = S.2.1 := by rw [i2 19 (by decide)]; exact hR2
    have ul := ub.2.2.2
    refine b10_52 ⟨fun _ => ⟨by omega, by omega, by omega, k _ ⟨Fg_w (Fg_F (Fr_s i2 (by decide))) (by decide), fun j hj => ?_, fun p x p0 x0 x1 hx => ?_⟩ ⟨fun p p0 p1 => ?_, ?_⟩⟩, fun z => by omega⟩
    · rw [sw_s, fu_n hj, i2 19 (by decide)]
    · rw [sw_n (by decide)]
      exact i4 p x p0 x0 x1 hx
    · rw [sw_n (show (17 : Nat) ≠ 19 by decide), sw_n (show (21 : Nat) ≠ 19 by decide), sw_n (show (20 : Nat) ≠ 19 by decide)]
      exact i3 p p0 p1
    · rw [sw_s, fu_s, v19]
      rfl
end
