section
/-! flows: the component's way -/
theorem c9 {d : Nat} {Q : aQ} {σ s : aW} {f : Int → Int} {t n : Int} (hN : INet σ) (hG : wG σ s) (hf : ∀ p, 0 ≤ p → p < σ 96 6 → s 17 p = f p ∧ s 21 p = wRm (fN σ) f p) (hD : ∀ n, 0 ≤ n → n < σ 96 5 → s 23 n = wDs (fN σ) f t n) (hb : ∀ n, 0 ≤ n → n < σ 96 5 → 0 ≤ wDs (fN σ) f t n ∧ wDs (fN σ) f t n ≤ 1000000) (n0 : 0 ≤ n) (n1 : n < σ 96 5)
    (k1 : ∀ p, wF (fN σ) f t p n → wDs (fN σ) f t n < 1000000 → Q (some (vi p)) s) (k0 : (∀ p, 0 ≤ p → p < σ 96 6 → ¬ (wC (fN σ) f p n ∧ wDs (fN σ) f t n = wDs (fN σ) f t (wO (fN σ) p n) + fN σ 103 p)) ∨ ¬ wDs (fN σ) f t n < 1000000 → Q (some (vi (-1))) s) : aEv (d + 0) true 9 [vr 16, vi n] s Q := by
  have hn := hN.1
  unfold Nn at hn
  have hW := wN_of hN
  have n5 : fN σ 96 5 = σ 96 5 := fN_5
  have n6 : fN σ 96 6 = σ 96 6 := fN_6
  have o1 := wG_1 hN hG
  have hDn := hD n n0 n1
  have hbn := hb n n0 n1
  refine e9 (b9_0 ?_)
  refine for_up (X := fun p (_ : Int) => Yx (d + 0) cd9 1 Q 2 [vr 16, vi n, vi p, vt, vt, vt] [] s) (I := fun p _ => 0 ≤ p ∧ p ≤ σ 96 6 ∧ ∀ q, 0 ≤ q → q < p → ¬ (wC (fN σ) f q n ∧ wDs (fN σ) f t n = wDs (fN σ) f t (wO (fN σ) q n) + fN σ 103 q)) (N := σ 96 6) ?_ ?_ 0 0 ⟨Int.le_refl _, by omega, fun q q0 q1 => by omega⟩
  · rintro p - hp ⟨p0, p1, p2⟩ K
    obtain ⟨c2, c3, c4, -⟩ := wG_p hN hG p0 hp
    obtain ⟨s17, s21⟩ := hf p p0 hp
    have hq := hW.2.2.2.2 p p0 (by omega)
    have dA := hD (fN σ 101 p) (by omega) (by omega)
    have dB := hD (fN σ 102 p) (by omega) (by omega)
    have bA := hb (fN σ 101 p) (by omega) (by omega)
    have bB := hb (fN σ 102 p) (by omega) (by omega)
    have no : ¬ (wC (fN σ) f p n ∧ wDs (fN σ) f t n = wDs (fN σ) f t (wO (fN σ) p n) + fN σ 103 p) → Yx (d + 0) cd9 1 Q 2 [vr 16, vi n, vi (p + 1), vt, vt, vt] [] s := fun z => K 0 ⟨by omega, by omega, fun q q0 q1 => by
      by_cases e : q = p
      · rw [e]
        exact z
      · exact p2 q q0 (by omega)⟩
    have yes : (wC (fN σ) f p n ∧ wDs (fN σ) f t n = wDs (fN σ) f t (wO (fN σ) p n) + fN σ 103 p) → wDs (fN σ) f t n < 1000000 → Q (some (vi p)) s := fun z z2 => k1 p ⟨p0, by omega, z, p2⟩ z2
    have kF := fun z => k0 (Or.inr z)
    clear K k0 k1 p2
    unfold wC wO at no yes
    refine b9_2 ⟨by omega, fun z => kF (by omega), fun hfar => ⟨fun z => by omega, fun _ => ?_⟩⟩
    rw [hDn] at hfar
    rw [s17, s21, c2, c3, c4, hDn]
    by_cases eA : fN σ 101 p = n
    · rw [if_pos eA] at no yes
      rw [eA] at hq
      have eB : ¬ fN σ 102 p = n := by omega
      by_cases ef : f p < 0
      · (repeat' first | with_reducible apply And.intro | with_reducible intro _)
        all_goals first
          | omega
          | exact no (by omega)
      · simp only [if_neg ef, dB]
        (repeat' first | with_reducible apply And.intro | with_reducible intro _)
        all_goals first
          | omega
          | exact no (by omega)
          | exact yes (by omega) (by omega)
    · rw [if_neg eA] at no yes
      simp only [dA]
      (repeat' first | with_reducible apply And.intro | with_reducible intro _)
      all_goals first
        | omega
        | exact no (by omega)
        | exact yes (by omega) (by omega)
  · rintro p - hp ⟨p0, p1, p2⟩
    refine b9_2 ⟨by omega, fun z => k0 (Or.inr (by omega)), fun _ => ⟨fun _ => k0 (Or.inl (fun q q0 q1 => p2 q q0 (by omega))), fun z => by omega⟩⟩
theorem c8 {d : Nat} {Q : aQ} {σ s0 : aW} {f : Int → Int} {t : Int} (hN : INet σ) (hG : wG σ s0) (hf : ∀ p, 0 ≤ p → p < σ 96 6 → s0 17 p = f p ∧ s0 21 p = wRm (fN σ) f p) (hD : ∀ n, 0 ≤ n → n < σ 96 5 → s0 23 n = wDs (fN σ) f t n) (t0 : 1 ≤ t) (t1 : t < σ 96 5)
    (k1 : wDs (fN σ) f t 0 < 1000000 → ∀ s, Fr [24] s0 s → (∀ j : Nat, j < wK (fN σ) f t → s 24 j = wI (fN σ) f t j) → 1 ≤ wK (fN σ) f t → Q (some (vi (wK (fN σ) f t))) s) (k0 : ¬ wDs (fN σ) f t 0 < 1000000 → Q (some (vi 0)) s0) : aEv (d + 1) true 8 [vr 16, vi t] s0 Q := by
  have hn := hN.1
  unfold Nn at hn
  have hW := wN_of hN
  have n5 : fN σ 96 5 = σ 96 5 := fN_5
  have n6 : fN σ 96 6 = σ 96 6 := fN_6
  have hE := wDs_ok (f := f) hW (show 0 ≤ t by omega) (by omega)
  have hb : ∀ n, 0 ≤ n → n < σ 96 5 → 0 ≤ wDs (fN σ) f t n ∧ wDs (fN σ) f t n ≤ 1000000 := fun n n0 n1 => hE.1.2.1 n n0 (by omega)
  refine e8 (b8_0 ?_)
  rcases Classical.em (wDs (fN σ) f t 0 < 1000000) with hx | hx
  · refine for_up (X := fun i s => Yx (d + 1) cd8 1 Q 4 [vr 16, vi t, vi (wV (fN σ) f t i.toNat), vi i, vt] [] s) (I := fun i s => 0 ≤ i ∧ Fr [24] s0 s ∧ (∀ j : Nat, j < i.toNat → wV (fN σ) f t j ≠ t) ∧ (∀ j : Nat, j < i.toNat → s 24 j = wI (fN σ) f t j)) (N := 12) ?_ ?_ 0 s0 ⟨Int.le_refl _, Fr_r, fun j hj => absurd hj (Nat.not_lt_zero _), fun j hj => absurd hj (Nat.not_lt_zero _)⟩
    · rintro i s hi ⟨i0, i1, i2, i3⟩ K
      have a := wV_ok hW (show 0 ≤ t by omega) (by omega) hx i.toNat i2
      have g1 : wG σ s := Fg_t hG (Fg_F (Fr_s i1 (by decide)))
      refine b8_4 ⟨fun z => ?_, fun z => ⟨fun z2 => by omega, fun _ => ?_⟩⟩
      · have ek := wK_u (ν := fN σ) (f := f) (t := t) (k := i.toNat) ⟨z, i2⟩
        rw [if_neg (fun w => w z)]
        have e1 : i = ((wK (fN σ) f t : Nat) : Int) := by omega
        have hk := k1 hx s i1 (fun j hj => i3 j (by omega)) (by
          apply Classical.byContradiction
          intro w
          have e0 : i.toNat = 0 := by omega
          rw [e0] at z
          have : (0 : Int) = t := z
          omega)
        rw [← e1] at hk
        exact hk
      · refine c9 (t := t) hN g1 (by rw [i1 17 (by decide), i1 21 (by decide)]; exact hf) (by rw [i1 23 (by decide)]; exact hD) hb a.1 (by omega) (fun p hp _ => ⟨p, rfl, b8_20_1 ?_⟩) (fun w => ?_)
        · have ep := wP_u hp
          obtain ⟨p0, p1, -, -⟩ := hp
          obtain ⟨c2, c3, -⟩ := wG_p hN g1 p0 (by omega)
          rw [c2, c3]
          refine ⟨fun _ => ⟨by omega, by omega, by omega, fun _ => by omega, fun _ => by omega, ?_⟩, fun w => by omega⟩
          have e2 : (i + 1).toNat = i.toNat + 1 := by omega
          have e3 : (if ¬ fN σ 101 p = wV (fN σ) f t i.toNat then fN σ 101 p else fN σ 102 p) = wV (fN σ) f t (i + 1).toNat := by
            rw [e2]
            show _ = wO (fN σ) (wP (fN σ) f t (wV (fN σ) f t i.toNat)) (wV (fN σ) f t i.toNat)
            rw [← ep]
            unfold wO
            by_cases e4 : fN σ 101 p = wV (fN σ) f t i.toNat
            · rw [if_neg (fun w => w e4), if_pos e4]
            · rw [if_pos e4, if_neg e4]
          rw [e3]
          refine K _ ⟨by omega, Fr_w i1 (by decide), fun j hj => ?_, fun j hj => ?_⟩
          · rw [e2] at hj
            by_cases e : j = i.toNat
            · rw [e]
              exact z
            · exact i2 j (by omega)
          · rw [e2] at hj
            rw [sw_s]
            by_cases e : j = i.toNat
            · rw [show ((j : Nat) : Int) = i by omega, fu_s, e, ep]
              rfl
            · rw [fu_n (by omega)]
              exact i3 j (by omega)
        · exfalso
          have b := wP_ok hW (show 0 ≤ t by omega) (by omega) a.1 a.2.1 a.2.2.1 z
          rcases w with w | w
          · exact w _ b.1 (by have := b.2.1; omega) b.2.2.1
          · exact w a.2.2.1
    · rintro i s hi ⟨i0, i1, i2, i3⟩
      have a := wV_ok hW (show 0 ≤ t by omega) (by omega) hx i.toNat i2
      have := wB_b (D := wDs (fN σ) f t) a.1 a.2.1
      omega
  · refine b8_4 ⟨fun z => by omega, fun z => ⟨fun z2 => by omega, fun _ => ?_⟩⟩
    exact c9 (t := t) hN hG hf hD hb (Int.le_refl 0) (by omega) (fun p hp w => absurd w hx) (fun w => ⟨_, rfl, b8_20_1 ⟨fun w => absurd rfl w, fun _ => k0 hx⟩⟩)
theorem wT_off {ν : aW} {f : Int → Int} {t u p : Int} {q : Int → Int} : ∀ i : Nat, (∀ j, j < i → wI ν f t j ≠ p) → wT ν f t u q i p = q p
  | 0, _ => rfl
  | i + 1, h => by
    have e : wT ν f t u q (i + 1) p = fu (wT ν f t u q i) (wI ν f t i) (wT ν f t u q i (wI ν f t i) + u) p := rfl
    rw [e, fu_n (fun z => h i (by omega) z.symm)]
    exact wT_off i (fun j hj => h j (by omega))
theorem wT_new {ν : aW} {f : Int → Int} {t u : Int} {q : Int → Int} (hN : wN ν) (t0 : 0 ≤ t) (t1 : t < ν 96 5) (hf : wDs ν f t 0 < 1000000) {i : Nat} (hi : i < wK ν f t) : wT ν f t u q i (wI ν f t i) = q (wI ν f t i) := wT_off i (fun j hj => wI_ne hN t0 t1 hf hj hi)
theorem wL_b {ν : aW} {f : Int → Int} {t u : Int} {q : Int → Int} (hN : wN ν) (t0 : 0 ≤ t) (t1 : t < ν 96 5) (hf : wDs ν f t 0 < 1000000) (hu : 0 ≤ u) (hr : ∀ j, j < wK ν f t → u ≤ wRm ν f (wI ν f t j)) (hb : ∀ p, 0 ≤ p → p < ν 96 6 → -(ν 104 p) ≤ f p ∧ f p ≤ ν 104 p) : ∀ i : Nat, i ≤ wK ν f t → (∀ p, 0 ≤ p → p < ν 96 6 → -(ν 104 p) ≤ wL ν f t u i p ∧ wL ν f t u i p ≤ ν 104 p) ∧ (∀ p, q p ≤ wT ν f t u q i p ∧ wT ν f t u q i p ≤ q p + u)
  | 0, _ => ⟨hb, fun p => ⟨Int.le_refl _, by show q p ≤ q p + u; omega⟩⟩
  | i + 1, h => by
    obtain ⟨a1, a2⟩ := wL_b (q := q) hN t0 t1 hf hu hr hb i (by omega)
    have e0 := wL_new (u := u) hN t0 t1 hf (i := i) (by omega)
    have e1 := wT_new (u := u) (q := q) hN t0 t1 hf (i := i) (by omega)
    obtain ⟨b1, b2, b3⟩ := wI_ok hN t0 t1 hf (i := i) (by omega)
    have hp := hN.2.2.2.2 _ b1.1 b1.2.1
    have r := hr i (by omega)
    have hc := b1.2.2.1.1
    have hfb := hb _ b1.1 b1.2.1
    refine ⟨fun p p0 p1 => ?_, fun p => ?_⟩
    · show -(ν 104 p) ≤ fu (wL ν f t u i) (wI ν f t i) (wL ν f t u i (wI ν f t i) + (if ¬ ν 101 (wI ν f t i) = wV ν f t i then -u else u)) p ∧ fu (wL ν f t u i) (wI ν f t i) (wL ν f t u i (wI ν f t i) + (if ¬ ν 101 (wI ν f t i) = wV ν f t i then -u else u)) p ≤ ν 104 p
      by_cases e : p = wI ν f t i
      · rw [e, fu_s, e0]
        unfold wRm at r
        unfold wC wRm at hc
        split at r
        · split <;> omega
        · omega
      · rw [fu_n e]
        exact a1 p p0 p1
    · show q p ≤ fu (wT ν f t u q i) (wI ν f t i) (wT ν f t u q i (wI ν f t i) + u) p ∧ fu (wT ν f t u q i) (wI ν f t i) (wT ν f t u q i (wI ν f t i) + u) p ≤ q p + u
      by_cases e : p = wI ν f t i
      · rw [e, fu_s, e1]
        omega
      · rw [fu_n e]
        exact a2 p
def wOk (ν : aW) (S : wSt) : Prop := (∀ p, 0 ≤ p → p < ν 96 6 → -(ν 104 p) ≤ S.1 p ∧ S.1 p ≤ ν 104 p) ∧ (∀ p, 0 ≤ S.2.2 p ∧ S.2.2 p ≤ S.2.1) ∧ 0 ≤ S.2.1
theorem wUn_r {ν : aW} {t w : Int} {s : wSt} (hN : wN ν) (t0 : 0 ≤ t) (t1 : t < ν 96 5) (h : ¬ wStop ν t w s) : (∀ j, j < wK ν s.1 t → wUn ν t w s ≤ wRm ν s.1 (wI ν s.1 t j)) ∧ (wUn ν t w s = w - s.2.1 ∨ ∃ j, j < wK ν s.1 t ∧ wUn ν t w s = wRm ν s.1 (wI ν s.1 t j)) := by
  have b := wUn_b hN t0 t1 h
  have m := wM_b (l := w - s.2.1) hN t0 t1 b.1 (by omega) (wK ν s.1 t) (Nat.le_refl _)
  exact ⟨m.2.2.1, m.2.2.2⟩
theorem wOk_s {ν : aW} {t w : Int} {s : wSt} (hN : wN ν) (t0 : 0 ≤ t) (t1 : t < ν 96 5) (h : ¬ wStop ν t w s) (ho : wOk ν s) : wOk ν (wSp ν t w s) := by
  have b := wUn_b hN t0 t1 h
  have r := wUn_r hN t0 t1 h
  obtain ⟨a1, a2⟩ := wL_b (q := s.2.2) hN t0 t1 b.1 (show 0 ≤ wUn ν t w s by omega) r.1 ho.1 (wK ν s.1 t) (Nat.le_refl _)
  refine ⟨a1, fun p => ?_, ?_⟩
  · have := a2 p
    have := ho.2.1 p
    show 0 ≤ wT ν s.1 t (wUn ν t w s) s.2.2 (wK ν s.1 t) p ∧ wT ν s.1 t (wUn ν t w s) s.2.2 (wK ν s.1 t) p ≤ s.2.1 + wUn ν t w s
    omega
  · have := ho.2.2
    show 0 ≤ s.2.1 + wUn ν t w s
    omega
end
