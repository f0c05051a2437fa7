section
/-! the hour: a house -/
def hUs (need warm least got : Int) : Int := min need (max 0 (warm - 100 * least * got))
theorem hUs_b {need warm least got : Int} (n0 : 0 ≤ need) (w0 : 0 ≤ warm) (l0 : 0 ≤ least) (g0 : 0 ≤ got) : 0 ≤ hUs need warm least got ∧ hUs need warm least got ≤ need ∧ hUs need warm least got ≤ warm := by
  have := Int.mul_nonneg (show 0 ≤ 100 * least by omega) g0
  unfold hUs
  omega

theorem c23 {d : Nat} {Q : aQ} {s0 : aW} {h need n got : Int} (h0 : 0 ≤ h ∧ h < 16) (en : s0 10 h = n) (n0 : 0 ≤ n ∧ n < 12) (eg : s0 19 h = got) (g0 : 0 ≤ got ∧ got ≤ 4000) (hl : 0 ≤ s0 56 1 ∧ s0 56 1 ≤ 50) (hn : 0 ≤ need ∧ need ≤ 1000000) (hN : 0 ≤ s0 57 n ∧ s0 57 n ≤ 4800) (hz : s0 57 n = 0 → got = 0) (hW : 0 ≤ s0 58 n ∧ s0 58 n ≤ 12000 * s0 57 n) (hg : 0 ≤ s0 60 n ∧ s0 60 n ≤ 4800) (hp : 0 ≤ s0 61 h ∧ s0 61 h ≤ 1000) (hb : 0 ≤ s0 59 n ∧ s0 59 n ≤ 1000000000000) (hc : 0 ≤ s0 68 h ∧ s0 68 h ≤ 1000000) (hs : ∀ k, k = 69 ∨ k = 70 ∨ k = 71 → 0 ≤ s0 k h ∧ s0 k h ≤ 1000000000000000000) (ht : ∀ i, i = 2 ∨ i = 5 → 0 ≤ s0 73 i ∧ s0 73 i ≤ 1000000000000000000)
    (k : ∀ s, Fr [59, 60, 66, 67, 68, 69, 70, 71, 73] s0 s → ∀ warm, warm = hGv (s0 58 n) (s0 57 n) (s0 60 n) got → (0 ≤ warm ∧ warm ≤ 12000 * got) → ∀ used, used = hUs need warm (s0 56 1) got → (0 ≤ used ∧ used ≤ need ∧ used ≤ warm) → s 60 = fu (s0 60) n (s0 60 n + got) → s 59 = fu (s0 59) n (s0 59 n + (warm - used)) → s 66 = fu (s0 66) h got → s 67 = fu (s0 67) h warm → s 69 = fu (s0 69) h (s0 69 h + used) → s 70 = fu (s0 70) h (s0 70 h + (need - used)) → s 68 = fu (s0 68) h (s0 68 h + bi (¬ need - used ≤ 0)) → s 71 = fu (s0 71) h (s0 71 h + s0 61 h * used / 1000) → s 73 = fu (fu (s0 73) 2 (s0 73 2 + used)) 5 (s0 73 5 + (need - used)) → Q none s) : aEv (d + 1) true 23 [vr 56, vr 63, vi h, vl need] s0 Q := by
  refine e23 (b23_0 ⟨h0, h0, by omega, ?_⟩)
  rw [en, eg]
  have fin : ∀ (u : aW) (warm : Int), Fr [60] s0 u → u 60 = fu (s0 60) n (s0 60 n + got) → warm = hGv (s0 58 n) (s0 57 n) (s0 60 n) got → (0 ≤ warm ∧ warm ≤ 12000 * got) → Yx (d + 1) cd23 0 Q 37 [vr 56, vr 63, vi h, vl need, vt, vi n, vi got, vt, vt, vt, vt, vt, vt, vt, vt] [vl warm] u := fun u warm fu0 u60 ew wb => by
    have lb : 0 ≤ 100 * s0 56 1 * got ∧ 100 * s0 56 1 * got ≤ 5000 * 4000 := ⟨Int.mul_nonneg (by omega) g0.1, Int.mul_le_mul (by omega) g0.2 g0.1 (by omega)⟩
    have ub := hUs_b (least := s0 56 1) (got := got) hn.1 wb.1 hl.1 g0.1
    have eU : min need (max 0 (warm - 100 * s0 56 1 * got)) = hUs need warm (s0 56 1) got := rfl
    refine b23_37_1 ?_
    rw [fu0 56 (by decide), fu0 59 (by decide), fu0 66 (by decide), fu0 67 (by decide), fu0 69 (by decide), fu0 70 (by decide), fu0 68 (by decide), fu0 71 (by decide), fu0 73 (by decide), fu0 61 (by decide), eU]
    generalize hu : hUs need warm (s0 56 1) got = used at ub
    have pb : 0 ≤ s0 61 h * used ∧ s0 61 h * used ≤ 1000 * 1000000 := ⟨Int.mul_nonneg hp.1 ub.1, Int.mul_le_mul hp.2 (by omega) ub.1 (by omega)⟩
    have bb := bi_le (p := ¬ need - used ≤ 0)
    have x1 := hs 69 (Or.inl rfl)
    have x2 := hs 70 (Or.inr (Or.inl rfl))
    have x3 := hs 71 (Or.inr (Or.inr rfl))
    have x4 := ht 2 (Or.inl rfl)
    have x5 := ht 5 (Or.inr rfl)
    refine ⟨by omega, by omega, by omega, by omega, n0, by omega, by omega, n0, h0, h0, h0, by omega, h0, h0, by omega, h0, h0, by omega, h0, h0, h0, by omega, by omega, by omega, h0, by omega, by omega, ?_⟩
    exact k _ (Fr_w (Fr_w (Fr_w (Fr_w (Fr_w (Fr_w (Fr_w (Fr_w (Fr_w (Fr_s fu0 (by decide)) (by decide)) (by decide)) (by decide)) (by decide)) (by decide)) (by decide)) (by decide)) (by decide)) (by decide)) warm ew wb used hu.symm ub u60 rfl rfl rfl rfl rfl rfl rfl rfl
  by_cases z : s0 57 n = 0
  · have gz := hz z
    have ew : (0 : Int) = hGv (s0 58 n) (s0 57 n) (s0 60 n) got := by
      unfold hGv
      rw [gz, Int.add_zero]
      omega
    refine c20z n0 z ⟨_, rfl, fin s0 0 Fr_r ?_ ew (by omega)⟩
    rw [gz, Int.add_zero]
    exact (fu_id rfl).symm
  · exact c20 n0 (by omega) hW.1 hW.2 (by omega) (by omega) ⟨_, rfl, fin _ _ (Fr_w Fr_r (by decide)) (by rw [sw_s]) rfl (hGv_b (by omega) hW.1 hW.2 g0.1)⟩

theorem c23l {d : Nat} {Q : aQ} {s0 : aW} {h need n got : Int} (h0 : 0 ≤ h ∧ h < 16) (en : s0 10 h = n) (n0 : 0 ≤ n ∧ n < 12) (eg : s0 19 h = got) (g0 : 0 ≤ got ∧ got ≤ 4000) (hl : 0 ≤ s0 56 1 ∧ s0 56 1 ≤ 50) (hn : 0 ≤ need ∧ need ≤ 1000000) (hN : 0 ≤ s0 57 n ∧ s0 57 n ≤ 4800) (hz : s0 57 n = 0 → got = 0) (hW : 0 ≤ s0 58 n ∧ s0 58 n ≤ 12000 * s0 57 n) (hg : 0 ≤ s0 60 n ∧ s0 60 n ≤ 4800) (hp : 0 ≤ s0 61 h ∧ s0 61 h ≤ 1000) (hb : 0 ≤ s0 59 n ∧ s0 59 n ≤ 1000000000000) (hc : 0 ≤ s0 79 h ∧ s0 79 h ≤ 1000000) (hs : ∀ k, k = 80 ∨ k = 81 ∨ k = 82 → 0 ≤ s0 k h ∧ s0 k h ≤ 1000000000000000000) (ht : ∀ i, i = 2 ∨ i = 5 → 0 ≤ s0 84 i ∧ s0 84 i ≤ 1000000000000000000)
    (k : ∀ s, Fr [59, 60, 77, 78, 79, 80, 81, 82, 84] s0 s → ∀ warm, warm = hGv (s0 58 n) (s0 57 n) (s0 60 n) got → (0 ≤ warm ∧ warm ≤ 12000 * got) → ∀ used, used = hUs need warm (s0 56 1) got → (0 ≤ used ∧ used ≤ need ∧ used ≤ warm) → s 60 = fu (s0 60) n (s0 60 n + got) → s 59 = fu (s0 59) n (s0 59 n + (warm - used)) → s 77 = fu (s0 77) h got → s 78 = fu (s0 78) h warm → s 80 = fu (s0 80) h (s0 80 h + used) → s 81 = fu (s0 81) h (s0 81 h + (need - used)) → s 79 = fu (s0 79) h (s0 79 h + bi (¬ need - used ≤ 0)) → s 82 = fu (s0 82) h (s0 82 h + s0 61 h * used / 1000) → s 84 = fu (fu (s0 84) 2 (s0 84 2 + used)) 5 (s0 84 5 + (need - used)) → Q none s) : aEv (d + 1) true 23 [vr 56, vr 74, vi h, vl need] s0 Q := by
  refine e23l (b23l_0 ⟨h0, h0, by omega, ?_⟩)
  rw [en, eg]
  have fin : ∀ (u : aW) (warm : Int), Fr [60] s0 u → u 60 = fu (s0 60) n (s0 60 n + got) → warm = hGv (s0 58 n) (s0 57 n) (s0 60 n) got → (0 ≤ warm ∧ warm ≤ 12000 * got) → Yx (d + 1) cd23 0 Q 37 [vr 56, vr 74, vi h, vl need, vt, vi n, vi got, vt, vt, vt, vt, vt, vt, vt, vt] [vl warm] u := fun u warm fu0 u60 ew wb => by
    have lb : 0 ≤ 100 * s0 56 1 * got ∧ 100 * s0 56 1 * got ≤ 5000 * 4000 := ⟨Int.mul_nonneg (by omega) g0.1, Int.mul_le_mul (by omega) g0.2 g0.1 (by omega)⟩
    have ub := hUs_b (least := s0 56 1) (got := got) hn.1 wb.1 hl.1 g0.1
    have eU : min need (max 0 (warm - 100 * s0 56 1 * got)) = hUs need warm (s0 56 1) got := rfl
    refine b23l_37_1 ?_
    rw [fu0 56 (by decide), fu0 59 (by decide), fu0 77 (by decide), fu0 78 (by decide), fu0 80 (by decide), fu0 81 (by decide), fu0 79 (by decide), fu0 82 (by decide), fu0 84 (by decide), fu0 61 (by decide), eU]
    generalize hu : hUs need warm (s0 56 1) got = used at ub
    have pb : 0 ≤ s0 61 h * used ∧ s0 61 h * used ≤ 1000 * 1000000 := ⟨Int.mul_nonneg hp.1 ub.1, Int.mul_le_mul hp.2 (by omega) ub.1 (by omega)⟩
    have bb := bi_le (p := ¬ need - used ≤ 0)
    have x1 := hs 80 (Or.inl rfl)
    have x2 := hs 81 (Or.inr (Or.inl rfl))
    have x3 := hs 82 (Or.inr (Or.inr rfl))
    have x4 := ht 2 (Or.inl rfl)
    have x5 := ht 5 (Or.inr rfl)
    refine ⟨by omega, by omega, by omega, by omega, n0, by omega, by omega, n0, h0, h0, h0, by omega, h0, h0, by omega, h0, h0, by omega, h0, h0, h0, by omega, by omega, by omega, h0, by omega, by omega, ?_⟩
    exact k _ (Fr_w (Fr_w (Fr_w (Fr_w (Fr_w (Fr_w (Fr_w (Fr_w (Fr_w (Fr_s fu0 (by decide)) (by decide)) (by decide)) (by decide)) (by decide)) (by decide)) (by decide)) (by decide)) (by decide)) (by decide)) warm ew wb used hu.symm ub u60 rfl rfl rfl rfl rfl rfl rfl rfl
  by_cases z : s0 57 n = 0
  · have gz := hz z
    have ew : (0 : Int) = hGv (s0 58 n) (s0 57 n) (s0 60 n) got := by
      unfold hGv
      rw [gz, Int.add_zero]
      omega
    refine c20z n0 z ⟨_, rfl, fin s0 0 Fr_r ?_ ew (by omega)⟩
    rw [gz, Int.add_zero]
    exact (fu_id rfl).symm
  · exact c20 n0 (by omega) hW.1 hW.2 (by omega) (by omega) ⟨_, rfl, fin _ _ (Fr_w Fr_r (by decide)) (by rw [sw_s]) rfl (hGv_b (by omega) hW.1 hW.2 g0.1)⟩

theorem c14 {d : Nat} {Q : aQ} {s0 : aW} {l : List rRu} {e : Int → Int → Int} {H : Int} (hH : s0 1 2 = H ∧ 0 ≤ H ∧ H ≤ 16) (hR : rSu s0 l) (he : ∀ h, 0 ≤ h → h < H → (∀ k, 0 ≤ k → k < 4 → s0 26 k = e h k) ∧ e h 4 = s0 11 h ∧ e h 5 = s0 12 h ∧ e h 6 = s0 68 h)
    (k : ∀ s, Fr [26, 31, 61, 62] s0 s → (∀ h, 0 ≤ h → h < H → s 61 h = rAns (e h) 2 l 0 1000 10 ∧ s 62 h = rAns (e h) 3 l 0 1000 0) → Q none s) : aEv (d + 4) true 14 [vr 56, vr 63] s0 Q := by
  obtain ⟨r1, r2, r3, r4, r5⟩ := hR
  have key : ∀ (q : Nat) (i : Int) (s : aW), 0 ≤ i → i + q = H → Fr [26, 31, 61, 62] s0 s → (∀ j, 0 ≤ j → j < 4 → s 26 j = s0 26 j) → (∀ h, 0 ≤ h → h < i → s 61 h = rAns (e h) 2 l 0 1000 10 ∧ s 62 h = rAns (e h) 3 l 0 1000 0) → Yx (d + 4) cd14 0 Q 2 [vr 56, vr 63, vi i] [] s := by
    intro q
    induction q with
    | zero =>
      intro i s i0 im f h26 hv
      have e : i = H := by omega
      rw [e] at hv ⊢
      exact b14_2 ⟨fun _ => k s f hv, fun y => absurd (by rw [f 1 (by decide)]; exact Int.le_of_eq hH.1) y⟩
    | succ q ih =>
      intro i s i0 im f h26 hv
      obtain ⟨e1, e4, e5, e6⟩ := he i i0 (by omega)
      have rs : ∀ u : aW, Fr [26, 31, 61, 62] s0 u → u 25 0 = l.length ∧ rAr (u 27) (u 28) (u 29) (u 30) 0 0 l := fun u fu0 => by
        rw [fu0 25 (by decide), fu0 27 (by decide), fu0 28 (by decide), fu0 29 (by decide), fu0 30 (by decide)]
        exact ⟨r1, r4⟩
      refine b14_2 ⟨fun y => absurd y (by rw [f 1 (by decide)]; omega), fun _ => ⟨by omega, by omega, by omega, ?_⟩⟩
      have f1 : Fr [26, 31, 61, 62] s0 (sw (sw (sw s 26 (fu (s 26) 4 (s 11 i))) 26 (fu (fu (s 26) 4 (s 11 i)) 5 (s 12 i))) 26 (fu (fu (fu (s 26) 4 (s 11 i)) 5 (s 12 i)) 6 (s 68 i))) := Fr_w (Fr_w (Fr_w f (by decide)) (by decide)) (by decide)
      have u26 : (sw (sw (sw s 26 (fu (s 26) 4 (s 11 i))) 26 (fu (fu (s 26) 4 (s 11 i)) 5 (s 12 i))) 26 (fu (fu (fu (s 26) 4 (s 11 i)) 5 (s 12 i)) 6 (s 68 i))) 26 = fu (fu (fu (s 26) 4 (s 11 i)) 5 (s 12 i)) 6 (s 68 i) := sw_s
      have u61 : (sw (sw (sw s 26 (fu (s 26) 4 (s 11 i))) 26 (fu (fu (s 26) 4 (s 11 i)) 5 (s 12 i))) 26 (fu (fu (fu (s 26) 4 (s 11 i)) 5 (s 12 i)) 6 (s 68 i))) 61 = s 61 := rfl
      have u62 : (sw (sw (sw s 26 (fu (s 26) 4 (s 11 i))) 26 (fu (fu (s 26) 4 (s 11 i)) 5 (s 12 i))) 26 (fu (fu (fu (s 26) 4 (s 11 i)) 5 (s 12 i)) 6 (s 68 i))) 62 = s 62 := rfl
      generalize (sw (sw (sw s 26 (fu (s 26) 4 (s 11 i))) 26 (fu (fu (s 26) 4 (s 11 i)) 5 (s 12 i))) 26 (fu (fu (fu (s 26) 4 (s 11 i)) 5 (s 12 i)) 6 (s 68 i))) = u at f1 u26 u61 u62 ⊢
      have ue : ∀ j, 0 ≤ j → j < 7 → u 26 j = e i j := fun j j0 j1 => by
        rw [u26]
        by_cases z6 : j = 6
        · rw [z6, fu_s, f 68 (by decide), e6]
        · rw [fu_n z6]
          by_cases z5 : j = 5
          · rw [z5, fu_s, f 12 (by decide), e5]
          · rw [fu_n z5]
            by_cases z4 : j = 4
            · rw [z4, fu_s, f 11 (by decide), e4]
            · rw [fu_n z4, h26 j j0 (by omega)]
              exact e1 j j0 (by omega)
      refine c85 (e := e i) (l := l) (by unfold r32; omega) (by unfold r32; omega) (rs u f1).1 r2 r3 (rs u f1).2 r5 ue (fun v fv => ⟨_, rfl, b14_87_3 ⟨by omega, ?_⟩⟩)
      have f2 : Fr [26, 31, 61, 62] s0 (sw v 61 (fu (v 61) i (rAns (e i) 2 l 0 1000 10))) := Fr_w (Fr_t f1 fv (fun a ha => ⟨ha, fun z => ha (by simp at z ⊢; omega)⟩)) (by decide)
      refine c85 (e := e i) (l := l) (by unfold r32; omega) (by unfold r32; omega) (rs _ f2).1 r2 r3 (rs _ f2).2 r5 (fun j j0 j1 => by rw [sw_n (by decide), fv 26 (by decide)]; exact ue j j0 j1) (fun t ft => ⟨_, rfl, b14_106_3 ⟨by omega, by omega, ?_⟩⟩)
      refine ih (i + 1) _ (by omega) (by omega) (Fr_w (Fr_t f2 ft (fun a ha => ⟨ha, fun z => ha (by simp at z ⊢; omega)⟩)) (by decide)) (fun j j0 j1 => ?_) (fun h x0 x1 => ?_)
      · rw [sw_n (by decide), ft 26 (by decide), sw_n (by decide), fv 26 (by decide), u26, fu_n (by omega), fu_n (by omega), fu_n (by omega)]
        exact h26 j j0 j1
      · rw [sw_n (by decide), sw_s, ft 61 (by decide), ft 62 (by decide), sw_s, sw_n (by decide), fv 61 (by decide), fv 62 (by decide), u61, u62]
        by_cases z : h = i
        · rw [z, fu_s, fu_s]
          exact ⟨rfl, rfl⟩
        · rw [fu_n z, fu_n z]
          exact hv h x0 (by omega)
  exact e14 (b14_0 (key H.toNat 0 s0 (Int.le_refl _) (by omega) Fr_r (fun _ _ _ => rfl) (fun h x0 x1 => by omega)))

theorem c14l {d : Nat} {Q : aQ} {s0 : aW} {l : List rRu} {e : Int → Int → Int} {H : Int} (hH : s0 1 2 = H ∧ 0 ≤ H ∧ H ≤ 16) (hR : rSu s0 l) (he : ∀ h, 0 ≤ h → h < H → (∀ k, 0 ≤ k → k < 4 → s0 26 k = e h k) ∧ e h 4 = s0 11 h ∧ e h 5 = s0 12 h ∧ e h 6 = s0 79 h)
    (k : ∀ s, Fr [26, 31, 61, 62] s0 s → (∀ h, 0 ≤ h → h < H → s 61 h = rAns (e h) 2 l 0 1000 10 ∧ s 62 h = rAns (e h) 3 l 0 1000 0) → Q none s) : aEv (d + 4) true 14 [vr 56, vr 74] s0 Q := by
  obtain ⟨r1, r2, r3, r4, r5⟩ := hR
  have key : ∀ (q : Nat) (i : Int) (s : aW), 0 ≤ i → i + q = H → Fr [26, 31, 61, 62] s0 s → (∀ j, 0 ≤ j → j < 4 → s 26 j = s0 26 j) → (∀ h, 0 ≤ h → h < i → s 61 h = rAns (e h) 2 l 0 1000 10 ∧ s 62 h = rAns (e h) 3 l 0 1000 0) → Yx (d + 4) cd14 0 Q 2 [vr 56, vr 74, vi i] [] s := by
    intro q
    induction q with
    | zero =>
      intro i s i0 im f h26 hv
      have e : i = H := by omega
      rw [e] at hv ⊢
      exact b14l_2 ⟨fun _ => k s f hv, fun y => absurd (by rw [f 1 (by decide)]; exact Int.le_of_eq hH.1) y⟩
    | succ q ih =>
      intro i s i0 im f h26 hv
      obtain ⟨e1, e4, e5, e6⟩ := he i i0 (by omega)
      have rs : ∀ u : aW, Fr [26, 31, 61, 62] s0 u → u 25 0 = l.length ∧ rAr (u 27) (u 28) (u 29) (u 30) 0 0 l := fun u fu0 => by
        rw [fu0 25 (by decide), fu0 27 (by decide), fu0 28 (by decide), fu0 29 (by decide), fu0 30 (by decide)]
        exact ⟨r1, r4⟩
      refine b14l_2 ⟨fun y => absurd y (by rw [f 1 (by decide)]; omega), fun _ => ⟨by omega, by omega, by omega, ?_⟩⟩
      have f1 : Fr [26, 31, 61, 62] s0 (sw (sw (sw s 26 (fu (s 26) 4 (s 11 i))) 26 (fu (fu (s 26) 4 (s 11 i)) 5 (s 12 i))) 26 (fu (fu (fu (s 26) 4 (s 11 i)) 5 (s 12 i)) 6 (s 79 i))) := Fr_w (Fr_w (Fr_w f (by decide)) (by decide)) (by decide)
      have u26 : (sw (sw (sw s 26 (fu (s 26) 4 (s 11 i))) 26 (fu (fu (s 26) 4 (s 11 i)) 5 (s 12 i))) 26 (fu (fu (fu (s 26) 4 (s 11 i)) 5 (s 12 i)) 6 (s 79 i))) 26 = fu (fu (fu (s 26) 4 (s 11 i)) 5 (s 12 i)) 6 (s 79 i) := sw_s
      have u61 : (sw (sw (sw s 26 (fu (s 26) 4 (s 11 i))) 26 (fu (fu (s 26) 4 (s 11 i)) 5 (s 12 i))) 26 (fu (fu (fu (s 26) 4 (s 11 i)) 5 (s 12 i)) 6 (s 79 i))) 61 = s 61 := rfl
      have u62 : (sw (sw (sw s 26 (fu (s 26) 4 (s 11 i))) 26 (fu (fu (s 26) 4 (s 11 i)) 5 (s 12 i))) 26 (fu (fu (fu (s 26) 4 (s 11 i)) 5 (s 12 i)) 6 (s 79 i))) 62 = s 62 := rfl
      generalize (sw (sw (sw s 26 (fu (s 26) 4 (s 11 i))) 26 (fu (fu (s 26) 4 (s 11 i)) 5 (s 12 i))) 26 (fu (fu (fu (s 26) 4 (s 11 i)) 5 (s 12 i)) 6 (s 79 i))) = u at f1 u26 u61 u62 ⊢
      have ue : ∀ j, 0 ≤ j → j < 7 → u 26 j = e i j := fun j j0 j1 => by
        rw [u26]
        by_cases z6 : j = 6
        · rw [z6, fu_s, f 79 (by decide), e6]
        · rw [fu_n z6]
          by_cases z5 : j = 5
          · rw [z5, fu_s, f 12 (by decide), e5]
          · rw [fu_n z5]
            by_cases z4 : j = 4
            · rw [z4, fu_s, f 11 (by decide), e4]
            · rw [fu_n z4, h26 j j0 (by omega)]
              exact e1 j j0 (by omega)
      refine c85 (e := e i) (l := l) (by unfold r32; omega) (by unfold r32; omega) (rs u f1).1 r2 r3 (rs u f1).2 r5 ue (fun v fv => ⟨_, rfl, b14l_87_3 ⟨by omega, ?_⟩⟩)
      have f2 : Fr [26, 31, 61, 62] s0 (sw v 61 (fu (v 61) i (rAns (e i) 2 l 0 1000 10))) := Fr_w (Fr_t f1 fv (fun a ha => ⟨ha, fun z => ha (by simp at z ⊢; omega)⟩)) (by decide)
      refine c85 (e := e i) (l := l) (by unfold r32; omega) (by unfold r32; omega) (rs _ f2).1 r2 r3 (rs _ f2).2 r5 (fun j j0 j1 => by rw [sw_n (by decide), fv 26 (by decide)]; exact ue j j0 j1) (fun t ft => ⟨_, rfl, b14l_106_3 ⟨by omega, by omega, ?_⟩⟩)
      refine ih (i + 1) _ (by omega) (by omega) (Fr_w (Fr_t f2 ft (fun a ha => ⟨ha, fun z => ha (by simp at z ⊢; omega)⟩)) (by decide)) (fun j j0 j1 => ?_) (fun h x0 x1 => ?_)
      · rw [sw_n (by decide), ft 26 (by decide), sw_n (by decide), fv 26 (by decide), u26, fu_n (by omega), fu_n (by omega), fu_n (by omega)]
        exact h26 j j0 j1
      · rw [sw_n (by decide), sw_s, ft 61 (by decide), ft 62 (by decide), sw_s, sw_n (by decide), fv 61 (by decide), fv 62 (by decide), u61, u62]
        by_cases z : h = i
        · rw [z, fu_s, fu_s]
          exact ⟨rfl, rfl⟩
        · rw [fu_n z, fu_n z]
          exact hv h x0 (by omega)
  exact e14l (b14l_0 (key H.toNat 0 s0 (Int.le_refl _) (by omega) Fr_r (fun _ _ _ => rfl) (fun h x0 x1 => by omega)))
end
