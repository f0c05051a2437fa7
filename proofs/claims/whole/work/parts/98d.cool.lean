section
/-! the hour: cooling and bills -/
def hCl (g l u : Int) : Int := max 0 ((u - 100 * g) * l / 1000)
theorem hCl_b {g l u : Int} (g0 : 0 ≤ g) (l0 : 0 ≤ l ∧ l ≤ 200) (u0 : 0 ≤ u) : 0 ≤ hCl g l u ∧ hCl g l u ≤ u := by
  unfold hCl
  by_cases z : 0 ≤ u - 100 * g
  · have a := Int.mul_nonneg z l0.1
    have b : (u - 100 * g) * l ≤ (u - 100 * g) * 200 := Int.mul_le_mul_of_nonneg_left l0.2 z
    omega
  · have a : (u - 100 * g) * l ≤ 0 := Int.mul_nonpos_of_nonpos_of_nonneg (by omega) l0.1
    omega
theorem hCl_0 {g l u : Int} (l0 : 0 ≤ l) (h : u - 100 * g ≤ 0) : hCl g l u = 0 := by
  unfold hCl
  have a : (u - 100 * g) * l ≤ 0 := Int.mul_nonpos_of_nonpos_of_nonneg h l0
  omega
def hBl (lost sh m lp : Int) : Int := lost * sh / m * lp / 1000
theorem hBl_b {lost sh m lp : Int} (h0 : 0 ≤ lost) (h1 : lost ≤ 2000000) (s0 : 0 ≤ sh) (s1 : sh ≤ 10000) (m0 : 0 < m) (p0 : 0 ≤ lp) (p1 : lp ≤ 1000) : (0 ≤ lost * sh ∧ lost * sh ≤ 20000000000) ∧ (0 ≤ lost * sh / m * lp ∧ lost * sh / m * lp ≤ 20000000000000) ∧ 0 ≤ hBl lost sh m lp ∧ hBl lost sh m lp ≤ 20000000000 := by
  have a0 : 0 ≤ lost * sh := Int.mul_nonneg h0 s0
  have a1 : lost * sh ≤ 2000000 * 10000 := Int.mul_le_mul h1 s1 s0 (by omega)
  have b0 : 0 ≤ lost * sh / m := Int.ediv_nonneg a0 (by omega)
  have b1 : lost * sh / m ≤ lost * sh := Int.ediv_le_self m a0
  have c0 : 0 ≤ lost * sh / m * lp := Int.mul_nonneg b0 p0
  have c1 : lost * sh / m * lp ≤ 20000000000 * 1000 := Int.mul_le_mul (by omega) p1 p0 (by omega)
  unfold hBl
  omega

theorem c24 {d : Nat} {Q : aQ} {s0 : aW} {p w : Int} (hw : w = 0 ∨ w = 1) (p0 : 0 ≤ p ∧ p < 20) (hL : 0 ≤ s0 4 p ∧ s0 4 p ≤ 60) (hl : 0 ≤ s0 6 p ∧ s0 6 p ≤ 200) (hg : 0 ≤ s0 56 0 ∧ s0 56 0 ≤ 20) (hU : ∀ j, 0 ≤ j → j < s0 4 p → 0 ≤ s0 64 ((2 * p + w) * 60 + j) ∧ s0 64 ((2 * p + w) * 60 + j) ≤ 12000)
    (k : ∀ s, Fr [64] s0 s → (∀ j, 0 ≤ j → j < s0 4 p → s 64 ((2 * p + w) * 60 + j) = s0 64 ((2 * p + w) * 60 + j) - hCl (s0 56 0) (s0 6 p) (s0 64 ((2 * p + w) * 60 + j))) → (∀ x, ¬ ((2 * p + w) * 60 ≤ x ∧ x < (2 * p + w) * 60 + s0 4 p) → s 64 x = s0 64 x) → Q (some (vl (sI (fun j => hCl (s0 56 0) (s0 6 p) (s0 64 ((2 * p + w) * 60 + j))) (s0 4 p).toNat))) s) : aEv (d + 1) true 24 [vr 56, vr 63, vi p, vi w] s0 Q := by
  refine e24 (b24_0 ⟨p0, by omega, fun _ => ⟨p0, by omega⟩, by omega, ?_⟩)
  by_cases z : s0 6 p = 0
  · rw [if_neg (fun y => y z)]
    have e : ∀ u, hCl (s0 56 0) (s0 6 p) u = 0 := fun u => by
      unfold hCl
      rw [z, Int.mul_zero]
      rfl
    refine b24_64 ⟨fun _ => ?_, fun y => absurd (Int.le_refl _) y⟩
    have := k s0 Fr_r (fun j j0 j1 => by rw [e]; omega) (fun _ _ => rfl)
    rw [sI_c (g := fun _ => 0) (fun i _ _ => e _)] at this
    have b := sI_b (f := fun _ => 0) (B := 0) (n := (s0 4 p).toNat) (fun i _ _ => ⟨Int.le_refl _, Int.le_refl _⟩)
    rw [show sI (fun _ => 0) (s0 4 p).toNat = 0 by omega] at this
    exact this
  · rw [if_pos z]
    have key : ∀ (q : Nat) (i : Int) (s : aW), 0 ≤ i → i + q = s0 4 p → Fr [64] s0 s → (∀ j, 0 ≤ j → j < i → s 64 ((2 * p + w) * 60 + j) = s0 64 ((2 * p + w) * 60 + j) - hCl (s0 56 0) (s0 6 p) (s0 64 ((2 * p + w) * 60 + j))) → (∀ x, ¬ ((2 * p + w) * 60 ≤ x ∧ x < (2 * p + w) * 60 + i) → s 64 x = s0 64 x) → Yx (d + 1) cd24 2 Q 64 [vt, vt, vt, vt, vi (s0 6 p), vr 64, vt, vi ((2 * p + w) * 60 + s0 4 p), vi (100 * s0 56 0), vl (sI (fun j => hCl (s0 56 0) (s0 6 p) (s0 64 ((2 * p + w) * 60 + j))) i.toNat), vt, vi ((2 * p + w) * 60 + i), vt, vt] [] s := by
      intro q
      induction q with
      | zero =>
        intro i s i0 im f h1 h2
        have e : i = s0 4 p := by omega
        rw [e] at h1 h2 ⊢
        exact b24_64 ⟨fun _ => k s f h1 h2, fun y => absurd (Int.le_refl _) y⟩
      | succ q ih =>
        intro i s i0 im f h1 h2
        have hu := hU i i0 (by omega)
        have es : s 64 ((2 * p + w) * 60 + i) = s0 64 ((2 * p + w) * 60 + i) := h2 _ (by omega)
        have hs := sI_s (f := fun j => hCl (s0 56 0) (s0 6 p) (s0 64 ((2 * p + w) * 60 + j))) i0
        have cb := hCl_b (u := s0 64 ((2 * p + w) * 60 + i)) hg.1 hl hu.1
        have sb := sI_b (f := fun j => hCl (s0 56 0) (s0 6 p) (s0 64 ((2 * p + w) * 60 + j))) (B := 12000) (n := i.toNat) (fun j j0 j1 => by
          have a := hU j j0 (by omega)
          have := hCl_b (u := s0 64 ((2 * p + w) * 60 + j)) hg.1 hl a.1
          omega)
        have nx := ih (i + 1)
        refine b24_64 ⟨fun y => by omega, fun _ => ⟨by omega, by rw [es]; omega, fun y => ⟨by omega, ?_⟩, fun y => ?_⟩⟩
        · rw [es] at y
          have c0 := hCl_0 (g := s0 56 0) hl.1 (show s0 64 ((2 * p + w) * 60 + i) - 100 * s0 56 0 ≤ 0 by omega)
          have := nx s (by omega) (by omega) f (fun j j0 j1 => ?_) (fun x hx => h2 x (by omega))
          · rw [hs, c0, Int.add_zero, show (2 * p + w) * 60 + (i + 1) = (2 * p + w) * 60 + i + 1 by omega] at this
            exact this
          · by_cases e : j = i
            · rw [e, es, c0]
              omega
            · exact h1 j j0 (by omega)
        · rw [es] at y ⊢
          have a0 : 0 ≤ (s0 64 ((2 * p + w) * 60 + i) - 100 * s0 56 0) * s0 6 p := Int.mul_nonneg (by omega) hl.1
          have a1 : (s0 64 ((2 * p + w) * 60 + i) - 100 * s0 56 0) * s0 6 p ≤ 12000 * 200 := Int.mul_le_mul (by omega) hl.2 hl.1 (by omega)
          have ec : (s0 64 ((2 * p + w) * 60 + i) - 100 * s0 56 0) * s0 6 p / 1000 = hCl (s0 56 0) (s0 6 p) (s0 64 ((2 * p + w) * 60 + i)) := by
            unfold hCl
            omega
          rw [ec]
          refine ⟨by omega, by omega, by omega, by omega, by omega, by omega, by omega, ?_⟩
          have := nx (sw s 64 (fu (s 64) ((2 * p + w) * 60 + i) (s0 64 ((2 * p + w) * 60 + i) - hCl (s0 56 0) (s0 6 p) (s0 64 ((2 * p + w) * 60 + i))))) (by omega) (by omega) (Fr_w f (by decide)) (fun j j0 j1 => ?_) (fun x hx => ?_)
          · rw [hs, show (2 * p + w) * 60 + (i + 1) = (2 * p + w) * 60 + i + 1 by omega] at this
            exact this
          · rw [sw_s]
            by_cases e : j = i
            · rw [e, fu_s]
            · rw [fu_n (by omega)]
              exact h1 j j0 (by omega)
          · rw [sw_s, fu_n (by omega)]
            exact h2 x (by omega)
    have := key (s0 4 p).toNat 0 s0 (Int.le_refl _) (by omega) Fr_r (fun j j0 j1 => by omega) (fun _ _ => rfl)
    rw [Int.add_zero] at this
    exact this
theorem c25 {d : Nat} {Q : aQ} {s0 : aW} {p lost H : Int} (p0 : 0 ≤ p ∧ p < 20) (hH : s0 1 2 = H ∧ 0 ≤ H ∧ H ≤ 16) (hf : -100 ≤ s0 17 p ∧ s0 17 p ≤ 100) (l0 : 0 ≤ lost) (l1 : lost ≤ 2000000) (hs : ∀ h, 0 ≤ h → h < H → 0 ≤ s0 20 (p * 16 + h) ∧ s0 20 (p * 16 + h) ≤ 10000 ∧ 0 ≤ s0 62 h ∧ s0 62 h ≤ 1000 ∧ 0 ≤ s0 72 h ∧ s0 72 h ≤ 1000000000000000000)
    (k : ∀ s, Fr [72] s0 s → (∀ h, 0 ≤ h → h < H → s 72 h = if s0 17 p = 0 then s0 72 h else s0 72 h + hBl lost (s0 20 (p * 16 + h)) (hm (s0 17) p) (s0 62 h)) → (∀ h, ¬ (0 ≤ h ∧ h < H) → s 72 h = s0 72 h) → Q none s) : aEv (d + 1) true 25 [vr 56, vr 63, vi p, vl lost] s0 Q := by
  refine e25 (b25_0 ⟨p0, by omega, fun z => ?_, fun z => k s0 Fr_r (fun h _ _ => by rw [if_pos (by omega)]) (fun _ _ => rfl)⟩)
  have fz : ¬ s0 17 p = 0 := by omega
  have m0 : 0 < hm (s0 17) p := by unfold hm; omega
  have key : ∀ (q : Nat) (i : Int) (s : aW), 0 ≤ i → i + q = H → Fr [72] s0 s → (∀ h, 0 ≤ h → h < i → s 72 h = s0 72 h + hBl lost (s0 20 (p * 16 + h)) (hm (s0 17) p) (s0 62 h)) → (∀ h, ¬ (0 ≤ h ∧ h < i) → s 72 h = s0 72 h) → Yx (d + 1) cd25 0 Q 23 [vr 56, vr 63, vi p, vl lost, vt, vi (hm (s0 17) p), vi i, vt, vt] [] s := by
    intro q
    induction q with
    | zero =>
      intro i s i0 im f h1 h2
      have e : i = H := by omega
      rw [e] at h1 h2 ⊢
      exact b25_23 ⟨fun _ => k s f (fun h x0 x1 => by rw [if_neg fz]; exact h1 h x0 x1) h2, fun y => absurd (by rw [f 1 (by decide)]; exact Int.le_of_eq hH.1) y⟩
    | succ q ih =>
      intro i s i0 im f h1 h2
      have hh := hs i i0 (by omega)
      have s20 : s 20 = s0 20 := f 20 (by decide)
      have s62 : s 62 = s0 62 := f 62 (by decide)
      have es : s 72 i = s0 72 i := h2 i (by omega)
      obtain ⟨b1, b2, b3⟩ := hBl_b (m := hm (s0 17) p) l0 l1 hh.1 hh.2.1 m0 hh.2.2.1 hh.2.2.2.1
      have eb : lost * s0 20 (p * 16 + i) / hm (s0 17) p * s0 62 i / 1000 = hBl lost (s0 20 (p * 16 + i)) (hm (s0 17) p) (s0 62 i) := rfl
      refine b25_23 ⟨fun y => absurd y (by rw [f 1 (by decide)]; omega), fun _ => ?_⟩
      rw [s20, s62, es, eb]
      refine ⟨by omega, by omega, by omega, by omega, by omega, by omega, by omega, by omega, by omega, by omega, by omega, by omega, ih (i + 1) _ (by omega) (by omega) (Fr_w f (by decide)) (fun h x0 x1 => ?_) (fun h hh => ?_)⟩
      · rw [sw_s]
        by_cases e : h = i
        · rw [e, fu_s]
        · rw [fu_n e]
          exact h1 h x0 (by omega)
      · rw [sw_s, fu_n (by omega)]
        exact h2 h (by omega)
  exact key H.toNat 0 s0 (Int.le_refl _) (by omega) Fr_r (fun h x0 x1 => by omega) (fun _ _ => rfl)

theorem c24l {d : Nat} {Q : aQ} {s0 : aW} {p w : Int} (hw : w = 0 ∨ w = 1) (p0 : 0 ≤ p ∧ p < 20) (hL : 0 ≤ s0 4 p ∧ s0 4 p ≤ 60) (hl : 0 ≤ s0 6 p ∧ s0 6 p ≤ 200) (hg : 0 ≤ s0 56 0 ∧ s0 56 0 ≤ 20) (hU : ∀ j, 0 ≤ j → j < s0 4 p → 0 ≤ s0 75 ((2 * p + w) * 60 + j) ∧ s0 75 ((2 * p + w) * 60 + j) ≤ 12000)
    (k : ∀ s, Fr [75] s0 s → (∀ j, 0 ≤ j → j < s0 4 p → s 75 ((2 * p + w) * 60 + j) = s0 75 ((2 * p + w) * 60 + j) - hCl (s0 56 0) (s0 6 p) (s0 75 ((2 * p + w) * 60 + j))) → (∀ x, ¬ ((2 * p + w) * 60 ≤ x ∧ x < (2 * p + w) * 60 + s0 4 p) → s 75 x = s0 75 x) → Q (some (vl (sI (fun j => hCl (s0 56 0) (s0 6 p) (s0 75 ((2 * p + w) * 60 + j))) (s0 4 p).toNat))) s) : aEv (d + 1) true 24 [vr 56, vr 74, vi p, vi w] s0 Q := by
  refine e24l (b24l_0 ⟨p0, by omega, fun _ => ⟨p0, by omega⟩, by omega, ?_⟩)
  by_cases z : s0 6 p = 0
  · rw [if_neg (fun y => y z)]
    have e : ∀ u, hCl (s0 56 0) (s0 6 p) u = 0 := fun u => by
      unfold hCl
      rw [z, Int.mul_zero]
      rfl
    refine b24l_64 ⟨fun _ => ?_, fun y => absurd (Int.le_refl _) y⟩
    have := k s0 Fr_r (fun j j0 j1 => by rw [e]; omega) (fun _ _ => rfl)
    rw [sI_c (g := fun _ => 0) (fun i _ _ => e _)] at this
    have b := sI_b (f := fun _ => 0) (B := 0) (n := (s0 4 p).toNat) (fun i _ _ => ⟨Int.le_refl _, Int.le_refl _⟩)
    rw [show sI (fun _ => 0) (s0 4 p).toNat = 0 by omega] at this
    exact this
  · rw [if_pos z]
    have key : ∀ (q : Nat) (i : Int) (s : aW), 0 ≤ i → i + q = s0 4 p → Fr [75] s0 s → (∀ j, 0 ≤ j → j < i → s 75 ((2 * p + w) * 60 + j) = s0 75 ((2 * p + w) * 60 + j) - hCl (s0 56 0) (s0 6 p) (s0 75 ((2 * p + w) * 60 + j))) → (∀ x, ¬ ((2 * p + w) * 60 ≤ x ∧ x < (2 * p + w) * 60 + i) → s 75 x = s0 75 x) → Yx (d + 1) cd24 2 Q 64 [vt, vt, vt, vt, vi (s0 6 p), vr 75, vt, vi ((2 * p + w) * 60 + s0 4 p), vi (100 * s0 56 0), vl (sI (fun j => hCl (s0 56 0) (s0 6 p) (s0 75 ((2 * p + w) * 60 + j))) i.toNat), vt, vi ((2 * p + w) * 60 + i), vt, vt] [] s := by
      intro q
      induction q with
      | zero =>
        intro i s i0 im f h1 h2
        have e : i = s0 4 p := by omega
        rw [e] at h1 h2 ⊢
        exact b24l_64 ⟨fun _ => k s f h1 h2, fun y => absurd (Int.le_refl _) y⟩
      | succ q ih =>
        intro i s i0 im f h1 h2
        have hu := hU i i0 (by omega)
        have es : s 75 ((2 * p + w) * 60 + i) = s0 75 ((2 * p + w) * 60 + i) := h2 _ (by omega)
        have hs := sI_s (f := fun j => hCl (s0 56 0) (s0 6 p) (s0 75 ((2 * p + w) * 60 + j))) i0
        have cb := hCl_b (u := s0 75 ((2 * p + w) * 60 + i)) hg.1 hl hu.1
        have sb := sI_b (f := fun j => hCl (s0 56 0) (s0 6 p) (s0 75 ((2 * p + w) * 60 + j))) (B := 12000) (n := i.toNat) (fun j j0 j1 => by
          have a := hU j j0 (by omega)
          have := hCl_b (u := s0 75 ((2 * p + w) * 60 + j)) hg.1 hl a.1
          omega)
        have nx := ih (i + 1)
        refine b24l_64 ⟨fun y => by omega, fun _ => ⟨by omega, by rw [es]; omega, fun y => ⟨by omega, ?_⟩, fun y => ?_⟩⟩
        · rw [es] at y
          have c0 := hCl_0 (g := s0 56 0) hl.1 (show s0 75 ((2 * p + w) * 60 + i) - 100 * s0 56 0 ≤ 0 by omega)
          have := nx s (by omega) (by omega) f (fun j j0 j1 => ?_) (fun x hx => h2 x (by omega))
          · rw [hs, c0, Int.add_zero, show (2 * p + w) * 60 + (i + 1) = (2 * p + w) * 60 + i + 1 by omega] at this
            exact this
          · by_cases e : j = i
            · rw [e, es, c0]
              omega
            · exact h1 j j0 (by omega)
        · rw [es] at y ⊢
          have a0 : 0 ≤ (s0 75 ((2 * p + w) * 60 + i) - 100 * s0 56 0) * s0 6 p := Int.mul_nonneg (by omega) hl.1
          have a1 : (s0 75 ((2 * p + w) * 60 + i) - 100 * s0 56 0) * s0 6 p ≤ 12000 * 200 := Int.mul_le_mul (by omega) hl.2 hl.1 (by omega)
          have ec : (s0 75 ((2 * p + w) * 60 + i) - 100 * s0 56 0) * s0 6 p / 1000 = hCl (s0 56 0) (s0 6 p) (s0 75 ((2 * p + w) * 60 + i)) := by
            unfold hCl
            omega
          rw [ec]
          refine ⟨by omega, by omega, by omega, by omega, by omega, by omega, by omega, ?_⟩
          have := nx (sw s 75 (fu (s 75) ((2 * p + w) * 60 + i) (s0 75 ((2 * p + w) * 60 + i) - hCl (s0 56 0) (s0 6 p) (s0 75 ((2 * p + w) * 60 + i))))) (by omega) (by omega) (Fr_w f (by decide)) (fun j j0 j1 => ?_) (fun x hx => ?_)
          · rw [hs, show (2 * p + w) * 60 + (i + 1) = (2 * p + w) * 60 + i + 1 by omega] at this
            exact this
          · rw [sw_s]
            by_cases e : j = i
            · rw [e, fu_s]
            · rw [fu_n (by omega)]
              exact h1 j j0 (by omega)
          · rw [sw_s, fu_n (by omega)]
            exact h2 x (by omega)
    have := key (s0 4 p).toNat 0 s0 (Int.le_refl _) (by omega) Fr_r (fun j j0 j1 => by omega) (fun _ _ => rfl)
    rw [Int.add_zero] at this
    exact this
theorem c25l {d : Nat} {Q : aQ} {s0 : aW} {p lost H : Int} (p0 : 0 ≤ p ∧ p < 20) (hH : s0 1 2 = H ∧ 0 ≤ H ∧ H ≤ 16) (hf : -100 ≤ s0 17 p ∧ s0 17 p ≤ 100) (l0 : 0 ≤ lost) (l1 : lost ≤ 2000000) (hs : ∀ h, 0 ≤ h → h < H → 0 ≤ s0 20 (p * 16 + h) ∧ s0 20 (p * 16 + h) ≤ 10000 ∧ 0 ≤ s0 62 h ∧ s0 62 h ≤ 1000 ∧ 0 ≤ s0 83 h ∧ s0 83 h ≤ 1000000000000000000)
    (k : ∀ s, Fr [83] s0 s → (∀ h, 0 ≤ h → h < H → s 83 h = if s0 17 p = 0 then s0 83 h else s0 83 h + hBl lost (s0 20 (p * 16 + h)) (hm (s0 17) p) (s0 62 h)) → (∀ h, ¬ (0 ≤ h ∧ h < H) → s 83 h = s0 83 h) → Q none s) : aEv (d + 1) true 25 [vr 56, vr 74, vi p, vl lost] s0 Q := by
  refine e25l (b25l_0 ⟨p0, by omega, fun z => ?_, fun z => k s0 Fr_r (fun h _ _ => by rw [if_pos (by omega)]) (fun _ _ => rfl)⟩)
  have fz : ¬ s0 17 p = 0 := by omega
  have m0 : 0 < hm (s0 17) p := by unfold hm; omega
  have key : ∀ (q : Nat) (i : Int) (s : aW), 0 ≤ i → i + q = H → Fr [83] s0 s → (∀ h, 0 ≤ h → h < i → s 83 h = s0 83 h + hBl lost (s0 20 (p * 16 + h)) (hm (s0 17) p) (s0 62 h)) → (∀ h, ¬ (0 ≤ h ∧ h < i) → s 83 h = s0 83 h) → Yx (d + 1) cd25 0 Q 23 [vr 56, vr 74, vi p, vl lost, vt, vi (hm (s0 17) p), vi i, vt, vt] [] s := by
    intro q
    induction q with
    | zero =>
      intro i s i0 im f h1 h2
      have e : i = H := by omega
      rw [e] at h1 h2 ⊢
      exact b25l_23 ⟨fun _ => k s f (fun h x0 x1 => by rw [if_neg fz]; exact h1 h x0 x1) h2, fun y => absurd (by rw [f 1 (by decide)]; exact Int.le_of_eq hH.1) y⟩
    | succ q ih =>
      intro i s i0 im f h1 h2
      have hh := hs i i0 (by omega)
      have s20 : s 20 = s0 20 := f 20 (by decide)
      have s62 : s 62 = s0 62 := f 62 (by decide)
      have es : s 83 i = s0 83 i := h2 i (by omega)
      obtain ⟨b1, b2, b3⟩ := hBl_b (m := hm (s0 17) p) l0 l1 hh.1 hh.2.1 m0 hh.2.2.1 hh.2.2.2.1
      have eb : lost * s0 20 (p * 16 + i) / hm (s0 17) p * s0 62 i / 1000 = hBl lost (s0 20 (p * 16 + i)) (hm (s0 17) p) (s0 62 i) := rfl
      refine b25l_23 ⟨fun y => absurd y (by rw [f 1 (by decide)]; omega), fun _ => ?_⟩
      rw [s20, s62, es, eb]
      refine ⟨by omega, by omega, by omega, by omega, by omega, by omega, by omega, by omega, by omega, by omega, by omega, by omega, ih (i + 1) _ (by omega) (by omega) (Fr_w f (by decide)) (fun h x0 x1 => ?_) (fun h hh => ?_)⟩
      · rw [sw_s]
        by_cases e : h = i
        · rw [e, fu_s]
        · rw [fu_n e]
          exact h1 h x0 (by omega)
      · rw [sw_s, fu_n (by omega)]
        exact h2 h (by omega)
  exact key H.toNat 0 s0 (Int.le_refl _) (by omega) Fr_r (fun h x0 x1 => by omega) (fun _ _ => rfl)
end
