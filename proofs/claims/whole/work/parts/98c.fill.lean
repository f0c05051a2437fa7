section
/-! the hour: what a node gives -/
def hGv (W N g a : Int) : Int := W * (g + a) / N - W * g / N
theorem hGv_b {W N g a : Int} (hN : 0 < N) (w0 : 0 ≤ W) (w1 : W ≤ 12000 * N) (a0 : 0 ≤ a) : 0 ≤ hGv W N g a ∧ hGv W N g a ≤ 12000 * a := by
  unfold hGv
  have e : W * (g + a) = W * g + W * a := Int.mul_add _ _ _
  have b0 : 0 ≤ W * a := Int.mul_nonneg w0 a0
  have b1 : W * a ≤ 12000 * N * a := Int.mul_le_mul_of_nonneg_right w1 a0
  have b2 : 12000 * N * a = 12000 * a * N := by rw [Int.mul_assoc, Int.mul_comm N a, ← Int.mul_assoc]
  have c1 : W * g / N ≤ W * (g + a) / N := Int.ediv_le_ediv hN (by omega)
  have c2 : W * (g + a) / N ≤ (W * g + 12000 * a * N) / N := Int.ediv_le_ediv hN (by omega)
  rw [Int.add_mul_ediv_right _ _ (show N ≠ 0 by omega)] at c2
  omega
theorem c20 {d : Nat} {Q : aQ} {s : aW} {n W a : Int} (n0 : 0 ≤ n ∧ n < 12) (hN : 0 < s 57 n ∧ s 57 n ≤ 10000) (w0 : 0 ≤ W) (w1 : W ≤ 12000 * s 57 n) (hg : 0 ≤ s 60 n ∧ s 60 n ≤ 10000) (ha : 0 ≤ a ∧ a ≤ 10000) (k : Q (some (vl (hGv W (s 57 n) (s 60 n) a))) (sw s 60 (fu (s 60) n (s 60 n + a)))) : aEv (d + 0) true 20 [vr 56, vi n, vl W, vi a] s Q := by
  have b := hGv_b (g := s 60 n) hN.1 w0 w1 ha.1
  have p1 : 0 ≤ W * s 60 n := Int.mul_nonneg w0 hg.1
  have p2 : W * s 60 n ≤ 120000000 * 10000 := Int.mul_le_mul (by omega) hg.2 hg.1 (by omega)
  have p3 : 0 ≤ W * (s 60 n + a) := Int.mul_nonneg w0 (by omega)
  have p4 : W * (s 60 n + a) ≤ 120000000 * 20000 := Int.mul_le_mul (by omega) (by omega) (by omega) (by omega)
  unfold hGv at b k
  refine e20 (b20_0 ⟨n0, fun _ => ⟨n0, by omega, by omega, n0, by omega, n0, n0, by omega, by omega, by omega, k⟩, fun z => by omega⟩)
theorem c20z {d : Nat} {Q : aQ} {s : aW} {n W a : Int} (n0 : 0 ≤ n ∧ n < 12) (hN : s 57 n = 0) (k : Q (some (vl 0)) s) : aEv (d + 0) true 20 [vr 56, vi n, vl W, vi a] s Q := e20 (b20_0 ⟨n0, fun z => absurd hN z, fun _ => k⟩)
theorem c273f {d : Nat} {Q : aQ} {σ : aW} {a1 : Int} (k : ∀ s, Fr [60] σ s → (∀ j, 0 ≤ j → j < 12 → s 60 j = a1) → Q none s) : aEv (d + 0) true 273 [vr 60, vi a1] σ Q := by
  have key : ∀ (m : Nat) (i : Int) (s : aW), 0 ≤ i → i + m = 12 → Fr [60] σ s → (∀ j, 0 ≤ j → j < i → s 60 j = a1) → Yx (d + 0) cd273 0 Q 5 [vr 60, vi a1, vi i, vi 12] [] s := by
    intro m
    induction m with
    | zero => exact fun i s i0 im f h => b273f_5 ⟨fun _ => k s f (fun j j0 j1 => h j j0 (by omega)), fun z => absurd (by omega) z⟩
    | succ m ih =>
      intro i s i0 im f h
      refine b273f_5 ⟨fun z => by omega, fun _ => ⟨by omega, by omega, ih (i + 1) _ (by omega) (by omega) (Fr_w f (by decide)) (fun j j0 j1 => ?_)⟩⟩
      rw [sw_s]
      by_cases e : j = i
      · rw [e, fu_s]
      · rw [fu_n e]
        exact h j j0 (by omega)
  exact e273f (b273f_0 (key 12 0 σ (Int.le_refl _) (by omega) Fr_r (fun j j0 j1 => by omega)))

theorem c22k {d : Nat} {Q : aQ} {s0 : aW} {n W m r B : Int} (n0 : 0 ≤ n ∧ n < 12) (hN : 0 < s0 57 n ∧ s0 57 n ≤ 4800) (w0 : 0 ≤ W) (w1 : W ≤ 12000 * s0 57 n) (hg : 0 ≤ s0 60 n ∧ s0 60 n + m ≤ 4800) (m1 : m ≤ 60) (hB : r = 0 → 0 ≤ B ∧ B + m ≤ 2400) (hB' : ¬ r = 0 → B < 2400 ∧ 0 ≤ B - m + 1)
    (k : ∀ s, Fr [60, 64] s0 s → s 60 = fu (s0 60) n (s0 60 n + m) → (∀ j, 0 ≤ j → j < m → s 64 (if r = 0 then B + j else B - j) = hGv W (s0 57 n) (s0 60 n + j) 1) → (∀ x, (∀ j, 0 ≤ j → j < m → ¬ x = (if r = 0 then B + j else B - j)) → s 64 x = s0 64 x) → Q none s) :
    ∀ (q : Nat) (i : Int) (s : aW), 0 ≤ i → i + q = m → Fr [60, 64] s0 s → s 60 = fu (s0 60) n (s0 60 n + i) → (∀ j, 0 ≤ j → j < i → s 64 (if r = 0 then B + j else B - j) = hGv W (s0 57 n) (s0 60 n + j) 1) → (∀ x, (∀ j, 0 ≤ j → j < i → ¬ x = (if r = 0 then B + j else B - j)) → s 64 x = s0 64 x) → Yx (d + 2) cd22 0 Q 82 [vr 56, vr 63, vt, vt, vi m, vi n, vl W, vt, vi r, vi B, vi i] [] s
  | 0, i, s, i0, im, f, h1, h2, h3 => by
    have e : i = m := by omega
    subst e
    exact b22_82 ⟨fun _ => k s f h1 h2 h3, fun z => absurd (Int.le_refl _) z⟩
  | q + 1, i, s, i0, im, f, h1, h2, h3 => by
    have s57 : s 57 = s0 57 := f 57 (by decide)
    have s60 : s 60 n = s0 60 n + i := by rw [h1, fu_s]
    refine b22_82 ⟨fun z => by omega, fun _ => ⟨fun z => by have := hB z; omega, fun z => by have := hB' z; omega, c20 n0 (by rw [s57]; omega) w0 (by rw [s57]; exact w1) (by omega) (by omega) ⟨_, rfl, b22_120_3 ?_⟩⟩⟩
    rw [s57, s60]
    have b := hGv_b (g := s0 60 n + i) hN.1 w0 w1 (show (0 : Int) ≤ 1 by decide)
    have rg : 0 ≤ (if r = 0 then B + i else B - i) ∧ (if r = 0 then B + i else B - i) < 2400 := by
      split
      · rename_i z
        have := hB z
        omega
      · rename_i z
        have := hB' z
        omega
    refine ⟨by omega, rg, by omega, c22k n0 hN w0 w1 hg m1 hB hB' k q (i + 1) _ (by omega) (by omega) (Fr_w (Fr_w f (by decide)) (by decide)) ?_ (fun j j0 j1 => ?_) (fun x hx => ?_)⟩
    · rw [sw_n (by decide), sw_s, h1]
      funext y
      unfold fu
      split
      · omega
      · rfl
    · rw [sw_s, sw_n (by decide)]
      by_cases e : j = i
      · rw [e, fu_s]
      · rw [fu_n (by split <;> omega)]
        exact h2 j j0 (by omega)
    · rw [sw_s, sw_n (by decide), fu_n (hx i i0 (by omega))]
      exact h3 x (fun j j0 j1 => hx j j0 (by omega))
/-- the place of the k-th new unit -/
def hPl (r : Prop) [Decidable r] (L m k : Int) : Int := if r then m - 1 - k else L - m + k
theorem c22 {d : Nat} {Q : aQ} {s0 : aW} {p w m : Int} (hw : w = 0 ∨ w = 1) (p0 : 0 ≤ p ∧ p < 20) (fz : ¬ s0 17 p = 0) (hm' : m = hm (s0 17) p) (hL : m ≤ s0 4 p ∧ s0 4 p ≤ 60) (hE : 0 ≤ s0 2 p ∧ s0 2 p < 12 ∧ 0 ≤ s0 3 p ∧ s0 3 p < 12)
    {n W : Int} (en : n = if w = 0 then hFr (s0 17) (s0 2) (s0 3) p else hTo (s0 17) (s0 2) (s0 3) p) (eW : W = if w = 0 then s0 58 n else s0 59 n) (hN : 0 < s0 57 n ∧ s0 57 n ≤ 4800) (w0 : 0 ≤ W) (w1 : W ≤ 12000 * s0 57 n) (hg : 0 ≤ s0 60 n ∧ s0 60 n + m ≤ 4800)
    (k : ∀ s, Fr [60, 64] s0 s → s 60 = fu (s0 60) n (s0 60 n + m) → (∀ j, 0 ≤ j → j < m → s 64 ((2 * p + w) * 60 + hPl (0 < s0 17 p ↔ w = 0) (s0 4 p) m j) = hGv W (s0 57 n) (s0 60 n + j) 1) → (∀ x, (∀ j, 0 ≤ j → j < m → ¬ x = (2 * p + w) * 60 + hPl (0 < s0 17 p ↔ w = 0) (s0 4 p) m j) → s 64 x = s0 64 x) → Q none s) : aEv (d + 2) true 22 [vr 56, vr 63, vi p, vi w, vi m] s0 Q := by
  have m0 : 1 ≤ m := by rw [hm']; unfold hm; omega
  have n0 : 0 ≤ n ∧ n < 12 := by
    rw [en]
    unfold hFr hTo
    split <;> split <;> omega
  have go : ∀ r : Int, (¬ r = 0 ↔ (0 < s0 17 p ↔ w = 0)) → Yx (d + 2) cd22 0 Q 45 [vr 56, vr 63, vi p, vi w, vi m, vi n, vl W, vt, vt, vt, vt] [vi r] s0 := fun r hr => by
    refine b22_45_1 ⟨by omega, fun z => ⟨by omega, by omega⟩, fun z => by omega, by split <;> omega, ?_⟩
    have eP : ∀ j, (if r = 0 then ((2 * p + w) * 60 + (if r = 0 then s0 4 p - m else m - 1)) + j else ((2 * p + w) * 60 + (if r = 0 then s0 4 p - m else m - 1)) - j) = (2 * p + w) * 60 + hPl (0 < s0 17 p ↔ w = 0) (s0 4 p) m j := fun j => by
      unfold hPl
      by_cases z : r = 0
      · rw [if_pos z, if_pos z, if_neg (fun y => (hr.2 y) z)]
        omega
      · rw [if_neg z, if_neg z, if_pos (hr.1 z)]
        omega
    refine c22k (n := n) (W := W) (m := m) (r := r) n0 hN w0 w1 hg (by omega) (fun z => by rw [if_pos z]; omega) (fun z => by rw [if_neg z]; omega) (fun s f h1 h2 h3 => k s f h1 (fun j j0 j1 => ?_) (fun x hx => h3 x (fun j j0 j1 => ?_))) m.toNat 0 s0 (Int.le_refl _) (by omega) Fr_r ?_ (fun j j0 j1 => by omega) (fun x hx => rfl)
    · have := h2 j j0 j1
      rw [eP j] at this
      exact this
    · rw [eP j]
      exact hx j j0 j1
    · rw [Int.add_zero]
      exact (fu_id rfl).symm
  refine e22 (b22_0 ?_)
  rcases hw with e | e
  · subst e
    rw [if_pos rfl] at en eW
    rw [bi_f (fun z => z rfl)]
    refine c15x p0 fz ⟨_, rfl, b22_14_1 ?_⟩
    rw [← en]
    refine ⟨fun z => absurd rfl z, fun _ => n0, e16 (b16_0 ⟨p0, _, rfl, ?_⟩)⟩
    rw [if_neg (fun z => z rfl), ← eW]
    exact go _ (hRs0.trans ⟨fun z => ⟨fun _ => rfl, fun _ => z⟩, fun z => z.2 rfl⟩)
  · subst e
    rw [if_neg (by decide)] at en eW
    rw [bi_t (show ¬ (1 : Int) = 0 by decide)]
    refine c15y p0 fz ⟨_, rfl, b22_14_1 ?_⟩
    rw [← en]
    refine ⟨fun _ => n0, fun z => absurd z (by decide), e16 (b16_0 ⟨p0, _, rfl, ?_⟩)⟩
    rw [if_pos (show ¬ (1 : Int) = 0 by decide), ← eW]
    exact go _ (hRs1.trans ⟨fun z => ⟨fun y => absurd y z, fun y => absurd y (by decide)⟩, fun z y => absurd (z.1 y) (by decide)⟩)

theorem c22kl {d : Nat} {Q : aQ} {s0 : aW} {n W m r B : Int} (n0 : 0 ≤ n ∧ n < 12) (hN : 0 < s0 57 n ∧ s0 57 n ≤ 4800) (w0 : 0 ≤ W) (w1 : W ≤ 12000 * s0 57 n) (hg : 0 ≤ s0 60 n ∧ s0 60 n + m ≤ 4800) (m1 : m ≤ 60) (hB : r = 0 → 0 ≤ B ∧ B + m ≤ 2400) (hB' : ¬ r = 0 → B < 2400 ∧ 0 ≤ B - m + 1)
    (k : ∀ s, Fr [60, 75] s0 s → s 60 = fu (s0 60) n (s0 60 n + m) → (∀ j, 0 ≤ j → j < m → s 75 (if r = 0 then B + j else B - j) = hGv W (s0 57 n) (s0 60 n + j) 1) → (∀ x, (∀ j, 0 ≤ j → j < m → ¬ x = (if r = 0 then B + j else B - j)) → s 75 x = s0 75 x) → Q none s) :
    ∀ (q : Nat) (i : Int) (s : aW), 0 ≤ i → i + q = m → Fr [60, 75] s0 s → s 60 = fu (s0 60) n (s0 60 n + i) → (∀ j, 0 ≤ j → j < i → s 75 (if r = 0 then B + j else B - j) = hGv W (s0 57 n) (s0 60 n + j) 1) → (∀ x, (∀ j, 0 ≤ j → j < i → ¬ x = (if r = 0 then B + j else B - j)) → s 75 x = s0 75 x) → Yx (d + 2) cd22 0 Q 82 [vr 56, vr 74, vt, vt, vi m, vi n, vl W, vt, vi r, vi B, vi i] [] s
  | 0, i, s, i0, im, f, h1, h2, h3 => by
    have e : i = m := by omega
    subst e
    exact b22l_82 ⟨fun _ => k s f h1 h2 h3, fun z => absurd (Int.le_refl _) z⟩
  | q + 1, i, s, i0, im, f, h1, h2, h3 => by
    have s57 : s 57 = s0 57 := f 57 (by decide)
    have s60 : s 60 n = s0 60 n + i := by rw [h1, fu_s]
    refine b22l_82 ⟨fun z => by omega, fun _ => ⟨fun z => by have := hB z; omega, fun z => by have := hB' z; omega, c20 n0 (by rw [s57]; omega) w0 (by rw [s57]; exact w1) (by omega) (by omega) ⟨_, rfl, b22l_120_3 ?_⟩⟩⟩
    rw [s57, s60]
    have b := hGv_b (g := s0 60 n + i) hN.1 w0 w1 (show (0 : Int) ≤ 1 by decide)
    have rg : 0 ≤ (if r = 0 then B + i else B - i) ∧ (if r = 0 then B + i else B - i) < 2400 := by
      split
      · rename_i z
        have := hB z
        omega
      · rename_i z
        have := hB' z
        omega
    refine ⟨by omega, rg, by omega, c22kl n0 hN w0 w1 hg m1 hB hB' k q (i + 1) _ (by omega) (by omega) (Fr_w (Fr_w f (by decide)) (by decide)) ?_ (fun j j0 j1 => ?_) (fun x hx => ?_)⟩
    · rw [sw_n (by decide), sw_s, h1]
      funext y
      unfold fu
      split
      · omega
      · rfl
    · rw [sw_s, sw_n (by decide)]
      by_cases e : j = i
      · rw [e, fu_s]
      · rw [fu_n (by split <;> omega)]
        exact h2 j j0 (by omega)
    · rw [sw_s, sw_n (by decide), fu_n (hx i i0 (by omega))]
      exact h3 x (fun j j0 j1 => hx j j0 (by omega))
/-- the place of the k-th new unit -/
def hPll (r : Prop) [Decidable r] (L m k : Int) : Int := if r then m - 1 - k else L - m + k
theorem c22l {d : Nat} {Q : aQ} {s0 : aW} {p w m : Int} (hw : w = 0 ∨ w = 1) (p0 : 0 ≤ p ∧ p < 20) (fz : ¬ s0 17 p = 0) (hm' : m = hm (s0 17) p) (hL : m ≤ s0 4 p ∧ s0 4 p ≤ 60) (hE : 0 ≤ s0 2 p ∧ s0 2 p < 12 ∧ 0 ≤ s0 3 p ∧ s0 3 p < 12)
    {n W : Int} (en : n = if w = 0 then hFr (s0 17) (s0 2) (s0 3) p else hTo (s0 17) (s0 2) (s0 3) p) (eW : W = if w = 0 then s0 58 n else s0 59 n) (hN : 0 < s0 57 n ∧ s0 57 n ≤ 4800) (w0 : 0 ≤ W) (w1 : W ≤ 12000 * s0 57 n) (hg : 0 ≤ s0 60 n ∧ s0 60 n + m ≤ 4800)
    (k : ∀ s, Fr [60, 75] s0 s → s 60 = fu (s0 60) n (s0 60 n + m) → (∀ j, 0 ≤ j → j < m → s 75 ((2 * p + w) * 60 + hPll (0 < s0 17 p ↔ w = 0) (s0 4 p) m j) = hGv W (s0 57 n) (s0 60 n + j) 1) → (∀ x, (∀ j, 0 ≤ j → j < m → ¬ x = (2 * p + w) * 60 + hPll (0 < s0 17 p ↔ w = 0) (s0 4 p) m j) → s 75 x = s0 75 x) → Q none s) : aEv (d + 2) true 22 [vr 56, vr 74, vi p, vi w, vi m] s0 Q := by
  have m0 : 1 ≤ m := by rw [hm']; unfold hm; omega
  have n0 : 0 ≤ n ∧ n < 12 := by
    rw [en]
    unfold hFr hTo
    split <;> split <;> omega
  have go : ∀ r : Int, (¬ r = 0 ↔ (0 < s0 17 p ↔ w = 0)) → Yx (d + 2) cd22 0 Q 45 [vr 56, vr 74, vi p, vi w, vi m, vi n, vl W, vt, vt, vt, vt] [vi r] s0 := fun r hr => by
    refine b22l_45_1 ⟨by omega, fun z => ⟨by omega, by omega⟩, fun z => by omega, by split <;> omega, ?_⟩
    have eP : ∀ j, (if r = 0 then ((2 * p + w) * 60 + (if r = 0 then s0 4 p - m else m - 1)) + j else ((2 * p + w) * 60 + (if r = 0 then s0 4 p - m else m - 1)) - j) = (2 * p + w) * 60 + hPll (0 < s0 17 p ↔ w = 0) (s0 4 p) m j := fun j => by
      unfold hPll
      by_cases z : r = 0
      · rw [if_pos z, if_pos z, if_neg (fun y => (hr.2 y) z)]
        omega
      · rw [if_neg z, if_neg z, if_pos (hr.1 z)]
        omega
    refine c22kl (n := n) (W := W) (m := m) (r := r) n0 hN w0 w1 hg (by omega) (fun z => by rw [if_pos z]; omega) (fun z => by rw [if_neg z]; omega) (fun s f h1 h2 h3 => k s f h1 (fun j j0 j1 => ?_) (fun x hx => h3 x (fun j j0 j1 => ?_))) m.toNat 0 s0 (Int.le_refl _) (by omega) Fr_r ?_ (fun j j0 j1 => by omega) (fun x hx => rfl)
    · have := h2 j j0 j1
      rw [eP j] at this
      exact this
    · rw [eP j]
      exact hx j j0 j1
    · rw [Int.add_zero]
      exact (fu_id rfl).symm
  refine e22l (b22l_0 ?_)
  rcases hw with e | e
  · subst e
    rw [if_pos rfl] at en eW
    rw [bi_f (fun z => z rfl)]
    refine c15x p0 fz ⟨_, rfl, b22l_14_1 ?_⟩
    rw [← en]
    refine ⟨fun z => absurd rfl z, fun _ => n0, e16 (b16_0 ⟨p0, _, rfl, ?_⟩)⟩
    rw [if_neg (fun z => z rfl), ← eW]
    exact go _ (hRs0.trans ⟨fun z => ⟨fun _ => rfl, fun _ => z⟩, fun z => z.2 rfl⟩)
  · subst e
    rw [if_neg (by decide)] at en eW
    rw [bi_t (show ¬ (1 : Int) = 0 by decide)]
    refine c15y p0 fz ⟨_, rfl, b22l_14_1 ?_⟩
    rw [← en]
    refine ⟨fun _ => n0, fun z => absurd z (by decide), e16 (b16_0 ⟨p0, _, rfl, ?_⟩)⟩
    rw [if_pos (show ¬ (1 : Int) = 0 by decide), ← eW]
    exact go _ (hRs1.trans ⟨fun z => ⟨fun y => absurd y z, fun y => absurd y (by decide)⟩, fun z y => absurd (z.1 y) (by decide)⟩)

/-- fillPipes: nd the node of a pipe, W N of a node; f ends longs as they are -/
def hGi (nd mm : Int → Int) (n i : Int) : Int := sI (fun q => if nd q = n then mm q else 0) i.toNat
def hFi (s0 s : aW) (w : Int) (nd : Int → Int) (W : Int → Int) (i : Int) : Prop := (∀ n, 0 ≤ n → n < 12 → s 60 n = hGi nd (hm (s0 17)) n i) ∧ (∀ p, 0 ≤ p → p < i → ∀ j, 0 ≤ j → j < hm (s0 17) p → s 64 ((2 * p + w) * 60 + hPl (0 < s0 17 p ↔ w = 0) (s0 4 p) (hm (s0 17) p) j) = hGv (W (nd p)) (s0 57 (nd p)) (hGi nd (hm (s0 17)) (nd p) p + j) 1) ∧ (∀ x, (∀ p j, 0 ≤ p → p < i → 0 ≤ j → j < hm (s0 17) p → ¬ x = (2 * p + w) * 60 + hPl (0 < s0 17 p ↔ w = 0) (s0 4 p) (hm (s0 17) p) j) → s 64 x = s0 64 x)
theorem hPl_r {r : Prop} [Decidable r] {L m k : Int} (h1 : m ≤ L) (h2 : L ≤ 60) (k0 : 0 ≤ k) (k1 : k < m) : 0 ≤ hPl r L m k ∧ hPl r L m k < L := by
  unfold hPl
  split <;> omega
theorem c21 {d : Nat} {Q : aQ} {s0 : aW} {w P : Int} {nd W : Int → Int} (hw : w = 0 ∨ w = 1) (hP : s0 1 1 = P ∧ 0 ≤ P ∧ P ≤ 20) (hp : ∀ p, 0 ≤ p → p < P → 0 ≤ s0 2 p ∧ s0 2 p < 12 ∧ 0 ≤ s0 3 p ∧ s0 3 p < 12 ∧ hm (s0 17) p ≤ s0 4 p ∧ s0 4 p ≤ 60) (hnd : ∀ p, 0 ≤ p → p < P → nd p = if w = 0 then hFr (s0 17) (s0 2) (s0 3) p else hTo (s0 17) (s0 2) (s0 3) p) (hW : ∀ n, 0 ≤ n → n < 12 → W n = (if w = 0 then s0 58 n else s0 59 n)) (hN : ∀ p, 0 ≤ p → p < P → ¬ s0 17 p = 0 → 0 < s0 57 (nd p) ∧ s0 57 (nd p) ≤ 4800 ∧ 0 ≤ W (nd p) ∧ W (nd p) ≤ 12000 * s0 57 (nd p))
    (k : ∀ s, Fr [60, 64] s0 s → hFi s0 s w nd W P → Q none s) : aEv (d + 3) true 21 [vr 56, vr 63, vi w] s0 Q := by
  have key : ∀ (q : Nat) (i : Int) (s : aW), 0 ≤ i → i + q = P → Fr [60, 64] s0 s → hFi s0 s w nd W i → Yx (d + 3) cd21 0 Q 10 [vr 56, vr 63, vi w, vi i, vt] [] s := by
    intro q
    induction q with
    | zero =>
      intro i s i0 im f h
      have e : i = P := by omega
      subst e
      exact b21_10 ⟨fun _ => k s f h, fun z => absurd (by rw [f 1 (by decide)]; exact Int.le_of_eq hP.1) z⟩
    | succ q ih =>
      intro i s i0 im f h
      obtain ⟨h1, h2, h3⟩ := h
      have s17 : s 17 = s0 17 := f 17 (by decide)
      have op := hp i i0 (by omega)
      have em : (((s 17 i)).natAbs : Int) = hm (s0 17) i := by rw [s17]; rfl
      have m0 := hm_0 (s0 17) i
      have gs : ∀ n, hGi nd (hm (s0 17)) n (i + 1) = hGi nd (hm (s0 17)) n i + (if nd i = n then hm (s0 17) i else 0) := fun n => by unfold hGi; exact sI_s i0
      have gb : ∀ n, 0 ≤ hGi nd (hm (s0 17)) n i ∧ hGi nd (hm (s0 17)) n i ≤ 60 * i := fun n => by
        have a := sI_b (f := fun p => if nd p = n then hm (s0 17) p else 0) (B := 60) (n := i.toNat) (fun p p0 p1 => by
          have := hp p p0 (by omega)
          have := hm_0 (s0 17) p
          split <;> omega)
        rw [show ((i.toNat : Nat) : Int) = i by omega] at a
        exact a
      refine b21_10 ⟨fun z => absurd z (by rw [f 1 (by decide)]; omega), fun _ => ⟨by omega, by rw [s17]; unfold hm at op; omega, fun z => ⟨by omega, ih (i + 1) s (by omega) (by omega) f ⟨fun n n0 n1 => ?_, fun p p0 p1 j j0 j1 => ?_, fun x hx => h3 x (fun p j p0 p1 j0 j1 => hx p j p0 (by omega) j0 j1)⟩⟩, fun z => ?_⟩⟩
      · rw [gs n, h1 n n0 n1, show hm (s0 17) i = 0 by rw [← em]; omega]
        split <;> omega
      · by_cases e : p = i
        · subst e
          omega
        · exact h2 p p0 (by omega) j j0 j1
      · rw [em] at z ⊢
        have fz : ¬ s0 17 i = 0 := fun y => z (by unfold hm; rw [y]; decide)
        have hn := hN i i0 (by omega) fz
        have en := hnd i i0 (by omega)
        have n0 : 0 ≤ nd i ∧ nd i < 12 := by
          rw [en]
          unfold hFr hTo
          split <;> split <;> omega
        have s2 : s 2 = s0 2 := f 2 (by decide)
        have s3 : s 3 = s0 3 := f 3 (by decide)
        have s4 : s 4 = s0 4 := f 4 (by decide)
        have s57 : s 57 = s0 57 := f 57 (by decide)
        have g0 := h1 (nd i) n0.1 n0.2
        have gb0 := gb (nd i)
        refine c22 (n := nd i) (W := W (nd i)) hw (by omega) (by rw [s17]; exact fz) (by rw [s17]) (by rw [s4]; omega) (by rw [s2, s3]; omega) (by rw [s17, s2, s3]; exact en) (by rw [f 58 (by decide), f 59 (by decide)]; exact hW _ n0.1 n0.2) (by rw [s57]; omega) hn.2.2.1 (by rw [s57]; exact hn.2.2.2) (by omega) (fun t ft t1 t2 t3 => ⟨rfl, b21_49 ⟨by omega, ih (i + 1) t (by omega) (by omega) (Fr_t f ft (fun a ha => ⟨ha, ha⟩)) ⟨fun n n0 n1 => ?_, fun p p0 p1 j j0 j1 => ?_, fun x hx => ?_⟩⟩⟩)
        · rw [t1, gs n]
          by_cases e : n = nd i
          · rw [e, fu_s, g0, if_pos rfl]
          · rw [fu_n e, h1 n n0 n1, if_neg (fun y => e y.symm)]
            omega
        · rw [s17, s4, s57, g0] at t2
          rw [s17, s4] at t3
          by_cases e : p = i
          · subst e
            exact t2 j j0 j1
          · rw [t3 _ (fun j' j0' j1' => ?_)]
            · exact h2 p p0 (by omega) j j0 j1
            · have a1 := hp p p0 (by omega)
              have a2 := hPl_r (r := (0 < s0 17 p ↔ w = 0)) a1.2.2.2.2.1 a1.2.2.2.2.2 j0 j1
              have a3 := hPl_r (r := (0 < s0 17 i ↔ w = 0)) op.2.2.2.2.1 op.2.2.2.2.2 j0' j1'
              omega
        · rw [s17, s4] at t3
          rw [t3 x (fun j j0 j1 => hx i j i0 (by omega) j0 j1)]
          exact h3 x (fun p j p0 p1 j0 j1 => hx p j p0 (by omega) j0 j1)
  refine e21 (b21_0 (c273f (fun s f h => ⟨rfl, b21_8 (key P.toNat 0 s (Int.le_refl _) (by omega) (Fr_s f (by decide)) ⟨fun n n0 n1 => by rw [h n n0 n1]; rfl, fun p p0 p1 => by omega, fun x _ => by rw [f 64 (by decide)]⟩)⟩)))

/-- fillPipes: nd the node of a pipe, W N of a node; f ends longs as they are -/
def hFil (s0 s : aW) (w : Int) (nd : Int → Int) (W : Int → Int) (i : Int) : Prop := (∀ n, 0 ≤ n → n < 12 → s 60 n = hGi nd (hm (s0 17)) n i) ∧ (∀ p, 0 ≤ p → p < i → ∀ j, 0 ≤ j → j < hm (s0 17) p → s 75 ((2 * p + w) * 60 + hPll (0 < s0 17 p ↔ w = 0) (s0 4 p) (hm (s0 17) p) j) = hGv (W (nd p)) (s0 57 (nd p)) (hGi nd (hm (s0 17)) (nd p) p + j) 1) ∧ (∀ x, (∀ p j, 0 ≤ p → p < i → 0 ≤ j → j < hm (s0 17) p → ¬ x = (2 * p + w) * 60 + hPll (0 < s0 17 p ↔ w = 0) (s0 4 p) (hm (s0 17) p) j) → s 75 x = s0 75 x)
theorem hPl_rl {r : Prop} [Decidable r] {L m k : Int} (h1 : m ≤ L) (h2 : L ≤ 60) (k0 : 0 ≤ k) (k1 : k < m) : 0 ≤ hPll r L m k ∧ hPll r L m k < L := by
  unfold hPll
  split <;> omega
theorem c21l {d : Nat} {Q : aQ} {s0 : aW} {w P : Int} {nd W : Int → Int} (hw : w = 0 ∨ w = 1) (hP : s0 1 1 = P ∧ 0 ≤ P ∧ P ≤ 20) (hp : ∀ p, 0 ≤ p → p < P → 0 ≤ s0 2 p ∧ s0 2 p < 12 ∧ 0 ≤ s0 3 p ∧ s0 3 p < 12 ∧ hm (s0 17) p ≤ s0 4 p ∧ s0 4 p ≤ 60) (hnd : ∀ p, 0 ≤ p → p < P → nd p = if w = 0 then hFr (s0 17) (s0 2) (s0 3) p else hTo (s0 17) (s0 2) (s0 3) p) (hW : ∀ n, 0 ≤ n → n < 12 → W n = (if w = 0 then s0 58 n else s0 59 n)) (hN : ∀ p, 0 ≤ p → p < P → ¬ s0 17 p = 0 → 0 < s0 57 (nd p) ∧ s0 57 (nd p) ≤ 4800 ∧ 0 ≤ W (nd p) ∧ W (nd p) ≤ 12000 * s0 57 (nd p))
    (k : ∀ s, Fr [60, 75] s0 s → hFil s0 s w nd W P → Q none s) : aEv (d + 3) true 21 [vr 56, vr 74, vi w] s0 Q := by
  have key : ∀ (q : Nat) (i : Int) (s : aW), 0 ≤ i → i + q = P → Fr [60, 75] s0 s → hFil s0 s w nd W i → Yx (d + 3) cd21 0 Q 10 [vr 56, vr 74, vi w, vi i, vt] [] s := by
    intro q
    induction q with
    | zero =>
      intro i s i0 im f h
      have e : i = P := by omega
      subst e
      exact b21l_10 ⟨fun _ => k s f h, fun z => absurd (by rw [f 1 (by decide)]; exact Int.le_of_eq hP.1) z⟩
    | succ q ih =>
      intro i s i0 im f h
      obtain ⟨h1, h2, h3⟩ := h
      have s17 : s 17 = s0 17 := f 17 (by decide)
      have op := hp i i0 (by omega)
      have em : (((s 17 i)).natAbs : Int) = hm (s0 17) i := by rw [s17]; rfl
      have m0 := hm_0 (s0 17) i
      have gs : ∀ n, hGi nd (hm (s0 17)) n (i + 1) = hGi nd (hm (s0 17)) n i + (if nd i = n then hm (s0 17) i else 0) := fun n => by unfold hGi; exact sI_s i0
      have gb : ∀ n, 0 ≤ hGi nd (hm (s0 17)) n i ∧ hGi nd (hm (s0 17)) n i ≤ 60 * i := fun n => by
        have a := sI_b (f := fun p => if nd p = n then hm (s0 17) p else 0) (B := 60) (n := i.toNat) (fun p p0 p1 => by
          have := hp p p0 (by omega)
          have := hm_0 (s0 17) p
          split <;> omega)
        rw [show ((i.toNat : Nat) : Int) = i by omega] at a
        exact a
      refine b21l_10 ⟨fun z => absurd z (by rw [f 1 (by decide)]; omega), fun _ => ⟨by omega, by rw [s17]; unfold hm at op; omega, fun z => ⟨by omega, ih (i + 1) s (by omega) (by omega) f ⟨fun n n0 n1 => ?_, fun p p0 p1 j j0 j1 => ?_, fun x hx => h3 x (fun p j p0 p1 j0 j1 => hx p j p0 (by omega) j0 j1)⟩⟩, fun z => ?_⟩⟩
      · rw [gs n, h1 n n0 n1, show hm (s0 17) i = 0 by rw [← em]; omega]
        split <;> omega
      · by_cases e : p = i
        · subst e
          omega
        · exact h2 p p0 (by omega) j j0 j1
      · rw [em] at z ⊢
        have fz : ¬ s0 17 i = 0 := fun y => z (by unfold hm; rw [y]; decide)
        have hn := hN i i0 (by omega) fz
        have en := hnd i i0 (by omega)
        have n0 : 0 ≤ nd i ∧ nd i < 12 := by
          rw [en]
          unfold hFr hTo
          split <;> split <;> omega
        have s2 : s 2 = s0 2 := f 2 (by decide)
        have s3 : s 3 = s0 3 := f 3 (by decide)
        have s4 : s 4 = s0 4 := f 4 (by decide)
        have s57 : s 57 = s0 57 := f 57 (by decide)
        have g0 := h1 (nd i) n0.1 n0.2
        have gb0 := gb (nd i)
        refine c22l (n := nd i) (W := W (nd i)) hw (by omega) (by rw [s17]; exact fz) (by rw [s17]) (by rw [s4]; omega) (by rw [s2, s3]; omega) (by rw [s17, s2, s3]; exact en) (by rw [f 58 (by decide), f 59 (by decide)]; exact hW _ n0.1 n0.2) (by rw [s57]; omega) hn.2.2.1 (by rw [s57]; exact hn.2.2.2) (by omega) (fun t ft t1 t2 t3 => ⟨rfl, b21l_49 ⟨by omega, ih (i + 1) t (by omega) (by omega) (Fr_t f ft (fun a ha => ⟨ha, ha⟩)) ⟨fun n n0 n1 => ?_, fun p p0 p1 j j0 j1 => ?_, fun x hx => ?_⟩⟩⟩)
        · rw [t1, gs n]
          by_cases e : n = nd i
          · rw [e, fu_s, g0, if_pos rfl]
          · rw [fu_n e, h1 n n0 n1, if_neg (fun y => e y.symm)]
            omega
        · rw [s17, s4, s57, g0] at t2
          rw [s17, s4] at t3
          by_cases e : p = i
          · subst e
            exact t2 j j0 j1
          · rw [t3 _ (fun j' j0' j1' => ?_)]
            · exact h2 p p0 (by omega) j j0 j1
            · have a1 := hp p p0 (by omega)
              have a2 := hPl_rl (r := (0 < s0 17 p ↔ w = 0)) a1.2.2.2.2.1 a1.2.2.2.2.2 j0 j1
              have a3 := hPl_rl (r := (0 < s0 17 i ↔ w = 0)) op.2.2.2.2.1 op.2.2.2.2.2 j0' j1'
              omega
        · rw [s17, s4] at t3
          rw [t3 x (fun j j0 j1 => hx i j i0 (by omega) j0 j1)]
          exact h3 x (fun p j p0 p1 j0 j1 => hx p j p0 (by omega) j0 j1)
  refine e21l (b21l_0 (c273f (fun s f h => ⟨rfl, b21l_8 (key P.toNat 0 s (Int.le_refl _) (by omega) (Fr_s f (by decide)) ⟨fun n n0 n1 => by rw [h n n0 n1]; rfl, fun p p0 p1 => by omega, fun x _ => by rw [f 75 (by decide)]⟩)⟩)))
end
