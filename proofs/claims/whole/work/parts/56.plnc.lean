section
/-! the plan: the component -/
theorem IBo_c {σ s : aW} (h1 : s 45 0 = σ 45 0) (h2 : s 96 8 = σ 96 8) (h3 : s 48 = σ 48) (h4 : s 49 = σ 49) (h5 : s 50 = σ 50) (h6 : s 112 = σ 112) (h7 : s 113 = σ 113) (h : IBo σ) : IBo s := by
  unfold IBo at *
  rw [h1, h2, h3, h4, h5, h6, h7]
  exact h
theorem IOf_c {σ s : aW} (h1 : s 46 1 = σ 46 1) (h2 : s 46 2 = σ 46 2) (h3 : s 120 2532 = σ 120 2532) (h4 : s 45 1 = σ 45 1) (h5 : s 96 14 = σ 96 14) (h6 : s 115 = σ 115) (h7 : s 47 = σ 47) (h : IOf σ) : IOf s := by
  unfold IOf at *
  rw [h1, h2, h3, h4, h5, h6, h7]
  exact h
def cF (σ : aW) (a : Int) (k l i : Int) : Int := bK (σ 50) (σ 112) (σ 113) (σ 115) (σ 96 8) (σ 96 14) (σ 120 2532 + k) (σ 99 (60 * a + k) + σ 96 13 * (i - l))
def cT (σ : aW) : Int := σ 96 12 / σ 96 13 + 1
theorem st_b {h s x : Int} (h0 : 0 ≤ h) (s0 : 0 < s) (x0 : -(h / s) ≤ x) (x1 : x ≤ h / s) : -h ≤ x * s ∧ x * s ≤ h := by
  have e := Int.ediv_mul_le h (show s ≠ 0 by omega)
  have a := Int.mul_le_mul_of_nonneg_right x1 (show 0 ≤ s by omega)
  have b := Int.mul_le_mul_of_nonneg_right x0 (show 0 ≤ s by omega)
  rw [Int.neg_mul] at b
  omega
theorem c101 {d : Nat} {Q : aQ} {s : aW} {a1 a2 a3 : Int} {C R : Int → Int} (hk : 0 ≤ a1 ∧ a1 < 24) (hl : 0 ≤ a2 ∧ a2 ≤ a3) (h3 : a3 ≤ 40) (hp : ∀ i, 0 ≤ i → i ≤ a3 → s 53 (i - a2 + 40) = pCap (C i) ∧ C i ≤ 1000000) (hr : ∀ i, 0 ≤ i → i ≤ a3 → s 54 ((a1 + 1) * 41 + i) = pCap (R i) ∧ R i ≤ 24000000)
    (k : Q none (sw (sw s 54 (fu (s 54) (a1 * 41 + a2) (pCap (pv C R (a3 + 1).toNat)))) 55 (fu (s 55) (a1 * 41 + a2) (pc C R (a3 + 1).toNat)))) : aEv (d + 0) true 101 [vr 51, vi a1, vi a2, vi a3] s Q := by
  refine e101 (b101_0 ?_)
  refine for_up2 (X := fun i qa qb => Yx (d + 0) cd101 0 Q 11 [vr 51, vi a1, vi a2, vi a3, vl qa, vt, vi qb, vi i, vt, vt] [] s) (I := fun i qa qb => 0 ≤ i ∧ i ≤ a3 + 1 ∧ qa = pCap (pv C R i.toNat) ∧ qb = pc C R i.toNat) (N := a3 + 1) ?_ ?_ 0 (1000000000000) (0) ⟨Int.le_refl _, by omega, rfl, rfl⟩
  · rintro i x y hi ⟨i0, i1, i2, i3⟩ K
    obtain ⟨p1, p2⟩ := hp i i0 (by omega)
    obtain ⟨r1, r2⟩ := hr i i0 (by omega)
    have vb := pv_b (c := C) (R := R) (B := 24000000) (by omega) (n := i.toNat) (fun j j0 j1 => ⟨(hp j j0 (by omega)).2, (hr j j0 (by omega)).2⟩)
    have es := pv_s (c := C) (R := R) i0
    have ec := pc_s (c := C) (R := R) i0
    refine b101_11 ⟨fun z => by omega, fun _ => ?_⟩
    rw [p1, r1]
    subst i2
    subst i3
    have u1 : 0 ≤ pCap (C i) ∨ pCap (C i) < 0 := by omega
    have q1 : -10 ≤ pCap (C i) ∧ pCap (C i) ≤ 1000000000000 := by unfold pCap; split <;> omega
    have q2 : -10 ≤ pCap (R i) ∧ pCap (R i) ≤ 1000000000000 := by unfold pCap; split <;> omega
    refine ⟨by omega, by omega, by omega, by omega, by omega, by omega, by omega, by omega, fun z => ⟨by omega, K (_) (_) ⟨by omega, by omega, ?_, ?_⟩⟩, fun z => ⟨by omega, K (_) (_) ⟨by omega, by omega, ?_, ?_⟩⟩⟩
    · rw [es]
      have : ¬ (0 ≤ C i ∧ 0 ≤ R i ∧ (pv C R i.toNat < 0 ∨ C i + R i < pv C R i.toNat)) := by
        intro w
        unfold pCap at z
        split at z <;> split at z <;> split at z <;> omega
      rw [if_neg this]
    · rw [ec]
      have : ¬ (0 ≤ C i ∧ 0 ≤ R i ∧ (pv C R i.toNat < 0 ∨ C i + R i < pv C R i.toNat)) := by
        intro w
        unfold pCap at z
        split at z <;> split at z <;> split at z <;> omega
      rw [if_neg this]
    · rw [es]
      have : 0 ≤ C i ∧ 0 ≤ R i ∧ (pv C R i.toNat < 0 ∨ C i + R i < pv C R i.toNat) := by
        unfold pCap at z
        split at z <;> split at z <;> split at z <;> omega
      rw [if_pos this]
      unfold pCap
      rw [if_neg (by omega), if_neg (by omega), if_neg (by omega)]
    · rw [ec]
      have : 0 ≤ C i ∧ 0 ≤ R i ∧ (pv C R i.toNat < 0 ∨ C i + R i < pv C R i.toNat) := by
        unfold pCap at z
        split at z <;> split at z <;> split at z <;> omega
      rw [if_pos this]
  · rintro i x y hi ⟨i0, i1, i2, i3⟩
    have ei : i = a3 + 1 := by omega
    subst ei
    refine b101_11 ⟨fun _ => ⟨by omega, by omega, by omega, by omega, by omega, by omega, ?_⟩, fun z => by omega⟩
    rw [i2, i3]
    exact k
theorem c100 {d : Nat} {Q : aQ} {σ : aW} {a1 a3 a4 : Int} (hB : IBo σ) (hO : IOf σ) (hD : IDp σ) (h0 : 0 ≤ σ 120 2532) (h1 : σ 120 2532 ≤ a3) (h2 : a3 < 5050) (g0 : 0 ≤ a1) (g1 : a1 ≤ 800000) (g4 : a4 = σ 96 12 / σ 96 13) (hh : 0 ≤ a4)
    (k : ∀ s, Fg [53] [(45, 3), (45, 4), (45, 5)] σ s → (∀ c, -a4 ≤ c → c ≤ a4 → s 53 (c + 40) = pCap (bK (σ 50) (σ 112) (σ 113) (σ 115) (σ 96 8) (σ 96 14) a3 (a1 + c * σ 96 13))) → Q none s) : aEv (d + 2) true 100 [vr 51, vl a1, vi a3, vi a4] σ Q := by
  obtain ⟨d1, d2, d3, d4, d5, d6, d7, -⟩ := hD
  refine e100 (b100_0 ⟨by omega, ?_⟩)
  refine for_up (X := fun c s => Yx (d + 2) cd100 0 Q 5 [vr 51, vl a1, vt, vi a3, vi a4, vi c, vt, vt, vt] [] s) (I := fun c s => -a4 ≤ c ∧ c ≤ a4 + 1 ∧ Fg [53] [(45, 3), (45, 4), (45, 5)] σ s ∧ ∀ j, -a4 ≤ j → j < c → s 53 (j + 40) = pCap (bK (σ 50) (σ 112) (σ 113) (σ 115) (σ 96 8) (σ 96 14) a3 (a1 + j * σ 96 13))) (N := a4 + 1) ?_ ?_ (-a4) σ ⟨Int.le_refl _, by omega, Fg_r, fun j j0 j1 => by omega⟩
  · rintro c s hc ⟨c0, c1, c2, c3⟩ K
    have s1 : s 51 1 = σ 96 13 := by rw [c2 51 1 (by decide) (by decide)]; exact d4
    have sb := st_b (h := σ 96 12) (s := σ 96 13) (x := c) (by omega) (by omega) (by omega) (by omega)
    have nx : ∀ (t : aW) (v : Int), Fg [53] [(45, 3), (45, 4), (45, 5)] σ t → t 53 = s 53 → v = pCap (bK (σ 50) (σ 112) (σ 113) (σ 115) (σ 96 8) (σ 96 14) a3 (a1 + c * σ 96 13)) → Yx (d + 2) cd100 0 Q 5 [vr 51, vl a1, vt, vi a3, vi a4, vi (c + 1), vt, vt, vt] [] (sw t 53 (fu (t 53) (c + 40) v)) := fun t v t1 t2 t3 => K _ ⟨by omega, by omega, Fg_w t1 (by decide), fun j j0 j1 => by
      rw [sw_s]
      by_cases e : j = c
      · subst e
        rw [fu_s]
        exact t3
      · rw [fu_n (by omega), t2]
        exact c3 j j0 (by omega)⟩
    refine b100_5 ⟨fun z => by omega, fun _ => ?_⟩
    rw [s1]
    generalize hx : c * σ 96 13 = x at *
    refine ⟨by omega, by omega, fun z => ⟨by omega, by omega, by omega, nx s _ c2 rfl ?_⟩, fun z => ?_⟩
    · unfold bK pCap
      rw [if_pos z, if_pos (by omega)]
    · have b0 : IBo s := IBo_c (c2 45 0 (by decide) (by decide)) (c2 96 8 (by decide) (by decide)) (Fg_k c2 rfl rfl) (Fg_k c2 rfl rfl) (Fg_k c2 rfl rfl) (Fg_k c2 rfl rfl) (Fg_k c2 rfl rfl) hB
      have o0 : IOf s := IOf_c (c2 46 1 (by decide) (by decide)) (c2 46 2 (by decide) (by decide)) (c2 120 2532 (by decide) (by decide)) (c2 45 1 (by decide) (by decide)) (c2 96 14 (by decide) (by decide)) (Fg_k c2 rfl rfl) (Fg_k c2 rfl rfl) hO
      have k1 : s 120 2532 = σ 120 2532 := c2 120 2532 (by decide) (by decide)
      have n1 := hB.2.1
      have n2 := hB.2.2.1
      have ho := hO.2.2.2.2.2.2.2 a3 h1 h2
      refine c105 b0 o0 (by omega) (by omega) h2 (by omega) (by omega) (fun t t1 t2 t3 t4 => ⟨_, rfl, b100_42_1 ⟨by omega, by omega, by omega, nx t _ (Fg_t c2 (Fg_m t1 (by decide) (by decide))) (Fg_k t1 rfl rfl) ?_⟩⟩)
      rw [t4]
      have z50 : s 50 = σ 50 := Fg_k c2 rfl rfl
      have z112 : s 112 = σ 112 := Fg_k c2 rfl rfl
      have z113 : s 113 = σ 113 := Fg_k c2 rfl rfl
      have z115 : s 115 = σ 115 := Fg_k c2 rfl rfl
      have z8 : s 96 8 = σ 96 8 := c2 96 8 (by decide) (by decide)
      have z14 : s 96 14 = σ 96 14 := c2 96 14 (by decide) (by decide)
      rw [z50, z112, z113, z115, z8, z14]
      have lb := bL_b (L := a1 + x - min (a1 + x) (σ 115 a3)) hB (by omega) (σ 96 8).toNat (by omega)
      have q := mq_b (m := min (a1 + x) (σ 115 a3)) (q := σ 96 14) (M := 200000) (by omega) (by omega) hO.2.2.2.2.2.1 hO.2.2.2.2.2.2.1
      have cb := bC_b (L := a1 + x - min (a1 + x) (σ 115 a3)) (c := min (a1 + x) (σ 115 a3) * σ 96 14 / 1000) hB (by omega) (σ 96 8).toNat (by omega)
      unfold bK
      rw [if_neg z]
      by_cases w : bL (σ 50) (σ 112) (a1 + x - min (a1 + x) (σ 115 a3)) (σ 96 8).toNat ≤ 0
      · rw [if_neg (by omega), if_pos w]
        unfold pCap
        rw [if_neg (by omega)]
      · rw [if_pos (by omega), if_neg w]
        unfold pCap
        rw [if_pos (by omega)]
  · rintro c s hc ⟨c0, c1, c2, c3⟩
    exact b100_5 ⟨fun _ => k s c2 (fun j j0 j1 => c3 j j0 (by omega)), fun z => by omega⟩
theorem c102 {d : Nat} {Q : aQ} {s : aW} {n l0 : Int} {c : Int → Int → Int → Int} {T : Int} (hs : 1 ≤ s 51 1) (hs2 : (T - 1) * s 51 1 ≤ 1000000) (hT : T ≤ 41) (hn : 0 ≤ n ∧ n ≤ 24) (h0 : 0 ≤ l0) (h1 : l0 < T) (h55 : ∀ k, 0 ≤ k → k < n → ∀ l, 0 ≤ l → l < T → s 55 (k * 41 + l) = PC c T n k l)
    (k : ∀ t, Fg [52] [(51, 3)] s t → t 51 3 = n → (∀ k, 0 ≤ k → k < n → t 52 k = pL c T n l0 (k + 1).toNat * s 51 1) → Q none t) : aEv (d + 0) true 102 [vr 51, vi n, vi l0] s Q := by
  refine e102 (b102_0 ?_)
  refine for_up2 (X := fun k qa qb => Yx (d + 0) cd102 0 Q 5 [vr 51, vi n, vt, vi qa, vi k] [] qb) (I := fun k qa qb => 0 ≤ k ∧ k ≤ n ∧ Fr [52] s qb ∧ qa = pL c T n l0 k.toNat ∧ ∀ j, 0 ≤ j → j < k → qb 52 j = pL c T n l0 (j + 1).toNat * s 51 1) (N := n) ?_ ?_ 0 (l0) (s) ⟨Int.le_refl _, hn.1, Fr_r, rfl, fun j j0 j1 => by omega⟩
  · rintro k x t hk ⟨k0, k1, k2, k3, k4⟩ K
    have xb := pL_b (c := c) (n := n) h0 h1 k.toNat
    have yb := pL_b (c := c) (n := n) h0 h1 (k + 1).toNat
    have e55 : t 55 (k * 41 + x) = pL c T n l0 (k + 1).toNat := by rw [k2 55 (by decide), h55 k k0 hk x (by omega) (by omega), pL_s k0, k3]
    have e51 : t 51 1 = s 51 1 := by rw [k2 51 (by decide)]
    have mb : 0 ≤ pL c T n l0 (k + 1).toNat * s 51 1 ∧ pL c T n l0 (k + 1).toNat * s 51 1 ≤ 1000000 := by
      have a := Int.mul_le_mul_of_nonneg_right (show pL c T n l0 (k + 1).toNat ≤ T - 1 by omega) (show 0 ≤ s 51 1 by omega)
      have b := Int.mul_nonneg yb.1 (show 0 ≤ s 51 1 by omega)
      omega
    refine b102_5 ⟨fun z => by omega, fun _ => ?_⟩
    rw [e55, e51]
    refine ⟨by omega, by omega, by omega, by omega, by omega, by omega, K (_) (_) ⟨by omega, by omega, Fr_w k2 (by decide), rfl, fun j j0 j1 => ?_⟩⟩
    simp only [sw_s]
    by_cases e : j = k
    · rw [e, fu_s]
    · rw [fu_n e]
      exact k4 j j0 (by omega)
  · rintro k' x t hk ⟨k0, k1, k2, k3, k4⟩
    have ek : k' = n := by omega
    subst ek
    refine b102_5 ⟨fun _ => k _ (Fg_f (Fg_F (Fr_s k2 (by decide))) (by decide)) ?_ ?_, fun z => by omega⟩
    · rw [sw_s, fu_s]
    · rw [sw_n (by decide)]
      exact k4
end
