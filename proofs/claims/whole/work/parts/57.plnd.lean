section
/-! the plan: seek -/
def pF (σ s : aW) : Prop := Fg [53, 54, 55] [(45, 3), (45, 4), (45, 5)] σ s
theorem cF_b {σ : aW} {a n : Int} (hB : IBo σ) (hO : IOf σ) (h0 : σ 120 2532 ≤ 5000) (hn : n ≤ 24) : ∀ k l i, 0 ≤ k → k < n → cF σ a k l i ≤ 1000000 := fun k l i k0 k1 => (bK_b hB hO (by omega) (by omega)).2
theorem c99 {d : Nat} {Q : aQ} {σ : aW} {a : Int} (hB : IBo σ) (hO : IOf σ) (hD : IDp σ) (ha : 0 ≤ a ∧ a < 4) (hr : σ 86 a = σ 98 a) (hn : 1 ≤ σ 98 a ∧ σ 98 a ≤ 24) (hv : ∀ j, 0 ≤ j → j < σ 98 a → σ 88 (60 * a + j) = σ 99 (60 * a + j) ∧ 0 ≤ σ 99 (60 * a + j) ∧ σ 99 (60 * a + j) ≤ 800000)
    (h0 : σ 63 0 = σ 120 2532 ∧ 0 ≤ σ 120 2532 ∧ σ 120 2532 ≤ 5000) (h1 : σ 63 1 = σ 120 2533 ∧ 0 ≤ σ 120 2533 ∧ σ 120 2533 ≤ 1000000) (h2 : σ 120 2533 / σ 96 13 ≤ σ 96 12 / σ 96 13)
    (kN : PV (cF σ a) (cT σ) (σ 98 a) 0 (σ 120 2533 / σ 96 13) < 0 → ∀ s, Fg [53, 54, 55] [(45, 3), (45, 4), (45, 5), (51, 2)] σ s → s 51 2 = 0 → Q (some (vl (-1))) s)
    (kY : 0 ≤ PV (cF σ a) (cT σ) (σ 98 a) 0 (σ 120 2533 / σ 96 13) → ∀ s, Fg [52, 53, 54, 55] [(45, 3), (45, 4), (45, 5), (51, 2), (51, 3), (51, 5)] σ s → s 51 2 = 1 → s 51 3 = σ 98 a → s 51 5 = σ 120 2532 → (∀ k, 0 ≤ k → k < σ 98 a → s 52 k = pL (cF σ a) (cT σ) (σ 98 a) (σ 120 2533 / σ 96 13) (k + 1).toNat * σ 96 13) → Q (some (vl (PV (cF σ a) (cT σ) (σ 98 a) 0 (σ 120 2533 / σ 96 13)))) s) : aEv (d + 3) true 99 [vr 51, vr 85, vi a, vr 63] σ Q := by
  have hD' := hD
  obtain ⟨d1, d2, d3, d4, d5, d6, d7, -⟩ := hD'
  have hcb := cF_b (a := a) hB hO h0.2.2 hn.2
  have T1 : cT σ = σ 96 12 / σ 96 13 + 1 := rfl
  have q0 : 0 ≤ σ 120 2533 / σ 96 13 := Int.ediv_nonneg h1.2.1 (by omega)
  have eS : (if 0 < σ 51 1 then min (σ 51 0 / σ 51 1) 40 else 0) = σ 96 12 / σ 96 13 := by
    rw [d1, d4, if_pos (by omega)]
    omega
  have eN : min (σ 86 a) 24 = σ 98 a := by omega
  refine e99 (b99_0 ?_)
  rw [eS, eN]
  refine ⟨ha, fun _ => by omega, ?_⟩
  generalize hS : σ 96 12 / σ 96 13 = S at *
  generalize hT : cT σ = T at *
  generalize hC : cF σ a = C at *
  generalize hNn : σ 98 a = n at *
  generalize hL : σ 120 2533 / σ 96 13 = l0 at *
  refine for_up (X := fun i s => Yx (d + 3) cd99 2 Q 43 [vr 51, vr 85, vi a, vr 63, vi n, vi S, vi i, vt] [] s) (I := fun i s => 0 ≤ i ∧ i ≤ T ∧ Fr [54] σ s ∧ ∀ l, 0 ≤ l → l < i → s 54 (n * 41 + l) = 0) (N := T) ?_ ?_ 0 σ ⟨Int.le_refl _, by omega, Fr_r, fun l l0 l1 => by omega⟩
  · rintro i s hi ⟨i0, i1, i2, i3⟩ K
    refine b99_43 ⟨fun z => by omega, fun _ => ⟨by omega, by omega, by omega, by omega, K _ ⟨by omega, by omega, Fr_w i2 (by decide), fun l m0 m1 => ?_⟩⟩⟩
    rw [sw_s]
    by_cases e : l = i
    · rw [e, fu_s]
    · rw [fu_n (by omega)]
      exact i3 l m0 (by omega)
  rintro i s hi ⟨i0, i1, i2, i3⟩
  refine b99_43 ⟨fun _ => ⟨by omega, ?_⟩, fun z => by omega⟩
  refine for_dn (X := fun k s => Yx (d + 3) cd99 2 Q 76 [vr 51, vr 85, vi a, vr 63, vi n, vi S, vi k, vt] [] s) (I := fun k s => -1 ≤ k ∧ k ≤ n - 1 ∧ pF σ s ∧ (∀ k', k < k' → k' ≤ n → ∀ l, 0 ≤ l → l < T → s 54 (k' * 41 + l) = pCap (PV C T n k' l)) ∧ (∀ k', k < k' → k' < n → ∀ l, 0 ≤ l → l < T → s 55 (k' * 41 + l) = PC C T n k' l)) (N := 0) ?_ ?_ (n - 1) s ⟨by omega, by omega, Fg_F (Fr_s i2 (by decide)), ?_, fun k' a1 a2 => by omega⟩
  · rintro k t hk ⟨k0, k1, k2, k3, k4⟩ K
    have t0 : t 63 0 = σ 120 2532 := by rw [k2 63 0 (by decide) (by decide)]; exact h0.1
    have t88 : t 88 (a * 60 + k) = σ 99 (60 * a + k) := by rw [Fg_k k2 rfl rfl, Int.mul_comm a 60]; exact (hv k hk (by omega)).1
    have hvk := (hv k hk (by omega)).2
    have b0 : IBo t := IBo_c (k2 45 0 (by decide) (by decide)) (k2 96 8 (by decide) (by decide)) (Fg_k k2 rfl rfl) (Fg_k k2 rfl rfl) (Fg_k k2 rfl rfl) (Fg_k k2 rfl rfl) (Fg_k k2 rfl rfl) hB
    have o0 : IOf t := IOf_c (k2 46 1 (by decide) (by decide)) (k2 46 2 (by decide) (by decide)) (k2 120 2532 (by decide) (by decide)) (k2 45 1 (by decide) (by decide)) (k2 96 14 (by decide) (by decide)) (Fg_k k2 rfl rfl) (Fg_k k2 rfl rfl) hO
    have z50 : t 50 = σ 50 := Fg_k k2 rfl rfl
    have z112 : t 112 = σ 112 := Fg_k k2 rfl rfl
    have z113 : t 113 = σ 113 := Fg_k k2 rfl rfl
    have z115 : t 115 = σ 115 := Fg_k k2 rfl rfl
    have z8 : t 96 8 = σ 96 8 := k2 96 8 (by decide) (by decide)
    have z14 : t 96 14 = σ 96 14 := k2 96 14 (by decide) (by decide)
    have z12 : t 96 12 = σ 96 12 := k2 96 12 (by decide) (by decide)
    have z13 : t 96 13 = σ 96 13 := k2 96 13 (by decide) (by decide)
    have zh : t 120 2532 = σ 120 2532 := k2 120 2532 (by decide) (by decide)
    have dp0 : IDp t := by
      unfold IDp at *
      rw [k2 51 0 (by decide) (by decide), k2 51 1 (by decide) (by decide), k2 51 2 (by decide) (by decide), k2 51 3 (by decide) (by decide), k2 51 5 (by decide) (by decide), k2 96 12 (by decide) (by decide), k2 96 13 (by decide) (by decide), k2 96 44 (by decide) (by decide), k2 96 43 (by decide) (by decide), k2 96 42 (by decide) (by decide), Fg_k k2 (k := 52) rfl rfl, Fg_k k2 (k := 125) rfl rfl]
      exact hD
    refine b99_76 ⟨fun z => by omega, fun _ => ⟨by omega, by omega, ?_⟩⟩
    rw [t0, t88]
    refine c100 b0 o0 dp0 (by omega) (by omega) (by omega) (by omega) (by omega) (by rw [z12, z13, hS]) (by omega) (fun u u1 u2 => ⟨rfl, b99_101 ?_⟩)
    have fu1 : pF σ u := Fg_t k2 (Fg_m u1 (by decide) (by decide))
    have u54 : u 54 = t 54 := Fg_k u1 rfl rfl
    have u55 : u 55 = t 55 := Fg_k u1 rfl rfl
    have hprice : ∀ l i, 0 ≤ l → l < T → 0 ≤ i → i < T → u 53 (i - l + 40) = pCap (C k l i) := fun l i l0 l1 i0 i1 => by
      rw [u2 (i - l) (by omega) (by omega), z50, z112, z113, z115, z8, z14, z13, ← hC]
      unfold cF
      rw [Int.mul_comm (i - l)]
    refine for_up (X := fun l s => Yx (d + 3) cd99 2 Q 104 [vr 51, vr 85, vi a, vr 63, vi n, vi S, vi k, vi l] [] s) (I := fun l w => 0 ≤ l ∧ l ≤ T ∧ Fr [54, 55] u w ∧ (∀ j, (k + 1) * 41 ≤ j → w 54 j = t 54 j ∧ w 55 j = t 55 j) ∧ ∀ l', 0 ≤ l' → l' < l → w 54 (k * 41 + l') = pCap (PV C T n k l') ∧ w 55 (k * 41 + l') = PC C T n k l') (N := T) ?_ ?_ 0 u ⟨Int.le_refl _, by omega, Fr_r, fun j _ => by rw [u54, u55]; exact ⟨rfl, rfl⟩, fun l m0 m1 => by omega⟩
    · rintro l w hl ⟨m0, m1, m2, m3, m4⟩ KK
      refine b99_104 ⟨fun z => by omega, fun _ => ?_⟩
      refine c101 (C := C k l) (R := PV C T n (k + 1)) ⟨hk, by omega⟩ ⟨m0, by omega⟩ (by omega) (fun i i0 i1 => ⟨?_, hcb k l i hk (by omega)⟩) (fun i i0 i1 => ⟨?_, (PV_r hcb (by omega) (by omega) hn.2).2⟩) ⟨rfl, b99_121 ⟨by omega, KK _ ⟨by omega, by omega, Fr_w (Fr_w m2 (by decide)) (by decide), fun j hj => ?_, fun l' q0 q1 => ?_⟩⟩⟩
      · rw [m2 53 (by decide)]
        exact hprice l i m0 hl i0 (by omega)
      · rw [(m3 _ (by omega)).1]
        exact k3 (k + 1) (by omega) (by omega) i i0 (by omega)
      · rw [sw_n (show (54 : Nat) ≠ 55 by decide), sw_s, sw_s, fu_n (by omega), fu_n (by omega)]
        exact m3 j hj
      · rw [sw_n (show (54 : Nat) ≠ 55 by decide), sw_s, sw_s]
        by_cases e : l' = l
        · subst e
          rw [fu_s, fu_s, PV_k (by omega), show S + 1 = T by omega]
          exact ⟨rfl, rfl⟩
        · rw [fu_n (by omega), fu_n (by omega)]
          exact m4 l' q0 (by omega)
    · rintro l w hl ⟨m0, m1, m2, m3, m4⟩
      refine b99_104 ⟨fun _ => ⟨by omega, ?_⟩, fun z => by omega⟩
      rw [show k + (-1) = k - 1 by omega]
      refine K w ⟨by omega, by omega, Fg_t fu1 (Fg_F (Fr_s m2 (by decide))), fun k' p0 p1 l' q0 q1 => ?_, fun k' p0 p1 l' q0 q1 => ?_⟩
      · by_cases e : k' = k
        · rw [e]
          exact (m4 l' q0 (by omega)).1
        · rw [(m3 _ (by omega)).1]
          exact k3 k' (by omega) p1 l' q0 q1
      · by_cases e : k' = k
        · rw [e]
          exact (m4 l' q0 (by omega)).2
        · rw [(m3 _ (by omega)).2]
          exact k4 k' (by omega) p1 l' q0 q1
  · rintro k t hk ⟨k0, k1, k2, k3, k4⟩
    have ek : k = -1 := by omega
    subst ek
    have t0 : t 63 0 = σ 120 2532 := by rw [k2 63 0 (by decide) (by decide)]; exact h0.1
    have t1 : t 63 1 = σ 120 2533 := by rw [k2 63 1 (by decide) (by decide)]; exact h1.1
    have t51 : t 51 1 = σ 96 13 := by rw [k2 51 1 (by decide) (by decide)]; exact d4
    have eL : (if 0 < t 51 1 then min (t 63 1 / t 51 1) S else 0) = l0 := by
      rw [t1, t51, if_pos (by omega)]
      omega
    have e54 : t 54 l0 = pCap (PV C T n 0 l0) := by
      have := k3 0 (by omega) (by omega) l0 q0 (by omega)
      rwa [Int.zero_mul, Int.zero_add] at this
    have vb := PV_r (T := T) (k := 0) (l := l0) hcb (by omega) (by omega) hn.2
    refine b99_76 ⟨fun _ => ?_, fun z => by omega⟩
    rw [eL, e54]
    refine ⟨fun _ => by omega, by omega, fun z => ?_, fun z => ?_⟩
    · have hy : 0 ≤ PV C T n 0 l0 := by
        unfold bi pCap at z
        split at z
        · split at z <;> omega
        · omega
      have eb : bi (¬ 1000000000000 ≤ pCap (PV C T n 0 l0)) = 1 := by
        unfold bi pCap
        rw [if_neg (show ¬ PV C T n 0 l0 < 0 by omega), if_pos (by omega)]
      rw [eb]
      have hstep : (T - 1) * σ 96 13 ≤ 1000000 := by
        have := st_b (h := σ 96 12) (s := σ 96 13) (x := T - 1) (by omega) (by omega) (by omega) (by omega)
        omega
      refine c102 (c := C) (T := T) (by rw [sw_s, fu_n (by decide)]; omega) (by rw [sw_s, fu_n (by decide), t51]; exact hstep) (by omega) ⟨by omega, hn.2⟩ q0 (by omega) (fun k a0 a1 l b0 b1 => by rw [sw_n (by decide)]; exact k4 k (by omega) a1 l b0 b1) (fun u u1 u2 u3 => ⟨rfl, b99_202 ⟨by omega, ?_⟩⟩)
      have f1 : Fg [52, 53, 54, 55] [(45, 3), (45, 4), (45, 5), (51, 2), (51, 3), (51, 5)] σ u := Fg_t (Fg_f (Fg_m k2 (by decide) (by decide)) (by decide)) (Fg_m u1 (by decide) (by decide))
      have u54 : u 54 l0 = PV C T n 0 l0 := by
        rw [u1 54 l0 (by decide) (by simp), sw_n (by decide), e54]
        unfold pCap
        rw [if_neg (by omega)]
      rw [u54]
      refine kY hy _ (Fg_f f1 (by decide)) ?_ ?_ ?_ ?_
      · rw [sw_s, fu_n (by decide), u1 51 2 (by decide) (by decide), sw_s, fu_s]
      · rw [sw_s, fu_n (by decide), u2]
      · rw [sw_s, fu_s, f1 63 0 (by decide) (by decide)]
        exact h0.1
      · intro j j0 j1
        rw [sw_n (by decide), u3 j j0 j1, sw_s, fu_n (by decide), t51]
    · have hy : PV C T n 0 l0 < 0 := by
        unfold bi pCap at z
        split at z
        · omega
        · split at z <;> omega
      exact kN hy _ (Fg_f (Fg_m k2 (by decide) (by decide)) (by decide)) (by rw [sw_s, fu_s, z])
  · intro k' a1 a2 l b0 b1
    have ek : k' = n := by omega
    subst ek
    rw [i3 l b0 (by omega), PV_n]
    rfl
end
