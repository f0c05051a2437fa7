section
/-! the reference's hour: what the plant makes -/
theorem c214k {d : Nat} {Q : aQ} {s u : aW} {x T z t a6 a8 a14 mill : Int} (hB : IBo s) (eT : T = hLv s t z) (z0 : 0 ≤ z ∧ z ≤ 1000000) (x0 : 0 ≤ x ∧ x ≤ 1000000000) (T0 : 0 ≤ T ∧ T ≤ 1000000) (e6 : a6 = max 0 (T - z)) (e8 : a8 = min x (max 0 (z - T))) (em : mill = hMi s t z x) (m0 : 0 ≤ mill ∧ mill ≤ x - a8 + a6) (e14 : a14 = x - a8 + a6 - mill) (hu : Fr [120] s u) (ht : ∀ i, i = 2536 ∨ i = 2540 → 0 ≤ s 120 i ∧ s 120 i ≤ 1000000000000000000) (u3 : u 120 2533 = z) (u6 : u 120 2536 = s 120 2536) (u7 : u 120 2537 = s 120 2537 + mill) (u0 : u 120 2540 = s 120 2540 + mill * s 96 14 / 1000) (uo : ∀ i, ¬ i = 2537 → ¬ i = 2540 → u 120 i = s 120 i) (p0 : 0 ≤ mill * s 96 14 / 1000 ∧ mill * s 96 14 / 1000 ≤ 1000000)
    (k : ∀ s', Fr [120] s s' → s' 120 2533 = z + hPu s t z x → s' 120 2536 = s 120 2536 + (x + hIn s t z x - hMi s t z x - hLe s t z x) → s' 120 2537 = s 120 2537 + hMi s t z x → s' 120 2540 = s 120 2540 + hCo s t z x → (∀ i, ¬ i = 2533 → ¬ i = 2536 → ¬ i = 2537 → ¬ i = 2540 → s' 120 i = s 120 i) → Q (some (vl (hMd s t z x))) s') : Yx (d + 1) cd214 2 Q 163 [vr 96, vl x, vt, vt, vt, vt, vl a6, vt, vl a8, vt, vt, vt, vt, vt, vl a14, vt, vi 0, vt, vt, vt] [] u := by
  have eI : hIn s t z x = a6 - a8 := by unfold hIn; rw [← eT]; omega
  have eA : x + hIn s t z x - hMi s t z x = a14 := by rw [eI, ← em]; omega
  have a0 : 0 ≤ a14 := by omega
  have nB := hB.2.1
  have nB4 := hB.2.2.1
  have t6 := ht 2536 (by omega)
  have t0 := ht 2540 (by omega)
  refine for_up (X := fun i (q : Int × aW) => Yx (d + 1) cd214 2 Q 163 [vr 96, vl x, vt, vt, vt, vt, vl a6, vt, vl a8, vt, vt, vt, vt, vt, vl q.1, vt, vi i, vt, vt, vt] [] q.2) (I := fun i q => 0 ≤ i ∧ i ≤ s 96 8 ∧ q.1 = bL (s 50) (s 112) a14 i.toNat ∧ Fr [120] s q.2 ∧ q.2 120 2533 = z ∧ q.2 120 2536 = s 120 2536 + (a14 - bL (s 50) (s 112) a14 i.toNat) ∧ q.2 120 2537 = s 120 2537 + mill ∧ q.2 120 2540 = s 120 2540 + bC (s 50) (s 112) (s 113) a14 (mill * s 96 14 / 1000) i.toNat ∧ ∀ j, ¬ j = 2536 → ¬ j = 2537 → ¬ j = 2540 → q.2 120 j = s 120 j) (N := s 96 8) ?_ ?_ 0 (a14, u) ⟨Int.le_refl _, nB, rfl, hu, u3, ?_, u7, u0, fun j j6 j7 j0 => uo j j7 j0⟩
  · rintro i ⟨la, q⟩ hi ⟨i0, i1, i2, f1, g3, g6, g7, g0, go⟩ K
    simp only at i2 f1 g3 g6 g7 g0 go
    have o := hB.2.2.2.2.1 i i0 hi
    have b := hB.2.2.2.1 _ o.1 o.2
    have lb := bL_b hB a0 i.toNat (by omega)
    have cb := bC_b (c := mill * s 96 14 / 1000) hB a0 i.toNat (by omega)
    have mq := mq_b (m := min la (s 112 (s 50 i))) (q := s 113 (s 50 i)) (M := 200000) (by omega) (by omega) (by omega) (by omega)
    show Yx (d + 1) cd214 2 Q 163 [vr 96, vl x, vt, vt, vt, vt, vl a6, vt, vl a8, vt, vt, vt, vt, vt, vl la, vt, vi i, vt, vt, vt] [] q
    refine b214_163 ⟨fun y => by rw [f1 96 (by decide)] at y; omega, fun _ => ?_⟩
    refine c215 (IBo_c (by rw [f1 45 (by decide)]) (by rw [f1 96 (by decide)]) (f1 48 (by decide)) (f1 49 (by decide)) (f1 50 (by decide)) (f1 112 (by decide)) (f1 113 (by decide)) hB) i0 (by rw [f1 96 (by decide)]; exact hi) ⟨_, rfl, b214_178_1 ?_⟩
    rw [f1 50 (by decide), f1 112 (by decide), f1 113 (by decide)]
    generalize hz : min la (s 112 (s 50 i)) * s 113 (s 50 i) = pz at *
    refine ⟨by omega, by omega, by omega, by omega, by omega, by omega, by omega, by omega, ?_⟩
    generalize hv : sw (sw q 120 (fu (q 120) 2536 (q 120 2536 + min la (s 112 (s 50 i))))) 120 (fu (fu (q 120) 2536 (q 120 2536 + min la (s 112 (s 50 i)))) 2540 (q 120 2540 + pz / 1000)) = v
    refine K (la - min la (s 112 (s 50 i)), v) ⟨by omega, by omega, ?_, ?_, ?_, ?_, ?_, ?_, fun j j6 j7 j0 => ?_⟩
    · show la - min la (s 112 (s 50 i)) = _
      rw [bL_s i0, ← i2]
    · show Fr [120] s v
      rw [← hv]
      exact Fr_w (Fr_w f1 (by decide)) (by decide)
    · show v 120 2533 = z
      rw [← hv, sw_s, fu_n (by decide), fu_n (by decide)]
      exact g3
    · show v 120 2536 = _
      rw [← hv, sw_s, fu_n (by decide), fu_s, g6, bL_s i0, ← i2]
      omega
    · show v 120 2537 = _
      rw [← hv, sw_s, fu_n (by decide), fu_n (by decide)]
      exact g7
    · show v 120 2540 = _
      rw [← hv, sw_s, fu_s, g0, bC_s i0, ← i2, hz]
      omega
    · show v 120 j = _
      rw [← hv, sw_s, fu_n j0, fu_n j6]
      exact go j j6 j7 j0
  · rintro i ⟨la, q⟩ hi ⟨i0, i1, i2, f1, g3, g6, g7, g0, go⟩
    simp only at i2 f1 g3 g6 g7 g0 go
    have e : i = s 96 8 := by omega
    rw [e] at i2 g6 g0
    have lb := bL_b hB a0 (s 96 8).toNat (by omega)
    have eL : hLe s t z x = la := by unfold hLe; rw [eA, i2]
    have eC : hCo s t z x = bC (s 50) (s 112) (s 113) a14 (mill * s 96 14 / 1000) (s 96 8).toNat := by unfold hCo; rw [eA, ← em]
    have eP : hPu s t z x = a6 - min a6 la - a8 := by
      unfold hPu
      rw [eI, eL]
      split <;> omega
    have eD : hMd s t z x = x - (la - min a6 la) := by
      unfold hMd
      rw [eP, eL, eI]
      omega
    show Yx (d + 1) cd214 2 Q 163 [vr 96, vl x, vt, vt, vt, vt, vl a6, vt, vl a8, vt, vt, vt, vt, vt, vl la, vt, vi i, vt, vt, vt] [] q
    refine b214_163 ⟨fun y => ?_, fun y => absurd (by rw [f1 96 (by decide)]; omega) y⟩
    rw [g3]
    refine ⟨by omega, by omega, by omega, by omega, by omega, ?_⟩
    rw [← eD]
    refine k _ (Fr_w f1 (by decide)) ?_ ?_ ?_ ?_ (fun j j3 j6 j7 j0 => ?_)
    · rw [sw_s, fu_s, eP]
    · rw [sw_s, fu_n (by decide), g6, ← i2, eA, eL]
    · rw [sw_s, fu_n (by decide), g7, em]
    · rw [sw_s, fu_n (by decide), g0, eC]
    · rw [sw_s, fu_n j3]
      exact go j j6 j7 j0
  · show u 120 2536 = s 120 2536 + (a14 - a14)
    rw [u6]
    omega
theorem c214 {d : Nat} {Q : aQ} {s : aW} {x t z : Int} (hD : IDp s) (hB : IBo s) (hO : IOf s) (et : s 120 2532 = t) (ez : s 120 2533 = z) (t0 : 0 ≤ t ∧ t < 5050) (z0 : 0 ≤ z ∧ z ≤ 1000000) (x0 : 0 ≤ x ∧ x ≤ 1000000000) (ht : ∀ i, i = 2536 ∨ i = 2537 ∨ i = 2540 → 0 ≤ s 120 i ∧ s 120 i ≤ 1000000000000000000)
    (k : ∀ s', Fr [120] s s' → s' 120 2533 = z + hPu s t z x → s' 120 2536 = s 120 2536 + (x + hIn s t z x - hMi s t z x - hLe s t z x) → s' 120 2537 = s 120 2537 + hMi s t z x → s' 120 2540 = s 120 2540 + hCo s t z x → (∀ i, ¬ i = 2533 → ¬ i = 2536 → ¬ i = 2537 → ¬ i = 2540 → s' 120 i = s 120 i) → Q (some (vl (hMd s t z x))) s') : aEv (d + 1) true 214 [vr 96, vl x] s Q := by
  have mk := hMk_b (x := x) hD hB hO (show s 120 2532 ≤ t by omega) t0.2 z0 x0
  have of := hO.2.2.2.2.2.2.2 t (by omega) t0.2
  have pr := hO.2.2.2.2.2
  have h7 := ht 2537 (by omega)
  have h0 := ht 2540 (by omega)
  have dp := hD.2.2.2.2.2.2.2.2.2.2.2.2.2
  have dq := hD.2.2.2.2.2.2.2.2.2.2
  have key : ∀ T, T = hLv s t z → hMi s t z x = min (x - min x (max 0 (z - T)) + max 0 (T - z)) (s 115 t) := fun T eT => by
    unfold hMi hIn
    rw [← eT]
    congr 1
    omega
  refine e214 (b214_0 ?_)
  simp only [et, ez]
  refine ⟨by omega, by omega, fun c => ?_, fun c => ⟨by omega, fun y => by omega, ?_⟩⟩
  · have eT : z = hLv s t z := by unfold hLv; rw [if_neg (fun y => y.1 c)]
    have km := key z eT
    generalize hml : min (x - min x (max 0 (z - z)) + max 0 (z - z)) (s 115 t) = mill at *
    have mq := mq_b (m := mill) (q := s 96 14) (M := 200000) (by omega) (by omega) (by omega) (by omega)
    generalize hz : mill * s 96 14 = pz at *
    refine ⟨by omega, by omega, by omega, by omega, by omega, by omega, by omega, by omega, by omega, by omega, by omega, ?_⟩
    refine c214k (T := z) (mill := mill) hB eT z0 x0 z0 rfl rfl km.symm (by omega) rfl (Fr_w (Fr_w Fr_r (by decide)) (by decide)) (fun i hi => ht i (by omega)) ?_ ?_ ?_ ?_ (fun i i7 i0 => ?_) (by omega) k
    · rw [sw_s, fu_n (by decide), fu_n (by decide)]; exact ez
    · rw [sw_s, fu_n (by decide), fu_n (by decide)]
    · rw [sw_s, fu_n (by decide), fu_s]
    · rw [sw_s, fu_s, hz]
    · rw [sw_s, fu_n i0, fu_n i7]
  · have eT : (if ¬ (0 ≤ t - s 96 42 ∧ t - s 96 42 ≤ s 96 43 - 1) then z else s 125 (t - s 96 42)) = hLv s t z := by
      unfold hLv
      by_cases y : 0 ≤ t - s 96 42 ∧ t - s 96 42 ≤ s 96 43 - 1
      · rw [if_neg (fun q => q y), if_pos ⟨c, y.1, by omega⟩]
      · rw [if_pos y, if_neg (fun q => y ⟨q.2.1, by omega⟩)]
    generalize (if ¬ (0 ≤ t - s 96 42 ∧ t - s 96 42 ≤ s 96 43 - 1) then z else s 125 (t - s 96 42)) = T at *
    have km := key T eT
    generalize hml : min (x - min x (max 0 (z - T)) + max 0 (T - z)) (s 115 t) = mill at *
    have mq := mq_b (m := mill) (q := s 96 14) (M := 200000) (by omega) (by omega) (by omega) (by omega)
    generalize hz : mill * s 96 14 = pz at *
    refine ⟨by omega, by omega, by omega, by omega, by omega, by omega, by omega, by omega, by omega, by omega, by omega, ?_⟩
    refine c214k (T := T) (mill := mill) hB eT z0 x0 (by omega) rfl rfl km.symm (by omega) rfl (Fr_w (Fr_w Fr_r (by decide)) (by decide)) (fun i hi => ht i (by omega)) ?_ ?_ ?_ ?_ (fun i i7 i0 => ?_) (by omega) k
    · rw [sw_s, fu_n (by decide), fu_n (by decide)]; exact ez
    · rw [sw_s, fu_n (by decide), fu_n (by decide)]
    · rw [sw_s, fu_n (by decide), fu_s]
    · rw [sw_s, fu_s, hz]
    · rw [sw_s, fu_n i0, fu_n i7]
end
