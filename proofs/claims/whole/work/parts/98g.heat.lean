section
/-! the hour: heating -/
def hMd (s : aW) (t z x : Int) : Int := x + hIn s t z x - hLe s t z x - hPu s t z x
theorem hMd_b {s : aW} {t z x : Int} (hD : IDp s) (hB : IBo s) (hO : IOf s) (h1 : s 120 2532 ≤ t) (h2 : t < 5050) (z0 : 0 ≤ z ∧ z ≤ 1000000) (x0 : 0 ≤ x ∧ x ≤ 1000000000) : 0 ≤ hMd s t z x ∧ hMd s t z x ≤ x := by
  obtain ⟨b1, b2, b3, b4, b5, b6, b7, b8, b9, b10, b11, b12, b13, b14, b15, b16⟩ := hMk_b hD hB hO h1 h2 z0 x0
  unfold hMd hPu
  split <;> omega
def hNe (send units back : Int) : Int := max 0 (send * 100 * units - back)

theorem c18 {d : Nat} {Q : aQ} {s0 : aW} {send t z : Int} (hD : IDp s0) (hB : IBo s0) (hO : IOf s0) (et : s0 63 0 = t) (ez : s0 63 1 = z) (hh : 0 ≤ s0 120 2532) (h1 : s0 120 2532 ≤ t) (h2 : t < 5050) (z0 : 0 ≤ z ∧ z ≤ 1000000) (hsd : 0 ≤ send ∧ send ≤ 120) (hu : 0 ≤ s0 57 0 ∧ s0 57 0 ≤ 4800) (hbk : 0 ≤ s0 59 0 ∧ s0 59 0 ≤ 12000 * s0 57 0) (ht : ∀ i, i = 0 ∨ i = 1 ∨ i = 4 → 0 ≤ s0 73 i ∧ s0 73 i ≤ 1000000000000000000)
    (k : ∀ s x, x = hNe send (s0 57 0) (s0 59 0) → (0 ≤ s0 59 0 + hMd s0 t z x ∧ s0 59 0 + hMd s0 t z x ≤ 12000 * s0 57 0) → Fg [] [(58, 0), (63, 1), (63, 2), (63, 3), (73, 0), (73, 1), (73, 4), (45, 3), (45, 4), (45, 5)] s0 s → s 58 0 = s0 59 0 + hMd s0 t z x → s 63 1 = z + hPu s0 t z x → s 63 2 = (if ¬ s0 57 0 = 0 then s0 59 0 / (100 * s0 57 0) else 30) → s 63 3 = (if ¬ s0 57 0 = 0 then (s0 59 0 + hMd s0 t z x) / s0 57 0 else -1) → s 73 0 = s0 73 0 + (x + hIn s0 t z x - hMi s0 t z x - hLe s0 t z x) → s 73 1 = s0 73 1 + hMi s0 t z x → s 73 4 = s0 73 4 + hCo s0 t z x → Q none s) : aEv (d + 3) true 18 [vr 56, vr 63, vi send] s0 Q := by
  have p0 : 0 ≤ send * 100 * s0 57 0 := Int.mul_nonneg (by omega) hu.1
  have p1 : send * 100 * s0 57 0 ≤ 12000 * s0 57 0 := Int.mul_le_mul_of_nonneg_right (by omega) hu.1
  have eX : max 0 (send * 100 * s0 57 0 - s0 59 0) = hNe send (s0 57 0) (s0 59 0) := rfl
  have x0 : 0 ≤ hNe send (s0 57 0) (s0 59 0) ∧ hNe send (s0 57 0) (s0 59 0) ≤ 1000000000 ∧ s0 59 0 + hNe send (s0 57 0) (s0 59 0) ≤ 12000 * s0 57 0 := by unfold hNe; omega
  refine e18 (b18_0 ⟨by omega, by omega, by omega, ?_⟩)
  rw [eX]
  generalize hx : hNe send (s0 57 0) (s0 59 0) = x at x0
  have mb := hMd_b hD hB hO h1 h2 z0 ⟨x0.1, x0.2.1⟩
  refine c19 hD hB hO et ez hh h1 h2 z0 ⟨x0.1, x0.2.1⟩ ht (fun s f a1 a2 a3 a4 => ⟨_, rfl, b18_37_2 ?_⟩)
  have eM : x + hIn s0 t z x - hLe s0 t z x - hPu s0 t z x = hMd s0 t z x := rfl
  rw [eM]
  have dv1 : ¬ s0 57 0 = 0 → 0 ≤ s0 59 0 / (100 * s0 57 0) ∧ s0 59 0 / (100 * s0 57 0) ≤ s0 59 0 := fun q => ⟨Int.ediv_nonneg hbk.1 (by omega), Int.ediv_le_self _ hbk.1⟩
  have dv2 : ¬ s0 57 0 = 0 → 0 ≤ (s0 59 0 + hMd s0 t z x) / s0 57 0 ∧ (s0 59 0 + hMd s0 t z x) / s0 57 0 ≤ s0 59 0 + hMd s0 t z x := fun q => ⟨Int.ediv_nonneg (by omega) hu.1, Int.ediv_le_self _ (by omega)⟩
  have g := Fg_f (L := []) (P := [(58, 0), (63, 1), (63, 2), (63, 3), (73, 0), (73, 1), (73, 4), (45, 3), (45, 4), (45, 5)]) (k := 63) (i := 3) (v := (if ¬ s0 57 0 = 0 then (s0 59 0 + hMd s0 t z x) / s0 57 0 else -1)) (Fg_f (k := 63) (i := 2) (v := (if ¬ s0 57 0 = 0 then s0 59 0 / (100 * s0 57 0) else 30)) (Fg_f (k := 58) (i := 0) (v := s0 59 0 + hMd s0 t z x) (Fg_m f (by decide) (by decide)) (by decide)) (by decide)) (by decide)
  simp only [sw_s, sw_n (show (63 : Nat) ≠ 58 by decide)] at g
  refine ⟨by omega, fun q => ⟨by omega, by omega, by have := dv1 q; omega⟩, fun q => ⟨by omega, by have := dv2 q; omega⟩, k _ x hx.symm (by omega) g ?_ ?_ ?_ ?_ ?_ ?_ ?_⟩
  · rw [sw_n (by decide), sw_n (by decide), sw_s, fu_s]
  · rw [sw_s, fu_n (by decide), fu_n (by decide)]; exact a1
  · rw [sw_s, fu_n (by decide), fu_s]
  · rw [sw_s, fu_s]
  · rw [sw_n (by decide), sw_n (by decide), sw_n (by decide)]; exact a2
  · rw [sw_n (by decide), sw_n (by decide), sw_n (by decide)]; exact a3
  · rw [sw_n (by decide), sw_n (by decide), sw_n (by decide)]; exact a4

theorem c18l {d : Nat} {Q : aQ} {s0 : aW} {send t z : Int} (hD : IDp s0) (hB : IBo s0) (hO : IOf s0) (et : s0 74 0 = t) (ez : s0 74 1 = z) (hh : 0 ≤ s0 120 2532) (h1 : s0 120 2532 ≤ t) (h2 : t < 5050) (z0 : 0 ≤ z ∧ z ≤ 1000000) (hsd : 0 ≤ send ∧ send ≤ 120) (hu : 0 ≤ s0 57 0 ∧ s0 57 0 ≤ 4800) (hbk : 0 ≤ s0 59 0 ∧ s0 59 0 ≤ 12000 * s0 57 0) (ht : ∀ i, i = 0 ∨ i = 1 ∨ i = 4 → 0 ≤ s0 84 i ∧ s0 84 i ≤ 1000000000000000000)
    (k : ∀ s x, x = hNe send (s0 57 0) (s0 59 0) → (0 ≤ s0 59 0 + hMd s0 t z x ∧ s0 59 0 + hMd s0 t z x ≤ 12000 * s0 57 0) → Fg [] [(58, 0), (74, 1), (74, 2), (74, 3), (84, 0), (84, 1), (84, 4), (45, 3), (45, 4), (45, 5)] s0 s → s 58 0 = s0 59 0 + hMd s0 t z x → s 74 1 = z + hPu s0 t z x → s 74 2 = (if ¬ s0 57 0 = 0 then s0 59 0 / (100 * s0 57 0) else 30) → s 74 3 = (if ¬ s0 57 0 = 0 then (s0 59 0 + hMd s0 t z x) / s0 57 0 else -1) → s 84 0 = s0 84 0 + (x + hIn s0 t z x - hMi s0 t z x - hLe s0 t z x) → s 84 1 = s0 84 1 + hMi s0 t z x → s 84 4 = s0 84 4 + hCo s0 t z x → Q none s) : aEv (d + 3) true 18 [vr 56, vr 74, vi send] s0 Q := by
  have p0 : 0 ≤ send * 100 * s0 57 0 := Int.mul_nonneg (by omega) hu.1
  have p1 : send * 100 * s0 57 0 ≤ 12000 * s0 57 0 := Int.mul_le_mul_of_nonneg_right (by omega) hu.1
  have eX : max 0 (send * 100 * s0 57 0 - s0 59 0) = hNe send (s0 57 0) (s0 59 0) := rfl
  have x0 : 0 ≤ hNe send (s0 57 0) (s0 59 0) ∧ hNe send (s0 57 0) (s0 59 0) ≤ 1000000000 ∧ s0 59 0 + hNe send (s0 57 0) (s0 59 0) ≤ 12000 * s0 57 0 := by unfold hNe; omega
  refine e18l (b18l_0 ⟨by omega, by omega, by omega, ?_⟩)
  rw [eX]
  generalize hx : hNe send (s0 57 0) (s0 59 0) = x at x0
  have mb := hMd_b hD hB hO h1 h2 z0 ⟨x0.1, x0.2.1⟩
  refine c19l hD hB hO et ez hh h1 h2 z0 ⟨x0.1, x0.2.1⟩ ht (fun s f a1 a2 a3 a4 => ⟨_, rfl, b18l_37_2 ?_⟩)
  have eM : x + hIn s0 t z x - hLe s0 t z x - hPu s0 t z x = hMd s0 t z x := rfl
  rw [eM]
  have dv1 : ¬ s0 57 0 = 0 → 0 ≤ s0 59 0 / (100 * s0 57 0) ∧ s0 59 0 / (100 * s0 57 0) ≤ s0 59 0 := fun q => ⟨Int.ediv_nonneg hbk.1 (by omega), Int.ediv_le_self _ hbk.1⟩
  have dv2 : ¬ s0 57 0 = 0 → 0 ≤ (s0 59 0 + hMd s0 t z x) / s0 57 0 ∧ (s0 59 0 + hMd s0 t z x) / s0 57 0 ≤ s0 59 0 + hMd s0 t z x := fun q => ⟨Int.ediv_nonneg (by omega) hu.1, Int.ediv_le_self _ (by omega)⟩
  have g := Fg_f (L := []) (P := [(58, 0), (74, 1), (74, 2), (74, 3), (84, 0), (84, 1), (84, 4), (45, 3), (45, 4), (45, 5)]) (k := 74) (i := 3) (v := (if ¬ s0 57 0 = 0 then (s0 59 0 + hMd s0 t z x) / s0 57 0 else -1)) (Fg_f (k := 74) (i := 2) (v := (if ¬ s0 57 0 = 0 then s0 59 0 / (100 * s0 57 0) else 30)) (Fg_f (k := 58) (i := 0) (v := s0 59 0 + hMd s0 t z x) (Fg_m f (by decide) (by decide)) (by decide)) (by decide)) (by decide)
  simp only [sw_s, sw_n (show (74 : Nat) ≠ 58 by decide)] at g
  refine ⟨by omega, fun q => ⟨by omega, by omega, by have := dv1 q; omega⟩, fun q => ⟨by omega, by have := dv2 q; omega⟩, k _ x hx.symm (by omega) g ?_ ?_ ?_ ?_ ?_ ?_ ?_⟩
  · rw [sw_n (by decide), sw_n (by decide), sw_s, fu_s]
  · rw [sw_s, fu_n (by decide), fu_n (by decide)]; exact a1
  · rw [sw_s, fu_n (by decide), fu_s]
  · rw [sw_s, fu_s]
  · rw [sw_n (by decide), sw_n (by decide), sw_n (by decide)]; exact a2
  · rw [sw_n (by decide), sw_n (by decide), sw_n (by decide)]; exact a3
  · rw [sw_n (by decide), sw_n (by decide), sw_n (by decide)]; exact a4
end
