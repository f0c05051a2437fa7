section
/-! the hour: making. t the hour, z what is stored, x what is needed; places of the plan and of the boilers as in s -/
def hLv (s : aW) (t z : Int) : Int := if ¬ s 96 44 = 0 ∧ 0 ≤ t - s 96 42 ∧ t - s 96 42 < s 96 43 then s 125 (t - s 96 42) else z
def hIn (s : aW) (t z x : Int) : Int := max (hLv s t z - z) (-x)
def hMi (s : aW) (t z x : Int) : Int := min (x + hIn s t z x) (s 115 t)
def hLe (s : aW) (t z x : Int) : Int := bL (s 50) (s 112) (x + hIn s t z x - hMi s t z x) (s 96 8).toNat
def hCo (s : aW) (t z x : Int) : Int := bC (s 50) (s 112) (s 113) (x + hIn s t z x - hMi s t z x) (hMi s t z x * s 96 14 / 1000) (s 96 8).toNat
def hPu (s : aW) (t z x : Int) : Int := if hIn s t z x ≤ 0 then hIn s t z x else max 0 (hIn s t z x - hLe s t z x)
theorem hMk_b {s : aW} {t z x : Int} (hD : IDp s) (hB : IBo s) (hO : IOf s) (h1 : s 120 2532 ≤ t) (h2 : t < 5050) (z0 : 0 ≤ z ∧ z ≤ 1000000) (x0 : 0 ≤ x ∧ x ≤ 1000000000) : 0 ≤ hLv s t z ∧ hLv s t z ≤ 1000000 ∧ 0 ≤ x + hIn s t z x ∧ -1000000 ≤ hIn s t z x ∧ hIn s t z x ≤ 1000000 ∧ 0 ≤ hMi s t z x ∧ hMi s t z x ≤ x + hIn s t z x ∧ hMi s t z x ≤ 200000 ∧ 0 ≤ hLe s t z x ∧ hLe s t z x ≤ x + hIn s t z x - hMi s t z x ∧ 0 ≤ hCo s t z x ∧ hCo s t z x ≤ 1000000 ∧ 0 ≤ z + hPu s t z x ∧ z + hPu s t z x ≤ 1000000 ∧ -1000000 ≤ hPu s t z x ∧ hPu s t z x ≤ 1000000 := by
  obtain ⟨d1, d2, d3, d4, d5, d6, d7, d8, d9, d10, d11, d12, d13, d14, d15, d16⟩ := hD
  have ho := hO.2.2.2.2.2.2.2 t h1 h2
  have a1 : 0 ≤ hLv s t z ∧ hLv s t z ≤ 1000000 := by
    unfold hLv
    split
    · rename_i y
      have := d16 (t - s 96 42) y.2.1 y.2.2
      omega
    · exact z0
  have a2 : 0 ≤ x + hIn s t z x ∧ -1000000 ≤ hIn s t z x ∧ hIn s t z x ≤ 1000000 ∧ (0 < hIn s t z x → hIn s t z x = hLv s t z - z) ∧ 0 ≤ z + hIn s t z x := by
    unfold hIn
    omega
  have a3 : 0 ≤ hMi s t z x ∧ hMi s t z x ≤ x + hIn s t z x ∧ hMi s t z x ≤ 200000 := by
    unfold hMi
    omega
  have hn := hB.2.1
  have hn4 := hB.2.2.1
  have a4 := bL_b (L := x + hIn s t z x - hMi s t z x) hB (by omega) (s 96 8).toNat (by omega)
  have a5 := bC_b (L := x + hIn s t z x - hMi s t z x) (c := hMi s t z x * s 96 14 / 1000) hB (by omega) (s 96 8).toNat (by omega)
  have p0 : 0 ≤ hMi s t z x * s 96 14 := Int.mul_nonneg a3.1 hO.2.2.2.2.2.1
  have p1 : hMi s t z x * s 96 14 ≤ 200000 * 1000 := Int.mul_le_mul a3.2.2 hO.2.2.2.2.2.2.1 hO.2.2.2.2.2.1 (by omega)
  have a6 : 0 ≤ hLe s t z x ∧ hLe s t z x ≤ x + hIn s t z x - hMi s t z x := a4
  have a7 : 0 ≤ hCo s t z x ∧ hCo s t z x ≤ 1000000 := by
    unfold hCo
    omega
  have a8 : 0 ≤ z + hPu s t z x ∧ z + hPu s t z x ≤ 1000000 ∧ -1000000 ≤ hPu s t z x ∧ hPu s t z x ≤ 1000000 := by
    unfold hPu
    split <;> omega
  exact ⟨a1.1, a1.2, a2.1, a2.2.1, a2.2.2.1, a3.1, a3.2.1, a3.2.2, a6.1, a6.2, a7.1, a7.2, a8.1, a8.2.1, a8.2.2.1, a8.2.2.2⟩
theorem c98 {d : Nat} {Q : aQ} {s : aW} {t z : Int} (hD : IDp s) (t0 : 0 ≤ t ∧ t < 5050) (k : Q (some (vi (hLv s t z))) s) : aEv (d + 0) true 98 [vr 51, vi t, vi z] s Q := by
  obtain ⟨d1, d2, d3, d4, d5, d6, d7, d8, d9, d10, d11, d12, d13, d14, d15, d16⟩ := hD
  unfold hLv at k
  refine e98 (b98_0 ⟨by omega, fun y => ?_, fun y => ⟨fun w => ?_, fun w => ⟨fun q => by omega, ?_⟩⟩⟩)
  · rw [if_neg (by omega)] at k
    exact k
  · rw [if_neg (by omega)] at k
    exact k
  · by_cases q : s 51 3 ≤ t - s 51 5
    · rw [if_pos q]
      rw [if_neg (by omega)] at k
      exact k
    · rw [if_neg q, d13, (d16 (t - s 96 42) (by omega) (by omega)).1]
      rw [if_pos (by omega)] at k
      exact k

theorem c19 {d : Nat} {Q : aQ} {s0 : aW} {x t z : Int} (hD : IDp s0) (hB : IBo s0) (hO : IOf s0) (et : s0 63 0 = t) (ez : s0 63 1 = z) (hh : 0 ≤ s0 120 2532) (h1 : s0 120 2532 ≤ t) (h2 : t < 5050) (z0 : 0 ≤ z ∧ z ≤ 1000000) (x0 : 0 ≤ x ∧ x ≤ 1000000000) (ht : ∀ i, i = 0 ∨ i = 1 ∨ i = 4 → 0 ≤ s0 73 i ∧ s0 73 i ≤ 1000000000000000000)
    (k : ∀ s, Fg [] [(63, 1), (73, 0), (73, 1), (73, 4), (45, 3), (45, 4), (45, 5)] s0 s → s 63 1 = z + hPu s0 t z x → s 73 0 = s0 73 0 + (x + hIn s0 t z x - hMi s0 t z x - hLe s0 t z x) → s 73 1 = s0 73 1 + hMi s0 t z x → s 73 4 = s0 73 4 + hCo s0 t z x → Q (some (vl (x + hIn s0 t z x - hLe s0 t z x - hPu s0 t z x))) s) : aEv (d + 2) true 19 [vr 56, vr 63, vl x] s0 Q := by
  obtain ⟨b1, b2, b3, b4, b5, b6, b7, b8, b9, b10, b11, b12, b13, b14, b15, b16⟩ := hMk_b hD hB hO h1 h2 z0 x0
  refine e19 (b19_0 ?_)
  rw [et, ez]
  refine c98 hD (by omega) ⟨_, rfl, b19_15_1 ?_⟩
  rw [et, ez]
  have eI : max (hLv s0 t z - z) (-x) = hIn s0 t z x := rfl
  rw [eI]
  refine ⟨by omega, by omega, by omega, c105 hB hO hh h1 h2 b3 (by omega) (fun s f e3 e4 e5 => ⟨_, rfl, b19_47_1 ?_⟩)⟩
  have eM : min (x + hIn s0 t z x) (s0 115 t) = hMi s0 t z x := rfl
  rw [eM] at e3 e4 e5 ⊢
  have eL : bL (s0 50) (s0 112) (x + hIn s0 t z x - hMi s0 t z x) (s0 96 8).toNat = hLe s0 t z x := rfl
  have eC : bC (s0 50) (s0 112) (s0 113) (x + hIn s0 t z x - hMi s0 t z x) (hMi s0 t z x * s0 96 14 / 1000) (s0 96 8).toNat = hCo s0 t z x := rfl
  rw [eL] at e4 ⊢
  rw [eC] at e5
  have eP : (if hIn s0 t z x ≤ 0 then hIn s0 t z x else max 0 (hIn s0 t z x - (x + hIn s0 t z x - (x + hIn s0 t z x - hLe s0 t z x)))) = hPu s0 t z x := by
    unfold hPu
    rw [show x + hIn s0 t z x - (x + hIn s0 t z x - hLe s0 t z x) = hLe s0 t z x by omega]
  rw [eP]
  have s1 : s 63 = s0 63 := Fg_k f rfl rfl
  have s2 : s 73 = s0 73 := Fg_k f rfl rfl
  rw [s1, s2, ez, e3, e4, e5]
  have x1 := ht 0 (Or.inl rfl)
  have x2 := ht 1 (Or.inr (Or.inl rfl))
  have x3 := ht 4 (Or.inr (Or.inr rfl))
  have g := Fg_f (L := []) (P := [(63, 1), (73, 0), (73, 1), (73, 4), (45, 3), (45, 4), (45, 5)]) (k := 73) (i := 4) (v := s0 73 4 + hCo s0 t z x) (Fg_f (k := 73) (i := 1) (v := s0 73 1 + hMi s0 t z x) (Fg_f (k := 73) (i := 0) (v := s0 73 0 + (x + hIn s0 t z x - hMi s0 t z x - hLe s0 t z x)) (Fg_f (k := 63) (i := 1) (v := z + hPu s0 t z x) (Fg_m f (by decide) (by decide)) (by decide)) (by decide)) (by decide)) (by decide)
  simp only [sw_s, sw_n (show (73 : Nat) ≠ 63 by decide), s1, s2] at g
  refine ⟨by omega, by omega, fun _ => by omega, by omega, by omega, by omega, by omega, by omega, by omega, k _ g ?_ ?_ ?_ ?_⟩
  · rw [sw_n (by decide), sw_n (by decide), sw_n (by decide), sw_s, fu_s]
  · rw [sw_s, fu_n (by decide), fu_n (by decide), fu_s]
  · rw [sw_s, fu_n (by decide), fu_s]
  · rw [sw_s, fu_s]

theorem c19l {d : Nat} {Q : aQ} {s0 : aW} {x t z : Int} (hD : IDp s0) (hB : IBo s0) (hO : IOf s0) (et : s0 74 0 = t) (ez : s0 74 1 = z) (hh : 0 ≤ s0 120 2532) (h1 : s0 120 2532 ≤ t) (h2 : t < 5050) (z0 : 0 ≤ z ∧ z ≤ 1000000) (x0 : 0 ≤ x ∧ x ≤ 1000000000) (ht : ∀ i, i = 0 ∨ i = 1 ∨ i = 4 → 0 ≤ s0 84 i ∧ s0 84 i ≤ 1000000000000000000)
    (k : ∀ s, Fg [] [(74, 1), (84, 0), (84, 1), (84, 4), (45, 3), (45, 4), (45, 5)] s0 s → s 74 1 = z + hPu s0 t z x → s 84 0 = s0 84 0 + (x + hIn s0 t z x - hMi s0 t z x - hLe s0 t z x) → s 84 1 = s0 84 1 + hMi s0 t z x → s 84 4 = s0 84 4 + hCo s0 t z x → Q (some (vl (x + hIn s0 t z x - hLe s0 t z x - hPu s0 t z x))) s) : aEv (d + 2) true 19 [vr 56, vr 74, vl x] s0 Q := by
  obtain ⟨b1, b2, b3, b4, b5, b6, b7, b8, b9, b10, b11, b12, b13, b14, b15, b16⟩ := hMk_b hD hB hO h1 h2 z0 x0
  refine e19l (b19l_0 ?_)
  rw [et, ez]
  refine c98 hD (by omega) ⟨_, rfl, b19l_15_1 ?_⟩
  rw [et, ez]
  have eI : max (hLv s0 t z - z) (-x) = hIn s0 t z x := rfl
  rw [eI]
  refine ⟨by omega, by omega, by omega, c105 hB hO hh h1 h2 b3 (by omega) (fun s f e3 e4 e5 => ⟨_, rfl, b19l_47_1 ?_⟩)⟩
  have eM : min (x + hIn s0 t z x) (s0 115 t) = hMi s0 t z x := rfl
  rw [eM] at e3 e4 e5 ⊢
  have eL : bL (s0 50) (s0 112) (x + hIn s0 t z x - hMi s0 t z x) (s0 96 8).toNat = hLe s0 t z x := rfl
  have eC : bC (s0 50) (s0 112) (s0 113) (x + hIn s0 t z x - hMi s0 t z x) (hMi s0 t z x * s0 96 14 / 1000) (s0 96 8).toNat = hCo s0 t z x := rfl
  rw [eL] at e4 ⊢
  rw [eC] at e5
  have eP : (if hIn s0 t z x ≤ 0 then hIn s0 t z x else max 0 (hIn s0 t z x - (x + hIn s0 t z x - (x + hIn s0 t z x - hLe s0 t z x)))) = hPu s0 t z x := by
    unfold hPu
    rw [show x + hIn s0 t z x - (x + hIn s0 t z x - hLe s0 t z x) = hLe s0 t z x by omega]
  rw [eP]
  have s1 : s 74 = s0 74 := Fg_k f rfl rfl
  have s2 : s 84 = s0 84 := Fg_k f rfl rfl
  rw [s1, s2, ez, e3, e4, e5]
  have x1 := ht 0 (Or.inl rfl)
  have x2 := ht 1 (Or.inr (Or.inl rfl))
  have x3 := ht 4 (Or.inr (Or.inr rfl))
  have g := Fg_f (L := []) (P := [(74, 1), (84, 0), (84, 1), (84, 4), (45, 3), (45, 4), (45, 5)]) (k := 84) (i := 4) (v := s0 84 4 + hCo s0 t z x) (Fg_f (k := 84) (i := 1) (v := s0 84 1 + hMi s0 t z x) (Fg_f (k := 84) (i := 0) (v := s0 84 0 + (x + hIn s0 t z x - hMi s0 t z x - hLe s0 t z x)) (Fg_f (k := 74) (i := 1) (v := z + hPu s0 t z x) (Fg_m f (by decide) (by decide)) (by decide)) (by decide)) (by decide)) (by decide)
  simp only [sw_s, sw_n (show (84 : Nat) ≠ 74 by decide), s1, s2] at g
  refine ⟨by omega, by omega, fun _ => by omega, by omega, by omega, by omega, by omega, by omega, by omega, k _ g ?_ ?_ ?_ ?_⟩
  · rw [sw_n (by decide), sw_n (by decide), sw_n (by decide), sw_s, fu_s]
  · rw [sw_s, fu_n (by decide), fu_n (by decide), fu_s]
  · rw [sw_s, fu_n (by decide), fu_s]
  · rw [sw_s, fu_s]
end
