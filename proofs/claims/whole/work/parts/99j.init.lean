section
/-! what holds at the start -/
theorem ZG_n {F : ZF} {k : Nat} {i lo hi : Int} (h : F.all (fun q => !(Nat.beq q.1 k) || (decide (q.2.1 < lo) || decide (hi ≤ q.2.1))) = true) (h0 : lo ≤ i) (h1 : i < hi) : ZG F k i = 0 := by
  induction F with
  | nil => rfl
  | cons q F ih =>
    obtain ⟨a, b, v⟩ := q
    rw [List.all_cons, Bool.and_eq_true] at h
    rw [ZG_c, if_neg ?_]
    · exact ih h.2
    · rintro ⟨Z1, Z2⟩
      have h2 := h.1
      simp only [Z1, Bool.or_eq_true, Bool.not_eq_true', decide_eq_true_eq] at h2
      rcases h2 with h2 | h2 | h2
      · rw [Nat.beq_refl] at h2
        cases h2
      · omega
      · omega
theorem ZG_0 {F : ZF} {k : Nat} (h : F.all (fun q => !(Nat.beq q.1 k)) = true) (i : Int) : ZG F k i = 0 := by
  induction F with
  | nil => rfl
  | cons q F ih =>
    obtain ⟨a, b, v⟩ := q
    rw [List.all_cons, Bool.and_eq_true] at h
    rw [ZG_c, if_neg ?_]
    · exact ih h.2
    · rintro ⟨Z1, Z2⟩
      have h2 := h.1
      simp only [Z1, Bool.not_eq_true'] at h2
      rw [Nat.beq_refl] at h2
      cases h2
set_option maxRecDepth 1000000 in
theorem ZW_0 : ([2, 3, 4, 5, 6, 7, 8, 9, 10, 11, 12, 27, 28, 29, 30, 33, 44, 47, 48, 49, 50, 52, 64, 65, 66, 67, 68, 69, 70, 71, 72, 73, 87, 88, 90, 91, 92, 94, 95, 98, 99, 101, 102, 103, 104, 105, 106, 107, 108, 109, 110, 111, 112, 113, 114, 115, 116, 117, 118, 119, 122, 123, 124, 125, 140, 141] : List Nat).all (fun k => ZW.all (fun q => !(Nat.beq q.1 k))) = true := by decide +kernel
set_option maxRecDepth 1000000 in
theorem ZW_1 : ZW.all (fun q => !(Nat.beq q.1 120) || (decide (q.2.1 < 0) || decide (2496 ≤ q.2.1))) = true ∧ ZW.all (fun q => !(Nat.beq q.1 120) || (decide (q.2.1 < 2512) || decide (2534 ≤ q.2.1))) = true ∧ ZW.all (fun q => !(Nat.beq q.1 120) || (decide (q.2.1 < 2536) || decide (2542 ≤ q.2.1))) = true := by decide +kernel
set_option maxRecDepth 1000000 in
theorem ZW_2 : (List.range 16).all (fun h => ZB (ZG ZW 120 (2496 + (h : Int))) (-1)) = true ∧ ZG ZW 120 2534 = 30 ∧ ZG ZW 120 2535 = -1 ∧ (List.range 4).all (fun h => ZB (ZG ZW 86 (h : Int)) (-1) && ZB (ZG ZW 97 (h : Int)) (-1)) = true := by decide +kernel
set_option maxRecDepth 1000000 in
theorem ZW_3 : (ZG ZW 1 0 = 1 ∧ ZG ZW 1 1 = 0 ∧ ZG ZW 1 2 = 0 ∧ ZG ZW 1 3 = 0 ∧ ZG ZW 96 5 = 1 ∧ ZG ZW 96 6 = 0 ∧ ZG ZW 96 7 = 0) ∧ (ZG ZW 63 0 = 0 ∧ ZG ZW 63 1 = 0 ∧ ZG ZW 63 2 = 30 ∧ ZG ZW 63 3 = -1) ∧ (ZG ZW 51 0 = 0 ∧ ZG ZW 51 1 = 1 ∧ ZG ZW 51 2 = 0 ∧ ZG ZW 51 3 = 0 ∧ ZG ZW 51 5 = 0 ∧ ZG ZW 96 12 = 0 ∧ ZG ZW 96 13 = 1 ∧ ZG ZW 96 42 = 0 ∧ ZG ZW 96 43 = 0 ∧ ZG ZW 96 44 = 0) ∧ (ZG ZW 45 0 = 0 ∧ ZG ZW 45 1 = 0 ∧ ZG ZW 96 8 = 0 ∧ ZG ZW 96 14 = 0 ∧ ZG ZW 46 1 = 0 ∧ ZG ZW 46 2 = 0 ∧ ZG ZW 43 1 = 0 ∧ ZG ZW 43 2 = 0) ∧ (ZG ZW 89 0 = 0 ∧ ZG ZW 96 9 = 0 ∧ ZG ZW 0 15 = -1 ∧ ZG ZW 96 79 = 0 ∧ ZG ZW 32 0 = 0 ∧ ZG ZW 96 37 = 0 ∧ ZG ZW 25 0 = 0 ∧ ZG ZW 96 39 = 0) ∧ (ZG ZW 16 9 = -1 ∧ ZG ZW 56 0 = 8 ∧ ZG ZW 56 1 = 25 ∧ ZG ZW 96 10 = 8 ∧ ZG ZW 96 11 = 25 ∧ ZG ZW 32 1 = -1 ∧ ZG ZW 96 38 = -1) := by decide +kernel
set_option maxRecDepth 1000000 in
theorem ZW_f : (List.range 146).all (fun k => !(Nat.beq (aSh k).1 0) || (List.range (aNf (aSh k).2.1)).all (fun i => !(Nat.beq (aFk (aSh k).2.1 i) 0) || ZB (ZG ZW k (i : Int)) ((aRt k i : Int) + 1))) = true := by decide +kernel
theorem Inv_0 {sx : Int → Int} {sL : Int} {σ : aW} (hR : ZR sx sL (146, 30052, ZW) σ) : Inv 0 σ := by
  have e : ∀ (k : Nat) (i : Int), k < 1000 → σ k i = ZG ZW k i := hR.2.2.2.2.1
  have z : ∀ (k : Nat) (i : Int), k ∈ ([2, 3, 4, 5, 6, 7, 8, 9, 10, 11, 12, 27, 28, 29, 30, 33, 44, 47, 48, 49, 50, 52, 64, 65, 66, 67, 68, 69, 70, 71, 72, 73, 87, 88, 90, 91, 92, 94, 95, 98, 99, 101, 102, 103, 104, 105, 106, 107, 108, 109, 110, 111, 112, 113, 114, 115, 116, 117, 118, 119, 122, 123, 124, 125, 140, 141] : List Nat) → k < 1000 → σ k i = 0 := fun k i hk h1 => by
    rw [e k i h1]
    exact ZG_0 (List.all_eq_true.mp ZW_0 k hk) i
  have a1 : ∀ i, 0 ≤ i → i < 2496 → σ 120 i = 0 := fun i h0 h1 => by
    rw [e 120 i (by decide)]
    exact ZG_n ZW_1.1 h0 h1
  have a2 : ∀ i, 2512 ≤ i → i < 2534 → σ 120 i = 0 := fun i h0 h1 => by
    rw [e 120 i (by decide)]
    exact ZG_n ZW_1.2.1 h0 h1
  have a3 : ∀ i, 2536 ≤ i → i < 2542 → σ 120 i = 0 := fun i h0 h1 => by
    rw [e 120 i (by decide)]
    exact ZG_n ZW_1.2.2 h0 h1
  have a4 : ∀ h, 0 ≤ h → h < 16 → σ 120 (2496 + h) = -1 := fun h h0 h1 => by
    rw [e 120 _ (by decide)]
    have := List.all_eq_true.mp ZW_2.1 h.toNat (List.mem_range.mpr (by omega))
    unfold ZB at this
    rw [decide_eq_true_eq, show ((h.toNat : Nat) : Int) = h by omega] at this
    exact this
  have a5 : ∀ h, 0 ≤ h → h < 4 → σ 86 h = -1 ∧ σ 97 h = -1 := fun h h0 h1 => by
    rw [e 86 _ (by decide), e 97 _ (by decide)]
    have := List.all_eq_true.mp ZW_2.2.2.2 h.toNat (List.mem_range.mpr (by omega))
    unfold ZB at this
    rw [Bool.and_eq_true, decide_eq_true_eq, decide_eq_true_eq, show ((h.toNat : Nat) : Int) = h by omega] at this
    exact this
  have a6 : σ 120 2534 = 30 := (e 120 2534 (by decide)).trans ZW_2.2.1
  have a7 : σ 120 2535 = -1 := (e 120 2535 (by decide)).trans ZW_2.2.2.1
  obtain ⟨⟨b1, b2, b3, b4, b5, b6, b7⟩, ⟨c1, c2, c3, c4⟩, ⟨d1, d2, d3, d4, d5, d6, d7, d8, d9, d10⟩, ⟨f1, f2, f3, f4, f5, f6, f7, f8⟩, ⟨g1, g2, g3, g4, g5, g6, g7, g8⟩, ⟨m1, m2, m3, m4, m5, m6, m7⟩⟩ := ZW_3
  have E : ∀ {k : Nat} {i x : Int}, ZG ZW k i = x → k < 1000 → σ k i = x := fun h hk => (e _ _ hk).trans h
  replace b1 := E b1 (by decide)
  replace b2 := E b2 (by decide)
  replace b3 := E b3 (by decide)
  replace b4 := E b4 (by decide)
  replace b5 := E b5 (by decide)
  replace b6 := E b6 (by decide)
  replace b7 := E b7 (by decide)
  replace c1 := E c1 (by decide)
  replace c2 := E c2 (by decide)
  replace c3 := E c3 (by decide)
  replace c4 := E c4 (by decide)
  replace d1 := E d1 (by decide)
  replace d2 := E d2 (by decide)
  replace d3 := E d3 (by decide)
  replace d4 := E d4 (by decide)
  replace d5 := E d5 (by decide)
  replace d6 := E d6 (by decide)
  replace d7 := E d7 (by decide)
  replace d8 := E d8 (by decide)
  replace d9 := E d9 (by decide)
  replace d10 := E d10 (by decide)
  replace f1 := E f1 (by decide)
  replace f2 := E f2 (by decide)
  replace f3 := E f3 (by decide)
  replace f4 := E f4 (by decide)
  replace f5 := E f5 (by decide)
  replace f6 := E f6 (by decide)
  replace f7 := E f7 (by decide)
  replace f8 := E f8 (by decide)
  replace g1 := E g1 (by decide)
  replace g2 := E g2 (by decide)
  replace g3 := E g3 (by decide)
  replace g4 := E g4 (by decide)
  replace g5 := E g5 (by decide)
  replace g6 := E g6 (by decide)
  replace g7 := E g7 (by decide)
  replace g8 := E g8 (by decide)
  replace m1 := E m1 (by decide)
  replace m2 := E m2 (by decide)
  replace m3 := E m3 (by decide)
  replace m4 := E m4 (by decide)
  replace m5 := E m5 (by decide)
  replace m6 := E m6 (by decide)
  replace m7 := E m7 (by decide)
  have h32 : σ 120 2532 = 0 := a2 2532 (by omega) (by omega)
  have h33 : σ 120 2533 = 0 := a2 2533 (by omega) (by omega)
  refine ⟨⟨?_, fun p p0 p1 => by omega, fun p p0 p1 => ?_, fun v v0 v1 => ?_, fun h h0 h1 => by omega⟩, ?_, fun i i0 i1 => Or.inl (a5 i i0 i1), ⟨fun p p0 p1 => by omega, ?_, fun h h0 h1 => ?_, fun p p0 p1 => ?_, fun i i0 i1 => ?_⟩, ?_, ?_, ?_, ?_, ?_, ?_, ?_, ?_, ?_, ?_, ?_, ?_, ?_⟩
  · unfold Nn
    omega
  · unfold Nb
    rw [z 7 p (by decide) (by decide), z 108 p (by decide) (by decide)]
    omega
  · unfold Nv
    rw [z 8 v (by decide) (by decide), z 106 v (by decide) (by decide), z 9 v (by decide) (by decide), z 107 v (by decide) (by decide)]
    omega
  · unfold iV
    omega
  · unfold Sc
    omega
  · unfold Sh
    rw [show σ (63 + 3) h = 0 from z 66 h (by decide) (by decide), show σ (63 + 4) h = 0 from z 67 h (by decide) (by decide), show σ (63 + 5) h = 0 from z 68 h (by decide) (by decide), show σ (63 + 6) h = 0 from z 69 h (by decide) (by decide), show σ (63 + 7) h = 0 from z 70 h (by decide) (by decide), show σ (63 + 8) h = 0 from z 71 h (by decide) (by decide), show σ (63 + 9) h = 0 from z 72 h (by decide) (by decide), a1 (2480 + h) (by omega) (by omega), a4 h h0 h1, a1 (2400 + h) (by omega) (by omega), a1 (2416 + h) (by omega) (by omega), a1 (2432 + h) (by omega) (by omega), a1 (2448 + h) (by omega) (by omega), a1 (2464 + h) (by omega) (by omega), h32]
    refine ⟨rfl, by omega, by omega, fun _ => rfl, fun y => absurd rfl y, by omega, by omega, rfl, by omega, by omega, rfl, by omega, by omega, rfl, by omega, by omega, rfl, by omega, by omega, rfl, by omega, by omega⟩
  · unfold Sp
    rw [show σ (63 + 2) p = 0 from z 65 p (by decide) (by decide), a2 (2512 + p) (by omega) (by omega)]
    omega
  · unfold Sm
    rw [show σ (63 + 10) i = 0 from z 73 i (by decide) (by decide), a3 (2536 + i) (by omega) (by omega), h32]
    omega
  · unfold IDp
    rw [d6, d7]
    refine ⟨by omega, by omega, by omega, by omega, by omega, by omega, by decide, by omega, by omega, by omega, by omega, by omega, by omega, by omega, by omega, fun k k0 k1 => by omega⟩
  · exact ⟨by omega, by omega, by omega, fun b b0 b1 => by omega, fun i i0 i1 => by omega, fun i j i0 i1 j1 => by omega⟩
  · refine ⟨by omega, by omega, by omega, by omega, by omega, by omega, by omega, fun h h0 h1 => ?_⟩
    rw [z 115 h (by decide) (by decide), z 47 _ (by decide) (by decide), if_pos (by omega)]
    omega
  · refine ⟨by omega, by omega, by omega, by omega, fun h h0 h1 => ?_⟩
    rw [z 114 h (by decide) (by decide), if_pos f7]
    omega
  · unfold ILv
    rw [d6, d7]
    exact ⟨by omega, fun y => by omega⟩
  · exact ⟨by omega, by omega, by omega, fun i i0 i1 => by omega⟩
  · exact ⟨Or.inl ⟨by omega, by omega⟩, by omega, by omega, fun h h0 h1 => by omega⟩
  · exact ⟨by omega, by omega, by omega, fun i i0 i1 => by omega⟩
  · have h124 : σ 124 0 = 0 := z 124 0 (by decide) (by decide)
    refine ⟨by omega, by omega, fun _ => 0, [], fun i i0 i1 => by omega, ?_, by rw [g7]; rfl, ?_, ?_, by simp, by simp, by rw [g8]; rfl⟩
    · rw [h124]
      have hk := (kMm_ok (B := fun _ => 0) (n := 0) (by omega) (by omega)).2
      unfold rAll
      rw [if_pos (by unfold kTt; rw [if_neg (by omega)])]
    · trivial
    · show (0 : Int) ≤ 300
      omega
  · exact ⟨by omega, fun y => by omega⟩
  · unfold iT
    omega
  · exact ⟨by omega, fun _ => h33⟩
  · omega
theorem aFull_0 {sx : Int → Int} {sL : Int} {σ : aW} (hR : ZR sx sL (146, 30052, ZW) σ) : aFull σ := by
  refine ⟨hR.1, hR.2.1, fun k i hk h1 h2 h3 => ?_⟩
  have hk : k < 146 := hk
  rw [hR.2.2.2.2.1 k i (by omega)]
  have a := List.all_eq_true.mp ZW_f k (List.mem_range.mpr hk)
  rw [h1] at a
  simp only [Nat.beq_refl, Bool.not_true, Bool.false_or] at a
  have b := List.all_eq_true.mp a i (List.mem_range.mpr h2)
  rw [h3] at b
  simp only [Nat.beq_refl, Bool.not_true, Bool.false_or] at b
  unfold ZB at b
  exact of_decide_eq_true b
theorem aLaw_ok : aLaw := by
  intro sx sL hx h0 h1
  refine ZTo_s (d := 59) (lm := (146, 30052)) (j := 276) (to := 18) (w := ([vr 1200, vr 0, vr 96, vi 0], [], (146, 30052, ZW))) (sx := sx) (sL := sL) (fun σ' hR => ?_) 20 0 [vr 1200, vt, vt, vt] [] (0, 0, []) Z_run (aS0 sx sL) ⟨rfl, rfl, rfl, rfl, fun k i hk => ?_, fun q hq => (by cases hq), (by decide)⟩
  · refine aX_in (aEv_m 59) (Or.inr (Or.inl ⟨rfl, aFull_0 hR, ?_⟩))
    exact Yx_lm (l_loop hx h0 h1 (sL - 0).toNat 0 σ' (Nat.le_refl _) (Int.le_refl _) (by omega) (Inv_0 hR) hR.2.2.2.1 hR.2.2.1)
  · show aS0 sx sL k i = 0
    unfold aS0
    rw [if_neg (by omega), if_neg (by omega)]
end
