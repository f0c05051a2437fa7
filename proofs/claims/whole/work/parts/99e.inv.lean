section
/-! what holds between two calls -/
def iT (σ : aW) : Prop := σ 56 0 = σ 96 10 ∧ σ 56 1 = σ 96 11 ∧ 0 ≤ σ 96 10 ∧ σ 96 10 ≤ 20 ∧ 15 ≤ σ 96 11 ∧ σ 96 11 ≤ 50
def iH (σ : aW) : Prop := σ 120 2532 ≤ 5000 ∧ (σ 120 2532 = 0 → σ 120 2533 = 0)
def iV (i : Int) (σ : aW) : Prop := 0 ≤ σ 1 3 ∧ σ 1 3 ≤ 45 * i
def Inv (i : Int) (σ : aW) : Prop := INet σ ∧ iV i σ ∧ IPl σ ∧ ISt 63 σ ∧ IDp σ ∧ IBo σ ∧ IOf σ ∧ IAr σ ∧ ILv σ ∧ IMt σ ∧ IAh σ ∧ ITp σ ∧ IRu σ ∧ IFc σ ∧ iT σ ∧ iH σ ∧ σ 32 1 = σ 96 38
abbrev kPlC : List Nat := [86, 87, 88, 97, 98, 99]
theorem IPl_k {L : List Nat} {P : List (Nat × Int)} {σ t : aW} (h : Fg L P σ t) (hd : Kt L P kPlC [] = true) (hI : IPl σ) : IPl t := by
  have c := fun (k : Nat) (hk : k ∈ kPlC) => Kc h hd hk
  unfold IPl at *
  simp only [c 86 (by decide), c 87 (by decide), c 88 (by decide), c 97 (by decide), c 98 (by decide), c 99 (by decide)]
  exact hI
abbrev kLvR : List (Nat × Int) := [(120, 2533), (96, 12), (96, 13), (96, 44), (96, 43)]
theorem ILv_k {L : List Nat} {P : List (Nat × Int)} {σ t : aW} (h : Fg L P σ t) (hd : Kt L P [125] kLvR = true) (hI : ILv σ) : ILv t := by
  have c := fun (k : Nat) (hk : k ∈ [125]) => Kc h hd hk
  have q := fun (k : Nat) (i : Int) (hk : (k, i) ∈ kLvR) => Kq h hd hk
  unfold ILv at *
  simp only [c 125 (by decide), q 120 2533 (by decide), q 96 12 (by decide), q 96 13 (by decide), q 96 44 (by decide), q 96 43 (by decide)]
  exact hI
abbrev kMtC : List Nat := [90, 91, 92, 116, 117, 118, 119]
abbrev kMtR : List (Nat × Int) := [(89, 0), (96, 9)]
theorem IMt_k {L : List Nat} {P : List (Nat × Int)} {σ t : aW} (h : Fg L P σ t) (hd : Kt L P kMtC kMtR = true) (hI : IMt σ) : IMt t := by
  have c := fun (k : Nat) (hk : k ∈ kMtC) => Kc h hd hk
  have q := fun (k : Nat) (i : Int) (hk : (k, i) ∈ kMtR) => Kq h hd hk
  unfold IMt at *
  simp only [c 90 (by decide), c 91 (by decide), c 92 (by decide), c 116 (by decide), c 117 (by decide), c 118 (by decide), c 119 (by decide), q 89 0 (by decide), q 96 9 (by decide)]
  exact hI
abbrev kAhC : List Nat := [94, 95, 140, 141]
abbrev kAhR : List (Nat × Int) := [(0, 15), (96, 79), (96, 7)]
theorem IAh_k {L : List Nat} {P : List (Nat × Int)} {σ t : aW} (h : Fg L P σ t) (hd : Kt L P kAhC kAhR = true) (hI : IAh σ) : IAh t := by
  have c := fun (k : Nat) (hk : k ∈ kAhC) => Kc h hd hk
  have q := fun (k : Nat) (i : Int) (hk : (k, i) ∈ kAhR) => Kq h hd hk
  unfold IAh at *
  simp only [c 94 (by decide), c 95 (by decide), c 140 (by decide), c 141 (by decide), q 0 15 (by decide), q 96 79 (by decide), q 96 7 (by decide)]
  exact hI
abbrev kTpC : List Nat := [33, 122]
abbrev kTpR : List (Nat × Int) := [(32, 0), (96, 37)]
theorem ITp_k {L : List Nat} {P : List (Nat × Int)} {σ t : aW} (h : Fg L P σ t) (hd : Kt L P kTpC kTpR = true) (hI : ITp σ) : ITp t := by
  have c := fun (k : Nat) (hk : k ∈ kTpC) => Kc h hd hk
  have q := fun (k : Nat) (i : Int) (hk : (k, i) ∈ kTpR) => Kq h hd hk
  unfold ITp at *
  simp only [c 33 (by decide), c 122 (by decide), q 32 0 (by decide), q 96 37 (by decide)]
  exact hI
abbrev kRuC : List Nat := [27, 28, 29, 30, 123]
abbrev kRuR : List (Nat × Int) := [(25, 0), (96, 39), (124, 0)]
theorem IRu_k {L : List Nat} {P : List (Nat × Int)} {σ t : aW} (h : Fg L P σ t) (hd : Kt L P kRuC kRuR = true) (hI : IRu σ) : IRu t := by
  have c := fun (k : Nat) (hk : k ∈ kRuC) => Kc h hd hk
  have q := fun (k : Nat) (i : Int) (hk : (k, i) ∈ kRuR) => Kq h hd hk
  unfold IRu at *
  simp only [c 27 (by decide), c 28 (by decide), c 29 (by decide), c 30 (by decide), c 123 (by decide), q 25 0 (by decide), q 96 39 (by decide), q 124 0 (by decide)]
  exact hI
abbrev kTmR : List (Nat × Int) := [(56, 0), (56, 1), (96, 10), (96, 11)]
theorem iT_k {L : List Nat} {P : List (Nat × Int)} {σ t : aW} (h : Fg L P σ t) (hd : Kt L P [] kTmR = true) (hI : iT σ) : iT t := by
  have q := fun (k : Nat) (i : Int) (hk : (k, i) ∈ kTmR) => Kq h hd hk
  unfold iT at *
  simp only [q 56 0 (by decide), q 56 1 (by decide), q 96 10 (by decide), q 96 11 (by decide)]
  exact hI
abbrev kHrR : List (Nat × Int) := [(120, 2532), (120, 2533)]
theorem iH_k {L : List Nat} {P : List (Nat × Int)} {σ t : aW} (h : Fg L P σ t) (hd : Kt L P [] kHrR = true) (hI : iH σ) : iH t := by
  have q := fun (k : Nat) (i : Int) (hk : (k, i) ∈ kHrR) => Kq h hd hk
  unfold iH at *
  simp only [q 120 2532 (by decide), q 120 2533 (by decide)]
  exact hI
abbrev kFaR : List (Nat × Int) := [(32, 1), (96, 38)]
theorem iF_k {L : List Nat} {P : List (Nat × Int)} {σ t : aW} (h : Fg L P σ t) (hd : Kt L P [] kFaR = true) (hI : σ 32 1 = σ 96 38) : t 32 1 = t 96 38 := by
  have q := fun (k : Nat) (i : Int) (hk : (k, i) ∈ kFaR) => Kq h hd hk
  rw [q 32 1 (by decide), q 96 38 (by decide)]
  exact hI
abbrev kVrR : List (Nat × Int) := [(1, 3)]
theorem iV_k {L : List Nat} {P : List (Nat × Int)} {σ t : aW} {i : Int} (h : Fg L P σ t) (hd : Kt L P [] kVrR = true) (hI : iV i σ) : iV (i + 8) t := by
  have q := Kq h hd (k := 1) (i := 3) (by decide)
  unfold iV at *
  omega
theorem iV_n {σ t : aW} {i : Int} (h : IN1 σ t) (hI : iV i σ) : iV (i + 8) t := by
  obtain ⟨_, h2, h3⟩ := h
  unfold iV at *
  rcases h3 with h3 | h3
  · omega
  · have := h3 1 3 (by decide) (by decide)
    omega
theorem iV_v {σ : aW} {i : Int} (hI : iV i σ) (hi : i ≤ 5000) : Vr σ := by
  unfold iV at hI
  unfold Vr
  omega
theorem IFc_v {σ t : aW} (h : IN1 σ t) (e : t 16 9 = σ 16 9) (hF : IFc σ) : IFc t := by
  obtain ⟨_, _, h3⟩ := h
  rcases h3 with h3 | h3
  · have := hF.1
    exact ⟨by omega, fun z => by omega⟩
  · exact IFc_k h3 (by decide) hF
theorem ISt_p {σ t : aW} (hU : Su 64 t) (e : ∀ j, 2400 ≤ j → t 120 j = σ 120 j) (c : ∀ k, k ∈ [63, 65, 66, 67, 68, 69, 70, 71, 72, 73] → t k = σ k) (h : ISt 63 σ) : ISt 63 t := by
  obtain ⟨i1, i2, i3, i4, i5⟩ := h
  refine ⟨hU, ?_, fun h h0 h1 => ?_, fun p p0 p1 => ?_, fun i i0 i1 => ?_⟩
  · unfold Sc at *
    rw [c 63 (by decide), e 2532 (by omega), e 2533 (by omega), e 2534 (by omega), e 2535 (by omega)]
    exact i2
  · have := i3 h h0 h1
    unfold Sh at *
    rw [show t (63 + 3) = σ (63 + 3) from c 66 (by decide), show t (63 + 4) = σ (63 + 4) from c 67 (by decide), show t (63 + 5) = σ (63 + 5) from c 68 (by decide), show t (63 + 6) = σ (63 + 6) from c 69 (by decide), show t (63 + 7) = σ (63 + 7) from c 70 (by decide), show t (63 + 8) = σ (63 + 8) from c 71 (by decide), show t (63 + 9) = σ (63 + 9) from c 72 (by decide), e 2532 (by omega), e (2480 + h) (by omega), e (2496 + h) (by omega), e (2400 + h) (by omega), e (2416 + h) (by omega), e (2432 + h) (by omega), e (2448 + h) (by omega), e (2464 + h) (by omega)]
    exact this
  · have := i4 p p0 p1
    unfold Sp at *
    rw [show t (63 + 2) = σ (63 + 2) from c 65 (by decide), e (2512 + p) (by omega)]
    exact this
  · have := i5 i i0 i1
    unfold Sm at *
    rw [show t (63 + 10) = σ (63 + 10) from c 73 (by decide), e 2532 (by omega), e (2536 + i) (by omega)]
    exact this
theorem ITp_e {σ t : aW} (h : t 32 0 = t 96 37 ∧ 0 ≤ t 96 37 ∧ t 96 37 ≤ σ 96 37) (e1 : t 33 = σ 33) (e2 : t 122 = σ 122) (hI : ITp σ) : ITp t := by
  obtain ⟨a1, a2, a3, a4⟩ := hI
  exact ⟨h.1, h.2.1, by omega, fun i i0 i1 => by rw [e1, e2]; exact a4 i i0 (by omega)⟩
theorem ILv_s {σ t : aW} (hD : IDp t) (h1 : σ 120 2533 = 0 ∨ (t 96 12 = σ 96 12 ∧ t 96 13 = σ 96 13)) (h2 : σ 96 44 = 0 ∨ (t 96 12 = σ 96 12 ∧ t 96 13 = σ 96 13)) (e1 : t 120 2533 = σ 120 2533) (e2 : t 96 44 = σ 96 44) (e3 : t 96 43 = σ 96 43) (e4 : t 125 = σ 125) (hI : ILv σ) : ILv t := by
  obtain ⟨a1, a2⟩ := hI
  obtain ⟨_, d2, _, _, d5, _⟩ := hD
  unfold ILv
  rw [e1, e2, e3, e4]
  have p : 0 ≤ (t 96 12 / t 96 13) * t 96 13 := Int.mul_nonneg (Int.ediv_nonneg d2 (by omega)) (by omega)
  refine ⟨?_, fun z => ?_⟩
  · rcases h1 with h1 | h1
    · rw [h1]; exact p
    · rw [h1.1, h1.2]; exact a1
  · rcases h2 with h2 | h2
    · rw [h2] at z
      cases z
    · rw [h2.1, h2.2]; exact a2 z
theorem IAh_h {σ t : aW} (h7 : σ 96 7 ≤ t 96 7) (e1 : t 0 15 = σ 0 15) (e2 : t 96 79 = σ 96 79) (e3 : t 94 = σ 94) (e4 : t 95 = σ 95) (e5 : t 140 = σ 140) (e6 : t 141 = σ 141) (hI : IAh σ) : IAh t := by
  obtain ⟨a1, a2, a3, a4⟩ := hI
  unfold IAh
  rw [e1, e2, e3, e4, e5, e6]
  exact ⟨a1, a2, by omega, a4⟩
theorem t_house2 {σ : aW} {a1 a2 a3 : Int} (hI : INet σ) (hv : Vr σ) : aEv 59 true 110 [vr 0, vi a1, vi a2, vi a3] σ (fun r s => aEv 59 true 168 [vr 96, vi a1, vi a2, vi a3] s (Tp (fun t => IN1 σ t ∧ σ 96 7 ≤ t 96 7) [10, 11, 12, 109, 110, 111] [(1, 2), (1, 3), (96, 0), (96, 7)] σ r)) := by
  have hr : ∀ r : Option aV, Tp (fun t => IN1 σ t ∧ σ 96 7 ≤ t 96 7) [10, 11, 12, 109, 110, 111] [(1, 2), (1, 3), (96, 0), (96, 7)] σ r r (sw σ 96 (fu (σ 96) 0 0)) := fun r => ⟨rfl, ⟨IN1_r hI, Int.le_refl _⟩, Fg_f Fg_r (by decide)⟩
  obtain ⟨hn, hp, hb, hw, hh⟩ := hI
  have hn' := hn
  unfold Nn at hn'
  unfold Vr at hv
  refine e110 (b110_0 ?_)
  (repeat' first | with_reducible apply And.intro | with_reducible intro _)
  all_goals first | omega | skip
  · refine e36 (b36_0 ⟨by omega, by omega, by omega, by omega, by omega, _, rfl, b110_38_1 ?_⟩)
    refine e168 (b168_0 ?_)
    simp only [sw_n (show (96 : Nat) ≠ 1 by decide), sw_n (show (96 : Nat) ≠ 10 by decide), sw_n (show (96 : Nat) ≠ 11 by decide), sw_n (show (96 : Nat) ≠ 12 by decide)]
    (repeat' first | with_reducible apply And.intro | with_reducible intro _)
    all_goals first | omega | skip
    refine ⟨?_, ⟨⟨⟨?_, ?_, ?_, ?_, ?_⟩, ?_, Or.inl ?_⟩, ?_⟩, ?_⟩
    · rw [hn'.2.2.2.2.2.2.1]
      congr 2
      omega
    · unfold Nn
      simp [sw, fu]
      omega
    · intro p h0 h1
      exact hp p h0 (by simpa [sw, fu] using h1)
    · exact hb
    · exact hw
    · intro h h0 h1
      have h1' : h < σ 96 7 + 1 := by simpa [sw, fu] using h1
      unfold Nh
      simp only [sw, fu, Nat.reduceEqDiff, if_true, if_false, Int.reduceEq]
      rw [hn'.2.2.2.2.2.2.1]
      by_cases e : h = σ 96 7
      · simp [e]
        omega
      · have := hh h h0 (by omega)
        unfold Nh at this
        simpa [e] using this
    · simp [sw, fu] <;> omega
    · simp [sw, fu] <;> omega
    · simp [sw, fu] <;> omega
    · exact Fg_f (Fg_w (Fg_w (Fg_w (Fg_f (Fg_f (Fg_f (Fg_w (Fg_w (Fg_w Fg_r (by decide)) (by decide)) (by decide)) (by decide)) (by decide)) (by decide)) (by decide)) (by decide)) (by decide)) (by decide)
  · refine e168 (b168_0 ?_)
    (repeat' first | with_reducible apply And.intro | with_reducible intro _)
    all_goals first | omega | exact hr _
  · refine e168 (b168_0 ?_)
    (repeat' first | with_reducible apply And.intro | with_reducible intro _)
    all_goals first | omega | exact hr _
end
