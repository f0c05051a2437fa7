section
/-! the state that hours change: b is 63 (now) or 74 (ahead) -/
def Su (u : Nat) (σ : aW) : Prop := ∀ p, 0 ≤ p → p < σ 96 6 → ∀ k, 0 ≤ k → k < σ 103 p → σ u ((2 * p + 0) * 60 + k) = σ 120 (60 * p + k) ∧ σ u ((2 * p + 1) * 60 + k) = σ 120 (1200 + 60 * p + k) ∧ 0 ≤ σ 120 (60 * p + k) ∧ σ 120 (60 * p + k) ≤ 12000 ∧ 0 ≤ σ 120 (1200 + 60 * p + k) ∧ σ 120 (1200 + 60 * p + k) ≤ 12000
def Sc (b : Nat) (σ : aW) : Prop := σ b 0 = σ 120 2532 ∧ 0 ≤ σ 120 2532 ∧ σ 120 2532 ≤ 5048 ∧ σ b 1 = σ 120 2533 ∧ 0 ≤ σ 120 2533 ∧ σ 120 2533 ≤ 1000000 ∧ σ b 2 = σ 120 2534 ∧ 0 ≤ σ 120 2534 ∧ σ 120 2534 ≤ 12000 ∧ σ b 3 = σ 120 2535 ∧ -1 ≤ σ 120 2535 ∧ σ 120 2535 ≤ 2000000000
def Sh (b : Nat) (σ : aW) (h : Int) : Prop := σ (b + 3) h = σ 120 (2480 + h) ∧ 0 ≤ σ 120 (2480 + h) ∧ σ 120 (2480 + h) ≤ 2000 ∧ (σ 120 (2480 + h) = 0 → σ 120 (2496 + h) = -1) ∧ (σ 120 (2480 + h) ≠ 0 → σ (b + 4) h = σ 120 (2496 + h)) ∧ -1 ≤ σ 120 (2496 + h) ∧ σ 120 (2496 + h) ≤ 2000000000
  ∧ σ (b + 5) h = σ 120 (2400 + h) ∧ 0 ≤ σ 120 (2400 + h) ∧ σ 120 (2400 + h) ≤ σ 120 2532
  ∧ σ (b + 6) h = σ 120 (2416 + h) ∧ 0 ≤ σ 120 (2416 + h) ∧ σ 120 (2416 + h) ≤ 1000000000 * σ 120 2532
  ∧ σ (b + 7) h = σ 120 (2432 + h) ∧ 0 ≤ σ 120 (2432 + h) ∧ σ 120 (2432 + h) ≤ 1000000000 * σ 120 2532
  ∧ σ (b + 8) h = σ 120 (2448 + h) ∧ 0 ≤ σ 120 (2448 + h) ∧ σ 120 (2448 + h) ≤ 1000000000 * σ 120 2532
  ∧ σ (b + 9) h = σ 120 (2464 + h) ∧ 0 ≤ σ 120 (2464 + h) ∧ σ 120 (2464 + h) ≤ 1000000000 * σ 120 2532
def Sp (b : Nat) (σ : aW) (p : Int) : Prop := σ (b + 2) p = σ 120 (2512 + p) ∧ -60 ≤ σ 120 (2512 + p) ∧ σ 120 (2512 + p) ≤ 60
def Sm (b : Nat) (σ : aW) (i : Int) : Prop := σ (b + 10) i = σ 120 (2536 + i) ∧ 0 ≤ σ 120 (2536 + i) ∧ σ 120 (2536 + i) ≤ 1000000000 * σ 120 2532
def ISt (b : Nat) (σ : aW) : Prop := Su (b + 1) σ ∧ Sc b σ ∧ (∀ h, 0 ≤ h → h < 16 → Sh b σ h) ∧ (∀ p, 0 ≤ p → p < 20 → Sp b σ p) ∧ (∀ i, 0 ≤ i → i < 6 → Sm b σ i)
theorem c94 {d : Nat} {Q : aQ} {σ : aW} {a1 : Int} (h1 : 0 ≤ a1) (h2 : a1 < 20) (k : ∀ s, Fr [64] σ s → (∀ j, s 64 j = if 120 * a1 ≤ j ∧ j < 120 * a1 + 60 then 6000 else if 120 * a1 + 60 ≤ j ∧ j < 120 * a1 + 120 then 3000 else σ 64 j) → Q none s) : aEv (d + 1) true 94 [vr 63, vi a1] σ Q := by
  refine e94 (b94_0 ⟨by omega, by omega, ?_⟩)
  refine for_up (X := fun i s => Yx (d + 1) cd94 0 Q 15 [vr 63, vt, vi (((2 * a1) + 0) * 60), vi (((2 * a1) + 1) * 60), vi i] [] s) (I := fun i s => 0 ≤ i ∧ i ≤ 60 ∧ Fr [64] σ s ∧ ∀ j, s 64 j = if 120 * a1 ≤ j ∧ j < 120 * a1 + i then 6000 else if 120 * a1 + 60 ≤ j ∧ j < 120 * a1 + 60 + i then 3000 else σ 64 j) (N := 60) ?_ ?_ 0 _ ⟨Int.le_refl _, by omega, Fr_r, fun j => by rw [if_neg (by omega), if_neg (by omega)]⟩
  · rintro i s hi ⟨g1, g2, g3, g6⟩ K
    refine b94_15 ⟨fun z => by omega, fun _ => ⟨by omega, by omega, by omega, by omega, by omega, K _ ⟨by omega, by omega, Fr_w (Fr_w g3 (by decide)) (by decide), ?_⟩⟩⟩
    intro j
    simp only [sw_s, fu, g6]
    repeat' split
    all_goals omega
  · rintro i s hi ⟨g1, g2, g3, g6⟩
    have e : i = 60 := by omega
    subst e
    exact b94_15 ⟨fun _ => k s g3 (fun j => by rw [g6 j]; repeat' split <;> omega), fun z => absurd hi z⟩
theorem c166 {d : Nat} {Q : aQ} {σ : aW} {a3 : Int} (h1 : 0 ≤ σ 96 6) (h2 : σ 96 6 < 20) (h3 : 0 ≤ a3) (h4 : a3 ≤ 60) (k : ∀ s, Fr [120] σ s → (∀ j, s 120 j = if 60 * σ 96 6 ≤ j ∧ j < 60 * σ 96 6 + a3 then 6000 else if 1200 + 60 * σ 96 6 ≤ j ∧ j < 1200 + 60 * σ 96 6 + a3 then 3000 else σ 120 j) → Q (some (vi (σ 96 6))) (sw s 96 (fu (σ 96) 6 (σ 96 6 + 1)))) : Yx (d + 2) cd166 1 Q 163 [vr 96, vt, vt, vi a3, vt, vt, vt, vt, vi 0] [] σ := by
  refine for_up (X := fun i s => Yx (d + 2) cd166 1 Q 163 [vr 96, vt, vt, vi a3, vt, vt, vt, vt, vi i] [] s) (I := fun i s => 0 ≤ i ∧ i ≤ a3 ∧ Fr [120] σ s ∧ ∀ j, s 120 j = if 60 * σ 96 6 ≤ j ∧ j < 60 * σ 96 6 + i then 6000 else if 1200 + 60 * σ 96 6 ≤ j ∧ j < 1200 + 60 * σ 96 6 + i then 3000 else σ 120 j) (N := a3) ?_ ?_ 0 _ ⟨Int.le_refl _, by omega, Fr_r, fun j => by rw [if_neg (by omega), if_neg (by omega)]⟩
  · rintro i s hi ⟨g1, g2, g3, g6⟩ K
    have e96 : s 96 = σ 96 := g3 96 (by decide)
    refine b166_163 ?_
    simp only [e96]
    refine ⟨fun z => by omega, fun _ => ⟨by omega, by omega, by omega, by omega, by omega, by omega, by omega, by omega, by omega, K _ ⟨by omega, by omega, Fr_w (Fr_w g3 (by decide)) (by decide), ?_⟩⟩⟩
    intro j
    simp only [sw_s, fu, g6]
    repeat' split
    all_goals omega
  · rintro i s hi ⟨g1, g2, g3, g6⟩
    have e : i = a3 := by omega
    subst e
    have e96 : s 96 = σ 96 := g3 96 (by decide)
    refine b166_163 ⟨fun _ => ?_, fun z => absurd hi z⟩
    rw [e96]
    refine ⟨by omega, by omega, ?_⟩
    have := k s g3 g6
    rw [show σ 96 6 + 1 - 1 = σ 96 6 by omega]
    exact this
def IP1 (σ t : aW) : Prop := IN1 σ t ∧ Su 64 t ∧ ∀ j, 2400 ≤ j → t 120 j = σ 120 j
theorem t_pipe {σ : aW} {a1 a2 a3 a4 a5 a6 a7 : Int} (q6 : a6 = 0 ∨ a6 = 1) (q7 : a7 = 0 ∨ a7 = 1) (hI : INet σ) (hU : Su 64 σ) (hv : Vr σ) : aEv 59 true 109 [vr 0, vi a1, vi a2, vi a3, vi a4, vi a5, vi a6, vi a7] σ (fun r s => aEv 59 true 166 [vr 96, vi a1, vi a2, vi a3, vi a4, vi a5, vi a6, vi a7] s (Tp (IP1 σ) [2, 3, 4, 5, 6, 8, 64, 101, 102, 103, 104, 105, 106, 120] [(1, 1), (1, 3), (96, 0), (96, 6)] σ r)) := by
  have hr : ∀ r : Option aV, Tp (IP1 σ) [2, 3, 4, 5, 6, 8, 64, 101, 102, 103, 104, 105, 106, 120] [(1, 1), (1, 3), (96, 0), (96, 6)] σ r r (sw σ 96 (fu (σ 96) 0 0)) := fun r => ⟨rfl, ⟨IN1_r hI, hU, fun _ _ => rfl⟩, Fg_f Fg_r (by decide)⟩
  obtain ⟨hn, hp, hb, hw, hh⟩ := hI
  have hn' := hn
  unfold Nn at hn'
  have hv' := hv
  unfold Vr at hv'
  refine e109 (b109_0 ?_)
  (repeat' first | with_reducible apply And.intro | with_reducible intro _)
  all_goals first | omega | (refine e166 (b166_0 ?_); (repeat' first | with_reducible apply And.intro | with_reducible intro _); all_goals first | omega | exact hr _) | skip
  rename_i h1 h2 h3 h4 h5 h6 h7
  refine e35 (b35_0 ⟨by omega, by omega, by omega, by omega, by omega, by omega, by omega, _, rfl, b109_98_1 ⟨by omega, q6, by omega, by omega, by omega, q7, by omega, ?_⟩⟩)
  refine c94 (d := 57) (by omega) (by omega) (fun s f1 f2 => ⟨rfl, b109_139 ?_⟩)
  have f96 : s 96 = σ 96 := by rw [f1 96 (by decide)]; simp [sw]
  refine e166 (b166_0 ?_)
  simp only [f96]
  (repeat' first | with_reducible apply And.intro | with_reducible intro _)
  all_goals first | omega | skip
  refine c166 (d := 57) (by simp [sw, fu]; omega) (by simp [sw, fu]; omega) (by omega) (by omega) (fun t g1 g2 => ?_)
  have hP : σ 1 1 = σ 96 6 := hn'.2.2.2.1
  generalize hu : sw t 96 _ = u
  have hu := hu.symm
  have E2 : ∀ p, u 2 p = if p = σ 96 6 then a1 else σ 2 p := fun p => by rw [hu, sw_n (by decide), g1 2 (by decide)]; simp [sw, f1 2 (by decide), fu, hP]
  have E3 : ∀ p, u 3 p = if p = σ 96 6 then a2 else σ 3 p := fun p => by rw [hu, sw_n (by decide), g1 3 (by decide)]; simp [sw, f1 3 (by decide), fu, hP]
  have E4 : ∀ p, u 4 p = if p = σ 96 6 then a3 else σ 4 p := fun p => by rw [hu, sw_n (by decide), g1 4 (by decide)]; simp [sw, f1 4 (by decide), fu, hP]
  have E5 : ∀ p, u 5 p = if p = σ 96 6 then a4 else σ 5 p := fun p => by rw [hu, sw_n (by decide), g1 5 (by decide)]; simp [sw, f1 5 (by decide), fu, hP]
  have E6 : ∀ p, u 6 p = if p = σ 96 6 then a5 else σ 6 p := fun p => by rw [hu, sw_n (by decide), g1 6 (by decide)]; simp [sw, f1 6 (by decide), fu, hP]
  have E101 : ∀ p, u 101 p = if p = σ 96 6 then a1 else σ 101 p := fun p => by rw [hu, sw_n (by decide), g1 101 (by decide)]; simp [sw, f1 101 (by decide), fu, hP]
  have E102 : ∀ p, u 102 p = if p = σ 96 6 then a2 else σ 102 p := fun p => by rw [hu, sw_n (by decide), g1 102 (by decide)]; simp [sw, f1 102 (by decide), fu, hP]
  have E103 : ∀ p, u 103 p = if p = σ 96 6 then a3 else σ 103 p := fun p => by rw [hu, sw_n (by decide), g1 103 (by decide)]; simp [sw, f1 103 (by decide), fu, hP]
  have E104 : ∀ p, u 104 p = if p = σ 96 6 then a4 else σ 104 p := fun p => by rw [hu, sw_n (by decide), g1 104 (by decide)]; simp [sw, f1 104 (by decide), fu, hP]
  have E105 : ∀ p, u 105 p = if p = σ 96 6 then a5 else σ 105 p := fun p => by rw [hu, sw_n (by decide), g1 105 (by decide)]; simp [sw, f1 105 (by decide), fu, hP]
  have E8 : ∀ p, u 8 p = if p = 2 * σ 96 6 + 1 then a7 else if p = 2 * σ 96 6 then a6 else σ 8 p := fun p => by rw [hu, sw_n (by decide), g1 8 (by decide)]; simp [sw, f1 8 (by decide), fu, hP]
  have E106 : ∀ p, u 106 p = if p = 2 * σ 96 6 + 1 then a7 else if p = 2 * σ 96 6 then a6 else σ 106 p := fun p => by rw [hu, sw_n (by decide), g1 106 (by decide)]; simp [sw, f1 106 (by decide), fu, hP]
  have E7 : ∀ p, u 7 p = σ 7 p := fun p => by rw [hu, sw_n (by decide), g1 7 (by decide)]; simp [sw, f1 7 (by decide), fu, hP]
  have E9 : ∀ p, u 9 p = σ 9 p := fun p => by rw [hu, sw_n (by decide), g1 9 (by decide)]; simp [sw, f1 9 (by decide), fu, hP]
  have E10 : ∀ p, u 10 p = σ 10 p := fun p => by rw [hu, sw_n (by decide), g1 10 (by decide)]; simp [sw, f1 10 (by decide), fu, hP]
  have E11 : ∀ p, u 11 p = σ 11 p := fun p => by rw [hu, sw_n (by decide), g1 11 (by decide)]; simp [sw, f1 11 (by decide), fu, hP]
  have E12 : ∀ p, u 12 p = σ 12 p := fun p => by rw [hu, sw_n (by decide), g1 12 (by decide)]; simp [sw, f1 12 (by decide), fu, hP]
  have E107 : ∀ p, u 107 p = σ 107 p := fun p => by rw [hu, sw_n (by decide), g1 107 (by decide)]; simp [sw, f1 107 (by decide), fu, hP]
  have E108 : ∀ p, u 108 p = σ 108 p := fun p => by rw [hu, sw_n (by decide), g1 108 (by decide)]; simp [sw, f1 108 (by decide), fu, hP]
  have E109 : ∀ p, u 109 p = σ 109 p := fun p => by rw [hu, sw_n (by decide), g1 109 (by decide)]; simp [sw, f1 109 (by decide), fu, hP]
  have E110 : ∀ p, u 110 p = σ 110 p := fun p => by rw [hu, sw_n (by decide), g1 110 (by decide)]; simp [sw, f1 110 (by decide), fu, hP]
  have E111 : ∀ p, u 111 p = σ 111 p := fun p => by rw [hu, sw_n (by decide), g1 111 (by decide)]; simp [sw, f1 111 (by decide), fu, hP]
  have E1 : ∀ p, u 1 p = if p = 1 then σ 96 6 + 1 else if p = 3 then σ 1 3 + 1 else σ 1 p := fun p => by rw [hu, sw_n (by decide), g1 1 (by decide)]; simp [sw, f1 1 (by decide), fu, hP]
  have E96 : ∀ p, u 96 p = if p = 6 then σ 96 6 + 1 else if p = 0 then 0 else σ 96 p := fun p => by rw [hu, sw_s]; simp [sw, fu]
  have E64 : ∀ j, u 64 j = if 120 * σ 96 6 ≤ j ∧ j < 120 * σ 96 6 + 60 then 6000 else if 120 * σ 96 6 + 60 ≤ j ∧ j < 120 * σ 96 6 + 120 then 3000 else σ 64 j := fun j => by
    rw [hu, sw_n (by decide), g1 64 (by decide)]
    simp only [sw_n (show (64 : Nat) ≠ 106 by decide), sw_n (show (64 : Nat) ≠ 105 by decide), sw_n (show (64 : Nat) ≠ 104 by decide), sw_n (show (64 : Nat) ≠ 103 by decide), sw_n (show (64 : Nat) ≠ 102 by decide), sw_n (show (64 : Nat) ≠ 101 by decide), sw_n (show (64 : Nat) ≠ 96 by decide), f2, hP]
    simp [sw]
  have E120 : ∀ j, u 120 j = if 60 * σ 96 6 ≤ j ∧ j < 60 * σ 96 6 + a3 then 6000 else if 1200 + 60 * σ 96 6 ≤ j ∧ j < 1200 + 60 * σ 96 6 + a3 then 3000 else σ 120 j := fun j => by
    rw [hu, sw_n (by decide), g2 j]
    simp [sw, fu, f1 120 (by decide)]
  refine ⟨?_, ⟨⟨⟨?_, ?_, ?_, ?_, ?_⟩, ?_, Or.inl ?_⟩, ?_, ?_⟩, ?_⟩
  · simp [sw, fu, hP]
  · unfold Nn
    simp only [E1, E96]
    simp
    omega
  · intro p p0 p1
    have p1' : p < σ 96 6 + 1 := by simpa [E96] using p1
    unfold Np
    simp only [E2, E3, E4, E5, E6, E101, E102, E103, E104, E105, E96]
    by_cases e : p = σ 96 6
    · simp [e]
      omega
    · have := hp p p0 (by omega)
      unfold Np at this
      simpa [e] using this
  · intro p p0 p1
    have := hb p p0 p1
    unfold Nb at *
    rw [E7, E108]
    exact this
  · intro p p0 p1
    have := hw p p0 p1
    unfold Nv at *
    rw [E8, E9, E106, E107]
    by_cases e : p = 2 * σ 96 6 + 1
    · simp only [e, if_true]
      rw [e] at this
      exact ⟨trivial, q7, this.2.2⟩
    · by_cases e2 : p = 2 * σ 96 6
      · simp only [e2, if_true]
        rw [if_neg (by omega)]
        rw [e2] at this
        exact ⟨trivial, q6, this.2.2⟩
      · rw [if_neg e, if_neg e2, if_neg e, if_neg e2]
        exact this
  · intro p p0 p1
    have := hh p p0 (by simpa [E96] using p1)
    unfold Nh at *
    rw [E10, E11, E12, E109, E110, E111, E96]
    simpa using this
  · rw [E1]
    simp <;> omega
  · rw [E1]
    simp <;> omega
  · intro p p0 p1 k k0 k1
    have p1' : p < σ 96 6 + 1 := by simpa [E96] using p1
    simp only [E64, E120]
    rw [E103] at k1
    by_cases e : p = σ 96 6
    · rw [if_pos e] at k1
      rw [if_pos (by omega), if_pos (by omega), if_neg (by omega), if_pos (by omega), if_neg (by omega), if_pos (by omega)]
      omega
    · rw [if_neg e] at k1
      have hq := hp p p0 (by omega)
      unfold Np at hq
      have := hU p p0 (by omega) k k0 k1
      rw [if_neg (by omega), if_neg (by omega), if_neg (by omega), if_neg (by omega), if_neg (by omega), if_neg (by omega), if_neg (by omega), if_neg (by omega)]
      exact this
  · intro j hj
    rw [E120, if_neg (by omega), if_neg (by omega)]
  · rw [hu]
    refine Fg_t (s := t) ?_ ?_
    · refine Fg_t (Fg_t ?_ (Fg_F (Fr_s f1 (by decide)))) (Fg_t ?_ (Fg_F (Fr_s g1 (by decide))))
      · exact Fg_w (Fg_w (Fg_f (Fg_f (Fg_w (Fg_w (Fg_w (Fg_w (Fg_w Fg_r (by decide)) (by decide)) (by decide)) (by decide)) (by decide)) (by decide)) (by decide)) (by decide)) (by decide)
      · rw [← f96]
        exact Fg_w (Fg_w (Fg_w (Fg_w (Fg_w (Fg_w (Fg_w (Fg_f Fg_r (by decide)) (by decide)) (by decide)) (by decide)) (by decide)) (by decide)) (by decide)) (by decide)
    · rw [← g1 96 (by decide)]
      exact Fg_f Fg_r (by decide)
end
