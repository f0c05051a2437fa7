section
/-! the net -/
def Np (σ : aW) (p : Int) : Prop := σ 2 p = σ 101 p ∧ σ 3 p = σ 102 p ∧ σ 4 p = σ 103 p ∧ σ 5 p = σ 104 p ∧ σ 6 p = σ 105 p ∧ 0 ≤ σ 101 p ∧ σ 101 p < σ 96 5 ∧ 0 ≤ σ 102 p ∧ σ 102 p < σ 96 5 ∧ σ 101 p ≠ σ 102 p ∧ 4 ≤ σ 103 p ∧ σ 103 p ≤ 60 ∧ 1 ≤ σ 104 p ∧ σ 104 p ≤ σ 103 p ∧ 0 ≤ σ 105 p ∧ σ 105 p ≤ 200
def Nb (σ : aW) (p : Int) : Prop := σ 7 p = σ 108 p ∧ (σ 108 p = 0 ∨ σ 108 p = 1)
def Nv (σ : aW) (v : Int) : Prop := σ 8 v = σ 106 v ∧ (σ 106 v = 0 ∨ σ 106 v = 1) ∧ σ 9 v = σ 107 v ∧ (σ 107 v = 0 ∨ σ 107 v = 1)
def Nh (σ : aW) (h : Int) : Prop := σ 10 h = σ 109 h ∧ σ 11 h = σ 110 h ∧ σ 12 h = σ 111 h ∧ 1 ≤ σ 109 h ∧ σ 109 h < σ 96 5 ∧ 1 ≤ σ 110 h ∧ σ 110 h ≤ 50 ∧ 0 ≤ σ 111 h ∧ σ 111 h ≤ 99
def Nn (σ : aW) : Prop := σ 1 0 = σ 96 5 ∧ 1 ≤ σ 96 5 ∧ σ 96 5 ≤ 12 ∧ σ 1 1 = σ 96 6 ∧ 0 ≤ σ 96 6 ∧ σ 96 6 ≤ 20 ∧ σ 1 2 = σ 96 7 ∧ 0 ≤ σ 96 7 ∧ σ 96 7 ≤ 16
def INet (σ : aW) : Prop := Nn σ ∧ (∀ p, 0 ≤ p → p < σ 96 6 → Np σ p) ∧ (∀ p, 0 ≤ p → p < 20 → Nb σ p) ∧ (∀ v, 0 ≤ v → v < 40 → Nv σ v) ∧ (∀ h, 0 ≤ h → h < σ 96 7 → Nh σ h)
/-- the net is well, and it is another one only with another version -/
def IN1 (σ t : aW) : Prop := INet t ∧ t 1 3 ≤ σ 1 3 + 45 ∧ (σ 1 3 < t 1 3 ∨ Fg [] [(96, 0)] σ t)
/-- the version has room -/
def Vr (σ : aW) : Prop := 0 ≤ σ 1 3 ∧ σ 1 3 < 2000000000
theorem IN1_r {σ : aW} (h : INet σ) : IN1 σ (sw σ 96 (fu (σ 96) 0 0)) := ⟨h, by simp [sw]; omega, Or.inr (Fg_f Fg_r (by decide))⟩
theorem t_terms {σ : aW} {a1 a2 : Int} (hI : σ 56 0 = σ 96 10 ∧ σ 56 1 = σ 96 11 ∧ 0 ≤ σ 96 10 ∧ σ 96 10 ≤ 20 ∧ 15 ≤ σ 96 11 ∧ σ 96 11 ≤ 50) : aEv 59 true 107 [vr 0, vi a1, vi a2] σ (fun r s => aEv 59 true 161 [vr 96, vi a1, vi a2] s (Tp (fun σ => σ 56 0 = σ 96 10 ∧ σ 56 1 = σ 96 11 ∧ 0 ≤ σ 96 10 ∧ σ 96 10 ≤ 20 ∧ 15 ≤ σ 96 11 ∧ σ 96 11 ≤ 50) [] [(56, 0), (56, 1), (96, 0), (96, 10), (96, 11)] σ r)) := by
  refine e107 (b107_0 ?_)
  (repeat' first | with_reducible apply And.intro | with_reducible intro _)
  all_goals (refine e161 (b161_0 ?_); (repeat' first | with_reducible apply And.intro | with_reducible intro _))
  all_goals first | omega | skip
  all_goals refine ⟨rfl, ?_, ?_⟩
  all_goals first | exact hI | exact Fg_f Fg_r (by decide) | skip
  · simp [sw, fu]
    omega
  · exact Fg_f (Fg_f (Fg_f (Fg_f (Fg_f Fg_r (by decide)) (by decide)) (by decide)) (by decide)) (by decide)
theorem t_node {σ : aW} (hI : INet σ) (hv : Vr σ) : aEv 59 true 108 [vr 0] σ (fun r s => aEv 59 true 162 [vr 96] s (Tp (IN1 σ) [] [(1, 0), (1, 3), (96, 0), (96, 5)] σ r)) := by
  obtain ⟨hn, hp, hb, hw, hh⟩ := hI
  have hn' := hn
  unfold Nn at hn'
  unfold Vr at hv
  refine e108 (b108_0 ?_)
  (repeat' first | with_reducible apply And.intro | with_reducible intro _)
  all_goals first | omega | skip
  · refine e162 (b162_0 ?_)
    (repeat' first | with_reducible apply And.intro | with_reducible intro _)
    all_goals first | omega | (simp only [sw_n (show (96 : Nat) ≠ 1 by decide)] at *; omega) | skip
    simp only [sw_n (show (96 : Nat) ≠ 1 by decide)]
    refine ⟨?_, ⟨⟨?_, ?_, ?_, ?_, ?_⟩, ?_, Or.inl ?_⟩, ?_⟩
    · rw [hn'.1]
    · unfold Nn
      simp [sw, fu]
      omega
    · intro p h0 h1
      have := hp p h0 (by simpa [sw, fu] using h1)
      unfold Np at *
      simp [sw, fu]
      omega
    · exact hb
    · exact hw
    · intro p h0 h1
      have := hh p h0 (by simpa [sw, fu] using h1)
      unfold Nh at *
      simp [sw, fu]
      omega
    · simp [sw, fu] <;> omega
    · simp [sw, fu] <;> omega
    · exact Fg_f (Fg_f (Fg_f (Fg_f Fg_r (by decide)) (by decide)) (by decide)) (by decide)
  · refine e162 (b162_0 ?_)
    (repeat' first | with_reducible apply And.intro | with_reducible intro _)
    all_goals first | omega | exact ⟨rfl, IN1_r ⟨hn, hp, hb, hw, hh⟩, Fg_f Fg_r (by decide)⟩
theorem t_house {σ : aW} {a1 a2 a3 : Int} (hI : INet σ) (hv : Vr σ) : aEv 59 true 110 [vr 0, vi a1, vi a2, vi a3] σ (fun r s => aEv 59 true 168 [vr 96, vi a1, vi a2, vi a3] s (Tp (IN1 σ) [10, 11, 12, 109, 110, 111] [(1, 2), (1, 3), (96, 0), (96, 7)] σ r)) := by
  have hr : ∀ r : Option aV, Tp (IN1 σ) [10, 11, 12, 109, 110, 111] [(1, 2), (1, 3), (96, 0), (96, 7)] σ r r (sw σ 96 (fu (σ 96) 0 0)) := fun r => ⟨rfl, IN1_r hI, Fg_f Fg_r (by decide)⟩
  obtain ⟨hn, hp, hb, hw, hh⟩ := hI
  have hn' := hn
  unfold Nn at hn'
  unfold Vr at hv
  refine e110 (b110_0 ?_)
  (repeat' first | with_reducible apply And.intro | with_reducible intro _)
  all_goals first | omega | skip
  · refine e36 (b36_0 ⟨by omega, by omega, by omega, by omega, by omega, _, rfl, b110_38_1 ?_⟩)
    refine e168 (b168_0 ?_)
    simp only [sw_n (show (96 : Nat) ≠ 1 by decide), sw_n (show (96 : Nat) ≠ 10 by decide), sw_n (show (96 : Nat) ≠ 11 by decide), sw_n (show (96 : Nat) ≠ 12 by decide)]
    (repeat' first | with_reducible apply And.intro | with_reducible intro _)
    all_goals first | omega | skip
    refine ⟨?_, ⟨⟨?_, ?_, ?_, ?_, ?_⟩, ?_, Or.inl ?_⟩, ?_⟩
    · rw [hn'.2.2.2.2.2.2.1]
      congr 2
      omega
    · unfold Nn
      simp [sw, fu]
      omega
    · intro p h0 h1
      exact hp p h0 (by simpa [sw, fu] using h1)
    · exact hb
    · exact hw
    · intro h h0 h1
      have h1' : h < σ 96 7 + 1 := by simpa [sw, fu] using h1
      unfold Nh
      simp only [sw, fu, Nat.reduceEqDiff, if_true, if_false, Int.reduceEq]
      rw [hn'.2.2.2.2.2.2.1]
      by_cases e : h = σ 96 7
      · simp [e]
        omega
      · have := hh h h0 (by omega)
        unfold Nh at this
        simpa [e] using this
    · simp [sw, fu] <;> omega
    · simp [sw, fu] <;> omega
    · exact Fg_f (Fg_w (Fg_w (Fg_w (Fg_f (Fg_f (Fg_f (Fg_w (Fg_w (Fg_w Fg_r (by decide)) (by decide)) (by decide)) (by decide)) (by decide)) (by decide)) (by decide)) (by decide)) (by decide)) (by decide)
  · refine e168 (b168_0 ?_)
    (repeat' first | with_reducible apply And.intro | with_reducible intro _)
    all_goals first | omega | exact hr _
  · refine e168 (b168_0 ?_)
    (repeat' first | with_reducible apply And.intro | with_reducible intro _)
    all_goals first | omega | exact hr _
theorem t_burst {σ : aW} {a1 a2 : Int} (q2 : a2 = 0 ∨ a2 = 1) (hI : INet σ) (hv : Vr σ) : aEv 59 true 112 [vr 0, vi a1, vi a2] σ (fun r s => aEv 59 true 170 [vr 96, vi a1, vi a2] s (Tp (IN1 σ) [7, 108] [(1, 3), (96, 0)] σ r)) := by
  have hr : ∀ r : Option aV, Tp (IN1 σ) [7, 108] [(1, 3), (96, 0)] σ r r (sw σ 96 (fu (σ 96) 0 0)) := fun r => ⟨rfl, IN1_r hI, Fg_f Fg_r (by decide)⟩
  obtain ⟨hn, hp, hb, hw, hh⟩ := hI
  have hn' := hn
  unfold Nn at hn'
  unfold Vr at hv
  refine e112 (b112_0 ?_)
  (repeat' first | with_reducible apply And.intro | with_reducible intro _)
  all_goals first | omega | skip
  · refine e170 (b170_0 ?_)
    (repeat' first | with_reducible apply And.intro | with_reducible intro _)
    all_goals first | omega | exact hr _
  · rename_i h1 h2
    have hb1 := hb a1 (by omega) (by omega)
    unfold Nb at hb1
    refine e170 (b170_0 ?_)
    simp only [sw_n (show (96 : Nat) ≠ 1 by decide), sw_n (show (96 : Nat) ≠ 7 by decide), sw_n (show (108 : Nat) ≠ 1 by decide), sw_n (show (108 : Nat) ≠ 7 by decide)]
    (repeat' first | with_reducible apply And.intro | with_reducible intro _)
    all_goals first | omega | skip
    refine ⟨rfl, ⟨⟨hn, hp, ?_, hw, hh⟩, ?_, Or.inl ?_⟩, ?_⟩
    · intro p h0 h1
      have := hb p h0 h1
      unfold Nb at *
      by_cases e : p = a1
      · simp [sw, fu, e] <;> omega
      · simpa [sw, fu, e] using this
    · simp [sw, fu] <;> omega
    · simp [sw, fu] <;> omega
    · exact Fg_w (Fg_f (Fg_f (Fg_w Fg_r (by decide)) (by decide)) (by decide)) (by decide)
  · rename_i h1 h2
    have hb1 := hb a1 (by omega) (by omega)
    unfold Nb at hb1
    refine e170 (b170_0 ?_)
    (repeat' first | with_reducible apply And.intro | with_reducible intro _)
    all_goals first | omega | exact hr _
theorem c38 {d : Nat} {Q : aQ} {σ : aW} {a1 a2 : Int} (h1 : 0 ≤ a1 ∧ a1 < 40) (h2 : a2 = 0 ∨ a2 = 1) (hv : Vr σ) (k0 : (σ 8 a1 = 0 ∨ σ 9 a1 = a2) → Q (some (vi 0)) σ) (k1 : ¬ σ 8 a1 = 0 → ¬ σ 9 a1 = a2 → Q (some (vi 1)) (sw (sw σ 9 (fu (σ 9) a1 a2)) 1 (fu (σ 1) 3 (σ 1 3 + 1)))) : aEv (d + 0) true 38 [vr 1, vi a1, vi a2] σ Q := by
  unfold Vr at hv
  exact e38 (b38_0 ⟨h1, fun h => k0 (Or.inl h), fun h => ⟨h1, fun g => ⟨h2, h1, by omega, k1 h g⟩, fun g => k0 (Or.inr g)⟩⟩)
theorem t_valve {σ : aW} {a1 a2 a3 : Int} (q3 : a3 = 0 ∨ a3 = 1) (hI : INet σ) (hv : Vr σ) : aEv 59 true 111 [vr 0, vi a1, vi a2, vi a3] σ (fun r s => aEv 59 true 169 [vr 96, vi a1, vi a2, vi a3] s (Tp (IN1 σ) [9, 107] [(1, 3), (96, 0)] σ r)) := by
  have hr : ∀ r : Option aV, Tp (IN1 σ) [9, 107] [(1, 3), (96, 0)] σ r r (sw σ 96 (fu (σ 96) 0 0)) := fun r => ⟨rfl, IN1_r hI, Fg_f Fg_r (by decide)⟩
  obtain ⟨hn, hp, hb, hw, hh⟩ := hI
  have hn' := hn
  unfold Nn at hn'
  have hv' := hv
  unfold Vr at hv'
  refine e111 (b111_0 ?_)
  (repeat' first | with_reducible apply And.intro | with_reducible intro _)
  all_goals first | omega | skip
  · refine e169 (b169_0 ?_)
    (repeat' first | with_reducible apply And.intro | with_reducible intro _)
    all_goals first | omega | exact hr _
  · refine e169 (b169_0 ?_)
    (repeat' first | with_reducible apply And.intro | with_reducible intro _)
    all_goals first | omega | exact hr _
  · rename_i h1 h2
    have hw1 := hw (2 * a1 + a2) (by omega) (by omega)
    unfold Nv at hw1
    refine c38 (d := 58) (by omega) q3 hv (fun h3 => ⟨_, rfl, b111_34_1 ?_⟩) (fun h3 h4 => ⟨_, rfl, b111_34_1 ?_⟩)
    · rw [show (some (vi (bi (¬ (0 : Int) = 0))) : Option aV) = some (vi 0) from rfl]
      refine e169 (b169_0 ?_)
      (repeat' first | with_reducible apply And.intro | with_reducible intro _)
      all_goals first | omega | exact hr _
    · rw [show (some (vi (bi (¬ (1 : Int) = 0))) : Option aV) = some (vi 1) from rfl]
      refine e169 (b169_0 ?_)
      simp only [sw_n (show (96 : Nat) ≠ 1 by decide), sw_n (show (96 : Nat) ≠ 9 by decide), sw_n (show (106 : Nat) ≠ 1 by decide), sw_n (show (106 : Nat) ≠ 9 by decide), sw_n (show (107 : Nat) ≠ 1 by decide), sw_n (show (107 : Nat) ≠ 9 by decide)]
      (repeat' first | with_reducible apply And.intro | with_reducible intro _)
      all_goals first | omega | skip
      refine ⟨rfl, ⟨⟨hn, hp, hb, ?_, hh⟩, ?_, Or.inl ?_⟩, ?_⟩
      · intro p h0 h1
        have := hw p h0 h1
        unfold Nv at *
        by_cases e : p = 2 * a1 + a2
        · simp [sw, fu, e] <;> omega
        · simpa [sw, fu, e] using this
      · simp [sw, fu] <;> omega
      · simp [sw, fu] <;> omega
      · exact Fg_w (Fg_f (Fg_f (Fg_w Fg_r (by decide)) (by decide)) (by decide)) (by decide)
end
