section
/-! rows that are taken: air, mill -/
theorem c55 {d : Nat} {Q : aQ} {σ : aW} {a1 a2 a4 : Int} (h1 : 0 ≤ a1) (h2 : a1 < 4) (h3 : σ 86 a1 ≤ 60) (k1 : (∀ j, 0 ≤ j → j < σ 86 a1 → a2 ≤ σ 88 (60 * a1 + j) ∧ σ 88 (60 * a1 + j) ≤ a4) → Q (some (vi 1)) σ) (k0 : ∀ j, 0 ≤ j → j < σ 86 a1 → ¬ (a2 ≤ σ 88 (60 * a1 + j) ∧ σ 88 (60 * a1 + j) ≤ a4) → Q (some (vi 0)) σ) : aEv (d + 1) true 55 [vr 85, vi a1, vl a2, vl a4] σ Q := by
  refine e55 (b55_0 ?_)
  refine for_up (X := fun i s => Yx (d + 1) cd55 3 Q 3 [vr 85, vi a1, vl a2, vt, vl a4, vt, vi i] [] s) (I := fun i s => 0 ≤ i ∧ s = σ ∧ ∀ j, 0 ≤ j → j < i → j < σ 86 a1 → a2 ≤ σ 88 (60 * a1 + j) ∧ σ 88 (60 * a1 + j) ≤ a4) (N := σ 86 a1) ?_ ?_ 0 _ ⟨Int.le_refl _, rfl, fun j z w => by omega⟩
  · rintro i s hi ⟨g1, rfl, g6⟩ K
    refine b55_3 ⟨by omega, fun z => by omega, fun _ => ⟨by omega, fun c => ⟨by omega, K _ ⟨by omega, rfl, ?_⟩⟩, fun c => k0 i g1 hi (by rw [Int.mul_comm 60 a1]; exact c)⟩⟩
    intro j j0 j1 j2
    by_cases e : j = i
    · rw [e, Int.mul_comm 60 a1]
      exact c
    · exact g6 j j0 (by omega) j2
  · rintro i s hi ⟨g1, rfl, g6⟩
    exact b55_3 ⟨by omega, fun _ => k1 (fun j j0 j1 => g6 j j0 (by omega) j1), fun z => absurd hi z⟩
theorem c160 {d : Nat} {Q : aQ} {σ : aW} {a1 a2 a4 : Int} (h1 : 0 ≤ a1) (h2 : a1 < 4) (h3 : σ 98 a1 ≤ 60) (k1 : (∀ j, 0 ≤ j → j < σ 98 a1 → a2 ≤ σ 99 (60 * a1 + j) ∧ σ 99 (60 * a1 + j) ≤ a4) → Q (some (vi 1)) σ) (k0 : ∀ j, 0 ≤ j → j < σ 98 a1 → ¬ (a2 ≤ σ 99 (60 * a1 + j) ∧ σ 99 (60 * a1 + j) ≤ a4) → Q (some (vi 0)) σ) : aEv (d + 1) true 160 [vr 96, vi a1, vl a2, vl a4] σ Q := by
  refine e160 (b160_0 ?_)
  refine for_up (X := fun i s => Yx (d + 1) cd160 3 Q 3 [vr 96, vi a1, vl a2, vt, vl a4, vt, vi i] [] s) (I := fun i s => 0 ≤ i ∧ s = σ ∧ ∀ j, 0 ≤ j → j < i → j < σ 98 a1 → a2 ≤ σ 99 (60 * a1 + j) ∧ σ 99 (60 * a1 + j) ≤ a4) (N := σ 98 a1) ?_ ?_ 0 _ ⟨Int.le_refl _, rfl, fun j z w => by omega⟩
  · rintro i s hi ⟨g1, rfl, g6⟩ K
    refine b160_3 ⟨by omega, fun z => by omega, fun _ => ⟨by omega, by omega, by omega, fun c => ⟨by omega, K _ ⟨by omega, rfl, ?_⟩⟩, fun c => k0 i g1 hi c⟩⟩
    intro j j0 j1 j2
    by_cases e : j = i
    · rw [e]
      exact c
    · exact g6 j j0 (by omega) j2
  · rintro i s hi ⟨g1, rfl, g6⟩
    exact b160_3 ⟨by omega, fun _ => k1 (fun j j0 j1 => g6 j j0 (by omega) j1), fun z => absurd hi z⟩
theorem c90 {d : Nat} {Q : aQ} {σ : aW} {a2 a3 : Int} (h1 : 0 ≤ a2) (h2 : a2 < 4) (h3 : 0 ≤ σ 86 a2) (h4 : σ 86 a2 ≤ 60) (h5 : ∀ j, 0 ≤ j → j < σ 86 a2 → r32 (σ 88 (60 * a2 + j))) (k : ∀ s, Fg [44] [(43, 1), (43, 2)] σ s → s 43 1 = σ 86 a2 → s 43 2 = a3 → (∀ j, 0 ≤ j → j < σ 86 a2 → s 44 j = σ 88 (60 * a2 + j)) → Q (some (vi (σ 86 a2))) s) : aEv (d + 1) true 90 [vr 43, vr 85, vi a2, vi a3] σ Q := by
  refine e90 (b90_0 ⟨by omega, ?_⟩)
  refine for_up (X := fun i s => Yx (d + 1) cd90 1 Q 18 [vr 43, vr 85, vi a2, vt, vi i] [] s) (I := fun i s => 0 ≤ i ∧ i ≤ σ 86 a2 ∧ Fg [44] [(43, 1), (43, 2)] σ s ∧ s 43 1 = σ 86 a2 ∧ s 43 2 = a3 ∧ ∀ j, 0 ≤ j → j < i → s 44 j = σ 88 (60 * a2 + j)) (N := σ 86 a2) ?_ ?_ 0 _ ⟨Int.le_refl _, h3, Fg_f (Fg_f Fg_r (by decide)) (by decide), by simp [sw, fu], by simp [sw, fu], fun j z w => by omega⟩
  · rintro i s hi ⟨g1, g2, g3, g4, g5, g6⟩ K
    have e88 : s 88 (a2 * 60 + i) = σ 88 (60 * a2 + i) := by
      rw [g3 88 _ (by decide) (by simp), Int.mul_comm 60 a2]
    have := h5 i g1 hi
    unfold r32 at this
    refine b90_18 ?_
    rw [g4, e88]
    refine ⟨fun z => by omega, fun _ => ⟨by omega, this, by omega, by omega, K _ ⟨by omega, by omega, Fg_w g3 (by decide), ?_, ?_, ?_⟩⟩⟩
    · simpa [sw] using g4
    · simpa [sw] using g5
    · intro j j0 j1
      rw [sw_s]
      by_cases e : j = i
      · rw [e, fu_s]
      · rw [fu_n e, g6 j j0 (by omega)]
  · rintro i s hi ⟨g1, g2, g3, g4, g5, g6⟩
    refine b90_18 ?_
    rw [g4]
    exact ⟨fun _ => k s g3 g4 g5 (fun j j0 j1 => g6 j j0 (by omega)), fun z => absurd hi z⟩
theorem c90o {d : Nat} {Q : aQ} {σ : aW} {a2 a3 : Int} (h1 : 0 ≤ a2) (h2 : a2 < 4) (h3 : 0 ≤ σ 86 a2) (h4 : σ 86 a2 ≤ 60) (h5 : ∀ j, 0 ≤ j → j < σ 86 a2 → r32 (σ 88 (60 * a2 + j))) (k : ∀ s, Fg [47] [(46, 1), (46, 2)] σ s → s 46 1 = σ 86 a2 → s 46 2 = a3 → (∀ j, 0 ≤ j → j < σ 86 a2 → s 47 j = σ 88 (60 * a2 + j)) → Q (some (vi (σ 86 a2))) s) : aEv (d + 1) true 90 [vr 46, vr 85, vi a2, vi a3] σ Q := by
  refine e90o (b90o_0 ⟨by omega, ?_⟩)
  refine for_up (X := fun i s => Yx (d + 1) cd90 1 Q 18 [vr 46, vr 85, vi a2, vt, vi i] [] s) (I := fun i s => 0 ≤ i ∧ i ≤ σ 86 a2 ∧ Fg [47] [(46, 1), (46, 2)] σ s ∧ s 46 1 = σ 86 a2 ∧ s 46 2 = a3 ∧ ∀ j, 0 ≤ j → j < i → s 47 j = σ 88 (60 * a2 + j)) (N := σ 86 a2) ?_ ?_ 0 _ ⟨Int.le_refl _, h3, Fg_f (Fg_f Fg_r (by decide)) (by decide), by simp [sw, fu], by simp [sw, fu], fun j z w => by omega⟩
  · rintro i s hi ⟨g1, g2, g3, g4, g5, g6⟩ K
    have e88 : s 88 (a2 * 60 + i) = σ 88 (60 * a2 + i) := by
      rw [g3 88 _ (by decide) (by simp), Int.mul_comm 60 a2]
    have := h5 i g1 hi
    unfold r32 at this
    refine b90o_18 ?_
    rw [g4, e88]
    refine ⟨fun z => by omega, fun _ => ⟨by omega, this, by omega, by omega, K _ ⟨by omega, by omega, Fg_w g3 (by decide), ?_, ?_, ?_⟩⟩⟩
    · simpa [sw] using g4
    · simpa [sw] using g5
    · intro j j0 j1
      rw [sw_s]
      by_cases e : j = i
      · rw [e, fu_s]
      · rw [fu_n e, g6 j j0 (by omega)]
  · rintro i s hi ⟨g1, g2, g3, g4, g5, g6⟩
    refine b90o_18 ?_
    rw [g4]
    exact ⟨fun _ => k s g3 g4 g5 (fun j j0 j1 => g6 j j0 (by omega)), fun z => absurd hi z⟩
/-- air as the hours read it -/
def IAr (σ : aW) : Prop := 0 ≤ σ 43 1 ∧ σ 43 1 ≤ 60 ∧ 0 ≤ σ 43 2 ∧ σ 43 2 ≤ σ 120 2532 ∧ ∀ h, σ 120 2532 ≤ h → h < 5050 → σ 114 h = (if σ 43 1 = 0 then 0 else σ 44 (min h (σ 43 2 + σ 43 1 - 1) - σ 43 2)) ∧ -40 ≤ σ 114 h ∧ σ 114 h ≤ 40
theorem c173 {d : Nat} {Q : aQ} {σ : aW} {a1 : Int} (h1 : 0 ≤ a1) (h2 : a1 < 4) (h3 : 1 ≤ σ 98 a1) (h4 : σ 98 a1 ≤ 60) (h6 : 0 ≤ σ 120 2532 ∧ σ 120 2532 ≤ 5048) (h5 : ∀ j, 0 ≤ j → j < σ 98 a1 → r32 (σ 99 (60 * a1 + j))) (k : ∀ s, Fr [114] σ s → (∀ h, σ 120 2532 ≤ h → h < 5050 → s 114 h = σ 99 (60 * a1 + min (σ 98 a1 - 1) (h - σ 120 2532))) → Q (some (vi (σ 98 a1))) s) : Yx (d + 2) cd173 1 Q 61 [vr 96, vi a1, vi (σ 120 2532)] [] σ := by
  refine for_up (X := fun i s => Yx (d + 2) cd173 1 Q 61 [vr 96, vi a1, vi i] [] s) (I := fun i s => σ 120 2532 ≤ i ∧ i ≤ 5050 ∧ Fr [114] σ s ∧ ∀ h, σ 120 2532 ≤ h → h < i → s 114 h = σ 99 (60 * a1 + min (σ 98 a1 - 1) (h - σ 120 2532))) (N := 5050) ?_ ?_ _ _ ⟨Int.le_refl _, by omega, Fr_r, fun j z w => by omega⟩
  · rintro i s hi ⟨g1, g2, g3, g6⟩ K
    have := h5 (min (σ 98 a1 - 1) (i - σ 120 2532)) (by omega) (by omega)
    unfold r32 at this
    refine b173_61 ?_
    rw [g3 98 (by decide), g3 120 (by decide), g3 99 (by decide)]
    refine ⟨fun z => by omega, fun _ => ⟨by omega, by omega, by omega, by omega, by omega, by omega, by omega, this, by omega, by omega, K _ ⟨by omega, by omega, Fr_w g3 (by decide), ?_⟩⟩⟩
    intro j j0 j1
    rw [sw_s]
    by_cases e : j = i
    · rw [e, fu_s]
    · rw [fu_n e, g6 j j0 (by omega)]
  · rintro i s hi ⟨g1, g2, g3, g6⟩
    refine b173_61 ?_
    rw [g3 98 (by decide)]
    exact ⟨fun _ => ⟨by omega, k s g3 (fun j j0 j1 => g6 j j0 (by omega))⟩, fun z => absurd hi z⟩
theorem t_air {σ : aW} {a1 : Int} (hP : IPl σ) (hS : ISt 63 σ) (hA : IAr σ) : aEv 59 true 113 [vr 0, vi a1] σ (fun r s => aEv 59 true 173 [vr 96, vi a1] s (Tp IAr [44, 114] [(43, 1), (43, 2), (96, 0)] σ r)) := by
  have hr : ∀ r : Option aV, Tp IAr [44, 114] [(43, 1), (43, 2), (96, 0)] σ r r (sw σ 96 (fu (σ 96) 0 0)) := fun r => ⟨rfl, hA, Fg_f Fg_r (by decide)⟩
  have hc := hS.2.1
  unfold Sc at hc
  refine e113 (b113_0 ?_)
  by_cases h1 : 0 ≤ a1 ∧ a1 ≤ 3
  · have hp := hP a1 (by omega) (by omega)
    by_cases h2 : σ 86 a1 = -1
    · refine ⟨fun z => ?_, fun _ => ?_⟩
      · simp [h1, h2] at z
      · simp only [h1, h2, and_self, if_true]
        refine e173 (b173_0 ?_)
        (repeat' first | with_reducible apply And.intro | with_reducible intro _)
        all_goals first | omega | exact hr _
    · rcases hp with z | ⟨z1, z2, z3, z4, z5, z6, z7⟩
      · exact absurd z.1 h2
      refine ⟨fun _ => ⟨by omega, fun h3 => ?_, fun h3 => ?_⟩, fun z => ?_⟩
      · refine c55 (d := 57) (by omega) (by omega) (by omega) (fun g => ⟨_, rfl, b113_44_1 ⟨fun _ => ?_, fun z => by omega⟩⟩) (fun j j0 j1 g => ⟨_, rfl, b113_44_1 ⟨fun z => absurd rfl z, fun _ => ?_⟩⟩)
        · refine c90 (d := 57) (by omega) (by omega) (by omega) (by omega) (fun j j0 j1 => by have := g j j0 j1; unfold r32; omega) (fun s f1 f2 f3 f4 => ⟨_, rfl, b113_69_1 ?_⟩)
          have f98 : ∀ j, s 98 j = σ 98 j := fun j => f1 98 j (by decide) (by simp)
          have f97 : ∀ j, s 97 j = σ 97 j := fun j => f1 97 j (by decide) (by simp)
          have f99 : ∀ j, s 99 j = σ 99 j := fun j => f1 99 j (by decide) (by simp)
          have f120 : ∀ j, s 120 j = σ 120 j := fun j => f1 120 j (by decide) (by simp)
          refine e173 (b173_0 ?_)
          rw [f98, f97]
          (repeat' first | with_reducible apply And.intro | with_reducible intro _)
          all_goals first | omega | skip
          have g' : ∀ j, 0 ≤ j → j < σ 98 a1 → -40 ≤ σ 99 (60 * a1 + j) ∧ σ 99 (60 * a1 + j) ≤ 40 := fun j j0 j1 => by
            rw [← z7 j j0 j1]
            exact g j j0 (by omega)
          refine c160 (d := 57) (by omega) (by omega) (by simp [sw, f98]; omega) (fun _ => ⟨_, rfl, b173_50_1 ⟨fun _ => ?_, fun z => by omega⟩⟩) (fun j j0 j1 w => ?_)
          · rw [sw_n (show (120 : Nat) ≠ 96 by decide), f120]
            refine ⟨by omega, ?_⟩
            have e120 : (sw s 96 (fu (s 96) 0 0)) 120 2532 = σ 120 2532 := by rw [sw_n (by decide), f120]
            rw [← e120]
            refine c173 (d := 57) (by omega) (by omega) (by simp [sw, f98]; omega) (by simp [sw, f98]; omega) (by rw [e120]; omega) (fun j j0 j1 => ?_) (fun t g1 g2 => ?_)
            · have j1' : j < σ 98 a1 := by simpa [sw, f98] using j1
              have := g' j j0 j1'
              rw [sw_n (by decide), f99]
              unfold r32
              omega
            · have e98 : (sw s 96 (fu (s 96) 0 0)) 98 a1 = σ 98 a1 := by rw [sw_n (by decide), f98]
              rw [e98]
              refine ⟨by rw [z1], ?_, ?_⟩
              · have E1 : t 43 1 = σ 98 a1 := by rw [g1 43 (by decide), sw_n (by decide), f2, z1]
                have E2 : t 43 2 = σ 120 2532 := by rw [g1 43 (by decide), sw_n (by decide), f3]; omega
                have E3 : t 120 2532 = σ 120 2532 := by rw [g1 120 (by decide), e120]
                have E4 : t 44 = s 44 := by rw [g1 44 (by decide), sw_n (by decide)]
                unfold IAr
                rw [E1, E2, E3, E4]
                refine ⟨by omega, by omega, by omega, by omega, fun h q0 q1 => ?_⟩
                have q2 := g2 h (by rw [e120]; exact q0) q1
                rw [e98, e120, sw_n (by decide), f99] at q2
                rw [q2, if_neg (by omega), f4 _ (by omega) (by omega), z7 _ (by omega) (by omega)]
                have := g' (min (σ 98 a1 - 1) (h - σ 120 2532)) (by omega) (by omega)
                refine ⟨?_, this⟩
                congr 1
                omega
              · exact Fg_t (Fg_t (Fg_m f1 (by decide) (by decide)) (Fg_f Fg_r (by decide))) (Fg_F (Fr_s g1 (by decide)))
          · exfalso
            have j1' : j < σ 98 a1 := by simpa [sw, f98] using j1
            apply w
            rw [sw_n (by decide), f99]
            exact g' j j0 j1'
        · refine e173 (b173_0 ?_)
          (repeat' first | with_reducible apply And.intro | with_reducible intro _)
          all_goals first | omega | skip
          refine c160 (d := 57) (by omega) (by omega) (by simp [sw]; omega) (fun w => ?_) (fun i i0 i1 w => ⟨_, rfl, b173_50_1 ⟨fun z => absurd rfl z, fun _ => hr _⟩⟩)
          exfalso
          apply g
          rw [z7 j j0 (by omega)]
          exact w j j0 (by simp [sw]; omega)
      · refine e173 (b173_0 ?_)
        (repeat' first | with_reducible apply And.intro | with_reducible intro _)
        all_goals first | omega | exact hr _
      · simp [h1, h2] at z
  · refine ⟨fun z => ?_, fun _ => ?_⟩
    · simp [h1] at z
    · simp only [h1, if_false]
      refine e173 (b173_0 ?_)
      (repeat' first | with_reducible apply And.intro | with_reducible intro _)
      all_goals first | omega | exact hr _
/-- what the mill gives -/
def IOf (σ : aW) : Prop := 0 ≤ σ 46 1 ∧ σ 46 1 ≤ 60 ∧ 0 ≤ σ 46 2 ∧ σ 46 2 ≤ σ 120 2532 ∧ σ 45 1 = σ 96 14 ∧ 0 ≤ σ 96 14 ∧ σ 96 14 ≤ 1000 ∧ ∀ h, σ 120 2532 ≤ h → h < 5050 → σ 115 h = (if σ 46 1 ≤ h - σ 46 2 then 0 else σ 47 (h - σ 46 2)) ∧ 0 ≤ σ 115 h ∧ σ 115 h ≤ 200000
theorem c176 {d : Nat} {Q : aQ} {σ : aW} {a1 a2 : Int} (h1 : 0 ≤ a1) (h2 : a1 < 4) (h3 : 0 ≤ σ 98 a1) (h4 : σ 98 a1 ≤ 60) (h6 : 0 ≤ σ 120 2532 ∧ σ 120 2532 ≤ 5048) (h5 : ∀ j, 0 ≤ j → j < σ 98 a1 → r32 (σ 99 (60 * a1 + j))) (k : ∀ s, Fr [115] σ s → (∀ h, σ 120 2532 ≤ h → h < 5050 → s 115 h = if σ 98 a1 ≤ h - σ 120 2532 then 0 else σ 99 (60 * a1 + (h - σ 120 2532))) → Q (some (vi (σ 98 a1))) (sw s 96 (fu (s 96) 14 a2))) : Yx (d + 3) cd176 1 Q 49 [vr 96, vi a1, vi a2, vt, vi (σ 120 2532)] [] σ := by
  refine for_up (X := fun i s => Yx (d + 3) cd176 1 Q 49 [vr 96, vi a1, vi a2, vt, vi i] [] s) (I := fun i s => σ 120 2532 ≤ i ∧ i ≤ 5050 ∧ Fr [115] σ s ∧ ∀ h, σ 120 2532 ≤ h → h < i → s 115 h = if σ 98 a1 ≤ h - σ 120 2532 then 0 else σ 99 (60 * a1 + (h - σ 120 2532))) (N := 5050) ?_ ?_ _ _ ⟨Int.le_refl _, by omega, Fr_r, fun j z w => by omega⟩
  · rintro i s hi ⟨g1, g2, g3, g6⟩ K
    have e : 60 * a1 + i - σ 120 2532 = 60 * a1 + (i - σ 120 2532) := by omega
    refine b176_49 ?_
    rw [g3 98 (by decide), g3 120 (by decide), g3 99 (by decide), e]
    refine ⟨fun z => by omega, fun _ => ⟨by omega, by omega, by omega, fun c => ⟨by omega, by omega, K _ ⟨by omega, by omega, Fr_w g3 (by decide), ?_⟩⟩, fun c => ⟨by omega, by omega, by omega, by omega, by omega, h5 (i - σ 120 2532) (by omega) (by omega), by omega, by omega, K _ ⟨by omega, by omega, Fr_w g3 (by decide), ?_⟩⟩⟩⟩
    · intro j j0 j1
      rw [sw_s]
      by_cases e : j = i
      · rw [e, fu_s, if_pos c]
      · rw [fu_n e, g6 j j0 (by omega)]
    · intro j j0 j1
      rw [sw_s]
      by_cases e : j = i
      · rw [e, fu_s, if_neg c]
      · rw [fu_n e, g6 j j0 (by omega)]
  · rintro i s hi ⟨g1, g2, g3, g6⟩
    refine b176_49 ?_
    rw [g3 98 (by decide)]
    exact ⟨fun _ => ⟨by omega, k s g3 (fun j j0 j1 => g6 j j0 (by omega))⟩, fun z => absurd hi z⟩
theorem t_mill {σ : aW} {a1 a2 : Int} (hP : IPl σ) (hS : ISt 63 σ) (hA : IOf σ) : aEv 59 true 116 [vr 0, vi a1, vi a2] σ (fun r s => aEv 59 true 176 [vr 96, vi a1, vi a2] s (Tp IOf [47, 115] [(45, 1), (46, 1), (46, 2), (96, 0), (96, 14)] σ r)) := by
  have hr : ∀ r : Option aV, Tp IOf [47, 115] [(45, 1), (46, 1), (46, 2), (96, 0), (96, 14)] σ r r (sw σ 96 (fu (σ 96) 0 0)) := fun r => ⟨rfl, hA, Fg_f Fg_r (by decide)⟩
  have hc := hS.2.1
  unfold Sc at hc
  refine e116 (b116_0 ?_)
  by_cases h0 : 0 ≤ a2 ∧ a2 ≤ 1000
  · refine ⟨fun _ => ?_, fun z => absurd h0 z⟩
    by_cases h1 : 0 ≤ a1 ∧ a1 ≤ 3
    · have hp := hP a1 (by omega) (by omega)
      by_cases h2 : σ 86 a1 = -1
      · refine ⟨fun z => ?_, fun _ => ?_⟩
        · simp [h1, h2] at z
        · simp only [h1, h2, and_self, if_true]
          refine e176 (b176_0 ⟨fun z => absurd h1 z, fun _ => ⟨fun _ => ?_, fun z => absurd h0 z⟩⟩)
          refine e172 (b172_0 ⟨by omega, fun z => ?_, fun z => ⟨_, rfl, b176_36_1 ⟨fun z => by omega, fun _ => hr _⟩⟩⟩)
          rw [sw_n (by decide)] at z
          omega
      · rcases hp with z | ⟨z1, z2, z3, z4, z5, z6, z7⟩
        · exact absurd z.1 h2
        refine ⟨fun _ => ?_, fun z => ?_⟩
        · refine c55 (d := 57) (by omega) (by omega) (by omega) (fun g => ⟨_, rfl, b116_42_1 ⟨fun _ => ?_, fun z => by omega⟩⟩) (fun j j0 j1 g => ⟨_, rfl, b116_42_1 ⟨fun z => absurd rfl z, fun _ => ?_⟩⟩)
          · refine c90o (d := 57) (by omega) (by omega) (by simp [sw]; omega) (by simp [sw]; omega) (fun j j0 j1 => by have := g j j0 (by simpa [sw] using j1); unfold r32; rw [sw_n (by decide)]; omega) (fun s f1 f2 f3 f4 => ⟨_, rfl, b116_78_1 ?_⟩)
            rw [sw_n (by decide)] at f2 f4
            simp only [sw_n (show (88 : Nat) ≠ 45 by decide)] at f4
            have f98 : ∀ j, s 98 j = σ 98 j := fun j => by rw [f1 98 j (by decide) (by simp), sw_n (by decide)]
            have f97 : ∀ j, s 97 j = σ 97 j := fun j => by rw [f1 97 j (by decide) (by simp), sw_n (by decide)]
            have f99 : ∀ j, s 99 j = σ 99 j := fun j => by rw [f1 99 j (by decide) (by simp), sw_n (by decide)]
            have f120 : ∀ j, s 120 j = σ 120 j := fun j => by rw [f1 120 j (by decide) (by simp), sw_n (by decide)]
            have g' : ∀ j, 0 ≤ j → j < σ 98 a1 → 0 ≤ σ 99 (60 * a1 + j) ∧ σ 99 (60 * a1 + j) ≤ 200000 := fun j j0 j1 => by
              rw [← z7 j j0 j1]
              exact g j j0 (by omega)
            refine e176 (b176_0 ⟨fun z => absurd h1 z, fun _ => ⟨fun _ => ?_, fun z => absurd h0 z⟩⟩)
            refine e172 (b172_0 ⟨by omega, fun _ => ?_, fun z => ?_⟩)
            · refine c160 (d := 56) (by omega) (by omega) (by rw [sw_n (by decide), f98]; omega) (fun _ => ⟨_, rfl, b172_20_1 ⟨_, rfl, b176_36_1 ⟨fun _ => ?_, fun z => absurd (by decide) z⟩⟩⟩) (fun j j0 j1 w => ?_)
              · have e120 : (sw s 96 (fu (s 96) 0 0)) 120 2532 = σ 120 2532 := by rw [sw_n (by decide), f120]
                have e98 : (sw s 96 (fu (s 96) 0 0)) 98 a1 = σ 98 a1 := by rw [sw_n (by decide), f98]
                refine ⟨by rw [e120]; omega, ?_⟩
                refine c176 (d := 56) (by omega) (by omega) (by rw [e98]; omega) (by rw [e98]; omega) (by rw [e120]; omega) (fun j j0 j1 => ?_) (fun t g1 g2 => ?_)
                · rw [e98] at j1
                  have := g' j j0 j1
                  rw [sw_n (by decide), f99]
                  unfold r32
                  omega
                · rw [e98]
                  rw [sw_n (show (86 : Nat) ≠ 45 by decide)]
                  refine ⟨by rw [z1], ?_, ?_⟩
                  · have E1 : t 46 1 = σ 98 a1 := by rw [g1 46 (by decide), sw_n (by decide), f2, z1]
                    have E2 : t 46 2 = σ 120 2532 := by rw [g1 46 (by decide), sw_n (by decide), f3]; omega
                    have E3 : t 120 2532 = σ 120 2532 := by rw [g1 120 (by decide), e120]
                    have E4 : t 47 = s 47 := by rw [g1 47 (by decide), sw_n (by decide)]
                    have E5 : t 45 1 = a2 := by rw [g1 45 (by decide), sw_n (by decide), f1 45 1 (by decide) (by decide), sw_s, fu_s]
                    unfold IOf
                    simp only [sw_n (show (46 : Nat) ≠ 96 by decide), sw_n (show (120 : Nat) ≠ 96 by decide), sw_n (show (47 : Nat) ≠ 96 by decide), sw_n (show (45 : Nat) ≠ 96 by decide), sw_n (show (115 : Nat) ≠ 96 by decide), sw_s, fu_s]
                    rw [E1, E2, E3, E4, E5]
                    refine ⟨by omega, by omega, by omega, by omega, rfl, h0.1, h0.2, fun h q0 q1 => ?_⟩
                    have q2 := g2 h (by rw [e120]; exact q0) q1
                    rw [e98, e120, sw_n (by decide), f99] at q2
                    rw [q2]
                    by_cases c : σ 98 a1 ≤ h - σ 120 2532
                    · rw [if_pos c, if_pos c]
                      omega
                    · rw [if_neg c, if_neg c, f4 _ (by omega) (by omega), z7 _ (by omega) (by omega)]
                      exact ⟨rfl, g' _ (by omega) (by omega)⟩
                  · exact Fg_f (Fg_t (Fg_t (Fg_t (Fg_f Fg_r (by decide)) (Fg_m f1 (by decide) (by decide))) (Fg_f Fg_r (by decide))) (Fg_F (Fr_s g1 (by decide)))) (by decide)
              · exfalso
                rw [sw_n (by decide), f98] at j1
                apply w
                rw [sw_n (by decide), f99]
                exact g' j j0 j1
            · rw [sw_n (by decide), f97] at z
              omega
          · refine e176 (b176_0 ⟨fun z => absurd h1 z, fun _ => ⟨fun _ => ?_, fun z => absurd h0 z⟩⟩)
            refine e172 (b172_0 ⟨by omega, fun _ => ?_, fun z => absurd (by rw [sw_n (by decide)]; omega) z⟩)
            refine c160 (d := 56) (by omega) (by omega) (by rw [sw_n (by decide)]; omega) (fun w => ?_) (fun i i0 i1 w => ⟨_, rfl, b172_20_1 ⟨_, rfl, b176_36_1 ⟨fun z => absurd z (by decide), fun _ => hr _⟩⟩⟩)
            exfalso
            apply g
            rw [z7 j j0 (by omega)]
            exact w j j0 (by simp [sw]; omega)
        · simp [h1, h2] at z
    · refine ⟨fun z => ?_, fun _ => ?_⟩
      · simp [h1] at z
      · simp only [h1, if_false]
        exact e176 (b176_0 ⟨fun _ => hr _, fun z => absurd z h1⟩)
  · refine ⟨fun z => absurd z h0, fun _ => ?_⟩
    exact e176 (b176_0 ⟨fun _ => hr _, fun _ => ⟨fun z => absurd z h0, fun _ => hr _⟩⟩)
end
