section
/-! rows that are taken: air, mill -/
theorem c55 {d : Nat} {Q : aQ} {σ : aW} {a1 a2 a4 : Int} (h1 : 0 ≤ a1) (h2 : a1 < 4) (h3 : σ 86 a1 ≤ 60) (k1 : (∀ j, 0 ≤ j → j < σ 86 a1 → a2 ≤ σ 88 (60 * a1 + j) ∧ σ 88 (60 * a1 + j) ≤ a4) → Q (some (vi 1)) σ) (k0 : ∀ j, 0 ≤ j → j < σ 86 a1 → ¬ (a2 ≤ σ 88 (60 * a1 + j) ∧ σ 88 (60 * a1 + j) ≤ a4) → Q (some (vi 0)) σ) : aEv (d + 1) true 55 [vr 85, vi a1, vl a2, vl a4] σ Q := by
  refine e55 (b55_0 ?_)
  refine for_up (X := fun i s => Yx (d + 1) cd55 3 Q 3 [vr 85, vi a1, vl a2, vt, vl a4, vt, vi i] [] s) (I := fun i s => 0 ≤ i ∧ s = σ ∧ ∀ j, 0 ≤ j → j < i → j < σ 86 a1 → a2 ≤ σ 88 (60 * a1 + j) ∧ σ 88 (60 * a1 + j) ≤ a4) (N := σ 86 a1) ?_ ?_ 0 _ ⟨Int.le_refl _, rfl, fun j z w => by omega⟩
  · rintro i s hi ⟨g1, rfl, g6⟩ K
    refine b55_3 ⟨by omega, fun z => by omega, fun _ => ⟨by omega, fun c => ⟨by omega, K _ ⟨by omega, rfl, ?_⟩⟩, fun c => k0 i g1 hi (by rw [Int.mul_comm 60 a1]; exact c)⟩⟩
    intro j j0 j1 j2
    by_cases e : j = i
    · rw [e, Int.mul_comm 60 a1]
      exact c
    · exact g6 j j0 (by omega) j2
  · rintro i s hi ⟨g1, rfl, g6⟩
    exact b55_3 ⟨by omega, fun _ => k1 (fun j j0 j1 => g6 j j0 (by omega) j1), fun z => absurd hi z⟩
theorem c160 {d : Nat} {Q : aQ} {σ : aW} {a1 a2 a4 : Int} (h1 : 0 ≤ a1) (h2 : a1 < 4) (h3 : σ 98 a1 ≤ 60) (k1 : (∀ j, 0 ≤ j → j < σ 98 a1 → a2 ≤ σ 99 (60 * a1 + j) ∧ σ 99 (60 * a1 + j) ≤ a4) → Q (some (vi 1)) σ) (k0 : ∀ j, 0 ≤ j → j < σ 98 a1 → ¬ (a2 ≤ σ 99 (60 * a1 + j) ∧ σ 99 (60 * a1 + j) ≤ a4) → Q (some (vi 0)) σ) : aEv (d + 1) true 160 [vr 96, vi a1, vl a2, vl a4] σ Q := by
  refine e160 (b160_0 ?_)
  refine for_up (X := fun i s => Yx (d + 1) cd160 3 Q 3 [vr 96, vi a1, vl a2, vt, vl a4, vt, vi i] [] s) (I := fun i s => 0 ≤ i ∧ s = σ ∧ ∀ j, 0 ≤ j → j < i → j < σ 98 a1 → a2 ≤ σ 99 (60 * a1 + j) ∧ σ 99 (60 * a1 + j) ≤ a4) (N := σ 98 a1) ?_ ?_ 0 _ ⟨Int.le_refl _, rfl, fun j z w => by omega⟩
  · rintro i s hi ⟨g1, rfl, g6⟩ K
    refine b160_3 ⟨by omega, fun z => by omega, fun _ => ⟨by omega, by omega, by omega, fun c => ⟨by omega, K _ ⟨by omega, rfl, ?_⟩⟩, fun c => k0 i g1 hi c⟩⟩
    intro j j0 j1 j2
    by_cases e : j = i
    · rw [e]
      exact c
    · exact g6 j j0 (by omega) j2
  · rintro i s hi ⟨g1, rfl, g6⟩
    exact b160_3 ⟨by omega, fun _ => k1 (fun j j0 j1 => g6 j j0 (by omega) j1), fun z => absurd hi z⟩
theorem c90 {d : Nat} {Q : aQ} {σ : aW} {a2 a3 : Int} (h1 : 0 ≤ a2) (h2 : a2 < 4) (h3 : 0 ≤ σ 86 a2) (h4 : σ 86 a2 ≤ 60) (h5 : ∀ j, 0 ≤ j → j < σ 86 a2 → r32 (σ 88 (60 * a2 + j))) (k : ∀ s, Fg [44] [(43, 1), (43, 2)] σ s → s 43 1 = σ 86 a2 → s 43 2 = a3 → (∀ j, 0 ≤ j → j < σ 86 a2 → s 44 j = σ 88 (60 * a2 + j)) → Q (some (vi (σ 86 a2))) s) : aEv (d + 1) true 90 [vr 43, vr 85, vi a2, vi a3] σ Q := by
  refine e90 (b90_0 ⟨by omega, ?_⟩)
  refine for_up (X := fun i s => Yx (d + 1) cd90 1 Q 18 [vr 43, vr 85, vi a2, vt, vi i] [] s) (I := fun i s => 0 ≤ i ∧ i ≤ σ 86 a2 ∧ Fg [44] [(43, 1), (43, 2)] σ s ∧ s 43 1 = σ 86 a2 ∧ s 43 2 = a3 ∧ ∀ j, 0 ≤ j → j < i → s 44 j = σ 88 (60 * a2 + j)) (N := σ 86 a2) ?_ ?_ 0 _ ⟨Int.le_refl _, h3, Fg_f (Fg_f Fg_r (by decide)) (by decide), by simp [sw, fu], by simp [sw, fu], fun j z w => by omega⟩
  · rintro i s hi ⟨g1, g2, g3, g4, g5, g6⟩ K
    have e88 : s 88 (a2 * 60 + i) = σ 88 (60 * a2 + i) := by
      rw [g3 88 _ (by decide) (by simp), Int.mul_comm 60 a2]
    have := h5 i g1 hi
    unfold r32 at this
    refine b90_18 ?_
    rw [g4, e88]
    refine ⟨fun z => by omega, fun _ => ⟨by omega, this, by omega, by omega, K _ ⟨by omega, by omega, Fg_w g3 (by decide), ?_, ?_, ?_⟩⟩⟩
    · simpa [sw] using g4
    · simpa [sw] using g5
    · intro j j0 j1
      rw [sw_s]
      by_cases e : j = i
      · rw [e, fu_s]
      · rw [fu_n e, g6 j j0 (by omega)]
  · rintro i s hi ⟨g1, g2, g3, g4, g5, g6⟩
    refine b90_18 ?_
    rw [g4]
    exact ⟨fun _ => k s g3 g4 g5 (fun j j0 j1 => g6 j j0 (by omega)), fun z => absurd hi z⟩
theorem c90o {d : Nat} {Q : aQ} {σ : aW} {a2 a3 : Int} (h1 : 0 ≤ a2) (h2 : a2 < 4) (h3 : 0 ≤ σ 86 a2) (h4 : σ 86 a2 ≤ 60) (h5 : ∀ j, 0 ≤ j → j < σ 86 a2 → r32 (σ 88 (60 * a2 + j))) (k : ∀ s, Fg [47] [(46, 1), (46, 2)] σ s → s 46 1 = σ 86 a2 → s 46 2 = a3 → (∀ j, 0 ≤ j → j < σ 86 a2 → s 47 j = σ 88 (60 * a2 + j)) → Q (some (vi (σ 86 a2))) s) : aEv (d + 1) true 90 [vr 46, vr 85, vi a2, vi a3] σ Q := by
  refine e90o (b90o_0 ⟨by omega, ?_⟩)
  refine for_up (X := fun i s => Yx (d + 1) cd90 1 Q 18 [vr 46, vr 85, vi a2, vt, vi i] [] s) (I := fun i s => 0 ≤ i ∧ i ≤ σ 86 a2 ∧ Fg [47] [(46, 1), (46, 2)] σ s ∧ s 46 1 = σ 86 a2 ∧ s 46 2 = a3 ∧ ∀ j, 0 ≤ j → j < i → s 47 j = σ 88 (60 * a2 + j)) (N := σ 86 a2) ?_ ?_ 0 _ ⟨Int.le_refl _, h3, Fg_f (Fg_f Fg_r (by decide)) (by decide), by simp [sw, fu], by simp [sw, fu], fun j z w => by omega⟩
  · rintro i s hi ⟨g1, g2, g3, g4, g5, g6⟩ K
    have e88 : s 88 (a2 * 60 + i) = σ 88 (60 * a2 + i) := by
      rw [g3 88 _ (by decide) (by simp), Int.mul_comm 60 a2]
    have := h5 i g1 hi
    unfold r32 at this
    refine b90o_18 ?_
    rw [g4, e88]
    refine ⟨fun z => by omega, fun _ => ⟨by omega, this, by omega, by omega, K _ ⟨by omega, by omega, Fg_w g3 (by decide), ?_, ?_, ?_⟩⟩⟩
    · simpa [sw] using g4
    · simpa [sw] using g5
    · intro j j0 j1
      rw [sw_s]
      by_cases e : j = i
      · rw [e, fu_s]
      · rw [fu_n e, g6 j j0 (by omega)]
  · rintro i s hi ⟨g1, g2, g3, g4, g5, g6⟩
    refine b90o_18 ?_
    rw [g4]
    exact ⟨fun _ => k s g3 g4 g5 (fun j j0 j1 => g6 j j0 (by omega)), fun z => absurd hi z⟩
/-- air as the hours read it -/
def IAr (σ : aW) : Prop := 0 ≤ σ 43 1 ∧ σ 43 1 ≤ 60 ∧ 0 ≤ σ 43 2 ∧ σ 43 2 ≤ σ 120 2532 ∧ ∀ h, σ 120 2532 ≤ h → h < 5050 → σ 114 h = (if σ 43 1 = 0 then 0 else σ 44 (min h (σ 43 2 + σ 43 1 - 1) - σ 43 2)) ∧ -40 ≤ σ 114 h ∧ σ 114 h ≤ 40
theorem c173 {d : Nat} {Q : aQ} {σ : aW} {a1 : Int} (h1 : 0 ≤ a1) (h2 : a1 < 4) (h3 : 1 ≤ σ 98 a1) (h4 : σ 98 a1 ≤ 60) (h6 : 0 ≤ σ 120 2532 ∧ σ 120 2532 ≤ 5048) (h5 : ∀ j, 0 ≤ j → j < σ 98 a1 → r32 (σ 99 (60 * a1 + j))) (k : ∀ s, Fr [114] σ s → (∀ h, σ 120 2532 ≤ h → h < 5050 → s 114 h = σ 99 (60 * a1 + min (σ 98 a1 - 1) (h - σ 120 2532))) → Q (some (vi (σ 98 a1))) s) : Yx (d + 2) cd173 1 Q 61 [vr 96, vi a1, vi (σ 120 2532)] [] σ := by
  refine for_up (X := fun i s => Yx (d + 2) cd173 1 Q 61 [vr 96, vi a1, vi i] [] s) (I := fun i s => σ 120 2532 ≤ i ∧ i ≤ 5050 ∧ Fr [114] σ s ∧ ∀ h, σ 120 2532 ≤ h → h < i → s 114 h = σ 99 (60 * a1 + min (σ 98 a1 - 1) (h - σ 120 2532))) (N := 5050) ?_ ?_ _ _ ⟨Int.le_refl _, by omega, Fr_r, fun j z w => by omega⟩
  · rintro i s hi ⟨g1, g2, g3, g6⟩ K
    have := h5 (min (σ 98 a1 - 1) (i - σ 120 2532)) (by omega) (by omega)
    unfold r32 at this
    refine b173_61 ?_
    rw [g3 98 (by decide), g3 120 (by decide), g3 99 (by decide)]
    refine ⟨fun z => by omega, fun _ => ⟨by omega, by omega, by omega, by omega, by omega, by omega, by omega, this, by omega, by omega, K _ ⟨by omega, by omega, Fr_w g3 (by decide), ?_⟩⟩⟩
    intro j j0 j1
    rw [sw_s]
    by_cases e : j = i
    · rw [e, fu_s]
    · rw [fu_n e, g6 j j0 (by omega)]
  · rintro i s hi ⟨g1, g2, g3, g6⟩
    refine b173_61 ?_
    rw [g3 98 (by decide)]
    exact ⟨fun _ => ⟨by omega, k s g3 (fun j j0 j1 => g6 j j0 (by omega))⟩, fun z => absurd hi z⟩
end
