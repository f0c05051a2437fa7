section
/-! boilers -/
def IBo (σ : aW) : Prop := σ 45 0 = σ 96 8 ∧ 0 ≤ σ 96 8 ∧ σ 96 8 ≤ 4 ∧ (∀ b, 0 ≤ b → b < σ 96 8 → σ 48 b = σ 112 b ∧ σ 49 b = σ 113 b ∧ 1 ≤ σ 112 b ∧ σ 112 b ≤ 200000 ∧ 0 ≤ σ 113 b ∧ σ 113 b ≤ 1000) ∧ (∀ i, 0 ≤ i → i < σ 96 8 → 0 ≤ σ 50 i ∧ σ 50 i < σ 96 8) ∧ (∀ i j, 0 ≤ i → i < j → j < σ 96 8 → σ 113 (σ 50 i) < σ 113 (σ 50 j) ∨ (σ 113 (σ 50 i) = σ 113 (σ 50 j) ∧ σ 50 i < σ 50 j))
theorem c104 {d : Nat} {Q : aQ} {σ : aW} {a2 n : Int} (hn : σ 45 0 = n) (h1 : 0 ≤ n) (h2 : n < 4) (h3 : ∀ i, 0 ≤ i → i < n → 0 ≤ σ 50 i ∧ σ 50 i < n) (k : ∀ s m, Fr [50] σ s → 0 ≤ m → m ≤ n → (∀ j, 0 ≤ j → j < m → s 50 j = σ 50 j) → (∀ j, m < j → j ≤ n → s 50 j = σ 50 (j - 1)) → (∀ j, m ≤ j → j < n → a2 < σ 49 (σ 50 j)) → (0 < m → σ 49 (σ 50 (m - 1)) ≤ a2) → Q (some (vi n)) (sw (sw s 50 (fu (s 50) m n)) 45 (fu (σ 45) 0 (n + 1)))) : Yx (d + 0) cd104 1 Q 25 [vr 45, vt, vi a2, vi n] [] σ := by
  refine for_dn (X := fun m s => Yx (d + 0) cd104 1 Q 25 [vr 45, vt, vi a2, vi m] [] s) (I := fun m s => 0 ≤ m ∧ m ≤ n ∧ Fr [50] σ s ∧ (∀ j, 0 ≤ j → j < m → s 50 j = σ 50 j) ∧ (∀ j, m < j → j ≤ n → s 50 j = σ 50 (j - 1)) ∧ (∀ j, m ≤ j → j < n → a2 < σ 49 (σ 50 j))) (N := 0) ?_ ?_ n σ ⟨h1, Int.le_refl _, Fr_r, fun _ _ _ => rfl, fun j _ _ => by omega, fun j _ _ => by omega⟩
  · rintro m s hm ⟨g1, g2, g3, g4, g5, g6⟩ K
    have e45 : s 45 = σ 45 := g3 45 (by decide)
    have e49 : s 49 = σ 49 := g3 49 (by decide)
    refine b104_25 ?_
    rw [e45, e49, hn]
    refine ⟨fun z => ⟨by omega, by omega, k s m g3 g1 g2 g4 g5 g6 (fun w => by omega)⟩, fun z => ?_⟩
    have e50 := g4 (m - 1) (by omega) (by omega)
    have h50 := h3 (m - 1) (by omega) (by omega)
    rw [e50]
    refine ⟨by omega, by omega, by omega, fun c => ⟨by omega, by omega, k s m g3 g1 g2 g4 g5 g6 (fun _ => c)⟩, fun c => ⟨by omega, by omega, by omega, by omega, ?_⟩⟩
    refine K _ ⟨by omega, by omega, Fr_w g3 (by decide), fun j j0 j1 => ?_, fun j j0 j1 => ?_, fun j j0 j1 => ?_⟩
    · rw [sw_s, fu_n (by omega)]
      exact g4 j j0 (by omega)
    · rw [sw_s]
      by_cases e : j = m
      · rw [e, fu_s]
      · rw [fu_n e]
        exact g5 j (by omega) j1
    · by_cases e : j = m - 1
      · rw [e]
        omega
      · exact g6 j (by omega) j1
  · rintro m s hm ⟨g1, g2, g3, g4, g5, g6⟩
    omega
end
