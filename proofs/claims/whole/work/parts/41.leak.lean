section
/-! meters -/
def Lt (σ : aW) (e h n u : Int) : Prop := 0 ≤ u ∧ u < n ∧ σ 90 u = e ∧ σ 91 u = h ∧ ∀ j, u < j → j < n → ¬ (σ 90 j = e ∧ σ 91 j = h)
def Ln (σ : aW) (e h n : Int) : Prop := ∀ j, 0 ≤ j → j < n → ¬ (σ 90 j = e ∧ σ 91 j = h)
theorem Lt_u {σ : aW} {e h n u v : Int} (h1 : Lt σ e h n u) (h2 : Lt σ e h n v) : u = v := by
  obtain ⟨a1, a2, a3, a4, a5⟩ := h1
  obtain ⟨b1, b2, b3, b4, b5⟩ := h2
  rcases Int.lt_trichotomy u v with z | z | z
  · exact absurd ⟨b3, b4⟩ (a5 v z b2)
  · exact z
  · exact absurd ⟨a3, a4⟩ (b5 u z a2)
theorem c29 {d : Nat} {Q : aQ} {σ : aW} {a1 a2 a3 : Int} (h1 : 0 ≤ a3) (h2 : a3 ≤ 200) (k0 : Ln σ a1 a2 a3 → Q (some (vi (-1))) σ) (k1 : ∀ u, Lt σ a1 a2 a3 u → Q (some (vi u)) σ) : aEv (d + 0) true 29 [vr 89, vi a1, vi a2, vi a3] σ Q := by
  refine e29 (b29_0 ⟨by omega, ?_⟩)
  refine for_dn (X := fun i (_ : Unit) => Yx (d + 0) cd29 1 Q 5 [vr 89, vi a1, vi a2, vt, vi i] [] σ) (I := fun i _ => i < a3 ∧ ∀ j, i < j → j < a3 → ¬ (σ 90 j = a1 ∧ σ 91 j = a2)) (N := 0) ?_ ?_ (a3 - 1) () ⟨by omega, fun j z w => by omega⟩
  · rintro i _ hi ⟨g1, g2⟩ K
    have K' : ¬ (σ 90 i = a1 ∧ σ 91 i = a2) → Yx (d + 0) cd29 1 Q 5 [vr 89, vi a1, vi a2, vt, vi (i + (-1))] [] σ := fun z => K () ⟨by omega, fun j j0 j1 => by
      by_cases e : j = i
      · rw [e]; exact z
      · exact g2 j (by omega) j1⟩
    exact b29_5 ⟨fun z => by omega, fun _ => ⟨by omega, fun c => ⟨by omega, K' (fun z => c z.1)⟩, fun c => ⟨by omega, fun c2 => ⟨by omega, K' (fun z => c2 z.2)⟩, fun c2 => k1 i ⟨hi, g1, c, c2, g2⟩⟩⟩⟩
  · rintro i _ hi ⟨g1, g2⟩
    exact b29_5 ⟨fun _ => k0 (fun j j0 j1 => g2 j (by omega) j1), fun z => absurd hi z⟩
theorem c235 {d : Nat} {Q : aQ} {σ : aW} {a1 a2 a3 a4 : Int} (hM : IMt σ) (h0 : 0 ≤ a2 ∧ a2 ≤ 1) (h1 : 0 ≤ a4) (h2 : a4 ≤ σ 96 9) (k0 : Ln σ (2 * a1 + a2) a3 a4 → Q (some (vi (-1))) σ) (k1 : ∀ u, Lt σ (2 * a1 + a2) a3 a4 u → Q (some (vi (σ 92 u))) σ) : aEv (d + 0) true 235 [vr 96, vi a1, vi a2, vi a3, vi a4] σ Q := by
  obtain ⟨m1, m2, m3, m4⟩ := hM
  refine e235 (b235_0 ?_)
  refine for_up (X := fun i v => Yx (d + 0) cd235 1 Q 6 [vr 96, vi a1, vi a2, vi a3, vi a4, vi v, vi i] [] σ) (I := fun i v => 0 ≤ i ∧ i ≤ a4 ∧ ((v = -1 ∧ Ln σ (2 * a1 + a2) a3 i) ∨ ∃ u, Lt σ (2 * a1 + a2) a3 i u ∧ v = σ 92 u)) (N := a4) ?_ ?_ 0 (-1) ⟨Int.le_refl _, by omega, Or.inl ⟨rfl, fun j z w => by omega⟩⟩
  · rintro i v hi ⟨i0, i1, g⟩ K
    have hm := m4 i i0 (by omega)
    have K' : ¬ (σ 90 i = 2 * a1 + a2 ∧ σ 91 i = a3) → Yx (d + 0) cd235 1 Q 6 [vr 96, vi a1, vi a2, vi a3, vi a4, vi v, vi (i + 1)] [] σ := fun z => K v ⟨by omega, by omega, by
      rcases g with ⟨g1, g2⟩ | ⟨u, ⟨b1, b2, b3, b4, b5⟩, g2⟩
      · refine Or.inl ⟨g1, fun j j0 j1 => ?_⟩
        by_cases e : j = i
        · rw [e]; exact z
        · exact g2 j j0 (by omega)
      · refine Or.inr ⟨u, ⟨b1, by omega, b3, b4, fun j j0 j1 => ?_⟩, g2⟩
        by_cases e : j = i
        · rw [e]; exact z
        · exact b5 j j0 (by omega)⟩
    refine b235_6 ⟨fun z => by omega, fun _ => ⟨by omega, fun c => ⟨by omega, K' (by omega)⟩, fun c => ⟨by omega, fun c2 => ⟨by omega, K' (by omega)⟩, fun c2 => ⟨by omega, fun c3 => ⟨by omega, K' (by omega)⟩, fun c3 => ⟨by omega, by omega, ?_⟩⟩⟩⟩⟩
    refine K _ ⟨by omega, by omega, Or.inr ⟨i, ⟨i0, by omega, by omega, by omega, fun j j0 j1 => by omega⟩, hm.2.2.1.symm⟩⟩
  · rintro i v hi ⟨i0, i1, g⟩
    have e : i = a4 := by omega
    subst e
    rcases g with ⟨rfl, g2⟩ | ⟨u, g1, rfl⟩
    · exact b235_6 ⟨fun _ => k0 g2, fun z => absurd hi z⟩
    · exact b235_6 ⟨fun _ => k1 u g1, fun z => absurd hi z⟩
end
