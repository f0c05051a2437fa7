section
/-! loops, frames -/
theorem for_up {α : Type} {X I : Int → α → Prop} {N : Int} (hs : ∀ i s, i < N → I i s → (∀ s', I (i + 1) s' → X (i + 1) s') → X i s) (he : ∀ i s, N ≤ i → I i s → X i s) : ∀ (i : Int) (s : α), I i s → X i s := by
  have key : ∀ (n : Nat) (i : Int) (s : α), (N - i).toNat ≤ n → I i s → X i s := by
    intro n
    induction n with
    | zero => exact fun i s h hI => he i s (by omega) hI
    | succ n ih =>
      intro i s h hI
      by_cases hi : i < N
      · exact hs i s hi hI (fun s' hI' => ih (i + 1) s' (by omega) hI')
      · exact he i s (by omega) hI
  exact fun i s hI => key _ i s (Nat.le_refl _) hI
theorem for_dn {α : Type} {X I : Int → α → Prop} {N : Int} (hs : ∀ i s, N ≤ i → I i s → (∀ s', I (i - 1) s' → X (i - 1) s') → X i s) (he : ∀ i s, i < N → I i s → X i s) : ∀ (i : Int) (s : α), I i s → X i s := by
  have key : ∀ (n : Nat) (i : Int) (s : α), (i + 1 - N).toNat ≤ n → I i s → X i s := by
    intro n
    induction n with
    | zero => exact fun i s h hI => he i s (by omega) hI
    | succ n ih =>
      intro i s h hI
      by_cases hi : N ≤ i
      · exact hs i s hi hI (fun s' hI' => ih (i - 1) s' (by omega) hI')
      · exact he i s (by omega) hI
  exact fun i s hI => key _ i s (Nat.le_refl _) hI
/-- any loop, by a measure -/
theorem lp_m {α : Type} {X I : α → Prop} (μ : α → Nat) (hs : ∀ s, I s → (∀ s', I s' → μ s' < μ s → X s') → X s) : ∀ s : α, I s → X s := by
  have key : ∀ (n : Nat) (s : α), μ s < n → I s → X s := by
    intro n
    induction n with
    | zero => exact fun s h _ => absurd h (Nat.not_lt_zero _)
    | succ n ih => exact fun s h hI => hs s hI (fun s' hI' hl => ih s' (by omega) hI')
  exact fun s hI => key _ s (Nat.lt_succ_self _) hI
/-- only the cells of a list have changed -/
def Fr (L : List Nat) (σ s : aW) : Prop := ∀ k, k ∉ L → s k = σ k
theorem Fr_r {L : List Nat} {σ : aW} : Fr L σ σ := fun _ _ => rfl
theorem Fr_w {L : List Nat} {σ s : aW} {k : Nat} {f : Int → Int} (h : Fr L σ s) (hk : k ∈ L) : Fr L σ (sw s k f) := fun a ha => by
  have hne : a ≠ k := fun z => ha (by rw [z]; exact hk)
  rw [sw_n hne]
  exact h a ha
theorem Fr_t {L M N : List Nat} {σ s t : aW} (h : Fr L σ s) (h2 : Fr M s t) (hN : ∀ k, k ∉ N → k ∉ L ∧ k ∉ M) : Fr N σ t := fun a ha => by
  rw [h2 a (hN a ha).2]
  exact h a (hN a ha).1
theorem Fr_s {L M : List Nat} {σ s : aW} (h : Fr L σ s) (hs : L.all (fun k => M.contains k) = true) : Fr M σ s := fun a ha => h a (fun z => ha (by
  have := List.all_eq_true.mp hs a z
  simpa using this))
theorem sw_sw {σ : aW} {k : Nat} {f g : Int → Int} : sw (sw σ k f) k g = sw σ k g := by
  funext a
  unfold sw
  split <;> simp [*]
end
