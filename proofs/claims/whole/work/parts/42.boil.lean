section
/-! boilers -/
def IBo (σ : aW) : Prop := σ 45 0 = σ 96 8 ∧ 0 ≤ σ 96 8 ∧ σ 96 8 ≤ 4 ∧ (∀ b, 0 ≤ b → b < σ 96 8 → σ 48 b = σ 112 b ∧ σ 49 b = σ 113 b ∧ 1 ≤ σ 112 b ∧ σ 112 b ≤ 200000 ∧ 0 ≤ σ 113 b ∧ σ 113 b ≤ 1000) ∧ (∀ i, 0 ≤ i → i < σ 96 8 → 0 ≤ σ 50 i ∧ σ 50 i < σ 96 8) ∧ (∀ i j, 0 ≤ i → i < j → j < σ 96 8 → σ 113 (σ 50 i) < σ 113 (σ 50 j) ∨ (σ 113 (σ 50 i) = σ 113 (σ 50 j) ∧ σ 50 i < σ 50 j))
theorem c104 {d : Nat} {Q : aQ} {σ : aW} {a2 n : Int} (hn : σ 45 0 = n) (h1 : 0 ≤ n) (h2 : n < 4) (h3 : ∀ i, 0 ≤ i → i < n → 0 ≤ σ 50 i ∧ σ 50 i < n) (k : ∀ s m, Fr [50] σ s → 0 ≤ m → m ≤ n → (∀ j, 0 ≤ j → j < m → s 50 j = σ 50 j) → (∀ j, m < j → j ≤ n → s 50 j = σ 50 (j - 1)) → (∀ j, m ≤ j → j < n → a2 < σ 49 (σ 50 j)) → (0 < m → σ 49 (σ 50 (m - 1)) ≤ a2) → Q (some (vi n)) (sw (sw s 50 (fu (s 50) m n)) 45 (fu (σ 45) 0 (n + 1)))) : Yx (d + 0) cd104 1 Q 25 [vr 45, vt, vi a2, vi n] [] σ := by
  refine for_dn (X := fun m s => Yx (d + 0) cd104 1 Q 25 [vr 45, vt, vi a2, vi m] [] s) (I := fun m s => 0 ≤ m ∧ m ≤ n ∧ Fr [50] σ s ∧ (∀ j, 0 ≤ j → j < m → s 50 j = σ 50 j) ∧ (∀ j, m < j → j ≤ n → s 50 j = σ 50 (j - 1)) ∧ (∀ j, m ≤ j → j < n → a2 < σ 49 (σ 50 j))) (N := 0) ?_ ?_ n σ ⟨h1, Int.le_refl _, Fr_r, fun _ _ _ => rfl, fun j _ _ => by omega, fun j _ _ => by omega⟩
  · rintro m s hm ⟨g1, g2, g3, g4, g5, g6⟩ K
    have e45 : s 45 = σ 45 := g3 45 (by decide)
    have e49 : s 49 = σ 49 := g3 49 (by decide)
    refine b104_25 ?_
    rw [e45, e49, hn]
    refine ⟨fun z => ⟨by omega, by omega, k s m g3 g1 g2 g4 g5 g6 (fun w => by omega)⟩, fun z => ?_⟩
    have e50 := g4 (m - 1) (by omega) (by omega)
    have h50 := h3 (m - 1) (by omega) (by omega)
    rw [e50]
    refine ⟨by omega, by omega, by omega, fun c => ⟨by omega, by omega, k s m g3 g1 g2 g4 g5 g6 (fun _ => c)⟩, fun c => ⟨by omega, by omega, by omega, by omega, ?_⟩⟩
    refine K _ ⟨by omega, by omega, Fr_w g3 (by decide), fun j j0 j1 => ?_, fun j j0 j1 => ?_, fun j j0 j1 => ?_⟩
    · rw [sw_s, fu_n (by omega)]
      exact g4 j j0 (by omega)
    · rw [sw_s]
      by_cases e : j = m
      · rw [e, fu_s]
      · rw [fu_n e]
        exact g5 j (by omega) j1
    · by_cases e : j = m - 1
      · rw [e]
        omega
      · exact g6 j (by omega) j1
  · rintro m s hm ⟨g1, g2, g3, g4, g5, g6⟩
    omega
theorem t_boiler {σ : aW} {a1 a2 : Int} (hB : IBo σ) : aEv 59 true 114 [vr 0, vi a1, vi a2] σ (fun r s => aEv 59 true 174 [vr 96, vi a1, vi a2] s (Tp IBo [48, 49, 50, 112, 113] [(45, 0), (96, 0), (96, 8)] σ r)) := by
  have hr : ∀ r : Option aV, Tp IBo [48, 49, 50, 112, 113] [(45, 0), (96, 0), (96, 8)] σ r r (sw σ 96 (fu (σ 96) 0 0)) := fun r => ⟨rfl, hB, Fg_f Fg_r (by decide)⟩
  have hB' := hB
  obtain ⟨h1, h2, h3, h4, h5, h6⟩ := hB'
  refine e114 (b114_0 ?_)
  (repeat' first | with_reducible apply And.intro | with_reducible intro _)
  all_goals first | omega | (refine e174 (b174_0 ?_); (repeat' first | with_reducible apply And.intro | with_reducible intro _); all_goals first | omega | exact hr _) | skip
  rename_i q1 q2 q3
  refine e104 (b104_0 ⟨by omega, by omega, ?_⟩)
  rw [h1]
  refine c104 (d := 58) (by simp [sw, h1]) h2 (by omega) (fun i i0 i1 => by simpa [sw] using h5 i i0 i1) (fun s m f1 m0 m1 f2 f3 f4 f5 => ⟨_, rfl, b114_50_1 ?_⟩)
  have e96 : s 96 = σ 96 := by rw [f1 96 (by decide)]; simp [sw]
  have e112 : s 112 = σ 112 := by rw [f1 112 (by decide)]; simp [sw]
  have e113 : s 113 = σ 113 := by rw [f1 113 (by decide)]; simp [sw]
  have e48 : s 48 = fu (σ 48) (σ 96 8) a1 := by rw [f1 48 (by decide)]; simp [sw, h1]
  have e49 : s 49 = fu (σ 49) (σ 96 8) a2 := by rw [f1 49 (by decide)]; simp [sw, h1]
  simp only [sw_n (show (50 : Nat) ≠ 49 by decide), sw_n (show (50 : Nat) ≠ 48 by decide), sw_s, fu] at f2 f3 f4 f5
  refine e174 (b174_0 ?_)
  simp only [sw_n (show (96 : Nat) ≠ 45 by decide), sw_n (show (96 : Nat) ≠ 50 by decide), sw_n (show (112 : Nat) ≠ 45 by decide), sw_n (show (112 : Nat) ≠ 50 by decide), sw_n (show (113 : Nat) ≠ 45 by decide), sw_n (show (113 : Nat) ≠ 50 by decide), e96, e112, e113]
  (repeat' first | with_reducible apply And.intro | with_reducible intro _)
  all_goals first | omega | skip
  generalize hu : sw _ 96 (fu (fu (σ 96) 0 0) 8 _) = u
  have hu := hu.symm
  have E50 : ∀ j, 0 ≤ j → j ≤ σ 96 8 → u 50 j = if j < m then σ 50 j else if j = m then σ 96 8 else σ 50 (j - 1) := fun j j0 j1 => by
    have e : u 50 j = fu (s 50) m (σ 96 8) j := by rw [hu]; simp [sw]
    rw [e]
    by_cases c : j = m
    · rw [c, fu_s, if_neg (by omega), if_pos rfl]
    · rw [fu_n c]
      by_cases c2 : j < m
      · rw [if_pos c2, f2 j j0 c2]
      · rw [if_neg c2, if_neg c, f3 j (by omega) j1]
  have E112 : ∀ j, u 112 j = if j = σ 96 8 then a1 else σ 112 j := fun j => by rw [hu]; simp [sw, fu]
  have E113 : ∀ j, u 113 j = if j = σ 96 8 then a2 else σ 113 j := fun j => by rw [hu]; simp [sw, fu]
  have E48 : ∀ j, u 48 j = if j = σ 96 8 then a1 else σ 48 j := fun j => by rw [hu]; simp [sw, fu, e48]
  have E49 : ∀ j, u 49 j = if j = σ 96 8 then a2 else σ 49 j := fun j => by rw [hu]; simp [sw, fu, e49]
  have E8 : u 96 8 = σ 96 8 + 1 := by rw [hu]; simp [sw, fu]
  have E0 : u 45 0 = σ 96 8 + 1 := by rw [hu]; simp [sw, fu]
  have F4 : ∀ j, m ≤ j → j < σ 96 8 → a2 < σ 113 (σ 50 j) := fun j j0 j1 => by
    have q := f4 j j0 j1
    have p := h5 j (by omega) j1
    rw [if_neg (by omega)] at q
    rw [← (h4 _ p.1 p.2).2.1]
    exact q
  have F5 : 0 < m → σ 113 (σ 50 (m - 1)) ≤ a2 := fun z => by
    have q := f5 z
    have p := h5 (m - 1) (by omega) (by omega)
    rw [if_neg (by omega)] at q
    rw [← (h4 _ p.1 p.2).2.1]
    exact q
  refine ⟨by congr 2; omega, ⟨by rw [E0, E8], by omega, by omega, fun b b0 b1 => ?_, fun i i0 i1 => ?_, fun i j i0 i1 j1 => ?_⟩, ?_⟩
  · rw [E48, E49, E112, E113]
    rw [E8] at b1
    by_cases c : b = σ 96 8
    · simp only [c, if_true]
      exact ⟨trivial, trivial, q1.1, q1.2, q2.1, q2.2⟩
    · simp only [c, if_false]
      exact h4 b b0 (by omega)
  · rw [E8] at i1
    rw [E50 i i0 (by omega), E8]
    by_cases c1 : i < m
    · rw [if_pos c1]
      have := h5 i i0 (by omega)
      omega
    · by_cases c2 : i = m
      · rw [if_neg c1, if_pos c2]
        omega
      · rw [if_neg c1, if_neg c2]
        have := h5 (i - 1) (by omega) (by omega)
        omega
  · rw [E8] at j1
    rw [E50 i i0 (by omega), E50 j (by omega) (by omega)]
    simp only [E113]
    by_cases c1 : j < m
    · have pi := h5 i i0 (by omega)
      have pj := h5 j (by omega) (by omega)
      rw [if_pos (by omega : i < m), if_pos c1, if_neg (by omega), if_neg (by omega)]
      exact h6 i j i0 i1 (by omega)
    · by_cases c2 : j = m
      · have pi := h5 i i0 (by omega)
        have f := F5 (by omega)
        rw [if_pos (by omega : i < m), if_neg c1, if_pos c2, if_neg (by omega), if_pos rfl]
        by_cases e : i = m - 1
        · rw [e] at pi ⊢
          omega
        · have := h6 i (m - 1) i0 (by omega) (by omega)
          omega
      · have pj := h5 (j - 1) (by omega) (by omega)
        by_cases c3 : i < m
        · have pi := h5 i i0 (by omega)
          rw [if_pos c3, if_neg c1, if_neg c2, if_neg (by omega), if_neg (by omega)]
          exact h6 i (j - 1) i0 (by omega) (by omega)
        · by_cases c4 : i = m
          · rw [if_neg c3, if_pos c4, if_neg c1, if_neg c2, if_pos rfl, if_neg (by omega)]
            exact Or.inl (F4 (j - 1) (by omega) (by omega))
          · have pi := h5 (i - 1) (by omega) (by omega)
            rw [if_neg c3, if_neg c4, if_neg c1, if_neg c2, if_neg (by omega), if_neg (by omega)]
            exact h6 (i - 1) (j - 1) (by omega) (by omega) (by omega)
  · intro k j hk hj
    have k1 : k ≠ 48 := fun z => hk (by rw [z]; decide)
    have k2 : k ≠ 49 := fun z => hk (by rw [z]; decide)
    have k3 : k ≠ 50 := fun z => hk (by rw [z]; decide)
    have k4 : k ≠ 112 := fun z => hk (by rw [z]; decide)
    have k5 : k ≠ 113 := fun z => hk (by rw [z]; decide)
    have es : s k = σ k := by rw [f1 k (by simpa using k3), sw_n k2, sw_n k1]
    rw [hu]
    by_cases c : k = 96
    · subst c
      have j1 : j ≠ 0 := fun z => hj (by rw [z]; decide)
      have j2 : j ≠ 8 := fun z => hj (by rw [z]; decide)
      rw [sw_s, fu_n j2, fu_n j1]
    · rw [sw_n c]
      by_cases c2 : k = 45
      · subst c2
        have j1 : j ≠ 0 := fun z => hj (by rw [z]; decide)
        simp [sw, fu, j1]
      · simp [sw, c, c2, k1, k2, k3, k4, k5, es]
end
