section
/-! counts and sums -/
theorem bi_le {p : Prop} [Decidable p] : 0 ≤ bi p ∧ bi p ≤ 1 := by
  unfold bi
  split <;> omega
theorem bi_c {p q : Prop} [Decidable p] [Decidable q] (h : p ↔ q) : bi p = bi q := by
  unfold bi
  by_cases c : p
  · rw [if_pos c, if_pos (h.mp c)]
  · rw [if_neg c, if_neg (fun z => c (h.mpr z))]
theorem c49 {d : Nat} {Q : aQ} {σ : aW} (k : Q (some (vi (0 + bi (¬ σ 86 0 = -1) + bi (¬ σ 86 1 = -1) + bi (¬ σ 86 2 = -1) + bi (¬ σ 86 3 = -1)))) σ) : aEv (d + 0) true 49 [vr 85] σ Q := by
  have b0 := bi_le (p := ¬ σ 86 0 = -1)
  have b1 := bi_le (p := ¬ σ 86 1 = -1)
  have b2 := bi_le (p := ¬ σ 86 2 = -1)
  have b3 := bi_le (p := ¬ σ 86 3 = -1)
  refine e49 (b49_0 (b49_4 ⟨fun z => absurd z (by decide), fun _ => ⟨by decide, by omega, by decide, b49_4 ⟨fun z => absurd z (by decide), fun _ => ⟨by decide, ?_, by decide, b49_4 ⟨fun z => absurd z (by decide), fun _ => ⟨by decide, ?_, by decide, b49_4 ⟨fun z => absurd z (by decide), fun _ => ⟨by decide, ?_, by decide, b49_4 ⟨fun _ => k, fun z => absurd (by decide) z⟩⟩⟩⟩⟩⟩⟩⟩⟩))
  · show -2147483648 ≤ 0 + bi (¬ σ 86 0 = -1) + bi (¬ σ 86 1 = -1) ∧ 0 + bi (¬ σ 86 0 = -1) + bi (¬ σ 86 1 = -1) < 2147483648
    omega
  · show -2147483648 ≤ 0 + bi (¬ σ 86 0 = -1) + bi (¬ σ 86 1 = -1) + bi (¬ σ 86 2 = -1) ∧ 0 + bi (¬ σ 86 0 = -1) + bi (¬ σ 86 1 = -1) + bi (¬ σ 86 2 = -1) < 2147483648
    omega
  · show -2147483648 ≤ 0 + bi (¬ σ 86 0 = -1) + bi (¬ σ 86 1 = -1) + bi (¬ σ 86 2 = -1) + bi (¬ σ 86 3 = -1) ∧ 0 + bi (¬ σ 86 0 = -1) + bi (¬ σ 86 1 = -1) + bi (¬ σ 86 2 = -1) + bi (¬ σ 86 3 = -1) < 2147483648
    omega
theorem c242 {d : Nat} {Q : aQ} {σ : aW} (k : Q (some (vi (0 + bi (¬ σ 97 0 < 0) + bi (¬ σ 97 1 < 0) + bi (¬ σ 97 2 < 0) + bi (¬ σ 97 3 < 0)))) σ) : Yx (d + 1) cd242 1 Q 120 [vr 96, vt, vi 0, vi 0] [] σ := by
  have b0 := bi_le (p := ¬ σ 97 0 < 0)
  have b1 := bi_le (p := ¬ σ 97 1 < 0)
  have b2 := bi_le (p := ¬ σ 97 2 < 0)
  have b3 := bi_le (p := ¬ σ 97 3 < 0)
  refine b242_120 ⟨fun z => absurd z (by decide), fun _ => ⟨by decide, by omega, by decide, b242_120 ⟨fun z => absurd z (by decide), fun _ => ⟨by decide, ?_, by decide, b242_120 ⟨fun z => absurd z (by decide), fun _ => ⟨by decide, ?_, by decide, b242_120 ⟨fun z => absurd z (by decide), fun _ => ⟨by decide, ?_, by decide, b242_120 ⟨fun _ => k, fun z => absurd (by decide) z⟩⟩⟩⟩⟩⟩⟩⟩⟩
  · show -2147483648 ≤ 0 + bi (¬ σ 97 0 < 0) + bi (¬ σ 97 1 < 0) ∧ 0 + bi (¬ σ 97 0 < 0) + bi (¬ σ 97 1 < 0) < 2147483648
    omega
  · show -2147483648 ≤ 0 + bi (¬ σ 97 0 < 0) + bi (¬ σ 97 1 < 0) + bi (¬ σ 97 2 < 0) ∧ 0 + bi (¬ σ 97 0 < 0) + bi (¬ σ 97 1 < 0) + bi (¬ σ 97 2 < 0) < 2147483648
    omega
  · show -2147483648 ≤ 0 + bi (¬ σ 97 0 < 0) + bi (¬ σ 97 1 < 0) + bi (¬ σ 97 2 < 0) + bi (¬ σ 97 3 < 0) ∧ 0 + bi (¬ σ 97 0 < 0) + bi (¬ σ 97 1 < 0) + bi (¬ σ 97 2 < 0) + bi (¬ σ 97 3 < 0) < 2147483648
    omega
theorem t_count {σ : aW} {a1 : Int} (hN : INet σ) (hP : IPl σ) (hS : ISt 63 σ) (hA : IAr σ) (hM : IMt σ) (hb : σ 45 0 = σ 96 8) (hr : σ 25 0 = σ 96 39) (ht : σ 32 0 = σ 96 37) : aEv 59 true 138 [vr 0, vi a1] σ (fun r s => aEv 59 true 242 [vr 96, vi a1] s (Tp Tn [] [(96, 0)] σ r)) := by
  have hn := hN.1
  unfold Nn at hn
  have hc := hS.2.1
  unfold Sc at hc
  have hm := hM.1
  obtain ⟨ha1, ha2, ha3, ha4, ha5⟩ := hA
  have hp : ∀ i, 0 ≤ i → i < 4 → bi (¬ σ 97 i < 0) = bi (¬ σ 86 i = -1) := fun i i0 i1 => bi_c (by have := hP i i0 i1; omega)
  refine e138 (b138_0 ?_)
  by_cases h9 : a1 = 9
  · (repeat' first | with_reducible apply And.intro | with_reducible intro _)
    all_goals first | omega | skip
    refine c49 (d := 58) ⟨_, rfl, b138_146_1 ?_⟩
    refine e242 (b242_0 ?_)
    (repeat' first | with_reducible apply And.intro | with_reducible intro _)
    all_goals first | omega | skip
    refine c242 (d := 58) (Tn_e ?_)
    simp only [sw_n (show (97 : Nat) ≠ 96 by decide)]
    rw [hp 0 (by decide) (by decide), hp 1 (by decide) (by decide), hp 2 (by decide) (by decide), hp 3 (by decide) (by decide)]
  · (repeat' first | with_reducible apply And.intro | with_reducible intro _)
    all_goals first | omega | skip
    all_goals (refine e242 (b242_0 ?_); (repeat' first | with_reducible apply And.intro | with_reducible intro _))
    all_goals first | omega | exact Tn_r | skip
    all_goals first | (refine Tn_e ?_; simp only [hn, hc, hm, hb, hr, ht]; done) | skip
    refine Tn_e ?_
    rw [(ha5 (σ 120 2532) (Int.le_refl _) (by omega)).1, hc.1]
end
