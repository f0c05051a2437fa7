section
/-! calls that only read, and small ones -/
def IDp (σ : aW) : Prop := σ 51 0 = σ 96 12 ∧ 0 ≤ σ 96 12 ∧ σ 96 12 ≤ 1000000 ∧ σ 51 1 = σ 96 13 ∧ 1 ≤ σ 96 13 ∧ σ 96 13 ≤ 200000 ∧ σ 96 12 / σ 96 13 ≤ 40 ∧ σ 51 2 = σ 96 44 ∧ (σ 96 44 = 0 ∨ σ 96 44 = 1) ∧ σ 51 3 = σ 96 43 ∧ 0 ≤ σ 96 43 ∧ σ 96 43 ≤ 24 ∧ σ 51 5 = σ 96 42 ∧ 0 ≤ σ 96 42 ∧ σ 96 42 ≤ 5000 ∧ (∀ k, 0 ≤ k → k < σ 96 43 → σ 52 k = σ 125 k ∧ 0 ≤ σ 125 k ∧ σ 125 k ≤ 1000000)
def IAh (σ : aW) : Prop := ((σ 0 15 = -1 ∧ σ 96 79 = 0) ∨ σ 0 15 = σ 96 79) ∧ 0 ≤ σ 96 79 ∧ σ 96 79 ≤ σ 96 7 ∧ (∀ h, 0 ≤ h → h < σ 96 79 → σ 94 h = σ 140 h ∧ σ 95 h = σ 141 h)
def IMt (σ : aW) : Prop := σ 89 0 = σ 96 9 ∧ 0 ≤ σ 96 9 ∧ σ 96 9 ≤ 200 ∧ (∀ i, 0 ≤ i → i < σ 96 9 → σ 90 i = 2 * σ 116 i + σ 117 i ∧ σ 91 i = σ 118 i ∧ σ 92 i = σ 119 i ∧ 0 ≤ σ 116 i ∧ σ 116 i < 20 ∧ 0 ≤ σ 117 i ∧ σ 117 i ≤ 1 ∧ 0 ≤ σ 118 i ∧ σ 118 i ≤ 5048 ∧ 0 ≤ σ 119 i ∧ σ 119 i ≤ 1000)
def Tn : aW → Prop := fun _ => True
theorem Tn_r {σ : aW} {r : Option aV} : Tp Tn [] [(96, 0)] σ r r (sw σ 96 (fu (σ 96) 0 0)) := ⟨rfl, trivial, Fg_f Fg_r (by decide)⟩
theorem Tn_e {σ : aW} {r r' : Option aV} (h : r' = r) : Tp Tn [] [(96, 0)] σ r r' (sw σ 96 (fu (σ 96) 0 0)) := ⟨h, trivial, Fg_f Fg_r (by decide)⟩
theorem t_fault {σ : aW} (h : σ 32 1 = σ 96 38) : aEv 59 true 120 [vr 0] σ (fun r s => aEv 59 true 197 [vr 96] s (Tp Tn [] [(96, 0)] σ r)) := by
  refine e120 (b120_0 (e197 (b197_0 (Tn_e ?_))))
  rw [h]
theorem t_planned {σ : aW} {a1 : Int} (hI : IDp σ) : aEv 59 true 130 [vr 0, vi a1] σ (fun r s => aEv 59 true 233 [vr 96, vi a1] s (Tp Tn [] [(96, 0)] σ r)) := by
  obtain ⟨_, _, _, _, _, _, _, _, _, h1, h2, h3, _, _, _, h4⟩ := hI
  refine e130 (b130_0 ⟨by omega, fun _ => by omega, e233 (b233_0 ⟨by omega, fun _ => by omega, Tn_e ?_⟩)⟩)
  rw [h1]
  by_cases c : 0 ≤ a1 ∧ a1 ≤ σ 96 43 - 1
  · rw [if_neg (fun z => z c), if_neg (fun z => z c), (h4 a1 c.1 (by omega)).1]
  · rw [if_pos c, if_pos c]
theorem t_aheadOf {σ : aW} {a1 a2 : Int} (hN : INet σ) (hI : IAh σ) : aEv 59 true 123 [vr 0, vi a1, vi a2] σ (fun r s => aEv 59 true 225 [vr 96, vi a1, vi a2] s (Tp Tn [] [(96, 0)] σ r)) := by
  obtain ⟨h1, h2, h3, h4⟩ := hI
  have hn := hN.1
  unfold Nn at hn
  refine e123 (b123_0 ?_)
  (repeat' first | with_reducible apply And.intro | with_reducible intro _)
  all_goals first | omega | skip
  all_goals (refine e225 (b225_0 ?_); (repeat' first | with_reducible apply And.intro | with_reducible intro _))
  all_goals first | omega | exact Tn_r | skip
  refine Tn_e ?_
  have := h4 a1 (by omega) (by omega)
  rw [this.1, this.2]
theorem t_unit {σ : aW} {a1 a2 a3 : Int} (hN : INet σ) (hU : Su 64 σ) : aEv 59 true 133 [vr 0, vi a1, vi a2, vi a3] σ (fun r s => aEv 59 true 237 [vr 96, vi a1, vi a2, vi a3] s (Tp Tn [] [(96, 0)] σ r)) := by
  obtain ⟨hn, hp, hb, hw, hh⟩ := hN
  unfold Nn at hn
  refine e133 (b133_0 ?_)
  by_cases c : 0 ≤ a1 ∧ a1 < σ 1 1
  · have hq := hp a1 c.1 (by omega)
    unfold Np at hq
    (repeat' first | with_reducible apply And.intro | with_reducible intro _)
    all_goals first | omega | skip
    · refine e237 (b237_0 ?_)
      (repeat' first | with_reducible apply And.intro | with_reducible intro _)
      all_goals first | omega | exact Tn_r
    · have hu := hU a1 c.1 (by omega) a2 (by omega) (by omega)
      rcases (show a3 = 0 ∨ a3 = 1 by omega) with e | e
      · subst e
        refine e237 (b237_0 ?_)
        simp only [not_true_eq_false, if_false]
        (repeat' first | with_reducible apply And.intro | with_reducible intro _)
        all_goals first | omega | skip
        all_goals try rw [Int.zero_add]
        all_goals first | omega | exact Tn_e (by rw [hu.1])
      · subst e
        refine e237 (b237_0 ?_)
        simp only [show (¬ (1 : Int) = 0) = True by simp, if_true]
        (repeat' first | with_reducible apply And.intro | with_reducible intro _)
        all_goals first | omega | exact Tn_e (by rw [hu.2.1])
    · refine e237 (b237_0 ?_)
      (repeat' first | with_reducible apply And.intro | with_reducible intro _)
      all_goals first | omega | exact Tn_r
  · (repeat' first | with_reducible apply And.intro | with_reducible intro _)
    all_goals first | omega | skip
    refine e237 (b237_0 ?_)
    (repeat' first | with_reducible apply And.intro | with_reducible intro _)
    all_goals first | omega | exact Tn_r
theorem t_sums {σ : aW} {a1 a2 : Int} (hN : INet σ) (hS : ISt 63 σ) : aEv 59 true 135 [vr 0, vi a1, vi a2] σ (fun r s => aEv 59 true 239 [vr 96, vi a1, vi a2] s (Tp Tn [] [(96, 0)] σ r)) := by
  have hn := hN.1
  unfold Nn at hn
  refine e135 (b135_0 ?_)
  by_cases c : 0 ≤ a1 ∧ a1 < σ 1 2
  · have hh := hS.2.2.1 a1 c.1 (by omega)
    simp only [Sh, Nat.reduceAdd] at hh
    (repeat' first | with_reducible apply And.intro | with_reducible intro _)
    all_goals first | omega | skip
    all_goals (refine e239 (b239_0 ?_); (repeat' first | with_reducible apply And.intro | with_reducible intro _))
    all_goals first | omega | exact Tn_r | (refine Tn_e ?_; simp [*]; done)
  · (repeat' first | with_reducible apply And.intro | with_reducible intro _)
    all_goals first | omega | skip
    refine e239 (b239_0 ?_)
    (repeat' first | with_reducible apply And.intro | with_reducible intro _)
    all_goals first | omega | exact Tn_r
theorem t_houseOf {σ : aW} {a1 a2 : Int} (hN : INet σ) (hS : ISt 63 σ) : aEv 59 true 134 [vr 0, vi a1, vi a2] σ (fun r s => aEv 59 true 238 [vr 96, vi a1, vi a2] s (Tp Tn [] [(96, 0)] σ r)) := by
  obtain ⟨hn, hp, hb, hw, hh⟩ := hN
  unfold Nn at hn
  refine e134 (b134_0 ?_)
  by_cases c : 0 ≤ a1 ∧ a1 < σ 1 2
  · have hs := hS.2.2.1 a1 c.1 (by omega)
    have hc := hS.2.1
    unfold Sc at hc
    simp only [Sh, Nat.reduceAdd] at hs
    have hq := hh a1 c.1 (by omega)
    unfold Nh at hq
    (repeat' first | with_reducible apply And.intro | with_reducible intro _)
    all_goals first | omega | skip
    all_goals (refine e238 (b238_0 ?_); (repeat' first | with_reducible apply And.intro | with_reducible intro _))
    all_goals first | omega | exact Tn_r | skip
    all_goals refine Tn_e ?_
    all_goals first | (rw [hq.1]; done) | (rw [hq.2.1]; done) | (rw [hq.2.2.1]; done) | (rw [hs.1]; done) | (rw [hs.2.2.2.2.2.2.2.1]; done) | skip
    by_cases e : σ 66 a1 = 0
    · rw [if_neg (fun z => z e), hs.2.2.2.1 (by omega)]
    · rw [if_pos e, hs.2.2.2.2.1 (by omega)]
  · (repeat' first | with_reducible apply And.intro | with_reducible intro _)
    all_goals first | omega | skip
    refine e238 (b238_0 ?_)
    (repeat' first | with_reducible apply And.intro | with_reducible intro _)
    all_goals first | omega | exact Tn_r
theorem t_pipeOf {σ : aW} {a1 a2 : Int} (hN : INet σ) (hS : ISt 63 σ) : aEv 59 true 136 [vr 0, vi a1, vi a2] σ (fun r s => aEv 59 true 240 [vr 96, vi a1, vi a2] s (Tp Tn [] [(96, 0)] σ r)) := by
  obtain ⟨hn, hp, hb, hw, hh⟩ := hN
  unfold Nn at hn
  refine e136 (b136_0 ?_)
  by_cases c : 0 ≤ a1 ∧ a1 < σ 1 1
  · have hs := hS.2.2.2.1 a1 c.1 (by omega)
    simp only [Sp, Nat.reduceAdd] at hs
    have hq := hp a1 c.1 (by omega)
    unfold Np at hq
    have hb1 := hb a1 c.1 (by omega)
    unfold Nb at hb1
    have hw1 := hw (2 * a1) (by omega) (by omega)
    have hw2 := hw (2 * a1 + 1) (by omega) (by omega)
    unfold Nv at hw1 hw2
    (repeat' first | with_reducible apply And.intro | with_reducible intro _)
    all_goals first | omega | skip
    all_goals (refine e240 (b240_0 ?_); (repeat' first | with_reducible apply And.intro | with_reducible intro _))
    all_goals first | omega | exact Tn_r | skip
    all_goals refine Tn_e ?_
    all_goals first | (rw [hq.1]; done) | (rw [hq.2.1]; done) | (rw [hq.2.2.1]; done) | (rw [hq.2.2.2.1]; done) | (rw [hq.2.2.2.2.1]; done) | (rw [hs.1]; done) | (simp only [hb1.1, hw1.2.2.1, hw2.2.2.1]; done)
  · (repeat' first | with_reducible apply And.intro | with_reducible intro _)
    all_goals first | omega | skip
    refine e240 (b240_0 ?_)
    (repeat' first | with_reducible apply And.intro | with_reducible intro _)
    all_goals first | omega | exact Tn_r
theorem t_store {σ : aW} {a1 a2 : Int} (hD : IDp σ) (hS : ISt 63 σ) (h0 : σ 120 2532 = 0 → σ 120 2533 = 0) : aEv 59 true 115 [vr 0, vi a1, vi a2] σ (fun r s => aEv 59 true 175 [vr 96, vi a1, vi a2] s (Tp (fun t => IDp t ∧ (σ 120 2533 = 0 ∨ (t 96 12 = σ 96 12 ∧ t 96 13 = σ 96 13)) ∧ (σ 96 44 = 0 ∨ (t 96 12 = σ 96 12 ∧ t 96 13 = σ 96 13))) [] [(51, 0), (51, 1), (96, 0), (96, 12), (96, 13)] σ r)) := by
  have hr : ∀ r : Option aV, Tp (fun t => IDp t ∧ (σ 120 2533 = 0 ∨ (t 96 12 = σ 96 12 ∧ t 96 13 = σ 96 13)) ∧ (σ 96 44 = 0 ∨ (t 96 12 = σ 96 12 ∧ t 96 13 = σ 96 13))) [] [(51, 0), (51, 1), (96, 0), (96, 12), (96, 13)] σ r r (sw σ 96 (fu (σ 96) 0 0)) := fun r => ⟨rfl, ⟨hD, Or.inr ⟨rfl, rfl⟩, Or.inr ⟨rfl, rfl⟩⟩, Fg_f Fg_r (by decide)⟩
  have hc := hS.2.1
  unfold Sc at hc
  have hD' := hD
  obtain ⟨h1, h2, h3, h4, h5, h6, h7, h8, h9, h10, h11, h12, h13, h14, h15, h16⟩ := hD'
  refine e115 (b115_0 ?_)
  (repeat' first | with_reducible apply And.intro | with_reducible intro _)
  all_goals first | omega | skip
  all_goals (refine e175 (b175_0 ?_); (repeat' first | with_reducible apply And.intro | with_reducible intro _))
  all_goals first | omega | exact hr _ | (simp only [sw_n (show (120 : Nat) ≠ 51 by decide), sw_n (show (96 : Nat) ≠ 51 by decide)] at *; omega) | skip
  refine ⟨rfl, ⟨?_, Or.inl (h0 (by omega)), Or.inl (by omega)⟩, Fg_f (Fg_f (Fg_f (Fg_f (Fg_f Fg_r (by decide)) (by decide)) (by decide)) (by decide)) (by decide)⟩
  unfold IDp
  simp only [sw, fu, Nat.reduceEqDiff, if_true, if_false, Int.reduceEq]
  refine ⟨trivial, ?_, ?_, trivial, ?_, ?_, ?_, h8, h9, h10, h11, h12, h13, h14, h15, h16⟩
  all_goals omega
theorem t_end {σ : aW} {a1 : Int} (h : σ 32 0 = σ 96 37 ∧ 0 ≤ σ 96 37 ∧ σ 96 37 ≤ 300) : aEv 59 true 118 [vr 0, vi a1] σ (fun r s => aEv 59 true 178 [vr 96, vi a1] s (Tp (fun t => t 32 0 = t 96 37 ∧ 0 ≤ t 96 37 ∧ t 96 37 ≤ σ 96 37) [] [(32, 0), (96, 0), (96, 37)] σ r)) := by
  refine e118 (b118_0 ?_)
  (repeat' first | with_reducible apply And.intro | with_reducible intro _)
  all_goals (refine e178 (b178_0 ?_); (repeat' first | with_reducible apply And.intro | with_reducible intro _))
  all_goals first | omega | skip
  · refine ⟨rfl, ?_, Fg_f (Fg_f (Fg_f Fg_r (by decide)) (by decide)) (by decide)⟩
    simp [sw, fu]
    omega
  · rename_i h3 h4
    simp only [sw_n (show (96 : Nat) ≠ 32 by decide)] at h4
    omega
  · refine ⟨rfl, ?_, Fg_f Fg_r (by decide)⟩
    simp [sw, fu]
    omega
theorem t_meter {σ : aW} {a1 a2 a3 a4 : Int} (hN : INet σ) (hS : ISt 63 σ) (hM : IMt σ) : aEv 59 true 131 [vr 0, vi a1, vi a2, vi a3, vi a4] σ (fun r s => aEv 59 true 234 [vr 96, vi a1, vi a2, vi a3, vi a4] s (Tp IMt [90, 91, 92, 116, 117, 118, 119] [(89, 0), (96, 0), (96, 9)] σ r)) := by
  have hr : ∀ r : Option aV, Tp IMt [90, 91, 92, 116, 117, 118, 119] [(89, 0), (96, 0), (96, 9)] σ r r (sw σ 96 (fu (σ 96) 0 0)) := fun r => ⟨rfl, hM, Fg_f Fg_r (by decide)⟩
  have hn := hN.1
  unfold Nn at hn
  have hc := hS.2.1
  unfold Sc at hc
  have hM' := hM
  obtain ⟨h1, h2, h3, h4⟩ := hM'
  refine e131 (b131_0 ?_)
  (repeat' first | with_reducible apply And.intro | with_reducible intro _)
  all_goals first | omega | (refine e234 (b234_0 ?_); (repeat' first | with_reducible apply And.intro | with_reducible intro _); all_goals first | omega | exact hr _) | skip
  refine e27 (b27_0 ⟨by omega, by omega, by omega, by omega, _, rfl, b131_85_1 ?_⟩)
  refine e234 (b234_0 ?_)
  simp only [sw_n (show (96 : Nat) ≠ 89 by decide), sw_n (show (96 : Nat) ≠ 90 by decide), sw_n (show (96 : Nat) ≠ 91 by decide), sw_n (show (96 : Nat) ≠ 92 by decide), sw_n (show (120 : Nat) ≠ 89 by decide), sw_n (show (120 : Nat) ≠ 90 by decide), sw_n (show (120 : Nat) ≠ 91 by decide), sw_n (show (120 : Nat) ≠ 92 by decide)]
  (repeat' first | with_reducible apply And.intro | with_reducible intro _)
  all_goals first | omega | skip
  refine ⟨?_, ⟨?_, ?_, ?_, ?_⟩, ?_⟩
  · rw [h1]
    congr 2
    omega
  · simp [sw, fu, h1]
  · simp [sw, fu]
    omega
  · simp [sw, fu]
    omega
  · intro i i0 i1
    have i1' : i < σ 96 9 + 1 := by simpa [sw, fu] using i1
    simp only [sw, fu, Nat.reduceEqDiff, if_true, if_false]
    rw [h1]
    by_cases e : i = σ 96 9
    · simp [e]
      omega
    · simpa [e] using h4 i i0 (by omega)
  · exact Fg_f (Fg_w (Fg_w (Fg_w (Fg_w (Fg_f (Fg_f (Fg_w (Fg_w (Fg_w Fg_r (by decide)) (by decide)) (by decide)) (by decide)) (by decide)) (by decide)) (by decide)) (by decide)) (by decide)) (by decide)
end
