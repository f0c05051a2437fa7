section
/-! flows: a house's share of a pipe is no more than what flows in it -/
theorem wT_S {ν : aW} {f q : Int → Int} {t u : Int} (hN : wN ν) (t0 : 0 ≤ t) (t1 : t < ν 96 5) (hf : wDs ν f t 0 < 1000000) (hu : 0 ≤ u) : ∀ i : Nat, i ≤ wK ν f t → ∀ p, ((wL ν f t u i p).natAbs : Int) = ((f p).natAbs : Int) + (wT ν f t u q i p - q p) ∧ 0 ≤ wT ν f t u q i p - q p
  | 0, _ => fun p => by
    show ((f p).natAbs : Int) = ((f p).natAbs : Int) + (q p - q p) ∧ 0 ≤ q p - q p
    omega
  | i + 1, h => fun p => by
    obtain ⟨a1, a2, a3⟩ := wI_ok hN t0 t1 hf (show i < wK ν f t by omega)
    have ih := wT_S (q := q) hN t0 t1 hf hu i (by omega) p
    have hc := a1.2.2.1.1
    have hp := hN.2.2.2.2 _ a1.1 a1.2.1
    unfold wC at hc
    have e0 := wL_new (u := u) hN t0 t1 hf (show i < wK ν f t by omega)
    have e : wL ν f t u (i + 1) = fu (wL ν f t u i) (wI ν f t i) (wL ν f t u i (wI ν f t i) + (if ¬ ν 101 (wI ν f t i) = wV ν f t i then -u else u)) := rfl
    have e' : wT ν f t u q (i + 1) = fu (wT ν f t u q i) (wI ν f t i) (wT ν f t u q i (wI ν f t i) + u) := rfl
    rw [e, e']
    by_cases z : p = wI ν f t i
    · subst z
      rw [fu_s, fu_s, e0]
      rw [e0] at ih
      by_cases y : ν 101 (wI ν f t i) = wV ν f t i
      · rw [if_neg (fun w => w y)]
        omega
      · rw [if_pos y]
        omega
    · rw [fu_n z, fu_n z]
      exact ih
theorem wSv_S {ν : aW} {t w : Int} (hN : wN ν) (t0 : 0 ≤ t) (t1 : t < ν 96 5) : ∀ (k : Nat) (s : wSt) (p : Int), (((wSv ν t w k s).1 p).natAbs : Int) = ((s.1 p).natAbs : Int) + ((wSv ν t w k s).2.2 p - s.2.2 p) ∧ 0 ≤ (wSv ν t w k s).2.2 p - s.2.2 p
  | 0, s, p => by
    show ((s.1 p).natAbs : Int) = ((s.1 p).natAbs : Int) + (s.2.2 p - s.2.2 p) ∧ 0 ≤ s.2.2 p - s.2.2 p
    omega
  | k + 1, s, p => by
    rcases Classical.em (wStop ν t w s) with hs | hs
    · rw [wSv_stop hs]
      omega
    · rw [wSv_go hs]
      have b := wUn_b hN t0 t1 hs
      have i1 := wSv_S (w := w) hN t0 t1 k (wSp ν t w s) p
      have i2 := wT_S (u := wUn ν t w s) (q := s.2.2) hN t0 t1 b.1 (by omega) (wK ν s.1 t) (Nat.le_refl _) p
      have e1 : (wSp ν t w s).1 = wL ν s.1 t (wUn ν t w s) (wK ν s.1 t) := rfl
      have e2 : (wSp ν t w s).2.2 = wT ν s.1 t (wUn ν t w s) s.2.2 (wK ν s.1 t) := rfl
      rw [e1, e2] at i1
      omega
theorem wFS_S {ν : aW} {wf : Int → Int} {nH : Int} (hN : wN ν) (hH : ∀ h, 0 ≤ h → h < nH → 1 ≤ ν 109 h ∧ ν 109 h < ν 96 5) : ∀ i : Nat, (i : Int) ≤ nH → ∀ h p, 0 ≤ (wFS ν wf nH i).2.2 h p ∧ (wFS ν wf nH i).2.2 h p ≤ (((wFS ν wf nH i).1 p).natAbs : Int)
  | 0, _ => fun h p => by
    show (0 : Int) ≤ 0 ∧ (0 : Int) ≤ (((0 : Int)).natAbs : Int)
    omega
  | i + 1, hi => fun x p => by
    have ih := wFS_S (wf := wf) hN hH i (by omega) x p
    obtain ⟨h, h0, h1, h2⟩ := gF_ex (q := ν 111) (n := nH) (i := i) (by omega) (by omega)
    have eh := wH_u h0 h1 h2
    have e : wFS ν wf nH (i + 1) = wOne ν wf (wFS ν wf nH i) h := by rw [eh]; rfl
    rw [e]
    have hh := hH h h0 h1
    have d := wSv_S (w := wf h) hN (show 0 ≤ ν 109 h by omega) hh.2 (wf h - 0).toNat ((wFS ν wf nH i).1, 0, fun _ => 0) p
    have er : wSv ν (ν 109 h) (wf h) (wf h - 0).toNat ((wFS ν wf nH i).1, 0, fun _ => 0) = wRs ν (ν 109 h) (wf h) ((wFS ν wf nH i).1, 0, fun _ => 0) := rfl
    rw [er] at d
    unfold wOne
    simp only at d ⊢
    generalize wRs ν (ν 109 h) (wf h) ((wFS ν wf nH i).1, 0, fun _ => 0) = T at d
    by_cases z : x = h
    · rw [if_pos z]
      omega
    · rw [if_neg z]
      omega
theorem wRes_S {σ : aW} {a dr : Int} (hN : INet σ) (h p : Int) : 0 ≤ (wRes σ a dr).2.2 h p ∧ (wRes σ a dr).2.2 h p ≤ (((wRes σ a dr).1 p).natAbs : Int) := by
  have hn := hN.1
  unfold Nn at hn
  refine wFS_S (wf := wWf σ a dr) (wN_of hN) (fun h h0 h1 => ?_) (σ 96 7).toNat (by omega) h p
  have := hN.2.2.2.2 h h0 h1
  unfold Nh at this
  rw [fN_k (k := 109) (by omega), fN_5]
  omega
end
