section
/-! flows: what goes into a node goes out of it -/
def hDf (ν : aW) (f : Int → Int) (n : Int) : Int := sI (fun p => f p * (bi (ν 101 p = n) - bi (ν 102 p = n))) (ν 96 6).toNat
theorem hDf_u {ν : aW} {f : Int → Int} {n p v : Int} (p0 : 0 ≤ p) (p1 : p < ν 96 6) : hDf ν (fu f p v) n = hDf ν f n + (v - f p) * (bi (ν 101 p = n) - bi (ν 102 p = n)) := by
  unfold hDf
  have e : (fun q => fu f p v q * (bi (ν 101 q = n) - bi (ν 102 q = n))) = fu (fun q => f q * (bi (ν 101 q = n) - bi (ν 102 q = n))) p (v * (bi (ν 101 p = n) - bi (ν 102 p = n))) := by
    funext q
    by_cases z : q = p
    · rw [z, fu_s, fu_s]
    · rw [fu_n z, fu_n z]
  rw [e, sI_fu p0 (by omega), Int.sub_mul]
  omega
theorem wL_D {ν : aW} {f : Int → Int} {t u n : Int} (hN : wN ν) (t0 : 0 ≤ t) (t1 : t < ν 96 5) (hf : wDs ν f t 0 < 1000000) : ∀ i : Nat, i ≤ wK ν f t → hDf ν (wL ν f t u i) n = hDf ν f n + u * (bi (wV ν f t 0 = n) - bi (wV ν f t i = n))
  | 0, _ => by
    show hDf ν f n = _
    rw [Int.sub_self, Int.mul_zero, Int.add_zero]
  | i + 1, h => by
    obtain ⟨a1, a2, a3⟩ := wI_ok hN t0 t1 hf (show i < wK ν f t by omega)
    have ih := wL_D (u := u) (n := n) hN t0 t1 hf i (by omega)
    have hc := a1.2.2.1.1
    unfold wC at hc
    have e : wL ν f t u (i + 1) = fu (wL ν f t u i) (wI ν f t i) (wL ν f t u i (wI ν f t i) + (if ¬ ν 101 (wI ν f t i) = wV ν f t i then -u else u)) := rfl
    rw [e, hDf_u a1.1 a1.2.1, ih, a2]
    have hw : wO ν (wI ν f t i) (wV ν f t i) = if ν 101 (wI ν f t i) = wV ν f t i then ν 102 (wI ν f t i) else ν 101 (wI ν f t i) := rfl
    rw [hw]
    generalize wL ν f t u i (wI ν f t i) = x
    generalize wI ν f t i = p at *
    by_cases z : ν 101 p = wV ν f t i
    · rw [if_neg (fun q => q z), if_pos z, show x + u - x = u by omega, z, Int.mul_sub, Int.mul_sub, Int.mul_sub]
      omega
    · have z2 : ν 102 p = wV ν f t i := by omega
      rw [if_pos z, if_neg z, show x + -u - x = -u by omega, z2, Int.mul_sub, Int.mul_sub, Int.mul_sub, Int.neg_mul, Int.neg_mul]
      omega
/-- a step of serving -/
theorem wSp_D {ν : aW} {t w n : Int} {s : wSt} (hN : wN ν) (t0 : 0 ≤ t) (t1 : t < ν 96 5) (h : ¬ wStop ν t w s) : hDf ν (wSp ν t w s).1 n = hDf ν s.1 n + ((wSp ν t w s).2.1 - s.2.1) * (bi (0 = n) - bi (t = n)) := by
  have b := wUn_b hN t0 t1 h
  have e := wL_D (u := wUn ν t w s) (n := n) hN t0 t1 b.1 (wK ν s.1 t) (Nat.le_refl _)
  have k := wK_ok hN t0 t1 b.1
  rw [k.1] at e
  show hDf ν (wL ν s.1 t (wUn ν t w s) (wK ν s.1 t)) n = hDf ν s.1 n + (s.2.1 + wUn ν t w s - s.2.1) * (bi (0 = n) - bi (t = n))
  rw [e, show s.2.1 + wUn ν t w s - s.2.1 = wUn ν t w s by omega]
  rfl
/-- nothing flows to the plant -/
def hP0 (ν : aW) (f : Int → Int) : Prop := ∀ p, 0 ≤ p → p < ν 96 6 → (ν 101 p = 0 → 0 ≤ f p) ∧ (ν 102 p = 0 → f p ≤ 0)
theorem wL_P {ν : aW} {f : Int → Int} {t u : Int} (hN : wN ν) (t0 : 0 ≤ t) (t1 : t < ν 96 5) (hf : wDs ν f t 0 < 1000000) (hu : 0 ≤ u) (h0 : hP0 ν f) : ∀ i : Nat, i ≤ wK ν f t → hP0 ν (wL ν f t u i)
  | 0, _ => h0
  | i + 1, h => by
    obtain ⟨a1, a2, a3⟩ := wI_ok hN t0 t1 hf (show i < wK ν f t by omega)
    have ih := wL_P (u := u) hN t0 t1 hf hu h0 i (by omega)
    have hc := a1.2.2.1.1
    have hp := hN.2.2.2.2 _ a1.1 a1.2.1
    unfold wC at hc
    have e : wL ν f t u (i + 1) = fu (wL ν f t u i) (wI ν f t i) (wL ν f t u i (wI ν f t i) + (if ¬ ν 101 (wI ν f t i) = wV ν f t i then -u else u)) := rfl
    have hw : wO ν (wI ν f t i) (wV ν f t i) = if ν 101 (wI ν f t i) = wV ν f t i then ν 102 (wI ν f t i) else ν 101 (wI ν f t i) := rfl
    have nz : ¬ wV ν f t (i + 1) = 0 := fun z => by
      have d := wV_dec hN t0 t1 hf (i := 0) i (by omega)
      rw [show 0 + i + 1 = i + 1 by omega, z] at d
      have : wV ν f t 0 = 0 := rfl
      rw [this] at d
      omega
    rw [e]
    intro p p0 p1
    have hq := ih p p0 p1
    by_cases z : p = wI ν f t i
    · subst z
      rw [fu_s]
      rw [a2, hw] at nz
      by_cases y : ν 101 (wI ν f t i) = wV ν f t i
      · rw [if_neg (fun q => q y)]
        rw [if_pos y] at nz
        exact ⟨fun x => by have := hq.1 x; omega, fun x => absurd x nz⟩
      · rw [if_pos y]
        rw [if_neg y] at nz
        exact ⟨fun x => absurd x nz, fun x => by have := hq.2 x; omega⟩
    · rw [fu_n z]
      exact hq
theorem wSp_P {ν : aW} {t w : Int} {s : wSt} (hN : wN ν) (t0 : 0 ≤ t) (t1 : t < ν 96 5) (h : ¬ wStop ν t w s) (h0 : hP0 ν s.1) : hP0 ν (wSp ν t w s).1 := by
  have b := wUn_b hN t0 t1 h
  exact wL_P hN t0 t1 b.1 (by omega) h0 (wK ν s.1 t) (Nat.le_refl _)
theorem wSv_D {ν : aW} {t w n : Int} (hN : wN ν) (t0 : 0 ≤ t) (t1 : t < ν 96 5) : ∀ (k : Nat) (s : wSt), hP0 ν s.1 → hDf ν (wSv ν t w k s).1 n = hDf ν s.1 n + ((wSv ν t w k s).2.1 - s.2.1) * (bi (0 = n) - bi (t = n)) ∧ hP0 ν (wSv ν t w k s).1 ∧ s.2.1 ≤ (wSv ν t w k s).2.1
  | 0, s, h => by
    show hDf ν s.1 n = hDf ν s.1 n + (s.2.1 - s.2.1) * _ ∧ hP0 ν s.1 ∧ s.2.1 ≤ s.2.1
    refine ⟨?_, h, Int.le_refl _⟩
    rw [Int.sub_self, Int.zero_mul, Int.add_zero]
  | k + 1, s, h => by
    rcases Classical.em (wStop ν t w s) with hs | hs
    · rw [wSv_stop hs]
      refine ⟨?_, h, Int.le_refl _⟩
      rw [Int.sub_self, Int.zero_mul, Int.add_zero]
    · rw [wSv_go hs]
      have b := wUn_b hN t0 t1 hs
      obtain ⟨i1, i2, i3⟩ := wSv_D (n := n) (w := w) hN t0 t1 k (wSp ν t w s) (wSp_P hN t0 t1 hs h)
      have e : (wSp ν t w s).2.1 = s.2.1 + wUn ν t w s := rfl
      refine ⟨?_, i2, by omega⟩
      rw [i1, wSp_D hN t0 t1 hs, Int.sub_mul, Int.sub_mul, Int.sub_mul]
      omega
theorem wRs_D {ν : aW} {t w n : Int} {s : wSt} (hN : wN ν) (t0 : 0 ≤ t) (t1 : t < ν 96 5) (h : hP0 ν s.1) : hDf ν (wRs ν t w s).1 n = hDf ν s.1 n + ((wRs ν t w s).2.1 - s.2.1) * (bi (0 = n) - bi (t = n)) ∧ hP0 ν (wRs ν t w s).1 ∧ s.2.1 ≤ (wRs ν t w s).2.1 := wSv_D hN t0 t1 _ s h
/-- units of the houses of a node -/
def hHs (ν : aW) (g : Int → Int) (nH n : Int) : Int := sI (fun h => if ¬ ν 109 h = n then 0 else g h) nH.toNat
theorem hHs_u {ν : aW} {g : Int → Int} {nH n h v : Int} (h0 : 0 ≤ h) (h1 : h < nH) : hHs ν (fu g h v) nH n = hHs ν g nH n + (v - g h) * bi (ν 109 h = n) := by
  unfold hHs
  have e : (fun x => if ¬ ν 109 x = n then 0 else fu g h v x) = fu (fun x => if ¬ ν 109 x = n then 0 else g x) h (if ¬ ν 109 h = n then 0 else v) := by
    funext x
    by_cases z : x = h
    · rw [z, fu_s, fu_s]
    · rw [fu_n z, fu_n z]
  rw [e, sI_fu h0 (by omega)]
  by_cases y : ν 109 h = n
  · rw [if_neg (fun q => q y), if_neg (fun q => q y), bi_t y, Int.mul_one]
    omega
  · rw [if_pos y, if_pos y, bi_f y, Int.mul_zero]
    omega
/-- the flows of all houses: for a node that is not the plant -/
theorem wFS_D {ν : aW} {wf : Int → Int} {nH n : Int} (hN : wN ν) (hH : ∀ h, 0 ≤ h → h < nH → 1 ≤ ν 109 h ∧ ν 109 h < ν 96 5) (nz : ¬ n = 0) (hex : ∀ i, 0 ≤ i → i < nH → ∃ h, 0 ≤ h ∧ h < nH ∧ gF (ν 111) nH h = i) : ∀ i : Nat, (i : Int) ≤ nH → hDf ν (wFS ν wf nH i).1 n = -hHs ν (wFS ν wf nH i).2.1 nH n ∧ hP0 ν (wFS ν wf nH i).1 ∧ (∀ h, 0 ≤ h → h < nH → (i : Int) ≤ gF (ν 111) nH h → (wFS ν wf nH i).2.1 h = 0) ∧ (∀ h, 0 ≤ (wFS ν wf nH i).2.1 h)
  | 0, _ => by
    have e1 : hDf ν (fun _ => 0) n = 0 := by
      unfold hDf
      rw [sI_c (g := fun _ => 0) (fun i _ _ => Int.zero_mul _)]
      have := sI_b (f := fun _ => 0) (B := 0) (n := (ν 96 6).toNat) (fun i _ _ => ⟨Int.le_refl _, Int.le_refl _⟩)
      omega
    have e2 : hHs ν (fun _ => 0) nH n = 0 := by
      unfold hHs
      rw [sI_c (g := fun _ => 0) (fun i _ _ => by split <;> rfl)]
      have := sI_b (f := fun _ => 0) (B := 0) (n := nH.toNat) (fun i _ _ => ⟨Int.le_refl _, Int.le_refl _⟩)
      omega
    show hDf ν (fun _ => 0) n = -hHs ν (fun _ => 0) nH n ∧ hP0 ν (fun _ => 0) ∧ _ ∧ _
    exact ⟨by omega, fun p _ _ => ⟨fun _ => Int.le_refl _, fun _ => Int.le_refl _⟩, fun _ _ _ _ => rfl, fun _ => Int.le_refl _⟩
  | i + 1, hi => by
    obtain ⟨i1, i2, i3, i4⟩ := wFS_D (wf := wf) hN hH nz hex i (by omega)
    obtain ⟨h, h0, h1, h2⟩ := hex i (by omega) (by omega)
    have eh := wH_u h0 h1 h2
    have e : wFS ν wf nH (i + 1) = wOne ν wf (wFS ν wf nH i) h := by rw [eh]; rfl
    rw [e]
    have hh := hH h h0 h1
    obtain ⟨d1, d2, d3⟩ := wRs_D (n := n) (w := wf h) (s := ((wFS ν wf nH i).1, 0, fun _ => 0)) hN (show 0 ≤ ν 109 h by omega) hh.2 i2
    have g0 := i3 h h0 h1 (by omega)
    unfold wOne
    simp only at d1 d2 d3 ⊢
    generalize wRs ν (ν 109 h) (wf h) ((wFS ν wf nH i).1, 0, fun _ => 0) = T at d1 d2 d3
    refine ⟨?_, d2, fun x x0 x1 hx => ?_, fun x => ?_⟩
    · rw [hHs_u h0 h1, d1, i1, g0, bi_f (fun q => nz q.symm), Int.zero_sub, Int.mul_neg]
      omega
    · rw [fu_n (fun q => by rw [q, h2] at hx; omega)]
      exact i3 x x0 x1 (by omega)
    · by_cases z : x = h
      · rw [z, fu_s]
        exact d3
      · rw [fu_n z]
        exact i4 x
theorem wSo_ex {q : Int → Int} : ∀ n : Nat, ∃ o, wSo q o n
  | 0 => ⟨fun _ => 0, fun i i0 i1 => by omega, fun i j i0 ij j1 => by omega⟩
  | n + 1 => by
    obtain ⟨o, ho⟩ := wSo_ex (q := q) n
    have key : ∀ m : Nat, m ≤ n → (∀ j : Int, (m : Int) ≤ j → j < n → q (o j) < q n) → ∃ k : Int, 0 ≤ k ∧ k ≤ n ∧ (k = 0 ∨ q n ≤ q (o (k - 1))) ∧ ∀ j, k ≤ j → j < n → q (o j) < q n := by
      intro m
      induction m with
      | zero => exact fun _ h => ⟨0, Int.le_refl _, by omega, Or.inl rfl, fun j j0 j1 => h j (by omega) j1⟩
      | succ m ih =>
        intro hm h
        by_cases z : q (o m) < q n
        · refine ih (by omega) (fun j j0 j1 => ?_)
          by_cases e : j = m
          · rw [e]; exact z
          · exact h j (by omega) j1
        · refine ⟨((m + 1 : Nat) : Int), by omega, by omega, Or.inr ?_, fun j j0 j1 => h j j0 j1⟩
          rw [show ((m + 1 : Nat) : Int) - 1 = m by omega]
          omega
    obtain ⟨k, k0, k1, b1, b2⟩ := key n (Nat.le_refl _) (fun j j0 j1 => by omega)
    refine ⟨fun j => if j < k then o j else if j = k then n else o (j - 1), ?_⟩
    have := wSo_a (o' := fun j => if j < k then o j else if j = k then n else o (j - 1)) ho k0 k1 (fun j j0 j1 => if_pos j1) (by show (if k < k then o k else if k = k then (n : Int) else o (k - 1)) = n; rw [if_neg (by omega), if_pos rfl]) (fun j j0 j1 => by show (if j < k then o j else if j = k then (n : Int) else o (j - 1)) = o (j - 1); rw [if_neg (by omega), if_neg (by omega)]) b1 b2
    rw [show ((n + 1 : Nat) : Int) = (n : Int) + 1 by omega]
    exact this
theorem gF_ex {q : Int → Int} {n i : Int} (i0 : 0 ≤ i) (i1 : i < n) : ∃ h, 0 ≤ h ∧ h < n ∧ gF q n h = i := by
  obtain ⟨o, ho⟩ := wSo_ex (q := q) n.toNat
  rw [show ((n.toNat : Nat) : Int) = n by omega] at ho
  have a := ho.1 i i0 i1
  exact ⟨o i, a.1, a.2, gF_o ho.1 (fun i j i0 ij j1 => by have := ho.2 i j i0 ij j1; unfold wBf at this; omega) i0 i1⟩
/-- what is true of the flows of a net -/
theorem wRes_D {σ : aW} {a dr : Int} (hN : INet σ) : (∀ n, ¬ n = 0 → hDf (fN σ) (wRes σ a dr).1 n = -hHs (fN σ) (wRes σ a dr).2.1 (σ 96 7) n) ∧ hP0 (fN σ) (wRes σ a dr).1 ∧ ∀ h, 0 ≤ (wRes σ a dr).2.1 h := by
  have hW := wN_of hN
  have hn := hN.1
  unfold Nn at hn
  have hH : ∀ h, 0 ≤ h → h < σ 96 7 → 1 ≤ fN σ 109 h ∧ fN σ 109 h < fN σ 96 5 := fun h h0 h1 => by
    have := hN.2.2.2.2 h h0 h1
    unfold Nh at this
    rw [fN_k (k := 109) (by omega), fN_5]
    omega
  have e : (((σ 96 7).toNat : Nat) : Int) ≤ σ 96 7 := by omega
  have key := fun n (nz : ¬ n = 0) => wFS_D (wf := wWf σ a dr) (n := n) hW hH nz (fun i i0 i1 => gF_ex i0 i1) (σ 96 7).toNat e
  exact ⟨fun n nz => (key n nz).1, (key 1 (by decide)).2.1, (key 1 (by decide)).2.2.2⟩
end
