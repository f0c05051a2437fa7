section
/-! flows: distances -/
def fN (σ : aW) : aW := fun k i => if k = 96 then (if i = 5 ∨ i = 6 then σ 96 i else 0) else if k = 101 ∨ k = 102 ∨ k = 103 ∨ k = 104 ∨ k = 107 ∨ k = 108 ∨ k = 109 ∨ k = 111 then σ k i else 0
theorem fN_5 {σ : aW} : fN σ 96 5 = σ 96 5 := by simp [fN]
theorem fN_6 {σ : aW} : fN σ 96 6 = σ 96 6 := by simp [fN]
theorem fN_k {σ : aW} {k : Nat} (h : k = 101 ∨ k = 102 ∨ k = 103 ∨ k = 104 ∨ k = 107 ∨ k = 108 ∨ k = 109 ∨ k = 111) : fN σ k = σ k := by
  funext i
  unfold fN
  rw [if_neg (by omega), if_pos h]
theorem fN_c {σ s : aW} (h5 : s 96 5 = σ 96 5) (h6 : s 96 6 = σ 96 6) (h1 : s 101 = σ 101) (h2 : s 102 = σ 102) (h3 : s 103 = σ 103) (h4 : s 104 = σ 104) (h7 : s 107 = σ 107) (h8 : s 108 = σ 108) (h9 : s 109 = σ 109) (h11 : s 111 = σ 111) : fN s = fN σ := by
  funext k i
  unfold fN
  split
  · split
    · rename_i h
      rcases h with h | h <;> rw [h] <;> assumption
    · rfl
  · split
    · rename_i h
      rcases h with h | h | h | h | h | h | h | h <;> rw [h] <;> simp only [*]
    · rfl
def wN (ν : aW) : Prop := 1 ≤ ν 96 5 ∧ ν 96 5 ≤ 12 ∧ 0 ≤ ν 96 6 ∧ ν 96 6 ≤ 20 ∧ ∀ p, 0 ≤ p → p < ν 96 6 → 0 ≤ ν 101 p ∧ ν 101 p < ν 96 5 ∧ 0 ≤ ν 102 p ∧ ν 102 p < ν 96 5 ∧ ν 101 p ≠ ν 102 p ∧ 4 ≤ ν 103 p ∧ ν 103 p ≤ 60 ∧ 1 ≤ ν 104 p ∧ ν 104 p ≤ ν 103 p
theorem wN_of {σ : aW} (h : INet σ) : wN (fN σ) := by
  have hn := h.1
  unfold Nn at hn
  unfold wN
  rw [fN_5, fN_6, fN_k (k := 101) (by omega), fN_k (k := 102) (by omega), fN_k (k := 103) (by omega), fN_k (k := 104) (by omega)]
  refine ⟨by omega, by omega, by omega, by omega, fun p p0 p1 => ?_⟩
  have hp := h.2.1 p p0 p1
  unfold Np at hp
  omega
def wRm (ν : aW) (f : Int → Int) (p : Int) : Int := if ν 108 p = 0 ∧ ν 107 (2 * p) = 0 ∧ ν 107 (2 * p + 1) = 0 then ν 104 p - ((f p).natAbs : Int) else 0
def wC (ν : aW) (f : Int → Int) (p n : Int) : Prop := 0 < wRm ν f p ∧ ((ν 101 p = n ∧ 0 ≤ f p) ∨ (ν 102 p = n ∧ f p ≤ 0))
def wO (ν : aW) (p n : Int) : Int := if ν 101 p = n then ν 102 p else ν 101 p
theorem wO_r {ν : aW} (h : wN ν) {p n : Int} (p0 : 0 ≤ p) (p1 : p < ν 96 6) : 0 ≤ wO ν p n ∧ wO ν p n < ν 96 5 := by
  have := h.2.2.2.2 p p0 p1
  unfold wO
  split <;> omega
theorem wC_r {ν : aW} (h : wN ν) {f : Int → Int} {p n : Int} (p0 : 0 ≤ p) (p1 : p < ν 96 6) (hc : wC ν f p n) : 0 ≤ n ∧ n < ν 96 5 := by
  have := h.2.2.2.2 p p0 p1
  have := hc.2
  omega
def wS (ν : aW) (f : Int → Int) (t : Int) (D : Int → Int) : Prop := D t = 0 ∧ (∀ n, 0 ≤ n → n < ν 96 5 → 0 ≤ D n ∧ D n ≤ 1000000) ∧ (∀ n, 0 ≤ n → n < ν 96 5 → D n < 1000000 → n = t ∨ ∃ p, 0 ≤ p ∧ p < ν 96 6 ∧ wC ν f p n ∧ D (wO ν p n) + ν 103 p ≤ D n)
def wD (ν : aW) (f : Int → Int) (t : Int) (D : Int → Int) : Prop := wS ν f t D ∧ (∀ p n, 0 ≤ p → p < ν 96 6 → wC ν f p n → D n ≤ D (wO ν p n) + ν 103 p)
theorem wS_up {ν : aW} {f : Int → Int} {t : Int} {D : Int → Int} (hN : wN ν) (h : wS ν f t D) {p n : Int} (p0 : 0 ≤ p) (p1 : p < ν 96 6) (hc : wC ν f p n) (hl : D (wO ν p n) + ν 103 p < D n) : wS ν f t (fu D n (D (wO ν p n) + ν 103 p)) := by
  obtain ⟨h1, h2, h3⟩ := h
  have hp := hN.2.2.2.2 p p0 p1
  have ho := wO_r hN (n := n) p0 p1
  have hr := wC_r hN p0 p1 hc
  have b1 := h2 _ ho.1 ho.2
  have b2 := h2 _ hr.1 hr.2
  have hnt : ¬ t = n := fun e => by
    rw [e] at h1
    omega
  refine ⟨by rw [fu_n hnt]; exact h1, fun k k0 k1 => ?_, fun k k0 k1 hk => ?_⟩
  · unfold fu
    split
    · omega
    · exact h2 k k0 k1
  · by_cases e : k = n
    · subst e
      refine Or.inr ⟨p, p0, p1, hc, ?_⟩
      rw [fu_s]
      by_cases e2 : wO ν p k = k
      · rw [e2] at hl
        omega
      · rw [fu_n e2]
        omega
    · rw [fu_n e] at hk ⊢
      rcases h3 k k0 k1 hk with z | ⟨q, q0, q1, qc, ql⟩
      · exact Or.inl z
      · refine Or.inr ⟨q, q0, q1, qc, ?_⟩
        unfold fu
        split
        · rename_i e3
          rw [e3] at ql
          omega
        · exact ql
theorem wD_ex {ν : aW} {f : Int → Int} {t : Int} (hN : wN ν) (t0 : 0 ≤ t) (t1 : t < ν 96 5) : ∃ D, wD ν f t D := by
  have key : ∀ (k : Nat) (D : Int → Int), wS ν f t D → (sI D (ν 96 5).toNat).toNat ≤ k → ∃ D, wD ν f t D := by
    intro k
    induction k with
    | zero =>
      intro D hS hk
      refine ⟨D, hS, fun p n p0 p1 hc => ?_⟩
      apply Classical.byContradiction
      intro hl
      have hr := wC_r hN p0 p1 hc
      have hb := sI_b (f := fu D n 0) (B := 1000000) (n := (ν 96 5).toNat) (fun i i0 i1 => by
        unfold fu
        split
        · omega
        · exact hS.2.1 i i0 (by omega))
      rw [sI_fu hr.1 (by omega)] at hb
      have ho := wO_r hN (n := n) p0 p1
      have b1 := hS.2.1 _ ho.1 ho.2
      have hp := hN.2.2.2.2 p p0 p1
      omega
    | succ k ih =>
      intro D hS hk
      by_cases hx : ∃ p n, 0 ≤ p ∧ p < ν 96 6 ∧ wC ν f p n ∧ D (wO ν p n) + ν 103 p < D n
      · obtain ⟨p, n, p0, p1, hc, hl⟩ := hx
        have hr := wC_r hN p0 p1 hc
        refine ih _ (wS_up hN hS p0 p1 hc hl) ?_
        rw [sI_fu hr.1 (by omega)]
        have hb := sI_b (f := fu D n 0) (B := 1000000) (n := (ν 96 5).toNat) (fun i i0 i1 => by
          unfold fu
          split
          · omega
          · exact hS.2.1 i i0 (by omega))
        rw [sI_fu hr.1 (by omega)] at hb
        have ho := wO_r hN (n := n) p0 p1
        have b1 := hS.2.1 _ ho.1 ho.2
        have hp := hN.2.2.2.2 p p0 p1
        omega
      · refine ⟨D, hS, fun p n p0 p1 hc => ?_⟩
        apply Classical.byContradiction
        intro hl
        exact hx ⟨p, n, p0, p1, hc, by omega⟩
  refine key _ (fun n => if n = t then 0 else 1000000) ⟨by simp, fun n n0 n1 => ?_, fun n n0 n1 hl => ?_⟩ (Nat.le_refl _)
  · show 0 ≤ (if n = t then (0 : Int) else 1000000) ∧ (if n = t then (0 : Int) else 1000000) ≤ 1000000
    split <;> omega
  · by_cases e : n = t
    · exact Or.inl e
    · have hl' : (if n = t then (0 : Int) else 1000000) < 1000000 := hl
      rw [if_neg e] at hl'
      omega
theorem wS_ge {ν : aW} {f : Int → Int} {t : Int} {D E : Int → Int} (hN : wN ν) (hD : wS ν f t D) (hE : wD ν f t E) : ∀ n, 0 ≤ n → n < ν 96 5 → E n ≤ D n := by
  have key : ∀ (k : Nat) (n : Int), 0 ≤ n → n < ν 96 5 → D n < k → E n ≤ D n := by
    intro k
    induction k with
    | zero => exact fun n n0 n1 h => absurd (hD.2.1 n n0 n1).1 (by omega)
    | succ k ih =>
      intro n n0 n1 h
      by_cases hf : D n < 1000000
      · rcases hD.2.2 n n0 n1 hf with z | ⟨p, p0, p1, pc, pl⟩
        · subst z
          rw [hD.1, hE.1.1]
          exact Int.le_refl _
        · have ho := wO_r hN (n := n) p0 p1
          have hp := hN.2.2.2.2 p p0 p1
          have := ih _ ho.1 ho.2 (by omega)
          have := hE.2 p n p0 p1 pc
          omega
      · have := hE.1.2.1 n n0 n1
        omega
  exact fun n n0 n1 => key 1000001 n n0 n1 (by have := hD.2.1 n n0 n1; omega)
noncomputable def wDs (ν : aW) (f : Int → Int) (t : Int) : Int → Int := Classical.epsilon (wD ν f t)
theorem wDs_ok {ν : aW} {f : Int → Int} {t : Int} (hN : wN ν) (t0 : 0 ≤ t) (t1 : t < ν 96 5) : wD ν f t (wDs ν f t) := Classical.epsilon_spec (wD_ex hN t0 t1)
/-- in a round, at pipe i -/
def wQ (ν : aW) (f : Int → Int) (t : Int) (D0 : Int → Int) (i : Int) (D : Int → Int) : Prop := wS ν f t D ∧ (∀ n, 0 ≤ n → n < ν 96 5 → D n ≤ D0 n) ∧ (∀ p, 0 ≤ p → p < i → ∀ n, wC ν f p n → D n ≤ D0 (wO ν p n) + ν 103 p)
theorem wQ_0 {ν : aW} {f : Int → Int} {t : Int} {D : Int → Int} (h : wS ν f t D) : wQ ν f t D 0 D := ⟨h, fun _ _ _ => Int.le_refl _, fun p p0 p1 => by omega⟩
/-- one side of a pipe -/
theorem wQ_up {ν : aW} {f : Int → Int} {t : Int} {D0 D : Int → Int} {i p n : Int} (hN : wN ν) (h : wQ ν f t D0 i D) (p0 : 0 ≤ p) (p1 : p < ν 96 6) (hc : wC ν f p n) : wQ ν f t D0 i (fu D n (min (D n) (D (wO ν p n) + ν 103 p))) ∧ (fu D n (min (D n) (D (wO ν p n) + ν 103 p))) n ≤ D0 (wO ν p n) + ν 103 p := by
  obtain ⟨h1, h2, h3⟩ := h
  have ho := wO_r hN (n := n) p0 p1
  have hr := wC_r hN p0 p1 hc
  have a2 := h2 _ ho.1 ho.2
  by_cases hl : D (wO ν p n) + ν 103 p < D n
  · rw [show min (D n) (D (wO ν p n) + ν 103 p) = D (wO ν p n) + ν 103 p by omega]
    refine ⟨⟨wS_up hN h1 p0 p1 hc hl, fun k k0 k1 => ?_, fun q q0 q1 k kc => ?_⟩, ?_⟩
    · unfold fu
      split
      · rename_i e
        have := h2 k k0 k1
        subst e
        omega
      · exact h2 k k0 k1
    · have := h3 q q0 q1 k kc
      unfold fu
      split
      · rename_i e
        subst e
        omega
      · exact this
    · rw [fu_s]
      omega
  · rw [fu_id (show D n = min (D n) (D (wO ν p n) + ν 103 p) by omega)]
    exact ⟨⟨h1, h2, h3⟩, by omega⟩
theorem wQ_s {ν : aW} {f : Int → Int} {t : Int} {D0 D : Int → Int} {i : Int} (h : wQ ν f t D0 i D) (hk : ∀ n, wC ν f i n → D n ≤ D0 (wO ν i n) + ν 103 i) : wQ ν f t D0 (i + 1) D := by
  obtain ⟨h1, h2, h3⟩ := h
  refine ⟨h1, h2, fun p p0 p1 n hc => ?_⟩
  by_cases e : p = i
  · subst e
    exact hk n hc
  · exact h3 p p0 (by omega) n hc
def wCn (ν : aW) (E D : Int → Int) : Int := sI (fun n => bi (D n = E n)) (ν 96 5).toNat
theorem wCn_b {ν : aW} {E D : Int → Int} (hN : wN ν) : 0 ≤ wCn ν E D ∧ wCn ν E D ≤ ν 96 5 := by
  have := sI_b (f := fun n => bi (D n = E n)) (B := 1) (n := (ν 96 5).toNat) (fun i i0 i1 => bi_le)
  have := hN.1
  unfold wCn
  omega
theorem least {N : Int} {P : Int → Prop} {E : Int → Int} (hE : ∀ n, 0 ≤ n → n < N → 0 ≤ E n) : (∃ n, 0 ≤ n ∧ n < N ∧ P n) → ∃ n, 0 ≤ n ∧ n < N ∧ P n ∧ ∀ k, 0 ≤ k → k < N → P k → E n ≤ E k := by
  have key : ∀ (j : Nat) (n : Int), 0 ≤ n → n < N → P n → E n < j → ∃ n, 0 ≤ n ∧ n < N ∧ P n ∧ ∀ k, 0 ≤ k → k < N → P k → E n ≤ E k := by
    intro j
    induction j with
    | zero => exact fun n n0 n1 hp h => absurd (hE n n0 n1) (by omega)
    | succ j ih =>
      intro n n0 n1 hp h
      by_cases hx : ∃ k, 0 ≤ k ∧ k < N ∧ P k ∧ E k < E n
      · obtain ⟨k, k0, k1, kp, kl⟩ := hx
        exact ih k k0 k1 kp (by omega)
      · refine ⟨n, n0, n1, hp, fun k k0 k1 kp => ?_⟩
        apply Classical.byContradiction
        intro hl
        exact hx ⟨k, k0, k1, kp, by omega⟩
  rintro ⟨n, n0, n1, hp⟩
  exact key ((E n).toNat + 1) n n0 n1 hp (by have := hE n n0 n1; omega)
theorem wQ_end {ν : aW} {f : Int → Int} {t : Int} {D0 D E : Int → Int} (hN : wN ν) (hE : wD ν f t E) (h0 : wS ν f t D0) (h : wQ ν f t D0 (ν 96 6) D) : (∀ n, 0 ≤ n → n < ν 96 5 → D n = E n) ∨ ((∃ n, 0 ≤ n ∧ n < ν 96 5 ∧ ¬ D n = D0 n) ∧ wCn ν E D0 + 1 ≤ wCn ν E D) := by
  obtain ⟨h1, h2, h3⟩ := h
  have g0 := wS_ge hN h0 hE
  have g1 := wS_ge hN h1 hE
  by_cases hx : ∃ n, 0 ≤ n ∧ n < ν 96 5 ∧ ¬ D0 n = E n
  · right
    obtain ⟨n, n0, n1, hn, hm⟩ := least (E := E) (fun n n0 n1 => (hE.1.2.1 n n0 n1).1) hx
    have b := hE.1.2.1 n n0 n1
    have b0 := h0.2.1 n n0 n1
    have c0 := g0 n n0 n1
    have hf : E n < 1000000 := by omega
    rcases hE.1.2.2 n n0 n1 hf with z | ⟨p, p0, p1, pc, pl⟩
    · subst z
      rw [h0.1, hE.1.1] at hn
      exact absurd rfl hn
    have ho := wO_r hN (n := n) p0 p1
    have hp := hN.2.2.2.2 p p0 p1
    have e1 : D0 (wO ν p n) = E (wO ν p n) := by
      apply Classical.byContradiction
      intro hne
      have := hm _ ho.1 ho.2 hne
      omega
    have e2 := h3 p p0 p1 n pc
    have e3 := g1 n n0 n1
    have e4 : D n = E n := by omega
    refine ⟨⟨n, n0, n1, by omega⟩, ?_⟩
    have := (sI_lt (f := fun n => bi (D0 n = E n)) (g := fun n => bi (D n = E n)) (n := (ν 96 5).toNat) (fun k k0 k1 => by
      have a := h2 k k0 (by omega)
      have b := g1 k k0 (by omega)
      unfold bi
      split <;> split <;> omega)).2 ⟨n, n0, by omega, by
      show bi (D0 n = E n) < bi (D n = E n)
      unfold bi
      rw [if_neg hn, if_pos e4]
      decide⟩
    unfold wCn
    omega
  · left
    intro n n0 n1
    have e : D0 n = E n := by
      apply Classical.byContradiction
      intro hne
      exact hx ⟨n, n0, n1, hne⟩
    have := h2 n n0 n1
    have := g1 n n0 n1
    omega
theorem wCn_0 {ν : aW} {f : Int → Int} {t : Int} {D E : Int → Int} (t0 : 0 ≤ t) (t1 : t < ν 96 5) (hD : wS ν f t D) (hE : wD ν f t E) : 1 ≤ wCn ν E D := by
  have := (sI_lt (f := fun _ => 0) (g := fun n => bi (D n = E n)) (n := (ν 96 5).toNat) (fun k k0 k1 => bi_le.1)).2 ⟨t, t0, by omega, by
    show 0 < bi (D t = E t)
    unfold bi
    rw [if_pos (by rw [hD.1, hE.1.1])]
    decide⟩
  have z : ∀ n : Nat, sI (fun _ => 0) n = 0 := by
    intro n
    induction n with
    | zero => rfl
    | succ n ih =>
      show sI (fun _ => 0) n + 0 = 0
      rw [ih]
      rfl
  rw [z] at this
  unfold wCn
  omega
end
