section
/-! rules: the grammar over tokens -/
abbrev rV : Type := (Int → Int) → Int
abbrev rO : Type := Int ⊕ (Int × List Int × rV)
def rJ (o a b : Int) : Int := if o = 10006 then and64 a b else if o = 20042 then w64 (a * b) else if o = 20043 then w64 (a + b) else if o = 20045 then w64 (a - b) else if o = 20047 then (if b = 0 then 0 else w64 (a.tdiv b)) else if o = 20060 then (if a < b then 1 else 0) else if o = 20061 then (if a = b then 1 else 0) else if o = 20062 then (if b < a then 1 else 0) else or64 a b
def rFac (T : Int → Int) (S : Int → rO) (al : Bool) (i : Int) : rO :=
  if 0 ≤ T i ∧ T i ≤ 9999 then .inr (i + 1, [T i], fun _ => T i)
  else if 10007 ≤ T i ∧ T i < 10014 then .inr (i + 1, [T i], fun e => e (T i - 10007))
  else if T i = 20040 ∧ al = true then (match S (i + 1) with
    | .inl j => .inl j
    | .inr (j, c, v) => if T j = 20041 then .inr (j + 1, c, v) else .inl j)
  else .inl i
def rFn (L : Option (Int × rV)) : List Int := match L with
  | none => []
  | some (o, _) => [o]
def rCb (L : Option (Int × rV)) (t : rV) : rV := match L with
  | none => t
  | some (o, l) => fun e => rJ o (l e) (t e)
def rLp (T : Int → Int) (hi lo : Int → Bool) (F : Int → rO) : Nat → Option (Int × rV) → List Int → rV → Int → rO
  | 0, _, _, _, i => .inl i
  | n + 1, L, c, t, i =>
    if hi (T i) = true then (match F (i + 1) with
      | .inl j => .inl j
      | .inr (j, c', v) => rLp T hi lo F n L (c ++ c' ++ [T i]) (fun e => rJ (T i) (t e) (v e)) j)
    else if lo (T i) = true then (match F (i + 1) with
      | .inl j => .inl j
      | .inr (j, c', v) => rLp T hi lo F n (some (T i, rCb L t)) (c ++ rFn L ++ c') v j)
    else .inr (i, c ++ rFn L, rCb L t)
def rTwo (T : Int → Int) (hi lo : Int → Bool) (F : Int → rO) (i : Int) : rO := match F i with
  | .inl j => .inl j
  | .inr (j, c, v) => rLp T hi lo F 400 none c v j
def rhS (o : Int) : Bool := decide (o = 20042) || decide (o = 20047)
def rlS (o : Int) : Bool := decide (o = 20043) || decide (o = 20045)
def rhW (o : Int) : Bool := decide (o = 10006)
def rlW (o : Int) : Bool := decide (o = 10005)
def rSum (T : Int → Int) : Nat → Int → rO
  | 0 => rTwo T rhS rlS (rFac T (fun i => .inl i) false)
  | k + 1 => rTwo T rhS rlS (rFac T (rSum T k) true)
def rCond (T : Int → Int) (i : Int) : rO := match rSum T 8 i with
  | .inl j => .inl j
  | .inr (j, c, v) => if T j = 20060 ∨ T j = 20061 ∨ T j = 20062 then (match rSum T 8 (j + 1) with
    | .inl j' => .inl j'
    | .inr (j', c', v') => .inr (j', c ++ c' ++ [T j], fun e => rJ (T j) (v e) (v' e)))
    else .inl j
def rWhen (T : Int → Int) : Int → rO := rTwo T rhW rlW (rCond T)
/-- a rule: its kind, its sum, its condition -/
abbrev rRu : Type := Int × (List Int × rV) × Option (List Int × rV)
def rRule (T : Int → Int) (i : Int) : Int ⊕ (Int × rRu) :=
  if 10000 ≤ T i ∧ T i ≤ 10003 then (match rSum T 8 (i + 1) with
    | .inl j => .inl j
    | .inr (j, c, v) => if T j = 10004 then (match rWhen T (j + 1) with
      | .inl j' => .inl j'
      | .inr (j', c', v') => .inr (j', (T i - 10000, (c, v), some (c', v'))))
      else .inr (j, (T i - 10000, (c, v), none)))
  else .inl i
def rLst (T : Int → Int) : Nat → List rRu → Int → Int ⊕ List rRu
  | 0, acc, i => if T i = 20059 then .inl (i + 1) else if T i = 30000 then .inr acc else .inl i
  | n + 1, acc, i => if T i = 20059 then (match rRule T (i + 1) with
    | .inl j => .inl j
    | .inr (j, r) => rLst T n (acc ++ [r]) j) else if T i = 30000 then .inr acc else .inl i
def rAll (T : Int → Int) : Int ⊕ List rRu := if T 0 = 30000 then .inr [] else (match rRule T 0 with
  | .inl j => .inl j
  | .inr (j, r) => rLst T 11 [r] j)
/-- tokens up to the last one -/
def rT (T : Int → Int) (M : Int) : Prop := 0 ≤ M ∧ M ≤ 300 ∧ T M = 30000 ∧ ∀ i, 0 ≤ i → i < M → ¬ T i = 30000
/-- what is read goes on, and its code is no longer than its tokens -/
def rPg (M : Int) (F : Int → rO) : Prop := ∀ i, 0 ≤ i → i ≤ M → (∀ j c v, F i = .inr (j, c, v) → i < j ∧ j ≤ M ∧ (c.length : Int) ≤ j - i ∧ 1 ≤ c.length) ∧ (∀ j, F i = .inl j → i ≤ j ∧ j ≤ M)
theorem rFac_pg {T : Int → Int} {M : Int} {S : Int → rO} {al : Bool} (hT : rT T M) (hS : al = true → rPg M S) : rPg M (rFac T S al) := by
  intro i i0 i1
  have hM : T i = 30000 ∨ i < M := by
    by_cases e : i = M
    · rw [e]; exact Or.inl hT.2.2.1
    · exact Or.inr (by omega)
  unfold rFac
  by_cases h1 : 0 ≤ T i ∧ T i ≤ 9999
  · rw [if_pos h1]
    refine ⟨fun j c v h => ?_, fun j h => by cases h⟩
    cases h
    exact ⟨by omega, by omega, by simp only [List.length_cons, List.length_nil]; omega, by simp⟩
  rw [if_neg h1]
  by_cases h2 : 10007 ≤ T i ∧ T i < 10014
  · rw [if_pos h2]
    refine ⟨fun j c v h => ?_, fun j h => by cases h⟩
    cases h
    exact ⟨by omega, by omega, by simp only [List.length_cons, List.length_nil]; omega, by simp⟩
  rw [if_neg h2]
  by_cases h3 : T i = 20040 ∧ al = true
  · rw [if_pos h3]
    have hp := hS h3.2 (i + 1) (by omega) (by omega)
    cases hs : S (i + 1) with
    | inl j0 =>
      refine ⟨fun j c v h => (by cases h), fun j h => ?_⟩
      cases h
      have := hp.2 _ hs
      omega
    | inr q =>
      obtain ⟨j0, c0, v0⟩ := q
      have hq := hp.1 _ _ _ hs
      have hM2 : T j0 = 30000 ∨ j0 < M := by
        by_cases e : j0 = M
        · rw [e]; exact Or.inl hT.2.2.1
        · exact Or.inr (by omega)
      by_cases h4 : T j0 = 20041
      · simp only [if_pos h4]
        refine ⟨fun j c v h => ?_, fun j h => by cases h⟩
        cases h
        omega
      · simp only [if_neg h4]
        refine ⟨fun j c v h => (by cases h), fun j h => ?_⟩
        cases h
        omega
  · rw [if_neg h3]
    refine ⟨fun j c v h => (by cases h), fun j h => ?_⟩
    cases h
    omega
theorem rFn_len (L : Option (Int × rV)) : (rFn L).length = if L.isSome then 1 else 0 := by
  cases L <;> rfl
theorem rLp_pg {T : Int → Int} {M : Int} {hi lo : Int → Bool} {F : Int → rO} (hT : rT T M) (hh : hi 30000 = false) (hl : lo 30000 = false) (hF : rPg M F) : ∀ (n : Nat) (L : Option (Int × rV)) (c : List Int) (t : rV) (i : Int), 0 ≤ i → i ≤ M → (∀ j c' v, rLp T hi lo F n L c t i = .inr (j, c', v) → i ≤ j ∧ j ≤ M ∧ (c'.length : Int) ≤ j - i + c.length + (rFn L).length ∧ c.length ≤ c'.length) ∧ (∀ j, rLp T hi lo F n L c t i = .inl j → i ≤ j ∧ j ≤ M)
  | 0, L, c, t, i, i0, i1 => ⟨fun j c' v h => (by cases h), fun j h => (by cases h; omega)⟩
  | n + 1, L, c, t, i, i0, i1 => by
    have hM : T i = 30000 ∨ i < M := by
      by_cases e : i = M
      · rw [e]; exact Or.inl hT.2.2.1
      · exact Or.inr (by omega)
    unfold rLp
    by_cases h1 : hi (T i) = true
    · rw [if_pos h1]
      have hi2 : i < M := by
        rcases hM with z | z
        · rw [z, hh] at h1; cases h1
        · exact z
      have hp := hF (i + 1) (by omega) (by omega)
      cases hs : F (i + 1) with
      | inl j0 =>
        refine ⟨fun j c v h => (by cases h), fun j h => ?_⟩
        cases h
        have := hp.2 _ hs
        omega
      | inr q =>
        obtain ⟨j0, c0, v0⟩ := q
        have hq := hp.1 _ _ _ hs
        have ih := rLp_pg hT hh hl hF n L (c ++ c0 ++ [T i]) (fun e => rJ (T i) (t e) (v0 e)) j0 (by omega) (by omega)
        refine ⟨fun j c' v h => ?_, fun j h => ?_⟩
        · have := ih.1 _ _ _ h
          simp only [List.length_append, List.length_cons, List.length_nil] at this
          omega
        · have := ih.2 _ h
          omega
    rw [if_neg h1]
    by_cases h2 : lo (T i) = true
    · rw [if_pos h2]
      have hi2 : i < M := by
        rcases hM with z | z
        · rw [z, hl] at h2; cases h2
        · exact z
      have hp := hF (i + 1) (by omega) (by omega)
      cases hs : F (i + 1) with
      | inl j0 =>
        refine ⟨fun j c v h => (by cases h), fun j h => ?_⟩
        cases h
        have := hp.2 _ hs
        omega
      | inr q =>
        obtain ⟨j0, c0, v0⟩ := q
        have hq := hp.1 _ _ _ hs
        have ih := rLp_pg hT hh hl hF n (some (T i, rCb L t)) (c ++ rFn L ++ c0) v0 j0 (by omega) (by omega)
        have e1 : (rFn (some (T i, rCb L t))).length = 1 := rfl
        refine ⟨fun j c' v h => ?_, fun j h => ?_⟩
        · have := ih.1 _ _ _ h
          simp only [List.length_append] at this
          omega
        · have := ih.2 _ h
          omega
    · rw [if_neg h2]
      refine ⟨fun j c' v h => ?_, fun j h => by cases h⟩
      cases h
      simp only [List.length_append]
      omega
theorem rTwo_pg {T : Int → Int} {M : Int} {hi lo : Int → Bool} {F : Int → rO} (hT : rT T M) (hh : hi 30000 = false) (hl : lo 30000 = false) (hF : rPg M F) : rPg M (rTwo T hi lo F) := by
  intro i i0 i1
  have hp := hF i i0 i1
  unfold rTwo
  cases hs : F i with
  | inl j0 =>
    refine ⟨fun j c v h => (by cases h), fun j h => ?_⟩
    cases h
    exact hp.2 _ hs
  | inr q =>
    obtain ⟨j0, c0, v0⟩ := q
    have hq := hp.1 _ _ _ hs
    have ih := rLp_pg hT hh hl hF 400 none c0 v0 j0 (by omega) (by omega)
    have e1 : (rFn none).length = 0 := rfl
    refine ⟨fun j c' v h => ?_, fun j h => ?_⟩
    · have := ih.1 _ _ _ h
      omega
    · have := ih.2 _ h
      omega
theorem rSum_pg {T : Int → Int} {M : Int} (hT : rT T M) : ∀ k : Nat, rPg M (rSum T k)
  | 0 => rTwo_pg hT rfl rfl (rFac_pg hT (fun z => by cases z))
  | k + 1 => rTwo_pg hT rfl rfl (rFac_pg hT (fun _ => rSum_pg hT k))
theorem rCond_pg {T : Int → Int} {M : Int} (hT : rT T M) : rPg M (rCond T) := by
  intro i i0 i1
  have hp := rSum_pg hT 8 i i0 i1
  unfold rCond
  cases hs : rSum T 8 i with
  | inl j0 =>
    refine ⟨fun j c v h => (by cases h), fun j h => ?_⟩
    cases h
    exact hp.2 _ hs
  | inr q =>
    obtain ⟨j0, c0, v0⟩ := q
    have hq := hp.1 _ _ _ hs
    have hM : T j0 = 30000 ∨ j0 < M := by
      by_cases e : j0 = M
      · rw [e]; exact Or.inl hT.2.2.1
      · exact Or.inr (by omega)
    by_cases h1 : T j0 = 20060 ∨ T j0 = 20061 ∨ T j0 = 20062
    · simp only [if_pos h1]
      have hp2 := rSum_pg hT 8 (j0 + 1) (by omega) (by omega)
      cases hs2 : rSum T 8 (j0 + 1) with
      | inl j1 =>
        refine ⟨fun j c v h => (by cases h), fun j h => ?_⟩
        cases h
        have := hp2.2 _ hs2
        omega
      | inr q2 =>
        obtain ⟨j1, c1, v1⟩ := q2
        have hq2 := hp2.1 _ _ _ hs2
        refine ⟨fun j c v h => ?_, fun j h => by cases h⟩
        cases h
        simp only [List.length_append, List.length_cons, List.length_nil]
        omega
    · simp only [if_neg h1]
      refine ⟨fun j c v h => (by cases h), fun j h => ?_⟩
      cases h
      omega
theorem rWhen_pg {T : Int → Int} {M : Int} (hT : rT T M) : rPg M (rWhen T) := rTwo_pg hT rfl rfl (rCond_pg hT)
/-! codes on a stack -/
def rSt (e : Int → Int) (tk : Int) (s : (Int → Int) × Int) : (Int → Int) × Int :=
  if (0 ≤ tk ∧ tk ≤ 9999) ∨ (10007 ≤ tk ∧ tk < 10014) then (if 32 ≤ s.2 then s else (fu s.1 s.2 (if ¬ (10007 ≤ tk ∧ tk < 10014) then tk else e (tk - 10007)), s.2 + 1))
  else if s.2 < 2 then s else (fu s.1 (s.2 - 2) (rJ tk (s.1 (s.2 - 2)) (s.1 (s.2 - 1))), s.2 - 1)
def rRun (e : Int → Int) : List Int → (Int → Int) × Int → (Int → Int) × Int
  | [], s => s
  | x :: l, s => rRun e l (rSt e x s)
theorem rRun_a (e : Int → Int) : ∀ (l m : List Int) (s : (Int → Int) × Int), rRun e (l ++ m) s = rRun e m (rRun e l s)
  | [], _, _ => rfl
  | x :: l, m, s => rRun_a e l m (rSt e x s)
/-- the code puts its value onto the stack; it needs h places -/
def rEv (c : List Int) (v : rV) (h : Int) : Prop := ∀ (e : Int → Int) (st : Int → Int) (top : Int), 0 ≤ top → top + h ≤ 32 → (rRun e c (st, top)).2 = top + 1 ∧ (rRun e c (st, top)).1 top = v e ∧ ∀ j, j < top → (rRun e c (st, top)).1 j = st j
theorem rEv_up {c : List Int} {v : rV} {h h' : Int} (hh : h ≤ h') (x : rEv c v h) : rEv c v h' := fun e st top t0 t1 => x e st top t0 (by omega)
def rOp (o : Int) : Prop := ¬ ((0 ≤ o ∧ o ≤ 9999) ∨ (10007 ≤ o ∧ o < 10014))
theorem rRun_1 {e : Int → Int} {o : Int} {st : Int → Int} {top : Int} (ho : rOp o) (t0 : 2 ≤ top) : rRun e [o] (st, top) = (fu st (top - 2) (rJ o (st (top - 2)) (st (top - 1))), top - 1) := by
  show rSt e o (st, top) = _
  unfold rSt
  rw [if_neg ho, if_neg (show ¬ (st, top).2 < 2 by show ¬ top < 2; omega)]
theorem rEv_j {c c' : List Int} {v v' : rV} {h h' o : Int} (ho : rOp o) (h1 : 1 ≤ h) (h2 : 1 ≤ h') (x : rEv c v h) (y : rEv c' v' h') : rEv (c ++ c' ++ [o]) (fun e => rJ o (v e) (v' e)) (max h (h' + 1)) := by
  intro e st top t0 t1
  have a := x e st top t0 (by omega)
  rw [rRun_a, rRun_a]
  rcases hq : rRun e c (st, top) with ⟨s1, p1⟩
  rw [hq] at a
  simp only at a
  have b := y e s1 (top + 1) (by omega) (by omega)
  rw [a.1]
  rcases hq2 : rRun e c' (s1, top + 1) with ⟨s2, p2⟩
  rw [hq2] at b
  simp only at b
  rw [b.1, rRun_1 ho (by omega)]
  rw [show top + 1 + 1 - 2 = top by omega, show top + 1 + 1 - 1 = top + 1 by omega]
  refine ⟨rfl, ?_, fun j hj => ?_⟩
  · show fu s2 top _ top = _
    rw [fu_s, b.2.1, b.2.2 top (by omega), a.2.1]
  · show fu s2 top _ j = _
    rw [fu_n (by omega), b.2.2 j (by omega), a.2.2 j hj]
/-- a code with something that waits -/
def rE2 (L : Option (Int × rV)) (c : List Int) (t : rV) (h : Int) : Prop := match L with
  | none => rEv c t h
  | some (o, l) => rOp o ∧ ∀ (e : Int → Int) (st : Int → Int) (top : Int), 0 ≤ top → top + h ≤ 32 → (rRun e c (st, top)).2 = top + 2 ∧ (rRun e c (st, top)).1 top = l e ∧ (rRun e c (st, top)).1 (top + 1) = t e ∧ ∀ j, j < top → (rRun e c (st, top)).1 j = st j
theorem rE2_fin {L : Option (Int × rV)} {c : List Int} {t : rV} {h : Int} (x : rE2 L c t h) : rEv (c ++ rFn L) (rCb L t) h := by
  cases L with
  | none =>
    show rEv (c ++ []) t h
    rw [List.append_nil]
    exact x
  | some p =>
    obtain ⟨o, l⟩ := p
    intro e st top t0 t1
    have a := x.2 e st top t0 t1
    rw [rRun_a]
    rcases hq : rRun e c (st, top) with ⟨s1, p1⟩
    rw [hq] at a
    simp only at a
    have e0 : rRun e (rFn (some (o, l))) (s1, p1) = (fu s1 (top + 2 - 2) (rJ o (s1 (top + 2 - 2)) (s1 (top + 2 - 1))), top + 2 - 1) := by
      rw [a.1]
      exact rRun_1 x.1 (by omega)
    rw [e0]
    rw [show top + 2 - 2 = top by omega, show top + 2 - 1 = top + 1 by omega]
    refine ⟨rfl, ?_, fun j hj => ?_⟩
    · show fu s1 top _ top = rJ o (l e) (t e)
      rw [fu_s, a.2.1, a.2.2.1]
    · show fu s1 top _ j = _
      rw [fu_n (by omega), a.2.2.2 j hj]
theorem rE2_hi {L : Option (Int × rV)} {c c' : List Int} {t v : rV} {h o : Int} (ho : rOp o) (h1 : 1 ≤ h) (x : rE2 L c t (h + 2)) (y : rEv c' v h) : rE2 L (c ++ c' ++ [o]) (fun e => rJ o (t e) (v e)) (h + 2) := by
  cases L with
  | none => exact rEv_up (by omega) (rEv_j ho (by omega) h1 x y)
  | some p =>
    obtain ⟨q, l⟩ := p
    refine ⟨x.1, fun e st top t0 t1 => ?_⟩
    have a := x.2 e st top t0 t1
    rw [rRun_a, rRun_a]
    rcases hq : rRun e c (st, top) with ⟨s1, p1⟩
    rw [hq] at a
    simp only at a
    have b := y e s1 (top + 2) (by omega) (by omega)
    rw [a.1]
    rcases hq2 : rRun e c' (s1, top + 2) with ⟨s2, p2⟩
    rw [hq2] at b
    simp only at b
    rw [b.1, rRun_1 ho (by omega)]
    rw [show top + 2 + 1 - 2 = top + 1 by omega, show top + 2 + 1 - 1 = top + 2 by omega]
    refine ⟨rfl, ?_, ?_, fun j hj => ?_⟩
    · show fu s2 (top + 1) _ top = _
      rw [fu_n (by omega), b.2.2 top (by omega), a.2.1]
    · show fu s2 (top + 1) _ (top + 1) = _
      rw [fu_s, b.2.1, b.2.2 (top + 1) (by omega), a.2.2.1]
    · show fu s2 (top + 1) _ j = _
      rw [fu_n (by omega), b.2.2 j (by omega), a.2.2.2 j hj]
theorem rE2_lo {L : Option (Int × rV)} {c c' : List Int} {t v : rV} {h o : Int} (ho : rOp o) (h1 : 1 ≤ h) (x : rE2 L c t (h + 2)) (y : rEv c' v h) : rE2 (some (o, rCb L t)) (c ++ rFn L ++ c') v (h + 2) := by
  have z := rE2_fin x
  refine ⟨ho, fun e st top t0 t1 => ?_⟩
  have a := z e st top t0 t1
  rw [rRun_a]
  rcases hq : rRun e (c ++ rFn L) (st, top) with ⟨s1, p1⟩
  rw [hq] at a
  simp only at a
  have b := y e s1 (top + 1) (by omega) (by omega)
  rw [a.1]
  refine ⟨by rw [b.1]; omega, ?_, b.2.1, fun j hj => ?_⟩
  · rw [b.2.2 top (by omega), a.2.1]
  · rw [b.2.2 j (by omega), a.2.2 j hj]
def rOkF (F : Int → rO) (h : Int) : Prop := ∀ i j c v, F i = .inr (j, c, v) → rEv c v h
theorem rFac_ev {T : Int → Int} {S : Int → rO} {al : Bool} {h : Int} (h1 : 1 ≤ h) (hS : al = true → rOkF S h) : rOkF (rFac T S al) h := by
  intro i j c v hh
  unfold rFac at hh
  by_cases h2 : 0 ≤ T i ∧ T i ≤ 9999
  · rw [if_pos h2] at hh
    cases hh
    intro e st top t0 t1
    have e0 : rRun e [T i] (st, top) = (fu st top (T i), top + 1) := by
      show rSt e (T i) (st, top) = _
      unfold rSt
      rw [if_pos (Or.inl h2), if_neg (show ¬ 32 ≤ (st, top).2 by show ¬ 32 ≤ top; omega), if_pos (by omega)]
    rw [e0]
    exact ⟨rfl, fu_s, fun j hj => fu_n (by omega)⟩
  rw [if_neg h2] at hh
  by_cases h3 : 10007 ≤ T i ∧ T i < 10014
  · rw [if_pos h3] at hh
    cases hh
    intro e st top t0 t1
    have e0 : rRun e [T i] (st, top) = (fu st top (e (T i - 10007)), top + 1) := by
      show rSt e (T i) (st, top) = _
      unfold rSt
      rw [if_pos (Or.inr h3), if_neg (show ¬ 32 ≤ (st, top).2 by show ¬ 32 ≤ top; omega), if_neg (fun w => w h3)]
    rw [e0]
    exact ⟨rfl, fu_s, fun j hj => fu_n (by omega)⟩
  rw [if_neg h3] at hh
  by_cases h4 : T i = 20040 ∧ al = true
  · rw [if_pos h4] at hh
    cases hs : S (i + 1) with
    | inl j0 => rw [hs] at hh; cases hh
    | inr q =>
      obtain ⟨j0, c0, v0⟩ := q
      rw [hs] at hh
      simp only at hh
      split at hh
      · cases hh
        exact hS h4.2 _ _ _ _ hs
      · cases hh
  · rw [if_neg h4] at hh
    cases hh
theorem rLp_ev {T : Int → Int} {hi lo : Int → Bool} {F : Int → rO} {h : Int} (h1 : 1 ≤ h) (hh : ∀ o, hi o = true → rOp o) (hl : ∀ o, lo o = true → rOp o) (hF : rOkF F h) : ∀ (n : Nat) (L : Option (Int × rV)) (c : List Int) (t : rV) (i : Int), rE2 L c t (h + 2) → ∀ j c' v, rLp T hi lo F n L c t i = .inr (j, c', v) → rEv c' v (h + 2)
  | 0, L, c, t, i, _, j, c', v, hq => by cases hq
  | n + 1, L, c, t, i, x, j, c', v, hq => by
    unfold rLp at hq
    by_cases h2 : hi (T i) = true
    · rw [if_pos h2] at hq
      cases hs : F (i + 1) with
      | inl j0 => rw [hs] at hq; cases hq
      | inr q =>
        obtain ⟨j0, c0, v0⟩ := q
        rw [hs] at hq
        exact rLp_ev h1 hh hl hF n L _ _ j0 (rE2_hi (hh _ h2) h1 x (hF _ _ _ _ hs)) j c' v hq
    rw [if_neg h2] at hq
    by_cases h3 : lo (T i) = true
    · rw [if_pos h3] at hq
      cases hs : F (i + 1) with
      | inl j0 => rw [hs] at hq; cases hq
      | inr q =>
        obtain ⟨j0, c0, v0⟩ := q
        rw [hs] at hq
        exact rLp_ev h1 hh hl hF n _ _ _ j0 (rE2_lo (hl _ h3) h1 x (hF _ _ _ _ hs)) j c' v hq
    rw [if_neg h3] at hq
    cases hq
    exact rE2_fin x
theorem rTwo_ev {T : Int → Int} {hi lo : Int → Bool} {F : Int → rO} {h : Int} (h1 : 1 ≤ h) (hh : ∀ o, hi o = true → rOp o) (hl : ∀ o, lo o = true → rOp o) (hF : rOkF F h) : rOkF (rTwo T hi lo F) (h + 2) := by
  intro i j c v hq
  unfold rTwo at hq
  cases hs : F i with
  | inl j0 => rw [hs] at hq; cases hq
  | inr q =>
    obtain ⟨j0, c0, v0⟩ := q
    rw [hs] at hq
    exact rLp_ev h1 hh hl hF 400 none c0 v0 j0 (rEv_up (by omega) (hF _ _ _ _ hs)) j c v hq
theorem rSum_ev {T : Int → Int} : ∀ k : Nat, rOkF (rSum T k) (3 + 2 * k)
  | 0 => rTwo_ev (h := 1) (by omega) (fun o ho => by unfold rhS at ho; unfold rOp; simp at ho; omega) (fun o ho => by unfold rlS at ho; unfold rOp; simp at ho; omega) (rFac_ev (by omega) (fun z => by cases z))
  | k + 1 => by
    have := rTwo_ev (T := T) (h := 3 + 2 * (k : Int)) (F := rFac T (rSum T k) true) (hi := rhS) (lo := rlS) (by omega) (fun o ho => by unfold rhS at ho; unfold rOp; simp at ho; omega) (fun o ho => by unfold rlS at ho; unfold rOp; simp at ho; omega) (rFac_ev (by omega) (fun _ => rSum_ev k))
    intro i j c v hq
    exact rEv_up (by omega) (this i j c v hq)
theorem rCond_ev {T : Int → Int} : rOkF (rCond T) 20 := by
  intro i j c v hq
  unfold rCond at hq
  cases hs : rSum T 8 i with
  | inl j0 => rw [hs] at hq; cases hq
  | inr q =>
    obtain ⟨j0, c0, v0⟩ := q
    rw [hs] at hq
    simp only at hq
    split at hq
    · rename_i ho
      cases hs2 : rSum T 8 (j0 + 1) with
      | inl j1 => rw [hs2] at hq; cases hq
      | inr q2 =>
        obtain ⟨j1, c1, v1⟩ := q2
        rw [hs2] at hq
        cases hq
        exact rEv_up (by omega) (rEv_j (by unfold rOp; omega) (by omega) (by omega) (rSum_ev 8 _ _ _ _ hs) (rSum_ev 8 _ _ _ _ hs2))
    · cases hq
theorem rWhen_ev {T : Int → Int} : rOkF (rWhen T) 22 := rTwo_ev (h := 20) (by omega) (fun o ho => by unfold rhW at ho; unfold rOp; simp at ho; omega) (fun o ho => by unfold rlW at ho; unfold rOp; simp at ho; omega) rCond_ev
end
