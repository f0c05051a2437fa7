section
/-! rules: the component tells -/
theorem c88 {d : Nat} {Q : aQ} {s : aW} {o a b : Int} (k : Q (some (vl (rJ o a b))) s) : aEv (d + 0) true 88 [vi o, vl a, vl b] s Q := by
  unfold rJ at k
  refine e88 (b88_0 ?_)
  refine ⟨fun z => ?_, fun z => ⟨fun z2 => ?_, fun z2 => ⟨fun z3 => ?_, fun z3 => ⟨fun z4 => ?_, fun z4 => ⟨fun z5 => ?_, fun z5 => ⟨fun z6 => ?_, fun z6 => ⟨fun z7 => ?_, fun z7 => ⟨fun z8 => ?_, fun z8 => ?_⟩⟩⟩⟩⟩⟩⟩⟩
  · rw [if_pos z] at k; exact k
  · rw [if_neg z, if_pos z2] at k; exact k
  · rw [if_neg z, if_neg z2, if_pos z3] at k; exact k
  · rw [if_neg z, if_neg z2, if_neg z3, if_pos z4] at k; exact k
  · rw [if_neg z, if_neg z2, if_neg z3, if_neg z4, if_pos z5] at k
    refine ⟨fun y => y, ?_⟩
    by_cases y : b = 0
    · rw [if_pos y] at k
      rw [if_neg (fun w => w y)]
      exact k
    · rw [if_neg y] at k
      rw [if_pos y]
      exact k
  · rw [if_neg z, if_neg z2, if_neg z3, if_neg z4, if_neg z5, if_pos z6] at k
    by_cases y : a < b
    · rw [if_pos y] at k
      rw [if_neg (by omega)]
      exact k
    · rw [if_neg y] at k
      rw [if_pos (by omega)]
      exact k
  · rw [if_neg z, if_neg z2, if_neg z3, if_neg z4, if_neg z5, if_neg z6, if_pos z7] at k
    by_cases y : a = b
    · rw [if_pos y] at k
      rw [if_neg (fun w => w y)]
      exact k
    · rw [if_neg y] at k
      rw [if_pos y]
      exact k
  · rw [if_neg z, if_neg z2, if_neg z3, if_neg z4, if_neg z5, if_neg z6, if_neg z7, if_pos z8] at k
    by_cases y : b < a
    · rw [if_pos y] at k
      rw [if_neg (by omega)]
      exact k
    · rw [if_neg y] at k
      rw [if_pos (by omega)]
      exact k
  · rw [if_neg z, if_neg z2, if_neg z3, if_neg z4, if_neg z5, if_neg z6, if_neg z7, if_neg z8] at k
    exact k
theorem c87l {d : Nat} {Q : aQ} {e : Int → Int} {to : Int} (ht : to ≤ 300) : ∀ (c : List Int) (i top : Int) (s : aW), 0 ≤ i → i + c.length = to → 0 ≤ top → top ≤ 32 → cAt (s 27) i c → (∀ k, 0 ≤ k → k < 7 → s 26 k = e k) → (∀ s', Fr [31] s s' → s' 31 = (rRun e c (s 31, top)).1 → Q (some (vl ((rRun e c (s 31, top)).1 0))) s') → Yx (d + 1) cd87 2 Q 5 [vr 25, vt, vi to, vi top, vi i, vt] [] s
  | [], i, top, s, i0, h1, t0, t1, hc, he, k => by
    have e1 : i = to := by
      simp only [List.length_nil] at h1
      omega
    exact b87_5 ⟨fun _ => k s Fr_r rfl, fun z => by omega⟩
  | x :: l, i, top, s, i0, h1, t0, t1, hc, he, k => by
    simp only [List.length_cons] at h1
    have hx := hc.1
    have nx : ∀ (s1 : aW) (top1 : Int), Fr [31] s s1 → (s1 31, top1) = rSt e x (s 31, top) → 0 ≤ top1 → top1 ≤ 32 → Yx (d + 1) cd87 2 Q 5 [vr 25, vt, vi to, vi top1, vi (i + 1), vt] [] s1 := by
      intro s1 top1 f1 e1 u0 u1
      refine c87l ht l (i + 1) top1 s1 (by omega) (by omega) u0 u1 (by rw [f1 27 (by decide)]; exact hc.2) (by rw [f1 26 (by decide)]; exact he) (fun s' f2 e2 => ?_)
      have e3 : rRun e (x :: l) (s 31, top) = rRun e l (s1 31, top1) := by
        show rRun e l (rSt e x (s 31, top)) = _
        rw [e1]
      rw [e3] at k
      exact k s' (Fr_t f1 f2 (fun k z => ⟨z, z⟩)) e2
    refine b87_5 ⟨fun z => by omega, fun _ => ?_⟩
    rw [hx]
    have push : ((0 ≤ x ∧ x ≤ 9999) ∨ (10007 ≤ x ∧ x < 10014)) → ¬ 32 ≤ top → Yx (d + 1) cd87 2 Q 5 [vr 25, vt, vi to, vi (top + 1), vi (i + 1), vt] [] (sw s 31 (fu (s 31) top (if ¬ (10007 ≤ x ∧ x < 10014) then x else s 26 (x - 10007)))) := by
      intro z y
      refine nx _ (top + 1) (Fr_w Fr_r (by decide)) ?_ (by omega) (by omega)
      rw [sw_s]
      unfold rSt
      rw [if_pos z, if_neg (show ¬ 32 ≤ (s 31, top).2 from y)]
      show (fu (s 31) top _, top + 1) = (fu (s 31) top _, top + 1)
      by_cases w : 10007 ≤ x ∧ x < 10014
      · rw [if_neg (fun q => q w), if_neg (fun q => q w), he _ (by omega) (by omega)]
      · rw [if_pos w, if_pos w]
    have full : ((0 ≤ x ∧ x ≤ 9999) ∨ (10007 ≤ x ∧ x < 10014)) → 32 ≤ top → Yx (d + 1) cd87 2 Q 5 [vr 25, vt, vi to, vi top, vi (i + 1), vt] [] s := by
      intro z y
      refine nx s top Fr_r ?_ t0 t1
      unfold rSt
      rw [if_pos z, if_pos (show 32 ≤ (s 31, top).2 from y)]
    refine ⟨by omega, fun z => ⟨fun y => ⟨by omega, full (Or.inl z) y⟩, fun y => ⟨fun w => by omega, by omega, by omega, by omega, push (Or.inl z) y⟩⟩, fun z => ⟨fun z2 => ⟨fun y => ⟨by omega, ?_⟩, fun y => ?_⟩, fun z2 => ⟨fun y => ⟨by omega, full (Or.inr z2) y⟩, fun y => ⟨fun w => by omega, by omega, by omega, by omega, push (Or.inr z2) y⟩⟩⟩⟩
    · refine nx s top Fr_r ?_ t0 t1
      unfold rSt
      rw [if_neg (by omega), if_pos (show (s 31, top).2 < 2 from y)]
    · rw [show top + (-1) - 1 = top - 2 by omega, show top + (-1) = top - 1 by omega]
      refine ⟨by omega, by omega, by omega, by omega, by omega, c88 ⟨_, rfl, b87_113_3 ⟨by omega, by omega, ?_⟩⟩⟩
      refine nx _ (top - 1) (Fr_w Fr_r (by decide)) ?_ (by omega) (by omega)
      rw [sw_s]
      unfold rSt
      rw [if_neg (by omega), if_neg (show ¬ (s 31, top).2 < 2 from y)]
theorem c87 {d : Nat} {Q : aQ} {s : aW} {e : Int → Int} {a b : Int} {c : List Int} {v : rV} {h : Int} (hc : cAt (s 27) a c) (h0 : 0 ≤ a) (h1 : b = a + c.length) (h2 : b ≤ 300) (hv : rEv c v h) (hh : h ≤ 32) (he : ∀ k, 0 ≤ k → k < 7 → s 26 k = e k) (k : ∀ s', Fr [31] s s' → Q (some (vl (v e))) s') : aEv (d + 1) true 87 [vr 25, vi a, vi b] s Q := by
  refine e87 (b87_0 (c87l (e := e) h2 c a 0 s h0 h1.symm (Int.le_refl _) (by omega) hc he (fun s' f1 e1 => ?_)))
  have z := hv e (s 31) 0 (Int.le_refl _) (by omega)
  rw [z.2.1]
  exact k s' f1
def rHo (e : Int → Int) (w : Option (List Int × rV)) : Bool := match w with
  | none => true
  | some (_, v) => decide (¬ v e = 0)
def rTell (e : Int → Int) (kd : Int) : List rRu → Option Int
  | [] => none
  | (k, (_, v), w) :: l => if k = kd ∧ rHo e w = true then some (v e) else rTell e kd l
/-- a rule's codes tell its values -/
def rRok (r : rRu) : Prop := rEv r.2.1.1 r.2.1.2 32 ∧ (match r.2.2 with
  | none => True
  | some (c, v) => rEv c v 32 ∧ 1 ≤ c.length)
theorem c85l {d : Nat} {Q : aQ} {e : Int → Int} {kd lo hi wo R : Int} (hlo : r32 lo) (hhi : r32 hi) : ∀ (l : List rRu) (r n : Int) (s0 s : aW), 0 ≤ r → r + l.length = R → R ≤ 12 → 0 ≤ n → n + rTl l ≤ 300 → s 25 0 = R → rAr (s 27) (s 28) (s 29) (s 30) r n l → (r = 0 → n = 0) → (¬ r = 0 → s 30 (r - 1) = n) → (∀ x ∈ l, rRok x) → (∀ k, 0 ≤ k → k < 7 → s 26 k = e k) → Fr [31] s0 s → (∀ s', Fr [31] s0 s' → Q (some (vi (match rTell e kd l with
      | none => wo
      | some x => max lo (min hi x)))) s') → Yx (d + 3) cd85 1 Q 3 [vr 25, vi kd, vi lo, vi hi, vi wo, vi r, vt, vt] [] s
  | [], r, n, s0, s, r0, h1, h2, n0, n1, hR, hA, hn, hp, hok, he, hF, k => by
    simp only [List.length_nil] at h1
    exact b85_3 ⟨fun _ => k s hF, fun z => by omega⟩
  | (kk, (c, v), w) :: l, r, n, s0, s, r0, h1, h2, n0, n1, hR, hA, hn, hp, hok, he, hF, k => by
    simp only [List.length_cons] at h1
    obtain ⟨a1, a2, a3, a4, a5⟩ := hA
    rw [cAt_a] at a4
    have hl0 := rTl_0 l
    have n1' : n + (c.length + (rWc w).length + rTl l) ≤ 300 := n1
    have ok := hok _ List.mem_cons_self
    have nx : ∀ s1, Fr [31] s s1 → ¬ (kk = kd ∧ rHo e w = true) → Yx (d + 3) cd85 1 Q 3 [vr 25, vi kd, vi lo, vi hi, vi wo, vi (r + 1), vt, vt] [] s1 := by
      intro s1 f1 z
      refine c85l hlo hhi l (r + 1) (n + c.length + (rWc w).length) s0 s1 (by omega) (by omega) h2 (by omega) (by omega) (by rw [f1 25 (by decide)]; exact hR) (by rw [f1 27 (by decide), f1 28 (by decide), f1 29 (by decide), f1 30 (by decide)]; exact a5) (fun y => by omega) (fun _ => by rw [f1 30 (by decide), show r + 1 - 1 = r by omega]; exact a3) (fun x hx => hok x (List.mem_cons_of_mem _ hx)) (by rw [f1 26 (by decide)]; exact he) (Fr_t hF f1 (fun k z => ⟨z, z⟩)) (fun s' f' => ?_)
      have := k s' f'
      have e1 : rTell e kd ((kk, (c, v), w) :: l) = rTell e kd l := by
        show (if kk = kd ∧ rHo e w = true then some (v e) else rTell e kd l) = _
        rw [if_neg z]
      rw [e1] at this
      exact this
    refine b85_3 ⟨fun z => by omega, fun _ => ⟨by omega, fun z => ⟨by omega, nx s Fr_r (fun y => z (by rw [a1]; exact y.1))⟩, fun z => ?_⟩⟩
    have hkd : kk = kd := a1.symm.trans z
    have yes : ∀ s1, Fr [31] s s1 → rHo e w = true → Yx (d + 3) cd85 1 Q 29 [vr 25, vi kd, vi lo, vi hi, vi wo, vi r, vt, vt] [vi 1] s1 := by
      intro s1 f1 y
      refine b85_29_1 ⟨fun q => by omega, fun _ => ?_⟩
      rw [f1 29 (by decide), f1 30 (by decide)]
      refine ⟨fun q => ⟨by omega, by omega⟩, by omega, ?_⟩
      have ef : (if ¬ r = 0 then s 30 (r - 1) else 0) = n := by
        by_cases q : r = 0
        · rw [if_neg (fun w => w q)]
          exact (hn q).symm
        · rw [if_pos q]
          exact hp q
      rw [ef, a2]
      refine c87 (by rw [f1 27 (by decide)]; exact a4.1) n0 rfl (by omega) ok.1 (Int.le_refl _) (by rw [f1 26 (by decide)]; exact he) (fun s2 f2 => ⟨_, rfl, b85_61_1 ⟨?_, ?_⟩⟩)
      · unfold r32 at hlo hhi
        omega
      · have := k s2 (Fr_t hF (Fr_t f1 f2 (N := [31]) (fun k z => ⟨z, z⟩)) (fun k z => ⟨z, z⟩))
        have e1 : rTell e kd ((kk, (c, v), w) :: l) = some (v e) := by
          show (if kk = kd ∧ rHo e w = true then some (v e) else rTell e kd l) = _
          rw [if_pos ⟨hkd, y⟩]
        rw [e1] at this
        exact this
    refine e86 (b86_0 ?_)
    rw [a2, a3]
    cases w with
    | none =>
      refine ⟨by omega, by omega, fun _ => ⟨_, rfl, yes s Fr_r rfl⟩, fun y => absurd ?_ y⟩
      show n + c.length = n + c.length + ((0 : Nat) : Int)
      omega
    | some q =>
      obtain ⟨c', v'⟩ := q
      have ok2 := ok.2
      refine ⟨by omega, by omega, fun y => ?_, fun y => ⟨by omega, by omega, ?_⟩⟩
      · have : n + (c.length : Int) = n + c.length + (c'.length : Int) := y
        have := ok2.2
        omega
      · refine c87 (c := c') (v := v') a4.2 (by omega) rfl (by show n + c.length + (c'.length : Int) ≤ 300; have : n + ((c.length : Int) + (c'.length : Int) + rTl l) ≤ 300 := n1; omega) ok2.1 (Int.le_refl _) he (fun s1 f1 => ⟨_, rfl, b86_31_1 ?_⟩)
        by_cases hz : v' e = 0
        · refine ⟨_, rfl, ?_⟩
          rw [show bi (¬ v' e = 0) = 0 by unfold bi; rw [if_neg (fun w => w hz)]]
          refine b85_29_1 ⟨fun _ => ⟨by omega, nx s1 f1 (fun w => ?_)⟩, fun w => absurd rfl w⟩
          have := w.2
          unfold rHo at this
          simp at this
          exact this hz
        · refine ⟨_, rfl, ?_⟩
          rw [show bi (¬ v' e = 0) = 1 by unfold bi; rw [if_pos hz]]
          exact yes s1 f1 (by unfold rHo; simp [hz])
theorem c85 {d : Nat} {Q : aQ} {s : aW} {e : Int → Int} {kd lo hi wo : Int} {l : List rRu} (hlo : r32 lo) (hhi : r32 hi) (hR : s 25 0 = l.length) (h12 : l.length ≤ 12) (h300 : rTl l ≤ 300) (hA : rAr (s 27) (s 28) (s 29) (s 30) 0 0 l) (hok : ∀ x ∈ l, rRok x) (he : ∀ k, 0 ≤ k → k < 7 → s 26 k = e k)
    (k : ∀ s', Fr [31] s s' → Q (some (vi (match rTell e kd l with
      | none => wo
      | some x => max lo (min hi x)))) s') : aEv (d + 3) true 85 [vr 25, vi kd, vi lo, vi hi, vi wo] s Q :=
  e85 (b85_0 (c85l hlo hhi l 0 0 s s (Int.le_refl _) (by omega) (by omega) (Int.le_refl _) (by omega) hR hA (fun _ => rfl) (fun z => absurd rfl z) hok he Fr_r k))
theorem rRule_ok {T : Int → Int} {M i j : Int} {r : rRu} (hT : rT T M) (i0 : 0 ≤ i) (i1 : i ≤ M) (h : rRule T i = .inr (j, r)) : rRok r ∧ i < j ∧ j ≤ M := by
  have hM : T i = 30000 ∨ i < M := by
    by_cases e : i = M
    · rw [e]; exact Or.inl hT.2.2.1
    · exact Or.inr (by omega)
  unfold rRule at h
  split at h
  · cases hs : rSum T 8 (i + 1) with
    | inl j0 => rw [hs] at h; cases h
    | inr q =>
      obtain ⟨j0, c0, v0⟩ := q
      rw [hs] at h
      simp only at h
      have p := (rSum_pg hT 8 (i + 1) (by omega) (by omega)).1 _ _ _ hs
      have ev := rSum_ev 8 _ _ _ _ hs
      split at h
      · rename_i hw
        have hM2 : j0 < M := by
          by_cases e : j0 = M
          · rw [e] at hw
            have := hT.2.2.1
            omega
          · omega
        cases hs2 : rWhen T (j0 + 1) with
        | inl j1 => rw [hs2] at h; cases h
        | inr q2 =>
          obtain ⟨j1, c1, v1⟩ := q2
          rw [hs2] at h
          cases h
          have p2 := (rWhen_pg hT (j0 + 1) (by omega) (by omega)).1 _ _ _ hs2
          exact ⟨⟨rEv_up (by omega) ev, rEv_up (by omega) (rWhen_ev _ _ _ _ hs2), p2.2.2.2⟩, by omega, by omega⟩
      · cases h
        exact ⟨⟨rEv_up (by omega) ev, trivial⟩, by omega, by omega⟩
  · cases h
theorem rLst_ok {T : Int → Int} {M : Int} (hT : rT T M) : ∀ (n : Nat) (acc : List rRu) (i : Int) (l : List rRu), 0 ≤ i → i ≤ M → (∀ x ∈ acc, rRok x) → rLst T n acc i = .inr l → ∀ x ∈ l, rRok x
  | 0, acc, i, l, i0, i1, ha, h => by
    unfold rLst at h
    split at h
    · cases h
    · split at h
      · cases h
        exact ha
      · cases h
  | n + 1, acc, i, l, i0, i1, ha, h => by
    unfold rLst at h
    split at h
    · rename_i hw
      have hM2 : i < M := by
        by_cases e : i = M
        · rw [e] at hw
          have := hT.2.2.1
          omega
        · omega
      cases hs : rRule T (i + 1) with
      | inl j => rw [hs] at h; cases h
      | inr q =>
        obtain ⟨j, r⟩ := q
        rw [hs] at h
        have ok := rRule_ok hT (by omega) (by omega) hs
        refine rLst_ok hT n (acc ++ [r]) j l (by omega) ok.2.2 (fun x hx => ?_) h
        rcases List.mem_append.mp hx with z | z
        · exact ha x z
        · rw [List.mem_singleton.mp z]
          exact ok.1
    · split at h
      · cases h
        exact ha
      · cases h
theorem rAll_ok {T : Int → Int} {M : Int} {l : List rRu} (hT : rT T M) (h : rAll T = .inr l) : ∀ x ∈ l, rRok x := by
  unfold rAll at h
  split at h
  · cases h
    exact fun x hx => by cases hx
  · cases hs : rRule T 0 with
    | inl j => rw [hs] at h; cases h
    | inr q =>
      obtain ⟨j, r⟩ := q
      rw [hs] at h
      have ok := rRule_ok hT (Int.le_refl _) hT.1 hs
      exact rLst_ok hT 11 [r] j l (by omega) ok.2.2 (fun x hx => by rw [List.mem_singleton.mp hx]; exact ok.1) h
end
