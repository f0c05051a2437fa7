section
/-! flows: serving a house -/
abbrev wSt : Type := (Int → Int) × Int × (Int → Int)
noncomputable def wUn (ν : aW) (t w : Int) (s : wSt) : Int := wM ν s.1 t (w - s.2.1) (wK ν s.1 t)
noncomputable def wSp (ν : aW) (t w : Int) (s : wSt) : wSt := (wL ν s.1 t (wUn ν t w s) (wK ν s.1 t), s.2.1 + wUn ν t w s, wT ν s.1 t (wUn ν t w s) s.2.2 (wK ν s.1 t))
def wStop (ν : aW) (t w : Int) (s : wSt) : Prop := w ≤ s.2.1 ∨ ¬ wDs ν s.1 t 0 < 1000000
noncomputable def wSv (ν : aW) (t w : Int) : Nat → wSt → wSt
  | 0, s => s
  | n + 1, s => @ite _ (wStop ν t w s) (Classical.propDecidable _) s (wSv ν t w n (wSp ν t w s))
theorem wSv_stop {ν : aW} {t w : Int} {s : wSt} (h : wStop ν t w s) : ∀ n : Nat, wSv ν t w n s = s
  | 0 => rfl
  | n + 1 => by
    show @ite _ (wStop ν t w s) (Classical.propDecidable _) s (wSv ν t w n (wSp ν t w s)) = s
    exact if_pos h
theorem wSv_go {ν : aW} {t w : Int} {s : wSt} (h : ¬ wStop ν t w s) (n : Nat) : wSv ν t w (n + 1) s = wSv ν t w n (wSp ν t w s) := by
  show @ite _ (wStop ν t w s) (Classical.propDecidable _) s (wSv ν t w n (wSp ν t w s)) = _
  exact if_neg h
theorem wUn_b {ν : aW} {t w : Int} {s : wSt} (hN : wN ν) (t0 : 0 ≤ t) (t1 : t < ν 96 5) (h : ¬ wStop ν t w s) : wDs ν s.1 t 0 < 1000000 ∧ s.2.1 < w ∧ 1 ≤ wUn ν t w s ∧ wUn ν t w s ≤ w - s.2.1 := by
  unfold wStop at h
  have hf : wDs ν s.1 t 0 < 1000000 := Classical.byContradiction (fun z => h (Or.inr z))
  have hl : s.2.1 < w := Classical.byContradiction (fun z => h (Or.inl (by omega)))
  have b := wM_b (l := w - s.2.1) hN t0 t1 hf (by omega) (wK ν s.1 t) (Nat.le_refl _)
  exact ⟨hf, hl, b.1, b.2.1⟩
theorem wSv_more {ν : aW} {t w : Int} (hN : wN ν) (t0 : 0 ≤ t) (t1 : t < ν 96 5) : ∀ (n : Nat) (s : wSt), (w - s.2.1).toNat ≤ n → wSv ν t w (n + 1) s = wSv ν t w n s
  | 0, s, h => by
    have hs : wStop ν t w s := Or.inl (by omega)
    rw [wSv_stop hs, wSv_stop hs]
  | n + 1, s, h => by
    rcases Classical.em (wStop ν t w s) with hs | hs
    · rw [wSv_stop hs, wSv_stop hs]
    · have b := wUn_b hN t0 t1 hs
      rw [wSv_go hs, wSv_go hs]
      refine wSv_more hN t0 t1 n _ ?_
      show (w - (s.2.1 + wUn ν t w s)).toNat ≤ n
      omega
/-- a house is served as far as it can be -/
noncomputable def wRs (ν : aW) (t w : Int) (s : wSt) : wSt := wSv ν t w (w - s.2.1).toNat s
theorem wSv_big {ν : aW} {t w : Int} (hN : wN ν) (t0 : 0 ≤ t) (t1 : t < ν 96 5) (s : wSt) : ∀ d : Nat, wSv ν t w ((w - s.2.1).toNat + d) s = wRs ν t w s
  | 0 => rfl
  | d + 1 => by
    rw [← Nat.add_assoc, wSv_more hN t0 t1 _ s (by omega)]
    exact wSv_big hN t0 t1 s d
theorem wRs_stop {ν : aW} {t w : Int} {s : wSt} (h : wStop ν t w s) : wRs ν t w s = s := wSv_stop h _
theorem wRs_go {ν : aW} {t w : Int} {s : wSt} (hN : wN ν) (t0 : 0 ≤ t) (t1 : t < ν 96 5) (h : ¬ wStop ν t w s) : wRs ν t w s = wRs ν t w (wSp ν t w s) := by
  have b := wUn_b hN t0 t1 h
  obtain ⟨j, hj⟩ : ∃ j, (w - s.2.1).toNat = j + 1 := ⟨(w - s.2.1).toNat - 1, by omega⟩
  have e : (wSp ν t w s).2.1 = s.2.1 + wUn ν t w s := rfl
  obtain ⟨d, hd⟩ : ∃ d, j = (w - (wSp ν t w s).2.1).toNat + d := ⟨j - (w - (wSp ν t w s).2.1).toNat, by rw [e]; omega⟩
  unfold wRs
  rw [hj, wSv_go h, hd, wSv_big hN t0 t1]
  rfl
/-! the order of the houses -/
def gF (q : Int → Int) (n b : Int) : Int := sI (fun c => bi (q b < q c ∨ (q c = q b ∧ c < b))) n.toNat
theorem gF_lt {q : Int → Int} {n b c : Int} (hb : 0 ≤ b) (hb1 : b < n) (h : q c < q b ∨ (q b = q c ∧ b < c)) : gF q n b < gF q n c := by
  refine (sI_lt (fun i i0 i1 => ?_)).2 ⟨b, hb, by omega, ?_⟩
  · unfold bi
    split <;> split <;> omega
  · show bi (q b < q b ∨ (q b = q b ∧ b < b)) < bi (q c < q b ∨ (q b = q c ∧ b < c))
    unfold bi
    rw [if_neg (by omega), if_pos h]
    decide
theorem gF_ub {q : Int → Int} {n b : Int} (hb : 0 ≤ b) (hb1 : b < n) : 0 ≤ gF q n b ∧ gF q n b < n := by
  have h := (sI_lt (f := fun c => bi (q b < q c ∨ (q c = q b ∧ c < b))) (g := fun _ => 1) (n := n.toNat) (fun i i0 i1 => bi_le.2)).2 ⟨b, hb, by omega, by
    show bi (q b < q b ∨ (q b = q b ∧ b < b)) < 1
    unfold bi
    rw [if_neg (by omega)]
    decide⟩
  rw [sI_1] at h
  have h2 := sI_b (f := fun c => bi (q b < q c ∨ (q c = q b ∧ c < b))) (B := 1) (n := n.toNat) (fun i i0 i1 => bi_le)
  unfold gF
  omega
theorem gF_u {q : Int → Int} {n b c : Int} (hb : 0 ≤ b) (hb1 : b < n) (hc : 0 ≤ c) (hc1 : c < n) (h : gF q n b = gF q n c) : b = c := by
  apply Classical.byContradiction
  intro hne
  have : (q c < q b ∨ (q b = q c ∧ b < c)) ∨ (q b < q c ∨ (q c = q b ∧ c < b)) := by omega
  rcases this with z | z
  · have := gF_lt hb hb1 z
    omega
  · have := gF_lt hc hc1 z
    omega
/-- a row that is in order -/
theorem gF_o {q o : Int → Int} {n : Int} (hr : ∀ i, 0 ≤ i → i < n → 0 ≤ o i ∧ o i < n) (hs : ∀ i j, 0 ≤ i → i < j → j < n → q (o j) < q (o i) ∨ (q (o i) = q (o j) ∧ o i < o j)) {i : Int} (h0 : 0 ≤ i) (h1 : i < n) : gF q n (o i) = i := by
  have lo : ∀ j : Nat, (j : Int) < n → (j : Int) ≤ gF q n (o j) := by
    intro j
    induction j with
    | zero => exact fun h => (gF_ub (hr _ (by omega) h).1 (hr _ (by omega) h).2).1
    | succ j ih =>
      intro h
      have z := hr j (by omega) (by omega)
      have := gF_lt z.1 z.2 (hs j ((j + 1 : Nat) : Int) (by omega) (by omega) h)
      have := ih (by omega)
      omega
  have up : ∀ j : Nat, 0 ≤ n - 1 - j → gF q n (o (n - 1 - j)) ≤ n - 1 - j := by
    intro j
    induction j with
    | zero =>
      intro h
      have z := hr (n - 1 - ((0 : Nat) : Int)) (by omega) (by omega)
      have := gF_ub (q := q) z.1 z.2
      omega
    | succ j ih =>
      intro h
      have z := hr (n - 1 - ((j + 1 : Nat) : Int)) (by omega) (by omega)
      have := gF_lt z.1 z.2 (hs (n - 1 - ((j + 1 : Nat) : Int)) (n - 1 - j) (by omega) (by omega) (by omega))
      have := ih (by omega)
      omega
  have l := lo i.toNat (by omega)
  have u := up (n - 1 - i).toNat (by omega)
  rw [show ((i.toNat : Nat) : Int) = i by omega] at l
  rw [show n - 1 - (((n - 1 - i).toNat : Nat) : Int) = i by omega] at u
  omega
noncomputable def wH (q : Int → Int) (n i : Int) : Int := Classical.epsilon (fun h => 0 ≤ h ∧ h < n ∧ gF q n h = i)
theorem wH_u {q : Int → Int} {n i h : Int} (h0 : 0 ≤ h) (h1 : h < n) (e : gF q n h = i) : h = wH q n i := by
  have z := Classical.epsilon_spec (p := fun h => 0 ≤ h ∧ h < n ∧ gF q n h = i) ⟨h, h0, h1, e⟩
  exact gF_u h0 h1 z.1 z.2.1 (e.trans z.2.2.symm)
/-- flow, what the houses have got, what goes through the pipes for them, when i houses have been served -/
abbrev wFt : Type := (Int → Int) × (Int → Int) × (Int → Int → Int)
noncomputable def wOne (ν : aW) (wf : Int → Int) (s : wFt) (h : Int) : wFt := ((wRs ν (ν 109 h) (wf h) (s.1, 0, fun _ => 0)).1, fu s.2.1 h (wRs ν (ν 109 h) (wf h) (s.1, 0, fun _ => 0)).2.1, fun x => if x = h then (wRs ν (ν 109 h) (wf h) (s.1, 0, fun _ => 0)).2.2 else s.2.2 x)
noncomputable def wFS (ν : aW) (wf : Int → Int) (n : Int) : Nat → wFt
  | 0 => (fun _ => 0, fun _ => 0, fun _ _ => 0)
  | i + 1 => wOne ν wf (wFS ν wf n i) (wH (ν 111) n i)
theorem wFS_s {ν : aW} {wf : Int → Int} {n i : Int} (h : 0 ≤ i) : wFS ν wf n (i + 1).toNat = wOne ν wf (wFS ν wf n i.toNat) (wH (ν 111) n i) := by
  have e : (i + 1).toNat = i.toNat + 1 := by omega
  have e2 : ((i.toNat : Nat) : Int) = i := by omega
  rw [e]
  show wOne ν wf (wFS ν wf n i.toNat) (wH (ν 111) n (i.toNat : Nat)) = _
  rw [e2]
end
