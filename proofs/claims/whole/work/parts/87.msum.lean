section
def mQ (d : Nat) (Q : aQ) (e : Int → Int) (L : Option (Int × rV)) : aQ := match L with
  | none => fun r σ' => ∃ x : Int, r = some (vl x) ∧ Yx (d + 8) cd189 2 Q 13 [vr 96, vt, vt, vt, vt, vt] [vl x] σ'
  | some (o, l) => fun r σ' => ∃ x : Int, r = some (vl x) ∧ Yx (d + 8) cd189 2 Q 47 [vr 96, vl (l e), vt, vi (bi (o = 20043)), vt, vt] [vl x] σ'
def mLs (L : Option (Int × rV)) : Prop := match L with
  | none => True
  | some (o, _) => o = 20043 ∨ o = 20045
theorem mQ_out {d : Nat} {Q : aQ} {e : Int → Int} {L : Option (Int × rV)} {t : rV} {s : aW} (hL : mLs L) (h : Yx (d + 8) cd189 2 Q 14 [vr 96, vl (rCb L t e), vt, vt, vt, vt] [] s) : mQ d Q e L (some (vl (t e))) s := by
  cases L with
  | none => exact ⟨_, rfl, b189_13_1 h⟩
  | some q =>
    obtain ⟨o, l⟩ := q
    refine ⟨_, rfl, b189_47_1 ?_⟩
    have e1 : (if bi (o = 20043) = 0 then (w64 (l e - t e)) else (w64 (l e + t e))) = rCb (some (o, l)) t e := by
      show _ = rJ o (l e) (t e)
      unfold rJ
      rcases hL with z | z
      · rw [bi_t z, z]; rfl
      · rw [bi_f (by omega), z]; rfl
    rw [e1]
    exact h
theorem mQ_bad {d : Nat} {Q : aQ} {e : Int → Int} {L : Option (Int × rV)} {B : Int → Int} {n j : Int} {s : aW} (b : mBd B n j s) (h : ∀ r, Q (some (vl r)) s) (a : Int) : Yx (d + 7) cd188 2 (mQ d Q e L) 5 [vr 96, vl a, vt, vt, vt, vt] [] s := by
  refine b188_5 ⟨mSb b, fun z => absurd z.1 b.1, fun _ => ⟨mSb b, fun _ => ?_, fun z => absurd z.1 b.1⟩⟩
  cases L with
  | none => exact ⟨_, rfl, b189_13_1 (b189_14 ⟨mSb b, fun z => absurd z.1 b.1, fun _ => ⟨mSb b, fun _ => h _, fun z => absurd z.1 b.1⟩⟩)⟩
  | some q => exact ⟨_, rfl, b189_47_1 (b189_14 ⟨mSb b, fun z => absurd z.1 b.1, fun _ => ⟨mSb b, fun _ => h _, fun z => absurd z.1 b.1⟩⟩)⟩
theorem c189l {d : Nat} {Q : aQ} {B : Int → Int} {n : Int} {e : Int → Int} {F : Int → rO} {o : Int} {s0 : aW} {X : rO} (hF : mSpS (d + 6) 187 B n e F o) (pF : rPg (kMm B n) F) (hE : mEn e s0)
    (kO : ∀ j c v s', X = .inr (j, c, v) → Fg [] mPO s0 s' → mAt B n j s' → s' 96 52 = o → Q (some (vl (v e))) s')
    (kB : ∀ j s' r, X = .inl j → Fg [] mPP s0 s' → mBd B n j s' → s' 96 52 = o → Q (some (vl r)) s') :
    ∀ (m : Nat) (L : Option (Int × rV)) (c : List Int) (t : rV) (i : Int) (s : aW), Fg [] mPO s0 s → mAt B n i s → s 96 52 = o → kMm B n - i < m → mLs L → X = rLp (kTt B n) rhS rlS F m L c t i → Yx (d + 7) cd188 2 (mQ d Q e L) 5 [vr 96, vl (t e), vt, vt, vt, vt] [] s
  | 0, L, c, t, i, s, f0, hA, ho, hm, hL, hX => by
    have := hA.2.1
    omega
  | m + 1, L, c, t, i, s, f0, hA, ho, hm, hL, hX => by
    have hlt : ¬ kTt B n i = 30000 → i < kMm B n := fun w => by
      rcases mTd hA with c | c
      · exact absurd c.2.1 w
      · exact c.1
    have hh : rhS (kTt B n i) = true ↔ (kTt B n i = 20042 ∨ kTt B n i = 20047) := by unfold rhS; simp
    have hl : rlS (kTt B n i) = true ↔ (kTt B n i = 20043 ∨ kTt B n i = 20045) := by unfold rlS; simp
    unfold rLp at hX
    have hi : (kTt B n i = 20042 ∨ kTt B n i = 20047) → ∀ fl, fl = bi (kTt B n i = 20042) → aEv (d + 6) true 183 [vr 96] s (fun r σ' => r = none ∧ Yx (d + 7) cd188 2 (mQ d Q e L) 34 [vr 96, vl (t e), vt, vi fl, vt, vt] [] σ') := fun z fl hfl => by
      rw [if_pos (hh.2 z)] at hX
      refine gOn hA (hlt (by omega)) (fun s1 f1 A1 => ⟨rfl, b188_34 ?_⟩)
      have fg1 : Fg [] mPO s0 s1 := Fg_t f0 (Fg_m f1 (by decide) (by decide))
      have hp := pF (i + 1) A1.1 A1.2.1
      refine hF _ s1 (i + 1) A1 (mEn_g hE fg1 (by decide) rfl) ((f1 96 52 (by simp) (by decide)).trans ho) (fun j c' v s2 e2 f2 A2 o2 => ⟨_, rfl, ?_⟩) (fun j s2 r e2 f2 b2 o2 => ⟨_, rfl, ?_⟩)
      · rw [e2] at hX
        simp only at hX
        have hq := hp.1 _ _ _ e2
        have ih : ∀ val, val = rJ (kTt B n i) (t e) (v e) → Yx (d + 7) cd188 2 (mQ d Q e L) 5 [vr 96, vl val, vt, vt, vt, vt] [] s2 := fun val hv => by
          rw [hv]
          exact c189l hF pF hE kO kB m L _ _ j s2 (Fg_t fg1 f2) A2 o2 (by omega) hL hX
        refine b188_38_1 ⟨fun y => ?_, fun y => ih _ ?_⟩
        · have z2 : kTt B n i = 20047 := by
            rcases z with w | w
            · rw [hfl, bi_t w] at y
              omega
            · exact w
          refine ⟨fun y2 => ⟨fun _ => y2, ih _ ?_⟩, fun y2 => ih _ ?_⟩
          · rw [z2]
            show _ = (if v e = 0 then 0 else w64 ((t e).tdiv (v e)))
            rw [if_neg y2]
            by_cases y3 : v e = -1
            · rw [if_neg (fun w => w y3), y3, Int.tdiv_neg, Int.tdiv_one]
            · rw [if_pos y3]
          · rw [z2]
            show _ = (if v e = 0 then 0 else w64 ((t e).tdiv (v e)))
            rw [if_pos y2]
        · have z2 : kTt B n i = 20042 := by
            apply Classical.byContradiction
            intro w
            exact y (by rw [hfl, bi_f w])
          rw [z2]
          rfl
      · rw [e2] at hX
        simp only at hX
        have hq : ∀ r, Q (some (vl r)) s2 := fun r => kB j s2 r hX (Fg_t (Fo fg1) f2) b2 o2
        refine b188_38_1 ⟨fun y => ⟨fun y2 => ⟨fun _ => y2, mQ_bad b2 hq _⟩, fun y2 => mQ_bad b2 hq _⟩, fun y => mQ_bad b2 hq _⟩
    have lo : ¬ (kTt B n i = 20042 ∨ kTt B n i = 20047) → (kTt B n i = 20043 ∨ kTt B n i = 20045) → ∀ fl, fl = bi (kTt B n i = 20043) → aEv (d + 7) true 183 [vr 96] s (fun r σ' => r = none ∧ Yx (d + 8) cd189 2 Q 43 [vr 96, vl (rCb L t e), vt, vi fl, vt, vt] [] σ') := fun z z2 fl hfl => by
      rw [if_neg (fun w => z (hh.1 w)), if_pos (hl.2 z2)] at hX
      refine gOn hA (hlt (by omega)) (fun s1 f1 A1 => ⟨rfl, b189_43 (e188 (b188_0 ?_))⟩)
      have fg1 : Fg [] mPO s0 s1 := Fg_t f0 (Fg_m f1 (by decide) (by decide))
      have hp := pF (i + 1) A1.1 A1.2.1
      have eQ : (fun r σ' => ∃ x : Int, r = some (vl x) ∧ Yx (d + 8) cd189 2 Q 47 [vr 96, vl (rCb L t e), vt, vi fl, vt, vt] [vl x] σ') = mQ d Q e (some (kTt B n i, rCb L t)) := by rw [hfl]; rfl
      rw [eQ]
      refine hF _ s1 (i + 1) A1 (mEn_g hE fg1 (by decide) rfl) ((f1 96 52 (by simp) (by decide)).trans ho) (fun j c' v s2 e2 f2 A2 o2 => ⟨_, rfl, b188_4_1 ?_⟩) (fun j s2 r e2 f2 b2 o2 => ⟨_, rfl, b188_4_1 ?_⟩)
      · rw [e2] at hX
        simp only at hX
        have hq := hp.1 _ _ _ e2
        exact c189l hF pF hE kO kB m (some (kTt B n i, rCb L t)) _ _ j s2 (Fg_t fg1 f2) A2 o2 (by omega) z2 hX
      · rw [e2] at hX
        simp only at hX
        exact mQ_bad b2 (fun r => kB j s2 r hX (Fg_t (Fo fg1) f2) b2 o2) _
    have s42 := mSg hA 42 (by decide)
    have s47 := mSg hA 47 (by decide)
    have s43 := mSg hA 43 (by decide)
    have s45 := mSg hA 45 (by decide)
    have si := mSi hA
    refine b188_5 ⟨si, fun y => ⟨si, hi (Or.inl (s42.1 y).1) _ (bi_c ⟨fun w => (s42.1 w).1, fun w => s42.2 ⟨w, hlt (by rw [w]; decide)⟩⟩)⟩, fun y1 => ⟨si, fun y2 => mQ_out hL (b189_14 ⟨si, fun y3 => ⟨si, lo ?_ ?_ _ (bi_c ⟨fun w => (s43.1 w).1, fun w => s43.2 ⟨w, hlt (by rw [w]; decide)⟩⟩)⟩, fun y3 => ⟨si, fun y4 => ?_, fun y4 => ⟨si, lo ?_ ?_ _ (bi_c ⟨fun w => (s43.1 w).1, fun w => s43.2 ⟨w, hlt (by rw [w]; decide)⟩⟩)⟩⟩⟩), fun y2 => ⟨si, hi (Or.inr (s47.1 y2).1) _ (bi_c ⟨fun w => (s42.1 w).1, fun w => s42.2 ⟨w, hlt (by rw [w]; decide)⟩⟩)⟩⟩⟩
    · have := (s43.1 y3).1
      rw [this]
      decide
    · exact Or.inl (s43.1 y3).1
    · have h1 : ¬ kTt B n i = 20042 := fun w => y1 (s42.2 ⟨w, hlt (by rw [w]; decide)⟩)
      have h2 : ¬ kTt B n i = 20047 := fun w => y2 (s47.2 ⟨w, hlt (by rw [w]; decide)⟩)
      have h3 : ¬ kTt B n i = 20043 := fun w => y3 (s43.2 ⟨w, hlt (by rw [w]; decide)⟩)
      have h4 : ¬ kTt B n i = 20045 := fun w => y4 (s45.2 ⟨w, hlt (by rw [w]; decide)⟩)
      rw [if_neg (fun w => (hh.1 w).elim h1 h2), if_neg (fun w => (hl.1 w).elim h3 h4)] at hX
      exact kO _ _ _ s hX f0 hA ho
    · have := (s45.1 y4).1
      rw [this]
      decide
    · exact Or.inr (s45.1 y4).1
theorem c189t {d : Nat} {B : Int → Int} {n : Int} {e : Int → Int} {F : Int → rO} {o : Int} (hn : n ≤ 300) (n0 : 0 ≤ n) (hF : mSpS (d + 6) 187 B n e F o) (pF : rPg (kMm B n) F) : mSpS (d + 8) 189 B n e (rTwo (kTt B n) rhS rlS F) o := by
  intro Q s x hA hE ho kO kB
  have hM := (kMm_ok (B := B) n0 hn).2
  have hp := pF x hA.1 hA.2.1
  unfold rTwo at kO kB
  refine e189 (b189_0 ⟨fun _ => e188 (b188_0 (hF _ s x hA hE ho (fun j c v s1 e1 f1 A1 o1 => ⟨_, rfl, b188_4_1 ?_⟩) (fun j s1 r e1 f1 b1 o1 => ⟨_, rfl, b188_4_1 ?_⟩))), fun z => absurd hA.2.2.1 z⟩)
  · rw [e1] at kO kB
    have hq := hp.1 _ _ _ e1
    have x0 := hA.1
    exact c189l hF pF (mEn_g hE f1 (by decide) rfl) (fun j' c' v' s' a1 a2 a3 a4 => kO j' c' v' s' a1 (Fg_t f1 a2) a3 a4) (fun j' s' r a1 a2 a3 a4 => kB j' s' r a1 (Fg_t (Fo f1) a2) a3 a4) 400 none c v j s1 Fg_r A1 o1 (by omega) trivial rfl
  · rw [e1] at kB
    exact mQ_bad (e := e) (L := none) b1 (fun r => kB j s1 r rfl f1 b1 o1) _
theorem c189 {B : Int → Int} {n : Int} {e : Int → Int} (hn : n ≤ 300) (n0 : 0 ≤ n) (hT : rT (kTt B n) (kMm B n)) : ∀ (k d : Nat), k ≤ 8 → mSpS (d + 3 * k + 8) 189 B n e (rSum (kTt B n) k) (8 - k)
  | 0, d, hk => by
    have h := c187 (d := d) (B := B) (n := n) (e := e) (S := fun i => .inl i) (o := 8) (by omega) (by omega) (fun z => absurd rfl z) (fun z => absurd rfl z)
    exact c189t hn n0 h (rFac_pg hT (fun z => by cases z))
  | k + 1, d, hk => by
    have h := c187 (d := d + 3 * k + 3) (B := B) (n := n) (e := e) (S := rSum (kTt B n) k) (o := 8 - ((k + 1 : Nat) : Int)) (by omega) (by omega) (fun z => by
      have := c189 (e := e) hn n0 hT k d (by omega)
      rw [show (8 : Int) - ((k + 1 : Nat) : Int) + 1 = 8 - k by omega]
      exact this) (fun z => rSum_pg hT k)
    rw [show decide (¬ (8 : Int) - ((k + 1 : Nat) : Int) = 8) = true from decide_eq_true (by omega)] at h
    exact c189t hn n0 h (rFac_pg hT (fun _ => rSum_pg hT k))
end
