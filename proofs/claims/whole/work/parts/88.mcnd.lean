section
/-! rules: the reference's conditions -/
def mSpI (d f : Nat) (B : Int → Int) (n : Int) (e : Int → Int) (F : Int → rO) (o : Int) : Prop := ∀ (Q : aQ) (s : aW) (x : Int), mAt B n x s → mEn e s → s 96 52 = o → (∀ j c v s', F x = .inr (j, c, v) → Fg [] mPO s s' → mAt B n j s' → s' 96 52 = o → (v e = 0 ∨ v e = 1) → Q (some (vi (v e))) s') → (∀ j s' r, F x = .inl j → Fg [] mPP s s' → mBd B n j s' → s' 96 52 = o → (r = 0 ∨ r = 1) → Q (some (vi r)) s') → aEv d true f [vr 96] s Q
theorem c190 {d : Nat} {B : Int → Int} {n : Int} {e : Int → Int} {o : Int} (hS : mSpS (d + 8) 189 B n e (rSum (kTt B n) 8) o) : mSpI (d + 9) 190 B n e (rCond (kTt B n)) o := by
  intro Q s x hA hE ho kO kB
  unfold rCond at kO kB
  refine e190 (b190_0 (hS _ s x hA hE ho (fun j c v s1 e1 f1 A1 o1 => ⟨_, rfl, ?_⟩) (fun j s1 r e1 f1 b1 o1 => ⟨_, rfl, ?_⟩)))
  · rw [e1] at kO kB
    simp only at kO kB
    have hlt : ¬ kTt B n j = 30000 → j < kMm B n := fun w => by
      rcases mTd A1 with c | c
      · exact absurd c.2.1 w
      · exact c.1
    have s60 := mSg A1 60 (by decide)
    have s61 := mSg A1 61 (by decide)
    have s62 := mSg A1 62 (by decide)
    have go : ∀ a3 : Int, (a3 = 0 ∨ a3 = 1 ∨ a3 = 2) → kTt B n j = (if a3 = 0 then 20060 else if a3 = 1 then 20062 else 20061) → aEv (d + 8) true 183 [vr 96] s1 (fun r σ' => r = none ∧ Yx (d + 9) cd190 3 Q 61 [vr 96, vl (v e), vt, vi a3, vt, vt] [] σ') := fun a3 h3 hT => by
      have hT3 : kTt B n j = 20060 ∨ kTt B n j = 20061 ∨ kTt B n j = 20062 := by
        rcases h3 with z | z | z <;> rw [z] at hT <;> simp at hT <;> omega
      rw [if_pos hT3] at kO kB
      clear s60 s61 s62
      refine gOn A1 (hlt (by omega)) (fun s2 f2 A2 => ⟨rfl, b190_61 ?_⟩)
      have fg2 : Fg [] mPO s s2 := Fg_t f1 (Fg_m f2 (by decide) (by decide))
      refine hS _ s2 (j + 1) A2 (mEn_g hE fg2 (by decide) rfl) ((f2 96 52 (by simp) (by decide)).trans o1) (fun j2 c2 v2 s3 e3 f3 A3 o3 => ⟨_, rfl, ?_⟩) (fun j2 s3 r e3 f3 b3 o3 => ⟨_, rfl, ?_⟩)
      · rw [e3] at kO
        simp only at kO
        have kO' : ∀ w, w = rJ (kTt B n j) (v e) (v2 e) → (w = 0 ∨ w = 1) → Q (some (vi w)) s3 := fun w hw w01 => by
          rw [hw] at w01 ⊢
          exact kO _ _ _ s3 rfl (Fg_t fg2 f3) A3 o3 w01
        rw [hT] at kO'
        refine b190_65_1 ⟨fun z => ⟨fun y => kO' _ ?_ bi_01, fun y => kO' _ ?_ bi_01⟩, fun z => kO' _ ?_ bi_01⟩
        · rw [if_neg z, if_neg y]; rfl
        · rw [if_neg z, if_pos y]
          show bi _ = (if v2 e < v e then 1 else 0)
          exact bi_c (by omega)
        · rw [if_pos z]
          show bi _ = (if v e < v2 e then 1 else 0)
          exact bi_c (by omega)
      · rw [e3] at kB
        simp only at kB
        have hq : ∀ w, (w = 0 ∨ w = 1) → Q (some (vi w)) s3 := fun w w01 => kB j2 s3 w rfl (Fg_t (Fo fg2) f3) b3 o3 w01
        exact b190_65_1 ⟨fun z => ⟨fun y => hq _ bi_01, fun y => hq _ bi_01⟩, fun z => hq _ bi_01⟩
    have si := mSi A1
    refine b190_4_1 ⟨si, fun n0 => ⟨si, fun n2 => ⟨si, fun y => ?_, fun y => ?_⟩, fun y => go 1 (Or.inr (Or.inl rfl)) (s62.1 y).1⟩, fun y => go 0 (Or.inl rfl) (s60.1 y).1⟩
    · have y' : (s1 96 54 = 0 ∧ s1 96 50 = 3 ∧ (if (s1 96 47) ≤ (s1 96 49) then 0 else (s1 123 ((s1 96 46) + (s1 96 49)))) = 61) := by
        apply Classical.byContradiction
        intro w
        exact y (if_pos w)
      rw [if_neg (fun w => w y')]
      exact go 2 (Or.inr (Or.inr rfl)) (s61.1 y').1
    · have y' : ¬ (s1 96 54 = 0 ∧ s1 96 50 = 3 ∧ (if (s1 96 47) ≤ (s1 96 49) then 0 else (s1 123 ((s1 96 46) + (s1 96 49)))) = 61) := fun w => by
        rw [if_neg (fun q => q w)] at y
        exact absurd y (by decide)
      have h0 : ¬ kTt B n j = 20060 := fun w => n0 (s60.2 ⟨w, hlt (by rw [w]; decide)⟩)
      have h1 : ¬ kTt B n j = 20061 := fun w => y' (s61.2 ⟨w, hlt (by rw [w]; decide)⟩)
      have h2 : ¬ kTt B n j = 20062 := fun w => n2 (s62.2 ⟨w, hlt (by rw [w]; decide)⟩)
      rw [if_neg (fun w => w.elim h0 (fun q => q.elim h1 h2))] at kB
      exact gBad A1 (fun s2 f2 b2 => ⟨rfl, b190_55 (kB j s2 0 rfl (Fg_t (Fo f1) (Fg_m f2 (by decide) (by decide))) b2 ((f2 96 52 (by simp) (by decide)).trans o1) (Or.inl rfl))⟩)
  · rw [e1] at kB
    simp only at kB
    have si := mSb b1
    have hb : ∀ {p : Prop}, ¬ (s1 96 54 = 0 ∧ p) := fun z => b1.1 z.1
    refine b190_4_1 ⟨si, fun n0 => ⟨si, fun n2 => ⟨si, fun y => ?_, fun y => ?_⟩, fun y => absurd y hb⟩, fun y => absurd y hb⟩
    · exact absurd (if_pos hb) y
    · exact gBad2 b1 (fun s2 f2 b2 => ⟨rfl, b190_55 (kB j s2 0 rfl (Fg_t f1 (Fg_m f2 (by decide) (by decide))) b2 ((f2 96 52 (by simp) (by decide)).trans o1) (Or.inl rfl))⟩)
def mQw (d : Nat) (Q : aQ) (e : Int → Int) (L : Option (Int × rV)) : aQ := match L with
  | none => fun r σ' => ∃ x : Int, r = some (vi x) ∧ Yx (d + 11) cd192 3 Q 4 [vr 96, vt, vt] [vi x] σ'
  | some (_, l) => fun r σ' => ∃ x : Int, r = some (vi x) ∧ Yx (d + 11) cd192 3 Q 23 [vr 96, vi (l e), vt] [vi x] σ'
def mLw (e : Int → Int) (L : Option (Int × rV)) : Prop := match L with
  | none => True
  | some (o, l) => o = 10005 ∧ (l e = 0 ∨ l e = 1)
theorem mLw_c {e : Int → Int} {L : Option (Int × rV)} {t : rV} (hL : mLw e L) (ht : t e = 0 ∨ t e = 1) : rCb L t e = 0 ∨ rCb L t e = 1 := by
  cases L with
  | none => exact ht
  | some q =>
    obtain ⟨o, l⟩ := q
    obtain ⟨h1, h2⟩ := hL
    show rJ o (l e) (t e) = 0 ∨ rJ o (l e) (t e) = 1
    rw [h1]
    rcases h2 with z | z <;> rcases ht with y | y <;> rw [z, y] <;> decide
theorem mQw_out {d : Nat} {Q : aQ} {e : Int → Int} {L : Option (Int × rV)} {t : rV} {s : aW} (hL : mLw e L) (ht : t e = 0 ∨ t e = 1) (h : Yx (d + 11) cd192 3 Q 5 [vr 96, vi (rCb L t e), vt] [] s) : mQw d Q e L (some (vi (t e))) s := by
  cases L with
  | none => exact ⟨_, rfl, b192_4_1 h⟩
  | some q =>
    obtain ⟨o, l⟩ := q
    obtain ⟨h1, h2⟩ := hL
    have h' : Yx (d + 11) cd192 3 Q 5 [vr 96, vi (rJ o (l e) (t e)), vt] [] s := h
    rw [h1] at h'
    refine ⟨_, rfl, b192_23_1 ⟨fun z => ?_, fun z => ?_⟩⟩
    · rcases h2 with y | y
      · exact absurd y z
      · rw [y] at h'
        rcases ht with w | w <;> rw [w] at h' <;> exact h'
    · rw [z] at h'
      rcases ht with w | w <;> rw [w] at h' ⊢ <;> exact h'
theorem mQw_bad {d : Nat} {Q : aQ} {e : Int → Int} {L : Option (Int × rV)} {s : aW} (hb : ¬ s 96 54 = 0) (h : ∀ r, (r = 0 ∨ r = 1) → Q (some (vi r)) s) (a : Int) (ha : a = 0 ∨ a = 1) : Yx (d + 10) cd191 3 (mQw d Q e L) 5 [vr 96, vi a, vt] [] s := by
  refine b191_5 (j14 hb ⟨_, rfl, b191_12_1 ⟨fun _ => ⟨ha, ?_⟩, fun z => absurd rfl z⟩⟩)
  have fin : ∀ v, (v = 0 ∨ v = 1) → Yx (d + 11) cd192 3 Q 5 [vr 96, vi v, vt] [] s := fun v hv => b192_5 (j15 hb ⟨_, rfl, b192_12_1 ⟨fun _ => ⟨hv, h v hv⟩, fun z => absurd rfl z⟩⟩)
  cases L with
  | none => exact ⟨_, rfl, b192_4_1 (fin _ ha)⟩
  | some q => exact ⟨_, rfl, b192_23_1 ⟨fun _ => fin 1 (Or.inr rfl), fun _ => fin _ bi_01⟩⟩
theorem c192l {d : Nat} {Q : aQ} {B : Int → Int} {n : Int} {e : Int → Int} {F : Int → rO} {o : Int} {s0 : aW} {X : rO} (hF : mSpI (d + 9) 190 B n e F o) (pF : rPg (kMm B n) F) (hE : mEn e s0)
    (kO : ∀ j c v s', X = .inr (j, c, v) → Fg [] mPO s0 s' → mAt B n j s' → s' 96 52 = o → (v e = 0 ∨ v e = 1) → Q (some (vi (v e))) s')
    (kB : ∀ j s' r, X = .inl j → Fg [] mPP s0 s' → mBd B n j s' → s' 96 52 = o → (r = 0 ∨ r = 1) → Q (some (vi r)) s') :
    ∀ (m : Nat) (L : Option (Int × rV)) (c : List Int) (t : rV) (i : Int) (s : aW), Fg [] mPO s0 s → mAt B n i s → s 96 52 = o → kMm B n - i < m → mLw e L → (t e = 0 ∨ t e = 1) → X = rLp (kTt B n) rhW rlW F m L c t i → Yx (d + 10) cd191 3 (mQw d Q e L) 5 [vr 96, vi (t e), vt] [] s
  | 0, L, c, t, i, s, f0, hA, ho, hm, hL, ht, hX => by
    have := hA.2.1
    omega
  | m + 1, L, c, t, i, s, f0, hA, ho, hm, hL, ht, hX => by
    have hlt : ¬ kTt B n i = 30000 → i < kMm B n := fun w => by
      rcases mTd hA with c | c
      · exact absurd c.2.1 w
      · exact c.1
    have hh : rhW (kTt B n i) = true ↔ kTt B n i = 10006 := by unfold rhW; simp
    have hl : rlW (kTt B n i) = true ↔ kTt B n i = 10005 := by unfold rlW; simp
    unfold rLp at hX
    refine b191_5 (i14 hA (fun v v0 hv => ⟨_, rfl, b191_12_1 ⟨fun z => ⟨ht, mQw_out hL ht (b192_5 (i15 hA (fun w w0 hw => ⟨_, rfl, b192_12_1 ⟨fun y => ⟨mLw_c hL ht, ?_⟩, fun y => ?_⟩⟩)))⟩, fun z => ?_⟩⟩))
    · rw [if_neg (fun q => by have := hh.1 q; omega), if_neg (fun q => by have := hl.1 q; omega)] at hX
      exact kO _ _ _ s hX f0 hA ho (mLw_c hL ht)
    · have hT : kTt B n i = 10005 := by omega
      rw [if_neg (fun q => by have := hh.1 q; omega), if_pos (hl.2 hT)] at hX
      refine gOn hA (hlt (by omega)) (fun s1 f1 A1 => ⟨rfl, b192_19 (e191 (b191_0 ?_))⟩)
      have fg1 : Fg [] mPO s0 s1 := Fg_t f0 (Fg_m f1 (by decide) (by decide))
      have hp := pF (i + 1) A1.1 A1.2.1
      refine hF _ s1 (i + 1) A1 (mEn_g hE fg1 (by decide) rfl) ((f1 96 52 (by simp) (by decide)).trans ho) (fun j c' v s2 e2 f2 A2 o2 h01 => ⟨_, rfl, b191_4_1 ?_⟩) (fun j s2 r e2 f2 b2 o2 h01 => ⟨_, rfl, b191_4_1 ?_⟩)
      · rw [e2] at hX
        simp only at hX
        have hq := hp.1 _ _ _ e2
        exact c192l hF pF hE kO kB m (some (kTt B n i, rCb L t)) _ _ j s2 (Fg_t fg1 f2) A2 o2 (by omega) ⟨hT, mLw_c hL ht⟩ h01 hX
      · rw [e2] at hX
        simp only at hX
        exact mQw_bad (L := some (kTt B n i, rCb L t)) b2.1 (fun r hr => kB j s2 r hX (Fg_t (Fo fg1) f2) b2 o2 hr) _ h01
    · have hT : kTt B n i = 10006 := by omega
      rw [if_pos (hh.2 hT)] at hX
      refine gOn hA (hlt (by omega)) (fun s1 f1 A1 => ⟨rfl, b191_19 ?_⟩)
      have fg1 : Fg [] mPO s0 s1 := Fg_t f0 (Fg_m f1 (by decide) (by decide))
      have hp := pF (i + 1) A1.1 A1.2.1
      refine hF _ s1 (i + 1) A1 (mEn_g hE fg1 (by decide) rfl) ((f1 96 52 (by simp) (by decide)).trans ho) (fun j c' v s2 e2 f2 A2 o2 h01 => ⟨_, rfl, ?_⟩) (fun j s2 r e2 f2 b2 o2 h01 => ⟨_, rfl, ?_⟩)
      · rw [e2] at hX
        simp only at hX
        have hq := hp.1 _ _ _ e2
        have ih : ∀ val, val = rJ (kTt B n i) (t e) (v e) → (val = 0 ∨ val = 1) → Yx (d + 10) cd191 3 (mQw d Q e L) 5 [vr 96, vi val, vt] [] s2 := fun val h1 h2 => by
          rw [h1] at h2 ⊢
          exact c192l hF pF hE kO kB m L _ _ j s2 (Fg_t fg1 f2) A2 o2 (by omega) hL h2 hX
        rw [hT] at ih
        refine b191_23_1 ⟨fun y => ih _ ?_ (Or.inl rfl), fun y => ih _ ?_ bi_01⟩
        · rw [y]
          rcases h01 with w | w <;> rw [w] <;> rfl
        · rw [show t e = 1 by omega]
          rcases h01 with w | w <;> rw [w] <;> rfl
      · rw [e2] at hX
        simp only at hX
        have hq : ∀ r, (r = 0 ∨ r = 1) → Q (some (vi r)) s2 := fun r hr => kB j s2 r hX (Fg_t (Fo fg1) f2) b2 o2 hr
        exact b191_23_1 ⟨fun y => mQw_bad b2.1 hq _ (Or.inl rfl), fun y => mQw_bad b2.1 hq _ bi_01⟩
theorem c192 {d : Nat} {B : Int → Int} {n : Int} {e : Int → Int} {F : Int → rO} {o : Int} (hn : n ≤ 300) (n0 : 0 ≤ n) (hF : mSpI (d + 9) 190 B n e F o) (pF : rPg (kMm B n) F) : mSpI (d + 11) 192 B n e (rTwo (kTt B n) rhW rlW F) o := by
  intro Q s x hA hE ho kO kB
  have hM := (kMm_ok (B := B) n0 hn).2
  have hp := pF x hA.1 hA.2.1
  unfold rTwo at kO kB
  refine e192 (b192_0 (e191 (b191_0 (hF _ s x hA hE ho (fun j c v s1 e1 f1 A1 o1 h01 => ⟨_, rfl, b191_4_1 ?_⟩) (fun j s1 r e1 f1 b1 o1 h01 => ⟨_, rfl, b191_4_1 ?_⟩)))))
  · rw [e1] at kO kB
    have hq := hp.1 _ _ _ e1
    have x0 := hA.1
    exact c192l hF pF (mEn_g hE f1 (by decide) rfl) (fun j' c' v' s' a1 a2 a3 a4 a5 => kO j' c' v' s' a1 (Fg_t f1 a2) a3 a4 a5) (fun j' s' r a1 a2 a3 a4 a5 => kB j' s' r a1 (Fg_t (Fo f1) a2) a3 a4 a5) 400 none c v j s1 Fg_r A1 o1 (by omega) trivial h01 rfl
  · rw [e1] at kB
    exact mQw_bad (e := e) (L := none) b1.1 (fun r hr => kB j s1 r rfl f1 b1 o1 hr) _ h01
end
