section
/-! rules: the reference's rules -/
abbrev mPR : List (Nat × Int) := [(96, 48), (96, 49), (96, 50), (96, 51), (96, 52), (96, 53), (96, 57), (96, 58)]
abbrev mPB : List (Nat × Int) := [(96, 38), (96, 48), (96, 49), (96, 50), (96, 51), (96, 52), (96, 53), (96, 54), (96, 57), (96, 58)]
def mTo (e : Int → Int) (kd : Int) (l : List rRu) (s : aW) : Prop := match rTell e kd l with
  | none => s 96 57 = 0
  | some x => s 96 57 = 1 ∧ s 96 58 = x
theorem rTell_a {e : Int → Int} {kd : Int} : ∀ {l : List rRu} {r : rRu}, rTell e kd (l ++ [r]) = match rTell e kd l with
    | none => if r.1 = kd ∧ rHo e r.2.2 = true then some (r.2.1.2 e) else none
    | some x => some x
  | [], (k, (c, v), w) => rfl
  | (k, (c, v), w) :: l, r => by
    have ih := rTell_a (e := e) (kd := kd) (l := l) (r := r)
    show (if k = kd ∧ rHo e w = true then some (v e) else rTell e kd (l ++ [r])) = match (if k = kd ∧ rHo e w = true then some (v e) else rTell e kd l) with
      | none => if r.1 = kd ∧ rHo e r.2.2 = true then some (r.2.1.2 e) else none
      | some x => some x
    by_cases h : k = kd ∧ rHo e w = true
    · rw [if_pos h, if_pos h]
    · rw [if_neg h, if_neg h, ih]
theorem mTo_g {e : Int → Int} {kd : Int} {l : List rRu} {s t : aW} (h : mTo e kd l s) (h1 : t 96 57 = s 96 57) (h2 : t 96 58 = s 96 58) : mTo e kd l t := by
  unfold mTo at *
  rw [h1, h2]
  exact h
theorem mTo_n {e : Int → Int} {kd : Int} {l : List rRu} {r : rRu} {s : aW} (h : mTo e kd l s) (hr : ¬ (r.1 = kd ∧ rHo e r.2.2 = true)) : mTo e kd (l ++ [r]) s := by
  unfold mTo at *
  rw [rTell_a]
  cases hl : rTell e kd l with
  | none => rw [hl] at h; simp only [if_neg hr]; exact h
  | some x => rw [hl] at h; exact h
theorem mTo_s {e : Int → Int} {kd : Int} {l : List rRu} {r : rRu} {s : aW} (h : mTo e kd l s) (hr : ¬ s 96 57 = 0) : mTo e kd (l ++ [r]) s := by
  unfold mTo at *
  rw [rTell_a]
  cases hl : rTell e kd l with
  | none => rw [hl] at h; exact absurd h hr
  | some x => rw [hl] at h; exact h
theorem mTo_y {e : Int → Int} {kd : Int} {l : List rRu} {r : rRu} {s t : aW} (h : mTo e kd l s) (hr : r.1 = kd ∧ rHo e r.2.2 = true) (h0 : s 96 57 = 0) (h1 : t 96 57 = 1) (h2 : t 96 58 = r.2.1.2 e) : mTo e kd (l ++ [r]) t := by
  unfold mTo at *
  rw [rTell_a]
  cases hl : rTell e kd l with
  | none => rw [if_pos hr]; exact ⟨h1, h2⟩
  | some x => rw [hl] at h; have := h.1; omega
theorem c193 {d : Nat} {Q : aQ} {B : Int → Int} {n : Int} {e : Int → Int} {x kd : Int} {acc : List rRu} {s : aW} (hn : n ≤ 300) (n0 : 0 ≤ n) (hT : rT (kTt B n) (kMm B n)) (hA : mAt B n x s) (hE : mEn e s) (ho : s 96 52 = 0) (h3 : s 96 53 = acc.length) (h12 : acc.length ≤ 12) (hk : s 96 55 = kd) (hto : mTo e kd acc s)
    (kO : ∀ j r s', ¬ acc.length = 12 → rRule (kTt B n) x = .inr (j, r) → Fg [] mPR s s' → mAt B n j s' → s' 96 52 = 0 → s' 96 53 = acc.length + 1 → mTo e kd (acc ++ [r]) s' → Q none s')
    (kB : ∀ j s', (acc.length = 12 ∧ j = x) ∨ (¬ acc.length = 12 ∧ rRule (kTt B n) x = .inl j) → Fg [] mPB s s' → mBd B n j s' → Q none s') : aEv (d + 24 + 12) true 193 [vr 96] s Q := by
  have hS : mSpS (d + 24 + 11) 189 B n e (rSum (kTt B n) 8) 0 := c189 (e := e) hn n0 hT 8 (d + 3) (by omega)
  have hS2 : mSpS (d + 24 + 8) 189 B n e (rSum (kTt B n) 8) 0 := c189 (e := e) hn n0 hT 8 d (by omega)
  have hW : mSpI (d + 24 + 11) 192 B n e (rWhen (kTt B n)) 0 := c192 hn n0 (c190 hS2) (rCond_pg hT)
  have hlt : ¬ kTt B n x = 30000 → x < kMm B n := fun w => by
    rcases mTd hA with c | c
    · exact absurd c.2.1 w
    · exact c.1
  have full : acc.length = 12 → aEv (d + 24 + 11) true 184 [vr 96] s (fun r σ' => r = none ∧ Yx (d + 24 + 12) cd193 0 Q 76 [vt, vt, vt, vt, vt] [] σ') := fun z => gBad hA (fun s' f b => ⟨rfl, b193_76 (kB x s' (Or.inl ⟨z, rfl⟩) (Fg_m f (by decide) (by decide)) b)⟩)
  have bad : ¬ (10000 ≤ kTt B n x ∧ kTt B n x ≤ 10003) → aEv (d + 24 + 11) true 184 [vr 96] s (fun r σ' => r = none ∧ Yx (d + 24 + 12) cd193 0 Q 76 [vt, vt, vt, vt, vt] [] σ') := fun z => by
    by_cases y : acc.length = 12
    · exact full y
    · refine gBad hA (fun s' f b => ⟨rfl, b193_76 (kB x s' (Or.inr ⟨y, ?_⟩) (Fg_m f (by decide) (by decide)) b)⟩)
      unfold rRule
      rw [if_neg z]
  have go : ∀ a1 : Int, 0 ≤ a1 → a1 ≤ 3 → kTt B n x = 10000 + a1 → ¬ acc.length = 12 → aEv (d + 24 + 11) true 183 [vr 96] (sw s 96 (fu (s 96) 53 ((s 96 53) + 1))) (fun r σ' => r = none ∧ Yx (d + 24 + 12) cd193 0 Q 91 [vr 96, vi a1, vt, vt, vt] [] σ') := fun a1 a10 a11 hTx nf => by
    have f1 : Fg [] [(96, 53)] s (sw s 96 (fu (s 96) 53 (s 96 53 + 1))) := Fg_f Fg_r (by decide)
    refine gOn (mAt_g hA f1 (by decide) rfl) (hlt (by omega)) (fun s2 f2 A2 => ⟨rfl, b193_91 ?_⟩)
    have fg2 : Fg [] mPR s s2 := Fg_t (Fg_m f1 (by decide) (by decide)) (Fg_m f2 (by decide) (by decide))
    have e53 : s2 96 53 = acc.length + 1 := (f2 96 53 (by simp) (by decide)).trans (by rw [sw_s, fu_s, h3])
    have k55 : s2 96 55 = kd := (fg2 96 55 (by simp) (by decide)).trans hk
    have to2 : mTo e kd acc s2 := mTo_g hto ((f2 96 57 (by simp) (by decide)).trans (f1 96 57 (by simp) (by decide))) ((f2 96 58 (by simp) (by decide)).trans (f1 96 58 (by simp) (by decide)))
    have hr : ∀ {X}, (match rSum (kTt B n) 8 (x + 1) with
      | .inl j => .inl j
      | .inr (j, c, v) => if kTt B n j = 10004 then (match rWhen (kTt B n) (j + 1) with
        | .inl j' => .inl j'
        | .inr (j', c', v') => .inr (j', (kTt B n x - 10000, (c, v), some (c', v'))))
        else .inr (j, (kTt B n x - 10000, (c, v), none))) = X → rRule (kTt B n) x = X := fun z => by
      unfold rRule
      rw [if_pos (by omega)]
      exact z
    have e10 : kTt B n x - 10000 = a1 := by omega
    rw [e10] at hr
    refine hS _ s2 (x + 1) A2 (mEn_g hE fg2 (by decide) rfl) ((f2 96 52 (by simp) (by decide)).trans ((f1 96 52 (by simp) (by decide)).trans ho)) (fun j c v s3 e3 f3 A3 o3 => ⟨_, rfl, b193_95_1 ?_⟩) (fun j s3 r e3 f3 b3 o3 => ⟨_, rfl, b193_95_1 (j13 b3.1 ⟨_, rfl, b193_106_1 ⟨fun _ => ⟨fun _ => ?_, fun z => absurd z b3.1⟩, fun z => absurd rfl z⟩⟩)⟩)
    · rw [e3] at hr
      simp only at hr
      have fg3 : Fg [] mPR s s3 := Fg_t fg2 (Fg_m f3 (by decide) (by decide))
      have e53' : s3 96 53 = acc.length + 1 := (f3 96 53 (by simp) (by decide)).trans e53
      have k55' : s3 96 55 = kd := (f3 96 55 (by simp) (by decide)).trans k55
      have to3 : mTo e kd acc s3 := mTo_g to2 (f3 96 57 (by simp) (by decide)) (f3 96 58 (by simp) (by decide))
      have wr : ∀ {s4 : aW} (val : Int), Fg [] [(96, 57), (96, 58)] s4 (sw (sw s4 96 (fu (s4 96) 57 1)) 96 (fu (fu (s4 96) 57 1) 58 val)) := fun {s4} val => by
        have := Fg_f (L := []) (P := [(96, 57), (96, 58)]) (k := 96) (i := 58) (v := val) (Fg_f (k := 96) (i := 57) (v := 1) (Fg_r (σ := s4)) (by decide)) (by decide)
        rw [sw_s] at this
        exact this
      refine i13 A3 (fun w w0 hw => ⟨_, rfl, b193_106_1 ⟨fun z => ?_, fun z => ?_⟩⟩)
      · have hj : ¬ kTt B n j = 10004 := by omega
        rw [if_neg hj] at hr
        refine ⟨fun y => absurd A3.2.2.1 y, fun _ => ⟨fun y => absurd y (by decide), fun _ => ⟨fun ne => ?_, fun eq => ⟨fun y => ?_, fun y => ?_⟩⟩⟩⟩
        · exact kO j _ s3 nf (hr rfl) fg3 A3 o3 e53' (mTo_n to3 (fun q => ne (by rw [k55']; exact q.1)))
        · have f4 := wr (s4 := s3) (v e)
          exact kO j _ _ nf (hr rfl) (Fg_t fg3 (Fg_m f4 (by decide) (by decide))) (mAt_g A3 f4 (by decide) rfl) ((f4 96 52 (by simp) (by decide)).trans o3) ((f4 96 53 (by simp) (by decide)).trans e53') (mTo_y to3 ⟨by rw [← k55']; exact eq, rfl⟩ y (by rw [sw_s, fu_n (by decide), fu_s]) (by rw [sw_s, fu_s]))
        · exact kO j _ s3 nf (hr rfl) fg3 A3 o3 e53' (mTo_s to3 y)
      · have hj : kTt B n j = 10004 := by omega
        rw [if_pos hj] at hr
        have hjM : j < kMm B n := by
          rcases mTd A3 with c | c
          · omega
          · exact c.1
        refine gOn A3 hjM (fun s4 f4 A4 => ⟨rfl, b193_113 ?_⟩)
        have fg4 : Fg [] mPR s s4 := Fg_t fg3 (Fg_m f4 (by decide) (by decide))
        refine hW _ s4 (j + 1) A4 (mEn_g hE fg4 (by decide) rfl) ((f4 96 52 (by simp) (by decide)).trans o3) (fun j2 c2 v2 s5 e5 f5 A5 o5 h01 => ⟨_, rfl, b193_117_1 ?_⟩) (fun j2 s5 r e5 f5 b5 o5 h01 => ⟨_, rfl, b193_117_1 ⟨fun _ => ?_, fun y => absurd y b5.1⟩⟩)
        · rw [e5] at hr
          simp only at hr
          have fg5 : Fg [] mPR s s5 := Fg_t fg4 (Fg_m f5 (by decide) (by decide))
          have e53' : s5 96 53 = acc.length + 1 := (f5 96 53 (by simp) (by decide)).trans ((f4 96 53 (by simp) (by decide)).trans e53')
          have k55' : s5 96 55 = kd := (f5 96 55 (by simp) (by decide)).trans ((f4 96 55 (by simp) (by decide)).trans k55')
          have to5 : mTo e kd acc s5 := mTo_g to3 ((f5 96 57 (by simp) (by decide)).trans (f4 96 57 (by simp) (by decide))) ((f5 96 58 (by simp) (by decide)).trans (f4 96 58 (by simp) (by decide)))
          refine ⟨fun y => absurd A5.2.2.1 y, fun _ => ⟨fun y0 => ?_, fun y0 => ⟨fun ne => ?_, fun eq => ⟨fun y => ?_, fun y => ?_⟩⟩⟩⟩
          · exact kO j2 _ s5 nf (hr rfl) fg5 A5 o5 e53' (mTo_n to5 (fun q => by
              have := of_decide_eq_true (show decide (¬ v2 e = 0) = true from q.2)
              exact this y0))
          · exact kO j2 _ s5 nf (hr rfl) fg5 A5 o5 e53' (mTo_n to5 (fun q => ne (by rw [k55']; exact q.1)))
          · have f6 := wr (s4 := s5) (v e)
            exact kO j2 _ _ nf (hr rfl) (Fg_t fg5 (Fg_m f6 (by decide) (by decide))) (mAt_g A5 f6 (by decide) rfl) ((f6 96 52 (by simp) (by decide)).trans o5) ((f6 96 53 (by simp) (by decide)).trans e53') (mTo_y to5 ⟨by rw [← k55']; exact eq, decide_eq_true y0⟩ y (by rw [sw_s, fu_n (by decide), fu_s]) (by rw [sw_s, fu_s]))
          · exact kO j2 _ s5 nf (hr rfl) fg5 A5 o5 e53' (mTo_s to5 y)
        · rw [e5] at hr
          exact kB j2 s5 (Or.inr ⟨nf, hr rfl⟩) (Fg_t (Fg_m fg4 (by decide) (by decide)) (Fg_m f5 (by decide) (by decide))) b5
    · rw [e3] at hr
      exact kB j s3 (Or.inr ⟨nf, hr rfl⟩) (Fg_t (Fg_m fg2 (by decide) (by decide)) (Fg_m f3 (by decide) (by decide))) b3
  refine e193 (b193_0 (i2 hA (fun v v0 hv => ⟨_, rfl, b193_7_1 ⟨fun z => ?_, fun z => ⟨fun y => full (by omega), fun y => ⟨by omega, go 0 (by omega) (by omega) (by omega) (by omega)⟩⟩⟩⟩)))
  refine i3 hA (fun v' v0' hv' => ⟨_, rfl, b193_21_1 ⟨fun z' => ?_, fun z => ⟨fun y => full (by omega), fun y => ⟨by omega, go 1 (by omega) (by omega) (by omega) (by omega)⟩⟩⟩⟩)
  refine i4 hA (fun v2 v20 hv2 => ⟨_, rfl, b193_35_1 ⟨fun z2 => ?_, fun z => ⟨fun y => full (by omega), fun y => ⟨by omega, go 2 (by omega) (by omega) (by omega) (by omega)⟩⟩⟩⟩)
  refine i5 hA (fun v3 v30 hv3 => ⟨_, rfl, b193_49_1 ⟨fun y => full (by omega), fun y => ⟨fun w => ?_, fun w => ?_⟩⟩⟩)
  · have z : ¬ v3 = 0 := fun q => w (if_pos q)
    rw [if_neg z]
    exact ⟨by omega, go 3 (by omega) (by omega) (by omega) (by omega)⟩
  · have z : v3 = 0 := by
      apply Classical.byContradiction
      intro q
      rw [if_neg q] at w
      exact absurd w (by decide)
    exact bad (by omega)
end
