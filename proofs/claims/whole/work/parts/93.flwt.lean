section
/-! flows: both sides settle -/
def rAns (e : Int → Int) (kd : Int) (l : List rRu) (lo hi wo : Int) : Int := match rTell e kd l with
  | none => wo
  | some x => max lo (min hi x)
theorem rAns_b {e : Int → Int} {kd lo hi wo : Int} {l : List rRu} (h1 : lo ≤ wo) (h2 : wo ≤ hi) : lo ≤ rAns e kd l lo hi wo ∧ rAns e kd l lo hi wo ≤ hi := by
  unfold rAns
  cases rTell e kd l with
  | none => exact ⟨h1, h2⟩
  | some x =>
    show lo ≤ max lo (min hi x) ∧ max lo (min hi x) ≤ hi
    omega
def rSu (s : aW) (l : List rRu) : Prop := s 25 0 = l.length ∧ l.length ≤ 12 ∧ rTl l ≤ 300 ∧ rAr (s 27) (s 28) (s 29) (s 30) 0 0 l ∧ ∀ x ∈ l, rRok x
theorem c13 {d : Nat} {Q : aQ} {σ s0 : aW} {l : List rRu} {e : Int → Int} {a : Int} (hN : INet σ) (hG : wG σ s0) (hA : (s0 43 2) ≤ (s0 63 0) ∧ (s0 63 0) ≤ 10000 ∧ 0 ≤ (s0 43 2) ∧ 0 ≤ (s0 43 1) ∧ (s0 43 1) ≤ 60) (ea : (if (s0 43 1) = 0 then 0 else (s0 44 ((min (s0 63 0) (((s0 43 2) + (s0 43 1)) - 1)) - (s0 43 2)))) = a) (a0 : -40 ≤ a ∧ a ≤ 40) (he : e 0 = a ∧ e 1 = s0 63 0 % 24 ∧ e 2 = s0 63 1 ∧ e 3 = s0 63 2 ∧ e 4 = 0 ∧ e 5 = 0 ∧ e 6 = 0) (hR : rSu s0 l) (hC : s0 16 9 = s0 1 3 → s0 16 10 = a → s0 16 11 = rAns e 1 l 5 60 30 → wFl σ s0 a (rAns e 1 l 5 60 30))
    (k : ∀ s, Fg [17, 18, 19, 20, 21, 22, 23, 24, 26, 31] [(16, 9), (16, 10), (16, 11)] s0 s → wFl σ s a (rAns e 1 l 5 60 30) → s 16 9 = s 1 3 → s 16 10 = a → s 16 11 = rAns e 1 l 5 60 30 → (∀ k, 0 ≤ k → k < 7 → s 26 k = e k) → Q none s) : aEv (d + 4) true 13 [vr 56, vr 63] s0 Q := by
  obtain ⟨r1, r2, r3, r4, r5⟩ := hR
  refine e13 (b13_0 ⟨hA, by omega, ?_⟩)
  rw [ea]
  have key : ∀ u : aW, Fr [26] s0 u → (∀ k, 0 ≤ k → k < 7 → u 26 k = e k) → aEv (d + 3) true 85 [vr 25, vi 1, vi 5, vi 60, vi 30] u (fun r σ' => ∃ x : Int, r = some (vi x) ∧ Yx (d + 4) cd13 0 Q 117 [vt, vt, vt] [vi x, vi a, vr 16] σ') := fun u fu0 hu => by
    refine c85 (l := l) (by unfold r32; omega) (by unfold r32; omega) (by rw [fu0 25 (by decide)]; exact r1) r2 r3 (by rw [fu0 27 (by decide), fu0 28 (by decide), fu0 29 (by decide), fu0 30 (by decide)]; exact r4) r5 hu (fun s' f1 => ⟨_, rfl, b13_117_3 ?_⟩)
    have fs : Fr [26, 31] s0 s' := Fr_t fu0 f1 (by intro k hk; simp at hk ⊢; omega)
    have hG' : wG σ s' := Fg_t hG (Fg_F (Fr_s fs (by decide)))
    have hC' : s' 16 9 = s' 1 3 → s' 16 10 = a → s' 16 11 = rAns e 1 l 5 60 30 → wFl σ s' a (rAns e 1 l 5 60 30) := by
      unfold wFl
      rw [fs 16 (by decide), fs 1 (by decide), fs 17 (by decide), fs 18 (by decide), fs 19 (by decide), fs 20 (by decide)]
      exact hC
    refine c1 hN hG' a0 (rAns_b (by decide) (by decide)) hC' (fun s f2 g1 g2 g3 g4 => ⟨rfl, b13_120 (k s (Fg_t (Fg_F (Fr_s fs (by decide))) (Fg_m f2 (by decide) (by decide))) g1 g2 g3 g4 (fun k k0 k1 => ?_))⟩)
    rw [Fg_k f2 (k := 26) rfl rfl, f1 26 (by decide)]
    exact hu k k0 k1
  refine key _ (Fr_w (Fr_w (Fr_w (Fr_w (Fr_w (Fr_w (Fr_w Fr_r (by decide)) (by decide)) (by decide)) (by decide)) (by decide)) (by decide)) (by decide)) (fun k k0 k1 => ?_)
  obtain ⟨h0, h1, h2, h3, h4, h5, h6⟩ := he
  have hk : k = 0 ∨ k = 1 ∨ k = 2 ∨ k = 3 ∨ k = 4 ∨ k = 5 ∨ k = 6 := by omega
  rcases hk with z | z | z | z | z | z | z <;> rw [z]
  · exact h0.symm
  · exact h1.symm
  · exact h2.symm
  · exact h3.symm
  · exact h4.symm
  · exact h5.symm
  · exact h6.symm
theorem c13l {d : Nat} {Q : aQ} {σ s0 : aW} {l : List rRu} {e : Int → Int} {a : Int} (hN : INet σ) (hG : wG σ s0) (hA : (s0 43 2) ≤ (s0 74 0) ∧ (s0 74 0) ≤ 10000 ∧ 0 ≤ (s0 43 2) ∧ 0 ≤ (s0 43 1) ∧ (s0 43 1) ≤ 60) (ea : (if (s0 43 1) = 0 then 0 else (s0 44 ((min (s0 74 0) (((s0 43 2) + (s0 43 1)) - 1)) - (s0 43 2)))) = a) (a0 : -40 ≤ a ∧ a ≤ 40) (he : e 0 = a ∧ e 1 = s0 74 0 % 24 ∧ e 2 = s0 74 1 ∧ e 3 = s0 74 2 ∧ e 4 = 0 ∧ e 5 = 0 ∧ e 6 = 0) (hR : rSu s0 l) (hC : s0 16 9 = s0 1 3 → s0 16 10 = a → s0 16 11 = rAns e 1 l 5 60 30 → wFl σ s0 a (rAns e 1 l 5 60 30))
    (k : ∀ s, Fg [17, 18, 19, 20, 21, 22, 23, 24, 26, 31] [(16, 9), (16, 10), (16, 11)] s0 s → wFl σ s a (rAns e 1 l 5 60 30) → s 16 9 = s 1 3 → s 16 10 = a → s 16 11 = rAns e 1 l 5 60 30 → (∀ k, 0 ≤ k → k < 7 → s 26 k = e k) → Q none s) : aEv (d + 4) true 13 [vr 56, vr 74] s0 Q := by
  obtain ⟨r1, r2, r3, r4, r5⟩ := hR
  refine e13l (b13l_0 ⟨hA, by omega, ?_⟩)
  rw [ea]
  have key : ∀ u : aW, Fr [26] s0 u → (∀ k, 0 ≤ k → k < 7 → u 26 k = e k) → aEv (d + 3) true 85 [vr 25, vi 1, vi 5, vi 60, vi 30] u (fun r σ' => ∃ x : Int, r = some (vi x) ∧ Yx (d + 4) cd13 0 Q 117 [vt, vt, vt] [vi x, vi a, vr 16] σ') := fun u fu0 hu => by
    refine c85 (l := l) (by unfold r32; omega) (by unfold r32; omega) (by rw [fu0 25 (by decide)]; exact r1) r2 r3 (by rw [fu0 27 (by decide), fu0 28 (by decide), fu0 29 (by decide), fu0 30 (by decide)]; exact r4) r5 hu (fun s' f1 => ⟨_, rfl, b13l_117_3 ?_⟩)
    have fs : Fr [26, 31] s0 s' := Fr_t fu0 f1 (by intro k hk; simp at hk ⊢; omega)
    have hG' : wG σ s' := Fg_t hG (Fg_F (Fr_s fs (by decide)))
    have hC' : s' 16 9 = s' 1 3 → s' 16 10 = a → s' 16 11 = rAns e 1 l 5 60 30 → wFl σ s' a (rAns e 1 l 5 60 30) := by
      unfold wFl
      rw [fs 16 (by decide), fs 1 (by decide), fs 17 (by decide), fs 18 (by decide), fs 19 (by decide), fs 20 (by decide)]
      exact hC
    refine c1 hN hG' a0 (rAns_b (by decide) (by decide)) hC' (fun s f2 g1 g2 g3 g4 => ⟨rfl, b13l_120 (k s (Fg_t (Fg_F (Fr_s fs (by decide))) (Fg_m f2 (by decide) (by decide))) g1 g2 g3 g4 (fun k k0 k1 => ?_))⟩)
    rw [Fg_k f2 (k := 26) rfl rfl, f1 26 (by decide)]
    exact hu k k0 k1
  refine key _ (Fr_w (Fr_w (Fr_w (Fr_w (Fr_w (Fr_w (Fr_w Fr_r (by decide)) (by decide)) (by decide)) (by decide)) (by decide)) (by decide)) (by decide)) (fun k k0 k1 => ?_)
  obtain ⟨h0, h1, h2, h3, h4, h5, h6⟩ := he
  have hk : k = 0 ∨ k = 1 ∨ k = 2 ∨ k = 3 ∨ k = 4 ∨ k = 5 ∨ k = 6 := by omega
  rcases hk with z | z | z | z | z | z | z <;> rw [z]
  · exact h0.symm
  · exact h1.symm
  · exact h2.symm
  · exact h3.symm
  · exact h4.symm
  · exact h5.symm
  · exact h6.symm

/-- the text that stands, with its rules -/
def mSt (s : aW) (B : Int → Int) (l : List rRu) : Prop := 0 ≤ s 124 0 ∧ s 124 0 ≤ 300 ∧ (∀ i, 0 ≤ i → i < s 124 0 → B i = s 123 i % 256 ∧ -128 ≤ s 123 i ∧ s 123 i < 128) ∧ rAll (kTt B (s 124 0)) = .inr l
theorem m195 {d : Nat} {Q : aQ} {B : Int → Int} {e : Int → Int} {kd h lo hi wo : Int} {l : List rRu} {σ : aW} (hM : mSt σ B l) (hE : mEh e h σ) (k : ∀ s', Fg [] mPY σ s' → Q (some (vl (rAns e kd l lo hi wo))) s') : aEv (d + 24 + 14) true 195 [vr 96, vi kd, vi h, vl lo, vl hi, vl wo] σ Q := c195 hM.1 hM.2.1 hM.2.2.1 hE hM.2.2.2 k
theorem m203 {d : Nat} {Q : aQ} {σ s0 : aW} {n a : Int} {B : Int → Int} {e : Int → Int} {l : List rRu} (hN : INet σ) (hG : mG σ s0) (en : n = σ 96 7) (z0 : 0 ≤ σ 120 2532 ∧ σ 120 2532 < 5050) (ea : σ 114 (σ 120 2532) = a) (a0 : -40 ≤ a ∧ a ≤ 40) (hM : mSt s0 B l) (hE : mEh e (-1) s0)
    (k : ∀ s, Fg [126, 127, 128, 129, 130, 131, 132] ((96, 66) :: mPY) s0 s → mFl σ s a (rAns e 1 l 5 60 30) → Q none s) : aEv (d + 24 + 15) true 203 [vr 96, vi n] s0 Q :=
  e203 (b203_0 (m195 hM hE (fun s1 f1 => ⟨_, rfl, c203 hN (mG_f hG f1 (by decide) (by decide) (by decide) (by decide) (by decide) (by decide)) en z0 ea a0 (rAns_b (by decide) (by decide)) (fun s f2 g => k s (Fg_t (Fg_m f1 (by decide) (by decide)) (Fg_m f2 (by decide) (by decide))) g)⟩)))
theorem mG_r {σ : aW} : mG σ σ := ⟨rfl, rfl, rfl, rfl, rfl, rfl, rfl, rfl, rfl, rfl, rfl, rfl, rfl⟩
theorem fN_q {σ s : aW} (h : ∀ k, (k = 101 ∨ k = 102 ∨ k = 103 ∨ k = 104 ∨ k = 107 ∨ k = 108 ∨ k = 109 ∨ k = 111) → s k = σ k) (h5 : s 96 5 = σ 96 5) (h6 : s 96 6 = σ 96 6) : fN s = fN σ := by
  funext k i
  unfold fN
  by_cases a : k = 96
  · rw [if_pos a, if_pos a]
    by_cases b : i = 5 ∨ i = 6
    · rw [if_pos b, if_pos b]
      rcases b with b | b <;> rw [b] <;> assumption
    · rw [if_neg b, if_neg b]
  · rw [if_neg a, if_neg a]
    by_cases b : k = 101 ∨ k = 102 ∨ k = 103 ∨ k = 104 ∨ k = 107 ∨ k = 108 ∨ k = 109 ∨ k = 111
    · rw [if_pos b, if_pos b, h k b]
    · rw [if_neg b, if_neg b]
theorem wRes_c {σ s : aW} {a dr : Int} (h1 : fN s = fN σ) (h7 : s 96 7 = σ 96 7) (h0 : s 110 = σ 110) : wRes s a dr = wRes σ a dr ∧ wWf s a dr = wWf σ a dr := by
  have e : wWf s a dr = wWf σ a dr := by
    funext h
    unfold wWf
    rw [h0]
  refine ⟨?_, e⟩
  unfold wRes
  rw [h1, h7, e]
theorem fN_g {L : List Nat} {P : List (Nat × Int)} {σ s : aW} (hF : Fg L P σ s) (hl : [101, 102, 103, 104, 107, 108, 109, 110, 111].all (fun k => !(L.contains k) && P.all (fun q => q.1 != k)) = true) (h6 : L.contains 96 = false) (q5 : P.contains (96, 5) = false) (q6 : P.contains (96, 6) = false) (q7 : P.contains (96, 7) = false) : fN s = fN σ ∧ s 96 6 = σ 96 6 ∧ s 96 7 = σ 96 7 ∧ s 110 = σ 110 := by
  have c : ∀ k, k ∈ [101, 102, 103, 104, 107, 108, 109, 110, 111] → s k = σ k := fun k hk => by
    have := List.all_eq_true.mp hl k hk
    simp only [Bool.and_eq_true, Bool.not_eq_true'] at this
    exact Fg_k hF this.1 this.2
  have p : ∀ j, P.contains (96, j) = false → s 96 j = σ 96 j := fun j b => hF 96 j (fun z => by rw [List.contains_iff_mem.mpr z] at h6; cases h6) (fun z => by rw [List.contains_iff_mem.mpr z] at b; cases b)
  refine ⟨fN_q (fun k hk => c k (by simp; omega)) (p 5 q5) (p 6 q6), p 6 q6, p 7 q7, c 110 (by decide)⟩
/-- what is known of flows is right -/
def IFc (σ : aW) : Prop := σ 16 9 ≤ σ 1 3 ∧ (σ 16 9 = σ 1 3 → wFl σ σ (σ 16 10) (σ 16 11))
theorem wFl_c {σ t s s' : aW} {a dr : Int} (h : wFl σ s a dr) (e : fN t = fN σ ∧ t 96 6 = σ 96 6 ∧ t 96 7 = σ 96 7 ∧ t 110 = σ 110) (h1 : s' 17 = s 17) (h2 : s' 18 = s 18) (h3 : s' 19 = s 19) (h4 : s' 20 = s 20) : wFl t s' a dr := by
  obtain ⟨e1, e2, e3, e4⟩ := e
  have := wRes_c (a := a) (dr := dr) e1 e3 e4
  unfold wFl at *
  rw [this.1, this.2, e2, e3, h1, h2, h3, h4]
  exact h
def mEf (h : Int) (s : aW) : Int → Int := fun k => if k = 0 then s 114 (s 120 2532) else if k = 1 then s 120 2532 % 24 else if k = 2 then s 120 2533 else if k = 3 then s 120 2534 else if k = 4 then (if bi (¬ h = (-1)) = 0 then 0 else s 110 h) else if k = 5 then (if bi (¬ h = (-1)) = 0 then 0 else s 111 h) else (if bi (¬ h = (-1)) = 0 then 0 else s 120 (2400 + h))
theorem mEf_h {s t : aW} {h : Int} (h0 : 0 ≤ s 120 2532) (h1 : s 120 2532 < 5050) (hh : h = -1 ∨ (0 ≤ h ∧ h < 17)) (e1 : t 120 = s 120) (e2 : t 114 = s 114) (e3 : t 110 = s 110) (e4 : t 111 = s 111) : mEh (mEf h s) h t := by
  unfold mEh
  rw [e1, e2, e3, e4]
  exact ⟨h0, h1, hh, rfl, rfl, rfl, rfl, rfl, rfl, rfl⟩
theorem mEf_0 {s : aW} : mEf (-1) s 4 = 0 ∧ mEf (-1) s 5 = 0 ∧ mEf (-1) s 6 = 0 := by
  have : bi (¬ (-1 : Int) = (-1)) = 0 := bi_f (fun z => z rfl)
  refine ⟨?_, ?_, ?_⟩
  · show (if bi (¬ (-1 : Int) = (-1)) = 0 then 0 else s 110 (-1)) = 0
    rw [if_pos this]
  · show (if bi (¬ (-1 : Int) = (-1)) = 0 then 0 else s 111 (-1)) = 0
    rw [if_pos this]
  · show (if bi (¬ (-1 : Int) = (-1)) = 0 then 0 else s 120 (2400 + (-1))) = 0
    rw [if_pos this]
abbrev fL : List Nat := [17, 18, 19, 20, 21, 22, 23, 24, 26, 31, 126, 127, 128, 129, 130, 131, 132]
abbrev fP : List (Nat × Int) := [(16, 9), (16, 10), (16, 11), (96, 0), (96, 46), (96, 47), (96, 48), (96, 49), (96, 50), (96, 51), (96, 52), (96, 53), (96, 54), (96, 55), (96, 56), (96, 57), (96, 58), (96, 66)]
/-- both settle the flows of now -/
theorem f_both {σ : aW} {B : Int → Int} {l : List rRu} {a : Int} (hN : INet σ) (hS : ISt 63 σ) (hA : IAr σ) (hR : rSu σ l) (hF : IFc σ) (ea : σ 114 (σ 120 2532) = a) :
    (-40 ≤ a ∧ a ≤ 40) ∧ (0 ≤ σ 120 2532 ∧ σ 120 2532 < 5050) ∧ (∀ (d : Nat) (Q : aQ), (∀ s, Fg [17, 18, 19, 20, 21, 22, 23, 24, 26, 31] [(16, 9), (16, 10), (16, 11)] σ s → wFl σ s a (rAns (mEf (-1) σ) 1 l 5 60 30) → s 16 9 = s 1 3 → s 16 10 = a → s 16 11 = rAns (mEf (-1) σ) 1 l 5 60 30 → Q none s) → aEv (d + 4) true 13 [vr 56, vr 63] σ Q) := by
  obtain ⟨c1, c2, c3, c4, c5, c6, c7, c8⟩ := hS.2.1
  obtain ⟨a1, a2, a3, a4, a5⟩ := hA
  have a6 := a5 (σ 120 2532) (Int.le_refl _) (by omega)
  rw [ea] at a6
  refine ⟨a6.2, ⟨c2, by omega⟩, fun d Q k => ?_⟩
  refine c13 hN Fg_r ⟨by omega, by omega, a3, a1, a2⟩ (by rw [c1]; exact a6.1.symm) a6.2 ⟨ea, by rw [c1]; rfl, by rw [c4]; rfl, by rw [c7]; rfl, mEf_0.1, mEf_0.2.1, mEf_0.2.2⟩ hR (fun z1 z2 z3 => ?_) (fun s f g1 g2 g3 g4 _ => k s f g1 g2 g3 g4)
  have := hF.2 z1
  rw [z2, z3] at this
  exact this
theorem IFc_n {σ s t : aW} {a dr : Int} (h : wFl σ s a dr) (e : fN t = fN σ ∧ t 96 6 = σ 96 6 ∧ t 96 7 = σ 96 7 ∧ t 110 = σ 110) (h1 : t 17 = s 17) (h2 : t 18 = s 18) (h3 : t 19 = s 19) (h4 : t 20 = s 20) (g1 : t 16 9 = t 1 3) (g2 : t 16 10 = a) (g3 : t 16 11 = dr) : IFc t := ⟨by omega, fun _ => by rw [g2, g3]; exact wFl_c h e h1 h2 h3 h4⟩
theorem IFc_0 {σ : aW} (h : IFc σ) : IFc (sw σ 96 (fu (σ 96) 0 0)) := by
  have f1 : Fg [] [(96, 0)] σ (sw σ 96 (fu (σ 96) 0 0)) := Fg_f Fg_r (by decide)
  refine ⟨h.1, fun z => ?_⟩
  exact wFl_c (h.2 z) (fN_g f1 (by decide) (by decide) (by decide) (by decide) (by decide)) rfl rfl rfl rfl
theorem t_flow {σ : aW} {a1 : Int} (hN : INet σ) (hS : ISt 63 σ) (hA : IAr σ) (hR : IRu σ) (hF : IFc σ) : aEv 59 true 124 [vr 0, vi a1] σ (fun r s => aEv 59 true 204 [vr 96, vi a1] s (Tp IFc fL fP σ r)) := by
  have hn := hN.1
  unfold Nn at hn
  obtain ⟨r1, r2, B, l, r3, r4, r5, r6, r7, r8, r9, r10⟩ := hR
  obtain ⟨a0, z0, hb⟩ := f_both (a := σ 114 (σ 120 2532)) (B := B) hN hS hA (l := l) ⟨r5, r8, r7, r6, r9⟩ hF rfl
  refine e124 (d := 54) (b124_0 ⟨fun z => hb 54 _ (fun s f g1 g2 g3 g4 => ⟨rfl, b124_26 ⟨by omega, ?_⟩⟩), fun z => e204 (d := 43) (b204_0 ⟨by omega, fun y => absurd y (by omega), fun _ => ⟨rfl, IFc_0 hF, Fg_f Fg_r (by decide)⟩⟩)⟩)
  have e6 : s 96 6 = σ 96 6 := f 96 6 (by decide) (by decide)
  have e7 : s 96 7 = σ 96 7 := f 96 7 (by decide) (by decide)
  refine e204 (d := 43) (b204_0 ⟨by omega, fun y => ?_, fun y => absurd (by omega) y⟩)
  have f1 : Fg [17, 18, 19, 20, 21, 22, 23, 24, 26, 31] [(16, 9), (16, 10), (16, 11), (96, 0)] σ (sw s 96 (fu (s 96) 0 0)) := Fg_f (Fg_m f (by decide) (by decide)) (by decide)
  refine m203 (d := 19) (B := B) (e := mEf (-1) σ) (l := l) hN (mG_f mG_r f1 (by decide) (by decide) (by decide) (by decide) (by decide) (by decide)) e7 z0 rfl a0 ⟨?_, ?_, ?_, ?_⟩ (mEf_h z0.1 z0.2 (Or.inl rfl) (Fg_k f1 rfl rfl) (Fg_k f1 rfl rfl) (Fg_k f1 rfl rfl) (Fg_k f1 rfl rfl)) (fun t ft m1 => ⟨rfl, b204_25 ⟨by omega, ?_⟩⟩)
  · rw [Fg_k f1 (k := 124) rfl rfl]; exact r1
  · rw [Fg_k f1 (k := 124) rfl rfl]; exact r2
  · rw [Fg_k f1 (k := 124) rfl rfl, Fg_k f1 (k := 123) rfl rfl]; exact r3
  · rw [Fg_k f1 (k := 124) rfl rfl]; exact r4
  · have fa : Fg fL fP σ t := Fg_t (Fg_m f1 (by decide) (by decide)) (Fg_m ft (by decide) (by decide))
    refine ⟨by rw [m1.1 a1 (by omega) (by omega), g1.1 a1 (by omega) (by omega)], ?_, fa⟩
    have q : ∀ k j, ¬ k = 96 → ¬ (126 ≤ k ∧ k ≤ 132) → t k j = s k j := fun k j hk hk2 => (ft k j (by simp; omega) (by simp; omega)).trans (by rw [sw_n hk])
    exact IFc_n g1 (fN_g fa (by decide) (by decide) (by decide) (by decide) (by decide)) (funext fun j => q 17 j (by decide) (by decide)) (funext fun j => q 18 j (by decide) (by decide)) (funext fun j => q 19 j (by decide) (by decide)) (funext fun j => q 20 j (by decide) (by decide)) ((q 16 9 (by decide) (by decide)).trans (g2.trans (q 1 3 (by decide) (by decide)).symm)) ((q 16 10 (by decide) (by decide)).trans g3) ((q 16 11 (by decide) (by decide)).trans g4)
end
