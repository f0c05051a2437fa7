section
/-! rules: the reference's sums -/
abbrev mPP : List (Nat × Int) := [(96, 38), (96, 48), (96, 49), (96, 50), (96, 51), (96, 52), (96, 54)]
abbrev mPO : List (Nat × Int) := [(96, 48), (96, 49), (96, 50), (96, 51), (96, 52)]
theorem Fo {s t : aW} (h : Fg [] mPO s t) : Fg [] mPP s t := Fg_m h (by decide) (by decide)
theorem mTd {B : Int → Int} {n x : Int} {s : aW} (hA : mAt B n x s) : (s 96 50 = 0 ∧ kTt B n x = 30000 ∧ x = kMm B n) ∨ (x < kMm B n ∧ ((s 96 50 = 1 ∧ (kTt B n x = 30001 ∨ (10000 ≤ kTt B n x ∧ kTt B n x < 10014))) ∨ (s 96 50 = 2 ∧ kTt B n x = s 96 51 ∧ 0 ≤ s 96 51 ∧ s 96 51 ≤ 9999) ∨ (s 96 50 = 3 ∧ kTt B n x = 20000 + (if (s 96 47) ≤ (s 96 49) then 0 else (s 123 ((s 96 46) + (s 96 49)))) ∧ 20040 ≤ kTt B n x ∧ kTt B n x ≤ 20062) ∨ (s 96 50 = 4 ∧ kTt B n x = 30001))) := by
  rcases mTc hA with c | ⟨hM, c | c | c | c⟩
  · exact Or.inl c
  · exact Or.inr ⟨hM, Or.inl ⟨c.1, c.2.2.2⟩⟩
  · exact Or.inr ⟨hM, Or.inr (Or.inl c)⟩
  · have := c.2.2
    unfold kSg at this
    exact Or.inr ⟨hM, Or.inr (Or.inr (Or.inl ⟨c.1, c.2.1, by omega, by omega⟩))⟩
  · exact Or.inr ⟨hM, Or.inr (Or.inr (Or.inr c))⟩
theorem mAt_g {B : Int → Int} {n x : Int} {P : List (Nat × Int)} {s t : aW} (h : mAt B n x s) (hF : Fg [] P s t) (h1 : ∀ j ∈ ([46, 47, 48, 49, 50, 51, 54] : List Int), (96, j) ∉ P) (h3 : P.all (fun q => q.1 != 123) = true) : mAt B n x t := by
  have g : ∀ j ∈ ([46, 47, 48, 49, 50, 51, 54] : List Int), t 96 j = s 96 j := fun j hj => hF 96 j (by simp) (h1 j hj)
  have hx := mTx_g h.2.2.2.2.2.2 hF (h1 46 (by decide)) (h1 47 (by decide)) h3
  obtain ⟨a1, a2, a3, a4, a5, a6, -⟩ := h
  unfold mSo at a6
  refine ⟨a1, a2, (g 54 (by decide)).trans a3, (g 49 (by decide)).trans a4, fun z => (g 50 (by decide)).trans (a5 z), fun z => ?_, hx⟩
  unfold mSo
  rw [g 48 (by decide), g 50 (by decide), g 51 (by decide)]
  exact a6 z
theorem mBd_g {B : Int → Int} {n x : Int} {P : List (Nat × Int)} {s t : aW} (h : mBd B n x s) (hF : Fg [] P s t) (h1 : ∀ j ∈ ([38, 46, 47, 49, 54] : List Int), (96, j) ∉ P) (h3 : P.all (fun q => q.1 != 123) = true) : mBd B n x t := by
  have g : ∀ j ∈ ([38, 46, 47, 49, 54] : List Int), t 96 j = s 96 j := fun j hj => hF 96 j (by simp) (h1 j hj)
  have hx := mTx_g h.2.2.2 hF (h1 46 (by decide)) (h1 47 (by decide)) h3
  obtain ⟨a1, a2, a3, -⟩ := h
  refine ⟨by rw [g 54 (by decide)]; exact a1, (g 38 (by decide)).trans a2, by rw [g 49 (by decide)]; exact a3, hx⟩
/-- what the names tell -/
def mEn (e : Int → Int) (s : aW) : Prop := 0 ≤ s 120 2532 ∧ s 120 2532 < 5050 ∧ (s 96 56 = -1 ∨ (0 ≤ s 96 56 ∧ s 96 56 < 17)) ∧ e 0 = s 114 (s 120 2532) ∧ e 1 = s 120 2532 % 24 ∧ e 2 = s 120 2533 ∧ e 3 = s 120 2534 ∧ e 4 = (if bi (¬ s 96 56 = (-1)) = 0 then 0 else s 110 (s 96 56)) ∧ e 5 = (if bi (¬ s 96 56 = (-1)) = 0 then 0 else s 111 (s 96 56)) ∧ e 6 = (if bi (¬ s 96 56 = (-1)) = 0 then 0 else s 120 (2400 + s 96 56))
theorem mEn_g {e : Int → Int} {P : List (Nat × Int)} {s t : aW} (h : mEn e s) (hF : Fg [] P s t) (h1 : (96, 56) ∉ P) (h3 : P.all (fun q => q.1 == 96) = true) : mEn e t := by
  have k : ∀ a : Nat, ¬ a = 96 → t a = s a := fun a ha => Fg_k hF rfl (by
    rw [List.all_eq_true] at h3 ⊢
    intro q hq
    have := h3 q hq
    simp at this ⊢
    omega)
  unfold mEn
  rw [k 120 (by decide), k 114 (by decide), k 110 (by decide), k 111 (by decide), hF 96 56 (by simp) h1]
  exact h
def mSpS (d f : Nat) (B : Int → Int) (n : Int) (e : Int → Int) (F : Int → rO) (o : Int) : Prop := ∀ (Q : aQ) (s : aW) (x : Int), mAt B n x s → mEn e s → s 96 52 = o → (∀ j c v s', F x = .inr (j, c, v) → Fg [] mPO s s' → mAt B n j s' → s' 96 52 = o → Q (some (vl (v e))) s') → (∀ j s' r, F x = .inl j → Fg [] mPP s s' → mBd B n j s' → s' 96 52 = o → Q (some (vl r)) s') → aEv d true f [vr 96] s Q
theorem c187 {d : Nat} {B : Int → Int} {n : Int} {e : Int → Int} {S : Int → rO} {o : Int} (o0 : 0 ≤ o) (o1 : o ≤ 8) (hS : ¬ o = 8 → mSpS (d + 5) 189 B n e S (o + 1)) (pS : ¬ o = 8 → rPg (kMm B n) S) : mSpS (d + 6) 187 B n e (rFac (kTt B n) S (decide (¬ o = 8))) o := by
  intro Q s x hA hE ho kO kB
  have hc := mTd hA
  have h5 := hA.2.2.1
  unfold rFac at kO kB
  have bad : ¬ (0 ≤ kTt B n x ∧ kTt B n x ≤ 9999) → ¬ (10007 ≤ kTt B n x ∧ kTt B n x < 10014) → ¬ (kTt B n x = 20040 ∧ decide (¬ o = 8) = true) → ∀ {q : aQ}, (∀ s', mBd B n x s' → (∀ r, Q (some (vl r)) s') → q none s') → aEv (d + 5) true 184 [vr 96] s q := fun z1 z2 z3 q hq => by
    rw [if_neg z1, if_neg z2, if_neg z3] at kB
    exact gBad hA (fun s' f b => hq s' b (fun r => kB x s' r rfl (Fg_m f (by decide) (by decide)) b ((f 96 52 (by simp) (by decide)).trans ho)))
  have fin : ∀ m v : Int, 0 ≤ m → m < 7 → kTt B n x = 10007 + m → e m = v → aEv (d + 5) true 183 [vr 96] s (fun r σ' => r = none ∧ Yx (d + 6) cd187 2 Q 257 [vt, vt, vl v, vt] [] σ') := fun m v m0 m1 hm he => by
    rw [if_neg (by omega), if_pos (by omega)] at kO
    refine gOn hA (by omega) (fun s' f A => ⟨rfl, b187_257 ?_⟩)
    have := kO _ _ _ s' rfl (Fg_m f (by decide) (by decide)) A ((f 96 52 (by simp) (by decide)).trans ho)
    rw [← he, show m = kTt B n x - 10007 by omega]
    exact this
  refine e187 (b187_0 ⟨fun _ => ⟨fun n2 => ⟨fun n1 => ⟨mSi hA, fun ns => ?_, fun sg => ⟨fun n8 => ⟨by omega, ?_⟩, fun i8 => ?_⟩⟩, fun i1 => ?_⟩, fun i2 => ?_⟩, fun z => absurd h5 z⟩)
  · exact bad (by omega) (by omega) (by omega) (fun s' b hq => ⟨rfl, b187_281 (hq 0)⟩)
  · have f1 : Fg [] [(96, 52)] s (sw s 96 (fu (s 96) 52 (s 96 52 + 1))) := Fg_f Fg_r (by decide)
    have o1' : (sw s 96 (fu (s 96) 52 (s 96 52 + 1))) 96 52 = o + 1 := by rw [sw_s, fu_s, ho]
    have n8' : ¬ o = 8 := by rw [← ho]; exact n8
    have hTx : kTt B n x = 20040 ∧ decide (¬ o = 8) = true := ⟨by omega, by simpa using n8'⟩
    rw [if_neg (by omega), if_neg (by omega), if_pos hTx] at kO kB
    refine gOn (mAt_g hA f1 (by decide) rfl) (by omega) (fun s2 f2 A2 => ⟨rfl, b187_297 ?_⟩)
    have fg2 : Fg [] mPO s s2 := Fg_t (Fg_m f1 (by decide) (by decide)) (Fg_m f2 (by decide) (by decide))
    have hp := pS n8' (x + 1) A2.1 A2.2.1
    refine hS n8' _ s2 (x + 1) A2 (mEn_g hE fg2 (by decide) rfl) ((f2 96 52 (by simp) (by decide)).trans o1') (fun j c v s3 e3 f3 A3 o3 => ⟨_, rfl, b187_301_1 ⟨mSi A3, fun ns => ?_, fun sg => ?_⟩⟩) (fun j s3 r e3 f3 b3 o3 => ⟨_, rfl, b187_301_1 ⟨mSb b3, fun ns => ?_, fun sg => absurd sg.1 b3.1⟩⟩)
    · rw [e3] at kB
      simp only at kB
      have hc3 := mTd A3
      rw [if_neg (by have := A3.2.2.1; omega)] at kB
      refine gBad A3 (fun s4 f4 b4 => ⟨rfl, b187_322 ?_⟩)
      have o4 : s4 96 52 = o + 1 := (f4 96 52 (by simp) (by decide)).trans o3
      refine ⟨by omega, ?_⟩
      have f5 : Fg [] [(96, 52)] s4 (sw s4 96 (fu (s4 96) 52 (s4 96 52 - 1))) := Fg_f Fg_r (by decide)
      exact kB j _ _ rfl (Fg_t (Fo fg2) (Fg_t (Fo f3) (Fg_t (Fg_m f4 (by decide) (by decide)) (Fg_m f5 (by decide) (by decide))))) (mBd_g b4 f5 (by decide) rfl) (by rw [sw_s, fu_s]; omega)
    · rw [e3] at kO
      simp only at kO
      have hc3 := mTd A3
      rw [if_pos (by omega)] at kO
      refine gOn A3 (by omega) (fun s4 f4 A4 => ⟨rfl, b187_315 ?_⟩)
      have o4 : s4 96 52 = o + 1 := (f4 96 52 (by simp) (by decide)).trans o3
      refine ⟨by omega, ?_⟩
      have f5 : Fg [] [(96, 52)] s4 (sw s4 96 (fu (s4 96) 52 (s4 96 52 - 1))) := Fg_f Fg_r (by decide)
      exact kO (j + 1) _ _ _ rfl (Fg_t fg2 (Fg_t f3 (Fg_t (Fg_m f4 (by decide) (by decide)) (Fg_m f5 (by decide) (by decide))))) (mAt_g A4 f5 (by decide) rfl) (by rw [sw_s, fu_s]; omega)
    · rw [e3] at kB
      simp only at kB
      refine gBad2 b3 (fun s4 f4 b4 => ⟨rfl, b187_322 ?_⟩)
      have o4 : s4 96 52 = o + 1 := (f4 96 52 (by simp) (by decide)).trans o3
      refine ⟨by omega, ?_⟩
      have f5 : Fg [] [(96, 52)] s4 (sw s4 96 (fu (s4 96) 52 (s4 96 52 - 1))) := Fg_f Fg_r (by decide)
      exact kB j _ _ rfl (Fg_t (Fo fg2) (Fg_t f3 (Fg_t (Fg_m f4 (by decide) (by decide)) (Fg_m f5 (by decide) (by decide))))) (mBd_g b4 f5 (by decide) rfl) (by rw [sw_s, fu_s]; omega)
  · exact bad (by omega) (by omega) (fun z => by have := of_decide_eq_true z.2; omega) (fun s' b hq => ⟨rfl, b187_281 (hq 0)⟩)
  · obtain ⟨g1, g2, g3, g4, g5, g6, g7, g8, g9, g10⟩ := hE
    have hh : ¬ bi (¬ s 96 56 = (-1)) = 0 → (0 ≤ s 96 56 ∧ s 96 56 < 17) := fun z => by
      by_cases y : s 96 56 = -1
      · exact absurd (bi_f (fun w => w y)) z
      · omega
    refine i6 hA (fun v v0 hv => ⟨v, rfl, b187_60_1 ⟨fun z => ?_, fun z => ⟨by omega, by omega, fun y => absurd h5 y, fun _ => fin 0 _ (by omega) (by omega) (by omega) g4⟩⟩⟩)
    refine i7 hA (fun v' v0' hv' => ⟨v', rfl, b187_84_1 ⟨fun z' => ?_, fun z => ⟨by omega, by omega, fun y => absurd h5 y, fun _ => fin 1 _ (by omega) (by omega) (by omega) g5⟩⟩⟩)
    refine i8 hA (fun v2 v20 hv2 => ⟨v2, rfl, b187_106_1 ⟨fun z2 => ?_, fun z => ⟨fun y => absurd h5 y, fun _ => fin 2 _ (by omega) (by omega) (by omega) g6⟩⟩⟩)
    refine i9 hA (fun v3 v30 hv3 => ⟨v3, rfl, b187_128_1 ⟨fun z3 => ?_, fun z => ⟨fun y => absurd h5 y, fun _ => fin 3 _ (by omega) (by omega) (by omega) g7⟩⟩⟩)
    refine i10 hA (fun v4 v40 hv4 => ⟨v4, rfl, b187_150_1 ⟨fun z4 => ?_, fun z => ⟨hh, fun y => absurd h5 y, fun _ => fin 4 _ (by omega) (by omega) (by omega) g8⟩⟩⟩)
    refine i11 hA (fun v5 v50 hv5 => ⟨v5, rfl, b187_182_1 ⟨fun z5 => ?_, fun z => ⟨hh, fun y => absurd h5 y, fun _ => fin 5 _ (by omega) (by omega) (by omega) g9⟩⟩⟩)
    refine i12 hA (fun v6 v60 hv6 => ⟨v6, rfl, b187_214_1 ⟨fun z6 => ?_, fun z => ⟨fun w => by have := hh w; omega, fun y => absurd h5 y, fun _ => fin 6 _ (by omega) (by omega) (by omega) g10⟩⟩⟩)
    exact bad (by omega) (by omega) (by omega) (fun s' b hq => ⟨rfl, b187_246 ⟨fun _ => hq _, fun z => absurd z b.1⟩⟩)
  · rw [if_pos (by omega)] at kO
    refine gOn hA (by omega) (fun s' f A => ⟨rfl, b187_27 ?_⟩)
    have := kO _ _ _ s' rfl (Fg_m f (by decide) (by decide)) A ((f 96 52 (by simp) (by decide)).trans ho)
    rw [show s 96 51 = kTt B n x by omega]
    exact this
end
