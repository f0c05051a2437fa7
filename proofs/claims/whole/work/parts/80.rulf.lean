section
/-! rules: the component reads the tape, and tells -/
theorem c58l {d : Nat} {Q : aQ} {s0 : aW} {T Sp : Int → Int} {M : Int} (hT0 : ∀ x, 0 ≤ x → x ≤ M → -100000 ≤ T x ∧ T x ≤ 100000)
    (kB : ∀ j s', rAll T = .inl j → rFd s0 s' → s' 32 1 = Sp j → Q (some (vi 0)) s')
    (kO : ∀ l s', rAll T = .inr l → rFd s0 s' → s' 32 1 = -1 → s' 36 0 = l.length → rAr (s' 38) (s' 39) (s' 40) (s' 41) 0 0 l → rTl l ≤ 300 → s' 36 2 = rTl l → aEv (d + 13 + 8) true 81 [vr 25, vr 36] s' (fun r σ' => r = none ∧ Yx (d + 13 + 9) cd58 3 Q 98 [vt, vt] [] σ')) :
    ∀ (n : Nat) (acc : List rRu) (i : Int) (s : aW), acc.length + n = 12 → rDr s T Sp M i acc → rFd s0 s → rAll T = rLst T n acc i → Yx (d + 13 + 9) cd58 3 Q 42 [vr 32, vi (11 - n)] [] s := by
  intro n
  induction n with
  | zero =>
    intro acc i s hl hD hF hA
    have hG := hD.1
    obtain ⟨h1, h2, h3, h4, h5, h6, h7, h8, h9⟩ := hG
    have hM := h1.2.1
    have hx := h2 i h4 h5
    unfold rLst at hA
    refine b58_42 ⟨fun z => by omega, fun _ => ?_⟩
    rw [h3, hx.1, h6]
    refine ⟨by omega, by omega, fun z => ⟨by omega, fun z2 => ?_, fun z2 => ?_⟩, fun z => ?_⟩
    · have e1 : ¬ T i = 20059 := fun w => z ⟨rfl, w⟩
      rw [if_neg e1, if_pos z2.2] at hA
      exact kO acc s hA hF h6 hD.2.1 hD.2.2.2 (by omega) h7
    · have e1 : ¬ T i = 20059 := fun w => z ⟨rfl, w⟩
      have e2 : ¬ T i = 30000 := fun w => z2 ⟨rfl, w⟩
      rw [if_neg e1, if_neg e2] at hA
      exact c68 hD.1 (fun s' k' => ⟨rfl, b58_85 (kB i s' hA (Fg_t hF (Fg_m k'.1 (by decide) (by decide))) k'.2.1)⟩)
    · rw [if_pos z.2] at hA
      refine c71 hD.1 (by have := z.2; omega) (fun s1 f1 g1 => ⟨rfl, b58_61 ?_⟩)
      have hD1 : rDr s1 T Sp M (i + 1) acc := ⟨g1, by rw [f1 36 0 (by decide) (by decide)]; exact hD.2.1, hD.2.2.1, by rw [Fg_k f1 (k := 38) rfl rfl, Fg_k f1 (k := 39) rfl rfl, Fg_k f1 (k := 40) rfl rfl, Fg_k f1 (k := 41) rfl rfl]; exact hD.2.2.2⟩
      refine c72 (d := d) hD1 hT0 (fun j r s' hlt => by omega) (fun j s2 e f2 b2 => ⟨rfl, b58_65 ⟨by omega, ?_⟩⟩)
      rw [if_neg (by omega)] at e
      cases e
      have ng : ∀ x : Int, ¬ (s2 32 1 = -1 ∧ s2 34 (s2 32 7) = x) := fun x y => b2.1.2.1 (b2.1.1.symm.trans y.1)
      have r2 : (0 ≤ s2 32 7 ∧ s2 32 7 < 301) := ⟨b2.1.2.2.1, b2.1.2.2.2.1⟩
      have fl : aEv (d + 13 + 8) true 68 [vr 32] s2 (fun r σ' => r = none ∧ Yx (d + 13 + 9) cd58 3 Q 85 [vt, vt] [] σ') := c68b b2.1 ⟨rfl, b58_85 (kB _ s2 hA (Fg_t hF (Fg_t (Fg_m f1 (by decide) (by decide)) f2)) b2.1.1)⟩
      exact b58_42 ⟨fun _ => ⟨r2, fun y => absurd y (ng _), fun _ => fl⟩, fun _ => ⟨r2, by omega, fun _ => ⟨r2, fun y => absurd y (ng _), fun _ => fl⟩, fun y => absurd y (ng _)⟩⟩
  | succ n ih =>
    intro acc i s hl hD hF hA
    have hG := hD.1
    obtain ⟨h1, h2, h3, h4, h5, h6, h7, h8, h9⟩ := hG
    have hM := h1.2.1
    have hx := h2 i h4 h5
    unfold rLst at hA
    refine b58_42 ⟨fun z => by omega, fun _ => ?_⟩
    rw [h3, hx.1, h6]
    refine ⟨by omega, by omega, fun z => ⟨by omega, fun z2 => ?_, fun z2 => ?_⟩, fun z => ?_⟩
    · have e1 : ¬ T i = 20059 := fun w => z ⟨rfl, w⟩
      rw [if_neg e1, if_pos z2.2] at hA
      exact kO acc s hA hF h6 hD.2.1 hD.2.2.2 (by omega) h7
    · have e1 : ¬ T i = 20059 := fun w => z ⟨rfl, w⟩
      have e2 : ¬ T i = 30000 := fun w => z2 ⟨rfl, w⟩
      rw [if_neg e1, if_neg e2] at hA
      exact c68 hD.1 (fun s' k' => ⟨rfl, b58_85 (kB i s' hA (Fg_t hF (Fg_m k'.1 (by decide) (by decide))) k'.2.1)⟩)
    · rw [if_pos z.2] at hA
      refine c71 hD.1 (by have := z.2; omega) (fun s1 f1 g1 => ⟨rfl, b58_61 ?_⟩)
      have hD1 : rDr s1 T Sp M (i + 1) acc := ⟨g1, by rw [f1 36 0 (by decide) (by decide)]; exact hD.2.1, hD.2.2.1, by rw [Fg_k f1 (k := 38) rfl rfl, Fg_k f1 (k := 39) rfl rfl, Fg_k f1 (k := 40) rfl rfl, Fg_k f1 (k := 41) rfl rfl]; exact hD.2.2.2⟩
      refine c72 (d := d) hD1 hT0 (fun j r s2 hlt e f2 d2 hij => ⟨rfl, b58_65 ⟨by omega, ?_⟩⟩) (fun j s2 e f2 b2 => ⟨rfl, b58_65 ⟨by omega, ?_⟩⟩)
      · rw [e] at hA
        rw [show (11 : Int) - ((n + 1 : Nat) : Int) + 1 = 11 - n by omega]
        refine ih (acc ++ [r]) j s2 ?_ d2 (Fg_t hF (Fg_t (Fg_m f1 (by decide) (by decide)) f2)) hA
        simp only [List.length_append, List.length_cons, List.length_nil]
        omega
      · rw [if_pos (by omega)] at e
        rw [e] at hA
        have ng : ∀ x : Int, ¬ (s2 32 1 = -1 ∧ s2 34 (s2 32 7) = x) := fun x y => b2.1.2.1 (b2.1.1.symm.trans y.1)
        have r2 : (0 ≤ s2 32 7 ∧ s2 32 7 < 301) := ⟨b2.1.2.2.1, b2.1.2.2.2.1⟩
        have fl : aEv (d + 13 + 8) true 68 [vr 32] s2 (fun r σ' => r = none ∧ Yx (d + 13 + 9) cd58 3 Q 85 [vt, vt] [] σ') := c68b b2.1 ⟨rfl, b58_85 (kB _ s2 hA (Fg_t hF (Fg_t (Fg_m f1 (by decide) (by decide)) f2)) b2.1.1)⟩
        exact b58_42 ⟨fun _ => ⟨r2, fun y => absurd y (ng _), fun _ => fl⟩, fun _ => ⟨r2, by omega, fun _ => ⟨r2, fun y => absurd y (ng _), fun _ => fl⟩, fun y => absurd y (ng _)⟩⟩
theorem rLst_12 {T : Int → Int} : ∀ (n : Nat) (acc : List rRu) (i : Int) (l : List rRu), rLst T n acc i = .inr l → l.length ≤ acc.length + n
  | 0, acc, i, l, h => by
    unfold rLst at h
    split at h
    · cases h
    · split at h
      · cases h
        omega
      · cases h
  | n + 1, acc, i, l, h => by
    unfold rLst at h
    split at h
    · cases hs : rRule T (i + 1) with
      | inl j => rw [hs] at h; cases h
      | inr q =>
        obtain ⟨j, r⟩ := q
        rw [hs] at h
        have := rLst_12 n (acc ++ [r]) j l h
        simp only [List.length_append, List.length_cons, List.length_nil] at this
        omega
    · split at h
      · cases h
        omega
      · cases h
theorem rAll_12 {T : Int → Int} {l : List rRu} (h : rAll T = .inr l) : l.length ≤ 12 := by
  unfold rAll at h
  split at h
  · cases h
    decide
  · cases hs : rRule T 0 with
    | inl j => rw [hs] at h; cases h
    | inr q =>
      obtain ⟨j, r⟩ := q
      rw [hs] at h
      exact rLst_12 11 [r] j l h
/-- tokens as they stand -/
def rTk (s : aW) (T Sp : Int → Int) (M : Int) : Prop := rT T M ∧ (∀ x, 0 ≤ x → x ≤ M → s 34 x = T x ∧ s 35 x = Sp x ∧ 0 ≤ Sp x) ∧ ∀ x, 0 ≤ x → x ≤ M → -100000 ≤ T x ∧ T x ≤ 100000
theorem c58 {d : Nat} {Q : aQ} {σ : aW} {T Sp : Int → Int} {M : Int} (h59 : ∀ Q' : aQ, (∀ s1, Fr [34, 35] σ s1 → rTk s1 T Sp M → Q' none s1) → aEv (d + 13 + 8) true 59 [vr 32] σ Q')
    (kB : ∀ j s', rAll T = .inl j → Fg [34, 35, 38, 39, 40, 41] [(32, 0), (32, 1), (32, 7), (36, 0), (36, 2)] σ s' → s' 32 0 = 0 → s' 32 1 = Sp j → Q (some (vi 0)) s')
    (kO : ∀ l s', rAll T = .inr l → Fg [27, 28, 29, 30, 34, 35, 38, 39, 40, 41] [(25, 0), (25, 2), (32, 0), (32, 1), (32, 7), (36, 0), (36, 2)] σ s' → s' 32 0 = 0 → s' 32 1 = -1 → s' 25 0 = l.length → rAr (s' 27) (s' 28) (s' 29) (s' 30) 0 0 l → rTl l ≤ 300 → l.length ≤ 12 → Q (some (vi 1)) s') : aEv (d + 13 + 9) true 58 [vr 32] σ Q := by
  refine e58 (b58_0 (h59 _ (fun s1 f1 tk => ⟨rfl, b58_4 (e80 (b80_0 ⟨rfl, b58_26 ?_⟩))⟩)))
  obtain ⟨hT, hA, hB⟩ := tk
  have w1 : Fg [] [(32, 0), (32, 1), (32, 7), (36, 0), (36, 2)] s1 (sw (sw (sw (sw (sw s1 32 (fu (s1 32) 0 0)) 32 (fu (fu (s1 32) 0 0) 1 (-1))) 32 (fu (fu (fu (s1 32) 0 0) 1 (-1)) 7 0)) 36 (fu ((sw (sw (sw s1 32 (fu (s1 32) 0 0)) 32 (fu (fu (s1 32) 0 0) 1 (-1))) 32 (fu (fu (fu (s1 32) 0 0) 1 (-1)) 7 0)) 36) 0 0)) 36 (fu (fu ((sw (sw (sw s1 32 (fu (s1 32) 0 0)) 32 (fu (fu (s1 32) 0 0) 1 (-1))) 32 (fu (fu (fu (s1 32) 0 0) 1 (-1)) 7 0)) 36) 0 0) 2 0)) := Fg_f (Fg_f (Fg_f (Fg_f (Fg_f Fg_r (by decide)) (by decide)) (by decide)) (by decide)) (by decide)
  have v0 : (sw (sw (sw (sw (sw s1 32 (fu (s1 32) 0 0)) 32 (fu (fu (s1 32) 0 0) 1 (-1))) 32 (fu (fu (fu (s1 32) 0 0) 1 (-1)) 7 0)) 36 (fu ((sw (sw (sw s1 32 (fu (s1 32) 0 0)) 32 (fu (fu (s1 32) 0 0) 1 (-1))) 32 (fu (fu (fu (s1 32) 0 0) 1 (-1)) 7 0)) 36) 0 0)) 36 (fu (fu ((sw (sw (sw s1 32 (fu (s1 32) 0 0)) 32 (fu (fu (s1 32) 0 0) 1 (-1))) 32 (fu (fu (fu (s1 32) 0 0) 1 (-1)) 7 0)) 36) 0 0) 2 0)) 32 0 = 0 := by simp [sw, fu]
  have v1 : (sw (sw (sw (sw (sw s1 32 (fu (s1 32) 0 0)) 32 (fu (fu (s1 32) 0 0) 1 (-1))) 32 (fu (fu (fu (s1 32) 0 0) 1 (-1)) 7 0)) 36 (fu ((sw (sw (sw s1 32 (fu (s1 32) 0 0)) 32 (fu (fu (s1 32) 0 0) 1 (-1))) 32 (fu (fu (fu (s1 32) 0 0) 1 (-1)) 7 0)) 36) 0 0)) 36 (fu (fu ((sw (sw (sw s1 32 (fu (s1 32) 0 0)) 32 (fu (fu (s1 32) 0 0) 1 (-1))) 32 (fu (fu (fu (s1 32) 0 0) 1 (-1)) 7 0)) 36) 0 0) 2 0)) 32 1 = -1 := by simp [sw, fu]
  have v7 : (sw (sw (sw (sw (sw s1 32 (fu (s1 32) 0 0)) 32 (fu (fu (s1 32) 0 0) 1 (-1))) 32 (fu (fu (fu (s1 32) 0 0) 1 (-1)) 7 0)) 36 (fu ((sw (sw (sw s1 32 (fu (s1 32) 0 0)) 32 (fu (fu (s1 32) 0 0) 1 (-1))) 32 (fu (fu (fu (s1 32) 0 0) 1 (-1)) 7 0)) 36) 0 0)) 36 (fu (fu ((sw (sw (sw s1 32 (fu (s1 32) 0 0)) 32 (fu (fu (s1 32) 0 0) 1 (-1))) 32 (fu (fu (fu (s1 32) 0 0) 1 (-1)) 7 0)) 36) 0 0) 2 0)) 32 7 = 0 := by simp [sw, fu]
  have u0 : (sw (sw (sw (sw (sw s1 32 (fu (s1 32) 0 0)) 32 (fu (fu (s1 32) 0 0) 1 (-1))) 32 (fu (fu (fu (s1 32) 0 0) 1 (-1)) 7 0)) 36 (fu ((sw (sw (sw s1 32 (fu (s1 32) 0 0)) 32 (fu (fu (s1 32) 0 0) 1 (-1))) 32 (fu (fu (fu (s1 32) 0 0) 1 (-1)) 7 0)) 36) 0 0)) 36 (fu (fu ((sw (sw (sw s1 32 (fu (s1 32) 0 0)) 32 (fu (fu (s1 32) 0 0) 1 (-1))) 32 (fu (fu (fu (s1 32) 0 0) 1 (-1)) 7 0)) 36) 0 0) 2 0)) 36 0 = 0 := by simp [sw, fu]
  have u2 : (sw (sw (sw (sw (sw s1 32 (fu (s1 32) 0 0)) 32 (fu (fu (s1 32) 0 0) 1 (-1))) 32 (fu (fu (fu (s1 32) 0 0) 1 (-1)) 7 0)) 36 (fu ((sw (sw (sw s1 32 (fu (s1 32) 0 0)) 32 (fu (fu (s1 32) 0 0) 1 (-1))) 32 (fu (fu (fu (s1 32) 0 0) 1 (-1)) 7 0)) 36) 0 0)) 36 (fu (fu ((sw (sw (sw s1 32 (fu (s1 32) 0 0)) 32 (fu (fu (s1 32) 0 0) 1 (-1))) 32 (fu (fu (fu (s1 32) 0 0) 1 (-1)) 7 0)) 36) 0 0) 2 0)) 36 2 = 0 := by simp [sw, fu]
  generalize sw (sw (sw (sw (sw s1 32 (fu (s1 32) 0 0)) 32 (fu (fu (s1 32) 0 0) 1 (-1))) 32 (fu (fu (fu (s1 32) 0 0) 1 (-1)) 7 0)) 36 (fu ((sw (sw (sw s1 32 (fu (s1 32) 0 0)) 32 (fu (fu (s1 32) 0 0) 1 (-1))) 32 (fu (fu (fu (s1 32) 0 0) 1 (-1)) 7 0)) 36) 0 0)) 36 (fu (fu ((sw (sw (sw s1 32 (fu (s1 32) 0 0)) 32 (fu (fu (s1 32) 0 0) 1 (-1))) 32 (fu (fu (fu (s1 32) 0 0) 1 (-1)) 7 0)) 36) 0 0) 2 0) = s2 at w1 v0 v1 v7 u0 u2
  have g2 : rG s2 T Sp M 0 0 := ⟨hT, by rw [Fg_k w1 (k := 34) rfl rfl, Fg_k w1 (k := 35) rfl rfl]; exact hA, v7, Int.le_refl _, hT.1, v1, u2, Int.le_refl _, Int.le_refl _⟩
  have f2 : Fg [34, 35, 38, 39, 40, 41] [(32, 0), (32, 1), (32, 7), (36, 0), (36, 2)] σ s2 := Fg_t (Fg_F (Fr_s f1 (by decide))) (Fg_m w1 (by decide) (by decide))
  have hx := g2.2.1 0 (Int.le_refl _) hT.1
  have d2 : rDr s2 T Sp M 0 [] := ⟨g2, u0, by decide, trivial⟩
  have qB : ∀ j s', rAll T = .inl j → rFd s2 s' → s' 32 1 = Sp j → Q (some (vi 0)) s' := fun j s' e f h1 => kB j s' e (Fg_t f2 (Fg_m f (by decide) (by decide))) (by rw [f 32 0 (by decide) (by decide)]; exact v0) h1
  have qO : ∀ l s', l.length ≤ 12 → rAll T = .inr l → rFd s2 s' → s' 32 1 = -1 → s' 36 0 = l.length → rAr (s' 38) (s' 39) (s' 40) (s' 41) 0 0 l → rTl l ≤ 300 → s' 36 2 = rTl l → aEv (d + 13 + 8) true 81 [vr 25, vr 36] s' (fun r σ' => r = none ∧ Yx (d + 13 + 9) cd58 3 Q 98 [vt, vt] [] σ') := by
    intro l s' h12 e f h1 h0 ha h300 hn
    have h0' := rTl_0 l
    refine e81 (b81_0 ⟨rfl, b58_98 (kO l _ e ?_ ?_ ?_ ?_ ?_ h300 h12)⟩)
    · exact Fg_w (Fg_w (Fg_w (Fg_w (Fg_f (Fg_f (Fg_t (Fg_m f2 (by decide) (by decide)) (Fg_m f (by decide) (by decide))) (by decide)) (by decide)) (by decide)) (by decide)) (by decide)) (by decide)
    · simp only [sw, Nat.reduceEqDiff, if_false]
      rw [f 32 0 (by decide) (by decide)]
      exact v0
    · simp only [sw, Nat.reduceEqDiff, if_false]
      exact h1
    · simp only [sw, fu, Nat.reduceEqDiff, if_false, if_true]
      simp
      exact h0
    · simp only [sw, Nat.reduceEqDiff, if_false, if_true]
      refine rAr_c (fun x x0 x1 => ?_) (fun x x0 x1 => ?_) ha
      · unfold aCp
        rw [if_pos (by omega)]
        congr 1
        omega
      · unfold aCp
        rw [if_pos (by omega), if_pos (by omega), if_pos (by omega), show (0 : Int) + (x - 0) = x by omega]
        exact ⟨rfl, rfl, rfl⟩
  rw [v7, hx.1, v1]
  refine ⟨by omega, fun z => ?_, fun z => ?_⟩
  · have eA : rAll T = .inr [] := by
      unfold rAll
      rw [if_pos z.2]
    have hne : ¬ T 0 = 20059 := by have := z.2; omega
    refine b58_42 ⟨fun y => by omega, fun _ => ?_⟩
    rw [v7, hx.1, v1]
    refine ⟨by omega, by omega, fun _ => ⟨by omega, fun _ => qO [] s2 (by decide) eA Fg_r v1 u0 trivial (by decide) u2, fun y => absurd z y⟩, fun y => absurd y.2 hne⟩
  · have ne : ¬ T 0 = 30000 := fun w => z ⟨rfl, w⟩
    have eA : rAll T = (match rRule T 0 with
      | .inl j => .inl j
      | .inr (j, r) => rLst T 11 [r] j) := by
      unfold rAll
      rw [if_neg ne]
      cases rRule T 0 with
      | inl j => rfl
      | inr q => rfl
    refine c72 (d := d) d2 hB (fun j r s3 hlt e f3 d3 hij => ⟨rfl, b58_40 ?_⟩) (fun j s3 e f3 b3 => ⟨rfl, b58_40 ?_⟩)
    · rw [e] at eA
      refine c58l (d := d) (s0 := s2) hB qB (fun l s' e f h1 h0 ha h300 hn => qO l s' ?_ e f h1 h0 ha h300 hn) 11 [r] j s3 rfl d3 f3 eA
      exact rAll_12 e
    · rw [if_pos (by decide)] at e
      rw [e] at eA
      have ng : ∀ x : Int, ¬ (s3 32 1 = -1 ∧ s3 34 (s3 32 7) = x) := fun x y => b3.1.2.1 (b3.1.1.symm.trans y.1)
      have r2 : (0 ≤ s3 32 7 ∧ s3 32 7 < 301) := ⟨b3.1.2.2.1, b3.1.2.2.2.1⟩
      have fl : aEv (d + 13 + 8) true 68 [vr 32] s3 (fun r σ' => r = none ∧ Yx (d + 13 + 9) cd58 3 Q 85 [vt, vt] [] σ') := c68b b3.1 ⟨rfl, b58_85 (qB _ s3 eA f3 b3.1.1)⟩
      exact b58_42 ⟨fun y => by omega, fun _ => ⟨r2, by omega, fun _ => ⟨r2, fun y => absurd y (ng _), fun _ => fl⟩, fun y => absurd y (ng _)⟩⟩
end
