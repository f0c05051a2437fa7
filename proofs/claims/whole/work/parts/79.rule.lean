section
/-! rules: the component's rules -/
def rWc (w : Option (List Int × rV)) : List Int := match w with
  | none => []
  | some (c, _) => c
def rAr (f k a b : Int → Int) : Int → Int → List rRu → Prop
  | _, _, [] => True
  | r, n, (kd, (c, _), w) :: l => k r = kd ∧ a r = n + c.length ∧ b r = n + c.length + (rWc w).length ∧ cAt f n (c ++ rWc w) ∧ rAr f k a b (r + 1) (n + c.length + (rWc w).length) l
def rTl : List rRu → Int
  | [] => 0
  | (_, (c, _), w) :: l => c.length + (rWc w).length + rTl l
theorem rTl_0 : ∀ l : List rRu, 0 ≤ rTl l
  | [] => Int.le_refl _
  | (_, (c, _), w) :: l => by
    have := rTl_0 l
    show 0 ≤ (c.length : Int) + (rWc w).length + rTl l
    omega
theorem rTl_a : ∀ (l m : List rRu), rTl (l ++ m) = rTl l + rTl m
  | [], m => by
    show rTl m = 0 + rTl m
    omega
  | (kd, (c, v), w) :: l, m => by
    have := rTl_a l m
    show (c.length : Int) + (rWc w).length + rTl (l ++ m) = c.length + (rWc w).length + rTl l + rTl m
    omega
theorem rAr_a {f k a b : Int → Int} : ∀ {l m : List rRu} {r n : Int}, rAr f k a b r n (l ++ m) ↔ (rAr f k a b r n l ∧ rAr f k a b (r + l.length) (n + rTl l) m)
  | [], m, r, n => by
    show rAr f k a b r n m ↔ (True ∧ rAr f k a b (r + ((0 : Nat) : Int)) (n + 0) m)
    rw [show r + ((0 : Nat) : Int) = r by omega, show n + 0 = n by omega]
    simp
  | (kd, (c, v), w) :: l, m, r, n => by
    have ih := rAr_a (f := f) (k := k) (a := a) (b := b) (l := l) (m := m) (r := r + 1) (n := n + c.length + (rWc w).length)
    show (k r = kd ∧ a r = n + c.length ∧ b r = n + c.length + (rWc w).length ∧ cAt f n (c ++ rWc w) ∧ rAr f k a b (r + 1) (n + c.length + (rWc w).length) (l ++ m)) ↔ ((k r = kd ∧ a r = n + c.length ∧ b r = n + c.length + (rWc w).length ∧ cAt f n (c ++ rWc w) ∧ rAr f k a b (r + 1) (n + c.length + (rWc w).length) l) ∧ rAr f k a b (r + ((l.length + 1 : Nat) : Int)) (n + (c.length + (rWc w).length + rTl l)) m)
    rw [ih, show r + ((l.length + 1 : Nat) : Int) = r + 1 + l.length by omega, show n + (c.length + (rWc w).length + rTl l) = n + c.length + (rWc w).length + rTl l by omega]
    exact ⟨fun z => ⟨⟨z.1, z.2.1, z.2.2.1, z.2.2.2.1, z.2.2.2.2.1⟩, z.2.2.2.2.2⟩, fun z => ⟨z.1.1, z.1.2.1, z.1.2.2.1, z.1.2.2.2.1, z.1.2.2.2.2, z.2⟩⟩
theorem rAr_c {f k a b f' k' a' b' : Int → Int} : ∀ {l : List rRu} {r n : Int}, (∀ x, n ≤ x → x < n + rTl l → f' x = f x) → (∀ x, r ≤ x → x < r + l.length → k' x = k x ∧ a' x = a x ∧ b' x = b x) → rAr f k a b r n l → rAr f' k' a' b' r n l
  | [], _, _, _, _, _ => trivial
  | (kd, (c, v), w) :: l, r, n, h1, h2, z => by
    have q : rTl ((kd, (c, v), w) :: l) = c.length + (rWc w).length + rTl l := rfl
    have q2 := rTl_0 l
    have hr := h2 r (Int.le_refl _) (by simp only [List.length_cons]; omega)
    rw [q] at h1
    refine ⟨hr.1.trans z.1, hr.2.1.trans z.2.1, hr.2.2.trans z.2.2.1, cAt_c (fun x x0 x1 => h1 x x0 (by rw [List.length_append] at x1; omega)) z.2.2.2.1, rAr_c (fun x x0 x1 => h1 x (by omega) (by omega)) (fun x x0 x1 => h2 x (by omega) (by simp only [List.length_cons]; omega)) z.2.2.2.2⟩
/-- the draft holds these rules -/
def rDr (s : aW) (T Sp : Int → Int) (M i : Int) (l : List rRu) : Prop := rG s T Sp M i (rTl l) ∧ s 36 0 = l.length ∧ l.length ≤ 12 ∧ rAr (s 38) (s 39) (s 40) (s 41) 0 0 l
def rFd (s s' : aW) : Prop := Fg [38, 39, 40, 41] [(32, 1), (32, 7), (36, 0), (36, 2)] s s'
def rHd (s : aW) (p : Int) : Prop := rH s p ∧ 0 ≤ s 36 0 ∧ s 36 0 ≤ 12
theorem c84b {d : Nat} {Q : aQ} {s : aW} {p : Int} (h : rHd s p) (k : ∀ s', rFd s s' → rHd s' p → Q none s') : aEv (d + 0) true 84 [vr 36] s Q := by
  obtain ⟨⟨h1, h2, h3, h4, h5, h6⟩, h7, h8⟩ := h
  refine e84 (b84_0 ⟨fun z => k s Fg_r ⟨⟨h1, h2, h3, h4, h5, h6⟩, h7, h8⟩, fun z => ⟨by omega, by omega, k _ (Fg_f (s := sw s 41 _) (Fg_w Fg_r (by decide)) (by decide)) ?_⟩⟩)
  refine ⟨⟨?_, h2, ?_, ?_, ?_, ?_⟩, ?_, ?_⟩
  · rw [sw_n (by decide), sw_n (by decide)]; exact h1
  · rw [sw_n (by decide), sw_n (by decide)]; exact h3
  · rw [sw_n (by decide), sw_n (by decide)]; exact h4
  · rw [sw_s, fu_n (by decide)]; exact h5
  · rw [sw_s, fu_n (by decide)]; exact h6
  · rw [sw_s, fu_s]; omega
  · rw [sw_s, fu_s]; omega
theorem c83b {d : Nat} {Q : aQ} {s : aW} {p o : Int} (h : rHd s p) (k : ∀ s', rFd s s' → rHd s' p → Q none s') : aEv (d + 0) true 83 [vr 36, vi o] s Q := by
  obtain ⟨⟨h1, h2, h3, h4, h5, h6⟩, h7, h8⟩ := h
  refine e83 (b83_0 ⟨fun z => k s Fg_r ⟨⟨h1, h2, h3, h4, h5, h6⟩, h7, h8⟩, fun z => ⟨by omega, by omega, k _ (Fg_w (Fg_w Fg_r (by decide)) (by decide)) ?_⟩⟩)
  refine ⟨⟨?_, h2, ?_, ?_, ?_, ?_⟩, ?_, ?_⟩
  all_goals rw [sw_n (by decide), sw_n (by decide)]
  all_goals assumption
theorem c72 {d : Nat} {Q : aQ} {s : aW} {T Sp : Int → Int} {M i : Int} {l : List rRu} (hD : rDr s T Sp M i l) (hT0 : ∀ x, 0 ≤ x → x ≤ M → -100000 ≤ T x ∧ T x ≤ 100000) (kO : ∀ j r s', l.length < 12 → rRule T i = .inr (j, r) → rFd s s' → rDr s' T Sp M j (l ++ [r]) → i < j → Q none s') (kB : ∀ j s', (if l.length < 12 then rRule T i else .inl i) = .inl j → rFd s s' → rHd s' (Sp j) → Q none s') : aEv (d + 21) true 72 [vr 32] s Q := by
  obtain ⟨hG, h0, hl, hA⟩ := hD
  have hG' := hG
  obtain ⟨h1, h2, h3, h4, h5, h6, h7, h8, h9⟩ := hG'
  have hM := h1.2.1
  have hx := h2 i h4 h5
  have hS : rSpS (d + 18) 75 T Sp M (rSum T 8) [vr 32, vi 0] := c75 h1 8 d (by omega)
  have hS2 : rSpS (d + 20) 75 T Sp M (rSum T 8) [vr 32, vi 0] := c75 h1 8 (d + 2) (by omega)
  have hW : rSpS (d + 20) 73 T Sp M (rWhen T) [vr 32] := c73 h1
  have ht := hT0 i h4 h5
  have bad0 : (∀ j, (if l.length < 12 then rRule T i else .inl i) = .inl j → j = i) → (if l.length < 12 then rRule T i else .inl i) = .inl i → aEv (d + 16 + 4) true 68 [vr 32] s (fun r σ' => r = none ∧ Yx (d + 16 + 5) cd72 0 Q 47 [vt, vt] [] σ') := fun _ e => c68 hG (fun s' hk => ⟨rfl, b72_47 (kB i s' e (Fg_m hk.1 (by decide) (by decide)) ⟨hk.2, by
    rw [hk.1 36 0 (by decide) (by decide)]; omega, by
    rw [hk.1 36 0 (by decide) (by decide)]; omega⟩)⟩)
  have bad : (if l.length < 12 then rRule T i else .inl i) = .inl i → aEv (d + 16 + 4) true 68 [vr 32] s (fun r σ' => r = none ∧ Yx (d + 16 + 5) cd72 0 Q 47 [vt, vt] [] σ') := fun e => bad0 (fun j z => by rw [e] at z; cases z; rfl) e
  refine e72 (d := d + 16) (b72_0 ?_)
  rw [h3, hx.1, h6, h0]
  have badk : ¬ (10000 ≤ T i ∧ T i ≤ 10003) → (if l.length < 12 then rRule T i else .inl i) = .inl i := fun z => by
    split
    · unfold rRule
      rw [if_neg z]
    · rfl
  refine ⟨by omega, by omega, fun z => absurd rfl z, fun _ => ⟨fun z => bad (badk (by omega)), fun z => ⟨fun z2 => bad (badk (by omega)), fun z2 => ⟨fun z3 => ?_, fun z3 => bad (by rw [if_neg (by omega)])⟩⟩⟩⟩
  have hlt : l.length < 12 := by omega
  have hkd : 10000 ≤ T i ∧ T i ≤ 10003 := by omega
  rw [if_pos hlt] at kB
  unfold rRule at kO kB
  rw [if_pos hkd] at kO kB
  refine c71 hG (by omega) (fun s1 f1 g1 => ⟨rfl, b72_52 ?_⟩)
  have pg := rSum_pg h1 8 (i + 1) (by omega) g1.2.2.2.2.1
  have hend : ∀ (s2 s3 : aW) (j : Int), rHd s3 (Sp j) → rFd s s3 → (∀ s', rFd s s' → rHd s' (Sp j) → Q none s') → aEv (d + 16 + 4) true 84 [vr 36] s3 (fun r σ' => r = none ∧ Yx (d + 16 + 5) cd72 0 Q 90 [vt, vt] [] σ') := fun s2 s3 j b f kk => c84b b (fun s4 f4 b4 => ⟨rfl, b72_90 (kk s4 (Fg_t f f4) b4)⟩)
  refine hS2 _ s1 (i + 1) (rTl l) g1 (fun j c v s2 e k2 => ⟨rfl, b72_57 ?_⟩) (fun j s2 e k2 => ⟨rfl, b72_57 ?_⟩)
  · rw [e] at kO kB
    simp only at kO kB
    have hq := pg.1 _ _ _ e
    have g2 := k2.2.1
    have r2 : s2 36 0 = l.length := by rw [k2.1 36 0 (by decide) (by decide), f1 36 0 (by decide) (by decide)]; exact h0
    have n2 : s2 36 2 = rTl l + c.length := g2.2.2.2.2.2.2.1
    have b12 : Fg [38] [(32, 1), (32, 7), (36, 2)] s s2 := Fg_t (Fg_m f1 (by decide) (by decide)) k2.1
    refine e83 (b83_0 ?_)
    rw [r2, n2]
    refine ⟨fun z => by omega, fun _ => ⟨by omega, by omega, rfl, b72_65 ?_⟩⟩
    have w1 : Fr [39, 40] s2 (sw (sw s2 39 (fu (s2 39) l.length (T i - 10000))) 40 (fu (s2 40) l.length (rTl l + c.length))) := Fr_w (Fr_w Fr_r (by decide)) (by decide)
    have w39 : (sw (sw s2 39 (fu (s2 39) l.length (T i - 10000))) 40 (fu (s2 40) l.length (rTl l + c.length))) 39 = fu (s2 39) l.length (T i - 10000) := by rw [sw_n (by decide), sw_s]
    have w40 : (sw (sw s2 39 (fu (s2 39) l.length (T i - 10000))) 40 (fu (s2 40) l.length (rTl l + c.length))) 40 = fu (s2 40) l.length (rTl l + c.length) := sw_s
    generalize sw (sw s2 39 (fu (s2 39) l.length (T i - 10000))) 40 (fu (s2 40) l.length (rTl l + c.length)) = s3 at w1 w39 w40
    have g3 : rG s3 T Sp M j (rTl l + c.length) := by
      obtain ⟨y1, y2, y3, y4, y5, y6, y7, y8, y9⟩ := g2
      refine ⟨y1, ?_, ?_, y4, y5, ?_, ?_, y8, y9⟩
      · rw [w1 34 (by decide), w1 35 (by decide)]; exact y2
      · rw [w1 32 (by decide)]; exact y3
      · rw [w1 32 (by decide)]; exact y6
      · rw [w1 36 (by decide)]; exact y7
    have a3 : rAr (s3 38) (s3 39) (s3 40) (s3 41) 0 0 l := by
      refine rAr_c (fun x x0 x1 => ?_) (fun x x0 x1 => ?_) hA
      · rw [w1 38 (by decide), k2.2.2.2 x (by omega), Fg_k f1 rfl rfl]
      · rw [w39, w40, fu_n (by omega), fu_n (by omega), w1 41 (by decide), Fg_k b12 (k := 39) rfl rfl, Fg_k b12 (k := 40) rfl rfl, Fg_k b12 (k := 41) rfl rfl]
        exact ⟨rfl, rfl, rfl⟩
    have cd3 : cAt (s3 38) (rTl l) c := by rw [w1 38 (by decide)]; exact k2.2.2.1
    have r3 : s3 36 0 = l.length := by rw [w1 36 (by decide)]; exact r2
    have f3 : rFd s s3 := Fg_t (Fg_m b12 (by decide) (by decide)) (Fg_F (Fr_s w1 (by decide)))
    have hx3 := g3.2.1 j g3.2.2.2.1 g3.2.2.2.2.1
    -- the rule ends
    have fin : ∀ (s4 : aW) (j4 : Int) (w : Option (List Int × rV)), rFd s s4 → rG s4 T Sp M j4 (rTl l + c.length + (rWc w).length) → s4 36 0 = l.length → rAr (s4 38) (s4 39) (s4 40) (s4 41) 0 0 l → cAt (s4 38) (rTl l) (c ++ rWc w) → s4 39 l.length = T i - 10000 → s4 40 l.length = rTl l + c.length → (∀ s', rFd s s' → rDr s' T Sp M j4 (l ++ [(T i - 10000, (c, v), w)]) → Q none s') → aEv (d + 16 + 4) true 84 [vr 36] s4 (fun r σ' => r = none ∧ Yx (d + 16 + 5) cd72 0 Q 90 [vt, vt] [] σ') := by
      intro s4 j4 w q1 q2 q3 q4 q5 q6 q7 kk
      refine e84 (b84_0 ?_)
      have n4 := q2.2.2.2.2.2.2.1
      rw [q3, n4]
      refine ⟨fun z => by omega, fun _ => ⟨by omega, by omega, rfl, b72_90 (kk _ (Fg_f (s := sw s4 41 _) (Fg_w q1 (by decide)) (by decide)) ⟨?_, ?_, ?_, ?_⟩)⟩⟩
      · obtain ⟨y1, y2, y3, y4, y5, y6, y7, y8, y9⟩ := q2
        rw [rTl_a]
        refine ⟨y1, ?_, ?_, y4, y5, ?_, ?_, ?_, ?_⟩
        · rw [sw_n (by decide), sw_n (by decide), sw_n (by decide), sw_n (by decide)]; exact y2
        · rw [sw_n (by decide), sw_n (by decide)]; exact y3
        · rw [sw_n (by decide), sw_n (by decide)]; exact y6
        · rw [sw_s, fu_n (by decide), y7]
          show _ = rTl l + (c.length + (rWc w).length + 0)
          omega
        · show 0 ≤ rTl l + (c.length + (rWc w).length + 0)
          omega
        · show rTl l + (c.length + (rWc w).length + 0) ≤ j4
          omega
      · rw [sw_s, fu_s, List.length_append]
        show (l.length : Int) + 1 = ((l.length + 1 : Nat) : Int)
        omega
      · rw [List.length_append]
        show l.length + 1 ≤ 12
        omega
      · rw [rAr_a, show (0 : Int) + (l.length : Int) = l.length by omega, show (0 : Int) + rTl l = rTl l by omega]
        simp only [sw_n (show (38 : Nat) ≠ 36 by decide), sw_n (show (38 : Nat) ≠ 41 by decide), sw_n (show (39 : Nat) ≠ 36 by decide), sw_n (show (39 : Nat) ≠ 41 by decide), sw_n (show (40 : Nat) ≠ 36 by decide), sw_n (show (40 : Nat) ≠ 41 by decide), sw_n (show (41 : Nat) ≠ 36 by decide), sw_s]
        refine ⟨rAr_c (fun _ _ _ => rfl) (fun x x0 x1 => ⟨rfl, rfl, by rw [fu_n (by omega)]⟩) q4, q6, q7, by rw [fu_s], q5, trivial⟩
    rw [g3.2.2.1, hx3.1, g3.2.2.2.2.2.1]
    refine ⟨by have := g3.2.2.2.2.1; have := g3.2.2.2.1; omega, fun y => ?_, fun y => ?_⟩
    · have ne : ¬ T j = 10004 := fun w => y ⟨rfl, w⟩
      rw [if_neg ne] at kO
      refine fin s3 j none f3 (by show rG s3 T Sp M j (rTl l + c.length + ((0 : Nat) : Int)); rw [show rTl l + c.length + ((0 : Nat) : Int) = rTl l + c.length by omega]; exact g3) r3 a3 (by show cAt (s3 38) (rTl l) (c ++ []); rw [List.append_nil]; exact cd3) (by rw [w39, fu_s]) (by rw [w40, fu_s]) (fun s' q1 q2 => kO _ _ s' hlt rfl q1 q2 (by omega))
    · have ey := y.2
      rw [if_pos ey] at kO kB
      refine c71 g3 (by omega) (fun s4 f4 g4 => ⟨rfl, b72_79 ?_⟩)
      have pg4 := rWhen_pg h1 (j + 1) (by omega) g4.2.2.2.2.1
      refine hW _ s4 (j + 1) (rTl l + c.length) g4 (fun j5 c5 v5 s5 e5 k5 => ⟨rfl, b72_83 ?_⟩) (fun j5 s5 e5 k5 => ⟨rfl, b72_83 ?_⟩)
      · rw [e5] at kO
        have hq5 := pg4.1 _ _ _ e5
        refine fin s5 j5 (some (c5, v5)) (Fg_t f3 (Fg_t (Fg_m f4 (by decide) (by decide)) (Fg_m k5.1 (by decide) (by decide)))) k5.2.1 (by rw [k5.1 36 0 (by decide) (by decide), f4 36 0 (by decide) (by decide)]; exact r3) ?_ ?_ ?_ ?_ (fun s' q1 q2 => kO _ _ s' hlt rfl q1 q2 (by omega))
        · refine rAr_c (fun x x0 x1 => ?_) (fun x x0 x1 => ?_) a3
          · rw [k5.2.2.2 x (by omega), Fg_k f4 rfl rfl]
          · rw [Fg_k k5.1 (k := 39) rfl rfl, Fg_k k5.1 (k := 40) rfl rfl, Fg_k k5.1 (k := 41) rfl rfl, Fg_k f4 (k := 39) rfl rfl, Fg_k f4 (k := 40) rfl rfl, Fg_k f4 (k := 41) rfl rfl]
            exact ⟨rfl, rfl, rfl⟩
        · show cAt (s5 38) (rTl l) (c ++ c5)
          rw [cAt_a]
          exact ⟨cAt_c (fun x x0 x1 => by rw [k5.2.2.2 x (by omega), Fg_k f4 rfl rfl]) cd3, k5.2.2.1⟩
        · rw [Fg_k k5.1 (k := 39) rfl rfl, Fg_k f4 (k := 39) rfl rfl, w39, fu_s]
        · rw [Fg_k k5.1 (k := 40) rfl rfl, Fg_k f4 (k := 40) rfl rfl, w40, fu_s]
      · rw [e5] at kB
        have r5 : s5 36 0 = l.length := by rw [k5.1 36 0 (by decide) (by decide), f4 36 0 (by decide) (by decide)]; exact r3
        exact hend s5 s5 j5 ⟨k5.2, by omega, by omega⟩ (Fg_t f3 (Fg_t (Fg_m f4 (by decide) (by decide)) (Fg_m k5.1 (by decide) (by decide)))) (fun s' q1 q2 => kB _ s' rfl q1 q2)
  · rw [e] at kB
    have b12 : Fg [38] [(32, 1), (32, 7), (36, 2)] s s2 := Fg_t (Fg_m f1 (by decide) (by decide)) k2.1
    have r2 : s2 36 0 = l.length := by rw [b12 36 0 (by decide) (by decide)]; exact h0
    have b2 : rHd s2 (Sp j) := ⟨k2.2, by omega, by omega⟩
    refine c83b b2 (fun s3 f3 b3 => ⟨rfl, b72_65 ?_⟩)
    have ng : ∀ x : Int, ¬ (s3 32 1 = -1 ∧ s3 34 (s3 32 7) = x) := fun x y => b3.1.2.1 (b3.1.1.symm.trans y.1)
    exact ⟨⟨b3.1.2.2.1, b3.1.2.2.2.1⟩, fun _ => hend s2 s3 j b3 (Fg_t (Fg_m b12 (by decide) (by decide)) f3) (fun s' q1 q2 => kB j s' rfl q1 q2), fun y => absurd y (ng _)⟩
end
