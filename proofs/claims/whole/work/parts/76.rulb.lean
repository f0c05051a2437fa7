section
/-! rules: the component reads sums -/
def cAt (f : Int → Int) : Int → List Int → Prop
  | _, [] => True
  | n, x :: l => f n = x ∧ cAt f (n + 1) l
theorem cAt_a {f : Int → Int} : ∀ {c c' : List Int} {n : Int}, cAt f n (c ++ c') ↔ (cAt f n c ∧ cAt f (n + c.length) c')
  | [], c', n => by
    show cAt f n c' ↔ (True ∧ cAt f (n + ((0 : Nat) : Int)) c')
    rw [show n + ((0 : Nat) : Int) = n by omega]
    simp
  | x :: l, c', n => by
    have ih := cAt_a (f := f) (c := l) (c' := c') (n := n + 1)
    show (f n = x ∧ cAt f (n + 1) (l ++ c')) ↔ ((f n = x ∧ cAt f (n + 1) l) ∧ cAt f (n + ((l.length + 1 : Nat) : Int)) c')
    rw [ih, show n + ((l.length + 1 : Nat) : Int) = n + 1 + (l.length : Int) by omega]
    exact ⟨fun z => ⟨⟨z.1, z.2.1⟩, z.2.2⟩, fun z => ⟨z.1.1, z.1.2, z.2⟩⟩
theorem cAt_c {f g : Int → Int} : ∀ {c : List Int} {n : Int}, (∀ x, n ≤ x → x < n + c.length → g x = f x) → cAt f n c → cAt g n c
  | [], _, _, _ => trivial
  | x :: l, n, h, z => ⟨(h n (Int.le_refl _) (by simp only [List.length_cons]; omega)).trans z.1, cAt_c (c := l) (fun y y0 y1 => h y (by omega) (by simp only [List.length_cons]; omega)) z.2⟩
def rG (s : aW) (T Sp : Int → Int) (M i n : Int) : Prop := rT T M ∧ (∀ x, 0 ≤ x → x ≤ M → s 34 x = T x ∧ s 35 x = Sp x ∧ 0 ≤ Sp x) ∧ s 32 7 = i ∧ 0 ≤ i ∧ i ≤ M ∧ s 32 1 = -1 ∧ s 36 2 = n ∧ 0 ≤ n ∧ n ≤ i
def rH (s : aW) (p : Int) : Prop := s 32 1 = p ∧ ¬ p = -1 ∧ 0 ≤ s 32 7 ∧ s 32 7 < 301 ∧ 0 ≤ s 36 2 ∧ s 36 2 ≤ 300
def rFr (s s' : aW) : Prop := Fg [38] [(32, 1), (32, 7), (36, 2)] s s'
def rKo (T Sp : Int → Int) (M : Int) (s s' : aW) (n j : Int) (c : List Int) : Prop := rFr s s' ∧ rG s' T Sp M j (n + c.length) ∧ cAt (s' 38) n c ∧ ∀ x, x < n → s' 38 x = s 38 x
def rKb (Sp : Int → Int) (s s' : aW) (j : Int) : Prop := rFr s s' ∧ rH s' (Sp j)
theorem c68 {d : Nat} {Q : aQ} {s : aW} {T Sp : Int → Int} {M i n : Int} (h : rG s T Sp M i n) (k : ∀ s', rKb Sp s s' i → Q none s') : aEv (d + 0) true 68 [vr 32] s Q := by
  obtain ⟨h1, h2, h3, h4, h5, h6, h7, h8, h9⟩ := h
  have hM := h1.2.1
  have hx := h2 i h4 h5
  refine e68 (b68_0 ⟨fun z => absurd h6 z, fun _ => ⟨by omega, k _ ⟨Fg_f Fg_r (by decide), ?_, by omega, ?_, ?_, ?_, ?_⟩⟩⟩)
  · rw [sw_s, fu_s, h3]
    exact hx.2.1
  · rw [sw_s, fu_n (by decide)]; omega
  · rw [sw_s, fu_n (by decide)]; omega
  · rw [sw_n (by decide)]; omega
  · rw [sw_n (by decide)]; omega
theorem c68b {d : Nat} {Q : aQ} {s : aW} {p : Int} (h : rH s p) (k : Q none s) : aEv (d + 0) true 68 [vr 32] s Q := e68 (b68_0 ⟨fun _ => k, fun z => absurd (h.1.symm.trans z) h.2.1⟩)
theorem c71 {d : Nat} {Q : aQ} {s : aW} {T Sp : Int → Int} {M i n : Int} (h : rG s T Sp M i n) (hT : ¬ T i = 30000) (k : ∀ s', Fg [] [(32, 7)] s s' → rG s' T Sp M (i + 1) n → Q none s') : aEv (d + 0) true 71 [vr 32] s Q := by
  obtain ⟨h1, h2, h3, h4, h5, h6, h7, h8, h9⟩ := h
  have hM := h1.2.1
  have hx := h2 i h4 h5
  have hi : i < M := by
    by_cases e : i = M
    · rw [e] at hT
      exact absurd h1.2.2.1 hT
    · omega
  refine e71 (b71_0 ?_)
  rw [h3, hx.1]
  refine ⟨by omega, fun z => absurd z hT, fun _ => ⟨fun z => by omega, fun _ => ⟨by omega, k _ (Fg_f Fg_r (by decide)) ⟨h1, ?_, ?_, by omega, by omega, ?_, ?_, h8, by omega⟩⟩⟩⟩
  · rw [sw_n (by decide), sw_n (by decide)]; exact h2
  · rw [sw_s, fu_s]
  · rw [sw_s, fu_n (by decide)]; exact h6
  · rw [sw_n (by decide)]; exact h7
theorem c82 {d : Nat} {Q : aQ} {s : aW} {n o : Int} (hn : s 36 2 = n) (n0 : 0 ≤ n) (n1 : n < 300) (k : ∀ s', Fg [38] [(36, 2)] s s' → s' 38 = fu (s 38) n o → s' 36 2 = n + 1 → Q none s') : aEv (d + 0) true 82 [vr 36, vi o] s Q := by
  refine e82 (b82_0 ?_)
  rw [hn]
  refine ⟨fun z => by omega, fun _ => ⟨by omega, by omega, k _ ?_ ?_ ?_⟩⟩
  · exact Fg_f (s := sw s 38 (fu (s 38) n o)) (Fg_w Fg_r (by decide)) (by decide)
  · rw [sw_n (by decide), sw_s]
  · rw [sw_s, fu_s]
theorem c82b {d : Nat} {Q : aQ} {s : aW} {p o : Int} (h : rH s p) (k : ∀ s', rFr s s' → rH s' p → Q none s') : aEv (d + 0) true 82 [vr 36, vi o] s Q := by
  obtain ⟨h1, h2, h3, h4, h5, h6⟩ := h
  by_cases e : 300 ≤ s 36 2
  · exact e82 (b82_0 ⟨fun _ => k s Fg_r ⟨h1, h2, h3, h4, h5, h6⟩, fun z => absurd e z⟩)
  · refine c82 rfl h5 (by omega) (fun s' f1 f2 f3 => k s' (Fg_m f1 (by decide) (by decide)) ⟨?_, h2, ?_, ?_, by omega, by omega⟩)
    · rw [f1 32 1 (by decide) (by decide)]; exact h1
    · rw [f1 32 7 (by decide) (by decide)]; exact h3
    · rw [f1 32 7 (by decide) (by decide)]; exact h4
theorem rG_put {s s' : aW} {T Sp : Int → Int} {M i n : Int} (h : rG s T Sp M i n) (hi : n + 1 ≤ i) (f1 : Fg [38] [(36, 2)] s s') (f3 : s' 36 2 = n + 1) : rG s' T Sp M i (n + 1) := by
  obtain ⟨h1, h2, h3, h4, h5, h6, h7, h8, h9⟩ := h
  refine ⟨h1, ?_, ?_, h4, h5, ?_, f3, by omega, hi⟩
  · rw [Fg_k f1 (k := 34) rfl rfl, Fg_k f1 (k := 35) rfl rfl]; exact h2
  · rw [f1 32 7 (by decide) (by decide)]; exact h3
  · rw [f1 32 1 (by decide) (by decide)]; exact h6
/-- put an operator behind what stands there -/
theorem c82o {d : Nat} {Q : aQ} {s s0 : aW} {T Sp : Int → Int} {M i n o : Int} {c : List Int} (hk : rKo T Sp M s0 s n i c) (hi : n + c.length + 1 ≤ i) (k : ∀ s', rKo T Sp M s0 s' n i (c ++ [o]) → Q none s') : aEv (d + 0) true 82 [vr 36, vi o] s Q := by
  obtain ⟨k1, k2, k3, k4⟩ := hk
  have hM := k2.1.2.1
  have h7 := k2.2.2.2.2.2.2.1
  have h8 := k2.2.2.2.2.2.2.2.1
  have h5 := k2.2.2.2.2.1
  refine c82 h7 h8 (by omega) (fun s' f1 f2 f3 => k s' ⟨Fg_t k1 (Fg_m f1 (by decide) (by decide)), ?_, ?_, fun x hx => ?_⟩)
  · have := rG_put k2 hi f1 f3
    simp only [List.length_append, List.length_cons, List.length_nil]
    rw [show n + ((c.length + (0 + 1) : Nat) : Int) = n + c.length + 1 by omega]
    exact this
  · rw [cAt_a, f2]
    refine ⟨cAt_c (fun x x0 x1 => fu_n (by omega)) k3, fu_s, trivial⟩
  · rw [f2, fu_n (by omega)]
    exact k4 x hx
def rSpS (D : Nat) (J : Nat) (T Sp : Int → Int) (M : Int) (S : Int → rO) (as : List aV) : Prop := ∀ (Q : aQ) (s : aW) (i n : Int), rG s T Sp M i n → (∀ j c v s', S i = .inr (j, c, v) → rKo T Sp M s s' n j c → Q none s') → (∀ j s', S i = .inl j → rKb Sp s s' j → Q none s') → aEv D true J as s Q
theorem rKo_0 {T Sp : Int → Int} {M : Int} {s : aW} {n i : Int} (h : rG s T Sp M i n) : rKo T Sp M s s n i [] := ⟨Fg_r, by show rG s T Sp M i (n + ((0 : Nat) : Int)); rw [show n + ((0 : Nat) : Int) = n by omega]; exact h, trivial, fun _ _ => rfl⟩
theorem rKo_t {T Sp : Int → Int} {M : Int} {s s1 s2 : aW} {n i j : Int} {c c' : List Int} (a : rKo T Sp M s s1 n i c) (b : rKo T Sp M s1 s2 (n + c.length) j c') : rKo T Sp M s s2 n j (c ++ c') := by
  refine ⟨Fg_t a.1 b.1, ?_, ?_, fun x hx => ?_⟩
  · rw [List.length_append, show n + ((c.length + c'.length : Nat) : Int) = n + c.length + c'.length by omega]
    exact b.2.1
  · rw [cAt_a]
    exact ⟨cAt_c (fun x x0 x1 => b.2.2.2 x (by omega)) a.2.2.1, b.2.2.1⟩
  · rw [b.2.2.2 x (by omega)]
    exact a.2.2.2 x hx
theorem rKo_m {T Sp : Int → Int} {M : Int} {s s1 s2 : aW} {n i j : Int} {c : List Int} (a : rKo T Sp M s s1 n i c) (f : Fg [] [(32, 7)] s1 s2) (g : rG s2 T Sp M j (n + c.length)) : rKo T Sp M s s2 n j c := by
  have e : s2 38 = s1 38 := Fg_k f rfl rfl
  exact ⟨Fg_t a.1 (Fg_m f (by decide) (by decide)), g, by rw [e]; exact a.2.2.1, fun x hx => by rw [e]; exact a.2.2.2 x hx⟩
theorem c76 {d : Nat} {T Sp : Int → Int} {M : Int} {S : Int → rO} {al : Bool} {a : Int} (hS : al = true → rSpS d 75 T Sp M S [vr 32, vi (a + 1)]) (hal : al = true ↔ a < 8) (ha : 0 ≤ a ∧ a ≤ 8) (hPg : al = true → rPg M S) : rSpS (d + 1) 76 T Sp M (rFac T S al) [vr 32, vi a] := by
  intro Q s i n hG kO kB
  have hG' := hG
  obtain ⟨h1, h2, h3, h4, h5, h6, h7, h8, h9⟩ := hG'
  have hM := h1.2.1
  have hx := h2 i h4 h5
  unfold rFac at kO kB
  have put : ¬ T i = 30000 → (∀ j c v s', (Sum.inr (i + 1, [T i], v) : rO) = .inr (j, c, v) → rKo T Sp M s s' n j c → Q none s') → aEv (d + 0) true 82 [vr 36, vi (T i)] s (fun r σ' => r = none ∧ Yx (d + 1) cd76 0 Q 40 [vr 32, vt, vt] [] σ') := by
    intro hT kk
    have hi : i < M := by
      by_cases e : i = M
      · rw [e] at hT
        exact absurd h1.2.2.1 hT
      · omega
    refine c82 h7 h8 (by omega) (fun s' f1 f2 f3 => ⟨rfl, b76_40 ?_⟩)
    have e7 : s' 32 7 = i := by rw [f1 32 7 (by decide) (by decide)]; exact h3
    have e34 : s' 34 i = T i := by rw [Fg_k f1 rfl rfl]; exact hx.1
    refine e71 (b71_0 ?_)
    rw [e7, e34]
    refine ⟨by omega, fun z => absurd z hT, fun _ => ⟨fun z => by omega, fun _ => ⟨by omega, rfl, b76_44 (kk (i + 1) [T i] (fun _ => 0) _ ?_ ⟨Fg_f (Fg_m f1 (by decide) (by decide)) (by decide), ⟨h1, ?_, ?_, by omega, by omega, ?_, ?_, ?_, ?_⟩, ⟨?_, trivial⟩, fun x hx => ?_⟩)⟩⟩⟩
    · rfl
    · rw [sw_n (by decide), sw_n (by decide), Fg_k f1 (k := 34) rfl rfl, Fg_k f1 (k := 35) rfl rfl]; exact h2
    · rw [sw_s, fu_s]
    · rw [sw_s, fu_n (by decide), f1 32 1 (by decide) (by decide)]; exact h6
    · rw [sw_n (by decide), f3]; simp
    · simp; omega
    · simp; omega
    · rw [sw_n (by decide), f2, fu_s]
    · rw [sw_n (by decide), f2, fu_n (by omega)]
  refine e76 (b76_0 ?_)
  rw [h3, hx.1, h6]
  refine ⟨by omega, fun z => absurd rfl z, fun _ => ⟨fun z => ?_, fun z => ⟨fun z2 => ?_, fun z2 => ?_⟩⟩⟩
  · rw [if_pos z] at kO
    exact put (by omega) (fun j c v s' e hk => by cases e; exact kO _ _ _ s' rfl hk)
  · rw [if_neg z, if_neg z2] at kO kB
    refine ⟨by omega, by omega, fun z3 => ?_, fun z3 => ⟨fun z4 => ?_, fun z4 => ?_⟩⟩
    · have ne : ¬ T i = 20040 := fun e => z3 ⟨rfl, e⟩
      rw [if_neg (fun w => ne w.1)] at kO kB
      exact c68 hG (fun s' hk => ⟨rfl, b76_100 (kB i s' rfl hk)⟩)
    · have nal : ¬ al = true := fun w => by have := hal.mp w; omega
      rw [if_neg (fun w => nal w.2)] at kO kB
      exact c68 hG (fun s' hk => ⟨rfl, b76_100 (kB i s' rfl hk)⟩)
    · have yal : al = true := hal.mpr (by omega)
      rw [if_pos ⟨z3.2, yal⟩] at kO kB
      have hT3 := z3.2
      refine c71 hG (by omega) (fun s1 f1 g1 => ⟨rfl, b76_66 ⟨by omega, ?_⟩⟩)
      have pg := hPg yal (i + 1) (by omega) g1.2.2.2.2.1
      refine hS yal _ s1 (i + 1) n g1 (fun j c v s2 e hk => ⟨rfl, b76_73 ?_⟩) (fun j s2 e hk => ⟨rfl, b76_73 ?_⟩)
      · rw [e] at kO kB
        have hq := pg.1 _ _ _ e
        have g2 := hk.2.1
        have hx2 := g2.2.1 j g2.2.2.2.1 g2.2.2.2.2.1
        have base : rKo T Sp M s s1 n (i + 1) [] := rKo_m (rKo_0 hG) f1 (by show rG s1 T Sp M (i + 1) (n + ((0 : Nat) : Int)); rw [show n + ((0 : Nat) : Int) = n by omega]; exact g1)
        have hk2 : rKo T Sp M s s2 n j c := by
          have := rKo_t base (c' := c) (by show rKo T Sp M s1 s2 (n + ((0 : Nat) : Int)) j c; rw [show n + ((0 : Nat) : Int) = n by omega]; exact hk)
          exact this
        rw [g2.2.2.1, hx2.1, g2.2.2.2.2.2.1]
        refine ⟨by omega, by omega, fun y => ?_, fun y => ?_⟩
        · have ne : ¬ T j = 20041 := fun w => y ⟨rfl, w⟩
          simp only [if_neg ne] at kB
          exact c68 g2 (fun s3 hk3 => ⟨rfl, b76_93 (kB j s3 rfl ⟨Fg_t hk2.1 hk3.1, hk3.2⟩)⟩)
        · have ey := y.2
          simp only [if_pos ey] at kO
          refine c71 g2 (by omega) (fun s3 f3 g3 => ⟨rfl, b76_86 (kO _ _ _ s3 rfl (rKo_m hk2 f3 g3))⟩)
      · rw [e] at kB
        have b := hk.2
        refine ⟨⟨b.2.2.1, b.2.2.2.1⟩, by omega, fun y => c68b b ⟨rfl, b76_93 (kB j s2 rfl ⟨Fg_t (Fg_m f1 (by decide) (by decide)) hk.1, b⟩)⟩, fun y => absurd (b.1.symm.trans y.1) b.2.1⟩
  · rw [if_neg z, if_pos z2] at kO
    exact put (by omega) (fun j c v s' e hk => by cases e; exact kO _ _ _ s' rfl hk)
end
