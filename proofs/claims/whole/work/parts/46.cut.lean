section
/-! where a burst runs to: least closed sets -/
theorem Fg_k {L : List Nat} {P : List (Nat × Int)} {σ s : aW} (h : Fg L P σ s) {k : Nat} (hk : L.contains k = false) (hp : P.all (fun q => q.1 != k) = true) : s k = σ k := by
  funext j
  refine h k j (fun z => ?_) (fun z => ?_)
  · have : L.contains k = true := by simpa using z
    rw [hk] at this
    cases this
  · have := List.all_eq_true.mp hp _ z
    simp at this
theorem for_up2 {α β : Type} {X I : Int → α → β → Prop} {N : Int} (hs : ∀ i a b, i < N → I i a b → (∀ a' b', I (i + 1) a' b' → X (i + 1) a' b') → X i a b) (he : ∀ i a b, N ≤ i → I i a b → X i a b) : ∀ (i : Int) (a : α) (b : β), I i a b → X i a b := fun i a b h =>
  for_up (X := fun i (q : α × β) => X i q.1 q.2) (I := fun i q => I i q.1 q.2) (N := N) (fun i q hi hI K => hs i q.1 q.2 hi hI (fun a' b' h => K (a', b') h)) (fun i q => he i q.1 q.2) i (a, b) h
theorem for_dn2 {α β : Type} {X I : Int → α → β → Prop} {N : Int} (hs : ∀ i a b, N ≤ i → I i a b → (∀ a' b', I (i - 1) a' b' → X (i - 1) a' b') → X i a b) (he : ∀ i a b, i < N → I i a b → X i a b) : ∀ (i : Int) (a : α) (b : β), I i a b → X i a b := fun i a b h =>
  for_dn (X := fun i (q : α × β) => X i q.1 q.2) (I := fun i q => I i q.1 q.2) (N := N) (fun i q hi hI K => hs i q.1 q.2 hi hI (fun a' b' h => K (a', b') h)) (fun i q => he i q.1 q.2) i (a, b) h
theorem lp_m2 {α β : Type} {X I : α → β → Prop} (μ : α → β → Nat) (hs : ∀ a b, I a b → (∀ a' b', I a' b' → μ a' b' < μ a b → X a' b') → X a b) : ∀ (a : α) (b : β), I a b → X a b := fun a b h =>
  lp_m (X := fun (q : α × β) => X q.1 q.2) (I := fun q => I q.1 q.2) (fun q => μ q.1 q.2) (fun q hI K => hs q.1 q.2 hI (fun a' b' h hl => K (a', b') h hl)) (a, b) h
theorem fu_id {f : Int → Int} {i v : Int} (h : f i = v) : fu f i v = f := by
  funext j
  unfold fu
  split
  · rename_i e
    rw [e, h]
  · rfl
theorem sI_fu {f : Int → Int} {i v : Int} (h0 : 0 ≤ i) : ∀ {n : Nat}, i < n → sI (fu f i v) n = sI f n + v - f i
  | 0, h => by omega
  | n + 1, h => by
    show sI (fu f i v) n + fu f i v n = sI f n + f n + v - f i
    by_cases e : i = n
    · subst e
      rw [fu_s, sI_c (g := f) (n := n) (fun j j0 j1 => fu_n (by omega))]
      omega
    · rw [fu_n (by omega), sI_fu h0 (n := n) (by omega)]
      omega
theorem or32_0 {x : Int} (h : x = 0 ∨ x = 1) : or32 x 0 = x := by
  rcases h with rfl | rfl <;> decide
theorem or32_1 {x : Int} (h : x = 0 ∨ x = 1) : or32 x 1 = 1 := by
  rcases h with rfl | rfl <;> decide
def kNd (A B : Int → Int) (i : Int) : Int := if i % 2 = 0 then A (i / 2) else B (i / 2)
def kCl (A B V : Int → Int) (m : Int) (R D : Int → Int) : Prop := ∀ i, 0 ≤ i → i < 2 * m → V i = 0 → (R (i / 2) = 0 ↔ D (kNd A B i) = 0)
def kP (A B V : Int → Int) (m f x : Int) : Prop := ∀ R D : Int → Int, kCl A B V m R D → ¬ R f = 0 → ¬ R x = 0
def kN (A B V : Int → Int) (m f x : Int) : Prop := ∀ R D : Int → Int, kCl A B V m R D → ¬ R f = 0 → ¬ D x = 0
def kC (m N : Int) (R D : Int → Int) : Int := sI R m.toNat + sI D N.toNat
def kS (A B V : Int → Int) (m N f : Int) (R D : Int → Int) : Prop := (∀ p, 0 ≤ p → p < m → (R p = 0 ∨ R p = 1) ∧ (¬ R p = 0 → kP A B V m f p)) ∧ (∀ n, 0 ≤ n → n < N → (D n = 0 ∨ D n = 1) ∧ (¬ D n = 0 → kN A B V m f n)) ∧ ¬ R f = 0
def kR (A B V : Int → Int) (m N f c i x : Int) (R D : Int → Int) : Prop := kS A B V m N f R D ∧ (x = 0 ∨ x = 1) ∧ c + x ≤ kC m N R D ∧ (x = 0 → ∀ j, 0 ≤ j → j < i → V j = 0 → (R (j / 2) = 0 ↔ D (kNd A B j) = 0))
theorem kC_b {A B V : Int → Int} {m N f : Int} {R D : Int → Int} (hm : 0 ≤ m ∧ m ≤ 20) (hN : 0 ≤ N ∧ N ≤ 12) (h : kS A B V m N f R D) : kC m N R D ≤ 32 := by
  have h1 := sI_b (f := R) (B := 1) (n := m.toNat) (fun p p0 p1 => by have := (h.1 p p0 (by omega)).1; omega)
  have h2 := sI_b (f := D) (B := 1) (n := N.toNat) (fun p p0 p1 => by have := (h.2.1 p p0 (by omega)).1; omega)
  unfold kC
  omega
theorem kR_0 {A B V : Int → Int} {m N f : Int} {R D : Int → Int} (h : kS A B V m N f R D) : kR A B V m N f (kC m N R D) 0 0 R D := ⟨h, Or.inl rfl, by omega, fun _ j j0 j1 => by omega⟩
theorem kR_skip {A B V : Int → Int} {m N f c i x : Int} {R D : Int → Int} (h : kR A B V m N f c i x R D) (hk : V i = 0 → (R (i / 2) = 0 ↔ D (kNd A B i) = 0)) : kR A B V m N f c (i + 1) x R D := by
  obtain ⟨h1, h2, h3, h4⟩ := h
  refine ⟨h1, h2, h3, fun hx j j0 j1 hv => ?_⟩
  by_cases e : j = i
  · subst e
    exact hk hv
  · exact h4 hx j j0 (by omega) hv
theorem kR_set {A B V : Int → Int} {m N f c i x : Int} {R D : Int → Int} (h : kR A B V m N f c i x R D) (hi : 0 ≤ i ∧ i < 2 * m) (hn : 0 ≤ kNd A B i ∧ kNd A B i < N) (hv : V i = 0) (hk : ¬ R (i / 2) = 0 ∨ ¬ D (kNd A B i) = 0) (hd : R (i / 2) = 0 ∨ D (kNd A B i) = 0) :
    kR A B V m N f c (i + 1) 1 (fu R (i / 2) 1) (fu D (kNd A B i) 1) := by
  obtain ⟨⟨h1, h2, h3⟩, h4, h5, h6⟩ := h
  have q1 : kP A B V m f (i / 2) := by
    rcases hk with z | z
    · exact (h1 (i / 2) (by omega) (by omega)).2 z
    · intro R' D' hc hf w
      exact (h2 _ hn.1 hn.2).2 z R' D' hc hf ((hc i hi.1 hi.2 hv).mp w)
  have q2 : kN A B V m f (kNd A B i) := by
    intro R' D' hc hf w
    exact q1 R' D' hc hf ((hc i hi.1 hi.2 hv).mpr w)
  refine ⟨⟨fun p p0 p1 => ?_, fun n n0 n1 => ?_, ?_⟩, Or.inr rfl, ?_, fun z => by omega⟩
  · by_cases e : p = i / 2
    · subst e
      rw [fu_s]
      exact ⟨Or.inr rfl, fun _ => q1⟩
    · rw [fu_n e]
      exact h1 p p0 p1
  · by_cases e : n = kNd A B i
    · subst e
      rw [fu_s]
      exact ⟨Or.inr rfl, fun _ => q2⟩
    · rw [fu_n e]
      exact h2 n n0 n1
  · by_cases e : f = i / 2
    · rw [e, fu_s]
      omega
    · rw [fu_n e]
      exact h3
  · unfold kC at *
    rw [sI_fu (by omega) (by omega), sI_fu (by omega) (by omega)]
    have z1 := (h1 (i / 2) (by omega) (by omega)).1
    have z2 := (h2 _ hn.1 hn.2).1
    omega
theorem kR_end {A B V : Int → Int} {m N f c : Int} {R D : Int → Int} (h : kR A B V m N f c (2 * m) 0 R D) : (∀ p, 0 ≤ p → p < m → (¬ R p = 0 ↔ kP A B V m f p)) ∧ (∀ n, 0 ≤ n → n < N → (¬ D n = 0 ↔ kN A B V m f n)) := by
  obtain ⟨⟨h1, h2, h3⟩, h4, h5, h6⟩ := h
  have hc : kCl A B V m R D := fun i i0 i1 hv => h6 rfl i i0 i1 hv
  exact ⟨fun p p0 p1 => ⟨(h1 p p0 p1).2, fun z => z R D hc h3⟩, fun n n0 n1 => ⟨(h2 n n0 n1).2, fun z => z R D hc h3⟩⟩
/-- the valves at which the water ends -/
def kT (A B V : Int → Int) (m f : Int) (j : Nat) : Prop := (j : Int) < 2 * m ∧ ¬ V j = 0 ∧ (kP A B V m f ((j : Int) / 2) ∨ kN A B V m f (kNd A B j))
def kV (A B V : Int → Int) (m f i x b : Int) (R D : Int → Int) : Prop := ∃ T : Nat → Prop, Bs b T ∧ (∀ j, T j → kT A B V m f j) ∧ (x = 0 → ∀ j : Int, 0 ≤ j → j < i → ¬ V j = 0 → (¬ R (j / 2) = 0 ∨ ¬ D (kNd A B j) = 0) → T j.toNat)
theorem kV_0 {A B V : Int → Int} {m f i x b : Int} {R D : Int → Int} (h : kV A B V m f i x b R D) : kV A B V m f 0 0 b R D := by
  obtain ⟨T, h1, h2, h3⟩ := h
  exact ⟨T, h1, h2, fun _ j j0 j1 => by omega⟩
theorem kV_x {A B V : Int → Int} {m f i x b i' : Int} {R D R' D' : Int → Int} (h : kV A B V m f i x b R D) : kV A B V m f i' 1 b R' D' := by
  obtain ⟨T, h1, h2, h3⟩ := h
  exact ⟨T, h1, h2, fun z => by omega⟩
theorem kV_skip {A B V : Int → Int} {m f i x b : Int} {R D : Int → Int} (h : kV A B V m f i x b R D) (hk : V i = 0 ∨ (R (i / 2) = 0 ∧ D (kNd A B i) = 0)) : kV A B V m f (i + 1) x b R D := by
  obtain ⟨T, h1, h2, h3⟩ := h
  refine ⟨T, h1, h2, fun hx j j0 j1 hv hr => ?_⟩
  by_cases e : j = i
  · subst e
    rcases hk with z | z
    · exact absurd z hv
    · rcases hr with y | y
      · exact absurd z.1 y
      · exact absurd z.2 y
  · exact h3 hx j j0 (by omega) hv hr
theorem kV_add {A B V : Int → Int} {m N f i x b c : Int} {R D : Int → Int} (h : kV A B V m f i x b R D) (hr : kR A B V m N f c i x R D) (hi : 0 ≤ i ∧ i < 2 * m) (hm : m ≤ 20) (hn : 0 ≤ kNd A B i ∧ kNd A B i < N) (hv : ¬ V i = 0) (hk : ¬ R (i / 2) = 0 ∨ ¬ D (kNd A B i) = 0) : kV A B V m f (i + 1) x (or64 b (sh64l 1 i)) R D := by
  obtain ⟨T, h1, h2, h3⟩ := h
  have ei : ((i.toNat : Nat) : Int) = i := by omega
  refine ⟨fun j => T j ∨ j = i.toNat, Bs_a h1 hi.1 (by omega) (fun j => Iff.rfl), fun j hj => ?_, fun hx j j0 j1 hv' hr' => ?_⟩
  · rcases hj with z | z
    · exact h2 j z
    · subst z
      unfold kT
      rw [ei]
      refine ⟨hi.2, hv, ?_⟩
      rcases hk with y | y
      · exact Or.inl ((hr.1.1 _ (by omega) (by omega)).2 y)
      · exact Or.inr ((hr.1.2.1 _ hn.1 hn.2).2 y)
  · by_cases e : j = i
    · exact Or.inr (by rw [e])
    · exact Or.inl (h3 hx j j0 (by omega) hv' hr')
theorem kV_end {A B V : Int → Int} {m N f b c : Int} {R D : Int → Int} (h : kV A B V m f (2 * m) 0 b R D) (hr : kR A B V m N f c (2 * m) 0 R D) (hn : ∀ i, 0 ≤ i → i < 2 * m → 0 ≤ kNd A B i ∧ kNd A B i < N) : Bs b (kT A B V m f) := by
  obtain ⟨T, h1, h2, h3⟩ := h
  obtain ⟨e1, e2⟩ := kR_end hr
  refine Bs_c h1 (fun j => ⟨h2 j, fun z => ?_⟩)
  obtain ⟨z1, z2, z3⟩ := z
  have := h3 rfl (j : Int) (by omega) z1 z2 (by
    rcases z3 with y | y
    · exact Or.inl ((e1 _ (by omega) (by omega)).mpr y)
    · exact Or.inr ((e2 _ (hn _ (by omega) z1).1 (hn _ (by omega) z1).2).mpr y))
  simpa using this
/-! what is reached from the plant -/
def kWl (A B : Int → Int) (m : Int) (L : Int → Prop) (W : Int → Int) : Prop := ∀ p, 0 ≤ p → p < m → L p → (W (A p) = 0 ↔ W (B p) = 0)
def kW (A B : Int → Int) (m : Int) (L : Int → Prop) (x : Int) : Prop := ∀ W : Int → Int, kWl A B m L W → ¬ W 0 = 0 → ¬ W x = 0
def kWr (A B : Int → Int) (m N : Int) (L : Int → Prop) (c i x : Int) (W : Int → Int) : Prop := (∀ n, 0 ≤ n → n < N → (W n = 0 ∨ W n = 1) ∧ (¬ W n = 0 → kW A B m L n)) ∧ ¬ W 0 = 0 ∧ (x = 0 ∨ x = 1) ∧ c + x ≤ sI W N.toNat ∧ (x = 0 → ∀ p, 0 ≤ p → p < i → L p → (W (A p) = 0 ↔ W (B p) = 0))
theorem kWr_b {A B : Int → Int} {m N c i x : Int} {L : Int → Prop} {W : Int → Int} (hN : 0 ≤ N ∧ N ≤ 12) (h : kWr A B m N L c i x W) : sI W N.toNat ≤ 12 := by
  have h2 := sI_b (f := W) (B := 1) (n := N.toNat) (fun p p0 p1 => by have := (h.1 p p0 (by omega)).1; omega)
  omega
theorem kWr_0 {A B : Int → Int} {m N c i x : Int} {L : Int → Prop} {W : Int → Int} (h : kWr A B m N L c i x W) : kWr A B m N L (sI W N.toNat) 0 0 W := ⟨h.1, h.2.1, Or.inl rfl, by omega, fun _ j j0 j1 => by omega⟩
theorem kWr_skip {A B : Int → Int} {m N c i x : Int} {L : Int → Prop} {W : Int → Int} (h : kWr A B m N L c i x W) (hk : L i → W (A i) = W (B i)) : kWr A B m N L c (i + 1) x W := by
  obtain ⟨h1, h2, h3, h4, h5⟩ := h
  refine ⟨h1, h2, h3, h4, fun hx j j0 j1 hl => ?_⟩
  by_cases e : j = i
  · subst e
    rw [hk hl]
  · exact h5 hx j j0 (by omega) hl
theorem kWr_set {A B : Int → Int} {m N c i x : Int} {L : Int → Prop} {W : Int → Int} (h : kWr A B m N L c i x W) (hi : 0 ≤ i ∧ i < m) (ha : 0 ≤ A i ∧ A i < N) (hb : 0 ≤ B i ∧ B i < N) (hl : L i) (hk : ¬ W (A i) = W (B i)) : kWr A B m N L c (i + 1) 1 (fu (fu W (A i) 1) (B i) 1) := by
  obtain ⟨h1, h2, h3, h4, h5⟩ := h
  have z1 := h1 _ ha.1 ha.2
  have z2 := h1 _ hb.1 hb.2
  have q : kW A B m L (A i) ∧ kW A B m L (B i) := by
    by_cases e : W (A i) = 0
    · have y := z2.2 (by omega)
      exact ⟨fun W' hw h0 w => y W' hw h0 ((hw i hi.1 hi.2 hl).mp w), y⟩
    · have y := z1.2 e
      exact ⟨y, fun W' hw h0 w => y W' hw h0 ((hw i hi.1 hi.2 hl).mpr w)⟩
  have hab : A i ≠ B i := fun e => hk (by rw [e])
  refine ⟨fun n n0 n1 => ?_, ?_, Or.inr rfl, ?_, fun z => by omega⟩
  · by_cases e : n = B i
    · subst e
      rw [fu_s]
      exact ⟨Or.inr rfl, fun _ => q.2⟩
    · rw [fu_n e]
      by_cases e : n = A i
      · subst e
        rw [fu_s]
        exact ⟨Or.inr rfl, fun _ => q.1⟩
      · rw [fu_n e]
        exact h1 n n0 n1
  · unfold fu
    split
    · omega
    · split
      · omega
      · exact h2
  · rw [sI_fu hb.1 (by omega), sI_fu ha.1 (by omega), fu_n (by omega)]
    omega
theorem kWr_end {A B : Int → Int} {m N c : Int} {L : Int → Prop} {W : Int → Int} (h : kWr A B m N L c m 0 W) (n : Int) (n0 : 0 ≤ n) (n1 : n < N) : ¬ W n = 0 ↔ kW A B m L n := ⟨(h.1 n n0 n1).2, fun z => z W (fun p p0 p1 hl => h.2.2.2.2 rfl p p0 p1 hl) h.2.1⟩
end
