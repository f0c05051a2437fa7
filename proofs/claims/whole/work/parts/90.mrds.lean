section
/-! rules: the reference reads, tells -/
abbrev mPX : List (Nat × Int) := [(96, 38), (96, 46), (96, 47), (96, 48), (96, 49), (96, 50), (96, 51), (96, 52), (96, 53), (96, 54), (96, 55), (96, 56), (96, 57), (96, 58)]
abbrev mPY : List (Nat × Int) := [(96, 46), (96, 47), (96, 48), (96, 49), (96, 50), (96, 51), (96, 52), (96, 53), (96, 54), (96, 55), (96, 56), (96, 57), (96, 58)]
theorem c194b {d : Nat} {Q : aQ} {B : Int → Int} {n j : Int} {s : aW} (b : mBd B n j s) (k : ∀ s', Fg [] [(96, 38), (96, 54)] s s' → mBd B n j s' → Q none s') : Yx (d + 13) cd194 0 Q 70 [vr 96, vt, vt, vt] [] s :=
  b194_70 ⟨mSb b, fun _ => ⟨fun _ => k s Fg_r b, fun _ => gBad2 b (fun s' f b' => ⟨rfl, b194_101 (k s' f b')⟩)⟩, fun z => absurd z.1 b.1⟩
theorem c194l {d : Nat} {Q : aQ} {B : Int → Int} {n : Int} {e : Int → Int} {kd : Int} {s0 : aW} {X : Int ⊕ List rRu} (hn : n ≤ 300) (n0 : 0 ≤ n) (hT : rT (kTt B n) (kMm B n)) (hE : mEn e s0) (hk : s0 96 55 = kd)
    (kO : ∀ l s', X = .inr l → Fg [] mPR s0 s' → s' 96 54 = 0 → s' 96 53 = l.length → mTo e kd l s' → Q none s')
    (kB : ∀ j s', X = .inl j → Fg [] mPB s0 s' → ¬ s' 96 54 = 0 → s' 96 38 = kSp B n j.toNat → Q none s') :
    ∀ (m : Nat) (acc : List rRu) (i : Int) (s : aW), acc.length + m = 12 → Fg [] mPR s0 s → mAt B n i s → s 96 52 = 0 → s 96 53 = acc.length → mTo e kd acc s → X = rLst (kTt B n) m acc i → Yx (d + 24 + 13) cd194 0 Q 70 [vr 96, vt, vt, vt] [] s := by
  intro m
  induction m with
  | zero =>
    intro acc i s hm f0 hA ho h3 hto hX
    have hc := mTd hA
    have s59 := mSg hA 59 (by decide)
    unfold rLst at hX
    refine b194_70 ⟨mSi hA, fun ns => ⟨fun z => ?_, fun z => ?_⟩, fun sg => ?_⟩
    · have e1 : kTt B n i = 30000 := by omega
      rw [if_neg (by omega), if_pos e1] at hX
      exact kO acc s hX f0 hA.2.2.1 h3 hto
    · have e1 : ¬ kTt B n i = 30000 := by
        rcases hc with c | c
        · exact absurd c.1 z
        · clear s59; omega
      have e2 : ¬ kTt B n i = 20059 := fun w => ns (s59.2 ⟨w, by rcases hc with c | c; exact absurd c.2.1 e1; exact c.1⟩)
      rw [if_neg e2, if_neg e1] at hX
      exact gBad hA (fun s' f b => ⟨rfl, b194_101 (kB i s' hX (Fg_t (Fg_m f0 (by decide) (by decide)) (Fg_m f (by decide) (by decide))) b.1 b.2.1)⟩)
    · have e1 : kTt B n i = 20059 ∧ i < kMm B n := s59.1 sg
      rw [if_pos e1.1] at hX
      refine gOn hA e1.2 (fun s1 f1 A1 => ⟨rfl, b194_83 ?_⟩)
      have fg1 : Fg [] mPR s0 s1 := Fg_t f0 (Fg_m f1 (by decide) (by decide))
      refine c193 hn n0 hT A1 (mEn_g hE fg1 (by decide) rfl) ((f1 96 52 (by simp) (by decide)).trans ho) ((f1 96 53 (by simp) (by decide)).trans h3) (by omega) ((fg1 96 55 (by simp) (by decide)).trans hk) (mTo_g hto (f1 96 57 (by simp) (by decide)) (f1 96 58 (by simp) (by decide))) (fun j r s' z => absurd (by omega) z) (fun j s' z f2 b2 => ⟨rfl, b194_87 ?_⟩)
      refine c194b b2 (fun s'' f3 b3 => kB (i + 1) s'' hX (Fg_t (Fg_m fg1 (by decide) (by decide)) (Fg_t f2 (Fg_m f3 (by decide) (by decide)))) b3.1 ?_)
      rcases z with z | z
      · rw [← z.2]; exact b3.2.1
      · exact absurd (by omega) z.1
  | succ m ih =>
    intro acc i s hm f0 hA ho h3 hto hX
    have hc := mTd hA
    have s59 := mSg hA 59 (by decide)
    unfold rLst at hX
    refine b194_70 ⟨mSi hA, fun ns => ⟨fun z => ?_, fun z => ?_⟩, fun sg => ?_⟩
    · have e1 : kTt B n i = 30000 := by omega
      rw [if_neg (by omega), if_pos e1] at hX
      exact kO acc s hX f0 hA.2.2.1 h3 hto
    · have e1 : ¬ kTt B n i = 30000 := by
        rcases hc with c | c
        · exact absurd c.1 z
        · clear s59; omega
      have e2 : ¬ kTt B n i = 20059 := fun w => ns (s59.2 ⟨w, by rcases hc with c | c; exact absurd c.2.1 e1; exact c.1⟩)
      rw [if_neg e2, if_neg e1] at hX
      exact gBad hA (fun s' f b => ⟨rfl, b194_101 (kB i s' hX (Fg_t (Fg_m f0 (by decide) (by decide)) (Fg_m f (by decide) (by decide))) b.1 b.2.1)⟩)
    · have e1 : kTt B n i = 20059 ∧ i < kMm B n := s59.1 sg
      rw [if_pos e1.1] at hX
      refine gOn hA e1.2 (fun s1 f1 A1 => ⟨rfl, b194_83 ?_⟩)
      have fg1 : Fg [] mPR s0 s1 := Fg_t f0 (Fg_m f1 (by decide) (by decide))
      refine c193 hn n0 hT A1 (mEn_g hE fg1 (by decide) rfl) ((f1 96 52 (by simp) (by decide)).trans ho) ((f1 96 53 (by simp) (by decide)).trans h3) (by omega) ((fg1 96 55 (by simp) (by decide)).trans hk) (mTo_g hto (f1 96 57 (by simp) (by decide)) (f1 96 58 (by simp) (by decide))) (fun j r s' z e2 f2 A2 o2 t2 to2 => ⟨rfl, b194_87 ?_⟩) (fun j s' z f2 b2 => ⟨rfl, b194_87 ?_⟩)
      · rw [e2] at hX
        exact ih (acc ++ [r]) j s' (by rw [List.length_append]; simp only [List.length_cons, List.length_nil]; omega) (Fg_t fg1 f2) A2 o2 (by rw [List.length_append]; simp only [List.length_cons, List.length_nil]; omega) to2 hX
      · rcases z with z | z
        · exact absurd z.1 (by omega)
        · rw [z.2] at hX
          exact c194b b2 (fun s'' f3 b3 => kB j s'' hX (Fg_t (Fg_m fg1 (by decide) (by decide)) (Fg_t f2 (Fg_m f3 (by decide) (by decide)))) b3.1 b3.2.1)
/-- what the names tell of house h -/
def mEh (e : Int → Int) (h : Int) (s : aW) : Prop := 0 ≤ s 120 2532 ∧ s 120 2532 < 5050 ∧ (h = -1 ∨ (0 ≤ h ∧ h < 17)) ∧ e 0 = s 114 (s 120 2532) ∧ e 1 = s 120 2532 % 24 ∧ e 2 = s 120 2533 ∧ e 3 = s 120 2534 ∧ e 4 = (if bi (¬ h = (-1)) = 0 then 0 else s 110 h) ∧ e 5 = (if bi (¬ h = (-1)) = 0 then 0 else s 111 h) ∧ e 6 = (if bi (¬ h = (-1)) = 0 then 0 else s 120 (2400 + h))
theorem c194 {d : Nat} {Q : aQ} {B : Int → Int} {n : Int} {e : Int → Int} {a kd h : Int} {σ : aW} (a0 : 0 ≤ a) (a1 : a < 2) (hn : σ 124 a = n) (n0 : 0 ≤ n) (n1 : n ≤ 300) (hB : ∀ i, 0 ≤ i → i < n → B i = σ 123 (300 * a + i) % 256 ∧ -128 ≤ σ 123 (300 * a + i) ∧ σ 123 (300 * a + i) < 128) (hE : mEh e h σ)
    (kO : ∀ l s', rAll (kTt B n) = .inr l → Fg [] mPY σ s' → s' 96 54 = 0 → s' 96 53 = l.length → mTo e kd l s' → Q none s')
    (kB : ∀ j s', rAll (kTt B n) = .inl j → Fg [] mPX σ s' → ¬ s' 96 54 = 0 → s' 96 38 = kSp B n j.toNat → Q none s') : aEv (d + 24 + 13) true 194 [vr 96, vi a, vi kd, vi h] σ Q := by
  have hT := (kTt_T (B := B) n0 n1 (fun x x0 x1 => by have := hB x x0 x1; omega)).1
  have hMm := kMm_ok (B := B) n0 n1
  have key : ∀ u : aW, Fg [] mPY σ u → u 96 46 = 300 * a → u 96 47 = σ 124 a → u 96 55 = kd → u 96 56 = h → u 96 57 = 0 → u 96 48 = 0 → u 96 52 = 0 → u 96 53 = 0 → u 96 54 = 0 → aEv (d + 24 + 12) true 183 [vr 96] u (fun r σ' => r = none ∧ Yx (d + 24 + 13) cd194 0 Q 58 [vr 96, vt, vt, vt] [] σ') := by
    intro u fu0 u46 u47 u55 u56 u57 u48 u52 u53 u54
    have u123 : u 123 = σ 123 := Fg_k fu0 rfl rfl
    have hx : mTx B n u := ⟨u47.trans hn, n0, n1, by omega, by omega, by rw [u123, u46]; exact hB⟩
    have hEu : mEn e u := by
      unfold mEn
      rw [u56, Fg_k fu0 (k := 120) rfl rfl, Fg_k fu0 (k := 114) rfl rfl, Fg_k fu0 (k := 110) rfl rfl, Fg_k fu0 (k := 111) rfl rfl]
      exact hE
    refine e183 (c183 (B := B) (n := n) (s0 := u) (by omega) (by omega) (fun s1 f1 a1 a2 a3 => ⟨rfl, ?_⟩) n.toNat u hx (Int.le_refl _) (by omega) (by omega) Fg_r (fun y y0 y1 => by omega))
    rw [u48] at a1 a2 a3
    have eK : kNx B n 0 = kSp B n (0 : Int).toNat := rfl
    rw [eK] at a1 a2 a3
    have fs : Fg [] mPR u s1 := Fg_m f1 (by decide) (by decide)
    have ks := mKs (B := B) n0 n1 (Int.le_refl 0) (by omega)
    have A1 : mAt B n 0 s1 := ⟨Int.le_refl _, by omega, (f1 96 54 (by simp) (by decide)).trans u54, a1, fun z => (a2 (by
      have := hMm.1.1
      rw [z, Int.toNat_natCast]
      exact this)).1, fun z => a3 (ks.2.2.1 z), mTx_g hx f1 (by decide) (by decide) rfl⟩
    have hc := mTd A1
    have kO' : ∀ l s', rAll (kTt B n) = .inr l → Fg [] mPR s1 s' → s' 96 54 = 0 → s' 96 53 = l.length → mTo e kd l s' → Q none s' := fun l s' z f g1 g2 g3 => kO l s' z (Fg_t fu0 (Fg_t (Fg_m f1 (by decide) (by decide)) (Fg_m f (by decide) (by decide)))) g1 g2 g3
    have kB' : ∀ j s', rAll (kTt B n) = .inl j → Fg [] mPB s1 s' → ¬ s' 96 54 = 0 → s' 96 38 = kSp B n j.toNat → Q none s' := fun j s' z f g1 g2 => kB j s' z (Fg_t (Fg_m fu0 (by decide) (by decide)) (Fg_t (Fg_m f1 (by decide) (by decide)) (Fg_m f (by decide) (by decide)))) g1 g2
    have g53 : s1 96 53 = 0 := (f1 96 53 (by simp) (by decide)).trans u53
    have gto : mTo e kd [] s1 := (f1 96 57 (by simp) (by decide)).trans u57
    have g55 : s1 96 55 = kd := (f1 96 55 (by simp) (by decide)).trans u55
    have hE1 : mEn e s1 := mEn_g hEu f1 (by decide) rfl
    refine b194_58 ⟨fun z => ?_, fun z => ?_⟩
    · have h30 : ¬ kTt B n 0 = 30000 := by
        rcases hc with c | c
        · exact absurd c.1 z
        · omega
      have hr : rAll (kTt B n) = (match rRule (kTt B n) 0 with
        | .inl j => .inl j
        | .inr (j, r) => rLst (kTt B n) 11 [r] j) := by
        unfold rAll
        rw [if_neg h30]
        cases rRule (kTt B n) 0 <;> rfl
      refine c193 (acc := []) n1 n0 hT A1 hE1 ((f1 96 52 (by simp) (by decide)).trans u52) g53 (by decide) g55 gto (fun j r s' _ e2 f2 A2 o2 t2 to2 => ⟨rfl, ?_⟩) (fun j s' z f2 b2 => ⟨rfl, ?_⟩)
      · rw [e2] at hr
        refine c194l n1 n0 hT (mEn_g hE1 f2 (by decide) rfl) ((f2 96 55 (by simp) (by decide)).trans g55) (fun l s'' z f g1 g2 g3 => kO' l s'' z (Fg_t f2 f) g1 g2 g3) (fun j s'' z f g1 g2 => kB' j s'' z (Fg_t (Fg_m f2 (by decide) (by decide)) f) g1 g2) 11 [r] j s' rfl Fg_r A2 o2 t2 to2 hr
      · rcases z with z | z
        · exact absurd z.1 (by decide)
        · rw [z.2] at hr
          exact c194b b2 (fun s'' f3 b3 => kB' j s'' hr (Fg_t f2 (Fg_m f3 (by decide) (by decide))) b3.1 b3.2.1)
    · have h30 : kTt B n 0 = 30000 := by
        rcases hc with c | c
        · exact c.2.1
        · omega
      refine kO' [] s1 ?_ Fg_r A1.2.2.1 g53 gto
      unfold rAll
      rw [if_pos h30]
  refine e194 (b194_0 ⟨by omega, by omega, key _ ?_ rfl rfl rfl rfl rfl rfl rfl rfl rfl⟩)
  have w := Fg_f (L := []) (P := mPY) (k := 96) (i := 54) (v := 0) (Fg_f (k := 96) (i := 53) (v := 0) (Fg_f (k := 96) (i := 52) (v := 0) (Fg_f (k := 96) (i := 48) (v := 0) (Fg_f (k := 96) (i := 57) (v := 0) (Fg_f (k := 96) (i := 56) (v := h) (Fg_f (k := 96) (i := 55) (v := kd) (Fg_f (k := 96) (i := 47) (v := σ 124 a) (Fg_f (k := 96) (i := 46) (v := 300 * a) (Fg_r (σ := σ)) (by decide)) (by decide)) (by decide)) (by decide)) (by decide)) (by decide)) (by decide)) (by decide)) (by decide)
  simp only [sw_s] at w
  exact w
theorem c195 {d : Nat} {Q : aQ} {B : Int → Int} {e : Int → Int} {kd h lo hi wo : Int} {l : List rRu} {σ : aW} (n0 : 0 ≤ σ 124 0) (n1 : σ 124 0 ≤ 300) (hB : ∀ i, 0 ≤ i → i < σ 124 0 → B i = σ 123 i % 256 ∧ -128 ≤ σ 123 i ∧ σ 123 i < 128) (hE : mEh e h σ) (hl : rAll (kTt B (σ 124 0)) = .inr l)
    (k : ∀ s', Fg [] mPY σ s' → Q (some (vl (match rTell e kd l with
      | none => wo
      | some x => max lo (min hi x)))) s') : aEv (d + 24 + 14) true 195 [vr 96, vi kd, vi h, vl lo, vl hi, vl wo] σ Q := by
  refine e195 (b195_0 (c194 (a := 0) (Int.le_refl _) (by decide) rfl n0 n1 (by rw [Int.mul_zero]; simpa only [Int.zero_add] using hB) hE (fun l' s' z f g1 g2 g3 => ⟨rfl, b195_7 ?_⟩) (fun j s' z => by rw [hl] at z; cases z)))
  rw [hl] at z
  cases z
  have := k s' f
  unfold mTo at g3
  cases ht : rTell e kd l with
  | none =>
    rw [ht] at this g3
    rw [if_pos g3]
    exact this
  | some x =>
    rw [ht] at this g3
    rw [if_neg (by have := g3.1; omega), g3.2]
    exact this
end
