section
/-! rules: the component's tokens -/
theorem c62 {d : Nat} {Q : aQ} {s : aW} {a : Int} (hn : s 32 0 ≤ 300) (a0 : 0 ≤ a) (a1 : a < s 32 0) (hl : (97 ≤ s 33 a ∧ s 33 a ≤ 122) ∨ (48 ≤ s 33 a ∧ s 33 a ≤ 57)) (k : Q (some (vi (kEn (s 33) (s 32 0) a))) s) : aEv (d + 2) true 62 [vr 32, vi a] s Q := by
  obtain ⟨e1, e2, e3, e4, e5⟩ := kEn_ok (B := s 33) a0 a1 hn
  refine e62 (b62_0 ⟨by omega, ?_⟩)
  refine for_up (X := fun i (_ : Int) => Yx (d + 2) cd62 1 Q 4 [vr 32, vt, vi i] [] s) (I := fun i _ => a < i ∧ i ≤ kEn (s 33) (s 32 0) a) (N := kEn (s 33) (s 32 0) a) ?_ ?_ (a + 1) 0 ⟨by omega, by omega⟩
  · rintro i - hi ⟨i0, i1⟩ K
    refine b62_4 ⟨fun z => by omega, fun _ => ⟨by omega, fun z => absurd ?_ z, fun _ => ⟨by omega, K 0 ⟨by omega, by omega⟩⟩⟩⟩
    rcases hl with l | l
    · have r1 := (e3 l).1 i (by omega) hi
      have r2 := (e3 l).1 (i - 1) (by omega) (by omega)
      omega
    · have r1 := (e4 l).1 i (by omega) hi
      have r2 := (e4 l).1 (i - 1) (by omega) (by omega)
      omega
  · rintro i - hi ⟨i0, i1⟩
    have ei : i = kEn (s 33) (s 32 0) a := by omega
    subst ei
    refine b62_4 ⟨fun _ => k, fun z => ⟨by omega, fun _ => k, fun y => ?_⟩⟩
    exfalso
    rcases hl with l | l
    · have r1 := (e3 l).2 (by omega)
      have r2 := (e3 l).1 (kEn (s 33) (s 32 0) a - 1) (by omega) (by omega)
      omega
    · have r1 := (e4 l).2 (by omega)
      have r2 := (e4 l).1 (kEn (s 33) (s 32 0) a - 1) (by omega) (by omega)
      omega
/-- the words' text, a blank behind each -/
def kJn : List (List Int) → List Int
  | [] => []
  | w :: ws => w ++ 32 :: kJn ws
theorem kStr : nth [] aSTR 0 = kJn kWs := by decide +kernel
theorem nth_drop {x : List Int} : ∀ {i : Nat} {c : Int} {l : List Int}, x.drop i = c :: l → nth 0 x i = c ∧ x.drop (i + 1) = l := by
  induction x with
  | nil =>
    intro i c l h
    simp at h
  | cons y x ih =>
    intro i c l h
    cases i with
    | zero =>
      simp at h
      exact ⟨h.1, by simpa using h.2⟩
    | succ i =>
      have h' : x.drop i = c :: l := by simpa using h
      have := ih h'
      exact ⟨this.1, by simpa using this.2⟩
theorem c66l {d : Nat} {Q : aQ} {s : aW} {i e : Int} (i0 : 0 ≤ i) (he : i < e) (he2 : e ≤ 300) : ∀ (w : List Int) (ws : List (List Int)) (nm k same a6 : Int), (∀ c ∈ w, ¬ c = 32) → (∀ v ∈ ws, ∀ c ∈ v, ¬ c = 32) → (same = 0 ∨ same = 1) → 0 ≤ nm → nm ≤ 100 → i ≤ k → k ≤ 1000 → 0 ≤ a6 → a6 + w.length + 1 + (kJn ws).length = 68 → nm + ws.length ≤ 50 → k + w.length ≤ 900 → (∀ v ∈ ws, v.length ≤ 10) → (nth [] aSTR 0).drop a6.toNat = w ++ 32 :: kJn ws → Q (some (vi (if same = 1 ∧ kMw (s 33) k e w = true then 10000 + nm else kWd (s 33) i e ws (nm + 1)))) s → Yx (d + 5) cd66 1 Q 11 [vr 32, vi i, vi e, vi nm, vi k, vi same, vi a6, vt] [] s
  | [], [], nm, k, same, a6, hw, hws, hs, n0, n1, k0, k1, a0, hl, hb, hkl, hvl, hd, hq => by
    simp only [List.length_nil, kJn] at hl
    obtain ⟨e1, e2⟩ := nth_drop (show (nth [] aSTR 0).drop a6.toNat = 32 :: kJn [] from hd)
    refine b66_11 ⟨fun z => by omega, fun _ => ⟨by omega, fun _ => ⟨fun z => ⟨by omega, by omega, ?_⟩, fun z => ⟨fun y => ⟨by omega, by omega, ?_⟩, fun y => ⟨by omega, ?_⟩⟩⟩, fun z => absurd e1 z⟩⟩
    · rw [if_neg (by omega)] at hq
      exact b66_11 ⟨fun _ => hq, fun z => by omega⟩
    · have nm' : ¬ (same = 1 ∧ kMw (s 33) k e [] = true) := fun q => y (by have := q.2; simp [kMw] at this; exact this)
      rw [if_neg nm'] at hq
      exact b66_11 ⟨fun _ => hq, fun z => by omega⟩
    · rw [if_pos ⟨by omega, by simp [kMw]; exact y⟩] at hq
      exact hq
  | [], w' :: ws, nm, k, same, a6, hw, hws, hs, n0, n1, k0, k1, a0, hl, hb, hkl, hvl, hd, hq => by
    simp only [List.length_nil, List.length_cons, kJn, List.length_append] at hl hb
    obtain ⟨e1, e2⟩ := nth_drop (show (nth [] aSTR 0).drop a6.toNat = 32 :: kJn (w' :: ws) from hd)
    have lw := hvl w' List.mem_cons_self
    have next : ¬ (same = 1 ∧ kMw (s 33) k e [] = true) → Yx (d + 5) cd66 1 Q 11 [vr 32, vi i, vi e, vi (nm + 1), vi i, vi 1, vi (a6 + 1), vt] [] s := by
      intro nm'
      rw [if_neg nm'] at hq
      refine c66l i0 he he2 w' ws (nm + 1) i 1 (a6 + 1) (hws w' List.mem_cons_self) (fun v hv => hws v (List.mem_cons_of_mem _ hv)) (Or.inr rfl) (by omega) (by omega) (Int.le_refl _) (by omega) (by omega) (by omega) (by omega) (by omega) (fun v hv => hvl v (List.mem_cons_of_mem _ hv)) ?_ ?_
      · rw [show (a6 + 1).toNat = a6.toNat + 1 by omega]
        exact e2
      · have e3 : kWd (s 33) i e (w' :: ws) (nm + 1) = if kMw (s 33) i e w' = true then 10000 + (nm + 1) else kWd (s 33) i e ws (nm + 1 + 1) := rfl
        rw [e3] at hq
        by_cases hc : kMw (s 33) i e w' = true
        · rw [if_pos hc] at hq
          rw [if_pos ⟨rfl, hc⟩]
          exact hq
        · rw [if_neg hc] at hq
          rw [if_neg (fun q => hc q.2)]
          exact hq
    refine b66_11 ⟨fun z => by omega, fun _ => ⟨by omega, fun _ => ⟨fun z => ⟨by omega, by omega, next (fun q => by omega)⟩, fun z => ⟨fun y => ⟨by omega, by omega, next (fun q => y (by have := q.2; simp [kMw] at this; exact this))⟩, fun y => ⟨by omega, ?_⟩⟩⟩, fun z => absurd e1 z⟩⟩
    rw [if_pos ⟨by omega, by simp [kMw]; exact y⟩] at hq
    exact hq
  | c :: w, ws, nm, k, same, a6, hw, hws, hs, n0, n1, k0, k1, a0, hl, hb, hkl, hvl, hd, hq => by
    simp only [List.length_cons] at hl hkl
    obtain ⟨e1, e2⟩ := nth_drop (show (nth [] aSTR 0).drop a6.toNat = c :: (w ++ 32 :: kJn ws) from hd)
    have hc := hw c List.mem_cons_self
    have next : ∀ same' : Int, (same' = 0 ∨ same' = 1) → (same' = 1 ↔ same = 1 ∧ k < e ∧ s 33 k = c) → Yx (d + 5) cd66 1 Q 11 [vr 32, vi i, vi e, vi nm, vi (k + 1), vi same', vi (a6 + 1), vt] [] s := by
      intro same' h01 hiff
      refine c66l i0 he he2 w ws nm (k + 1) same' (a6 + 1) (fun x hx => hw x (List.mem_cons_of_mem _ hx)) hws h01 n0 n1 (by omega) (by omega) (by omega) (by omega) hb (by omega) hvl ?_ ?_
      · rw [show (a6 + 1).toNat = a6.toNat + 1 by omega]
        exact e2
      · have e3 : (same = 1 ∧ kMw (s 33) k e (c :: w) = true) ↔ (same' = 1 ∧ kMw (s 33) (k + 1) e w = true) := by
          rw [hiff]
          simp only [kMw, Bool.and_eq_true, decide_eq_true_eq]
          exact ⟨fun z => ⟨⟨z.1, z.2.1.1, z.2.1.2⟩, z.2.2⟩, fun z => ⟨z.1.1, ⟨z.1.2.1, z.1.2.2⟩, z.2⟩⟩
        by_cases q : same = 1 ∧ kMw (s 33) k e (c :: w) = true
        · rw [if_pos q] at hq
          rw [if_pos (e3.mp q)]
          exact hq
        · rw [if_neg q] at hq
          rw [if_neg (fun z => q (e3.mpr z))]
          exact hq
    refine b66_11 ⟨fun z => by omega, fun _ => ⟨by omega, fun z => absurd (e1.symm.trans z) hc, fun _ => ⟨fun z => ⟨by omega, by omega, next 0 (Or.inl rfl) ⟨fun y => by omega, fun y => by omega⟩⟩, fun z => ⟨fun y => ⟨by omega, by omega, next 0 (Or.inl rfl) ⟨fun q => by omega, fun q => by omega⟩⟩, fun y => ⟨by omega, by omega, by omega, next _ bi_01 ?_⟩⟩⟩⟩⟩
    rw [e1]
    unfold bi
    constructor
    · intro q
      split at q
      · exact ⟨by omega, by omega, by assumption⟩
      · omega
    · intro q
      rw [if_pos q.2.2]
theorem c66 {d : Nat} {Q : aQ} {s : aW} {i e : Int} (i0 : 0 ≤ i) (he : i < e) (he2 : e ≤ 300) (k : Q (some (vi (kWd (s 33) i e kWs 0))) s) : aEv (d + 5) true 66 [vr 32, vi i, vi e] s Q := by
  refine e66 (b66_0 ?_)
  refine c66l i0 he he2 [115, 101, 110, 100] (kWs.drop 1) 0 i 1 0 (by decide) (by decide) (Or.inr rfl) (Int.le_refl _) (by omega) (Int.le_refl _) (by omega) (Int.le_refl _) (by decide) (by decide) (by simp only [List.length_cons, List.length_nil]; omega) (by decide) ?_ ?_
  · rw [kStr]
    rfl
  · have e3 : kWd (s 33) i e kWs 0 = if kMw (s 33) i e [115, 101, 110, 100] = true then 10000 + 0 else kWd (s 33) i e (kWs.drop 1) (0 + 1) := rfl
    rw [e3] at k
    by_cases hc : kMw (s 33) i e [115, 101, 110, 100] = true
    · rw [if_pos hc] at k
      rw [if_pos ⟨rfl, hc⟩]
      exact k
    · rw [if_neg hc] at k
      rw [if_neg (fun q => hc q.2)]
      exact k
theorem kNu_b {B : Int → Int} {i : Int} : ∀ {k : Nat}, (∀ x, i ≤ x → x < i + k → 48 ≤ B x ∧ B x ≤ 57) → 0 ≤ kNu B i k ∧ kNu B i k ≤ 10000
  | 0, _ => by
    show 0 ≤ (0 : Int) ∧ (0 : Int) ≤ 10000
    omega
  | k + 1, h => by
    have ih := kNu_b (B := B) (i := i) (k := k) (fun x x0 x1 => h x x0 (by omega))
    have hx := h (i + k) (by omega) (by omega)
    show 0 ≤ min 10000 (kNu B i k * 10 + B (i + k) - 48) ∧ min 10000 (kNu B i k * 10 + B (i + k) - 48) ≤ 10000
    omega
theorem c67 {d : Nat} {Q : aQ} {s : aW} {i e : Int} (i0 : 0 ≤ i) (he : i < e) (he2 : e ≤ 300) (hd : ∀ x, i ≤ x → x < e → 48 ≤ s 33 x ∧ s 33 x ≤ 57) (k : Q (some (vi (if 9999 < kNu (s 33) i (e - i).toNat then 30001 else kNu (s 33) i (e - i).toNat))) s) : aEv (d + 1) true 67 [vr 32, vi i, vi e] s Q := by
  refine e67 (b67_0 ?_)
  refine for_up (X := fun x v => Yx (d + 1) cd67 1 Q 5 [vr 32, vt, vi e, vi v, vi x] [] s) (I := fun x v => i ≤ x ∧ x ≤ e ∧ v = kNu (s 33) i (x - i).toNat) (N := e) ?_ ?_ i 0 ⟨Int.le_refl _, by omega, by rw [Int.sub_self]; rfl⟩
  · rintro x v hx ⟨x0, x1, rfl⟩ K
    have b := kNu_b (B := s 33) (i := i) (k := (x - i).toNat) (fun y y0 y1 => hd y y0 (by omega))
    have h1 := hd x x0 hx
    refine b67_5 ⟨fun z => by omega, fun _ => ⟨by omega, by omega, by omega, by omega, by omega, K _ ⟨by omega, by omega, ?_⟩⟩⟩
    rw [show (x + 1 - i).toNat = (x - i).toNat + 1 by omega]
    show _ = min 10000 (kNu (s 33) i (x - i).toNat * 10 + s 33 (i + ((x - i).toNat : Nat)) - 48)
    rw [show i + (((x - i).toNat : Nat) : Int) = x by omega]
  · rintro x v hx ⟨x0, x1, rfl⟩
    have ex : x = e := by omega
    subst ex
    exact b67_5 ⟨fun _ => k, fun z => by omega⟩
theorem c253 {d : Nat} {Q : aQ} {s : aW} {b : Int} (b0 : 0 ≤ b) (b1 : b ≤ 255) (k : ∀ x, (¬ x < 0 ↔ (b = 43 ∨ b = 45 ∨ b = 42 ∨ b = 47 ∨ b = 40 ∨ b = 41 ∨ b = 60 ∨ b = 62 ∨ b = 61 ∨ b = 59)) → Q (some (vi x)) s) : aEv (d + 6) true 253 [vr (1000 + 1), vi b] s Q := by
  have str : nth [] aSTR 1 = [43, 45, 42, 47, 40, 41, 60, 62, 61, 59] := by decide +kernel
  have len : ((nth [] aSTR 1).length : Int) = 10 := by rw [str]; rfl
  have w8b : w8 b = if b < 128 then b else b - 256 := by
    unfold w8
    rw [Int.bmod_def]
    split <;> split <;> omega
  have lp : ∀ (Q2 : aQ), (∀ x, (¬ x < 0 ↔ (b = 43 ∨ b = 45 ∨ b = 42 ∨ b = 47 ∨ b = 40 ∨ b = 41 ∨ b = 60 ∨ b = 62 ∨ b = 61 ∨ b = 59)) → Q2 (some (vi x)) s) → aEv (d + 3 + 0) true 262 [vr (1100 + 1), vi b, vi 0, vi 10] s Q2 := by
    intro Q2 k2
    refine e262 (b262_0 ?_)
    refine for_up (X := fun i (_ : Int) => Yx (d + 3 + 0) cd262 1 Q2 7 [vr (1100 + 1), vt, vt, vi 10, vi (w8 b), vi i] [] s) (I := fun i _ => 0 ≤ i ∧ i ≤ 10 ∧ ∀ x : Nat, (x : Int) < i → ¬ nth 0 (nth [] aSTR 1) x = w8 b) (N := 10) ?_ ?_ 0 0 ⟨Int.le_refl _, by omega, fun x hx => by omega⟩
    · rintro i - hi ⟨i0, i1, i2⟩ K
      refine b262_7 ⟨fun z => by omega, fun _ => ⟨by omega, fun z => ⟨by omega, K 0 ⟨by omega, by omega, fun x hx => ?_⟩⟩, fun z => k2 i ⟨fun _ => ?_, fun _ => by omega⟩⟩⟩
      · by_cases q : x = i.toNat
        · rw [q]; exact z
        · exact i2 x (by omega)
      · rw [str, w8b] at z
        have : i.toNat = 0 ∨ i.toNat = 1 ∨ i.toNat = 2 ∨ i.toNat = 3 ∨ i.toNat = 4 ∨ i.toNat = 5 ∨ i.toNat = 6 ∨ i.toNat = 7 ∨ i.toNat = 8 ∨ i.toNat = 9 := by omega
        rcases this with h | h | h | h | h | h | h | h | h | h <;> rw [h] at z <;> simp only [nth] at z <;> split at z <;> omega
    · rintro i - hi ⟨i0, i1, i2⟩
      refine b262_7 ⟨fun _ => k2 (-1) ⟨fun z => by omega, fun z => ?_⟩, fun z => by omega⟩
      rw [str] at i2
      have q0 := i2 0 (by omega)
      have q1 := i2 1 (by omega)
      have q2 := i2 2 (by omega)
      have q3 := i2 3 (by omega)
      have q4 := i2 4 (by omega)
      have q5 := i2 5 (by omega)
      have q6 := i2 6 (by omega)
      have q7 := i2 7 (by omega)
      have q8 := i2 8 (by omega)
      have q9 := i2 9 (by omega)
      simp only [nth] at q0 q1 q2 q3 q4 q5 q6 q7 q8 q9
      rw [w8b, if_pos (by omega)] at q0 q1 q2 q3 q4 q5 q6 q7 q8 q9
      omega
  refine e253 (b253_0 (e254 (b254_0 (e261 (d := d + 3) (b261_0 ⟨fun _ => ⟨fun _ => ?_, fun z => absurd (by decide) z⟩, fun z => absurd ⟨b0, b1⟩ z⟩)))))
  exact lp _ (fun x hx => ⟨x, rfl, b261_36_1 ⟨x, rfl, b254_20_1 ⟨x, rfl, b253_6_1 (k x hx)⟩⟩⟩)
theorem c60 {d : Nat} {Q : aQ} {s : aW} {a : Int} (hn : s 32 0 ≤ 300) (hB : ∀ x, 0 ≤ x → x < s 32 0 → 0 ≤ s 33 x ∧ s 33 x ≤ 255) (a0 : 0 ≤ a) (a1 : a < s 32 0) (k : Q (some (vi (kTa (s 33) (s 32 0) a))) s) : aEv (d + 7) true 60 [vr 32, vi a] s Q := by
  obtain ⟨e1, e2, e3, e4, e5⟩ := kEn_ok (B := s 33) a0 a1 hn
  have hb := hB a a0 a1
  unfold kTa at k
  refine e60 (b60_0 ⟨by omega, fun z => ⟨by omega, fun z2 => ⟨by omega, ?_⟩, fun z2 => ?_⟩, fun z => ?_⟩)
  · rw [if_neg z, if_neg z2] at k
    refine c253 hb.1 hb.2 (fun x hx => ⟨x, rfl, b60_49_1 ⟨fun y => ⟨by omega, by omega⟩, ?_⟩⟩)
    by_cases y : x < 0
    · rw [if_pos y]
      rw [if_neg (fun q => (hx.mpr q) y)] at k
      exact k
    · rw [if_neg y]
      rw [if_pos (hx.mp y)] at k
      exact k
  · rw [if_neg z, if_pos z2] at k
    refine c62 (d := d + 4) hn a0 a1 (Or.inr z2) ⟨_, rfl, b60_34_3 (c67 (d := d + 5) a0 e1 (by omega) (e4 z2).1 ⟨_, rfl, b60_37_1 k⟩)⟩
  · rw [if_pos z] at k
    refine c62 (d := d + 4) hn a0 a1 (Or.inl z) ⟨_, rfl, b60_15_3 (c66 (d := d + 1) a0 e1 (by omega) ⟨_, rfl, b60_18_1 k⟩)⟩
theorem kTa_r {B : Int → Int} {n i : Int} (i0 : 0 ≤ i) (i1 : i < n) (hn : n ≤ 300) (hb : 0 ≤ B i ∧ B i ≤ 255) : 0 ≤ kTa B n i ∧ kTa B n i ≤ 30001 ∧ ¬ kTa B n i = 30000 := by
  obtain ⟨e1, e2, e3, e4, e5⟩ := kEn_ok (B := B) i0 i1 hn
  unfold kTa
  split
  · have := kWd_r (B := B) (i := i) (e := kEn B n i) kWs 0
    have l : (kWs.length : Int) = 14 := by decide
    omega
  · split
    · rename_i h
      have b := kNu_b (B := B) (i := i) (k := (kEn B n i - i).toNat) (fun y y0 y1 => (e4 h).1 y y0 (by omega))
      split <;> omega
    · split <;> omega
theorem kTt_T {B : Int → Int} {n : Int} (n0 : 0 ≤ n) (hn : n ≤ 300) (hB : ∀ x, 0 ≤ x → x < n → 0 ≤ B x ∧ B x ≤ 255) : rT (kTt B n) (kMm B n) ∧ ∀ x, 0 ≤ x → x ≤ (kMm B n : Int) → 0 ≤ kTt B n x ∧ kTt B n x ≤ 30001 := by
  have hm := kMm_ok (B := B) n0 hn
  have hr : ∀ x, 0 ≤ x → x < (kMm B n : Int) → 0 ≤ kTt B n x ∧ kTt B n x ≤ 30001 ∧ ¬ kTt B n x = 30000 := fun x x0 x1 => by
    have a := kSp_s (B := B) n0 hn x.toNat (fun j hj => hm.1.2 j (by omega))
    have l := hm.1.2 x.toNat (by omega)
    unfold kTt
    rw [if_pos x1]
    exact kTa_r (by omega) l hn (hB _ (by omega) l)
  refine ⟨⟨by omega, by omega, ?_, fun i i0 i1 => (hr i i0 i1).2.2⟩, fun x x0 x1 => ?_⟩
  · unfold kTt
    rw [if_neg (by omega)]
  · by_cases e : x = (kMm B n : Int)
    · rw [e]
      unfold kTt
      rw [if_neg (by omega)]
      omega
    · have := hr x x0 (by omega)
      omega
theorem c59 {d : Nat} {Q : aQ} {σ : aW} (n0 : 0 ≤ σ 32 0) (hn : σ 32 0 ≤ 300) (hB : ∀ x, 0 ≤ x → x < σ 32 0 → 0 ≤ σ 33 x ∧ σ 33 x ≤ 255) (k : ∀ s1, Fr [34, 35] σ s1 → rTk s1 (kTt (σ 33) (σ 32 0)) (fun x => kSp (σ 33) (σ 32 0) x.toNat) (kMm (σ 33) (σ 32 0)) → Q none s1) : aEv (d + 8) true 59 [vr 32] σ Q := by
  have hm := kMm_ok (B := σ 33) n0 hn
  obtain ⟨hT, hTr⟩ := kTt_T (B := σ 33) n0 hn hB
  refine e59 (b59_0 ?_)
  refine for_up2 (X := fun i m s => Yx (d + 8) cd59 0 Q 4 [vr 32, vi m, vi i] [] s) (I := fun i m s => 0 ≤ i ∧ i ≤ σ 32 0 ∧ 0 ≤ m ∧ m ≤ (kMm (σ 33) (σ 32 0) : Int) ∧ Fr [34, 35] σ s ∧ (∀ x, 0 ≤ x → x < m → s 34 x = kTt (σ 33) (σ 32 0) x ∧ s 35 x = kSp (σ 33) (σ 32 0) x.toNat) ∧ (m = 0 → 0 ≤ i) ∧ (0 < m → kSp (σ 33) (σ 32 0) (m - 1).toNat < i) ∧ i ≤ kSp (σ 33) (σ 32 0) m.toNat) (N := σ 32 0) ?_ ?_ 0 0 σ ⟨Int.le_refl _, n0, Int.le_refl _, by omega, Fr_r, fun x x0 x1 => by omega, fun _ => Int.le_refl _, fun z => by omega, ?_⟩
  · rintro i m s hi ⟨i0, i1, m0, m1, f1, h1, h2, h3, h4⟩ K
    have s32 : s 32 = σ 32 := f1 32 (by decide)
    have s33 : s 33 = σ 33 := f1 33 (by decide)
    have a := kSp_s (B := σ 33) n0 hn m.toNat (fun j hj => hm.1.2 j (by omega))
    have skip : ¬ kS0 (σ 33) i → Yx (d + 8) cd59 0 Q 4 [vr 32, vi m, vi (i + 1)] [] s := fun z => by
      have hne : ¬ i = kSp (σ 33) (σ 32 0) m.toNat := fun e => z (by
        have := a.2.2.1 (by omega)
        rw [← e] at this
        exact this)
      exact K m s ⟨by omega, by omega, m0, m1, f1, h1, fun y => by omega, fun y => by have := h3 y; omega, by omega⟩
    refine b59_4 ⟨fun z => by rw [s32] at z; omega, fun _ => ?_⟩
    rw [s33]
    refine ⟨by omega, fun z => ⟨by omega, skip (fun y => y.1 z)⟩, fun z => ⟨by omega, fun z2 => ⟨by omega, skip (fun y => y.2 z2)⟩, fun z2 => ?_⟩⟩
    have hs : kS0 (σ 33) i := ⟨z, z2⟩
    have ei : i = kSp (σ 33) (σ 32 0) m.toNat := by
      apply Classical.byContradiction
      intro ne
      have lo : (match m.toNat with
          | 0 => 0
          | j + 1 => kSp (σ 33) (σ 32 0) j + 1) ≤ i := by
        cases hc : m.toNat with
        | zero => exact i0
        | succ j =>
          have := h3 (by omega)
          rw [show (m - 1).toNat = j by omega] at this
          show kSp (σ 33) (σ 32 0) j + 1 ≤ i
          omega
      exact a.2.2.2 i lo (by omega) hs
    have hlt : m < (kMm (σ 33) (σ 32 0) : Int) := by
      apply Classical.byContradiction
      intro ge
      have : m.toNat = kMm (σ 33) (σ 32 0) := by omega
      rw [this, hm.1.1] at ei
      omega
    refine c60 (by rw [s32]; exact hn) (by rw [s32, s33]; exact hB) i0 (by rw [s32]; exact hi) ⟨_, rfl, b59_38_3 ⟨by omega, by omega, by omega, by omega, ?_⟩⟩
    rw [s33, s32]
    have e1 : (m + 1).toNat = m.toNat + 1 := by omega
    have b := kSp_s (B := σ 33) n0 hn (m.toNat + 1) (fun j hj => hm.1.2 j (by omega))
    refine K (m + 1) _ ⟨by omega, by omega, by omega, by omega, Fr_w (Fr_w f1 (by decide)) (by decide), fun x x0 x1 => ?_, fun y => by omega, fun _ => by rw [show (m + 1 - 1).toNat = m.toNat by omega]; omega, ?_⟩
    · rw [sw_n (show (34 : Nat) ≠ 35 by decide), sw_s, sw_s]
      by_cases e : x = m
      · rw [e, fu_s, fu_s]
        refine ⟨?_, ei⟩
        unfold kTt
        rw [if_pos hlt, ← ei]
      · rw [fu_n e, fu_n e]
        exact h1 x x0 (by omega)
    · rw [e1]
      have hk := hm.1.2 m.toNat (by omega)
      obtain ⟨e3, e4, -⟩ := kEn_ok (B := σ 33) (show 0 ≤ kSp (σ 33) (σ 32 0) m.toNat by omega) hk hn
      obtain ⟨e5, -⟩ := kNx_ok (B := σ 33) (show 0 ≤ kEn (σ 33) (σ 32 0) (kSp (σ 33) (σ 32 0) m.toNat) by omega) e4 hn
      show i + 1 ≤ kNx (σ 33) (σ 32 0) (kEn (σ 33) (σ 32 0) (kSp (σ 33) (σ 32 0) m.toNat))
      omega
  · rintro i m s hi ⟨i0, i1, m0, m1, f1, h1, h2, h3, h4⟩
    have s32 : s 32 = σ 32 := f1 32 (by decide)
    have ei : i = σ 32 0 := by omega
    have em : m = (kMm (σ 33) (σ 32 0) : Int) := by
      apply Classical.byContradiction
      intro ne
      have := hm.1.2 m.toNat (by omega)
      omega
    refine b59_4 ⟨fun _ => ⟨by omega, by omega, k _ (Fr_w (Fr_w f1 (by decide)) (by decide)) ⟨hT, fun x x0 x1 => ?_, fun x x0 x1 => by have := hTr x x0 x1; omega⟩⟩, fun z => absurd (by rw [s32]; omega) z⟩
    rw [sw_n (show (34 : Nat) ≠ 35 by decide), sw_s, sw_s, s32]
    show _ = _ ∧ _ = kSp (σ 33) (σ 32 0) x.toNat ∧ 0 ≤ kSp (σ 33) (σ 32 0) x.toNat
    have a := kSp_s (B := σ 33) n0 hn x.toNat (fun j hj => hm.1.2 j (by omega))
    by_cases e : x = m
    · rw [e, fu_s, fu_s]
      rw [e] at a
      refine ⟨?_, ?_, by omega⟩
      · unfold kTt
        rw [if_neg (by omega)]
      · show _ = kSp (σ 33) (σ 32 0) m.toNat
        rw [em, Int.toNat_natCast]
        exact hm.1.1.symm
    · rw [fu_n e, fu_n e]
      exact ⟨(h1 x x0 (by omega)).1, (h1 x x0 (by omega)).2, by omega⟩
  · have a := kSp_s (B := σ 33) n0 hn 0 (fun j hj => by omega)
    exact a.1
end
