section
/-! rules: where the reference stands -/
noncomputable def mAt (B : Int → Int) (n x : Int) (s : aW) : Prop := 0 ≤ x ∧ x ≤ kMm B n ∧ s 96 54 = 0 ∧ s 96 49 = kSp B n x.toNat ∧ (x = kMm B n → s 96 50 = 0) ∧ (x < kMm B n → s 96 48 = kEn B n (kSp B n x.toNat) ∧ mSo B n (kSp B n x.toNat) s) ∧ mTx B n s
def mBd (B : Int → Int) (n j : Int) (s : aW) : Prop := ¬ s 96 54 = 0 ∧ s 96 38 = kSp B n j.toNat ∧ 0 ≤ s 96 49 ∧ mTx B n s
theorem mKs {B : Int → Int} {n x : Int} (n0 : 0 ≤ n) (hn : n ≤ 300) (x0 : 0 ≤ x) (x1 : x ≤ kMm B n) : 0 ≤ kSp B n x.toNat ∧ kSp B n x.toNat ≤ n ∧ (x < kMm B n → kSp B n x.toNat < n) ∧ (kSp B n x.toNat = n → x = kMm B n) := by
  have hm := kMm_ok (B := B) n0 hn
  have a := kSp_s (B := B) n0 hn x.toNat (fun j hj => hm.1.2 j (by omega))
  refine ⟨by omega, a.2.1, fun z => hm.1.2 _ (by omega), fun z => ?_⟩
  apply Classical.byContradiction
  intro ne
  have := hm.1.2 x.toNat (by omega)
  omega
theorem gOn {d : Nat} {Q : aQ} {B : Int → Int} {n x : Int} {s : aW} (hA : mAt B n x s) (hM : x < kMm B n) (k : ∀ s', Fg [] [(96, 48), (96, 49), (96, 50), (96, 51)] s s' → mAt B n (x + 1) s' → Q none s') : aEv (d + 1) true 183 [vr 96] s Q := by
  obtain ⟨x0, x1, h5, h4, h1, h2, hx⟩ := hA
  have n0 := hx.2.1
  have hn := hx.2.2.1
  have ks := mKs (B := B) n0 hn x0 x1
  have ks' := mKs (B := B) n0 hn (show 0 ≤ x + 1 by omega) (by omega)
  obtain ⟨e8, hso⟩ := h2 hM
  have ho := kEn_ok (B := B) ks.1 (ks.2.2.1 hM) hn
  have eK : kNx B n (s 96 48) = kSp B n (x + 1).toNat := by
    rw [e8, show (x + 1).toNat = x.toNat + 1 by omega]
    rfl
  refine e183 (c183 (B := B) (n := n) (s0 := s) (by omega) (by omega) (fun s' f1 a1 a2 a3 => ?_) (n - s 96 48).toNat s hx (Int.le_refl _) (by omega) (by omega) Fg_r (fun y y0 y1 => by omega))
  rw [eK] at a1 a2 a3
  refine k s' f1 ⟨by omega, by omega, (f1 96 54 (by simp) (by decide)).trans h5, a1, fun z => (a2 ?_).1, fun z => a3 (ks'.2.2.1 z), mTx_g hx f1 (by decide) (by decide) rfl⟩
  have hm := kMm_ok (B := B) n0 hn
  rw [z, Int.toNat_natCast]
  exact hm.1.1
theorem gBad {d : Nat} {Q : aQ} {B : Int → Int} {n x : Int} {s : aW} (hA : mAt B n x s) (k : ∀ s', Fg [] [(96, 38), (96, 54)] s s' → mBd B n x s' → Q none s') : aEv (d + 0) true 184 [vr 96] s Q := by
  obtain ⟨x0, x1, h5, h4, h1, h2, hx⟩ := hA
  have ks := mKs (B := B) hx.2.1 hx.2.2.1 x0 x1
  refine e184 (b184_0 ⟨fun z => absurd h5 z, fun _ => ?_⟩)
  have f1 := Fg_f (L := []) (P := [(96, 38), (96, 54)]) (k := 96) (i := 54) (v := 1) (Fg_f (k := 96) (i := 38) (v := s 96 49) (Fg_r (σ := s)) (by decide)) (by decide)
  rw [sw_s] at f1
  refine k _ f1 ⟨by rw [sw_s, fu_s]; decide, by rw [sw_s, fu_n (by decide), fu_s]; exact h4, ?_, mTx_g hx f1 (by decide) (by decide) rfl⟩
  rw [f1 96 49 (by simp) (by decide), h4]
  exact ks.1
theorem gBad2 {d : Nat} {Q : aQ} {B : Int → Int} {n x : Int} {s : aW} (hA : mBd B n x s) (k : ∀ s', Fg [] [(96, 38), (96, 54)] s s' → mBd B n x s' → Q none s') : aEv (d + 0) true 184 [vr 96] s Q := by
  obtain ⟨h1, h2, h3, hx⟩ := hA
  refine e184 (b184_0 ⟨fun _ => ?_, fun z => absurd z h1⟩)
  have f1 := Fg_f (L := []) (P := [(96, 38), (96, 54)]) (k := 96) (i := 54) (v := 1) (Fg_r (σ := s)) (by decide)
  refine k _ f1 ⟨by rw [sw_s, fu_s]; decide, by rw [sw_s, fu_n (by decide)]; exact h2, ?_, mTx_g hx f1 (by decide) (by decide) rfl⟩
  rw [f1 96 49 (by simp) (by decide)]
  exact h3
theorem kNu_p {B : Int → Int} {i e n : Int} (h : ∀ x, i ≤ x → x < e → 48 ≤ B x ∧ B x ≤ 57) : 0 ≤ kNu B i (e - i).toNat := (kNu_b (B := B) (i := i) (k := (e - i).toNat) (fun x x0 x1 => h x x0 (by omega))).1
/-- what the token here is -/
theorem mTc {B : Int → Int} {n x : Int} {s : aW} (hA : mAt B n x s) : (s 96 50 = 0 ∧ kTt B n x = 30000 ∧ x = kMm B n) ∨ (x < kMm B n ∧ ((s 96 50 = 1 ∧ (97 ≤ B (kSp B n x.toNat) ∧ B (kSp B n x.toNat) ≤ 122) ∧ kTt B n x = kWd B (kSp B n x.toNat) (kEn B n (kSp B n x.toNat)) kWs 0 ∧ (kTt B n x = 30001 ∨ (10000 ≤ kTt B n x ∧ kTt B n x < 10014))) ∨ (s 96 50 = 2 ∧ kTt B n x = s 96 51 ∧ 0 ≤ s 96 51 ∧ s 96 51 ≤ 9999) ∨ (s 96 50 = 3 ∧ kTt B n x = 20000 + (if (s 96 47) ≤ (s 96 49) then 0 else (s 123 ((s 96 46) + (s 96 49)))) ∧ kSg (if (s 96 47) ≤ (s 96 49) then 0 else (s 123 ((s 96 46) + (s 96 49))))) ∨ (s 96 50 = 4 ∧ kTt B n x = 30001))) := by
  obtain ⟨x0, x1, h5, h4, h1, h2, hx⟩ := hA
  have ks := mKs (B := B) hx.2.1 hx.2.2.1 x0 x1
  by_cases hM : x < kMm B n
  · refine Or.inr ⟨hM, ?_⟩
    obtain ⟨e8, so1, so2, so3⟩ := h2 hM
    have ho := kEn_ok (B := B) ks.1 (ks.2.2.1 hM) hx.2.2.1
    have hc := mCh hx (show 0 ≤ s 96 49 by omega)
    have eT : kTt B n x = kTa B n (kSp B n x.toNat) := by
      unfold kTt
      rw [if_pos hM]
    rw [eT]
    unfold kTa
    rw [h4] at hc ⊢
    generalize hp : kSp B n x.toNat = p at *
    by_cases l1 : 97 ≤ B p ∧ B p ≤ 122
    · refine Or.inl ⟨so1 l1, l1, ?_, ?_⟩
      · rw [if_pos l1]
      · rw [if_pos l1]
        have := kWd_r (B := B) (i := p) (e := kEn B n p) kWs 0
        have l14 : kWs.length = 14 := by decide
        omega
    · by_cases l2 : 48 ≤ B p ∧ B p ≤ 57
      · have hq := kNu_p (n := n) (ho.2.2.2.1 l2).1
        by_cases l3 : 9999 < kNu B p (kEn B n p - p).toNat
        · refine Or.inr (Or.inr (Or.inr ⟨(so2 l2).1 l3, ?_⟩))
          rw [if_neg l1, if_pos l2, if_pos l3]
        · have := (so2 l2).2 l3
          refine Or.inr (Or.inl ⟨this.1, ?_, by omega, by omega⟩)
          rw [if_neg l1, if_pos l2, if_neg l3, this.2]
      · have := so3 l1 l2
        by_cases l3 : kSg (B p)
        · have eb : (if (s 96 47) ≤ p then 0 else (s 123 ((s 96 46) + p))) = B p := by
            have := ks.2.2.1 hM
            unfold kSg at l3
            omega
          refine Or.inr (Or.inr (Or.inl ⟨this.1 l3, ?_, ?_⟩))
          · unfold kSg at l3
            rw [if_neg l1, if_neg l2, if_pos l3, eb]
          · rw [eb]; exact l3
        · refine Or.inr (Or.inr (Or.inr ⟨this.2 l3, ?_⟩))
          unfold kSg at l3
          rw [if_neg l1, if_neg l2, if_neg l3]
  · refine Or.inl ⟨h1 (by omega), ?_, by omega⟩
    unfold kTt
    rw [if_neg hM]
/-- the sign here -/
theorem mSg {B : Int → Int} {n x : Int} {s : aW} (hA : mAt B n x s) (v : Int) (hv : 0 ≤ v ∧ v ≤ 127) : ((s 96 54) = 0 ∧ (s 96 50) = 3 ∧ (if (s 96 47) ≤ (s 96 49) then 0 else (s 123 ((s 96 46) + (s 96 49)))) = v) ↔ (kTt B n x = 20000 + v ∧ x < kMm B n) := by
  have := mTc hA
  have h5 := hA.2.2.1
  constructor
  · intro z
    omega
  · intro z
    refine ⟨h5, ?_⟩
    omega
theorem mSi {B : Int → Int} {n x : Int} {s : aW} (hA : mAt B n x s) : ((s 96 50) = 3 → ((s 96 47) ≤ (s 96 49) ∨ (0 ≤ ((s 96 46) + (s 96 49)) ∧ ((s 96 46) + (s 96 49)) < 600))) := by
  obtain ⟨x0, x1, h5, h4, h1, h2, hx⟩ := hA
  have ks := mKs (B := B) hx.2.1 hx.2.2.1 x0 x1
  exact fun _ => mSd hx (by rw [h4]; exact ks.1)
theorem mSb {B : Int → Int} {n x : Int} {s : aW} (hA : mBd B n x s) : ((s 96 50) = 3 → ((s 96 47) ≤ (s 96 49) ∨ (0 ≤ ((s 96 46) + (s 96 49)) ∧ ((s 96 46) + (s 96 49)) < 600))) := fun _ => mSd hA.2.2.2 hA.2.2.1
theorem kMw_i {B : Int → Int} {e : Int} : ∀ {w : List Int} {p : Int}, kMw B p e w = true ↔ (e = p + w.length ∧ ∀ i, 0 ≤ i → i < (w.length : Int) → B (p + i) = nth 0 w i.toNat)
  | [], p => by
    simp only [kMw, decide_eq_true_eq, List.length_nil]
    constructor
    · intro h
      exact ⟨by omega, fun i _ _ => by omega⟩
    · intro h
      omega
  | c :: l, p => by
    have ih := kMw_i (B := B) (e := e) (w := l) (p := p + 1)
    simp only [kMw, Bool.and_eq_true, decide_eq_true_eq, List.length_cons]
    rw [ih]
    constructor
    · rintro ⟨⟨h1, h2⟩, h3, h4⟩
      refine ⟨by omega, fun i i0 i1 => ?_⟩
      by_cases z : i = 0
      · rw [z, Int.add_zero, h2]; rfl
      · have := h4 (i - 1) (by omega) (by omega)
        rw [show p + 1 + (i - 1) = p + i by omega] at this
        rw [this, show i.toNat = (i - 1).toNat + 1 by omega]
        rfl
    · rintro ⟨h1, h2⟩
      have := h2 0 (by omega) (by omega)
      rw [Int.add_zero] at this
      refine ⟨⟨by omega, this⟩, by omega, fun i i0 i1 => ?_⟩
      have := h2 (i + 1) (by omega) (by omega)
      rw [show p + 1 + i = p + (i + 1) by omega, this, show (i + 1).toNat = i.toNat + 1 by omega]
      rfl
theorem bi_v (p : Prop) [Decidable p] : bi p = 0 ∨ bi p = 1 := by
  by_cases h : p
  · exact Or.inr (by unfold bi; rw [if_pos h])
  · exact Or.inl (by unfold bi; rw [if_neg h])
theorem bi_w (p : Prop) [Decidable p] : bi p = 1 ↔ p := by
  by_cases h : p
  · exact ⟨fun _ => h, fun _ => by unfold bi; rw [if_pos h]⟩
  · exact ⟨fun z => by unfold bi at z; rw [if_neg h] at z; exact absurd z (by decide), fun z => absurd z h⟩
theorem mWs {B : Int → Int} {n x : Int} {s : aW} (hA : mAt B n x s) {j : Nat} (hj : j < kWs.length) : kTt B n x = 10000 + j ↔ (s 96 50 = 1 ∧ s 96 48 - s 96 49 = (kWs[j]).length ∧ ∀ i, 0 ≤ i → i < ((kWs[j]).length : Int) → (if (s 96 47) ≤ (s 96 49 + i) then 0 else (s 123 ((s 96 46) + (s 96 49 + i)))) = nth 0 (kWs[j]) i.toNat) := by
  have hc := mTc hA
  obtain ⟨x0, x1, h5, h4, h1, h2, hx⟩ := hA
  have l14 : kWs.length = 14 := by decide
  have ks := mKs (B := B) hx.2.1 hx.2.2.1 x0 x1
  have key : s 96 50 = 1 → x < kMm B n → (97 ≤ B (kSp B n x.toNat) ∧ B (kSp B n x.toNat) ≤ 122) → kTt B n x = kWd B (kSp B n x.toNat) (kEn B n (kSp B n x.toNat)) kWs 0 → (kTt B n x = 10000 + j ↔ (s 96 50 = 1 ∧ s 96 48 - s 96 49 = (kWs[j]).length ∧ ∀ i, 0 ≤ i → i < ((kWs[j]).length : Int) → (if (s 96 47) ≤ (s 96 49 + i) then 0 else (s 123 ((s 96 46) + (s 96 49 + i)))) = nth 0 (kWs[j]) i.toNat)) := fun z1 hM z2 z3 => by
    have hs := h2 hM
    have ho := kEn_ok (B := B) ks.1 (ks.2.2.1 hM) hx.2.2.1
    have i1 := kWd_i (B := B) (i := kSp B n x.toNat) (e := kEn B n (kSp B n x.toNat)) (ws := kWs) (nm := 0) hj (by omega) (by omega) (by decide)
    rw [z3, show (10000 : Int) + (j : Int) = 10000 + 0 + j by omega, i1, kMw_i, h4, hs.1]
    have eb : ∀ i, 0 ≤ i → kSp B n x.toNat + i < kEn B n (kSp B n x.toNat) → (if (s 96 47) ≤ (kSp B n x.toNat + i) then 0 else (s 123 ((s 96 46) + (kSp B n x.toNat + i)))) = B (kSp B n x.toNat + i) := fun i i0 i1 => by
      have c1 := mCh hx (show 0 ≤ kSp B n x.toNat + i by omega)
      have c2 := (ho.2.2.1 z2).1 (kSp B n x.toNat + i) (by omega) i1
      omega
    constructor
    · rintro ⟨a1, a2⟩
      exact ⟨z1, by omega, fun i i0 i1 => (eb i i0 (by omega)).trans (a2 i i0 i1)⟩
    · rintro ⟨-, a1, a2⟩
      exact ⟨by omega, fun i i0 i1 => (eb i i0 (by omega)).symm.trans (a2 i i0 i1)⟩
  constructor
  · intro z
    rcases hc with c1 | ⟨hM, c1 | c1 | c1 | c1⟩
    · omega
    · exact (key c1.1 hM c1.2.1 c1.2.2.1).1 z
    · omega
    · have := c1.2.2
      unfold kSg at this
      omega
    · omega
  · intro z
    rcases hc with c1 | ⟨hM, c1 | c1 | c1 | c1⟩
    · omega
    · exact (key c1.1 hM c1.2.1 c1.2.2.1).2 z
    · omega
    · omega
    · omega
theorem i2l {d : Nat} {Q : aQ} {B : Int → Int} {n x : Int} {s : aW} (hx : mTx B n s) (h9 : 0 ≤ s 96 49 ∧ s 96 49 ≤ 300) : ∀ (m : Nat) (a2 a3 : Int), (a2 = 0 ∨ a2 = 1) → 0 ≤ a3 → a3 + m = 4 → (∀ v, (v = 0 ∨ v = 1) → (v = 1 ↔ (a2 = 1 ∧ ∀ i, a3 ≤ i → i < 4 → (if (s 96 47) ≤ (s 96 49 + i) then 0 else (s 123 ((s 96 46) + (s 96 49 + i)))) = nth 0 (nth [] aSTR 2) i.toNat)) → Q (some (vi v)) s) → Yx (d + 5) cd186 3 Q 39 [vr 96, vr (1000 + 2), vi a2, vi a3] [] s
  | 0, a2, a3, h2, h3, hm, k => b186w2_39 ⟨fun z => ⟨h2, k a2 h2 ⟨fun y => by omega, fun y => by omega⟩⟩, fun z => ⟨fun _ => ⟨h2, k a2 h2 ⟨fun y => ⟨y, fun i i0 i1 => by omega⟩, fun y => y.1⟩⟩, fun y => by omega⟩⟩
  | m + 1, a2, a3, h2, h3, hm, k => b186w2_39 ⟨fun z => ⟨h2, k a2 h2 ⟨fun y => by omega, fun y => by omega⟩⟩, fun z => ⟨fun y => by omega, fun y => ⟨by omega, mSd hx (by omega), by omega, by omega, i2l hx h9 (x := x) m _ (a3 + 1) (bi_v _) (by omega) (by omega) (fun v v0 hv => k v v0 (hv.trans ⟨fun w => ⟨by omega, fun i i0 i1 => (by
      by_cases e : i = a3
      · rw [e]
        exact (bi_w _).1 w.1
      · exact w.2 i (by omega) i1)⟩, fun w => ⟨(bi_w _).2 (w.2 a3 (Int.le_refl _) (by omega)), fun i i0 i1 => w.2 i (by omega) i1⟩⟩))⟩⟩⟩
theorem i2 {d : Nat} {Q : aQ} {B : Int → Int} {n x : Int} {s : aW} (hA : mAt B n x s) (k : ∀ v, (v = 0 ∨ v = 1) → (v = 1 ↔ kTt B n x = 10000 + 0) → Q (some (vi v)) s) : aEv (d + 5) true 186 [vr 96, vr (1000 + 2)] s Q := by
  have hA' := hA
  obtain ⟨x0, x1, h5, h4, h1, h2, hx⟩ := hA'
  have ks := mKs (B := B) hx.2.1 hx.2.2.1 x0 x1
  have hn := hx.2.2.1
  have hw := mWs hA (j := 0) (by decide)
  have e1 : kWs[0] = nth [] aSTR 2 := by decide +kernel
  have e2 : ((nth [] aSTR 2).length : Int) = 4 := by decide +kernel
  simp only [e1, e2] at hw
  rw [show (10000 : Int) + ((0 : Nat) : Int) = 10000 + 0 by omega] at hw
  rw [hw] at k
  have h9 : 0 ≤ s 96 49 ∧ s 96 49 ≤ 300 := by omega
  refine e186w2 (b186w2_0 ⟨fun z => absurd h5 z, fun _ => ⟨fun z => i2l (x := x) hx h9 4 0 0 (Or.inl rfl) (by omega) (by omega) (fun v v0 hv => k v v0 (hv.trans ⟨fun y => absurd y.1 (by omega), fun y => absurd y.1 z⟩)), fun z => ⟨?_, i2l (x := x) hx h9 4 _ 0 (bi_v _) (by omega) (by omega) (fun v v0 hv => k v v0 (hv.trans ⟨fun y => ⟨z, ?_, y.2⟩, fun y => ⟨?_, y.2.2⟩⟩))⟩⟩⟩)
  · have hM : x < kMm B n := by
      apply Classical.byContradiction
      intro ne
      have := h1 (by omega)
      omega
    have ho := kEn_ok (B := B) ks.1 (ks.2.2.1 hM) hn
    have := (h2 hM).1
    omega
  · exact (bi_w _).1 y.1
  · exact (bi_w _).2 y.2.1
theorem j2 {d : Nat} {Q : aQ} {s : aW} (h : ¬ s 96 54 = 0) (k : Q (some (vi 0)) s) : aEv (d + 5) true 186 [vr 96, vr (1000 + 2)] s Q := e186w2 (b186w2_0 ⟨fun _ => b186w2_39 ⟨fun _ => ⟨Or.inl rfl, k⟩, fun z => absurd rfl z⟩, fun z => absurd z h⟩)
theorem i3l {d : Nat} {Q : aQ} {B : Int → Int} {n x : Int} {s : aW} (hx : mTx B n s) (h9 : 0 ≤ s 96 49 ∧ s 96 49 ≤ 300) : ∀ (m : Nat) (a2 a3 : Int), (a2 = 0 ∨ a2 = 1) → 0 ≤ a3 → a3 + m = 4 → (∀ v, (v = 0 ∨ v = 1) → (v = 1 ↔ (a2 = 1 ∧ ∀ i, a3 ≤ i → i < 4 → (if (s 96 47) ≤ (s 96 49 + i) then 0 else (s 123 ((s 96 46) + (s 96 49 + i)))) = nth 0 (nth [] aSTR 3) i.toNat)) → Q (some (vi v)) s) → Yx (d + 5) cd186 3 Q 39 [vr 96, vr (1000 + 3), vi a2, vi a3] [] s
  | 0, a2, a3, h2, h3, hm, k => b186w3_39 ⟨fun z => ⟨h2, k a2 h2 ⟨fun y => by omega, fun y => by omega⟩⟩, fun z => ⟨fun _ => ⟨h2, k a2 h2 ⟨fun y => ⟨y, fun i i0 i1 => by omega⟩, fun y => y.1⟩⟩, fun y => by omega⟩⟩
  | m + 1, a2, a3, h2, h3, hm, k => b186w3_39 ⟨fun z => ⟨h2, k a2 h2 ⟨fun y => by omega, fun y => by omega⟩⟩, fun z => ⟨fun y => by omega, fun y => ⟨by omega, mSd hx (by omega), by omega, by omega, i3l hx h9 (x := x) m _ (a3 + 1) (bi_v _) (by omega) (by omega) (fun v v0 hv => k v v0 (hv.trans ⟨fun w => ⟨by omega, fun i i0 i1 => (by
      by_cases e : i = a3
      · rw [e]
        exact (bi_w _).1 w.1
      · exact w.2 i (by omega) i1)⟩, fun w => ⟨(bi_w _).2 (w.2 a3 (Int.le_refl _) (by omega)), fun i i0 i1 => w.2 i (by omega) i1⟩⟩))⟩⟩⟩
theorem i3 {d : Nat} {Q : aQ} {B : Int → Int} {n x : Int} {s : aW} (hA : mAt B n x s) (k : ∀ v, (v = 0 ∨ v = 1) → (v = 1 ↔ kTt B n x = 10000 + 1) → Q (some (vi v)) s) : aEv (d + 5) true 186 [vr 96, vr (1000 + 3)] s Q := by
  have hA' := hA
  obtain ⟨x0, x1, h5, h4, h1, h2, hx⟩ := hA'
  have ks := mKs (B := B) hx.2.1 hx.2.2.1 x0 x1
  have hn := hx.2.2.1
  have hw := mWs hA (j := 1) (by decide)
  have e1 : kWs[1] = nth [] aSTR 3 := by decide +kernel
  have e2 : ((nth [] aSTR 3).length : Int) = 4 := by decide +kernel
  simp only [e1, e2] at hw
  rw [show (10000 : Int) + ((1 : Nat) : Int) = 10000 + 1 by omega] at hw
  rw [hw] at k
  have h9 : 0 ≤ s 96 49 ∧ s 96 49 ≤ 300 := by omega
  refine e186w3 (b186w3_0 ⟨fun z => absurd h5 z, fun _ => ⟨fun z => i3l (x := x) hx h9 4 0 0 (Or.inl rfl) (by omega) (by omega) (fun v v0 hv => k v v0 (hv.trans ⟨fun y => absurd y.1 (by omega), fun y => absurd y.1 z⟩)), fun z => ⟨?_, i3l (x := x) hx h9 4 _ 0 (bi_v _) (by omega) (by omega) (fun v v0 hv => k v v0 (hv.trans ⟨fun y => ⟨z, ?_, y.2⟩, fun y => ⟨?_, y.2.2⟩⟩))⟩⟩⟩)
  · have hM : x < kMm B n := by
      apply Classical.byContradiction
      intro ne
      have := h1 (by omega)
      omega
    have ho := kEn_ok (B := B) ks.1 (ks.2.2.1 hM) hn
    have := (h2 hM).1
    omega
  · exact (bi_w _).1 y.1
  · exact (bi_w _).2 y.2.1
theorem j3 {d : Nat} {Q : aQ} {s : aW} (h : ¬ s 96 54 = 0) (k : Q (some (vi 0)) s) : aEv (d + 5) true 186 [vr 96, vr (1000 + 3)] s Q := e186w3 (b186w3_0 ⟨fun _ => b186w3_39 ⟨fun _ => ⟨Or.inl rfl, k⟩, fun z => absurd rfl z⟩, fun z => absurd z h⟩)
theorem i4l {d : Nat} {Q : aQ} {B : Int → Int} {n x : Int} {s : aW} (hx : mTx B n s) (h9 : 0 ≤ s 96 49 ∧ s 96 49 ≤ 300) : ∀ (m : Nat) (a2 a3 : Int), (a2 = 0 ∨ a2 = 1) → 0 ≤ a3 → a3 + m = 5 → (∀ v, (v = 0 ∨ v = 1) → (v = 1 ↔ (a2 = 1 ∧ ∀ i, a3 ≤ i → i < 5 → (if (s 96 47) ≤ (s 96 49 + i) then 0 else (s 123 ((s 96 46) + (s 96 49 + i)))) = nth 0 (nth [] aSTR 4) i.toNat)) → Q (some (vi v)) s) → Yx (d + 5) cd186 3 Q 39 [vr 96, vr (1000 + 4), vi a2, vi a3] [] s
  | 0, a2, a3, h2, h3, hm, k => b186w4_39 ⟨fun z => ⟨h2, k a2 h2 ⟨fun y => by omega, fun y => by omega⟩⟩, fun z => ⟨fun _ => ⟨h2, k a2 h2 ⟨fun y => ⟨y, fun i i0 i1 => by omega⟩, fun y => y.1⟩⟩, fun y => by omega⟩⟩
  | m + 1, a2, a3, h2, h3, hm, k => b186w4_39 ⟨fun z => ⟨h2, k a2 h2 ⟨fun y => by omega, fun y => by omega⟩⟩, fun z => ⟨fun y => by omega, fun y => ⟨by omega, mSd hx (by omega), by omega, by omega, i4l hx h9 (x := x) m _ (a3 + 1) (bi_v _) (by omega) (by omega) (fun v v0 hv => k v v0 (hv.trans ⟨fun w => ⟨by omega, fun i i0 i1 => (by
      by_cases e : i = a3
      · rw [e]
        exact (bi_w _).1 w.1
      · exact w.2 i (by omega) i1)⟩, fun w => ⟨(bi_w _).2 (w.2 a3 (Int.le_refl _) (by omega)), fun i i0 i1 => w.2 i (by omega) i1⟩⟩))⟩⟩⟩
theorem i4 {d : Nat} {Q : aQ} {B : Int → Int} {n x : Int} {s : aW} (hA : mAt B n x s) (k : ∀ v, (v = 0 ∨ v = 1) → (v = 1 ↔ kTt B n x = 10000 + 2) → Q (some (vi v)) s) : aEv (d + 5) true 186 [vr 96, vr (1000 + 4)] s Q := by
  have hA' := hA
  obtain ⟨x0, x1, h5, h4, h1, h2, hx⟩ := hA'
  have ks := mKs (B := B) hx.2.1 hx.2.2.1 x0 x1
  have hn := hx.2.2.1
  have hw := mWs hA (j := 2) (by decide)
  have e1 : kWs[2] = nth [] aSTR 4 := by decide +kernel
  have e2 : ((nth [] aSTR 4).length : Int) = 5 := by decide +kernel
  simp only [e1, e2] at hw
  rw [show (10000 : Int) + ((2 : Nat) : Int) = 10000 + 2 by omega] at hw
  rw [hw] at k
  have h9 : 0 ≤ s 96 49 ∧ s 96 49 ≤ 300 := by omega
  refine e186w4 (b186w4_0 ⟨fun z => absurd h5 z, fun _ => ⟨fun z => i4l (x := x) hx h9 5 0 0 (Or.inl rfl) (by omega) (by omega) (fun v v0 hv => k v v0 (hv.trans ⟨fun y => absurd y.1 (by omega), fun y => absurd y.1 z⟩)), fun z => ⟨?_, i4l (x := x) hx h9 5 _ 0 (bi_v _) (by omega) (by omega) (fun v v0 hv => k v v0 (hv.trans ⟨fun y => ⟨z, ?_, y.2⟩, fun y => ⟨?_, y.2.2⟩⟩))⟩⟩⟩)
  · have hM : x < kMm B n := by
      apply Classical.byContradiction
      intro ne
      have := h1 (by omega)
      omega
    have ho := kEn_ok (B := B) ks.1 (ks.2.2.1 hM) hn
    have := (h2 hM).1
    omega
  · exact (bi_w _).1 y.1
  · exact (bi_w _).2 y.2.1
theorem j4 {d : Nat} {Q : aQ} {s : aW} (h : ¬ s 96 54 = 0) (k : Q (some (vi 0)) s) : aEv (d + 5) true 186 [vr 96, vr (1000 + 4)] s Q := e186w4 (b186w4_0 ⟨fun _ => b186w4_39 ⟨fun _ => ⟨Or.inl rfl, k⟩, fun z => absurd rfl z⟩, fun z => absurd z h⟩)
theorem i5l {d : Nat} {Q : aQ} {B : Int → Int} {n x : Int} {s : aW} (hx : mTx B n s) (h9 : 0 ≤ s 96 49 ∧ s 96 49 ≤ 300) : ∀ (m : Nat) (a2 a3 : Int), (a2 = 0 ∨ a2 = 1) → 0 ≤ a3 → a3 + m = 4 → (∀ v, (v = 0 ∨ v = 1) → (v = 1 ↔ (a2 = 1 ∧ ∀ i, a3 ≤ i → i < 4 → (if (s 96 47) ≤ (s 96 49 + i) then 0 else (s 123 ((s 96 46) + (s 96 49 + i)))) = nth 0 (nth [] aSTR 5) i.toNat)) → Q (some (vi v)) s) → Yx (d + 5) cd186 3 Q 39 [vr 96, vr (1000 + 5), vi a2, vi a3] [] s
  | 0, a2, a3, h2, h3, hm, k => b186w5_39 ⟨fun z => ⟨h2, k a2 h2 ⟨fun y => by omega, fun y => by omega⟩⟩, fun z => ⟨fun _ => ⟨h2, k a2 h2 ⟨fun y => ⟨y, fun i i0 i1 => by omega⟩, fun y => y.1⟩⟩, fun y => by omega⟩⟩
  | m + 1, a2, a3, h2, h3, hm, k => b186w5_39 ⟨fun z => ⟨h2, k a2 h2 ⟨fun y => by omega, fun y => by omega⟩⟩, fun z => ⟨fun y => by omega, fun y => ⟨by omega, mSd hx (by omega), by omega, by omega, i5l hx h9 (x := x) m _ (a3 + 1) (bi_v _) (by omega) (by omega) (fun v v0 hv => k v v0 (hv.trans ⟨fun w => ⟨by omega, fun i i0 i1 => (by
      by_cases e : i = a3
      · rw [e]
        exact (bi_w _).1 w.1
      · exact w.2 i (by omega) i1)⟩, fun w => ⟨(bi_w _).2 (w.2 a3 (Int.le_refl _) (by omega)), fun i i0 i1 => w.2 i (by omega) i1⟩⟩))⟩⟩⟩
theorem i5 {d : Nat} {Q : aQ} {B : Int → Int} {n x : Int} {s : aW} (hA : mAt B n x s) (k : ∀ v, (v = 0 ∨ v = 1) → (v = 1 ↔ kTt B n x = 10000 + 3) → Q (some (vi v)) s) : aEv (d + 5) true 186 [vr 96, vr (1000 + 5)] s Q := by
  have hA' := hA
  obtain ⟨x0, x1, h5, h4, h1, h2, hx⟩ := hA'
  have ks := mKs (B := B) hx.2.1 hx.2.2.1 x0 x1
  have hn := hx.2.2.1
  have hw := mWs hA (j := 3) (by decide)
  have e1 : kWs[3] = nth [] aSTR 5 := by decide +kernel
  have e2 : ((nth [] aSTR 5).length : Int) = 4 := by decide +kernel
  simp only [e1, e2] at hw
  rw [show (10000 : Int) + ((3 : Nat) : Int) = 10000 + 3 by omega] at hw
  rw [hw] at k
  have h9 : 0 ≤ s 96 49 ∧ s 96 49 ≤ 300 := by omega
  refine e186w5 (b186w5_0 ⟨fun z => absurd h5 z, fun _ => ⟨fun z => i5l (x := x) hx h9 4 0 0 (Or.inl rfl) (by omega) (by omega) (fun v v0 hv => k v v0 (hv.trans ⟨fun y => absurd y.1 (by omega), fun y => absurd y.1 z⟩)), fun z => ⟨?_, i5l (x := x) hx h9 4 _ 0 (bi_v _) (by omega) (by omega) (fun v v0 hv => k v v0 (hv.trans ⟨fun y => ⟨z, ?_, y.2⟩, fun y => ⟨?_, y.2.2⟩⟩))⟩⟩⟩)
  · have hM : x < kMm B n := by
      apply Classical.byContradiction
      intro ne
      have := h1 (by omega)
      omega
    have ho := kEn_ok (B := B) ks.1 (ks.2.2.1 hM) hn
    have := (h2 hM).1
    omega
  · exact (bi_w _).1 y.1
  · exact (bi_w _).2 y.2.1
theorem j5 {d : Nat} {Q : aQ} {s : aW} (h : ¬ s 96 54 = 0) (k : Q (some (vi 0)) s) : aEv (d + 5) true 186 [vr 96, vr (1000 + 5)] s Q := e186w5 (b186w5_0 ⟨fun _ => b186w5_39 ⟨fun _ => ⟨Or.inl rfl, k⟩, fun z => absurd rfl z⟩, fun z => absurd z h⟩)
theorem i13l {d : Nat} {Q : aQ} {B : Int → Int} {n x : Int} {s : aW} (hx : mTx B n s) (h9 : 0 ≤ s 96 49 ∧ s 96 49 ≤ 300) : ∀ (m : Nat) (a2 a3 : Int), (a2 = 0 ∨ a2 = 1) → 0 ≤ a3 → a3 + m = 4 → (∀ v, (v = 0 ∨ v = 1) → (v = 1 ↔ (a2 = 1 ∧ ∀ i, a3 ≤ i → i < 4 → (if (s 96 47) ≤ (s 96 49 + i) then 0 else (s 123 ((s 96 46) + (s 96 49 + i)))) = nth 0 (nth [] aSTR 13) i.toNat)) → Q (some (vi v)) s) → Yx (d + 5) cd186 3 Q 39 [vr 96, vr (1000 + 13), vi a2, vi a3] [] s
  | 0, a2, a3, h2, h3, hm, k => b186w13_39 ⟨fun z => ⟨h2, k a2 h2 ⟨fun y => by omega, fun y => by omega⟩⟩, fun z => ⟨fun _ => ⟨h2, k a2 h2 ⟨fun y => ⟨y, fun i i0 i1 => by omega⟩, fun y => y.1⟩⟩, fun y => by omega⟩⟩
  | m + 1, a2, a3, h2, h3, hm, k => b186w13_39 ⟨fun z => ⟨h2, k a2 h2 ⟨fun y => by omega, fun y => by omega⟩⟩, fun z => ⟨fun y => by omega, fun y => ⟨by omega, mSd hx (by omega), by omega, by omega, i13l hx h9 (x := x) m _ (a3 + 1) (bi_v _) (by omega) (by omega) (fun v v0 hv => k v v0 (hv.trans ⟨fun w => ⟨by omega, fun i i0 i1 => (by
      by_cases e : i = a3
      · rw [e]
        exact (bi_w _).1 w.1
      · exact w.2 i (by omega) i1)⟩, fun w => ⟨(bi_w _).2 (w.2 a3 (Int.le_refl _) (by omega)), fun i i0 i1 => w.2 i (by omega) i1⟩⟩))⟩⟩⟩
theorem i13 {d : Nat} {Q : aQ} {B : Int → Int} {n x : Int} {s : aW} (hA : mAt B n x s) (k : ∀ v, (v = 0 ∨ v = 1) → (v = 1 ↔ kTt B n x = 10000 + 4) → Q (some (vi v)) s) : aEv (d + 5) true 186 [vr 96, vr (1000 + 13)] s Q := by
  have hA' := hA
  obtain ⟨x0, x1, h5, h4, h1, h2, hx⟩ := hA'
  have ks := mKs (B := B) hx.2.1 hx.2.2.1 x0 x1
  have hn := hx.2.2.1
  have hw := mWs hA (j := 4) (by decide)
  have e1 : kWs[4] = nth [] aSTR 13 := by decide +kernel
  have e2 : ((nth [] aSTR 13).length : Int) = 4 := by decide +kernel
  simp only [e1, e2] at hw
  rw [show (10000 : Int) + ((4 : Nat) : Int) = 10000 + 4 by omega] at hw
  rw [hw] at k
  have h9 : 0 ≤ s 96 49 ∧ s 96 49 ≤ 300 := by omega
  refine e186w13 (b186w13_0 ⟨fun z => absurd h5 z, fun _ => ⟨fun z => i13l (x := x) hx h9 4 0 0 (Or.inl rfl) (by omega) (by omega) (fun v v0 hv => k v v0 (hv.trans ⟨fun y => absurd y.1 (by omega), fun y => absurd y.1 z⟩)), fun z => ⟨?_, i13l (x := x) hx h9 4 _ 0 (bi_v _) (by omega) (by omega) (fun v v0 hv => k v v0 (hv.trans ⟨fun y => ⟨z, ?_, y.2⟩, fun y => ⟨?_, y.2.2⟩⟩))⟩⟩⟩)
  · have hM : x < kMm B n := by
      apply Classical.byContradiction
      intro ne
      have := h1 (by omega)
      omega
    have ho := kEn_ok (B := B) ks.1 (ks.2.2.1 hM) hn
    have := (h2 hM).1
    omega
  · exact (bi_w _).1 y.1
  · exact (bi_w _).2 y.2.1
theorem j13 {d : Nat} {Q : aQ} {s : aW} (h : ¬ s 96 54 = 0) (k : Q (some (vi 0)) s) : aEv (d + 5) true 186 [vr 96, vr (1000 + 13)] s Q := e186w13 (b186w13_0 ⟨fun _ => b186w13_39 ⟨fun _ => ⟨Or.inl rfl, k⟩, fun z => absurd rfl z⟩, fun z => absurd z h⟩)
theorem i15l {d : Nat} {Q : aQ} {B : Int → Int} {n x : Int} {s : aW} (hx : mTx B n s) (h9 : 0 ≤ s 96 49 ∧ s 96 49 ≤ 300) : ∀ (m : Nat) (a2 a3 : Int), (a2 = 0 ∨ a2 = 1) → 0 ≤ a3 → a3 + m = 2 → (∀ v, (v = 0 ∨ v = 1) → (v = 1 ↔ (a2 = 1 ∧ ∀ i, a3 ≤ i → i < 2 → (if (s 96 47) ≤ (s 96 49 + i) then 0 else (s 123 ((s 96 46) + (s 96 49 + i)))) = nth 0 (nth [] aSTR 15) i.toNat)) → Q (some (vi v)) s) → Yx (d + 5) cd186 3 Q 39 [vr 96, vr (1000 + 15), vi a2, vi a3] [] s
  | 0, a2, a3, h2, h3, hm, k => b186w15_39 ⟨fun z => ⟨h2, k a2 h2 ⟨fun y => by omega, fun y => by omega⟩⟩, fun z => ⟨fun _ => ⟨h2, k a2 h2 ⟨fun y => ⟨y, fun i i0 i1 => by omega⟩, fun y => y.1⟩⟩, fun y => by omega⟩⟩
  | m + 1, a2, a3, h2, h3, hm, k => b186w15_39 ⟨fun z => ⟨h2, k a2 h2 ⟨fun y => by omega, fun y => by omega⟩⟩, fun z => ⟨fun y => by omega, fun y => ⟨by omega, mSd hx (by omega), by omega, by omega, i15l hx h9 (x := x) m _ (a3 + 1) (bi_v _) (by omega) (by omega) (fun v v0 hv => k v v0 (hv.trans ⟨fun w => ⟨by omega, fun i i0 i1 => (by
      by_cases e : i = a3
      · rw [e]
        exact (bi_w _).1 w.1
      · exact w.2 i (by omega) i1)⟩, fun w => ⟨(bi_w _).2 (w.2 a3 (Int.le_refl _) (by omega)), fun i i0 i1 => w.2 i (by omega) i1⟩⟩))⟩⟩⟩
theorem i15 {d : Nat} {Q : aQ} {B : Int → Int} {n x : Int} {s : aW} (hA : mAt B n x s) (k : ∀ v, (v = 0 ∨ v = 1) → (v = 1 ↔ kTt B n x = 10000 + 5) → Q (some (vi v)) s) : aEv (d + 5) true 186 [vr 96, vr (1000 + 15)] s Q := by
  have hA' := hA
  obtain ⟨x0, x1, h5, h4, h1, h2, hx⟩ := hA'
  have ks := mKs (B := B) hx.2.1 hx.2.2.1 x0 x1
  have hn := hx.2.2.1
  have hw := mWs hA (j := 5) (by decide)
  have e1 : kWs[5] = nth [] aSTR 15 := by decide +kernel
  have e2 : ((nth [] aSTR 15).length : Int) = 2 := by decide +kernel
  simp only [e1, e2] at hw
  rw [show (10000 : Int) + ((5 : Nat) : Int) = 10000 + 5 by omega] at hw
  rw [hw] at k
  have h9 : 0 ≤ s 96 49 ∧ s 96 49 ≤ 300 := by omega
  refine e186w15 (b186w15_0 ⟨fun z => absurd h5 z, fun _ => ⟨fun z => i15l (x := x) hx h9 2 0 0 (Or.inl rfl) (by omega) (by omega) (fun v v0 hv => k v v0 (hv.trans ⟨fun y => absurd y.1 (by omega), fun y => absurd y.1 z⟩)), fun z => ⟨?_, i15l (x := x) hx h9 2 _ 0 (bi_v _) (by omega) (by omega) (fun v v0 hv => k v v0 (hv.trans ⟨fun y => ⟨z, ?_, y.2⟩, fun y => ⟨?_, y.2.2⟩⟩))⟩⟩⟩)
  · have hM : x < kMm B n := by
      apply Classical.byContradiction
      intro ne
      have := h1 (by omega)
      omega
    have ho := kEn_ok (B := B) ks.1 (ks.2.2.1 hM) hn
    have := (h2 hM).1
    omega
  · exact (bi_w _).1 y.1
  · exact (bi_w _).2 y.2.1
theorem j15 {d : Nat} {Q : aQ} {s : aW} (h : ¬ s 96 54 = 0) (k : Q (some (vi 0)) s) : aEv (d + 5) true 186 [vr 96, vr (1000 + 15)] s Q := e186w15 (b186w15_0 ⟨fun _ => b186w15_39 ⟨fun _ => ⟨Or.inl rfl, k⟩, fun z => absurd rfl z⟩, fun z => absurd z h⟩)
theorem i14l {d : Nat} {Q : aQ} {B : Int → Int} {n x : Int} {s : aW} (hx : mTx B n s) (h9 : 0 ≤ s 96 49 ∧ s 96 49 ≤ 300) : ∀ (m : Nat) (a2 a3 : Int), (a2 = 0 ∨ a2 = 1) → 0 ≤ a3 → a3 + m = 3 → (∀ v, (v = 0 ∨ v = 1) → (v = 1 ↔ (a2 = 1 ∧ ∀ i, a3 ≤ i → i < 3 → (if (s 96 47) ≤ (s 96 49 + i) then 0 else (s 123 ((s 96 46) + (s 96 49 + i)))) = nth 0 (nth [] aSTR 14) i.toNat)) → Q (some (vi v)) s) → Yx (d + 5) cd186 3 Q 39 [vr 96, vr (1000 + 14), vi a2, vi a3] [] s
  | 0, a2, a3, h2, h3, hm, k => b186w14_39 ⟨fun z => ⟨h2, k a2 h2 ⟨fun y => by omega, fun y => by omega⟩⟩, fun z => ⟨fun _ => ⟨h2, k a2 h2 ⟨fun y => ⟨y, fun i i0 i1 => by omega⟩, fun y => y.1⟩⟩, fun y => by omega⟩⟩
  | m + 1, a2, a3, h2, h3, hm, k => b186w14_39 ⟨fun z => ⟨h2, k a2 h2 ⟨fun y => by omega, fun y => by omega⟩⟩, fun z => ⟨fun y => by omega, fun y => ⟨by omega, mSd hx (by omega), by omega, by omega, i14l hx h9 (x := x) m _ (a3 + 1) (bi_v _) (by omega) (by omega) (fun v v0 hv => k v v0 (hv.trans ⟨fun w => ⟨by omega, fun i i0 i1 => (by
      by_cases e : i = a3
      · rw [e]
        exact (bi_w _).1 w.1
      · exact w.2 i (by omega) i1)⟩, fun w => ⟨(bi_w _).2 (w.2 a3 (Int.le_refl _) (by omega)), fun i i0 i1 => w.2 i (by omega) i1⟩⟩))⟩⟩⟩
theorem i14 {d : Nat} {Q : aQ} {B : Int → Int} {n x : Int} {s : aW} (hA : mAt B n x s) (k : ∀ v, (v = 0 ∨ v = 1) → (v = 1 ↔ kTt B n x = 10000 + 6) → Q (some (vi v)) s) : aEv (d + 5) true 186 [vr 96, vr (1000 + 14)] s Q := by
  have hA' := hA
  obtain ⟨x0, x1, h5, h4, h1, h2, hx⟩ := hA'
  have ks := mKs (B := B) hx.2.1 hx.2.2.1 x0 x1
  have hn := hx.2.2.1
  have hw := mWs hA (j := 6) (by decide)
  have e1 : kWs[6] = nth [] aSTR 14 := by decide +kernel
  have e2 : ((nth [] aSTR 14).length : Int) = 3 := by decide +kernel
  simp only [e1, e2] at hw
  rw [show (10000 : Int) + ((6 : Nat) : Int) = 10000 + 6 by omega] at hw
  rw [hw] at k
  have h9 : 0 ≤ s 96 49 ∧ s 96 49 ≤ 300 := by omega
  refine e186w14 (b186w14_0 ⟨fun z => absurd h5 z, fun _ => ⟨fun z => i14l (x := x) hx h9 3 0 0 (Or.inl rfl) (by omega) (by omega) (fun v v0 hv => k v v0 (hv.trans ⟨fun y => absurd y.1 (by omega), fun y => absurd y.1 z⟩)), fun z => ⟨?_, i14l (x := x) hx h9 3 _ 0 (bi_v _) (by omega) (by omega) (fun v v0 hv => k v v0 (hv.trans ⟨fun y => ⟨z, ?_, y.2⟩, fun y => ⟨?_, y.2.2⟩⟩))⟩⟩⟩)
  · have hM : x < kMm B n := by
      apply Classical.byContradiction
      intro ne
      have := h1 (by omega)
      omega
    have ho := kEn_ok (B := B) ks.1 (ks.2.2.1 hM) hn
    have := (h2 hM).1
    omega
  · exact (bi_w _).1 y.1
  · exact (bi_w _).2 y.2.1
theorem j14 {d : Nat} {Q : aQ} {s : aW} (h : ¬ s 96 54 = 0) (k : Q (some (vi 0)) s) : aEv (d + 5) true 186 [vr 96, vr (1000 + 14)] s Q := e186w14 (b186w14_0 ⟨fun _ => b186w14_39 ⟨fun _ => ⟨Or.inl rfl, k⟩, fun z => absurd rfl z⟩, fun z => absurd z h⟩)
theorem i6l {d : Nat} {Q : aQ} {B : Int → Int} {n x : Int} {s : aW} (hx : mTx B n s) (h9 : 0 ≤ s 96 49 ∧ s 96 49 ≤ 300) : ∀ (m : Nat) (a2 a3 : Int), (a2 = 0 ∨ a2 = 1) → 0 ≤ a3 → a3 + m = 3 → (∀ v, (v = 0 ∨ v = 1) → (v = 1 ↔ (a2 = 1 ∧ ∀ i, a3 ≤ i → i < 3 → (if (s 96 47) ≤ (s 96 49 + i) then 0 else (s 123 ((s 96 46) + (s 96 49 + i)))) = nth 0 (nth [] aSTR 6) i.toNat)) → Q (some (vi v)) s) → Yx (d + 5) cd186 3 Q 39 [vr 96, vr (1000 + 6), vi a2, vi a3] [] s
  | 0, a2, a3, h2, h3, hm, k => b186w6_39 ⟨fun z => ⟨h2, k a2 h2 ⟨fun y => by omega, fun y => by omega⟩⟩, fun z => ⟨fun _ => ⟨h2, k a2 h2 ⟨fun y => ⟨y, fun i i0 i1 => by omega⟩, fun y => y.1⟩⟩, fun y => by omega⟩⟩
  | m + 1, a2, a3, h2, h3, hm, k => b186w6_39 ⟨fun z => ⟨h2, k a2 h2 ⟨fun y => by omega, fun y => by omega⟩⟩, fun z => ⟨fun y => by omega, fun y => ⟨by omega, mSd hx (by omega), by omega, by omega, i6l hx h9 (x := x) m _ (a3 + 1) (bi_v _) (by omega) (by omega) (fun v v0 hv => k v v0 (hv.trans ⟨fun w => ⟨by omega, fun i i0 i1 => (by
      by_cases e : i = a3
      · rw [e]
        exact (bi_w _).1 w.1
      · exact w.2 i (by omega) i1)⟩, fun w => ⟨(bi_w _).2 (w.2 a3 (Int.le_refl _) (by omega)), fun i i0 i1 => w.2 i (by omega) i1⟩⟩))⟩⟩⟩
theorem i6 {d : Nat} {Q : aQ} {B : Int → Int} {n x : Int} {s : aW} (hA : mAt B n x s) (k : ∀ v, (v = 0 ∨ v = 1) → (v = 1 ↔ kTt B n x = 10000 + 7) → Q (some (vi v)) s) : aEv (d + 5) true 186 [vr 96, vr (1000 + 6)] s Q := by
  have hA' := hA
  obtain ⟨x0, x1, h5, h4, h1, h2, hx⟩ := hA'
  have ks := mKs (B := B) hx.2.1 hx.2.2.1 x0 x1
  have hn := hx.2.2.1
  have hw := mWs hA (j := 7) (by decide)
  have e1 : kWs[7] = nth [] aSTR 6 := by decide +kernel
  have e2 : ((nth [] aSTR 6).length : Int) = 3 := by decide +kernel
  simp only [e1, e2] at hw
  rw [show (10000 : Int) + ((7 : Nat) : Int) = 10000 + 7 by omega] at hw
  rw [hw] at k
  have h9 : 0 ≤ s 96 49 ∧ s 96 49 ≤ 300 := by omega
  refine e186w6 (b186w6_0 ⟨fun z => absurd h5 z, fun _ => ⟨fun z => i6l (x := x) hx h9 3 0 0 (Or.inl rfl) (by omega) (by omega) (fun v v0 hv => k v v0 (hv.trans ⟨fun y => absurd y.1 (by omega), fun y => absurd y.1 z⟩)), fun z => ⟨?_, i6l (x := x) hx h9 3 _ 0 (bi_v _) (by omega) (by omega) (fun v v0 hv => k v v0 (hv.trans ⟨fun y => ⟨z, ?_, y.2⟩, fun y => ⟨?_, y.2.2⟩⟩))⟩⟩⟩)
  · have hM : x < kMm B n := by
      apply Classical.byContradiction
      intro ne
      have := h1 (by omega)
      omega
    have ho := kEn_ok (B := B) ks.1 (ks.2.2.1 hM) hn
    have := (h2 hM).1
    omega
  · exact (bi_w _).1 y.1
  · exact (bi_w _).2 y.2.1
theorem j6 {d : Nat} {Q : aQ} {s : aW} (h : ¬ s 96 54 = 0) (k : Q (some (vi 0)) s) : aEv (d + 5) true 186 [vr 96, vr (1000 + 6)] s Q := e186w6 (b186w6_0 ⟨fun _ => b186w6_39 ⟨fun _ => ⟨Or.inl rfl, k⟩, fun z => absurd rfl z⟩, fun z => absurd z h⟩)
theorem i7l {d : Nat} {Q : aQ} {B : Int → Int} {n x : Int} {s : aW} (hx : mTx B n s) (h9 : 0 ≤ s 96 49 ∧ s 96 49 ≤ 300) : ∀ (m : Nat) (a2 a3 : Int), (a2 = 0 ∨ a2 = 1) → 0 ≤ a3 → a3 + m = 4 → (∀ v, (v = 0 ∨ v = 1) → (v = 1 ↔ (a2 = 1 ∧ ∀ i, a3 ≤ i → i < 4 → (if (s 96 47) ≤ (s 96 49 + i) then 0 else (s 123 ((s 96 46) + (s 96 49 + i)))) = nth 0 (nth [] aSTR 7) i.toNat)) → Q (some (vi v)) s) → Yx (d + 5) cd186 3 Q 39 [vr 96, vr (1000 + 7), vi a2, vi a3] [] s
  | 0, a2, a3, h2, h3, hm, k => b186w7_39 ⟨fun z => ⟨h2, k a2 h2 ⟨fun y => by omega, fun y => by omega⟩⟩, fun z => ⟨fun _ => ⟨h2, k a2 h2 ⟨fun y => ⟨y, fun i i0 i1 => by omega⟩, fun y => y.1⟩⟩, fun y => by omega⟩⟩
  | m + 1, a2, a3, h2, h3, hm, k => b186w7_39 ⟨fun z => ⟨h2, k a2 h2 ⟨fun y => by omega, fun y => by omega⟩⟩, fun z => ⟨fun y => by omega, fun y => ⟨by omega, mSd hx (by omega), by omega, by omega, i7l hx h9 (x := x) m _ (a3 + 1) (bi_v _) (by omega) (by omega) (fun v v0 hv => k v v0 (hv.trans ⟨fun w => ⟨by omega, fun i i0 i1 => (by
      by_cases e : i = a3
      · rw [e]
        exact (bi_w _).1 w.1
      · exact w.2 i (by omega) i1)⟩, fun w => ⟨(bi_w _).2 (w.2 a3 (Int.le_refl _) (by omega)), fun i i0 i1 => w.2 i (by omega) i1⟩⟩))⟩⟩⟩
theorem i7 {d : Nat} {Q : aQ} {B : Int → Int} {n x : Int} {s : aW} (hA : mAt B n x s) (k : ∀ v, (v = 0 ∨ v = 1) → (v = 1 ↔ kTt B n x = 10000 + 8) → Q (some (vi v)) s) : aEv (d + 5) true 186 [vr 96, vr (1000 + 7)] s Q := by
  have hA' := hA
  obtain ⟨x0, x1, h5, h4, h1, h2, hx⟩ := hA'
  have ks := mKs (B := B) hx.2.1 hx.2.2.1 x0 x1
  have hn := hx.2.2.1
  have hw := mWs hA (j := 8) (by decide)
  have e1 : kWs[8] = nth [] aSTR 7 := by decide +kernel
  have e2 : ((nth [] aSTR 7).length : Int) = 4 := by decide +kernel
  simp only [e1, e2] at hw
  rw [show (10000 : Int) + ((8 : Nat) : Int) = 10000 + 8 by omega] at hw
  rw [hw] at k
  have h9 : 0 ≤ s 96 49 ∧ s 96 49 ≤ 300 := by omega
  refine e186w7 (b186w7_0 ⟨fun z => absurd h5 z, fun _ => ⟨fun z => i7l (x := x) hx h9 4 0 0 (Or.inl rfl) (by omega) (by omega) (fun v v0 hv => k v v0 (hv.trans ⟨fun y => absurd y.1 (by omega), fun y => absurd y.1 z⟩)), fun z => ⟨?_, i7l (x := x) hx h9 4 _ 0 (bi_v _) (by omega) (by omega) (fun v v0 hv => k v v0 (hv.trans ⟨fun y => ⟨z, ?_, y.2⟩, fun y => ⟨?_, y.2.2⟩⟩))⟩⟩⟩)
  · have hM : x < kMm B n := by
      apply Classical.byContradiction
      intro ne
      have := h1 (by omega)
      omega
    have ho := kEn_ok (B := B) ks.1 (ks.2.2.1 hM) hn
    have := (h2 hM).1
    omega
  · exact (bi_w _).1 y.1
  · exact (bi_w _).2 y.2.1
theorem j7 {d : Nat} {Q : aQ} {s : aW} (h : ¬ s 96 54 = 0) (k : Q (some (vi 0)) s) : aEv (d + 5) true 186 [vr 96, vr (1000 + 7)] s Q := e186w7 (b186w7_0 ⟨fun _ => b186w7_39 ⟨fun _ => ⟨Or.inl rfl, k⟩, fun z => absurd rfl z⟩, fun z => absurd z h⟩)
theorem i8l {d : Nat} {Q : aQ} {B : Int → Int} {n x : Int} {s : aW} (hx : mTx B n s) (h9 : 0 ≤ s 96 49 ∧ s 96 49 ≤ 300) : ∀ (m : Nat) (a2 a3 : Int), (a2 = 0 ∨ a2 = 1) → 0 ≤ a3 → a3 + m = 5 → (∀ v, (v = 0 ∨ v = 1) → (v = 1 ↔ (a2 = 1 ∧ ∀ i, a3 ≤ i → i < 5 → (if (s 96 47) ≤ (s 96 49 + i) then 0 else (s 123 ((s 96 46) + (s 96 49 + i)))) = nth 0 (nth [] aSTR 8) i.toNat)) → Q (some (vi v)) s) → Yx (d + 5) cd186 3 Q 39 [vr 96, vr (1000 + 8), vi a2, vi a3] [] s
  | 0, a2, a3, h2, h3, hm, k => b186w8_39 ⟨fun z => ⟨h2, k a2 h2 ⟨fun y => by omega, fun y => by omega⟩⟩, fun z => ⟨fun _ => ⟨h2, k a2 h2 ⟨fun y => ⟨y, fun i i0 i1 => by omega⟩, fun y => y.1⟩⟩, fun y => by omega⟩⟩
  | m + 1, a2, a3, h2, h3, hm, k => b186w8_39 ⟨fun z => ⟨h2, k a2 h2 ⟨fun y => by omega, fun y => by omega⟩⟩, fun z => ⟨fun y => by omega, fun y => ⟨by omega, mSd hx (by omega), by omega, by omega, i8l hx h9 (x := x) m _ (a3 + 1) (bi_v _) (by omega) (by omega) (fun v v0 hv => k v v0 (hv.trans ⟨fun w => ⟨by omega, fun i i0 i1 => (by
      by_cases e : i = a3
      · rw [e]
        exact (bi_w _).1 w.1
      · exact w.2 i (by omega) i1)⟩, fun w => ⟨(bi_w _).2 (w.2 a3 (Int.le_refl _) (by omega)), fun i i0 i1 => w.2 i (by omega) i1⟩⟩))⟩⟩⟩
theorem i8 {d : Nat} {Q : aQ} {B : Int → Int} {n x : Int} {s : aW} (hA : mAt B n x s) (k : ∀ v, (v = 0 ∨ v = 1) → (v = 1 ↔ kTt B n x = 10000 + 9) → Q (some (vi v)) s) : aEv (d + 5) true 186 [vr 96, vr (1000 + 8)] s Q := by
  have hA' := hA
  obtain ⟨x0, x1, h5, h4, h1, h2, hx⟩ := hA'
  have ks := mKs (B := B) hx.2.1 hx.2.2.1 x0 x1
  have hn := hx.2.2.1
  have hw := mWs hA (j := 9) (by decide)
  have e1 : kWs[9] = nth [] aSTR 8 := by decide +kernel
  have e2 : ((nth [] aSTR 8).length : Int) = 5 := by decide +kernel
  simp only [e1, e2] at hw
  rw [show (10000 : Int) + ((9 : Nat) : Int) = 10000 + 9 by omega] at hw
  rw [hw] at k
  have h9 : 0 ≤ s 96 49 ∧ s 96 49 ≤ 300 := by omega
  refine e186w8 (b186w8_0 ⟨fun z => absurd h5 z, fun _ => ⟨fun z => i8l (x := x) hx h9 5 0 0 (Or.inl rfl) (by omega) (by omega) (fun v v0 hv => k v v0 (hv.trans ⟨fun y => absurd y.1 (by omega), fun y => absurd y.1 z⟩)), fun z => ⟨?_, i8l (x := x) hx h9 5 _ 0 (bi_v _) (by omega) (by omega) (fun v v0 hv => k v v0 (hv.trans ⟨fun y => ⟨z, ?_, y.2⟩, fun y => ⟨?_, y.2.2⟩⟩))⟩⟩⟩)
  · have hM : x < kMm B n := by
      apply Classical.byContradiction
      intro ne
      have := h1 (by omega)
      omega
    have ho := kEn_ok (B := B) ks.1 (ks.2.2.1 hM) hn
    have := (h2 hM).1
    omega
  · exact (bi_w _).1 y.1
  · exact (bi_w _).2 y.2.1
theorem j8 {d : Nat} {Q : aQ} {s : aW} (h : ¬ s 96 54 = 0) (k : Q (some (vi 0)) s) : aEv (d + 5) true 186 [vr 96, vr (1000 + 8)] s Q := e186w8 (b186w8_0 ⟨fun _ => b186w8_39 ⟨fun _ => ⟨Or.inl rfl, k⟩, fun z => absurd rfl z⟩, fun z => absurd z h⟩)
theorem i9l {d : Nat} {Q : aQ} {B : Int → Int} {n x : Int} {s : aW} (hx : mTx B n s) (h9 : 0 ≤ s 96 49 ∧ s 96 49 ≤ 300) : ∀ (m : Nat) (a2 a3 : Int), (a2 = 0 ∨ a2 = 1) → 0 ≤ a3 → a3 + m = 4 → (∀ v, (v = 0 ∨ v = 1) → (v = 1 ↔ (a2 = 1 ∧ ∀ i, a3 ≤ i → i < 4 → (if (s 96 47) ≤ (s 96 49 + i) then 0 else (s 123 ((s 96 46) + (s 96 49 + i)))) = nth 0 (nth [] aSTR 9) i.toNat)) → Q (some (vi v)) s) → Yx (d + 5) cd186 3 Q 39 [vr 96, vr (1000 + 9), vi a2, vi a3] [] s
  | 0, a2, a3, h2, h3, hm, k => b186w9_39 ⟨fun z => ⟨h2, k a2 h2 ⟨fun y => by omega, fun y => by omega⟩⟩, fun z => ⟨fun _ => ⟨h2, k a2 h2 ⟨fun y => ⟨y, fun i i0 i1 => by omega⟩, fun y => y.1⟩⟩, fun y => by omega⟩⟩
  | m + 1, a2, a3, h2, h3, hm, k => b186w9_39 ⟨fun z => ⟨h2, k a2 h2 ⟨fun y => by omega, fun y => by omega⟩⟩, fun z => ⟨fun y => by omega, fun y => ⟨by omega, mSd hx (by omega), by omega, by omega, i9l hx h9 (x := x) m _ (a3 + 1) (bi_v _) (by omega) (by omega) (fun v v0 hv => k v v0 (hv.trans ⟨fun w => ⟨by omega, fun i i0 i1 => (by
      by_cases e : i = a3
      · rw [e]
        exact (bi_w _).1 w.1
      · exact w.2 i (by omega) i1)⟩, fun w => ⟨(bi_w _).2 (w.2 a3 (Int.le_refl _) (by omega)), fun i i0 i1 => w.2 i (by omega) i1⟩⟩))⟩⟩⟩
theorem i9 {d : Nat} {Q : aQ} {B : Int → Int} {n x : Int} {s : aW} (hA : mAt B n x s) (k : ∀ v, (v = 0 ∨ v = 1) → (v = 1 ↔ kTt B n x = 10000 + 10) → Q (some (vi v)) s) : aEv (d + 5) true 186 [vr 96, vr (1000 + 9)] s Q := by
  have hA' := hA
  obtain ⟨x0, x1, h5, h4, h1, h2, hx⟩ := hA'
  have ks := mKs (B := B) hx.2.1 hx.2.2.1 x0 x1
  have hn := hx.2.2.1
  have hw := mWs hA (j := 10) (by decide)
  have e1 : kWs[10] = nth [] aSTR 9 := by decide +kernel
  have e2 : ((nth [] aSTR 9).length : Int) = 4 := by decide +kernel
  simp only [e1, e2] at hw
  rw [show (10000 : Int) + ((10 : Nat) : Int) = 10000 + 10 by omega] at hw
  rw [hw] at k
  have h9 : 0 ≤ s 96 49 ∧ s 96 49 ≤ 300 := by omega
  refine e186w9 (b186w9_0 ⟨fun z => absurd h5 z, fun _ => ⟨fun z => i9l (x := x) hx h9 4 0 0 (Or.inl rfl) (by omega) (by omega) (fun v v0 hv => k v v0 (hv.trans ⟨fun y => absurd y.1 (by omega), fun y => absurd y.1 z⟩)), fun z => ⟨?_, i9l (x := x) hx h9 4 _ 0 (bi_v _) (by omega) (by omega) (fun v v0 hv => k v v0 (hv.trans ⟨fun y => ⟨z, ?_, y.2⟩, fun y => ⟨?_, y.2.2⟩⟩))⟩⟩⟩)
  · have hM : x < kMm B n := by
      apply Classical.byContradiction
      intro ne
      have := h1 (by omega)
      omega
    have ho := kEn_ok (B := B) ks.1 (ks.2.2.1 hM) hn
    have := (h2 hM).1
    omega
  · exact (bi_w _).1 y.1
  · exact (bi_w _).2 y.2.1
theorem j9 {d : Nat} {Q : aQ} {s : aW} (h : ¬ s 96 54 = 0) (k : Q (some (vi 0)) s) : aEv (d + 5) true 186 [vr 96, vr (1000 + 9)] s Q := e186w9 (b186w9_0 ⟨fun _ => b186w9_39 ⟨fun _ => ⟨Or.inl rfl, k⟩, fun z => absurd rfl z⟩, fun z => absurd z h⟩)
theorem i10l {d : Nat} {Q : aQ} {B : Int → Int} {n x : Int} {s : aW} (hx : mTx B n s) (h9 : 0 ≤ s 96 49 ∧ s 96 49 ≤ 300) : ∀ (m : Nat) (a2 a3 : Int), (a2 = 0 ∨ a2 = 1) → 0 ≤ a3 → a3 + m = 4 → (∀ v, (v = 0 ∨ v = 1) → (v = 1 ↔ (a2 = 1 ∧ ∀ i, a3 ≤ i → i < 4 → (if (s 96 47) ≤ (s 96 49 + i) then 0 else (s 123 ((s 96 46) + (s 96 49 + i)))) = nth 0 (nth [] aSTR 10) i.toNat)) → Q (some (vi v)) s) → Yx (d + 5) cd186 3 Q 39 [vr 96, vr (1000 + 10), vi a2, vi a3] [] s
  | 0, a2, a3, h2, h3, hm, k => b186w10_39 ⟨fun z => ⟨h2, k a2 h2 ⟨fun y => by omega, fun y => by omega⟩⟩, fun z => ⟨fun _ => ⟨h2, k a2 h2 ⟨fun y => ⟨y, fun i i0 i1 => by omega⟩, fun y => y.1⟩⟩, fun y => by omega⟩⟩
  | m + 1, a2, a3, h2, h3, hm, k => b186w10_39 ⟨fun z => ⟨h2, k a2 h2 ⟨fun y => by omega, fun y => by omega⟩⟩, fun z => ⟨fun y => by omega, fun y => ⟨by omega, mSd hx (by omega), by omega, by omega, i10l hx h9 (x := x) m _ (a3 + 1) (bi_v _) (by omega) (by omega) (fun v v0 hv => k v v0 (hv.trans ⟨fun w => ⟨by omega, fun i i0 i1 => (by
      by_cases e : i = a3
      · rw [e]
        exact (bi_w _).1 w.1
      · exact w.2 i (by omega) i1)⟩, fun w => ⟨(bi_w _).2 (w.2 a3 (Int.le_refl _) (by omega)), fun i i0 i1 => w.2 i (by omega) i1⟩⟩))⟩⟩⟩
theorem i10 {d : Nat} {Q : aQ} {B : Int → Int} {n x : Int} {s : aW} (hA : mAt B n x s) (k : ∀ v, (v = 0 ∨ v = 1) → (v = 1 ↔ kTt B n x = 10000 + 11) → Q (some (vi v)) s) : aEv (d + 5) true 186 [vr 96, vr (1000 + 10)] s Q := by
  have hA' := hA
  obtain ⟨x0, x1, h5, h4, h1, h2, hx⟩ := hA'
  have ks := mKs (B := B) hx.2.1 hx.2.2.1 x0 x1
  have hn := hx.2.2.1
  have hw := mWs hA (j := 11) (by decide)
  have e1 : kWs[11] = nth [] aSTR 10 := by decide +kernel
  have e2 : ((nth [] aSTR 10).length : Int) = 4 := by decide +kernel
  simp only [e1, e2] at hw
  rw [show (10000 : Int) + ((11 : Nat) : Int) = 10000 + 11 by omega] at hw
  rw [hw] at k
  have h9 : 0 ≤ s 96 49 ∧ s 96 49 ≤ 300 := by omega
  refine e186w10 (b186w10_0 ⟨fun z => absurd h5 z, fun _ => ⟨fun z => i10l (x := x) hx h9 4 0 0 (Or.inl rfl) (by omega) (by omega) (fun v v0 hv => k v v0 (hv.trans ⟨fun y => absurd y.1 (by omega), fun y => absurd y.1 z⟩)), fun z => ⟨?_, i10l (x := x) hx h9 4 _ 0 (bi_v _) (by omega) (by omega) (fun v v0 hv => k v v0 (hv.trans ⟨fun y => ⟨z, ?_, y.2⟩, fun y => ⟨?_, y.2.2⟩⟩))⟩⟩⟩)
  · have hM : x < kMm B n := by
      apply Classical.byContradiction
      intro ne
      have := h1 (by omega)
      omega
    have ho := kEn_ok (B := B) ks.1 (ks.2.2.1 hM) hn
    have := (h2 hM).1
    omega
  · exact (bi_w _).1 y.1
  · exact (bi_w _).2 y.2.1
theorem j10 {d : Nat} {Q : aQ} {s : aW} (h : ¬ s 96 54 = 0) (k : Q (some (vi 0)) s) : aEv (d + 5) true 186 [vr 96, vr (1000 + 10)] s Q := e186w10 (b186w10_0 ⟨fun _ => b186w10_39 ⟨fun _ => ⟨Or.inl rfl, k⟩, fun z => absurd rfl z⟩, fun z => absurd z h⟩)
theorem i11l {d : Nat} {Q : aQ} {B : Int → Int} {n x : Int} {s : aW} (hx : mTx B n s) (h9 : 0 ≤ s 96 49 ∧ s 96 49 ≤ 300) : ∀ (m : Nat) (a2 a3 : Int), (a2 = 0 ∨ a2 = 1) → 0 ≤ a3 → a3 + m = 4 → (∀ v, (v = 0 ∨ v = 1) → (v = 1 ↔ (a2 = 1 ∧ ∀ i, a3 ≤ i → i < 4 → (if (s 96 47) ≤ (s 96 49 + i) then 0 else (s 123 ((s 96 46) + (s 96 49 + i)))) = nth 0 (nth [] aSTR 11) i.toNat)) → Q (some (vi v)) s) → Yx (d + 5) cd186 3 Q 39 [vr 96, vr (1000 + 11), vi a2, vi a3] [] s
  | 0, a2, a3, h2, h3, hm, k => b186w11_39 ⟨fun z => ⟨h2, k a2 h2 ⟨fun y => by omega, fun y => by omega⟩⟩, fun z => ⟨fun _ => ⟨h2, k a2 h2 ⟨fun y => ⟨y, fun i i0 i1 => by omega⟩, fun y => y.1⟩⟩, fun y => by omega⟩⟩
  | m + 1, a2, a3, h2, h3, hm, k => b186w11_39 ⟨fun z => ⟨h2, k a2 h2 ⟨fun y => by omega, fun y => by omega⟩⟩, fun z => ⟨fun y => by omega, fun y => ⟨by omega, mSd hx (by omega), by omega, by omega, i11l hx h9 (x := x) m _ (a3 + 1) (bi_v _) (by omega) (by omega) (fun v v0 hv => k v v0 (hv.trans ⟨fun w => ⟨by omega, fun i i0 i1 => (by
      by_cases e : i = a3
      · rw [e]
        exact (bi_w _).1 w.1
      · exact w.2 i (by omega) i1)⟩, fun w => ⟨(bi_w _).2 (w.2 a3 (Int.le_refl _) (by omega)), fun i i0 i1 => w.2 i (by omega) i1⟩⟩))⟩⟩⟩
theorem i11 {d : Nat} {Q : aQ} {B : Int → Int} {n x : Int} {s : aW} (hA : mAt B n x s) (k : ∀ v, (v = 0 ∨ v = 1) → (v = 1 ↔ kTt B n x = 10000 + 12) → Q (some (vi v)) s) : aEv (d + 5) true 186 [vr 96, vr (1000 + 11)] s Q := by
  have hA' := hA
  obtain ⟨x0, x1, h5, h4, h1, h2, hx⟩ := hA'
  have ks := mKs (B := B) hx.2.1 hx.2.2.1 x0 x1
  have hn := hx.2.2.1
  have hw := mWs hA (j := 12) (by decide)
  have e1 : kWs[12] = nth [] aSTR 11 := by decide +kernel
  have e2 : ((nth [] aSTR 11).length : Int) = 4 := by decide +kernel
  simp only [e1, e2] at hw
  rw [show (10000 : Int) + ((12 : Nat) : Int) = 10000 + 12 by omega] at hw
  rw [hw] at k
  have h9 : 0 ≤ s 96 49 ∧ s 96 49 ≤ 300 := by omega
  refine e186w11 (b186w11_0 ⟨fun z => absurd h5 z, fun _ => ⟨fun z => i11l (x := x) hx h9 4 0 0 (Or.inl rfl) (by omega) (by omega) (fun v v0 hv => k v v0 (hv.trans ⟨fun y => absurd y.1 (by omega), fun y => absurd y.1 z⟩)), fun z => ⟨?_, i11l (x := x) hx h9 4 _ 0 (bi_v _) (by omega) (by omega) (fun v v0 hv => k v v0 (hv.trans ⟨fun y => ⟨z, ?_, y.2⟩, fun y => ⟨?_, y.2.2⟩⟩))⟩⟩⟩)
  · have hM : x < kMm B n := by
      apply Classical.byContradiction
      intro ne
      have := h1 (by omega)
      omega
    have ho := kEn_ok (B := B) ks.1 (ks.2.2.1 hM) hn
    have := (h2 hM).1
    omega
  · exact (bi_w _).1 y.1
  · exact (bi_w _).2 y.2.1
theorem j11 {d : Nat} {Q : aQ} {s : aW} (h : ¬ s 96 54 = 0) (k : Q (some (vi 0)) s) : aEv (d + 5) true 186 [vr 96, vr (1000 + 11)] s Q := e186w11 (b186w11_0 ⟨fun _ => b186w11_39 ⟨fun _ => ⟨Or.inl rfl, k⟩, fun z => absurd rfl z⟩, fun z => absurd z h⟩)
theorem i12l {d : Nat} {Q : aQ} {B : Int → Int} {n x : Int} {s : aW} (hx : mTx B n s) (h9 : 0 ≤ s 96 49 ∧ s 96 49 ≤ 300) : ∀ (m : Nat) (a2 a3 : Int), (a2 = 0 ∨ a2 = 1) → 0 ≤ a3 → a3 + m = 4 → (∀ v, (v = 0 ∨ v = 1) → (v = 1 ↔ (a2 = 1 ∧ ∀ i, a3 ≤ i → i < 4 → (if (s 96 47) ≤ (s 96 49 + i) then 0 else (s 123 ((s 96 46) + (s 96 49 + i)))) = nth 0 (nth [] aSTR 12) i.toNat)) → Q (some (vi v)) s) → Yx (d + 5) cd186 3 Q 39 [vr 96, vr (1000 + 12), vi a2, vi a3] [] s
  | 0, a2, a3, h2, h3, hm, k => b186w12_39 ⟨fun z => ⟨h2, k a2 h2 ⟨fun y => by omega, fun y => by omega⟩⟩, fun z => ⟨fun _ => ⟨h2, k a2 h2 ⟨fun y => ⟨y, fun i i0 i1 => by omega⟩, fun y => y.1⟩⟩, fun y => by omega⟩⟩
  | m + 1, a2, a3, h2, h3, hm, k => b186w12_39 ⟨fun z => ⟨h2, k a2 h2 ⟨fun y => by omega, fun y => by omega⟩⟩, fun z => ⟨fun y => by omega, fun y => ⟨by omega, mSd hx (by omega), by omega, by omega, i12l hx h9 (x := x) m _ (a3 + 1) (bi_v _) (by omega) (by omega) (fun v v0 hv => k v v0 (hv.trans ⟨fun w => ⟨by omega, fun i i0 i1 => (by
      by_cases e : i = a3
      · rw [e]
        exact (bi_w _).1 w.1
      · exact w.2 i (by omega) i1)⟩, fun w => ⟨(bi_w _).2 (w.2 a3 (Int.le_refl _) (by omega)), fun i i0 i1 => w.2 i (by omega) i1⟩⟩))⟩⟩⟩
theorem i12 {d : Nat} {Q : aQ} {B : Int → Int} {n x : Int} {s : aW} (hA : mAt B n x s) (k : ∀ v, (v = 0 ∨ v = 1) → (v = 1 ↔ kTt B n x = 10000 + 13) → Q (some (vi v)) s) : aEv (d + 5) true 186 [vr 96, vr (1000 + 12)] s Q := by
  have hA' := hA
  obtain ⟨x0, x1, h5, h4, h1, h2, hx⟩ := hA'
  have ks := mKs (B := B) hx.2.1 hx.2.2.1 x0 x1
  have hn := hx.2.2.1
  have hw := mWs hA (j := 13) (by decide)
  have e1 : kWs[13] = nth [] aSTR 12 := by decide +kernel
  have e2 : ((nth [] aSTR 12).length : Int) = 4 := by decide +kernel
  simp only [e1, e2] at hw
  rw [show (10000 : Int) + ((13 : Nat) : Int) = 10000 + 13 by omega] at hw
  rw [hw] at k
  have h9 : 0 ≤ s 96 49 ∧ s 96 49 ≤ 300 := by omega
  refine e186w12 (b186w12_0 ⟨fun z => absurd h5 z, fun _ => ⟨fun z => i12l (x := x) hx h9 4 0 0 (Or.inl rfl) (by omega) (by omega) (fun v v0 hv => k v v0 (hv.trans ⟨fun y => absurd y.1 (by omega), fun y => absurd y.1 z⟩)), fun z => ⟨?_, i12l (x := x) hx h9 4 _ 0 (bi_v _) (by omega) (by omega) (fun v v0 hv => k v v0 (hv.trans ⟨fun y => ⟨z, ?_, y.2⟩, fun y => ⟨?_, y.2.2⟩⟩))⟩⟩⟩)
  · have hM : x < kMm B n := by
      apply Classical.byContradiction
      intro ne
      have := h1 (by omega)
      omega
    have ho := kEn_ok (B := B) ks.1 (ks.2.2.1 hM) hn
    have := (h2 hM).1
    omega
  · exact (bi_w _).1 y.1
  · exact (bi_w _).2 y.2.1
theorem j12 {d : Nat} {Q : aQ} {s : aW} (h : ¬ s 96 54 = 0) (k : Q (some (vi 0)) s) : aEv (d + 5) true 186 [vr 96, vr (1000 + 12)] s Q := e186w12 (b186w12_0 ⟨fun _ => b186w12_39 ⟨fun _ => ⟨Or.inl rfl, k⟩, fun z => absurd rfl z⟩, fun z => absurd z h⟩)
end
