section
/-! rules: tokens -/
def sk (p : Int → Bool) : Nat → Int → Int
  | 0, i => i
  | f + 1, i => if p i = true then sk p f (i + 1) else i
theorem sk_ok {p : Int → Bool} {n : Int} (hp : ∀ i, p i = true → i < n) : ∀ (f : Nat) (i : Int), n - i ≤ f → i ≤ sk p f i ∧ p (sk p f i) = false ∧ (∀ x, i ≤ x → x < sk p f i → p x = true) ∧ (i ≤ n → sk p f i ≤ n)
  | 0, i, h => by
    have e : sk p 0 i = i := rfl
    rw [e]
    refine ⟨Int.le_refl _, ?_, fun x x0 x1 => by omega, fun z => z⟩
    cases hc : p i with
    | false => rfl
    | true =>
      have := hp i hc
      omega
  | f + 1, i, h => by
    show i ≤ (if p i = true then sk p f (i + 1) else i) ∧ p (if p i = true then sk p f (i + 1) else i) = false ∧ (∀ x, i ≤ x → x < (if p i = true then sk p f (i + 1) else i) → p x = true) ∧ (i ≤ n → (if p i = true then sk p f (i + 1) else i) ≤ n)
    by_cases hc : p i = true
    · rw [if_pos hc]
      have hi := hp i hc
      obtain ⟨a1, a2, a3, a4⟩ := sk_ok hp f (i + 1) (by omega)
      refine ⟨by omega, a2, fun x x0 x1 => ?_, fun _ => a4 (by omega)⟩
      by_cases e : x = i
      · rw [e]; exact hc
      · exact a3 x (by omega) x1
    · rw [if_neg hc]
      refine ⟨Int.le_refl _, by simpa using hc, fun x x0 x1 => by omega, fun z => z⟩
theorem sk_u {p : Int → Bool} {n i r : Int} {f : Nat} (hp : ∀ i, p i = true → i < n) (hf : n - i ≤ f) (h1 : i ≤ r) (h2 : p r = false) (h3 : ∀ x, i ≤ x → x < r → p x = true) : r = sk p f i := by
  obtain ⟨a1, a2, a3, -⟩ := sk_ok hp f i hf
  apply Classical.byContradiction
  intro ne
  by_cases e : r < sk p f i
  · rw [a3 r h1 e] at h2
    cases h2
  · rw [h3 _ a1 (by omega)] at a2
    cases a2
def pBl (B : Int → Int) (n i : Int) : Bool := decide (i < n ∧ (B i = 32 ∨ B i = 10))
def pLe (B : Int → Int) (n i : Int) : Bool := decide (i < n ∧ 97 ≤ B i ∧ B i ≤ 122)
def pDi (B : Int → Int) (n i : Int) : Bool := decide (i < n ∧ 48 ≤ B i ∧ B i ≤ 57)
theorem pBl_n {B : Int → Int} {n : Int} : ∀ i, pBl B n i = true → i < n := fun i h => by unfold pBl at h; simp at h; exact h.1
theorem pLe_n {B : Int → Int} {n : Int} : ∀ i, pLe B n i = true → i < n := fun i h => by unfold pLe at h; simp at h; exact h.1
theorem pDi_n {B : Int → Int} {n : Int} : ∀ i, pDi B n i = true → i < n := fun i h => by unfold pDi at h; simp at h; exact h.1
def kNx (B : Int → Int) (n i : Int) : Int := sk (pBl B n) 400 i
def kEn (B : Int → Int) (n i : Int) : Int := if 97 ≤ B i ∧ B i ≤ 122 then sk (pLe B n) 400 (i + 1) else if 48 ≤ B i ∧ B i ≤ 57 then sk (pDi B n) 400 (i + 1) else i + 1
def kSp (B : Int → Int) (n : Int) : Nat → Int
  | 0 => kNx B n 0
  | k + 1 => kNx B n (kEn B n (kSp B n k))
theorem kNx_ok {B : Int → Int} {n i : Int} (i0 : 0 ≤ i) (i1 : i ≤ n) (hn : n ≤ 300) : i ≤ kNx B n i ∧ kNx B n i ≤ n ∧ (kNx B n i < n → ¬ (B (kNx B n i) = 32 ∨ B (kNx B n i) = 10)) ∧ (∀ x, i ≤ x → x < kNx B n i → B x = 32 ∨ B x = 10) := by
  obtain ⟨a1, a2, a3, a4⟩ := sk_ok (pBl_n (B := B) (n := n)) 400 i (by omega)
  refine ⟨a1, a4 i1, fun h z => ?_, fun x x0 x1 => ?_⟩
  · have : pBl B n (kNx B n i) = true := by unfold pBl; simp; exact ⟨h, z⟩
    rw [show pBl B n (kNx B n i) = false from a2] at this
    cases this
  · have := a3 x x0 x1
    unfold pBl at this
    simp at this
    exact this.2
theorem kEn_ok {B : Int → Int} {n i : Int} (i0 : 0 ≤ i) (i1 : i < n) (hn : n ≤ 300) : i < kEn B n i ∧ kEn B n i ≤ n ∧ (97 ≤ B i ∧ B i ≤ 122 → (∀ x, i ≤ x → x < kEn B n i → 97 ≤ B x ∧ B x ≤ 122) ∧ (kEn B n i < n → ¬ (97 ≤ B (kEn B n i) ∧ B (kEn B n i) ≤ 122))) ∧ (48 ≤ B i ∧ B i ≤ 57 → (∀ x, i ≤ x → x < kEn B n i → 48 ≤ B x ∧ B x ≤ 57) ∧ (kEn B n i < n → ¬ (48 ≤ B (kEn B n i) ∧ B (kEn B n i) ≤ 57))) ∧ (¬ (97 ≤ B i ∧ B i ≤ 122) → ¬ (48 ≤ B i ∧ B i ≤ 57) → kEn B n i = i + 1) := by
  unfold kEn
  by_cases h1 : 97 ≤ B i ∧ B i ≤ 122
  · rw [if_pos h1]
    obtain ⟨a1, a2, a3, a4⟩ := sk_ok (pLe_n (B := B) (n := n)) 400 (i + 1) (by omega)
    refine ⟨by omega, a4 (by omega), fun _ => ⟨fun x x0 x1 => ?_, fun h z => ?_⟩, fun z => by omega, fun z => absurd h1 z⟩
    · by_cases e : x = i
      · rw [e]; exact h1
      · have := a3 x (by omega) x1
        unfold pLe at this
        simp at this
        exact this.2
    · have : pLe B n (sk (pLe B n) 400 (i + 1)) = true := by unfold pLe at *; simp only [decide_eq_true_eq]; exact ⟨h, z⟩
      rw [a2] at this
      cases this
  · rw [if_neg h1]
    by_cases h2 : 48 ≤ B i ∧ B i ≤ 57
    · rw [if_pos h2]
      obtain ⟨a1, a2, a3, a4⟩ := sk_ok (pDi_n (B := B) (n := n)) 400 (i + 1) (by omega)
      refine ⟨by omega, a4 (by omega), fun z => absurd z h1, fun _ => ⟨fun x x0 x1 => ?_, fun h z => ?_⟩, fun _ z => absurd h2 z⟩
      · by_cases e : x = i
        · rw [e]; exact h2
        · have := a3 x (by omega) x1
          unfold pDi at this
          simp at this
          exact this.2
      · have : pDi B n (sk (pDi B n) 400 (i + 1)) = true := by unfold pDi at *; simp only [decide_eq_true_eq]; exact ⟨h, z⟩
        rw [a2] at this
        cases this
    · rw [if_neg h2]
      exact ⟨by omega, by omega, fun z => absurd z h1, fun z => absurd z h2, fun _ _ => rfl⟩
/-- a token begins here -/
def kS0 (B : Int → Int) (i : Int) : Prop := ¬ (B i = 32 ∨ B i = 10) ∧ ¬ (0 < i ∧ ((97 ≤ B i ∧ B i ≤ 122 ∧ 97 ≤ B (i - 1) ∧ B (i - 1) ≤ 122) ∨ (48 ≤ B i ∧ B i ≤ 57 ∧ 48 ≤ B (i - 1) ∧ B (i - 1) ≤ 57)))
theorem kSp_s {B : Int → Int} {n : Int} (n0 : 0 ≤ n) (hn : n ≤ 300) : ∀ k : Nat, (∀ j, j < k → kSp B n j < n) → (k : Int) ≤ kSp B n k ∧ kSp B n k ≤ n ∧ (kSp B n k < n → kS0 B (kSp B n k)) ∧ (∀ x, (match k with
    | 0 => 0
    | j + 1 => kSp B n j + 1) ≤ x → x < kSp B n k → ¬ kS0 B x)
  | 0, _ => by
    obtain ⟨a1, a2, a3, a4⟩ := kNx_ok (B := B) (Int.le_refl 0) n0 hn
    show ((0 : Nat) : Int) ≤ kNx B n 0 ∧ kNx B n 0 ≤ n ∧ (kNx B n 0 < n → kS0 B (kNx B n 0)) ∧ (∀ x, (0 : Int) ≤ x → x < kNx B n 0 → ¬ kS0 B x)
    refine ⟨by omega, a2, fun h => ⟨a3 h, fun z => ?_⟩, fun x x0 x1 z => z.1 (a4 x x0 x1)⟩
    have := a4 (kNx B n 0 - 1) (by omega) (by omega)
    omega
  | k + 1, h => by
    obtain ⟨b1, b2, b3, -⟩ := kSp_s n0 hn k (fun j hj => h j (by omega))
    have hk := h k (by omega)
    have s0 := b3 hk
    have k0 : 0 ≤ kSp B n k := by omega
    obtain ⟨e1, e2, e3, e4, e5⟩ := kEn_ok (B := B) k0 hk hn
    obtain ⟨a1, a2, a3, a4⟩ := kNx_ok (B := B) (show 0 ≤ kEn B n (kSp B n k) by omega) e2 hn
    show ((k + 1 : Nat) : Int) ≤ kNx B n (kEn B n (kSp B n k)) ∧ kNx B n (kEn B n (kSp B n k)) ≤ n ∧ (kNx B n (kEn B n (kSp B n k)) < n → kS0 B (kNx B n (kEn B n (kSp B n k)))) ∧ (∀ x, kSp B n k + 1 ≤ x → x < kNx B n (kEn B n (kSp B n k)) → ¬ kS0 B x)
    generalize hE : kEn B n (kSp B n k) = E at *
    generalize hX : kNx B n E = X at *
    refine ⟨by omega, a2, fun hx => ⟨a3 hx, fun z => ?_⟩, fun x x0 x1 z => ?_⟩
    · by_cases q : X = E
      · by_cases l1 : 97 ≤ B (kSp B n k) ∧ B (kSp B n k) ≤ 122
        · have r1 := (e3 l1).1 (E - 1) (by omega) (by omega)
          have r2 := (e3 l1).2 (by omega)
          rw [q] at z
          omega
        · by_cases l2 : 48 ≤ B (kSp B n k) ∧ B (kSp B n k) ≤ 57
          · have r1 := (e4 l2).1 (E - 1) (by omega) (by omega)
            have r2 := (e4 l2).2 (by omega)
            rw [q] at z
            omega
          · have r := e5 l1 l2
            rw [q, r, show kSp B n k + 1 - 1 = kSp B n k by omega] at z
            omega
      · have := a4 (X - 1) (by omega) (by omega)
        omega
    · by_cases q : x < E
      · by_cases l1 : 97 ≤ B (kSp B n k) ∧ B (kSp B n k) ≤ 122
        · have r1 := (e3 l1).1 (x - 1) (by omega) (by omega)
          have r2 := (e3 l1).1 x (by omega) q
          exact z.2 ⟨by omega, Or.inl ⟨r2.1, r2.2, r1.1, r1.2⟩⟩
        · by_cases l2 : 48 ≤ B (kSp B n k) ∧ B (kSp B n k) ≤ 57
          · have r1 := (e4 l2).1 (x - 1) (by omega) (by omega)
            have r2 := (e4 l2).1 x (by omega) q
            exact z.2 ⟨by omega, Or.inr ⟨r2.1, r2.2, r1.1, r1.2⟩⟩
          · have r := e5 l1 l2
            omega
      · exact z.1 (a4 x (by omega) x1)
/-- the number of tokens -/
def kEe (B : Int → Int) (n : Int) (k : Nat) : Prop := kSp B n k = n ∧ ∀ j, j < k → kSp B n j < n
theorem kEe_ex {B : Int → Int} {n : Int} (n0 : 0 ≤ n) (hn : n ≤ 300) : ∃ k, kEe B n k := by
  apply Classical.byContradiction
  intro hx
  have key : ∀ i : Nat, ∀ j, j < i → kSp B n j < n := by
    intro i
    induction i with
    | zero => exact fun j hj => absurd hj (by omega)
    | succ i ih =>
      intro j hj
      by_cases e : j = i
      · subst e
        have := (kSp_s (B := B) n0 hn j ih).2.1
        by_cases q : kSp B n j = n
        · exact absurd ⟨j, q, ih⟩ hx
        · omega
      · exact ih j (by omega)
  have a := kSp_s (B := B) n0 hn 301 (key 301)
  omega
noncomputable def kMm (B : Int → Int) (n : Int) : Nat := Classical.epsilon (kEe B n)
theorem kMm_ok {B : Int → Int} {n : Int} (n0 : 0 ≤ n) (hn : n ≤ 300) : kEe B n (kMm B n) ∧ (kMm B n : Int) ≤ n := by
  have h := Classical.epsilon_spec (p := kEe B n) (kEe_ex n0 hn)
  have a := kSp_s (B := B) n0 hn (kMm B n) h.2
  have e : kSp B n (kMm B n) = n := h.1
  exact ⟨h, by omega⟩
/-! words, numbers, signs -/
def kMw (B : Int → Int) : Int → Int → List Int → Bool
  | p, e, [] => decide (p = e)
  | p, e, c :: l => decide (p < e ∧ B p = c) && kMw B (p + 1) e l
def kWd (B : Int → Int) (i e : Int) : List (List Int) → Int → Int
  | [], _ => 30001
  | w :: ws, nm => if kMw B i e w = true then 10000 + nm else kWd B i e ws (nm + 1)
theorem kMw_u {B : Int → Int} {e : Int} : ∀ {p : Int} {w w' : List Int}, kMw B p e w = true → kMw B p e w' = true → w = w'
  | p, [], [], _, _ => rfl
  | p, [], c :: l, h, h' => by
    simp [kMw] at h h'
    omega
  | p, c :: l, [], h, h' => by
    simp [kMw] at h h'
    omega
  | p, c :: l, c' :: l', h, h' => by
    simp [kMw] at h h'
    rw [kMw_u (p := p + 1) (w := l) (w' := l') h.2 h'.2, ← h.1.2, h'.1.2]
theorem kWd_r {B : Int → Int} {i e : Int} : ∀ (ws : List (List Int)) (nm : Int), kWd B i e ws nm = 30001 ∨ (10000 + nm ≤ kWd B i e ws nm ∧ kWd B i e ws nm < 10000 + nm + ws.length)
  | [], _ => Or.inl rfl
  | w :: ws, nm => by
    have ih := kWd_r (B := B) (i := i) (e := e) ws (nm + 1)
    show (if kMw B i e w = true then 10000 + nm else kWd B i e ws (nm + 1)) = 30001 ∨ (10000 + nm ≤ (if kMw B i e w = true then 10000 + nm else kWd B i e ws (nm + 1)) ∧ (if kMw B i e w = true then 10000 + nm else kWd B i e ws (nm + 1)) < 10000 + nm + ((ws.length + 1 : Nat) : Int))
    split
    · exact Or.inr ⟨by omega, by omega⟩
    · omega
theorem kWd_i {B : Int → Int} {i e : Int} : ∀ {ws : List (List Int)} {nm : Int} {j : Nat} (hj : j < ws.length), 0 ≤ nm → nm + ws.length ≤ 100 → ws.Nodup → (kWd B i e ws nm = 10000 + nm + j ↔ kMw B i e (ws[j]) = true)
  | w :: ws, nm, 0, hj, h0, h1, hd => by
    simp only [List.length_cons] at h1
    have r := kWd_r (B := B) (i := i) (e := e) ws (nm + 1)
    show (if kMw B i e w = true then 10000 + nm else kWd B i e ws (nm + 1)) = 10000 + nm + ((0 : Nat) : Int) ↔ kMw B i e w = true
    by_cases hc : kMw B i e w = true
    · rw [if_pos hc]
      exact ⟨fun _ => hc, fun _ => by omega⟩
    · rw [if_neg hc]
      exact ⟨fun z => by omega, fun z => absurd z hc⟩
  | w :: ws, nm, j + 1, hj, h0, h1, hd => by
    simp only [List.length_cons] at h1 hj
    have hj' : j < ws.length := by omega
    have ih := kWd_i (B := B) (i := i) (e := e) (ws := ws) (nm := nm + 1) (j := j) hj' (by omega) (by omega) (List.nodup_cons.mp hd).2
    show (if kMw B i e w = true then 10000 + nm else kWd B i e ws (nm + 1)) = 10000 + nm + ((j + 1 : Nat) : Int) ↔ kMw B i e (ws[j]) = true
    by_cases hc : kMw B i e w = true
    · rw [if_pos hc]
      refine ⟨fun z => by omega, fun z => ?_⟩
      have := kMw_u hc z
      exact absurd (this ▸ List.getElem_mem hj') (List.nodup_cons.mp hd).1
    · rw [if_neg hc, ← ih]
      constructor <;> intro z <;> omega
def kWs : List (List Int) := [[115, 101, 110, 100], [100, 114, 111, 112], [112, 114, 105, 99, 101], [108, 111, 115, 116], [119, 104, 101, 110], [111, 114], [97, 110, 100], [97, 105, 114], [104, 111, 117, 114], [115, 116, 111, 114, 101], [98, 97, 99, 107], [115, 105, 122, 101], [114, 97, 110, 107], [99, 111, 108, 100]]
def kNu (B : Int → Int) (i : Int) : Nat → Int
  | 0 => 0
  | k + 1 => min 10000 (kNu B i k * 10 + B (i + k) - 48)
def kSg (b : Int) : Prop := b = 43 ∨ b = 45 ∨ b = 42 ∨ b = 47 ∨ b = 40 ∨ b = 41 ∨ b = 60 ∨ b = 62 ∨ b = 61 ∨ b = 59
def kTa (B : Int → Int) (n i : Int) : Int := if 97 ≤ B i ∧ B i ≤ 122 then kWd B i (kEn B n i) kWs 0 else if 48 ≤ B i ∧ B i ≤ 57 then (if 9999 < kNu B i (kEn B n i - i).toNat then 30001 else kNu B i (kEn B n i - i).toNat) else if B i = 43 ∨ B i = 45 ∨ B i = 42 ∨ B i = 47 ∨ B i = 40 ∨ B i = 41 ∨ B i = 60 ∨ B i = 62 ∨ B i = 61 ∨ B i = 59 then 20000 + B i else 30001
noncomputable def kTt (B : Int → Int) (n x : Int) : Int := if x < kMm B n then kTa B n (kSp B n x.toNat) else 30000
end
