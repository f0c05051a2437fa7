section
/-! mill and boilers: what they give and cost -/
def bL (o m : Int → Int) (L : Int) : Nat → Int
  | 0 => L
  | n + 1 => bL o m L n - min (bL o m L n) (m (o n))
def bC (o m q : Int → Int) (L c : Int) : Nat → Int
  | 0 => c
  | n + 1 => bC o m q L c n + min (bL o m L n) (m (o n)) * q (o n) / 1000
theorem bL_s {σ : aW} {L i : Int} (h : 0 ≤ i) : bL (σ 50) (σ 112) L (i + 1).toNat = bL (σ 50) (σ 112) L i.toNat - min (bL (σ 50) (σ 112) L i.toNat) (σ 112 (σ 50 i)) := by
  have e : (i + 1).toNat = i.toNat + 1 := by omega
  have e2 : ((i.toNat : Nat) : Int) = i := by omega
  rw [e]
  show bL (σ 50) (σ 112) L i.toNat - min (bL (σ 50) (σ 112) L i.toNat) (σ 112 (σ 50 (i.toNat : Nat))) = _
  rw [e2]
theorem bC_s {σ : aW} {L c i : Int} (h : 0 ≤ i) : bC (σ 50) (σ 112) (σ 113) L c (i + 1).toNat = bC (σ 50) (σ 112) (σ 113) L c i.toNat + min (bL (σ 50) (σ 112) L i.toNat) (σ 112 (σ 50 i)) * σ 113 (σ 50 i) / 1000 := by
  have e : (i + 1).toNat = i.toNat + 1 := by omega
  have e2 : ((i.toNat : Nat) : Int) = i := by omega
  rw [e]
  show bC (σ 50) (σ 112) (σ 113) L c i.toNat + min (bL (σ 50) (σ 112) L i.toNat) (σ 112 (σ 50 (i.toNat : Nat))) * σ 113 (σ 50 (i.toNat : Nat)) / 1000 = _
  rw [e2]
theorem mq_b {m q M : Int} (h0 : 0 ≤ m) (h1 : m ≤ M) (g0 : 0 ≤ q) (g1 : q ≤ 1000) : 0 ≤ m * q ∧ m * q ≤ M * 1000 := ⟨Int.mul_nonneg h0 g0, Int.mul_le_mul h1 g1 g0 (by omega)⟩
theorem bL_b {σ : aW} {L : Int} (hB : IBo σ) (h : 0 ≤ L) : ∀ n : Nat, (n : Int) ≤ σ 96 8 → 0 ≤ bL (σ 50) (σ 112) L n ∧ bL (σ 50) (σ 112) L n ≤ L
  | 0, _ => ⟨h, Int.le_refl _⟩
  | n + 1, hn => by
    have h1 := bL_b hB h n (by omega)
    have o := hB.2.2.2.2.1 n (by omega) (by omega)
    have b := hB.2.2.2.1 _ o.1 o.2
    show 0 ≤ bL (σ 50) (σ 112) L n - min (bL (σ 50) (σ 112) L n) (σ 112 (σ 50 n)) ∧ bL (σ 50) (σ 112) L n - min (bL (σ 50) (σ 112) L n) (σ 112 (σ 50 n)) ≤ L
    omega
theorem bC_b {σ : aW} {L c : Int} (hB : IBo σ) (h : 0 ≤ L) : ∀ n : Nat, (n : Int) ≤ σ 96 8 → c ≤ bC (σ 50) (σ 112) (σ 113) L c n ∧ bC (σ 50) (σ 112) (σ 113) L c n ≤ c + 200000 * n
  | 0, _ => ⟨Int.le_refl _, by simp [bC]⟩
  | n + 1, hn => by
    have h1 := bC_b (c := c) hB h n (by omega)
    have h2 := bL_b hB h n (by omega)
    have o := hB.2.2.2.2.1 n (by omega) (by omega)
    have b := hB.2.2.2.1 _ o.1 o.2
    have q := mq_b (m := min (bL (σ 50) (σ 112) L n) (σ 112 (σ 50 n))) (q := σ 113 (σ 50 n)) (M := 200000) (by omega) (by omega) (by omega) (by omega)
    show c ≤ bC (σ 50) (σ 112) (σ 113) L c n + min (bL (σ 50) (σ 112) L n) (σ 112 (σ 50 n)) * σ 113 (σ 50 n) / 1000 ∧ bC (σ 50) (σ 112) (σ 113) L c n + min (bL (σ 50) (σ 112) L n) (σ 112 (σ 50 n)) * σ 113 (σ 50 n) / 1000 ≤ c + 200000 * ((n + 1 : Nat) : Int)
    generalize min (bL (σ 50) (σ 112) L n) (σ 112 (σ 50 n)) * σ 113 (σ 50 n) = z at q
    omega
theorem sI_lt {f g : Int → Int} : ∀ {n : Nat}, (∀ i : Int, 0 ≤ i → i < n → f i ≤ g i) → sI f n ≤ sI g n ∧ ((∃ b : Int, 0 ≤ b ∧ b < n ∧ f b < g b) → sI f n < sI g n)
  | 0, _ => ⟨Int.le_refl _, fun ⟨b, b0, b1, _⟩ => by omega⟩
  | n + 1, h => by
    have ih := sI_lt (f := f) (g := g) (n := n) (fun i i0 i1 => h i i0 (by omega))
    have hn := h n (by omega) (by omega)
    show sI f n + f n ≤ sI g n + g n ∧ (_ → sI f n + f n < sI g n + g n)
    refine ⟨by omega, fun ⟨b, b0, b1, b2⟩ => ?_⟩
    by_cases e : b = n
    · subst e
      omega
    · have := ih.2 ⟨b, b0, by omega, b2⟩
      omega
theorem sI_1 : ∀ n : Nat, sI (fun _ => 1) n = n
  | 0 => rfl
  | n + 1 => by
    show sI (fun _ => 1) n + 1 = _
    rw [sI_1 n]
    omega
/-- how many boilers come ahead of b -/
def lF (σ : aW) (b : Int) : Int := sI (fun c => bi (σ 113 c < σ 113 b ∨ (σ 113 c = σ 113 b ∧ c < b))) (σ 96 8).toNat
theorem lF_lt {σ : aW} {b c : Int} (hb : 0 ≤ b) (hb1 : b < σ 96 8) (h : σ 113 b < σ 113 c ∨ (σ 113 b = σ 113 c ∧ b < c)) : lF σ b < lF σ c := by
  refine (sI_lt (fun i i0 i1 => ?_)).2 ⟨b, hb, by omega, ?_⟩
  · unfold bi
    split <;> split <;> omega
  · unfold bi
    rw [if_neg (by omega), if_pos h]
    decide
theorem lF_ub {σ : aW} {b : Int} (hb : 0 ≤ b) (hb1 : b < σ 96 8) : 0 ≤ lF σ b ∧ lF σ b < σ 96 8 := by
  have h := (sI_lt (f := fun c => bi (σ 113 c < σ 113 b ∨ (σ 113 c = σ 113 b ∧ c < b))) (g := fun _ => 1) (n := (σ 96 8).toNat) (fun i i0 i1 => bi_le.2)).2 ⟨b, hb, by omega, by
    unfold bi
    rw [if_neg (by omega)]
    decide⟩
  rw [sI_1] at h
  have h2 := sI_b (f := fun c => bi (σ 113 c < σ 113 b ∨ (σ 113 c = σ 113 b ∧ c < b))) (B := 1) (n := (σ 96 8).toNat) (fun i i0 i1 => bi_le)
  unfold lF
  omega
theorem lF_o {σ : aW} (hB : IBo σ) {i : Int} (h0 : 0 ≤ i) (h1 : i < σ 96 8) : lF σ (σ 50 i) = i := by
  have lo : ∀ j : Nat, (j : Int) < σ 96 8 → (j : Int) ≤ lF σ (σ 50 j) := by
    intro j
    induction j with
    | zero => exact fun h => (lF_ub (hB.2.2.2.2.1 _ (by omega) h).1 (hB.2.2.2.2.1 _ (by omega) h).2).1
    | succ j ih =>
      intro h
      have o := hB.2.2.2.2.1 j (by omega) (by omega)
      have := lF_lt o.1 o.2 (hB.2.2.2.2.2 j ((j + 1 : Nat) : Int) (by omega) (by omega) h)
      have := ih (by omega)
      omega
  have up : ∀ j : Nat, 0 ≤ σ 96 8 - 1 - j → lF σ (σ 50 (σ 96 8 - 1 - j)) ≤ σ 96 8 - 1 - j := by
    intro j
    induction j with
    | zero =>
      intro h
      have o := hB.2.2.2.2.1 (σ 96 8 - 1 - ((0 : Nat) : Int)) (by omega) (by omega)
      have := lF_ub o.1 o.2
      omega
    | succ j ih =>
      intro h
      have o := hB.2.2.2.2.1 (σ 96 8 - 1 - ((j + 1 : Nat) : Int)) (by omega) (by omega)
      have := lF_lt o.1 o.2 (hB.2.2.2.2.2 (σ 96 8 - 1 - ((j + 1 : Nat) : Int)) (σ 96 8 - 1 - j) (by omega) (by omega) (by omega))
      have := ih (by omega)
      omega
  have l := lo i.toNat (by omega)
  have u := up (σ 96 8 - 1 - i).toNat (by omega)
  rw [show ((i.toNat : Nat) : Int) = i by omega] at l
  rw [show σ 96 8 - 1 - (((σ 96 8 - 1 - i).toNat : Nat) : Int) = i by omega] at u
  omega
theorem lF_u {σ : aW} {b c : Int} (hb : 0 ≤ b) (hb1 : b < σ 96 8) (hc : 0 ≤ c) (hc1 : c < σ 96 8) (h : lF σ b = lF σ c) : b = c := by
  apply Classical.byContradiction
  intro hne
  have : (σ 113 b < σ 113 c ∨ (σ 113 b = σ 113 c ∧ b < c)) ∨ (σ 113 c < σ 113 b ∨ (σ 113 c = σ 113 b ∧ c < b)) := by omega
  rcases this with z | z
  · have := lF_lt hb hb1 z
    omega
  · have := lF_lt hc hc1 z
    omega
theorem c215 {d : Nat} {Q : aQ} {σ : aW} {a1 : Int} (hB : IBo σ) (h0 : 0 ≤ a1) (h1 : a1 < σ 96 8) (k : Q (some (vi (σ 50 a1))) σ) : aEv (d + 0) true 215 [vr 96, vi a1] σ Q := by
  have hn := hB.2.1
  have hn2 := hB.2.2.1
  have ho := hB.2.2.2.2.1 a1 h0 h1
  have hl := lF_o hB h0 h1
  refine e215 (b215_0 ?_)
  refine for_up (X := fun b (_ : Int) => Yx (d + 0) cd215 1 Q 2 [vr 96, vi a1, vi b, vt, vt] [] σ) (I := fun b _ => 0 ≤ b ∧ b ≤ σ 50 a1) (N := σ 96 8) ?_ ?_ 0 0 ⟨Int.le_refl _, ho.1⟩
  · rintro b - hb ⟨b0, b1⟩ K
    refine b215_2 ⟨fun z => by omega, fun _ => ?_⟩
    refine for_up (X := fun c m => Yx (d + 0) cd215 1 Q 15 [vr 96, vi a1, vi b, vi m, vi c] [] σ) (I := fun c m => 0 ≤ c ∧ c ≤ σ 96 8 ∧ m = sI (fun c => bi (σ 113 c < σ 113 b ∨ (σ 113 c = σ 113 b ∧ c < b))) c.toNat ∧ 0 ≤ m ∧ m ≤ c) (N := σ 96 8) ?_ ?_ 0 0 ⟨Int.le_refl _, hn, rfl, Int.le_refl _, Int.le_refl _⟩
    · rintro c m hc ⟨c0, c1, c2, c3, c4⟩ L
      have st : ∀ x : Int, x = m + bi (σ 113 c < σ 113 b ∨ (σ 113 c = σ 113 b ∧ c < b)) → Yx (d + 0) cd215 1 Q 15 [vr 96, vi a1, vi b, vi x, vi (c + 1)] [] σ := fun x hx => L x ⟨by omega, by omega, by rw [sI_s c0, ← c2]; exact hx, by have := @bi_le (σ 113 c < σ 113 b ∨ (σ 113 c = σ 113 b ∧ c < b)) _; omega, by have := @bi_le (σ 113 c < σ 113 b ∨ (σ 113 c = σ 113 b ∧ c < b)) _; omega⟩
      have bb := @bi_le (¬ b ≤ c) _
      refine b215_15 ⟨fun z => by omega, fun _ => ⟨by omega, by omega, fun z => ⟨by omega, by omega, st _ (by unfold bi; rw [if_pos (Or.inl z)])⟩, fun z => ⟨by omega, by omega, fun z2 => ⟨by omega, by omega, st _ (by unfold bi; rw [if_neg (by omega)])⟩, fun z2 => ⟨by omega, by omega, st _ (by unfold bi; split <;> split <;> omega)⟩⟩⟩⟩
    · rintro c m hc ⟨c0, c1, c2, c3, c4⟩
      have ec : c = σ 96 8 := by omega
      subst ec
      have c5 : m = lF σ b := c2
      refine b215_15 ⟨fun _ => ⟨fun z => ⟨by omega, K 0 ⟨by omega, ?_⟩⟩, fun z => ?_⟩, fun z => by omega⟩
      · have : ¬ b = σ 50 a1 := fun e => by
          rw [e] at c5
          omega
        omega
      · have e : b = σ 50 a1 := lF_u b0 hb ho.1 ho.2 (by omega)
        rw [e]
        exact k
  · rintro b - hb ⟨b0, b1⟩
    omega
end
