section
/-! rules: the call -/
theorem mEh_ex {s : aW} {h : Int} (h0 : 0 ≤ s 120 2532) (h1 : s 120 2532 < 5050) (hh : h = -1 ∨ (0 ≤ h ∧ h < 17)) : ∃ e, mEh e h s := ⟨fun k => if k = 0 then s 114 (s 120 2532) else if k = 1 then s 120 2532 % 24 else if k = 2 then s 120 2533 else if k = 3 then s 120 2534 else if k = 4 then (if bi (¬ h = (-1)) = 0 then 0 else s 110 h) else if k = 5 then (if bi (¬ h = (-1)) = 0 then 0 else s 111 h) else (if bi (¬ h = (-1)) = 0 then 0 else s 120 (2400 + h)), h0, h1, hh, rfl, rfl, rfl, rfl, rfl, rfl, rfl⟩
abbrev mPZ : List (Nat × Int) := [(96, 0), (96, 37), (96, 38), (96, 39), (96, 46), (96, 47), (96, 48), (96, 49), (96, 50), (96, 51), (96, 52), (96, 53), (96, 54), (96, 55), (96, 56), (96, 57), (96, 58)]
theorem c196a {d : Nat} {Q : aQ} {σ : aW} {n : Int} (n1 : n ≤ 300) (hB : ∀ i, 0 ≤ i → i < n → -128 ≤ σ 122 i ∧ σ 122 i < 128) (k : ∀ s, Fg [123] [(96, 0)] σ s → (∀ i, 0 ≤ i → i < n → s 123 (300 + i) = σ 122 i) → (∀ i, i < 300 → s 123 i = σ 123 i) → aEv (d + 13) true 194 [vr 96, vi 1, vi (-1), vi (-1)] (sw (sw (sw s 124 (fu (s 124) 1 (s 96 37))) 96 (fu (s 96) 37 0)) 96 (fu (fu (s 96) 37 0) 38 (-1))) (fun r σ' => r = none ∧ Yx (d + 14) cd196 1 Q 64 [vr 96, vt] [] σ')) : ∀ (f : Nat) (a : Int) (s : aW), 0 ≤ a → n - a ≤ f → s 96 37 = n → Fg [123] [(96, 0)] σ s → (∀ i, 0 ≤ i → i < a → s 123 (300 + i) = σ 122 i) → (∀ i, i < 300 → s 123 i = σ 123 i) → Yx (d + 14) cd196 1 Q 7 [vr 96, vi a] [] s
  | f, a, s, a0, hf, hn, f0, h1, h2 => by
    have e2 : s 122 = σ 122 := Fg_k f0 rfl rfl
    refine b196_7 ⟨fun z => k s f0 (fun i i0 i1 => h1 i i0 (by omega)) h2, fun z => ?_⟩
    have hb := hB a a0 (by omega)
    refine ⟨by omega, by omega, by rw [e2]; exact hb, by omega, by omega, ?_⟩
    cases f with
    | zero => omega
    | succ f =>
      refine c196a n1 hB k f (a + 1) _ (by omega) (by omega) (by rw [sw_n (by decide)]; exact hn) (Fg_w f0 (by decide)) (fun i i0 i1 => ?_) (fun i i1 => ?_)
      · rw [sw_s]
        by_cases e : i = a
        · rw [e, fu_s, e2]
        · rw [fu_n (by omega)]
          exact h1 i i0 (by omega)
      · rw [sw_s, fu_n (by omega)]
        exact h2 i i1
theorem c196b {d : Nat} {Q : aQ} {σ : aW} {n : Int} (n1 : n ≤ 300) (hB : ∀ i, 0 ≤ i → i < n → -128 ≤ σ 123 (300 + i) ∧ σ 123 (300 + i) < 128) (k : ∀ s, Fg [123] [] σ s → (∀ i, 0 ≤ i → i < n → s 123 i = σ 123 (300 + i)) → Q (some (vi (s 96 53))) (sw (sw s 124 (fu (s 124) 0 (s 124 1))) 96 (fu (s 96) 39 (s 96 53)))) : ∀ (f : Nat) (a : Int) (s : aW), 0 ≤ a → n - a ≤ f → s 124 1 = n → Fg [123] [] σ s → (∀ i, 0 ≤ i → i < a → s 123 i = σ 123 (300 + i)) → (∀ i, 300 ≤ i → s 123 i = σ 123 i) → Yx (d + 14) cd196 1 Q 76 [vr 96, vi a] [] s
  | f, a, s, a0, hf, hn, f0, h1, h2 => by
    refine b196_76 ⟨fun z => k s f0 (fun i i0 i1 => h1 i i0 (by omega)), fun z => ?_⟩
    have hb := hB a a0 (by omega)
    have e2 := h2 (300 + a) (by omega)
    refine ⟨by omega, by omega, by rw [e2]; exact hb, by omega, by omega, ?_⟩
    cases f with
    | zero => omega
    | succ f =>
      refine c196b n1 hB k f (a + 1) _ (by omega) (by omega) (by rw [sw_n (by decide)]; exact hn) (Fg_w f0 (by decide)) (fun i i0 i1 => ?_) (fun i i1 => ?_)
      · rw [sw_s]
        by_cases e : i = a
        · rw [e, fu_s, e2]
        · rw [fu_n (by omega)]
          exact h1 i i0 (by omega)
      · rw [sw_s, fu_n (by omega)]
        exact h2 i i1
theorem m196 {d : Nat} {Q : aQ} {σ : aW} {B : Int → Int} {n : Int} (hn : σ 96 37 = n) (n0 : 0 ≤ n) (n1 : n ≤ 300) (hB : ∀ i, 0 ≤ i → i < n → B i = σ 122 i % 256 ∧ -128 ≤ σ 122 i ∧ σ 122 i < 128) (t0 : 0 ≤ σ 120 2532) (t1 : σ 120 2532 < 5050)
    (kO : ∀ (l : List rRu) t, rAll (kTt B n) = .inr l → Fg [123, 124] mPZ σ t → t 124 0 = n → (∀ i, 0 ≤ i → i < n → t 123 i = σ 122 i) → t 96 37 = 0 → t 96 38 = -1 → t 96 39 = l.length → Q (some (vi l.length)) t)
    (kB : ∀ j t, rAll (kTt B n) = .inl j → Fg [123, 124] mPZ σ t → t 124 0 = σ 124 0 → (∀ i, i < 300 → t 123 i = σ 123 i) → t 96 37 = 0 → t 96 38 = kSp B n j.toNat → t 96 39 = σ 96 39 → Q (some (vi (-4))) t) : aEv (d + 24 + 14) true 196 [vr 96] σ Q := by
  refine e196 (b196_0 (c196a (n := n) (σ := sw σ 96 (fu (σ 96) 0 0)) n1 (fun i i0 i1 => by rw [sw_n (by decide)]; exact (hB i i0 i1).2) (fun s f0 h1 h2 => ?_) n.toNat 0 _ (Int.le_refl _) (by omega) (by rw [sw_s, fu_n (by decide)]; exact hn) Fg_r (fun i i0 i1 => by omega) (fun _ _ => rfl)))
  have fs : Fg [123, 124] mPZ σ s := Fg_t (Fg_f Fg_r (by decide)) (Fg_m f0 (by decide) (by decide))
  have s37 : s 96 37 = n := ((f0 96 37 (by decide) (by decide)).trans (by rw [sw_s, fu_n (by decide)])).trans hn
  have g1 := Fg_f (L := [123, 124]) (P := mPZ) (k := 96) (i := 38) (v := -1) (Fg_f (k := 96) (i := 37) (v := 0) (Fg_w (k := 124) (f := fu (s 124) 1 (s 96 37)) fs (by decide)) (by decide)) (by decide)
  simp only [sw_s, sw_n (show (96 : Nat) ≠ 124 by decide)] at g1
  generalize hu : (sw (sw (sw s 124 (fu (s 124) 1 (s 96 37))) 96 (fu (s 96) 37 0)) 96 (fu (fu (s 96) 37 0) 38 (-1))) = u at g1 ⊢
  have u37 : u 96 37 = 0 := by rw [← hu, sw_s, fu_n (by decide), fu_s]
  have u38 : u 96 38 = -1 := by rw [← hu, sw_s, fu_s]
  have u39 : u 96 39 = σ 96 39 := by rw [← hu, sw_s, fu_n (by decide), fu_n (by decide), f0 96 39 (by decide) (by decide), sw_s, fu_n (by decide)]
  have u123 : u 123 = s 123 := by rw [← hu, sw_n (by decide), sw_n (by decide), sw_n (by decide)]
  have u124 : u 124 = fu (s 124) 1 (s 96 37) := by rw [← hu, sw_n (by decide), sw_n (by decide), sw_s]
  have s124 : s 124 = σ 124 := (Fg_k f0 (k := 124) rfl rfl).trans (sw_n (by decide))
  have e122 : (sw σ 96 (fu (σ 96) 0 0)) 122 = σ 122 := sw_n (by decide)
  have e123 : (sw σ 96 (fu (σ 96) 0 0)) 123 = σ 123 := sw_n (by decide)
  rw [e122] at h1
  rw [e123] at h2
  have uT : ∀ i, 0 ≤ i → i < n → u 123 (300 + i) = σ 122 i := fun i i0 i1 => by rw [u123]; exact h1 i i0 i1
  have u120 : u 120 = σ 120 := Fg_k g1 rfl rfl
  obtain ⟨e, hE⟩ := mEh_ex (s := u) (h := -1) (by rw [u120]; exact t0) (by rw [u120]; exact t1) (Or.inl rfl)
  refine c194 (a := 1) (B := B) (n := n) (kd := -1) (h := -1) (by decide) (by decide) (by rw [u124, fu_s]; exact s37) n0 n1 (fun i i0 i1 => by rw [Int.mul_one, uT i i0 i1]; exact hB i i0 i1) hE (fun l s' z f a1 a2 a3 => ⟨rfl, b196_64 ⟨fun _ => ?_, fun y => absurd a1 y⟩⟩) (fun j s' z f a1 a2 => ⟨rfl, b196_64 ⟨fun y => absurd y a1, fun _ => ?_⟩⟩)
  · have v123 : s' 123 = u 123 := Fg_k f rfl rfl
    have v124 : s' 124 = u 124 := Fg_k f rfl rfl
    refine c196b (n := n) (σ := s') n1 (fun i i0 i1 => by rw [v123, uT i i0 i1]; exact (hB i i0 i1).2) (fun t ft ht => ?_) n.toNat 0 s' (Int.le_refl _) (by omega) (by rw [v124, u124, fu_s]; exact s37) Fg_r (fun i i0 i1 => by omega) (fun _ _ => rfl)
    have t53 : t 96 53 = l.length := (ft 96 53 (by decide) (by simp)).trans a2
    have t124 : t 124 = s' 124 := Fg_k ft rfl rfl
    have g2 := Fg_f (L := [123, 124]) (P := mPZ) (k := 96) (i := 39) (v := t 96 53) (Fg_w (k := 124) (f := fu (t 124) 0 (t 124 1)) (Fg_t g1 (Fg_t (Fg_m f (by decide) (by decide)) (Fg_m ft (by decide) (by decide)))) (by decide)) (by decide)
    rw [sw_n (show (96 : Nat) ≠ 124 by decide)] at g2
    rw [show (vi (t 96 53)) = vi (l.length : Int) by rw [t53]]
    have vv : ∀ j, (96, j) ∉ mPY → t 96 j = u 96 j := fun j hj => (ft 96 j (by decide) (by simp)).trans (f 96 j (by simp) hj)
    refine kO l _ z g2 ?_ (fun i i0 i1 => ?_) ?_ ?_ ?_
    · rw [sw_n (by decide), sw_s, fu_s, t124, v124, u124, fu_s]; exact s37
    · rw [sw_n (by decide), sw_n (by decide), ht i i0 i1, v123, uT i i0 i1]
    · rw [sw_s, fu_n (by decide), vv 37 (by decide), u37]
    · rw [sw_s, fu_n (by decide), vv 38 (by decide), u38]
    · rw [sw_s, fu_s]; exact t53
  · have v123 : s' 123 = u 123 := Fg_k f rfl rfl
    have v124 : s' 124 = u 124 := Fg_k f rfl rfl
    refine kB j s' z (Fg_t g1 (Fg_m f (by decide) (by decide))) (by rw [v124, u124, fu_n (by decide), s124]) (fun i i1 => by rw [v123, u123]; exact h2 i i1) ((f 96 37 (by simp) (by decide)).trans u37) a2 ((f 96 39 (by simp) (by decide)).trans u39)
def IRu (σ : aW) : Prop := 0 ≤ σ 124 0 ∧ σ 124 0 ≤ 300 ∧ ∃ (B : Int → Int) (l : List rRu), (∀ i, 0 ≤ i → i < σ 124 0 → B i = σ 123 i % 256 ∧ -128 ≤ σ 123 i ∧ σ 123 i < 128) ∧ rAll (kTt B (σ 124 0)) = .inr l ∧ σ 25 0 = l.length ∧ rAr (σ 27) (σ 28) (σ 29) (σ 30) 0 0 l ∧ rTl l ≤ 300 ∧ l.length ≤ 12 ∧ (∀ x ∈ l, rRok x) ∧ σ 96 39 = l.length
theorem t_rules {σ : aW} (hR : IRu σ) (hI : ITp σ) (h0 : 0 ≤ σ 120 2532) (h1 : σ 120 2532 ≤ 5000) : aEv 59 true 119 [vr 0] σ (fun r s => aEv 59 true 196 [vr 96] s (Tp (fun t => IRu t ∧ ITp t ∧ t 32 1 = t 96 38) [27, 28, 29, 30, 34, 35, 38, 39, 40, 41, 123, 124] [(25, 0), (25, 2), (32, 0), (32, 1), (32, 7), (36, 0), (36, 2), (96, 0), (96, 37), (96, 38), (96, 39), (96, 46), (96, 47), (96, 48), (96, 49), (96, 50), (96, 51), (96, 52), (96, 53), (96, 54), (96, 55), (96, 56), (96, 57), (96, 58)] σ r)) := by
  obtain ⟨i1, i2, i3, i4⟩ := hI
  have hB : ∀ x, 0 ≤ x → x < σ 32 0 → 0 ≤ σ 33 x ∧ σ 33 x ≤ 255 := fun x x0 x1 => by
    have := (i4 x x0 (by omega)).1
    omega
  have hT := kTt_T (B := σ 33) (n := σ 32 0) (by omega) (by omega) hB
  refine e119 (b119_0 (c58 (d := 36) (T := kTt (σ 33) (σ 32 0)) (Sp := fun x => kSp (σ 33) (σ 32 0) x.toNat) (M := kMm (σ 33) (σ 32 0)) (fun Q' k => c59 (by omega) (by omega) hB k) (fun j s z f a0 a1 => ⟨_, rfl, b119_7_1 ?_⟩) (fun l s z f a0 a1 a2 a3 a4 a5 => ⟨_, rfl, b119_7_1 ?_⟩)))
  · rw [if_pos rfl]
    have e122 : s 122 = σ 122 := Fg_k f rfl rfl
    have e120 : s 120 = σ 120 := Fg_k f rfl rfl
    refine m196 (d := 21) (B := σ 33) (n := σ 32 0) (by rw [f 96 37 (by decide) (by decide), i1]) (by omega) (by omega) (fun i i0 i1 => by rw [e122]; exact i4 i i0 (by omega)) (by rw [e120]; exact h0) (by rw [e120]; omega) (fun l t z' => by rw [z] at z'; cases z') (fun j' t z' ft b1 b2 b3 b4 b5 => ?_)
    rw [z] at z'
    cases z'
    have fa := Fg_t (L := [27, 28, 29, 30, 34, 35, 38, 39, 40, 41, 123, 124]) (P := [(25, 0), (25, 2), (32, 0), (32, 1), (32, 7), (36, 0), (36, 2), (96, 0), (96, 37), (96, 38), (96, 39), (96, 46), (96, 47), (96, 48), (96, 49), (96, 50), (96, 51), (96, 52), (96, 53), (96, 54), (96, 55), (96, 56), (96, 57), (96, 58)]) (Fg_m f (by decide) (by decide)) (Fg_m ft (by decide) (by decide))
    refine ⟨rfl, ⟨?_, ?_, ?_⟩, fa⟩
    · obtain ⟨r1, r2, B, l, r3, r4, r5, r6, r7, r8, r9, r10⟩ := hR
      have e124 : t 124 0 = σ 124 0 := b1.trans (by rw [Fg_k f (k := 124) rfl rfl])
      have e123 : ∀ i, i < 300 → t 123 i = σ 123 i := fun i hi => (b2 i hi).trans (by rw [Fg_k f (k := 123) rfl rfl])
      have q : ∀ k, [27, 28, 29, 30].contains k = true → t k = σ k := fun k hk => (Fg_k ft (k := k) (by simp at hk ⊢; omega) (by simp at hk ⊢; omega)).trans (Fg_k f (k := k) (by simp at hk ⊢; omega) (by simp at hk ⊢; omega))
      refine ⟨by omega, by omega, B, l, fun i i0 i1 => by rw [e124] at i1; rw [e123 i (by omega)]; exact r3 i i0 i1, by rw [e124]; exact r4, ?_, ?_, r7, r8, r9, ?_⟩
      · rw [ft 25 0 (by decide) (by decide), f 25 0 (by decide) (by decide)]; exact r5
      · rw [q 27 rfl, q 28 rfl, q 29 rfl, q 30 rfl]; exact r6
      · rw [b5, f 96 39 (by decide) (by decide)]; exact r10
    · have e32 : t 32 0 = 0 := (ft 32 0 (by decide) (by decide)).trans a0
      refine ⟨by omega, by omega, by omega, fun i i0 i1 => by omega⟩
    · rw [b4, ft 32 1 (by decide) (by decide)]; exact a1
  · rw [if_neg (by decide)]
    have e122 : s 122 = σ 122 := Fg_k f rfl rfl
    have e120 : s 120 = σ 120 := Fg_k f rfl rfl
    refine m196 (d := 21) (B := σ 33) (n := σ 32 0) (by rw [f 96 37 (by decide) (by decide), i1]) (by omega) (by omega) (fun i i0 i1 => by rw [e122]; exact i4 i i0 (by omega)) (by rw [e120]; exact h0) (by rw [e120]; omega) (fun l' t z' ft b1 b2 b3 b4 b5 => ?_) (fun j' t z' => by rw [z] at z'; cases z')
    rw [z] at z'
    cases z'
    have fa := Fg_t (L := [27, 28, 29, 30, 34, 35, 38, 39, 40, 41, 123, 124]) (P := [(25, 0), (25, 2), (32, 0), (32, 1), (32, 7), (36, 0), (36, 2), (96, 0), (96, 37), (96, 38), (96, 39), (96, 46), (96, 47), (96, 48), (96, 49), (96, 50), (96, 51), (96, 52), (96, 53), (96, 54), (96, 55), (96, 56), (96, 57), (96, 58)]) (Fg_m f (by decide) (by decide)) (Fg_m ft (by decide) (by decide))
    refine ⟨by rw [a2], ⟨?_, ?_, ?_⟩, fa⟩
    · have q : ∀ k, [27, 28, 29, 30].contains k = true → t k = s k := fun k hk => Fg_k ft (k := k) (by simp at hk ⊢; omega) (by simp at hk ⊢; omega)
      refine ⟨by omega, by omega, σ 33, l, fun i i0 i1 => by rw [b1] at i1; rw [b2 i i0 i1, e122]; exact i4 i i0 (by omega), by rw [b1]; exact z, ?_, ?_, a4, a5, rAll_ok hT.1 z, b5⟩
      · rw [ft 25 0 (by decide) (by decide)]; exact a2
      · rw [q 27 rfl, q 28 rfl, q 29 rfl, q 30 rfl]; exact a3
    · have e32 : t 32 0 = 0 := (ft 32 0 (by decide) (by decide)).trans a0
      refine ⟨by omega, by omega, by omega, fun i i0 i1 => by omega⟩
    · rw [b4, ft 32 1 (by decide) (by decide)]; exact a1
end
