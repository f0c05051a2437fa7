section
theorem t_gets {σ : aW} {a1 a2 : Int} (hN : INet σ) (hS : ISt 63 σ) (hA : IAr σ) (hR : IRu σ) (hF : IFc σ) : aEv 59 true 125 [vr 0, vi a1, vi a2] σ (fun r s => aEv 59 true 205 [vr 96, vi a1, vi a2] s (Tp IFc fL fP σ r)) := by
  have hn := hN.1
  unfold Nn at hn
  obtain ⟨r1, r2, B, l, r3, r4, r5, r6, r7, r8, r9, r10⟩ := hR
  obtain ⟨a0, z0, hb⟩ := f_both (a := σ 114 (σ 120 2532)) (B := B) hN hS hA (l := l) ⟨r5, r8, r7, r6, r9⟩ hF rfl
  have no : ¬ ((0 ≤ a1 ∧ a1 < σ 96 7) ∧ (0 ≤ a2 ∧ a2 ≤ 1)) → aEv 59 true 205 [vr 96, vi a1, vi a2] σ (Tp IFc fL fP σ (some (vi (-2)))) := fun z => by
    have fin : Tp IFc fL fP σ (some (vi (-2))) (some (vi (-2))) (sw σ 96 (fu (σ 96) 0 0)) := ⟨rfl, IFc_0 hF, Fg_f Fg_r (by decide)⟩
    exact e205 (d := 43) (b205_0 ⟨by omega, fun _ => fin, fun w => ⟨fun q => absurd ⟨by omega, q⟩ z, fun _ => fin⟩⟩)
  refine e125 (d := 54) (b125_0 ⟨fun z => no (by omega), fun z => ⟨fun y => hb 54 _ (fun s f g1 g2 g3 g4 => ⟨rfl, b125_35 ⟨fun _ => by omega, fun _ => by omega, ?_⟩⟩), fun y => no (by omega)⟩⟩)
  have e7 : s 96 7 = σ 96 7 := f 96 7 (by decide) (by decide)
  have f1 : Fg [17, 18, 19, 20, 21, 22, 23, 24, 26, 31] [(16, 9), (16, 10), (16, 11), (96, 0)] σ (sw s 96 (fu (s 96) 0 0)) := Fg_f (Fg_m f (by decide) (by decide)) (by decide)
  have hG1 : mG σ (sw s 96 (fu (s 96) 0 0)) := mG_f mG_r f1 (by decide) (by decide) (by decide) (by decide) (by decide) (by decide)
  have hM1 : mSt (sw s 96 (fu (s 96) 0 0)) B l := by
    refine ⟨?_, ?_, ?_, ?_⟩
    · rw [Fg_k f1 (k := 124) rfl rfl]; exact r1
    · rw [Fg_k f1 (k := 124) rfl rfl]; exact r2
    · rw [Fg_k f1 (k := 124) rfl rfl, Fg_k f1 (k := 123) rfl rfl]; exact r3
    · rw [Fg_k f1 (k := 124) rfl rfl]; exact r4
  have hE1 : mEh (mEf (-1) σ) (-1) (sw s 96 (fu (s 96) 0 0)) := mEf_h z0.1 z0.2 (Or.inl rfl) (Fg_k f1 rfl rfl) (Fg_k f1 rfl rfl) (Fg_k f1 rfl rfl) (Fg_k f1 rfl rfl)
  have hw := g1.2.1 a1 (by omega) (by omega)
  have fin : ∀ t v, Fg [126, 127, 128, 129, 130, 131, 132] ((96, 66) :: mPY) (sw s 96 (fu (s 96) 0 0)) t → v = (if ¬ a2 = 0 then s 19 a1 else s 18 a1) → Tp IFc fL fP σ (some (vi (if ¬ a2 = 0 then s 19 a1 else s 18 a1))) (some (vi v)) t := fun t v ft hv => by
    have fa : Fg fL fP σ t := Fg_t (Fg_m f1 (by decide) (by decide)) (Fg_m ft (by decide) (by decide))
    refine ⟨by rw [hv], ?_, fa⟩
    have q : ∀ k j, ¬ k = 96 → ¬ (126 ≤ k ∧ k ≤ 132) → t k j = s k j := fun k j hk hk2 => (ft k j (by simp; omega) (by simp; omega)).trans (by rw [sw_n hk])
    exact IFc_n g1 (fN_g fa (by decide) (by decide) (by decide) (by decide) (by decide)) (funext fun j => q 17 j (by decide) (by decide)) (funext fun j => q 18 j (by decide) (by decide)) (funext fun j => q 19 j (by decide) (by decide)) (funext fun j => q 20 j (by decide) (by decide)) ((q 16 9 (by decide) (by decide)).trans (g2.trans (q 1 3 (by decide) (by decide)).symm)) ((q 16 10 (by decide) (by decide)).trans g3) ((q 16 11 (by decide) (by decide)).trans g4)
  refine e205 (d := 43) (b205_0 ⟨by omega, fun w => absurd (by omega) w, fun _ => ⟨fun _ => ⟨fun w => ?_, fun w => ?_⟩, fun w => absurd y w⟩⟩)
  · refine m203 (d := 19) (B := B) (e := mEf (-1) σ) (l := l) hN hG1 e7 z0 rfl a0 hM1 hE1 (fun t ft m1 => ⟨rfl, b205_59 ⟨by omega, fin t _ ft ?_⟩⟩)
    rw [if_pos w, (m1.2.1 a1 (by omega) (by omega)).1, hw.2]
  · refine m195 (d := 20) (B := B) (e := mEf (-1) σ) (l := l) hM1 hE1 (fun t ft => ⟨_, rfl, b205_47_3 ?_⟩)
    have hh := hN.2.2.2.2 a1 (by omega) (by omega)
    unfold Nh at hh
    refine c201 (σ := σ) (mG_f hG1 ft (by decide) (by decide) (by decide) (by decide) (by decide) (by decide)) (by omega) z0 rfl a0 (rAns_b (by decide) (by decide)) (by omega) ⟨_, rfl, b205_50_1 (fin _ _ (Fg_w (Fg_m ft (by decide) (by decide)) (by decide)) ?_)⟩
    rw [if_neg (fun q => q w), hw.1]
/-! would -/
def cP (f g : Int → Int) : Nat → Int
  | 0 => 0
  | k + 1 => cP f g k + bi (¬ f k ≤ g k)
theorem cP_b {f g : Int → Int} : ∀ k : Nat, 0 ≤ cP f g k ∧ cP f g k ≤ k
  | 0 => ⟨Int.le_refl _, Int.le_refl _⟩
  | k + 1 => by
    have := cP_b (f := f) (g := g) k
    have := bi_le (p := ¬ f k ≤ g k)
    show 0 ≤ cP f g k + bi (¬ f k ≤ g k) ∧ cP f g k + bi (¬ f k ≤ g k) ≤ ((k + 1 : Nat) : Int)
    omega
theorem cP_c {f g f' g' : Int → Int} : ∀ {k : Nat}, (∀ h, 0 ≤ h → h < (k : Int) → f h = f' h ∧ g h = g' h) → cP f g k = cP f' g' k
  | 0, _ => rfl
  | k + 1, h => by
    show cP f g k + bi (¬ f k ≤ g k) = cP f' g' k + bi (¬ f' k ≤ g' k)
    have z := h k (by omega) (by omega)
    rw [cP_c (k := k) (fun x x0 x1 => h x x0 (by omega)), z.1, z.2]
theorem c147 {d : Nat} {Q : aQ} {s : aW} {n : Nat} (hn : n ≤ 16) (k : Q (some (vi (cP (s 93) (s 19) n))) s) : ∀ (m : Nat) (j : Nat), j + m = n → Yx (d + 0) cd147 1 Q 4 [vr 0, vi n, vi (cP (s 93) (s 19) j), vi j] [] s
  | 0, j, h => b147_4 ⟨fun _ => by rw [show j = n by omega]; exact k, fun z => absurd (by omega) z⟩
  | m + 1, j, h => by
    have b := cP_b (f := s 93) (g := s 19) j
    refine b147_4 ⟨fun z => by omega, fun z => ⟨by omega, by omega, fun y => ⟨by omega, ?_⟩, fun y => ⟨by omega, by omega, ?_⟩⟩⟩
    · have := c147 (d := d) hn k m (j + 1) (by omega)
      rw [show cP (s 93) (s 19) (j + 1) = cP (s 93) (s 19) j + bi (¬ s 93 j ≤ s 19 j) from rfl, bi_f (fun w => w y), Int.add_zero] at this
      exact this
    · have := c147 (d := d) hn k m (j + 1) (by omega)
      rw [show cP (s 93) (s 19) (j + 1) = cP (s 93) (s 19) j + bi (¬ s 93 j ≤ s 19 j) from rfl, bi_t y] at this
      exact this
theorem c206p {d : Nat} {Q : aQ} {s : aW} {n : Nat} (hn : n ≤ 16) (h7 : s 96 7 = n) (k : Q (some (vi (cP (s 133) (s 127) n))) s) : ∀ (m : Nat) (j : Nat), j + m = n → Yx (d + 16) cd206 1 Q 157 [vr 96, vt, vt, vt, vt, vi (cP (s 133) (s 127) j), vi j] [] s
  | 0, j, h => b206_157 ⟨fun _ => by rw [show j = n by omega]; exact k, fun z => absurd (by omega) z⟩
  | m + 1, j, h => by
    have b := cP_b (f := s 133) (g := s 127) j
    have bb := bi_le (p := ¬ s 133 j ≤ s 127 j)
    exact b206_157 ⟨fun z => by omega, fun z => ⟨by omega, by omega, by omega, by omega, c206p hn h7 k m (j + 1) (by omega)⟩⟩
theorem c206c {d : Nat} {Q : aQ} {σ : aW} {a1 a2 a3 a4 n : Int} (n0 : 0 ≤ n) (hn : n < 16) (k : ∀ s, Fr [133] σ s → (∀ i, 0 ≤ i → i < n → s 133 i = σ 127 i) → aEv (d + 15) true 203 [vr 96, vi ((s 96 7) + 1)] (sw (sw (sw s 109 (fu (s 109) (s 96 7) a1)) 110 (fu (s 110) (s 96 7) a2)) 111 (fu (s 111) (s 96 7) a3)) (fun r σ' => r = none ∧ Yx (d + 16) cd206 1 Q 135 [vr 96, vt, vt, vt, vi a4, vt, vt] [] σ')) : ∀ (f : Nat) (a : Int) (s : aW), 0 ≤ a → n - a ≤ f → s 96 7 = n → Fr [133] σ s → (∀ i, 0 ≤ i → i < a → s 133 i = σ 127 i) → Yx (d + 16) cd206 1 Q 66 [vr 96, vi a1, vi a2, vi a3, vi a4, vi a, vt] [] s
  | f, a, s, a0, hf, h7, f0, h1 => by
    refine b206_66 ⟨fun z => ⟨by omega, by omega, by omega, by omega, k s f0 (fun i i0 i1 => h1 i i0 (by omega))⟩, fun z => ⟨by omega, by omega, by omega, ?_⟩⟩
    cases f with
    | zero => omega
    | succ f =>
      refine c206c n0 hn k f (a + 1) _ (by omega) (by omega) (by rw [sw_n (by decide)]; exact h7) (Fr_w f0 (by decide)) (fun i i0 i1 => ?_)
      rw [sw_s]
      by_cases e : i = a
      · rw [e, fu_s, f0 127 (by decide)]
      · rw [fu_n e]
        exact h1 i i0 (by omega)
theorem INet_h {σ τ : aW} {a1 a2 a3 : Int} (hN : INet σ) (h7 : σ 96 7 < 16) (h1 : 1 ≤ a1 ∧ a1 < σ 96 5) (h2 : 1 ≤ a2 ∧ a2 ≤ 50) (h3 : 0 ≤ a3 ∧ a3 ≤ 99) (hk : ∀ k, (2 ≤ k ∧ k ≤ 9) ∨ (101 ≤ k ∧ k ≤ 108) → τ k = σ k) (t10 : τ 1 0 = σ 1 0) (t11 : τ 1 1 = σ 1 1) (t5 : τ 96 5 = σ 96 5) (t6 : τ 96 6 = σ 96 6) (t12 : τ 1 2 = σ 96 7 + 1) (t7 : τ 96 7 = σ 96 7 + 1) (u1 : τ 10 = fu (σ 10) (σ 96 7) a1) (u2 : τ 11 = fu (σ 11) (σ 96 7) a2) (u3 : τ 12 = fu (σ 12) (σ 96 7) a3) (v1 : τ 109 = fu (σ 109) (σ 96 7) a1) (v2 : τ 110 = fu (σ 110) (σ 96 7) a2) (v3 : τ 111 = fu (σ 111) (σ 96 7) a3) : INet τ := by
  obtain ⟨hn, hp, hb, hw, hh⟩ := hN
  unfold Nn at hn
  refine ⟨?_, fun p p0 p1 => ?_, fun p p0 p1 => ?_, fun v v0 v1 => ?_, fun h h0 h1 => ?_⟩
  · unfold Nn
    rw [t10, t11, t5, t6, t12, t7]
    omega
  · have := hp p p0 (by omega)
    unfold Np at *
    rw [hk 2 (by omega), hk 3 (by omega), hk 4 (by omega), hk 5 (by omega), hk 6 (by omega), hk 101 (by omega), hk 102 (by omega), hk 103 (by omega), hk 104 (by omega), hk 105 (by omega), t5]
    exact this
  · have := hb p p0 p1
    unfold Nb at *
    rw [hk 7 (by omega), hk 108 (by omega)]
    exact this
  · have := hw v v0 v1
    unfold Nv at *
    rw [hk 8 (by omega), hk 9 (by omega), hk 106 (by omega), hk 107 (by omega)]
    exact this
  · unfold Nh
    rw [u1, u2, u3, v1, v2, v3, t5]
    by_cases e : h = σ 96 7
    · rw [e, fu_s, fu_s, fu_s, fu_s, fu_s, fu_s]
      omega
    · rw [fu_n e, fu_n e, fu_n e, fu_n e, fu_n e, fu_n e]
      exact hh h h0 (by omega)
theorem INet_w {σ τ : aW} (hN : INet σ) (hk : ∀ k, (2 ≤ k ∧ k ≤ 9) ∨ (101 ≤ k ∧ k ≤ 108) → τ k = σ k) (t10 : τ 1 0 = σ 1 0) (t11 : τ 1 1 = σ 1 1) (t5 : τ 96 5 = σ 96 5) (t6 : τ 96 6 = σ 96 6) (t12 : τ 1 2 = σ 1 2) (t7 : τ 96 7 = σ 96 7) (u : ∀ k h, (10 ≤ k ∧ k ≤ 12) ∨ (109 ≤ k ∧ k ≤ 111) → h < σ 96 7 → τ k h = σ k h) : INet τ := by
  obtain ⟨hn, hp, hb, hw, hh⟩ := hN
  unfold Nn at hn
  refine ⟨?_, fun p p0 p1 => ?_, fun p p0 p1 => ?_, fun v v0 v1 => ?_, fun h h0 h1 => ?_⟩
  · unfold Nn
    rw [t10, t11, t5, t6, t12, t7]
    omega
  · have := hp p p0 (by omega)
    unfold Np at *
    rw [hk 2 (by omega), hk 3 (by omega), hk 4 (by omega), hk 5 (by omega), hk 6 (by omega), hk 101 (by omega), hk 102 (by omega), hk 103 (by omega), hk 104 (by omega), hk 105 (by omega), t5]
    exact this
  · have := hb p p0 p1
    unfold Nb at *
    rw [hk 7 (by omega), hk 108 (by omega)]
    exact this
  · have := hw v v0 v1
    unfold Nv at *
    rw [hk 8 (by omega), hk 9 (by omega), hk 106 (by omega), hk 107 (by omega)]
    exact this
  · have := hh h h0 (by omega)
    unfold Nh at *
    rw [u 10 h (by omega) (by omega), u 11 h (by omega) (by omega), u 12 h (by omega) (by omega), u 109 h (by omega) (by omega), u 110 h (by omega) (by omega), u 111 h (by omega) (by omega), t5]
    exact this
end
