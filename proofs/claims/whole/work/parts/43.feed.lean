section
/-! the tape -/
theorem and255 (x : Int) : and32 x 255 = x % 256 := by
  unfold and32 b32
  have e : ((Int32.ofInt x &&& Int32.ofInt 255).toBitVec).toNat = (x % 256).toNat := by
    rw [Int32.toBitVec_and, BitVec.toNat_and]
    show (BitVec.ofInt 32 x).toNat &&& (BitVec.ofInt 32 255).toNat = _
    rw [BitVec.toNat_ofInt, show (BitVec.ofInt 32 255).toNat = 2 ^ 8 - 1 from rfl, Nat.and_two_pow_sub_one_eq_mod]
    omega
  show ((Int32.ofInt x &&& Int32.ofInt 255).toBitVec).toInt = _
  rw [BitVec.toInt_eq_toNat_cond, e]
  omega
theorem wc_of {y : Int} (h0 : 0 ≤ y) (h1 : y < 65536) : wc y = y := by
  unfold wc
  have e : (((Int32.ofInt y).toUInt32 % 65536).toInt32.toBitVec).toNat = y.toNat := by
    show ((Int32.ofInt y).toUInt32 % 65536).toNat = _
    rw [UInt32.toNat_mod]
    show (BitVec.ofInt 32 y).toNat % 65536 = _
    rw [BitVec.toNat_ofInt]
    omega
  show ((((Int32.ofInt y).toUInt32 % 65536).toInt32.toBitVec).toInt) = _
  rw [BitVec.toInt_eq_toNat_cond, e]
  omega
theorem w8_mod (x : Int) : w8 x % 256 = x % 256 := by
  unfold w8
  rw [Int.bmod_def]
  split <;> omega
theorem c57 {d : Nat} {Q : aQ} {σ : aW} {a1 : Int} (h0 : 0 ≤ σ 32 0) (h1 : σ 32 0 + 4 ≤ 300) (k : ∀ s, Fg [33] [(32, 0)] σ s → s 32 0 = σ 32 0 + 4 → (∀ j, s 33 j = if σ 32 0 ≤ j ∧ j < σ 32 0 + 4 then shr32 a1 (24 - 8 * (j - σ 32 0)) % 256 else σ 33 j) → Q none s) : aEv (d + 0) true 57 [vr 32, vi a1] σ Q := by
  refine e57 (b57_0 ?_)
  refine for_up (X := fun i s => Yx (d + 0) cd57 0 Q 3 [vr 32, vi a1, vi (24 - 8 * i)] [] s) (I := fun i s => 0 ≤ i ∧ i ≤ 4 ∧ Fg [33] [(32, 0)] σ s ∧ s 32 0 = σ 32 0 + i ∧ ∀ j, s 33 j = if σ 32 0 ≤ j ∧ j < σ 32 0 + i then shr32 a1 (24 - 8 * (j - σ 32 0)) % 256 else σ 33 j) (N := 4) ?_ ?_ 0 _ ⟨Int.le_refl _, by omega, Fg_r, by omega, fun j => by rw [if_neg (by omega)]⟩
  · rintro i s hi ⟨g1, g2, g3, g4, g5⟩ K
    have hw : wc (and32 (shr32 a1 (24 - 8 * i)) 255) = shr32 a1 (24 - 8 * i) % 256 := by
      rw [and255, wc_of (by omega) (by omega)]
    refine b57_3 ?_
    rw [hw, g4, show 24 - 8 * i + (-8) = 24 - 8 * (i + 1) by omega]
    refine ⟨fun z => by omega, fun _ => ⟨fun z => by omega, fun _ => ⟨by omega, by omega, by omega, by omega, K _ ⟨by omega, by omega, ?_, ?_, fun j => ?_⟩⟩⟩⟩
    · exact Fg_f (Fg_w g3 (by decide)) (by decide)
    · rw [sw_s, fu_s]
      omega
    · rw [sw_n (by decide), sw_s]
      by_cases e : j = σ 32 0 + i
      · rw [e, fu_s, if_pos (by omega), show σ 32 0 + i - σ 32 0 = i by omega]
      · rw [fu_n e, g5 j]
        by_cases c : σ 32 0 ≤ j ∧ j < σ 32 0 + i
        · rw [if_pos c, if_pos (by omega)]
        · rw [if_neg c, if_neg (by omega)]
  · rintro i s hi ⟨g1, g2, g3, g4, g5⟩
    have e : i = 4 := by omega
    subst e
    exact b57_3 ⟨fun _ => k s g3 g4 g5, fun z => absurd (by decide) z⟩
def wd (a1 a2 a3 a4 a5 k : Int) : Int := if 4 ≤ k then (if 8 ≤ k then (if 12 ≤ k then (if 16 ≤ k then a5 else a4) else a3) else a2) else a1
theorem c177 {d : Nat} {Q : aQ} {σ : aW} {a1 a2 a3 a4 a5 : Int} (h0 : 0 ≤ σ 96 37) (h1 : σ 96 37 + 20 ≤ 300) (k : ∀ s, Fr [122] σ s → (∀ j, s 122 j = if σ 96 37 ≤ j ∧ j < σ 96 37 + 20 then w8 (shr32 (wd a1 a2 a3 a4 a5 (j - σ 96 37)) (24 - 8 * ((j - σ 96 37) % 4))) else σ 122 j) → Q (some (vi (σ 96 37 + 20))) (sw s 96 (fu (s 96) 37 (σ 96 37 + 20)))) : Yx (d + 0) cd177 1 Q 23 [vr 96, vi a1, vi a2, vi a3, vi a4, vi a5, vi 0, vt] [] σ := by
  refine for_up (X := fun i s => Yx (d + 0) cd177 1 Q 23 [vr 96, vi a1, vi a2, vi a3, vi a4, vi a5, vi i, vt] [] s) (I := fun i s => 0 ≤ i ∧ i ≤ 20 ∧ Fr [122] σ s ∧ ∀ j, s 122 j = if σ 96 37 ≤ j ∧ j < σ 96 37 + i then w8 (shr32 (wd a1 a2 a3 a4 a5 (j - σ 96 37)) (24 - 8 * ((j - σ 96 37) % 4))) else σ 122 j) (N := 20) ?_ ?_ 0 _ ⟨Int.le_refl _, by omega, Fr_r, fun j => by rw [if_neg (by omega)]⟩
  · rintro i s hi ⟨g1, g2, g3, g5⟩ K
    have e96 : s 96 = σ 96 := g3 96 (by decide)
    have L : ∀ x, wd a1 a2 a3 a4 a5 i = x → Yx (d + 0) cd177 1 Q 23 [vr 96, vi a1, vi a2, vi a3, vi a4, vi a5, vi (i + 1), vt] [] (sw s 122 (fu (s 122) (σ 96 37 + i) (w8 (shr32 x (24 - 8 * (i % 4)))))) := fun x hx => K _ ⟨by omega, by omega, Fr_w g3 (by decide), fun j => by
      rw [sw_s]
      by_cases e : j = σ 96 37 + i
      · rw [e, fu_s, if_pos (by omega), show σ 96 37 + i - σ 96 37 = i by omega, hx]
      · rw [fu_n e, g5 j]
        by_cases c : σ 96 37 ≤ j ∧ j < σ 96 37 + i
        · rw [if_pos c, if_pos (by omega)]
        · rw [if_neg c, if_neg (by omega)]⟩
    refine b177_23 ?_
    rw [e96]
    refine ⟨fun z => by omega, fun _ => ⟨fun c1 => ⟨fun c2 => ⟨fun c3 => ⟨by omega, by omega, by omega, by omega, w8_in _, by omega, by omega, L _ (by simp [wd, c1, c2, c3])⟩, fun c3 => ⟨by omega, by omega, by omega, by omega, w8_in _, by omega, by omega, L _ (by simp [wd, c1, c2, c3])⟩⟩, fun c2 => ⟨by omega, by omega, by omega, by omega, w8_in _, by omega, by omega, L _ (by simp [wd, c1, c2])⟩⟩, fun c1 => ⟨by omega, by omega, by omega, by omega, w8_in _, by omega, by omega, L _ (by simp [wd, c1])⟩⟩⟩
  · rintro i s hi ⟨g1, g2, g3, g5⟩
    have e : i = 20 := by omega
    subst e
    have e96 : s 96 = σ 96 := g3 96 (by decide)
    refine b177_23 ⟨fun _ => ?_, fun z => absurd (by decide) z⟩
    have := k s g3 g5
    rw [e96] at this ⊢
    exact ⟨by omega, this⟩
end
