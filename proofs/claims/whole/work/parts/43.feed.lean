section
/-! the tape -/
theorem and255 (x : Int) : and32 x 255 = x % 256 := by
  unfold and32 b32
  have e : ((Int32.ofInt x &&& Int32.ofInt 255).toBitVec).toNat = (x % 256).toNat := by
    rw [Int32.toBitVec_and, BitVec.toNat_and]
    show (BitVec.ofInt 32 x).toNat &&& (BitVec.ofInt 32 255).toNat = _
    rw [BitVec.toNat_ofInt, show (BitVec.ofInt 32 255).toNat = 2 ^ 8 - 1 from rfl, Nat.and_two_pow_sub_one_eq_mod]
    omega
  show ((Int32.ofInt x &&& Int32.ofInt 255).toBitVec).toInt = _
  rw [BitVec.toInt_eq_toNat_cond, e]
  omega
theorem wc_of {y : Int} (h0 : 0 ≤ y) (h1 : y < 65536) : wc y = y := by
  unfold wc
  have e : (((Int32.ofInt y).toUInt32 % 65536).toInt32.toBitVec).toNat = y.toNat := by
    show ((Int32.ofInt y).toUInt32 % 65536).toNat = _
    rw [UInt32.toNat_mod]
    show (BitVec.ofInt 32 y).toNat % 65536 = _
    rw [BitVec.toNat_ofInt]
    omega
  show ((((Int32.ofInt y).toUInt32 % 65536).toInt32.toBitVec).toInt) = _
  rw [BitVec.toInt_eq_toNat_cond, e]
  omega
theorem w8_mod (x : Int) : w8 x % 256 = x % 256 := by
  unfold w8
  rw [Int.bmod_def]
  split <;> omega
theorem c57 {d : Nat} {Q : aQ} {σ : aW} {a1 : Int} (h0 : 0 ≤ σ 32 0) (h1 : σ 32 0 + 4 ≤ 300) (k : ∀ s, Fg [33] [(32, 0)] σ s → s 32 0 = σ 32 0 + 4 → (∀ j, s 33 j = if σ 32 0 ≤ j ∧ j < σ 32 0 + 4 then shr32 a1 (24 - 8 * (j - σ 32 0)) % 256 else σ 33 j) → Q none s) : aEv (d + 0) true 57 [vr 32, vi a1] σ Q := by
  refine e57 (b57_0 ?_)
  refine for_up (X := fun i s => Yx (d + 0) cd57 0 Q 3 [vr 32, vi a1, vi (24 - 8 * i)] [] s) (I := fun i s => 0 ≤ i ∧ i ≤ 4 ∧ Fg [33] [(32, 0)] σ s ∧ s 32 0 = σ 32 0 + i ∧ ∀ j, s 33 j = if σ 32 0 ≤ j ∧ j < σ 32 0 + i then shr32 a1 (24 - 8 * (j - σ 32 0)) % 256 else σ 33 j) (N := 4) ?_ ?_ 0 _ ⟨Int.le_refl _, by omega, Fg_r, by omega, fun j => by rw [if_neg (by omega)]⟩
  · rintro i s hi ⟨g1, g2, g3, g4, g5⟩ K
    have hw : wc (and32 (shr32 a1 (24 - 8 * i)) 255) = shr32 a1 (24 - 8 * i) % 256 := by
      rw [and255, wc_of (by omega) (by omega)]
    refine b57_3 ?_
    rw [hw, g4, show 24 - 8 * i + (-8) = 24 - 8 * (i + 1) by omega]
    refine ⟨fun z => by omega, fun _ => ⟨fun z => by omega, fun _ => ⟨by omega, by omega, by omega, by omega, K _ ⟨by omega, by omega, ?_, ?_, fun j => ?_⟩⟩⟩⟩
    · exact Fg_f (Fg_w g3 (by decide)) (by decide)
    · rw [sw_s, fu_s]
      omega
    · rw [sw_n (by decide), sw_s]
      by_cases e : j = σ 32 0 + i
      · rw [e, fu_s, if_pos (by omega), show σ 32 0 + i - σ 32 0 = i by omega]
      · rw [fu_n e, g5 j]
        by_cases c : σ 32 0 ≤ j ∧ j < σ 32 0 + i
        · rw [if_pos c, if_pos (by omega)]
        · rw [if_neg c, if_neg (by omega)]
  · rintro i s hi ⟨g1, g2, g3, g4, g5⟩
    have e : i = 4 := by omega
    subst e
    exact b57_3 ⟨fun _ => k s g3 g4 g5, fun z => absurd (by decide) z⟩
def wd (a1 a2 a3 a4 a5 k : Int) : Int := if 4 ≤ k then (if 8 ≤ k then (if 12 ≤ k then (if 16 ≤ k then a5 else a4) else a3) else a2) else a1
theorem c177 {d : Nat} {Q : aQ} {σ : aW} {a1 a2 a3 a4 a5 : Int} (h0 : 0 ≤ σ 96 37) (h1 : σ 96 37 + 20 ≤ 300) (k : ∀ s, Fr [122] σ s → (∀ j, s 122 j = if σ 96 37 ≤ j ∧ j < σ 96 37 + 20 then w8 (shr32 (wd a1 a2 a3 a4 a5 (j - σ 96 37)) (24 - 8 * ((j - σ 96 37) % 4))) else σ 122 j) → Q (some (vi (σ 96 37 + 20))) (sw s 96 (fu (s 96) 37 (σ 96 37 + 20)))) : Yx (d + 0) cd177 1 Q 23 [vr 96, vi a1, vi a2, vi a3, vi a4, vi a5, vi 0, vt] [] σ := by
  refine for_up (X := fun i s => Yx (d + 0) cd177 1 Q 23 [vr 96, vi a1, vi a2, vi a3, vi a4, vi a5, vi i, vt] [] s) (I := fun i s => 0 ≤ i ∧ i ≤ 20 ∧ Fr [122] σ s ∧ ∀ j, s 122 j = if σ 96 37 ≤ j ∧ j < σ 96 37 + i then w8 (shr32 (wd a1 a2 a3 a4 a5 (j - σ 96 37)) (24 - 8 * ((j - σ 96 37) % 4))) else σ 122 j) (N := 20) ?_ ?_ 0 _ ⟨Int.le_refl _, by omega, Fr_r, fun j => by rw [if_neg (by omega)]⟩
  · rintro i s hi ⟨g1, g2, g3, g5⟩ K
    have e96 : s 96 = σ 96 := g3 96 (by decide)
    have L : ∀ x, wd a1 a2 a3 a4 a5 i = x → Yx (d + 0) cd177 1 Q 23 [vr 96, vi a1, vi a2, vi a3, vi a4, vi a5, vi (i + 1), vt] [] (sw s 122 (fu (s 122) (σ 96 37 + i) (w8 (shr32 x (24 - 8 * (i % 4)))))) := fun x hx => K _ ⟨by omega, by omega, Fr_w g3 (by decide), fun j => by
      rw [sw_s]
      by_cases e : j = σ 96 37 + i
      · rw [e, fu_s, if_pos (by omega), show σ 96 37 + i - σ 96 37 = i by omega, hx]
      · rw [fu_n e, g5 j]
        by_cases c : σ 96 37 ≤ j ∧ j < σ 96 37 + i
        · rw [if_pos c, if_pos (by omega)]
        · rw [if_neg c, if_neg (by omega)]⟩
    refine b177_23 ?_
    rw [e96]
    refine ⟨fun z => by omega, fun _ => ⟨fun c1 => ⟨fun c2 => ⟨fun c3 => ⟨by omega, by omega, by omega, by omega, w8_in _, by omega, by omega, L _ (by simp [wd, c1, c2, c3])⟩, fun c3 => ⟨by omega, by omega, by omega, by omega, w8_in _, by omega, by omega, L _ (by simp [wd, c1, c2, c3])⟩⟩, fun c2 => ⟨by omega, by omega, by omega, by omega, w8_in _, by omega, by omega, L _ (by simp [wd, c1, c2])⟩⟩, fun c1 => ⟨by omega, by omega, by omega, by omega, w8_in _, by omega, by omega, L _ (by simp [wd, c1])⟩⟩⟩
  · rintro i s hi ⟨g1, g2, g3, g5⟩
    have e : i = 20 := by omega
    subst e
    have e96 : s 96 = σ 96 := g3 96 (by decide)
    refine b177_23 ⟨fun _ => ?_, fun z => absurd (by decide) z⟩
    have := k s g3 g5
    rw [e96] at this ⊢
    exact ⟨by omega, this⟩
def ITp (σ : aW) : Prop := σ 32 0 = σ 96 37 ∧ 0 ≤ σ 96 37 ∧ σ 96 37 ≤ 300 ∧ ∀ i, 0 ≤ i → i < σ 96 37 → σ 33 i = σ 122 i % 256 ∧ -128 ≤ σ 122 i ∧ σ 122 i < 128
theorem t_feed {σ : aW} {a1 a2 a3 a4 a5 : Int} (hT : ITp σ) : aEv 59 true 117 [vr 0, vi a1, vi a2, vi a3, vi a4, vi a5] σ (fun r s => aEv 59 true 177 [vr 96, vi a1, vi a2, vi a3, vi a4, vi a5] s (Tp ITp [33, 122] [(32, 0), (96, 0), (96, 37)] σ r)) := by
  have hT' := hT
  obtain ⟨h1, h2, h3, h4⟩ := hT'
  refine e117 (b117_0 ⟨by omega, fun c => ?_, fun c => ?_⟩)
  · refine c57 (d := 58) (by omega) (by omega) (fun s1 f1 f2 f3 => ⟨rfl, b117_26 ?_⟩)
    refine c57 (d := 58) (by omega) (by omega) (fun s2 g1 g2 g3 => ⟨rfl, b117_34 ?_⟩)
    refine c57 (d := 58) (by omega) (by omega) (fun s3 i1 i2 i3 => ⟨rfl, b117_42 ?_⟩)
    refine c57 (d := 58) (by omega) (by omega) (fun s4 j1 j2 j3 => ⟨rfl, b117_51 ?_⟩)
    refine c57 (d := 58) (by omega) (by omega) (fun s5 k1 k2 k3 => ⟨rfl, b117_60 ?_⟩)
    have F := Fg_t (Fg_t (Fg_t (Fg_t f1 g1) i1) j1) k1
    have e37 : s5 96 37 = σ 96 37 := F 96 37 (by decide) (by decide)
    have e122 : s5 122 = σ 122 := funext (fun j => F 122 j (by decide) (by simp))
    have e33 : ∀ j, s5 33 j = if σ 96 37 ≤ j ∧ j < σ 96 37 + 20 then shr32 (wd a1 a2 a3 a4 a5 (j - σ 96 37)) (24 - 8 * ((j - σ 96 37) % 4)) % 256 else σ 33 j := fun j => by
      rw [k3, j3, i3, g3, f3, j2, i2, g2, f2, h1]
      unfold wd
      by_cases c0 : σ 96 37 ≤ j ∧ j < σ 96 37 + 20
      · rw [if_pos c0]
        by_cases c1 : 4 ≤ j - σ 96 37
        · by_cases c2 : 8 ≤ j - σ 96 37
          · by_cases c3 : 12 ≤ j - σ 96 37
            · by_cases c4 : 16 ≤ j - σ 96 37
              · rw [if_pos (by omega), if_pos c1, if_pos c2, if_pos c3, if_pos c4]
                congr 2
                omega
              · rw [if_neg (by omega), if_pos (by omega), if_pos c1, if_pos c2, if_pos c3, if_neg c4]
                congr 2
                omega
            · rw [if_neg (by omega), if_neg (by omega), if_pos (by omega), if_pos c1, if_pos c2, if_neg c3]
              congr 2
              omega
          · rw [if_neg (by omega), if_neg (by omega), if_neg (by omega), if_pos (by omega), if_pos c1, if_neg c2]
            congr 2
            omega
        · rw [if_neg (by omega), if_neg (by omega), if_neg (by omega), if_neg (by omega), if_pos (by omega), if_neg c1]
          congr 2
          omega
      · rw [if_neg c0, if_neg (by omega), if_neg (by omega), if_neg (by omega), if_neg (by omega), if_neg (by omega)]
    refine e177 (b177_0 ⟨by omega, fun _ => ?_, fun z => by omega⟩)
    have e37' : (sw s5 96 (fu (s5 96) 0 0)) 96 37 = σ 96 37 := by simp [sw, fu, e37]
    refine c177 (d := 59) (by omega) (by omega) (fun s l1 l2 => ?_)
    rw [e37'] at l2 ⊢
    have E96 : s 96 37 = σ 96 37 := by rw [l1 96 (by decide), e37']
    refine ⟨by congr 2; omega, ⟨?_, ?_, ?_, ?_⟩, ?_⟩
    · rw [sw_n (by decide), sw_s, fu_s, l1 32 (by decide), sw_n (by decide)]
      omega
    · rw [sw_s, fu_s]
      omega
    · rw [sw_s, fu_s]
      omega
    · intro i i0 i1
      rw [sw_s, fu_s] at i1
      rw [sw_n (by decide), sw_n (by decide), l2, l1 33 (by decide), sw_n (by decide), sw_n (by decide), e33, e122]
      by_cases c0 : σ 96 37 ≤ i ∧ i < σ 96 37 + 20
      · rw [if_pos c0, if_pos c0, w8_mod]
        exact ⟨rfl, w8_in _⟩
      · rw [if_neg c0, if_neg c0]
        exact h4 i i0 (by omega)
    · exact Fg_f (Fg_t (Fg_t (Fg_m F (by decide) (by decide)) (Fg_f Fg_r (by decide))) (Fg_F (Fr_s l1 (by decide)))) (by decide)
  · refine e177 (b177_0 ⟨by omega, fun z => by omega, fun _ => ⟨rfl, hT, Fg_f Fg_r (by decide)⟩⟩)
end
