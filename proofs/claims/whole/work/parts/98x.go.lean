section
/-! go: hours pass on both sides -/
noncomputable def qHn (σ : aW) (l : List rRu) (w : Int → Int) : Nat → Int → Int
  | 0 => w
  | n + 1 => qH σ l (qHn σ l w n)
theorem qHn_s {σ : aW} {l : List rRu} {w : Int → Int} {i : Int} (h : 0 ≤ i) : qHn σ l w (i + 1).toNat = qH σ l (qHn σ l w i.toNat) := by
  rw [show (i + 1).toNat = i.toNat + 1 by omega]
  rfl
def qCp (σ : aW) : Int := (σ 96 12 / σ 96 13) * σ 96 13
theorem qHn_b {σ : aW} {l : List rRu} {w : Int → Int} (hI : qI σ) (hB : qB σ w) (hL : w 2533 ≤ qCp σ) (hP : σ 96 44 = 1 → ∀ k, 0 ≤ k → k < σ 96 43 → σ 125 k ≤ qCp σ) : ∀ n : Nat, w 2532 + n ≤ 5048 → qB σ (qHn σ l w n) ∧ qHn σ l w n 2532 = w 2532 + n ∧ qHn σ l w n 2533 ≤ qCp σ
  | 0, _ => ⟨hB, by show w 2532 = w 2532 + ((0 : Nat) : Int); omega, hL⟩
  | n + 1, hn => by
    obtain ⟨i1, i2, i3⟩ := qHn_b (l := l) hI hB hL hP n (by omega)
    have hS := qH_S (w := qHn σ l w n) (l := l) hI
    have b := qS_b hI i1 (by omega) hS
    obtain ⟨_, _, _, ⟨t1, t2, _⟩, _⟩ := hS
    refine ⟨b, ?_, ?_⟩
    · show qH σ l (qHn σ l w n) 2532 = _
      rw [t1, i2]
      omega
    · show qH σ l (qHn σ l w n) 2533 ≤ _
      rw [t2]
      have xb := qXb hI l i1
      have tb := i1.2.1
      have mk := hMk_b (x := qX σ l (qHn σ l w n)) hI.2.2.2.1 hI.2.2.2.2.1 hI.2.2.1 tb.1 (by omega) ⟨tb.2.2.2.1, tb.2.2.2.2.1⟩ ⟨xb.1, by omega⟩
      have lv : hLv σ (qHn σ l w n 2532) (qHn σ l w n 2533) ≤ qCp σ := by
        unfold hLv
        split
        · rename_i z
          have d := hI.2.2.2.1.2.2.2.2.2.2.2.2.1
          exact hP (by omega) _ z.2.1 z.2.2
        · exact i3
      unfold hPu
      have e : hIn σ (qHn σ l w n 2532) (qHn σ l w n 2533) (qX σ l (qHn σ l w n)) = max (hLv σ (qHn σ l w n 2532) (qHn σ l w n 2533) - qHn σ l w n 2533) (-qX σ l (qHn σ l w n)) := rfl
      split <;> omega
theorem sw_id {σ : aW} {k : Nat} : sw σ k (σ k) = σ := by
  funext a
  by_cases h : a = k
  · rw [h, sw_s]
  · rw [sw_n h]
theorem sw_eq {σ : aW} {k : Nat} {f : Int → Int} (h : σ k = f) : sw σ k f = σ := by
  rw [← h]
  exact sw_id
theorem IAr_u {σ s : aW} (h1 : s 43 = σ 43) (h2 : s 44 = σ 44) (h3 : s 114 = σ 114) (ht : σ 120 2532 ≤ s 120 2532) (h : IAr σ) : IAr s := by
  obtain ⟨a1, a2, a3, a4, a5⟩ := h
  unfold IAr
  rw [h1, h2, h3]
  exact ⟨a1, a2, a3, by omega, fun x x0 x1 => a5 x (by omega) x1⟩
/-- ISt reads these -/
abbrev kStC : List Nat := [64, 65, 66, 67, 68, 69, 70, 71, 72, 73, 103, 120]
abbrev kStR : List (Nat × Int) := [(63, 0), (63, 1), (63, 2), (63, 3), (96, 6)]
theorem ISt_c {σ t : aW} (c : ∀ k, k ∈ kStC → t k = σ k) (q : ∀ k i, (k, i) ∈ kStR → t k i = σ k i) (h : ISt 63 σ) : ISt 63 t := by
  obtain ⟨i1, i2, i3, i4, i5⟩ := h
  have e6 := q 96 6 (by decide)
  have e120 := c 120 (by decide)
  have e103 := c 103 (by decide)
  refine ⟨fun p p0 p1 k k0 k1 => ?_, ?_, fun h h0 h1 => ?_, fun p p0 p1 => ?_, fun i i0 i1 => ?_⟩
  · have := i1 p p0 (by rw [← e6]; exact p1) k k0 (by rw [← e103]; exact k1)
    show t 64 _ = t 120 _ ∧ t 64 _ = t 120 _ ∧ _
    rw [c 64 (by decide), e120]
    exact this
  · unfold Sc at *
    rw [e120, q 63 0 (by decide), q 63 1 (by decide), q 63 2 (by decide), q 63 3 (by decide)]
    exact i2
  · have := i3 h h0 h1
    unfold Sh at *
    rw [e120, show t (63 + 3) = σ (63 + 3) from c 66 (by decide), show t (63 + 4) = σ (63 + 4) from c 67 (by decide), show t (63 + 5) = σ (63 + 5) from c 68 (by decide), show t (63 + 6) = σ (63 + 6) from c 69 (by decide), show t (63 + 7) = σ (63 + 7) from c 70 (by decide), show t (63 + 8) = σ (63 + 8) from c 71 (by decide), show t (63 + 9) = σ (63 + 9) from c 72 (by decide)]
    exact this
  · have := i4 p p0 p1
    unfold Sp at *
    rw [e120, show t (63 + 2) = σ (63 + 2) from c 65 (by decide)]
    exact this
  · have := i5 i i0 i1
    unfold Sm at *
    rw [e120, show t (63 + 10) = σ (63 + 10) from c 73 (by decide)]
    exact this
theorem ISt_k {L : List Nat} {P : List (Nat × Int)} {σ t : aW} (h : Fg L P σ t) (hd : Kt L P kStC kStR = true) (hI : ISt 63 σ) : ISt 63 t := ISt_c (fun _ hk => Kc h hd hk) (fun _ _ hk => Kq h hd hk) hI
/-- what go keeps -/
def IGo (σ t : aW) : Prop := ISt 63 t ∧ IFc t ∧ IAr t ∧ IOf t ∧ t 120 2532 ≤ 5000 ∧ ILv t ∧ (t 120 2532 = 0 → t 120 2533 = 0) ∧ σ 120 2532 ≤ t 120 2532
abbrev gL : List Nat := [17, 18, 19, 20, 21, 22, 23, 24, 26, 31, 57, 58, 59, 60, 61, 62, 64, 65, 66, 67, 68, 69, 70, 71, 72, 73, 120, 126, 127, 128, 129, 130, 131, 132, 134, 135, 136, 137, 138, 139]
abbrev gP : List (Nat × Int) := [(16, 9), (16, 10), (16, 11), (45, 3), (45, 4), (45, 5), (63, 0), (63, 1), (63, 2), (63, 3), (96, 0), (96, 46), (96, 47), (96, 48), (96, 49), (96, 50), (96, 51), (96, 52), (96, 53), (96, 54), (96, 55), (96, 56), (96, 57), (96, 58), (96, 66), (96, 74), (96, 75), (96, 76)]
theorem t_go {σ : aW} {a1 : Int} (hI : qI σ) (hT : σ 56 0 = σ 96 10 ∧ σ 56 1 = σ 96 11) (hS : ISt 63 σ) (hR : IRu σ) (hF : IFc σ) (hh : σ 120 2532 ≤ 5000) (hL : ILv σ) (hz : σ 120 2532 = 0 → σ 120 2533 = 0) : aEv 59 true 121 [vr 0, vi a1] σ (fun r s => aEv 59 true 223 [vr 96, vi a1] s (Tp (IGo σ) gL gP σ r)) := by
  obtain ⟨r1, r2, B, l, r3, r4, r5, r6, r7, r8, r9, r10⟩ := hR
  have hRu : rSu σ l := ⟨r5, r8, r7, r6, r9⟩
  have hM : mSt σ B l := ⟨r1, r2, r3, r4⟩
  have sc := hS.2.1
  unfold Sc at sc
  have hB : qB σ (σ 120) := qB_I (b := 63) rfl rfl (Int.le_refl _) (by omega) (by rw [sw_id]; exact hS)
  have hb := qHn_b (l := l) hI hB hL.1 hL.2
  have hr : ∀ r : Option aV, Tp (IGo σ) gL gP σ r r (sw σ 96 (fu (σ 96) 0 0)) := fun r => by
    have f : Fg [] [(96, 0)] σ (sw σ 96 (fu (σ 96) 0 0)) := Fg_f Fg_r (by decide)
    exact ⟨rfl, ⟨ISt_k f (by decide) hS, IFc_0 hF, IAr_k f (by decide) hI.2.1, IOf_k f (by decide) hI.2.2.1, hh, hL, hz, Int.le_refl _⟩, Fg_m f (by decide) (by decide)⟩
  refine e121 (d := 53) (b121_0 ⟨fun z => ⟨by omega, fun y => ?_, fun y => e223 (d := 42) (b223_0 ⟨fun _ => ⟨by omega, by omega, fun x => absurd x (by omega), fun _ => hr _⟩, fun x => absurd z x⟩)⟩, fun z => e223 (d := 42) (b223_0 ⟨fun x => absurd x z, fun _ => hr _⟩)⟩)
  refine for_up (X := fun i s => Yx (53 + 6) cd121 1 (fun r s => aEv 59 true 223 [vr 96, vi a1] s (Tp (IGo σ) gL gP σ r)) 35 [vr 0, vi a1, vi i] [] s) (I := fun i s => 0 ≤ i ∧ i ≤ a1 ∧ Fg qL qP σ s ∧ ISt 63 (sw s 120 (qHn σ l (σ 120) i.toNat)) ∧ IFc s) (N := a1) ?_ ?_ 0 σ ⟨Int.le_refl _, by omega, Fg_r, by show ISt 63 (sw σ 120 (σ 120)); rw [sw_id]; exact hS, hF⟩
  · rintro i s hi ⟨i0, i1, f1, g1, g2⟩ K
    have b := hb i.toNat (by omega)
    refine b121_35 ⟨fun x => by omega, fun _ => c12 (d := 53) hI hT hRu f1 g1 g2 (by omega) (by omega) (by omega) (fun s' f2 _ g3 g4 => ⟨rfl, b121_51 ⟨by omega, K s' ⟨by omega, by omega, f2, by rw [qHn_s i0]; exact g3, g4⟩⟩⟩)⟩
  · rintro i s hi ⟨i0, i1, f1, g1, g2⟩
    have e : i = a1 := by omega
    rw [e] at g1 ⊢
    have b := hb a1.toNat (by omega)
    have s0 : s 63 0 = qHn σ l (σ 120) a1.toNat 2532 := by
      have := g1.2.1
      unfold Sc at this
      simp only [sw_s, sw_n (show (63 : Nat) ≠ 120 by decide)] at this
      exact this.1
    refine b121_35 ⟨fun _ => ?_, fun x => by omega⟩
    have s120 : s 120 = σ 120 := Fg_k f1 (by decide) (by decide)
    refine e223 (d := 42) (b223_0 ⟨fun _ => ⟨by rw [s120]; omega, by rw [s120]; omega, fun _ => ?_, fun x => by rw [s120] at x; omega⟩, fun x => absurd z x⟩)
    have fs : Fg [] [(96, 0)] s (sw s 96 (fu (s 96) 0 0)) := Fg_f Fg_r (by decide)
    have hR0 : Fg zL zP σ (sw s 96 (fu (s 96) 0 0)) := Fg_t (Fg_m f1 (by decide) (by decide)) (Fg_m fs (by decide) (by decide))
    refine for_up (X := fun i t => Yx (42 + 17) cd223 1 (Tp (IGo σ) gL gP σ (some (vi (s 63 0)))) 37 [vr 96, vi a1, vi i] [] t) (I := fun i t => 0 ≤ i ∧ i ≤ a1 ∧ Fg zL0 ((96, 0) :: zP0) s t ∧ t 120 = qHn σ l (σ 120) i.toNat) (N := a1) ?_ ?_ 0 _ ⟨Int.le_refl _, by omega, Fg_m fs (by decide) (by decide), by rw [sw_n (by decide), s120]; rfl⟩
    · rintro i t hi ⟨i0, i1, f2, g3⟩ K
      have bi := hb i.toNat (by omega)
      refine b223_37 ⟨fun x => by omega, fun _ => c217 (d := 18) (B := B) hI bi.1 hM (Fg_t (Fg_m f1 (by decide) (by decide)) (Fg_m f2 (by decide) (by decide))) g3 (fun t' f3 g4 => ⟨rfl, b223_46 ⟨by omega, K t' ⟨by omega, by omega, Fg_t f2 (Fg_m f3 (by decide) (by decide)), by rw [g4, qHn_s i0]⟩⟩⟩)⟩
    · rintro i t hi ⟨i0, i1, f2, g3⟩
      have e : i = a1 := by omega
      rw [e] at g3
      have fa : Fg gL gP σ t := Fg_t (Fg_m f1 (by decide) (by decide)) (Fg_m f2 (by decide) (by decide))
      have t32 : t 120 2532 = σ 120 2532 + a1 := by rw [g3, b.2.1]; omega
      have t33 : t 120 2533 ≤ qCp σ := by rw [g3]; exact b.2.2
      refine b223_37 ⟨fun _ => ⟨by omega, by rw [s0, g3], ⟨?_, IFc_k f2 (by decide) g2, IAr_u (Fg_k fa (by decide) (by decide)) (Fg_k fa (by decide) (by decide)) (Fg_k fa (by decide) (by decide)) (by omega) hI.2.1, IOf_u (Fg_k fa (by decide) (by decide)) (Fg_kq fa (by decide) (by decide)) (Fg_kq fa (by decide) (by decide)) (Fg_k fa (by decide) (by decide)) (Fg_k fa (by decide) (by decide)) (by omega) hI.2.2.1, by omega, ?_, fun x => by omega, by omega⟩, fa⟩, fun x => by omega⟩
      · refine ISt_c (σ := sw s 120 (qHn σ l (σ 120) a1.toNat)) (fun k hk => ?_) (fun k i hk => ?_) g1
        · by_cases z : k = 120
          · rw [z, sw_s]; exact g3
          · rw [sw_n z]
            simp at hk
            exact funext fun j => f2 k j (by simp; omega) (by simp; omega)
        · simp at hk
          rw [sw_n (by omega)]
          exact f2 k i (by simp; omega) (by simp; omega)
      · unfold ILv
        rw [Fg_kq fa (k := 96) (i := 12) (by decide) (by decide), Fg_kq fa (k := 96) (i := 13) (by decide) (by decide), Fg_kq fa (k := 96) (i := 43) (by decide) (by decide), Fg_kq fa (k := 96) (i := 44) (by decide) (by decide), Fg_k fa (k := 125) (by decide) (by decide)]
        exact ⟨t33, hL.2⟩
end
