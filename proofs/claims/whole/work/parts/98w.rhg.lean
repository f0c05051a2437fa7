section
/-! the reference's hour, whole -/
theorem IOf_u {σ s : aW} (h1 : s 46 = σ 46) (h4 : s 45 1 = σ 45 1) (h5 : s 96 14 = σ 96 14) (h6 : s 115 = σ 115) (h7 : s 47 = σ 47) (ht : σ 120 2532 ≤ s 120 2532) (h : IOf σ) : IOf s := by
  obtain ⟨a1, a2, a3, a4, a5, a6, a7, a8⟩ := h
  unfold IOf
  rw [h1, h4, h5, h6, h7]
  exact ⟨a1, a2, a3, by omega, a5, a6, a7, fun x x0 x1 => a8 x (by omega) x1⟩
theorem mSt_k {σ s : aW} {B : Int → Int} {l : List rRu} (h1 : s 123 = σ 123) (h2 : s 124 = σ 124) (h : mSt σ B l) : mSt s B l := by
  unfold mSt at *
  rw [h1, h2]
  exact h
theorem zY_k {σ s s' : aW} {w : Int → Int} {l : List rRu} (h : zY σ l w s) (e : ∀ k, k = 126 ∨ k = 127 ∨ k = 128 ∨ k = 132 ∨ k = 137 ∨ k = 138 → s' k = s k) : zY σ l w s' := by
  unfold zY at *
  simp only [e 126 (by omega), e 127 (by omega), e 128 (by omega), e 132 (by omega), e 137 (by omega), e 138 (by omega)]
  exact h
abbrev zL0 : List Nat := [120, 126, 127, 128, 129, 130, 131, 132, 134, 135, 136, 137, 138, 139]
abbrev zP0 : List (Nat × Int) := [(96, 46), (96, 47), (96, 48), (96, 49), (96, 50), (96, 51), (96, 52), (96, 53), (96, 54), (96, 55), (96, 56), (96, 57), (96, 58), (96, 66), (96, 74), (96, 75), (96, 76)]
/-- prices, send, flows -/
theorem c217a {d : Nat} {Q : aQ} {σ s : aW} {w : Int → Int} {l : List rRu} {B : Int → Int} (hI : qI σ) (hB : qB σ w) (hM : mSt σ B l) (hR : Fg zL zP σ s) (hw : s 120 = w)
    (k : ∀ s', Fg [126, 127, 128, 129, 130, 131, 132, 137, 138] ((96, 66) :: mPY) s s' → zY σ l w s' → Yx (d + 24 + 16) cd217 0 Q 76 [vr 96, vl (qSd σ l w), vt, vt, vt, vt, vt] [] s') : aEv (d + 24 + 16) true 217 [vr 96] s Q := by
  have hn := hI.1.1
  unfold Nn at hn
  have hm := hB.2.1
  have mE : ∀ (h : Int) (t : aW), (h = -1 ∨ (0 ≤ h ∧ h < 17)) → Fg [126, 127, 128, 129, 130, 131, 132, 137, 138] ((96, 66) :: mPY) s t → mEh (qE σ w h) h t ∧ mSt t B l := fun h t hh ft => by
    refine ⟨mEf_h (s := sw σ 120 w) (by rw [sw_s]; omega) (by rw [sw_s]; omega) hh ?_ ?_ ?_ ?_, mSt_k ?_ ?_ hM⟩
    · rw [sw_s, Fg_k ft (k := 120) (by decide) (by decide)]; exact hw
    · rw [sw_n (by decide), Fg_k ft (k := 114) (by decide) (by decide)]; exact Fg_k hR (by decide) (by decide)
    · rw [sw_n (by decide), Fg_k ft (k := 110) (by decide) (by decide)]; exact Fg_k hR (by decide) (by decide)
    · rw [sw_n (by decide), Fg_k ft (k := 111) (by decide) (by decide)]; exact Fg_k hR (by decide) (by decide)
    · rw [Fg_k ft (k := 123) (by decide) (by decide)]; exact Fg_k hR (by decide) (by decide)
    · rw [Fg_k ft (k := 124) (by decide) (by decide)]; exact Fg_k hR (by decide) (by decide)
  have m0 := mE (-1) s (Or.inl rfl) Fg_r
  refine e217 (b217_0 (m195 (d := d + 1) m0.2 m0.1 (fun s1 f1 => ⟨qSd σ l w, rfl, b217_15_1 ?_⟩)))
  have s7 : s 96 7 = σ 96 7 := Fg_kq hR (by decide) (by decide)
  refine for_up (X := fun i t => Yx (d + 24 + 16) cd217 0 Q 18 [vr 96, vl (qSd σ l w), vt, vi i, vt, vt, vt] [] t) (I := fun i t => 0 ≤ i ∧ i ≤ σ 96 7 ∧ Fg [137, 138] mPY s t ∧ ∀ h, 0 ≤ h → h < i → t 137 h = qPr σ l w h ∧ t 138 h = qLp σ l w h) (N := σ 96 7) ?_ ?_ 0 s1 ⟨Int.le_refl _, by omega, Fg_m f1 (by decide) (by decide), fun h h0 h1 => by omega⟩
  · rintro i t hi ⟨i0, i1, f2, g1⟩ K
    have t7 : t 96 7 = σ 96 7 := (f2 96 7 (by decide) (by decide)).trans s7
    have ma := mE i t (Or.inr ⟨i0, by omega⟩) (Fg_m f2 (by decide) (by decide))
    refine b217_18 ⟨fun z => by omega, fun _ => m195 (d := d + 1) ma.2 ma.1 (fun t1 f3 => ⟨qPr σ l w i, rfl, b217_44_3 ⟨by omega, ?_⟩⟩)⟩
    have f4 : Fg [137, 138] mPY s (sw t1 137 (fu (t1 137) i (qPr σ l w i))) := Fg_w (Fg_t f2 (Fg_m f3 (by decide) (by decide))) (by decide)
    have mb := mE i _ (Or.inr ⟨i0, by omega⟩) (Fg_m f4 (by decide) (by decide))
    refine m195 (d := d + 1) mb.2 mb.1 (fun t2 f5 => ⟨qLp σ l w i, rfl, b217_61_3 ⟨by omega, by omega, K _ ⟨by omega, by omega, ?_, fun h h0 h1 => ?_⟩⟩⟩)
    · exact Fg_w (Fg_t f4 (Fg_m f5 (by decide) (by decide))) (by decide)
    · have e1 : t2 137 = fu (t1 137) i (qPr σ l w i) := by rw [Fg_k f5 (k := 137) (by decide) (by decide), sw_s]
      have e2 : t2 138 = t1 138 := by rw [Fg_k f5 (k := 138) (by decide) (by decide), sw_n (by decide)]
      rw [sw_n (by decide), sw_s, e1, e2, Fg_k f3 (k := 137) (by decide) (by decide), Fg_k f3 (k := 138) (by decide) (by decide)]
      by_cases z : h = i
      · rw [z, fu_s, fu_s]
        exact ⟨rfl, rfl⟩
      · rw [fu_n z, fu_n z]
        exact g1 h h0 (by omega)
  · rintro i t hi ⟨i0, i1, f2, g1⟩
    have e : i = σ 96 7 := by omega
    rw [e] at g1
    have t7 : t 96 7 = σ 96 7 := (f2 96 7 (by decide) (by decide)).trans s7
    have fb : Fg [120] [] σ (sw σ 120 w) := Fg_w Fg_r (by decide)
    have fN0 := fN_g fb (by decide) (by decide) (by decide) (by decide) (by decide)
    have eR : wRes (sw σ 120 w) (qA σ w) (qD σ l w) = wRes σ (qA σ w) (qD σ l w) := (wRes_c fN0.1 fN0.2.2.1 fN0.2.2.2).1
    have ma := mE (-1) t (Or.inl rfl) (Fg_m f2 (by decide) (by decide))
    have ft : Fg zL zP σ t := Fg_t hR (Fg_m f2 (by decide) (by decide))
    have gk : ∀ k, k = 101 ∨ k = 102 ∨ k = 103 ∨ k = 104 ∨ k = 107 ∨ k = 108 ∨ k = 109 ∨ k = 110 ∨ k = 111 ∨ k = 114 → t k = sw σ 120 w k := fun k hk => by
      rw [sw_n (by omega)]
      rcases hk with z | z | z | z | z | z | z | z | z | z <;> rw [z] <;> exact Fg_k ft (by decide) (by decide)
    have a6 := hI.2.1.2.2.2.2 (w 2532) hm.1 (by omega)
    have eA : qA σ w = σ 114 (w 2532) := rfl
    refine b217_18 ⟨fun z => ?_, fun z => by omega⟩
    refine m203 (d := d) (σ := sw σ 120 w) (a := qA σ w) (e := qE σ w (-1)) (l := l) (B := B) (INet_k fb (by decide) hI.1) ⟨gk 101 (by omega), gk 102 (by omega), gk 103 (by omega), gk 104 (by omega), gk 107 (by omega), gk 108 (by omega), gk 109 (by omega), gk 110 (by omega), gk 111 (by omega), gk 114 (by omega), ?_, ?_, ?_⟩ t7 (by rw [sw_s]; omega) (by rw [sw_s, sw_n (by decide)]; rfl) (by rw [eA]; exact a6.2) ma.2 ma.1 (fun t2 f3 g2 => ⟨rfl, k t2 ?_ ⟨fun p p0 p1 => ?_, fun h h0 h1 => ⟨?_, ?_⟩, fun p h p0 p1 h0 h1 => ?_, fun h h0 h1 => ?_⟩⟩)
    · rw [sw_n (by decide)]; exact Fg_kq ft (by decide) (by decide)
    · rw [sw_n (by decide)]; exact Fg_kq ft (by decide) (by decide)
    · rw [sw_s, Fg_k f2 (k := 120) (by decide) (by decide), hw]
    · exact Fg_t (Fg_m f2 (by decide) (by decide)) (Fg_m f3 (by decide) (by decide))
    · have := g2.1 p p0 p1
      rw [show rAns (qE σ w (-1)) 1 l 5 60 30 = qD σ l w from rfl, eR] at this
      exact this
    · have := (g2.2.1 h h0 h1).1
      rw [show rAns (qE σ w (-1)) 1 l 5 60 30 = qD σ l w from rfl, eR] at this
      exact this
    · have := (g2.2.1 h h0 h1).2
      rw [this]
      rfl
    · have := g2.2.2 p h p0 p1 h0 h1
      rw [show rAns (qE σ w (-1)) 1 l 5 60 30 = qD σ l w from rfl, eR] at this
      exact this
    · rw [Fg_k f3 (k := 137) (by decide) (by decide), Fg_k f3 (k := 138) (by decide) (by decide)]
      exact g1 h h0 h1
/-- the water has left, the plant has made -/
def zW (σ : aW) (l : List rRu) (w : Int → Int) (s0 s : aW) : Prop := Fg [120, 134, 135] [] s0 s ∧ (∀ n, 0 ≤ n → n < 12 → s 134 n = qWo σ l w n ∧ s 135 n = qB0 σ l w n) ∧ (∀ p, 0 ≤ p → p < σ 96 6 → s 120 (2512 + p) = qf σ l w p) ∧ s 120 2533 = w 2533 + hPu σ (w 2532) (w 2533) (qX σ l w) ∧ s 120 2534 = (if ¬ qN σ l w 0 = 0 then qB0 σ l w 0 / (100 * qN σ l w 0) else 30) ∧ s 120 2535 = (if ¬ qN σ l w 0 = 0 then qWo σ l w 0 / qN σ l w 0 else -1) ∧ s 120 2536 = w 2536 + (qX σ l w + hIn σ (w 2532) (w 2533) (qX σ l w) - hMi σ (w 2532) (w 2533) (qX σ l w) - hLe σ (w 2532) (w 2533) (qX σ l w)) ∧ s 120 2537 = w 2537 + hMi σ (w 2532) (w 2533) (qX σ l w) ∧ s 120 2540 = w 2540 + hCo σ (w 2532) (w 2533) (qX σ l w) ∧ ∀ x, (∀ p, 0 ≤ p → p < σ 96 6 → ¬ x = 2512 + p) → ¬ (2533 ≤ x ∧ x ≤ 2537) → ¬ x = 2540 → s 120 x = w x
theorem c217b {d : Nat} {Q : aQ} {σ s : aW} {w : Int → Int} {l : List rRu} (hI : qI σ) (hB : qB σ w) (hR : Fg zL zP σ s) (hY : zY σ l w s) (hw : s 120 = w)
    (k : ∀ s', zW σ l w s s' → Yx (d + 16) cd217 0 Q 324 [vr 96, vt, vt, vt, vt, vt, vi 0] [] s') : Yx (d + 16) cd217 0 Q 76 [vr 96, vl (qSd σ l w), vt, vt, vt, vt, vt] [] s := by
  have hn := hI.1.1
  unfold Nn at hn
  have tb := hB.2.1
  refine b217_76 ?_
  refine for_up (X := fun i t => Yx (d + 16) cd217 0 Q 78 [vr 96, vl (qSd σ l w), vt, vi i, vt, vt, vt] [] t) (I := fun i t => 0 ≤ i ∧ i ≤ 12 ∧ Fr [134, 135] s t ∧ ∀ n, 0 ≤ n → n < i → t 134 n = 0 ∧ t 135 n = 0) (N := 12) ?_ ?_ 0 s ⟨Int.le_refl _, by omega, Fr_r, fun n n0 n1 => by omega⟩
  · rintro i t hi ⟨i0, i1, f1, g1⟩ K
    refine b217_78 ⟨fun z => by omega, fun _ => ⟨by omega, by omega, by omega, K _ ⟨by omega, by omega, Fr_w (Fr_w f1 (by decide)) (by decide), fun n n0 n1 => ?_⟩⟩⟩
    rw [sw_n (by decide), sw_s, sw_s]
    by_cases z : n = i
    · rw [z, fu_s, fu_s]
      exact ⟨rfl, rfl⟩
    · rw [fu_n z, fu_n z]
      exact g1 n n0 (by omega)
  · rintro i t hi ⟨i0, i1, f1, g1⟩
    refine b217_78 ⟨fun _ => ?_, fun z => by omega⟩
    refine c217m hI hB hR hY (fun t2 hM => ?_) (σ 96 6).toNat 0 t (Int.le_refl _) (by omega) ⟨Fr_s f1 (by decide), fun x => ?_, fun n n0 n1 => ?_⟩
    rotate_left
    · rw [if_neg (by omega), f1 120 (by decide), hw]
    · have := g1 n n0 (by omega)
      exact ⟨this.1, this.2⟩
    obtain ⟨m1, m2, m3⟩ := hM
    have f2 : Fg [120, 134, 135] [] s t2 := Fg_F m1
    have hR2 : Fg zL zP σ t2 := Fg_t hR (Fg_m f2 (by decide) (by decide))
    have hY2 : zY σ l w t2 := zY_k hY (fun k hk => m1 k (by simp; omega))
    have m134 : ∀ n, 0 ≤ n → n < 12 → t2 134 n = qO0 σ l w n ∧ t2 135 n = qB0 σ l w n := m3
    have n0 := m134 0 (by decide) (by decide)
    have eN : qN σ l w 0 = qNo σ l w 0 := if_pos rfl
    have nb := qN_b hI l w 0
    have bb := (qW0 hI l hB 0).2
    have xb := qXb hI l hB
    have sd := qSd_b (σ := σ) (l := l) (w := w)
    have p0 : 0 ≤ qSd σ l w * 100 * qN σ l w 0 := Int.mul_nonneg (by omega) nb.1
    have p1 : qSd σ l w * 100 * qN σ l w 0 ≤ 12000 * qN σ l w 0 := Int.mul_le_mul_of_nonneg_right (by omega) nb.1
    have lo : ∀ x, ¬ (2512 ≤ x ∧ x < 2512 + σ 96 6) → t2 120 x = w x := fun x hx => by rw [m2, if_neg hx]
    refine zN hI hR2 hY2 ⟨_, rfl, b217_222_1 ?_⟩
    rw [n0.2, ← eN]
    refine ⟨by omega, by omega, by omega, ?_⟩
    have eX : max 0 (qSd σ l w * 100 * qN σ l w 0 - qB0 σ l w 0) = qX σ l w := rfl
    rw [eX]
    have mt := hB.2.2.2.2
    refine c214 (t := w 2532) (z := w 2533) (IDp_k hR2 (by decide) hI.2.2.2.1) (IBo_k hR2 (by decide) hI.2.2.2.2.1) (IOf_u (Fg_k hR2 (by decide) (by decide)) (Fg_kq hR2 (by decide) (by decide)) (Fg_kq hR2 (by decide) (by decide)) (Fg_k hR2 (by decide) (by decide)) (Fg_k hR2 (by decide) (by decide)) (by rw [lo 2532 (by omega)]; exact tb.1) hI.2.2.1) (lo 2532 (by omega)) (lo 2533 (by omega)) (by omega) (by omega) (by omega) (fun i hi => ?_) (fun t3 f3 k3 k6 k7 k0 ko => ⟨_, rfl, b217_246_1 ?_⟩)
    · rw [lo i (by omega)]
      have := mt (i - 2536) (by omega) (by omega)
      rw [show 2536 + (i - 2536) = i by omega] at this
      omega
    have hq : ∀ k, (k = 50 ∨ k = 112 ∨ k = 113 ∨ k = 115 ∨ k = 125) → t2 k = σ k := fun k hk => by
      rcases hk with z | z | z | z | z <;> rw [z] <;> exact Fg_k hR2 (by decide) (by decide)
    have hq6 : ∀ i, (i = 8 ∨ i = 14 ∨ i = 42 ∨ i = 43 ∨ i = 44) → t2 96 i = σ 96 i := fun k hk => by
      rcases hk with z | z | z | z | z <;> rw [z] <;> exact Fg_kq hR2 (by decide) (by decide)
    have eLv : hLv t2 (w 2532) (w 2533) = hLv σ (w 2532) (w 2533) := by
      unfold hLv
      rw [hq6 44 (by omega), hq6 42 (by omega), hq6 43 (by omega), hq 125 (by omega)]
    have eIn : hIn t2 (w 2532) (w 2533) (qX σ l w) = hIn σ (w 2532) (w 2533) (qX σ l w) := by unfold hIn; rw [eLv]
    have eMi : hMi t2 (w 2532) (w 2533) (qX σ l w) = hMi σ (w 2532) (w 2533) (qX σ l w) := by unfold hMi; rw [eIn, hq 115 (by omega)]
    have eLe : hLe t2 (w 2532) (w 2533) (qX σ l w) = hLe σ (w 2532) (w 2533) (qX σ l w) := by unfold hLe; rw [eIn, eMi, hq 50 (by omega), hq 112 (by omega), hq6 8 (by omega)]
    have eCo : hCo t2 (w 2532) (w 2533) (qX σ l w) = hCo σ (w 2532) (w 2533) (qX σ l w) := by unfold hCo; rw [eIn, eMi, hq 50 (by omega), hq 112 (by omega), hq 113 (by omega), hq6 8 (by omega), hq6 14 (by omega)]
    have ePu : hPu t2 (w 2532) (w 2533) (qX σ l w) = hPu σ (w 2532) (w 2533) (qX σ l w) := by unfold hPu; rw [eIn, eLe]
    have eMd : hMd t2 (w 2532) (w 2533) (qX σ l w) = hMd σ (w 2532) (w 2533) (qX σ l w) := by unfold hMd; rw [eIn, eLe, ePu]
    have mk := qMk hI l hB
    have x135 : t3 135 0 = qB0 σ l w 0 := by rw [f3 135 (by decide)]; exact n0.2
    have w50 : qB0 σ l w 0 + hMd σ (w 2532) (w 2533) (qX σ l w) = qWo σ l w 0 := (if_pos rfl).symm
    rw [eMd, x135, w50]
    rw [ePu] at k3
    rw [eIn, eMi, eLe, lo 2536 (by omega)] at k6
    rw [eMi, lo 2537 (by omega)] at k7
    rw [eCo, lo 2540 (by omega)] at k0
    have wo := qWob hI l hB 0
    refine ⟨by omega, fun z => by omega, fun z => by omega, k _ ⟨?_, fun n n0 n1 => ?_, fun p p0 p1 => ?_, ?_, ?_, ?_, ?_, ?_, ?_, fun x x1 x2 x3 => ?_⟩⟩
    · exact Fg_w (Fg_w (Fg_w (Fg_t f2 (Fg_F (Fr_s f3 (by decide)))) (by decide)) (by decide)) (by decide)
    · have a := m134 n n0 n1
      rw [sw_n (by decide), sw_n (by decide), sw_s, sw_n (by decide), sw_n (by decide), sw_n (by decide), f3 134 (by decide), f3 135 (by decide)]
      refine ⟨?_, a.2⟩
      by_cases z : n = 0
      · rw [z, fu_s]
      · rw [fu_n z, a.1]
        unfold qWo
        rw [if_neg z]
    · rw [sw_s, fu_n (by omega), fu_n (by omega), ko _ (by omega) (by omega) (by omega) (by omega), m2, if_pos (by omega)]
      congr 1
      omega
    · rw [sw_s, fu_n (by decide), fu_n (by decide)]; exact k3
    · rw [sw_s, fu_n (by decide), fu_s]
    · rw [sw_s, fu_s]
    · rw [sw_s, fu_n (by decide), fu_n (by decide)]; exact k6
    · rw [sw_s, fu_n (by decide), fu_n (by decide)]; exact k7
    · rw [sw_s, fu_n (by decide), fu_n (by decide)]; exact k0
    · rw [sw_s, fu_n (by omega), fu_n (by omega), ko _ (by omega) (by omega) (by omega) x3]
      exact lo x (fun z => x1 (x - 2512) (by omega) (by omega) (by omega))
theorem c217 {d : Nat} {Q : aQ} {σ s : aW} {w : Int → Int} {l : List rRu} {B : Int → Int} (hI : qI σ) (hB : qB σ w) (hM : mSt σ B l) (hR : Fg zL zP σ s) (hw : s 120 = w)
    (k : ∀ s', Fg zL0 zP0 s s' → s' 120 = qH σ l w → Q none s') : aEv (d + 24 + 16) true 217 [vr 96] s Q := by
  have hn := hI.1.1
  unfold Nn at hn
  have tb := hB.2.1
  refine c217a hI hB hM hR hw (fun s1 f1 hY1 => ?_)
  have hR1 : Fg zL zP σ s1 := Fg_t hR (Fg_m f1 (by decide) (by decide))
  have hw1 : s1 120 = w := by rw [Fg_k f1 (k := 120) (by decide) (by decide)]; exact hw
  refine c217b hI hB hR1 hY1 hw1 (fun s2 hW => ?_)
  obtain ⟨f2, w1, w2, w3, w4, w5, w6, w7, w8, w9⟩ := hW
  have hR2 : Fg zL zP σ s2 := Fg_t hR1 (Fg_m f2 (by decide) (by decide))
  have hY2 : zY σ l w s2 := zY_k hY1 (fun k hk => funext fun j => f2 k j (by simp; omega) (by simp))
  have u2 : ∀ x, x < 2512 ∨ x = 2532 ∨ x = 2538 ∨ x = 2539 ∨ 2541 ≤ x → s2 120 x = w x := fun x hx => w9 x (fun p p0 p1 => by omega) (by omega) (by omega)
  have z0 : ∀ u : Int → Int, sI (fun h => if σ 109 h < 0 then u h else 0) (σ 96 7).toNat = 0 := fun u => by
    rw [sI_c (g := fun _ => 0) (fun h h0 h1 => ?_)]
    · have c := sI_b (f := fun _ => 0) (B := 0) (n := (σ 96 7).toNat) (fun i _ _ => ⟨Int.le_refl _, Int.le_refl _⟩)
      omega
    · have hh := hI.1.2.2.2.2 h h0 (by omega)
      unfold Nh at hh
      rw [if_neg (by omega)]
  have e20 := z0 (qUs σ l w)
  have e21 := z0 (fun h => qNd σ w h - qUs σ l w h)
  refine for_up (X := fun i t => Yx (d + 24 + 16) cd217 0 Q 324 [vr 96, vt, vt, vt, vt, vt, vi i] [] t) (I := fun i t => 0 ≤ i ∧ i ≤ σ 96 5 ∧ zO σ l w s2 t (fun p => qFr σ l w p < i) (fun h => σ 109 h < i)) (N := σ 96 5) ?_ ?_ 0 s2 ⟨Int.le_refl _, by omega, Fg_r, fun p kk p0 p1 k0 k1 => ⟨fun z => by have := qp hI l w p0 p1; omega, fun _ => ?_⟩, fun h h0 h1 => ⟨fun z => by
      have hh := hI.1.2.2.2.2 h h0 h1
      unfold Nh at hh
      omega, fun _ => ⟨u2 _ (by omega), u2 _ (by omega), u2 _ (by omega), u2 _ (by omega)⟩⟩, by rw [e20, u2 _ (by omega)]; omega, by rw [e21, u2 _ (by omega)]; omega, fun x _ => rfl⟩
  · rintro i t hi ⟨i0, i1, hO⟩ K
    have t5 : t 96 5 = σ 96 5 := (hO.1 96 5 (by decide) (by decide)).trans (Fg_kq hR2 (by decide) (by decide))
    refine b217_324 ⟨fun z => by omega, fun _ => c220 hI hB hR2 hY2 (fun n n0 n1 => (w1 n n0 n1).1) (by omega) hO (fun t' hO' => ⟨rfl, b217_339 ⟨by omega, K t' ⟨by omega, by omega, hO'⟩⟩⟩)⟩
  · rintro i s3 hi ⟨i0, i1, hO⟩
    have e : i = σ 96 5 := by omega
    rw [e] at hO
    have t5 : s3 96 5 = σ 96 5 := (hO.1 96 5 (by decide) (by decide)).trans (Fg_kq hR2 (by decide) (by decide))
    refine b217_324 ⟨fun _ => ?_, fun z => by omega⟩
    obtain ⟨f3, o1, o2, o3, o4, o5⟩ := hO
    have hR3 : Fg zL zP σ s3 := Fg_t hR2 (Fg_m f3 (by decide) (by decide))
    have hY3 : zY σ l w s3 := zY_k hY2 (fun k hk => funext fun j => f3 k j (by simp; omega) (by simp; omega))
    have pf : ∀ p, 0 ≤ p → p < σ 96 6 → qFr σ l w p < σ 96 5 ∧ qTo σ l w p < σ 96 5 := fun p p0 p1 => by
      have h := hI.1.2.1 p p0 p1
      unfold Np at h
      unfold qFr qTo hFr hTo
      refine ⟨?_, ?_⟩ <;> split <;> omega
    have hf : ∀ h, 0 ≤ h → h < σ 96 7 → σ 109 h < σ 96 5 := fun h h0 h1 => by
      have hh := hI.1.2.2.2.2 h h0 h1
      unfold Nh at hh
      omega
    have o1' : ∀ p k, 0 ≤ p → p < σ 96 6 → 0 ≤ k → k < σ 103 p → s3 120 (60 * p + k) = qV0 σ l w p k := fun p k p0 p1 k0 k1 => (o1 p k p0 p1 k0 k1).1 (pf p p0 p1).1
    have o2' : ∀ h, 0 ≤ h → h < σ 96 7 → zH1 σ l w s3 h := fun h h0 h1 => (o2 h h0 h1).1 (hf h h0 h1)
    have full : ∀ u : Int → Int, sI (fun h => if σ 109 h < σ 96 5 then u h else 0) (σ 96 7).toNat = sI u (σ 96 7).toNat := fun u => sI_c (fun h h0 h1 => by rw [if_pos (hf h h0 (by omega))])
    have o3' : s3 120 2538 = w 2538 + sI (qUs σ l w) (σ 96 7).toNat := by rw [o3, full (qUs σ l w)]
    have o4' : s3 120 2541 = w 2541 + sI (fun h => qNd σ w h - qUs σ l w h) (σ 96 7).toNat := by rw [o4, full (fun h => qNd σ w h - qUs σ l w h)]
    have zx : ∀ x, (1200 ≤ x ∧ x < 2400) ∨ (2464 ≤ x ∧ x < 2480) ∨ (2512 ≤ x ∧ ¬ x = 2538 ∧ ¬ x = 2541) → s3 120 x = s2 120 x := fun x hx => o5 x ⟨fun p k p0 p1 k0 k1 => by have := qp hI l w p0 p1; omega, fun h h0 h1 => by omega, by omega, by omega⟩
    refine for_up (X := fun i t => Yx (d + 24 + 16) cd217 0 Q 348 [vr 96, vt, vt, vt, vt, vt, vi i] [] t) (I := fun i t => 1 ≤ i ∧ zB σ l w s3 t (fun p => qTo σ l w p < i)) (N := σ 96 5) ?_ ?_ 1 s3 ⟨Int.le_refl _, zB_c (D := fun _ => False) ⟨Fg_r, fun p kk p0 p1 k0 k1 => ⟨fun z => z.elim, fun _ => ?_⟩, fun x _ => rfl⟩ (fun p p0 p1 fz => ⟨fun z => z.elim, fun z => ?_⟩)⟩
    · rintro i t hi ⟨i0, hO⟩ K
      have t5 : t 96 5 = σ 96 5 := (hO.1 96 5 (by decide) (by decide)).trans (Fg_kq hR3 (by decide) (by decide))
      have x135 : s3 135 = s2 135 := Fg_k f3 (by decide) (by decide)
      refine b217_348 ⟨fun z => by omega, fun _ => c221 hI hB hR3 hY3 (fun n n0 n1 => by rw [x135]; exact (w1 n n0 n1).2) (fun h h0 h1 => (o2' h h0 h1).2.2.2.2.2.2) (by omega) hO (fun t' hO' => ⟨rfl, b217_363 ⟨by omega, K t' ⟨by omega, hO'⟩⟩⟩)⟩
    · rintro i s4 hi ⟨i0, hO⟩
      have t5 : s4 96 5 = σ 96 5 := (hO.1 96 5 (by decide) (by decide)).trans (Fg_kq hR3 (by decide) (by decide))
      refine b217_348 ⟨fun _ => ?_, fun z => by omega⟩
      obtain ⟨f4, p1', p2⟩ := hO
      have hR4 : Fg zL zP σ s4 := Fg_t hR3 (Fg_m f4 (by decide) (by decide))
      have hY4 : zY σ l w s4 := zY_k hY3 (fun k hk => funext fun j => f4 k j (by simp; omega) (by simp; omega))
      have q1 : ∀ p k, 0 ≤ p → p < σ 96 6 → 0 ≤ k → k < σ 103 p → s4 120 (1200 + 60 * p + k) = qV1 σ l w p k := fun p k p0 p1 k0 k1 => (p1' p k p0 p1 k0 k1).1 (by have := (pf p p0 p1).2; omega)
      have zy : ∀ x, x < 1200 ∨ 2400 ≤ x → s4 120 x = s3 120 x := fun x hx => p2 x (fun p k p0 p1 k0 k1 => by have := qp hI l w p0 p1; omega)
      refine for_up (X := fun i t => Yx (d + 24 + 16) cd217 0 Q 372 [vr 96, vt, vt, vt, vt, vt, vi i] [] t) (I := fun i t => 0 ≤ i ∧ i ≤ σ 96 6 ∧ zC σ l w s4 t i) (N := σ 96 6) ?_ ?_ 0 s4 ⟨Int.le_refl _, by omega, Fg_r, fun p kk p0 p1 k0 k1 => ⟨fun z => by omega, fun _ => ⟨?_, q1 p kk p0 p1 k0 k1⟩⟩, ?_, fun h h0 h1 => ?_, fun x _ _ _ => rfl⟩
      · rintro i t hi ⟨i0, i1, hO⟩ K
        have t6 : t 96 6 = σ 96 6 := (hO.1 96 6 (by decide) (by decide)).trans (Fg_kq hR4 (by decide) (by decide))
        refine b217_372 ⟨fun z => by omega, fun _ => c222 hI hB hR4 hY4 i0 hi hO (fun t' hO' => ⟨rfl, b217_387 ⟨by omega, K t' ⟨by omega, by omega, hO'⟩⟩⟩)⟩
      · rintro i s5 hi ⟨i0, i1, hO⟩
        have e : i = σ 96 6 := by omega
        rw [e] at hO
        have t6 : s5 96 6 = σ 96 6 := (hO.1 96 6 (by decide) (by decide)).trans (Fg_kq hR4 (by decide) (by decide))
        obtain ⟨f5, r1, r2, r3, r4⟩ := hO
        have zz : ∀ x, (2400 ≤ x ∧ x < 2464) ∨ (2480 ≤ x ∧ ¬ x = 2539) → s5 120 x = s3 120 x := fun x hx => by
          rw [r4 x (fun p k p0 p1 k0 k1 => by have := qp hI l w p0 p1; omega) (by omega) (fun h h0 h1 => by omega)]
          exact zy x (by omega)
        have y32 : s5 120 2532 = w 2532 := by rw [zz _ (by omega), zx _ (by omega), u2 _ (by omega)]
        refine b217_372 ⟨fun _ => ⟨by rw [y32]; omega, k _ ?_ ?_⟩, fun z => by omega⟩
        · exact Fg_w (Fg_t (Fg_t (Fg_t (Fg_t (Fg_m f1 (by decide) (by decide)) (Fg_m f2 (by decide) (by decide))) (Fg_m f3 (by decide) (by decide))) (Fg_m f4 (by decide) (by decide))) (Fg_m f5 (by decide) (by decide))) (by decide)
        · rw [sw_s]
          refine qS_u hI ⟨fun p kk p0 p1 k0 k1 => ?_, fun h h0 h1 => ?_, fun p p0 p1 => ?_, ⟨?_, ?_, ?_, ?_, ?_, ?_, ?_, ?_, ?_, ?_⟩, fun x hx => ?_⟩ (qH_S hI)
          · have qq := qp hI l w p0 p1
            have b := (r1 p kk p0 p1 k0 k1).1 p1
            unfold qS1
            rw [fu_n (by omega), fu_n (by omega)]
            exact b
          · obtain ⟨b1, b2, b3, b4, b5, b6, b7⟩ := o2' h h0 h1
            unfold qS2
            rw [fu_n (by omega), fu_n (by omega), fu_n (by omega), fu_n (by omega), fu_n (by omega), fu_n (by omega), fu_n (by omega), r3 h h0 h1, zz (2400 + h) (by omega), zz (2416 + h) (by omega), zz (2432 + h) (by omega), zz (2448 + h) (by omega), zz (2480 + h) (by omega), zz (2496 + h) (by omega)]
            exact ⟨b1, b2, b3, b4, rfl, b5, b6⟩
          · have qq := qp hI l w p0 p1
            rw [fu_n (by omega), zz _ (by omega), zx _ (by omega)]
            exact w2 p p0 p1
          · rw [fu_s, y32]
          · rw [fu_n (by decide), zz _ (by omega), zx _ (by omega)]; exact w3
          · rw [fu_n (by decide), zz _ (by omega), zx _ (by omega)]; exact w4
          · rw [fu_n (by decide), zz _ (by omega), zx _ (by omega)]; exact w5
          · rw [fu_n (by decide), zz _ (by omega), zx _ (by omega)]; exact w6
          · rw [fu_n (by decide), zz _ (by omega), zx _ (by omega)]; exact w7
          · rw [fu_n (by decide), zz _ (by omega)]; exact o3'
          · rw [fu_n (by decide)]; exact r2
          · rw [fu_n (by decide), zz _ (by omega), zx _ (by omega)]; exact w8
          · rw [fu_n (by decide), zz _ (by omega)]; exact o4'
          · obtain ⟨x1, x2, x3, x4⟩ := hx
            rw [fu_n (by omega), r4 x x1 (by omega) (fun h h0 h1 => by have := x2 h h0 h1; omega), p2 x (fun p k p0 p1 k0 k1 => (x1 p k p0 p1 k0 k1).2), o5 x ⟨fun p k p0 p1 k0 k1 => (x1 p k p0 p1 k0 k1).1, fun h h0 h1 => by have := x2 h h0 h1; omega, by omega, by omega⟩]
            exact w9 x x3 (by omega) (by omega)
      · have qq := qp hI l w p0 p1
        rw [zy _ (by omega)]
        exact o1' p kk p0 p1 k0 k1
      · rw [zy _ (by omega), zx _ (by omega), u2 _ (by omega)]
        show w 2539 = w 2539 + 0
        omega
      · rw [zy _ (by omega), zx _ (by omega), u2 _ (by omega)]
        show w (2464 + h) = w (2464 + h) + 0
        omega
    · have qq := qp hI l w p0 p1
      rw [zx _ (by omega), u2 _ (by omega)]
      rfl
    · have a := hTo_z hI l w p0 p1 fz
      have b := qp hI l w p0 p1
      omega
  · have qq := qp hI l w p0 p1
    rw [u2 _ (by omega)]
    rfl
end
