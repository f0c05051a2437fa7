section
/-! the component's hour, second half -/

/-- behind the first i houses -/
def qHo (σ : aW) (l : List rRu) (w : Int → Int) (s6 s : aW) (i : Int) : Prop := Fr [59, 60, 66, 67, 68, 69, 70, 71, 73] s6 s ∧ (∀ n, 0 ≤ n → n < 12 → s 60 n = qGh σ l w n i ∧ s 59 n = qB0 σ l w n + hGi (σ 109) (qLf σ l w) n i) ∧ (∀ h, 0 ≤ h → h < i → s 66 h = qg σ l w h ∧ s 67 h = qWm σ l w h ∧ s 68 h = w (2400 + h) + bi (¬ qNd σ w h - qUs σ l w h ≤ 0) ∧ s 69 h = w (2416 + h) + qUs σ l w h ∧ s 70 h = w (2432 + h) + (qNd σ w h - qUs σ l w h) ∧ s 71 h = w (2448 + h) + qPr σ l w h * qUs σ l w h / 1000) ∧ (∀ h, i ≤ h → s 66 h = s6 66 h ∧ s 67 h = s6 67 h ∧ s 68 h = s6 68 h ∧ s 69 h = s6 69 h ∧ s 70 h = s6 70 h ∧ s 71 h = s6 71 h) ∧ s 73 2 = w 2538 + sI (qUs σ l w) i.toNat ∧ s 73 5 = w 2541 + sI (fun h => qNd σ w h - qUs σ l w h) i.toNat ∧ (∀ j, ¬ j = 2 → ¬ j = 5 → s 73 j = s6 73 j)
theorem c12c {d : Nat} {Q : aQ} {σ s6 : aW} {w : Int → Int} {l : List rRu} (hI : qI σ) (hB : qB σ w) (hl : σ 56 1 = σ 96 11) (hG : Fg qL qP σ s6) (hY : qY σ l w s6) (hC : ∀ h, 0 ≤ h → h < 16 → s6 68 h = w (2400 + h) ∧ s6 69 h = w (2416 + h) ∧ s6 70 h = w (2432 + h) ∧ s6 71 h = w (2448 + h)) (h57 : ∀ n, 0 ≤ n → n < 12 → s6 57 n = qN σ l w n ∧ s6 58 n = qWo σ l w n)
    (k : ∀ s, qHo σ l w s6 s (σ 96 7) → aEv (d + 4) true 21 [vr 56, vr 63, vi 1] s (fun r σ' => r = none ∧ Yx (d + 5) cd12 0 Q 103 [vr 56, vr 63, vt, vt, vt, vt, vt] [] σ')) : ∀ (m : Nat) (i : Int) (s : aW), 0 ≤ i → i + m = σ 96 7 → qHo σ l w s6 s i → Yx (d + 5) cd12 0 Q 57 [vr 56, vr 63, vt, vi (qA σ w), vi i, vt, vt] [] s
  | m, i, s, i0, im, hH => by
    have hn := hI.1.1
    unfold Nn at hn
    have hG6 : Fg qL qP σ s := Fg_t hG (Fg_F (Fr_s hH.1 (by decide)))
    have eH : s 1 2 = σ 96 7 := (Fg_kq hG6 (k := 1) (i := 2) (by decide) (by decide)).trans hn.2.2.2.2.2.2.1
    refine b12_57 ⟨fun z => ?_, fun z => ?_⟩
    · have e : i = σ 96 7 := by omega
      rw [e] at hH
      exact k s hH
    · match m, im with
      | 0, im => omega
      | m + 1, im =>
        have i1 : i < σ 96 7 := by omega
        have q := qh hI l hB i0 i1
        have hh := hI.1.2.2.2.2 i i0 i1
        unfold Nh at hh
        have e11 : s 11 i = σ 110 i := by rw [Fg_k hG6 (k := 11) (by decide) (by decide)]; exact hh.2.1
        have e10 : s 10 i = σ 109 i := by rw [Fg_k hG6 (k := 10) (by decide) (by decide)]; exact hh.1
        have nb := nd_b (x := σ 110 i) (a := qA σ w) (by omega) (by omega) (by omega)
        refine e2 (b2_0 ?_)
        rw [e11]
        refine ⟨by omega, by omega, by omega, ⟨_, rfl, b12_86_5 ⟨by omega, ?_⟩⟩⟩
        have eD : 100 * (σ 110 i * max 0 (20 - qA σ w)) = qNd σ w i := rfl
        rw [eD]
        obtain ⟨f1, g1, g2, g3, g4, g5, g6⟩ := hH
        have c57 : s 57 = s6 57 := f1 57 (by decide)
        have c58 : s 58 = s6 58 := f1 58 (by decide)
        have c61 : s 61 = s6 61 := f1 61 (by decide)
        have c19 : s 19 = s6 19 := f1 19 (by decide)
        have c56 : s 56 1 = σ 96 11 := (Fg_kq hG6 (k := 56) (i := 1) (by decide) (by decide)).trans hl
        have a57 := h57 (σ 109 i) (by omega) (by omega)
        have a59 := g1 (σ 109 i) (by omega) (by omega)
        have bN := qN_b hI l w (σ 109 i)
        have bW := qWob hI l hB (σ 109 i)
        have bB := (qW0 hI l hB (σ 109 i)).2
        have bNo := qNn hI l w (σ 109 i)
        have bL := hGi_l (nd := σ 109) (mm := qLf σ l w) (mm' := qg σ l w) (n := σ 109 i) (i := i) (c := 12000) (by decide) (fun h h0 h1 => by
          have := qh hI l hB h0 (by omega : h < σ 96 7)
          unfold qLf
          omega)
        have bGm := hGi_m (nd := σ 109) (mm := qg σ l w) (n := σ 109 i) (i := i) (j := σ 96 7) (by omega) (fun q _ _ => (qgs hI l w).1 q)
        have cn := bNo.2.2.1 (by omega)
        have pr := (qPrb (σ := σ) (l := l) (w := w) (h := i)).1
        have ub := hB.2.2.1 i i0 q.1
        have uc := hB.2.1
        have o := hC i i0 q.1
        have oo := g3 i (Int.le_refl _)
        have mt := hB.2.2.2.2
        have mt2 := mt 2 (by decide) (by decide)
        have mt5 := mt 5 (by decide) (by decide)
        rw [show (2536 : Int) + 2 = 2538 by decide] at mt2
        rw [show (2536 : Int) + 5 = 2541 by decide] at mt5
        have u1 := sI_b (f := qUs σ l w) (B := 300000) (n := i.toNat) (fun h h0 h1 => by have := qh hI l hB h0 (by omega : h < σ 96 7); omega)
        have u2 := sI_b (f := fun h => qNd σ w h - qUs σ l w h) (B := 300000) (n := i.toNat) (fun h h0 h1 => by have := qh hI l hB h0 (by omega : h < σ 96 7); omega)
        refine c23 (n := σ 109 i) (got := qg σ l w i) ⟨i0, q.1⟩ e10 (by omega) (by rw [c19]; exact hY.2.1 i i0 i1) (by omega) (by rw [c56]; have := hI.2.2.2.2.2; omega) (by omega) (by rw [c57, a57.1]; omega) (fun z => by rw [c57, a57.1] at z; omega) (by rw [c57, c58, a57.1, a57.2]; exact bW) (by rw [a59.1]; omega) (by rw [c61, (hY.2.2.2 i i0 i1).1]; exact pr) (by rw [a59.2]; omega) (by rw [oo.2.2.1, o.1]; omega) (fun kk hk => ?_) (fun j hj => ?_) (fun s' f2 warm ew wb used eu ub' w60 w59 w66 w67 w69 w70 w68 w71 w73 => ⟨rfl, b12_91 ⟨by omega, ?_⟩⟩)
        · rcases hk with z | z | z <;> rw [z]
          · rw [oo.2.2.2.1, o.2.1]; omega
          · rw [oo.2.2.2.2.1, o.2.2.1]; omega
          · rw [oo.2.2.2.2.2, o.2.2.2]; omega
        · rcases hj with z | z <;> rw [z]
          · rw [g4]; omega
          · rw [g5]; omega
        have ew' : warm = qWm σ l w i := by
          rw [ew, c57, c58, a57.1, a57.2, a59.1]
          rfl
        have eu' : used = qUs σ l w i := by
          rw [eu, ew', c56]
          rfl
        rw [ew'] at w59 w67
        rw [eu'] at w59 w69 w70 w68 w71 w73
        refine c12c hI hB hl hG hY hC h57 k m (i + 1) s' (by omega) (by omega) ⟨?_, fun n n0 n1 => ?_, fun h h0 h1 => ?_, fun h h0 => ?_, ?_, ?_, fun j j0 j1 => ?_⟩
        · exact Fr_t f1 f2 (by intro k hk; simp at hk ⊢; omega)
        · have a := g1 n n0 n1
          unfold qGh at a ⊢
          rw [w60, w59, hGi_s i0, hGi_s i0]
          unfold fu
          by_cases z : n = σ 109 i
          · rw [if_pos z, if_pos z, if_pos z.symm, if_pos z.symm, ← z, a.1, a.2]
            unfold qLf
            omega
          · rw [if_neg z, if_neg z, if_neg (fun y => z y.symm), if_neg (fun y => z y.symm), a.1, a.2]
            omega
        · rw [w66, w67, w68, w69, w70, w71]
          unfold fu
          by_cases z : h = i
          · rw [z]
            simp only [if_true]
            rw [oo.2.2.1, o.1, oo.2.2.2.1, o.2.1, oo.2.2.2.2.1, o.2.2.1, oo.2.2.2.2.2, o.2.2.2, c61, (hY.2.2.2 i i0 i1).1]
            exact ⟨(by first | trivial | rfl), (by first | trivial | rfl), (by first | trivial | rfl), (by first | trivial | rfl), (by first | trivial | rfl), (by first | trivial | rfl)⟩
          · simp only [if_neg z]
            exact g2 h h0 (by omega)
        · rw [w66, w67, w68, w69, w70, w71]
          unfold fu
          simp only [if_neg (show ¬ h = i by omega)]
          exact g3 h (by omega)
        · rw [w73, fu_n (by decide), fu_s, g4, sI_s i0]; omega
        · rw [w73, fu_s, g5, sI_s i0]; omega
        · rw [w73, fu_n j1, fu_n j0]
          exact g6 j j0 j1
/-- behind the first i pipes have cooled -/
def qCo (σ : aW) (l : List rRu) (w : Int → Int) (s8 s : aW) (i : Int) : Prop := Fr [64, 72, 73] s8 s ∧ (∀ p k, 0 ≤ p → p < i → 0 ≤ k → k < σ 103 p → s 64 ((2 * p + 0) * 60 + k) = qV0 σ l w p k - qC0 σ l w p k ∧ s 64 ((2 * p + 1) * 60 + k) = qV1 σ l w p k - qC1 σ l w p k) ∧ (∀ x, 120 * i ≤ x → s 64 x = s8 64 x) ∧ s 73 3 = w 2539 + sI (qLo σ l w) i.toNat ∧ (∀ j, ¬ j = 3 → s 73 j = s8 73 j) ∧ (∀ h, 0 ≤ h → h < σ 96 7 → s 72 h = w (2464 + h) + qBl σ l w h i) ∧ (∀ h, ¬ (0 ≤ h ∧ h < σ 96 7) → s 72 h = s8 72 h)
theorem c12d {d : Nat} {Q : aQ} {σ s8 : aW} {w : Int → Int} {l : List rRu} (hI : qI σ) (hB : qB σ w) (hg : σ 56 0 = σ 96 10) (hG : Fg qL qP σ s8) (hY : qY σ l w s8) (hU : ∀ p k, 0 ≤ p → p < σ 96 6 → 0 ≤ k → k < σ 103 p → s8 64 ((2 * p + 0) * 60 + k) = qV0 σ l w p k ∧ s8 64 ((2 * p + 1) * 60 + k) = qV1 σ l w p k) (hb0 : s8 63 0 = w 2532)
    (k : ∀ s, qCo σ l w s8 s (σ 96 6) → Q none (sw s 63 (fu (s 63) 0 (s 63 0 + 1)))) : ∀ (m : Nat) (i : Int) (s : aW), 0 ≤ i → i + m = σ 96 6 → qCo σ l w s8 s i → Yx (d + 5) cd12 0 Q 106 [vr 56, vr 63, vt, vt, vi i, vt, vt] [] s
  | m, i, s, i0, im, hH => by
    have hn := hI.1.1
    unfold Nn at hn
    have hG6 : Fg qL qP σ s := Fg_t hG (Fg_F (Fr_s hH.1 (by decide)))
    have eP : s 1 1 = σ 96 6 := (Fg_kq hG6 (k := 1) (i := 1) (by decide) (by decide)).trans hn.2.2.2.1
    have eb : s 63 0 = w 2532 := by rw [hH.1 63 (by decide)]; exact hb0
    have tB := hB.2.1
    refine b12_106 ⟨fun z => ⟨by rw [eb]; omega, ?_⟩, fun z => ?_⟩
    · have e : i = σ 96 6 := by omega
      rw [e] at hH
      exact k s hH
    · match m, im with
      | 0, im => omega
      | m + 1, im =>
        have i1 : i < σ 96 6 := by omega
        have q := qp hI l w i0 i1
        have hp := hI.1.2.1 i i0 i1
        unfold Np at hp
        have e4 : s 4 i = σ 103 i := by rw [Fg_k hG6 (k := 4) (by decide) (by decide)]; exact hp.2.2.1
        have e6 : s 6 i = σ 105 i := by rw [Fg_k hG6 (k := 6) (by decide) (by decide)]; exact hp.2.2.2.2.1
        have c56 : s 56 0 = σ 96 10 := (Fg_kq hG6 (k := 56) (i := 0) (by decide) (by decide)).trans hg
        obtain ⟨f1, g1, g2, g3, g4, g5, g6⟩ := hH
        have tm := hI.2.2.2.2.2
        have us : ∀ j, 0 ≤ j → j < σ 103 i → s 64 ((2 * i + 0) * 60 + j) = qV0 σ l w i j ∧ s 64 ((2 * i + 1) * 60 + j) = qV1 σ l w i j := fun j j0 j1 => by
          rw [g2 _ (by omega), g2 _ (by omega)]
          exact hU i j i0 i1 j0 j1
        have vb := fun j j0 j1 => qVb hI l hB i0 i1 (k := j) j0 j1
        refine c24 (p := i) (w := 0) (Or.inl rfl) ⟨i0, q.2.2.2.2.2.2.2.2.1⟩ (by rw [e4]; omega) (by rw [e6]; omega) (by rw [c56]; omega) (fun j j0 j1 => by rw [e4] at j1; rw [(us j j0 j1).1]; exact (vb j j0 j1).1) (fun s1 f2 k1 k2 => ⟨_, rfl, b12_126_1 ?_⟩)
        have x4 : s1 4 = s 4 := f2 4 (by decide)
        have x6 : s1 6 = s 6 := f2 6 (by decide)
        have x56 : s1 56 = s 56 := f2 56 (by decide)
        have us1 : ∀ j, 0 ≤ j → j < σ 103 i → s1 64 ((2 * i + 1) * 60 + j) = qV1 σ l w i j := fun j j0 j1 => by
          rw [k2 _ (by rw [e4]; omega)]
          exact (us j j0 j1).2
        refine c24 (p := i) (w := 1) (Or.inr rfl) ⟨i0, q.2.2.2.2.2.2.2.2.1⟩ (by rw [x4, e4]; omega) (by rw [x6, e6]; omega) (by rw [x56, c56]; omega) (fun j j0 j1 => by rw [x4, e4] at j1; rw [us1 j j0 j1]; exact (vb j j0 j1).2) (fun s2 f3 k3 k4 => ⟨_, rfl, b12_134_2 ?_⟩)
        have eL : sI (fun j => hCl (s 56 0) (s 6 i) (s 64 ((2 * i + 0) * 60 + j))) (s 4 i).toNat + sI (fun j => hCl (s1 56 0) (s1 6 i) (s1 64 ((2 * i + 1) * 60 + j))) (s1 4 i).toNat = qLo σ l w i := by
          rw [x4, x6, x56, e4, e6, c56]
          unfold qLo
          rw [sI_c (f := fun j => hCl (σ 96 10) (σ 105 i) (s 64 ((2 * i + 0) * 60 + j))) (g := qC0 σ l w i) (fun j j0 j1 => by
            show hCl (σ 96 10) (σ 105 i) (s 64 ((2 * i + 0) * 60 + j)) = _
            rw [(us j j0 (by omega)).1]
            rfl), sI_c (f := fun j => hCl (σ 96 10) (σ 105 i) (s1 64 ((2 * i + 1) * 60 + j))) (g := qC1 σ l w i) (fun j j0 j1 => by
            show hCl (σ 96 10) (σ 105 i) (s1 64 ((2 * i + 1) * 60 + j)) = _
            rw [us1 j j0 (by omega)]
            rfl)]
        rw [eL]
        have lo := qLob hI l hB i0 i1
        have mt := hB.2.2.2.2 3 (by decide) (by decide)
        rw [show (2536 : Int) + 3 = 2539 by decide] at mt
        have u3 := sI_b (f := qLo σ l w) (B := 1440000) (n := i.toNat) (fun p p0 p1 => by have := qLob hI l hB p0 (by omega : p < σ 96 6); omega)
        have eT : s2 73 = s 73 := by rw [f3 73 (by decide), f2 73 (by decide)]
        have e73 : s2 73 3 = w 2539 + sI (qLo σ l w) i.toNat := by rw [eT]; exact g3
        have fr2 : Fr [64] s s2 := Fr_t f2 f3 (by intro k hk; simp at hk ⊢; omega)
        have Y : ∀ k, k = 17 ∨ k = 20 ∨ k = 62 → s2 k = s8 k := fun k hk => by
          rcases hk with z | z | z <;> rw [z] <;> exact (fr2 _ (by decide)).trans (f1 _ (by decide))
        refine ⟨by omega, by rw [e73]; omega, ?_⟩
        refine c25 (p := i) (H := σ 96 7) ⟨i0, q.2.2.2.2.2.2.2.2.1⟩ ⟨?_, by omega, by omega⟩ ?_ lo.1 (by omega) (fun h h0 h1 => ?_) (fun s3 f4 k5 k6 => ⟨rfl, b12_157 ⟨by omega, ?_⟩⟩)
        · rw [sw_n (by decide), fr2 1 (by decide)]
          exact (Fg_kq hG6 (k := 1) (i := 2) (by decide) (by decide)).trans hn.2.2.2.2.2.2.1
        · rw [sw_n (by decide), Y 17 (by omega), hY.1 i i0 i1]
          omega
        · rw [sw_n (by decide), sw_n (by decide), sw_n (by decide), Y 20 (by omega), Y 62 (by omega), hY.2.2.1 i h i0 i1 h0 h1, (hY.2.2.2 h h0 h1).2, fr2 72 (by decide), g5 h h0 h1]
          have a := (qgs hI l w).2 h i
          have b := (qPrb (σ := σ) (l := l) (w := w) (h := h)).2
          have c := qBlb hI l hB h (i := i) (by omega)
          have ob := hB.2.2.1 h h0 (by omega)
          omega
        have f4' : Fr [72] (sw s2 73 (fu (s2 73) 3 (s2 73 3 + qLo σ l w i))) s3 := f4
        have c3 : ∀ k, ¬ k = 72 → ¬ k = 73 → s3 k = s2 k := fun k a b => by rw [f4' k (by simp; omega), sw_n b]
        refine c12d hI hB hg hG hY hU hb0 k m (i + 1) s3 (by omega) (by omega) ⟨fun k hk => ?_, fun p j p0 p1 j0 j1 => ?_, fun x hx => ?_, ?_, fun j hj => ?_, fun h h0 h1 => ?_, fun h hh => ?_⟩
        · simp at hk
          rw [c3 k (by omega) (by omega), fr2 k (by simp; omega)]
          exact f1 k (by simp; omega)
        · rw [c3 64 (by decide) (by decide)]
          by_cases z : p = i
          · rw [z] at j1 ⊢
            refine ⟨?_, ?_⟩
            · rw [k4 _ (by rw [x4, e4]; omega), k1 j j0 (by rw [e4]; exact j1), (us j j0 j1).1, c56, e6]
              rfl
            · rw [k3 j j0 (by rw [x4, e4]; exact j1), us1 j j0 j1, x56, x6, c56, e6]
              rfl
          · have qq := qp hI l w p0 (by omega)
            rw [k4 _ (by rw [x4, e4]; omega), k2 _ (by rw [e4]; omega), k4 _ (by rw [x4, e4]; omega), k2 _ (by rw [e4]; omega)]
            exact g1 p j p0 (by omega) j0 j1
        · rw [c3 64 (by decide) (by decide), k4 _ (by rw [x4, e4]; omega), k2 _ (by rw [e4]; omega)]
          exact g2 x (by omega)
        · rw [f4' 73 (by decide), sw_s, fu_s, e73, sI_s i0]; omega
        · rw [f4' 73 (by decide), sw_s, fu_n hj, eT]
          exact g4 j hj
        · rw [k5 h h0 h1, sw_n (by decide), sw_n (by decide), sw_n (by decide), sw_n (by decide), fr2 72 (by decide), g5 h h0 h1, Y 17 (by omega), Y 20 (by omega), Y 62 (by omega), hY.1 i i0 i1, hY.2.2.1 i h i0 i1 h0 h1, (hY.2.2.2 h h0 h1).2]
          have eb : qBl σ l w h (i + 1) = qBl σ l w h i + qBp σ l w h i := sI_s i0
          have em : hm (s8 17) i = qm σ l w i := by unfold qm hm; rw [hY.1 i i0 i1]
          rw [eb]
          unfold qBp
          by_cases z : qf σ l w i = 0
          · rw [if_pos z, if_pos z]; omega
          · rw [if_neg z, if_neg z, em]; omega
        · rw [k6 h hh, sw_n (by decide), fr2 72 (by decide)]
          exact g6 h hh

/-- behind the first i houses -/
def qHol (σ : aW) (l : List rRu) (w : Int → Int) (s6 s : aW) (i : Int) : Prop := Fr [59, 60, 77, 78, 79, 80, 81, 82, 84] s6 s ∧ (∀ n, 0 ≤ n → n < 12 → s 60 n = qGh σ l w n i ∧ s 59 n = qB0 σ l w n + hGi (σ 109) (qLf σ l w) n i) ∧ (∀ h, 0 ≤ h → h < i → s 77 h = qg σ l w h ∧ s 78 h = qWm σ l w h ∧ s 79 h = w (2400 + h) + bi (¬ qNd σ w h - qUs σ l w h ≤ 0) ∧ s 80 h = w (2416 + h) + qUs σ l w h ∧ s 81 h = w (2432 + h) + (qNd σ w h - qUs σ l w h) ∧ s 82 h = w (2448 + h) + qPr σ l w h * qUs σ l w h / 1000) ∧ (∀ h, i ≤ h → s 77 h = s6 77 h ∧ s 78 h = s6 78 h ∧ s 79 h = s6 79 h ∧ s 80 h = s6 80 h ∧ s 81 h = s6 81 h ∧ s 82 h = s6 82 h) ∧ s 84 2 = w 2538 + sI (qUs σ l w) i.toNat ∧ s 84 5 = w 2541 + sI (fun h => qNd σ w h - qUs σ l w h) i.toNat ∧ (∀ j, ¬ j = 2 → ¬ j = 5 → s 84 j = s6 84 j)
theorem c12cl {d : Nat} {Q : aQ} {σ s6 : aW} {w : Int → Int} {l : List rRu} (hI : qI σ) (hB : qB σ w) (hl : σ 56 1 = σ 96 11) (hG : Fg qLl qPl σ s6) (hY : qY σ l w s6) (hC : ∀ h, 0 ≤ h → h < 16 → s6 79 h = w (2400 + h) ∧ s6 80 h = w (2416 + h) ∧ s6 81 h = w (2432 + h) ∧ s6 82 h = w (2448 + h)) (h57 : ∀ n, 0 ≤ n → n < 12 → s6 57 n = qN σ l w n ∧ s6 58 n = qWo σ l w n)
    (k : ∀ s, qHol σ l w s6 s (σ 96 7) → aEv (d + 4) true 21 [vr 56, vr 74, vi 1] s (fun r σ' => r = none ∧ Yx (d + 5) cd12 0 Q 103 [vr 56, vr 74, vt, vt, vt, vt, vt] [] σ')) : ∀ (m : Nat) (i : Int) (s : aW), 0 ≤ i → i + m = σ 96 7 → qHol σ l w s6 s i → Yx (d + 5) cd12 0 Q 57 [vr 56, vr 74, vt, vi (qA σ w), vi i, vt, vt] [] s
  | m, i, s, i0, im, hH => by
    have hn := hI.1.1
    unfold Nn at hn
    have hG6 : Fg qLl qPl σ s := Fg_t hG (Fg_F (Fr_s hH.1 (by decide)))
    have eH : s 1 2 = σ 96 7 := (Fg_kq hG6 (k := 1) (i := 2) (by decide) (by decide)).trans hn.2.2.2.2.2.2.1
    refine b12l_57 ⟨fun z => ?_, fun z => ?_⟩
    · have e : i = σ 96 7 := by omega
      rw [e] at hH
      exact k s hH
    · match m, im with
      | 0, im => omega
      | m + 1, im =>
        have i1 : i < σ 96 7 := by omega
        have q := qh hI l hB i0 i1
        have hh := hI.1.2.2.2.2 i i0 i1
        unfold Nh at hh
        have e11 : s 11 i = σ 110 i := by rw [Fg_k hG6 (k := 11) (by decide) (by decide)]; exact hh.2.1
        have e10 : s 10 i = σ 109 i := by rw [Fg_k hG6 (k := 10) (by decide) (by decide)]; exact hh.1
        have nb := nd_b (x := σ 110 i) (a := qA σ w) (by omega) (by omega) (by omega)
        refine e2 (b2_0 ?_)
        rw [e11]
        refine ⟨by omega, by omega, by omega, ⟨_, rfl, b12l_86_5 ⟨by omega, ?_⟩⟩⟩
        have eD : 100 * (σ 110 i * max 0 (20 - qA σ w)) = qNd σ w i := rfl
        rw [eD]
        obtain ⟨f1, g1, g2, g3, g4, g5, g6⟩ := hH
        have c57 : s 57 = s6 57 := f1 57 (by decide)
        have c58 : s 58 = s6 58 := f1 58 (by decide)
        have c61 : s 61 = s6 61 := f1 61 (by decide)
        have c19 : s 19 = s6 19 := f1 19 (by decide)
        have c56 : s 56 1 = σ 96 11 := (Fg_kq hG6 (k := 56) (i := 1) (by decide) (by decide)).trans hl
        have a57 := h57 (σ 109 i) (by omega) (by omega)
        have a59 := g1 (σ 109 i) (by omega) (by omega)
        have bN := qN_b hI l w (σ 109 i)
        have bW := qWob hI l hB (σ 109 i)
        have bB := (qW0 hI l hB (σ 109 i)).2
        have bNo := qNn hI l w (σ 109 i)
        have bL := hGi_l (nd := σ 109) (mm := qLf σ l w) (mm' := qg σ l w) (n := σ 109 i) (i := i) (c := 12000) (by decide) (fun h h0 h1 => by
          have := qh hI l hB h0 (by omega : h < σ 96 7)
          unfold qLf
          omega)
        have bGm := hGi_m (nd := σ 109) (mm := qg σ l w) (n := σ 109 i) (i := i) (j := σ 96 7) (by omega) (fun q _ _ => (qgs hI l w).1 q)
        have cn := bNo.2.2.1 (by omega)
        have pr := (qPrb (σ := σ) (l := l) (w := w) (h := i)).1
        have ub := hB.2.2.1 i i0 q.1
        have uc := hB.2.1
        have o := hC i i0 q.1
        have oo := g3 i (Int.le_refl _)
        have mt := hB.2.2.2.2
        have mt2 := mt 2 (by decide) (by decide)
        have mt5 := mt 5 (by decide) (by decide)
        rw [show (2536 : Int) + 2 = 2538 by decide] at mt2
        rw [show (2536 : Int) + 5 = 2541 by decide] at mt5
        have u1 := sI_b (f := qUs σ l w) (B := 300000) (n := i.toNat) (fun h h0 h1 => by have := qh hI l hB h0 (by omega : h < σ 96 7); omega)
        have u2 := sI_b (f := fun h => qNd σ w h - qUs σ l w h) (B := 300000) (n := i.toNat) (fun h h0 h1 => by have := qh hI l hB h0 (by omega : h < σ 96 7); omega)
        refine c23l (n := σ 109 i) (got := qg σ l w i) ⟨i0, q.1⟩ e10 (by omega) (by rw [c19]; exact hY.2.1 i i0 i1) (by omega) (by rw [c56]; have := hI.2.2.2.2.2; omega) (by omega) (by rw [c57, a57.1]; omega) (fun z => by rw [c57, a57.1] at z; omega) (by rw [c57, c58, a57.1, a57.2]; exact bW) (by rw [a59.1]; omega) (by rw [c61, (hY.2.2.2 i i0 i1).1]; exact pr) (by rw [a59.2]; omega) (by rw [oo.2.2.1, o.1]; omega) (fun kk hk => ?_) (fun j hj => ?_) (fun s' f2 warm ew wb used eu ub' w60 w59 w77 w78 w80 w81 w79 w82 w84 => ⟨rfl, b12l_91 ⟨by omega, ?_⟩⟩)
        · rcases hk with z | z | z <;> rw [z]
          · rw [oo.2.2.2.1, o.2.1]; omega
          · rw [oo.2.2.2.2.1, o.2.2.1]; omega
          · rw [oo.2.2.2.2.2, o.2.2.2]; omega
        · rcases hj with z | z <;> rw [z]
          · rw [g4]; omega
          · rw [g5]; omega
        have ew' : warm = qWm σ l w i := by
          rw [ew, c57, c58, a57.1, a57.2, a59.1]
          rfl
        have eu' : used = qUs σ l w i := by
          rw [eu, ew', c56]
          rfl
        rw [ew'] at w59 w78
        rw [eu'] at w59 w80 w81 w79 w82 w84
        refine c12cl hI hB hl hG hY hC h57 k m (i + 1) s' (by omega) (by omega) ⟨?_, fun n n0 n1 => ?_, fun h h0 h1 => ?_, fun h h0 => ?_, ?_, ?_, fun j j0 j1 => ?_⟩
        · exact Fr_t f1 f2 (by intro k hk; simp at hk ⊢; omega)
        · have a := g1 n n0 n1
          unfold qGh at a ⊢
          rw [w60, w59, hGi_s i0, hGi_s i0]
          unfold fu
          by_cases z : n = σ 109 i
          · rw [if_pos z, if_pos z, if_pos z.symm, if_pos z.symm, ← z, a.1, a.2]
            unfold qLf
            omega
          · rw [if_neg z, if_neg z, if_neg (fun y => z y.symm), if_neg (fun y => z y.symm), a.1, a.2]
            omega
        · rw [w77, w78, w79, w80, w81, w82]
          unfold fu
          by_cases z : h = i
          · rw [z]
            simp only [if_true]
            rw [oo.2.2.1, o.1, oo.2.2.2.1, o.2.1, oo.2.2.2.2.1, o.2.2.1, oo.2.2.2.2.2, o.2.2.2, c61, (hY.2.2.2 i i0 i1).1]
            exact ⟨(by first | trivial | rfl), (by first | trivial | rfl), (by first | trivial | rfl), (by first | trivial | rfl), (by first | trivial | rfl), (by first | trivial | rfl)⟩
          · simp only [if_neg z]
            exact g2 h h0 (by omega)
        · rw [w77, w78, w79, w80, w81, w82]
          unfold fu
          simp only [if_neg (show ¬ h = i by omega)]
          exact g3 h (by omega)
        · rw [w84, fu_n (by decide), fu_s, g4, sI_s i0]; omega
        · rw [w84, fu_s, g5, sI_s i0]; omega
        · rw [w84, fu_n j1, fu_n j0]
          exact g6 j j0 j1
/-- behind the first i pipes have cooled -/
def qCol (σ : aW) (l : List rRu) (w : Int → Int) (s8 s : aW) (i : Int) : Prop := Fr [75, 83, 84] s8 s ∧ (∀ p k, 0 ≤ p → p < i → 0 ≤ k → k < σ 103 p → s 75 ((2 * p + 0) * 60 + k) = qV0 σ l w p k - qC0 σ l w p k ∧ s 75 ((2 * p + 1) * 60 + k) = qV1 σ l w p k - qC1 σ l w p k) ∧ (∀ x, 120 * i ≤ x → s 75 x = s8 75 x) ∧ s 84 3 = w 2539 + sI (qLo σ l w) i.toNat ∧ (∀ j, ¬ j = 3 → s 84 j = s8 84 j) ∧ (∀ h, 0 ≤ h → h < σ 96 7 → s 83 h = w (2464 + h) + qBl σ l w h i) ∧ (∀ h, ¬ (0 ≤ h ∧ h < σ 96 7) → s 83 h = s8 83 h)
theorem c12dl {d : Nat} {Q : aQ} {σ s8 : aW} {w : Int → Int} {l : List rRu} (hI : qI σ) (hB : qB σ w) (hg : σ 56 0 = σ 96 10) (hG : Fg qLl qPl σ s8) (hY : qY σ l w s8) (hU : ∀ p k, 0 ≤ p → p < σ 96 6 → 0 ≤ k → k < σ 103 p → s8 75 ((2 * p + 0) * 60 + k) = qV0 σ l w p k ∧ s8 75 ((2 * p + 1) * 60 + k) = qV1 σ l w p k) (hb0 : s8 74 0 = w 2532)
    (k : ∀ s, qCol σ l w s8 s (σ 96 6) → Q none (sw s 74 (fu (s 74) 0 (s 74 0 + 1)))) : ∀ (m : Nat) (i : Int) (s : aW), 0 ≤ i → i + m = σ 96 6 → qCol σ l w s8 s i → Yx (d + 5) cd12 0 Q 106 [vr 56, vr 74, vt, vt, vi i, vt, vt] [] s
  | m, i, s, i0, im, hH => by
    have hn := hI.1.1
    unfold Nn at hn
    have hG6 : Fg qLl qPl σ s := Fg_t hG (Fg_F (Fr_s hH.1 (by decide)))
    have eP : s 1 1 = σ 96 6 := (Fg_kq hG6 (k := 1) (i := 1) (by decide) (by decide)).trans hn.2.2.2.1
    have eb : s 74 0 = w 2532 := by rw [hH.1 74 (by decide)]; exact hb0
    have tB := hB.2.1
    refine b12l_106 ⟨fun z => ⟨by rw [eb]; omega, ?_⟩, fun z => ?_⟩
    · have e : i = σ 96 6 := by omega
      rw [e] at hH
      exact k s hH
    · match m, im with
      | 0, im => omega
      | m + 1, im =>
        have i1 : i < σ 96 6 := by omega
        have q := qp hI l w i0 i1
        have hp := hI.1.2.1 i i0 i1
        unfold Np at hp
        have e4 : s 4 i = σ 103 i := by rw [Fg_k hG6 (k := 4) (by decide) (by decide)]; exact hp.2.2.1
        have e6 : s 6 i = σ 105 i := by rw [Fg_k hG6 (k := 6) (by decide) (by decide)]; exact hp.2.2.2.2.1
        have c56 : s 56 0 = σ 96 10 := (Fg_kq hG6 (k := 56) (i := 0) (by decide) (by decide)).trans hg
        obtain ⟨f1, g1, g2, g3, g4, g5, g6⟩ := hH
        have tm := hI.2.2.2.2.2
        have us : ∀ j, 0 ≤ j → j < σ 103 i → s 75 ((2 * i + 0) * 60 + j) = qV0 σ l w i j ∧ s 75 ((2 * i + 1) * 60 + j) = qV1 σ l w i j := fun j j0 j1 => by
          rw [g2 _ (by omega), g2 _ (by omega)]
          exact hU i j i0 i1 j0 j1
        have vb := fun j j0 j1 => qVb hI l hB i0 i1 (k := j) j0 j1
        refine c24l (p := i) (w := 0) (Or.inl rfl) ⟨i0, q.2.2.2.2.2.2.2.2.1⟩ (by rw [e4]; omega) (by rw [e6]; omega) (by rw [c56]; omega) (fun j j0 j1 => by rw [e4] at j1; rw [(us j j0 j1).1]; exact (vb j j0 j1).1) (fun s1 f2 k1 k2 => ⟨_, rfl, b12l_126_1 ?_⟩)
        have x4 : s1 4 = s 4 := f2 4 (by decide)
        have x6 : s1 6 = s 6 := f2 6 (by decide)
        have x56 : s1 56 = s 56 := f2 56 (by decide)
        have us1 : ∀ j, 0 ≤ j → j < σ 103 i → s1 75 ((2 * i + 1) * 60 + j) = qV1 σ l w i j := fun j j0 j1 => by
          rw [k2 _ (by rw [e4]; omega)]
          exact (us j j0 j1).2
        refine c24l (p := i) (w := 1) (Or.inr rfl) ⟨i0, q.2.2.2.2.2.2.2.2.1⟩ (by rw [x4, e4]; omega) (by rw [x6, e6]; omega) (by rw [x56, c56]; omega) (fun j j0 j1 => by rw [x4, e4] at j1; rw [us1 j j0 j1]; exact (vb j j0 j1).2) (fun s2 f3 k3 k4 => ⟨_, rfl, b12l_134_2 ?_⟩)
        have eL : sI (fun j => hCl (s 56 0) (s 6 i) (s 75 ((2 * i + 0) * 60 + j))) (s 4 i).toNat + sI (fun j => hCl (s1 56 0) (s1 6 i) (s1 75 ((2 * i + 1) * 60 + j))) (s1 4 i).toNat = qLo σ l w i := by
          rw [x4, x6, x56, e4, e6, c56]
          unfold qLo
          rw [sI_c (f := fun j => hCl (σ 96 10) (σ 105 i) (s 75 ((2 * i + 0) * 60 + j))) (g := qC0 σ l w i) (fun j j0 j1 => by
            show hCl (σ 96 10) (σ 105 i) (s 75 ((2 * i + 0) * 60 + j)) = _
            rw [(us j j0 (by omega)).1]
            rfl), sI_c (f := fun j => hCl (σ 96 10) (σ 105 i) (s1 75 ((2 * i + 1) * 60 + j))) (g := qC1 σ l w i) (fun j j0 j1 => by
            show hCl (σ 96 10) (σ 105 i) (s1 75 ((2 * i + 1) * 60 + j)) = _
            rw [us1 j j0 (by omega)]
            rfl)]
        rw [eL]
        have lo := qLob hI l hB i0 i1
        have mt := hB.2.2.2.2 3 (by decide) (by decide)
        rw [show (2536 : Int) + 3 = 2539 by decide] at mt
        have u3 := sI_b (f := qLo σ l w) (B := 1440000) (n := i.toNat) (fun p p0 p1 => by have := qLob hI l hB p0 (by omega : p < σ 96 6); omega)
        have eT : s2 84 = s 84 := by rw [f3 84 (by decide), f2 84 (by decide)]
        have e84 : s2 84 3 = w 2539 + sI (qLo σ l w) i.toNat := by rw [eT]; exact g3
        have fr2 : Fr [75] s s2 := Fr_t f2 f3 (by intro k hk; simp at hk ⊢; omega)
        have Y : ∀ k, k = 17 ∨ k = 20 ∨ k = 62 → s2 k = s8 k := fun k hk => by
          rcases hk with z | z | z <;> rw [z] <;> exact (fr2 _ (by decide)).trans (f1 _ (by decide))
        refine ⟨by omega, by rw [e84]; omega, ?_⟩
        refine c25l (p := i) (H := σ 96 7) ⟨i0, q.2.2.2.2.2.2.2.2.1⟩ ⟨?_, by omega, by omega⟩ ?_ lo.1 (by omega) (fun h h0 h1 => ?_) (fun s3 f4 k5 k6 => ⟨rfl, b12l_157 ⟨by omega, ?_⟩⟩)
        · rw [sw_n (by decide), fr2 1 (by decide)]
          exact (Fg_kq hG6 (k := 1) (i := 2) (by decide) (by decide)).trans hn.2.2.2.2.2.2.1
        · rw [sw_n (by decide), Y 17 (by omega), hY.1 i i0 i1]
          omega
        · rw [sw_n (by decide), sw_n (by decide), sw_n (by decide), Y 20 (by omega), Y 62 (by omega), hY.2.2.1 i h i0 i1 h0 h1, (hY.2.2.2 h h0 h1).2, fr2 83 (by decide), g5 h h0 h1]
          have a := (qgs hI l w).2 h i
          have b := (qPrb (σ := σ) (l := l) (w := w) (h := h)).2
          have c := qBlb hI l hB h (i := i) (by omega)
          have ob := hB.2.2.1 h h0 (by omega)
          omega
        have f4' : Fr [83] (sw s2 84 (fu (s2 84) 3 (s2 84 3 + qLo σ l w i))) s3 := f4
        have c3 : ∀ k, ¬ k = 83 → ¬ k = 84 → s3 k = s2 k := fun k a b => by rw [f4' k (by simp; omega), sw_n b]
        refine c12dl hI hB hg hG hY hU hb0 k m (i + 1) s3 (by omega) (by omega) ⟨fun k hk => ?_, fun p j p0 p1 j0 j1 => ?_, fun x hx => ?_, ?_, fun j hj => ?_, fun h h0 h1 => ?_, fun h hh => ?_⟩
        · simp at hk
          rw [c3 k (by omega) (by omega), fr2 k (by simp; omega)]
          exact f1 k (by simp; omega)
        · rw [c3 75 (by decide) (by decide)]
          by_cases z : p = i
          · rw [z] at j1 ⊢
            refine ⟨?_, ?_⟩
            · rw [k4 _ (by rw [x4, e4]; omega), k1 j j0 (by rw [e4]; exact j1), (us j j0 j1).1, c56, e6]
              rfl
            · rw [k3 j j0 (by rw [x4, e4]; exact j1), us1 j j0 j1, x56, x6, c56, e6]
              rfl
          · have qq := qp hI l w p0 (by omega)
            rw [k4 _ (by rw [x4, e4]; omega), k2 _ (by rw [e4]; omega), k4 _ (by rw [x4, e4]; omega), k2 _ (by rw [e4]; omega)]
            exact g1 p j p0 (by omega) j0 j1
        · rw [c3 75 (by decide) (by decide), k4 _ (by rw [x4, e4]; omega), k2 _ (by rw [e4]; omega)]
          exact g2 x (by omega)
        · rw [f4' 84 (by decide), sw_s, fu_s, e84, sI_s i0]; omega
        · rw [f4' 84 (by decide), sw_s, fu_n hj, eT]
          exact g4 j hj
        · rw [k5 h h0 h1, sw_n (by decide), sw_n (by decide), sw_n (by decide), sw_n (by decide), fr2 83 (by decide), g5 h h0 h1, Y 17 (by omega), Y 20 (by omega), Y 62 (by omega), hY.1 i i0 i1, hY.2.2.1 i h i0 i1 h0 h1, (hY.2.2.2 h h0 h1).2]
          have eb : qBl σ l w h (i + 1) = qBl σ l w h i + qBp σ l w h i := sI_s i0
          have em : hm (s8 17) i = qm σ l w i := by unfold qm hm; rw [hY.1 i i0 i1]
          rw [eb]
          unfold qBp
          by_cases z : qf σ l w i = 0
          · rw [if_pos z, if_pos z]; omega
          · rw [if_neg z, if_neg z, em]; omega
        · rw [k6 h hh, sw_n (by decide), fr2 83 (by decide)]
          exact g6 h hh
end
