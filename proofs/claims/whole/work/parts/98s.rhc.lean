section
/-! the reference's hour: the water goes out -/
abbrev zL : List Nat := [17, 18, 19, 20, 21, 22, 23, 24, 26, 31, 57, 58, 59, 60, 61, 62, 64, 65, 66, 67, 68, 69, 70, 71, 72, 73, 75, 76, 77, 78, 79, 80, 81, 82, 83, 84, 94, 95, 120, 121, 126, 127, 128, 129, 130, 131, 132, 134, 135, 136, 137, 138, 139, 140, 141]
abbrev zP : List (Nat × Int) := [(16, 9), (16, 10), (16, 11), (45, 3), (45, 4), (45, 5), (63, 0), (63, 1), (63, 2), (63, 3), (74, 0), (74, 1), (74, 2), (74, 3), (0, 15), (96, 0), (96, 46), (96, 47), (96, 48), (96, 49), (96, 50), (96, 51), (96, 52), (96, 53), (96, 54), (96, 55), (96, 56), (96, 57), (96, 58), (96, 66), (96, 74), (96, 75), (96, 76), (96, 79)]
/-- flows and prices of the hour, the reference's -/
def zY (σ : aW) (l : List rRu) (w : Int → Int) (s : aW) : Prop := (∀ p, 0 ≤ p → p < σ 96 6 → s 126 p = qf σ l w p) ∧ (∀ h, 0 ≤ h → h < σ 96 7 → s 127 h = qg σ l w h ∧ 100 * s 132 h = qNd σ w h) ∧ (∀ p h, 0 ≤ p → p < σ 96 6 → 0 ≤ h → h < σ 96 7 → s 128 (20 * h + p) = qs σ l w h p) ∧ (∀ h, 0 ≤ h → h < σ 96 7 → s 137 h = qPr σ l w h ∧ s 138 h = qLp σ l w h)
def zX (σ : aW) (x : Int) : Prop := (∀ p k, 0 ≤ p → p < σ 96 6 → 0 ≤ k → k < σ 103 p → ¬ x = 60 * p + k) ∧ (∀ h, 0 ≤ h → h < σ 96 7 → ¬ x = 2400 + h ∧ ¬ x = 2416 + h ∧ ¬ x = 2432 + h ∧ ¬ x = 2448 + h ∧ ¬ x = 2480 + h ∧ ¬ x = 2496 + h) ∧ ¬ x = 2538 ∧ ¬ x = 2541
def zH1 (σ : aW) (l : List rRu) (w : Int → Int) (s : aW) (h : Int) : Prop := s 120 (2400 + h) = w (2400 + h) + bi (¬ qNd σ w h - qUs σ l w h ≤ 0) ∧ s 120 (2416 + h) = w (2416 + h) + qUs σ l w h ∧ s 120 (2432 + h) = w (2432 + h) + (qNd σ w h - qUs σ l w h) ∧ s 120 (2448 + h) = w (2448 + h) + qPr σ l w h * qUs σ l w h / 1000 ∧ s 120 (2480 + h) = qg σ l w h ∧ s 120 (2496 + h) = (if qg σ l w h = 0 then -1 else qWm σ l w h) ∧ s 139 h = qLf σ l w h
def zH0 (w : Int → Int) (s : aW) (h : Int) : Prop := s 120 (2400 + h) = w (2400 + h) ∧ s 120 (2416 + h) = w (2416 + h) ∧ s 120 (2432 + h) = w (2432 + h) ∧ s 120 (2448 + h) = w (2448 + h)
/-- behind the pipes of D and the houses of E -/
def zO (σ : aW) (l : List rRu) (w : Int → Int) (s0 s : aW) (D E : Int → Prop) [DecidablePred E] : Prop := Fg [120, 139] [(96, 74), (96, 75), (96, 76)] s0 s ∧ (∀ p k, 0 ≤ p → p < σ 96 6 → 0 ≤ k → k < σ 103 p → (D p → s 120 (60 * p + k) = qV0 σ l w p k) ∧ (¬ D p → s 120 (60 * p + k) = qU0 w p k)) ∧ (∀ h, 0 ≤ h → h < σ 96 7 → (E h → zH1 σ l w s h) ∧ (¬ E h → zH0 w s h)) ∧ s 120 2538 = w 2538 + sI (fun h => if E h then qUs σ l w h else 0) (σ 96 7).toNat ∧ s 120 2541 = w 2541 + sI (fun h => if E h then qNd σ w h - qUs σ l w h else 0) (σ 96 7).toNat ∧ ∀ x, zX σ x → s 120 x = s0 120 x
theorem zO_c {σ s0 s : aW} {l : List rRu} {w : Int → Int} {D D' E E' : Int → Prop} [DecidablePred E] [DecidablePred E'] (h : zO σ l w s0 s D E) (hD : ∀ p, 0 ≤ p → p < σ 96 6 → (D p ↔ D' p)) (hE : ∀ h, 0 ≤ h → h < σ 96 7 → (E h ↔ E' h)) : zO σ l w s0 s D' E' := by
  obtain ⟨a1, a2, a3, a4, a5, a6⟩ := h
  have e : ∀ u : Int → Int, sI (fun h => if E h then u h else 0) (σ 96 7).toNat = sI (fun h => if E' h then u h else 0) (σ 96 7).toNat := fun u => sI_c (fun h h0 h1 => by
    have q := hE h h0 (by omega)
    by_cases z : E h
    · rw [if_pos z, if_pos (q.mp z)]
    · rw [if_neg z, if_neg (fun y => z (q.mpr y))])
  have e1 := e (qUs σ l w)
  have e2 := e (fun h => qNd σ w h - qUs σ l w h)
  refine ⟨a1, fun p k p0 p1 k0 k1 => ?_, fun h h0 h1 => ?_, by rw [a4, e1], by rw [a5, e2], a6⟩
  · have q := hD p p0 p1
    exact ⟨fun z => (a2 p k p0 p1 k0 k1).1 (q.mpr z), fun z => (a2 p k p0 p1 k0 k1).2 (fun y => z (q.mp y))⟩
  · have q := hE h h0 h1
    exact ⟨fun z => (a3 h h0 h1).1 (q.mpr z), fun z => (a3 h h0 h1).2 (fun y => z (q.mp y))⟩
theorem hFl_c {f f' L L' : Int → Int} {U U' : Int → Int → Int} {r r' : Prop} [Decidable r] [Decidable r'] {W N G p k : Int} (hf : f p = f' p) (hL : L p = L' p) (hr : r ↔ r') (m1 : hm f p ≤ L p) (k0 : 0 ≤ k) (k1 : k < L p) (hU : ∀ j, 0 ≤ j → j < L p → U p j = U' p j) : hFl f L U r W N G p k = hFl f' L' U' r' W N G p k := by
  have em : hm f p = hm f' p := by unfold hm; rw [hf]
  have m0 := hm_0 f p
  unfold hFl
  rw [← em, ← hL, ← hf]
  by_cases a : f p = 0
  · rw [if_pos a, if_pos a]; exact hU k k0 k1
  · rw [if_neg a, if_neg a]
    by_cases z : r
    · rw [if_pos z, if_pos (hr.mp z)]
      by_cases y : k < hm f p
      · rw [if_pos y, if_pos y]
      · rw [if_neg y, if_neg y]; exact hU _ (by omega) (by omega)
    · rw [if_neg z, if_neg (fun y => z (hr.mpr y))]
      by_cases y : k < L p - hm f p
      · rw [if_pos y, if_pos y]; exact hU _ (by omega) (by omega)
      · rw [if_neg y, if_neg y]
theorem hFl_0 {f L : Int → Int} {U : Int → Int → Int} {r : Prop} [Decidable r] {W N G p k : Int} (hf : f p = 0) : hFl f L U r W N G p k = U p k := by
  unfold hFl
  rw [if_pos hf]
theorem qN_r {σ : aW} (hI : qI σ) (l : List rRu) (w : Int → Int) (n : Int) : qNo σ l w n + hGi (σ 109) (qg σ l w) n (σ 96 7) = qN σ l w n := by
  unfold qN
  by_cases z : n = 0
  · rw [if_pos z, z]
    have : hGi (σ 109) (qg σ l w) 0 (σ 96 7) = sI (fun _ => 0) (σ 96 7).toNat := sI_c (fun h h0 h1 => by
      have hh := hI.1.2.2.2.2 h h0 (by omega)
      unfold Nh at hh
      show (if σ 109 h = 0 then qg σ l w h else 0) = 0
      rw [if_neg (by omega)])
    have c := sI_b (f := fun _ => 0) (B := 0) (n := (σ 96 7).toNat) (fun i _ _ => ⟨Int.le_refl _, Int.le_refl _⟩)
    omega
  · rw [if_neg z]
    exact ((qNn hI l w n).2.2.1 z).symm
theorem sI_ad {u : Int → Int} {E E' : Int → Prop} [DecidablePred E] [DecidablePred E'] {i : Int} {n : Nat} (i0 : 0 ≤ i) (i1 : i < n) (he : ¬ E i) (h : ∀ h : Int, 0 ≤ h → h < n → (E' h ↔ E h ∨ h = i)) : sI (fun h => if E' h then u h else 0) n = sI (fun h => if E h then u h else 0) n + u i := by
  have e := sI_fu (f := fun h => if E h then u h else 0) (v := u i) i0 i1
  have e0 : (if E i then u i else 0) = 0 := if_neg he
  have e1 : sI (fun h => if E h then u h else 0) n + u i = sI (fu (fun h => if E h then u h else 0) i (u i)) n := by
    rw [e, e0]
    omega
  rw [e1]
  refine sI_c (fun j j0 j1 => ?_)
  have q := h j j0 j1
  show (if E' j then u j else 0) = _
  by_cases z : j = i
  · rw [z, fu_s]
    exact if_pos ((h i i0 i1).mpr (Or.inr rfl))
  · rw [fu_n z]
    by_cases y : E j
    · rw [if_pos y, if_pos (q.mpr (Or.inl y))]
    · rw [if_neg y, if_neg (fun x => (q.mp x).elim y z)]
/-- houses of a node, from house j on -/
theorem c220h {d : Nat} {Q : aQ} {σ s0 : aW} {w : Int → Int} {l : List rRu} {n : Int} {D : Int → Prop} (hI : qI σ) (hB : qB σ w) (hR : Fg zL zP σ s0) (hY : zY σ l w s0) (n0 : 0 ≤ n ∧ n < 12)
    (k : ∀ s, zO σ l w s0 s D (fun h => σ 109 h < n ∨ (σ 109 h = n ∧ h < σ 96 7)) → Q none s) : ∀ (m : Nat) (j : Int) (s : aW), 0 ≤ j → j + m = σ 96 7 → zO σ l w s0 s D (fun h => σ 109 h < n ∨ (σ 109 h = n ∧ h < j)) → s 96 74 = qN σ l w n → s 96 75 = qWo σ l w n → s 96 76 = qGh σ l w n j → Yx (d + 3) cd220 0 Q 78 [vr 96, vi n, vi j, vt, vt, vt] [] s
  | m, j, s, j0, jm, hO, e74, e75, e76 => by
    have hn := hI.1.1
    unfold Nn at hn
    have hO' := hO
    obtain ⟨a1, a2, a3, a4, a5, a6⟩ := hO'
    replace a4 : s 120 2538 = w 2538 + sI (fun h => if σ 109 h < n ∨ (σ 109 h = n ∧ h < j) then qUs σ l w h else 0) (σ 96 7).toNat := a4
    replace a5 : s 120 2541 = w 2541 + sI (fun h => if σ 109 h < n ∨ (σ 109 h = n ∧ h < j) then qNd σ w h - qUs σ l w h else 0) (σ 96 7).toNat := a5
    have s7 : s 96 7 = σ 96 7 := (a1 96 7 (by decide) (by decide)).trans (Fg_kq hR (by decide) (by decide))
    have s11 : s 96 11 = σ 96 11 := (a1 96 11 (by decide) (by decide)).trans (Fg_kq hR (by decide) (by decide))
    have s109 : s 109 = σ 109 := (Fg_k a1 (by decide) (by decide)).trans (Fg_k hR (by decide) (by decide))
    have s127 : s 127 = s0 127 := Fg_k a1 (by decide) (by decide)
    have s132 : s 132 = s0 132 := Fg_k a1 (by decide) (by decide)
    have s137 : s 137 = s0 137 := Fg_k a1 (by decide) (by decide)
    refine b220_78 ⟨fun z => ?_, fun z => ?_⟩
    · refine k s (zO_c hO (fun p _ _ => Iff.rfl) (fun h h0 h1 => ?_))
      omega
    · match m, jm with
      | 0, jm => omega
      | m + 1, jm =>
        have j1 : j < σ 96 7 := by omega
        have q := qh hI l hB j0 j1
        rw [s109]
        refine ⟨by omega, fun y => ?_, fun y => ⟨by omega, ?_⟩⟩
        · have nb := qN_b hI l w n
          have wb := qWob hI l hB n
          have y1 := hY.2.1 j j0 j1
          have g127 : s 127 j = qg σ l w j := by rw [s127]; exact y1.1
          rw [y] at q
          have ge : 0 ≤ qGh σ l w n j := by omega
          refine for_up (X := fun i (v : Int × aW) => Yx (d + 3) cd220 0 Q 104 [vr 96, vi n, vi j, vl v.1, vt, vi i] [] v.2) (I := fun i v => 0 ≤ i ∧ i ≤ qg σ l w j ∧ v.1 = hGv (qWo σ l w n) (qN σ l w n) (qGh σ l w n j) i ∧ Fg [] [(96, 76)] s v.2 ∧ v.2 96 76 = qGh σ l w n j + i) (N := qg σ l w j) ?_ ?_ 0 (0, s) ⟨Int.le_refl _, q.2.2.2.1, ?_, Fg_r, ?_⟩
          · rintro i ⟨wm, v⟩ hi ⟨i0, i1, i2, f1, g1⟩ K
            simp only at i2 f1 g1
            show Yx (d + 3) cd220 0 Q 104 [vr 96, vi n, vi j, vl wm, vt, vi i] [] v
            have Np : 0 < qN σ l w n := by omega
            have x1 := hGv_b (g := qGh σ l w n j) (a := i) Np wb.1 wb.2 i0
            have x2 := hGv_b (g := qGh σ l w n j + i) (a := 1) Np wb.1 wb.2 (by decide)
            have e127 : v 127 = s 127 := Fg_k f1 (by decide) (by decide)
            refine b220_104 ⟨by omega, fun x => by rw [e127, g127] at x; omega, fun _ => ?_⟩
            refine c212 (by rw [f1 96 74 (by decide) (by decide), e74]; omega) (by rw [f1 96 75 (by decide) (by decide), e75]; exact wb.1) (by rw [f1 96 74 (by decide) (by decide), f1 96 75 (by decide) (by decide), e74, e75]; exact wb.2) (by rw [g1]; omega) ⟨_, rfl, b220_120_2 ?_⟩
            rw [f1 96 74 (by decide) (by decide), f1 96 75 (by decide) (by decide), e74, e75, g1]
            refine ⟨by omega, by omega, K (_, _) ⟨by omega, by omega, ?_, ?_, ?_⟩⟩
            · show wm + hGv (qWo σ l w n) (qN σ l w n) (qGh σ l w n j + i) 1 = _
              rw [hGv_s, i2]
            · exact Fg_f f1 (by decide)
            · show (sw v 96 (fu (v 96) 76 (qGh σ l w n j + i + 1))) 96 76 = _
              rw [sw_s, fu_s]
              omega
          · rintro i ⟨wm, v⟩ hi ⟨i0, i1, i2, f1, g1⟩
            simp only at i2 f1 g1
            show Yx (d + 3) cd220 0 Q 104 [vr 96, vi n, vi j, vl wm, vt, vi i] [] v
            have e : i = qg σ l w j := by omega
            rw [e] at i2 g1
            have ew : wm = qWm σ l w j := by
              rw [i2]
              unfold qWm
              rw [y]
            have e127 : v 127 = s 127 := Fg_k f1 (by decide) (by decide)
            have e132 : v 132 = s 132 := Fg_k f1 (by decide) (by decide)
            have e137 : v 137 = s 137 := Fg_k f1 (by decide) (by decide)
            have e120 : v 120 = s 120 := Fg_k f1 (by decide) (by decide)
            have e11 : v 96 11 = σ 96 11 := (f1 96 11 (by decide) (by decide)).trans s11
            have tm := hI.2.2.2.2.2
            have gw : 0 ≤ 100 * σ 96 11 * qg σ l w j := Int.mul_nonneg (by omega) (by omega)
            have gw1 : 100 * σ 96 11 * qg σ l w j ≤ 5000 * qg σ l w j := Int.mul_le_mul_of_nonneg_right (by omega) (by omega)
            refine b220_104 ⟨by omega, fun x => ?_, fun x => absurd (by rw [e127, g127]; omega) x⟩
            rw [e127, g127, e11]
            refine ⟨by omega, by omega, by omega, by omega, ?_⟩
            have nE : ¬ (σ 109 j < n ∨ (σ 109 j = n ∧ j < j)) := by omega
            obtain ⟨z1, z2, z3, z4⟩ := (a3 j j0 j1).2 nE
            have ub := hB.2.2.1 j j0 q.1
            have uc := hB.2.1
            have mt := hB.2.2.2.2
            have mt2 := mt 2 (by decide) (by decide)
            have mt5 := mt 5 (by decide) (by decide)
            rw [show (2536 : Int) + 2 = 2538 by decide] at mt2
            rw [show (2536 : Int) + 5 = 2541 by decide] at mt5
            have sb : ∀ u : Int → Int, (∀ h, 0 ≤ h → h < σ 96 7 → 0 ≤ u h ∧ u h ≤ 300000) → 0 ≤ sI (fun h => if σ 109 h < n ∨ (σ 109 h = n ∧ h < j) then u h else 0) (σ 96 7).toNat ∧ sI (fun h => if σ 109 h < n ∨ (σ 109 h = n ∧ h < j) then u h else 0) (σ 96 7).toNat ≤ 300000 * 16 := fun u hu => by
              have := sI_b (f := fun h => if σ 109 h < n ∨ (σ 109 h = n ∧ h < j) then u h else 0) (B := 300000) (n := (σ 96 7).toNat) (fun h h0 h1 => by
                have := hu h h0 (by omega)
                split <;> omega)
              omega
            have sb1 := sb (qUs σ l w) (fun h h0 h1 => by have := qh hI l hB h0 h1; omega)
            have sb2 := sb (fun h => qNd σ w h - qUs σ l w h) (fun h h0 h1 => by have := qh hI l hB h0 h1; omega)
            refine c216 (need := qNd σ w j) (used := qUs σ l w j) ⟨j0, q.1⟩ (by rw [e132, s132]; exact y1.2) ?_ (by omega) (by omega) (by omega) (by rw [e137, s137, (hY.2.2.2 j j0 j1).1]; exact (qPrb (σ := σ) (l := l) (w := w) (h := j)).1) (fun r hr => ?_) (fun s' f2 k1 k2 k3 k4 k5 k6 k7 k8 k9 k10 => ⟨rfl, b220_153 ⟨by omega, ?_⟩⟩)
            · rw [ew]
              unfold qUs hUs
              rfl
            · rw [e120]
              rcases hr with r | r | r | r | r | r <;> rw [r]
              · rw [z1]; omega
              · rw [z2]; omega
              · rw [z3]; omega
              · rw [z4]; omega
              · rw [a4]; omega
              · rw [a5]; omega
            rw [e127, g127] at k2 k3
            rw [ew] at k1 k3
            rw [e120] at k4 k5 k6 k7 k8 k9 k10
            rw [e137, s137, (hY.2.2.2 j j0 j1).1] at k6
            have c96 : ∀ x, ¬ x = 76 → s' 96 x = s 96 x := fun x hx => by rw [f2 96 (by decide)]; exact f1 96 x (by decide) (by simp; exact hx)
            refine c220h hI hB hR hY n0 k m (j + 1) s' (by omega) (by omega) ⟨?_, fun p kk p0 p1 k0 kk1 => ?_, fun h h0 h1 => ?_, ?_, ?_, fun x hx => ?_⟩ ?_ ?_ ?_
            · exact Fg_t a1 (Fg_t (Fg_m f1 (by decide) (by decide)) (Fg_F (Fr_s f2 (by decide))))
            · have qq := qp hI l w p0 p1
              rw [k10 _ (by omega) (by omega) (by omega) (by omega) (by omega) (by omega) (by omega) (by omega)]
              exact a2 p kk p0 p1 k0 kk1
            · by_cases hj : h = j
              · rw [hj]
                refine ⟨fun _ => ⟨?_, ?_, ?_, ?_, k2, ?_, ?_⟩, fun x => absurd (Or.inr ⟨y, by omega⟩) x⟩
                · rw [k9, z1]
                  congr 1
                  unfold bi
                  split <;> split <;> omega
                · rw [k4, z2]
                · rw [k7, z3]
                · rw [k6, z4]
                · rw [k3]
                  by_cases g0 : qg σ l w j = 0
                  · rw [if_neg (fun x => x g0), if_pos g0]
                  · rw [if_pos g0, if_neg g0]
                · rw [k1, fu_s]
                  rfl
              · have o : ∀ r, r = 2400 ∨ r = 2416 ∨ r = 2432 ∨ r = 2448 ∨ r = 2480 ∨ r = 2496 → s' 120 (r + h) = s 120 (r + h) := fun r hr => by
                  have := q.1
                  exact k10 _ (by omega) (by omega) (by omega) (by omega) (by omega) (by omega) (by omega) (by omega)
                have o2 : s' 139 h = s 139 h := by rw [k1, fu_n hj]; exact f1 139 h (by decide) (by simp)
                have b := a3 h h0 h1
                unfold zH1 zH0 at b ⊢
                rw [o 2400 (by omega), o 2416 (by omega), o 2432 (by omega), o 2448 (by omega), o 2480 (by omega), o 2496 (by omega), o2]
                exact ⟨fun x => b.1 (by omega), fun x => b.2 (by omega)⟩
            · rw [k5, a4]
              rw [sI_ad (u := qUs σ l w) (E := fun h => σ 109 h < n ∨ (σ 109 h = n ∧ h < j)) (E' := fun h => σ 109 h < n ∨ (σ 109 h = n ∧ h < j + 1)) (i := j) j0 (by omega) nE (fun h h0 h1 => ⟨fun x => by omega, fun x => by
                rcases x with x | x
                · omega
                · rw [x]; omega⟩)]
              omega
            · rw [k8, a5]
              rw [sI_ad (u := fun h => qNd σ w h - qUs σ l w h) (E := fun h => σ 109 h < n ∨ (σ 109 h = n ∧ h < j)) (E' := fun h => σ 109 h < n ∨ (σ 109 h = n ∧ h < j + 1)) (i := j) j0 (by omega) nE (fun h h0 h1 => ⟨fun x => by omega, fun x => by
                rcases x with x | x
                · omega
                · rw [x]; omega⟩)]
              omega
            · have hx2 := hx.2.1 j j0 j1
              rw [k10 x (by omega) (by omega) (by omega) hx.2.2.1 (by omega) (by omega) hx.2.2.2 (by omega)]
              exact a6 x hx
            · rw [c96 74 (by decide)]; exact e74
            · rw [c96 75 (by decide)]; exact e75
            · rw [f2 96 (by decide), g1]
              unfold qGh
              rw [hGi_s j0, if_pos y]
              omega
          · show (0 : Int) = _
            unfold hGv
            rw [Int.add_zero]
            omega
          · show s 96 76 = _
            rw [e76]
            omega
        · refine c220h hI hB hR hY n0 k m (j + 1) s (by omega) (by omega) (zO_c hO (fun p _ _ => Iff.rfl) (fun h h0 h1 => ⟨fun x => by omega, fun x => ?_⟩)) e74 e75 ?_
          · rcases x with x | x
            · exact Or.inl x
            · refine Or.inr ⟨x.1, ?_⟩
              by_cases hj : h = j
              · rw [hj] at x; exact absurd x.1 y
              · omega
          · rw [e76]
            unfold qGh
            rw [hGi_s j0, if_neg y]
            omega
end
