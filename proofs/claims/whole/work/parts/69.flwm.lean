section
/-! flows: the reference's ways -/
def mG (σ s : aW) : Prop := s 101 = σ 101 ∧ s 102 = σ 102 ∧ s 103 = σ 103 ∧ s 104 = σ 104 ∧ s 107 = σ 107 ∧ s 108 = σ 108 ∧ s 109 = σ 109 ∧ s 110 = σ 110 ∧ s 111 = σ 111 ∧ s 114 = σ 114 ∧ s 96 5 = σ 96 5 ∧ s 96 6 = σ 96 6 ∧ s 120 2532 = σ 120 2532
theorem mG_f {L : List Nat} {P : List (Nat × Int)} {σ s s' : aW} (h : mG σ s) (hF : Fg L P s s') (hl : [101, 102, 103, 104, 107, 108, 109, 110, 111, 114].all (fun k => !(L.contains k) && P.all (fun q => q.1 != k)) = true) (h6 : L.contains 96 = false) (h0 : L.contains 120 = false) (q5 : P.contains (96, 5) = false) (q6 : P.contains (96, 6) = false) (q0 : P.contains (120, 2532) = false) : mG σ s' := by
  have c : ∀ k, k ∈ [101, 102, 103, 104, 107, 108, 109, 110, 111, 114] → s' k = s k := fun k hk => by
    have := List.all_eq_true.mp hl k hk
    simp only [Bool.and_eq_true, Bool.not_eq_true'] at this
    exact Fg_k hF this.1 this.2
  have p : ∀ k j, L.contains k = false → P.contains (k, j) = false → s' k j = s k j := fun k j a b => hF k j (fun z => by rw [List.contains_iff_mem.mpr z] at a; cases a) (fun z => by rw [List.contains_iff_mem.mpr z] at b; cases b)
  obtain ⟨a1, a2, a3, a4, a5, a6, a7, a8, a9, a10, a11, a12, a13⟩ := h
  exact ⟨(c 101 (by decide)).trans a1, (c 102 (by decide)).trans a2, (c 103 (by decide)).trans a3, (c 104 (by decide)).trans a4, (c 107 (by decide)).trans a5, (c 108 (by decide)).trans a6, (c 109 (by decide)).trans a7, (c 110 (by decide)).trans a8, (c 111 (by decide)).trans a9, (c 114 (by decide)).trans a10, (p 96 5 h6 q5).trans a11, (p 96 6 h6 q6).trans a12, (p 120 2532 h0 q0).trans a13⟩
theorem mG_n {σ s : aW} (h : mG σ s) : s 101 = fN σ 101 ∧ s 102 = fN σ 102 ∧ s 103 = fN σ 103 ∧ s 104 = fN σ 104 ∧ s 107 = fN σ 107 ∧ s 108 = fN σ 108 := by
  rw [fN_k (k := 101) (by omega), fN_k (k := 102) (by omega), fN_k (k := 103) (by omega), fN_k (k := 104) (by omega), fN_k (k := 107) (by omega), fN_k (k := 108) (by omega)]
  exact ⟨h.1, h.2.1, h.2.2.1, h.2.2.2.1, h.2.2.2.2.1, h.2.2.2.2.2.1⟩
theorem c198 {d : Nat} {Q : aQ} {σ s : aW} {f : Int → Int} {p n : Int} (hN : INet σ) (hG : mG σ s) (p0 : 0 ≤ p) (p1 : p < σ 96 6) (hf : s 126 p = f p) (hb : -100 ≤ f p ∧ f p ≤ 100) (k : ∀ x, (x = 0 ∨ x = 1) → (¬ x = 0 ↔ wC (fN σ) f p n) → Q (some (vi x)) s) : aEv (d + 1) true 198 [vr 96, vi p, vi n] s Q := by
  have hn := hN.1
  unfold Nn at hn
  have hW := wN_of hN
  have n6 : fN σ 96 6 = σ 96 6 := fN_6
  have hp := hW.2.2.2.2 p p0 (by omega)
  obtain ⟨e1, e2, e3, e4, e7, e8⟩ := mG_n hG
  have k0 : ¬ wC (fN σ) f p n → Q (some (vi 0)) s := fun z => k 0 (Or.inl rfl) ⟨fun y => absurd rfl y, fun y => absurd y z⟩
  have kk : ∀ (P : Prop) [Decidable P], (P ↔ wC (fN σ) f p n) → Q (some (vi (bi P))) s := fun P _ z => k _ bi_01 (by
    rw [← z]
    unfold bi
    by_cases y : P
    · rw [if_pos y]
      exact ⟨fun _ => y, fun _ => by decide⟩
    · rw [if_neg y]
      exact ⟨fun w => absurd rfl w, fun w => absurd w y⟩)
  refine e198 (b198_0 ?_)
  rw [e1, e2, e4, e7, e8, hf]
  have hrm : wRm (fN σ) f p = if fN σ 108 p = 0 ∧ fN σ 107 (2 * p) = 0 ∧ fN σ 107 (2 * p + 1) = 0 then fN σ 104 p - ((f p).natAbs : Int) else 0 := rfl
  unfold wC at k0 kk
  by_cases ho : fN σ 108 p = 0 ∧ fN σ 107 (2 * p) = 0 ∧ fN σ 107 (2 * p + 1) = 0
  · rw [if_pos ho] at hrm
    rw [hrm] at k0 kk
    refine ⟨by omega, fun _ => ⟨by omega, fun z => ⟨by omega, fun z2 => k0 (by omega), fun z2 => ⟨by omega, fun z3 => k0 (by omega), fun z3 => ⟨by omega, by omega, by omega, kk _ (by omega)⟩⟩⟩, fun z => ⟨by omega, fun z2 => k0 (by omega), fun z2 => ⟨by omega, by omega, kk _ (by omega)⟩⟩⟩, fun z => absurd ho z⟩
  · rw [if_neg ho] at hrm
    exact ⟨by omega, fun z => absurd z ho, fun _ => k0 (by omega)⟩
theorem c200 {d : Nat} {Q : aQ} {σ s0 : aW} {f : Int → Int} {t : Int} (hN : INet σ) (hG : mG σ s0) (t0 : 0 ≤ t) (t1 : t < σ 96 5) (hf : ∀ p, 0 ≤ p → p < σ 96 6 → s0 126 p = f p ∧ -100 ≤ f p ∧ f p ≤ 100)
    (k1 : wDs (fN σ) f t 0 < 1000000 → ∀ s, Fg [129, 131] [(96, 66)] s0 s → s 96 66 = (wK (fN σ) f t : Int) → (∀ j : Nat, j < wK (fN σ) f t → s 131 j = wI (fN σ) f t j) → Q (some (vi 1)) s) (k0 : ¬ wDs (fN σ) f t 0 < 1000000 → ∀ s, Fg [129, 131] [(96, 66)] s0 s → Q (some (vi 0)) s) : aEv (d + 2) true 200 [vr 96, vi t] s0 Q := by
  have hn := hN.1
  unfold Nn at hn
  have hW := wN_of hN
  have n5 : fN σ 96 5 = σ 96 5 := fN_5
  have n6 : fN σ 96 6 = σ 96 6 := fN_6
  have hE := wDs_ok (f := f) hW t0 (by omega)
  have hb : ∀ n, 0 ≤ n → n < σ 96 5 → 0 ≤ wDs (fN σ) f t n ∧ wDs (fN σ) f t n ≤ 1000000 := fun n n0 n1 => hE.1.2.1 n n0 (by omega)
  have m5 := hG.2.2.2.2.2.2.2.2.2.2.1
  have m6 := hG.2.2.2.2.2.2.2.2.2.2.2.1
  refine e200 (b200_0 ?_)
  refine for_up (X := fun i s => Yx (d + 2) cd200 3 Q 2 [vr 96, vi t, vi i, vt] [] s) (I := fun i s => 0 ≤ i ∧ i ≤ σ 96 5 ∧ Fr [129] s0 s ∧ ∀ n, 0 ≤ n → n < i → s 129 n = if ¬ n = t then 1000000 else 0) (N := σ 96 5) ?_ ?_ 0 s0 ⟨Int.le_refl _, by omega, Fr_r, fun j j0 j1 => by omega⟩
  · rintro i s hi ⟨i0, i1, i2, i3⟩ K
    have s5 : s 96 5 = σ 96 5 := by rw [i2 96 (by decide)]; exact m5
    refine b200_2 ⟨fun z => by omega, fun _ => ⟨by omega, by omega, K _ ⟨by omega, by omega, Fr_w i2 (by decide), fun j j0 j1 => ?_⟩⟩⟩
    rw [sw_s]
    by_cases e : j = i
    · rw [e, fu_s]
    · rw [fu_n e]
      exact i3 j j0 (by omega)
  rintro i s1 hi ⟨i0, i1, i2, i3⟩
  have s5 : s1 96 5 = σ 96 5 := by rw [i2 96 (by decide)]; exact m5
  have q0 : wS (fN σ) f t (s1 129) := by
    refine ⟨?_, fun n n0 n1 => ?_, fun n n0 n1 hl => ?_⟩
    · rw [i3 t t0 (by omega), if_neg (fun y => y rfl)]
    · rw [i3 n n0 (by omega)]
      split <;> omega
    · rw [i3 n n0 (by omega)] at hl
      by_cases e : n = t
      · exact Or.inl e
      · rw [if_pos e] at hl
        omega
  refine b200_2 ⟨fun _ => ?_, fun z => by omega⟩
  refine for_up (X := fun r s => Yx (d + 2) cd200 3 Q 36 [vr 96, vi t, vi r, vt] [] s) (I := fun r s => 0 ≤ r ∧ r ≤ σ 96 5 ∧ Fr [129] s0 s ∧ wS (fN σ) f t (s 129) ∧ ((∀ n, 0 ≤ n → n < σ 96 5 → s 129 n = wDs (fN σ) f t n) ∨ r + 1 ≤ wCn (fN σ) (wDs (fN σ) f t) (s 129))) (N := σ 96 5) ?_ ?_ 0 s1 ⟨Int.le_refl _, by omega, i2, q0, Or.inr (by have := wCn_0 t0 (by omega) q0 hE; omega)⟩
  · rintro r w hr ⟨j0, j1, j2, j3, j4⟩ K
    have w5 : w 96 5 = σ 96 5 := by rw [j2 96 (by decide)]; exact m5
    refine b200_36 ⟨fun z => by omega, fun _ => ?_⟩
    refine for_up (X := fun i s => Yx (d + 2) cd200 3 Q 46 [vr 96, vi t, vi r, vi i] [] s) (I := fun i u => 0 ≤ i ∧ i ≤ σ 96 6 ∧ Fr [129] s0 u ∧ wQ (fN σ) f t (w 129) i (u 129)) (N := σ 96 6) ?_ ?_ 0 w ⟨Int.le_refl _, by omega, j2, wQ_0 j3⟩
    · rintro i u hi ⟨i0, i1, i2, i3⟩ KK
      have u6 : u 96 6 = σ 96 6 := by rw [i2 96 (by decide)]; exact m6
      have gu : mG σ u := mG_f hG (Fg_F (P := []) i2) rfl rfl rfl rfl rfl rfl
      obtain ⟨e1, e2, e3, -⟩ := mG_n gu
      have u126 : u 126 i = f i := by rw [i2 126 (by decide)]; exact (hf i i0 hi).1
      have hp := hW.2.2.2.2 i i0 (by omega)
      have oA : wO (fN σ) i (fN σ 101 i) = fN σ 102 i := by unfold wO; rw [if_pos rfl]
      have oB : wO (fN σ) i (fN σ 102 i) = fN σ 101 i := by unfold wO; rw [if_neg (by omega)]
      have side2 : ∀ v : aW, Fr [129] s0 v → wQ (fN σ) f t (w 129) i (v 129) → (wC (fN σ) f i (fN σ 101 i) → v 129 (fN σ 101 i) ≤ w 129 (fN σ 102 i) + fN σ 103 i) → aEv (d + 1) true 198 [vr 96, vi i, vi (fN σ 102 i)] v (fun r' σ' => ∃ x : Int, r' = some (vi x) ∧ Yx (d + 2) cd200 3 Q 122 [vr 96, vi t, vi r, vi i] [vi x] σ') := by
        intro v v1 v2 v3
        have gv : mG σ v := mG_f hG (Fg_F (P := []) v1) rfl rfl rfl rfl rfl rfl
        obtain ⟨d1, d2, d3, -⟩ := mG_n gv
        have v126 : v 126 i = f i := by rw [v1 126 (by decide)]; exact (hf i i0 hi).1
        have bA := v2.1.2.1 (fN σ 101 i) (by omega) (by omega)
        have bB := v2.1.2.1 (fN σ 102 i) (by omega) (by omega)
        refine c198 hN gv i0 hi v126 (hf i i0 hi).2 (fun x x01 hx => ⟨x, rfl, b200_122_1 ?_⟩)
        rw [d1, d2, d3]
        refine ⟨fun z => ⟨by omega, KK v ⟨by omega, by omega, v1, wQ_s v2 (fun n hc => ?_)⟩⟩, fun z => ⟨by omega, by omega, by omega, by omega, by omega, by omega, by omega, by omega, by omega, ?_⟩⟩
        · rcases hc.2 with ⟨e, g⟩ | ⟨e, g⟩
          · subst e
            rw [oA]
            exact v3 hc
          · subst e
            exact absurd z (hx.mpr hc)
        · have hc := hx.mp z
          obtain ⟨g1, g2⟩ := wQ_up hW v2 i0 (by omega) hc
          rw [oB] at g1 g2
          refine KK _ ⟨by omega, by omega, Fr_w v1 (by decide), ?_⟩
          rw [sw_s]
          refine wQ_s g1 (fun n hc => ?_)
          rcases hc.2 with ⟨e, g⟩ | ⟨e, g⟩
          · subst e
            rw [oA, fu_n (by omega)]
            exact v3 hc
          · subst e
            rw [oB]
            exact g2
      have bA := i3.1.2.1 (fN σ 101 i) (by omega) (by omega)
      have bB := i3.1.2.1 (fN σ 102 i) (by omega) (by omega)
      refine b200_46 ⟨fun z => by omega, fun _ => ⟨by omega, ?_⟩⟩
      rw [e1]
      refine c198 hN gu i0 hi u126 (hf i i0 hi).2 (fun x x01 hx => ⟨x, rfl, b200_65_1 ?_⟩)
      rw [e1, e2, e3]
      refine ⟨fun z => ⟨by omega, side2 u i2 i3 (fun hc => absurd z (hx.mpr hc))⟩, fun z => ⟨by omega, by omega, by omega, by omega, by omega, by omega, by omega, by omega, by omega, ?_⟩⟩
      have hc := hx.mp z
      obtain ⟨g1, g2⟩ := wQ_up hW i3 i0 (by omega) hc
      rw [oA] at g1 g2
      exact side2 _ (Fr_w i2 (by decide)) (by rw [sw_s]; exact g1) (fun _ => by rw [sw_s]; exact g2)
    · rintro i u hi ⟨i0, i1, i2, i3⟩
      have u6 : u 96 6 = σ 96 6 := by rw [i2 96 (by decide)]; exact m6
      have ei : i = σ 96 6 := by omega
      subst ei
      have fin := wQ_end hW hE j3 (by rw [n6]; exact i3)
      rw [n5] at fin
      refine b200_46 ⟨fun _ => ⟨by omega, K u ⟨by omega, by omega, i2, i3.1, ?_⟩⟩, fun z => by omega⟩
      rcases fin with a | ⟨-, a⟩
      · exact Or.inl a
      · rcases j4 with b | b
        · left
          intro n n0 n1
          have c1 := i3.2.1 n n0 (by omega)
          have c2 := wS_ge hW i3.1 hE n n0 (by omega)
          have := b n n0 n1
          omega
        · exact Or.inr (by omega)
  rintro r w hr ⟨j0, j1, j2, j3, j4⟩
  have w5 : w 96 5 = σ 96 5 := by rw [j2 96 (by decide)]; exact m5
  have hD : ∀ n, 0 ≤ n → n < σ 96 5 → w 129 n = wDs (fN σ) f t n := by
    rcases j4 with a | a
    · exact a
    · have := wCn_b (E := wDs (fN σ) f t) (D := w 129) hW
      omega
  have d0 := hD 0 (Int.le_refl _) (by omega)
  refine b200_36 ⟨fun _ => ?_, fun z => by omega⟩
  rw [d0]
  refine ⟨fun hx => ?_, fun hx => k0 hx _ (Fg_f (Fg_F (Fr_s j2 (by decide))) (by decide))⟩
  refine for_up (X := fun i s => Yx (d + 2) cd200 3 Q 201 [vr 96, vi t, vi (wV (fN σ) f t i.toNat), vt] [] s) (I := fun i s => 0 ≤ i ∧ i ≤ (wK (fN σ) f t : Int) ∧ Fg [131] [(96, 66)] w s ∧ s 96 66 = i ∧ (∀ j : Nat, j < i.toNat → s 131 j = wI (fN σ) f t j)) (N := (wK (fN σ) f t : Int)) ?_ ?_ 0 _ ⟨Int.le_refl _, by omega, Fg_f Fg_r (by decide), by rw [sw_s, fu_s], fun j hj => absurd hj (Nat.not_lt_zero _)⟩
  · rintro i s hi ⟨i0, i1, i2, i3, i4⟩ K
    have kb := wK_b hW t0 (by omega) hx
    have ko := wK_ok hW t0 (by omega) hx
    have a := wV_ok hW t0 (by omega) hx i.toNat (fun j hj => ko.2 j (by omega))
    have hne := ko.2 i.toNat (by omega)
    have hP := wP_ok hW t0 (by omega) a.1 a.2.1 a.2.2.1 hne
    have gs : mG σ s := mG_f (mG_f hG (Fg_F (P := []) j2) rfl rfl rfl rfl rfl rfl) i2 rfl rfl rfl rfl rfl rfl
    obtain ⟨e1, e2, e3, -⟩ := mG_n gs
    have s129 : s 129 = w 129 := Fg_k i2 rfl rfl
    have ei : ((i.toNat : Nat) : Int) = i := by omega
    have e2' : (i + 1).toNat = i.toNat + 1 := by omega
    refine b200_201 ⟨fun z => absurd z hne, fun _ => ?_⟩
    refine for_up (X := fun p (_ : Int) => Yx (d + 2) cd200 3 Q 208 [vr 96, vi t, vi (wV (fN σ) f t i.toNat), vi p] [] s) (I := fun p _ => 0 ≤ p ∧ p ≤ wP (fN σ) f t (wV (fN σ) f t i.toNat)) (N := σ 96 6) ?_ (fun p _ hp hI => by have := hP.2.1; omega) 0 0 ⟨Int.le_refl _, hP.1⟩
    rintro p - hp ⟨p0, p1⟩ K3
    have s126 : s 126 p = f p := by rw [Fg_k i2 rfl rfl, j2 126 (by decide)]; exact (hf p p0 hp).1
    have ho := wO_r hW (n := wV (fN σ) f t i.toNat) p0 (show p < fN σ 96 6 by omega)
    have hp2 := hW.2.2.2.2 p p0 (by omega)
    have bo := hb _ ho.1 (by omega)
    have no : ¬ (wC (fN σ) f p (wV (fN σ) f t i.toNat) ∧ wDs (fN σ) f t (wV (fN σ) f t i.toNat) = wDs (fN σ) f t (wO (fN σ) p (wV (fN σ) f t i.toNat)) + fN σ 103 p) → Yx (d + 2) cd200 3 Q 208 [vr 96, vi t, vi (wV (fN σ) f t i.toNat), vi (p + 1)] [] s := fun z => K3 0 ⟨by omega, by
      have : ¬ p = wP (fN σ) f t (wV (fN σ) f t i.toNat) := fun e => z (by rw [e]; exact hP.2.2.1)
      omega⟩
    refine b200_208 (c198 hN gs p0 hp s126 (hf p p0 hp).2 (fun x x01 hx' => ⟨x, rfl, b200_214_1 ⟨fun z => ⟨by omega, no (fun y => hx'.mpr y.1 z)⟩, fun z => ?_⟩⟩))
    have hc := hx'.mp z
    rw [e1, e2, e3, s129, hD _ a.1 (by omega)]
    rw [show (if fN σ 101 p = wV (fN σ) f t i.toNat then fN σ 102 p else fN σ 101 p) = wO (fN σ) p (wV (fN σ) f t i.toNat) from rfl, hD _ ho.1 (by omega), i3]
    refine ⟨by omega, by omega, by omega, by omega, by omega, fun y => ⟨by omega, by omega, by omega, ?_⟩, fun y => ⟨by omega, no (fun q => y (by have := q.2; omega))⟩⟩
    have ep : p = wP (fN σ) f t (wV (fN σ) f t i.toNat) := by
      apply Classical.byContradiction
      intro ne
      exact hP.2.2.2 p p0 (by omega) ⟨hc, by omega⟩
    have ev : wO (fN σ) p (wV (fN σ) f t i.toNat) = wV (fN σ) f t (i + 1).toNat := by
      rw [e2']
      show _ = wO (fN σ) (wP (fN σ) f t (wV (fN σ) f t i.toNat)) (wV (fN σ) f t i.toNat)
      rw [← ep]
    rw [ev]
    refine K _ ⟨by omega, by omega, ?_, by rw [sw_s, fu_s], fun j hj => ?_⟩
    · have h96 : ∀ v, sw (sw s 131 v) 96 (fu (s 96) 66 (i + 1)) = sw (sw s 131 v) 96 (fu ((sw s 131 v) 96) 66 (i + 1)) := fun v => by rw [sw_n (show (96 : Nat) ≠ 131 by decide)]
      rw [h96]
      exact Fg_f (Fg_w i2 (by decide)) (by decide)
    · rw [sw_n (by decide), sw_s]
      rw [e2'] at hj
      by_cases e : j = i.toNat
      · rw [show ((j : Nat) : Int) = i by omega, fu_s, e, ep]
        rfl
      · rw [fu_n (by omega)]
        exact i4 j (by omega)
  · rintro i s hi ⟨i0, i1, i2, i3, i4⟩
    have ko := wK_ok hW t0 (by omega) hx
    have ei : i = (wK (fN σ) f t : Int) := by omega
    subst ei
    rw [Int.toNat_natCast] at i4 ⊢
    exact b200_201 ⟨fun _ => k1 hx s (Fg_t (Fg_F (Fr_s j2 (by decide))) (Fg_m i2 (by decide) (by decide))) i3 i4, fun z => absurd ko.1 z⟩
end
