section
/-! the reference's hour: leaving, entering, making, using -/
theorem sI_rv {g : Int → Int} : ∀ (m : Nat), sI (fun k => g ((m : Int) - 1 - k)) m = sI g m
  | 0 => rfl
  | m + 1 => by
    have h0 : ∀ n : Nat, sI (fun k => g (((m + 1 : Nat) : Int) - 1 - k)) (n + 1) = g m + sI (fun k => g ((m : Int) - 1 - k)) n := by
      intro n
      induction n with
      | zero =>
        show (0 : Int) + g (((m + 1 : Nat) : Int) - 1 - ((0 : Nat) : Int)) = g m + 0
        rw [show ((m + 1 : Nat) : Int) - 1 - ((0 : Nat) : Int) = m by omega]
        omega
      | succ n ih =>
        show sI (fun k => g (((m + 1 : Nat) : Int) - 1 - k)) (n + 1) + g (((m + 1 : Nat) : Int) - 1 - ((n + 1 : Nat) : Int)) = g m + (sI (fun k => g ((m : Int) - 1 - k)) n + g ((m : Int) - 1 - (n : Int)))
        rw [ih, show ((m + 1 : Nat) : Int) - 1 - ((n + 1 : Nat) : Int) = (m : Int) - 1 - (n : Int) by omega]
        omega
    rw [h0 m, sI_rv m]
    show g m + sI g m = sI g m + g m
    omega
theorem sI_rw {g f : Int → Int} {m : Int} (m0 : 0 ≤ m) (h : ∀ k, 0 ≤ k → k < m → f k = g (m - 1 - k)) : sI f m.toNat = sI g m.toNat := by
  rw [← sI_rv (g := g) m.toNat]
  refine sI_c (fun k k0 k1 => ?_)
  rw [h k k0 (by omega)]
  congr 1
  omega
/-- row 0 (out) or 1200 (back) -/
theorem c210 {d : Nat} {Q : aQ} {s : aW} {b p a3 : Int} (hb : 0 ≤ b ∧ b ≤ 1200) (p0 : 0 ≤ p ∧ p < 20) (hf : -100 ≤ s 126 p ∧ s 126 p ≤ 100) (hL : hm (s 126) p ≤ s 103 p ∧ s 103 p ≤ 60) (hU : ∀ j, 0 ≤ j → j < s 103 p → 0 ≤ s 120 (b + 60 * p + j) ∧ s 120 (b + 60 * p + j) ≤ 12000) (k : Q (some (vl (hTk (s 126) (s 103) (fun p k => s 120 (b + 60 * p + k)) (a3 = 0) p))) s) : aEv (d + 2) true 210 [vr 96, vi b, vi p, vi a3] s Q := by
  have em : ((s 126 p).natAbs : Int) = hm (s 126) p := rfl
  have m0 := hm_0 (s 126) p
  refine e210 (b210_0 ⟨p0, by omega, ?_⟩)
  rw [em]
  have key : sI (fun k => s 120 (b + 60 * p + (if a3 = 0 then s 103 p - 1 - k else k))) (hm (s 126) p).toNat = hTk (s 126) (s 103) (fun p k => s 120 (b + 60 * p + k)) (a3 = 0) p := by
    unfold hTk
    by_cases z : a3 = 0
    · refine sI_rw m0 (fun k k0 k1 => ?_)
      show s 120 (b + 60 * p + (if a3 = 0 then s 103 p - 1 - k else k)) = s 120 (b + 60 * p + ((if a3 = 0 then s 103 p - hm (s 126) p else 0) + (hm (s 126) p - 1 - k)))
      rw [if_pos z, if_pos z]
      congr 1
      omega
    · refine sI_c (fun k k0 k1 => ?_)
      show s 120 (b + 60 * p + (if a3 = 0 then s 103 p - 1 - k else k)) = s 120 (b + 60 * p + ((if a3 = 0 then s 103 p - hm (s 126) p else 0) + k))
      rw [if_neg z, if_neg z, Int.zero_add]
  refine for_up (X := fun i (x : Int) => Yx (d + 2) cd210 2 Q 13 [vr 96, vi b, vi p, vi a3, vl x, vt, vi (hm (s 126) p), vi i] [] s) (I := fun i x => 0 ≤ i ∧ i ≤ hm (s 126) p ∧ x = sI (fun k => s 120 (b + 60 * p + (if a3 = 0 then s 103 p - 1 - k else k))) i.toNat ∧ 0 ≤ x ∧ x ≤ 12000 * i) (N := hm (s 126) p) ?_ ?_ 0 0 ⟨Int.le_refl _, m0, rfl, Int.le_refl _, by omega⟩
  · rintro i x hi ⟨i0, i1, i2, i3, i4⟩ K
    have r : 0 ≤ (if a3 = 0 then s 103 p - 1 - i else i) ∧ (if a3 = 0 then s 103 p - 1 - i else i) < s 103 p := by split <;> omega
    have u := hU _ r.1 r.2
    have r' : (if a3 = 0 then s 103 p - 1 - i else i) < 60 := by omega
    refine b210_13 ⟨fun z => by omega, fun _ => ⟨by omega, by omega, fun _ => by omega, by omega, by omega, by omega, by omega, K _ ⟨by omega, by omega, ?_, by omega, by omega⟩⟩⟩
    rw [sI_s i0, ← i2]
  · rintro i x hi ⟨i0, i1, i2, i3, i4⟩
    have e : i = hm (s 126) p := by omega
    rw [e, key] at i2
    rw [i2, e]
    exact b210_13 ⟨fun _ => k, fun z => by omega⟩
theorem hGv_s {W N g a : Int} : hGv W N g (a + 1) = hGv W N g a + hGv W N (g + a) 1 := by
  unfold hGv
  rw [← Int.add_assoc]
  omega
theorem c213 {d : Nat} {Q : aQ} {s : aW} {b p a3 N W G : Int} (hb : 0 ≤ b ∧ b ≤ 1200) (p0 : 0 ≤ p ∧ p < 20) (hf : -100 ≤ s 126 p ∧ s 126 p ≤ 100) (hL : hm (s 126) p ≤ s 103 p ∧ s 103 p ≤ 60) (eN : s 96 74 = N) (eW : s 96 75 = W) (eG : s 96 76 = G) (nz : ¬ s 126 p = 0) (hN : 0 < N ∧ N ≤ 10000) (w0 : 0 ≤ W) (w1 : W ≤ 12000 * N) (hg : 0 ≤ G ∧ G ≤ 9000)
    (k : ∀ s', Fg [120] [(96, 76)] s s' → s' 96 76 = G + hm (s 126) p → (∀ k, 0 ≤ k → k < s 103 p → s' 120 (b + 60 * p + k) = hFl (s 126) (s 103) (fun p k => s 120 (b + 60 * p + k)) (¬ a3 = 0) W N G p k) → (∀ x, ¬ (b + 60 * p ≤ x ∧ x < b + 60 * p + s 103 p) → s' 120 x = s 120 x) → Q none s') : aEv (d + 2) true 213 [vr 96, vi b, vi p, vi a3] s Q := by
  have em : ((s 126 p).natAbs : Int) = hm (s 126) p := rfl
  have m0 := hm_0 (s 126) p
  refine e213 (b213_0 ⟨p0, by omega, by omega, by omega, p0, ?_⟩)
  rw [em]
  generalize hm' : hm (s 126) p = m at *
  generalize hl' : s 103 p = L at *
  generalize hB : b + 60 * p = B at *
  have hB0 : 0 ≤ B ∧ B ≤ 2340 := by omega
  have one : ∀ (d' : Nat) (Q' : aQ) (t : aW) (j : Int), 0 ≤ j → j ≤ 60 → t 96 74 = N → t 96 75 = W → t 96 76 = G + j → Q' (some (vl (hGv W N (G + j) 1))) (sw t 96 (fu (t 96) 76 (G + j + 1))) → aEv (d' + 0) true 212 [vr 96] t Q' := fun d' Q' t j j0 j1 a1 a2 a3 q => by
    refine c212 (by rw [a1]; exact hN) (by rw [a2]; exact w0) (by rw [a1, a2]; exact w1) (by rw [a3]; omega) ?_
    rw [a1, a2, a3]
    exact q
  refine ⟨fun z => ?_, fun z => ⟨by omega, ?_⟩⟩
  · refine for_up (X := fun i t => Yx (d + 2) cd213 0 Q 106 [vr 96, vt, vt, vt, vi m, vi B, vi L, vi i] [] t) (I := fun i t => 0 ≤ i ∧ i ≤ L - m ∧ Fr [120] s t ∧ (∀ x, t 120 x = if B ≤ x ∧ x < B + i then s 120 (x + m) else s 120 x)) (N := L - m) ?_ ?_ 0 s ⟨Int.le_refl _, by omega, Fr_r, fun x => by rw [if_neg (by omega)]⟩
    · rintro i t hi ⟨i0, i1, f1, g1⟩ K
      refine b213_106 ⟨by omega, fun y => by omega, fun _ => ⟨by omega, by omega, by omega, by omega, by omega, by omega, K _ ⟨by omega, by omega, Fr_w f1 (by decide), fun x => ?_⟩⟩⟩
      rw [sw_s]
      unfold fu
      rw [g1, g1]
      repeat' split
      all_goals first | omega | (congr 1; omega) | rfl
    · rintro i t hi ⟨i0, i1, f1, g1⟩
      have e : i = L - m := by omega
      refine b213_106 ⟨by omega, fun y => ⟨by omega, ?_⟩, fun y => by omega⟩
      refine for_up (X := fun i t => Yx (d + 2) cd213 0 Q 152 [vr 96, vt, vt, vt, vt, vi B, vi L, vi i] [] t) (I := fun i t => L - m ≤ i ∧ i ≤ L ∧ Fg [120] [(96, 76)] s t ∧ t 96 76 = G + (i - (L - m)) ∧ (∀ x, t 120 x = if B ≤ x ∧ x < B + (L - m) then s 120 (x + m) else if B + (L - m) ≤ x ∧ x < B + i then hGv W N (G + (x - (B + (L - m)))) 1 else s 120 x)) (N := L) ?_ ?_ (L - m) t ⟨Int.le_refl _, by omega, Fg_F (Fr_s f1 (by decide)), by rw [f1 96 (by decide), eG]; omega, fun x => by
        rw [g1, e]
        repeat' split
        all_goals first | omega | rfl⟩
      · rintro i t hi ⟨i0, i1, f1, f2, g1⟩ K
        refine b213_152 ⟨fun y => by omega, fun _ => ⟨by omega, one (d + 1) _ t (i - (L - m)) (by omega) (by omega) ?_ ?_ f2 ⟨_, rfl, b213_172_3 ⟨by omega, by omega, K _ ⟨by omega, by omega, ?_, ?_, fun x => ?_⟩⟩⟩⟩⟩
        · rw [f1 96 74 (by decide) (by decide)]; exact eN
        · rw [f1 96 75 (by decide) (by decide)]; exact eW
        · exact Fg_w (Fg_f f1 (by decide)) (by decide)
        · rw [sw_n (by decide), sw_s, fu_s]; omega
        · rw [sw_s, sw_n (by decide)]
          unfold fu
          rw [g1]
          repeat' split
          all_goals first | omega | (congr 1; omega) | rfl
      · rintro i t hi ⟨i0, i1, f1, f2, g1⟩
        have e2 : i = L := by omega
        subst e2
        refine b213_152 ⟨fun y => k t f1 (by rw [f2]; omega) (fun j j0 j1 => ?_) (fun x hx => ?_), fun y => by omega⟩
        · rw [g1]
          unfold hFl
          rw [if_neg nz, if_neg (show ¬ ¬ a3 = 0 from fun y => y z), hm', hl']
          by_cases y : j < i - m
          · rw [if_pos (by omega), if_pos y]
            show s 120 (B + j + m) = s 120 (b + 60 * p + (j + m))
            rw [hB, Int.add_assoc]
          · rw [if_neg (by omega), if_pos (by omega), if_neg y]
            congr 1
            omega
        · rw [g1, if_neg (by omega), if_neg (by omega)]
  · refine for_dn (X := fun i t => Yx (d + 2) cd213 0 Q 33 [vr 96, vt, vt, vt, vi m, vi B, vt, vi i] [] t) (I := fun i t => m - 1 ≤ i ∧ i ≤ L - 1 ∧ Fr [120] s t ∧ (∀ x, t 120 x = if B + i < x ∧ x < B + L then s 120 (x - m) else s 120 x)) (N := m) ?_ ?_ (L - 1) s ⟨by omega, by omega, Fr_r, fun x => by rw [if_neg (by omega)]⟩
    · rintro i t hi ⟨i0, i1, f1, g1⟩ K
      refine b213_33 ⟨fun y => by omega, fun _ => ⟨by omega, by omega, by omega, by omega, by omega, by omega, K _ ⟨by omega, by omega, Fr_w f1 (by decide), fun x => ?_⟩⟩⟩
      rw [sw_s]
      unfold fu
      rw [g1, g1]
      repeat' split
      all_goals first | omega | (congr 1; omega) | rfl
    · rintro i t hi ⟨i0, i1, f1, g1⟩
      have e : i = m - 1 := by omega
      refine b213_33 ⟨fun y => ⟨by omega, ?_⟩, fun y => by omega⟩
      refine for_dn (X := fun i t => Yx (d + 2) cd213 0 Q 75 [vr 96, vt, vt, vt, vt, vi B, vt, vi i] [] t) (I := fun i t => -1 ≤ i ∧ i ≤ m - 1 ∧ Fg [120] [(96, 76)] s t ∧ t 96 76 = G + (m - 1 - i) ∧ (∀ x, t 120 x = if B + m ≤ x ∧ x < B + L then s 120 (x - m) else if B + i < x ∧ x < B + m then hGv W N (G + (m - 1 - (x - B))) 1 else s 120 x)) (N := 0) ?_ ?_ (m - 1) t ⟨by omega, by omega, Fg_F (Fr_s f1 (by decide)), by rw [f1 96 (by decide), eG]; omega, fun x => by
        rw [g1, e]
        repeat' split
        all_goals first | omega | rfl⟩
      · rintro i t hi ⟨i0, i1, f1, f2, g1⟩ K
        refine b213_75 ⟨fun y => by omega, fun _ => ⟨by omega, one (d + 1) _ t (m - 1 - i) (by omega) (by omega) ?_ ?_ f2 ⟨_, rfl, b213_93_3 ⟨by omega, by omega, K _ ⟨by omega, by omega, ?_, ?_, fun x => ?_⟩⟩⟩⟩⟩
        · rw [f1 96 74 (by decide) (by decide)]; exact eN
        · rw [f1 96 75 (by decide) (by decide)]; exact eW
        · exact Fg_w (Fg_f f1 (by decide)) (by decide)
        · rw [sw_n (by decide), sw_s, fu_s]; omega
        · rw [sw_s, sw_n (by decide)]
          unfold fu
          rw [g1]
          repeat' split
          all_goals first | omega | (congr 1; omega) | rfl
      · rintro i t hi ⟨i0, i1, f1, f2, g1⟩
        have e2 : i = -1 := by omega
        subst e2
        refine b213_75 ⟨fun y => k t f1 (by rw [f2]; omega) (fun j j0 j1 => ?_) (fun x hx => ?_), fun y => by omega⟩
        · rw [g1]
          unfold hFl
          rw [if_neg nz, if_pos z, hm']
          by_cases y : j < m
          · rw [if_neg (by omega), if_pos (by omega), if_pos y]
            congr 1
            omega
          · rw [if_pos (by omega), if_neg y]
            show s 120 (B + j - m) = s 120 (b + 60 * p + (j - m))
            rw [hB]
            congr 1
            omega
        · rw [g1, if_neg (by omega), if_neg (by omega)]
theorem c216 {d : Nat} {Q : aQ} {s : aW} {h warm ab need used : Int} (h0 : 0 ≤ h ∧ h < 16) (en : 100 * s 132 h = need) (eu : min need (max 0 ab) = used) (n0 : 0 ≤ need ∧ need ≤ 1000000) (u0 : 0 ≤ used ∧ used ≤ need) (w0 : 0 ≤ warm ∧ warm ≤ 1000000000) (hp : 0 ≤ s 137 h ∧ s 137 h ≤ 1000) (hs : ∀ r, r = 2400 + h ∨ r = 2416 + h ∨ r = 2432 + h ∨ r = 2448 + h ∨ r = 2538 ∨ r = 2541 → 0 ≤ s 120 r ∧ s 120 r ≤ 1000000000000000000)
    (k : ∀ s', Fr [120, 139] s s' → s' 139 = fu (s 139) h (warm - used) → s' 120 (2480 + h) = s 127 h → s' 120 (2496 + h) = (if ¬ s 127 h = 0 then warm else -1) → s' 120 (2416 + h) = s 120 (2416 + h) + used → s' 120 2538 = s 120 2538 + used → s' 120 (2448 + h) = s 120 (2448 + h) + s 137 h * used / 1000 → s' 120 (2432 + h) = s 120 (2432 + h) + (need - used) → s' 120 2541 = s 120 2541 + (need - used) → s' 120 (2400 + h) = s 120 (2400 + h) + bi (¬ need ≤ used) → (∀ x, ¬ x = 2480 + h → ¬ x = 2496 + h → ¬ x = 2416 + h → ¬ x = 2538 → ¬ x = 2448 + h → ¬ x = 2432 + h → ¬ x = 2541 → ¬ x = 2400 + h → s' 120 x = s 120 x) → Q none s') : aEv (d + 1) true 216 [vr 96, vi h, vl warm, vl ab] s Q := by
  have n0 : ∀ (f : Int → Int) (v : Int), fu f (2496 + h) v (2480 + h) = f (2480 + h) := fun f v => fu_n (by omega)
  have n1 : ∀ (f : Int → Int) (v : Int), fu f (2416 + h) v (2480 + h) = f (2480 + h) := fun f v => fu_n (by omega)
  have n2 : ∀ (f : Int → Int) (v : Int), fu f (2538) v (2480 + h) = f (2480 + h) := fun f v => fu_n (by omega)
  have n3 : ∀ (f : Int → Int) (v : Int), fu f (2448 + h) v (2480 + h) = f (2480 + h) := fun f v => fu_n (by omega)
  have n4 : ∀ (f : Int → Int) (v : Int), fu f (2432 + h) v (2480 + h) = f (2480 + h) := fun f v => fu_n (by omega)
  have n5 : ∀ (f : Int → Int) (v : Int), fu f (2541) v (2480 + h) = f (2480 + h) := fun f v => fu_n (by omega)
  have n6 : ∀ (f : Int → Int) (v : Int), fu f (2400 + h) v (2480 + h) = f (2480 + h) := fun f v => fu_n (by omega)
  have n7 : ∀ (f : Int → Int) (v : Int), fu f (2480 + h) v (2496 + h) = f (2496 + h) := fun f v => fu_n (by omega)
  have n8 : ∀ (f : Int → Int) (v : Int), fu f (2416 + h) v (2496 + h) = f (2496 + h) := fun f v => fu_n (by omega)
  have n9 : ∀ (f : Int → Int) (v : Int), fu f (2538) v (2496 + h) = f (2496 + h) := fun f v => fu_n (by omega)
  have n10 : ∀ (f : Int → Int) (v : Int), fu f (2448 + h) v (2496 + h) = f (2496 + h) := fun f v => fu_n (by omega)
  have n11 : ∀ (f : Int → Int) (v : Int), fu f (2432 + h) v (2496 + h) = f (2496 + h) := fun f v => fu_n (by omega)
  have n12 : ∀ (f : Int → Int) (v : Int), fu f (2541) v (2496 + h) = f (2496 + h) := fun f v => fu_n (by omega)
  have n13 : ∀ (f : Int → Int) (v : Int), fu f (2400 + h) v (2496 + h) = f (2496 + h) := fun f v => fu_n (by omega)
  have n14 : ∀ (f : Int → Int) (v : Int), fu f (2480 + h) v (2416 + h) = f (2416 + h) := fun f v => fu_n (by omega)
  have n15 : ∀ (f : Int → Int) (v : Int), fu f (2496 + h) v (2416 + h) = f (2416 + h) := fun f v => fu_n (by omega)
  have n16 : ∀ (f : Int → Int) (v : Int), fu f (2538) v (2416 + h) = f (2416 + h) := fun f v => fu_n (by omega)
  have n17 : ∀ (f : Int → Int) (v : Int), fu f (2448 + h) v (2416 + h) = f (2416 + h) := fun f v => fu_n (by omega)
  have n18 : ∀ (f : Int → Int) (v : Int), fu f (2432 + h) v (2416 + h) = f (2416 + h) := fun f v => fu_n (by omega)
  have n19 : ∀ (f : Int → Int) (v : Int), fu f (2541) v (2416 + h) = f (2416 + h) := fun f v => fu_n (by omega)
  have n20 : ∀ (f : Int → Int) (v : Int), fu f (2400 + h) v (2416 + h) = f (2416 + h) := fun f v => fu_n (by omega)
  have n21 : ∀ (f : Int → Int) (v : Int), fu f (2480 + h) v (2538) = f (2538) := fun f v => fu_n (by omega)
  have n22 : ∀ (f : Int → Int) (v : Int), fu f (2496 + h) v (2538) = f (2538) := fun f v => fu_n (by omega)
  have n23 : ∀ (f : Int → Int) (v : Int), fu f (2416 + h) v (2538) = f (2538) := fun f v => fu_n (by omega)
  have n24 : ∀ (f : Int → Int) (v : Int), fu f (2448 + h) v (2538) = f (2538) := fun f v => fu_n (by omega)
  have n25 : ∀ (f : Int → Int) (v : Int), fu f (2432 + h) v (2538) = f (2538) := fun f v => fu_n (by omega)
  have n26 : ∀ (f : Int → Int) (v : Int), fu f (2541) v (2538) = f (2538) := fun f v => fu_n (by omega)
  have n27 : ∀ (f : Int → Int) (v : Int), fu f (2400 + h) v (2538) = f (2538) := fun f v => fu_n (by omega)
  have n28 : ∀ (f : Int → Int) (v : Int), fu f (2480 + h) v (2448 + h) = f (2448 + h) := fun f v => fu_n (by omega)
  have n29 : ∀ (f : Int → Int) (v : Int), fu f (2496 + h) v (2448 + h) = f (2448 + h) := fun f v => fu_n (by omega)
  have n30 : ∀ (f : Int → Int) (v : Int), fu f (2416 + h) v (2448 + h) = f (2448 + h) := fun f v => fu_n (by omega)
  have n31 : ∀ (f : Int → Int) (v : Int), fu f (2538) v (2448 + h) = f (2448 + h) := fun f v => fu_n (by omega)
  have n32 : ∀ (f : Int → Int) (v : Int), fu f (2432 + h) v (2448 + h) = f (2448 + h) := fun f v => fu_n (by omega)
  have n33 : ∀ (f : Int → Int) (v : Int), fu f (2541) v (2448 + h) = f (2448 + h) := fun f v => fu_n (by omega)
  have n34 : ∀ (f : Int → Int) (v : Int), fu f (2400 + h) v (2448 + h) = f (2448 + h) := fun f v => fu_n (by omega)
  have n35 : ∀ (f : Int → Int) (v : Int), fu f (2480 + h) v (2432 + h) = f (2432 + h) := fun f v => fu_n (by omega)
  have n36 : ∀ (f : Int → Int) (v : Int), fu f (2496 + h) v (2432 + h) = f (2432 + h) := fun f v => fu_n (by omega)
  have n37 : ∀ (f : Int → Int) (v : Int), fu f (2416 + h) v (2432 + h) = f (2432 + h) := fun f v => fu_n (by omega)
  have n38 : ∀ (f : Int → Int) (v : Int), fu f (2538) v (2432 + h) = f (2432 + h) := fun f v => fu_n (by omega)
  have n39 : ∀ (f : Int → Int) (v : Int), fu f (2448 + h) v (2432 + h) = f (2432 + h) := fun f v => fu_n (by omega)
  have n40 : ∀ (f : Int → Int) (v : Int), fu f (2541) v (2432 + h) = f (2432 + h) := fun f v => fu_n (by omega)
  have n41 : ∀ (f : Int → Int) (v : Int), fu f (2400 + h) v (2432 + h) = f (2432 + h) := fun f v => fu_n (by omega)
  have n42 : ∀ (f : Int → Int) (v : Int), fu f (2480 + h) v (2541) = f (2541) := fun f v => fu_n (by omega)
  have n43 : ∀ (f : Int → Int) (v : Int), fu f (2496 + h) v (2541) = f (2541) := fun f v => fu_n (by omega)
  have n44 : ∀ (f : Int → Int) (v : Int), fu f (2416 + h) v (2541) = f (2541) := fun f v => fu_n (by omega)
  have n45 : ∀ (f : Int → Int) (v : Int), fu f (2538) v (2541) = f (2541) := fun f v => fu_n (by omega)
  have n46 : ∀ (f : Int → Int) (v : Int), fu f (2448 + h) v (2541) = f (2541) := fun f v => fu_n (by omega)
  have n47 : ∀ (f : Int → Int) (v : Int), fu f (2432 + h) v (2541) = f (2541) := fun f v => fu_n (by omega)
  have n48 : ∀ (f : Int → Int) (v : Int), fu f (2400 + h) v (2541) = f (2541) := fun f v => fu_n (by omega)
  have n49 : ∀ (f : Int → Int) (v : Int), fu f (2480 + h) v (2400 + h) = f (2400 + h) := fun f v => fu_n (by omega)
  have n50 : ∀ (f : Int → Int) (v : Int), fu f (2496 + h) v (2400 + h) = f (2400 + h) := fun f v => fu_n (by omega)
  have n51 : ∀ (f : Int → Int) (v : Int), fu f (2416 + h) v (2400 + h) = f (2400 + h) := fun f v => fu_n (by omega)
  have n52 : ∀ (f : Int → Int) (v : Int), fu f (2538) v (2400 + h) = f (2400 + h) := fun f v => fu_n (by omega)
  have n53 : ∀ (f : Int → Int) (v : Int), fu f (2448 + h) v (2400 + h) = f (2400 + h) := fun f v => fu_n (by omega)
  have n54 : ∀ (f : Int → Int) (v : Int), fu f (2432 + h) v (2400 + h) = f (2400 + h) := fun f v => fu_n (by omega)
  have n55 : ∀ (f : Int → Int) (v : Int), fu f (2541) v (2400 + h) = f (2400 + h) := fun f v => fu_n (by omega)
  have q1 := hs (2400 + h) (by omega)
  have q2 := hs (2416 + h) (by omega)
  have q3 := hs (2432 + h) (by omega)
  have q4 := hs (2448 + h) (by omega)
  have q5 := hs 2538 (by omega)
  have q6 := hs 2541 (by omega)
  have p0 : 0 ≤ s 137 h * used := Int.mul_nonneg hp.1 u0.1
  have p1 : s 137 h * used ≤ 1000 * used := Int.mul_le_mul_of_nonneg_right hp.2 u0.1
  have bb := bi_0q (p := ¬ need ≤ used)
  refine e216 (b216_0 ?_)
  simp only [n0, n1, n2, n3, n4, n5, n6, n7, n8, n9, n10, n11, n12, n13, n14, n15, n16, n17, n18, n19, n20, n21, n22, n23, n24, n25, n26, n27, n28, n29, n30, n31, n32, n33, n34, n35, n36, n37, n38, n39, n40, n41, n42, n43, n44, n45, n46, n47, n48, n49, n50, n51, n52, n53, n54, n55, en, eu]
  (repeat' first | with_reducible apply And.intro | with_reducible intro _)
  all_goals first | omega | skip
  refine k _ ?_ ?_ ?_ ?_ ?_ ?_ ?_ ?_ ?_ ?_ ?_
  · exact fun c hc => by
      simp only [List.mem_cons, List.not_mem_nil, or_false, not_or] at hc
      simp only [sw_n hc.1, sw_n hc.2]
  · simp only [sw_s, sw_n (show (139 : Nat) ≠ 120 by decide)]
  · simp only [sw_s, n0, n1, n2, n3, n4, n5, n6, n7, n8, n9, n10, n11, n12, n13, n14, n15, n16, n17, n18, n19, n20, n21, n22, n23, n24, n25, n26, n27, n28, n29, n30, n31, n32, n33, n34, n35, n36, n37, n38, n39, n40, n41, n42, n43, n44, n45, n46, n47, n48, n49, n50, n51, n52, n53, n54, n55, fu_s]
  · simp only [sw_s, n0, n1, n2, n3, n4, n5, n6, n7, n8, n9, n10, n11, n12, n13, n14, n15, n16, n17, n18, n19, n20, n21, n22, n23, n24, n25, n26, n27, n28, n29, n30, n31, n32, n33, n34, n35, n36, n37, n38, n39, n40, n41, n42, n43, n44, n45, n46, n47, n48, n49, n50, n51, n52, n53, n54, n55, fu_s]
  · simp only [sw_s, n0, n1, n2, n3, n4, n5, n6, n7, n8, n9, n10, n11, n12, n13, n14, n15, n16, n17, n18, n19, n20, n21, n22, n23, n24, n25, n26, n27, n28, n29, n30, n31, n32, n33, n34, n35, n36, n37, n38, n39, n40, n41, n42, n43, n44, n45, n46, n47, n48, n49, n50, n51, n52, n53, n54, n55, fu_s]
  · simp only [sw_s, n0, n1, n2, n3, n4, n5, n6, n7, n8, n9, n10, n11, n12, n13, n14, n15, n16, n17, n18, n19, n20, n21, n22, n23, n24, n25, n26, n27, n28, n29, n30, n31, n32, n33, n34, n35, n36, n37, n38, n39, n40, n41, n42, n43, n44, n45, n46, n47, n48, n49, n50, n51, n52, n53, n54, n55, fu_s]
  · simp only [sw_s, n0, n1, n2, n3, n4, n5, n6, n7, n8, n9, n10, n11, n12, n13, n14, n15, n16, n17, n18, n19, n20, n21, n22, n23, n24, n25, n26, n27, n28, n29, n30, n31, n32, n33, n34, n35, n36, n37, n38, n39, n40, n41, n42, n43, n44, n45, n46, n47, n48, n49, n50, n51, n52, n53, n54, n55, fu_s]
  · simp only [sw_s, n0, n1, n2, n3, n4, n5, n6, n7, n8, n9, n10, n11, n12, n13, n14, n15, n16, n17, n18, n19, n20, n21, n22, n23, n24, n25, n26, n27, n28, n29, n30, n31, n32, n33, n34, n35, n36, n37, n38, n39, n40, n41, n42, n43, n44, n45, n46, n47, n48, n49, n50, n51, n52, n53, n54, n55, fu_s]
  · simp only [sw_s, n0, n1, n2, n3, n4, n5, n6, n7, n8, n9, n10, n11, n12, n13, n14, n15, n16, n17, n18, n19, n20, n21, n22, n23, n24, n25, n26, n27, n28, n29, n30, n31, n32, n33, n34, n35, n36, n37, n38, n39, n40, n41, n42, n43, n44, n45, n46, n47, n48, n49, n50, n51, n52, n53, n54, n55, fu_s]
  · simp only [sw_s, n0, n1, n2, n3, n4, n5, n6, n7, n8, n9, n10, n11, n12, n13, n14, n15, n16, n17, n18, n19, n20, n21, n22, n23, n24, n25, n26, n27, n28, n29, n30, n31, n32, n33, n34, n35, n36, n37, n38, n39, n40, n41, n42, n43, n44, n45, n46, n47, n48, n49, n50, n51, n52, n53, n54, n55, fu_s]
    by_cases z : need ≤ used
    · rw [if_pos z, bi_f (fun y => y z)]
    · rw [if_neg z, bi_t z]
  · intro x x1 x2 x3 x4 x5 x6 x7 x8
    simp only [sw_s, fu_n x1, fu_n x2, fu_n x3, fu_n x4, fu_n x5, fu_n x6, fu_n x7, fu_n x8]
end
