section
/-! ahead: both sides -/
theorem qHn_o {σ : aW} {l : List rRu} {w : Int → Int} (hI : qI σ) {i : Int} (hi : ¬ (0 ≤ i ∧ i < 2542)) : ∀ n : Nat, qHn σ l w n i = w i
  | 0 => rfl
  | n + 1 => by
    have hn := hI.1.1
    unfold Nn at hn
    have e := (qH_S (w := qHn σ l w n) (l := l) hI).2.2.2.2 i ⟨fun p k p0 p1 k0 k1 => by
      have := qp hI l w p0 p1
      omega, fun h h0 h1 => by omega, fun p p0 p1 => by omega, by omega⟩
    show qH σ l (qHn σ l w n) i = _
    rw [e]
    exact qHn_o hI hi n
theorem uF_c {σ : aW} {l : List rRu} {w : Int → Int} (hI : qI σ) (hB : qB σ w) (hL : w 2533 ≤ qCp σ) (hP : σ 96 44 = 1 → ∀ k, 0 ≤ k → k < σ 96 43 → σ 125 k ≤ qCp σ) (n : Nat) (hn : w 2532 + n ≤ 5047) {h : Int} (h0 : 0 ≤ h) (h1 : h < σ 96 7) : uF σ l w (n + 1) h = (if uF σ l w n h = -1 ∧ qHn σ l w n (2432 + h) < qHn σ l w (n + 1) (2432 + h) then qHn σ l w n 2532 else uF σ l w n h) := by
  have m := uF_m (l := l) hI hB hL hP h0 h1 n (by omega)
  show (if uF σ l w n h = -1 ∧ w (2432 + h) < qHn σ l w (n + 1) (2432 + h) then qHn σ l w n 2532 else uF σ l w n h) = _
  by_cases z : uF σ l w n h = -1
  · rw [m.2.1 z]
  · rw [if_neg (fun y => z y.1), if_neg (fun y => z y.1)]
theorem uG_c {σ : aW} {l : List rRu} {w : Int → Int} (hI : qI σ) (hB : qB σ w) (hL : w 2533 ≤ qCp σ) (hP : σ 96 44 = 1 → ∀ k, 0 ≤ k → k < σ 96 43 → σ 125 k ≤ qCp σ) (n : Nat) (hn : w 2532 + n ≤ 5047) {x : Int} (hx : (x = 0 ∧ ∀ h, 0 ≤ h → h < σ 96 7 → qHn σ l w (n + 1) (2432 + h) ≤ qHn σ l w n (2432 + h)) ∨ (x = 1 ∧ ∃ h, 0 ≤ h ∧ h < σ 96 7 ∧ qHn σ l w n (2432 + h) < qHn σ l w (n + 1) (2432 + h))) : uG σ l w (n + 1) = (if uG σ l w n = -1 ∧ ¬ x = 0 then qHn σ l w n 2532 else uG σ l w n) := by
  have b := qHn_b (l := l) hI hB hL hP n (by omega)
  have tb := hB.2.1
  show (if uG σ l w n = -1 ∧ ¬ uK (uF σ l w (n + 1)) (σ 96 7) = 0 then qHn σ l w n 2532 else uG σ l w n) = _
  by_cases z : uG σ l w n = -1
  · have hk := uK_0.mp (uG_m (l := l) hI hB hL hP n (by omega) z)
    rcases hx with ⟨x0, hx⟩ | ⟨x1, h, h0, h1, hx⟩
    · have e : uK (uF σ l w (n + 1)) (σ 96 7) = 0 := uK_0.mpr (fun h h0 h1 => by
        rw [uF_c (l := l) hI hB hL hP n hn h0 h1, if_neg (fun y => by have := hx h h0 h1; omega)]
        exact hk h h0 h1)
      rw [if_neg (fun y => y.2 e), if_neg (fun y => y.2 x0)]
    · have e : ¬ uK (uF σ l w (n + 1)) (σ 96 7) = 0 := fun y => by
        have := uK_0.mp y h h0 h1
        rw [uF_c (l := l) hI hB hL hP n hn h0 h1, if_pos ⟨hk h h0 h1, hx⟩] at this
        omega
      rw [if_pos ⟨z, e⟩, if_pos ⟨z, by omega⟩]
  · rw [if_neg (fun y => z y.1), if_neg (fun y => z y.1)]
theorem ISt_l {σ t : aW} (c : ∀ k, ¬ k = 94 → ¬ k = 95 → t k = σ k) (h : ISt 74 σ) : ISt 74 t := by
  obtain ⟨i1, i2, i3, i4, i5⟩ := h
  have e96 := c 96 (by decide) (by decide)
  have e120 := c 120 (by decide) (by decide)
  have e103 := c 103 (by decide) (by decide)
  refine ⟨fun p p0 p1 k k0 k1 => ?_, ?_, fun h h0 h1 => ?_, fun p p0 p1 => ?_, fun i i0 i1 => ?_⟩
  · have := i1 p p0 (by rw [← e96]; exact p1) k k0 (by rw [← e103]; exact k1)
    show t 75 _ = t 120 _ ∧ t 75 _ = t 120 _ ∧ _
    rw [c 75 (by decide) (by decide), e120]
    exact this
  · unfold Sc at *
    rw [e120, c 74 (by decide) (by decide)]
    exact i2
  · have := i3 h h0 h1
    unfold Sh at *
    rw [e120, show t (74 + 3) = σ (74 + 3) from c 77 (by decide) (by decide), show t (74 + 4) = σ (74 + 4) from c 78 (by decide) (by decide), show t (74 + 5) = σ (74 + 5) from c 79 (by decide) (by decide), show t (74 + 6) = σ (74 + 6) from c 80 (by decide) (by decide), show t (74 + 7) = σ (74 + 7) from c 81 (by decide) (by decide), show t (74 + 8) = σ (74 + 8) from c 82 (by decide) (by decide), show t (74 + 9) = σ (74 + 9) from c 83 (by decide) (by decide)]
    exact this
  · have := i4 p p0 p1
    unfold Sp at *
    rw [e120, show t (74 + 2) = σ (74 + 2) from c 76 (by decide) (by decide)]
    exact this
  · have := i5 i i0 i1
    unfold Sm at *
    rw [e120, show t (74 + 10) = σ (74 + 10) from c 84 (by decide) (by decide)]
    exact this
abbrev yL : List Nat := [120, 121, 126, 127, 128, 129, 130, 131, 132, 134, 135, 136, 137, 138, 139, 140, 141]
abbrev yP : List (Nat × Int) := [(96, 0), (96, 46), (96, 47), (96, 48), (96, 49), (96, 50), (96, 51), (96, 52), (96, 53), (96, 54), (96, 55), (96, 56), (96, 57), (96, 58), (96, 66), (96, 74), (96, 75), (96, 76), (96, 79)]
noncomputable def uA (σ : aW) (l : List rRu) (w : Int → Int) (n : Nat) (a : Int) : Int := if a = 0 then qHn σ l w n 2541 - w 2541 else if a = 1 then uG σ l w n else if a = 2 then qHn σ l w n 2539 - w 2539 else qHn σ l w n 2540 - w 2540
/-- one hour's notes of the reference -/
theorem c224n {Q : aQ} {σ s : aW} {l : List rRu} {w : Int → Int} {a1 a2 a5 : Int} {n : Nat} (hI : qI σ) (hB : qB σ w) (hL : w 2533 ≤ qCp σ) (hP : σ 96 44 = 1 → ∀ k, 0 ≤ k → k < σ 96 43 → σ 125 k ≤ qCp σ) (hn : w 2532 + n ≤ 5047) (h6 : s 96 7 = σ 96 7) (hw : s 120 = qHn σ l w (n + 1)) (hk : ∀ j, 0 ≤ j → j < 2542 → s 121 j = w j) (hF : ∀ h, 0 ≤ h → h < σ 96 7 → s 141 h = uF σ l w n h) (a50 : 0 ≤ a5) (a51 : a5 < 48)
    (k : ∀ t, Fr [141] s t → (∀ h, 0 ≤ h → h < σ 96 7 → t 141 h = uF σ l w (n + 1) h) → Yx (42 + 17) cd224 2 Q 103 [vr 96, vi a1, vi a2, vl (uG σ l w (n + 1)), vt, vi (a5 + 1), vt, vt] [] t) : Yx (42 + 17) cd224 2 Q 122 [vr 96, vi a1, vi a2, vl (uG σ l w n), vt, vi a5, vi (qHn σ l w n 2532), vi 0] [] s := by
  have hn' := hI.1.1
  unfold Nn at hn'
  have b := qHn_b (l := l) hI hB hL hP n (by omega)
  have tb := hB.2.1
  refine for_up (X := fun i (v : Int × aW) => Yx (42 + 17) cd224 2 Q 122 [vr 96, vi a1, vi a2, vl v.1, vt, vi a5, vi (qHn σ l w n 2532), vi i] [] v.2) (I := fun i v => 0 ≤ i ∧ i ≤ σ 96 7 ∧ Fr [141] s v.2 ∧ (∀ h, 0 ≤ h → h < i → v.2 141 h = uF σ l w (n + 1) h) ∧ (∀ h, i ≤ h → h < σ 96 7 → v.2 141 h = uF σ l w n h) ∧ v.1 = (if uG σ l w n = -1 ∧ ¬ uK (uF σ l w (n + 1)) i = 0 then qHn σ l w n 2532 else uG σ l w n)) (N := σ 96 7) ?_ ?_ 0 (uG σ l w n, s) ⟨Int.le_refl _, by omega, Fr_r, fun h h0 h1 => by omega, fun h h0 h1 => hF h h0 h1, ?_⟩
  · rintro i ⟨x, v⟩ hi ⟨i0, i1, f1, g1, g2, g3⟩ K
    simp only at f1 g1 g2 g3
    show Yx (42 + 17) cd224 2 Q 122 [vr 96, vi a1, vi a2, vl x, vt, vi a5, vi (qHn σ l w n 2532), vi i] [] v
    have v7 : v 96 7 = σ 96 7 := by rw [f1 96 (by decide)]; exact h6
    have v0 : v 120 (2432 + i) = qHn σ l w (n + 1) (2432 + i) := by rw [f1 120 (by decide), hw]
    have v1 : v 121 (2432 + i) = w (2432 + i) := by rw [f1 121 (by decide)]; exact hk _ (by omega) (by omega)
    have vq : v 141 i = uF σ l w n i := g2 i (Int.le_refl _) hi
    have eF : uF σ l w (n + 1) i = (if uF σ l w n i = -1 ∧ w (2432 + i) < qHn σ l w (n + 1) (2432 + i) then qHn σ l w n 2532 else uF σ l w n i) := rfl
    have eK : uK (uF σ l w (n + 1)) (i + 1) = uK (uF σ l w (n + 1)) i + bi (¬ uF σ l w (n + 1) i = -1) := sI_s i0
    have nK : 0 ≤ uK (uF σ l w (n + 1)) i := (sI_b (f := fun h => bi (¬ uF σ l w (n + 1) h = -1)) (B := 1) (fun i _ _ => bi_0q)).1
    have st : ∀ (x' : Int) (u : aW), Fr [141] v u → u 141 i = uF σ l w (n + 1) i → (∀ h, ¬ h = i → u 141 h = v 141 h) → x' = (if x = -1 ∧ ¬ uF σ l w (n + 1) i = -1 then qHn σ l w n 2532 else x) → Yx (42 + 17) cd224 2 Q 122 [vr 96, vi a1, vi a2, vl x', vt, vi a5, vi (qHn σ l w n 2532), vi (i + 1)] [] u := fun x' u p1 p2 p3 p4 => by
      refine K (x', u) ⟨by omega, by omega, Fr_t f1 p1 (by intro k hk; simp at hk ⊢; omega), fun h h0 h1 => ?_, fun h h0 h1 => ?_, ?_⟩
      · show u 141 h = _
        by_cases z : h = i
        · rw [z]; exact p2
        · rw [p3 h z]; exact g1 h h0 (by omega)
      · show u 141 h = _
        rw [p3 h (by omega)]; exact g2 h (by omega) h1
      · show x' = _
        rw [p4, g3, eK]
        by_cases y : uG σ l w n = -1
        · by_cases q : uK (uF σ l w (n + 1)) i = 0
          · rw [q]
            by_cases r : uF σ l w (n + 1) i = -1
            · rw [bi_f (fun z => z r), if_neg (fun z => z.2 r)]
              simp
            · rw [bi_t r, if_neg (show ¬ (uG σ l w n = -1 ∧ ¬ (0 : Int) = 0) from fun z => z.2 rfl), if_pos ⟨y, r⟩, if_pos ⟨y, by decide⟩]
          · have bb := bi_0q (p := ¬ uF σ l w (n + 1) i = -1)
            rw [if_pos (⟨y, q⟩ : uG σ l w n = -1 ∧ ¬ uK (uF σ l w (n + 1)) i = 0), if_pos (⟨y, by omega⟩ : uG σ l w n = -1 ∧ ¬ (uK (uF σ l w (n + 1)) i + bi (¬ uF σ l w (n + 1) i = -1)) = 0), if_neg (by omega)]
        · rw [if_neg (show ¬ (uG σ l w n = -1 ∧ ¬ uK (uF σ l w (n + 1)) i = 0) from fun z => y z.1), if_neg (show ¬ (uG σ l w n = -1 ∧ ¬ (uK (uF σ l w (n + 1)) i + bi (¬ uF σ l w (n + 1) i = -1)) = 0) from fun z => y z.1), if_neg (fun z => y z.1)]
    refine b224_122 ⟨fun z => by omega, fun _ => ?_⟩
    rw [vq, v0, v1]
    refine ⟨by omega, fun z => ⟨fun y => ⟨by omega, ?_⟩, fun y => ⟨by omega, fun q => absurd q z, fun _ => ⟨by omega, ?_⟩⟩⟩, fun z => ⟨by omega, by omega, by omega, by omega, fun y => ⟨fun q => ⟨by omega, ?_⟩, fun q => ⟨by omega, fun _ => ⟨by omega, ?_⟩, fun r => absurd z r⟩⟩, fun y => ⟨by omega, fun q => ⟨by omega, ?_⟩, fun q => ⟨by omega, fun r => by omega, fun r => ⟨by omega, ?_⟩⟩⟩⟩⟩
    · exact st _ v Fr_r (by rw [vq, eF, if_neg (fun q => z q.1)]) (fun _ _ => rfl) (by rw [if_neg (fun q => y q.1)])
    · exact st _ v Fr_r (by rw [vq, eF, if_neg (fun q => z q.1)]) (fun _ _ => rfl) (by
      have e2 : uF σ l w (n + 1) i = uF σ l w n i := by rw [eF, if_neg (fun q => z q.1)]
      rw [e2, if_pos ⟨y, z⟩])
    · exact st _ v Fr_r (by rw [vq, eF, if_neg (fun q => by omega)]) (fun _ _ => rfl) (by rw [if_neg (fun r => q r.1)])
    · exact st _ v Fr_r (by rw [vq, eF, if_neg (fun q => by omega)]) (fun _ _ => rfl) (by
      have e2 : uF σ l w (n + 1) i = uF σ l w n i := by rw [eF, if_neg (fun q => by omega)]
      rw [e2, if_neg (fun r => r.2 z)])
    · exact st _ _ (Fr_w Fr_r (by decide)) (by rw [sw_s, fu_s, eF, if_pos ⟨z, by omega⟩]) (fun h hh => by rw [sw_s, fu_n hh]) (by rw [if_neg (fun r => q r.1)])
    · exact st _ _ (Fr_w Fr_r (by decide)) (by rw [sw_s, fu_s, eF, if_pos ⟨z, by omega⟩]) (fun h hh => by rw [sw_s, fu_n hh]) (by
      have e2 : uF σ l w (n + 1) i = qHn σ l w n 2532 := by rw [eF, if_pos ⟨z, by omega⟩]
      rw [e2, if_pos ⟨q, r⟩])
  · rintro i ⟨x, v⟩ hi ⟨i0, i1, f1, g1, g2, g3⟩
    simp only at f1 g1 g2 g3
    show Yx (42 + 17) cd224 2 Q 122 [vr 96, vi a1, vi a2, vl x, vt, vi a5, vi (qHn σ l w n 2532), vi i] [] v
    have e : i = σ 96 7 := by omega
    rw [e] at g1 g3 ⊢
    have v7 : v 96 7 = σ 96 7 := by rw [f1 96 (by decide)]; exact h6
    rw [g3]
    exact b224_122 ⟨fun _ => ⟨by omega, k v f1 g1⟩, fun z => by omega⟩
  · show uG σ l w n = _
    rw [if_neg (fun z => z.2 rfl)]
end
