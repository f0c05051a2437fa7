section
/-! ahead: who is cold when -/
noncomputable def uF (σ : aW) (l : List rRu) (w : Int → Int) : Nat → Int → Int
  | 0 => fun _ => -1
  | n + 1 => fun h => if uF σ l w n h = -1 ∧ w (2432 + h) < qHn σ l w (n + 1) (2432 + h) then qHn σ l w n 2532 else uF σ l w n h
def uK (F : Int → Int) (j : Int) : Int := sI (fun h => bi (¬ F h = -1)) j.toNat
noncomputable def uG (σ : aW) (l : List rRu) (w : Int → Int) : Nat → Int
  | 0 => -1
  | n + 1 => if uG σ l w n = -1 ∧ ¬ uK (uF σ l w (n + 1)) (σ 96 7) = 0 then qHn σ l w n 2532 else uG σ l w n
theorem uK_0 {F : Int → Int} {j : Int} : uK F j = 0 ↔ ∀ h, 0 ≤ h → h < j → F h = -1 := by
  constructor
  · intro e h h0 h1
    by_cases z : F h = -1
    · exact z
    · have := sI_pt (f := fun h => bi (¬ F h = -1)) (p := h) (n := j.toNat) h0 (by omega) (fun i _ _ => (bi_0q (p := ¬ F i = -1)).1)
      rw [bi_t z] at this
      unfold uK at e
      omega
  · intro e
    unfold uK
    rw [sI_c (g := fun _ => 0) (fun h h0 h1 => bi_f (fun z => z (e h h0 (by omega))))]
    have c := sI_b (f := fun _ => 0) (B := 0) (n := j.toNat) (fun i _ _ => ⟨Int.le_refl _, Int.le_refl _⟩)
    omega
theorem u_c {σ : aW} {l : List rRu} {w : Int → Int} (hI : qI σ) (hB : qB σ w) (hL : w 2533 ≤ qCp σ) (hP : σ 96 44 = 1 → ∀ k, 0 ≤ k → k < σ 96 43 → σ 125 k ≤ qCp σ) (n : Nat) (hn : w 2532 + n ≤ 5047) {h : Int} (h0 : 0 ≤ h) (h1 : h < σ 96 7) : qHn σ l w n (2432 + h) ≤ qHn σ l w (n + 1) (2432 + h) := by
  have b := qHn_b (l := l) hI hB hL hP n (by omega)
  obtain ⟨_, s2, _, _, _⟩ := qH_S (w := qHn σ l w n) (l := l) hI
  have a := (s2 h h0 h1).2.2.1
  have q := qh hI l b.1 h0 h1
  show _ ≤ qH σ l (qHn σ l w n) (2432 + h)
  rw [a]
  omega
theorem uF_m {σ : aW} {l : List rRu} {w : Int → Int} (hI : qI σ) (hB : qB σ w) (hL : w 2533 ≤ qCp σ) (hP : σ 96 44 = 1 → ∀ k, 0 ≤ k → k < σ 96 43 → σ 125 k ≤ qCp σ) {h : Int} (h0 : 0 ≤ h) (h1 : h < σ 96 7) : ∀ n : Nat, w 2532 + n ≤ 5048 → w (2432 + h) ≤ qHn σ l w n (2432 + h) ∧ (uF σ l w n h = -1 → qHn σ l w n (2432 + h) = w (2432 + h)) ∧ -1 ≤ uF σ l w n h
  | 0, _ => ⟨Int.le_refl _, fun _ => rfl, Int.le_refl _⟩
  | n + 1, hn => by
    obtain ⟨i1, i2, i3⟩ := uF_m (l := l) hI hB hL hP h0 h1 n (by omega)
    have c := u_c (l := l) hI hB hL hP n (by omega) h0 h1
    have b := qHn_b (l := l) hI hB hL hP n (by omega)
    have tb := hB.2.1
    refine ⟨by omega, fun z => ?_, ?_⟩
    · unfold uF at z
      by_cases y : uF σ l w n h = -1 ∧ w (2432 + h) < qHn σ l w (n + 1) (2432 + h)
      · rw [if_pos y] at z
        omega
      · rw [if_neg y] at z
        have := i2 z
        omega
    · unfold uF
      split <;> omega
theorem uG_m {σ : aW} {l : List rRu} {w : Int → Int} (hI : qI σ) (hB : qB σ w) (hL : w 2533 ≤ qCp σ) (hP : σ 96 44 = 1 → ∀ k, 0 ≤ k → k < σ 96 43 → σ 125 k ≤ qCp σ) : ∀ n : Nat, w 2532 + n ≤ 5048 → uG σ l w n = -1 → uK (uF σ l w n) (σ 96 7) = 0
  | 0, _, _ => uK_0.mpr (fun h _ _ => rfl)
  | n + 1, hn, z => by
    have b := qHn_b (l := l) hI hB hL hP n (by omega)
    have tb := hB.2.1
    unfold uG at z
    by_cases y : uG σ l w n = -1 ∧ ¬ uK (uF σ l w (n + 1)) (σ 96 7) = 0
    · rw [if_pos y] at z
      omega
    · rw [if_neg y] at z
      exact Classical.byContradiction fun q => y ⟨z, q⟩
theorem c272 {d : Nat} {Q : aQ} {σ : aW} {a1 : Int} (k : ∀ s, Fr [94] σ s → (∀ j, 0 ≤ j → j < 16 → s 94 j = a1) → Q none s) : aEv (d + 0) true 272 [vr 94, vl a1] σ Q := by
  refine e272 (b272_0 ?_)
  refine for_up (X := fun i s => Yx (d + 0) cd272 0 Q 6 [vr 94, vl a1, vt, vi i, vi 16] [] s) (I := fun i s => 0 ≤ i ∧ i ≤ 16 ∧ Fr [94] σ s ∧ ∀ j, 0 ≤ j → j < i → s 94 j = a1) (N := 16) ?_ ?_ 0 σ ⟨Int.le_refl _, by omega, Fr_r, fun j j0 j1 => by omega⟩
  · rintro i s hi ⟨i0, i1, f1, g1⟩ K
    refine b272_6 ⟨fun z => by omega, fun _ => ⟨by omega, by omega, K _ ⟨by omega, by omega, Fr_w f1 (by decide), fun j j0 j1 => ?_⟩⟩⟩
    rw [sw_s]
    by_cases z : j = i
    · rw [z, fu_s]
    · rw [fu_n z]; exact g1 j j0 (by omega)
  · rintro i s hi ⟨i0, i1, f1, g1⟩
    exact b272_6 ⟨fun _ => k s f1 (fun j j0 j1 => g1 j j0 (by omega)), fun z => by omega⟩
theorem c273e {d : Nat} {Q : aQ} {σ : aW} {a1 : Int} (k : ∀ s, Fr [95] σ s → (∀ j, 0 ≤ j → j < 16 → s 95 j = a1) → Q none s) : aEv (d + 0) true 273 [vr 95, vi a1] σ Q := by
  refine e273e (b273e_0 ?_)
  refine for_up (X := fun i s => Yx (d + 0) cd273 0 Q 5 [vr 95, vi a1, vi i, vi 16] [] s) (I := fun i s => 0 ≤ i ∧ i ≤ 16 ∧ Fr [95] σ s ∧ ∀ j, 0 ≤ j → j < i → s 95 j = a1) (N := 16) ?_ ?_ 0 σ ⟨Int.le_refl _, by omega, Fr_r, fun j j0 j1 => by omega⟩
  · rintro i s hi ⟨i0, i1, f1, g1⟩ K
    refine b273e_5 ⟨fun z => by omega, fun _ => ⟨by omega, by omega, K _ ⟨by omega, by omega, Fr_w f1 (by decide), fun j j0 j1 => ?_⟩⟩⟩
    rw [sw_s]
    by_cases z : j = i
    · rw [z, fu_s]
    · rw [fu_n z]; exact g1 j j0 (by omega)
  · rintro i s hi ⟨i0, i1, f1, g1⟩
    exact b273e_5 ⟨fun _ => k s f1 (fun j j0 j1 => g1 j j0 (by omega)), fun z => by omega⟩
theorem c148 {d : Nat} {Q : aQ} {σ : aW} (hS : ISt 63 σ) (k : ∀ s, Fg [75, 76, 77, 78, 79, 80, 81, 82, 83, 84, 94, 95] [(74, 0), (74, 1), (74, 2), (74, 3), (0, 15)] σ s → s 0 15 = σ 1 2 → (∀ j, 0 ≤ j → j < 16 → s 94 j = 0 ∧ s 95 j = -1) → (∀ i, 0 ≤ i → i < 4 → s 74 i = σ 63 i) → (∀ i, 0 ≤ i → i < 2400 → s 75 i = σ 64 i) → (∀ i, 0 ≤ i → i < 20 → s 76 i = σ 65 i) → (∀ i, 0 ≤ i → i < 16 → s 77 i = σ 66 i ∧ s 78 i = σ 67 i ∧ s 79 i = σ 68 i ∧ s 80 i = σ 69 i ∧ s 81 i = σ 70 i ∧ s 82 i = σ 71 i ∧ s 83 i = σ 72 i) → (∀ i, 0 ≤ i → i < 6 → s 84 i = σ 73 i) → Q none s) : aEv (d + 2) true 148 [vr 0] σ Q := by
  refine e148 (b148_0 (e95 (b95_0 ⟨rfl, b148_11 ?_⟩)))
  generalize hu : (sw (sw (sw (sw (sw (sw (sw (sw (sw (sw (sw (sw (sw (sw σ 74 (fu (σ 74) 0 (σ 63 0))) 74 (fu (fu (σ 74) 0 (σ 63 0)) 1 (σ 63 1))) 74 (fu (fu (fu (σ 74) 0 (σ 63 0)) 1 (σ 63 1)) 2 (σ 63 2))) 74 (fu (fu (fu (fu (σ 74) 0 (σ 63 0)) 1 (σ 63 1)) 2 (σ 63 2)) 3 (σ 63 3))) 75 (aCp (σ 64) (σ 75) 0 0 2400)) 76 (aCp (σ 65) (σ 76) 0 0 20)) 77 (aCp (σ 66) (σ 77) 0 0 16)) 78 (aCp (σ 67) (σ 78) 0 0 16)) 79 (aCp (σ 68) (σ 79) 0 0 16)) 80 (aCp (σ 69) (σ 80) 0 0 16)) 81 (aCp (σ 70) (σ 81) 0 0 16)) 82 (aCp (σ 71) (σ 82) 0 0 16)) 83 (aCp (σ 72) (σ 83) 0 0 16)) 84 (aCp (σ 73) (σ 84) 0 0 6)) = u
  have hu := hu.symm
  have cp : ∀ (f g : Int → Int) (n i : Int), 0 ≤ i → i < n → aCp f g 0 0 n i = f i := fun f g n i i0 i1 => by
    unfold aCp
    rw [if_pos (by omega)]
    congr 1
    omega
  have fu0 : Fg [75, 76, 77, 78, 79, 80, 81, 82, 83, 84] [(74, 0), (74, 1), (74, 2), (74, 3)] σ u := fun c j hc hj => by
    simp only [List.mem_cons, List.not_mem_nil, or_false, not_or] at hc
    rw [hu]
    obtain ⟨h1, h2, h3, h4, h5, h6, h7, h8, h9, h10⟩ := hc
    rw [sw_n h10, sw_n h9, sw_n h8, sw_n h7, sw_n h6, sw_n h5, sw_n h4, sw_n h3, sw_n h2, sw_n h1]
    by_cases e : c = 74
    · subst e
      simp at hj
      rw [sw_s, fu_n hj.2.2.2, fu_n hj.2.2.1, fu_n hj.2.1, fu_n hj.1]
    · rw [sw_n e, sw_n e, sw_n e, sw_n e]
  have e12 : u 1 2 = σ 1 2 := fu0 1 2 (by decide) (by decide)
  have u74 : u 74 = fu (fu (fu (fu (σ 74) 0 (σ 63 0)) 1 (σ 63 1)) 2 (σ 63 2)) 3 (σ 63 3) := by
    rw [hu]
    simp only [sw_s, sw_n (show (74 : Nat) ≠ 84 by decide), sw_n (show (74 : Nat) ≠ 83 by decide), sw_n (show (74 : Nat) ≠ 82 by decide), sw_n (show (74 : Nat) ≠ 81 by decide), sw_n (show (74 : Nat) ≠ 80 by decide), sw_n (show (74 : Nat) ≠ 79 by decide), sw_n (show (74 : Nat) ≠ 78 by decide), sw_n (show (74 : Nat) ≠ 77 by decide), sw_n (show (74 : Nat) ≠ 76 by decide), sw_n (show (74 : Nat) ≠ 75 by decide)]
  refine c272 (fun s1 f1 g1 => ⟨rfl, b148_30 (c273e (fun s2 f2 g2 => ⟨rfl, b148_38 ?_⟩))⟩)
  have f12 : Fr [94, 95] (sw u 0 (fu (u 0) 15 (u 1 2))) s2 := Fr_t f1 f2 (by intro k hk; simp at hk ⊢; omega)
  have c : ∀ k, ¬ k = 94 → ¬ k = 95 → ¬ k = 0 → s2 k = u k := fun k a b e => by rw [f12 k (by simp; omega), sw_n e]
  refine k s2 ?_ ?_ (fun j j0 j1 => ⟨by rw [f2 94 (by decide)]; exact g1 j j0 j1, g2 j j0 j1⟩) (fun i i0 i1 => ?_) (fun i i0 i1 => ?_) (fun i i0 i1 => ?_) (fun i i0 i1 => ⟨?_, ?_, ?_, ?_, ?_, ?_, ?_⟩) (fun i i0 i1 => ?_)
  · exact Fg_t (Fg_f (Fg_m fu0 (by decide) (by decide)) (by decide)) (Fg_F (Fr_s f12 (by decide)))
  · rw [f12 0 (by decide), sw_s, fu_s, e12]
  · rw [c 74 (by decide) (by decide) (by decide), u74]
    have hi : i = 0 ∨ i = 1 ∨ i = 2 ∨ i = 3 := by omega
    rcases hi with z | z | z | z <;> rw [z] <;> simp [fu]
  all_goals (rw [c _ (by decide) (by decide) (by decide), hu]; simp [sw]; exact cp _ _ _ i i0 i1)
theorem c149 {d : Nat} {Q : aQ} {s : aW} {hr H : Int} {c1 c0 c F : Int → Int} (hH : s 0 15 = H) (H1 : H ≤ 16) (H0 : 0 ≤ H) (e1 : ∀ h, 0 ≤ h → h < H → s 81 h = c1 h ∧ s 70 h = c0 h ∧ s 94 h = c h - c0 h ∧ s 95 h = F h ∧ 0 ≤ c1 h ∧ c1 h ≤ 1000000000000000000 ∧ 0 ≤ c0 h ∧ c0 h ≤ 1000000000000000000)
    (k : ∀ s' x, Fr [94, 95] s s' → (∀ h, 0 ≤ h → h < H → s' 94 h = c1 h - c0 h ∧ s' 95 h = (if F h = -1 ∧ c h < c1 h then hr else F h)) → ((x = 0 ∧ ∀ h, 0 ≤ h → h < H → c1 h ≤ c h) ∨ (x = 1 ∧ ∃ h, 0 ≤ h ∧ h < H ∧ c h < c1 h)) → Q (some (vi x)) s') : aEv (d + 0) true 149 [vr 0, vi hr] s Q := by
  refine e149 (b149_0 ?_)
  refine for_up (X := fun i (v : Int × aW) => Yx (d + 0) cd149 3 Q 4 [vr 0, vi hr, vi v.1, vi i, vt, vt] [] v.2) (I := fun i v => 0 ≤ i ∧ i ≤ H ∧ Fr [94, 95] s v.2 ∧ (∀ h, 0 ≤ h → h < i → v.2 94 h = c1 h - c0 h ∧ v.2 95 h = (if F h = -1 ∧ c h < c1 h then hr else F h)) ∧ (∀ h, i ≤ h → h < H → v.2 94 h = c h - c0 h ∧ v.2 95 h = F h) ∧ ((v.1 = 0 ∧ ∀ h, 0 ≤ h → h < i → c1 h ≤ c h) ∨ (v.1 = 1 ∧ ∃ h, 0 ≤ h ∧ h < i ∧ c h < c1 h))) (N := H) ?_ ?_ 0 (0, s) ⟨Int.le_refl _, H0, Fr_r, fun h h0 h1 => by omega, fun h h0 h1 => ⟨(e1 h h0 h1).2.2.1, (e1 h h0 h1).2.2.2.1⟩, Or.inl ⟨rfl, fun h h0 h1 => by omega⟩⟩
  · rintro i ⟨x, v⟩ hi ⟨i0, i1, f1, g1, g2, g3⟩ K
    simp only at f1 g1 g2 g3
    show Yx (d + 0) cd149 3 Q 4 [vr 0, vi hr, vi x, vi i, vt, vt] [] v
    have q := e1 i i0 hi
    have p := g2 i (Int.le_refl _) hi
    have v81 : v 81 i = c1 i := by rw [f1 81 (by decide)]; exact q.1
    have v70 : v 70 i = c0 i := by rw [f1 70 (by decide)]; exact q.2.1
    have v0 : v 0 15 = H := by rw [f1 0 (by decide)]; exact hH
    refine b149_4 ⟨fun z => by omega, fun _ => ?_⟩
    rw [v81, v70, p.1, p.2]
    have st : ∀ (x' : Int) (u : aW), Fr [94, 95] v u → u 94 = fu (v 94) i (c1 i - c0 i) → u 95 i = (if F i = -1 ∧ c i < c1 i then hr else F i) → (∀ h, ¬ h = i → u 95 h = v 95 h) → ((x' = 0 ∧ ∀ h, 0 ≤ h → h < i + 1 → c1 h ≤ c h) ∨ (x' = 1 ∧ ∃ h, 0 ≤ h ∧ h < i + 1 ∧ c h < c1 h)) → Yx (d + 0) cd149 3 Q 4 [vr 0, vi hr, vi x', vi (i + 1), vt, vt] [] u := fun x' u a1 a2 a3 a4 a5 => by
      refine K (x', u) ⟨by omega, by omega, Fr_t f1 a1 (by intro k hk; simp at hk ⊢; omega), fun h h0 h1 => ?_, fun h h0 h1 => ?_, a5⟩
      · show u 94 h = _ ∧ u 95 h = _
        by_cases z : h = i
        · rw [z, a2, fu_s]; exact ⟨rfl, a3⟩
        · rw [a2, fu_n z, a4 h z]; exact g1 h h0 (by omega)
      · show u 94 h = _ ∧ u 95 h = _
        have z : ¬ h = i := by omega
        rw [a2, fu_n z, a4 h z]; exact g2 h (by omega) h1
    refine ⟨by omega, by omega, by omega, by omega, fun z => ⟨by omega, by omega, st x _ (Fr_w Fr_r (by decide)) (by rw [sw_s]) ?_ (fun h hh => by rw [sw_n (by decide)]) ?_⟩, fun z => ⟨by omega, fun y => ⟨by omega, by omega, st 1 _ (Fr_w Fr_r (by decide)) (by rw [sw_s]) ?_ (fun h hh => by rw [sw_n (by decide)]) (Or.inr ⟨rfl, i, i0, by omega, by omega⟩)⟩, fun y => ⟨by omega, by omega, by omega, st 1 _ (Fr_w (Fr_w Fr_r (by decide)) (by decide)) (by rw [sw_s]) ?_ (fun h hh => by rw [sw_n (by decide), sw_s, fu_n hh]) (Or.inr ⟨rfl, i, i0, by omega, by omega⟩)⟩⟩⟩
    · rw [sw_n (by decide), p.2, if_neg (by omega)]
    · rcases g3 with g | g
      · refine Or.inl ⟨g.1, fun h h0 h1 => ?_⟩
        by_cases e : h = i
        · rw [e]; omega
        · exact g.2 h h0 (by omega)
      · obtain ⟨g4, h, h0, h1, h2⟩ := g
        exact Or.inr ⟨g4, h, h0, by omega, h2⟩
    · rw [sw_n (by decide), p.2, if_neg (by omega)]
    · rw [sw_n (by decide), sw_s, fu_s, if_pos ⟨y, by omega⟩]
  · rintro i ⟨x, v⟩ hi ⟨i0, i1, f1, g1, g2, g3⟩
    simp only at f1 g1 g2 g3
    show Yx (d + 0) cd149 3 Q 4 [vr 0, vi hr, vi x, vi i, vt, vt] [] v
    have e : i = H := by omega
    rw [e] at g1 g3 ⊢
    have v0 : v 0 15 = H := by rw [f1 0 (by decide)]; exact hH
    refine b149_4 ⟨fun _ => ⟨?_, k v x f1 g1 g3⟩, fun z => by omega⟩
    rcases g3 with g | g
    · exact Or.inl g.1
    · exact Or.inr g.1
end
