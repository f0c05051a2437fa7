section
/-! frames by cell and place -/
def Fg (L : List Nat) (P : List (Nat × Int)) (σ s : aW) : Prop := ∀ k j, k ∉ L → (k, j) ∉ P → s k j = σ k j
theorem Fg_r {L : List Nat} {P : List (Nat × Int)} {σ : aW} : Fg L P σ σ := fun _ _ _ _ => rfl
theorem Fg_t {L : List Nat} {P : List (Nat × Int)} {σ s t : aW} (h : Fg L P σ s) (h2 : Fg L P s t) : Fg L P σ t := fun k j hk hj => (h2 k j hk hj).trans (h k j hk hj)
theorem Fg_m {L M : List Nat} {P R : List (Nat × Int)} {σ s : aW} (h : Fg L P σ s) (hl : L.all (fun k => M.contains k) = true) (hp : P.all (fun x => M.contains x.1 || R.contains x) = true) : Fg M R σ s := fun k j hk hj => h k j (fun z => hk (by
  have := List.all_eq_true.mp hl k z
  simpa using this)) (fun z => by
  have := List.all_eq_true.mp hp (k, j) z
  rcases (by simpa using this : k ∈ M ∨ (k, j) ∈ R) with z | z
  · exact hk z
  · exact hj z)
theorem Fg_w {L : List Nat} {P : List (Nat × Int)} {σ s : aW} {k : Nat} {f : Int → Int} (h : Fg L P σ s) (hk : k ∈ L) : Fg L P σ (sw s k f) := fun a j ha hj => by
  have hne : a ≠ k := fun z => ha (by rw [z]; exact hk)
  rw [sw_n hne]
  exact h a j ha hj
theorem Fg_f {L : List Nat} {P : List (Nat × Int)} {σ s : aW} {k : Nat} {i v : Int} (h : Fg L P σ s) (hk : (k, i) ∈ P) : Fg L P σ (sw s k (fu (s k) i v)) := fun a j ha hj => by
  by_cases hne : a = k
  · subst hne
    have hj' : j ≠ i := fun z => hj (by rw [z]; exact hk)
    rw [sw_s, fu_n hj']
    exact h a j ha hj
  · rw [sw_n hne]
    exact h a j ha hj
/-- the answers are alike, I holds, nothing else has changed -/
def Tp (I : aW → Prop) (L : List Nat) (P : List (Nat × Int)) (σ : aW) (r r' : Option aV) (t : aW) : Prop := r' = r ∧ I t ∧ Fg L P σ t
theorem Fg_F {L : List Nat} {P : List (Nat × Int)} {σ s : aW} (h : Fr L σ s) : Fg L P σ s := fun k j hk _ => by rw [h k hk]
end
section
/-! rows of numbers -/
def IPl (σ : aW) : Prop := ∀ i, 0 ≤ i → i < 4 → (σ 86 i = -1 ∧ σ 97 i = -1) ∨ (σ 86 i = σ 98 i ∧ σ 87 i = σ 97 i ∧ 0 ≤ σ 98 i ∧ σ 98 i ≤ 60 ∧ 0 ≤ σ 97 i ∧ σ 97 i ≤ 3 ∧ ∀ j, 0 ≤ j → j < σ 98 i → σ 88 (60 * i + j) = σ 99 (60 * i + j))
theorem c50 {d : Nat} {Q : aQ} {σ : aW} {a1 a2 a3 : Int} (h1 : 0 ≤ a1) (h2 : a1 < 4) (h3 : 0 ≤ a3) (h4 : a3 ≤ 60) (k : ∀ s, Fr [86, 87, 88] σ s → s 86 = fu (σ 86) a1 a3 → s 87 = fu (σ 87) a1 a2 → (∀ j, s 88 j = if 60 * a1 ≤ j ∧ j < 60 * a1 + a3 then 0 else σ 88 j) → Q none s) : aEv (d + 0) true 50 [vr 85, vi a1, vi a2, vi a3] σ Q := by
  refine e50 (b50_0 ⟨⟨h1, h2⟩, ⟨h1, h2⟩, ?_⟩)
  refine for_up (X := fun i s => Yx (d + 0) cd50 0 Q 17 [vr 85, vi a1, vt, vi a3, vi i] [] s) (I := fun i s => 0 ≤ i ∧ i ≤ a3 ∧ Fr [86, 87, 88] σ s ∧ s 86 = fu (σ 86) a1 a3 ∧ s 87 = fu (σ 87) a1 a2 ∧ ∀ j, s 88 j = if 60 * a1 ≤ j ∧ j < 60 * a1 + i then 0 else σ 88 j) (N := a3) ?_ ?_ 0 _ ⟨Int.le_refl _, h3, ?_, ?_, ?_, ?_⟩
  · rintro i s hi ⟨g1, g2, g3, g4, g5, g6⟩ K
    refine b50_17 ⟨fun z => by omega, fun _ => ⟨by omega, by omega, by omega, by omega, K _ ⟨by omega, by omega, Fr_w g3 (by decide), ?_, ?_, ?_⟩⟩⟩
    · simpa [sw] using g4
    · simpa [sw] using g5
    · intro j
      simp only [sw_s, fu, g6]
      repeat' split
      all_goals omega
  · rintro i s hi ⟨g1, g2, g3, g4, g5, g6⟩
    have e : i = a3 := by omega
    subst e
    exact b50_17 ⟨fun _ => k s g3 g4 g5 g6, fun z => absurd hi z⟩
  · exact Fr_w (Fr_w Fr_r (by decide)) (by decide)
  · simp [sw]
  · simp [sw]
  · intro j
    simp only [sw]
    repeat' split
    all_goals first | omega | simp
theorem c156 {d : Nat} {Q : aQ} {σ : aW} {a1 : Int} (h1 : 0 ≤ a1) (h2 : a1 < 4) (k : ∀ s, Fr [99] σ s → (∀ j, s 99 j = if 60 * a1 ≤ j ∧ j < 60 * a1 + 60 then 0 else σ 99 j) → Q (some (vi 0)) s) : Yx (d + 2) cd156 1 Q 57 [vr 96, vi a1, vt, vt, vi 0] [] σ := by
  refine for_up (X := fun i s => Yx (d + 2) cd156 1 Q 57 [vr 96, vi a1, vt, vt, vi i] [] s) (I := fun i s => 0 ≤ i ∧ i ≤ 60 ∧ Fr [99] σ s ∧ ∀ j, s 99 j = if 60 * a1 ≤ j ∧ j < 60 * a1 + i then 0 else σ 99 j) (N := 60) ?_ ?_ 0 _ ⟨Int.le_refl _, by omega, Fr_r, ?_⟩
  · rintro i s hi ⟨g1, g2, g3, g6⟩ K
    refine b156_57 ⟨fun z => by omega, fun _ => ⟨by omega, by omega, by omega, by omega, K _ ⟨by omega, by omega, Fr_w g3 (by decide), ?_⟩⟩⟩
    intro j
    simp only [sw_s, fu, g6]
    repeat' split
    all_goals omega
  · rintro i s hi ⟨g1, g2, g3, g6⟩
    have e : i = 60 := by omega
    subst e
    exact b156_57 ⟨fun _ => k s g3 g6, fun z => absurd hi z⟩
  · intro j
    repeat' split
    all_goals first | omega | rfl
theorem t_row {σ : aW} {a1 a2 a3 : Int} (hI : IPl σ) : aEv 59 true 139 [vr 0, vi a1, vi a2, vi a3] σ (fun r s => aEv 59 true 156 [vr 96, vi a1, vi a2, vi a3] s (Tp IPl [86, 87, 88, 97, 98, 99] [(96, 0)] σ r)) := by
  have hI0 : ∀ r : Option aV, Tp IPl [86, 87, 88, 97, 98, 99] [(96, 0)] σ r r (sw σ 96 (fu (σ 96) 0 0)) := fun r => ⟨rfl, hI, Fg_f Fg_r (by decide)⟩
  refine e139 (b139_0 ?_)
  (repeat' first | with_reducible apply And.intro | with_reducible intro _)
  · refine e156 (b156_0 ?_)
    (repeat' first | with_reducible apply And.intro | with_reducible intro _)
    all_goals first | omega | exact hI0 _
  · refine e156 (b156_0 ?_)
    (repeat' first | with_reducible apply And.intro | with_reducible intro _)
    all_goals first | omega | exact hI0 _
  · rename_i h1 h2 h3 h4
    refine c50 (d := 58) h1.1 (by omega) h4 h3 (fun s f1 f2 f3 f4 => ⟨rfl, b139_45 ?_⟩)
    refine e156 (b156_0 ?_)
    (repeat' first | with_reducible apply And.intro | with_reducible intro _)
    all_goals first | omega | skip
    refine c156 (by omega) (by omega) (fun t g1 g2 => ⟨rfl, ?_, ?_⟩)
    · intro i hi0 hi4
      have e86 : t 86 i = fu (σ 86) a1 a3 i := by rw [g1 86 (by decide)]; simp [sw, f2]
      have e87 : t 87 i = fu (σ 87) a1 a2 i := by rw [g1 87 (by decide)]; simp [sw, f3]
      have e97 : t 97 i = fu (σ 97) a1 a2 i := by rw [g1 97 (by decide)]; simp [sw, f1 97 (by decide)]
      have e98 : t 98 i = fu (σ 98) a1 a3 i := by rw [g1 98 (by decide)]; simp [sw, f1 98 (by decide)]
      have e88 : ∀ j, t 88 j = if 60 * a1 ≤ j ∧ j < 60 * a1 + a3 then 0 else σ 88 j := fun j => by rw [g1 88 (by decide)]; simp [sw, f4]
      have e99 : ∀ j, t 99 j = if 60 * a1 ≤ j ∧ j < 60 * a1 + 60 then 0 else σ 99 j := fun j => by rw [g2]; simp [sw, f1 99 (by decide)]
      have := hI i hi0 hi4
      simp only [e86, e87, e97, e98, e88, e99]
      by_cases e : i = a1
      · subst e
        simp only [fu_s]
        refine Or.inr ⟨trivial, trivial, by omega, by omega, by omega, by omega, fun j h0 h1 => ?_⟩
        rw [if_pos (by omega), if_pos (by omega)]
      · simp only [fu_n e]
        rcases this with z | ⟨z1, z2, z3, z4, z5, z6, z7⟩
        · exact Or.inl z
        · refine Or.inr ⟨z1, z2, z3, z4, z5, z6, fun j h0 h1 => ?_⟩
          rw [if_neg (by omega), if_neg (by omega)]
          exact z7 j h0 h1
    · exact Fg_t (Fg_t (Fg_F (Fr_s f1 (by decide))) (Fg_w (Fg_w (Fg_f Fg_r (by decide)) (by decide)) (by decide))) (Fg_F (Fr_s g1 (by decide)))
  · refine e156 (b156_0 ?_)
    (repeat' first | with_reducible apply And.intro | with_reducible intro _)
    all_goals first | omega | exact hI0 _
  · refine e156 (b156_0 ?_)
    (repeat' first | with_reducible apply And.intro | with_reducible intro _)
    all_goals first | omega | exact hI0 _
theorem t_tear {σ : aW} {a1 : Int} (hI : IPl σ) : aEv 59 true 140 [vr 0, vi a1] σ (fun r s => aEv 59 true 157 [vr 96, vi a1] s (Tp IPl [86, 97] [(96, 0)] σ r)) := by
  have hI0 : ∀ r : Option aV, Tp IPl [86, 97] [(96, 0)] σ r r (sw σ 96 (fu (σ 96) 0 0)) := fun r => ⟨rfl, hI, Fg_f Fg_r (by decide)⟩
  refine e140 (b140_0 ?_)
  (repeat' first | with_reducible apply And.intro | with_reducible intro _)
  all_goals first | omega | skip
  · refine e157 (b157_0 ?_)
    (repeat' first | with_reducible apply And.intro | with_reducible intro _)
    all_goals first | omega | exact hI0 _
  · rename_i h1 h2
    have hp := hI a1 (by omega) (by omega)
    refine e157 (b157_0 ?_)
    (repeat' first | with_reducible apply And.intro | with_reducible intro _)
    all_goals first | omega | skip
    · refine ⟨rfl, ?_, Fg_w (Fg_f (Fg_w Fg_r (by decide)) (by decide)) (by decide)⟩
      intro i hi0 hi4
      have := hI i hi0 hi4
      by_cases e : i = a1
      · subst e
        left
        simp [sw, fu]
      · simpa [sw, fu, e] using this
    · rename_i h3
      simp only [sw] at h3
      simp at h3
      omega
  · rename_i h1 h2
    have hp := hI a1 (by omega) (by omega)
    refine e157 (b157_0 ?_)
    (repeat' first | with_reducible apply And.intro | with_reducible intro _)
    all_goals first | omega | exact hI0 _
theorem t_write {σ : aW} {a1 a2 a3 : Int} (hI : IPl σ) : aEv 59 true 141 [vr 0, vi a1, vi a2, vl a3] σ (fun r s => aEv 59 true 158 [vr 96, vi a1, vi a2, vl a3] s (Tp IPl [88, 99] [(96, 0)] σ r)) := by
  have hI0 : ∀ r : Option aV, Tp IPl [88, 99] [(96, 0)] σ r r (sw σ 96 (fu (σ 96) 0 0)) := fun r => ⟨rfl, hI, Fg_f Fg_r (by decide)⟩
  refine e141 (b141_0 ?_)
  by_cases h1 : 0 ≤ a1 ∧ a1 ≤ 3
  · have hp := hI a1 (by omega) (by omega)
    by_cases h2 : σ 86 a1 = -1
    · refine ⟨fun z => ?_, fun _ => ?_⟩
      · simp [h1, h2] at z
      · simp only [h1, h2, and_self, if_true]
        refine e158 (b158_0 ?_)
        (repeat' first | with_reducible apply And.intro | with_reducible intro _)
        all_goals first | omega | exact hI0 _
    · refine ⟨fun _ => ⟨by omega, by omega, fun h3 => ?_, fun h3 => ?_⟩, fun z => ?_⟩
      · refine e52 (b52_0 ⟨by omega, by omega, by omega, by omega, rfl, b141_52 ?_⟩)
        rcases hp with z | ⟨z1, z2, z3, z4, z5, z6, z7⟩
        · exact absurd z.1 h2
        refine e158 (b158_0 ?_)
        simp only [sw_n (show (97 : Nat) ≠ 88 by decide), sw_n (show (98 : Nat) ≠ 88 by decide), sw_n (show (99 : Nat) ≠ 88 by decide), sw_n (show (96 : Nat) ≠ 88 by decide)]
        (repeat' first | with_reducible apply And.intro | with_reducible intro _)
        all_goals first | omega | skip
        refine ⟨rfl, ?_, Fg_w (Fg_t (Fg_w Fg_r (by decide)) (Fg_f Fg_r (by decide))) (by decide)⟩
        intro i hi0 hi4
        have := hI i hi0 hi4
        simp only [sw, fu]
        simp only [Nat.reduceEqDiff, if_true, if_false, z2]
        rcases this with z | ⟨y1, y2, y3, y4, y5, y6, y7⟩
        · exact Or.inl z
        · refine Or.inr ⟨y1, y2, y3, y4, y5, y6, fun j h0 h1 => ?_⟩
          rw [Int.mul_comm a1 60]
          by_cases e : 60 * i + j = 60 * a1 + a2
          · rw [e, fu_s, fu_s]
          · rw [fu_n e, fu_n e]
            exact y7 j h0 h1
      · refine e158 (b158_0 ?_)
        (repeat' first | with_reducible apply And.intro | with_reducible intro _)
        all_goals first | omega | exact hI0 _
      · simp [h1, h2] at z
  · refine ⟨fun z => ?_, fun _ => ?_⟩
    · simp [h1] at z
    · simp only [h1, if_false]
      refine e158 (b158_0 ?_)
      (repeat' first | with_reducible apply And.intro | with_reducible intro _)
      all_goals first | omega | exact hI0 _
theorem c159a {d : Nat} {Q : aQ} {σ : aW} {a1 a2 a3 a4 a5 : Int} (h1 : 0 ≤ a1 ∧ a1 ≤ 3) (h2 : 0 ≤ a2) (h5 : 0 ≤ a5) (h6 : a2 + a5 ≤ 60) (k : ∀ s, Fr [100] σ s → (∀ j, 0 ≤ j → j < a5 → s 100 j = σ 99 (60 * a1 + a2 + j)) → Yx (d + 2) cd159 1 Q 153 [vr 96, vt, vt, vi a3, vi a4, vi a5, vi 0] [] s) : Yx (d + 2) cd159 1 Q 116 [vr 96, vi a1, vi a2, vi a3, vi a4, vi a5, vi 0] [] σ := by
  refine for_up (X := fun i s => Yx (d + 2) cd159 1 Q 116 [vr 96, vi a1, vi a2, vi a3, vi a4, vi a5, vi i] [] s) (I := fun i s => 0 ≤ i ∧ i ≤ a5 ∧ Fr [100] σ s ∧ ∀ j, 0 ≤ j → j < i → s 100 j = σ 99 (60 * a1 + a2 + j)) (N := a5) ?_ ?_ 0 _ ⟨Int.le_refl _, h5, Fr_r, fun j z w => by omega⟩
  · rintro i s hi ⟨g1, g2, g3, g6⟩ K
    refine b159_116 ⟨fun z => by omega, fun _ => ⟨by omega, by omega, by omega, by omega, by omega, by omega, K _ ⟨by omega, by omega, Fr_w g3 (by decide), ?_⟩⟩⟩
    intro j j0 j1
    rw [sw_s]
    by_cases e : j = i
    · rw [e, fu_s, g3 99 (by decide)]
    · rw [fu_n e, g6 j j0 (by omega)]
  · rintro i s hi ⟨g1, g2, g3, g6⟩
    have e : i = a5 := by omega
    subst e
    exact b159_116 ⟨fun _ => k s g3 g6, fun z => absurd hi z⟩
theorem c159b {d : Nat} {Q : aQ} {σ : aW} {a3 a4 a5 : Int} (h1 : 0 ≤ a3 ∧ a3 ≤ 3) (h2 : 0 ≤ a4) (h5 : 0 ≤ a5) (h6 : a4 + a5 ≤ 60) (k : ∀ s, Fr [99] σ s → (∀ j, s 99 j = if 60 * a3 + a4 ≤ j ∧ j < 60 * a3 + a4 + a5 then σ 100 (j - (60 * a3 + a4)) else σ 99 j) → Q (some (vi 0)) s) : Yx (d + 2) cd159 1 Q 153 [vr 96, vt, vt, vi a3, vi a4, vi a5, vi 0] [] σ := by
  refine for_up (X := fun i s => Yx (d + 2) cd159 1 Q 153 [vr 96, vt, vt, vi a3, vi a4, vi a5, vi i] [] s) (I := fun i s => 0 ≤ i ∧ i ≤ a5 ∧ Fr [99] σ s ∧ ∀ j, s 99 j = if 60 * a3 + a4 ≤ j ∧ j < 60 * a3 + a4 + i then σ 100 (j - (60 * a3 + a4)) else σ 99 j) (N := a5) ?_ ?_ 0 _ ⟨Int.le_refl _, h5, Fr_r, fun j => by rw [if_neg (by omega)]⟩
  · rintro i s hi ⟨g1, g2, g3, g6⟩ K
    refine b159_153 ⟨fun z => by omega, fun _ => ⟨by omega, by omega, by omega, by omega, by omega, by omega, K _ ⟨by omega, by omega, Fr_w g3 (by decide), ?_⟩⟩⟩
    intro j
    rw [sw_s]
    by_cases e : j = 60 * a3 + a4 + i
    · rw [e, fu_s, g3 100 (by decide), if_pos (by omega)]
      congr 1
      omega
    · rw [fu_n e, g6 j]
      by_cases c : 60 * a3 + a4 ≤ j ∧ j < 60 * a3 + a4 + i
      · rw [if_pos c, if_pos (by omega)]
      · rw [if_neg c, if_neg (by omega)]
  · rintro i s hi ⟨g1, g2, g3, g6⟩
    have e : i = a5 := by omega
    subst e
    exact b159_153 ⟨fun _ => k s g3 g6, fun z => absurd hi z⟩
theorem t_paste {σ : aW} {a1 a2 a3 a4 a5 : Int} (q2 : r32 a2) (q4 : r32 a4) (q5 : r32 a5) (hI : IPl σ) : aEv 59 true 142 [vr 0, vi a1, vi a2, vi a3, vi a4, vi a5] σ (fun r s => aEv 59 true 159 [vr 96, vi a1, vi a2, vi a3, vi a4, vi a5] s (Tp IPl [88, 99, 100] [(96, 0)] σ r)) := by
  have hI0 : ∀ r : Option aV, Tp IPl [88, 99, 100] [(96, 0)] σ r r (sw σ 96 (fu (σ 96) 0 0)) := fun r => ⟨rfl, hI, Fg_f Fg_r (by decide)⟩
  unfold r32 at q2 q4 q5
  refine e142 (b142_0 ?_)
  by_cases h1 : 0 ≤ a1 ∧ a1 ≤ 3
  · by_cases h3 : 0 ≤ a3 ∧ a3 ≤ 3
    · have hp := hI a1 (by omega) (by omega)
      have hq := hI a3 (by omega) (by omega)
      (repeat' first | with_reducible apply And.intro | with_reducible intro _)
      all_goals first | omega | skip
      all_goals first | (refine e159 (b159_0 ?_); (repeat' first | with_reducible apply And.intro | with_reducible intro _); all_goals first | omega | exact hI0 _) | skip
      rename_i y1 y2 y3 y4 y5 y6 y7 y8
      rcases hp with z | ⟨z1, z2, z3, z4, z5, z6, z7⟩
      · omega
      rcases hq with z | ⟨x1, x2, x3, x4, x5, x6, x7⟩
      · omega
      refine e54 (b54_0 ⟨by omega, by omega, by omega, by omega, by omega, rfl, b142_137 ?_⟩)
      refine e159 (b159_0 ?_)
      (repeat' first | with_reducible apply And.intro | with_reducible intro _)
      all_goals first | omega | (simp only [sw_n (show (97 : Nat) ≠ 88 by decide), sw_n (show (98 : Nat) ≠ 88 by decide)] at *; omega) | skip
      refine c159a h1 (by omega) (by omega) (by omega) (fun s f1 f2 => c159b h3 (by omega) (by omega) (by omega) (fun t g1 g2 => ⟨rfl, ?_, ?_⟩))
      · intro i hi0 hi4
        have e86 : t 86 i = σ 86 i := by rw [g1 86 (by decide), f1 86 (by decide)]; simp [sw]
        have e87 : t 87 i = σ 87 i := by rw [g1 87 (by decide), f1 87 (by decide)]; simp [sw]
        have e97 : t 97 i = σ 97 i := by rw [g1 97 (by decide), f1 97 (by decide)]; simp [sw]
        have e98 : t 98 i = σ 98 i := by rw [g1 98 (by decide), f1 98 (by decide)]; simp [sw]
        have e88 : ∀ j, t 88 j = aCp (σ 88) (σ 88) (a1 * 60 + a2) (a3 * 60 + a4) a5 j := fun j => by rw [g1 88 (by decide), f1 88 (by decide)]; simp [sw]
        have e99 : ∀ j, t 99 j = if 60 * a3 + a4 ≤ j ∧ j < 60 * a3 + a4 + a5 then σ 99 (60 * a1 + a2 + (j - (60 * a3 + a4))) else σ 99 j := fun j => by
          rw [g2]
          by_cases c : 60 * a3 + a4 ≤ j ∧ j < 60 * a3 + a4 + a5
          · rw [if_pos c, if_pos c, f2 _ (by omega) (by omega)]
            simp [sw]
          · rw [if_neg c, if_neg c, f1 99 (by decide)]
            simp [sw]
        have := hI i hi0 hi4
        simp only [e86, e87, e97, e98, e88, e99]
        rcases this with z | ⟨w1, w2, w3, w4, w5, w6, w7⟩
        · exact Or.inl z
        · refine Or.inr ⟨w1, w2, w3, w4, w5, w6, fun j j0 j1 => ?_⟩
          unfold aCp
          by_cases c : 60 * a3 + a4 ≤ 60 * i + j ∧ 60 * i + j < 60 * a3 + a4 + a5
          · rw [if_pos c, if_pos (by omega)]
            have e1 : a1 * 60 + a2 + (60 * i + j - (a3 * 60 + a4)) = 60 * a1 + (a2 + (60 * i + j - (60 * a3 + a4))) := by omega
            have e2 : 60 * a1 + a2 + (60 * i + j - (60 * a3 + a4)) = 60 * a1 + (a2 + (60 * i + j - (60 * a3 + a4))) := by omega
            rw [e1, e2]
            exact z7 _ (by omega) (by omega)
          · rw [if_neg c, if_neg (by omega)]
            exact w7 j j0 j1
      · exact Fg_t (Fg_t (Fg_t (Fg_w Fg_r (by decide)) (Fg_f Fg_r (by decide))) (Fg_F (Fr_s f1 (by decide)))) (Fg_F (Fr_s g1 (by decide)))
    · (repeat' first | with_reducible apply And.intro | with_reducible intro _)
      all_goals first | omega | skip
      refine e159 (b159_0 ?_)
      (repeat' first | with_reducible apply And.intro | with_reducible intro _)
      all_goals first | omega | exact hI0 _
  · (repeat' first | with_reducible apply And.intro | with_reducible intro _)
    all_goals first | omega | skip
    refine e159 (b159_0 ?_)
    (repeat' first | with_reducible apply And.intro | with_reducible intro _)
    all_goals first | omega | exact hI0 _
end
