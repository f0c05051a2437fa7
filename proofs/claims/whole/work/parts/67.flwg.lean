section
/-! flows: the component serves the houses -/
theorem wL_fin {ν : aW} {f : Int → Int} {t u : Int} (hN : wN ν) (t0 : 0 ≤ t) (t1 : t < ν 96 5) (hf : wDs ν f t 0 < 1000000) (hu : 0 ≤ u) : ∀ i : Nat, i ≤ wK ν f t → (∀ j, j < i → wRm ν (wL ν f t u i) (wI ν f t j) = wRm ν f (wI ν f t j) - u) ∧ (∀ p, wRm ν (wL ν f t u i) p ≤ wRm ν f p)
  | 0, _ => ⟨fun j hj => by omega, fun p => Int.le_refl _⟩
  | i + 1, h => by
    obtain ⟨a1, a2⟩ := wL_fin hN t0 t1 hf hu i (by omega)
    obtain ⟨b1, b2, b3⟩ := wL_rm hN t0 t1 hf hu (i := i) (by omega)
    refine ⟨fun j hj => ?_, fun p => ?_⟩
    · by_cases e : j = i
      · subst e
        omega
      · rw [b3 _ (wI_ne hN t0 t1 hf (show j < i by omega) (by omega))]
        exact a1 j (by omega)
    · by_cases e : p = wI ν f t i
      · subst e
        omega
      · rw [b3 p e]
        exact a2 p
def wPos (ν : aW) (f : Int → Int) : Int := sI (fun p => bi (0 < wRm ν f p)) (ν 96 6).toNat
theorem wPos_b {ν : aW} {f : Int → Int} (hN : wN ν) : 0 ≤ wPos ν f ∧ wPos ν f ≤ 20 := by
  have := sI_b (f := fun p => bi (0 < wRm ν f p)) (B := 1) (n := (ν 96 6).toNat) (fun i i0 i1 => bi_le)
  have := hN.2.2.1
  have := hN.2.2.2.1
  unfold wPos
  omega
theorem wPos_s {ν : aW} {t w : Int} {s : wSt} (hN : wN ν) (t0 : 0 ≤ t) (t1 : t < ν 96 5) (h : ¬ wStop ν t w s) : w ≤ (wSp ν t w s).2.1 ∨ wPos ν (wSp ν t w s).1 + 1 ≤ wPos ν s.1 := by
  have b := wUn_b hN t0 t1 h
  have r := wUn_r hN t0 t1 h
  obtain ⟨a1, a2⟩ := wL_fin (u := wUn ν t w s) hN t0 t1 b.1 (by omega) (wK ν s.1 t) (Nat.le_refl _)
  rcases r.2 with z | ⟨j, j1, j2⟩
  · left
    show w ≤ s.2.1 + wUn ν t w s
    omega
  · right
    have ok := (wI_ok hN t0 t1 b.1 j1).1
    have z := a1 j j1
    have := (sI_lt (f := fun p => bi (0 < wRm ν (wL ν s.1 t (wUn ν t w s) (wK ν s.1 t)) p)) (g := fun p => bi (0 < wRm ν s.1 p)) (n := (ν 96 6).toNat) (fun p p0 p1 => by
      have := a2 p
      unfold bi
      split <;> split <;> omega)).2 ⟨wI ν s.1 t j, ok.1, by have := ok.2.1; omega, by
      show bi (0 < wRm ν (wL ν s.1 t (wUn ν t w s) (wK ν s.1 t)) (wI ν s.1 t j)) < bi (0 < wRm ν s.1 (wI ν s.1 t j))
      unfold bi
      rw [if_neg (by omega), if_pos ok.2.2.1.1.1]
      decide⟩
    show sI (fun p => bi (0 < wRm ν (wL ν s.1 t (wUn ν t w s) (wK ν s.1 t)) p)) (ν 96 6).toNat + 1 ≤ sI (fun p => bi (0 < wRm ν s.1 p)) (ν 96 6).toNat
    omega
theorem c5 {d : Nat} {Q : aQ} {σ s0 : aW} {h t w : Int} {S0 : wSt} (hN : INet σ) (hG : wG σ s0) (h0 : 0 ≤ h ∧ h < 16) (ht : s0 10 h = t) (t0 : 1 ≤ t) (t1 : t < σ 96 5) (hR : wR σ s0 h S0) (hO : wOk (fN σ) S0) (hw : s0 18 h = w) (w1 : w ≤ 10000)
    (k : ∀ s, wGh h s0 s → wR σ s h (wRs (fN σ) t w S0) → Q none s) : aEv (d + 2) true 5 [vr 16, vi h] s0 Q := by
  have hn := hN.1
  unfold Nn at hn
  have hW := wN_of hN
  have n5 : fN σ 96 5 = σ 96 5 := fN_5
  have n6 : fN σ 96 6 = σ 96 6 := fN_6
  refine e5 (b5_0 ⟨fun _ => ?_, fun z => by omega⟩)
  refine for_up2 (X := fun j (_ : wSt) s => Yx (d + 2) cd5 0 Q 8 [vr 16, vi h, vi j, vt] [] s) (I := fun j S s => 0 ≤ j ∧ wGh h s0 s ∧ wR σ s h S ∧ wOk (fN σ) S ∧ wRs (fN σ) t w S = wRs (fN σ) t w S0 ∧ (w ≤ S.2.1 ∨ wPos (fN σ) S.1 + j ≤ 20)) (N := 21) ?_ ?_ 0 S0 s0 ⟨Int.le_refl _, wGh_r, hR, hO, rfl, Or.inr (by have := wPos_b (f := S0.1) hW; omega)⟩
  · rintro j S s hj ⟨j0, j1, j2, j3, j4, j5⟩ K
    have g1 : wG σ s := Fg_t hG (Fg_m j1.1 (by decide) (by decide))
    have s18 : s 18 h = w := by rw [j1.1 18 h (by decide) (by simp)]; exact hw
    have s10 : s 10 h = t := by rw [j1.1 10 h (by decide) (by simp)]; exact ht
    have s19 := j2.2
    refine b5_8 ⟨fun z => by omega, fun _ => ?_⟩
    rw [s18, s19, s10]
    refine ⟨by omega, by omega, fun z => ?_, fun z => ⟨by omega, ?_⟩⟩
    · have e := wRs_stop (ν := fN σ) (t := t) (Or.inl z)
      rw [e] at j4
      exact k s j1 (by rw [← j4]; exact j2)
    · refine c6 hN g1 (show 0 ≤ t by omega) t1 (fun p p0 p1 => ⟨(j2.1 p p0 p1).1, (j2.1 p p0 p1).2.1⟩) (fun s1 f1 v1 => ⟨rfl, b5_42 ⟨by omega, ?_⟩⟩)
      have g2 : wG σ s1 := Fg_t g1 (Fg_F (Fr_s f1 (by decide)))
      have e10 : s1 10 h = t := by rw [f1 10 (by decide)]; exact s10
      have r1 : wR σ s1 h S := by
        unfold wR
        rw [f1 17 (by decide), f1 19 (by decide), f1 20 (by decide), f1 21 (by decide)]
        exact j2
      rw [e10]
      refine c8 hN g2 (fun p p0 p1 => ⟨(r1.1 p p0 p1).1, (r1.1 p p0 p1).2.1⟩) v1 t0 t1 (fun hx s2 f2 v2 kk => ⟨_, rfl, b5_55_1 ⟨fun _ => ?_, fun z => by omega⟩⟩) (fun hx => ⟨_, rfl, b5_55_1 ⟨fun z => absurd rfl z, fun _ => ?_⟩⟩)
      · have hs : ¬ wStop (fN σ) t w S := fun y => by
          rcases y with y | y
          · exact z y
          · exact y hx
        have g3 : wG σ s2 := Fg_t g2 (Fg_F (Fr_s f2 (by decide)))
        have r2 : wR σ s2 h S := by
          unfold wR
          rw [f2 17 (by decide), f2 19 (by decide), f2 20 (by decide), f2 21 (by decide)]
          exact r1
        refine c10 hN g3 h0 (show 0 ≤ t by omega) t1 r2 j3 (by rw [f2 18 (by decide), f1 18 (by decide)]; exact s18) w1 hs v2 (fun s3 f3 r3 => ⟨rfl, b5_67 ⟨by omega, ?_⟩⟩)
        refine K (wSp (fN σ) t w S) s3 ⟨by omega, wGh_t (wGh_t (wGh_t j1 (wGh_F (Fr_s f1 (by decide)))) (wGh_F (Fr_s f2 (by decide)))) f3, r3, wOk_s hW (by omega) (by omega) hs j3, ?_, ?_⟩
        · rw [← j4]
          exact (wRs_go hW (by omega) (by omega) hs).symm
        · rcases wPos_s hW (show 0 ≤ t by omega) (by omega) hs with y | y
          · exact Or.inl y
          · rcases j5 with x | x
            · exact absurd x z
            · exact Or.inr (by omega)
      · have e := wRs_stop (ν := fN σ) (t := t) (w := w) (s := S) (Or.inr hx)
        rw [e] at j4
        exact k s1 (wGh_t j1 (wGh_F (Fr_s f1 (by decide)))) (by rw [← j4]; exact r1)
  · rintro j S s hj ⟨j0, j1, j2, j3, j4, j5⟩
    refine b5_8 ⟨fun _ => ?_, fun z => by omega⟩
    rcases j5 with x | x
    · have e := wRs_stop (ν := fN σ) (t := t) (Or.inl x)
      rw [e] at j4
      exact k s j1 (by rw [← j4]; exact j2)
    · have := wPos_b (f := S.1) hW
      omega
/-- b comes ahead of c -/
def wBf (q : Int → Int) (b c : Int) : Prop := q c < q b ∨ (q b = q c ∧ b < c)
theorem c4 {d : Nat} {Q : aQ} {s : aW} {n : Int} {q : Int → Int} (hn : s 1 2 = n) (n0 : 0 ≤ n) (n1 : n ≤ 16) (hq : ∀ h, 0 ≤ h → h < n → s 12 h = q h) (hx : ∃ h, 0 ≤ h ∧ h < n ∧ s 22 h = 0)
    (k : ∀ h, 0 ≤ h → h < n → s 22 h = 0 → (∀ c, 0 ≤ c → c < n → s 22 c = 0 → c ≠ h → wBf q h c) → Q (some (vi h)) (sw s 22 (fu (s 22) h 1))) : aEv (d + 0) true 4 [vr 16] s Q := by
  refine e4 (b4_0 ?_)
  refine for_up (X := fun i b => Yx (d + 0) cd4 1 Q 4 [vr 16, vi b, vi i] [] s) (I := fun i b => 0 ≤ i ∧ i ≤ n ∧ ((b = -1 ∧ ∀ c, 0 ≤ c → c < i → ¬ s 22 c = 0) ∨ (0 ≤ b ∧ b < i ∧ s 22 b = 0 ∧ ∀ c, 0 ≤ c → c < i → s 22 c = 0 → c ≠ b → wBf q b c))) (N := n) ?_ ?_ 0 (-1) ⟨Int.le_refl _, n0, Or.inl ⟨rfl, fun c c0 c1 => by omega⟩⟩
  · rintro i b hi ⟨i0, i1, i2⟩ K
    have q1 := hq i i0 hi
    have keep : ¬ s 22 i = 0 → Yx (d + 0) cd4 1 Q 4 [vr 16, vi b, vi (i + 1)] [] s := fun z => K b ⟨by omega, by omega, by
      rcases i2 with ⟨a, c⟩ | ⟨a1, a2, a3, a4⟩
      · refine Or.inl ⟨a, fun x x0 x1 => ?_⟩
        by_cases e : x = i
        · rw [e]; exact z
        · exact c x x0 (by omega)
      · refine Or.inr ⟨a1, by omega, a3, fun x x0 x1 hx hne => ?_⟩
        by_cases e : x = i
        · rw [e] at hx
          exact absurd hx z
        · exact a4 x x0 (by omega) hx hne⟩
    refine b4_4 ⟨fun z => by omega, fun _ => ⟨by omega, fun z => ⟨by omega, keep z⟩, fun z => ⟨fun z2 => ⟨by omega, K i ⟨by omega, by omega, Or.inr ⟨i0, by omega, z, fun x x0 x1 hx hne => ?_⟩⟩⟩, fun z2 => ?_⟩⟩⟩
    · rcases i2 with ⟨a, c⟩ | ⟨a1, a2, a3, a4⟩
      · exact absurd hx (c x x0 (by omega))
      · omega
    · rcases i2 with ⟨a, c⟩ | ⟨a1, a2, a3, a4⟩
      · exact absurd a z2
      have q2 := hq b a1 (by omega)
      rw [q1, q2]
      refine ⟨by omega, by omega, fun z3 => ⟨by omega, K b ⟨by omega, by omega, Or.inr ⟨a1, by omega, a3, fun x x0 x1 hx hne => ?_⟩⟩⟩, fun z3 => ⟨by omega, K i ⟨by omega, by omega, Or.inr ⟨i0, by omega, z, fun x x0 x1 hx hne => ?_⟩⟩⟩⟩
      · by_cases e : x = i
        · rw [e]
          unfold wBf
          omega
        · exact a4 x x0 (by omega) hx hne
      · by_cases e : x = b
        · rw [e]
          unfold wBf
          omega
        · have := a4 x x0 (by omega) hx e
          unfold wBf at *
          omega
  · rintro i b hi ⟨i0, i1, i2⟩
    have ei : i = n := by omega
    subst ei
    refine b4_4 ⟨fun _ => ⟨fun z => ?_, fun z => ?_⟩, fun z => by omega⟩
    · rcases i2 with ⟨a, c⟩ | ⟨a1, a2, a3, a4⟩
      · obtain ⟨h, y0, y1, y2⟩ := hx
        exact absurd y2 (c h y0 y1)
      · omega
    · rcases i2 with ⟨a, c⟩ | ⟨a1, a2, a3, a4⟩
      · exact absurd a z
      · exact ⟨by omega, k b a1 a2 a3 a4⟩
end
