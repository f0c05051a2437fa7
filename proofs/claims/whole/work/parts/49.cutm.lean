section
/-! where a burst runs to: the reference -/
def kE (σ s : aW) : Prop := Fg [13, 14, 15, 142, 143, 144] [(1, 15), (96, 0), (96, 83)] σ s
def kG (σ s : aW) : Prop := Fg [7, 9, 13, 14, 15, 142, 143, 144] [(1, 3), (1, 15), (96, 0), (96, 83)] σ s
theorem kE_G {σ s : aW} (h : kE σ s) : kG σ s := Fg_m h (by decide) (by decide)
theorem nd_m {A B : Int → Int} {p e : Int} (he : e = 0 ∨ e = 1) : (if e = 0 then A p else B p) = kNd A B (2 * p + e) ∧ (2 * p + e) / 2 = p := by
  have e1 : (2 * p + e) / 2 = p := by omega
  have e2 : (2 * p + e) % 2 = e := by omega
  unfold kNd
  rw [e1, e2]
  exact ⟨rfl, rfl⟩
theorem c227s {d : Nat} {Q : aQ} {σ v : aW} {f p e x c : Int} (hN : INet σ) (hG : kG σ v) (hp : 0 ≤ p ∧ p < σ 96 6) (he : e = 0 ∨ e = 1) (h3 : kR (σ 101) (σ 102) (σ 106) (σ 96 6) (σ 96 5) f c (2 * p + e) x (v 142) (v 143))
    (k : ∀ x' v', Fr [142, 143] v v' → kR (σ 101) (σ 102) (σ 106) (σ 96 6) (σ 96 5) f c (2 * p + (e + 1)) x' (v' 142) (v' 143) → Yx (d + 1) cd227 0 Q 77 [vr 96, vt, vi x', vi p, vi (e + 1), vt, vt] [] v') : Yx (d + 1) cd227 0 Q 77 [vr 96, vt, vi x, vi p, vi e, vt, vt] [] v := by
  have hn := hN.1
  unfold Nn at hn
  obtain ⟨n1, n2⟩ := nd_m (A := σ 101) (B := σ 102) (p := p) he
  obtain ⟨-, m2, m3⟩ := nd_eq hN (i := 2 * p + e) (by omega) (by omega)
  have v1 : v 101 = σ 101 := Fg_k hG rfl rfl
  have v2 : v 102 = σ 102 := Fg_k hG rfl rfl
  have v6 : v 106 = σ 106 := Fg_k hG rfl rfl
  have ea : 2 * p + (e + 1) = 2 * p + e + 1 := by omega
  rw [ea] at k
  have y1 := (h3.1.1 p (by omega) (by omega)).1
  have y2 := (h3.1.2.1 _ m2 m3).1
  have kA : (v 142 p = 0 ∧ v 143 (kNd (σ 101) (σ 102) (2 * p + e)) = 0 ∨ ¬ v 142 p = 0 ∧ ¬ v 143 (kNd (σ 101) (σ 102) (2 * p + e)) = 0 ∨ ¬ σ 106 (2 * p + e) = 0) → Yx (d + 1) cd227 0 Q 77 [vr 96, vt, vi x, vi p, vi (e + 1), vt, vt] [] v := fun z => k x v Fr_r (kR_skip h3 (fun w => by rw [n2]; omega))
  have kB : v 142 p = 0 → ¬ v 143 (kNd (σ 101) (σ 102) (2 * p + e)) = 0 → σ 106 (2 * p + e) = 0 → Yx (d + 1) cd227 0 Q 77 [vr 96, vt, vi 1, vi p, vi (e + 1), vt, vt] [] (sw v 142 (fu (v 142) p 1)) := fun z1 z2 z3 => by
    refine k 1 _ (Fr_w Fr_r (by decide)) ?_
    have q := kR_set h3 ⟨by omega, by omega⟩ ⟨m2, m3⟩ z3 (Or.inr z2) (Or.inl (by rw [n2]; exact z1))
    rw [n2, fu_id (f := v 143) (by omega)] at q
    rw [sw_s, sw_n (by decide)]
    exact q
  have kD : ¬ v 142 p = 0 → v 143 (kNd (σ 101) (σ 102) (2 * p + e)) = 0 → σ 106 (2 * p + e) = 0 → Yx (d + 1) cd227 0 Q 77 [vr 96, vt, vi 1, vi p, vi (e + 1), vt, vt] [] (sw v 143 (fu (v 143) (kNd (σ 101) (σ 102) (2 * p + e)) 1)) := fun z1 z2 z3 => by
    refine k 1 _ (Fr_w Fr_r (by decide)) ?_
    have q := kR_set h3 ⟨by omega, by omega⟩ ⟨m2, m3⟩ z3 (Or.inl (by rw [n2]; exact z1)) (Or.inr z2)
    rw [n2, fu_id (f := v 142) (by omega)] at q
    rw [sw_s, sw_n (by decide)]
    exact q
  clear k h3
  refine b227_77 ⟨fun z => by omega, fun _ => ?_⟩
  rw [v1, v2, v6, n1]
  generalize kNd (σ 101) (σ 102) (2 * p + e) = n at *
  (repeat' first | with_reducible apply And.intro | with_reducible intro _)
  all_goals first
    | omega
    | exact kA (by omega)
    | exact kB (by omega) (by omega) (by omega)
    | exact kD (by omega) (by omega) (by omega)
theorem c227r {d : Nat} {Q : aQ} {σ w : aW} {f : Int} (hN : INet σ) (hG : kG σ w) (hS : kS (σ 101) (σ 102) (σ 106) (σ 96 6) (σ 96 5) f (w 142) (w 143))
    (k : ∀ x v, Fr [142, 143] w v → kR (σ 101) (σ 102) (σ 106) (σ 96 6) (σ 96 5) f (kC (σ 96 6) (σ 96 5) (w 142) (w 143)) (2 * σ 96 6) x (v 142) (v 143) → Yx (d + 1) cd227 0 Q 58 [vr 96, vt, vi x, vt, vt, vt, vt] [] v) : Yx (d + 1) cd227 0 Q 66 [vr 96, vt, vi 0, vi 0, vt, vt, vt] [] w := by
  have hn := hN.1
  unfold Nn at hn
  refine for_up2 (X := fun p qa qb => Yx (d + 1) cd227 0 Q 66 [vr 96, vt, vi qa, vi p, vt, vt, vt] [] qb) (I := fun p qa qb => 0 ≤ p ∧ p ≤ σ 96 6 ∧ Fr [142, 143] w qb ∧ kR (σ 101) (σ 102) (σ 106) (σ 96 6) (σ 96 5) f (kC (σ 96 6) (σ 96 5) (w 142) (w 143)) (2 * p) qa (qb 142) (qb 143)) (N := σ 96 6) ?_ ?_ 0 (0) (w) ⟨Int.le_refl _, by omega, Fr_r, by rw [Int.mul_zero]; exact kR_0 hS⟩
  · rintro p x s hp ⟨p0, p1, p2, p3⟩ K
    have g1 : kG σ s := Fg_t hG (Fg_F (Fr_s p2 (by decide)))
    have e6 : s 96 6 = σ 96 6 := g1 96 6 (by decide) (by decide)
    refine b227_66 ⟨fun z => by omega, fun _ => ?_⟩
    refine c227s (e := 0) hN g1 ⟨p0, hp⟩ (Or.inl rfl) (by rw [Int.add_zero]; exact p3) (fun x1 s1 f1 r1 => ?_)
    have g2 : kG σ s1 := Fg_t g1 (Fg_F (Fr_s f1 (by decide)))
    refine c227s (e := 0 + 1) hN g2 ⟨p0, hp⟩ (Or.inr rfl) r1 (fun x2 s2 f2 r2 => ?_)
    refine b227_77 ⟨fun _ => ⟨by omega, ?_⟩, fun z => by omega⟩
    refine K (x2) (s2) ⟨by omega, by omega, ?_, ?_⟩
    · exact Fr_t (Fr_t p2 f1 (fun k z => ⟨z, z⟩)) f2 (fun k z => ⟨z, z⟩)
    · rw [show 2 * (p + 1) = 2 * p + (0 + 1 + 1) by omega]
      exact r2
  · rintro p x s hp ⟨p0, p1, p2, p3⟩
    have g1 : kG σ s := Fg_t hG (Fg_F (Fr_s p2 (by decide)))
    have e6 : s 96 6 = σ 96 6 := g1 96 6 (by decide) (by decide)
    have ep : p = σ 96 6 := by omega
    subst ep
    exact b227_66 ⟨fun _ => k x s p2 p3, fun z => by omega⟩
theorem c227v {d : Nat} {Q : aQ} {σ v : aW} {f p e : Int} (hN : INet σ) (hG : kG σ v) (hp : 0 ≤ p ∧ p < σ 96 6) (he : e = 0 ∨ e = 1) (h13 : ∀ p, 0 ≤ p → p < σ 96 6 → (¬ v 142 p = 0 ↔ KP σ f p)) (h14 : ∀ n, 0 ≤ n → n < σ 96 5 → (¬ v 143 n = 0 ↔ KN σ f n)) (hB : Bs (v 96 83) (fun j => (j : Int) < 2 * p + e ∧ KT σ f j))
    (k : ∀ v', Fg [] [(96, 83)] v v' → Bs (v' 96 83) (fun j => (j : Int) < 2 * p + (e + 1) ∧ KT σ f j) → Yx (d + 1) cd227 0 Q 200 [vr 96, vt, vt, vi p, vi (e + 1), vt, vt] [] v') : Yx (d + 1) cd227 0 Q 200 [vr 96, vt, vt, vi p, vi e, vt, vt] [] v := by
  have hn := hN.1
  unfold Nn at hn
  obtain ⟨n1, n2⟩ := nd_m (A := σ 101) (B := σ 102) (p := p) he
  obtain ⟨-, m2, m3⟩ := nd_eq hN (i := 2 * p + e) (by omega) (by omega)
  have v1 : v 101 = σ 101 := Fg_k hG rfl rfl
  have v2 : v 102 = σ 102 := Fg_k hG rfl rfl
  have v6 : v 106 = σ 106 := Fg_k hG rfl rfl
  have y1 := h13 p hp.1 hp.2
  have y2 := h14 _ m2 m3
  have et : (((2 * p + e).toNat : Nat) : Int) = 2 * p + e := by omega
  have hT : KT σ f (2 * p + e).toNat ↔ (¬ σ 106 (2 * p + e) = 0 ∧ (¬ v 142 p = 0 ∨ ¬ v 143 (kNd (σ 101) (σ 102) (2 * p + e)) = 0)) := by
    unfold KT kT
    rw [et, n2, y1, y2]
    exact ⟨fun z => z.2, fun z => ⟨by omega, z⟩⟩
  have kA : ¬ KT σ f (2 * p + e).toNat → Yx (d + 1) cd227 0 Q 200 [vr 96, vt, vt, vi p, vi (e + 1), vt, vt] [] v := fun z => k v Fg_r (Bs_c hB (fun j => by
    constructor
    · exact fun y => ⟨by omega, y.2⟩
    · rintro ⟨w1, w2⟩
      refine ⟨?_, w2⟩
      have : ¬ j = (2 * p + e).toNat := fun q => z (q ▸ w2)
      omega))
  have kB : KT σ f (2 * p + e).toNat → Yx (d + 1) cd227 0 Q 200 [vr 96, vt, vt, vi p, vi (e + 1), vt, vt] [] (sw v 96 (fu (v 96) 83 (or64 (v 96 83) (sh64l 1 (2 * p + e))))) := fun z => by
    refine k _ (Fg_f Fg_r (by decide)) ?_
    rw [sw_s, fu_s]
    refine Bs_a hB (by omega) (by omega) (fun j => ?_)
    constructor
    · rintro ⟨w1, w2⟩
      by_cases q : j = (2 * p + e).toNat
      · exact Or.inr q
      · exact Or.inl ⟨by omega, w2⟩
    · rintro (w | w)
      · exact ⟨by omega, w.2⟩
      · subst w
        exact ⟨by omega, z⟩
  refine b227_200 ⟨fun z => by omega, fun _ => ?_⟩
  rw [v1, v2, v6, n1]
  refine ⟨by omega, by omega, by omega, fun z => ⟨by omega, kA (fun w => (hT.mp w).1 z)⟩, fun z => ⟨by omega, fun z2 => ⟨by omega, by omega, by omega, kB (hT.mpr ⟨z, Or.inl z2⟩)⟩, fun z2 => ⟨by omega, by omega, fun z3 => ⟨by omega, kA (fun w => ?_)⟩, fun z3 => ⟨by omega, by omega, by omega, kB (hT.mpr ⟨z, Or.inr z3⟩)⟩⟩⟩⟩
  rcases (hT.mp w).2 with q | q
  · exact q z2
  · exact q z3
end
