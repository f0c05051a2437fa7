section
/-! meters -/
def Lt (σ : aW) (e h n u : Int) : Prop := 0 ≤ u ∧ u < n ∧ σ 90 u = e ∧ σ 91 u = h ∧ ∀ j, u < j → j < n → ¬ (σ 90 j = e ∧ σ 91 j = h)
def Ln (σ : aW) (e h n : Int) : Prop := ∀ j, 0 ≤ j → j < n → ¬ (σ 90 j = e ∧ σ 91 j = h)
theorem Lt_u {σ : aW} {e h n u v : Int} (h1 : Lt σ e h n u) (h2 : Lt σ e h n v) : u = v := by
  obtain ⟨a1, a2, a3, a4, a5⟩ := h1
  obtain ⟨b1, b2, b3, b4, b5⟩ := h2
  rcases Int.lt_trichotomy u v with z | z | z
  · exact absurd ⟨b3, b4⟩ (a5 v z b2)
  · exact z
  · exact absurd ⟨a3, a4⟩ (b5 u z a2)
theorem c29 {d : Nat} {Q : aQ} {σ : aW} {a1 a2 a3 : Int} (h1 : 0 ≤ a3) (h2 : a3 ≤ 200) (k0 : Ln σ a1 a2 a3 → Q (some (vi (-1))) σ) (k1 : ∀ u, Lt σ a1 a2 a3 u → Q (some (vi u)) σ) : aEv (d + 0) true 29 [vr 89, vi a1, vi a2, vi a3] σ Q := by
  refine e29 (b29_0 ⟨by omega, ?_⟩)
  refine for_dn (X := fun i (_ : Unit) => Yx (d + 0) cd29 1 Q 5 [vr 89, vi a1, vi a2, vt, vi i] [] σ) (I := fun i _ => i < a3 ∧ ∀ j, i < j → j < a3 → ¬ (σ 90 j = a1 ∧ σ 91 j = a2)) (N := 0) ?_ ?_ (a3 - 1) () ⟨by omega, fun j z w => by omega⟩
  · rintro i _ hi ⟨g1, g2⟩ K
    have K' : ¬ (σ 90 i = a1 ∧ σ 91 i = a2) → Yx (d + 0) cd29 1 Q 5 [vr 89, vi a1, vi a2, vt, vi (i + (-1))] [] σ := fun z => K () ⟨by omega, fun j j0 j1 => by
      by_cases e : j = i
      · rw [e]; exact z
      · exact g2 j (by omega) j1⟩
    exact b29_5 ⟨fun z => by omega, fun _ => ⟨by omega, fun c => ⟨by omega, K' (fun z => c z.1)⟩, fun c => ⟨by omega, fun c2 => ⟨by omega, K' (fun z => c2 z.2)⟩, fun c2 => k1 i ⟨hi, g1, c, c2, g2⟩⟩⟩⟩
  · rintro i _ hi ⟨g1, g2⟩
    exact b29_5 ⟨fun _ => k0 (fun j j0 j1 => g2 j (by omega) j1), fun z => absurd hi z⟩
theorem c235 {d : Nat} {Q : aQ} {σ : aW} {a1 a2 a3 a4 : Int} (hM : IMt σ) (h0 : 0 ≤ a2 ∧ a2 ≤ 1) (h1 : 0 ≤ a4) (h2 : a4 ≤ σ 96 9) (k0 : Ln σ (2 * a1 + a2) a3 a4 → Q (some (vi (-1))) σ) (k1 : ∀ u, Lt σ (2 * a1 + a2) a3 a4 u → Q (some (vi (σ 92 u))) σ) : aEv (d + 0) true 235 [vr 96, vi a1, vi a2, vi a3, vi a4] σ Q := by
  obtain ⟨m1, m2, m3, m4⟩ := hM
  refine e235 (b235_0 ?_)
  refine for_up (X := fun i v => Yx (d + 0) cd235 1 Q 6 [vr 96, vi a1, vi a2, vi a3, vi a4, vi v, vi i] [] σ) (I := fun i v => 0 ≤ i ∧ i ≤ a4 ∧ ((v = -1 ∧ Ln σ (2 * a1 + a2) a3 i) ∨ ∃ u, Lt σ (2 * a1 + a2) a3 i u ∧ v = σ 92 u)) (N := a4) ?_ ?_ 0 (-1) ⟨Int.le_refl _, by omega, Or.inl ⟨rfl, fun j z w => by omega⟩⟩
  · rintro i v hi ⟨i0, i1, g⟩ K
    have hm := m4 i i0 (by omega)
    have K' : ¬ (σ 90 i = 2 * a1 + a2 ∧ σ 91 i = a3) → Yx (d + 0) cd235 1 Q 6 [vr 96, vi a1, vi a2, vi a3, vi a4, vi v, vi (i + 1)] [] σ := fun z => K v ⟨by omega, by omega, by
      rcases g with ⟨g1, g2⟩ | ⟨u, ⟨b1, b2, b3, b4, b5⟩, g2⟩
      · refine Or.inl ⟨g1, fun j j0 j1 => ?_⟩
        by_cases e : j = i
        · rw [e]; exact z
        · exact g2 j j0 (by omega)
      · refine Or.inr ⟨u, ⟨b1, by omega, b3, b4, fun j j0 j1 => ?_⟩, g2⟩
        by_cases e : j = i
        · rw [e]; exact z
        · exact b5 j j0 (by omega)⟩
    refine b235_6 ⟨fun z => by omega, fun _ => ⟨by omega, fun c => ⟨by omega, K' (by omega)⟩, fun c => ⟨by omega, fun c2 => ⟨by omega, K' (by omega)⟩, fun c2 => ⟨by omega, fun c3 => ⟨by omega, K' (by omega)⟩, fun c3 => ⟨by omega, by omega, ?_⟩⟩⟩⟩⟩
    refine K _ ⟨by omega, by omega, Or.inr ⟨i, ⟨i0, by omega, by omega, by omega, fun j j0 j1 => by omega⟩, hm.2.2.1.symm⟩⟩
  · rintro i v hi ⟨i0, i1, g⟩
    have e : i = a4 := by omega
    subst e
    rcases g with ⟨rfl, g2⟩ | ⟨u, g1, rfl⟩
    · exact b235_6 ⟨fun _ => k0 g2, fun z => absurd hi z⟩
    · exact b235_6 ⟨fun _ => k1 u g1, fun z => absurd hi z⟩
def Sn (D : Int → Prop) (w lo hi any : Int) : Prop := (∀ x, lo ≤ x ↔ 0 ≤ x ∧ ∀ d, D d → d - w ≤ x) ∧ (∀ x, x ≤ hi ↔ x ≤ 1000 ∧ ∀ d, D d → x ≤ d + w) ∧ ((any = 0 ∧ ∀ d, ¬ D d) ∨ (any = 1 ∧ ∃ d, D d))
theorem Sn_0 {D : Int → Prop} {w : Int} (h : ∀ d, ¬ D d) : Sn D w 0 1000 0 := ⟨fun x => ⟨fun z => ⟨z, fun d q => absurd q (h d)⟩, fun z => z.1⟩, fun x => ⟨fun z => ⟨z, fun d q => absurd q (h d)⟩, fun z => z.1⟩, Or.inl ⟨rfl, h⟩⟩
theorem Sn_c {D E : Int → Prop} {w lo hi any : Int} (hs : Sn D w lo hi any) (h : ∀ d, D d ↔ E d) : Sn E w lo hi any := by
  have e : D = E := funext (fun d => propext (h d))
  rw [← e]
  exact hs
theorem Sn_a {D E : Int → Prop} {w lo hi any d0 : Int} (hs : Sn D w lo hi any) (h : ∀ d, E d ↔ (D d ∨ d = d0)) : Sn E w (max lo (d0 - w)) (min hi (d0 + w)) 1 := by
  obtain ⟨h1, h2, _⟩ := hs
  refine ⟨fun x => ?_, fun x => ?_, Or.inr ⟨rfl, d0, (h d0).mpr (Or.inr rfl)⟩⟩
  · rw [Int.max_le, h1 x]
    constructor
    · rintro ⟨⟨a, b⟩, c⟩
      refine ⟨a, fun d q => ?_⟩
      rcases (h d).mp q with z | z
      · exact b d z
      · rw [z]; exact c
    · rintro ⟨a, b⟩
      exact ⟨⟨a, fun d q => b d ((h d).mpr (Or.inl q))⟩, b d0 ((h d0).mpr (Or.inr rfl))⟩
  · rw [Int.le_min, h2 x]
    constructor
    · rintro ⟨⟨a, b⟩, c⟩
      refine ⟨a, fun d q => ?_⟩
      rcases (h d).mp q with z | z
      · exact b d z
      · rw [z]; exact c
    · rintro ⟨a, b⟩
      exact ⟨⟨a, fun d q => b d ((h d).mpr (Or.inl q))⟩, b d0 ((h d0).mpr (Or.inr rfl))⟩
theorem Sn_u {D : Int → Prop} {w lo hi any lo' hi' any' : Int} (h : Sn D w lo hi any) (h' : Sn D w lo' hi' any') : lo = lo' ∧ hi = hi' ∧ any = any' := by
  obtain ⟨a1, a2, a3⟩ := h
  obtain ⟨b1, b2, b3⟩ := h'
  have e1 := (b1 lo).mpr ((a1 lo).mp (Int.le_refl _))
  have e2 := (a1 lo').mpr ((b1 lo').mp (Int.le_refl _))
  have e3 := (b2 hi).mpr ((a2 hi).mp (Int.le_refl _))
  have e4 := (a2 hi').mpr ((b2 hi').mp (Int.le_refl _))
  refine ⟨by omega, by omega, ?_⟩
  rcases a3 with ⟨z, q⟩ | ⟨z, d, q⟩ <;> rcases b3 with ⟨z', q'⟩ | ⟨z', d', q'⟩
  · omega
  · exact absurd q' (q d')
  · exact absurd q (q' d)
  · omega
def Df (σ : aW) (p n : Int) (R : Int → Int → Prop) (d : Int) : Prop := ∃ u v h, R u h ∧ Lt σ (2 * p) h n u ∧ Lt σ (2 * p + 1) h n v ∧ d = ((σ 92 u - σ 92 v).natAbs : Int)
theorem c28 {d : Nat} {Q : aQ} {σ : aW} {a1 a2 a3 : Int} (hM : IMt σ) (h1 : 0 ≤ a1 ∧ a1 < 20) (h2 : 0 ≤ a2) (h3 : a2 ≤ σ 96 9) (h4 : 0 ≤ a3 ∧ a3 ≤ 50) (k : ∀ s any, Fg [] [(89, 1), (89, 2)] σ s → Sn (Df σ a1 a2 (fun u _ => u < a2)) (2 * a3) (s 89 1) (s 89 2) any → Q (some (vi any)) s) : aEv (d + 2) true 28 [vr 89, vi a1, vi a2, vi a3] σ Q := by
  obtain ⟨m1, m2, m3, m4⟩ := hM
  refine e28 (b28_0 ?_)
  refine for_up (α := aW × Int) (X := fun i s => Yx (d + 2) cd28 3 Q 18 [vr 89, vi a1, vi a2, vi a3, vi s.2, vi i, vt] [] s.1) (I := fun i s => 0 ≤ i ∧ i ≤ a2 ∧ Fg [] [(89, 1), (89, 2)] σ s.1 ∧ Sn (Df σ a1 a2 (fun u _ => u < i)) (2 * a3) (s.1 89 1) (s.1 89 2) s.2) (N := a2) ?_ ?_ 0 (_, 0) ⟨Int.le_refl _, h2, Fg_f (Fg_f Fg_r (by decide)) (by decide), ?_⟩
  · rintro i ⟨s, any⟩ hi ⟨i0, i1, g1, g2⟩ K
    dsimp only at g1 g2
    show Yx (d + 2) cd28 3 Q 18 [vr 89, vi a1, vi a2, vi a3, vi any, vi i, vt] [] s
    have e90 : s 90 = σ 90 := funext (fun j => g1 90 j (by decide) (by simp))
    have e91 : s 91 = σ 91 := funext (fun j => g1 91 j (by decide) (by simp))
    have e92 : s 92 = σ 92 := funext (fun j => g1 92 j (by decide) (by simp))
    have eL : ∀ e h n u, Lt s e h n u ↔ Lt σ e h n u := fun e h n u => by unfold Lt; rw [e90, e91]
    have eN : ∀ e h n, Ln s e h n ↔ Ln σ e h n := fun e h n => by unfold Ln; rw [e90, e91]
    have hm := m4 i i0 (by omega)
    have same : (∀ h v, ¬ (Lt σ (2 * a1) h a2 i ∧ Lt σ (2 * a1 + 1) h a2 v)) → Yx (d + 2) cd28 3 Q 18 [vr 89, vi a1, vi a2, vi a3, vi any, vi (i + 1), vt] [] s := fun z => K (s, any) ⟨by omega, by omega, g1, Sn_c g2 (fun x => ⟨fun ⟨u, v, h, q1, q2, q3, q4⟩ => ⟨u, v, h, Int.lt_trans q1 (by omega), q2, q3, q4⟩, fun ⟨u, v, h, q1, q2, q3, q4⟩ => ⟨u, v, h, by
      by_cases e : u = i
      · rw [e] at q2
        exact absurd ⟨q2, q3⟩ (z h v)
      · omega, q2, q3, q4⟩⟩)⟩
    refine b28_18 ⟨fun z => by omega, fun _ => ⟨by omega, by omega, fun c => ⟨by omega, same ?_⟩, fun c => ⟨by omega, by omega, ?_⟩⟩⟩
    · rintro h v ⟨q, _⟩
      rw [e90] at c
      exact c q.2.2.1
    · rw [e91]
      rw [e90] at c
      refine c29 (d := d + 1) h2 (by omega) (fun z => ?_) (fun u hu => ⟨_, rfl, b28_52_1 ⟨fun z => ⟨by omega, same ?_⟩, fun z => ⟨by omega, by omega, by omega, ?_⟩⟩⟩)
      · exact absurd ⟨by rw [e90]; exact c, by rw [e91]⟩ (z i i0 hi)
      · rintro h v ⟨q, _⟩
        have eh : h = σ 91 i := q.2.2.2.1.symm
        rw [eh] at q
        exact z (Lt_u ((eL _ _ _ _).mp hu) q)
      · subst z
        have hu' := (eL _ _ _ _).mp hu
        rw [e91]
        refine c29 (d := d + 1) h2 (by omega) (fun z => ⟨_, rfl, b28_74_1 ⟨fun _ => ⟨by omega, same ?_⟩, fun w => absurd rfl w⟩⟩) (fun v hv => ⟨_, rfl, b28_74_1 ⟨fun w => ?_, fun _ => ?_⟩⟩)
        · rintro h v ⟨q, q2⟩
          have eh : h = σ 91 u := q.2.2.2.1.symm
          rw [eh] at q2
          exact (eN _ _ _).mp z v q2.1 q2.2.1 ⟨q2.2.2.1, q2.2.2.2.1⟩
        · have := hv.1
          omega
        · have hv' := (eL _ _ _ _).mp hv
          have hmv := m4 v hv'.1 (by have := hv'.2.1; omega)
          have v0 := hv'.1
          have v1 := hv'.2.1
          rw [e92]
          refine ⟨by omega, by omega, by omega, by omega, by omega, ?_⟩
          refine e30 (b30_0 ⟨by omega, by omega, rfl, b28_110 ⟨by omega, K (_, 1) ⟨by omega, by omega, Fg_f (Fg_f g1 (by decide)) (by decide), ?_⟩⟩⟩)
          show Sn (Df σ a1 a2 (fun u' _ => u' < u + 1)) (2 * a3) (max (s 89 1) (((σ 92 u - σ 92 v).natAbs : Int) - 2 * a3)) (min (s 89 2) (((σ 92 u - σ 92 v).natAbs : Int) + 2 * a3)) 1
          refine Sn_a g2 (fun x => ⟨?_, ?_⟩)
          · rintro ⟨u', v', h, q1, q2, q3, q4⟩
            by_cases e : u' = u
            · right
              have eh : h = σ 91 u := by rw [← e]; exact q2.2.2.2.1.symm
              rw [eh] at q3
              rw [q4, e, Lt_u q3 hv']
            · left
              exact ⟨u', v', h, by omega, q2, q3, q4⟩
          · rintro (⟨u', v', h, q1, q2, q3, q4⟩ | q)
            · exact ⟨u', v', h, by omega, q2, q3, q4⟩
            · exact ⟨u, v, σ 91 u, by omega, hu', hv', q⟩
  · rintro i ⟨s, any⟩ hi ⟨i0, i1, g1, g2⟩
    have e : i = a2 := by omega
    subst e
    refine b28_18 ⟨fun _ => ⟨?_, k s any g1 g2⟩, fun z => absurd hi z⟩
    rcases g2.2.2 with z | z
    · exact Or.inl z.1
    · exact Or.inr z.1
  · show Sn (Df σ a1 a2 (fun u _ => u < 0)) (2 * a3) 0 1000 0
    refine Sn_0 ?_
    rintro x ⟨u, v, h, q1, q2, q3, q4⟩
    have := q2.1
    omega
end
