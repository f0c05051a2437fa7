section
/-! meters -/
def Lt (σ : aW) (e h n u : Int) : Prop := 0 ≤ u ∧ u < n ∧ σ 90 u = e ∧ σ 91 u = h ∧ ∀ j, u < j → j < n → ¬ (σ 90 j = e ∧ σ 91 j = h)
def Ln (σ : aW) (e h n : Int) : Prop := ∀ j, 0 ≤ j → j < n → ¬ (σ 90 j = e ∧ σ 91 j = h)
theorem Lt_u {σ : aW} {e h n u v : Int} (h1 : Lt σ e h n u) (h2 : Lt σ e h n v) : u = v := by
  obtain ⟨a1, a2, a3, a4, a5⟩ := h1
  obtain ⟨b1, b2, b3, b4, b5⟩ := h2
  rcases Int.lt_trichotomy u v with z | z | z
  · exact absurd ⟨b3, b4⟩ (a5 v z b2)
  · exact z
  · exact absurd ⟨a3, a4⟩ (b5 u z a2)
theorem c29 {d : Nat} {Q : aQ} {σ : aW} {a1 a2 a3 : Int} (h1 : 0 ≤ a3) (h2 : a3 ≤ 200) (k0 : Ln σ a1 a2 a3 → Q (some (vi (-1))) σ) (k1 : ∀ u, Lt σ a1 a2 a3 u → Q (some (vi u)) σ) : aEv (d + 0) true 29 [vr 89, vi a1, vi a2, vi a3] σ Q := by
  refine e29 (b29_0 ⟨by omega, ?_⟩)
  refine for_dn (X := fun i (_ : Unit) => Yx (d + 0) cd29 1 Q 5 [vr 89, vi a1, vi a2, vt, vi i] [] σ) (I := fun i _ => i < a3 ∧ ∀ j, i < j → j < a3 → ¬ (σ 90 j = a1 ∧ σ 91 j = a2)) (N := 0) ?_ ?_ (a3 - 1) () ⟨by omega, fun j z w => by omega⟩
  · rintro i _ hi ⟨g1, g2⟩ K
    have K' : ¬ (σ 90 i = a1 ∧ σ 91 i = a2) → Yx (d + 0) cd29 1 Q 5 [vr 89, vi a1, vi a2, vt, vi (i + (-1))] [] σ := fun z => K () ⟨by omega, fun j j0 j1 => by
      by_cases e : j = i
      · rw [e]; exact z
      · exact g2 j (by omega) j1⟩
    exact b29_5 ⟨fun z => by omega, fun _ => ⟨by omega, fun c => ⟨by omega, K' (fun z => c z.1)⟩, fun c => ⟨by omega, fun c2 => ⟨by omega, K' (fun z => c2 z.2)⟩, fun c2 => k1 i ⟨hi, g1, c, c2, g2⟩⟩⟩⟩
  · rintro i _ hi ⟨g1, g2⟩
    exact b29_5 ⟨fun _ => k0 (fun j j0 j1 => g2 j (by omega) j1), fun z => absurd hi z⟩
theorem c235 {d : Nat} {Q : aQ} {σ : aW} {a1 a2 a3 a4 : Int} (hM : IMt σ) (h0 : 0 ≤ a2 ∧ a2 ≤ 1) (h1 : 0 ≤ a4) (h2 : a4 ≤ σ 96 9) (k0 : Ln σ (2 * a1 + a2) a3 a4 → Q (some (vi (-1))) σ) (k1 : ∀ u, Lt σ (2 * a1 + a2) a3 a4 u → Q (some (vi (σ 92 u))) σ) : aEv (d + 0) true 235 [vr 96, vi a1, vi a2, vi a3, vi a4] σ Q := by
  obtain ⟨m1, m2, m3, m4⟩ := hM
  refine e235 (b235_0 ?_)
  refine for_up (X := fun i v => Yx (d + 0) cd235 1 Q 6 [vr 96, vi a1, vi a2, vi a3, vi a4, vi v, vi i] [] σ) (I := fun i v => 0 ≤ i ∧ i ≤ a4 ∧ ((v = -1 ∧ Ln σ (2 * a1 + a2) a3 i) ∨ ∃ u, Lt σ (2 * a1 + a2) a3 i u ∧ v = σ 92 u)) (N := a4) ?_ ?_ 0 (-1) ⟨Int.le_refl _, by omega, Or.inl ⟨rfl, fun j z w => by omega⟩⟩
  · rintro i v hi ⟨i0, i1, g⟩ K
    have hm := m4 i i0 (by omega)
    have K' : ¬ (σ 90 i = 2 * a1 + a2 ∧ σ 91 i = a3) → Yx (d + 0) cd235 1 Q 6 [vr 96, vi a1, vi a2, vi a3, vi a4, vi v, vi (i + 1)] [] σ := fun z => K v ⟨by omega, by omega, by
      rcases g with ⟨g1, g2⟩ | ⟨u, ⟨b1, b2, b3, b4, b5⟩, g2⟩
      · refine Or.inl ⟨g1, fun j j0 j1 => ?_⟩
        by_cases e : j = i
        · rw [e]; exact z
        · exact g2 j j0 (by omega)
      · refine Or.inr ⟨u, ⟨b1, by omega, b3, b4, fun j j0 j1 => ?_⟩, g2⟩
        by_cases e : j = i
        · rw [e]; exact z
        · exact b5 j j0 (by omega)⟩
    refine b235_6 ⟨fun z => by omega, fun _ => ⟨by omega, fun c => ⟨by omega, K' (by omega)⟩, fun c => ⟨by omega, fun c2 => ⟨by omega, K' (by omega)⟩, fun c2 => ⟨by omega, fun c3 => ⟨by omega, K' (by omega)⟩, fun c3 => ⟨by omega, by omega, ?_⟩⟩⟩⟩⟩
    refine K _ ⟨by omega, by omega, Or.inr ⟨i, ⟨i0, by omega, by omega, by omega, fun j j0 j1 => by omega⟩, hm.2.2.1.symm⟩⟩
  · rintro i v hi ⟨i0, i1, g⟩
    have e : i = a4 := by omega
    subst e
    rcases g with ⟨rfl, g2⟩ | ⟨u, g1, rfl⟩
    · exact b235_6 ⟨fun _ => k0 g2, fun z => absurd hi z⟩
    · exact b235_6 ⟨fun _ => k1 u g1, fun z => absurd hi z⟩
def Sn (D : Int → Prop) (w lo hi any : Int) : Prop := (∀ x, lo ≤ x ↔ 0 ≤ x ∧ ∀ d, D d → d - w ≤ x) ∧ (∀ x, x ≤ hi ↔ x ≤ 1000 ∧ ∀ d, D d → x ≤ d + w) ∧ ((any = 0 ∧ ∀ d, ¬ D d) ∨ (any = 1 ∧ ∃ d, D d))
theorem Sn_0 {D : Int → Prop} {w : Int} (h : ∀ d, ¬ D d) : Sn D w 0 1000 0 := ⟨fun x => ⟨fun z => ⟨z, fun d q => absurd q (h d)⟩, fun z => z.1⟩, fun x => ⟨fun z => ⟨z, fun d q => absurd q (h d)⟩, fun z => z.1⟩, Or.inl ⟨rfl, h⟩⟩
theorem Sn_c {D E : Int → Prop} {w lo hi any : Int} (hs : Sn D w lo hi any) (h : ∀ d, D d ↔ E d) : Sn E w lo hi any := by
  have e : D = E := funext (fun d => propext (h d))
  rw [← e]
  exact hs
theorem Sn_a {D E : Int → Prop} {w lo hi any d0 : Int} (hs : Sn D w lo hi any) (h : ∀ d, E d ↔ (D d ∨ d = d0)) : Sn E w (max lo (d0 - w)) (min hi (d0 + w)) 1 := by
  obtain ⟨h1, h2, _⟩ := hs
  refine ⟨fun x => ?_, fun x => ?_, Or.inr ⟨rfl, d0, (h d0).mpr (Or.inr rfl)⟩⟩
  · rw [Int.max_le, h1 x]
    constructor
    · rintro ⟨⟨a, b⟩, c⟩
      refine ⟨a, fun d q => ?_⟩
      rcases (h d).mp q with z | z
      · exact b d z
      · rw [z]; exact c
    · rintro ⟨a, b⟩
      exact ⟨⟨a, fun d q => b d ((h d).mpr (Or.inl q))⟩, b d0 ((h d0).mpr (Or.inr rfl))⟩
  · rw [Int.le_min, h2 x]
    constructor
    · rintro ⟨⟨a, b⟩, c⟩
      refine ⟨a, fun d q => ?_⟩
      rcases (h d).mp q with z | z
      · exact b d z
      · rw [z]; exact c
    · rintro ⟨a, b⟩
      exact ⟨⟨a, fun d q => b d ((h d).mpr (Or.inl q))⟩, b d0 ((h d0).mpr (Or.inr rfl))⟩
theorem Sn_u {D : Int → Prop} {w lo hi any lo' hi' any' : Int} (h : Sn D w lo hi any) (h' : Sn D w lo' hi' any') : lo = lo' ∧ hi = hi' ∧ any = any' := by
  obtain ⟨a1, a2, a3⟩ := h
  obtain ⟨b1, b2, b3⟩ := h'
  have e1 := (b1 lo).mpr ((a1 lo).mp (Int.le_refl _))
  have e2 := (a1 lo').mpr ((b1 lo').mp (Int.le_refl _))
  have e3 := (b2 hi).mpr ((a2 hi).mp (Int.le_refl _))
  have e4 := (a2 hi').mpr ((b2 hi').mp (Int.le_refl _))
  refine ⟨by omega, by omega, ?_⟩
  rcases a3 with ⟨z, q⟩ | ⟨z, d, q⟩ <;> rcases b3 with ⟨z', q'⟩ | ⟨z', d', q'⟩
  · omega
  · exact absurd q' (q d')
  · exact absurd q (q' d)
  · omega
def Df (σ : aW) (p n : Int) (R : Int → Int → Prop) (d : Int) : Prop := ∃ u v h, R u h ∧ Lt σ (2 * p) h n u ∧ Lt σ (2 * p + 1) h n v ∧ d = ((σ 92 u - σ 92 v).natAbs : Int)
theorem c28 {d : Nat} {Q : aQ} {σ : aW} {a1 a2 a3 : Int} (hM : IMt σ) (h1 : 0 ≤ a1 ∧ a1 < 20) (h2 : 0 ≤ a2) (h3 : a2 ≤ σ 96 9) (h4 : 0 ≤ a3 ∧ a3 ≤ 50) (k : ∀ s any, Fg [] [(89, 1), (89, 2)] σ s → Sn (Df σ a1 a2 (fun u _ => u < a2)) (2 * a3) (s 89 1) (s 89 2) any → Q (some (vi any)) s) : aEv (d + 2) true 28 [vr 89, vi a1, vi a2, vi a3] σ Q := by
  obtain ⟨m1, m2, m3, m4⟩ := hM
  refine e28 (b28_0 ?_)
  refine for_up (α := aW × Int) (X := fun i s => Yx (d + 2) cd28 3 Q 18 [vr 89, vi a1, vi a2, vi a3, vi s.2, vi i, vt] [] s.1) (I := fun i s => 0 ≤ i ∧ i ≤ a2 ∧ Fg [] [(89, 1), (89, 2)] σ s.1 ∧ Sn (Df σ a1 a2 (fun u _ => u < i)) (2 * a3) (s.1 89 1) (s.1 89 2) s.2) (N := a2) ?_ ?_ 0 (_, 0) ⟨Int.le_refl _, h2, Fg_f (Fg_f Fg_r (by decide)) (by decide), ?_⟩
  · rintro i ⟨s, any⟩ hi ⟨i0, i1, g1, g2⟩ K
    dsimp only at g1 g2
    show Yx (d + 2) cd28 3 Q 18 [vr 89, vi a1, vi a2, vi a3, vi any, vi i, vt] [] s
    have e90 : s 90 = σ 90 := funext (fun j => g1 90 j (by decide) (by simp))
    have e91 : s 91 = σ 91 := funext (fun j => g1 91 j (by decide) (by simp))
    have e92 : s 92 = σ 92 := funext (fun j => g1 92 j (by decide) (by simp))
    have eL : ∀ e h n u, Lt s e h n u ↔ Lt σ e h n u := fun e h n u => by unfold Lt; rw [e90, e91]
    have eN : ∀ e h n, Ln s e h n ↔ Ln σ e h n := fun e h n => by unfold Ln; rw [e90, e91]
    have hm := m4 i i0 (by omega)
    have same : (∀ h v, ¬ (Lt σ (2 * a1) h a2 i ∧ Lt σ (2 * a1 + 1) h a2 v)) → Yx (d + 2) cd28 3 Q 18 [vr 89, vi a1, vi a2, vi a3, vi any, vi (i + 1), vt] [] s := fun z => K (s, any) ⟨by omega, by omega, g1, Sn_c g2 (fun x => ⟨fun ⟨u, v, h, q1, q2, q3, q4⟩ => ⟨u, v, h, Int.lt_trans q1 (by omega), q2, q3, q4⟩, fun ⟨u, v, h, q1, q2, q3, q4⟩ => ⟨u, v, h, by
      by_cases e : u = i
      · rw [e] at q2
        exact absurd ⟨q2, q3⟩ (z h v)
      · omega, q2, q3, q4⟩⟩)⟩
    refine b28_18 ⟨fun z => by omega, fun _ => ⟨by omega, by omega, fun c => ⟨by omega, same ?_⟩, fun c => ⟨by omega, by omega, ?_⟩⟩⟩
    · rintro h v ⟨q, _⟩
      rw [e90] at c
      exact c q.2.2.1
    · rw [e91]
      rw [e90] at c
      refine c29 (d := d + 1) h2 (by omega) (fun z => ?_) (fun u hu => ⟨_, rfl, b28_52_1 ⟨fun z => ⟨by omega, same ?_⟩, fun z => ⟨by omega, by omega, by omega, ?_⟩⟩⟩)
      · exact absurd ⟨by rw [e90]; exact c, by rw [e91]⟩ (z i i0 hi)
      · rintro h v ⟨q, _⟩
        have eh : h = σ 91 i := q.2.2.2.1.symm
        rw [eh] at q
        exact z (Lt_u ((eL _ _ _ _).mp hu) q)
      · subst z
        have hu' := (eL _ _ _ _).mp hu
        rw [e91]
        refine c29 (d := d + 1) h2 (by omega) (fun z => ⟨_, rfl, b28_74_1 ⟨fun _ => ⟨by omega, same ?_⟩, fun w => absurd rfl w⟩⟩) (fun v hv => ⟨_, rfl, b28_74_1 ⟨fun w => ?_, fun _ => ?_⟩⟩)
        · rintro h v ⟨q, q2⟩
          have eh : h = σ 91 u := q.2.2.2.1.symm
          rw [eh] at q2
          exact (eN _ _ _).mp z v q2.1 q2.2.1 ⟨q2.2.2.1, q2.2.2.2.1⟩
        · have := hv.1
          omega
        · have hv' := (eL _ _ _ _).mp hv
          have hmv := m4 v hv'.1 (by have := hv'.2.1; omega)
          have v0 := hv'.1
          have v1 := hv'.2.1
          rw [e92]
          refine ⟨by omega, by omega, by omega, by omega, by omega, ?_⟩
          refine e30 (b30_0 ⟨by omega, by omega, rfl, b28_110 ⟨by omega, K (_, 1) ⟨by omega, by omega, Fg_f (Fg_f g1 (by decide)) (by decide), ?_⟩⟩⟩)
          show Sn (Df σ a1 a2 (fun u' _ => u' < u + 1)) (2 * a3) (max (s 89 1) (((σ 92 u - σ 92 v).natAbs : Int) - 2 * a3)) (min (s 89 2) (((σ 92 u - σ 92 v).natAbs : Int) + 2 * a3)) 1
          refine Sn_a g2 (fun x => ⟨?_, ?_⟩)
          · rintro ⟨u', v', h, q1, q2, q3, q4⟩
            by_cases e : u' = u
            · right
              have eh : h = σ 91 u := by rw [← e]; exact q2.2.2.2.1.symm
              rw [eh] at q3
              rw [q4, e, Lt_u q3 hv']
            · left
              exact ⟨u', v', h, by omega, q2, q3, q4⟩
          · rintro (⟨u', v', h, q1, q2, q3, q4⟩ | q)
            · exact ⟨u', v', h, by omega, q2, q3, q4⟩
            · exact ⟨u, v, σ 91 u, by omega, hu', hv', q⟩
  · rintro i ⟨s, any⟩ hi ⟨i0, i1, g1, g2⟩
    have e : i = a2 := by omega
    subst e
    refine b28_18 ⟨fun _ => ⟨?_, k s any g1 g2⟩, fun z => absurd hi z⟩
    rcases g2.2.2 with z | z
    · exact Or.inl z.1
    · exact Or.inr z.1
  · show Sn (Df σ a1 a2 (fun u _ => u < 0)) (2 * a3) 0 1000 0
    refine Sn_0 ?_
    rintro x ⟨u, v, h, q1, q2, q3, q4⟩
    have := q2.1
    omega
theorem c236 {d : Nat} {Q : aQ} {σ : aW} {a1 a2 a3 a4 : Int} (hM : IMt σ) (h1 : 0 ≤ a1 ∧ a1 < 20) (h2 : 0 ≤ a2) (h3 : a2 ≤ σ 96 9) (h4 : 0 ≤ a3 ∧ a3 ≤ 50) (k : ∀ lo hi any, Sn (Df σ a1 a2 (fun u _ => u < a2)) (2 * a3) lo hi any → ((¬ any = 0 → (lo ≤ hi → Q (some (vi (if ¬ a4 = 0 then hi else lo))) σ) ∧ (¬ lo ≤ hi → Q (some (vi (-7))) σ)) ∧ (any = 0 → Q (some (vi (-1))) σ))) : Yx (d + 2) cd236 1 Q 67 [vr 96, vi a1, vi a2, vi a3, vi a4, vi 0, vi 1000, vi 0, vi 0, vt, vt, vt] [] σ := by
  have hM' := hM
  obtain ⟨m1, m2, m3, m4⟩ := hM
  refine for_up (α := Int × Int × Int) (X := fun k t => Yx (d + 2) cd236 1 Q 67 [vr 96, vi a1, vi a2, vi a3, vi a4, vi t.1, vi t.2.1, vi t.2.2, vi k, vt, vt, vt] [] σ) (I := fun k t => 0 ≤ k ∧ k ≤ a2 ∧ Sn (Df σ a1 a2 (fun _ h => ∃ j, 0 ≤ j ∧ j < k ∧ σ 116 j = a1 ∧ σ 118 j = h)) (2 * a3) t.1 t.2.1 t.2.2) (N := a2) ?_ ?_ 0 (0, 1000, 0) ⟨Int.le_refl _, h2, ?_⟩
  · rintro i ⟨lo, hi, any⟩ hii ⟨i0, i1, g⟩ K
    dsimp only at g
    show Yx (d + 2) cd236 1 Q 67 [vr 96, vi a1, vi a2, vi a3, vi a4, vi lo, vi hi, vi any, vi i, vt, vt, vt] [] σ
    have hm := m4 i i0 (by omega)
    have same : (σ 116 i = a1 → ∀ u v, ¬ (Lt σ (2 * a1) (σ 118 i) a2 u ∧ Lt σ (2 * a1 + 1) (σ 118 i) a2 v)) → Yx (d + 2) cd236 1 Q 67 [vr 96, vi a1, vi a2, vi a3, vi a4, vi lo, vi hi, vi any, vi (i + 1), vt, vt, vt] [] σ := fun z => K (lo, hi, any) ⟨by omega, by omega, Sn_c g (fun x => ⟨fun ⟨u, v, h, ⟨j, p1, p2, p3, p4⟩, q2, q3, q4⟩ => ⟨u, v, h, ⟨j, p1, by omega, p3, p4⟩, q2, q3, q4⟩, fun ⟨u, v, h, ⟨j, p1, p2, p3, p4⟩, q2, q3, q4⟩ => ⟨u, v, h, ⟨j, p1, by
      by_cases e : j = i
      · rw [e] at p3 p4
        rw [← p4] at q2 q3
        exact absurd ⟨q2, q3⟩ (z p3 u v)
      · omega, p3, p4⟩, q2, q3, q4⟩⟩)⟩
    refine b236_67 ⟨fun z => by omega, fun _ => ⟨by omega, fun c => ⟨by omega, ?_⟩, fun c => ⟨by omega, same (fun z => absurd z c)⟩⟩⟩
    refine c235 (d := d + 1) hM' (by decide) h2 h3 (fun z => ⟨_, rfl, b236_101_1 ⟨by omega, ?_⟩⟩) (fun u hu => ⟨_, rfl, b236_101_1 ⟨by omega, ?_⟩⟩)
    · have sm : Yx (d + 2) cd236 1 Q 67 [vr 96, vi a1, vi a2, vi a3, vi a4, vi lo, vi hi, vi any, vi (i + 1), vt, vt, vt] [] σ := same (fun _ u v q => by
        rw [Int.add_zero] at z
        exact z u q.1.1 q.1.2.1 ⟨q.1.2.2.1, q.1.2.2.2.1⟩)
      exact c235 (d := d + 1) hM' (by decide) h2 h3 (fun w => ⟨_, rfl, b236_117_1 ⟨fun _ => ⟨by omega, sm⟩, fun y => absurd rfl y⟩⟩) (fun v hv => ⟨_, rfl, b236_117_1 ⟨fun _ => ⟨by omega, sm⟩, fun y => absurd rfl y⟩⟩)
    · rw [Int.add_zero] at hu
      have hmu := m4 u hu.1 (by have := hu.2.1; omega)
      refine c235 (d := d + 1) hM' (by decide) h2 h3 (fun w => ⟨_, rfl, b236_117_1 ⟨fun y => by omega, fun _ => ⟨fun y => absurd rfl y, fun _ => ⟨by omega, same ?_⟩⟩⟩⟩) (fun v hv => ⟨_, rfl, b236_117_1 ⟨fun y => by omega, fun _ => ⟨fun _ => ?_, fun y => ?_⟩⟩⟩)
      · rintro _ u' v' ⟨_, q⟩
        exact w v' q.1 q.2.1 ⟨q.2.2.1, q.2.2.2.1⟩
      · have hmv := m4 v hv.1 (by have := hv.2.1; omega)
        refine ⟨by omega, by omega, by omega, by omega, by omega, by omega, by omega, K (_, _, 1) ⟨by omega, by omega, Sn_a g (fun x => ⟨?_, ?_⟩)⟩⟩
        · rintro ⟨u', v', h, ⟨j, p1, p2, p3, p4⟩, q2, q3, q4⟩
          by_cases e : h = σ 118 i
          · right
            rw [e] at q2 q3
            rw [q4, Lt_u q2 hu, Lt_u q3 hv]
          · left
            refine ⟨u', v', h, ⟨j, p1, ?_, p3, p4⟩, q2, q3, q4⟩
            have : j ≠ i := fun z => e (by rw [← p4, z])
            omega
        · rintro (⟨u', v', h, ⟨j, p1, p2, p3, p4⟩, q2, q3, q4⟩ | q)
          · exact ⟨u', v', h, ⟨j, p1, by omega, p3, p4⟩, q2, q3, q4⟩
          · exact ⟨u, v, σ 118 i, ⟨i, i0, by omega, c, rfl⟩, hu, hv, q⟩
      · have hmv := m4 v hv.1 (by have := hv.2.1; omega)
        omega
  · rintro i ⟨lo, hi, any⟩ hii ⟨i0, i1, g⟩
    have e : i = a2 := by omega
    subst e
    refine b236_67 ⟨fun _ => k lo hi any (Sn_c g (fun x => ⟨fun ⟨u, v, h, _, q2, q3, q4⟩ => ⟨u, v, h, q2.2.1, q2, q3, q4⟩, fun ⟨u, v, h, _, q2, q3, q4⟩ => ⟨u, v, h, ⟨u, q2.1, q2.2.1, ?_, ?_⟩, q2, q3, q4⟩⟩)), fun z => absurd hii z⟩
    · have hmu := m4 u q2.1 (by have := q2.2.1; omega)
      have := q2.2.2.1
      omega
    · have hmu := m4 u q2.1 (by have := q2.2.1; omega)
      have := q2.2.2.2.1
      omega
  · refine Sn_0 ?_
    rintro x ⟨u, v, h, ⟨j, p1, p2, _, _⟩, _⟩
    omega
theorem t_leak {σ : aW} {a1 a2 a3 a4 : Int} (hN : INet σ) (hM : IMt σ) : aEv 59 true 132 [vr 0, vi a1, vi a2, vi a3, vi a4] σ (fun r s => aEv 59 true 236 [vr 96, vi a1, vi a2, vi a3, vi a4] s (Tp Tn [] [(89, 1), (89, 2), (96, 0)] σ r)) := by
  have hr : ∀ r : Option aV, Tp Tn [] [(89, 1), (89, 2), (96, 0)] σ r r (sw σ 96 (fu (σ 96) 0 0)) := fun r => ⟨rfl, trivial, Fg_f Fg_r (by decide)⟩
  have hn := hN.1
  unfold Nn at hn
  have hm := hM.1
  refine e132 (b132_0 ?_)
  (repeat' first | with_reducible apply And.intro | with_reducible intro _)
  all_goals first | omega | (refine e236 (b236_0 ?_); (repeat' first | with_reducible apply And.intro | with_reducible intro _); all_goals first | omega | exact hr _) | skip
  rename_i h1 h2 h3 h4
  refine c28 (d := 56) hM (by omega) h2.1 (by omega) h3 (fun s any f1 f2 => ⟨_, rfl, ?_⟩)
  have e90 : s 90 = σ 90 := funext (fun j => f1 90 j (by decide) (by simp))
  have e91 : s 91 = σ 91 := funext (fun j => f1 91 j (by decide) (by simp))
  have e92 : s 92 = σ 92 := funext (fun j => f1 92 j (by decide) (by simp))
  have e96 : s 96 = σ 96 := funext (fun j => f1 96 j (by decide) (by simp))
  have e116 : s 116 = σ 116 := funext (fun j => f1 116 j (by decide) (by simp))
  have e117 : s 117 = σ 117 := funext (fun j => f1 117 j (by decide) (by simp))
  have e118 : s 118 = σ 118 := funext (fun j => f1 118 j (by decide) (by simp))
  have e119 : s 119 = σ 119 := funext (fun j => f1 119 j (by decide) (by simp))
  have e890 : s 89 0 = σ 89 0 := f1 89 0 (by decide) (by decide)
  have hM2 : IMt (sw s 96 (fu (s 96) 0 0)) := by
    unfold IMt
    simp only [sw, fu, Nat.reduceEqDiff, if_true, if_false, Int.reduceEq, e90, e91, e92, e96, e116, e117, e118, e119, e890]
    exact hM
  have eD : ∀ R, Df (sw s 96 (fu (s 96) 0 0)) a1 a2 R = Df σ a1 a2 R := fun R => by
    unfold Df Lt
    simp only [sw_n (show (90 : Nat) ≠ 96 by decide), sw_n (show (91 : Nat) ≠ 96 by decide), sw_n (show (92 : Nat) ≠ 96 by decide), e90, e91, e92]
  have run : ∀ r : Option aV, (∀ lo hi any', Sn (Df σ a1 a2 (fun u _ => u < a2)) (2 * a3) lo hi any' → ((¬ any' = 0 → (lo ≤ hi → some (vi (if ¬ a4 = 0 then hi else lo)) = r) ∧ (¬ lo ≤ hi → some (vi (-7)) = r)) ∧ (any' = 0 → some (vi (-1)) = r))) → aEv 59 true 236 [vr 96, vi a1, vi a2, vi a3, vi a4] s (Tp Tn [] [(89, 1), (89, 2), (96, 0)] σ r) := by
    intro r hq
    have fin : ∀ r' : Option aV, r' = r → Tp Tn [] [(89, 1), (89, 2), (96, 0)] σ r r' (sw s 96 (fu (s 96) 0 0)) := fun r' e => ⟨e, trivial, Fg_t (Fg_m f1 (by decide) (by decide)) (Fg_f Fg_r (by decide))⟩
    refine e236 (b236_0 ?_)
    rw [e96]
    (repeat' first | with_reducible apply And.intro | with_reducible intro _)
    all_goals first | omega | skip
    rw [← e96]
    refine c236 (d := 57) hM2 (by omega) h2.1 (by simp [sw, fu, e96]; omega) h3 (fun lo hi any' hs => ?_)
    rw [eD] at hs
    have := hq lo hi any' hs
    exact ⟨fun z => ⟨fun w => fin _ ((this.1 z).1 w), fun w => fin _ ((this.1 z).2 w)⟩, fun z => fin _ (this.2 z)⟩
  refine b132_64_1 ⟨fun z => ⟨fun w => run _ ?_, fun w => run _ ?_⟩, fun z => run _ ?_⟩
  all_goals (intro lo hi any' hs; obtain ⟨rfl, rfl, rfl⟩ := Sn_u f2 hs)
  · exact ⟨fun _ => ⟨fun _ => rfl, fun y => absurd w y⟩, fun y => absurd y z⟩
  · exact ⟨fun _ => ⟨fun y => absurd y w, fun _ => rfl⟩, fun y => absurd y z⟩
  · exact ⟨fun y => absurd z y, fun _ => rfl⟩
end
