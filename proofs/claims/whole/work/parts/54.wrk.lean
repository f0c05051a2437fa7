section
/-! mill and boilers: raise and costOf -/
def bK (o m q f : Int → Int) (n pr h need : Int) : Int := if need < 0 then -1 else if bL o m (need - min need (f h)) n.toNat ≤ 0 then bC o m q (need - min need (f h)) (min need (f h) * pr / 1000) n.toNat else -1
theorem c105 {d : Nat} {Q : aQ} {σ : aW} {a1 a3 : Int} (hB : IBo σ) (hO : IOf σ) (h0 : 0 ≤ σ 120 2532) (h1 : σ 120 2532 ≤ a3) (h2 : a3 < 5050) (g0 : 0 ≤ a1) (g1 : a1 ≤ 1000000000000)
    (k : ∀ s, Fg [] [(45, 3), (45, 4), (45, 5)] σ s → s 45 3 = min a1 (σ 115 a3) → s 45 4 = a1 - min a1 (σ 115 a3) - bL (σ 50) (σ 112) (a1 - min a1 (σ 115 a3)) (σ 96 8).toNat → s 45 5 = bC (σ 50) (σ 112) (σ 113) (a1 - min a1 (σ 115 a3)) (min a1 (σ 115 a3) * σ 96 14 / 1000) (σ 96 8).toNat → Q (some (vl (a1 - bL (σ 50) (σ 112) (a1 - min a1 (σ 115 a3)) (σ 96 8).toNat))) s) : aEv (d + 1) true 105 [vr 45, vl a1, vi a3] σ Q := by
  obtain ⟨o1, o2, o3, o4, o5, o6, o7, o8⟩ := hO
  have ho := o8 a3 h1 h2
  have hn := hB.2.1
  have hn2 := hB.2.2.1
  have hn0 := hB.1
  have e : (if a3 - σ 46 2 < 0 then 0 else if σ 46 1 ≤ a3 - σ 46 2 then 0 else σ 47 (a3 - σ 46 2)) = σ 115 a3 := by
    rw [if_neg (by omega)]
    exact ho.1.symm
  have hm : 0 ≤ min a1 (σ 115 a3) ∧ min a1 (σ 115 a3) ≤ 200000 ∧ min a1 (σ 115 a3) ≤ a1 := by omega
  have q := mq_b (m := min a1 (σ 115 a3)) (q := σ 96 14) (M := 200000) (by omega) (by omega) o6 o7
  refine e105 (b105_0 ?_)
  rw [e, o5]
  generalize min a1 (σ 115 a3) = m at hm q k
  refine ⟨by omega, by omega, by omega, ?_⟩
  refine for_up (X := fun i s => Yx (d + 1) cd105 2 Q 43 [vr 45, vl a1, vt, vt, vi i, vt, vt, vt] [] s) (I := fun i s => 0 ≤ i ∧ i ≤ σ 96 8 ∧ Fg [] [(45, 3), (45, 4), (45, 5)] σ s ∧ s 45 3 = m ∧ s 45 4 = a1 - m - bL (σ 50) (σ 112) (a1 - m) i.toNat ∧ s 45 5 = bC (σ 50) (σ 112) (σ 113) (a1 - m) (m * σ 96 14 / 1000) i.toNat) (N := σ 96 8) ?_ ?_ 0 _ ⟨Int.le_refl _, hn, ?_, ?_, ?_, ?_⟩
  · rintro i s hi ⟨i0, i1, i2, i3, i4, i5⟩ K
    have s0 : s 45 0 = σ 96 8 := by rw [i2 45 0 (by decide) (by decide)]; exact hn0
    have s48 : s 48 = σ 48 := Fg_k i2 rfl rfl
    have s49 : s 49 = σ 49 := Fg_k i2 rfl rfl
    have s50 : s 50 = σ 50 := Fg_k i2 rfl rfl
    have ob := hB.2.2.2.2.1 i i0 hi
    have bb := hB.2.2.2.1 _ ob.1 ob.2
    have b1 := bL_b (L := a1 - m) hB (by omega) i.toNat (by omega)
    have b2 := bC_b (L := a1 - m) (c := m * σ 96 14 / 1000) hB (by omega) i.toNat (by omega)
    have e1 : a1 - s 45 3 - s 45 4 = bL (σ 50) (σ 112) (a1 - m) i.toNat := by omega
    have q2 := mq_b (m := min (bL (σ 50) (σ 112) (a1 - m) i.toNat) (σ 112 (σ 50 i))) (q := σ 113 (σ 50 i)) (M := 200000) (by omega) (by omega) (by omega) (by omega)
    have ls := bL_s (σ := σ) (L := a1 - m) i0
    have cs := bC_s (σ := σ) (L := a1 - m) (c := m * σ 96 14 / 1000) i0
    refine b105_43 ⟨fun z => by omega, fun _ => ?_⟩
    rw [e1, s48, s49, s50, bb.1, bb.2.1]
    generalize min (bL (σ 50) (σ 112) (a1 - m) i.toNat) (σ 112 (σ 50 i)) * σ 113 (σ 50 i) = z at q2 cs
    refine ⟨by omega, by omega, by omega, by omega, by omega, by omega, by omega, by omega, by omega, by omega, K _ ⟨by omega, by omega, Fg_f (Fg_f i2 (by decide)) (by decide), ?_, ?_, ?_⟩⟩
    · rw [sw_s, fu_n (by decide), fu_n (by decide)]
      exact i3
    · rw [sw_s, fu_n (by decide), fu_s, ls, i4]
      omega
    · rw [sw_s, fu_s, cs, i5]
  · rintro i s hi ⟨i0, i1, i2, i3, i4, i5⟩
    have s0 : s 45 0 = σ 96 8 := by rw [i2 45 0 (by decide) (by decide)]; exact hn0
    have ei : i = σ 96 8 := by omega
    subst ei
    have b1 := bL_b (L := a1 - m) hB (by omega) (σ 96 8).toNat (by omega)
    refine b105_43 ⟨fun _ => ⟨by omega, ?_⟩, fun z => by omega⟩
    rw [show s 45 3 + s 45 4 = a1 - bL (σ 50) (σ 112) (a1 - m) (σ 96 8).toNat by omega]
    exact k s i2 i3 i4 i5
  · exact Fg_f (Fg_f (Fg_f Fg_r (by decide)) (by decide)) (by decide)
  · rw [sw_s, fu_n (by decide), fu_n (by decide), fu_s]
  · rw [sw_s, fu_n (by decide), fu_s]
    show 0 = a1 - m - (a1 - m)
    omega
  · rw [sw_s, fu_s]
    rfl
theorem c230 {d : Nat} {Q : aQ} {σ : aW} {a1 a2 : Int} (hB : IBo σ) (hO : IOf σ) (h0 : 0 ≤ σ 120 2532) (h1 : σ 120 2532 ≤ a1) (h2 : a1 < 5050) (g1 : a2 ≤ 1000000000000) (k : Q (some (vl (bK (σ 50) (σ 112) (σ 113) (σ 115) (σ 96 8) (σ 96 14) a1 a2))) σ) : aEv (d + 1) true 230 [vr 96, vi a1, vl a2] σ Q := by
  obtain ⟨o1, o2, o3, o4, o5, o6, o7, o8⟩ := hO
  have ho := o8 a1 h1 h2
  have hn := hB.2.1
  have hn2 := hB.2.2.1
  refine e230 (b230_0 ⟨fun g0 => ?_, fun z => ?_⟩)
  · unfold bK at k
    rw [if_neg (by omega)] at k
    have hm : 0 ≤ min a2 (σ 115 a1) ∧ min a2 (σ 115 a1) ≤ 200000 ∧ min a2 (σ 115 a1) ≤ a2 := by omega
    have q := mq_b (m := min a2 (σ 115 a1)) (q := σ 96 14) (M := 200000) (by omega) (by omega) o6 o7
    generalize min a2 (σ 115 a1) = m at hm q k
    refine ⟨by omega, by omega, by omega, by omega, ?_⟩
    refine for_up2 (X := fun i qa qb => Yx (d + 1) cd230 2 Q 46 [vr 96, vt, vt, vt, vt, vt, vl qa, vt, vl qb, vt, vi i, vt, vt, vt] [] σ) (I := fun i qa qb => 0 ≤ i ∧ i ≤ σ 96 8 ∧ qb = bL (σ 50) (σ 112) (a2 - m) i.toNat ∧ qa = bC (σ 50) (σ 112) (σ 113) (a2 - m) (m * σ 96 14 / 1000) i.toNat) (N := σ 96 8) ?_ ?_ 0 (_) (_) ⟨Int.le_refl _, hn, rfl, rfl⟩
    · rintro i x y hi ⟨i0, i1, i2, i3⟩ K
      subst i2
      subst i3
      have ob := hB.2.2.2.2.1 i i0 hi
      have bb := hB.2.2.2.1 _ ob.1 ob.2
      have b1 := bL_b (L := a2 - m) hB (by omega) i.toNat (by omega)
      have b2 := bC_b (L := a2 - m) (c := m * σ 96 14 / 1000) hB (by omega) i.toNat (by omega)
      have q2 := mq_b (m := min (bL (σ 50) (σ 112) (a2 - m) i.toNat) (σ 112 (σ 50 i))) (q := σ 113 (σ 50 i)) (M := 200000) (by omega) (by omega) (by omega) (by omega)
      have ls := bL_s (σ := σ) (L := a2 - m) i0
      have cs := bC_s (σ := σ) (L := a2 - m) (c := m * σ 96 14 / 1000) i0
      refine b230_46 ⟨fun z => by omega, fun _ => c215 hB i0 hi ⟨_, rfl, b230_61_1 ?_⟩⟩
      generalize min (bL (σ 50) (σ 112) (a2 - m) i.toNat) (σ 112 (σ 50 i)) * σ 113 (σ 50 i) = z at q2 cs
      exact ⟨by omega, by omega, by omega, by omega, by omega, by omega, by omega, K (_) (_) ⟨by omega, by omega, ls.symm, cs.symm⟩⟩
    · rintro i x y hi ⟨i0, i1, i2, i3⟩
      have ei : i = σ 96 8 := by omega
      subst ei
      refine b230_46 ⟨fun _ => ?_, fun z => by omega⟩
      rw [i2, i3]
      exact k
  · unfold bK at k
    rw [if_pos (by omega)] at k
    exact k
theorem bK_b {σ : aW} {h need : Int} (hB : IBo σ) (hO : IOf σ) (h1 : σ 120 2532 ≤ h) (h2 : h < 5050) : -1 ≤ bK (σ 50) (σ 112) (σ 113) (σ 115) (σ 96 8) (σ 96 14) h need ∧ bK (σ 50) (σ 112) (σ 113) (σ 115) (σ 96 8) (σ 96 14) h need ≤ 1000000 := by
  obtain ⟨o1, o2, o3, o4, o5, o6, o7, o8⟩ := hO
  have ho := o8 h h1 h2
  have hn := hB.2.1
  have hn2 := hB.2.2.1
  unfold bK
  split
  · omega
  · split
    · have hm : 0 ≤ min need (σ 115 h) ∧ min need (σ 115 h) ≤ 200000 ∧ min need (σ 115 h) ≤ need := by omega
      have q := mq_b (m := min need (σ 115 h)) (q := σ 96 14) (M := 200000) (by omega) (by omega) o6 o7
      have b2 := bC_b (L := need - min need (σ 115 h)) (c := min need (σ 115 h) * σ 96 14 / 1000) hB (by omega) (σ 96 8).toNat (by omega)
      generalize min need (σ 115 h) * σ 96 14 = z at *
      omega
    · omega
end
