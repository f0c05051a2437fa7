section
/-! the hour: the reference counts and gives -/
theorem c212 {d : Nat} {Q : aQ} {s : aW} (hN : 0 < s 96 74 ∧ s 96 74 ≤ 10000) (w0 : 0 ≤ s 96 75) (w1 : s 96 75 ≤ 12000 * s 96 74) (hg : 0 ≤ s 96 76 ∧ s 96 76 ≤ 10000) (k : Q (some (vl (hGv (s 96 75) (s 96 74) (s 96 76) 1))) (sw s 96 (fu (s 96) 76 (s 96 76 + 1)))) : aEv (d + 0) true 212 [vr 96] s Q := by
  have b := hGv_b (g := s 96 76) hN.1 w0 w1 (show (0 : Int) ≤ 1 by decide)
  have p1 : 0 ≤ s 96 75 * s 96 76 := Int.mul_nonneg w0 hg.1
  have p2 : s 96 75 * s 96 76 ≤ 120000000 * 10000 := Int.mul_le_mul (by omega) hg.2 hg.1 (by omega)
  have p3 : 0 ≤ s 96 75 * (s 96 76 + 1) := Int.mul_nonneg w0 (by omega)
  have p4 : s 96 75 * (s 96 76 + 1) ≤ 120000000 * 20000 := Int.mul_le_mul (by omega) (by omega) (by omega) (by omega)
  unfold hGv at b k
  exact e212 (b212_0 ⟨by omega, by omega, by omega, by omega, by omega, by omega, by omega, k⟩)
theorem c218 {d : Nat} {Q : aQ} {s : aW} {n P : Int} (hP : s 96 6 = P ∧ 0 ≤ P ∧ P ≤ 20) (hf : ∀ p, 0 ≤ p → p < P → -100 ≤ s 126 p ∧ s 126 p ≤ 100) (k : Q (some (vi (hNo (s 126) (s 101) (s 102) n P))) s) : aEv (d + 2) true 218 [vr 96, vi n] s Q := by
  have key : ∀ (q : Nat) (i : Int), 0 ≤ i → i + q = P → Yx (d + 2) cd218 1 Q 4 [vr 96, vi n, vi (hNo (s 126) (s 101) (s 102) n i), vi i] [] s := by
    intro q
    induction q with
    | zero =>
      intro i i0 im
      rw [show i = P by omega]
      exact b218_4 ⟨fun _ => k, fun z => absurd (Int.le_of_eq hP.1) z⟩
    | succ q ih =>
      intro i i0 im
      have hs : hNo (s 126) (s 101) (s 102) n (i + 1) = hNo (s 126) (s 101) (s 102) n i + (if hFr (s 126) (s 101) (s 102) i = n then hm (s 126) i else 0) := by unfold hNo; exact sI_s i0
      have hb := sI_b (f := fun p => if hFr (s 126) (s 101) (s 102) p = n then hm (s 126) p else 0) (B := 100) (n := i.toNat) (fun p p0 p1 => by
        have := hf p p0 (by omega)
        unfold hm
        split <;> omega)
      have hb' : 0 ≤ hNo (s 126) (s 101) (s 102) n i ∧ hNo (s 126) (s 101) (s 102) n i ≤ 100 * (i.toNat : Int) := hb
      have h0 := hf i i0 (by omega)
      have nx := ih (i + 1) (by omega) (by omega)
      rw [hs] at nx
      have eF : (if 0 < s 126 i then s 101 i else s 102 i) = hFr (s 126) (s 101) (s 102) i := rfl
      have eM : (((s 126 i)).natAbs : Int) = hm (s 126) i := rfl
      have mb : 0 ≤ hm (s 126) i ∧ hm (s 126) i ≤ 100 := by unfold hm; omega
      refine b218_4 ⟨fun z => by omega, fun _ => ⟨by omega, fun z => ⟨by omega, by omega, ?_⟩, fun z => ⟨by omega, fun y => ⟨by omega, by omega, ?_⟩, fun y => ⟨by omega, by omega, by rw [eM]; omega, by omega, ?_⟩⟩⟩⟩
      · have mz : hm (s 126) i = 0 := by unfold hm; omega
        rw [mz] at nx
        rw [show (if hFr (s 126) (s 101) (s 102) i = n then (0 : Int) else 0) = 0 by split <;> rfl] at nx
        exact nx
      · rw [eF] at y
        rw [if_neg y] at nx
        exact nx
      · rw [eF] at y
        rw [if_pos y] at nx
        exact nx
  exact e218 (b218_0 (key P.toNat 0 (Int.le_refl _) (by omega)))
theorem c219 {d : Nat} {Q : aQ} {s : aW} {n H : Int} (hH : s 96 7 = H ∧ 0 ≤ H ∧ H ≤ 16) (hg : ∀ h, 0 ≤ h → h < H → 0 ≤ s 127 h ∧ s 127 h ≤ 4000) (k : Q (some (vi (hHs s (s 127) H n))) s) : aEv (d + 0) true 219 [vr 96, vi n] s Q := by
  have key : ∀ (q : Nat) (i : Int), 0 ≤ i → i + q = H → Yx (d + 0) cd219 1 Q 4 [vr 96, vi n, vi (hHs s (s 127) i n), vi i] [] s := by
    intro q
    induction q with
    | zero =>
      intro i i0 im
      rw [show i = H by omega]
      exact b219_4 ⟨fun _ => k, fun z => absurd (Int.le_of_eq hH.1) z⟩
    | succ q ih =>
      intro i i0 im
      have hs : hHs s (s 127) (i + 1) n = hHs s (s 127) i n + (if ¬ s 109 i = n then 0 else s 127 i) := by unfold hHs; exact sI_s i0
      have hb := sI_b (f := fun h => if ¬ s 109 h = n then 0 else s 127 h) (B := 4000) (n := i.toNat) (fun h h0 h1 => by
        have := hg h h0 (by omega)
        split <;> omega)
      have hb' : 0 ≤ hHs s (s 127) i n ∧ hHs s (s 127) i n ≤ 4000 * (i.toNat : Int) := hb
      have h0 := hg i i0 (by omega)
      have nx := ih (i + 1) (by omega) (by omega)
      rw [hs] at nx
      exact b219_4 ⟨fun z => by omega, fun _ => ⟨by omega, fun _ => by omega, by split <;> omega, by omega, nx⟩⟩
  exact e219 (b219_0 (key H.toNat 0 (Int.le_refl _) (by omega)))
end
