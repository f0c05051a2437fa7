section
/-! sums -/
def sI (f : Int → Int) : Nat → Int
  | 0 => 0
  | n + 1 => sI f n + f n
theorem sI_s {f : Int → Int} {i : Int} (h : 0 ≤ i) : sI f (i + 1).toNat = sI f i.toNat + f i := by
  have e : (i + 1).toNat = i.toNat + 1 := by omega
  have e2 : ((i.toNat : Nat) : Int) = i := by omega
  rw [e]
  show sI f i.toNat + f i.toNat = _
  rw [e2]
theorem sI_b {f : Int → Int} {B : Int} : ∀ {n : Nat}, (∀ i : Int, 0 ≤ i → i < n → 0 ≤ f i ∧ f i ≤ B) → 0 ≤ sI f n ∧ sI f n ≤ B * n
  | 0, _ => by simp [sI]
  | n + 1, h => by
    have h1 := sI_b (f := f) (B := B) (n := n) (fun i i0 i1 => h i i0 (by omega))
    have h2 := h n (by omega) (by omega)
    have e : B * ((n + 1 : Nat) : Int) = B * n + B := by
      rw [Int.natCast_succ, Int.mul_add, Int.mul_one]
    rw [e]
    show 0 ≤ sI f n + f n ∧ sI f n + f n ≤ _
    omega
theorem sI_c {f g : Int → Int} : ∀ {n : Nat}, (∀ i : Int, 0 ≤ i → i < n → f i = g i) → sI f n = sI g n
  | 0, _ => rfl
  | n + 1, h => by
    show sI f n + f n = sI g n + g n
    rw [sI_c (f := f) (g := g) (n := n) (fun i i0 i1 => h i i0 (by omega)), h n (by omega) (by omega)]
def wU (σ : aW) (p : Int) : Int := sI (fun k => σ 120 (60 * p + k) + σ 120 (1200 + 60 * p + k)) (σ 103 p).toNat
theorem wU_b {σ : aW} {p : Int} {m : Int} (hU : Su 64 σ) (h0 : 0 ≤ p) (h1 : p < σ 96 6) (hm : m ≤ σ 103 p) : 0 ≤ sI (fun k => σ 120 (60 * p + k) + σ 120 (1200 + 60 * p + k)) m.toNat ∧ sI (fun k => σ 120 (60 * p + k) + σ 120 (1200 + 60 * p + k)) m.toNat ≤ 24000 * m.toNat := by
  refine sI_b (fun k k0 k1 => ?_)
  have := hU p h0 h1 k k0 (by omega)
  omega
theorem wA_b {σ : aW} {m : Int} (hN : INet σ) (hU : Su 64 σ) (hm : m ≤ σ 96 6) : 0 ≤ sI (wU σ) m.toNat ∧ sI (wU σ) m.toNat ≤ 1440000 * m.toNat := by
  refine sI_b (fun p p0 p1 => ?_)
  have h := wU_b hU p0 (by omega) (Int.le_refl (σ 103 p))
  have hp := hN.2.1 p p0 (by omega)
  unfold Np at hp
  unfold wU
  omega
theorem c150 {d : Nat} {Q : aQ} {σ : aW} (hN : INet σ) (hU : Su 64 σ) (k : Q (some (vl (sI (wU σ) (σ 96 6).toNat))) σ) : aEv (d + 1) true 150 [vr 0] σ Q := by
  have hn := hN.1
  unfold Nn at hn
  refine e150 (b150_0 ?_)
  refine for_up (X := fun p a => Yx (d + 1) cd150 2 Q 4 [vr 0, vl a, vt, vi p, vt, vt, vt] [] σ) (I := fun p a => 0 ≤ p ∧ p ≤ σ 96 6 ∧ a = sI (wU σ) p.toNat) (N := σ 96 6) ?_ ?_ 0 0 ⟨Int.le_refl _, by omega, rfl⟩
  · rintro p a hp ⟨p0, p1, rfl⟩ K
    have hq := hN.2.1 p p0 hp
    unfold Np at hq
    have ha := wA_b hN hU (m := p) (by omega)
    refine b150_4 ⟨fun z => by omega, fun _ => ⟨by omega, by omega, ?_⟩⟩
    refine for_up (X := fun i a => Yx (d + 1) cd150 2 Q 32 [vr 0, vl a, vt, vi p, vi (((2 * p) + 0) * 60), vi (((2 * p) + 1) * 60), vi i] [] σ) (I := fun i a => 0 ≤ i ∧ i ≤ σ 103 p ∧ a = sI (wU σ) p.toNat + sI (fun k => σ 120 (60 * p + k) + σ 120 (1200 + 60 * p + k)) i.toNat) (N := σ 103 p) ?_ ?_ 0 _ ⟨Int.le_refl _, by omega, by simp [sI]⟩
    · rintro i a hi ⟨i0, i1, rfl⟩ L
      have hu := hU p p0 hp i i0 hi
      have hb := wU_b hU p0 hp (m := i) (by omega)
      refine b150_32 ⟨by omega, fun z => by omega, fun _ => ⟨by omega, by omega, by omega, by omega, ?_⟩⟩
      rw [hu.1, hu.2.1]
      refine ⟨by omega, by omega, by omega, L _ ⟨by omega, by omega, ?_⟩⟩
      rw [sI_s i0]
      omega
    · rintro i a hi ⟨i0, i1, rfl⟩
      have e : i = σ 103 p := by omega
      subst e
      refine b150_32 ⟨by omega, fun _ => ⟨by omega, K _ ⟨by omega, by omega, ?_⟩⟩, fun z => by omega⟩
      rw [sI_s p0]
      rfl
  · rintro p a hp ⟨p0, p1, rfl⟩
    have e : p = σ 96 6 := by omega
    subst e
    exact b150_4 ⟨fun _ => k, fun z => by omega⟩
theorem c241 {d : Nat} {Q : aQ} {σ : aW} (hN : INet σ) (hU : Su 64 σ) (k : Q (some (vl (sI (wU σ) (σ 96 6).toNat))) σ) : Yx (d + 1) cd241 2 Q 48 [vr 96, vi 6, vl 0, vt, vi 0, vt] [] σ := by
  have hn := hN.1
  unfold Nn at hn
  refine for_up (X := fun p a => Yx (d + 1) cd241 2 Q 48 [vr 96, vi 6, vl a, vt, vi p, vt] [] σ) (I := fun p a => 0 ≤ p ∧ p ≤ σ 96 6 ∧ a = sI (wU σ) p.toNat) (N := σ 96 6) ?_ ?_ 0 0 ⟨Int.le_refl _, by omega, rfl⟩
  · rintro p a hp ⟨p0, p1, rfl⟩ K
    have hq := hN.2.1 p p0 hp
    unfold Np at hq
    have ha := wA_b hN hU (m := p) (by omega)
    refine b241_48 ⟨fun z => by omega, fun _ => ⟨fun z => absurd rfl z, fun _ => ?_⟩⟩
    refine for_up (X := fun i a => Yx (d + 1) cd241 2 Q 66 [vr 96, vi 6, vl a, vt, vi p, vi i] [] σ) (I := fun i a => 0 ≤ i ∧ i ≤ σ 103 p ∧ a = sI (wU σ) p.toNat + sI (fun k => σ 120 (60 * p + k) + σ 120 (1200 + 60 * p + k)) i.toNat) (N := σ 103 p) ?_ ?_ 0 _ ⟨Int.le_refl _, by omega, by simp [sI]⟩
    · rintro i a hi ⟨i0, i1, rfl⟩ L
      have hu := hU p p0 hp i i0 hi
      have hb := wU_b hU p0 hp (m := i) (by omega)
      refine b241_66 ⟨by omega, fun z => by omega, fun _ => ?_⟩
      rw [Int.zero_add]
      refine ⟨by omega, by omega, by omega, by omega, by omega, by omega, by omega, by omega, by omega, by omega, by omega, L _ ⟨by omega, by omega, ?_⟩⟩
      rw [sI_s i0]
      omega
    · rintro i a hi ⟨i0, i1, rfl⟩
      have e : i = σ 103 p := by omega
      subst e
      refine b241_66 ⟨by omega, fun _ => ⟨by omega, K _ ⟨by omega, by omega, ?_⟩⟩, fun z => by omega⟩
      rw [sI_s p0]
      rfl
  · rintro p a hp ⟨p0, p1, rfl⟩
    have e : p = σ 96 6 := by omega
    subst e
    exact b241_48 ⟨fun _ => k, fun z => by omega⟩
theorem t_sum {σ : aW} {a1 : Int} (hN : INet σ) (hS : ISt 63 σ) : aEv 59 true 137 [vr 0, vi a1] σ (fun r s => aEv 59 true 241 [vr 96, vi a1] s (Tp Tn [] [(96, 0)] σ r)) := by
  have hc := hS.2.1
  unfold Sc at hc
  have hU : Su 64 σ := hS.1
  refine e137 (b137_0 ?_)
  by_cases h : 0 ≤ a1 ∧ a1 ≤ 5
  · refine ⟨fun z => absurd h z, fun _ => ⟨by omega, e241 (b241_0 ⟨fun z => absurd h z, fun _ => ⟨by omega, by omega, Tn_e ?_⟩⟩)⟩⟩
    have hm := hS.2.2.2.2 a1 h.1 (by omega)
    simp only [Sm, Nat.reduceAdd] at hm
    rw [hm.1]
  · refine ⟨fun _ => ⟨fun h6 => ?_, fun h6 => ?_⟩, fun z => absurd z h⟩
    · refine e241 (b241_0 ⟨fun _ => ⟨fun h7 => ?_, fun h7 => Tn_e ?_⟩, fun z => absurd z h⟩)
      · rw [if_pos h7]
        refine b241_48 ⟨fun _ => Tn_r, fun _ => ⟨fun _ => Tn_r, fun z => absurd z h6⟩⟩
      · rw [if_neg (fun z => z h7), hc.2.2.2.1]
    · subst h6
      refine c150 (d := 57) hN hU ⟨_, rfl, b137_32_1 ?_⟩
      refine e241 (b241_0 ⟨fun _ => ⟨fun _ => ?_, fun z => by omega⟩, fun z => absurd z h⟩)
      exact c241 (d := 58) (σ := sw σ 96 (fu (σ 96) 0 0)) hN hU Tn_r
end
