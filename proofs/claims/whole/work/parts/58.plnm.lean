section
/-! the plan: the reference -/
def qF (σ s : aW) : Prop := Fg [52, 53, 54, 55, 125, 145] [(45, 3), (45, 4), (45, 5), (51, 2), (51, 3), (51, 5), (96, 0), (96, 42), (96, 43), (96, 44)] σ s
theorem c231 {d : Nat} {Q : aQ} {σ s : aW} {a k l i : Int} (hF : qF σ s) (hB : IBo σ) (hO : IOf σ) (hD : IDp σ) (ha : 0 ≤ a ∧ a < 4) (hk : 0 ≤ k ∧ k < 24) (hv : 0 ≤ σ 99 (60 * a + k) ∧ σ 99 (60 * a + k) ≤ 800000) (h0 : 0 ≤ σ 120 2532 ∧ σ 120 2532 ≤ 5000) (hl : 0 ≤ l ∧ l < cT σ) (hi : 0 ≤ i ∧ i < cT σ) (q : Q (some (vl (cF σ a k l i))) s) : aEv (d + 2) true 231 [vr 96, vi a, vi k, vi l, vi i] s Q := by
  obtain ⟨d1, d2, d3, d4, d5, d6, d7, -⟩ := hD
  unfold cT at hl hi
  have b0 : IBo s := IBo_c (hF 45 0 (by decide) (by decide)) (hF 96 8 (by decide) (by decide)) (Fg_k hF rfl rfl) (Fg_k hF rfl rfl) (Fg_k hF rfl rfl) (Fg_k hF rfl rfl) (Fg_k hF rfl rfl) hB
  have o0 : IOf s := IOf_c (hF 46 1 (by decide) (by decide)) (hF 46 2 (by decide) (by decide)) (hF 120 2532 (by decide) (by decide)) (hF 45 1 (by decide) (by decide)) (hF 96 14 (by decide) (by decide)) (Fg_k hF rfl rfl) (Fg_k hF rfl rfl) hO
  have z13 : s 96 13 = σ 96 13 := hF 96 13 (by decide) (by decide)
  have zh : s 120 2532 = σ 120 2532 := hF 120 2532 (by decide) (by decide)
  have z99 : s 99 = σ 99 := Fg_k hF rfl rfl
  have sb := st_b (h := σ 96 12) (s := σ 96 13) (x := i - l) (by omega) (by omega) (by omega) (by omega)
  rw [Int.mul_comm] at sb
  refine e231 (b231_0 ?_)
  rw [z13, zh, z99]
  unfold cF at q
  generalize σ 96 13 * (i - l) = x at *
  refine ⟨by omega, by omega, by omega, by omega, by omega, by omega, by omega, by omega, ?_⟩
  refine c230 b0 o0 (by omega) (by omega) (by omega) (by omega) ⟨_, rfl, b231_33_1 ?_⟩
  rw [show s 50 = σ 50 from Fg_k hF rfl rfl, show s 112 = σ 112 from Fg_k hF rfl rfl, show s 113 = σ 113 from Fg_k hF rfl rfl, show s 115 = σ 115 from Fg_k hF rfl rfl, hF 96 8 (by decide) (by decide), hF 96 14 (by decide) (by decide)]
  exact q
theorem c232 {d : Nat} {Q : aQ} {σ s0 : aW} {a : Int} (hF : qF σ s0) (hB : IBo σ) (hO : IOf σ) (hD : IDp σ) (ha : 0 ≤ a ∧ a < 4) (hn : 1 ≤ σ 98 a ∧ σ 98 a ≤ 24) (hv : ∀ j, 0 ≤ j → j < σ 98 a → 0 ≤ σ 99 (60 * a + j) ∧ σ 99 (60 * a + j) ≤ 800000)
    (h0 : 0 ≤ σ 120 2532 ∧ σ 120 2532 ≤ 5000) (h1 : 0 ≤ σ 120 2533 ∧ σ 120 2533 ≤ 1000000) (h2 : σ 120 2533 / σ 96 13 ≤ σ 96 12 / σ 96 13)
    (kN : PV (cF σ a) (cT σ) (σ 98 a) 0 (σ 120 2533 / σ 96 13) < 0 → ∀ s, Fg [145] [(96, 44)] s0 s → s 96 44 = 0 → Q (some (vl (-1))) s)
    (kY : 0 ≤ PV (cF σ a) (cT σ) (σ 98 a) 0 (σ 120 2533 / σ 96 13) → ∀ s, Fg [125, 145] [(96, 42), (96, 43), (96, 44)] s0 s → s 96 44 = 1 → s 96 43 = σ 98 a → s 96 42 = σ 120 2532 → (∀ k, 0 ≤ k → k < σ 98 a → s 125 k = σ 96 13 * pL (cF σ a) (cT σ) (σ 98 a) (σ 120 2533 / σ 96 13) (k + 1).toNat) → Q (some (vl (PV (cF σ a) (cT σ) (σ 98 a) 0 (σ 120 2533 / σ 96 13)))) s) : Yx (d + 3) cd232 2 Q 89 [vr 96, vi a, vi (σ 98 a), vi (σ 96 12 / σ 96 13), vi 0, vt, vt, vt, vt, vt, vt, vt, vt] [] s0 := by
  have hD' := hD
  obtain ⟨d1, d2, d3, d4, d5, d6, d7, -⟩ := hD'
  have hcb := cF_b (a := a) hB hO h0.2 hn.2
  have T1 : cT σ = σ 96 12 / σ 96 13 + 1 := rfl
  have q0 : 0 ≤ σ 120 2533 / σ 96 13 := Int.ediv_nonneg h1.1 (by omega)
  have hcost : ∀ {Q : aQ} {s : aW} {k l i : Int}, Fg [125, 145] [(96, 42), (96, 43), (96, 44)] s0 s → 0 ≤ k → k < σ 98 a → 0 ≤ l → l < cT σ → 0 ≤ i → i < cT σ → Q (some (vl (cF σ a k l i))) s → aEv (d + 2) true 231 [vr 96, vi a, vi k, vi l, vi i] s Q := fun f k0 k1 l0 l1 i0 i1 q => c231 (Fg_t hF (Fg_m f (by decide) (by decide))) hB hO hD ha ⟨k0, by omega⟩ (hv _ k0 k1) h0 ⟨l0, l1⟩ ⟨i0, i1⟩ q
  have hclow : ∀ k l i, 0 ≤ k → k < σ 98 a → -1 ≤ cF σ a k l i := fun k l i k0 k1 => (bK_b hB hO (by omega) (by omega)).1
  have sth : s0 120 2533 = σ 120 2533 := hF 120 2533 (by decide) (by decide)
  have st2 : s0 120 2532 = σ 120 2532 := hF 120 2532 (by decide) (by decide)
  have st13 : s0 96 13 = σ 96 13 := hF 96 13 (by decide) (by decide)
  generalize hS : σ 96 12 / σ 96 13 = S at *
  generalize hT : cT σ = T at *
  generalize hC : cF σ a = C at *
  generalize hNn : σ 98 a = n at *
  generalize hL : σ 120 2533 / σ 96 13 = l0 at *
  refine for_up (X := fun i s => Yx (d + 3) cd232 2 Q 89 [vr 96, vi a, vi n, vi S, vi i, vt, vt, vt, vt, vt, vt, vt, vt] [] s) (I := fun i s => 0 ≤ i ∧ i ≤ T ∧ Fr [145] s0 s ∧ ∀ l, 0 ≤ l → l < i → s 145 (42 * n + l) = 0) (N := T) ?_ ?_ 0 s0 ⟨Int.le_refl _, by omega, Fr_r, fun l l0 l1 => by omega⟩
  · rintro i s hi ⟨i0, i1, i2, i3⟩ K
    refine b232_89 ⟨fun z => by omega, fun _ => ⟨by omega, by omega, by omega, by omega, K _ ⟨by omega, by omega, Fr_w i2 (by decide), fun l m0 m1 => ?_⟩⟩⟩
    rw [sw_s]
    by_cases e : l = i
    · rw [e, fu_s]
    · rw [fu_n (by omega)]
      exact i3 l m0 (by omega)
  rintro i s hi ⟨i0, i1, i2, i3⟩
  refine b232_89 ⟨fun _ => ⟨by omega, ?_⟩, fun z => by omega⟩
  refine for_dn (X := fun k s => Yx (d + 3) cd232 2 Q 119 [vr 96, vi a, vi n, vi S, vi k, vt, vt, vt, vt, vt, vt, vt, vt] [] s) (I := fun k s => -1 ≤ k ∧ k ≤ n - 1 ∧ Fr [145] s0 s ∧ (∀ k', k < k' → k' ≤ n → ∀ l, 0 ≤ l → l < T → s 145 (42 * k' + l) = PV C T n k' l)) (N := 0) ?_ ?_ (n - 1) s ⟨by omega, by omega, i2, ?_⟩
  · rintro k t hk ⟨k0, k1, k2, k3⟩ K
    refine b232_119 ⟨fun z => by omega, fun _ => ?_⟩
    refine for_up (X := fun l s => Yx (d + 3) cd232 2 Q 127 [vr 96, vi a, vi n, vi S, vi k, vi l, vt, vt, vt, vt, vt, vt, vt] [] s) (I := fun l w => 0 ≤ l ∧ l ≤ T ∧ Fr [145] s0 w ∧ (∀ j, 42 * (k + 1) ≤ j → w 145 j = t 145 j) ∧ ∀ l', 0 ≤ l' → l' < l → w 145 (42 * k + l') = PV C T n k l') (N := T) ?_ ?_ 0 t ⟨Int.le_refl _, by omega, k2, fun j _ => rfl, fun l m0 m1 => by omega⟩
    · rintro l w hl ⟨m0, m1, m2, m3, m4⟩ KK
      refine b232_127 ⟨fun z => by omega, fun _ => ?_⟩
      refine for_up (X := fun i v => Yx (d + 3) cd232 2 Q 141 [vr 96, vi a, vi n, vi S, vi k, vi l, vl v, vt, vi i, vt, vt, vt, vt] [] w) (I := fun i v => 0 ≤ i ∧ i ≤ T ∧ v = pv (C k l) (PV C T n (k + 1)) i.toNat) (N := T) ?_ ?_ 0 (-1) ⟨Int.le_refl _, by omega, rfl⟩
      · rintro i v hi ⟨j0, j1, rfl⟩ K3
        have e145 : w 145 (42 * (k + 1) + i) = PV C T n (k + 1) i := by
          rw [m3 _ (by omega)]
          exact k3 (k + 1) (by omega) (by omega) i j0 hi
        have cb := hcb k l i hk (by omega)
        have rb := PV_r (T := T) (k := k + 1) (l := i) hcb (by omega) (by omega) hn.2
        have es := pv_s (c := C k l) (R := PV C T n (k + 1)) j0
        refine b232_141 ⟨fun z => by omega, fun _ => hcost (Fg_F (Fr_s m2 (by decide))) hk (by omega) m0 hl j0 hi ⟨_, rfl, b232_158_1 ?_⟩⟩
        rw [e145]
        have keep : ¬ (0 ≤ C k l i ∧ 0 ≤ PV C T n (k + 1) i ∧ (pv (C k l) (PV C T n (k + 1)) i.toNat < 0 ∨ C k l i + PV C T n (k + 1) i < pv (C k l) (PV C T n (k + 1)) i.toNat)) → Yx (d + 3) cd232 2 Q 141 [vr 96, vi a, vi n, vi S, vi k, vi l, vl (pv (C k l) (PV C T n (k + 1)) i.toNat), vt, vi (i + 1), vt, vt, vt, vt] [] w := fun z => K3 _ ⟨by omega, by omega, by rw [es, if_neg z]⟩
        have take : (0 ≤ C k l i ∧ 0 ≤ PV C T n (k + 1) i ∧ (pv (C k l) (PV C T n (k + 1)) i.toNat < 0 ∨ C k l i + PV C T n (k + 1) i < pv (C k l) (PV C T n (k + 1)) i.toNat)) → Yx (d + 3) cd232 2 Q 141 [vr 96, vi a, vi n, vi S, vi k, vi l, vl (C k l i + PV C T n (k + 1) i), vt, vi (i + 1), vt, vt, vt, vt] [] w := fun z => K3 _ ⟨by omega, by omega, by rw [es, if_pos z]⟩
        generalize C k l i = x at *
        generalize PV C T n (k + 1) i = y at *
        generalize pv (C k l) (PV C T n (k + 1)) i.toNat = v at *
        exact ⟨by omega, by omega, by omega, by omega, fun z => ⟨by omega, keep (by omega)⟩, fun z => ⟨fun z2 => ⟨by omega, keep (by omega)⟩, fun z2 => ⟨fun z3 => ⟨by omega, by omega, take (by omega)⟩, fun z3 => ⟨by omega, fun z4 => ⟨by omega, keep (by omega)⟩, fun z4 => ⟨by omega, by omega, take (by omega)⟩⟩⟩⟩⟩
      · rintro i v hi ⟨j0, j1, rfl⟩
        have ei : i = T := by omega
        subst ei
        refine b232_141 ⟨fun _ => ⟨by omega, by omega, by omega, by omega, KK _ ⟨by omega, by omega, Fr_w m2 (by decide), fun j hj => ?_, fun l' p0 p1 => ?_⟩⟩, fun z => by omega⟩
        · rw [sw_s, fu_n (by omega)]
          exact m3 j hj
        · rw [sw_s]
          by_cases e : l' = l
          · rw [e, fu_s, PV_k (by omega)]
          · rw [fu_n (by omega)]
            exact m4 l' p0 (by omega)
    · rintro l w hl ⟨m0, m1, m2, m3, m4⟩
      refine b232_127 ⟨fun _ => ⟨by omega, ?_⟩, fun z => by omega⟩
      rw [show k + (-1) = k - 1 by omega]
      refine K w ⟨by omega, by omega, m2, fun k' p0 p1 l' r0 r1 => ?_⟩
      by_cases e : k' = k
      · rw [e]
        exact m4 l' r0 (by omega)
      · rw [m3 _ (by omega)]
        exact k3 k' (by omega) p1 l' r0 r1
  · rintro k t hk ⟨k0, k1, k2, k3⟩
    have ek : k = -1 := by omega
    subst ek
    have t120 : t 120 = s0 120 := k2 120 (by decide)
    have t96 : t 96 = s0 96 := k2 96 (by decide)
    have eL : t 120 2533 / t 96 13 = l0 := by rw [t120, t96, sth, st13, hL]
    have e145 : t 145 l0 = PV C T n 0 l0 := by
      have := k3 0 (by omega) (by omega) l0 q0 (by omega)
      rwa [Int.mul_zero, Int.zero_add] at this
    have tst : t 120 2533 = σ 120 2533 := by rw [t120, sth]
    have t13 : t 96 13 = σ 96 13 := by rw [t96, st13]
    have th : t 120 2532 = σ 120 2532 := by rw [t120, st2]
    refine b232_119 ⟨fun _ => ?_, fun z => by omega⟩
    rw [eL, e145, th]
    refine ⟨by omega, by omega, by omega, fun hy => ⟨by omega, ?_⟩, fun hy => ?_⟩
    · have eb : bi (¬ PV C T n 0 l0 < 0) = 1 := by
        unfold bi
        rw [if_pos (by omega)]
      rw [eb]
      have f1 : Fg [125, 145] [(96, 42), (96, 43), (96, 44)] s0 (sw (sw (sw t 96 (fu (t 96) 44 1)) 96 (fu (fu (t 96) 44 1) 42 (σ 120 2532))) 96 (fu (fu (fu (t 96) 44 1) 42 (σ 120 2532)) 43 n)) := Fg_f (Fg_f (Fg_f (Fg_F (Fr_s k2 (by decide))) (by decide)) (by decide)) (by decide)
      have v1 : (sw (sw (sw t 96 (fu (t 96) 44 1)) 96 (fu (fu (t 96) 44 1) 42 (σ 120 2532))) 96 (fu (fu (fu (t 96) 44 1) 42 (σ 120 2532)) 43 n)) 96 44 = 1 := by simp [sw, fu]
      have v2 : (sw (sw (sw t 96 (fu (t 96) 44 1)) 96 (fu (fu (t 96) 44 1) 42 (σ 120 2532))) 96 (fu (fu (fu (t 96) 44 1) 42 (σ 120 2532)) 43 n)) 96 43 = n := by simp [sw, fu]
      have v3 : (sw (sw (sw t 96 (fu (t 96) 44 1)) 96 (fu (fu (t 96) 44 1) 42 (σ 120 2532))) 96 (fu (fu (fu (t 96) 44 1) 42 (σ 120 2532)) 43 n)) 96 42 = σ 120 2532 := by simp [sw, fu]
      have v4 : (sw (sw (sw t 96 (fu (t 96) 44 1)) 96 (fu (fu (t 96) 44 1) 42 (σ 120 2532))) 96 (fu (fu (fu (t 96) 44 1) 42 (σ 120 2532)) 43 n)) 145 = t 145 := by simp [sw]
      generalize sw (sw (sw t 96 (fu (t 96) 44 1)) 96 (fu (fu (t 96) 44 1) 42 (σ 120 2532))) 96 (fu (fu (fu (t 96) 44 1) 42 (σ 120 2532)) 43 n) = u at f1 v1 v2 v3 v4
      refine for_up2 (X := fun k qa qb => Yx (d + 3) cd232 2 Q 318 [vr 96, vi a, vi n, vt, vi qa, vl (PV C T n 0 l0), vt, vi k, vt, vt, vt, vt, vt] [] qb) (I := fun k qa qb => 0 ≤ k ∧ k ≤ n ∧ Fr [125] u qb ∧ qa = pL C T n l0 k.toNat ∧ ∀ j, 0 ≤ j → j < k → qb 125 j = σ 96 13 * pL C T n l0 (j + 1).toNat) (N := n) ?_ ?_ 0 (l0) (u) ⟨Int.le_refl _, by omega, Fr_r, rfl, fun j j0 j1 => by omega⟩
      · rintro k x w hk ⟨a0, a1, a2, a3, a4⟩ K
        have xb := pL_b (c := C) (n := n) q0 (show l0 < T by omega) k.toNat
        have yb := pL_b (c := C) (n := n) q0 (show l0 < T by omega) (k + 1).toNat
        have vv := pL_v (c := C) (n := n) q0 (show l0 < T by omega) hy k.toNat (by omega)
        rw [show ((k.toNat : Nat) : Int) = k by omega, ← a3, PV_k hk] at vv
        obtain ⟨m1, m2, m3, m4, m5⟩ := (pv_m (n := T.toNat)).2 vv
        have e3 : pc (C k x) (PV C T n (k + 1)) T.toNat = pL C T n l0 (k + 1).toNat := by rw [pL_s a0, a3]; rfl
        rw [e3] at m1 m2 m3 m4 m5
        have wf : Fg [125, 145] [(96, 42), (96, 43), (96, 44)] s0 w := Fg_t f1 (Fg_F (Fr_s a2 (by decide)))
        have w145 : ∀ k', 0 ≤ k' → k' ≤ n → ∀ l, 0 ≤ l → l < T → w 145 (42 * k' + l) = PV C T n k' l := fun k' p0 p1 l r0 r1 => by
          rw [a2 145 (by decide), v4]
          exact k3 k' (by omega) p1 l r0 r1
        have w13 : w 96 13 = σ 96 13 := by rw [wf 96 13 (by decide) (by decide), st13]
        refine b232_318 ⟨fun z => by omega, fun _ => ?_⟩
        refine for_up (X := fun i (_ : Int) => Yx (d + 3) cd232 2 Q 327 [vr 96, vi a, vi n, vt, vi x, vl (PV C T n 0 l0), vt, vi k, vi i, vt, vt, vt, vt] [] w) (I := fun i _ => 0 ≤ i ∧ i ≤ pL C T n l0 (k + 1).toNat) (N := T) ?_ (fun i _ hi hI => by omega) 0 0 ⟨Int.le_refl _, yb.1⟩
        rintro i - hi ⟨j0, j1⟩ K3
        have e145' := w145 (k + 1) (by omega) (by omega) i j0 hi
        have e145k := w145 k a0 (by omega) x (by omega) (by omega)
        rw [PV_k hk] at e145k
        have cb := hcb k x i a0 hk
        have rb := PV_r (T := T) (k := k + 1) (l := i) hcb (by omega) (by omega) hn.2
        have go : ¬ (0 ≤ C k x i ∧ 0 ≤ PV C T n (k + 1) i ∧ C k x i + PV C T n (k + 1) i = pv (C k x) (PV C T n (k + 1)) T.toNat) → Yx (d + 3) cd232 2 Q 327 [vr 96, vi a, vi n, vt, vi x, vl (PV C T n 0 l0), vt, vi k, vi (i + 1), vt, vt, vt, vt] [] w := fun z => K3 0 ⟨by omega, by
          have : ¬ i = pL C T n l0 (k + 1).toNat := fun e => z (by rw [e]; exact ⟨m1, m2, m3⟩)
          omega⟩
        refine b232_327 (hcost wf a0 hk (by omega) (by omega) j0 hi ⟨_, rfl, b232_338_1 ⟨fun z => ⟨by omega, go (by omega)⟩, fun z => ?_⟩⟩)
        rw [e145']
        refine ⟨by omega, by omega, by omega, by omega, fun z2 => ⟨by omega, go (by omega)⟩, fun z2 => hcost wf a0 hk (by omega) (by omega) j0 hi ⟨_, rfl, b232_374_1 ?_⟩⟩
        rw [e145', e145k, w13]
        refine ⟨by omega, by omega, by omega, by omega, by omega, by omega, by omega, by omega, fun z3 => ?_, fun z3 => ⟨by omega, go (by omega)⟩⟩
        have ei : i = pL C T n l0 (k + 1).toNat := by
          apply Classical.byContradiction
          intro ne
          exact m5 i j0 (by omega) (by omega) (by omega) z3
        have mb : 0 ≤ σ 96 13 * i ∧ σ 96 13 * i ≤ 1000000 := by
          have := st_b (h := σ 96 12) (s := σ 96 13) (x := i) (by omega) (by omega) (by omega) (by omega)
          rw [Int.mul_comm]
          have := Int.mul_nonneg j0 (show 0 ≤ σ 96 13 by omega)
          omega
        refine ⟨by omega, by omega, by omega, K (_) (_) ⟨by omega, by omega, Fr_w a2 (by decide), ei, fun j p0 p1 => ?_⟩⟩
        simp only [sw_s]
        by_cases e : j = k
        · rw [e, fu_s, ei]
        · rw [fu_n e]
          exact a4 j p0 (by omega)
      · rintro k x w hk ⟨a0, a1, a2, a3, a4⟩
        have ek : k = n := by omega
        subst ek
        refine b232_318 ⟨fun _ => kY hy w (Fg_t f1 (Fg_F (Fr_s a2 (by decide)))) ?_ ?_ ?_ a4, fun z => by omega⟩
        · rw [a2 96 (by decide)]; exact v1
        · rw [a2 96 (by decide)]; exact v2
        · rw [a2 96 (by decide)]; exact v3
    · have eb : bi (¬ PV C T n 0 l0 < 0) = 0 := by
        unfold bi
        rw [if_neg (by omega)]
      rw [eb]
      exact kN (by omega) _ (Fg_f (Fg_F (Fr_s k2 (by decide))) (by decide)) (by rw [sw_s, fu_s])
  · intro k' a1 a2 l b0 b1
    have ek : k' = n := by omega
    subst ek
    rw [i3 l b0 (by omega), PV_n]
end
