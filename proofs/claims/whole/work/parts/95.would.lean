section
abbrev fLw : List Nat := [10, 11, 12, 17, 18, 19, 20, 21, 22, 23, 24, 26, 31, 93, 109, 110, 111, 126, 127, 128, 129, 130, 131, 132, 133]
abbrev fPw : List (Nat × Int) := [(1, 2), (1, 3), (16, 9), (16, 10), (16, 11), (96, 0), (96, 46), (96, 47), (96, 48), (96, 49), (96, 50), (96, 51), (96, 52), (96, 53), (96, 54), (96, 55), (96, 56), (96, 57), (96, 58), (96, 66)]
theorem t_would {σ : aW} {a1 a2 a3 a4 : Int} (hN : INet σ) (hv : Vr σ) (hS : ISt 63 σ) (hA : IAr σ) (hR : IRu σ) (hF : IFc σ) : aEv 59 true 126 [vr 0, vi a1, vi a2, vi a3, vi a4] σ (fun r s => aEv 59 true 206 [vr 96, vi a1, vi a2, vi a3, vi a4] s (Tp (fun t => IN1 σ t ∧ IFc t) fLw fPw σ r)) := by
  have hn := hN.1
  unfold Nn at hn
  have hv' := hv
  unfold Vr at hv'
  obtain ⟨r1, r2, B, l, r3, r4, r5, r6, r7, r8, r9, r10⟩ := hR
  obtain ⟨a0, z0, hb⟩ := f_both (a := σ 114 (σ 120 2532)) (B := B) hN hS hA (l := l) ⟨r5, r8, r7, r6, r9⟩ hF rfl
  have fin0 : ∀ r, Tp (fun t => IN1 σ t ∧ IFc t) fLw fPw σ r r (sw σ 96 (fu (σ 96) 0 0)) := fun r => ⟨rfl, ⟨IN1_r hN, IFc_0 hF⟩, Fg_f Fg_r (by decide)⟩
  have no : ¬ ((1 ≤ a1 ∧ a1 < σ 96 5) ∧ ((1 ≤ a2 ∧ a2 ≤ 50) ∧ (0 ≤ a3 ∧ a3 ≤ 99)) ∧ (0 ≤ a4 ∧ a4 ≤ 1)) → aEv 59 true 206 [vr 96, vi a1, vi a2, vi a3, vi a4] σ (Tp (fun t => IN1 σ t ∧ IFc t) fLw fPw σ (some (vi (-2)))) := fun z =>
    e206 (d := 43) (b206_0 ⟨by omega, fun _ => fin0 _, fun y1 => ⟨fun _ => fin0 _, fun y2 => ⟨fun y3 => absurd ⟨by omega, y2, y3⟩ z, fun _ => fin0 _⟩⟩⟩)
  refine e126 (d := 54) (b126_0 ⟨fun z => no (by omega), fun z => ⟨fun y => ⟨fun w => hb 54 _ (fun s f g1 g2 g3 g4 => ⟨rfl, b126_50 (e36 (b36_0 ?_))⟩), fun w => ?_⟩, fun y => no (by omega)⟩⟩)
  · have w7 : σ 96 7 < 16 := by omega
    have s12 : s 1 2 = σ 96 7 := (f 1 2 (by decide) (by decide)).trans hn.2.2.2.2.2.2.1
    have s13 : s 1 3 = σ 1 3 := f 1 3 (by decide) (by decide)
    have s7 : s 96 7 = σ 96 7 := f 96 7 (by decide) (by decide)
    refine ⟨by rw [sw_n (by decide)]; omega, by rw [sw_n (by decide)]; omega, by rw [sw_n (by decide)]; omega, by rw [sw_n (by decide)]; omega, by rw [sw_n (by decide)]; omega, _, rfl, b126_78_1 ?_⟩
    simp only [sw_n (show (1 : Nat) ≠ 93 by decide), sw_n (show (10 : Nat) ≠ 93 by decide), sw_n (show (11 : Nat) ≠ 93 by decide), sw_n (show (12 : Nat) ≠ 93 by decide), s12, s13]
    -- the world with one house more
    have fu1 : Fg [10, 11, 12, 17, 18, 19, 20, 21, 22, 23, 24, 26, 31, 93] [(1, 2), (1, 3), (16, 9), (16, 10), (16, 11)] σ (sw (sw (sw (sw (sw (sw s 93 (aCp (s 19) (s 93) 0 0 16)) 10 (fu (s 10) (σ 96 7) a1)) 11 (fu (s 11) (σ 96 7) a2)) 12 (fu (s 12) (σ 96 7) a3)) 1 (fu (s 1) 3 (σ 1 3 + 1))) 1 (fu (fu (s 1) 3 (σ 1 3 + 1)) 2 (σ 96 7 + 1))) := by
      have := Fg_f (L := [10, 11, 12, 17, 18, 19, 20, 21, 22, 23, 24, 26, 31, 93]) (P := [(1, 2), (1, 3), (16, 9), (16, 10), (16, 11)]) (k := 1) (i := 2) (v := σ 96 7 + 1) (Fg_f (k := 1) (i := 3) (v := σ 1 3 + 1) (Fg_w (k := 12) (f := fu (s 12) (σ 96 7) a3) (Fg_w (k := 11) (f := fu (s 11) (σ 96 7) a2) (Fg_w (k := 10) (f := fu (s 10) (σ 96 7) a1) (Fg_w (k := 93) (f := aCp (s 19) (s 93) 0 0 16) (Fg_m f (by decide) (by decide)) (by decide)) (by decide)) (by decide)) (by decide)) (by decide)) (by decide)
      simp only [sw_s, sw_n (show (1 : Nat) ≠ 12 by decide), sw_n (show (1 : Nat) ≠ 11 by decide), sw_n (show (1 : Nat) ≠ 10 by decide), sw_n (show (1 : Nat) ≠ 93 by decide)] at this
      exact this
    generalize hu : (sw (sw (sw (sw (sw (sw s 93 (aCp (s 19) (s 93) 0 0 16)) 10 (fu (s 10) (σ 96 7) a1)) 11 (fu (s 11) (σ 96 7) a2)) 12 (fu (s 12) (σ 96 7) a3)) 1 (fu (s 1) 3 (σ 1 3 + 1))) 1 (fu (fu (s 1) 3 (σ 1 3 + 1)) 2 (σ 96 7 + 1))) = u at fu1 ⊢
    have u10 : u 10 = fu (σ 10) (σ 96 7) a1 := by rw [← hu, sw_n (by decide), sw_n (by decide), sw_n (by decide), sw_n (by decide), sw_s, Fg_k f (k := 10) rfl rfl]
    have u11 : u 11 = fu (σ 11) (σ 96 7) a2 := by rw [← hu, sw_n (by decide), sw_n (by decide), sw_n (by decide), sw_s, Fg_k f (k := 11) rfl rfl]
    have u12 : u 12 = fu (σ 12) (σ 96 7) a3 := by rw [← hu, sw_n (by decide), sw_n (by decide), sw_s, Fg_k f (k := 12) rfl rfl]
    have u02 : u 1 2 = σ 96 7 + 1 := by rw [← hu, sw_s, fu_s]
    have u03 : u 1 3 = σ 1 3 + 1 := by rw [← hu, sw_s, fu_n (by decide), fu_s]
    have u93 : ∀ h, 0 ≤ h → h < 16 → u 93 h = s 19 h := fun h h0 h1 => by
      rw [← hu, sw_n (by decide), sw_n (by decide), sw_n (by decide), sw_n (by decide), sw_n (by decide), sw_s]
      unfold aCp
      rw [if_pos (by omega)]
      congr 1
      omega
    have uk : ∀ k j, ¬ (k = 1 ∨ k = 10 ∨ k = 11 ∨ k = 12 ∨ k = 93) → u k j = s k j := fun k j hk => by
      rw [← hu, sw_n (by omega), sw_n (by omega), sw_n (by omega), sw_n (by omega), sw_n (by omega), sw_n (by omega)]
    generalize hτ : sw (sw (sw (sw u 109 (fu (σ 109) (σ 96 7) a1)) 110 (fu (σ 110) (σ 96 7) a2)) 111 (fu (σ 111) (σ 96 7) a3)) 96 (fu (u 96) 7 (σ 96 7 + 1)) = τ
    have τk : ∀ k j, ¬ (k = 96 ∨ k = 109 ∨ k = 110 ∨ k = 111) → τ k j = u k j := fun k j hk => by
      rw [← hτ, sw_n (by omega), sw_n (by omega), sw_n (by omega), sw_n (by omega)]
    have τ96 : ∀ j, ¬ j = 7 → τ 96 j = u 96 j := fun j hj => by rw [← hτ, sw_s, fu_n hj]
    have τ7 : τ 96 7 = σ 96 7 + 1 := by rw [← hτ, sw_s, fu_s]
    have τ109 : τ 109 = fu (σ 109) (σ 96 7) a1 := by rw [← hτ, sw_n (by decide), sw_n (by decide), sw_n (by decide), sw_s]
    have τ110 : τ 110 = fu (σ 110) (σ 96 7) a2 := by rw [← hτ, sw_n (by decide), sw_n (by decide), sw_s]
    have τ111 : τ 111 = fu (σ 111) (σ 96 7) a3 := by rw [← hτ, sw_n (by decide), sw_s]
    have τσ : ∀ k j, ¬ (k = 96 ∨ k = 109 ∨ k = 110 ∨ k = 111) → k ∉ [10, 11, 12, 17, 18, 19, 20, 21, 22, 23, 24, 26, 31, 93] → (k, j) ∉ ([(1, 2), (1, 3), (16, 9), (16, 10), (16, 11)] : List (Nat × Int)) → τ k j = σ k j := fun k j h1 h2 h3 => (τk k j h1).trans (fu1 k j h2 h3)
    have u96 : u 96 = σ 96 := Fg_k fu1 rfl rfl
    have hNτ : INet τ := INet_h hN w7 ⟨by omega, by omega⟩ ⟨by omega, by omega⟩ ⟨by omega, by omega⟩ (fun k hk => funext fun j => τσ k j (by omega) (by simp; omega) (by simp; omega)) (τσ 1 0 (by decide) (by decide) (by decide)) (τσ 1 1 (by decide) (by decide) (by decide)) ((τ96 5 (by decide)).trans (by rw [u96])) ((τ96 6 (by decide)).trans (by rw [u96])) ((τk 1 2 (by decide)).trans u02) τ7 ((funext fun j => τk 10 j (by decide)).trans u10) ((funext fun j => τk 11 j (by decide)).trans u11) ((funext fun j => τk 12 j (by decide)).trans u12) τ109 τ110 τ111
    have hGτ : wG τ u := fun k j hk hj => by
      by_cases e96 : k = 96
      · rw [e96, τ96 j (fun q => hj (by rw [e96, q]; decide))]
      · exact (τk k j (by simp at hk; omega)).symm
    obtain ⟨c1, c2, c3, c4, c5, c6, c7, c8⟩ := hS.2.1
    obtain ⟨q1, q2, q3, q4, q5⟩ := hA
    have q6 := q5 (σ 120 2532) (Int.le_refl _) (by omega)
    have u43 : u 43 = σ 43 := Fg_k fu1 rfl rfl
    have u44 : u 44 = σ 44 := Fg_k fu1 rfl rfl
    have u63 : u 63 = σ 63 := Fg_k fu1 rfl rfl
    have uR : rSu u l := by
      unfold rSu
      rw [Fg_k fu1 (k := 25) rfl rfl, Fg_k fu1 (k := 27) rfl rfl, Fg_k fu1 (k := 28) rfl rfl, Fg_k fu1 (k := 29) rfl rfl, Fg_k fu1 (k := 30) rfl rfl]
      exact ⟨r5, r8, r7, r6, r9⟩
    have u169 : u 16 9 = σ 1 3 := ((uk 16 9 (by decide)).trans g2).trans s13
    refine c13 (d := 54) (e := mEf (-1) σ) (a := σ 114 (σ 120 2532)) hNτ hGτ (by rw [u43, u63]; omega) (by rw [u43, u44, u63, c1]; exact q6.1.symm) a0 ⟨rfl, by rw [u63, c1]; rfl, by rw [u63, c4]; rfl, by rw [u63, c7]; rfl, mEf_0.1, mEf_0.2.1, mEf_0.2.2⟩ uR (fun x1 => absurd x1 (by omega)) (fun s3 f3 k1 k2 k3 k4 _ => ⟨rfl, b126_91 (e37 (b37_0 ?_))⟩)
    have t12 : s3 1 2 = σ 96 7 + 1 := (f3 1 2 (by decide) (by decide)).trans u02
    have t13 : s3 1 3 = σ 1 3 + 1 := (f3 1 3 (by decide) (by decide)).trans u03
    refine ⟨by omega, by omega, rfl, ?_⟩
    rw [t12, t13]
    have f4 : Fg [10, 11, 12, 17, 18, 19, 20, 21, 22, 23, 24, 26, 31, 93] [(1, 2), (1, 3), (16, 9), (16, 10), (16, 11)] σ (sw (sw s3 1 (fu (s3 1) 2 (σ 96 7 + 1 - 1))) 1 (fu (fu (s3 1) 2 (σ 96 7 + 1 - 1)) 3 (σ 1 3 + 1 + 1))) := by
      have := Fg_f (L := [10, 11, 12, 17, 18, 19, 20, 21, 22, 23, 24, 26, 31, 93]) (P := [(1, 2), (1, 3), (16, 9), (16, 10), (16, 11)]) (k := 1) (i := 3) (v := σ 1 3 + 1 + 1) (Fg_f (k := 1) (i := 2) (v := σ 96 7 + 1 - 1) (Fg_t fu1 (Fg_m f3 (by decide) (by decide))) (by decide)) (by decide)
      simp only [sw_s] at this
      exact this
    generalize hw : (sw (sw s3 1 (fu (s3 1) 2 (σ 96 7 + 1 - 1))) 1 (fu (fu (s3 1) 2 (σ 96 7 + 1 - 1)) 3 (σ 1 3 + 1 + 1))) = v at f4 ⊢
    have v12 : v 1 2 = σ 96 7 := by rw [← hw, sw_s, fu_n (by decide), fu_s]; omega
    have v13 : v 1 3 = σ 1 3 + 2 := by rw [← hw, sw_s, fu_s]; omega
    have vk : ∀ k, ¬ k = 1 → v k = s3 k := fun k hk => by rw [← hw, sw_n hk, sw_n hk]
    have v7 : v 96 7 = σ 96 7 := f4 96 7 (by decide) (by decide)
    have v5 : v 96 5 = σ 96 5 := f4 96 5 (by decide) (by decide)
    -- what the reference does
    have ref : ∀ ans : Int, (¬ a4 = 0 → ans = s3 19 (σ 96 7)) → (a4 = 0 → ans = cP (u 93) (s3 19) (σ 96 7).toNat) → aEv 59 true 206 [vr 96, vi a1, vi a2, vi a3, vi a4] v (Tp (fun t => IN1 σ t ∧ IFc t) fLw fPw σ (some (vi ans))) := by
      intro ans A1 A2
      have f5 : Fg fLw fPw σ (sw v 96 (fu (v 96) 0 0)) := Fg_f (Fg_m f4 (by decide) (by decide)) (by decide)
      have f5' : Fg [10, 11, 12, 17, 18, 19, 20, 21, 22, 23, 24, 26, 31, 93] [(1, 2), (1, 3), (16, 9), (16, 10), (16, 11), (96, 0)] σ (sw v 96 (fu (v 96) 0 0)) := Fg_f (Fg_m f4 (by decide) (by decide)) (by decide)
      have hM : ∀ x, x 123 = σ 123 → x 124 = σ 124 → mSt x B l := fun x e1 e2 => by
        unfold mSt
        rw [e1, e2]
        exact ⟨r1, r2, r3, r4⟩
      refine e206 (d := 43) (b206_0 ⟨by omega, fun y => absurd (by omega) y, fun _ => ⟨fun y => absurd ⟨by omega, by omega⟩ y, fun _ => ⟨fun _ => ⟨fun _ => ?_, fun y => by omega⟩, fun y' => absurd y y'⟩⟩⟩)
      refine m203 (d := 19) (B := B) (e := mEf (-1) σ) (l := l) hN (mG_f mG_r f5' (by decide) (by decide) (by decide) (by decide) (by decide) (by decide)) v7 z0 rfl a0 (hM _ (Fg_k f5' rfl rfl) (Fg_k f5' rfl rfl)) (mEf_h z0.1 z0.2 (Or.inl rfl) (Fg_k f5' rfl rfl) (Fg_k f5' rfl rfl) (Fg_k f5' rfl rfl) (Fg_k f5' rfl rfl)) (fun s5 f6 m1 => ⟨rfl, b206_63 ?_⟩)
      have s57 : s5 96 7 = σ 96 7 := (f6 96 7 (by decide) (by decide)).trans (f5' 96 7 (by decide) (by decide))
      refine c206c (n := σ 96 7) (by omega) w7 (fun s6 f7 h133 => ?_) (σ 96 7).toNat 0 s5 (Int.le_refl _) (by omega) s57 Fr_r (fun i i0 i1 => by omega)
      have f67 : Fg [126, 127, 128, 129, 130, 131, 132, 133] ((96, 66) :: mPY) (sw v 96 (fu (v 96) 0 0)) s6 := Fg_t (Fg_m f6 (by decide) (by decide)) (Fg_F (Fr_s f7 (by decide)))
      have f8 : Fg [10, 11, 12, 17, 18, 19, 20, 21, 22, 23, 24, 26, 31, 93, 126, 127, 128, 129, 130, 131, 132, 133] fPw σ s6 := Fg_t (Fg_m f5' (by decide) (by decide)) (Fg_m f67 (by decide) (by decide))
      have s67 : s6 96 7 = σ 96 7 := (f7 96 (by decide) ▸ s57)
      rw [s67]
      have e109 : s6 109 = σ 109 := Fg_k f8 rfl rfl
      have e110 : s6 110 = σ 110 := Fg_k f8 rfl rfl
      have e111 : s6 111 = σ 111 := Fg_k f8 rfl rfl
      rw [e109, e110, e111]
      have f9 : Fg fLw fPw σ (sw (sw (sw s6 109 (fu (σ 109) (σ 96 7) a1)) 110 (fu (σ 110) (σ 96 7) a2)) 111 (fu (σ 111) (σ 96 7) a3)) := Fg_w (Fg_w (Fg_w (Fg_m f8 (by decide) (by decide)) (by decide)) (by decide)) (by decide)
      generalize hx : (sw (sw (sw s6 109 (fu (σ 109) (σ 96 7) a1)) 110 (fu (σ 110) (σ 96 7) a2)) 111 (fu (σ 111) (σ 96 7) a3)) = x at f9 ⊢
      have x109 : x 109 = fu (σ 109) (σ 96 7) a1 := by rw [← hx, sw_n (by decide), sw_n (by decide), sw_s]
      have x110 : x 110 = fu (σ 110) (σ 96 7) a2 := by rw [← hx, sw_n (by decide), sw_s]
      have x111 : x 111 = fu (σ 111) (σ 96 7) a3 := by rw [← hx, sw_s]
      have xk : ∀ k, ¬ (k = 109 ∨ k = 110 ∨ k = 111) → x k = s6 k := fun k hk => by rw [← hx, sw_n (by omega), sw_n (by omega), sw_n (by omega)]
      have τσk : ∀ k, ¬ (k = 96 ∨ k = 109 ∨ k = 110 ∨ k = 111) → k ∉ [10, 11, 12, 17, 18, 19, 20, 21, 22, 23, 24, 26, 31, 93] → ¬ k = 1 → ¬ k = 16 → τ k = σ k := fun k h1 h2 h3 h4 => funext fun j => τσ k j h1 h2 (by simp; omega)
      have hGx : mG τ x := by
        refine ⟨?_, ?_, ?_, ?_, ?_, ?_, x109.trans τ109.symm, x110.trans τ110.symm, x111.trans τ111.symm, ?_, ?_, ?_, ?_⟩
        · rw [Fg_k f9 (k := 101) rfl rfl, τσk 101 (by decide) (by decide) (by decide) (by decide)]
        · rw [Fg_k f9 (k := 102) rfl rfl, τσk 102 (by decide) (by decide) (by decide) (by decide)]
        · rw [Fg_k f9 (k := 103) rfl rfl, τσk 103 (by decide) (by decide) (by decide) (by decide)]
        · rw [Fg_k f9 (k := 104) rfl rfl, τσk 104 (by decide) (by decide) (by decide) (by decide)]
        · rw [Fg_k f9 (k := 107) rfl rfl, τσk 107 (by decide) (by decide) (by decide) (by decide)]
        · rw [Fg_k f9 (k := 108) rfl rfl, τσk 108 (by decide) (by decide) (by decide) (by decide)]
        · rw [Fg_k f9 (k := 114) rfl rfl, τσk 114 (by decide) (by decide) (by decide) (by decide)]
        · rw [f9 96 5 (by decide) (by decide), τ96 5 (by decide), u96]
        · rw [f9 96 6 (by decide) (by decide), τ96 6 (by decide), u96]
        · rw [Fg_k f9 (k := 120) rfl rfl, τσk 120 (by decide) (by decide) (by decide) (by decide)]
      have τ120 : τ 120 = σ 120 := τσk 120 (by decide) (by decide) (by decide) (by decide)
      have τ114 : τ 114 = σ 114 := τσk 114 (by decide) (by decide) (by decide) (by decide)
      have hEx : mEh (mEf (-1) σ) (-1) x := by
        have e1 : x 120 = σ 120 := Fg_k f9 rfl rfl
        have e2 : x 114 = σ 114 := Fg_k f9 rfl rfl
        unfold mEh
        rw [e1, e2]
        have bz : bi (¬ (-1 : Int) = (-1)) = 0 := bi_f (fun z => z rfl)
        rw [if_pos bz, if_pos bz, if_pos bz]
        exact ⟨z0.1, z0.2, Or.inl rfl, rfl, rfl, rfl, rfl, mEf_0.1, mEf_0.2.1, mEf_0.2.2⟩
      refine m203 (d := 19) (B := B) (e := mEf (-1) σ) (l := l) (a := σ 114 (σ 120 2532)) hNτ hGx τ7.symm (by rw [τ120]; exact z0) (by rw [τ120, τ114]) a0 (hM _ (Fg_k f9 rfl rfl) (Fg_k f9 rfl rfl)) hEx (fun t ft m2 => ⟨rfl, ?_⟩)
      have fa : Fg fLw fPw σ t := Fg_t f9 (Fg_m ft (by decide) (by decide))
      have t7 : t 96 7 = σ 96 7 := (ft 96 7 (by decide) (by decide)).trans (f9 96 7 (by decide) (by decide))
      have qv : ∀ k j, ¬ k = 96 → ¬ (126 ≤ k ∧ k ≤ 133) → ¬ (109 ≤ k ∧ k ≤ 111) → t k j = v k j := fun k j h1 h2 h3 => (ft k j (by simp; omega) (by simp; omega)).trans (by rw [xk k (by omega), f67 k j (by simp; omega) (by simp; omega), sw_n h1])
      have t13' : t 1 3 = σ 1 3 + 2 := (qv 1 3 (by decide) (by decide) (by decide)).trans v13
      have hIN : IN1 σ t ∧ IFc t := by
        have tk : ∀ k, ¬ k = 96 → k ∉ fLw → ¬ k = 1 → ¬ k = 16 → t k = σ k := fun k h1 h2 h3 h4 => funext fun j => fa k j h2 (by simp; omega)
        refine ⟨⟨INet_w hN (fun k hk => tk k (by omega) (by simp; omega) (by omega) (by omega)) (fa 1 0 (by decide) (by decide)) (fa 1 1 (by decide) (by decide)) (fa 96 5 (by decide) (by decide)) (fa 96 6 (by decide) (by decide)) (((qv 1 2 (by decide) (by decide) (by decide)).trans v12).trans hn.2.2.2.2.2.2.1.symm) t7 (fun k h hk hh => ?_), by omega, Or.inl (by omega)⟩, ?_, fun z => ?_⟩
        · rcases hk with hk | hk
          · have e1 : t k h = u k h := (qv k h (by omega) (by omega) (by omega)).trans (by rw [vk k (by omega), f3 k h (by simp; omega) (by simp; omega)])
            have hk' : k = 10 ∨ k = 11 ∨ k = 12 := by omega
            rcases hk' with z | z | z <;> subst z
            · rw [e1, u10, fu_n (by omega)]
            · rw [e1, u11, fu_n (by omega)]
            · rw [e1, u12, fu_n (by omega)]
          · have e1 : t k h = x k h := ft k h (by simp; omega) (by simp; omega)
            have hk' : k = 109 ∨ k = 110 ∨ k = 111 := by omega
            rcases hk' with z | z | z <;> subst z
            · rw [e1, x109, fu_n (by omega)]
            · rw [e1, x110, fu_n (by omega)]
            · rw [e1, x111, fu_n (by omega)]
        · rw [qv 16 9 (by decide) (by decide) (by decide), vk 16 (by decide), k2, t13]
          omega
        · rw [qv 16 9 (by decide) (by decide) (by decide), vk 16 (by decide), k2, t13] at z
          omega
      refine b206_135 ⟨fun w4 => ?_, fun w4 => ⟨by omega, ?_, hIN, fa⟩⟩
      · have e4 : a4 = 0 := by omega
        have hc := c206p (d := 43) (s := t) (n := (σ 96 7).toNat) (Q := Tp (fun t => IN1 σ t ∧ IFc t) fLw fPw σ (some (vi ans))) (by omega) (by omega) ⟨?_, hIN, fa⟩ (σ 96 7).toNat 0 (by omega)
        · exact hc
        · rw [A2 e4]
          congr 2
          refine cP_c (fun h h0 h1 => ⟨?_, ?_⟩)
          · have hh : h < σ 96 7 := by omega
            rw [ft 133 h (by decide) (by simp), xk 133 (by decide), h133 h h0 hh, (m1.2.1 h h0 hh).1, u93 h h0 (by omega), (g1.2.1 h h0 hh).2]
          · have hh : h < σ 96 7 := by omega
            rw [(m2.2.1 h h0 (by omega)).1, (k1.2.1 h h0 (by omega)).2]
      · rw [A1 (by omega), t7, (m2.2.1 (σ 96 7) (by omega) (by omega)).1, (k1.2.1 (σ 96 7) (by omega) (by omega)).2]
    refine b126_98 ⟨fun w4 => ⟨by omega, ?_⟩, fun w4 => ?_⟩
    · rw [vk 19 (by decide)]
      exact ref _ (fun _ => rfl) (fun q => absurd q w4)
    · have e1 : (σ 96 7) = (((σ 96 7).toNat : Nat) : Int) := by omega
      rw [e1]
      refine e147 (b147_0 (c147 (s := v) (n := (σ 96 7).toNat) (by omega) ⟨_, rfl, b126_109_1 ?_⟩ (σ 96 7).toNat 0 (by omega)))
      refine ref _ (fun q => absurd w4 q) (fun _ => ?_)
      rw [vk 93 (by decide), vk 19 (by decide), Fg_k f3 (k := 93) rfl rfl]
  · exact e206 (d := 43) (b206_0 ⟨by omega, fun y1 => absurd (by omega) y1, fun _ => ⟨fun y2 => absurd ⟨by omega, by omega⟩ y2, fun _ => ⟨fun _ => ⟨fun y3 => absurd (by omega) y3, fun _ => fin0 _⟩, fun y3 => absurd y y3⟩⟩⟩)
end
