section
/-! rules: the reference's tokens -/
def mTx (B : Int → Int) (n : Int) (s : aW) : Prop := s 96 47 = n ∧ 0 ≤ n ∧ n ≤ 300 ∧ 0 ≤ s 96 46 ∧ s 96 46 ≤ 300 ∧ ∀ i, 0 ≤ i → i < n → B i = s 123 (s 96 46 + i) % 256 ∧ -128 ≤ s 123 (s 96 46 + i) ∧ s 123 (s 96 46 + i) < 128
theorem mTx_g {B : Int → Int} {n : Int} {P : List (Nat × Int)} {s t : aW} (h : mTx B n s) (hF : Fg [] P s t) (h1 : (96, 46) ∉ P) (h2 : (96, 47) ∉ P) (h3 : P.all (fun q => q.1 != 123) = true) : mTx B n t := by
  have a1 : t 96 46 = s 96 46 := hF 96 46 (by simp) h1
  have a2 : t 96 47 = s 96 47 := hF 96 47 (by simp) h2
  have a3 : t 123 = s 123 := Fg_k hF rfl h3
  unfold mTx
  rw [a1, a2, a3]
  exact h
theorem mCh {B : Int → Int} {n : Int} {s : aW} {i : Int} (h : mTx B n s) (i0 : 0 ≤ i) : ((if (s 96 47) ≤ i then 0 else (s 123 ((s 96 46) + i))) = 0 ∧ n ≤ i) ∨ (i < n ∧ (if (s 96 47) ≤ i then 0 else (s 123 ((s 96 46) + i))) % 256 = B i ∧ -128 ≤ (if (s 96 47) ≤ i then 0 else (s 123 ((s 96 46) + i))) ∧ (if (s 96 47) ≤ i then 0 else (s 123 ((s 96 46) + i))) < 128) := by
  rw [h.1]
  by_cases e : n ≤ i
  · rw [if_pos e]; exact Or.inl ⟨rfl, e⟩
  · rw [if_neg e]
    have := h.2.2.2.2.2 i i0 (by omega)
    exact Or.inr ⟨by omega, this.1.symm, this.2⟩
theorem mSd {B : Int → Int} {n : Int} {s : aW} {i : Int} (h : mTx B n s) (i0 : 0 ≤ i) : ((s 96 47) ≤ i ∨ (0 ≤ ((s 96 46) + i) ∧ ((s 96 46) + i) < 600)) := by
  have := h.1
  have := h.2
  by_cases e : n ≤ i
  · exact Or.inl (by omega)
  · exact Or.inr (by omega)
theorem c183a {d : Nat} {Q : aQ} {B : Int → Int} {n : Int} : ∀ (f : Nat) (s : aW), mTx B n s → 0 ≤ s 96 48 → n - s 96 48 ≤ f → (∀ s', Fg [] [(96, 48)] s s' → s 96 48 ≤ s' 96 48 → pLe B n (s' 96 48) = false → (∀ x, s 96 48 ≤ x → x < s' 96 48 → pLe B n x = true) → Q none s') → Yx (d + 1) cd183 0 Q 98 [vr 96, vt] [] s
  | f, s, hx, h0, hf, k => by
    have hc := mCh hx h0
    have hn := hx.2.2.1
    refine b183_98 ⟨mSd hx h0, fun nl => ?_, fun l => ?_⟩
    · refine k s Fg_r (Int.le_refl _) ?_ (fun x _ _ => by omega)
      unfold pLe
      apply decide_eq_false
      omega
    · have hl : pLe B n (s 96 48) = true := by
        unfold pLe
        apply decide_eq_true
        omega
      refine ⟨by omega, ?_⟩
      cases f with
      | zero => omega
      | succ f =>
        have e8 : sw s 96 (fu (s 96) 48 (s 96 48 + 1)) 96 48 = s 96 48 + 1 := by rw [sw_s, fu_s]
        have f1 : Fg [] [(96, 48)] s (sw s 96 (fu (s 96) 48 (s 96 48 + 1))) := Fg_f Fg_r (by decide)
        refine c183a f _ (mTx_g hx f1 (by decide) (by decide) rfl) (by omega) (by omega) (fun s' f2 g1 g2 g3 => ?_)
        rw [e8] at g1 g3
        refine k s' (Fg_t f1 f2) (by omega) g2 (fun x x0 x1 => ?_)
        by_cases e : x = s 96 48
        · rw [e]; exact hl
        · exact g3 x (by omega) x1
theorem c183b {d : Nat} {Q : aQ} {B : Int → Int} {n i : Int} (i0 : 0 ≤ i) : ∀ (f : Nat) (s : aW), mTx B n s → i ≤ s 96 48 → n - s 96 48 ≤ f → (∀ x, i ≤ x → x < s 96 48 → pDi B n x = true) → 0 ≤ s 96 51 → s 96 51 ≤ 99999 → kNu B i (s 96 48 - i).toNat = min 10000 (s 96 51) → s 96 50 = 2 → (∀ s', Fg [] [(96, 48), (96, 50), (96, 51)] s s' → i ≤ s' 96 48 → pDi B n (s' 96 48) = false → (∀ x, i ≤ x → x < s' 96 48 → pDi B n x = true) → (9999 < kNu B i (s' 96 48 - i).toNat → s' 96 50 = 4) → (¬ 9999 < kNu B i (s' 96 48 - i).toNat → s' 96 50 = 2 ∧ s' 96 51 = kNu B i (s' 96 48 - i).toNat) → Q none s') → Yx (d + 1) cd183 0 Q 142 [vr 96, vt] [] s
  | f, s, hx, h0, hf, hd, m0, m1, hm, h2, k => by
    have hc := mCh hx (show 0 ≤ s 96 48 by omega)
    have hn := hx.2.2.1
    have hs := mSd hx (show 0 ≤ s 96 48 by omega)
    refine b183_142 ⟨hs, fun nl => ?_, fun l => ?_⟩
    · have hl : pDi B n (s 96 48) = false := by
        unfold pDi
        apply decide_eq_false
        omega
      refine ⟨fun g => k s Fg_r h0 hl hd (fun z => by omega) (fun z => ⟨h2, by omega⟩), fun g => ?_⟩
      have e8 : sw s 96 (fu (s 96) 50 4) 96 48 = s 96 48 := by rw [sw_s, fu_n (by decide)]
      refine k _ (Fg_f Fg_r (by decide)) (by rw [e8]; exact h0) (by rw [e8]; exact hl) (by rw [e8]; exact hd) (fun _ => by rw [sw_s, fu_s]) (fun z => ?_)
      rw [e8] at z
      omega
    · have hl : pDi B n (s 96 48) = true := by
        unfold pDi
        apply decide_eq_true
        omega
      have eB : (if (s 96 47) ≤ (s 96 48) then 0 else (s 123 ((s 96 46) + (s 96 48)))) = B (s 96 48) := by omega
      have eN : kNu B i (s 96 48 + 1 - i).toNat = min 10000 (kNu B i (s 96 48 - i).toNat * 10 + B (s 96 48) - 48) := by
        rw [show (s 96 48 + 1 - i).toNat = (s 96 48 - i).toNat + 1 by omega]
        show min 10000 (kNu B i (s 96 48 - i).toNat * 10 + B (i + (((s 96 48 - i).toNat : Nat) : Int)) - 48) = _
        rw [show i + (((s 96 48 - i).toNat : Nat) : Int) = s 96 48 by omega]
      have hd' : ∀ x, i ≤ x → x < s 96 48 + 1 → pDi B n x = true := fun x x0 x1 => by
        by_cases e : x = s 96 48
        · rw [e]; exact hl
        · exact hd x x0 (by omega)
      cases f with
      | zero => omega
      | succ f =>
        have go : ∀ v : Int, 0 ≤ v → v ≤ 99999 → kNu B i (s 96 48 + 1 - i).toNat = min 10000 v → Yx (d + 1) cd183 0 Q 142 [vr 96, vt] [] (sw (sw s 96 (fu (s 96) 51 v)) 96 (fu (fu (s 96) 51 v) 48 ((s 96 48) + 1))) := fun v v0 v1 hv => by
          have f1 : Fg [] [(96, 48), (96, 50), (96, 51)] s (sw (sw s 96 (fu (s 96) 51 v)) 96 (fu (fu (s 96) 51 v) 48 ((s 96 48) + 1))) := by
            have := Fg_f (L := []) (P := [(96, 48), (96, 50), (96, 51)]) (σ := s) (s := sw s 96 (fu (s 96) 51 v)) (k := 96) (i := 48) (v := s 96 48 + 1) (Fg_f Fg_r (by decide)) (by decide)
            rw [sw_s] at this
            exact this
          have e8 : (sw (sw s 96 (fu (s 96) 51 v)) 96 (fu (fu (s 96) 51 v) 48 ((s 96 48) + 1))) 96 48 = s 96 48 + 1 := by rw [sw_s, fu_s]
          have e5 : (sw (sw s 96 (fu (s 96) 51 v)) 96 (fu (fu (s 96) 51 v) 48 ((s 96 48) + 1))) 96 51 = v := by rw [sw_s, fu_n (by decide), fu_s]
          have e0 : (sw (sw s 96 (fu (s 96) 51 v)) 96 (fu (fu (s 96) 51 v) 48 ((s 96 48) + 1))) 96 50 = 2 := by rw [sw_s, fu_n (by decide), fu_n (by decide)]; exact h2
          refine c183b i0 f _ (mTx_g hx f1 (by decide) (by decide) rfl) (by omega) (by omega) (by rw [e8]; exact hd') (by omega) (by omega) (by rw [e8, e5]; exact hv) e0 (fun s' f2 g1 g2 g3 g4 g5 => ?_)
          exact k s' (Fg_t f1 f2) g1 g2 g3 g4 g5
        refine ⟨fun g => ⟨by omega, go 10000 (by omega) (by omega) (by omega)⟩, fun g => ⟨by omega, hs, by omega, by omega, by omega, go _ (by omega) (by omega) (by omega)⟩⟩
def mSo (B : Int → Int) (n i : Int) (s : aW) : Prop := (97 ≤ B i ∧ B i ≤ 122 → s 96 50 = 1) ∧ (48 ≤ B i ∧ B i ≤ 57 → (9999 < kNu B i (kEn B n i - i).toNat → s 96 50 = 4) ∧ (¬ 9999 < kNu B i (kEn B n i - i).toNat → s 96 50 = 2 ∧ s 96 51 = kNu B i (kEn B n i - i).toNat)) ∧ (¬ (97 ≤ B i ∧ B i ≤ 122) → ¬ (48 ≤ B i ∧ B i ≤ 57) → (kSg (B i) → s 96 50 = 3) ∧ (¬ kSg (B i) → s 96 50 = 4))
theorem c183 {d : Nat} {Q : aQ} {B : Int → Int} {n : Int} {s0 : aW} (h00 : 0 ≤ s0 96 48) (h01 : s0 96 48 ≤ n) (k : ∀ s', Fg [] [(96, 48), (96, 49), (96, 50), (96, 51)] s0 s' → s' 96 49 = kNx B n (s0 96 48) → (kNx B n (s0 96 48) = n → s' 96 50 = 0 ∧ s' 96 48 = n) → (kNx B n (s0 96 48) < n → s' 96 48 = kEn B n (kNx B n (s0 96 48)) ∧ mSo B n (kNx B n (s0 96 48)) s') → Q none s') : ∀ (f : Nat) (s : aW), mTx B n s → s0 96 48 ≤ s 96 48 → s 96 48 ≤ n → n - s 96 48 ≤ f → Fg [] [(96, 48)] s0 s → (∀ x, s0 96 48 ≤ x → x < s 96 48 → pBl B n x = true) → Yx (d + 1) cd183 0 Q 0 [vr 96, vt] [] s
  | f, s, hx, h0, h1, hf, f0, hb => by
    have hc := mCh hx (show 0 ≤ s 96 48 by omega)
    have hn := hx.2.2.1
    have hs := mSd hx (show 0 ≤ s 96 48 by omega)
    have h7 := hx.1
    have fin : (s 96 48 = n ∨ ¬ (B (s 96 48) = 32 ∨ B (s 96 48) = 10)) → kNx B n (s0 96 48) = s 96 48 := fun z => by
      refine (sk_u pBl_n (by omega) h0 ?_ hb).symm
      unfold pBl
      apply decide_eq_false
      omega
    have fE : s 96 48 = n → Q none (sw (sw s 96 (fu (s 96) 49 (s 96 48))) 96 (fu (fu (s 96) 49 (s 96 48)) 50 0)) := fun z => by
      have e := fin (Or.inl z)
      have f1 := Fg_f (L := []) (P := [(96, 48), (96, 49), (96, 50), (96, 51)]) (σ := s0) (s := sw s 96 (fu (s 96) 49 (s 96 48))) (k := 96) (i := 50) (v := 0) (Fg_f (Fg_m f0 (by decide) (by decide)) (by decide)) (by decide)
      rw [sw_s] at f1
      refine k _ f1 (by rw [sw_s, fu_n (by decide), fu_s, e]) (fun _ => ⟨by rw [sw_s, fu_s], by rw [sw_s, fu_n (by decide), fu_n (by decide)]; exact z⟩) (fun y => by omega)
    have go : s 96 48 < n → (B (s 96 48) = 32 ∨ B (s 96 48) = 10) → Yx (d + 1) cd183 0 Q 0 [vr 96, vt] [] (sw s 96 (fu (s 96) 48 ((s 96 48) + 1))) := fun z y => by
      cases f with
      | zero => omega
      | succ f =>
        have e8 : sw s 96 (fu (s 96) 48 (s 96 48 + 1)) 96 48 = s 96 48 + 1 := by rw [sw_s, fu_s]
        have f1 : Fg [] [(96, 48)] s (sw s 96 (fu (s 96) 48 (s 96 48 + 1))) := Fg_f Fg_r (by decide)
        refine c183 h00 h01 k f _ (mTx_g hx f1 (by decide) (by decide) rfl) (by omega) (by omega) (by omega) (Fg_t f0 f1) (fun x x0 x1 => ?_)
        rw [e8] at x1
        by_cases e : x = s 96 48
        · rw [e]
          unfold pBl
          apply decide_eq_true
          exact ⟨z, y⟩
        · exact hb x x0 (by omega)
    have XX : s 96 48 < n → ¬ (B (s 96 48) = 32 ∨ B (s 96 48) = 10) → ((¬ (97 ≤ (if (s 96 47) ≤ (s 96 48) then 0 else (s 123 ((s 96 46) + (s 96 48)))) ∧ (if (s 96 47) ≤ (s 96 48) then 0 else (s 123 ((s 96 46) + (s 96 48)))) ≤ 122)) → ((¬ (48 ≤ (if (s 96 47) ≤ (s 96 48) then 0 else (s 123 ((s 96 46) + (s 96 48)))) ∧ (if (s 96 47) ≤ (s 96 48) then 0 else (s 123 ((s 96 46) + (s 96 48)))) ≤ 57)) → (-2147483648 ≤ ((s 96 48) + 1) ∧ ((s 96 48) + 1) < 2147483648) ∧ Q none (sw (sw (sw s 96 (fu (s 96) 49 (s 96 48))) 96 (fu (fu (s 96) 49 (s 96 48)) 50 (if ¬ ((if (s 96 47) ≤ (s 96 48) then 0 else (s 123 ((s 96 46) + (s 96 48)))) = 43 ∨ (if (s 96 47) ≤ (s 96 48) then 0 else (s 123 ((s 96 46) + (s 96 48)))) = 45 ∨ (if (s 96 47) ≤ (s 96 48) then 0 else (s 123 ((s 96 46) + (s 96 48)))) = 42 ∨ (if (s 96 47) ≤ (s 96 48) then 0 else (s 123 ((s 96 46) + (s 96 48)))) = 47 ∨ (if (s 96 47) ≤ (s 96 48) then 0 else (s 123 ((s 96 46) + (s 96 48)))) = 40 ∨ (if (s 96 47) ≤ (s 96 48) then 0 else (s 123 ((s 96 46) + (s 96 48)))) = 41 ∨ (if (s 96 47) ≤ (s 96 48) then 0 else (s 123 ((s 96 46) + (s 96 48)))) = 60 ∨ (if (s 96 47) ≤ (s 96 48) then 0 else (s 123 ((s 96 46) + (s 96 48)))) = 62 ∨ (if (s 96 47) ≤ (s 96 48) then 0 else (s 123 ((s 96 46) + (s 96 48)))) = 61 ∨ (if (s 96 47) ≤ (s 96 48) then 0 else (s 123 ((s 96 46) + (s 96 48)))) = 59) then 4 else 3))) 96 (fu (fu (fu (s 96) 49 (s 96 48)) 50 (if ¬ ((if (s 96 47) ≤ (s 96 48) then 0 else (s 123 ((s 96 46) + (s 96 48)))) = 43 ∨ (if (s 96 47) ≤ (s 96 48) then 0 else (s 123 ((s 96 46) + (s 96 48)))) = 45 ∨ (if (s 96 47) ≤ (s 96 48) then 0 else (s 123 ((s 96 46) + (s 96 48)))) = 42 ∨ (if (s 96 47) ≤ (s 96 48) then 0 else (s 123 ((s 96 46) + (s 96 48)))) = 47 ∨ (if (s 96 47) ≤ (s 96 48) then 0 else (s 123 ((s 96 46) + (s 96 48)))) = 40 ∨ (if (s 96 47) ≤ (s 96 48) then 0 else (s 123 ((s 96 46) + (s 96 48)))) = 41 ∨ (if (s 96 47) ≤ (s 96 48) then 0 else (s 123 ((s 96 46) + (s 96 48)))) = 60 ∨ (if (s 96 47) ≤ (s 96 48) then 0 else (s 123 ((s 96 46) + (s 96 48)))) = 62 ∨ (if (s 96 47) ≤ (s 96 48) then 0 else (s 123 ((s 96 46) + (s 96 48)))) = 61 ∨ (if (s 96 47) ≤ (s 96 48) then 0 else (s 123 ((s 96 46) + (s 96 48)))) = 59) then 4 else 3)) 48 ((s 96 48) + 1)))) ∧ ((48 ≤ (if (s 96 47) ≤ (s 96 48) then 0 else (s 123 ((s 96 46) + (s 96 48)))) ∧ (if (s 96 47) ≤ (s 96 48) then 0 else (s 123 ((s 96 46) + (s 96 48)))) ≤ 57) → Yx (d + 1) cd183 0 Q 142 [vr 96, vt] [] (sw (sw (sw s 96 (fu (s 96) 49 (s 96 48))) 96 (fu (fu (s 96) 49 (s 96 48)) 50 2)) 96 (fu (fu (fu (s 96) 49 (s 96 48)) 50 2) 51 0)))) ∧ ((97 ≤ (if (s 96 47) ≤ (s 96 48) then 0 else (s 123 ((s 96 46) + (s 96 48)))) ∧ (if (s 96 47) ≤ (s 96 48) then 0 else (s 123 ((s 96 46) + (s 96 48)))) ≤ 122) → Yx (d + 1) cd183 0 Q 98 [vr 96, vt] [] (sw (sw s 96 (fu (s 96) 49 (s 96 48))) 96 (fu (fu (s 96) 49 (s 96 48)) 50 1))) := fun z y => by
      have e := fin (Or.inr y)
      rw [e] at k
      have fp := Fg_m (M := []) (R := [(96, 48), (96, 49), (96, 50), (96, 51)]) f0 (by decide) (by decide)
      have ho := kEn_ok (B := B) (show 0 ≤ s 96 48 by omega) z hn
      generalize hC : (if (s 96 47) ≤ (s 96 48) then 0 else (s 123 ((s 96 46) + (s 96 48)))) = c at hc ⊢
      have hc' : c % 256 = B (s 96 48) ∧ -128 ≤ c ∧ c < 128 := by omega
      clear hc
      refine ⟨fun nl => ⟨fun nd => ⟨by omega, ?_⟩, fun dg => ?_⟩, fun lt => ?_⟩
      · have e1 := ho.2.2.2.2 (by omega) (by omega)
        have f1 := Fg_f (L := []) (P := [(96, 48), (96, 49), (96, 50), (96, 51)]) (k := 96) (i := 50) (v := (if ¬ (c = 43 ∨ c = 45 ∨ c = 42 ∨ c = 47 ∨ c = 40 ∨ c = 41 ∨ c = 60 ∨ c = 62 ∨ c = 61 ∨ c = 59) then 4 else 3)) (Fg_f (k := 96) (i := 49) (v := s 96 48) fp (by decide)) (by decide)
        have f2 := Fg_f (k := 96) (i := 48) (v := s 96 48 + 1) f1 (by decide)
        rw [sw_s, sw_s] at f2
        refine k _ f2 (by rw [sw_s, fu_n (by decide), fu_n (by decide), fu_s]) (fun w => by omega) (fun _ => ⟨by rw [sw_s, fu_s]; exact e1.symm, fun w => by omega, fun w => by omega, fun _ _ => ⟨fun w => ?_, fun w => ?_⟩⟩)
        · rw [sw_s, fu_n (by decide), fu_s, if_neg]
          unfold kSg at w
          omega
        · rw [sw_s, fu_n (by decide), fu_s, if_pos]
          unfold kSg at w
          omega
      · have f1 := Fg_f (L := []) (P := [(96, 48), (96, 49), (96, 50), (96, 51)]) (k := 96) (i := 50) (v := 2) (Fg_f (k := 96) (i := 49) (v := s 96 48) fp (by decide)) (by decide)
        have f2 := Fg_f (k := 96) (i := 51) (v := 0) f1 (by decide)
        rw [sw_s, sw_s] at f2
        have g1 := Fg_f (L := []) (P := [(96, 49), (96, 50), (96, 51)]) (k := 96) (i := 50) (v := 2) (Fg_f (k := 96) (i := 49) (v := s 96 48) (Fg_r (σ := s)) (by decide)) (by decide)
        have g2 := Fg_f (k := 96) (i := 51) (v := 0) g1 (by decide)
        rw [sw_s, sw_s] at g2
        generalize hu : sw (sw (sw s 96 (fu (s 96) 49 (s 96 48))) 96 (fu (fu (s 96) 49 (s 96 48)) 50 2)) 96 (fu (fu (fu (s 96) 49 (s 96 48)) 50 2) 51 0) = u at f2 g2 ⊢
        have u8 : u 96 48 = s 96 48 := g2 96 48 (by simp) (by decide)
        have u9 : u 96 49 = s 96 48 := by rw [← hu, sw_s, fu_n (by decide), fu_n (by decide), fu_s]
        have u0 : u 96 50 = 2 := by rw [← hu, sw_s, fu_n (by decide), fu_s]
        have u1 : u 96 51 = 0 := by rw [← hu, sw_s, fu_s]
        refine c183b (B := B) (n := n) (i := s 96 48) (by omega) (n - s 96 48).toNat u (mTx_g hx g2 (by decide) (by decide) rfl) (by omega) (by omega) (fun x x0 x1 => by omega) (by omega) (by omega) (by rw [u8, u1, Int.sub_self]; rfl) u0 (fun s' f3 a1 a2 a3 a4 a5 => ?_)
        have eE : s' 96 48 = kEn B n (s 96 48) := by
          unfold kEn
          rw [if_neg (by omega), if_pos (by omega)]
          refine sk_u pDi_n (by omega) ?_ a2 (fun x x0 x1 => a3 x (by omega) x1)
          apply Classical.byContradiction
          intro w
          rw [show s' 96 48 = s 96 48 by omega] at a2
          unfold pDi at a2
          have := of_decide_eq_false a2
          omega
        rw [eE] at a4 a5
        refine k s' (Fg_t f2 (Fg_m f3 (by decide) (by decide))) ((f3 96 49 (by simp) (by decide)).trans u9) (fun w => by omega) (fun _ => ⟨eE, fun w => by omega, fun w => ⟨a4, a5⟩, fun w1 w2 => absurd (by omega) w2⟩)
      · have f1 := Fg_f (L := []) (P := [(96, 48), (96, 49), (96, 50), (96, 51)]) (k := 96) (i := 50) (v := 1) (Fg_f (k := 96) (i := 49) (v := s 96 48) fp (by decide)) (by decide)
        rw [sw_s] at f1
        have g1 := Fg_f (L := []) (P := [(96, 49), (96, 50)]) (k := 96) (i := 50) (v := 1) (Fg_f (k := 96) (i := 49) (v := s 96 48) (Fg_r (σ := s)) (by decide)) (by decide)
        rw [sw_s] at g1
        generalize hu : sw (sw s 96 (fu (s 96) 49 (s 96 48))) 96 (fu (fu (s 96) 49 (s 96 48)) 50 1) = u at f1 g1 ⊢
        have u8 : u 96 48 = s 96 48 := g1 96 48 (by simp) (by decide)
        have u9 : u 96 49 = s 96 48 := by rw [← hu, sw_s, fu_n (by decide), fu_s]
        have u0 : u 96 50 = 1 := by rw [← hu, sw_s, fu_s]
        refine c183a (B := B) (n := n) (n - s 96 48).toNat u (mTx_g hx g1 (by decide) (by decide) rfl) (by omega) (by omega) (fun s' f3 a1 a2 a3 => ?_)
        rw [u8] at a1 a3
        have eE : s' 96 48 = kEn B n (s 96 48) := by
          unfold kEn
          rw [if_pos (by omega)]
          refine sk_u pLe_n (by omega) ?_ a2 (fun x x0 x1 => a3 x (by omega) x1)
          apply Classical.byContradiction
          intro w
          rw [show s' 96 48 = s 96 48 by omega] at a2
          unfold pLe at a2
          have := of_decide_eq_false a2
          omega
        refine k s' (Fg_t f1 (Fg_m f3 (by decide) (by decide))) ((f3 96 49 (by simp) (by decide)).trans u9) (fun w => by omega) (fun _ => ⟨eE, fun w => (f3 96 50 (by simp) (by decide)).trans u0, fun w => by omega, fun w1 w2 => absurd (by omega) w1⟩)
    refine b183_0 ⟨fun z => ⟨hs, fun y => absurd (by omega) y, fun y => fE (by omega)⟩, fun z => ⟨hs, fun y => ⟨by omega, go (by omega) (by omega)⟩, fun y1 => ⟨hs, fun y2 => ⟨hs, fun y3 => XX (by omega) (by omega), fun y => absurd y (by omega)⟩, fun y => ⟨by omega, go (by omega) (by omega)⟩⟩⟩⟩
end
