section
/-! what a frame keeps -/
def Kt (L : List Nat) (P : List (Nat × Int)) (C : List Nat) (R : List (Nat × Int)) : Bool := C.all (fun k => !(L.contains k) && P.all (fun q => q.1 != k)) && R.all (fun q => !(L.contains q.1) && !(P.contains q))
theorem Kc {L : List Nat} {P : List (Nat × Int)} {C : List Nat} {R : List (Nat × Int)} {σ t : aW} (h : Fg L P σ t) (hd : Kt L P C R = true) {k : Nat} (hk : k ∈ C) : t k = σ k := by
  unfold Kt at hd
  rw [Bool.and_eq_true] at hd
  have := List.all_eq_true.mp hd.1 k hk
  simp only [Bool.and_eq_true, Bool.not_eq_true'] at this
  exact Fg_k h this.1 this.2
theorem Kq {L : List Nat} {P : List (Nat × Int)} {C : List Nat} {R : List (Nat × Int)} {σ t : aW} (h : Fg L P σ t) (hd : Kt L P C R = true) {k : Nat} {i : Int} (hk : (k, i) ∈ R) : t k i = σ k i := by
  unfold Kt at hd
  rw [Bool.and_eq_true] at hd
  have := List.all_eq_true.mp hd.2 (k, i) hk
  simp only [Bool.and_eq_true, Bool.not_eq_true'] at this
  exact h k i (fun z => by rw [List.contains_iff_mem.mpr z] at this; cases this.1) (fun z => by rw [List.contains_iff_mem.mpr z] at this; cases this.2)
abbrev kNetC : List Nat := [2, 3, 4, 5, 6, 7, 8, 9, 10, 11, 12, 101, 102, 103, 104, 105, 106, 107, 108, 109, 110, 111]
abbrev kNetR : List (Nat × Int) := [(1, 0), (1, 1), (1, 2), (96, 5), (96, 6), (96, 7)]
theorem INet_k {L : List Nat} {P : List (Nat × Int)} {σ t : aW} (h : Fg L P σ t) (hd : Kt L P kNetC kNetR = true) (hI : INet σ) : INet t := by
  have c := fun (k : Nat) (hk : k ∈ kNetC) => Kc h hd hk
  have q := fun (k : Nat) (i : Int) (hk : (k, i) ∈ kNetR) => Kq h hd hk
  unfold INet Nn Np Nb Nv Nh at *
  simp only [c 2 (by decide), c 3 (by decide), c 4 (by decide), c 5 (by decide), c 6 (by decide), c 7 (by decide), c 8 (by decide), c 9 (by decide), c 10 (by decide), c 11 (by decide), c 12 (by decide), c 101 (by decide), c 102 (by decide), c 103 (by decide), c 104 (by decide), c 105 (by decide), c 106 (by decide), c 107 (by decide), c 108 (by decide), c 109 (by decide), c 110 (by decide), c 111 (by decide), q 1 0 (by decide), q 1 1 (by decide), q 1 2 (by decide), q 96 5 (by decide), q 96 6 (by decide), q 96 7 (by decide)]
  exact hI
abbrev kDpC : List Nat := [52, 125]
abbrev kDpR : List (Nat × Int) := [(51, 0), (51, 1), (51, 2), (51, 3), (51, 5), (96, 12), (96, 13), (96, 42), (96, 43), (96, 44)]
theorem IDp_k {L : List Nat} {P : List (Nat × Int)} {σ t : aW} (h : Fg L P σ t) (hd : Kt L P kDpC kDpR = true) (hI : IDp σ) : IDp t := by
  have c := fun (k : Nat) (hk : k ∈ kDpC) => Kc h hd hk
  have q := fun (k : Nat) (i : Int) (hk : (k, i) ∈ kDpR) => Kq h hd hk
  unfold IDp at *
  simp only [c 52 (by decide), c 125 (by decide), q 51 0 (by decide), q 51 1 (by decide), q 51 2 (by decide), q 51 3 (by decide), q 51 5 (by decide), q 96 12 (by decide), q 96 13 (by decide), q 96 42 (by decide), q 96 43 (by decide), q 96 44 (by decide)]
  exact hI
abbrev kBoC : List Nat := [48, 49, 50, 112, 113]
abbrev kBoR : List (Nat × Int) := [(45, 0), (96, 8)]
theorem IBo_k {L : List Nat} {P : List (Nat × Int)} {σ t : aW} (h : Fg L P σ t) (hd : Kt L P kBoC kBoR = true) (hI : IBo σ) : IBo t := by
  have c := fun (k : Nat) (hk : k ∈ kBoC) => Kc h hd hk
  have q := fun (k : Nat) (i : Int) (hk : (k, i) ∈ kBoR) => Kq h hd hk
  exact IBo_c (q 45 0 (by decide)) (q 96 8 (by decide)) (c 48 (by decide)) (c 49 (by decide)) (c 50 (by decide)) (c 112 (by decide)) (c 113 (by decide)) hI
abbrev kOfC : List Nat := [47, 115]
abbrev kOfR : List (Nat × Int) := [(46, 1), (46, 2), (120, 2532), (45, 1), (96, 14)]
theorem IOf_k {L : List Nat} {P : List (Nat × Int)} {σ t : aW} (h : Fg L P σ t) (hd : Kt L P kOfC kOfR = true) (hI : IOf σ) : IOf t := by
  have c := fun (k : Nat) (hk : k ∈ kOfC) => Kc h hd hk
  have q := fun (k : Nat) (i : Int) (hk : (k, i) ∈ kOfR) => Kq h hd hk
  exact IOf_c (q 46 1 (by decide)) (q 46 2 (by decide)) (q 120 2532 (by decide)) (q 45 1 (by decide)) (q 96 14 (by decide)) (c 115 (by decide)) (c 47 (by decide)) hI
abbrev kArC : List Nat := [44, 114]
abbrev kArR : List (Nat × Int) := [(43, 1), (43, 2), (120, 2532)]
theorem IAr_k {L : List Nat} {P : List (Nat × Int)} {σ t : aW} (h : Fg L P σ t) (hd : Kt L P kArC kArR = true) (hI : IAr σ) : IAr t := by
  have c := fun (k : Nat) (hk : k ∈ kArC) => Kc h hd hk
  have q := fun (k : Nat) (i : Int) (hk : (k, i) ∈ kArR) => Kq h hd hk
  unfold IAr at *
  simp only [c 44 (by decide), c 114 (by decide), q 43 1 (by decide), q 43 2 (by decide), q 120 2532 (by decide)]
  exact hI
theorem rSu_k {L : List Nat} {P : List (Nat × Int)} {σ t : aW} {l : List rRu} (h : Fg L P σ t) (hd : Kt L P [27, 28, 29, 30] [(25, 0)] = true) (hI : rSu σ l) : rSu t l := by
  have c := fun (k : Nat) (hk : k ∈ [27, 28, 29, 30]) => Kc h hd hk
  have q := fun (k : Nat) (i : Int) (hk : (k, i) ∈ [((25 : Nat), (0 : Int))]) => Kq h hd hk
  unfold rSu at *
  rw [c 27 (by decide), c 28 (by decide), c 29 (by decide), c 30 (by decide), q 25 0 (by decide)]
  exact hI
abbrev kFcC : List Nat := [17, 18, 19, 20, 101, 102, 103, 104, 107, 108, 109, 110, 111]
abbrev kFcR : List (Nat × Int) := [(16, 9), (16, 10), (16, 11), (1, 3), (96, 5), (96, 6), (96, 7)]
theorem IFc_k {L : List Nat} {P : List (Nat × Int)} {σ t : aW} (h : Fg L P σ t) (hd : Kt L P kFcC kFcR = true) (hI : IFc σ) : IFc t := by
  have c := fun (k : Nat) (hk : k ∈ kFcC) => Kc h hd hk
  have q := fun (k : Nat) (i : Int) (hk : (k, i) ∈ kFcR) => Kq h hd hk
  unfold IFc at *
  rw [q 16 9 (by decide), q 16 10 (by decide), q 16 11 (by decide), q 1 3 (by decide)]
  refine ⟨hI.1, fun z => wFl_c (hI.2 z) ⟨fN_q (fun k hk => c k (by simp; omega)) (q 96 5 (by decide)) (q 96 6 (by decide)), q 96 6 (by decide), q 96 7 (by decide), c 110 (by decide)⟩ (c 17 (by decide)) (c 18 (by decide)) (c 19 (by decide)) (c 20 (by decide))⟩
theorem hTk_c {f f' L L' : Int → Int} {U U' : Int → Int → Int} {r r' : Prop} [Decidable r] [Decidable r'] {p : Int} (hf : f p = f' p) (hL : L p = L' p) (hr : r ↔ r') (m1 : hm f p ≤ L p) (hU : ∀ j, 0 ≤ j → j < L p → U p j = U' p j) : hTk f L U r p = hTk f' L' U' r' p := by
  have em : hm f p = hm f' p := by unfold hm; rw [hf]
  unfold hTk
  rw [← em, ← hL]
  refine sI_c (fun i i0 i1 => ?_)
  by_cases z : r
  · rw [if_pos z, if_pos (hr.mp z)]
    exact hU _ (by omega) (by omega)
  · rw [if_neg z, if_neg (fun y => z (hr.mpr y))]
    exact hU _ (by omega) (by omega)
theorem hShf_c {X X' X'' : Int → Int} {b L m : Int} {r : Prop} (m0 : 0 ≤ m) (h : hShf X X' b L m r) (e : ∀ j, 0 ≤ j → j < L → X'' (b + j) = X' (b + j)) : hShf X X'' b L m r := ⟨fun z j j0 j1 => by
  rw [show b + m + j = b + (m + j) by omega, e _ (by omega) (by omega), ← Int.add_assoc]
  exact h.1 z j j0 j1, fun z j j0 j1 => by
  rw [e j j0 (by omega)]
  exact h.2 z j j0 j1⟩
theorem hFl_of {X0 X1 X2 : Int → Int} {f L : Int → Int} {U : Int → Int → Int} {r : Prop} [Decidable r] {W N G b p k : Int} (hU : ∀ j, 0 ≤ j → j < L p → X0 (b + j) = U p j) (hs : hShf X0 X1 b (L p) (hm f p) r) (hf : ∀ j, 0 ≤ j → j < hm f p → X2 (b + (if r then hm f p - 1 - j else L p - hm f p + j)) = hGv W N (G + j) 1) (hu : ∀ k, 0 ≤ k → k < L p → (∀ j, 0 ≤ j → j < hm f p → ¬ k = (if r then hm f p - 1 - j else L p - hm f p + j)) → X2 (b + k) = X1 (b + k)) (k0 : 0 ≤ k) (k1 : k < L p) (m1 : hm f p ≤ L p) : X2 (b + k) = hFl f L U r W N G p k := by
  have m0 := hm_0 f p
  unfold hFl
  by_cases z : f p = 0
  · rw [if_pos z]
    have e : hm f p = 0 := by unfold hm; omega
    rw [hu k k0 k1 (fun j j0 j1 => by omega), ← hU k k0 k1]
    by_cases y : r
    · have := hs.1 y k k0 (by omega)
      rw [e, Int.add_zero] at this
      exact this
    · have := hs.2 y k k0 (by omega)
      rw [e, Int.add_zero] at this
      exact this
  · rw [if_neg z]
    by_cases y : r
    · rw [if_pos y]
      by_cases x : k < hm f p
      · rw [if_pos x]
        have := hf (hm f p - 1 - k) (by omega) (by omega)
        rw [if_pos y, show hm f p - 1 - (hm f p - 1 - k) = k by omega] at this
        exact this
      · rw [if_neg x, hu k k0 k1 (fun j j0 j1 => by rw [if_pos y]; omega), ← hU (k - hm f p) (by omega) (by omega)]
        have := hs.1 y (k - hm f p) (by omega) (by omega)
        rw [show b + hm f p + (k - hm f p) = b + k by omega] at this
        exact this
    · rw [if_neg y]
      by_cases x : k < L p - hm f p
      · rw [if_pos x, hu k k0 k1 (fun j j0 j1 => by rw [if_neg y]; omega), ← hU (k + hm f p) (by omega) (by omega)]
        have := hs.2 y k k0 x
        rw [show b + hm f p + k = b + (k + hm f p) by omega] at this
        exact this
      · rw [if_neg x]
        have := hf (k - (L p - hm f p)) (by omega) (by omega)
        rw [if_neg y, show L p - hm f p + (k - (L p - hm f p)) = k by omega] at this
        exact this
theorem qE_e {σ : aW} {w : Int → Int} {h : Int} (h0 : 0 ≤ h) : (∀ k, 0 ≤ k → k < 4 → qE σ w h k = qE σ w (-1) k) ∧ qE σ w h 4 = σ 110 h ∧ qE σ w h 5 = σ 111 h ∧ qE σ w h 6 = w (2400 + h) := by
  have b : ¬ bi (¬ h = (-1)) = 0 := by rw [bi_t (by omega)]; decide
  refine ⟨fun k k0 k1 => ?_, ?_, ?_, ?_⟩
  · have hk : k = 0 ∨ k = 1 ∨ k = 2 ∨ k = 3 := by omega
    rcases hk with z | z | z | z <;> rw [z] <;> rfl
  · show (if bi (¬ h = (-1)) = 0 then 0 else σ 110 h) = σ 110 h
    rw [if_neg b]
  · show (if bi (¬ h = (-1)) = 0 then 0 else σ 111 h) = σ 111 h
    rw [if_neg b]
  · show (if bi (¬ h = (-1)) = 0 then 0 else w (2400 + h)) = w (2400 + h)
    rw [if_neg b]
theorem qE_0 {σ : aW} {w : Int → Int} : qE σ w (-1) 0 = qA σ w ∧ qE σ w (-1) 1 = w 2532 % 24 ∧ qE σ w (-1) 2 = w 2533 ∧ qE σ w (-1) 3 = w 2534 ∧ qE σ w (-1) 4 = 0 ∧ qE σ w (-1) 5 = 0 ∧ qE σ w (-1) 6 = 0 := ⟨rfl, rfl, rfl, rfl, mEf_0.1, mEf_0.2.1, mEf_0.2.2⟩
end
