section
theorem q_eq {Q : aQ} {σ : aW} {v w : Int} (h : v = w) (k : Q (some (vi v)) σ) : Q (some (vi w)) σ := h ▸ k
theorem q_eql {Q : aQ} {σ : aW} {v w : Int} (h : v = w) (k : Q (some (vl v)) σ) : Q (some (vl w)) σ := h ▸ k
/-! HeatTown.isWithin -/
set_option maxRecDepth 4000 in
theorem b143_0 {d : Nat} {Q : aQ} {σ : aW} {a0 a2 a4 : Int} (h : (a0 < a2 → Q (some (vi 0)) σ) ∧ (¬ a0 < a2 → Q (some (vi (bi (¬ a4 < a0)))) σ)) : Yx (d + 0) cd143 3 Q 0 [vl a0, vt, vl a2, vt, vl a4, vt] [] σ :=
  x_lload_n (n := 1) rfl rfl rfl (x_lload_n (n := 2) rfl rfl rfl (x_lc_lt (n := 6) (t := 17) rfl (pc2 := 3) rfl rfl rfl rfl (fun hc6 => x_iconst (n := 18) rfl rfl (x_ret3 rfl rfl (by omega) (h.1 hc6))) (fun hc6 => x_lload_n (n := 7) rfl rfl rfl (x_lload (n := 9) rfl rfl rfl ((have jk : Yx (d + 0) cd143 3 Q 18 [vl a0, vt, vl a2, vt, vl a4, vt] [vi (bi (¬ a4 < a0))] σ := x_ret3 rfl rfl bi_01 (h.2 hc6); x_lc_gt (n := 13) (t := 17) rfl (pc2 := 10) rfl rfl rfl rfl (fun (hc13 : a4 < a0) => x_iconst (n := 18) rfl rfl (m_eq (v := (bi (¬ a4 < a0))) (by simp [bi, hc13]) jk)) (fun (hc13 : ¬ a4 < a0) => x_iconst (n := 14) rfl rfl (x_goto (t := 18) rfl rfl (m_eq (v := (bi (¬ a4 < a0))) (by simp [bi, hc13]) jk)))))))))
theorem e143 {d : Nat} {Q : aQ} {σ : aW} {a0 a2 a4 : Int} (h : Yx (d + 0) cd143 3 Q 0 [vl a0, vt, vl a2, vt, vl a4, vt] [] σ) : aEv (d + 0) true 143 [vl a0, vl a2, vl a4] σ Q := ev_of (fun _ _ => h)
theorem s143 {d : Nat} {Q : aQ} {σ : aW} {a0 a2 a4 : Int} (k : Q (some (vi (bi (a2 ≤ a0 ∧ a0 ≤ a4)))) σ) : aEv (d + 0) true 143 [vl a0, vl a2, vl a4] σ Q := by
  refine e143 (b143_0 ?_)
  repeat' first | apply And.intro | intro _
  all_goals first | omega | exact k | (refine q_eq ?_ k; (try unfold bi); (repeat' split) <;> omega) | (refine q_eql ?_ k; (try unfold bi); (repeat' split) <;> omega)
/-! HeatTown.isPlace -/
set_option maxRecDepth 4000 in
theorem b144_0 {d : Nat} {Q : aQ} {σ : aW} {a0 : Int} (h : Q (some (vi (bi (0 ≤ a0 ∧ a0 ≤ 3)))) σ) : Yx (d + 1) cd144 3 Q 0 [vi a0] [] σ :=
  x_iload_n (n := 1) rfl rfl rfl (x_i2l (n := 2) rfl rfl (x_lconst (w := 0) (n := 3) rfl rfl rfl (x_ldc2 (v := 3) (n := 6) rfl rfl rfl (x_csI (as := [vl a0, vl 0, vl 3]) (st := []) (n := 9) rfl rfl rfl rfl rfl trivial (s143 ⟨_, rfl, x_ret3 rfl rfl bi_01 h⟩)))))
theorem e144 {d : Nat} {Q : aQ} {σ : aW} {a0 : Int} (h : Yx (d + 1) cd144 3 Q 0 [vi a0] [] σ) : aEv (d + 1) true 144 [vi a0] σ Q := ev_of (fun _ _ => h)
theorem s144 {d : Nat} {Q : aQ} {σ : aW} {a0 : Int} (k : Q (some (vi (bi (0 ≤ a0 ∧ a0 ≤ 3)))) σ) : aEv (d + 1) true 144 [vi a0] σ Q := by
  refine e144 (b144_0 ?_)
  repeat' first | apply And.intro | intro _
  all_goals first | omega | exact k | (refine q_eq ?_ k; (try unfold bi); (repeat' split) <;> omega) | (refine q_eql ?_ k; (try unfold bi); (repeat' split) <;> omega)
/-! HeatTown.firstUnit -/
set_option maxRecDepth 4000 in
theorem b145_0 {d : Nat} {Q : aQ} {σ : aW} {a0 a1 : Int} (h : (-2147483648 ≤ (2 * a0) ∧ (2 * a0) < 2147483648) ∧ (-2147483648 ≤ ((2 * a0) + a1) ∧ ((2 * a0) + a1) < 2147483648) ∧ (-2147483648 ≤ (((2 * a0) + a1) * 60) ∧ (((2 * a0) + a1) * 60) < 2147483648) ∧ Q (some (vi (((2 * a0) + a1) * 60))) σ) : Yx (d + 0) cd145 1 Q 0 [vi a0, vi a1] [] σ :=
  x_iconst (n := 1) rfl rfl (x_iload_n (n := 2) rfl rfl rfl (x_imul (n := 3) rfl rfl h.1 (x_iload_n (n := 4) rfl rfl rfl (x_iadd (n := 5) rfl rfl h.2.1 (x_bipush (n := 7) rfl rfl (x_imul (n := 8) rfl rfl h.2.2.1 (x_ret1 rfl rfl h.2.2.2)))))))
theorem e145 {d : Nat} {Q : aQ} {σ : aW} {a0 a1 : Int} (h : Yx (d + 0) cd145 1 Q 0 [vi a0, vi a1] [] σ) : aEv (d + 0) true 145 [vi a0, vi a1] σ Q := ev_of (fun _ _ => h)
theorem s145 {d : Nat} {Q : aQ} {σ : aW} {a0 a1 : Int} (o0 : 0 ≤ a0 ∧ a0 < 20 ∧ 0 ≤ a1 ∧ a1 ≤ 1) (k : Q (some (vi (((2 * a0) + a1) * 60))) σ) : aEv (d + 0) true 145 [vi a0, vi a1] σ Q := by
  refine e145 (b145_0 ?_)
  repeat' first | apply And.intro | intro _
  all_goals first | omega | exact k | (refine q_eq ?_ k; (try unfold bi); (repeat' split) <;> omega) | (refine q_eql ?_ k; (try unfold bi); (repeat' split) <;> omega)
/-! HeatTown$Net.hasNode -/
set_option maxRecDepth 4000 in
theorem b32_0 {d : Nat} {Q : aQ} {σ : aW} {a1 : Int} (h : (a1 < 0 → Q (some (vi 0)) σ) ∧ (¬ a1 < 0 → Q (some (vi (bi (¬ (σ 1 0) ≤ a1)))) σ)) : Yx (d + 0) cd32 3 Q 0 [vr 1, vi a1] [] σ :=
  x_iload_n (n := 1) rfl rfl rfl (x_if_lt (n := 4) (t := 16) rfl rfl rfl (fun hc4 => x_iconst (n := 17) rfl rfl (x_ret3 rfl rfl (by omega) (h.1 hc4))) (fun hc4 => x_iload_n (n := 5) rfl rfl rfl (x_aload_n (n := 6) rfl rfl rfl rfl (x_getI (v := (σ 1 0)) (n := 9) rfl rfl rfl rfl rfl ((have jk : Yx (d + 0) cd32 3 Q 17 [vr 1, vi a1] [vi (bi (¬ (σ 1 0) ≤ a1))] σ := x_ret3 rfl rfl bi_01 (h.2 hc4); x_icmp_ge (n := 12) (t := 16) rfl rfl rfl (fun (hc12 : (σ 1 0) ≤ a1) => x_iconst (n := 17) rfl rfl (m_eq (v := (bi (¬ (σ 1 0) ≤ a1))) (by simp [bi, hc12]) jk)) (fun (hc12 : ¬ (σ 1 0) ≤ a1) => x_iconst (n := 13) rfl rfl (x_goto (t := 17) rfl rfl (m_eq (v := (bi (¬ (σ 1 0) ≤ a1))) (by simp [bi, hc12]) jk)))))))))
theorem e32 {d : Nat} {Q : aQ} {σ : aW} {a1 : Int} (h : Yx (d + 0) cd32 3 Q 0 [vr 1, vi a1] [] σ) : aEv (d + 0) true 32 [vr 1, vi a1] σ Q := ev_of (fun _ _ => h)
theorem s32 {d : Nat} {Q : aQ} {σ : aW} {a1 : Int} (k : Q (some (vi (bi (0 ≤ a1 ∧ a1 < (σ 1 0))))) σ) : aEv (d + 0) true 32 [vr 1, vi a1] σ Q := by
  refine e32 (b32_0 ?_)
  repeat' first | apply And.intro | intro _
  all_goals first | omega | exact k | (refine q_eq ?_ k; (try unfold bi); (repeat' split) <;> omega) | (refine q_eql ?_ k; (try unfold bi); (repeat' split) <;> omega)
/-! HeatTown$Net.hasPipe -/
set_option maxRecDepth 4000 in
theorem b33_0 {d : Nat} {Q : aQ} {σ : aW} {a1 : Int} (h : (a1 < 0 → Q (some (vi 0)) σ) ∧ (¬ a1 < 0 → Q (some (vi (bi (¬ (σ 1 1) ≤ a1)))) σ)) : Yx (d + 0) cd33 3 Q 0 [vr 1, vi a1] [] σ :=
  x_iload_n (n := 1) rfl rfl rfl (x_if_lt (n := 4) (t := 16) rfl rfl rfl (fun hc4 => x_iconst (n := 17) rfl rfl (x_ret3 rfl rfl (by omega) (h.1 hc4))) (fun hc4 => x_iload_n (n := 5) rfl rfl rfl (x_aload_n (n := 6) rfl rfl rfl rfl (x_getI (v := (σ 1 1)) (n := 9) rfl rfl rfl rfl rfl ((have jk : Yx (d + 0) cd33 3 Q 17 [vr 1, vi a1] [vi (bi (¬ (σ 1 1) ≤ a1))] σ := x_ret3 rfl rfl bi_01 (h.2 hc4); x_icmp_ge (n := 12) (t := 16) rfl rfl rfl (fun (hc12 : (σ 1 1) ≤ a1) => x_iconst (n := 17) rfl rfl (m_eq (v := (bi (¬ (σ 1 1) ≤ a1))) (by simp [bi, hc12]) jk)) (fun (hc12 : ¬ (σ 1 1) ≤ a1) => x_iconst (n := 13) rfl rfl (x_goto (t := 17) rfl rfl (m_eq (v := (bi (¬ (σ 1 1) ≤ a1))) (by simp [bi, hc12]) jk)))))))))
theorem e33 {d : Nat} {Q : aQ} {σ : aW} {a1 : Int} (h : Yx (d + 0) cd33 3 Q 0 [vr 1, vi a1] [] σ) : aEv (d + 0) true 33 [vr 1, vi a1] σ Q := ev_of (fun _ _ => h)
theorem s33 {d : Nat} {Q : aQ} {σ : aW} {a1 : Int} (k : Q (some (vi (bi (0 ≤ a1 ∧ a1 < (σ 1 1))))) σ) : aEv (d + 0) true 33 [vr 1, vi a1] σ Q := by
  refine e33 (b33_0 ?_)
  repeat' first | apply And.intro | intro _
  all_goals first | omega | exact k | (refine q_eq ?_ k; (try unfold bi); (repeat' split) <;> omega) | (refine q_eql ?_ k; (try unfold bi); (repeat' split) <;> omega)
/-! HeatTown$Net.hasHouse -/
set_option maxRecDepth 4000 in
theorem b34_0 {d : Nat} {Q : aQ} {σ : aW} {a1 : Int} (h : (a1 < 0 → Q (some (vi 0)) σ) ∧ (¬ a1 < 0 → Q (some (vi (bi (¬ (σ 1 2) ≤ a1)))) σ)) : Yx (d + 0) cd34 3 Q 0 [vr 1, vi a1] [] σ :=
  x_iload_n (n := 1) rfl rfl rfl (x_if_lt (n := 4) (t := 16) rfl rfl rfl (fun hc4 => x_iconst (n := 17) rfl rfl (x_ret3 rfl rfl (by omega) (h.1 hc4))) (fun hc4 => x_iload_n (n := 5) rfl rfl rfl (x_aload_n (n := 6) rfl rfl rfl rfl (x_getI (v := (σ 1 2)) (n := 9) rfl rfl rfl rfl rfl ((have jk : Yx (d + 0) cd34 3 Q 17 [vr 1, vi a1] [vi (bi (¬ (σ 1 2) ≤ a1))] σ := x_ret3 rfl rfl bi_01 (h.2 hc4); x_icmp_ge (n := 12) (t := 16) rfl rfl rfl (fun (hc12 : (σ 1 2) ≤ a1) => x_iconst (n := 17) rfl rfl (m_eq (v := (bi (¬ (σ 1 2) ≤ a1))) (by simp [bi, hc12]) jk)) (fun (hc12 : ¬ (σ 1 2) ≤ a1) => x_iconst (n := 13) rfl rfl (x_goto (t := 17) rfl rfl (m_eq (v := (bi (¬ (σ 1 2) ≤ a1))) (by simp [bi, hc12]) jk)))))))))
theorem e34 {d : Nat} {Q : aQ} {σ : aW} {a1 : Int} (h : Yx (d + 0) cd34 3 Q 0 [vr 1, vi a1] [] σ) : aEv (d + 0) true 34 [vr 1, vi a1] σ Q := ev_of (fun _ _ => h)
theorem s34 {d : Nat} {Q : aQ} {σ : aW} {a1 : Int} (k : Q (some (vi (bi (0 ≤ a1 ∧ a1 < (σ 1 2))))) σ) : aEv (d + 0) true 34 [vr 1, vi a1] σ Q := by
  refine e34 (b34_0 ?_)
  repeat' first | apply And.intro | intro _
  all_goals first | omega | exact k | (refine q_eq ?_ k; (try unfold bi); (repeat' split) <;> omega) | (refine q_eql ?_ k; (try unfold bi); (repeat' split) <;> omega)
/-! HeatTown$Net.isOpen -/
set_option maxRecDepth 4000 in
theorem b39_0 {d : Nat} {Q : aQ} {σ : aW} {a1 : Int} (h : (0 ≤ a1 ∧ a1 < 20) ∧ (¬ (σ 7 a1) = 0 → Q (some (vi 0)) σ) ∧ ((σ 7 a1) = 0 → (-2147483648 ≤ (2 * a1) ∧ (2 * a1) < 2147483648) ∧ (0 ≤ (2 * a1) ∧ (2 * a1) < 40) ∧ (¬ (σ 9 (2 * a1)) = 0 → Q (some (vi 0)) σ) ∧ ((σ 9 (2 * a1)) = 0 → (-2147483648 ≤ (2 * a1) ∧ (2 * a1) < 2147483648) ∧ (-2147483648 ≤ ((2 * a1) + 1) ∧ ((2 * a1) + 1) < 2147483648) ∧ (0 ≤ ((2 * a1) + 1) ∧ ((2 * a1) + 1) < 40) ∧ Q (some (vi (bi ((σ 9 ((2 * a1) + 1)) = 0)))) σ))) : Yx (d + 0) cd39 3 Q 0 [vr 1, vi a1] [] σ :=
  x_aload_n (n := 1) rfl rfl rfl rfl (x_getA (n := 4) rfl rfl rfl rfl (x_iload_n (n := 5) rfl rfl rfl (x_zaload (v := (σ 7 a1)) (n := 6) rfl rfl rfl h.1 rfl (x_if_ne (n := 9) (t := 37) rfl rfl rfl (fun hc9 => x_iconst (n := 38) rfl rfl (x_ret3 rfl rfl (by omega) (h.2.1 hc9))) (fun hc9 => x_aload_n (n := 10) rfl rfl rfl rfl (x_getA (n := 13) rfl rfl rfl rfl (x_iconst (n := 14) rfl rfl (x_iload_n (n := 15) rfl rfl rfl (x_imul (n := 16) rfl rfl (h.2.2 hc9).1 (x_zaload (v := (σ 9 (2 * a1))) (n := 17) rfl rfl rfl (h.2.2 hc9).2.1 rfl (x_if_ne (n := 20) (t := 37) rfl rfl rfl (fun hc20 => x_iconst (n := 38) rfl rfl (x_ret3 rfl rfl (by omega) ((h.2.2 hc9).2.2.1 hc20))) (fun hc20 => x_aload_n (n := 21) rfl rfl rfl rfl (x_getA (n := 24) rfl rfl rfl rfl (x_iconst (n := 25) rfl rfl (x_iload_n (n := 26) rfl rfl rfl (x_imul (n := 27) rfl rfl ((h.2.2 hc9).2.2.2 hc20).1 (x_iconst (n := 28) rfl rfl (x_iadd (n := 29) rfl rfl ((h.2.2 hc9).2.2.2 hc20).2.1 (x_zaload (v := (σ 9 ((2 * a1) + 1))) (n := 30) rfl rfl rfl ((h.2.2 hc9).2.2.2 hc20).2.2.1 rfl ((have jk : Yx (d + 0) cd39 3 Q 38 [vr 1, vi a1] [vi (bi ((σ 9 ((2 * a1) + 1)) = 0))] σ := x_ret3 rfl rfl bi_01 ((h.2.2 hc9).2.2.2 hc20).2.2.2; x_if_ne (n := 33) (t := 37) rfl rfl rfl (fun (hc33 : ¬ (σ 9 ((2 * a1) + 1)) = 0) => x_iconst (n := 38) rfl rfl (m_eq (v := (bi ((σ 9 ((2 * a1) + 1)) = 0))) (by simp [bi, hc33]) jk)) (fun (hc33 : (σ 9 ((2 * a1) + 1)) = 0) => x_iconst (n := 34) rfl rfl (x_goto (t := 38) rfl rfl (m_eq (v := (bi ((σ 9 ((2 * a1) + 1)) = 0))) (by simp [bi, hc33]) jk))))))))))))))))))))))))
theorem e39 {d : Nat} {Q : aQ} {σ : aW} {a1 : Int} (h : Yx (d + 0) cd39 3 Q 0 [vr 1, vi a1] [] σ) : aEv (d + 0) true 39 [vr 1, vi a1] σ Q := ev_of (fun _ _ => h)
theorem s39 {d : Nat} {Q : aQ} {σ : aW} {a1 : Int} (o0 : 0 ≤ a1 ∧ a1 < 20) (k : Q (some (vi (bi ((σ 7 a1) = 0 ∧ (σ 9 (2 * a1)) = 0 ∧ (σ 9 ((2 * a1) + 1)) = 0)))) σ) : aEv (d + 0) true 39 [vr 1, vi a1] σ Q := by
  refine e39 (b39_0 ?_)
  repeat' first | apply And.intro | intro _
  all_goals first | omega | exact k | (refine q_eq ?_ k; (try unfold bi); (repeat' split) <;> omega) | (refine q_eql ?_ k; (try unfold bi); (repeat' split) <;> omega)
/-! HeatTown$Net.nodeAt -/
set_option maxRecDepth 4000 in
theorem b40_0 {d : Nat} {Q : aQ} {σ : aW} {a1 a2 : Int} (h : (¬ a2 = 0 → (0 ≤ a1 ∧ a1 < 20)) ∧ (a2 = 0 → (0 ≤ a1 ∧ a1 < 20)) ∧ Q (some (vi (if ¬ a2 = 0 then (σ 3 a1) else (σ 2 a1)))) σ) : Yx (d + 0) cd40 1 Q 0 [vr 1, vi a1, vi a2] [] σ :=
  x_iload_n (n := 1) rfl rfl rfl ((have jk : Yx (d + 0) cd40 1 Q 19 [vr 1, vi a1, vi a2] [vi (if ¬ a2 = 0 then (σ 3 a1) else (σ 2 a1))] σ := x_ret1 rfl rfl h.2.2; x_if_ne (n := 4) (t := 13) rfl rfl rfl (fun (hc4 : ¬ a2 = 0) => x_aload_n (n := 14) rfl rfl rfl rfl (x_getA (n := 17) rfl rfl rfl rfl (x_iload_n (n := 18) rfl rfl rfl (x_iaload (v := (σ 3 a1)) (n := 19) rfl rfl rfl (h.1 hc4) rfl (m_eq (v := (if ¬ a2 = 0 then (σ 3 a1) else (σ 2 a1))) (by simp [bi, hc4]) jk))))) (fun (hc4 : a2 = 0) => x_aload_n (n := 5) rfl rfl rfl rfl (x_getA (n := 8) rfl rfl rfl rfl (x_iload_n (n := 9) rfl rfl rfl (x_iaload (v := (σ 2 a1)) (n := 10) rfl rfl rfl (h.2.1 hc4) rfl (x_goto (t := 19) rfl rfl (m_eq (v := (if ¬ a2 = 0 then (σ 3 a1) else (σ 2 a1))) (by simp [bi, hc4]) jk))))))))
theorem e40 {d : Nat} {Q : aQ} {σ : aW} {a1 a2 : Int} (h : Yx (d + 0) cd40 1 Q 0 [vr 1, vi a1, vi a2] [] σ) : aEv (d + 0) true 40 [vr 1, vi a1, vi a2] σ Q := ev_of (fun _ _ => h)
theorem s40 {d : Nat} {Q : aQ} {σ : aW} {a1 a2 : Int} (o0 : 0 ≤ a1 ∧ a1 < 20) (k : Q (some (vi (if a2 = 0 then (σ 2 a1) else (σ 3 a1)))) σ) : aEv (d + 0) true 40 [vr 1, vi a1, vi a2] σ Q := by
  refine e40 (b40_0 ?_)
  repeat' first | apply And.intro | intro _
  all_goals first | omega | exact k | (refine q_eq ?_ k; (try unfold bi); (repeat' split) <;> omega) | (refine q_eql ?_ k; (try unfold bi); (repeat' split) <;> omega)
/-! HeatTown$Net.isDry -/
set_option maxRecDepth 4000 in
theorem b44_0 {d : Nat} {Q : aQ} {σ : aW} {a1 : Int} (h : (0 ≤ a1 ∧ a1 < 12) ∧ (¬ (σ 14 a1) = 0 → Q (some (vi 1)) σ) ∧ ((σ 14 a1) = 0 → (0 ≤ a1 ∧ a1 < 12) ∧ Q (some (vi (bi ((σ 15 a1) = 0)))) σ)) : Yx (d + 0) cd44 3 Q 0 [vr 1, vi a1] [] σ :=
  x_aload_n (n := 1) rfl rfl rfl rfl (x_getA (n := 4) rfl rfl rfl rfl (x_iload_n (n := 5) rfl rfl rfl (x_zaload (v := (σ 14 a1)) (n := 6) rfl rfl rfl h.1 rfl (x_if_ne (n := 9) (t := 18) rfl rfl rfl (fun hc9 => x_iconst (n := 19) rfl rfl (x_goto (t := 23) rfl rfl (x_ret3 rfl rfl (by omega) (h.2.1 hc9)))) (fun hc9 => x_aload_n (n := 10) rfl rfl rfl rfl (x_getA (n := 13) rfl rfl rfl rfl (x_iload_n (n := 14) rfl rfl rfl (x_zaload (v := (σ 15 a1)) (n := 15) rfl rfl rfl (h.2.2 hc9).1 rfl ((have jk : Yx (d + 0) cd44 3 Q 23 [vr 1, vi a1] [vi (bi ((σ 15 a1) = 0))] σ := x_ret3 rfl rfl bi_01 (h.2.2 hc9).2; x_if_ne (n := 18) (t := 22) rfl rfl rfl (fun (hc18 : ¬ (σ 15 a1) = 0) => x_iconst (n := 23) rfl rfl (m_eq (v := (bi ((σ 15 a1) = 0))) (by simp [bi, hc18]) jk)) (fun (hc18 : (σ 15 a1) = 0) => x_iconst (n := 19) rfl rfl (x_goto (t := 23) rfl rfl (m_eq (v := (bi ((σ 15 a1) = 0))) (by simp [bi, hc18]) jk)))))))))))))
theorem e44 {d : Nat} {Q : aQ} {σ : aW} {a1 : Int} (h : Yx (d + 0) cd44 3 Q 0 [vr 1, vi a1] [] σ) : aEv (d + 0) true 44 [vr 1, vi a1] σ Q := ev_of (fun _ _ => h)
theorem s44 {d : Nat} {Q : aQ} {σ : aW} {a1 : Int} (o0 : 0 ≤ a1 ∧ a1 < 12) (k : Q (some (vi (bi (¬ (σ 14 a1) = 0 ∨ (σ 15 a1) = 0)))) σ) : aEv (d + 0) true 44 [vr 1, vi a1] σ Q := by
  refine e44 (b44_0 ?_)
  repeat' first | apply And.intro | intro _
  all_goals first | omega | exact k | (refine q_eq ?_ k; (try unfold bi); (repeat' split) <;> omega) | (refine q_eql ?_ k; (try unfold bi); (repeat' split) <;> omega)
/-! HeatTown$Rules.isNumber -/
set_option maxRecDepth 4000 in
theorem b78_0 {d : Nat} {Q : aQ} {σ : aW} {a0 : Int} (h : (a0 < 0 → Q (some (vi 0)) σ) ∧ (¬ a0 < 0 → Q (some (vi (bi (¬ 9999 < a0)))) σ)) : Yx (d + 0) cd78 3 Q 0 [vi a0] [] σ :=
  x_iload_n (n := 1) rfl rfl rfl (x_if_lt (n := 4) (t := 15) rfl rfl rfl (fun hc4 => x_iconst (n := 16) rfl rfl (x_ret3 rfl rfl (by omega) (h.1 hc4))) (fun hc4 => x_iload_n (n := 5) rfl rfl rfl (x_sipush (n := 8) rfl rfl ((have jk : Yx (d + 0) cd78 3 Q 16 [vi a0] [vi (bi (¬ 9999 < a0))] σ := x_ret3 rfl rfl bi_01 (h.2 hc4); x_icmp_gt (n := 11) (t := 15) rfl rfl rfl (fun (hc11 : 9999 < a0) => x_iconst (n := 16) rfl rfl (m_eq (v := (bi (¬ 9999 < a0))) (by simp [bi, hc11]) jk)) (fun (hc11 : ¬ 9999 < a0) => x_iconst (n := 12) rfl rfl (x_goto (t := 16) rfl rfl (m_eq (v := (bi (¬ 9999 < a0))) (by simp [bi, hc11]) jk))))))))
theorem e78 {d : Nat} {Q : aQ} {σ : aW} {a0 : Int} (h : Yx (d + 0) cd78 3 Q 0 [vi a0] [] σ) : aEv (d + 0) true 78 [vi a0] σ Q := ev_of (fun _ _ => h)
theorem s78 {d : Nat} {Q : aQ} {σ : aW} {a0 : Int} (k : Q (some (vi (bi (0 ≤ a0 ∧ a0 ≤ 9999)))) σ) : aEv (d + 0) true 78 [vi a0] σ Q := by
  refine e78 (b78_0 ?_)
  repeat' first | apply And.intro | intro _
  all_goals first | omega | exact k | (refine q_eq ?_ k; (try unfold bi); (repeat' split) <;> omega) | (refine q_eql ?_ k; (try unfold bi); (repeat' split) <;> omega)
/-! HeatTown$Rules.isName -/
set_option maxRecDepth 4000 in
theorem b79_0 {d : Nat} {Q : aQ} {σ : aW} {a0 : Int} (h : (a0 < 10007 → Q (some (vi 0)) σ) ∧ (¬ a0 < 10007 → Q (some (vi (bi (¬ 10014 ≤ a0)))) σ)) : Yx (d + 0) cd79 3 Q 0 [vi a0] [] σ :=
  x_iload_n (n := 1) rfl rfl rfl (x_sipush (n := 4) rfl rfl (x_icmp_lt (n := 7) (t := 18) rfl rfl rfl (fun hc7 => x_iconst (n := 19) rfl rfl (x_ret3 rfl rfl (by omega) (h.1 hc7))) (fun hc7 => x_iload_n (n := 8) rfl rfl rfl (x_sipush (n := 11) rfl rfl ((have jk : Yx (d + 0) cd79 3 Q 19 [vi a0] [vi (bi (¬ 10014 ≤ a0))] σ := x_ret3 rfl rfl bi_01 (h.2 hc7); x_icmp_ge (n := 14) (t := 18) rfl rfl rfl (fun (hc14 : 10014 ≤ a0) => x_iconst (n := 19) rfl rfl (m_eq (v := (bi (¬ 10014 ≤ a0))) (by simp [bi, hc14]) jk)) (fun (hc14 : ¬ 10014 ≤ a0) => x_iconst (n := 15) rfl rfl (x_goto (t := 19) rfl rfl (m_eq (v := (bi (¬ 10014 ≤ a0))) (by simp [bi, hc14]) jk)))))))))
theorem e79 {d : Nat} {Q : aQ} {σ : aW} {a0 : Int} (h : Yx (d + 0) cd79 3 Q 0 [vi a0] [] σ) : aEv (d + 0) true 79 [vi a0] σ Q := ev_of (fun _ _ => h)
theorem s79 {d : Nat} {Q : aQ} {σ : aW} {a0 : Int} (k : Q (some (vi (bi (10007 ≤ a0 ∧ a0 < 10014)))) σ) : aEv (d + 0) true 79 [vi a0] σ Q := by
  refine e79 (b79_0 ?_)
  repeat' first | apply And.intro | intro _
  all_goals first | omega | exact k | (refine q_eq ?_ k; (try unfold bi); (repeat' split) <;> omega) | (refine q_eql ?_ k; (try unfold bi); (repeat' split) <;> omega)
/-! HeatTown$Places.refusal -/
set_option maxRecDepth 4000 in
theorem b48_0 {d : Nat} {Q : aQ} {σ : aW} {a1 : Int} (h : ((0 ≤ a1 ∧ a1 ≤ 3) → (0 ≤ a1 ∧ a1 < 4) ∧ Q (some (vi (if ¬ (σ 86 a1) = (-1) then 0 else (-5)))) σ) ∧ ((¬ (0 ≤ a1 ∧ a1 ≤ 3)) → Q (some (vi (-2))) σ)) : Yx (d + 2) cd48 1 Q 0 [vr 85, vi a1] [] σ :=
  x_iload_n (n := 1) rfl rfl rfl (x_csI (as := [vi a1]) (st := []) (n := 4) rfl rfl rfl rfl rfl trivial (s144 ⟨_, rfl, x_ifb_ne (n := 7) (t := 10) rfl rfl rfl (fun hc7 => x_aload_n (n := 11) rfl rfl rfl rfl (x_getA (n := 14) rfl rfl rfl rfl (x_iload_n (n := 15) rfl rfl rfl (x_iaload (v := (σ 86 a1)) (n := 16) rfl rfl rfl (h.1 hc7).1 rfl (x_iconst (n := 17) rfl rfl ((have jk : Yx (d + 2) cd48 1 Q 26 [vr 85, vi a1] [vi (if ¬ (σ 86 a1) = (-1) then 0 else (-5))] σ := x_ret1 rfl rfl (h.1 hc7).2; x_icmp_ne (n := 20) (t := 25) rfl rfl rfl (fun (hc20 : ¬ (σ 86 a1) = (-1)) => x_iconst (n := 26) rfl rfl (m_eq (v := (if ¬ (σ 86 a1) = (-1) then 0 else (-5))) (by simp [bi, hc20]) jk)) (fun (hc20 : (σ 86 a1) = (-1)) => x_bipush (n := 22) rfl rfl (x_goto (t := 26) rfl rfl (m_eq (v := (if ¬ (σ 86 a1) = (-1) then 0 else (-5))) (by simp [bi, hc20]) jk)))))))))) (fun hc7 => x_bipush (n := 9) rfl rfl (x_ret1 rfl rfl (h.2 hc7)))⟩))
theorem e48 {d : Nat} {Q : aQ} {σ : aW} {a1 : Int} (h : Yx (d + 2) cd48 1 Q 0 [vr 85, vi a1] [] σ) : aEv (d + 2) true 48 [vr 85, vi a1] σ Q := ev_of (fun _ _ => h)
theorem s48 {d : Nat} {Q : aQ} {σ : aW} {a1 : Int} (k : Q (some (vi (if 0 ≤ a1 ∧ a1 ≤ 3 then (if (σ 86 a1) = (-1) then (-5) else 0) else (-2)))) σ) : aEv (d + 2) true 48 [vr 85, vi a1] σ Q := by
  refine e48 (b48_0 ?_)
  repeat' first | apply And.intro | intro _
  all_goals first | omega | exact k | (refine q_eq ?_ k; (try unfold bi); (repeat' split) <;> omega) | (refine q_eql ?_ k; (try unfold bi); (repeat' split) <;> omega)
/-! HeatTown$Places.numberAt -/
set_option maxRecDepth 4000 in
theorem b51_0 {d : Nat} {Q : aQ} {σ : aW} {a1 a2 : Int} (h : (-2147483648 ≤ (a1 * 60) ∧ (a1 * 60) < 2147483648) ∧ (-2147483648 ≤ ((a1 * 60) + a2) ∧ ((a1 * 60) + a2) < 2147483648) ∧ (0 ≤ ((a1 * 60) + a2) ∧ ((a1 * 60) + a2) < 240) ∧ Q (some (vl (σ 88 ((a1 * 60) + a2)))) σ) : Yx (d + 0) cd51 2 Q 0 [vr 85, vi a1, vi a2] [] σ :=
  x_aload_n (n := 1) rfl rfl rfl rfl (x_getA (n := 4) rfl rfl rfl rfl (x_iload_n (n := 5) rfl rfl rfl (x_bipush (n := 7) rfl rfl (x_imul (n := 8) rfl rfl h.1 (x_iload_n (n := 9) rfl rfl rfl (x_iadd (n := 10) rfl rfl h.2.1 (x_laload (v := (σ 88 ((a1 * 60) + a2))) (n := 11) rfl rfl rfl h.2.2.1 rfl (x_ret2 rfl rfl h.2.2.2))))))))
theorem e51 {d : Nat} {Q : aQ} {σ : aW} {a1 a2 : Int} (h : Yx (d + 0) cd51 2 Q 0 [vr 85, vi a1, vi a2] [] σ) : aEv (d + 0) true 51 [vr 85, vi a1, vi a2] σ Q := ev_of (fun _ _ => h)
theorem s51 {d : Nat} {Q : aQ} {σ : aW} {a1 a2 : Int} (o0 : 0 ≤ a1 ∧ a1 ≤ 3 ∧ 0 ≤ a2 ∧ a2 < 60) (k : Q (some (vl (σ 88 ((a1 * 60) + a2)))) σ) : aEv (d + 0) true 51 [vr 85, vi a1, vi a2] σ Q := by
  refine e51 (b51_0 ?_)
  repeat' first | apply And.intro | intro _
  all_goals first | omega | exact k | (refine q_eq ?_ k; (try unfold bi); (repeat' split) <;> omega) | (refine q_eql ?_ k; (try unfold bi); (repeat' split) <;> omega)
/-! HeatTown.isHouse -/
set_option maxRecDepth 4000 in
theorem b146_0 {d : Nat} {Q : aQ} {σ : aW} {a1 a2 a3 : Int} (h : ((¬ (0 ≤ a1 ∧ a1 < (σ 1 0))) → Q (some (vi 0)) σ) ∧ ((0 ≤ a1 ∧ a1 < (σ 1 0)) → (a1 = 0 → Q (some (vi 0)) σ) ∧ (¬ a1 = 0 → ((¬ (1 ≤ a2 ∧ a2 ≤ 50)) → Q (some (vi 0)) σ) ∧ ((1 ≤ a2 ∧ a2 ≤ 50) → Q (some (vi (bi (0 ≤ a3 ∧ a3 ≤ 99)))) σ)))) : Yx (d + 1) cd146 3 Q 0 [vr 0, vi a1, vi a2, vi a3] [] σ :=
  x_aload_n (n := 1) rfl rfl rfl rfl (x_getA (n := 4) rfl rfl rfl rfl (x_iload_n (n := 5) rfl rfl rfl (x_cvI (as := [vr 1, vi a1]) (st := []) (n := 8) rfl rfl rfl rfl rfl ⟨_, _, rfl, rfl, rfl⟩ (s32 ⟨_, rfl, x_ifb_eq (n := 11) (t := 43) rfl rfl rfl (fun hc11 => x_iconst (n := 44) rfl rfl (x_ret3 rfl rfl (by omega) (h.1 hc11))) (fun hc11 => x_iload_n (n := 12) rfl rfl rfl (x_if_eq (n := 15) (t := 43) rfl rfl rfl (fun hc15 => x_iconst (n := 44) rfl rfl (x_ret3 rfl rfl (by omega) ((h.2 hc11).1 hc15))) (fun hc15 => x_iload_n (n := 16) rfl rfl rfl (x_i2l (n := 17) rfl rfl (x_lconst (w := 1) (n := 18) rfl rfl rfl (x_ldc2 (v := 50) (n := 21) rfl rfl rfl (x_csI (as := [vl a2, vl 1, vl 50]) (st := []) (n := 24) rfl rfl rfl rfl rfl trivial (s143 ⟨_, rfl, x_ifb_eq (n := 27) (t := 43) rfl rfl rfl (fun hc27 => x_iconst (n := 44) rfl rfl (x_ret3 rfl rfl (by omega) (((h.2 hc11).2 hc15).1 hc27))) (fun hc27 => x_iload_n (n := 28) rfl rfl rfl (x_i2l (n := 29) rfl rfl (x_lconst (w := 0) (n := 30) rfl rfl rfl (x_ldc2 (v := 99) (n := 33) rfl rfl rfl (x_csI (as := [vl a3, vl 0, vl 99]) (st := []) (n := 36) rfl rfl rfl rfl rfl trivial (s143 ⟨_, rfl, (have jk : Yx (d + 1) cd146 3 Q 44 [vr 0, vi a1, vi a2, vi a3] [vi (bi (0 ≤ a3 ∧ a3 ≤ 99))] σ := x_ret3 rfl rfl bi_01 (((h.2 hc11).2 hc15).2 hc27); x_ifb_eq (n := 39) (t := 43) rfl rfl rfl (fun (hc39 : ¬ (0 ≤ a3 ∧ a3 ≤ 99)) => x_iconst (n := 44) rfl rfl (m_eq (v := (bi (0 ≤ a3 ∧ a3 ≤ 99))) (by simp [bi, hc39]) jk)) (fun (hc39 : 0 ≤ a3 ∧ a3 ≤ 99) => x_iconst (n := 40) rfl rfl (x_goto (t := 44) rfl rfl (m_eq (v := (bi (0 ≤ a3 ∧ a3 ≤ 99))) (by simp [bi, hc39]) jk))))⟩))))))⟩))))))))⟩))))
theorem e146 {d : Nat} {Q : aQ} {σ : aW} {a1 a2 a3 : Int} (h : Yx (d + 1) cd146 3 Q 0 [vr 0, vi a1, vi a2, vi a3] [] σ) : aEv (d + 1) true 146 [vr 0, vi a1, vi a2, vi a3] σ Q := ev_of (fun _ _ => h)
theorem s146 {d : Nat} {Q : aQ} {σ : aW} {a1 a2 a3 : Int} (k : Q (some (vi (bi ((0 ≤ a1 ∧ a1 < (σ 1 0)) ∧ ¬ a1 = 0 ∧ (1 ≤ a2 ∧ a2 ≤ 50) ∧ (0 ≤ a3 ∧ a3 ≤ 99))))) σ) : aEv (d + 1) true 146 [vr 0, vi a1, vi a2, vi a3] σ Q := by
  refine e146 (b146_0 ?_)
  repeat' first | apply And.intro | intro _
  all_goals first | omega | exact k | (refine q_eq ?_ k; (try unfold bi); (repeat' split) <;> omega) | (refine q_eql ?_ k; (try unfold bi); (repeat' split) <;> omega)
/-! HeatTown$Series.endingAt -/
set_option maxRecDepth 4000 in
theorem b91_0 {d : Nat} {Q : aQ} {σ : aW} {a1 : Int} (h : (-2147483648 ≤ (a1 - (σ 43 2)) ∧ (a1 - (σ 43 2)) < 2147483648) ∧ ((a1 - (σ 43 2)) < 0 → Q (some (vi 0)) σ) ∧ (¬ (a1 - (σ 43 2)) < 0 → (¬ (σ 43 1) ≤ (a1 - (σ 43 2)) → (0 ≤ (a1 - (σ 43 2)) ∧ (a1 - (σ 43 2)) < 60)) ∧ Q (some (vi (if (σ 43 1) ≤ (a1 - (σ 43 2)) then 0 else (σ 44 (a1 - (σ 43 2)))))) σ)) : Yx (d + 0) cd91 1 Q 0 [vr 43, vi a1, vt] [] σ :=
  x_iload_n (n := 1) rfl rfl rfl (x_aload_n (n := 2) rfl rfl rfl rfl (x_getI (v := (σ 43 2)) (n := 5) rfl rfl rfl rfl rfl (x_isub (n := 6) rfl rfl h.1 (x_istore_n (L := [vr 43, vi a1, vi (a1 - (σ 43 2))]) (n := 7) rfl rfl rfl rfl (x_iload_n (n := 8) rfl rfl rfl (x_if_lt (n := 11) (t := 28) rfl rfl rfl (fun hc11 => x_iconst (n := 29) rfl rfl (x_ret1 rfl rfl (h.2.1 hc11))) (fun hc11 => x_iload_n (n := 12) rfl rfl rfl (x_aload_n (n := 13) rfl rfl rfl rfl (x_getI (v := (σ 43 1)) (n := 16) rfl rfl rfl rfl rfl ((have jk : Yx (d + 0) cd91 1 Q 29 [vr 43, vi a1, vi (a1 - (σ 43 2))] [vi (if (σ 43 1) ≤ (a1 - (σ 43 2)) then 0 else (σ 44 (a1 - (σ 43 2))))] σ := x_ret1 rfl rfl (h.2.2 hc11).2; x_icmp_ge (n := 19) (t := 28) rfl rfl rfl (fun (hc19 : (σ 43 1) ≤ (a1 - (σ 43 2))) => x_iconst (n := 29) rfl rfl (m_eq (v := (if (σ 43 1) ≤ (a1 - (σ 43 2)) then 0 else (σ 44 (a1 - (σ 43 2))))) (by simp [bi, hc19]) jk)) (fun (hc19 : ¬ (σ 43 1) ≤ (a1 - (σ 43 2))) => x_aload_n (n := 20) rfl rfl rfl rfl (x_getA (n := 23) rfl rfl rfl rfl (x_iload_n (n := 24) rfl rfl rfl (x_iaload (v := (σ 44 (a1 - (σ 43 2)))) (n := 25) rfl rfl rfl ((h.2.2 hc11).1 hc19) rfl (x_goto (t := 29) rfl rfl (m_eq (v := (if (σ 43 1) ≤ (a1 - (σ 43 2)) then 0 else (σ 44 (a1 - (σ 43 2))))) (by simp [bi, hc19]) jk)))))))))))))))))
theorem e91 {d : Nat} {Q : aQ} {σ : aW} {a1 : Int} (h : Yx (d + 0) cd91 1 Q 0 [vr 43, vi a1, vt] [] σ) : aEv (d + 0) true 91 [vr 43, vi a1] σ Q := ev_of (fun _ _ => h)
theorem s91 {d : Nat} {Q : aQ} {σ : aW} {a1 : Int} (o0 : -10000 ≤ a1 ∧ a1 ≤ 100000 ∧ 0 ≤ (σ 43 2) ∧ (σ 43 2) ≤ 10000 ∧ (σ 43 1) ≤ 60) (k : Q (some (vi (if (a1 - (σ 43 2)) < 0 then 0 else if (σ 43 1) ≤ (a1 - (σ 43 2)) then 0 else (σ 44 (a1 - (σ 43 2)))))) σ) : aEv (d + 0) true 91 [vr 43, vi a1] σ Q := by
  refine e91 (b91_0 ?_)
  repeat' first | apply And.intro | intro _
  all_goals first | omega | exact k | (refine q_eq ?_ k; (try unfold bi); (repeat' split) <;> omega) | (refine q_eql ?_ k; (try unfold bi); (repeat' split) <;> omega)
/-! HeatTown$Series.endingAt -/
set_option maxRecDepth 4000 in
theorem b91o_0 {d : Nat} {Q : aQ} {σ : aW} {a1 : Int} (h : (-2147483648 ≤ (a1 - (σ 46 2)) ∧ (a1 - (σ 46 2)) < 2147483648) ∧ ((a1 - (σ 46 2)) < 0 → Q (some (vi 0)) σ) ∧ (¬ (a1 - (σ 46 2)) < 0 → (¬ (σ 46 1) ≤ (a1 - (σ 46 2)) → (0 ≤ (a1 - (σ 46 2)) ∧ (a1 - (σ 46 2)) < 60)) ∧ Q (some (vi (if (σ 46 1) ≤ (a1 - (σ 46 2)) then 0 else (σ 47 (a1 - (σ 46 2)))))) σ)) : Yx (d + 0) cd91 1 Q 0 [vr 46, vi a1, vt] [] σ :=
  x_iload_n (n := 1) rfl rfl rfl (x_aload_n (n := 2) rfl rfl rfl rfl (x_getI (v := (σ 46 2)) (n := 5) rfl rfl rfl rfl rfl (x_isub (n := 6) rfl rfl h.1 (x_istore_n (L := [vr 46, vi a1, vi (a1 - (σ 46 2))]) (n := 7) rfl rfl rfl rfl (x_iload_n (n := 8) rfl rfl rfl (x_if_lt (n := 11) (t := 28) rfl rfl rfl (fun hc11 => x_iconst (n := 29) rfl rfl (x_ret1 rfl rfl (h.2.1 hc11))) (fun hc11 => x_iload_n (n := 12) rfl rfl rfl (x_aload_n (n := 13) rfl rfl rfl rfl (x_getI (v := (σ 46 1)) (n := 16) rfl rfl rfl rfl rfl ((have jk : Yx (d + 0) cd91 1 Q 29 [vr 46, vi a1, vi (a1 - (σ 46 2))] [vi (if (σ 46 1) ≤ (a1 - (σ 46 2)) then 0 else (σ 47 (a1 - (σ 46 2))))] σ := x_ret1 rfl rfl (h.2.2 hc11).2; x_icmp_ge (n := 19) (t := 28) rfl rfl rfl (fun (hc19 : (σ 46 1) ≤ (a1 - (σ 46 2))) => x_iconst (n := 29) rfl rfl (m_eq (v := (if (σ 46 1) ≤ (a1 - (σ 46 2)) then 0 else (σ 47 (a1 - (σ 46 2))))) (by simp [bi, hc19]) jk)) (fun (hc19 : ¬ (σ 46 1) ≤ (a1 - (σ 46 2))) => x_aload_n (n := 20) rfl rfl rfl rfl (x_getA (n := 23) rfl rfl rfl rfl (x_iload_n (n := 24) rfl rfl rfl (x_iaload (v := (σ 47 (a1 - (σ 46 2)))) (n := 25) rfl rfl rfl ((h.2.2 hc11).1 hc19) rfl (x_goto (t := 29) rfl rfl (m_eq (v := (if (σ 46 1) ≤ (a1 - (σ 46 2)) then 0 else (σ 47 (a1 - (σ 46 2))))) (by simp [bi, hc19]) jk)))))))))))))))))
theorem e91o {d : Nat} {Q : aQ} {σ : aW} {a1 : Int} (h : Yx (d + 0) cd91 1 Q 0 [vr 46, vi a1, vt] [] σ) : aEv (d + 0) true 91 [vr 46, vi a1] σ Q := ev_of (fun _ _ => h)
theorem s91o {d : Nat} {Q : aQ} {σ : aW} {a1 : Int} (o0 : -10000 ≤ a1 ∧ a1 ≤ 100000 ∧ 0 ≤ (σ 46 2) ∧ (σ 46 2) ≤ 10000 ∧ (σ 46 1) ≤ 60) (k : Q (some (vi (if (a1 - (σ 46 2)) < 0 then 0 else if (σ 46 1) ≤ (a1 - (σ 46 2)) then 0 else (σ 47 (a1 - (σ 46 2)))))) σ) : aEv (d + 0) true 91 [vr 46, vi a1] σ Q := by
  refine e91o (b91o_0 ?_)
  repeat' first | apply And.intro | intro _
  all_goals first | omega | exact k | (refine q_eq ?_ k; (try unfold bi); (repeat' split) <;> omega) | (refine q_eql ?_ k; (try unfold bi); (repeat' split) <;> omega)
/-! HeatTown$Series.lastingAt -/
set_option maxRecDepth 4000 in
theorem b92_0 {d : Nat} {Q : aQ} {σ : aW} {a1 : Int} (h : (¬ (σ 43 1) = 0 → (-2147483648 ≤ ((σ 43 2) + (σ 43 1)) ∧ ((σ 43 2) + (σ 43 1)) < 2147483648) ∧ (-2147483648 ≤ (((σ 43 2) + (σ 43 1)) - 1) ∧ (((σ 43 2) + (σ 43 1)) - 1) < 2147483648) ∧ (-10000 ≤ (min a1 (((σ 43 2) + (σ 43 1)) - 1)) ∧ (min a1 (((σ 43 2) + (σ 43 1)) - 1)) ≤ 100000 ∧ 0 ≤ (σ 43 2) ∧ (σ 43 2) ≤ 10000 ∧ (σ 43 1) ≤ 60) ∧ Q (some (vi (if ((min a1 (((σ 43 2) + (σ 43 1)) - 1)) - (σ 43 2)) < 0 then 0 else if (σ 43 1) ≤ ((min a1 (((σ 43 2) + (σ 43 1)) - 1)) - (σ 43 2)) then 0 else (σ 44 ((min a1 (((σ 43 2) + (σ 43 1)) - 1)) - (σ 43 2)))))) σ) ∧ ((σ 43 1) = 0 → Q (some (vi 0)) σ)) : Yx (d + 1) cd92 1 Q 0 [vr 43, vi a1] [] σ :=
  x_aload_n (n := 1) rfl rfl rfl rfl (x_getI (v := (σ 43 1)) (n := 4) rfl rfl rfl rfl rfl (x_if_ne (n := 7) (t := 11) rfl rfl rfl (fun hc7 => x_aload_n (n := 12) rfl rfl rfl rfl (x_iload_n (n := 13) rfl rfl rfl (x_aload_n (n := 14) rfl rfl rfl rfl (x_getI (v := (σ 43 2)) (n := 17) rfl rfl rfl rfl rfl (x_aload_n (n := 18) rfl rfl rfl rfl (x_getI (v := (σ 43 1)) (n := 21) rfl rfl rfl rfl rfl (x_iadd (n := 22) rfl rfl (h.1 hc7).1 (x_iconst (n := 23) rfl rfl (x_isub (n := 24) rfl rfl (h.1 hc7).2.1 (x_min (n := 27) rfl rfl rfl rfl (x_cvI (as := [vr 43, vi (min a1 (((σ 43 2) + (σ 43 1)) - 1))]) (st := []) (n := 30) rfl rfl rfl rfl rfl ⟨_, _, rfl, rfl, rfl⟩ (s91 (h.1 hc7).2.2.1 ⟨_, rfl, x_ret1 rfl rfl (h.1 hc7).2.2.2⟩)))))))))))) (fun hc7 => x_iconst (n := 8) rfl rfl (x_goto (t := 30) rfl rfl (x_ret1 rfl rfl (h.2 hc7))))))
theorem e92 {d : Nat} {Q : aQ} {σ : aW} {a1 : Int} (h : Yx (d + 1) cd92 1 Q 0 [vr 43, vi a1] [] σ) : aEv (d + 1) true 92 [vr 43, vi a1] σ Q := ev_of (fun _ _ => h)
theorem s92 {d : Nat} {Q : aQ} {σ : aW} {a1 : Int} (o0 : (σ 43 2) ≤ a1 ∧ a1 ≤ 10000 ∧ 0 ≤ (σ 43 2) ∧ 0 ≤ (σ 43 1) ∧ (σ 43 1) ≤ 60) (k : Q (some (vi (if (σ 43 1) = 0 then 0 else (σ 44 ((min a1 (((σ 43 2) + (σ 43 1)) - 1)) - (σ 43 2)))))) σ) : aEv (d + 1) true 92 [vr 43, vi a1] σ Q := by
  refine e92 (b92_0 ?_)
  repeat' first | apply And.intro | intro _
  all_goals first | omega | exact k | (refine q_eq ?_ k; (try unfold bi); (repeat' split) <;> omega) | (refine q_eql ?_ k; (try unfold bi); (repeat' split) <;> omega)
/-! HeatTownModel.in -/
set_option maxRecDepth 4000 in
theorem b152_0 {d : Nat} {Q : aQ} {σ : aW} {a0 a2 a4 : Int} (h : (a0 < a2 → Q (some (vi 0)) σ) ∧ (¬ a0 < a2 → Q (some (vi (bi (¬ a4 < a0)))) σ)) : Yx (d + 0) cd152 3 Q 0 [vl a0, vt, vl a2, vt, vl a4, vt] [] σ :=
  x_lload_n (n := 1) rfl rfl rfl (x_lload_n (n := 2) rfl rfl rfl (x_lc_lt (n := 6) (t := 17) rfl (pc2 := 3) rfl rfl rfl rfl (fun hc6 => x_iconst (n := 18) rfl rfl (x_ret3 rfl rfl (by omega) (h.1 hc6))) (fun hc6 => x_lload_n (n := 7) rfl rfl rfl (x_lload (n := 9) rfl rfl rfl ((have jk : Yx (d + 0) cd152 3 Q 18 [vl a0, vt, vl a2, vt, vl a4, vt] [vi (bi (¬ a4 < a0))] σ := x_ret3 rfl rfl bi_01 (h.2 hc6); x_lc_gt (n := 13) (t := 17) rfl (pc2 := 10) rfl rfl rfl rfl (fun (hc13 : a4 < a0) => x_iconst (n := 18) rfl rfl (m_eq (v := (bi (¬ a4 < a0))) (by simp [bi, hc13]) jk)) (fun (hc13 : ¬ a4 < a0) => x_iconst (n := 14) rfl rfl (x_goto (t := 18) rfl rfl (m_eq (v := (bi (¬ a4 < a0))) (by simp [bi, hc13]) jk)))))))))
theorem e152 {d : Nat} {Q : aQ} {σ : aW} {a0 a2 a4 : Int} (h : Yx (d + 0) cd152 3 Q 0 [vl a0, vt, vl a2, vt, vl a4, vt] [] σ) : aEv (d + 0) true 152 [vl a0, vl a2, vl a4] σ Q := ev_of (fun _ _ => h)
theorem s152 {d : Nat} {Q : aQ} {σ : aW} {a0 a2 a4 : Int} (k : Q (some (vi (bi (a2 ≤ a0 ∧ a0 ≤ a4)))) σ) : aEv (d + 0) true 152 [vl a0, vl a2, vl a4] σ Q := by
  refine e152 (b152_0 ?_)
  repeat' first | apply And.intro | intro _
  all_goals first | omega | exact k | (refine q_eq ?_ k; (try unfold bi); (repeat' split) <;> omega) | (refine q_eql ?_ k; (try unfold bi); (repeat' split) <;> omega)
/-! HeatTownModel.isPlace -/
set_option maxRecDepth 4000 in
theorem b154_0 {d : Nat} {Q : aQ} {σ : aW} {a0 : Int} (h : Q (some (vi (bi (0 ≤ a0 ∧ a0 ≤ 3)))) σ) : Yx (d + 1) cd154 3 Q 0 [vi a0] [] σ :=
  x_iload_n (n := 1) rfl rfl rfl (x_i2l (n := 2) rfl rfl (x_lconst (w := 0) (n := 3) rfl rfl rfl (x_ldc2 (v := 3) (n := 6) rfl rfl rfl (x_csI (as := [vl a0, vl 0, vl 3]) (st := []) (n := 9) rfl rfl rfl rfl rfl trivial (s152 ⟨_, rfl, x_ret3 rfl rfl bi_01 h⟩)))))
theorem e154 {d : Nat} {Q : aQ} {σ : aW} {a0 : Int} (h : Yx (d + 1) cd154 3 Q 0 [vi a0] [] σ) : aEv (d + 1) true 154 [vi a0] σ Q := ev_of (fun _ _ => h)
theorem s154 {d : Nat} {Q : aQ} {σ : aW} {a0 : Int} (k : Q (some (vi (bi (0 ≤ a0 ∧ a0 ≤ 3)))) σ) : aEv (d + 1) true 154 [vi a0] σ Q := by
  refine e154 (b154_0 ?_)
  repeat' first | apply And.intro | intro _
  all_goals first | omega | exact k | (refine q_eq ?_ k; (try unfold bi); (repeat' split) <;> omega) | (refine q_eql ?_ k; (try unfold bi); (repeat' split) <;> omega)
/-! HeatTownModel.isNode -/
set_option maxRecDepth 4000 in
theorem b163_0 {d : Nat} {Q : aQ} {σ : aW} {a1 : Int} (h : (-2147483648 ≤ ((σ 96 5) - 1) ∧ ((σ 96 5) - 1) < 2147483648) ∧ Q (some (vi (bi (0 ≤ a1 ∧ a1 ≤ ((σ 96 5) - 1))))) σ) : Yx (d + 1) cd163 3 Q 0 [vr 96, vi a1] [] σ :=
  x_iload_n (n := 1) rfl rfl rfl (x_i2l (n := 2) rfl rfl (x_lconst (w := 0) (n := 3) rfl rfl rfl (x_aload_n (n := 4) rfl rfl rfl rfl (x_getI (v := (σ 96 5)) (n := 7) rfl rfl rfl rfl rfl (x_iconst (n := 8) rfl rfl (x_isub (n := 9) rfl rfl h.1 (x_i2l (n := 10) rfl rfl (x_csI (as := [vl a1, vl 0, vl ((σ 96 5) - 1)]) (st := []) (n := 13) rfl rfl rfl rfl rfl trivial (s152 ⟨_, rfl, x_ret3 rfl rfl bi_01 h.2⟩)))))))))
theorem e163 {d : Nat} {Q : aQ} {σ : aW} {a1 : Int} (h : Yx (d + 1) cd163 3 Q 0 [vr 96, vi a1] [] σ) : aEv (d + 1) true 163 [vr 96, vi a1] σ Q := ev_of (fun _ _ => h)
theorem s163 {d : Nat} {Q : aQ} {σ : aW} {a1 : Int} (o0 : 0 ≤ (σ 96 5) ∧ (σ 96 5) ≤ 12) (k : Q (some (vi (bi (0 ≤ a1 ∧ a1 ≤ ((σ 96 5) - 1))))) σ) : aEv (d + 1) true 163 [vr 96, vi a1] σ Q := by
  refine e163 (b163_0 ?_)
  repeat' first | apply And.intro | intro _
  all_goals first | omega | exact k | (refine q_eq ?_ k; (try unfold bi); (repeat' split) <;> omega) | (refine q_eql ?_ k; (try unfold bi); (repeat' split) <;> omega)
/-! HeatTownModel.isPipe -/
set_option maxRecDepth 4000 in
theorem b164_0 {d : Nat} {Q : aQ} {σ : aW} {a1 : Int} (h : (-2147483648 ≤ ((σ 96 6) - 1) ∧ ((σ 96 6) - 1) < 2147483648) ∧ Q (some (vi (bi (0 ≤ a1 ∧ a1 ≤ ((σ 96 6) - 1))))) σ) : Yx (d + 1) cd164 3 Q 0 [vr 96, vi a1] [] σ :=
  x_iload_n (n := 1) rfl rfl rfl (x_i2l (n := 2) rfl rfl (x_lconst (w := 0) (n := 3) rfl rfl rfl (x_aload_n (n := 4) rfl rfl rfl rfl (x_getI (v := (σ 96 6)) (n := 7) rfl rfl rfl rfl rfl (x_iconst (n := 8) rfl rfl (x_isub (n := 9) rfl rfl h.1 (x_i2l (n := 10) rfl rfl (x_csI (as := [vl a1, vl 0, vl ((σ 96 6) - 1)]) (st := []) (n := 13) rfl rfl rfl rfl rfl trivial (s152 ⟨_, rfl, x_ret3 rfl rfl bi_01 h.2⟩)))))))))
theorem e164 {d : Nat} {Q : aQ} {σ : aW} {a1 : Int} (h : Yx (d + 1) cd164 3 Q 0 [vr 96, vi a1] [] σ) : aEv (d + 1) true 164 [vr 96, vi a1] σ Q := ev_of (fun _ _ => h)
theorem s164 {d : Nat} {Q : aQ} {σ : aW} {a1 : Int} (o0 : 0 ≤ (σ 96 6) ∧ (σ 96 6) ≤ 20) (k : Q (some (vi (bi (0 ≤ a1 ∧ a1 ≤ ((σ 96 6) - 1))))) σ) : aEv (d + 1) true 164 [vr 96, vi a1] σ Q := by
  refine e164 (b164_0 ?_)
  repeat' first | apply And.intro | intro _
  all_goals first | omega | exact k | (refine q_eq ?_ k; (try unfold bi); (repeat' split) <;> omega) | (refine q_eql ?_ k; (try unfold bi); (repeat' split) <;> omega)
/-! HeatTownModel.isHouse -/
set_option maxRecDepth 4000 in
theorem b165_0 {d : Nat} {Q : aQ} {σ : aW} {a1 : Int} (h : (-2147483648 ≤ ((σ 96 7) - 1) ∧ ((σ 96 7) - 1) < 2147483648) ∧ Q (some (vi (bi (0 ≤ a1 ∧ a1 ≤ ((σ 96 7) - 1))))) σ) : Yx (d + 1) cd165 3 Q 0 [vr 96, vi a1] [] σ :=
  x_iload_n (n := 1) rfl rfl rfl (x_i2l (n := 2) rfl rfl (x_lconst (w := 0) (n := 3) rfl rfl rfl (x_aload_n (n := 4) rfl rfl rfl rfl (x_getI (v := (σ 96 7)) (n := 7) rfl rfl rfl rfl rfl (x_iconst (n := 8) rfl rfl (x_isub (n := 9) rfl rfl h.1 (x_i2l (n := 10) rfl rfl (x_csI (as := [vl a1, vl 0, vl ((σ 96 7) - 1)]) (st := []) (n := 13) rfl rfl rfl rfl rfl trivial (s152 ⟨_, rfl, x_ret3 rfl rfl bi_01 h.2⟩)))))))))
theorem e165 {d : Nat} {Q : aQ} {σ : aW} {a1 : Int} (h : Yx (d + 1) cd165 3 Q 0 [vr 96, vi a1] [] σ) : aEv (d + 1) true 165 [vr 96, vi a1] σ Q := ev_of (fun _ _ => h)
theorem s165 {d : Nat} {Q : aQ} {σ : aW} {a1 : Int} (o0 : 0 ≤ (σ 96 7) ∧ (σ 96 7) ≤ 16) (k : Q (some (vi (bi (0 ≤ a1 ∧ a1 ≤ ((σ 96 7) - 1))))) σ) : aEv (d + 1) true 165 [vr 96, vi a1] σ Q := by
  refine e165 (b165_0 ?_)
  repeat' first | apply And.intro | intro _
  all_goals first | omega | exact k | (refine q_eq ?_ k; (try unfold bi); (repeat' split) <;> omega) | (refine q_eql ?_ k; (try unfold bi); (repeat' split) <;> omega)
/-! HeatTownModel.isLike -/
set_option maxRecDepth 4000 in
theorem b167_0 {d : Nat} {Q : aQ} {σ : aW} {a0 a1 : Int} (h : ((¬ (1 ≤ a0 ∧ a0 ≤ 50)) → Q (some (vi 0)) σ) ∧ ((1 ≤ a0 ∧ a0 ≤ 50) → Q (some (vi (bi (0 ≤ a1 ∧ a1 ≤ 99)))) σ)) : Yx (d + 1) cd167 3 Q 0 [vi a0, vi a1] [] σ :=
  x_iload_n (n := 1) rfl rfl rfl (x_i2l (n := 2) rfl rfl (x_lconst (w := 1) (n := 3) rfl rfl rfl (x_ldc2 (v := 50) (n := 6) rfl rfl rfl (x_csI (as := [vl a0, vl 1, vl 50]) (st := []) (n := 9) rfl rfl rfl rfl rfl trivial (s152 ⟨_, rfl, x_ifb_eq (n := 12) (t := 28) rfl rfl rfl (fun hc12 => x_iconst (n := 29) rfl rfl (x_ret3 rfl rfl (by omega) (h.1 hc12))) (fun hc12 => x_iload_n (n := 13) rfl rfl rfl (x_i2l (n := 14) rfl rfl (x_lconst (w := 0) (n := 15) rfl rfl rfl (x_ldc2 (v := 99) (n := 18) rfl rfl rfl (x_csI (as := [vl a1, vl 0, vl 99]) (st := []) (n := 21) rfl rfl rfl rfl rfl trivial (s152 ⟨_, rfl, (have jk : Yx (d + 1) cd167 3 Q 29 [vi a0, vi a1] [vi (bi (0 ≤ a1 ∧ a1 ≤ 99))] σ := x_ret3 rfl rfl bi_01 (h.2 hc12); x_ifb_eq (n := 24) (t := 28) rfl rfl rfl (fun (hc24 : ¬ (0 ≤ a1 ∧ a1 ≤ 99)) => x_iconst (n := 29) rfl rfl (m_eq (v := (bi (0 ≤ a1 ∧ a1 ≤ 99))) (by simp [bi, hc24]) jk)) (fun (hc24 : 0 ≤ a1 ∧ a1 ≤ 99) => x_iconst (n := 25) rfl rfl (x_goto (t := 29) rfl rfl (m_eq (v := (bi (0 ≤ a1 ∧ a1 ≤ 99))) (by simp [bi, hc24]) jk))))⟩))))))⟩)))))
theorem e167 {d : Nat} {Q : aQ} {σ : aW} {a0 a1 : Int} (h : Yx (d + 1) cd167 3 Q 0 [vi a0, vi a1] [] σ) : aEv (d + 1) true 167 [vi a0, vi a1] σ Q := ev_of (fun _ _ => h)
theorem s167 {d : Nat} {Q : aQ} {σ : aW} {a0 a1 : Int} (k : Q (some (vi (bi ((1 ≤ a0 ∧ a0 ≤ 50) ∧ (0 ≤ a1 ∧ a1 ≤ 99))))) σ) : aEv (d + 1) true 167 [vi a0, vi a1] σ Q := by
  refine e167 (b167_0 ?_)
  repeat' first | apply And.intro | intro _
  all_goals first | omega | exact k | (refine q_eq ?_ k; (try unfold bi); (repeat' split) <;> omega) | (refine q_eql ?_ k; (try unfold bi); (repeat' split) <;> omega)
/-! HeatTownModel.isOpen -/
set_option maxRecDepth 4000 in
theorem b171_0 {d : Nat} {Q : aQ} {σ : aW} {a1 : Int} (h : (0 ≤ a1 ∧ a1 < 20) ∧ (¬ (σ 108 a1) = 0 → Q (some (vi 0)) σ) ∧ ((σ 108 a1) = 0 → (-2147483648 ≤ (2 * a1) ∧ (2 * a1) < 2147483648) ∧ (0 ≤ (2 * a1) ∧ (2 * a1) < 40) ∧ (¬ (σ 107 (2 * a1)) = 0 → Q (some (vi 0)) σ) ∧ ((σ 107 (2 * a1)) = 0 → (-2147483648 ≤ (2 * a1) ∧ (2 * a1) < 2147483648) ∧ (-2147483648 ≤ ((2 * a1) + 1) ∧ ((2 * a1) + 1) < 2147483648) ∧ (0 ≤ ((2 * a1) + 1) ∧ ((2 * a1) + 1) < 40) ∧ Q (some (vi (bi ((σ 107 ((2 * a1) + 1)) = 0)))) σ))) : Yx (d + 0) cd171 3 Q 0 [vr 96, vi a1] [] σ :=
  x_aload_n (n := 1) rfl rfl rfl rfl (x_getA (n := 4) rfl rfl rfl rfl (x_iload_n (n := 5) rfl rfl rfl (x_zaload (v := (σ 108 a1)) (n := 6) rfl rfl rfl h.1 rfl (x_if_ne (n := 9) (t := 37) rfl rfl rfl (fun hc9 => x_iconst (n := 38) rfl rfl (x_ret3 rfl rfl (by omega) (h.2.1 hc9))) (fun hc9 => x_aload_n (n := 10) rfl rfl rfl rfl (x_getA (n := 13) rfl rfl rfl rfl (x_iconst (n := 14) rfl rfl (x_iload_n (n := 15) rfl rfl rfl (x_imul (n := 16) rfl rfl (h.2.2 hc9).1 (x_zaload (v := (σ 107 (2 * a1))) (n := 17) rfl rfl rfl (h.2.2 hc9).2.1 rfl (x_if_ne (n := 20) (t := 37) rfl rfl rfl (fun hc20 => x_iconst (n := 38) rfl rfl (x_ret3 rfl rfl (by omega) ((h.2.2 hc9).2.2.1 hc20))) (fun hc20 => x_aload_n (n := 21) rfl rfl rfl rfl (x_getA (n := 24) rfl rfl rfl rfl (x_iconst (n := 25) rfl rfl (x_iload_n (n := 26) rfl rfl rfl (x_imul (n := 27) rfl rfl ((h.2.2 hc9).2.2.2 hc20).1 (x_iconst (n := 28) rfl rfl (x_iadd (n := 29) rfl rfl ((h.2.2 hc9).2.2.2 hc20).2.1 (x_zaload (v := (σ 107 ((2 * a1) + 1))) (n := 30) rfl rfl rfl ((h.2.2 hc9).2.2.2 hc20).2.2.1 rfl ((have jk : Yx (d + 0) cd171 3 Q 38 [vr 96, vi a1] [vi (bi ((σ 107 ((2 * a1) + 1)) = 0))] σ := x_ret3 rfl rfl bi_01 ((h.2.2 hc9).2.2.2 hc20).2.2.2; x_if_ne (n := 33) (t := 37) rfl rfl rfl (fun (hc33 : ¬ (σ 107 ((2 * a1) + 1)) = 0) => x_iconst (n := 38) rfl rfl (m_eq (v := (bi ((σ 107 ((2 * a1) + 1)) = 0))) (by simp [bi, hc33]) jk)) (fun (hc33 : (σ 107 ((2 * a1) + 1)) = 0) => x_iconst (n := 34) rfl rfl (x_goto (t := 38) rfl rfl (m_eq (v := (bi ((σ 107 ((2 * a1) + 1)) = 0))) (by simp [bi, hc33]) jk))))))))))))))))))))))))
theorem e171 {d : Nat} {Q : aQ} {σ : aW} {a1 : Int} (h : Yx (d + 0) cd171 3 Q 0 [vr 96, vi a1] [] σ) : aEv (d + 0) true 171 [vr 96, vi a1] σ Q := ev_of (fun _ _ => h)
theorem s171 {d : Nat} {Q : aQ} {σ : aW} {a1 : Int} (o0 : 0 ≤ a1 ∧ a1 < 20) (k : Q (some (vi (bi ((σ 108 a1) = 0 ∧ (σ 107 (2 * a1)) = 0 ∧ (σ 107 ((2 * a1) + 1)) = 0)))) σ) : aEv (d + 0) true 171 [vr 96, vi a1] σ Q := by
  refine e171 (b171_0 ?_)
  repeat' first | apply And.intro | intro _
  all_goals first | omega | exact k | (refine q_eq ?_ k; (try unfold bi); (repeat' split) <;> omega) | (refine q_eql ?_ k; (try unfold bi); (repeat' split) <;> omega)
/-! HeatTownModel.other -/
set_option maxRecDepth 4000 in
theorem b199_0 {d : Nat} {Q : aQ} {σ : aW} {a1 a2 : Int} (h : (0 ≤ a1 ∧ a1 < 20) ∧ (¬ (σ 101 a1) = a2 → (0 ≤ a1 ∧ a1 < 20)) ∧ ((σ 101 a1) = a2 → (0 ≤ a1 ∧ a1 < 20)) ∧ Q (some (vi (if ¬ (σ 101 a1) = a2 then (σ 101 a1) else (σ 102 a1)))) σ) : Yx (d + 0) cd199 1 Q 0 [vr 96, vi a1, vi a2] [] σ :=
  x_aload_n (n := 1) rfl rfl rfl rfl (x_getA (n := 4) rfl rfl rfl rfl (x_iload_n (n := 5) rfl rfl rfl (x_iaload (v := (σ 101 a1)) (n := 6) rfl rfl rfl h.1 rfl (x_iload_n (n := 7) rfl rfl rfl ((have jk : Yx (d + 0) cd199 1 Q 25 [vr 96, vi a1, vi a2] [vi (if ¬ (σ 101 a1) = a2 then (σ 101 a1) else (σ 102 a1))] σ := x_ret1 rfl rfl h.2.2.2; x_icmp_ne (n := 10) (t := 19) rfl rfl rfl (fun (hc10 : ¬ (σ 101 a1) = a2) => x_aload_n (n := 20) rfl rfl rfl rfl (x_getA (n := 23) rfl rfl rfl rfl (x_iload_n (n := 24) rfl rfl rfl (x_iaload (v := (σ 101 a1)) (n := 25) rfl rfl rfl (h.2.1 hc10) rfl (m_eq (v := (if ¬ (σ 101 a1) = a2 then (σ 101 a1) else (σ 102 a1))) (by simp [bi, hc10]) jk))))) (fun (hc10 : (σ 101 a1) = a2) => x_aload_n (n := 11) rfl rfl rfl rfl (x_getA (n := 14) rfl rfl rfl rfl (x_iload_n (n := 15) rfl rfl rfl (x_iaload (v := (σ 102 a1)) (n := 16) rfl rfl rfl (h.2.2.1 hc10) rfl (x_goto (t := 25) rfl rfl (m_eq (v := (if ¬ (σ 101 a1) = a2 then (σ 101 a1) else (σ 102 a1))) (by simp [bi, hc10]) jk))))))))))))
theorem e199 {d : Nat} {Q : aQ} {σ : aW} {a1 a2 : Int} (h : Yx (d + 0) cd199 1 Q 0 [vr 96, vi a1, vi a2] [] σ) : aEv (d + 0) true 199 [vr 96, vi a1, vi a2] σ Q := ev_of (fun _ _ => h)
theorem s199 {d : Nat} {Q : aQ} {σ : aW} {a1 a2 : Int} (o0 : 0 ≤ a1 ∧ a1 < 20) (k : Q (some (vi (if (σ 101 a1) = a2 then (σ 102 a1) else (σ 101 a1)))) σ) : aEv (d + 0) true 199 [vr 96, vi a1, vi a2] σ Q := by
  refine e199 (b199_0 ?_)
  repeat' first | apply And.intro | intro _
  all_goals first | omega | exact k | (refine q_eq ?_ k; (try unfold bi); (repeat' split) <;> omega) | (refine q_eql ?_ k; (try unfold bi); (repeat' split) <;> omega)
/-! HeatTownModel.endOf -/
set_option maxRecDepth 4000 in
theorem b226_0 {d : Nat} {Q : aQ} {σ : aW} {a1 a2 : Int} (h : (¬ a2 = 0 → (0 ≤ a1 ∧ a1 < 20)) ∧ (a2 = 0 → (0 ≤ a1 ∧ a1 < 20)) ∧ Q (some (vi (if ¬ a2 = 0 then (σ 102 a1) else (σ 101 a1)))) σ) : Yx (d + 0) cd226 1 Q 0 [vr 96, vi a1, vi a2] [] σ :=
  x_iload_n (n := 1) rfl rfl rfl ((have jk : Yx (d + 0) cd226 1 Q 19 [vr 96, vi a1, vi a2] [vi (if ¬ a2 = 0 then (σ 102 a1) else (σ 101 a1))] σ := x_ret1 rfl rfl h.2.2; x_if_ne (n := 4) (t := 13) rfl rfl rfl (fun (hc4 : ¬ a2 = 0) => x_aload_n (n := 14) rfl rfl rfl rfl (x_getA (n := 17) rfl rfl rfl rfl (x_iload_n (n := 18) rfl rfl rfl (x_iaload (v := (σ 102 a1)) (n := 19) rfl rfl rfl (h.1 hc4) rfl (m_eq (v := (if ¬ a2 = 0 then (σ 102 a1) else (σ 101 a1))) (by simp [bi, hc4]) jk))))) (fun (hc4 : a2 = 0) => x_aload_n (n := 5) rfl rfl rfl rfl (x_getA (n := 8) rfl rfl rfl rfl (x_iload_n (n := 9) rfl rfl rfl (x_iaload (v := (σ 101 a1)) (n := 10) rfl rfl rfl (h.2.1 hc4) rfl (x_goto (t := 19) rfl rfl (m_eq (v := (if ¬ a2 = 0 then (σ 102 a1) else (σ 101 a1))) (by simp [bi, hc4]) jk))))))))
theorem e226 {d : Nat} {Q : aQ} {σ : aW} {a1 a2 : Int} (h : Yx (d + 0) cd226 1 Q 0 [vr 96, vi a1, vi a2] [] σ) : aEv (d + 0) true 226 [vr 96, vi a1, vi a2] σ Q := ev_of (fun _ _ => h)
theorem s226 {d : Nat} {Q : aQ} {σ : aW} {a1 a2 : Int} (o0 : 0 ≤ a1 ∧ a1 < 20) (k : Q (some (vi (if a2 = 0 then (σ 101 a1) else (σ 102 a1)))) σ) : aEv (d + 0) true 226 [vr 96, vi a1, vi a2] σ Q := by
  refine e226 (b226_0 ?_)
  repeat' first | apply And.intro | intro _
  all_goals first | omega | exact k | (refine q_eq ?_ k; (try unfold bi); (repeat' split) <;> omega) | (refine q_eql ?_ k; (try unfold bi); (repeat' split) <;> omega)
/-! HeatTownModel.from -/
set_option maxRecDepth 4000 in
theorem b207_0 {d : Nat} {Q : aQ} {σ : aW} {a1 : Int} (h : (0 ≤ a1 ∧ a1 < 20) ∧ ((σ 126 a1) ≤ 0 → (0 ≤ a1 ∧ a1 < 20)) ∧ (¬ (σ 126 a1) ≤ 0 → (0 ≤ a1 ∧ a1 < 20)) ∧ Q (some (vi (if (σ 126 a1) ≤ 0 then (σ 102 a1) else (σ 101 a1)))) σ) : Yx (d + 0) cd207 1 Q 0 [vr 96, vi a1] [] σ :=
  x_aload_n (n := 1) rfl rfl rfl rfl (x_getA (n := 4) rfl rfl rfl rfl (x_iload_n (n := 5) rfl rfl rfl (x_iaload (v := (σ 126 a1)) (n := 6) rfl rfl rfl h.1 rfl ((have jk : Yx (d + 0) cd207 1 Q 24 [vr 96, vi a1] [vi (if (σ 126 a1) ≤ 0 then (σ 102 a1) else (σ 101 a1))] σ := x_ret1 rfl rfl h.2.2.2; x_if_le (n := 9) (t := 18) rfl rfl rfl (fun (hc9 : (σ 126 a1) ≤ 0) => x_aload_n (n := 19) rfl rfl rfl rfl (x_getA (n := 22) rfl rfl rfl rfl (x_iload_n (n := 23) rfl rfl rfl (x_iaload (v := (σ 102 a1)) (n := 24) rfl rfl rfl (h.2.1 hc9) rfl (m_eq (v := (if (σ 126 a1) ≤ 0 then (σ 102 a1) else (σ 101 a1))) (by simp [bi, hc9]) jk))))) (fun (hc9 : ¬ (σ 126 a1) ≤ 0) => x_aload_n (n := 10) rfl rfl rfl rfl (x_getA (n := 13) rfl rfl rfl rfl (x_iload_n (n := 14) rfl rfl rfl (x_iaload (v := (σ 101 a1)) (n := 15) rfl rfl rfl (h.2.2.1 hc9) rfl (x_goto (t := 24) rfl rfl (m_eq (v := (if (σ 126 a1) ≤ 0 then (σ 102 a1) else (σ 101 a1))) (by simp [bi, hc9]) jk)))))))))))
theorem e207 {d : Nat} {Q : aQ} {σ : aW} {a1 : Int} (h : Yx (d + 0) cd207 1 Q 0 [vr 96, vi a1] [] σ) : aEv (d + 0) true 207 [vr 96, vi a1] σ Q := ev_of (fun _ _ => h)
theorem s207 {d : Nat} {Q : aQ} {σ : aW} {a1 : Int} (o0 : 0 ≤ a1 ∧ a1 < 20) (k : Q (some (vi (if 0 < (σ 126 a1) then (σ 101 a1) else (σ 102 a1)))) σ) : aEv (d + 0) true 207 [vr 96, vi a1] σ Q := by
  refine e207 (b207_0 ?_)
  repeat' first | apply And.intro | intro _
  all_goals first | omega | exact k | (refine q_eq ?_ k; (try unfold bi); (repeat' split) <;> omega) | (refine q_eql ?_ k; (try unfold bi); (repeat' split) <;> omega)
/-! HeatTownModel.to -/
set_option maxRecDepth 4000 in
theorem b208_0 {d : Nat} {Q : aQ} {σ : aW} {a1 : Int} (h : (0 ≤ a1 ∧ a1 < 20) ∧ ((σ 126 a1) ≤ 0 → (0 ≤ a1 ∧ a1 < 20)) ∧ (¬ (σ 126 a1) ≤ 0 → (0 ≤ a1 ∧ a1 < 20)) ∧ Q (some (vi (if (σ 126 a1) ≤ 0 then (σ 101 a1) else (σ 102 a1)))) σ) : Yx (d + 0) cd208 1 Q 0 [vr 96, vi a1] [] σ :=
  x_aload_n (n := 1) rfl rfl rfl rfl (x_getA (n := 4) rfl rfl rfl rfl (x_iload_n (n := 5) rfl rfl rfl (x_iaload (v := (σ 126 a1)) (n := 6) rfl rfl rfl h.1 rfl ((have jk : Yx (d + 0) cd208 1 Q 24 [vr 96, vi a1] [vi (if (σ 126 a1) ≤ 0 then (σ 101 a1) else (σ 102 a1))] σ := x_ret1 rfl rfl h.2.2.2; x_if_le (n := 9) (t := 18) rfl rfl rfl (fun (hc9 : (σ 126 a1) ≤ 0) => x_aload_n (n := 19) rfl rfl rfl rfl (x_getA (n := 22) rfl rfl rfl rfl (x_iload_n (n := 23) rfl rfl rfl (x_iaload (v := (σ 101 a1)) (n := 24) rfl rfl rfl (h.2.1 hc9) rfl (m_eq (v := (if (σ 126 a1) ≤ 0 then (σ 101 a1) else (σ 102 a1))) (by simp [bi, hc9]) jk))))) (fun (hc9 : ¬ (σ 126 a1) ≤ 0) => x_aload_n (n := 10) rfl rfl rfl rfl (x_getA (n := 13) rfl rfl rfl rfl (x_iload_n (n := 14) rfl rfl rfl (x_iaload (v := (σ 102 a1)) (n := 15) rfl rfl rfl (h.2.2.1 hc9) rfl (x_goto (t := 24) rfl rfl (m_eq (v := (if (σ 126 a1) ≤ 0 then (σ 101 a1) else (σ 102 a1))) (by simp [bi, hc9]) jk)))))))))))
theorem e208 {d : Nat} {Q : aQ} {σ : aW} {a1 : Int} (h : Yx (d + 0) cd208 1 Q 0 [vr 96, vi a1] [] σ) : aEv (d + 0) true 208 [vr 96, vi a1] σ Q := ev_of (fun _ _ => h)
theorem s208 {d : Nat} {Q : aQ} {σ : aW} {a1 : Int} (o0 : 0 ≤ a1 ∧ a1 < 20) (k : Q (some (vi (if 0 < (σ 126 a1) then (σ 102 a1) else (σ 101 a1)))) σ) : aEv (d + 0) true 208 [vr 96, vi a1] σ Q := by
  refine e208 (b208_0 ?_)
  repeat' first | apply And.intro | intro _
  all_goals first | omega | exact k | (refine q_eq ?_ k; (try unfold bi); (repeat' split) <;> omega) | (refine q_eql ?_ k; (try unfold bi); (repeat' split) <;> omega)
/-! HeatTownModel.units -/
set_option maxRecDepth 4000 in
theorem b209_0 {d : Nat} {Q : aQ} {σ : aW} {a1 : Int} (h : (0 ≤ a1 ∧ a1 < 20) ∧ (-2147483648 < (σ 126 a1) ∧ (σ 126 a1) < 2147483648) ∧ Q (some (vi (((σ 126 a1)).natAbs : Int))) σ) : Yx (d + 1) cd209 1 Q 0 [vr 96, vi a1] [] σ :=
  x_aload_n (n := 1) rfl rfl rfl rfl (x_getA (n := 4) rfl rfl rfl rfl (x_iload_n (n := 5) rfl rfl rfl (x_iaload (v := (σ 126 a1)) (n := 6) rfl rfl rfl h.1 rfl (x_abs (y := 0) (n := 9) rfl rfl rfl rfl h.2.1 (x_ret1 rfl rfl h.2.2)))))
theorem e209 {d : Nat} {Q : aQ} {σ : aW} {a1 : Int} (h : Yx (d + 1) cd209 1 Q 0 [vr 96, vi a1] [] σ) : aEv (d + 1) true 209 [vr 96, vi a1] σ Q := ev_of (fun _ _ => h)
theorem s209 {d : Nat} {Q : aQ} {σ : aW} {a1 : Int} (o0 : 0 ≤ a1 ∧ a1 < 20) (o1 : -2147483648 < (σ 126 a1) ∧ (σ 126 a1) < 2147483648) (k : Q (some (vi (((σ 126 a1)).natAbs : Int))) σ) : aEv (d + 1) true 209 [vr 96, vi a1] σ Q := by
  refine e209 (b209_0 ?_)
  repeat' first | apply And.intro | intro _
  all_goals first | omega | exact k | (refine q_eq ?_ k; (try unfold bi); (repeat' split) <;> omega) | (refine q_eql ?_ k; (try unfold bi); (repeat' split) <;> omega)
/-! HeatTownModel.isLetter -/
set_option maxRecDepth 4000 in
theorem b180_0 {d : Nat} {Q : aQ} {σ : aW} {a0 : Int} (h : (a0 < 97 → Q (some (vi 0)) σ) ∧ (¬ a0 < 97 → Q (some (vi (bi (¬ 122 < a0)))) σ)) : Yx (d + 0) cd180 3 Q 0 [vi a0] [] σ :=
  x_iload_n (n := 1) rfl rfl rfl (x_bipush (n := 3) rfl rfl (x_icmp_lt (n := 6) (t := 16) rfl rfl rfl (fun hc6 => x_iconst (n := 17) rfl rfl (x_ret3 rfl rfl (by omega) (h.1 hc6))) (fun hc6 => x_iload_n (n := 7) rfl rfl rfl (x_bipush (n := 9) rfl rfl ((have jk : Yx (d + 0) cd180 3 Q 17 [vi a0] [vi (bi (¬ 122 < a0))] σ := x_ret3 rfl rfl bi_01 (h.2 hc6); x_icmp_gt (n := 12) (t := 16) rfl rfl rfl (fun (hc12 : 122 < a0) => x_iconst (n := 17) rfl rfl (m_eq (v := (bi (¬ 122 < a0))) (by simp [bi, hc12]) jk)) (fun (hc12 : ¬ 122 < a0) => x_iconst (n := 13) rfl rfl (x_goto (t := 17) rfl rfl (m_eq (v := (bi (¬ 122 < a0))) (by simp [bi, hc12]) jk)))))))))
theorem e180 {d : Nat} {Q : aQ} {σ : aW} {a0 : Int} (h : Yx (d + 0) cd180 3 Q 0 [vi a0] [] σ) : aEv (d + 0) true 180 [vi a0] σ Q := ev_of (fun _ _ => h)
theorem s180 {d : Nat} {Q : aQ} {σ : aW} {a0 : Int} (k : Q (some (vi (bi (97 ≤ a0 ∧ a0 ≤ 122)))) σ) : aEv (d + 0) true 180 [vi a0] σ Q := by
  refine e180 (b180_0 ?_)
  repeat' first | apply And.intro | intro _
  all_goals first | omega | exact k | (refine q_eq ?_ k; (try unfold bi); (repeat' split) <;> omega) | (refine q_eql ?_ k; (try unfold bi); (repeat' split) <;> omega)
/-! HeatTownModel.isDigit -/
set_option maxRecDepth 4000 in
theorem b181_0 {d : Nat} {Q : aQ} {σ : aW} {a0 : Int} (h : (a0 < 48 → Q (some (vi 0)) σ) ∧ (¬ a0 < 48 → Q (some (vi (bi (¬ 57 < a0)))) σ)) : Yx (d + 0) cd181 3 Q 0 [vi a0] [] σ :=
  x_iload_n (n := 1) rfl rfl rfl (x_bipush (n := 3) rfl rfl (x_icmp_lt (n := 6) (t := 16) rfl rfl rfl (fun hc6 => x_iconst (n := 17) rfl rfl (x_ret3 rfl rfl (by omega) (h.1 hc6))) (fun hc6 => x_iload_n (n := 7) rfl rfl rfl (x_bipush (n := 9) rfl rfl ((have jk : Yx (d + 0) cd181 3 Q 17 [vi a0] [vi (bi (¬ 57 < a0))] σ := x_ret3 rfl rfl bi_01 (h.2 hc6); x_icmp_gt (n := 12) (t := 16) rfl rfl rfl (fun (hc12 : 57 < a0) => x_iconst (n := 17) rfl rfl (m_eq (v := (bi (¬ 57 < a0))) (by simp [bi, hc12]) jk)) (fun (hc12 : ¬ 57 < a0) => x_iconst (n := 13) rfl rfl (x_goto (t := 17) rfl rfl (m_eq (v := (bi (¬ 57 < a0))) (by simp [bi, hc12]) jk)))))))))
theorem e181 {d : Nat} {Q : aQ} {σ : aW} {a0 : Int} (h : Yx (d + 0) cd181 3 Q 0 [vi a0] [] σ) : aEv (d + 0) true 181 [vi a0] σ Q := ev_of (fun _ _ => h)
theorem s181 {d : Nat} {Q : aQ} {σ : aW} {a0 : Int} (k : Q (some (vi (bi (48 ≤ a0 ∧ a0 ≤ 57)))) σ) : aEv (d + 0) true 181 [vi a0] σ Q := by
  refine e181 (b181_0 ?_)
  repeat' first | apply And.intro | intro _
  all_goals first | omega | exact k | (refine q_eq ?_ k; (try unfold bi); (repeat' split) <;> omega) | (refine q_eql ?_ k; (try unfold bi); (repeat' split) <;> omega)
/-! HeatTownModel.isSignByte -/
set_option maxRecDepth 4000 in
theorem b182_0 {d : Nat} {Q : aQ} {σ : aW} {a0 : Int} (h : (a0 = 43 → Q (some (vi 1)) σ) ∧ (¬ a0 = 43 → (a0 = 45 → Q (some (vi 1)) σ) ∧ (¬ a0 = 45 → (a0 = 42 → Q (some (vi 1)) σ) ∧ (¬ a0 = 42 → (a0 = 47 → Q (some (vi 1)) σ) ∧ (¬ a0 = 47 → (a0 = 40 → Q (some (vi 1)) σ) ∧ (¬ a0 = 40 → (a0 = 41 → Q (some (vi 1)) σ) ∧ (¬ a0 = 41 → (a0 = 60 → Q (some (vi 1)) σ) ∧ (¬ a0 = 60 → (a0 = 62 → Q (some (vi 1)) σ) ∧ (¬ a0 = 62 → (a0 = 61 → Q (some (vi 1)) σ) ∧ (¬ a0 = 61 → Q (some (vi (bi (a0 = 59)))) σ)))))))))) : Yx (d + 0) cd182 3 Q 0 [vi a0] [] σ :=
  x_iload_n (n := 1) rfl rfl rfl (x_bipush (n := 3) rfl rfl (x_icmp_eq (n := 6) (t := 60) rfl rfl rfl (fun hc6 => x_iconst (n := 61) rfl rfl (x_goto (t := 65) rfl rfl (x_ret3 rfl rfl (by omega) (h.1 hc6)))) (fun hc6 => x_iload_n (n := 7) rfl rfl rfl (x_bipush (n := 9) rfl rfl (x_icmp_eq (n := 12) (t := 60) rfl rfl rfl (fun hc12 => x_iconst (n := 61) rfl rfl (x_goto (t := 65) rfl rfl (x_ret3 rfl rfl (by omega) ((h.2 hc6).1 hc12)))) (fun hc12 => x_iload_n (n := 13) rfl rfl rfl (x_bipush (n := 15) rfl rfl (x_icmp_eq (n := 18) (t := 60) rfl rfl rfl (fun hc18 => x_iconst (n := 61) rfl rfl (x_goto (t := 65) rfl rfl (x_ret3 rfl rfl (by omega) (((h.2 hc6).2 hc12).1 hc18)))) (fun hc18 => x_iload_n (n := 19) rfl rfl rfl (x_bipush (n := 21) rfl rfl (x_icmp_eq (n := 24) (t := 60) rfl rfl rfl (fun hc24 => x_iconst (n := 61) rfl rfl (x_goto (t := 65) rfl rfl (x_ret3 rfl rfl (by omega) ((((h.2 hc6).2 hc12).2 hc18).1 hc24)))) (fun hc24 => x_iload_n (n := 25) rfl rfl rfl (x_bipush (n := 27) rfl rfl (x_icmp_eq (n := 30) (t := 60) rfl rfl rfl (fun hc30 => x_iconst (n := 61) rfl rfl (x_goto (t := 65) rfl rfl (x_ret3 rfl rfl (by omega) (((((h.2 hc6).2 hc12).2 hc18).2 hc24).1 hc30)))) (fun hc30 => x_iload_n (n := 31) rfl rfl rfl (x_bipush (n := 33) rfl rfl (x_icmp_eq (n := 36) (t := 60) rfl rfl rfl (fun hc36 => x_iconst (n := 61) rfl rfl (x_goto (t := 65) rfl rfl (x_ret3 rfl rfl (by omega) ((((((h.2 hc6).2 hc12).2 hc18).2 hc24).2 hc30).1 hc36)))) (fun hc36 => x_iload_n (n := 37) rfl rfl rfl (x_bipush (n := 39) rfl rfl (x_icmp_eq (n := 42) (t := 60) rfl rfl rfl (fun hc42 => x_iconst (n := 61) rfl rfl (x_goto (t := 65) rfl rfl (x_ret3 rfl rfl (by omega) (((((((h.2 hc6).2 hc12).2 hc18).2 hc24).2 hc30).2 hc36).1 hc42)))) (fun hc42 => x_iload_n (n := 43) rfl rfl rfl (x_bipush (n := 45) rfl rfl (x_icmp_eq (n := 48) (t := 60) rfl rfl rfl (fun hc48 => x_iconst (n := 61) rfl rfl (x_goto (t := 65) rfl rfl (x_ret3 rfl rfl (by omega) ((((((((h.2 hc6).2 hc12).2 hc18).2 hc24).2 hc30).2 hc36).2 hc42).1 hc48)))) (fun hc48 => x_iload_n (n := 49) rfl rfl rfl (x_bipush (n := 51) rfl rfl (x_icmp_eq (n := 54) (t := 60) rfl rfl rfl (fun hc54 => x_iconst (n := 61) rfl rfl (x_goto (t := 65) rfl rfl (x_ret3 rfl rfl (by omega) (((((((((h.2 hc6).2 hc12).2 hc18).2 hc24).2 hc30).2 hc36).2 hc42).2 hc48).1 hc54)))) (fun hc54 => x_iload_n (n := 55) rfl rfl rfl (x_bipush (n := 57) rfl rfl ((have jk : Yx (d + 0) cd182 3 Q 65 [vi a0] [vi (bi (a0 = 59))] σ := x_ret3 rfl rfl bi_01 (((((((((h.2 hc6).2 hc12).2 hc18).2 hc24).2 hc30).2 hc36).2 hc42).2 hc48).2 hc54); x_icmp_ne (n := 60) (t := 64) rfl rfl rfl (fun (hc60 : ¬ a0 = 59) => x_iconst (n := 65) rfl rfl (m_eq (v := (bi (a0 = 59))) (by simp [bi, hc60]) jk)) (fun (hc60 : a0 = 59) => x_iconst (n := 61) rfl rfl (x_goto (t := 65) rfl rfl (m_eq (v := (bi (a0 = 59))) (by simp [bi, hc60]) jk)))))))))))))))))))))))))))))))))
theorem e182 {d : Nat} {Q : aQ} {σ : aW} {a0 : Int} (h : Yx (d + 0) cd182 3 Q 0 [vi a0] [] σ) : aEv (d + 0) true 182 [vi a0] σ Q := ev_of (fun _ _ => h)
theorem s182 {d : Nat} {Q : aQ} {σ : aW} {a0 : Int} (k : Q (some (vi (bi (a0 = 43 ∨ a0 = 45 ∨ a0 = 42 ∨ a0 = 47 ∨ a0 = 40 ∨ a0 = 41 ∨ a0 = 60 ∨ a0 = 62 ∨ a0 = 61 ∨ a0 = 59)))) σ) : aEv (d + 0) true 182 [vi a0] σ Q := by
  refine e182 (b182_0 ?_)
  repeat' first | apply And.intro | intro _
  all_goals first | omega | exact k | (refine q_eq ?_ k; (try unfold bi); (repeat' split) <;> omega) | (refine q_eql ?_ k; (try unfold bi); (repeat' split) <;> omega)
/-! HeatTownModel.hour -/
set_option maxRecDepth 4000 in
theorem b153_0 {d : Nat} {Q : aQ} {σ : aW} (h : (-2147483648 ≤ (σ 120 2532) ∧ (σ 120 2532) < 2147483648) ∧ Q (some (vi (σ 120 2532))) σ) : Yx (d + 0) cd153 1 Q 0 [vr 96] [] σ :=
  x_aload_n (n := 1) rfl rfl rfl rfl (x_getA (n := 4) rfl rfl rfl rfl (x_sipush (n := 7) rfl rfl (x_laload (v := (σ 120 2532)) (n := 8) rfl rfl rfl (by omega) rfl (x_l2i (n := 9) rfl rfl h.1 (x_ret1 rfl rfl h.2)))))
theorem e153 {d : Nat} {Q : aQ} {σ : aW} (h : Yx (d + 0) cd153 1 Q 0 [vr 96] [] σ) : aEv (d + 0) true 153 [vr 96] σ Q := ev_of (fun _ _ => h)
theorem s153 {d : Nat} {Q : aQ} {σ : aW} (o0 : 0 ≤ (σ 120 2532) ∧ (σ 120 2532) ≤ 10000) (k : Q (some (vi (σ 120 2532))) σ) : aEv (d + 0) true 153 [vr 96] σ Q := by
  refine e153 (b153_0 ?_)
  repeat' first | apply And.intro | intro _
  all_goals first | omega | exact k | (refine q_eq ?_ k; (try unfold bi); (repeat' split) <;> omega) | (refine q_eql ?_ k; (try unfold bi); (repeat' split) <;> omega)
/-! HeatTown$Places.cutTo -/
set_option maxRecDepth 4000 in
theorem b53_0 {d : Nat} {Q : aQ} {σ : aW} {a0 a1 : Int} (h : (a0 = 0 → Q (some (vl (w8 (w32 a1)))) σ) ∧ (¬ a0 = 0 → (a0 = 1 → Q (some (vl (w16 (w32 a1)))) σ) ∧ (¬ a0 = 1 → (a0 = 2 → Q (some (vl (w32 a1))) σ) ∧ (¬ a0 = 2 → Q (some (vl a1)) σ)))) : Yx (d + 0) cd53 2 Q 0 [vi a0, vl a1, vt] [] σ :=
  x_iload_n (n := 1) rfl rfl rfl (x_tsw rfl (⟨fun hs0 => x_lload_n (n := 29) rfl rfl rfl (x_l2iw (n := 30) rfl rfl (x_i2b (n := 31) rfl rfl (x_i2l (n := 32) rfl rfl (x_ret2 rfl rfl (h.1 hs0))))), fun hs0 => ⟨fun hs1 => x_lload_n (n := 34) rfl rfl rfl (x_l2iw (n := 35) rfl rfl (x_i2s (n := 36) rfl rfl (x_i2l (n := 37) rfl rfl (x_ret2 rfl rfl ((h.2 hs0).1 hs1))))), fun hs1 => ⟨fun hs2 => x_lload_n (n := 39) rfl rfl rfl (x_l2iw (n := 40) rfl rfl (x_i2l (n := 41) rfl rfl (x_ret2 rfl rfl (((h.2 hs0).2 hs1).1 hs2)))), fun hs2 => x_lload_n (n := 43) rfl rfl rfl (x_ret2 rfl rfl (((h.2 hs0).2 hs1).2 hs2))⟩⟩⟩))
theorem e53 {d : Nat} {Q : aQ} {σ : aW} {a0 a1 : Int} (h : Yx (d + 0) cd53 2 Q 0 [vi a0, vl a1, vt] [] σ) : aEv (d + 0) true 53 [vi a0, vl a1] σ Q := ev_of (fun _ _ => h)
theorem s53 {d : Nat} {Q : aQ} {σ : aW} {a0 a1 : Int} (k : Q (some (vl (if a0 = 0 then w8 (w32 a1) else if a0 = 1 then w16 (w32 a1) else if a0 = 2 then w32 a1 else a1))) σ) : aEv (d + 0) true 53 [vi a0, vl a1] σ Q := by
  refine e53 (b53_0 ?_)
  repeat' first | apply And.intro | intro _
  all_goals (refine q_eql ?_ k; (repeat' split) <;> first | rfl | omega)
/-! HeatTownModel.narrowed -/
set_option maxRecDepth 4000 in
theorem b155_0 {d : Nat} {Q : aQ} {σ : aW} {a0 a1 : Int} (h : (¬ a0 = 0 → (¬ a0 = 1 → Q (some (vl (if ¬ a0 = 2 then a1 else (w32 a1)))) σ) ∧ (a0 = 1 → Q (some (vl (w16 (w32 a1)))) σ)) ∧ (a0 = 0 → Q (some (vl (w8 (w32 a1)))) σ)) : Yx (d + 0) cd155 2 Q 0 [vi a0, vl a1, vt] [] σ :=
  x_iload_n (n := 1) rfl rfl rfl (x_if_ne (n := 4) (t := 11) rfl rfl rfl (fun hc4 => x_iload_n (n := 12) rfl rfl rfl (x_iconst (n := 13) rfl rfl (x_icmp_ne (n := 16) (t := 23) rfl rfl rfl (fun hc16 => x_iload_n (n := 24) rfl rfl rfl (x_iconst (n := 25) rfl rfl ((have jk : Yx (d + 0) cd155 2 Q 35 [vi a0, vl a1, vt] [vl (if ¬ a0 = 2 then a1 else (w32 a1))] σ := x_ret2 rfl rfl ((h.1 hc4).1 hc16); x_icmp_ne (n := 28) (t := 34) rfl rfl rfl (fun (hc28 : ¬ a0 = 2) => x_lload_n (n := 35) rfl rfl rfl (m_eql (v := (if ¬ a0 = 2 then a1 else (w32 a1))) (by simp [bi, hc28]) jk)) (fun (hc28 : a0 = 2) => x_lload_n (n := 29) rfl rfl rfl (x_l2iw (n := 30) rfl rfl (x_i2l (n := 31) rfl rfl (x_goto (t := 35) rfl rfl (m_eql (v := (if ¬ a0 = 2 then a1 else (w32 a1))) (by simp [bi, hc28]) jk))))))))) (fun hc16 => x_lload_n (n := 17) rfl rfl rfl (x_l2iw (n := 18) rfl rfl (x_i2s (n := 19) rfl rfl (x_i2l (n := 20) rfl rfl (x_goto (t := 35) rfl rfl (x_ret2 rfl rfl ((h.1 hc4).2 hc16)))))))))) (fun hc4 => x_lload_n (n := 5) rfl rfl rfl (x_l2iw (n := 6) rfl rfl (x_i2b (n := 7) rfl rfl (x_i2l (n := 8) rfl rfl (x_goto (t := 35) rfl rfl (x_ret2 rfl rfl (h.2 hc4))))))))
theorem e155 {d : Nat} {Q : aQ} {σ : aW} {a0 a1 : Int} (h : Yx (d + 0) cd155 2 Q 0 [vi a0, vl a1, vt] [] σ) : aEv (d + 0) true 155 [vi a0, vl a1] σ Q := ev_of (fun _ _ => h)
theorem s155 {d : Nat} {Q : aQ} {σ : aW} {a0 a1 : Int} (k : Q (some (vl (if a0 = 0 then w8 (w32 a1) else if a0 = 1 then w16 (w32 a1) else if a0 = 2 then w32 a1 else a1))) σ) : aEv (d + 0) true 155 [vi a0, vl a1] σ Q := by
  refine e155 (b155_0 ?_)
  repeat' first | apply And.intro | intro _
  all_goals (refine q_eql ?_ k; (repeat' split) <;> first | rfl | omega)
end
