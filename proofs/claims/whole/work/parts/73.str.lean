section
/-! jdk/internal/util/Preconditions.checkIndex -/
set_option maxRecDepth 4000 in
theorem b274_0 {d : Nat} {Q : aQ} {σ : aW} {a0 a1 : Int} (h : (a0 < 0 → False) ∧ (¬ a0 < 0 → (a0 < a1 → Q (some (vi a0)) σ) ∧ (¬ a0 < a1 → False))) : Yx (d + 0) cd274 1 Q 0 [vi a0, vi a1, vr 1300] [] σ :=
  x_iload_n (n := 1) rfl rfl rfl (x_if_lt (n := 4) (t := 9) rfl rfl rfl (fun hc4 => (h.1 hc4).elim) (fun hc4 => x_iload_n (n := 5) rfl rfl rfl (x_iload_n (n := 6) rfl rfl rfl (x_icmp_lt (n := 9) (t := 16) rfl rfl rfl (fun hc9 => x_iload_n (n := 17) rfl rfl rfl (x_ret1 rfl rfl ((h.2 hc4).1 hc9))) (fun hc9 => ((h.2 hc4).2 hc9).elim)))))
theorem e274 {d : Nat} {Q : aQ} {σ : aW} {a0 a1 : Int} (h : Yx (d + 0) cd274 1 Q 0 [vi a0, vi a1, vr 1300] [] σ) : aEv (d + 0) true 274 [vi a0, vi a1, vr 1300] σ Q := ev_of (fun _ _ => h)
theorem s274 {d : Nat} {Q : aQ} {σ : aW} {a0 a1 : Int} (o0 : 0 ≤ a0 ∧ a0 < a1) (k : Q (some (vi a0)) σ) : aEv (d + 0) true 274 [vi a0, vi a1, vr 1300] σ Q := by
  refine e274 (b274_0 ?_)
  repeat' first | apply And.intro | intro _
  all_goals first | omega | exact k | (refine q_eq ?_ k; (try unfold bi); (repeat' split) <;> omega) | (refine q_eql ?_ k; (try unfold bi); (repeat' split) <;> omega)
/-! java/lang/String.checkIndex -/
set_option maxRecDepth 4000 in
theorem b257_0 {d : Nat} {Q : aQ} {σ : aW} {a0 a1 : Int} (h : (0 ≤ a0 ∧ a0 < a1) ∧ Q none σ) : Yx (d + 1) cd257 0 Q 0 [vi a0, vi a1] [] σ :=
  x_iload_n (n := 1) rfl rfl rfl (x_iload_n (n := 2) rfl rfl rfl (x_gs1 (n := 5) rfl rfl rfl (x_csI (as := [vi a0, vi a1, vr 1300]) (st := []) (n := 8) rfl rfl rfl rfl rfl trivial (s274 h.1 ⟨_, rfl, x_pop (n := 9) rfl rfl rfl (x_ret0 rfl rfl h.2)⟩))))
theorem e257 {d : Nat} {Q : aQ} {σ : aW} {a0 a1 : Int} (h : Yx (d + 1) cd257 0 Q 0 [vi a0, vi a1] [] σ) : aEv (d + 1) true 257 [vi a0, vi a1] σ Q := ev_of (fun _ _ => h)
theorem s257 {d : Nat} {Q : aQ} {σ : aW} {a0 a1 : Int} (o0 : 0 ≤ a0 ∧ a0 < a1) (k : Q (none) σ) : aEv (d + 1) true 257 [vi a0, vi a1] σ Q := by
  refine e257 (b257_0 ?_)
  repeat' first | apply And.intro | intro _
  all_goals first | omega | exact k | (refine q_eq ?_ k; (try unfold bi); (repeat' split) <;> omega) | (refine q_eql ?_ k; (try unfold bi); (repeat' split) <;> omega)
/-! java/lang/String.coder -/
set_option maxRecDepth 4000 in
theorem b255t0_0 {d : Nat} {Q : aQ} {σ : aW} (h : Q (some (vi 0)) σ) : Yx (d + 0) cd255 4 Q 0 [vr (1000 + 0)] [] σ :=
  x_gs0 (n := 3) rfl rfl rfl (x_if_eq (n := 6) (t := 13) rfl rfl rfl (fun hc6 => (by exfalso; omega)) (fun _ => x_aload_n (n := 7) rfl rfl rfl rfl (x_getC (n := 10) rfl rfl rfl rfl (x_goto (t := 14) rfl rfl (x_ret4 rfl rfl (by omega) h)))))
theorem e255t0 {d : Nat} {Q : aQ} {σ : aW} (h : Yx (d + 0) cd255 4 Q 0 [vr (1000 + 0)] [] σ) : aEv (d + 0) true 255 [vr (1000 + 0)] σ Q := ev_of (fun _ _ => h)
theorem s255t0 {d : Nat} {Q : aQ} {σ : aW} (k : Q (some (vi 0)) σ) : aEv (d + 0) true 255 [vr (1000 + 0)] σ Q := by
  refine e255t0 (b255t0_0 ?_)
  repeat' first | apply And.intro | intro _
  all_goals first | omega | exact k | (refine q_eq ?_ k; (try unfold bi); (repeat' split) <;> omega) | (refine q_eql ?_ k; (try unfold bi); (repeat' split) <;> omega)
/-! java/lang/String.isLatin1 -/
set_option maxRecDepth 4000 in
theorem b256t0_0 {d : Nat} {Q : aQ} {σ : aW} (h : Q (some (vi 1)) σ) : Yx (d + 0) cd256 3 Q 0 [vr (1000 + 0)] [] σ :=
  x_gs0 (n := 3) rfl rfl rfl (x_if_eq (n := 6) (t := 17) rfl rfl rfl (fun hc6 => (by exfalso; omega)) (fun _ => x_aload_n (n := 7) rfl rfl rfl rfl (x_getC (n := 10) rfl rfl rfl rfl (x_if_ne (n := 13) (t := 17) rfl rfl rfl (fun hc13 => (by exfalso; omega)) (fun _ => x_iconst (n := 14) rfl rfl (x_goto (t := 18) rfl rfl (x_ret3 rfl rfl (by omega) h)))))))
theorem e256t0 {d : Nat} {Q : aQ} {σ : aW} (h : Yx (d + 0) cd256 3 Q 0 [vr (1000 + 0)] [] σ) : aEv (d + 0) true 256 [vr (1000 + 0)] σ Q := ev_of (fun _ _ => h)
theorem s256t0 {d : Nat} {Q : aQ} {σ : aW} (k : Q (some (vi 1)) σ) : aEv (d + 0) true 256 [vr (1000 + 0)] σ Q := by
  refine e256t0 (b256t0_0 ?_)
  repeat' first | apply And.intro | intro _
  all_goals first | omega | exact k | (refine q_eq ?_ k; (try unfold bi); (repeat' split) <;> omega) | (refine q_eql ?_ k; (try unfold bi); (repeat' split) <;> omega)
/-! java/lang/String.length -/
set_option maxRecDepth 4000 in
theorem b251t0_0 {d : Nat} {Q : aQ} {σ : aW} (h : Q (some (vi (shr32 68 0))) σ) : Yx (d + 1) cd251 1 Q 0 [vr (1000 + 0)] [] σ :=
  x_aload_n (n := 1) rfl rfl rfl rfl (x_getV (n := 4) rfl rfl rfl rfl (x_tlen (L := 68) (n := 5) rfl rfl rfl rfl (x_aload_n (n := 6) rfl rfl rfl rfl (x_cvI (as := [vr (1000 + 0)]) (st := [vi 68]) (n := 9) rfl rfl rfl rfl rfl ⟨_, _, rfl, rfl⟩ (s255t0 ⟨_, rfl, x_ishr (n := 10) rfl rfl (x_ret1 rfl rfl h)⟩)))))
theorem e251t0 {d : Nat} {Q : aQ} {σ : aW} (h : Yx (d + 1) cd251 1 Q 0 [vr (1000 + 0)] [] σ) : aEv (d + 1) true 251 [vr (1000 + 0)] σ Q := ev_of (fun _ _ => h)
theorem s251t0 {d : Nat} {Q : aQ} {σ : aW} (k : Q (some (vi 68)) σ) : aEv (d + 1) true 251 [vr (1000 + 0)] σ Q := by
  refine e251t0 (b251t0_0 ?_)
  exact k
/-! java/lang/StringLatin1.charAt -/
set_option maxRecDepth 4000 in
theorem b259t0_0 {d : Nat} {Q : aQ} {σ : aW} {a1 : Int} (h : (0 ≤ a1 ∧ a1 < (68 : Int)) ∧ (0 ≤ a1 ∧ a1 < ((nth [] aSTR 0).length : Int)) ∧ (0 ≤ (wc (and32 (nth 0 (nth [] aSTR 0) (a1).toNat) 255)) ∧ (wc (and32 (nth 0 (nth [] aSTR 0) (a1).toNat) 255)) < 65536) ∧ Q (some (vi (wc (and32 (nth 0 (nth [] aSTR 0) (a1).toNat) 255)))) σ) : Yx (d + 2) cd259 5 Q 0 [vr (1100 + 0), vi a1] [] σ :=
  x_iload_n (n := 1) rfl rfl rfl (x_aload_n (n := 2) rfl rfl rfl rfl (x_tlen (L := 68) (n := 3) rfl rfl rfl rfl (x_csV (as := [vi a1, vi 68]) (st := []) (n := 6) rfl rfl rfl rfl rfl trivial (s257 h.1 ⟨rfl, x_aload_n (n := 7) rfl rfl rfl rfl (x_iload_n (n := 8) rfl rfl rfl (x_taload (n := 9) rfl rfl rfl h.2.1 (x_sipush (n := 12) rfl rfl (x_iand (n := 13) rfl rfl (x_i2c (n := 14) rfl rfl (x_ret5 rfl rfl h.2.2.1 h.2.2.2))))))⟩))))
theorem e259t0 {d : Nat} {Q : aQ} {σ : aW} {a1 : Int} (h : Yx (d + 2) cd259 5 Q 0 [vr (1100 + 0), vi a1] [] σ) : aEv (d + 2) true 259 [vr (1100 + 0), vi a1] σ Q := ev_of (fun _ _ => h)
theorem s259t0 {d : Nat} {Q : aQ} {σ : aW} {a1 : Int} (o0 : 0 ≤ a1 ∧ a1 < 68) (k : Q (some (vi (nth 0 (nth [] aSTR 0) (a1).toNat))) σ) : aEv (d + 2) true 259 [vr (1100 + 0), vi a1] σ Q := by
  refine e259t0 (b259t0_0 ?_)
  have hb := str_b 0 (a1).toNat
  have e : wc (and32 (nth 0 (nth [] aSTR 0) (a1).toNat) 255) = (nth 0 (nth [] aSTR 0) (a1).toNat) := by rw [and255, Int.emod_eq_of_lt hb.1 (by omega), wc_of hb.1 (by omega)]
  rw [e]
  exact ⟨o0, ⟨o0.1, o0.2⟩, ⟨hb.1, by omega⟩, k⟩
/-! java/lang/String.charAt -/
set_option maxRecDepth 4000 in
theorem b252t0_0 {d : Nat} {Q : aQ} {σ : aW} {a1 : Int} (h : (0 ≤ a1 ∧ a1 < 68) ∧ (0 ≤ (nth 0 (nth [] aSTR 0) (a1).toNat) ∧ (nth 0 (nth [] aSTR 0) (a1).toNat) < 65536) ∧ Q (some (vi (nth 0 (nth [] aSTR 0) (a1).toNat))) σ) : Yx (d + 4) cd252 5 Q 0 [vr (1000 + 0), vi a1] [] σ :=
  x_aload_n (n := 1) rfl rfl rfl rfl (x_cvI (as := [vr (1000 + 0)]) (st := []) (n := 4) rfl rfl rfl rfl rfl ⟨_, _, rfl, rfl⟩ (s256t0 ⟨_, rfl, x_if_eq (n := 7) (t := 16) rfl rfl rfl (fun hc7 => (by exfalso; omega)) (fun _ => x_aload_n (n := 8) rfl rfl rfl rfl (x_getV (n := 11) rfl rfl rfl rfl (x_iload_n (n := 12) rfl rfl rfl (x_csI (as := [vr (1100 + 0), vi a1]) (st := []) (n := 15) rfl rfl rfl rfl rfl trivial (s259t0 h.1 ⟨_, rfl, x_ret5 rfl rfl h.2.1 h.2.2⟩)))))⟩))
theorem e252t0 {d : Nat} {Q : aQ} {σ : aW} {a1 : Int} (h : Yx (d + 4) cd252 5 Q 0 [vr (1000 + 0), vi a1] [] σ) : aEv (d + 4) true 252 [vr (1000 + 0), vi a1] σ Q := ev_of (fun _ _ => h)
theorem s252t0 {d : Nat} {Q : aQ} {σ : aW} {a1 : Int} (o0 : 0 ≤ a1 ∧ a1 < 68) (k : Q (some (vi (nth 0 (nth [] aSTR 0) (a1).toNat))) σ) : aEv (d + 4) true 252 [vr (1000 + 0), vi a1] σ Q := by
  refine e252t0 (b252t0_0 ?_)
  have hb := str_b 0 (a1).toNat
  exact ⟨o0, ⟨hb.1, by omega⟩, k⟩
/-! java/lang/String.coder -/
set_option maxRecDepth 4000 in
theorem b255t1_0 {d : Nat} {Q : aQ} {σ : aW} (h : Q (some (vi 0)) σ) : Yx (d + 0) cd255 4 Q 0 [vr (1000 + 1)] [] σ :=
  x_gs0 (n := 3) rfl rfl rfl (x_if_eq (n := 6) (t := 13) rfl rfl rfl (fun hc6 => (by exfalso; omega)) (fun _ => x_aload_n (n := 7) rfl rfl rfl rfl (x_getC (n := 10) rfl rfl rfl rfl (x_goto (t := 14) rfl rfl (x_ret4 rfl rfl (by omega) h)))))
theorem e255t1 {d : Nat} {Q : aQ} {σ : aW} (h : Yx (d + 0) cd255 4 Q 0 [vr (1000 + 1)] [] σ) : aEv (d + 0) true 255 [vr (1000 + 1)] σ Q := ev_of (fun _ _ => h)
theorem s255t1 {d : Nat} {Q : aQ} {σ : aW} (k : Q (some (vi 0)) σ) : aEv (d + 0) true 255 [vr (1000 + 1)] σ Q := by
  refine e255t1 (b255t1_0 ?_)
  repeat' first | apply And.intro | intro _
  all_goals first | omega | exact k | (refine q_eq ?_ k; (try unfold bi); (repeat' split) <;> omega) | (refine q_eql ?_ k; (try unfold bi); (repeat' split) <;> omega)
/-! java/lang/String.isLatin1 -/
set_option maxRecDepth 4000 in
theorem b256t1_0 {d : Nat} {Q : aQ} {σ : aW} (h : Q (some (vi 1)) σ) : Yx (d + 0) cd256 3 Q 0 [vr (1000 + 1)] [] σ :=
  x_gs0 (n := 3) rfl rfl rfl (x_if_eq (n := 6) (t := 17) rfl rfl rfl (fun hc6 => (by exfalso; omega)) (fun _ => x_aload_n (n := 7) rfl rfl rfl rfl (x_getC (n := 10) rfl rfl rfl rfl (x_if_ne (n := 13) (t := 17) rfl rfl rfl (fun hc13 => (by exfalso; omega)) (fun _ => x_iconst (n := 14) rfl rfl (x_goto (t := 18) rfl rfl (x_ret3 rfl rfl (by omega) h)))))))
theorem e256t1 {d : Nat} {Q : aQ} {σ : aW} (h : Yx (d + 0) cd256 3 Q 0 [vr (1000 + 1)] [] σ) : aEv (d + 0) true 256 [vr (1000 + 1)] σ Q := ev_of (fun _ _ => h)
theorem s256t1 {d : Nat} {Q : aQ} {σ : aW} (k : Q (some (vi 1)) σ) : aEv (d + 0) true 256 [vr (1000 + 1)] σ Q := by
  refine e256t1 (b256t1_0 ?_)
  repeat' first | apply And.intro | intro _
  all_goals first | omega | exact k | (refine q_eq ?_ k; (try unfold bi); (repeat' split) <;> omega) | (refine q_eql ?_ k; (try unfold bi); (repeat' split) <;> omega)
/-! java/lang/String.length -/
set_option maxRecDepth 4000 in
theorem b251t1_0 {d : Nat} {Q : aQ} {σ : aW} (h : Q (some (vi (shr32 10 0))) σ) : Yx (d + 1) cd251 1 Q 0 [vr (1000 + 1)] [] σ :=
  x_aload_n (n := 1) rfl rfl rfl rfl (x_getV (n := 4) rfl rfl rfl rfl (x_tlen (L := 10) (n := 5) rfl rfl rfl rfl (x_aload_n (n := 6) rfl rfl rfl rfl (x_cvI (as := [vr (1000 + 1)]) (st := [vi 10]) (n := 9) rfl rfl rfl rfl rfl ⟨_, _, rfl, rfl⟩ (s255t1 ⟨_, rfl, x_ishr (n := 10) rfl rfl (x_ret1 rfl rfl h)⟩)))))
theorem e251t1 {d : Nat} {Q : aQ} {σ : aW} (h : Yx (d + 1) cd251 1 Q 0 [vr (1000 + 1)] [] σ) : aEv (d + 1) true 251 [vr (1000 + 1)] σ Q := ev_of (fun _ _ => h)
theorem s251t1 {d : Nat} {Q : aQ} {σ : aW} (k : Q (some (vi 10)) σ) : aEv (d + 1) true 251 [vr (1000 + 1)] σ Q := by
  refine e251t1 (b251t1_0 ?_)
  exact k
/-! java/lang/String.coder -/
set_option maxRecDepth 4000 in
theorem b255t2_0 {d : Nat} {Q : aQ} {σ : aW} (h : Q (some (vi 0)) σ) : Yx (d + 0) cd255 4 Q 0 [vr (1000 + 2)] [] σ :=
  x_gs0 (n := 3) rfl rfl rfl (x_if_eq (n := 6) (t := 13) rfl rfl rfl (fun hc6 => (by exfalso; omega)) (fun _ => x_aload_n (n := 7) rfl rfl rfl rfl (x_getC (n := 10) rfl rfl rfl rfl (x_goto (t := 14) rfl rfl (x_ret4 rfl rfl (by omega) h)))))
theorem e255t2 {d : Nat} {Q : aQ} {σ : aW} (h : Yx (d + 0) cd255 4 Q 0 [vr (1000 + 2)] [] σ) : aEv (d + 0) true 255 [vr (1000 + 2)] σ Q := ev_of (fun _ _ => h)
theorem s255t2 {d : Nat} {Q : aQ} {σ : aW} (k : Q (some (vi 0)) σ) : aEv (d + 0) true 255 [vr (1000 + 2)] σ Q := by
  refine e255t2 (b255t2_0 ?_)
  repeat' first | apply And.intro | intro _
  all_goals first | omega | exact k | (refine q_eq ?_ k; (try unfold bi); (repeat' split) <;> omega) | (refine q_eql ?_ k; (try unfold bi); (repeat' split) <;> omega)
/-! java/lang/String.isLatin1 -/
set_option maxRecDepth 4000 in
theorem b256t2_0 {d : Nat} {Q : aQ} {σ : aW} (h : Q (some (vi 1)) σ) : Yx (d + 0) cd256 3 Q 0 [vr (1000 + 2)] [] σ :=
  x_gs0 (n := 3) rfl rfl rfl (x_if_eq (n := 6) (t := 17) rfl rfl rfl (fun hc6 => (by exfalso; omega)) (fun _ => x_aload_n (n := 7) rfl rfl rfl rfl (x_getC (n := 10) rfl rfl rfl rfl (x_if_ne (n := 13) (t := 17) rfl rfl rfl (fun hc13 => (by exfalso; omega)) (fun _ => x_iconst (n := 14) rfl rfl (x_goto (t := 18) rfl rfl (x_ret3 rfl rfl (by omega) h)))))))
theorem e256t2 {d : Nat} {Q : aQ} {σ : aW} (h : Yx (d + 0) cd256 3 Q 0 [vr (1000 + 2)] [] σ) : aEv (d + 0) true 256 [vr (1000 + 2)] σ Q := ev_of (fun _ _ => h)
theorem s256t2 {d : Nat} {Q : aQ} {σ : aW} (k : Q (some (vi 1)) σ) : aEv (d + 0) true 256 [vr (1000 + 2)] σ Q := by
  refine e256t2 (b256t2_0 ?_)
  repeat' first | apply And.intro | intro _
  all_goals first | omega | exact k | (refine q_eq ?_ k; (try unfold bi); (repeat' split) <;> omega) | (refine q_eql ?_ k; (try unfold bi); (repeat' split) <;> omega)
/-! java/lang/String.length -/
set_option maxRecDepth 4000 in
theorem b251t2_0 {d : Nat} {Q : aQ} {σ : aW} (h : Q (some (vi (shr32 4 0))) σ) : Yx (d + 1) cd251 1 Q 0 [vr (1000 + 2)] [] σ :=
  x_aload_n (n := 1) rfl rfl rfl rfl (x_getV (n := 4) rfl rfl rfl rfl (x_tlen (L := 4) (n := 5) rfl rfl rfl rfl (x_aload_n (n := 6) rfl rfl rfl rfl (x_cvI (as := [vr (1000 + 2)]) (st := [vi 4]) (n := 9) rfl rfl rfl rfl rfl ⟨_, _, rfl, rfl⟩ (s255t2 ⟨_, rfl, x_ishr (n := 10) rfl rfl (x_ret1 rfl rfl h)⟩)))))
theorem e251t2 {d : Nat} {Q : aQ} {σ : aW} (h : Yx (d + 1) cd251 1 Q 0 [vr (1000 + 2)] [] σ) : aEv (d + 1) true 251 [vr (1000 + 2)] σ Q := ev_of (fun _ _ => h)
theorem s251t2 {d : Nat} {Q : aQ} {σ : aW} (k : Q (some (vi 4)) σ) : aEv (d + 1) true 251 [vr (1000 + 2)] σ Q := by
  refine e251t2 (b251t2_0 ?_)
  exact k
/-! java/lang/StringLatin1.charAt -/
set_option maxRecDepth 4000 in
theorem b259t2_0 {d : Nat} {Q : aQ} {σ : aW} {a1 : Int} (h : (0 ≤ a1 ∧ a1 < (4 : Int)) ∧ (0 ≤ a1 ∧ a1 < ((nth [] aSTR 2).length : Int)) ∧ (0 ≤ (wc (and32 (nth 0 (nth [] aSTR 2) (a1).toNat) 255)) ∧ (wc (and32 (nth 0 (nth [] aSTR 2) (a1).toNat) 255)) < 65536) ∧ Q (some (vi (wc (and32 (nth 0 (nth [] aSTR 2) (a1).toNat) 255)))) σ) : Yx (d + 2) cd259 5 Q 0 [vr (1100 + 2), vi a1] [] σ :=
  x_iload_n (n := 1) rfl rfl rfl (x_aload_n (n := 2) rfl rfl rfl rfl (x_tlen (L := 4) (n := 3) rfl rfl rfl rfl (x_csV (as := [vi a1, vi 4]) (st := []) (n := 6) rfl rfl rfl rfl rfl trivial (s257 h.1 ⟨rfl, x_aload_n (n := 7) rfl rfl rfl rfl (x_iload_n (n := 8) rfl rfl rfl (x_taload (n := 9) rfl rfl rfl h.2.1 (x_sipush (n := 12) rfl rfl (x_iand (n := 13) rfl rfl (x_i2c (n := 14) rfl rfl (x_ret5 rfl rfl h.2.2.1 h.2.2.2))))))⟩))))
theorem e259t2 {d : Nat} {Q : aQ} {σ : aW} {a1 : Int} (h : Yx (d + 2) cd259 5 Q 0 [vr (1100 + 2), vi a1] [] σ) : aEv (d + 2) true 259 [vr (1100 + 2), vi a1] σ Q := ev_of (fun _ _ => h)
theorem s259t2 {d : Nat} {Q : aQ} {σ : aW} {a1 : Int} (o0 : 0 ≤ a1 ∧ a1 < 4) (k : Q (some (vi (nth 0 (nth [] aSTR 2) (a1).toNat))) σ) : aEv (d + 2) true 259 [vr (1100 + 2), vi a1] σ Q := by
  refine e259t2 (b259t2_0 ?_)
  have hb := str_b 2 (a1).toNat
  have e : wc (and32 (nth 0 (nth [] aSTR 2) (a1).toNat) 255) = (nth 0 (nth [] aSTR 2) (a1).toNat) := by rw [and255, Int.emod_eq_of_lt hb.1 (by omega), wc_of hb.1 (by omega)]
  rw [e]
  exact ⟨o0, ⟨o0.1, o0.2⟩, ⟨hb.1, by omega⟩, k⟩
/-! java/lang/String.charAt -/
set_option maxRecDepth 4000 in
theorem b252t2_0 {d : Nat} {Q : aQ} {σ : aW} {a1 : Int} (h : (0 ≤ a1 ∧ a1 < 4) ∧ (0 ≤ (nth 0 (nth [] aSTR 2) (a1).toNat) ∧ (nth 0 (nth [] aSTR 2) (a1).toNat) < 65536) ∧ Q (some (vi (nth 0 (nth [] aSTR 2) (a1).toNat))) σ) : Yx (d + 4) cd252 5 Q 0 [vr (1000 + 2), vi a1] [] σ :=
  x_aload_n (n := 1) rfl rfl rfl rfl (x_cvI (as := [vr (1000 + 2)]) (st := []) (n := 4) rfl rfl rfl rfl rfl ⟨_, _, rfl, rfl⟩ (s256t2 ⟨_, rfl, x_if_eq (n := 7) (t := 16) rfl rfl rfl (fun hc7 => (by exfalso; omega)) (fun _ => x_aload_n (n := 8) rfl rfl rfl rfl (x_getV (n := 11) rfl rfl rfl rfl (x_iload_n (n := 12) rfl rfl rfl (x_csI (as := [vr (1100 + 2), vi a1]) (st := []) (n := 15) rfl rfl rfl rfl rfl trivial (s259t2 h.1 ⟨_, rfl, x_ret5 rfl rfl h.2.1 h.2.2⟩)))))⟩))
theorem e252t2 {d : Nat} {Q : aQ} {σ : aW} {a1 : Int} (h : Yx (d + 4) cd252 5 Q 0 [vr (1000 + 2), vi a1] [] σ) : aEv (d + 4) true 252 [vr (1000 + 2), vi a1] σ Q := ev_of (fun _ _ => h)
theorem s252t2 {d : Nat} {Q : aQ} {σ : aW} {a1 : Int} (o0 : 0 ≤ a1 ∧ a1 < 4) (k : Q (some (vi (nth 0 (nth [] aSTR 2) (a1).toNat))) σ) : aEv (d + 4) true 252 [vr (1000 + 2), vi a1] σ Q := by
  refine e252t2 (b252t2_0 ?_)
  have hb := str_b 2 (a1).toNat
  exact ⟨o0, ⟨hb.1, by omega⟩, k⟩
/-! java/lang/String.coder -/
set_option maxRecDepth 4000 in
theorem b255t3_0 {d : Nat} {Q : aQ} {σ : aW} (h : Q (some (vi 0)) σ) : Yx (d + 0) cd255 4 Q 0 [vr (1000 + 3)] [] σ :=
  x_gs0 (n := 3) rfl rfl rfl (x_if_eq (n := 6) (t := 13) rfl rfl rfl (fun hc6 => (by exfalso; omega)) (fun _ => x_aload_n (n := 7) rfl rfl rfl rfl (x_getC (n := 10) rfl rfl rfl rfl (x_goto (t := 14) rfl rfl (x_ret4 rfl rfl (by omega) h)))))
theorem e255t3 {d : Nat} {Q : aQ} {σ : aW} (h : Yx (d + 0) cd255 4 Q 0 [vr (1000 + 3)] [] σ) : aEv (d + 0) true 255 [vr (1000 + 3)] σ Q := ev_of (fun _ _ => h)
theorem s255t3 {d : Nat} {Q : aQ} {σ : aW} (k : Q (some (vi 0)) σ) : aEv (d + 0) true 255 [vr (1000 + 3)] σ Q := by
  refine e255t3 (b255t3_0 ?_)
  repeat' first | apply And.intro | intro _
  all_goals first | omega | exact k | (refine q_eq ?_ k; (try unfold bi); (repeat' split) <;> omega) | (refine q_eql ?_ k; (try unfold bi); (repeat' split) <;> omega)
/-! java/lang/String.isLatin1 -/
set_option maxRecDepth 4000 in
theorem b256t3_0 {d : Nat} {Q : aQ} {σ : aW} (h : Q (some (vi 1)) σ) : Yx (d + 0) cd256 3 Q 0 [vr (1000 + 3)] [] σ :=
  x_gs0 (n := 3) rfl rfl rfl (x_if_eq (n := 6) (t := 17) rfl rfl rfl (fun hc6 => (by exfalso; omega)) (fun _ => x_aload_n (n := 7) rfl rfl rfl rfl (x_getC (n := 10) rfl rfl rfl rfl (x_if_ne (n := 13) (t := 17) rfl rfl rfl (fun hc13 => (by exfalso; omega)) (fun _ => x_iconst (n := 14) rfl rfl (x_goto (t := 18) rfl rfl (x_ret3 rfl rfl (by omega) h)))))))
theorem e256t3 {d : Nat} {Q : aQ} {σ : aW} (h : Yx (d + 0) cd256 3 Q 0 [vr (1000 + 3)] [] σ) : aEv (d + 0) true 256 [vr (1000 + 3)] σ Q := ev_of (fun _ _ => h)
theorem s256t3 {d : Nat} {Q : aQ} {σ : aW} (k : Q (some (vi 1)) σ) : aEv (d + 0) true 256 [vr (1000 + 3)] σ Q := by
  refine e256t3 (b256t3_0 ?_)
  repeat' first | apply And.intro | intro _
  all_goals first | omega | exact k | (refine q_eq ?_ k; (try unfold bi); (repeat' split) <;> omega) | (refine q_eql ?_ k; (try unfold bi); (repeat' split) <;> omega)
/-! java/lang/String.length -/
set_option maxRecDepth 4000 in
theorem b251t3_0 {d : Nat} {Q : aQ} {σ : aW} (h : Q (some (vi (shr32 4 0))) σ) : Yx (d + 1) cd251 1 Q 0 [vr (1000 + 3)] [] σ :=
  x_aload_n (n := 1) rfl rfl rfl rfl (x_getV (n := 4) rfl rfl rfl rfl (x_tlen (L := 4) (n := 5) rfl rfl rfl rfl (x_aload_n (n := 6) rfl rfl rfl rfl (x_cvI (as := [vr (1000 + 3)]) (st := [vi 4]) (n := 9) rfl rfl rfl rfl rfl ⟨_, _, rfl, rfl⟩ (s255t3 ⟨_, rfl, x_ishr (n := 10) rfl rfl (x_ret1 rfl rfl h)⟩)))))
theorem e251t3 {d : Nat} {Q : aQ} {σ : aW} (h : Yx (d + 1) cd251 1 Q 0 [vr (1000 + 3)] [] σ) : aEv (d + 1) true 251 [vr (1000 + 3)] σ Q := ev_of (fun _ _ => h)
theorem s251t3 {d : Nat} {Q : aQ} {σ : aW} (k : Q (some (vi 4)) σ) : aEv (d + 1) true 251 [vr (1000 + 3)] σ Q := by
  refine e251t3 (b251t3_0 ?_)
  exact k
/-! java/lang/StringLatin1.charAt -/
set_option maxRecDepth 4000 in
theorem b259t3_0 {d : Nat} {Q : aQ} {σ : aW} {a1 : Int} (h : (0 ≤ a1 ∧ a1 < (4 : Int)) ∧ (0 ≤ a1 ∧ a1 < ((nth [] aSTR 3).length : Int)) ∧ (0 ≤ (wc (and32 (nth 0 (nth [] aSTR 3) (a1).toNat) 255)) ∧ (wc (and32 (nth 0 (nth [] aSTR 3) (a1).toNat) 255)) < 65536) ∧ Q (some (vi (wc (and32 (nth 0 (nth [] aSTR 3) (a1).toNat) 255)))) σ) : Yx (d + 2) cd259 5 Q 0 [vr (1100 + 3), vi a1] [] σ :=
  x_iload_n (n := 1) rfl rfl rfl (x_aload_n (n := 2) rfl rfl rfl rfl (x_tlen (L := 4) (n := 3) rfl rfl rfl rfl (x_csV (as := [vi a1, vi 4]) (st := []) (n := 6) rfl rfl rfl rfl rfl trivial (s257 h.1 ⟨rfl, x_aload_n (n := 7) rfl rfl rfl rfl (x_iload_n (n := 8) rfl rfl rfl (x_taload (n := 9) rfl rfl rfl h.2.1 (x_sipush (n := 12) rfl rfl (x_iand (n := 13) rfl rfl (x_i2c (n := 14) rfl rfl (x_ret5 rfl rfl h.2.2.1 h.2.2.2))))))⟩))))
theorem e259t3 {d : Nat} {Q : aQ} {σ : aW} {a1 : Int} (h : Yx (d + 2) cd259 5 Q 0 [vr (1100 + 3), vi a1] [] σ) : aEv (d + 2) true 259 [vr (1100 + 3), vi a1] σ Q := ev_of (fun _ _ => h)
theorem s259t3 {d : Nat} {Q : aQ} {σ : aW} {a1 : Int} (o0 : 0 ≤ a1 ∧ a1 < 4) (k : Q (some (vi (nth 0 (nth [] aSTR 3) (a1).toNat))) σ) : aEv (d + 2) true 259 [vr (1100 + 3), vi a1] σ Q := by
  refine e259t3 (b259t3_0 ?_)
  have hb := str_b 3 (a1).toNat
  have e : wc (and32 (nth 0 (nth [] aSTR 3) (a1).toNat) 255) = (nth 0 (nth [] aSTR 3) (a1).toNat) := by rw [and255, Int.emod_eq_of_lt hb.1 (by omega), wc_of hb.1 (by omega)]
  rw [e]
  exact ⟨o0, ⟨o0.1, o0.2⟩, ⟨hb.1, by omega⟩, k⟩
/-! java/lang/String.charAt -/
set_option maxRecDepth 4000 in
theorem b252t3_0 {d : Nat} {Q : aQ} {σ : aW} {a1 : Int} (h : (0 ≤ a1 ∧ a1 < 4) ∧ (0 ≤ (nth 0 (nth [] aSTR 3) (a1).toNat) ∧ (nth 0 (nth [] aSTR 3) (a1).toNat) < 65536) ∧ Q (some (vi (nth 0 (nth [] aSTR 3) (a1).toNat))) σ) : Yx (d + 4) cd252 5 Q 0 [vr (1000 + 3), vi a1] [] σ :=
  x_aload_n (n := 1) rfl rfl rfl rfl (x_cvI (as := [vr (1000 + 3)]) (st := []) (n := 4) rfl rfl rfl rfl rfl ⟨_, _, rfl, rfl⟩ (s256t3 ⟨_, rfl, x_if_eq (n := 7) (t := 16) rfl rfl rfl (fun hc7 => (by exfalso; omega)) (fun _ => x_aload_n (n := 8) rfl rfl rfl rfl (x_getV (n := 11) rfl rfl rfl rfl (x_iload_n (n := 12) rfl rfl rfl (x_csI (as := [vr (1100 + 3), vi a1]) (st := []) (n := 15) rfl rfl rfl rfl rfl trivial (s259t3 h.1 ⟨_, rfl, x_ret5 rfl rfl h.2.1 h.2.2⟩)))))⟩))
theorem e252t3 {d : Nat} {Q : aQ} {σ : aW} {a1 : Int} (h : Yx (d + 4) cd252 5 Q 0 [vr (1000 + 3), vi a1] [] σ) : aEv (d + 4) true 252 [vr (1000 + 3), vi a1] σ Q := ev_of (fun _ _ => h)
theorem s252t3 {d : Nat} {Q : aQ} {σ : aW} {a1 : Int} (o0 : 0 ≤ a1 ∧ a1 < 4) (k : Q (some (vi (nth 0 (nth [] aSTR 3) (a1).toNat))) σ) : aEv (d + 4) true 252 [vr (1000 + 3), vi a1] σ Q := by
  refine e252t3 (b252t3_0 ?_)
  have hb := str_b 3 (a1).toNat
  exact ⟨o0, ⟨hb.1, by omega⟩, k⟩
/-! java/lang/String.coder -/
set_option maxRecDepth 4000 in
theorem b255t4_0 {d : Nat} {Q : aQ} {σ : aW} (h : Q (some (vi 0)) σ) : Yx (d + 0) cd255 4 Q 0 [vr (1000 + 4)] [] σ :=
  x_gs0 (n := 3) rfl rfl rfl (x_if_eq (n := 6) (t := 13) rfl rfl rfl (fun hc6 => (by exfalso; omega)) (fun _ => x_aload_n (n := 7) rfl rfl rfl rfl (x_getC (n := 10) rfl rfl rfl rfl (x_goto (t := 14) rfl rfl (x_ret4 rfl rfl (by omega) h)))))
theorem e255t4 {d : Nat} {Q : aQ} {σ : aW} (h : Yx (d + 0) cd255 4 Q 0 [vr (1000 + 4)] [] σ) : aEv (d + 0) true 255 [vr (1000 + 4)] σ Q := ev_of (fun _ _ => h)
theorem s255t4 {d : Nat} {Q : aQ} {σ : aW} (k : Q (some (vi 0)) σ) : aEv (d + 0) true 255 [vr (1000 + 4)] σ Q := by
  refine e255t4 (b255t4_0 ?_)
  repeat' first | apply And.intro | intro _
  all_goals first | omega | exact k | (refine q_eq ?_ k; (try unfold bi); (repeat' split) <;> omega) | (refine q_eql ?_ k; (try unfold bi); (repeat' split) <;> omega)
/-! java/lang/String.isLatin1 -/
set_option maxRecDepth 4000 in
theorem b256t4_0 {d : Nat} {Q : aQ} {σ : aW} (h : Q (some (vi 1)) σ) : Yx (d + 0) cd256 3 Q 0 [vr (1000 + 4)] [] σ :=
  x_gs0 (n := 3) rfl rfl rfl (x_if_eq (n := 6) (t := 17) rfl rfl rfl (fun hc6 => (by exfalso; omega)) (fun _ => x_aload_n (n := 7) rfl rfl rfl rfl (x_getC (n := 10) rfl rfl rfl rfl (x_if_ne (n := 13) (t := 17) rfl rfl rfl (fun hc13 => (by exfalso; omega)) (fun _ => x_iconst (n := 14) rfl rfl (x_goto (t := 18) rfl rfl (x_ret3 rfl rfl (by omega) h)))))))
theorem e256t4 {d : Nat} {Q : aQ} {σ : aW} (h : Yx (d + 0) cd256 3 Q 0 [vr (1000 + 4)] [] σ) : aEv (d + 0) true 256 [vr (1000 + 4)] σ Q := ev_of (fun _ _ => h)
theorem s256t4 {d : Nat} {Q : aQ} {σ : aW} (k : Q (some (vi 1)) σ) : aEv (d + 0) true 256 [vr (1000 + 4)] σ Q := by
  refine e256t4 (b256t4_0 ?_)
  repeat' first | apply And.intro | intro _
  all_goals first | omega | exact k | (refine q_eq ?_ k; (try unfold bi); (repeat' split) <;> omega) | (refine q_eql ?_ k; (try unfold bi); (repeat' split) <;> omega)
/-! java/lang/String.length -/
set_option maxRecDepth 4000 in
theorem b251t4_0 {d : Nat} {Q : aQ} {σ : aW} (h : Q (some (vi (shr32 5 0))) σ) : Yx (d + 1) cd251 1 Q 0 [vr (1000 + 4)] [] σ :=
  x_aload_n (n := 1) rfl rfl rfl rfl (x_getV (n := 4) rfl rfl rfl rfl (x_tlen (L := 5) (n := 5) rfl rfl rfl rfl (x_aload_n (n := 6) rfl rfl rfl rfl (x_cvI (as := [vr (1000 + 4)]) (st := [vi 5]) (n := 9) rfl rfl rfl rfl rfl ⟨_, _, rfl, rfl⟩ (s255t4 ⟨_, rfl, x_ishr (n := 10) rfl rfl (x_ret1 rfl rfl h)⟩)))))
theorem e251t4 {d : Nat} {Q : aQ} {σ : aW} (h : Yx (d + 1) cd251 1 Q 0 [vr (1000 + 4)] [] σ) : aEv (d + 1) true 251 [vr (1000 + 4)] σ Q := ev_of (fun _ _ => h)
theorem s251t4 {d : Nat} {Q : aQ} {σ : aW} (k : Q (some (vi 5)) σ) : aEv (d + 1) true 251 [vr (1000 + 4)] σ Q := by
  refine e251t4 (b251t4_0 ?_)
  exact k
/-! java/lang/StringLatin1.charAt -/
set_option maxRecDepth 4000 in
theorem b259t4_0 {d : Nat} {Q : aQ} {σ : aW} {a1 : Int} (h : (0 ≤ a1 ∧ a1 < (5 : Int)) ∧ (0 ≤ a1 ∧ a1 < ((nth [] aSTR 4).length : Int)) ∧ (0 ≤ (wc (and32 (nth 0 (nth [] aSTR 4) (a1).toNat) 255)) ∧ (wc (and32 (nth 0 (nth [] aSTR 4) (a1).toNat) 255)) < 65536) ∧ Q (some (vi (wc (and32 (nth 0 (nth [] aSTR 4) (a1).toNat) 255)))) σ) : Yx (d + 2) cd259 5 Q 0 [vr (1100 + 4), vi a1] [] σ :=
  x_iload_n (n := 1) rfl rfl rfl (x_aload_n (n := 2) rfl rfl rfl rfl (x_tlen (L := 5) (n := 3) rfl rfl rfl rfl (x_csV (as := [vi a1, vi 5]) (st := []) (n := 6) rfl rfl rfl rfl rfl trivial (s257 h.1 ⟨rfl, x_aload_n (n := 7) rfl rfl rfl rfl (x_iload_n (n := 8) rfl rfl rfl (x_taload (n := 9) rfl rfl rfl h.2.1 (x_sipush (n := 12) rfl rfl (x_iand (n := 13) rfl rfl (x_i2c (n := 14) rfl rfl (x_ret5 rfl rfl h.2.2.1 h.2.2.2))))))⟩))))
theorem e259t4 {d : Nat} {Q : aQ} {σ : aW} {a1 : Int} (h : Yx (d + 2) cd259 5 Q 0 [vr (1100 + 4), vi a1] [] σ) : aEv (d + 2) true 259 [vr (1100 + 4), vi a1] σ Q := ev_of (fun _ _ => h)
theorem s259t4 {d : Nat} {Q : aQ} {σ : aW} {a1 : Int} (o0 : 0 ≤ a1 ∧ a1 < 5) (k : Q (some (vi (nth 0 (nth [] aSTR 4) (a1).toNat))) σ) : aEv (d + 2) true 259 [vr (1100 + 4), vi a1] σ Q := by
  refine e259t4 (b259t4_0 ?_)
  have hb := str_b 4 (a1).toNat
  have e : wc (and32 (nth 0 (nth [] aSTR 4) (a1).toNat) 255) = (nth 0 (nth [] aSTR 4) (a1).toNat) := by rw [and255, Int.emod_eq_of_lt hb.1 (by omega), wc_of hb.1 (by omega)]
  rw [e]
  exact ⟨o0, ⟨o0.1, o0.2⟩, ⟨hb.1, by omega⟩, k⟩
/-! java/lang/String.charAt -/
set_option maxRecDepth 4000 in
theorem b252t4_0 {d : Nat} {Q : aQ} {σ : aW} {a1 : Int} (h : (0 ≤ a1 ∧ a1 < 5) ∧ (0 ≤ (nth 0 (nth [] aSTR 4) (a1).toNat) ∧ (nth 0 (nth [] aSTR 4) (a1).toNat) < 65536) ∧ Q (some (vi (nth 0 (nth [] aSTR 4) (a1).toNat))) σ) : Yx (d + 4) cd252 5 Q 0 [vr (1000 + 4), vi a1] [] σ :=
  x_aload_n (n := 1) rfl rfl rfl rfl (x_cvI (as := [vr (1000 + 4)]) (st := []) (n := 4) rfl rfl rfl rfl rfl ⟨_, _, rfl, rfl⟩ (s256t4 ⟨_, rfl, x_if_eq (n := 7) (t := 16) rfl rfl rfl (fun hc7 => (by exfalso; omega)) (fun _ => x_aload_n (n := 8) rfl rfl rfl rfl (x_getV (n := 11) rfl rfl rfl rfl (x_iload_n (n := 12) rfl rfl rfl (x_csI (as := [vr (1100 + 4), vi a1]) (st := []) (n := 15) rfl rfl rfl rfl rfl trivial (s259t4 h.1 ⟨_, rfl, x_ret5 rfl rfl h.2.1 h.2.2⟩)))))⟩))
theorem e252t4 {d : Nat} {Q : aQ} {σ : aW} {a1 : Int} (h : Yx (d + 4) cd252 5 Q 0 [vr (1000 + 4), vi a1] [] σ) : aEv (d + 4) true 252 [vr (1000 + 4), vi a1] σ Q := ev_of (fun _ _ => h)
theorem s252t4 {d : Nat} {Q : aQ} {σ : aW} {a1 : Int} (o0 : 0 ≤ a1 ∧ a1 < 5) (k : Q (some (vi (nth 0 (nth [] aSTR 4) (a1).toNat))) σ) : aEv (d + 4) true 252 [vr (1000 + 4), vi a1] σ Q := by
  refine e252t4 (b252t4_0 ?_)
  have hb := str_b 4 (a1).toNat
  exact ⟨o0, ⟨hb.1, by omega⟩, k⟩
/-! java/lang/String.coder -/
set_option maxRecDepth 4000 in
theorem b255t5_0 {d : Nat} {Q : aQ} {σ : aW} (h : Q (some (vi 0)) σ) : Yx (d + 0) cd255 4 Q 0 [vr (1000 + 5)] [] σ :=
  x_gs0 (n := 3) rfl rfl rfl (x_if_eq (n := 6) (t := 13) rfl rfl rfl (fun hc6 => (by exfalso; omega)) (fun _ => x_aload_n (n := 7) rfl rfl rfl rfl (x_getC (n := 10) rfl rfl rfl rfl (x_goto (t := 14) rfl rfl (x_ret4 rfl rfl (by omega) h)))))
theorem e255t5 {d : Nat} {Q : aQ} {σ : aW} (h : Yx (d + 0) cd255 4 Q 0 [vr (1000 + 5)] [] σ) : aEv (d + 0) true 255 [vr (1000 + 5)] σ Q := ev_of (fun _ _ => h)
theorem s255t5 {d : Nat} {Q : aQ} {σ : aW} (k : Q (some (vi 0)) σ) : aEv (d + 0) true 255 [vr (1000 + 5)] σ Q := by
  refine e255t5 (b255t5_0 ?_)
  repeat' first | apply And.intro | intro _
  all_goals first | omega | exact k | (refine q_eq ?_ k; (try unfold bi); (repeat' split) <;> omega) | (refine q_eql ?_ k; (try unfold bi); (repeat' split) <;> omega)
/-! java/lang/String.isLatin1 -/
set_option maxRecDepth 4000 in
theorem b256t5_0 {d : Nat} {Q : aQ} {σ : aW} (h : Q (some (vi 1)) σ) : Yx (d + 0) cd256 3 Q 0 [vr (1000 + 5)] [] σ :=
  x_gs0 (n := 3) rfl rfl rfl (x_if_eq (n := 6) (t := 17) rfl rfl rfl (fun hc6 => (by exfalso; omega)) (fun _ => x_aload_n (n := 7) rfl rfl rfl rfl (x_getC (n := 10) rfl rfl rfl rfl (x_if_ne (n := 13) (t := 17) rfl rfl rfl (fun hc13 => (by exfalso; omega)) (fun _ => x_iconst (n := 14) rfl rfl (x_goto (t := 18) rfl rfl (x_ret3 rfl rfl (by omega) h)))))))
theorem e256t5 {d : Nat} {Q : aQ} {σ : aW} (h : Yx (d + 0) cd256 3 Q 0 [vr (1000 + 5)] [] σ) : aEv (d + 0) true 256 [vr (1000 + 5)] σ Q := ev_of (fun _ _ => h)
theorem s256t5 {d : Nat} {Q : aQ} {σ : aW} (k : Q (some (vi 1)) σ) : aEv (d + 0) true 256 [vr (1000 + 5)] σ Q := by
  refine e256t5 (b256t5_0 ?_)
  repeat' first | apply And.intro | intro _
  all_goals first | omega | exact k | (refine q_eq ?_ k; (try unfold bi); (repeat' split) <;> omega) | (refine q_eql ?_ k; (try unfold bi); (repeat' split) <;> omega)
/-! java/lang/String.length -/
set_option maxRecDepth 4000 in
theorem b251t5_0 {d : Nat} {Q : aQ} {σ : aW} (h : Q (some (vi (shr32 4 0))) σ) : Yx (d + 1) cd251 1 Q 0 [vr (1000 + 5)] [] σ :=
  x_aload_n (n := 1) rfl rfl rfl rfl (x_getV (n := 4) rfl rfl rfl rfl (x_tlen (L := 4) (n := 5) rfl rfl rfl rfl (x_aload_n (n := 6) rfl rfl rfl rfl (x_cvI (as := [vr (1000 + 5)]) (st := [vi 4]) (n := 9) rfl rfl rfl rfl rfl ⟨_, _, rfl, rfl⟩ (s255t5 ⟨_, rfl, x_ishr (n := 10) rfl rfl (x_ret1 rfl rfl h)⟩)))))
theorem e251t5 {d : Nat} {Q : aQ} {σ : aW} (h : Yx (d + 1) cd251 1 Q 0 [vr (1000 + 5)] [] σ) : aEv (d + 1) true 251 [vr (1000 + 5)] σ Q := ev_of (fun _ _ => h)
theorem s251t5 {d : Nat} {Q : aQ} {σ : aW} (k : Q (some (vi 4)) σ) : aEv (d + 1) true 251 [vr (1000 + 5)] σ Q := by
  refine e251t5 (b251t5_0 ?_)
  exact k
/-! java/lang/StringLatin1.charAt -/
set_option maxRecDepth 4000 in
theorem b259t5_0 {d : Nat} {Q : aQ} {σ : aW} {a1 : Int} (h : (0 ≤ a1 ∧ a1 < (4 : Int)) ∧ (0 ≤ a1 ∧ a1 < ((nth [] aSTR 5).length : Int)) ∧ (0 ≤ (wc (and32 (nth 0 (nth [] aSTR 5) (a1).toNat) 255)) ∧ (wc (and32 (nth 0 (nth [] aSTR 5) (a1).toNat) 255)) < 65536) ∧ Q (some (vi (wc (and32 (nth 0 (nth [] aSTR 5) (a1).toNat) 255)))) σ) : Yx (d + 2) cd259 5 Q 0 [vr (1100 + 5), vi a1] [] σ :=
  x_iload_n (n := 1) rfl rfl rfl (x_aload_n (n := 2) rfl rfl rfl rfl (x_tlen (L := 4) (n := 3) rfl rfl rfl rfl (x_csV (as := [vi a1, vi 4]) (st := []) (n := 6) rfl rfl rfl rfl rfl trivial (s257 h.1 ⟨rfl, x_aload_n (n := 7) rfl rfl rfl rfl (x_iload_n (n := 8) rfl rfl rfl (x_taload (n := 9) rfl rfl rfl h.2.1 (x_sipush (n := 12) rfl rfl (x_iand (n := 13) rfl rfl (x_i2c (n := 14) rfl rfl (x_ret5 rfl rfl h.2.2.1 h.2.2.2))))))⟩))))
theorem e259t5 {d : Nat} {Q : aQ} {σ : aW} {a1 : Int} (h : Yx (d + 2) cd259 5 Q 0 [vr (1100 + 5), vi a1] [] σ) : aEv (d + 2) true 259 [vr (1100 + 5), vi a1] σ Q := ev_of (fun _ _ => h)
theorem s259t5 {d : Nat} {Q : aQ} {σ : aW} {a1 : Int} (o0 : 0 ≤ a1 ∧ a1 < 4) (k : Q (some (vi (nth 0 (nth [] aSTR 5) (a1).toNat))) σ) : aEv (d + 2) true 259 [vr (1100 + 5), vi a1] σ Q := by
  refine e259t5 (b259t5_0 ?_)
  have hb := str_b 5 (a1).toNat
  have e : wc (and32 (nth 0 (nth [] aSTR 5) (a1).toNat) 255) = (nth 0 (nth [] aSTR 5) (a1).toNat) := by rw [and255, Int.emod_eq_of_lt hb.1 (by omega), wc_of hb.1 (by omega)]
  rw [e]
  exact ⟨o0, ⟨o0.1, o0.2⟩, ⟨hb.1, by omega⟩, k⟩
/-! java/lang/String.charAt -/
set_option maxRecDepth 4000 in
theorem b252t5_0 {d : Nat} {Q : aQ} {σ : aW} {a1 : Int} (h : (0 ≤ a1 ∧ a1 < 4) ∧ (0 ≤ (nth 0 (nth [] aSTR 5) (a1).toNat) ∧ (nth 0 (nth [] aSTR 5) (a1).toNat) < 65536) ∧ Q (some (vi (nth 0 (nth [] aSTR 5) (a1).toNat))) σ) : Yx (d + 4) cd252 5 Q 0 [vr (1000 + 5), vi a1] [] σ :=
  x_aload_n (n := 1) rfl rfl rfl rfl (x_cvI (as := [vr (1000 + 5)]) (st := []) (n := 4) rfl rfl rfl rfl rfl ⟨_, _, rfl, rfl⟩ (s256t5 ⟨_, rfl, x_if_eq (n := 7) (t := 16) rfl rfl rfl (fun hc7 => (by exfalso; omega)) (fun _ => x_aload_n (n := 8) rfl rfl rfl rfl (x_getV (n := 11) rfl rfl rfl rfl (x_iload_n (n := 12) rfl rfl rfl (x_csI (as := [vr (1100 + 5), vi a1]) (st := []) (n := 15) rfl rfl rfl rfl rfl trivial (s259t5 h.1 ⟨_, rfl, x_ret5 rfl rfl h.2.1 h.2.2⟩)))))⟩))
theorem e252t5 {d : Nat} {Q : aQ} {σ : aW} {a1 : Int} (h : Yx (d + 4) cd252 5 Q 0 [vr (1000 + 5), vi a1] [] σ) : aEv (d + 4) true 252 [vr (1000 + 5), vi a1] σ Q := ev_of (fun _ _ => h)
theorem s252t5 {d : Nat} {Q : aQ} {σ : aW} {a1 : Int} (o0 : 0 ≤ a1 ∧ a1 < 4) (k : Q (some (vi (nth 0 (nth [] aSTR 5) (a1).toNat))) σ) : aEv (d + 4) true 252 [vr (1000 + 5), vi a1] σ Q := by
  refine e252t5 (b252t5_0 ?_)
  have hb := str_b 5 (a1).toNat
  exact ⟨o0, ⟨hb.1, by omega⟩, k⟩
/-! java/lang/String.coder -/
set_option maxRecDepth 4000 in
theorem b255t6_0 {d : Nat} {Q : aQ} {σ : aW} (h : Q (some (vi 0)) σ) : Yx (d + 0) cd255 4 Q 0 [vr (1000 + 6)] [] σ :=
  x_gs0 (n := 3) rfl rfl rfl (x_if_eq (n := 6) (t := 13) rfl rfl rfl (fun hc6 => (by exfalso; omega)) (fun _ => x_aload_n (n := 7) rfl rfl rfl rfl (x_getC (n := 10) rfl rfl rfl rfl (x_goto (t := 14) rfl rfl (x_ret4 rfl rfl (by omega) h)))))
theorem e255t6 {d : Nat} {Q : aQ} {σ : aW} (h : Yx (d + 0) cd255 4 Q 0 [vr (1000 + 6)] [] σ) : aEv (d + 0) true 255 [vr (1000 + 6)] σ Q := ev_of (fun _ _ => h)
theorem s255t6 {d : Nat} {Q : aQ} {σ : aW} (k : Q (some (vi 0)) σ) : aEv (d + 0) true 255 [vr (1000 + 6)] σ Q := by
  refine e255t6 (b255t6_0 ?_)
  repeat' first | apply And.intro | intro _
  all_goals first | omega | exact k | (refine q_eq ?_ k; (try unfold bi); (repeat' split) <;> omega) | (refine q_eql ?_ k; (try unfold bi); (repeat' split) <;> omega)
/-! java/lang/String.isLatin1 -/
set_option maxRecDepth 4000 in
theorem b256t6_0 {d : Nat} {Q : aQ} {σ : aW} (h : Q (some (vi 1)) σ) : Yx (d + 0) cd256 3 Q 0 [vr (1000 + 6)] [] σ :=
  x_gs0 (n := 3) rfl rfl rfl (x_if_eq (n := 6) (t := 17) rfl rfl rfl (fun hc6 => (by exfalso; omega)) (fun _ => x_aload_n (n := 7) rfl rfl rfl rfl (x_getC (n := 10) rfl rfl rfl rfl (x_if_ne (n := 13) (t := 17) rfl rfl rfl (fun hc13 => (by exfalso; omega)) (fun _ => x_iconst (n := 14) rfl rfl (x_goto (t := 18) rfl rfl (x_ret3 rfl rfl (by omega) h)))))))
theorem e256t6 {d : Nat} {Q : aQ} {σ : aW} (h : Yx (d + 0) cd256 3 Q 0 [vr (1000 + 6)] [] σ) : aEv (d + 0) true 256 [vr (1000 + 6)] σ Q := ev_of (fun _ _ => h)
theorem s256t6 {d : Nat} {Q : aQ} {σ : aW} (k : Q (some (vi 1)) σ) : aEv (d + 0) true 256 [vr (1000 + 6)] σ Q := by
  refine e256t6 (b256t6_0 ?_)
  repeat' first | apply And.intro | intro _
  all_goals first | omega | exact k | (refine q_eq ?_ k; (try unfold bi); (repeat' split) <;> omega) | (refine q_eql ?_ k; (try unfold bi); (repeat' split) <;> omega)
/-! java/lang/String.length -/
set_option maxRecDepth 4000 in
theorem b251t6_0 {d : Nat} {Q : aQ} {σ : aW} (h : Q (some (vi (shr32 3 0))) σ) : Yx (d + 1) cd251 1 Q 0 [vr (1000 + 6)] [] σ :=
  x_aload_n (n := 1) rfl rfl rfl rfl (x_getV (n := 4) rfl rfl rfl rfl (x_tlen (L := 3) (n := 5) rfl rfl rfl rfl (x_aload_n (n := 6) rfl rfl rfl rfl (x_cvI (as := [vr (1000 + 6)]) (st := [vi 3]) (n := 9) rfl rfl rfl rfl rfl ⟨_, _, rfl, rfl⟩ (s255t6 ⟨_, rfl, x_ishr (n := 10) rfl rfl (x_ret1 rfl rfl h)⟩)))))
theorem e251t6 {d : Nat} {Q : aQ} {σ : aW} (h : Yx (d + 1) cd251 1 Q 0 [vr (1000 + 6)] [] σ) : aEv (d + 1) true 251 [vr (1000 + 6)] σ Q := ev_of (fun _ _ => h)
theorem s251t6 {d : Nat} {Q : aQ} {σ : aW} (k : Q (some (vi 3)) σ) : aEv (d + 1) true 251 [vr (1000 + 6)] σ Q := by
  refine e251t6 (b251t6_0 ?_)
  exact k
/-! java/lang/StringLatin1.charAt -/
set_option maxRecDepth 4000 in
theorem b259t6_0 {d : Nat} {Q : aQ} {σ : aW} {a1 : Int} (h : (0 ≤ a1 ∧ a1 < (3 : Int)) ∧ (0 ≤ a1 ∧ a1 < ((nth [] aSTR 6).length : Int)) ∧ (0 ≤ (wc (and32 (nth 0 (nth [] aSTR 6) (a1).toNat) 255)) ∧ (wc (and32 (nth 0 (nth [] aSTR 6) (a1).toNat) 255)) < 65536) ∧ Q (some (vi (wc (and32 (nth 0 (nth [] aSTR 6) (a1).toNat) 255)))) σ) : Yx (d + 2) cd259 5 Q 0 [vr (1100 + 6), vi a1] [] σ :=
  x_iload_n (n := 1) rfl rfl rfl (x_aload_n (n := 2) rfl rfl rfl rfl (x_tlen (L := 3) (n := 3) rfl rfl rfl rfl (x_csV (as := [vi a1, vi 3]) (st := []) (n := 6) rfl rfl rfl rfl rfl trivial (s257 h.1 ⟨rfl, x_aload_n (n := 7) rfl rfl rfl rfl (x_iload_n (n := 8) rfl rfl rfl (x_taload (n := 9) rfl rfl rfl h.2.1 (x_sipush (n := 12) rfl rfl (x_iand (n := 13) rfl rfl (x_i2c (n := 14) rfl rfl (x_ret5 rfl rfl h.2.2.1 h.2.2.2))))))⟩))))
theorem e259t6 {d : Nat} {Q : aQ} {σ : aW} {a1 : Int} (h : Yx (d + 2) cd259 5 Q 0 [vr (1100 + 6), vi a1] [] σ) : aEv (d + 2) true 259 [vr (1100 + 6), vi a1] σ Q := ev_of (fun _ _ => h)
theorem s259t6 {d : Nat} {Q : aQ} {σ : aW} {a1 : Int} (o0 : 0 ≤ a1 ∧ a1 < 3) (k : Q (some (vi (nth 0 (nth [] aSTR 6) (a1).toNat))) σ) : aEv (d + 2) true 259 [vr (1100 + 6), vi a1] σ Q := by
  refine e259t6 (b259t6_0 ?_)
  have hb := str_b 6 (a1).toNat
  have e : wc (and32 (nth 0 (nth [] aSTR 6) (a1).toNat) 255) = (nth 0 (nth [] aSTR 6) (a1).toNat) := by rw [and255, Int.emod_eq_of_lt hb.1 (by omega), wc_of hb.1 (by omega)]
  rw [e]
  exact ⟨o0, ⟨o0.1, o0.2⟩, ⟨hb.1, by omega⟩, k⟩
/-! java/lang/String.charAt -/
set_option maxRecDepth 4000 in
theorem b252t6_0 {d : Nat} {Q : aQ} {σ : aW} {a1 : Int} (h : (0 ≤ a1 ∧ a1 < 3) ∧ (0 ≤ (nth 0 (nth [] aSTR 6) (a1).toNat) ∧ (nth 0 (nth [] aSTR 6) (a1).toNat) < 65536) ∧ Q (some (vi (nth 0 (nth [] aSTR 6) (a1).toNat))) σ) : Yx (d + 4) cd252 5 Q 0 [vr (1000 + 6), vi a1] [] σ :=
  x_aload_n (n := 1) rfl rfl rfl rfl (x_cvI (as := [vr (1000 + 6)]) (st := []) (n := 4) rfl rfl rfl rfl rfl ⟨_, _, rfl, rfl⟩ (s256t6 ⟨_, rfl, x_if_eq (n := 7) (t := 16) rfl rfl rfl (fun hc7 => (by exfalso; omega)) (fun _ => x_aload_n (n := 8) rfl rfl rfl rfl (x_getV (n := 11) rfl rfl rfl rfl (x_iload_n (n := 12) rfl rfl rfl (x_csI (as := [vr (1100 + 6), vi a1]) (st := []) (n := 15) rfl rfl rfl rfl rfl trivial (s259t6 h.1 ⟨_, rfl, x_ret5 rfl rfl h.2.1 h.2.2⟩)))))⟩))
theorem e252t6 {d : Nat} {Q : aQ} {σ : aW} {a1 : Int} (h : Yx (d + 4) cd252 5 Q 0 [vr (1000 + 6), vi a1] [] σ) : aEv (d + 4) true 252 [vr (1000 + 6), vi a1] σ Q := ev_of (fun _ _ => h)
theorem s252t6 {d : Nat} {Q : aQ} {σ : aW} {a1 : Int} (o0 : 0 ≤ a1 ∧ a1 < 3) (k : Q (some (vi (nth 0 (nth [] aSTR 6) (a1).toNat))) σ) : aEv (d + 4) true 252 [vr (1000 + 6), vi a1] σ Q := by
  refine e252t6 (b252t6_0 ?_)
  have hb := str_b 6 (a1).toNat
  exact ⟨o0, ⟨hb.1, by omega⟩, k⟩
/-! java/lang/String.coder -/
set_option maxRecDepth 4000 in
theorem b255t7_0 {d : Nat} {Q : aQ} {σ : aW} (h : Q (some (vi 0)) σ) : Yx (d + 0) cd255 4 Q 0 [vr (1000 + 7)] [] σ :=
  x_gs0 (n := 3) rfl rfl rfl (x_if_eq (n := 6) (t := 13) rfl rfl rfl (fun hc6 => (by exfalso; omega)) (fun _ => x_aload_n (n := 7) rfl rfl rfl rfl (x_getC (n := 10) rfl rfl rfl rfl (x_goto (t := 14) rfl rfl (x_ret4 rfl rfl (by omega) h)))))
theorem e255t7 {d : Nat} {Q : aQ} {σ : aW} (h : Yx (d + 0) cd255 4 Q 0 [vr (1000 + 7)] [] σ) : aEv (d + 0) true 255 [vr (1000 + 7)] σ Q := ev_of (fun _ _ => h)
theorem s255t7 {d : Nat} {Q : aQ} {σ : aW} (k : Q (some (vi 0)) σ) : aEv (d + 0) true 255 [vr (1000 + 7)] σ Q := by
  refine e255t7 (b255t7_0 ?_)
  repeat' first | apply And.intro | intro _
  all_goals first | omega | exact k | (refine q_eq ?_ k; (try unfold bi); (repeat' split) <;> omega) | (refine q_eql ?_ k; (try unfold bi); (repeat' split) <;> omega)
/-! java/lang/String.isLatin1 -/
set_option maxRecDepth 4000 in
theorem b256t7_0 {d : Nat} {Q : aQ} {σ : aW} (h : Q (some (vi 1)) σ) : Yx (d + 0) cd256 3 Q 0 [vr (1000 + 7)] [] σ :=
  x_gs0 (n := 3) rfl rfl rfl (x_if_eq (n := 6) (t := 17) rfl rfl rfl (fun hc6 => (by exfalso; omega)) (fun _ => x_aload_n (n := 7) rfl rfl rfl rfl (x_getC (n := 10) rfl rfl rfl rfl (x_if_ne (n := 13) (t := 17) rfl rfl rfl (fun hc13 => (by exfalso; omega)) (fun _ => x_iconst (n := 14) rfl rfl (x_goto (t := 18) rfl rfl (x_ret3 rfl rfl (by omega) h)))))))
theorem e256t7 {d : Nat} {Q : aQ} {σ : aW} (h : Yx (d + 0) cd256 3 Q 0 [vr (1000 + 7)] [] σ) : aEv (d + 0) true 256 [vr (1000 + 7)] σ Q := ev_of (fun _ _ => h)
theorem s256t7 {d : Nat} {Q : aQ} {σ : aW} (k : Q (some (vi 1)) σ) : aEv (d + 0) true 256 [vr (1000 + 7)] σ Q := by
  refine e256t7 (b256t7_0 ?_)
  repeat' first | apply And.intro | intro _
  all_goals first | omega | exact k | (refine q_eq ?_ k; (try unfold bi); (repeat' split) <;> omega) | (refine q_eql ?_ k; (try unfold bi); (repeat' split) <;> omega)
/-! java/lang/String.length -/
set_option maxRecDepth 4000 in
theorem b251t7_0 {d : Nat} {Q : aQ} {σ : aW} (h : Q (some (vi (shr32 4 0))) σ) : Yx (d + 1) cd251 1 Q 0 [vr (1000 + 7)] [] σ :=
  x_aload_n (n := 1) rfl rfl rfl rfl (x_getV (n := 4) rfl rfl rfl rfl (x_tlen (L := 4) (n := 5) rfl rfl rfl rfl (x_aload_n (n := 6) rfl rfl rfl rfl (x_cvI (as := [vr (1000 + 7)]) (st := [vi 4]) (n := 9) rfl rfl rfl rfl rfl ⟨_, _, rfl, rfl⟩ (s255t7 ⟨_, rfl, x_ishr (n := 10) rfl rfl (x_ret1 rfl rfl h)⟩)))))
theorem e251t7 {d : Nat} {Q : aQ} {σ : aW} (h : Yx (d + 1) cd251 1 Q 0 [vr (1000 + 7)] [] σ) : aEv (d + 1) true 251 [vr (1000 + 7)] σ Q := ev_of (fun _ _ => h)
theorem s251t7 {d : Nat} {Q : aQ} {σ : aW} (k : Q (some (vi 4)) σ) : aEv (d + 1) true 251 [vr (1000 + 7)] σ Q := by
  refine e251t7 (b251t7_0 ?_)
  exact k
/-! java/lang/StringLatin1.charAt -/
set_option maxRecDepth 4000 in
theorem b259t7_0 {d : Nat} {Q : aQ} {σ : aW} {a1 : Int} (h : (0 ≤ a1 ∧ a1 < (4 : Int)) ∧ (0 ≤ a1 ∧ a1 < ((nth [] aSTR 7).length : Int)) ∧ (0 ≤ (wc (and32 (nth 0 (nth [] aSTR 7) (a1).toNat) 255)) ∧ (wc (and32 (nth 0 (nth [] aSTR 7) (a1).toNat) 255)) < 65536) ∧ Q (some (vi (wc (and32 (nth 0 (nth [] aSTR 7) (a1).toNat) 255)))) σ) : Yx (d + 2) cd259 5 Q 0 [vr (1100 + 7), vi a1] [] σ :=
  x_iload_n (n := 1) rfl rfl rfl (x_aload_n (n := 2) rfl rfl rfl rfl (x_tlen (L := 4) (n := 3) rfl rfl rfl rfl (x_csV (as := [vi a1, vi 4]) (st := []) (n := 6) rfl rfl rfl rfl rfl trivial (s257 h.1 ⟨rfl, x_aload_n (n := 7) rfl rfl rfl rfl (x_iload_n (n := 8) rfl rfl rfl (x_taload (n := 9) rfl rfl rfl h.2.1 (x_sipush (n := 12) rfl rfl (x_iand (n := 13) rfl rfl (x_i2c (n := 14) rfl rfl (x_ret5 rfl rfl h.2.2.1 h.2.2.2))))))⟩))))
theorem e259t7 {d : Nat} {Q : aQ} {σ : aW} {a1 : Int} (h : Yx (d + 2) cd259 5 Q 0 [vr (1100 + 7), vi a1] [] σ) : aEv (d + 2) true 259 [vr (1100 + 7), vi a1] σ Q := ev_of (fun _ _ => h)
theorem s259t7 {d : Nat} {Q : aQ} {σ : aW} {a1 : Int} (o0 : 0 ≤ a1 ∧ a1 < 4) (k : Q (some (vi (nth 0 (nth [] aSTR 7) (a1).toNat))) σ) : aEv (d + 2) true 259 [vr (1100 + 7), vi a1] σ Q := by
  refine e259t7 (b259t7_0 ?_)
  have hb := str_b 7 (a1).toNat
  have e : wc (and32 (nth 0 (nth [] aSTR 7) (a1).toNat) 255) = (nth 0 (nth [] aSTR 7) (a1).toNat) := by rw [and255, Int.emod_eq_of_lt hb.1 (by omega), wc_of hb.1 (by omega)]
  rw [e]
  exact ⟨o0, ⟨o0.1, o0.2⟩, ⟨hb.1, by omega⟩, k⟩
/-! java/lang/String.charAt -/
set_option maxRecDepth 4000 in
theorem b252t7_0 {d : Nat} {Q : aQ} {σ : aW} {a1 : Int} (h : (0 ≤ a1 ∧ a1 < 4) ∧ (0 ≤ (nth 0 (nth [] aSTR 7) (a1).toNat) ∧ (nth 0 (nth [] aSTR 7) (a1).toNat) < 65536) ∧ Q (some (vi (nth 0 (nth [] aSTR 7) (a1).toNat))) σ) : Yx (d + 4) cd252 5 Q 0 [vr (1000 + 7), vi a1] [] σ :=
  x_aload_n (n := 1) rfl rfl rfl rfl (x_cvI (as := [vr (1000 + 7)]) (st := []) (n := 4) rfl rfl rfl rfl rfl ⟨_, _, rfl, rfl⟩ (s256t7 ⟨_, rfl, x_if_eq (n := 7) (t := 16) rfl rfl rfl (fun hc7 => (by exfalso; omega)) (fun _ => x_aload_n (n := 8) rfl rfl rfl rfl (x_getV (n := 11) rfl rfl rfl rfl (x_iload_n (n := 12) rfl rfl rfl (x_csI (as := [vr (1100 + 7), vi a1]) (st := []) (n := 15) rfl rfl rfl rfl rfl trivial (s259t7 h.1 ⟨_, rfl, x_ret5 rfl rfl h.2.1 h.2.2⟩)))))⟩))
theorem e252t7 {d : Nat} {Q : aQ} {σ : aW} {a1 : Int} (h : Yx (d + 4) cd252 5 Q 0 [vr (1000 + 7), vi a1] [] σ) : aEv (d + 4) true 252 [vr (1000 + 7), vi a1] σ Q := ev_of (fun _ _ => h)
theorem s252t7 {d : Nat} {Q : aQ} {σ : aW} {a1 : Int} (o0 : 0 ≤ a1 ∧ a1 < 4) (k : Q (some (vi (nth 0 (nth [] aSTR 7) (a1).toNat))) σ) : aEv (d + 4) true 252 [vr (1000 + 7), vi a1] σ Q := by
  refine e252t7 (b252t7_0 ?_)
  have hb := str_b 7 (a1).toNat
  exact ⟨o0, ⟨hb.1, by omega⟩, k⟩
/-! java/lang/String.coder -/
set_option maxRecDepth 4000 in
theorem b255t8_0 {d : Nat} {Q : aQ} {σ : aW} (h : Q (some (vi 0)) σ) : Yx (d + 0) cd255 4 Q 0 [vr (1000 + 8)] [] σ :=
  x_gs0 (n := 3) rfl rfl rfl (x_if_eq (n := 6) (t := 13) rfl rfl rfl (fun hc6 => (by exfalso; omega)) (fun _ => x_aload_n (n := 7) rfl rfl rfl rfl (x_getC (n := 10) rfl rfl rfl rfl (x_goto (t := 14) rfl rfl (x_ret4 rfl rfl (by omega) h)))))
theorem e255t8 {d : Nat} {Q : aQ} {σ : aW} (h : Yx (d + 0) cd255 4 Q 0 [vr (1000 + 8)] [] σ) : aEv (d + 0) true 255 [vr (1000 + 8)] σ Q := ev_of (fun _ _ => h)
theorem s255t8 {d : Nat} {Q : aQ} {σ : aW} (k : Q (some (vi 0)) σ) : aEv (d + 0) true 255 [vr (1000 + 8)] σ Q := by
  refine e255t8 (b255t8_0 ?_)
  repeat' first | apply And.intro | intro _
  all_goals first | omega | exact k | (refine q_eq ?_ k; (try unfold bi); (repeat' split) <;> omega) | (refine q_eql ?_ k; (try unfold bi); (repeat' split) <;> omega)
/-! java/lang/String.isLatin1 -/
set_option maxRecDepth 4000 in
theorem b256t8_0 {d : Nat} {Q : aQ} {σ : aW} (h : Q (some (vi 1)) σ) : Yx (d + 0) cd256 3 Q 0 [vr (1000 + 8)] [] σ :=
  x_gs0 (n := 3) rfl rfl rfl (x_if_eq (n := 6) (t := 17) rfl rfl rfl (fun hc6 => (by exfalso; omega)) (fun _ => x_aload_n (n := 7) rfl rfl rfl rfl (x_getC (n := 10) rfl rfl rfl rfl (x_if_ne (n := 13) (t := 17) rfl rfl rfl (fun hc13 => (by exfalso; omega)) (fun _ => x_iconst (n := 14) rfl rfl (x_goto (t := 18) rfl rfl (x_ret3 rfl rfl (by omega) h)))))))
theorem e256t8 {d : Nat} {Q : aQ} {σ : aW} (h : Yx (d + 0) cd256 3 Q 0 [vr (1000 + 8)] [] σ) : aEv (d + 0) true 256 [vr (1000 + 8)] σ Q := ev_of (fun _ _ => h)
theorem s256t8 {d : Nat} {Q : aQ} {σ : aW} (k : Q (some (vi 1)) σ) : aEv (d + 0) true 256 [vr (1000 + 8)] σ Q := by
  refine e256t8 (b256t8_0 ?_)
  repeat' first | apply And.intro | intro _
  all_goals first | omega | exact k | (refine q_eq ?_ k; (try unfold bi); (repeat' split) <;> omega) | (refine q_eql ?_ k; (try unfold bi); (repeat' split) <;> omega)
/-! java/lang/String.length -/
set_option maxRecDepth 4000 in
theorem b251t8_0 {d : Nat} {Q : aQ} {σ : aW} (h : Q (some (vi (shr32 5 0))) σ) : Yx (d + 1) cd251 1 Q 0 [vr (1000 + 8)] [] σ :=
  x_aload_n (n := 1) rfl rfl rfl rfl (x_getV (n := 4) rfl rfl rfl rfl (x_tlen (L := 5) (n := 5) rfl rfl rfl rfl (x_aload_n (n := 6) rfl rfl rfl rfl (x_cvI (as := [vr (1000 + 8)]) (st := [vi 5]) (n := 9) rfl rfl rfl rfl rfl ⟨_, _, rfl, rfl⟩ (s255t8 ⟨_, rfl, x_ishr (n := 10) rfl rfl (x_ret1 rfl rfl h)⟩)))))
theorem e251t8 {d : Nat} {Q : aQ} {σ : aW} (h : Yx (d + 1) cd251 1 Q 0 [vr (1000 + 8)] [] σ) : aEv (d + 1) true 251 [vr (1000 + 8)] σ Q := ev_of (fun _ _ => h)
theorem s251t8 {d : Nat} {Q : aQ} {σ : aW} (k : Q (some (vi 5)) σ) : aEv (d + 1) true 251 [vr (1000 + 8)] σ Q := by
  refine e251t8 (b251t8_0 ?_)
  exact k
/-! java/lang/StringLatin1.charAt -/
set_option maxRecDepth 4000 in
theorem b259t8_0 {d : Nat} {Q : aQ} {σ : aW} {a1 : Int} (h : (0 ≤ a1 ∧ a1 < (5 : Int)) ∧ (0 ≤ a1 ∧ a1 < ((nth [] aSTR 8).length : Int)) ∧ (0 ≤ (wc (and32 (nth 0 (nth [] aSTR 8) (a1).toNat) 255)) ∧ (wc (and32 (nth 0 (nth [] aSTR 8) (a1).toNat) 255)) < 65536) ∧ Q (some (vi (wc (and32 (nth 0 (nth [] aSTR 8) (a1).toNat) 255)))) σ) : Yx (d + 2) cd259 5 Q 0 [vr (1100 + 8), vi a1] [] σ :=
  x_iload_n (n := 1) rfl rfl rfl (x_aload_n (n := 2) rfl rfl rfl rfl (x_tlen (L := 5) (n := 3) rfl rfl rfl rfl (x_csV (as := [vi a1, vi 5]) (st := []) (n := 6) rfl rfl rfl rfl rfl trivial (s257 h.1 ⟨rfl, x_aload_n (n := 7) rfl rfl rfl rfl (x_iload_n (n := 8) rfl rfl rfl (x_taload (n := 9) rfl rfl rfl h.2.1 (x_sipush (n := 12) rfl rfl (x_iand (n := 13) rfl rfl (x_i2c (n := 14) rfl rfl (x_ret5 rfl rfl h.2.2.1 h.2.2.2))))))⟩))))
theorem e259t8 {d : Nat} {Q : aQ} {σ : aW} {a1 : Int} (h : Yx (d + 2) cd259 5 Q 0 [vr (1100 + 8), vi a1] [] σ) : aEv (d + 2) true 259 [vr (1100 + 8), vi a1] σ Q := ev_of (fun _ _ => h)
theorem s259t8 {d : Nat} {Q : aQ} {σ : aW} {a1 : Int} (o0 : 0 ≤ a1 ∧ a1 < 5) (k : Q (some (vi (nth 0 (nth [] aSTR 8) (a1).toNat))) σ) : aEv (d + 2) true 259 [vr (1100 + 8), vi a1] σ Q := by
  refine e259t8 (b259t8_0 ?_)
  have hb := str_b 8 (a1).toNat
  have e : wc (and32 (nth 0 (nth [] aSTR 8) (a1).toNat) 255) = (nth 0 (nth [] aSTR 8) (a1).toNat) := by rw [and255, Int.emod_eq_of_lt hb.1 (by omega), wc_of hb.1 (by omega)]
  rw [e]
  exact ⟨o0, ⟨o0.1, o0.2⟩, ⟨hb.1, by omega⟩, k⟩
/-! java/lang/String.charAt -/
set_option maxRecDepth 4000 in
theorem b252t8_0 {d : Nat} {Q : aQ} {σ : aW} {a1 : Int} (h : (0 ≤ a1 ∧ a1 < 5) ∧ (0 ≤ (nth 0 (nth [] aSTR 8) (a1).toNat) ∧ (nth 0 (nth [] aSTR 8) (a1).toNat) < 65536) ∧ Q (some (vi (nth 0 (nth [] aSTR 8) (a1).toNat))) σ) : Yx (d + 4) cd252 5 Q 0 [vr (1000 + 8), vi a1] [] σ :=
  x_aload_n (n := 1) rfl rfl rfl rfl (x_cvI (as := [vr (1000 + 8)]) (st := []) (n := 4) rfl rfl rfl rfl rfl ⟨_, _, rfl, rfl⟩ (s256t8 ⟨_, rfl, x_if_eq (n := 7) (t := 16) rfl rfl rfl (fun hc7 => (by exfalso; omega)) (fun _ => x_aload_n (n := 8) rfl rfl rfl rfl (x_getV (n := 11) rfl rfl rfl rfl (x_iload_n (n := 12) rfl rfl rfl (x_csI (as := [vr (1100 + 8), vi a1]) (st := []) (n := 15) rfl rfl rfl rfl rfl trivial (s259t8 h.1 ⟨_, rfl, x_ret5 rfl rfl h.2.1 h.2.2⟩)))))⟩))
theorem e252t8 {d : Nat} {Q : aQ} {σ : aW} {a1 : Int} (h : Yx (d + 4) cd252 5 Q 0 [vr (1000 + 8), vi a1] [] σ) : aEv (d + 4) true 252 [vr (1000 + 8), vi a1] σ Q := ev_of (fun _ _ => h)
theorem s252t8 {d : Nat} {Q : aQ} {σ : aW} {a1 : Int} (o0 : 0 ≤ a1 ∧ a1 < 5) (k : Q (some (vi (nth 0 (nth [] aSTR 8) (a1).toNat))) σ) : aEv (d + 4) true 252 [vr (1000 + 8), vi a1] σ Q := by
  refine e252t8 (b252t8_0 ?_)
  have hb := str_b 8 (a1).toNat
  exact ⟨o0, ⟨hb.1, by omega⟩, k⟩
/-! java/lang/String.coder -/
set_option maxRecDepth 4000 in
theorem b255t9_0 {d : Nat} {Q : aQ} {σ : aW} (h : Q (some (vi 0)) σ) : Yx (d + 0) cd255 4 Q 0 [vr (1000 + 9)] [] σ :=
  x_gs0 (n := 3) rfl rfl rfl (x_if_eq (n := 6) (t := 13) rfl rfl rfl (fun hc6 => (by exfalso; omega)) (fun _ => x_aload_n (n := 7) rfl rfl rfl rfl (x_getC (n := 10) rfl rfl rfl rfl (x_goto (t := 14) rfl rfl (x_ret4 rfl rfl (by omega) h)))))
theorem e255t9 {d : Nat} {Q : aQ} {σ : aW} (h : Yx (d + 0) cd255 4 Q 0 [vr (1000 + 9)] [] σ) : aEv (d + 0) true 255 [vr (1000 + 9)] σ Q := ev_of (fun _ _ => h)
theorem s255t9 {d : Nat} {Q : aQ} {σ : aW} (k : Q (some (vi 0)) σ) : aEv (d + 0) true 255 [vr (1000 + 9)] σ Q := by
  refine e255t9 (b255t9_0 ?_)
  repeat' first | apply And.intro | intro _
  all_goals first | omega | exact k | (refine q_eq ?_ k; (try unfold bi); (repeat' split) <;> omega) | (refine q_eql ?_ k; (try unfold bi); (repeat' split) <;> omega)
/-! java/lang/String.isLatin1 -/
set_option maxRecDepth 4000 in
theorem b256t9_0 {d : Nat} {Q : aQ} {σ : aW} (h : Q (some (vi 1)) σ) : Yx (d + 0) cd256 3 Q 0 [vr (1000 + 9)] [] σ :=
  x_gs0 (n := 3) rfl rfl rfl (x_if_eq (n := 6) (t := 17) rfl rfl rfl (fun hc6 => (by exfalso; omega)) (fun _ => x_aload_n (n := 7) rfl rfl rfl rfl (x_getC (n := 10) rfl rfl rfl rfl (x_if_ne (n := 13) (t := 17) rfl rfl rfl (fun hc13 => (by exfalso; omega)) (fun _ => x_iconst (n := 14) rfl rfl (x_goto (t := 18) rfl rfl (x_ret3 rfl rfl (by omega) h)))))))
theorem e256t9 {d : Nat} {Q : aQ} {σ : aW} (h : Yx (d + 0) cd256 3 Q 0 [vr (1000 + 9)] [] σ) : aEv (d + 0) true 256 [vr (1000 + 9)] σ Q := ev_of (fun _ _ => h)
theorem s256t9 {d : Nat} {Q : aQ} {σ : aW} (k : Q (some (vi 1)) σ) : aEv (d + 0) true 256 [vr (1000 + 9)] σ Q := by
  refine e256t9 (b256t9_0 ?_)
  repeat' first | apply And.intro | intro _
  all_goals first | omega | exact k | (refine q_eq ?_ k; (try unfold bi); (repeat' split) <;> omega) | (refine q_eql ?_ k; (try unfold bi); (repeat' split) <;> omega)
/-! java/lang/String.length -/
set_option maxRecDepth 4000 in
theorem b251t9_0 {d : Nat} {Q : aQ} {σ : aW} (h : Q (some (vi (shr32 4 0))) σ) : Yx (d + 1) cd251 1 Q 0 [vr (1000 + 9)] [] σ :=
  x_aload_n (n := 1) rfl rfl rfl rfl (x_getV (n := 4) rfl rfl rfl rfl (x_tlen (L := 4) (n := 5) rfl rfl rfl rfl (x_aload_n (n := 6) rfl rfl rfl rfl (x_cvI (as := [vr (1000 + 9)]) (st := [vi 4]) (n := 9) rfl rfl rfl rfl rfl ⟨_, _, rfl, rfl⟩ (s255t9 ⟨_, rfl, x_ishr (n := 10) rfl rfl (x_ret1 rfl rfl h)⟩)))))
theorem e251t9 {d : Nat} {Q : aQ} {σ : aW} (h : Yx (d + 1) cd251 1 Q 0 [vr (1000 + 9)] [] σ) : aEv (d + 1) true 251 [vr (1000 + 9)] σ Q := ev_of (fun _ _ => h)
theorem s251t9 {d : Nat} {Q : aQ} {σ : aW} (k : Q (some (vi 4)) σ) : aEv (d + 1) true 251 [vr (1000 + 9)] σ Q := by
  refine e251t9 (b251t9_0 ?_)
  exact k
/-! java/lang/StringLatin1.charAt -/
set_option maxRecDepth 4000 in
theorem b259t9_0 {d : Nat} {Q : aQ} {σ : aW} {a1 : Int} (h : (0 ≤ a1 ∧ a1 < (4 : Int)) ∧ (0 ≤ a1 ∧ a1 < ((nth [] aSTR 9).length : Int)) ∧ (0 ≤ (wc (and32 (nth 0 (nth [] aSTR 9) (a1).toNat) 255)) ∧ (wc (and32 (nth 0 (nth [] aSTR 9) (a1).toNat) 255)) < 65536) ∧ Q (some (vi (wc (and32 (nth 0 (nth [] aSTR 9) (a1).toNat) 255)))) σ) : Yx (d + 2) cd259 5 Q 0 [vr (1100 + 9), vi a1] [] σ :=
  x_iload_n (n := 1) rfl rfl rfl (x_aload_n (n := 2) rfl rfl rfl rfl (x_tlen (L := 4) (n := 3) rfl rfl rfl rfl (x_csV (as := [vi a1, vi 4]) (st := []) (n := 6) rfl rfl rfl rfl rfl trivial (s257 h.1 ⟨rfl, x_aload_n (n := 7) rfl rfl rfl rfl (x_iload_n (n := 8) rfl rfl rfl (x_taload (n := 9) rfl rfl rfl h.2.1 (x_sipush (n := 12) rfl rfl (x_iand (n := 13) rfl rfl (x_i2c (n := 14) rfl rfl (x_ret5 rfl rfl h.2.2.1 h.2.2.2))))))⟩))))
theorem e259t9 {d : Nat} {Q : aQ} {σ : aW} {a1 : Int} (h : Yx (d + 2) cd259 5 Q 0 [vr (1100 + 9), vi a1] [] σ) : aEv (d + 2) true 259 [vr (1100 + 9), vi a1] σ Q := ev_of (fun _ _ => h)
theorem s259t9 {d : Nat} {Q : aQ} {σ : aW} {a1 : Int} (o0 : 0 ≤ a1 ∧ a1 < 4) (k : Q (some (vi (nth 0 (nth [] aSTR 9) (a1).toNat))) σ) : aEv (d + 2) true 259 [vr (1100 + 9), vi a1] σ Q := by
  refine e259t9 (b259t9_0 ?_)
  have hb := str_b 9 (a1).toNat
  have e : wc (and32 (nth 0 (nth [] aSTR 9) (a1).toNat) 255) = (nth 0 (nth [] aSTR 9) (a1).toNat) := by rw [and255, Int.emod_eq_of_lt hb.1 (by omega), wc_of hb.1 (by omega)]
  rw [e]
  exact ⟨o0, ⟨o0.1, o0.2⟩, ⟨hb.1, by omega⟩, k⟩
/-! java/lang/String.charAt -/
set_option maxRecDepth 4000 in
theorem b252t9_0 {d : Nat} {Q : aQ} {σ : aW} {a1 : Int} (h : (0 ≤ a1 ∧ a1 < 4) ∧ (0 ≤ (nth 0 (nth [] aSTR 9) (a1).toNat) ∧ (nth 0 (nth [] aSTR 9) (a1).toNat) < 65536) ∧ Q (some (vi (nth 0 (nth [] aSTR 9) (a1).toNat))) σ) : Yx (d + 4) cd252 5 Q 0 [vr (1000 + 9), vi a1] [] σ :=
  x_aload_n (n := 1) rfl rfl rfl rfl (x_cvI (as := [vr (1000 + 9)]) (st := []) (n := 4) rfl rfl rfl rfl rfl ⟨_, _, rfl, rfl⟩ (s256t9 ⟨_, rfl, x_if_eq (n := 7) (t := 16) rfl rfl rfl (fun hc7 => (by exfalso; omega)) (fun _ => x_aload_n (n := 8) rfl rfl rfl rfl (x_getV (n := 11) rfl rfl rfl rfl (x_iload_n (n := 12) rfl rfl rfl (x_csI (as := [vr (1100 + 9), vi a1]) (st := []) (n := 15) rfl rfl rfl rfl rfl trivial (s259t9 h.1 ⟨_, rfl, x_ret5 rfl rfl h.2.1 h.2.2⟩)))))⟩))
theorem e252t9 {d : Nat} {Q : aQ} {σ : aW} {a1 : Int} (h : Yx (d + 4) cd252 5 Q 0 [vr (1000 + 9), vi a1] [] σ) : aEv (d + 4) true 252 [vr (1000 + 9), vi a1] σ Q := ev_of (fun _ _ => h)
theorem s252t9 {d : Nat} {Q : aQ} {σ : aW} {a1 : Int} (o0 : 0 ≤ a1 ∧ a1 < 4) (k : Q (some (vi (nth 0 (nth [] aSTR 9) (a1).toNat))) σ) : aEv (d + 4) true 252 [vr (1000 + 9), vi a1] σ Q := by
  refine e252t9 (b252t9_0 ?_)
  have hb := str_b 9 (a1).toNat
  exact ⟨o0, ⟨hb.1, by omega⟩, k⟩
/-! java/lang/String.coder -/
set_option maxRecDepth 4000 in
theorem b255t10_0 {d : Nat} {Q : aQ} {σ : aW} (h : Q (some (vi 0)) σ) : Yx (d + 0) cd255 4 Q 0 [vr (1000 + 10)] [] σ :=
  x_gs0 (n := 3) rfl rfl rfl (x_if_eq (n := 6) (t := 13) rfl rfl rfl (fun hc6 => (by exfalso; omega)) (fun _ => x_aload_n (n := 7) rfl rfl rfl rfl (x_getC (n := 10) rfl rfl rfl rfl (x_goto (t := 14) rfl rfl (x_ret4 rfl rfl (by omega) h)))))
theorem e255t10 {d : Nat} {Q : aQ} {σ : aW} (h : Yx (d + 0) cd255 4 Q 0 [vr (1000 + 10)] [] σ) : aEv (d + 0) true 255 [vr (1000 + 10)] σ Q := ev_of (fun _ _ => h)
theorem s255t10 {d : Nat} {Q : aQ} {σ : aW} (k : Q (some (vi 0)) σ) : aEv (d + 0) true 255 [vr (1000 + 10)] σ Q := by
  refine e255t10 (b255t10_0 ?_)
  repeat' first | apply And.intro | intro _
  all_goals first | omega | exact k | (refine q_eq ?_ k; (try unfold bi); (repeat' split) <;> omega) | (refine q_eql ?_ k; (try unfold bi); (repeat' split) <;> omega)
/-! java/lang/String.isLatin1 -/
set_option maxRecDepth 4000 in
theorem b256t10_0 {d : Nat} {Q : aQ} {σ : aW} (h : Q (some (vi 1)) σ) : Yx (d + 0) cd256 3 Q 0 [vr (1000 + 10)] [] σ :=
  x_gs0 (n := 3) rfl rfl rfl (x_if_eq (n := 6) (t := 17) rfl rfl rfl (fun hc6 => (by exfalso; omega)) (fun _ => x_aload_n (n := 7) rfl rfl rfl rfl (x_getC (n := 10) rfl rfl rfl rfl (x_if_ne (n := 13) (t := 17) rfl rfl rfl (fun hc13 => (by exfalso; omega)) (fun _ => x_iconst (n := 14) rfl rfl (x_goto (t := 18) rfl rfl (x_ret3 rfl rfl (by omega) h)))))))
theorem e256t10 {d : Nat} {Q : aQ} {σ : aW} (h : Yx (d + 0) cd256 3 Q 0 [vr (1000 + 10)] [] σ) : aEv (d + 0) true 256 [vr (1000 + 10)] σ Q := ev_of (fun _ _ => h)
theorem s256t10 {d : Nat} {Q : aQ} {σ : aW} (k : Q (some (vi 1)) σ) : aEv (d + 0) true 256 [vr (1000 + 10)] σ Q := by
  refine e256t10 (b256t10_0 ?_)
  repeat' first | apply And.intro | intro _
  all_goals first | omega | exact k | (refine q_eq ?_ k; (try unfold bi); (repeat' split) <;> omega) | (refine q_eql ?_ k; (try unfold bi); (repeat' split) <;> omega)
/-! java/lang/String.length -/
set_option maxRecDepth 4000 in
theorem b251t10_0 {d : Nat} {Q : aQ} {σ : aW} (h : Q (some (vi (shr32 4 0))) σ) : Yx (d + 1) cd251 1 Q 0 [vr (1000 + 10)] [] σ :=
  x_aload_n (n := 1) rfl rfl rfl rfl (x_getV (n := 4) rfl rfl rfl rfl (x_tlen (L := 4) (n := 5) rfl rfl rfl rfl (x_aload_n (n := 6) rfl rfl rfl rfl (x_cvI (as := [vr (1000 + 10)]) (st := [vi 4]) (n := 9) rfl rfl rfl rfl rfl ⟨_, _, rfl, rfl⟩ (s255t10 ⟨_, rfl, x_ishr (n := 10) rfl rfl (x_ret1 rfl rfl h)⟩)))))
theorem e251t10 {d : Nat} {Q : aQ} {σ : aW} (h : Yx (d + 1) cd251 1 Q 0 [vr (1000 + 10)] [] σ) : aEv (d + 1) true 251 [vr (1000 + 10)] σ Q := ev_of (fun _ _ => h)
theorem s251t10 {d : Nat} {Q : aQ} {σ : aW} (k : Q (some (vi 4)) σ) : aEv (d + 1) true 251 [vr (1000 + 10)] σ Q := by
  refine e251t10 (b251t10_0 ?_)
  exact k
/-! java/lang/StringLatin1.charAt -/
set_option maxRecDepth 4000 in
theorem b259t10_0 {d : Nat} {Q : aQ} {σ : aW} {a1 : Int} (h : (0 ≤ a1 ∧ a1 < (4 : Int)) ∧ (0 ≤ a1 ∧ a1 < ((nth [] aSTR 10).length : Int)) ∧ (0 ≤ (wc (and32 (nth 0 (nth [] aSTR 10) (a1).toNat) 255)) ∧ (wc (and32 (nth 0 (nth [] aSTR 10) (a1).toNat) 255)) < 65536) ∧ Q (some (vi (wc (and32 (nth 0 (nth [] aSTR 10) (a1).toNat) 255)))) σ) : Yx (d + 2) cd259 5 Q 0 [vr (1100 + 10), vi a1] [] σ :=
  x_iload_n (n := 1) rfl rfl rfl (x_aload_n (n := 2) rfl rfl rfl rfl (x_tlen (L := 4) (n := 3) rfl rfl rfl rfl (x_csV (as := [vi a1, vi 4]) (st := []) (n := 6) rfl rfl rfl rfl rfl trivial (s257 h.1 ⟨rfl, x_aload_n (n := 7) rfl rfl rfl rfl (x_iload_n (n := 8) rfl rfl rfl (x_taload (n := 9) rfl rfl rfl h.2.1 (x_sipush (n := 12) rfl rfl (x_iand (n := 13) rfl rfl (x_i2c (n := 14) rfl rfl (x_ret5 rfl rfl h.2.2.1 h.2.2.2))))))⟩))))
theorem e259t10 {d : Nat} {Q : aQ} {σ : aW} {a1 : Int} (h : Yx (d + 2) cd259 5 Q 0 [vr (1100 + 10), vi a1] [] σ) : aEv (d + 2) true 259 [vr (1100 + 10), vi a1] σ Q := ev_of (fun _ _ => h)
theorem s259t10 {d : Nat} {Q : aQ} {σ : aW} {a1 : Int} (o0 : 0 ≤ a1 ∧ a1 < 4) (k : Q (some (vi (nth 0 (nth [] aSTR 10) (a1).toNat))) σ) : aEv (d + 2) true 259 [vr (1100 + 10), vi a1] σ Q := by
  refine e259t10 (b259t10_0 ?_)
  have hb := str_b 10 (a1).toNat
  have e : wc (and32 (nth 0 (nth [] aSTR 10) (a1).toNat) 255) = (nth 0 (nth [] aSTR 10) (a1).toNat) := by rw [and255, Int.emod_eq_of_lt hb.1 (by omega), wc_of hb.1 (by omega)]
  rw [e]
  exact ⟨o0, ⟨o0.1, o0.2⟩, ⟨hb.1, by omega⟩, k⟩
/-! java/lang/String.charAt -/
set_option maxRecDepth 4000 in
theorem b252t10_0 {d : Nat} {Q : aQ} {σ : aW} {a1 : Int} (h : (0 ≤ a1 ∧ a1 < 4) ∧ (0 ≤ (nth 0 (nth [] aSTR 10) (a1).toNat) ∧ (nth 0 (nth [] aSTR 10) (a1).toNat) < 65536) ∧ Q (some (vi (nth 0 (nth [] aSTR 10) (a1).toNat))) σ) : Yx (d + 4) cd252 5 Q 0 [vr (1000 + 10), vi a1] [] σ :=
  x_aload_n (n := 1) rfl rfl rfl rfl (x_cvI (as := [vr (1000 + 10)]) (st := []) (n := 4) rfl rfl rfl rfl rfl ⟨_, _, rfl, rfl⟩ (s256t10 ⟨_, rfl, x_if_eq (n := 7) (t := 16) rfl rfl rfl (fun hc7 => (by exfalso; omega)) (fun _ => x_aload_n (n := 8) rfl rfl rfl rfl (x_getV (n := 11) rfl rfl rfl rfl (x_iload_n (n := 12) rfl rfl rfl (x_csI (as := [vr (1100 + 10), vi a1]) (st := []) (n := 15) rfl rfl rfl rfl rfl trivial (s259t10 h.1 ⟨_, rfl, x_ret5 rfl rfl h.2.1 h.2.2⟩)))))⟩))
theorem e252t10 {d : Nat} {Q : aQ} {σ : aW} {a1 : Int} (h : Yx (d + 4) cd252 5 Q 0 [vr (1000 + 10), vi a1] [] σ) : aEv (d + 4) true 252 [vr (1000 + 10), vi a1] σ Q := ev_of (fun _ _ => h)
theorem s252t10 {d : Nat} {Q : aQ} {σ : aW} {a1 : Int} (o0 : 0 ≤ a1 ∧ a1 < 4) (k : Q (some (vi (nth 0 (nth [] aSTR 10) (a1).toNat))) σ) : aEv (d + 4) true 252 [vr (1000 + 10), vi a1] σ Q := by
  refine e252t10 (b252t10_0 ?_)
  have hb := str_b 10 (a1).toNat
  exact ⟨o0, ⟨hb.1, by omega⟩, k⟩
/-! java/lang/String.coder -/
set_option maxRecDepth 4000 in
theorem b255t11_0 {d : Nat} {Q : aQ} {σ : aW} (h : Q (some (vi 0)) σ) : Yx (d + 0) cd255 4 Q 0 [vr (1000 + 11)] [] σ :=
  x_gs0 (n := 3) rfl rfl rfl (x_if_eq (n := 6) (t := 13) rfl rfl rfl (fun hc6 => (by exfalso; omega)) (fun _ => x_aload_n (n := 7) rfl rfl rfl rfl (x_getC (n := 10) rfl rfl rfl rfl (x_goto (t := 14) rfl rfl (x_ret4 rfl rfl (by omega) h)))))
theorem e255t11 {d : Nat} {Q : aQ} {σ : aW} (h : Yx (d + 0) cd255 4 Q 0 [vr (1000 + 11)] [] σ) : aEv (d + 0) true 255 [vr (1000 + 11)] σ Q := ev_of (fun _ _ => h)
theorem s255t11 {d : Nat} {Q : aQ} {σ : aW} (k : Q (some (vi 0)) σ) : aEv (d + 0) true 255 [vr (1000 + 11)] σ Q := by
  refine e255t11 (b255t11_0 ?_)
  repeat' first | apply And.intro | intro _
  all_goals first | omega | exact k | (refine q_eq ?_ k; (try unfold bi); (repeat' split) <;> omega) | (refine q_eql ?_ k; (try unfold bi); (repeat' split) <;> omega)
/-! java/lang/String.isLatin1 -/
set_option maxRecDepth 4000 in
theorem b256t11_0 {d : Nat} {Q : aQ} {σ : aW} (h : Q (some (vi 1)) σ) : Yx (d + 0) cd256 3 Q 0 [vr (1000 + 11)] [] σ :=
  x_gs0 (n := 3) rfl rfl rfl (x_if_eq (n := 6) (t := 17) rfl rfl rfl (fun hc6 => (by exfalso; omega)) (fun _ => x_aload_n (n := 7) rfl rfl rfl rfl (x_getC (n := 10) rfl rfl rfl rfl (x_if_ne (n := 13) (t := 17) rfl rfl rfl (fun hc13 => (by exfalso; omega)) (fun _ => x_iconst (n := 14) rfl rfl (x_goto (t := 18) rfl rfl (x_ret3 rfl rfl (by omega) h)))))))
theorem e256t11 {d : Nat} {Q : aQ} {σ : aW} (h : Yx (d + 0) cd256 3 Q 0 [vr (1000 + 11)] [] σ) : aEv (d + 0) true 256 [vr (1000 + 11)] σ Q := ev_of (fun _ _ => h)
theorem s256t11 {d : Nat} {Q : aQ} {σ : aW} (k : Q (some (vi 1)) σ) : aEv (d + 0) true 256 [vr (1000 + 11)] σ Q := by
  refine e256t11 (b256t11_0 ?_)
  repeat' first | apply And.intro | intro _
  all_goals first | omega | exact k | (refine q_eq ?_ k; (try unfold bi); (repeat' split) <;> omega) | (refine q_eql ?_ k; (try unfold bi); (repeat' split) <;> omega)
/-! java/lang/String.length -/
set_option maxRecDepth 4000 in
theorem b251t11_0 {d : Nat} {Q : aQ} {σ : aW} (h : Q (some (vi (shr32 4 0))) σ) : Yx (d + 1) cd251 1 Q 0 [vr (1000 + 11)] [] σ :=
  x_aload_n (n := 1) rfl rfl rfl rfl (x_getV (n := 4) rfl rfl rfl rfl (x_tlen (L := 4) (n := 5) rfl rfl rfl rfl (x_aload_n (n := 6) rfl rfl rfl rfl (x_cvI (as := [vr (1000 + 11)]) (st := [vi 4]) (n := 9) rfl rfl rfl rfl rfl ⟨_, _, rfl, rfl⟩ (s255t11 ⟨_, rfl, x_ishr (n := 10) rfl rfl (x_ret1 rfl rfl h)⟩)))))
theorem e251t11 {d : Nat} {Q : aQ} {σ : aW} (h : Yx (d + 1) cd251 1 Q 0 [vr (1000 + 11)] [] σ) : aEv (d + 1) true 251 [vr (1000 + 11)] σ Q := ev_of (fun _ _ => h)
theorem s251t11 {d : Nat} {Q : aQ} {σ : aW} (k : Q (some (vi 4)) σ) : aEv (d + 1) true 251 [vr (1000 + 11)] σ Q := by
  refine e251t11 (b251t11_0 ?_)
  exact k
/-! java/lang/StringLatin1.charAt -/
set_option maxRecDepth 4000 in
theorem b259t11_0 {d : Nat} {Q : aQ} {σ : aW} {a1 : Int} (h : (0 ≤ a1 ∧ a1 < (4 : Int)) ∧ (0 ≤ a1 ∧ a1 < ((nth [] aSTR 11).length : Int)) ∧ (0 ≤ (wc (and32 (nth 0 (nth [] aSTR 11) (a1).toNat) 255)) ∧ (wc (and32 (nth 0 (nth [] aSTR 11) (a1).toNat) 255)) < 65536) ∧ Q (some (vi (wc (and32 (nth 0 (nth [] aSTR 11) (a1).toNat) 255)))) σ) : Yx (d + 2) cd259 5 Q 0 [vr (1100 + 11), vi a1] [] σ :=
  x_iload_n (n := 1) rfl rfl rfl (x_aload_n (n := 2) rfl rfl rfl rfl (x_tlen (L := 4) (n := 3) rfl rfl rfl rfl (x_csV (as := [vi a1, vi 4]) (st := []) (n := 6) rfl rfl rfl rfl rfl trivial (s257 h.1 ⟨rfl, x_aload_n (n := 7) rfl rfl rfl rfl (x_iload_n (n := 8) rfl rfl rfl (x_taload (n := 9) rfl rfl rfl h.2.1 (x_sipush (n := 12) rfl rfl (x_iand (n := 13) rfl rfl (x_i2c (n := 14) rfl rfl (x_ret5 rfl rfl h.2.2.1 h.2.2.2))))))⟩))))
theorem e259t11 {d : Nat} {Q : aQ} {σ : aW} {a1 : Int} (h : Yx (d + 2) cd259 5 Q 0 [vr (1100 + 11), vi a1] [] σ) : aEv (d + 2) true 259 [vr (1100 + 11), vi a1] σ Q := ev_of (fun _ _ => h)
theorem s259t11 {d : Nat} {Q : aQ} {σ : aW} {a1 : Int} (o0 : 0 ≤ a1 ∧ a1 < 4) (k : Q (some (vi (nth 0 (nth [] aSTR 11) (a1).toNat))) σ) : aEv (d + 2) true 259 [vr (1100 + 11), vi a1] σ Q := by
  refine e259t11 (b259t11_0 ?_)
  have hb := str_b 11 (a1).toNat
  have e : wc (and32 (nth 0 (nth [] aSTR 11) (a1).toNat) 255) = (nth 0 (nth [] aSTR 11) (a1).toNat) := by rw [and255, Int.emod_eq_of_lt hb.1 (by omega), wc_of hb.1 (by omega)]
  rw [e]
  exact ⟨o0, ⟨o0.1, o0.2⟩, ⟨hb.1, by omega⟩, k⟩
/-! java/lang/String.charAt -/
set_option maxRecDepth 4000 in
theorem b252t11_0 {d : Nat} {Q : aQ} {σ : aW} {a1 : Int} (h : (0 ≤ a1 ∧ a1 < 4) ∧ (0 ≤ (nth 0 (nth [] aSTR 11) (a1).toNat) ∧ (nth 0 (nth [] aSTR 11) (a1).toNat) < 65536) ∧ Q (some (vi (nth 0 (nth [] aSTR 11) (a1).toNat))) σ) : Yx (d + 4) cd252 5 Q 0 [vr (1000 + 11), vi a1] [] σ :=
  x_aload_n (n := 1) rfl rfl rfl rfl (x_cvI (as := [vr (1000 + 11)]) (st := []) (n := 4) rfl rfl rfl rfl rfl ⟨_, _, rfl, rfl⟩ (s256t11 ⟨_, rfl, x_if_eq (n := 7) (t := 16) rfl rfl rfl (fun hc7 => (by exfalso; omega)) (fun _ => x_aload_n (n := 8) rfl rfl rfl rfl (x_getV (n := 11) rfl rfl rfl rfl (x_iload_n (n := 12) rfl rfl rfl (x_csI (as := [vr (1100 + 11), vi a1]) (st := []) (n := 15) rfl rfl rfl rfl rfl trivial (s259t11 h.1 ⟨_, rfl, x_ret5 rfl rfl h.2.1 h.2.2⟩)))))⟩))
theorem e252t11 {d : Nat} {Q : aQ} {σ : aW} {a1 : Int} (h : Yx (d + 4) cd252 5 Q 0 [vr (1000 + 11), vi a1] [] σ) : aEv (d + 4) true 252 [vr (1000 + 11), vi a1] σ Q := ev_of (fun _ _ => h)
theorem s252t11 {d : Nat} {Q : aQ} {σ : aW} {a1 : Int} (o0 : 0 ≤ a1 ∧ a1 < 4) (k : Q (some (vi (nth 0 (nth [] aSTR 11) (a1).toNat))) σ) : aEv (d + 4) true 252 [vr (1000 + 11), vi a1] σ Q := by
  refine e252t11 (b252t11_0 ?_)
  have hb := str_b 11 (a1).toNat
  exact ⟨o0, ⟨hb.1, by omega⟩, k⟩
/-! java/lang/String.coder -/
set_option maxRecDepth 4000 in
theorem b255t12_0 {d : Nat} {Q : aQ} {σ : aW} (h : Q (some (vi 0)) σ) : Yx (d + 0) cd255 4 Q 0 [vr (1000 + 12)] [] σ :=
  x_gs0 (n := 3) rfl rfl rfl (x_if_eq (n := 6) (t := 13) rfl rfl rfl (fun hc6 => (by exfalso; omega)) (fun _ => x_aload_n (n := 7) rfl rfl rfl rfl (x_getC (n := 10) rfl rfl rfl rfl (x_goto (t := 14) rfl rfl (x_ret4 rfl rfl (by omega) h)))))
theorem e255t12 {d : Nat} {Q : aQ} {σ : aW} (h : Yx (d + 0) cd255 4 Q 0 [vr (1000 + 12)] [] σ) : aEv (d + 0) true 255 [vr (1000 + 12)] σ Q := ev_of (fun _ _ => h)
theorem s255t12 {d : Nat} {Q : aQ} {σ : aW} (k : Q (some (vi 0)) σ) : aEv (d + 0) true 255 [vr (1000 + 12)] σ Q := by
  refine e255t12 (b255t12_0 ?_)
  repeat' first | apply And.intro | intro _
  all_goals first | omega | exact k | (refine q_eq ?_ k; (try unfold bi); (repeat' split) <;> omega) | (refine q_eql ?_ k; (try unfold bi); (repeat' split) <;> omega)
/-! java/lang/String.isLatin1 -/
set_option maxRecDepth 4000 in
theorem b256t12_0 {d : Nat} {Q : aQ} {σ : aW} (h : Q (some (vi 1)) σ) : Yx (d + 0) cd256 3 Q 0 [vr (1000 + 12)] [] σ :=
  x_gs0 (n := 3) rfl rfl rfl (x_if_eq (n := 6) (t := 17) rfl rfl rfl (fun hc6 => (by exfalso; omega)) (fun _ => x_aload_n (n := 7) rfl rfl rfl rfl (x_getC (n := 10) rfl rfl rfl rfl (x_if_ne (n := 13) (t := 17) rfl rfl rfl (fun hc13 => (by exfalso; omega)) (fun _ => x_iconst (n := 14) rfl rfl (x_goto (t := 18) rfl rfl (x_ret3 rfl rfl (by omega) h)))))))
theorem e256t12 {d : Nat} {Q : aQ} {σ : aW} (h : Yx (d + 0) cd256 3 Q 0 [vr (1000 + 12)] [] σ) : aEv (d + 0) true 256 [vr (1000 + 12)] σ Q := ev_of (fun _ _ => h)
theorem s256t12 {d : Nat} {Q : aQ} {σ : aW} (k : Q (some (vi 1)) σ) : aEv (d + 0) true 256 [vr (1000 + 12)] σ Q := by
  refine e256t12 (b256t12_0 ?_)
  repeat' first | apply And.intro | intro _
  all_goals first | omega | exact k | (refine q_eq ?_ k; (try unfold bi); (repeat' split) <;> omega) | (refine q_eql ?_ k; (try unfold bi); (repeat' split) <;> omega)
/-! java/lang/String.length -/
set_option maxRecDepth 4000 in
theorem b251t12_0 {d : Nat} {Q : aQ} {σ : aW} (h : Q (some (vi (shr32 4 0))) σ) : Yx (d + 1) cd251 1 Q 0 [vr (1000 + 12)] [] σ :=
  x_aload_n (n := 1) rfl rfl rfl rfl (x_getV (n := 4) rfl rfl rfl rfl (x_tlen (L := 4) (n := 5) rfl rfl rfl rfl (x_aload_n (n := 6) rfl rfl rfl rfl (x_cvI (as := [vr (1000 + 12)]) (st := [vi 4]) (n := 9) rfl rfl rfl rfl rfl ⟨_, _, rfl, rfl⟩ (s255t12 ⟨_, rfl, x_ishr (n := 10) rfl rfl (x_ret1 rfl rfl h)⟩)))))
theorem e251t12 {d : Nat} {Q : aQ} {σ : aW} (h : Yx (d + 1) cd251 1 Q 0 [vr (1000 + 12)] [] σ) : aEv (d + 1) true 251 [vr (1000 + 12)] σ Q := ev_of (fun _ _ => h)
theorem s251t12 {d : Nat} {Q : aQ} {σ : aW} (k : Q (some (vi 4)) σ) : aEv (d + 1) true 251 [vr (1000 + 12)] σ Q := by
  refine e251t12 (b251t12_0 ?_)
  exact k
/-! java/lang/StringLatin1.charAt -/
set_option maxRecDepth 4000 in
theorem b259t12_0 {d : Nat} {Q : aQ} {σ : aW} {a1 : Int} (h : (0 ≤ a1 ∧ a1 < (4 : Int)) ∧ (0 ≤ a1 ∧ a1 < ((nth [] aSTR 12).length : Int)) ∧ (0 ≤ (wc (and32 (nth 0 (nth [] aSTR 12) (a1).toNat) 255)) ∧ (wc (and32 (nth 0 (nth [] aSTR 12) (a1).toNat) 255)) < 65536) ∧ Q (some (vi (wc (and32 (nth 0 (nth [] aSTR 12) (a1).toNat) 255)))) σ) : Yx (d + 2) cd259 5 Q 0 [vr (1100 + 12), vi a1] [] σ :=
  x_iload_n (n := 1) rfl rfl rfl (x_aload_n (n := 2) rfl rfl rfl rfl (x_tlen (L := 4) (n := 3) rfl rfl rfl rfl (x_csV (as := [vi a1, vi 4]) (st := []) (n := 6) rfl rfl rfl rfl rfl trivial (s257 h.1 ⟨rfl, x_aload_n (n := 7) rfl rfl rfl rfl (x_iload_n (n := 8) rfl rfl rfl (x_taload (n := 9) rfl rfl rfl h.2.1 (x_sipush (n := 12) rfl rfl (x_iand (n := 13) rfl rfl (x_i2c (n := 14) rfl rfl (x_ret5 rfl rfl h.2.2.1 h.2.2.2))))))⟩))))
theorem e259t12 {d : Nat} {Q : aQ} {σ : aW} {a1 : Int} (h : Yx (d + 2) cd259 5 Q 0 [vr (1100 + 12), vi a1] [] σ) : aEv (d + 2) true 259 [vr (1100 + 12), vi a1] σ Q := ev_of (fun _ _ => h)
theorem s259t12 {d : Nat} {Q : aQ} {σ : aW} {a1 : Int} (o0 : 0 ≤ a1 ∧ a1 < 4) (k : Q (some (vi (nth 0 (nth [] aSTR 12) (a1).toNat))) σ) : aEv (d + 2) true 259 [vr (1100 + 12), vi a1] σ Q := by
  refine e259t12 (b259t12_0 ?_)
  have hb := str_b 12 (a1).toNat
  have e : wc (and32 (nth 0 (nth [] aSTR 12) (a1).toNat) 255) = (nth 0 (nth [] aSTR 12) (a1).toNat) := by rw [and255, Int.emod_eq_of_lt hb.1 (by omega), wc_of hb.1 (by omega)]
  rw [e]
  exact ⟨o0, ⟨o0.1, o0.2⟩, ⟨hb.1, by omega⟩, k⟩
/-! java/lang/String.charAt -/
set_option maxRecDepth 4000 in
theorem b252t12_0 {d : Nat} {Q : aQ} {σ : aW} {a1 : Int} (h : (0 ≤ a1 ∧ a1 < 4) ∧ (0 ≤ (nth 0 (nth [] aSTR 12) (a1).toNat) ∧ (nth 0 (nth [] aSTR 12) (a1).toNat) < 65536) ∧ Q (some (vi (nth 0 (nth [] aSTR 12) (a1).toNat))) σ) : Yx (d + 4) cd252 5 Q 0 [vr (1000 + 12), vi a1] [] σ :=
  x_aload_n (n := 1) rfl rfl rfl rfl (x_cvI (as := [vr (1000 + 12)]) (st := []) (n := 4) rfl rfl rfl rfl rfl ⟨_, _, rfl, rfl⟩ (s256t12 ⟨_, rfl, x_if_eq (n := 7) (t := 16) rfl rfl rfl (fun hc7 => (by exfalso; omega)) (fun _ => x_aload_n (n := 8) rfl rfl rfl rfl (x_getV (n := 11) rfl rfl rfl rfl (x_iload_n (n := 12) rfl rfl rfl (x_csI (as := [vr (1100 + 12), vi a1]) (st := []) (n := 15) rfl rfl rfl rfl rfl trivial (s259t12 h.1 ⟨_, rfl, x_ret5 rfl rfl h.2.1 h.2.2⟩)))))⟩))
theorem e252t12 {d : Nat} {Q : aQ} {σ : aW} {a1 : Int} (h : Yx (d + 4) cd252 5 Q 0 [vr (1000 + 12), vi a1] [] σ) : aEv (d + 4) true 252 [vr (1000 + 12), vi a1] σ Q := ev_of (fun _ _ => h)
theorem s252t12 {d : Nat} {Q : aQ} {σ : aW} {a1 : Int} (o0 : 0 ≤ a1 ∧ a1 < 4) (k : Q (some (vi (nth 0 (nth [] aSTR 12) (a1).toNat))) σ) : aEv (d + 4) true 252 [vr (1000 + 12), vi a1] σ Q := by
  refine e252t12 (b252t12_0 ?_)
  have hb := str_b 12 (a1).toNat
  exact ⟨o0, ⟨hb.1, by omega⟩, k⟩
/-! java/lang/String.coder -/
set_option maxRecDepth 4000 in
theorem b255t13_0 {d : Nat} {Q : aQ} {σ : aW} (h : Q (some (vi 0)) σ) : Yx (d + 0) cd255 4 Q 0 [vr (1000 + 13)] [] σ :=
  x_gs0 (n := 3) rfl rfl rfl (x_if_eq (n := 6) (t := 13) rfl rfl rfl (fun hc6 => (by exfalso; omega)) (fun _ => x_aload_n (n := 7) rfl rfl rfl rfl (x_getC (n := 10) rfl rfl rfl rfl (x_goto (t := 14) rfl rfl (x_ret4 rfl rfl (by omega) h)))))
theorem e255t13 {d : Nat} {Q : aQ} {σ : aW} (h : Yx (d + 0) cd255 4 Q 0 [vr (1000 + 13)] [] σ) : aEv (d + 0) true 255 [vr (1000 + 13)] σ Q := ev_of (fun _ _ => h)
theorem s255t13 {d : Nat} {Q : aQ} {σ : aW} (k : Q (some (vi 0)) σ) : aEv (d + 0) true 255 [vr (1000 + 13)] σ Q := by
  refine e255t13 (b255t13_0 ?_)
  repeat' first | apply And.intro | intro _
  all_goals first | omega | exact k | (refine q_eq ?_ k; (try unfold bi); (repeat' split) <;> omega) | (refine q_eql ?_ k; (try unfold bi); (repeat' split) <;> omega)
/-! java/lang/String.isLatin1 -/
set_option maxRecDepth 4000 in
theorem b256t13_0 {d : Nat} {Q : aQ} {σ : aW} (h : Q (some (vi 1)) σ) : Yx (d + 0) cd256 3 Q 0 [vr (1000 + 13)] [] σ :=
  x_gs0 (n := 3) rfl rfl rfl (x_if_eq (n := 6) (t := 17) rfl rfl rfl (fun hc6 => (by exfalso; omega)) (fun _ => x_aload_n (n := 7) rfl rfl rfl rfl (x_getC (n := 10) rfl rfl rfl rfl (x_if_ne (n := 13) (t := 17) rfl rfl rfl (fun hc13 => (by exfalso; omega)) (fun _ => x_iconst (n := 14) rfl rfl (x_goto (t := 18) rfl rfl (x_ret3 rfl rfl (by omega) h)))))))
theorem e256t13 {d : Nat} {Q : aQ} {σ : aW} (h : Yx (d + 0) cd256 3 Q 0 [vr (1000 + 13)] [] σ) : aEv (d + 0) true 256 [vr (1000 + 13)] σ Q := ev_of (fun _ _ => h)
theorem s256t13 {d : Nat} {Q : aQ} {σ : aW} (k : Q (some (vi 1)) σ) : aEv (d + 0) true 256 [vr (1000 + 13)] σ Q := by
  refine e256t13 (b256t13_0 ?_)
  repeat' first | apply And.intro | intro _
  all_goals first | omega | exact k | (refine q_eq ?_ k; (try unfold bi); (repeat' split) <;> omega) | (refine q_eql ?_ k; (try unfold bi); (repeat' split) <;> omega)
/-! java/lang/String.length -/
set_option maxRecDepth 4000 in
theorem b251t13_0 {d : Nat} {Q : aQ} {σ : aW} (h : Q (some (vi (shr32 4 0))) σ) : Yx (d + 1) cd251 1 Q 0 [vr (1000 + 13)] [] σ :=
  x_aload_n (n := 1) rfl rfl rfl rfl (x_getV (n := 4) rfl rfl rfl rfl (x_tlen (L := 4) (n := 5) rfl rfl rfl rfl (x_aload_n (n := 6) rfl rfl rfl rfl (x_cvI (as := [vr (1000 + 13)]) (st := [vi 4]) (n := 9) rfl rfl rfl rfl rfl ⟨_, _, rfl, rfl⟩ (s255t13 ⟨_, rfl, x_ishr (n := 10) rfl rfl (x_ret1 rfl rfl h)⟩)))))
theorem e251t13 {d : Nat} {Q : aQ} {σ : aW} (h : Yx (d + 1) cd251 1 Q 0 [vr (1000 + 13)] [] σ) : aEv (d + 1) true 251 [vr (1000 + 13)] σ Q := ev_of (fun _ _ => h)
theorem s251t13 {d : Nat} {Q : aQ} {σ : aW} (k : Q (some (vi 4)) σ) : aEv (d + 1) true 251 [vr (1000 + 13)] σ Q := by
  refine e251t13 (b251t13_0 ?_)
  exact k
/-! java/lang/StringLatin1.charAt -/
set_option maxRecDepth 4000 in
theorem b259t13_0 {d : Nat} {Q : aQ} {σ : aW} {a1 : Int} (h : (0 ≤ a1 ∧ a1 < (4 : Int)) ∧ (0 ≤ a1 ∧ a1 < ((nth [] aSTR 13).length : Int)) ∧ (0 ≤ (wc (and32 (nth 0 (nth [] aSTR 13) (a1).toNat) 255)) ∧ (wc (and32 (nth 0 (nth [] aSTR 13) (a1).toNat) 255)) < 65536) ∧ Q (some (vi (wc (and32 (nth 0 (nth [] aSTR 13) (a1).toNat) 255)))) σ) : Yx (d + 2) cd259 5 Q 0 [vr (1100 + 13), vi a1] [] σ :=
  x_iload_n (n := 1) rfl rfl rfl (x_aload_n (n := 2) rfl rfl rfl rfl (x_tlen (L := 4) (n := 3) rfl rfl rfl rfl (x_csV (as := [vi a1, vi 4]) (st := []) (n := 6) rfl rfl rfl rfl rfl trivial (s257 h.1 ⟨rfl, x_aload_n (n := 7) rfl rfl rfl rfl (x_iload_n (n := 8) rfl rfl rfl (x_taload (n := 9) rfl rfl rfl h.2.1 (x_sipush (n := 12) rfl rfl (x_iand (n := 13) rfl rfl (x_i2c (n := 14) rfl rfl (x_ret5 rfl rfl h.2.2.1 h.2.2.2))))))⟩))))
theorem e259t13 {d : Nat} {Q : aQ} {σ : aW} {a1 : Int} (h : Yx (d + 2) cd259 5 Q 0 [vr (1100 + 13), vi a1] [] σ) : aEv (d + 2) true 259 [vr (1100 + 13), vi a1] σ Q := ev_of (fun _ _ => h)
theorem s259t13 {d : Nat} {Q : aQ} {σ : aW} {a1 : Int} (o0 : 0 ≤ a1 ∧ a1 < 4) (k : Q (some (vi (nth 0 (nth [] aSTR 13) (a1).toNat))) σ) : aEv (d + 2) true 259 [vr (1100 + 13), vi a1] σ Q := by
  refine e259t13 (b259t13_0 ?_)
  have hb := str_b 13 (a1).toNat
  have e : wc (and32 (nth 0 (nth [] aSTR 13) (a1).toNat) 255) = (nth 0 (nth [] aSTR 13) (a1).toNat) := by rw [and255, Int.emod_eq_of_lt hb.1 (by omega), wc_of hb.1 (by omega)]
  rw [e]
  exact ⟨o0, ⟨o0.1, o0.2⟩, ⟨hb.1, by omega⟩, k⟩
/-! java/lang/String.charAt -/
set_option maxRecDepth 4000 in
theorem b252t13_0 {d : Nat} {Q : aQ} {σ : aW} {a1 : Int} (h : (0 ≤ a1 ∧ a1 < 4) ∧ (0 ≤ (nth 0 (nth [] aSTR 13) (a1).toNat) ∧ (nth 0 (nth [] aSTR 13) (a1).toNat) < 65536) ∧ Q (some (vi (nth 0 (nth [] aSTR 13) (a1).toNat))) σ) : Yx (d + 4) cd252 5 Q 0 [vr (1000 + 13), vi a1] [] σ :=
  x_aload_n (n := 1) rfl rfl rfl rfl (x_cvI (as := [vr (1000 + 13)]) (st := []) (n := 4) rfl rfl rfl rfl rfl ⟨_, _, rfl, rfl⟩ (s256t13 ⟨_, rfl, x_if_eq (n := 7) (t := 16) rfl rfl rfl (fun hc7 => (by exfalso; omega)) (fun _ => x_aload_n (n := 8) rfl rfl rfl rfl (x_getV (n := 11) rfl rfl rfl rfl (x_iload_n (n := 12) rfl rfl rfl (x_csI (as := [vr (1100 + 13), vi a1]) (st := []) (n := 15) rfl rfl rfl rfl rfl trivial (s259t13 h.1 ⟨_, rfl, x_ret5 rfl rfl h.2.1 h.2.2⟩)))))⟩))
theorem e252t13 {d : Nat} {Q : aQ} {σ : aW} {a1 : Int} (h : Yx (d + 4) cd252 5 Q 0 [vr (1000 + 13), vi a1] [] σ) : aEv (d + 4) true 252 [vr (1000 + 13), vi a1] σ Q := ev_of (fun _ _ => h)
theorem s252t13 {d : Nat} {Q : aQ} {σ : aW} {a1 : Int} (o0 : 0 ≤ a1 ∧ a1 < 4) (k : Q (some (vi (nth 0 (nth [] aSTR 13) (a1).toNat))) σ) : aEv (d + 4) true 252 [vr (1000 + 13), vi a1] σ Q := by
  refine e252t13 (b252t13_0 ?_)
  have hb := str_b 13 (a1).toNat
  exact ⟨o0, ⟨hb.1, by omega⟩, k⟩
/-! java/lang/String.coder -/
set_option maxRecDepth 4000 in
theorem b255t14_0 {d : Nat} {Q : aQ} {σ : aW} (h : Q (some (vi 0)) σ) : Yx (d + 0) cd255 4 Q 0 [vr (1000 + 14)] [] σ :=
  x_gs0 (n := 3) rfl rfl rfl (x_if_eq (n := 6) (t := 13) rfl rfl rfl (fun hc6 => (by exfalso; omega)) (fun _ => x_aload_n (n := 7) rfl rfl rfl rfl (x_getC (n := 10) rfl rfl rfl rfl (x_goto (t := 14) rfl rfl (x_ret4 rfl rfl (by omega) h)))))
theorem e255t14 {d : Nat} {Q : aQ} {σ : aW} (h : Yx (d + 0) cd255 4 Q 0 [vr (1000 + 14)] [] σ) : aEv (d + 0) true 255 [vr (1000 + 14)] σ Q := ev_of (fun _ _ => h)
theorem s255t14 {d : Nat} {Q : aQ} {σ : aW} (k : Q (some (vi 0)) σ) : aEv (d + 0) true 255 [vr (1000 + 14)] σ Q := by
  refine e255t14 (b255t14_0 ?_)
  repeat' first | apply And.intro | intro _
  all_goals first | omega | exact k | (refine q_eq ?_ k; (try unfold bi); (repeat' split) <;> omega) | (refine q_eql ?_ k; (try unfold bi); (repeat' split) <;> omega)
/-! java/lang/String.isLatin1 -/
set_option maxRecDepth 4000 in
theorem b256t14_0 {d : Nat} {Q : aQ} {σ : aW} (h : Q (some (vi 1)) σ) : Yx (d + 0) cd256 3 Q 0 [vr (1000 + 14)] [] σ :=
  x_gs0 (n := 3) rfl rfl rfl (x_if_eq (n := 6) (t := 17) rfl rfl rfl (fun hc6 => (by exfalso; omega)) (fun _ => x_aload_n (n := 7) rfl rfl rfl rfl (x_getC (n := 10) rfl rfl rfl rfl (x_if_ne (n := 13) (t := 17) rfl rfl rfl (fun hc13 => (by exfalso; omega)) (fun _ => x_iconst (n := 14) rfl rfl (x_goto (t := 18) rfl rfl (x_ret3 rfl rfl (by omega) h)))))))
theorem e256t14 {d : Nat} {Q : aQ} {σ : aW} (h : Yx (d + 0) cd256 3 Q 0 [vr (1000 + 14)] [] σ) : aEv (d + 0) true 256 [vr (1000 + 14)] σ Q := ev_of (fun _ _ => h)
theorem s256t14 {d : Nat} {Q : aQ} {σ : aW} (k : Q (some (vi 1)) σ) : aEv (d + 0) true 256 [vr (1000 + 14)] σ Q := by
  refine e256t14 (b256t14_0 ?_)
  repeat' first | apply And.intro | intro _
  all_goals first | omega | exact k | (refine q_eq ?_ k; (try unfold bi); (repeat' split) <;> omega) | (refine q_eql ?_ k; (try unfold bi); (repeat' split) <;> omega)
/-! java/lang/String.length -/
set_option maxRecDepth 4000 in
theorem b251t14_0 {d : Nat} {Q : aQ} {σ : aW} (h : Q (some (vi (shr32 3 0))) σ) : Yx (d + 1) cd251 1 Q 0 [vr (1000 + 14)] [] σ :=
  x_aload_n (n := 1) rfl rfl rfl rfl (x_getV (n := 4) rfl rfl rfl rfl (x_tlen (L := 3) (n := 5) rfl rfl rfl rfl (x_aload_n (n := 6) rfl rfl rfl rfl (x_cvI (as := [vr (1000 + 14)]) (st := [vi 3]) (n := 9) rfl rfl rfl rfl rfl ⟨_, _, rfl, rfl⟩ (s255t14 ⟨_, rfl, x_ishr (n := 10) rfl rfl (x_ret1 rfl rfl h)⟩)))))
theorem e251t14 {d : Nat} {Q : aQ} {σ : aW} (h : Yx (d + 1) cd251 1 Q 0 [vr (1000 + 14)] [] σ) : aEv (d + 1) true 251 [vr (1000 + 14)] σ Q := ev_of (fun _ _ => h)
theorem s251t14 {d : Nat} {Q : aQ} {σ : aW} (k : Q (some (vi 3)) σ) : aEv (d + 1) true 251 [vr (1000 + 14)] σ Q := by
  refine e251t14 (b251t14_0 ?_)
  exact k
/-! java/lang/StringLatin1.charAt -/
set_option maxRecDepth 4000 in
theorem b259t14_0 {d : Nat} {Q : aQ} {σ : aW} {a1 : Int} (h : (0 ≤ a1 ∧ a1 < (3 : Int)) ∧ (0 ≤ a1 ∧ a1 < ((nth [] aSTR 14).length : Int)) ∧ (0 ≤ (wc (and32 (nth 0 (nth [] aSTR 14) (a1).toNat) 255)) ∧ (wc (and32 (nth 0 (nth [] aSTR 14) (a1).toNat) 255)) < 65536) ∧ Q (some (vi (wc (and32 (nth 0 (nth [] aSTR 14) (a1).toNat) 255)))) σ) : Yx (d + 2) cd259 5 Q 0 [vr (1100 + 14), vi a1] [] σ :=
  x_iload_n (n := 1) rfl rfl rfl (x_aload_n (n := 2) rfl rfl rfl rfl (x_tlen (L := 3) (n := 3) rfl rfl rfl rfl (x_csV (as := [vi a1, vi 3]) (st := []) (n := 6) rfl rfl rfl rfl rfl trivial (s257 h.1 ⟨rfl, x_aload_n (n := 7) rfl rfl rfl rfl (x_iload_n (n := 8) rfl rfl rfl (x_taload (n := 9) rfl rfl rfl h.2.1 (x_sipush (n := 12) rfl rfl (x_iand (n := 13) rfl rfl (x_i2c (n := 14) rfl rfl (x_ret5 rfl rfl h.2.2.1 h.2.2.2))))))⟩))))
theorem e259t14 {d : Nat} {Q : aQ} {σ : aW} {a1 : Int} (h : Yx (d + 2) cd259 5 Q 0 [vr (1100 + 14), vi a1] [] σ) : aEv (d + 2) true 259 [vr (1100 + 14), vi a1] σ Q := ev_of (fun _ _ => h)
theorem s259t14 {d : Nat} {Q : aQ} {σ : aW} {a1 : Int} (o0 : 0 ≤ a1 ∧ a1 < 3) (k : Q (some (vi (nth 0 (nth [] aSTR 14) (a1).toNat))) σ) : aEv (d + 2) true 259 [vr (1100 + 14), vi a1] σ Q := by
  refine e259t14 (b259t14_0 ?_)
  have hb := str_b 14 (a1).toNat
  have e : wc (and32 (nth 0 (nth [] aSTR 14) (a1).toNat) 255) = (nth 0 (nth [] aSTR 14) (a1).toNat) := by rw [and255, Int.emod_eq_of_lt hb.1 (by omega), wc_of hb.1 (by omega)]
  rw [e]
  exact ⟨o0, ⟨o0.1, o0.2⟩, ⟨hb.1, by omega⟩, k⟩
/-! java/lang/String.charAt -/
set_option maxRecDepth 4000 in
theorem b252t14_0 {d : Nat} {Q : aQ} {σ : aW} {a1 : Int} (h : (0 ≤ a1 ∧ a1 < 3) ∧ (0 ≤ (nth 0 (nth [] aSTR 14) (a1).toNat) ∧ (nth 0 (nth [] aSTR 14) (a1).toNat) < 65536) ∧ Q (some (vi (nth 0 (nth [] aSTR 14) (a1).toNat))) σ) : Yx (d + 4) cd252 5 Q 0 [vr (1000 + 14), vi a1] [] σ :=
  x_aload_n (n := 1) rfl rfl rfl rfl (x_cvI (as := [vr (1000 + 14)]) (st := []) (n := 4) rfl rfl rfl rfl rfl ⟨_, _, rfl, rfl⟩ (s256t14 ⟨_, rfl, x_if_eq (n := 7) (t := 16) rfl rfl rfl (fun hc7 => (by exfalso; omega)) (fun _ => x_aload_n (n := 8) rfl rfl rfl rfl (x_getV (n := 11) rfl rfl rfl rfl (x_iload_n (n := 12) rfl rfl rfl (x_csI (as := [vr (1100 + 14), vi a1]) (st := []) (n := 15) rfl rfl rfl rfl rfl trivial (s259t14 h.1 ⟨_, rfl, x_ret5 rfl rfl h.2.1 h.2.2⟩)))))⟩))
theorem e252t14 {d : Nat} {Q : aQ} {σ : aW} {a1 : Int} (h : Yx (d + 4) cd252 5 Q 0 [vr (1000 + 14), vi a1] [] σ) : aEv (d + 4) true 252 [vr (1000 + 14), vi a1] σ Q := ev_of (fun _ _ => h)
theorem s252t14 {d : Nat} {Q : aQ} {σ : aW} {a1 : Int} (o0 : 0 ≤ a1 ∧ a1 < 3) (k : Q (some (vi (nth 0 (nth [] aSTR 14) (a1).toNat))) σ) : aEv (d + 4) true 252 [vr (1000 + 14), vi a1] σ Q := by
  refine e252t14 (b252t14_0 ?_)
  have hb := str_b 14 (a1).toNat
  exact ⟨o0, ⟨hb.1, by omega⟩, k⟩
/-! java/lang/String.coder -/
set_option maxRecDepth 4000 in
theorem b255t15_0 {d : Nat} {Q : aQ} {σ : aW} (h : Q (some (vi 0)) σ) : Yx (d + 0) cd255 4 Q 0 [vr (1000 + 15)] [] σ :=
  x_gs0 (n := 3) rfl rfl rfl (x_if_eq (n := 6) (t := 13) rfl rfl rfl (fun hc6 => (by exfalso; omega)) (fun _ => x_aload_n (n := 7) rfl rfl rfl rfl (x_getC (n := 10) rfl rfl rfl rfl (x_goto (t := 14) rfl rfl (x_ret4 rfl rfl (by omega) h)))))
theorem e255t15 {d : Nat} {Q : aQ} {σ : aW} (h : Yx (d + 0) cd255 4 Q 0 [vr (1000 + 15)] [] σ) : aEv (d + 0) true 255 [vr (1000 + 15)] σ Q := ev_of (fun _ _ => h)
theorem s255t15 {d : Nat} {Q : aQ} {σ : aW} (k : Q (some (vi 0)) σ) : aEv (d + 0) true 255 [vr (1000 + 15)] σ Q := by
  refine e255t15 (b255t15_0 ?_)
  repeat' first | apply And.intro | intro _
  all_goals first | omega | exact k | (refine q_eq ?_ k; (try unfold bi); (repeat' split) <;> omega) | (refine q_eql ?_ k; (try unfold bi); (repeat' split) <;> omega)
/-! java/lang/String.isLatin1 -/
set_option maxRecDepth 4000 in
theorem b256t15_0 {d : Nat} {Q : aQ} {σ : aW} (h : Q (some (vi 1)) σ) : Yx (d + 0) cd256 3 Q 0 [vr (1000 + 15)] [] σ :=
  x_gs0 (n := 3) rfl rfl rfl (x_if_eq (n := 6) (t := 17) rfl rfl rfl (fun hc6 => (by exfalso; omega)) (fun _ => x_aload_n (n := 7) rfl rfl rfl rfl (x_getC (n := 10) rfl rfl rfl rfl (x_if_ne (n := 13) (t := 17) rfl rfl rfl (fun hc13 => (by exfalso; omega)) (fun _ => x_iconst (n := 14) rfl rfl (x_goto (t := 18) rfl rfl (x_ret3 rfl rfl (by omega) h)))))))
theorem e256t15 {d : Nat} {Q : aQ} {σ : aW} (h : Yx (d + 0) cd256 3 Q 0 [vr (1000 + 15)] [] σ) : aEv (d + 0) true 256 [vr (1000 + 15)] σ Q := ev_of (fun _ _ => h)
theorem s256t15 {d : Nat} {Q : aQ} {σ : aW} (k : Q (some (vi 1)) σ) : aEv (d + 0) true 256 [vr (1000 + 15)] σ Q := by
  refine e256t15 (b256t15_0 ?_)
  repeat' first | apply And.intro | intro _
  all_goals first | omega | exact k | (refine q_eq ?_ k; (try unfold bi); (repeat' split) <;> omega) | (refine q_eql ?_ k; (try unfold bi); (repeat' split) <;> omega)
/-! java/lang/String.length -/
set_option maxRecDepth 4000 in
theorem b251t15_0 {d : Nat} {Q : aQ} {σ : aW} (h : Q (some (vi (shr32 2 0))) σ) : Yx (d + 1) cd251 1 Q 0 [vr (1000 + 15)] [] σ :=
  x_aload_n (n := 1) rfl rfl rfl rfl (x_getV (n := 4) rfl rfl rfl rfl (x_tlen (L := 2) (n := 5) rfl rfl rfl rfl (x_aload_n (n := 6) rfl rfl rfl rfl (x_cvI (as := [vr (1000 + 15)]) (st := [vi 2]) (n := 9) rfl rfl rfl rfl rfl ⟨_, _, rfl, rfl⟩ (s255t15 ⟨_, rfl, x_ishr (n := 10) rfl rfl (x_ret1 rfl rfl h)⟩)))))
theorem e251t15 {d : Nat} {Q : aQ} {σ : aW} (h : Yx (d + 1) cd251 1 Q 0 [vr (1000 + 15)] [] σ) : aEv (d + 1) true 251 [vr (1000 + 15)] σ Q := ev_of (fun _ _ => h)
theorem s251t15 {d : Nat} {Q : aQ} {σ : aW} (k : Q (some (vi 2)) σ) : aEv (d + 1) true 251 [vr (1000 + 15)] σ Q := by
  refine e251t15 (b251t15_0 ?_)
  exact k
/-! java/lang/StringLatin1.charAt -/
set_option maxRecDepth 4000 in
theorem b259t15_0 {d : Nat} {Q : aQ} {σ : aW} {a1 : Int} (h : (0 ≤ a1 ∧ a1 < (2 : Int)) ∧ (0 ≤ a1 ∧ a1 < ((nth [] aSTR 15).length : Int)) ∧ (0 ≤ (wc (and32 (nth 0 (nth [] aSTR 15) (a1).toNat) 255)) ∧ (wc (and32 (nth 0 (nth [] aSTR 15) (a1).toNat) 255)) < 65536) ∧ Q (some (vi (wc (and32 (nth 0 (nth [] aSTR 15) (a1).toNat) 255)))) σ) : Yx (d + 2) cd259 5 Q 0 [vr (1100 + 15), vi a1] [] σ :=
  x_iload_n (n := 1) rfl rfl rfl (x_aload_n (n := 2) rfl rfl rfl rfl (x_tlen (L := 2) (n := 3) rfl rfl rfl rfl (x_csV (as := [vi a1, vi 2]) (st := []) (n := 6) rfl rfl rfl rfl rfl trivial (s257 h.1 ⟨rfl, x_aload_n (n := 7) rfl rfl rfl rfl (x_iload_n (n := 8) rfl rfl rfl (x_taload (n := 9) rfl rfl rfl h.2.1 (x_sipush (n := 12) rfl rfl (x_iand (n := 13) rfl rfl (x_i2c (n := 14) rfl rfl (x_ret5 rfl rfl h.2.2.1 h.2.2.2))))))⟩))))
theorem e259t15 {d : Nat} {Q : aQ} {σ : aW} {a1 : Int} (h : Yx (d + 2) cd259 5 Q 0 [vr (1100 + 15), vi a1] [] σ) : aEv (d + 2) true 259 [vr (1100 + 15), vi a1] σ Q := ev_of (fun _ _ => h)
theorem s259t15 {d : Nat} {Q : aQ} {σ : aW} {a1 : Int} (o0 : 0 ≤ a1 ∧ a1 < 2) (k : Q (some (vi (nth 0 (nth [] aSTR 15) (a1).toNat))) σ) : aEv (d + 2) true 259 [vr (1100 + 15), vi a1] σ Q := by
  refine e259t15 (b259t15_0 ?_)
  have hb := str_b 15 (a1).toNat
  have e : wc (and32 (nth 0 (nth [] aSTR 15) (a1).toNat) 255) = (nth 0 (nth [] aSTR 15) (a1).toNat) := by rw [and255, Int.emod_eq_of_lt hb.1 (by omega), wc_of hb.1 (by omega)]
  rw [e]
  exact ⟨o0, ⟨o0.1, o0.2⟩, ⟨hb.1, by omega⟩, k⟩
/-! java/lang/String.charAt -/
set_option maxRecDepth 4000 in
theorem b252t15_0 {d : Nat} {Q : aQ} {σ : aW} {a1 : Int} (h : (0 ≤ a1 ∧ a1 < 2) ∧ (0 ≤ (nth 0 (nth [] aSTR 15) (a1).toNat) ∧ (nth 0 (nth [] aSTR 15) (a1).toNat) < 65536) ∧ Q (some (vi (nth 0 (nth [] aSTR 15) (a1).toNat))) σ) : Yx (d + 4) cd252 5 Q 0 [vr (1000 + 15), vi a1] [] σ :=
  x_aload_n (n := 1) rfl rfl rfl rfl (x_cvI (as := [vr (1000 + 15)]) (st := []) (n := 4) rfl rfl rfl rfl rfl ⟨_, _, rfl, rfl⟩ (s256t15 ⟨_, rfl, x_if_eq (n := 7) (t := 16) rfl rfl rfl (fun hc7 => (by exfalso; omega)) (fun _ => x_aload_n (n := 8) rfl rfl rfl rfl (x_getV (n := 11) rfl rfl rfl rfl (x_iload_n (n := 12) rfl rfl rfl (x_csI (as := [vr (1100 + 15), vi a1]) (st := []) (n := 15) rfl rfl rfl rfl rfl trivial (s259t15 h.1 ⟨_, rfl, x_ret5 rfl rfl h.2.1 h.2.2⟩)))))⟩))
theorem e252t15 {d : Nat} {Q : aQ} {σ : aW} {a1 : Int} (h : Yx (d + 4) cd252 5 Q 0 [vr (1000 + 15), vi a1] [] σ) : aEv (d + 4) true 252 [vr (1000 + 15), vi a1] σ Q := ev_of (fun _ _ => h)
theorem s252t15 {d : Nat} {Q : aQ} {σ : aW} {a1 : Int} (o0 : 0 ≤ a1 ∧ a1 < 2) (k : Q (some (vi (nth 0 (nth [] aSTR 15) (a1).toNat))) σ) : aEv (d + 4) true 252 [vr (1000 + 15), vi a1] σ Q := by
  refine e252t15 (b252t15_0 ?_)
  have hb := str_b 15 (a1).toNat
  exact ⟨o0, ⟨hb.1, by omega⟩, k⟩
/-! java/lang/StringLatin1.canEncode -/
set_option maxRecDepth 4000 in
theorem b260_0 {d : Nat} {Q : aQ} {σ : aW} {a0 : Int} (h : (a0 < 0 → Q (some (vi 0)) σ) ∧ (¬ a0 < 0 → Q (some (vi (bi (¬ 255 < a0)))) σ)) : Yx (d + 0) cd260 3 Q 0 [vi a0] [] σ :=
  x_iload_n (n := 1) rfl rfl rfl (x_if_lt (n := 4) (t := 15) rfl rfl rfl (fun hc4 => x_iconst (n := 16) rfl rfl (x_ret3 rfl rfl (by omega) (h.1 hc4))) (fun hc4 => x_iload_n (n := 5) rfl rfl rfl (x_sipush (n := 8) rfl rfl ((have jk : Yx (d + 0) cd260 3 Q 16 [vi a0] [vi (bi (¬ 255 < a0))] σ := x_ret3 rfl rfl bi_01 (h.2 hc4); x_icmp_gt (n := 11) (t := 15) rfl rfl rfl (fun (hc11 : 255 < a0) => x_iconst (n := 16) rfl rfl (m_eq (v := (bi (¬ 255 < a0))) (by simp [bi, hc11]) jk)) (fun (hc11 : ¬ 255 < a0) => x_iconst (n := 12) rfl rfl (x_goto (t := 16) rfl rfl (m_eq (v := (bi (¬ 255 < a0))) (by simp [bi, hc11]) jk))))))))
theorem e260 {d : Nat} {Q : aQ} {σ : aW} {a0 : Int} (h : Yx (d + 0) cd260 3 Q 0 [vi a0] [] σ) : aEv (d + 0) true 260 [vi a0] σ Q := ev_of (fun _ _ => h)
theorem s260 {d : Nat} {Q : aQ} {σ : aW} {a0 : Int} (k : Q (some (vi (bi (0 ≤ a0 ∧ a0 ≤ 255)))) σ) : aEv (d + 0) true 260 [vi a0] σ Q := by
  refine e260 (b260_0 ?_)
  repeat' first | apply And.intro | intro _
  all_goals first | omega | exact k | (refine q_eq ?_ k; (try unfold bi); (repeat' split) <;> omega) | (refine q_eql ?_ k; (try unfold bi); (repeat' split) <;> omega)
/-! HeatTown$Reader.isBlank -/
set_option maxRecDepth 4000 in
theorem b63_0 {d : Nat} {Q : aQ} {σ : aW} {a1 : Int} (h : (0 ≤ a1 ∧ a1 < 300) ∧ ((σ 33 a1) = 32 → Q (some (vi 1)) σ) ∧ (¬ (σ 33 a1) = 32 → (0 ≤ a1 ∧ a1 < 300) ∧ Q (some (vi (bi ((σ 33 a1) = 10)))) σ)) : Yx (d + 0) cd63 3 Q 0 [vr 32, vi a1] [] σ :=
  x_aload_n (n := 1) rfl rfl rfl rfl (x_getA (n := 4) rfl rfl rfl rfl (x_iload_n (n := 5) rfl rfl rfl (x_caload (v := (σ 33 a1)) (n := 6) rfl rfl rfl h.1 rfl (x_bipush (n := 8) rfl rfl (x_icmp_eq (n := 11) (t := 22) rfl rfl rfl (fun hc11 => x_iconst (n := 23) rfl rfl (x_goto (t := 27) rfl rfl (x_ret3 rfl rfl (by omega) (h.2.1 hc11)))) (fun hc11 => x_aload_n (n := 12) rfl rfl rfl rfl (x_getA (n := 15) rfl rfl rfl rfl (x_iload_n (n := 16) rfl rfl rfl (x_caload (v := (σ 33 a1)) (n := 17) rfl rfl rfl (h.2.2 hc11).1 rfl (x_bipush (n := 19) rfl rfl ((have jk : Yx (d + 0) cd63 3 Q 27 [vr 32, vi a1] [vi (bi ((σ 33 a1) = 10))] σ := x_ret3 rfl rfl bi_01 (h.2.2 hc11).2; x_icmp_ne (n := 22) (t := 26) rfl rfl rfl (fun (hc22 : ¬ (σ 33 a1) = 10) => x_iconst (n := 27) rfl rfl (m_eq (v := (bi ((σ 33 a1) = 10))) (by simp [bi, hc22]) jk)) (fun (hc22 : (σ 33 a1) = 10) => x_iconst (n := 23) rfl rfl (x_goto (t := 27) rfl rfl (m_eq (v := (bi ((σ 33 a1) = 10))) (by simp [bi, hc22]) jk)))))))))))))))
theorem e63 {d : Nat} {Q : aQ} {σ : aW} {a1 : Int} (h : Yx (d + 0) cd63 3 Q 0 [vr 32, vi a1] [] σ) : aEv (d + 0) true 63 [vr 32, vi a1] σ Q := ev_of (fun _ _ => h)
theorem s63 {d : Nat} {Q : aQ} {σ : aW} {a1 : Int} (o0 : 0 ≤ a1 ∧ a1 < 300) (k : Q (some (vi (bi (((σ 33 a1) = 32 ∨ (σ 33 a1) = 10))))) σ) : aEv (d + 0) true 63 [vr 32, vi a1] σ Q := by
  refine e63 (b63_0 ?_)
  repeat' first | apply And.intro | intro _
  all_goals first | omega | exact k | (refine q_eq ?_ k; (try unfold bi); (repeat' split) <;> omega) | (refine q_eql ?_ k; (try unfold bi); (repeat' split) <;> omega)
/-! HeatTown$Reader.isLetter -/
set_option maxRecDepth 4000 in
theorem b64_0 {d : Nat} {Q : aQ} {σ : aW} {a1 : Int} (h : (0 ≤ a1 ∧ a1 < 300) ∧ ((σ 33 a1) < 97 → Q (some (vi 0)) σ) ∧ (¬ (σ 33 a1) < 97 → (0 ≤ a1 ∧ a1 < 300) ∧ Q (some (vi (bi (¬ 122 < (σ 33 a1))))) σ)) : Yx (d + 0) cd64 3 Q 0 [vr 32, vi a1] [] σ :=
  x_aload_n (n := 1) rfl rfl rfl rfl (x_getA (n := 4) rfl rfl rfl rfl (x_iload_n (n := 5) rfl rfl rfl (x_caload (v := (σ 33 a1)) (n := 6) rfl rfl rfl h.1 rfl (x_bipush (n := 8) rfl rfl (x_icmp_lt (n := 11) (t := 26) rfl rfl rfl (fun hc11 => x_iconst (n := 27) rfl rfl (x_ret3 rfl rfl (by omega) (h.2.1 hc11))) (fun hc11 => x_aload_n (n := 12) rfl rfl rfl rfl (x_getA (n := 15) rfl rfl rfl rfl (x_iload_n (n := 16) rfl rfl rfl (x_caload (v := (σ 33 a1)) (n := 17) rfl rfl rfl (h.2.2 hc11).1 rfl (x_bipush (n := 19) rfl rfl ((have jk : Yx (d + 0) cd64 3 Q 27 [vr 32, vi a1] [vi (bi (¬ 122 < (σ 33 a1)))] σ := x_ret3 rfl rfl bi_01 (h.2.2 hc11).2; x_icmp_gt (n := 22) (t := 26) rfl rfl rfl (fun (hc22 : 122 < (σ 33 a1)) => x_iconst (n := 27) rfl rfl (m_eq (v := (bi (¬ 122 < (σ 33 a1)))) (by simp [bi, hc22]) jk)) (fun (hc22 : ¬ 122 < (σ 33 a1)) => x_iconst (n := 23) rfl rfl (x_goto (t := 27) rfl rfl (m_eq (v := (bi (¬ 122 < (σ 33 a1)))) (by simp [bi, hc22]) jk)))))))))))))))
theorem e64 {d : Nat} {Q : aQ} {σ : aW} {a1 : Int} (h : Yx (d + 0) cd64 3 Q 0 [vr 32, vi a1] [] σ) : aEv (d + 0) true 64 [vr 32, vi a1] σ Q := ev_of (fun _ _ => h)
theorem s64 {d : Nat} {Q : aQ} {σ : aW} {a1 : Int} (o0 : 0 ≤ a1 ∧ a1 < 300) (k : Q (some (vi (bi (97 ≤ (σ 33 a1) ∧ (σ 33 a1) ≤ 122)))) σ) : aEv (d + 0) true 64 [vr 32, vi a1] σ Q := by
  refine e64 (b64_0 ?_)
  repeat' first | apply And.intro | intro _
  all_goals first | omega | exact k | (refine q_eq ?_ k; (try unfold bi); (repeat' split) <;> omega) | (refine q_eql ?_ k; (try unfold bi); (repeat' split) <;> omega)
/-! HeatTown$Reader.isDigit -/
set_option maxRecDepth 4000 in
theorem b65_0 {d : Nat} {Q : aQ} {σ : aW} {a1 : Int} (h : (0 ≤ a1 ∧ a1 < 300) ∧ ((σ 33 a1) < 48 → Q (some (vi 0)) σ) ∧ (¬ (σ 33 a1) < 48 → (0 ≤ a1 ∧ a1 < 300) ∧ Q (some (vi (bi (¬ 57 < (σ 33 a1))))) σ)) : Yx (d + 0) cd65 3 Q 0 [vr 32, vi a1] [] σ :=
  x_aload_n (n := 1) rfl rfl rfl rfl (x_getA (n := 4) rfl rfl rfl rfl (x_iload_n (n := 5) rfl rfl rfl (x_caload (v := (σ 33 a1)) (n := 6) rfl rfl rfl h.1 rfl (x_bipush (n := 8) rfl rfl (x_icmp_lt (n := 11) (t := 26) rfl rfl rfl (fun hc11 => x_iconst (n := 27) rfl rfl (x_ret3 rfl rfl (by omega) (h.2.1 hc11))) (fun hc11 => x_aload_n (n := 12) rfl rfl rfl rfl (x_getA (n := 15) rfl rfl rfl rfl (x_iload_n (n := 16) rfl rfl rfl (x_caload (v := (σ 33 a1)) (n := 17) rfl rfl rfl (h.2.2 hc11).1 rfl (x_bipush (n := 19) rfl rfl ((have jk : Yx (d + 0) cd65 3 Q 27 [vr 32, vi a1] [vi (bi (¬ 57 < (σ 33 a1)))] σ := x_ret3 rfl rfl bi_01 (h.2.2 hc11).2; x_icmp_gt (n := 22) (t := 26) rfl rfl rfl (fun (hc22 : 57 < (σ 33 a1)) => x_iconst (n := 27) rfl rfl (m_eq (v := (bi (¬ 57 < (σ 33 a1)))) (by simp [bi, hc22]) jk)) (fun (hc22 : ¬ 57 < (σ 33 a1)) => x_iconst (n := 23) rfl rfl (x_goto (t := 27) rfl rfl (m_eq (v := (bi (¬ 57 < (σ 33 a1)))) (by simp [bi, hc22]) jk)))))))))))))))
theorem e65 {d : Nat} {Q : aQ} {σ : aW} {a1 : Int} (h : Yx (d + 0) cd65 3 Q 0 [vr 32, vi a1] [] σ) : aEv (d + 0) true 65 [vr 32, vi a1] σ Q := ev_of (fun _ _ => h)
theorem s65 {d : Nat} {Q : aQ} {σ : aW} {a1 : Int} (o0 : 0 ≤ a1 ∧ a1 < 300) (k : Q (some (vi (bi (48 ≤ (σ 33 a1) ∧ (σ 33 a1) ≤ 57)))) σ) : aEv (d + 0) true 65 [vr 32, vi a1] σ Q := by
  refine e65 (b65_0 ?_)
  repeat' first | apply And.intro | intro _
  all_goals first | omega | exact k | (refine q_eq ?_ k; (try unfold bi); (repeat' split) <;> omega) | (refine q_eql ?_ k; (try unfold bi); (repeat' split) <;> omega)
/-! HeatTown$Reader.isWithinRun -/
set_option maxRecDepth 4000 in
theorem b61_0 {d : Nat} {Q : aQ} {σ : aW} {a1 : Int} (h : (a1 ≤ 0 → Q (some (vi 0)) σ) ∧ (¬ a1 ≤ 0 → (0 ≤ a1 ∧ a1 < 300) ∧ ((¬ (97 ≤ (σ 33 a1) ∧ (σ 33 a1) ≤ 122)) → (0 ≤ a1 ∧ a1 < 300) ∧ ((¬ (48 ≤ (σ 33 a1) ∧ (σ 33 a1) ≤ 57)) → Q (some (vi 0)) σ) ∧ ((48 ≤ (σ 33 a1) ∧ (σ 33 a1) ≤ 57) → (-2147483648 ≤ (a1 - 1) ∧ (a1 - 1) < 2147483648) ∧ (0 ≤ (a1 - 1) ∧ (a1 - 1) < 300) ∧ Q (some (vi (bi (48 ≤ (σ 33 (a1 - 1)) ∧ (σ 33 (a1 - 1)) ≤ 57)))) σ)) ∧ ((97 ≤ (σ 33 a1) ∧ (σ 33 a1) ≤ 122) → (-2147483648 ≤ (a1 - 1) ∧ (a1 - 1) < 2147483648) ∧ (0 ≤ (a1 - 1) ∧ (a1 - 1) < 300) ∧ ((97 ≤ (σ 33 (a1 - 1)) ∧ (σ 33 (a1 - 1)) ≤ 122) → Q (some (vi 1)) σ) ∧ ((¬ (97 ≤ (σ 33 (a1 - 1)) ∧ (σ 33 (a1 - 1)) ≤ 122)) → (0 ≤ a1 ∧ a1 < 300) ∧ ((¬ (48 ≤ (σ 33 a1) ∧ (σ 33 a1) ≤ 57)) → Q (some (vi 0)) σ) ∧ ((48 ≤ (σ 33 a1) ∧ (σ 33 a1) ≤ 57) → (-2147483648 ≤ (a1 - 1) ∧ (a1 - 1) < 2147483648) ∧ (0 ≤ (a1 - 1) ∧ (a1 - 1) < 300) ∧ Q (some (vi (bi (48 ≤ (σ 33 (a1 - 1)) ∧ (σ 33 (a1 - 1)) ≤ 57)))) σ))))) : Yx (d + 1) cd61 3 Q 0 [vr 32, vi a1] [] σ :=
  x_iload_n (n := 1) rfl rfl rfl (x_if_le (n := 4) (t := 44) rfl rfl rfl (fun hc4 => x_iconst (n := 45) rfl rfl (x_ret3 rfl rfl (by omega) (h.1 hc4))) (fun hc4 => x_aload_n (n := 5) rfl rfl rfl rfl (x_iload_n (n := 6) rfl rfl rfl (x_cvI (as := [vr 32, vi a1]) (st := []) (n := 9) rfl rfl rfl rfl rfl ⟨_, _, rfl, rfl, rfl⟩ (s64 (h.2 hc4).1 ⟨_, rfl, x_ifb_eq (n := 12) (t := 22) rfl rfl rfl (fun hc12 => x_aload_n (n := 23) rfl rfl rfl rfl (x_iload_n (n := 24) rfl rfl rfl (x_cvI (as := [vr 32, vi a1]) (st := []) (n := 27) rfl rfl rfl rfl rfl ⟨_, _, rfl, rfl, rfl⟩ (s65 ((h.2 hc4).2.1 hc12).1 ⟨_, rfl, x_ifb_eq (n := 30) (t := 44) rfl rfl rfl (fun hc30 => x_iconst (n := 45) rfl rfl (x_ret3 rfl rfl (by omega) (((h.2 hc4).2.1 hc12).2.1 hc30))) (fun hc30 => x_aload_n (n := 31) rfl rfl rfl rfl (x_iload_n (n := 32) rfl rfl rfl (x_iconst (n := 33) rfl rfl (x_isub (n := 34) rfl rfl (((h.2 hc4).2.1 hc12).2.2 hc30).1 (x_cvI (as := [vr 32, vi (a1 - 1)]) (st := []) (n := 37) rfl rfl rfl rfl rfl ⟨_, _, rfl, rfl, rfl⟩ (s65 (((h.2 hc4).2.1 hc12).2.2 hc30).2.1 ⟨_, rfl, (have jk : Yx (d + 1) cd61 3 Q 45 [vr 32, vi a1] [vi (bi (48 ≤ (σ 33 (a1 - 1)) ∧ (σ 33 (a1 - 1)) ≤ 57))] σ := x_ret3 rfl rfl bi_01 (((h.2 hc4).2.1 hc12).2.2 hc30).2.2; x_ifb_eq (n := 40) (t := 44) rfl rfl rfl (fun (hc40 : ¬ (48 ≤ (σ 33 (a1 - 1)) ∧ (σ 33 (a1 - 1)) ≤ 57)) => x_iconst (n := 45) rfl rfl (m_eq (v := (bi (48 ≤ (σ 33 (a1 - 1)) ∧ (σ 33 (a1 - 1)) ≤ 57))) (by simp [bi, hc40]) jk)) (fun (hc40 : 48 ≤ (σ 33 (a1 - 1)) ∧ (σ 33 (a1 - 1)) ≤ 57) => x_iconst (n := 41) rfl rfl (x_goto (t := 45) rfl rfl (m_eq (v := (bi (48 ≤ (σ 33 (a1 - 1)) ∧ (σ 33 (a1 - 1)) ≤ 57))) (by simp [bi, hc40]) jk))))⟩))))))⟩)))) (fun hc12 => x_aload_n (n := 13) rfl rfl rfl rfl (x_iload_n (n := 14) rfl rfl rfl (x_iconst (n := 15) rfl rfl (x_isub (n := 16) rfl rfl ((h.2 hc4).2.2 hc12).1 (x_cvI (as := [vr 32, vi (a1 - 1)]) (st := []) (n := 19) rfl rfl rfl rfl rfl ⟨_, _, rfl, rfl, rfl⟩ (s64 ((h.2 hc4).2.2 hc12).2.1 ⟨_, rfl, x_ifb_ne (n := 22) (t := 40) rfl rfl rfl (fun hc22 => x_iconst (n := 41) rfl rfl (x_goto (t := 45) rfl rfl (x_ret3 rfl rfl (by omega) (((h.2 hc4).2.2 hc12).2.2.1 hc22)))) (fun hc22 => x_aload_n (n := 23) rfl rfl rfl rfl (x_iload_n (n := 24) rfl rfl rfl (x_cvI (as := [vr 32, vi a1]) (st := []) (n := 27) rfl rfl rfl rfl rfl ⟨_, _, rfl, rfl, rfl⟩ (s65 (((h.2 hc4).2.2 hc12).2.2.2 hc22).1 ⟨_, rfl, x_ifb_eq (n := 30) (t := 44) rfl rfl rfl (fun hc30 => x_iconst (n := 45) rfl rfl (x_ret3 rfl rfl (by omega) ((((h.2 hc4).2.2 hc12).2.2.2 hc22).2.1 hc30))) (fun hc30 => x_aload_n (n := 31) rfl rfl rfl rfl (x_iload_n (n := 32) rfl rfl rfl (x_iconst (n := 33) rfl rfl (x_isub (n := 34) rfl rfl ((((h.2 hc4).2.2 hc12).2.2.2 hc22).2.2 hc30).1 (x_cvI (as := [vr 32, vi (a1 - 1)]) (st := []) (n := 37) rfl rfl rfl rfl rfl ⟨_, _, rfl, rfl, rfl⟩ (s65 ((((h.2 hc4).2.2 hc12).2.2.2 hc22).2.2 hc30).2.1 ⟨_, rfl, (have jk : Yx (d + 1) cd61 3 Q 45 [vr 32, vi a1] [vi (bi (48 ≤ (σ 33 (a1 - 1)) ∧ (σ 33 (a1 - 1)) ≤ 57))] σ := x_ret3 rfl rfl bi_01 ((((h.2 hc4).2.2 hc12).2.2.2 hc22).2.2 hc30).2.2; x_ifb_eq (n := 40) (t := 44) rfl rfl rfl (fun (hc40 : ¬ (48 ≤ (σ 33 (a1 - 1)) ∧ (σ 33 (a1 - 1)) ≤ 57)) => x_iconst (n := 45) rfl rfl (m_eq (v := (bi (48 ≤ (σ 33 (a1 - 1)) ∧ (σ 33 (a1 - 1)) ≤ 57))) (by simp [bi, hc40]) jk)) (fun (hc40 : 48 ≤ (σ 33 (a1 - 1)) ∧ (σ 33 (a1 - 1)) ≤ 57) => x_iconst (n := 41) rfl rfl (x_goto (t := 45) rfl rfl (m_eq (v := (bi (48 ≤ (σ 33 (a1 - 1)) ∧ (σ 33 (a1 - 1)) ≤ 57))) (by simp [bi, hc40]) jk))))⟩))))))⟩))))⟩))))))⟩)))))
theorem e61 {d : Nat} {Q : aQ} {σ : aW} {a1 : Int} (h : Yx (d + 1) cd61 3 Q 0 [vr 32, vi a1] [] σ) : aEv (d + 1) true 61 [vr 32, vi a1] σ Q := ev_of (fun _ _ => h)
theorem s61 {d : Nat} {Q : aQ} {σ : aW} {a1 : Int} (o0 : 0 ≤ a1 ∧ a1 < 300) (k : Q (some (vi (bi ((0 < a1 ∧ ((97 ≤ (σ 33 a1) ∧ (σ 33 a1) ≤ 122 ∧ 97 ≤ (σ 33 (a1 - 1)) ∧ (σ 33 (a1 - 1)) ≤ 122) ∨ (48 ≤ (σ 33 a1) ∧ (σ 33 a1) ≤ 57 ∧ 48 ≤ (σ 33 (a1 - 1)) ∧ (σ 33 (a1 - 1)) ≤ 57))))))) σ) : aEv (d + 1) true 61 [vr 32, vi a1] σ Q := by
  refine e61 (b61_0 ?_)
  repeat' first | apply And.intro | intro _
  all_goals first | omega | exact k | (refine q_eq ?_ k; (try unfold bi); (repeat' split) <;> omega) | (refine q_eql ?_ k; (try unfold bi); (repeat' split) <;> omega)
/-! HeatTown$Reader.isAt -/
set_option maxRecDepth 4000 in
theorem b69_0 {d : Nat} {Q : aQ} {σ : aW} {a1 : Int} (h : (¬ (σ 32 1) = (-1) → Q (some (vi 0)) σ) ∧ ((σ 32 1) = (-1) → (0 ≤ (σ 32 7) ∧ (σ 32 7) < 301) ∧ Q (some (vi (bi ((σ 34 (σ 32 7)) = a1)))) σ)) : Yx (d + 0) cd69 3 Q 0 [vr 32, vi a1] [] σ :=
  x_aload_n (n := 1) rfl rfl rfl rfl (x_getI (v := (σ 32 1)) (n := 4) rfl rfl rfl rfl rfl (x_iconst (n := 5) rfl rfl (x_icmp_ne (n := 8) (t := 25) rfl rfl rfl (fun hc8 => x_iconst (n := 26) rfl rfl (x_ret3 rfl rfl (by omega) (h.1 hc8))) (fun hc8 => x_aload_n (n := 9) rfl rfl rfl rfl (x_getA (n := 12) rfl rfl rfl rfl (x_aload_n (n := 13) rfl rfl rfl rfl (x_getI (v := (σ 32 7)) (n := 16) rfl rfl rfl rfl rfl (x_iaload (v := (σ 34 (σ 32 7))) (n := 17) rfl rfl rfl (h.2 hc8).1 rfl (x_iload_n (n := 18) rfl rfl rfl ((have jk : Yx (d + 0) cd69 3 Q 26 [vr 32, vi a1] [vi (bi ((σ 34 (σ 32 7)) = a1))] σ := x_ret3 rfl rfl bi_01 (h.2 hc8).2; x_icmp_ne (n := 21) (t := 25) rfl rfl rfl (fun (hc21 : ¬ (σ 34 (σ 32 7)) = a1) => x_iconst (n := 26) rfl rfl (m_eq (v := (bi ((σ 34 (σ 32 7)) = a1))) (by simp [bi, hc21]) jk)) (fun (hc21 : (σ 34 (σ 32 7)) = a1) => x_iconst (n := 22) rfl rfl (x_goto (t := 26) rfl rfl (m_eq (v := (bi ((σ 34 (σ 32 7)) = a1))) (by simp [bi, hc21]) jk))))))))))))))
theorem e69 {d : Nat} {Q : aQ} {σ : aW} {a1 : Int} (h : Yx (d + 0) cd69 3 Q 0 [vr 32, vi a1] [] σ) : aEv (d + 0) true 69 [vr 32, vi a1] σ Q := ev_of (fun _ _ => h)
theorem s69 {d : Nat} {Q : aQ} {σ : aW} {a1 : Int} (o0 : 0 ≤ (σ 32 7) ∧ (σ 32 7) < 301) (k : Q (some (vi (bi ((σ 32 1) = (-1) ∧ (σ 34 (σ 32 7)) = a1)))) σ) : aEv (d + 0) true 69 [vr 32, vi a1] σ Q := by
  refine e69 (b69_0 ?_)
  repeat' first | apply And.intro | intro _
  all_goals first | omega | exact k | (refine q_eq ?_ k; (try unfold bi); (repeat' split) <;> omega) | (refine q_eql ?_ k; (try unfold bi); (repeat' split) <;> omega)
/-! HeatTown$Reader.isSign -/
set_option maxRecDepth 4000 in
theorem b70_0 {d : Nat} {Q : aQ} {σ : aW} {a1 : Int} (h : (¬ (σ 32 1) = (-1) → Q (some (vi 0)) σ) ∧ ((σ 32 1) = (-1) → (0 ≤ (σ 32 7) ∧ (σ 32 7) < 301) ∧ (-2147483648 ≤ (20000 + a1) ∧ (20000 + a1) < 2147483648) ∧ Q (some (vi (bi ((σ 34 (σ 32 7)) = (20000 + a1))))) σ)) : Yx (d + 0) cd70 3 Q 0 [vr 32, vi a1] [] σ :=
  x_aload_n (n := 1) rfl rfl rfl rfl (x_getI (v := (σ 32 1)) (n := 4) rfl rfl rfl rfl rfl (x_iconst (n := 5) rfl rfl (x_icmp_ne (n := 8) (t := 29) rfl rfl rfl (fun hc8 => x_iconst (n := 30) rfl rfl (x_ret3 rfl rfl (by omega) (h.1 hc8))) (fun hc8 => x_aload_n (n := 9) rfl rfl rfl rfl (x_getA (n := 12) rfl rfl rfl rfl (x_aload_n (n := 13) rfl rfl rfl rfl (x_getI (v := (σ 32 7)) (n := 16) rfl rfl rfl rfl rfl (x_iaload (v := (σ 34 (σ 32 7))) (n := 17) rfl rfl rfl (h.2 hc8).1 rfl (x_sipush (n := 20) rfl rfl (x_iload_n (n := 21) rfl rfl rfl (x_iadd (n := 22) rfl rfl (h.2 hc8).2.1 ((have jk : Yx (d + 0) cd70 3 Q 30 [vr 32, vi a1] [vi (bi ((σ 34 (σ 32 7)) = (20000 + a1)))] σ := x_ret3 rfl rfl bi_01 (h.2 hc8).2.2; x_icmp_ne (n := 25) (t := 29) rfl rfl rfl (fun (hc25 : ¬ (σ 34 (σ 32 7)) = (20000 + a1)) => x_iconst (n := 30) rfl rfl (m_eq (v := (bi ((σ 34 (σ 32 7)) = (20000 + a1)))) (by simp [bi, hc25]) jk)) (fun (hc25 : (σ 34 (σ 32 7)) = (20000 + a1)) => x_iconst (n := 26) rfl rfl (x_goto (t := 30) rfl rfl (m_eq (v := (bi ((σ 34 (σ 32 7)) = (20000 + a1)))) (by simp [bi, hc25]) jk))))))))))))))))
theorem e70 {d : Nat} {Q : aQ} {σ : aW} {a1 : Int} (h : Yx (d + 0) cd70 3 Q 0 [vr 32, vi a1] [] σ) : aEv (d + 0) true 70 [vr 32, vi a1] σ Q := ev_of (fun _ _ => h)
theorem s70 {d : Nat} {Q : aQ} {σ : aW} {a1 : Int} (o0 : 0 ≤ (σ 32 7) ∧ (σ 32 7) < 301) (o1 : 0 ≤ a1 ∧ a1 < 65536) (k : Q (some (vi (bi ((σ 32 1) = (-1) ∧ (σ 34 (σ 32 7)) = (20000 + a1))))) σ) : aEv (d + 0) true 70 [vr 32, vi a1] σ Q := by
  refine e70 (b70_0 ?_)
  repeat' first | apply And.intro | intro _
  all_goals first | omega | exact k | (refine q_eq ?_ k; (try unfold bi); (repeat' split) <;> omega) | (refine q_eql ?_ k; (try unfold bi); (repeat' split) <;> omega)
/-! HeatTownModel.see -/
set_option maxRecDepth 4000 in
theorem b179_0 {d : Nat} {Q : aQ} {σ : aW} {a1 : Int} (h : (¬ (σ 96 47) ≤ a1 → (-2147483648 ≤ ((σ 96 46) + a1) ∧ ((σ 96 46) + a1) < 2147483648) ∧ (0 ≤ ((σ 96 46) + a1) ∧ ((σ 96 46) + a1) < 600)) ∧ Q (some (vi (if (σ 96 47) ≤ a1 then 0 else (σ 123 ((σ 96 46) + a1))))) σ) : Yx (d + 0) cd179 1 Q 0 [vr 96, vi a1] [] σ :=
  x_iload_n (n := 1) rfl rfl rfl (x_aload_n (n := 2) rfl rfl rfl rfl (x_getI (v := (σ 96 47)) (n := 5) rfl rfl rfl rfl rfl ((have jk : Yx (d + 0) cd179 1 Q 23 [vr 96, vi a1] [vi (if (σ 96 47) ≤ a1 then 0 else (σ 123 ((σ 96 46) + a1)))] σ := x_ret1 rfl rfl h.2; x_icmp_ge (n := 8) (t := 22) rfl rfl rfl (fun (hc8 : (σ 96 47) ≤ a1) => x_iconst (n := 23) rfl rfl (m_eq (v := (if (σ 96 47) ≤ a1 then 0 else (σ 123 ((σ 96 46) + a1)))) (by simp [bi, hc8]) jk)) (fun (hc8 : ¬ (σ 96 47) ≤ a1) => x_aload_n (n := 9) rfl rfl rfl rfl (x_getA (n := 12) rfl rfl rfl rfl (x_aload_n (n := 13) rfl rfl rfl rfl (x_getI (v := (σ 96 46)) (n := 16) rfl rfl rfl rfl rfl (x_iload_n (n := 17) rfl rfl rfl (x_iadd (n := 18) rfl rfl (h.1 hc8).1 (x_baload (v := (σ 123 ((σ 96 46) + a1))) (n := 19) rfl rfl rfl (h.1 hc8).2 rfl (x_goto (t := 23) rfl rfl (m_eq (v := (if (σ 96 47) ≤ a1 then 0 else (σ 123 ((σ 96 46) + a1)))) (by simp [bi, hc8]) jk)))))))))))))
theorem e179 {d : Nat} {Q : aQ} {σ : aW} {a1 : Int} (h : Yx (d + 0) cd179 1 Q 0 [vr 96, vi a1] [] σ) : aEv (d + 0) true 179 [vr 96, vi a1] σ Q := ev_of (fun _ _ => h)
theorem s179 {d : Nat} {Q : aQ} {σ : aW} {a1 : Int} (o0 : (σ 96 47) ≤ a1 ∨ (0 ≤ ((σ 96 46) + a1) ∧ ((σ 96 46) + a1) < 600)) (k : Q (some (vi (if (σ 96 47) ≤ a1 then 0 else (σ 123 ((σ 96 46) + a1))))) σ) : aEv (d + 0) true 179 [vr 96, vi a1] σ Q := by
  refine e179 (b179_0 ?_)
  refine ⟨fun z => ?_, k⟩
  omega
/-! HeatTownModel.isSign -/
set_option maxRecDepth 4000 in
theorem b185_0 {d : Nat} {Q : aQ} {σ : aW} {a1 : Int} (h : (¬ (σ 96 54) = 0 → Q (some (vi 0)) σ) ∧ ((σ 96 54) = 0 → (¬ (σ 96 50) = 3 → Q (some (vi 0)) σ) ∧ ((σ 96 50) = 3 → ((σ 96 47) ≤ (σ 96 49) ∨ (0 ≤ ((σ 96 46) + (σ 96 49)) ∧ ((σ 96 46) + (σ 96 49)) < 600)) ∧ Q (some (vi (bi ((if (σ 96 47) ≤ (σ 96 49) then 0 else (σ 123 ((σ 96 46) + (σ 96 49)))) = a1)))) σ))) : Yx (d + 1) cd185 3 Q 0 [vr 96, vi a1] [] σ :=
  x_aload_n (n := 1) rfl rfl rfl rfl (x_getZ (v := (σ 96 54)) (n := 4) rfl rfl rfl rfl rfl (x_if_ne (n := 7) (t := 31) rfl rfl rfl (fun hc7 => x_iconst (n := 32) rfl rfl (x_ret3 rfl rfl (by omega) (h.1 hc7))) (fun hc7 => x_aload_n (n := 8) rfl rfl rfl rfl (x_getI (v := (σ 96 50)) (n := 11) rfl rfl rfl rfl rfl (x_iconst (n := 12) rfl rfl (x_icmp_ne (n := 15) (t := 31) rfl rfl rfl (fun hc15 => x_iconst (n := 32) rfl rfl (x_ret3 rfl rfl (by omega) ((h.2 hc7).1 hc15))) (fun hc15 => x_aload_n (n := 16) rfl rfl rfl rfl (x_aload_n (n := 17) rfl rfl rfl rfl (x_getI (v := (σ 96 49)) (n := 20) rfl rfl rfl rfl rfl (x_cvI (as := [vr 96, vi (σ 96 49)]) (st := []) (n := 23) rfl rfl rfl rfl rfl ⟨_, _, rfl, rfl, rfl⟩ (s179 ((h.2 hc7).2 hc15).1 ⟨_, rfl, x_iload_n (n := 24) rfl rfl rfl ((have jk : Yx (d + 1) cd185 3 Q 32 [vr 96, vi a1] [vi (bi ((if (σ 96 47) ≤ (σ 96 49) then 0 else (σ 123 ((σ 96 46) + (σ 96 49)))) = a1))] σ := x_ret3 rfl rfl bi_01 ((h.2 hc7).2 hc15).2; x_icmp_ne (n := 27) (t := 31) rfl rfl rfl (fun (hc27 : ¬ (if (σ 96 47) ≤ (σ 96 49) then 0 else (σ 123 ((σ 96 46) + (σ 96 49)))) = a1) => x_iconst (n := 32) rfl rfl (m_eq (v := (bi ((if (σ 96 47) ≤ (σ 96 49) then 0 else (σ 123 ((σ 96 46) + (σ 96 49)))) = a1))) (by simp [bi, hc27]) jk)) (fun (hc27 : (if (σ 96 47) ≤ (σ 96 49) then 0 else (σ 123 ((σ 96 46) + (σ 96 49)))) = a1) => x_iconst (n := 28) rfl rfl (x_goto (t := 32) rfl rfl (m_eq (v := (bi ((if (σ 96 47) ≤ (σ 96 49) then 0 else (σ 123 ((σ 96 46) + (σ 96 49)))) = a1))) (by simp [bi, hc27]) jk)))))⟩)))))))))))
theorem e185 {d : Nat} {Q : aQ} {σ : aW} {a1 : Int} (h : Yx (d + 1) cd185 3 Q 0 [vr 96, vi a1] [] σ) : aEv (d + 1) true 185 [vr 96, vi a1] σ Q := ev_of (fun _ _ => h)
theorem s185 {d : Nat} {Q : aQ} {σ : aW} {a1 : Int} (o0 : (σ 96 50) = 3 → ((σ 96 47) ≤ (σ 96 49) ∨ (0 ≤ ((σ 96 46) + (σ 96 49)) ∧ ((σ 96 46) + (σ 96 49)) < 600))) (k : Q (some (vi (bi ((σ 96 54) = 0 ∧ (σ 96 50) = 3 ∧ (if (σ 96 47) ≤ (σ 96 49) then 0 else (σ 123 ((σ 96 46) + (σ 96 49)))) = a1)))) σ) : aEv (d + 1) true 185 [vr 96, vi a1] σ Q := by
  refine e185 (b185_0 ?_)
  generalize (if (σ 96 47) ≤ (σ 96 49) then (0 : Int) else (σ 123 ((σ 96 46) + (σ 96 49)))) = z at *
  repeat' first | apply And.intro | intro _
  all_goals first | omega | exact k | (refine q_eq ?_ k; (try unfold bi); (repeat' split) <;> omega)
end
