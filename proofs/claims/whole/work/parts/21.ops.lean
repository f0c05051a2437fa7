section
theorem dv_32 {x y : Int} (h : 0 ≤ x ∧ x < 2147483648 ∧ 0 < y) : w32 (x.tdiv y) = x / y := by
  rw [Int.tdiv_eq_ediv_of_nonneg h.1]
  have h1 : 0 ≤ x / y := Int.ediv_nonneg h.1 (by omega)
  have h2 : x / y ≤ x := Int.ediv_le_self y h.1
  exact w32_of (by omega) (by omega)
theorem dv_64 {x y : Int} (h : 0 ≤ x ∧ x < 9223372036854775808 ∧ 0 < y) : w64 (x.tdiv y) = x / y := by
  rw [Int.tdiv_eq_ediv_of_nonneg h.1]
  have h1 : 0 ≤ x / y := Int.ediv_nonneg h.1 (by omega)
  have h2 : x / y ≤ x := Int.ediv_le_self y h.1
  exact w64_of (by omega) (by omega)
theorem ab_32 {x : Int} (h : -2147483648 < x ∧ x < 2147483648) : w32 (if 0 ≤ x then x else -x) = ((x.natAbs : Nat) : Int) := by
  rw [w32_of (by split <;> omega) (by split <;> omega)]
  split <;> omega
theorem x_iconst {d : Nat} {cd : List (List bE)} {rt : Nat} {Q : aQ} {pc n : Nat} {ls st : List aV} {σ : aW} {an : List Nat} {c : Int} {v : Int} (h : aLook cd pc = some (pc, .iconst v, 1, an, c)) (hn : pc + 1 = n)  (k : Yx d cd rt Q n ls (vi v :: st) σ) : Yx d cd rt Q pc ls st σ := by
  subst hn
  exact x_of h rfl k
theorem x_bipush {d : Nat} {cd : List (List bE)} {rt : Nat} {Q : aQ} {pc n : Nat} {ls st : List aV} {σ : aW} {an : List Nat} {c : Int} {v : Int} (h : aLook cd pc = some (pc, .bipush v, 2, an, c)) (hn : pc + 2 = n)  (k : Yx d cd rt Q n ls (vi v :: st) σ) : Yx d cd rt Q pc ls st σ := by
  subst hn
  exact x_of h rfl k
theorem x_sipush {d : Nat} {cd : List (List bE)} {rt : Nat} {Q : aQ} {pc n : Nat} {ls st : List aV} {σ : aW} {an : List Nat} {c : Int} {v : Int} (h : aLook cd pc = some (pc, .sipush v, 3, an, c)) (hn : pc + 3 = n)  (k : Yx d cd rt Q n ls (vi v :: st) σ) : Yx d cd rt Q pc ls st σ := by
  subst hn
  exact x_of h rfl k
theorem x_lconst {d : Nat} {cd : List (List bE)} {rt : Nat} {Q : aQ} {pc n : Nat} {ls st : List aV} {σ : aW} {an : List Nat} {c : Int} {v : Fin 2} {w : Int} (h : aLook cd pc = some (pc, .lconst v, 1, an, c)) (hn : pc + 1 = n) (hw : ((v : Nat) : Int) = w) (k : Yx d cd rt Q n ls (vl w :: st) σ) : Yx d cd rt Q pc ls st σ := by
  subst hn
  exact x_of h rfl (by subst hw; exact k)
theorem x_ldc {d : Nat} {cd : List (List bE)} {rt : Nat} {Q : aQ} {pc n : Nat} {ls st : List aV} {σ : aW} {an : List Nat} {c : Int} {i : Nat} {ps : List Nat} {v : Int} (h : aLook cd pc = some (pc, .ldc i, 2, an, c)) (hn : pc + 2 = n) (ha : an = 0 :: ps) (hc : c = v) (k : Yx d cd rt Q n ls (vi v :: st) σ) : Yx d cd rt Q pc ls st σ := by
  subst hn
  exact x_of h rfl (Or.inl ⟨_, ha, hc ▸ k⟩)
theorem x_ldcs {d : Nat} {cd : List (List bE)} {rt : Nat} {Q : aQ} {pc n : Nat} {ls st : List aV} {σ : aW} {an : List Nat} {c : Int} {i t : Nat} {ps : List Nat} (h : aLook cd pc = some (pc, .ldc i, 2, an, c)) (hn : pc + 2 = n) (ha : an = 1 :: t :: ps) (ht : Nat.blt t 16 = true) (k : Yx d cd rt Q n ls (vr (1000 + t) :: st) σ) : Yx d cd rt Q pc ls st σ := by
  subst hn
  exact x_of h rfl (Or.inr ⟨t, _, ha, ht, k⟩)
theorem x_ldc_w {d : Nat} {cd : List (List bE)} {rt : Nat} {Q : aQ} {pc n : Nat} {ls st : List aV} {σ : aW} {an : List Nat} {c : Int} {i : Nat} {ps : List Nat} {v : Int} (h : aLook cd pc = some (pc, .ldc_w i, 3, an, c)) (hn : pc + 3 = n) (ha : an = 0 :: ps) (hc : c = v) (k : Yx d cd rt Q n ls (vi v :: st) σ) : Yx d cd rt Q pc ls st σ := by
  subst hn
  exact x_of h rfl (Or.inl ⟨_, ha, hc ▸ k⟩)
theorem x_ldc_ws {d : Nat} {cd : List (List bE)} {rt : Nat} {Q : aQ} {pc n : Nat} {ls st : List aV} {σ : aW} {an : List Nat} {c : Int} {i t : Nat} {ps : List Nat} (h : aLook cd pc = some (pc, .ldc_w i, 3, an, c)) (hn : pc + 3 = n) (ha : an = 1 :: t :: ps) (ht : Nat.blt t 16 = true) (k : Yx d cd rt Q n ls (vr (1000 + t) :: st) σ) : Yx d cd rt Q pc ls st σ := by
  subst hn
  exact x_of h rfl (Or.inr ⟨t, _, ha, ht, k⟩)
theorem x_ldc2 {d : Nat} {cd : List (List bE)} {rt : Nat} {Q : aQ} {pc n : Nat} {ls st : List aV} {σ : aW} {an : List Nat} {c : Int} {i : Nat} {v : Int} (h : aLook cd pc = some (pc, .ldc2_w i, 3, an, c)) (hn : pc + 3 = n) (hc : c = v) (k : Yx d cd rt Q n ls (vl v :: st) σ) : Yx d cd rt Q pc ls st σ := by
  subst hn
  exact x_of h rfl (by subst hc; exact k)
theorem x_iload {d : Nat} {cd : List (List bE)} {rt : Nat} {Q : aQ} {pc n : Nat} {ls st : List aV} {σ : aW} {an : List Nat} {c : Int} {i : Nat} {x : Int} (h : aLook cd pc = some (pc, .iload i, 2, an, c)) (hn : pc + 2 = n) (hv : nth vt ls i = vi x) (k : Yx d cd rt Q n ls (vi x :: st) σ) : Yx d cd rt Q pc ls st σ := by
  subst hn
  exact x_of h rfl ⟨x, hv, k⟩
theorem x_iload_n {d : Nat} {cd : List (List bE)} {rt : Nat} {Q : aQ} {pc n : Nat} {ls st : List aV} {σ : aW} {an : List Nat} {c : Int} {i : Fin 4} {x : Int} (h : aLook cd pc = some (pc, .iload_n i, 1, an, c)) (hn : pc + 1 = n) (hv : nth vt ls i = vi x) (k : Yx d cd rt Q n ls (vi x :: st) σ) : Yx d cd rt Q pc ls st σ := by
  subst hn
  exact x_of h rfl ⟨x, hv, k⟩
theorem x_lload {d : Nat} {cd : List (List bE)} {rt : Nat} {Q : aQ} {pc n : Nat} {ls st : List aV} {σ : aW} {an : List Nat} {c : Int} {i : Nat} {x : Int} (h : aLook cd pc = some (pc, .lload i, 2, an, c)) (hn : pc + 2 = n) (hv : nth vt ls i = vl x) (k : Yx d cd rt Q n ls (vl x :: st) σ) : Yx d cd rt Q pc ls st σ := by
  subst hn
  exact x_of h rfl ⟨x, hv, k⟩
theorem x_lload_n {d : Nat} {cd : List (List bE)} {rt : Nat} {Q : aQ} {pc n : Nat} {ls st : List aV} {σ : aW} {an : List Nat} {c : Int} {i : Fin 4} {x : Int} (h : aLook cd pc = some (pc, .lload_n i, 1, an, c)) (hn : pc + 1 = n) (hv : nth vt ls i = vl x) (k : Yx d cd rt Q n ls (vl x :: st) σ) : Yx d cd rt Q pc ls st σ := by
  subst hn
  exact x_of h rfl ⟨x, hv, k⟩
theorem x_aload {d : Nat} {cd : List (List bE)} {rt : Nat} {Q : aQ} {pc n : Nat} {ls st : List aV} {σ : aW} {an : List Nat} {c : Int} {i : Nat} {x : Nat} (h : aLook cd pc = some (pc, .aload i, 2, an, c)) (hn : pc + 2 = n) (hv : nth vt ls i = vr x) (hq : Nat.beq x 1300 = false) (k : Yx d cd rt Q n ls (vr x :: st) σ) : Yx d cd rt Q pc ls st σ := by
  subst hn
  exact x_of h rfl ⟨x, hv, hq, k⟩
theorem x_aload_n {d : Nat} {cd : List (List bE)} {rt : Nat} {Q : aQ} {pc n : Nat} {ls st : List aV} {σ : aW} {an : List Nat} {c : Int} {i : Fin 4} {x : Nat} (h : aLook cd pc = some (pc, .aload_n i, 1, an, c)) (hn : pc + 1 = n) (hv : nth vt ls i = vr x) (hq : Nat.beq x 1300 = false) (k : Yx d cd rt Q n ls (vr x :: st) σ) : Yx d cd rt Q pc ls st σ := by
  subst hn
  exact x_of h rfl ⟨x, hv, hq, k⟩
theorem x_istore {d : Nat} {cd : List (List bE)} {rt : Nat} {Q : aQ} {pc n : Nat} {ls st : List aV} {σ : aW} {an : List Nat} {c : Int} {i : Nat} {x : Int} {L : List aV} (h : aLook cd pc = some (pc, .istore i, 2, an, c)) (hn : pc + 2 = n) (hi : Nat.blt i ls.length = true) (hL : stI ls i (vi x) = L) (k : Yx d cd rt Q n L st σ) : Yx d cd rt Q pc ls (vi x :: st) σ := by
  subst hn
  exact x_of h rfl ⟨x, st, rfl, bl_lt hi, hL ▸ k⟩
theorem x_istore_n {d : Nat} {cd : List (List bE)} {rt : Nat} {Q : aQ} {pc n : Nat} {ls st : List aV} {σ : aW} {an : List Nat} {c : Int} {i : Fin 4} {x : Int} {L : List aV} (h : aLook cd pc = some (pc, .istore_n i, 1, an, c)) (hn : pc + 1 = n) (hi : Nat.blt i ls.length = true) (hL : stI ls i (vi x) = L) (k : Yx d cd rt Q n L st σ) : Yx d cd rt Q pc ls (vi x :: st) σ := by
  subst hn
  exact x_of h rfl ⟨x, st, rfl, bl_lt hi, hL ▸ k⟩
theorem x_lstore {d : Nat} {cd : List (List bE)} {rt : Nat} {Q : aQ} {pc n : Nat} {ls st : List aV} {σ : aW} {an : List Nat} {c : Int} {i : Nat} {x : Int} {L : List aV} (h : aLook cd pc = some (pc, .lstore i, 2, an, c)) (hn : pc + 2 = n) (hi : Nat.blt (i + 1) ls.length = true) (hL : stJ ls i (vl x) = L) (k : Yx d cd rt Q n L st σ) : Yx d cd rt Q pc ls (vl x :: st) σ := by
  subst hn
  exact x_of h rfl ⟨x, st, rfl, bl_lt hi, hL ▸ k⟩
theorem x_lstore_n {d : Nat} {cd : List (List bE)} {rt : Nat} {Q : aQ} {pc n : Nat} {ls st : List aV} {σ : aW} {an : List Nat} {c : Int} {i : Fin 4} {x : Int} {L : List aV} (h : aLook cd pc = some (pc, .lstore_n i, 1, an, c)) (hn : pc + 1 = n) (hi : Nat.blt (i + 1) ls.length = true) (hL : stJ ls i (vl x) = L) (k : Yx d cd rt Q n L st σ) : Yx d cd rt Q pc ls (vl x :: st) σ := by
  subst hn
  exact x_of h rfl ⟨x, st, rfl, bl_lt hi, hL ▸ k⟩
theorem x_astore {d : Nat} {cd : List (List bE)} {rt : Nat} {Q : aQ} {pc n : Nat} {ls st : List aV} {σ : aW} {an : List Nat} {c : Int} {i : Nat} {x : Nat} {L : List aV} (h : aLook cd pc = some (pc, .astore i, 2, an, c)) (hn : pc + 2 = n) (hq : Nat.beq x 1300 = false) (hi : Nat.blt i ls.length = true) (hL : stI ls i (vr x) = L) (k : Yx d cd rt Q n L st σ) : Yx d cd rt Q pc ls (vr x :: st) σ := by
  subst hn
  exact x_of h rfl ⟨x, st, rfl, hq, bl_lt hi, hL ▸ k⟩
theorem x_astore_n {d : Nat} {cd : List (List bE)} {rt : Nat} {Q : aQ} {pc n : Nat} {ls st : List aV} {σ : aW} {an : List Nat} {c : Int} {i : Fin 4} {x : Nat} {L : List aV} (h : aLook cd pc = some (pc, .astore_n i, 1, an, c)) (hn : pc + 1 = n) (hq : Nat.beq x 1300 = false) (hi : Nat.blt i ls.length = true) (hL : stI ls i (vr x) = L) (k : Yx d cd rt Q n L st σ) : Yx d cd rt Q pc ls (vr x :: st) σ := by
  subst hn
  exact x_of h rfl ⟨x, st, rfl, hq, bl_lt hi, hL ▸ k⟩
theorem x_iinc {d : Nat} {cd : List (List bE)} {rt : Nat} {Q : aQ} {pc n : Nat} {ls st : List aV} {σ : aW} {an : List Nat} {c : Int} {i : Nat} {v x : Int} {L : List aV} (h : aLook cd pc = some (pc, .iinc i v, 3, an, c)) (hn : pc + 3 = n) (hv : nth vt ls i = vi x) (hr : (-2147483648 ≤ x + v ∧ x + v < 2147483648)) (hL : stI ls i (vi (x + v)) = L) (k : Yx d cd rt Q n L st σ) : Yx d cd rt Q pc ls st σ := by
  subst hn
  exact x_of h rfl ⟨x, hv, by rw [w32_of hr.1 hr.2, hL]; exact k⟩
theorem x_iadd {d : Nat} {cd : List (List bE)} {rt : Nat} {Q : aQ} {pc n : Nat} {ls st : List aV} {σ : aW} {an : List Nat} {c : Int} {x y : Int} (h : aLook cd pc = some (pc, .iadd, 1, an, c)) (hn : pc + 1 = n) (hr : (-2147483648 ≤ x + y ∧ x + y < 2147483648)) (k : Yx d cd rt Q n ls (vi (x + y) :: st) σ) : Yx d cd rt Q pc ls (vi y :: vi x :: st) σ := by
  subst hn
  exact x_of h rfl ⟨x, y, st, rfl, by show Yx _ _ _ _ _ _ (vi (w32 (x + y)) :: _) _; rw [w32_of hr.1 hr.2]; exact k⟩
theorem x_iaddw {d : Nat} {cd : List (List bE)} {rt : Nat} {Q : aQ} {pc n : Nat} {ls st : List aV} {σ : aW} {an : List Nat} {c : Int} {x y : Int} (h : aLook cd pc = some (pc, .iadd, 1, an, c)) (hn : pc + 1 = n)  (k : Yx d cd rt Q n ls (vi (w32 (x + y)) :: st) σ) : Yx d cd rt Q pc ls (vi y :: vi x :: st) σ := by
  subst hn
  exact x_of h rfl ⟨x, y, st, rfl, k⟩
theorem x_isub {d : Nat} {cd : List (List bE)} {rt : Nat} {Q : aQ} {pc n : Nat} {ls st : List aV} {σ : aW} {an : List Nat} {c : Int} {x y : Int} (h : aLook cd pc = some (pc, .isub, 1, an, c)) (hn : pc + 1 = n) (hr : (-2147483648 ≤ x - y ∧ x - y < 2147483648)) (k : Yx d cd rt Q n ls (vi (x - y) :: st) σ) : Yx d cd rt Q pc ls (vi y :: vi x :: st) σ := by
  subst hn
  exact x_of h rfl ⟨x, y, st, rfl, by show Yx _ _ _ _ _ _ (vi (w32 (x - y)) :: _) _; rw [w32_of hr.1 hr.2]; exact k⟩
theorem x_isubw {d : Nat} {cd : List (List bE)} {rt : Nat} {Q : aQ} {pc n : Nat} {ls st : List aV} {σ : aW} {an : List Nat} {c : Int} {x y : Int} (h : aLook cd pc = some (pc, .isub, 1, an, c)) (hn : pc + 1 = n)  (k : Yx d cd rt Q n ls (vi (w32 (x - y)) :: st) σ) : Yx d cd rt Q pc ls (vi y :: vi x :: st) σ := by
  subst hn
  exact x_of h rfl ⟨x, y, st, rfl, k⟩
theorem x_imul {d : Nat} {cd : List (List bE)} {rt : Nat} {Q : aQ} {pc n : Nat} {ls st : List aV} {σ : aW} {an : List Nat} {c : Int} {x y : Int} (h : aLook cd pc = some (pc, .imul, 1, an, c)) (hn : pc + 1 = n) (hr : (-2147483648 ≤ x * y ∧ x * y < 2147483648)) (k : Yx d cd rt Q n ls (vi (x * y) :: st) σ) : Yx d cd rt Q pc ls (vi y :: vi x :: st) σ := by
  subst hn
  exact x_of h rfl ⟨x, y, st, rfl, by show Yx _ _ _ _ _ _ (vi (w32 (x * y)) :: _) _; rw [w32_of hr.1 hr.2]; exact k⟩
theorem x_imulw {d : Nat} {cd : List (List bE)} {rt : Nat} {Q : aQ} {pc n : Nat} {ls st : List aV} {σ : aW} {an : List Nat} {c : Int} {x y : Int} (h : aLook cd pc = some (pc, .imul, 1, an, c)) (hn : pc + 1 = n)  (k : Yx d cd rt Q n ls (vi (w32 (x * y)) :: st) σ) : Yx d cd rt Q pc ls (vi y :: vi x :: st) σ := by
  subst hn
  exact x_of h rfl ⟨x, y, st, rfl, k⟩
theorem x_ladd {d : Nat} {cd : List (List bE)} {rt : Nat} {Q : aQ} {pc n : Nat} {ls st : List aV} {σ : aW} {an : List Nat} {c : Int} {x y : Int} (h : aLook cd pc = some (pc, .ladd, 1, an, c)) (hn : pc + 1 = n) (hr : (-9223372036854775808 ≤ x + y ∧ x + y < 9223372036854775808)) (k : Yx d cd rt Q n ls (vl (x + y) :: st) σ) : Yx d cd rt Q pc ls (vl y :: vl x :: st) σ := by
  subst hn
  exact x_of h rfl ⟨x, y, st, rfl, by show Yx _ _ _ _ _ _ (vl (w64 (x + y)) :: _) _; rw [w64_of hr.1 hr.2]; exact k⟩
theorem x_laddw {d : Nat} {cd : List (List bE)} {rt : Nat} {Q : aQ} {pc n : Nat} {ls st : List aV} {σ : aW} {an : List Nat} {c : Int} {x y : Int} (h : aLook cd pc = some (pc, .ladd, 1, an, c)) (hn : pc + 1 = n)  (k : Yx d cd rt Q n ls (vl (w64 (x + y)) :: st) σ) : Yx d cd rt Q pc ls (vl y :: vl x :: st) σ := by
  subst hn
  exact x_of h rfl ⟨x, y, st, rfl, k⟩
theorem x_lsub {d : Nat} {cd : List (List bE)} {rt : Nat} {Q : aQ} {pc n : Nat} {ls st : List aV} {σ : aW} {an : List Nat} {c : Int} {x y : Int} (h : aLook cd pc = some (pc, .lsub, 1, an, c)) (hn : pc + 1 = n) (hr : (-9223372036854775808 ≤ x - y ∧ x - y < 9223372036854775808)) (k : Yx d cd rt Q n ls (vl (x - y) :: st) σ) : Yx d cd rt Q pc ls (vl y :: vl x :: st) σ := by
  subst hn
  exact x_of h rfl ⟨x, y, st, rfl, by show Yx _ _ _ _ _ _ (vl (w64 (x - y)) :: _) _; rw [w64_of hr.1 hr.2]; exact k⟩
theorem x_lsubw {d : Nat} {cd : List (List bE)} {rt : Nat} {Q : aQ} {pc n : Nat} {ls st : List aV} {σ : aW} {an : List Nat} {c : Int} {x y : Int} (h : aLook cd pc = some (pc, .lsub, 1, an, c)) (hn : pc + 1 = n)  (k : Yx d cd rt Q n ls (vl (w64 (x - y)) :: st) σ) : Yx d cd rt Q pc ls (vl y :: vl x :: st) σ := by
  subst hn
  exact x_of h rfl ⟨x, y, st, rfl, k⟩
theorem x_lmul {d : Nat} {cd : List (List bE)} {rt : Nat} {Q : aQ} {pc n : Nat} {ls st : List aV} {σ : aW} {an : List Nat} {c : Int} {x y : Int} (h : aLook cd pc = some (pc, .lmul, 1, an, c)) (hn : pc + 1 = n) (hr : (-9223372036854775808 ≤ x * y ∧ x * y < 9223372036854775808)) (k : Yx d cd rt Q n ls (vl (x * y) :: st) σ) : Yx d cd rt Q pc ls (vl y :: vl x :: st) σ := by
  subst hn
  exact x_of h rfl ⟨x, y, st, rfl, by show Yx _ _ _ _ _ _ (vl (w64 (x * y)) :: _) _; rw [w64_of hr.1 hr.2]; exact k⟩
theorem x_lmulw {d : Nat} {cd : List (List bE)} {rt : Nat} {Q : aQ} {pc n : Nat} {ls st : List aV} {σ : aW} {an : List Nat} {c : Int} {x y : Int} (h : aLook cd pc = some (pc, .lmul, 1, an, c)) (hn : pc + 1 = n)  (k : Yx d cd rt Q n ls (vl (w64 (x * y)) :: st) σ) : Yx d cd rt Q pc ls (vl y :: vl x :: st) σ := by
  subst hn
  exact x_of h rfl ⟨x, y, st, rfl, k⟩
def and32 (x y : Int) : Int := b32 (fun x y => x &&& y) x y
def or32 (x y : Int) : Int := b32 (fun x y => x ||| y) x y
def shl32 (x y : Int) : Int := b32 (fun x y => x <<< (y &&& 31)) x y
def shr32 (x y : Int) : Int := b32 (fun x y => x >>> (y &&& 31)) x y
def and64 (x y : Int) : Int := b64 (fun x y => x &&& y) x y
def or64 (x y : Int) : Int := b64 (fun x y => x ||| y) x y
theorem x_iand {d : Nat} {cd : List (List bE)} {rt : Nat} {Q : aQ} {pc n : Nat} {ls st : List aV} {σ : aW} {an : List Nat} {c : Int} {x y : Int} (h : aLook cd pc = some (pc, .iand, 1, an, c)) (hn : pc + 1 = n)  (k : Yx d cd rt Q n ls (vi (and32 x y) :: st) σ) : Yx d cd rt Q pc ls (vi y :: vi x :: st) σ := by
  subst hn
  exact x_of h rfl ⟨x, y, st, rfl, k⟩
theorem x_ior {d : Nat} {cd : List (List bE)} {rt : Nat} {Q : aQ} {pc n : Nat} {ls st : List aV} {σ : aW} {an : List Nat} {c : Int} {x y : Int} (h : aLook cd pc = some (pc, .ior, 1, an, c)) (hn : pc + 1 = n)  (k : Yx d cd rt Q n ls (vi (or32 x y) :: st) σ) : Yx d cd rt Q pc ls (vi y :: vi x :: st) σ := by
  subst hn
  exact x_of h rfl ⟨x, y, st, rfl, k⟩
theorem x_ishl {d : Nat} {cd : List (List bE)} {rt : Nat} {Q : aQ} {pc n : Nat} {ls st : List aV} {σ : aW} {an : List Nat} {c : Int} {x y : Int} (h : aLook cd pc = some (pc, .ishl, 1, an, c)) (hn : pc + 1 = n)  (k : Yx d cd rt Q n ls (vi (shl32 x y) :: st) σ) : Yx d cd rt Q pc ls (vi y :: vi x :: st) σ := by
  subst hn
  exact x_of h rfl ⟨x, y, st, rfl, k⟩
theorem x_ishr {d : Nat} {cd : List (List bE)} {rt : Nat} {Q : aQ} {pc n : Nat} {ls st : List aV} {σ : aW} {an : List Nat} {c : Int} {x y : Int} (h : aLook cd pc = some (pc, .ishr, 1, an, c)) (hn : pc + 1 = n)  (k : Yx d cd rt Q n ls (vi (shr32 x y) :: st) σ) : Yx d cd rt Q pc ls (vi y :: vi x :: st) σ := by
  subst hn
  exact x_of h rfl ⟨x, y, st, rfl, k⟩
theorem x_iushr {d : Nat} {cd : List (List bE)} {rt : Nat} {Q : aQ} {pc n : Nat} {ls st : List aV} {σ : aW} {an : List Nat} {c : Int} {x y : Int} (h : aLook cd pc = some (pc, .iushr, 1, an, c)) (hn : pc + 1 = n)  (k : Yx d cd rt Q n ls (vi (u32 x y) :: st) σ) : Yx d cd rt Q pc ls (vi y :: vi x :: st) σ := by
  subst hn
  exact x_of h rfl ⟨x, y, st, rfl, k⟩
theorem x_land {d : Nat} {cd : List (List bE)} {rt : Nat} {Q : aQ} {pc n : Nat} {ls st : List aV} {σ : aW} {an : List Nat} {c : Int} {x y : Int} (h : aLook cd pc = some (pc, .land, 1, an, c)) (hn : pc + 1 = n)  (k : Yx d cd rt Q n ls (vl (and64 x y) :: st) σ) : Yx d cd rt Q pc ls (vl y :: vl x :: st) σ := by
  subst hn
  exact x_of h rfl ⟨x, y, st, rfl, k⟩
theorem x_lor {d : Nat} {cd : List (List bE)} {rt : Nat} {Q : aQ} {pc n : Nat} {ls st : List aV} {σ : aW} {an : List Nat} {c : Int} {x y : Int} (h : aLook cd pc = some (pc, .lor, 1, an, c)) (hn : pc + 1 = n)  (k : Yx d cd rt Q n ls (vl (or64 x y) :: st) σ) : Yx d cd rt Q pc ls (vl y :: vl x :: st) σ := by
  subst hn
  exact x_of h rfl ⟨x, y, st, rfl, k⟩
theorem x_lshl {d : Nat} {cd : List (List bE)} {rt : Nat} {Q : aQ} {pc n : Nat} {ls st : List aV} {σ : aW} {an : List Nat} {c : Int} {x y : Int} (h : aLook cd pc = some (pc, .lshl, 1, an, c)) (hn : pc + 1 = n)  (k : Yx d cd rt Q n ls (vl (sh64l x y) :: st) σ) : Yx d cd rt Q pc ls (vi y :: vl x :: st) σ := by
  subst hn
  exact x_of h rfl ⟨x, y, st, rfl, k⟩
theorem x_lshr {d : Nat} {cd : List (List bE)} {rt : Nat} {Q : aQ} {pc n : Nat} {ls st : List aV} {σ : aW} {an : List Nat} {c : Int} {x y : Int} (h : aLook cd pc = some (pc, .lshr, 1, an, c)) (hn : pc + 1 = n)  (k : Yx d cd rt Q n ls (vl (sh64r x y) :: st) σ) : Yx d cd rt Q pc ls (vi y :: vl x :: st) σ := by
  subst hn
  exact x_of h rfl ⟨x, y, st, rfl, k⟩
theorem x_idiv {d : Nat} {cd : List (List bE)} {rt : Nat} {Q : aQ} {pc n : Nat} {ls st : List aV} {σ : aW} {an : List Nat} {c : Int} {x y : Int} (h : aLook cd pc = some (pc, .idiv, 1, an, c)) (hn : pc + 1 = n) (hr : 0 ≤ x ∧ x < 2147483648 ∧ 0 < y) (k : Yx d cd rt Q n ls (vi (x / y) :: st) σ) : Yx d cd rt Q pc ls (vi y :: vi x :: st) σ := by
  subst hn
  exact x_of h rfl ⟨x, y, st, rfl, by omega, by show Yx _ _ _ _ _ _ (vi (w32 (x.tdiv y)) :: _) _; rw [dv_32 hr]; exact k⟩
theorem x_irem {d : Nat} {cd : List (List bE)} {rt : Nat} {Q : aQ} {pc n : Nat} {ls st : List aV} {σ : aW} {an : List Nat} {c : Int} {x y : Int} (h : aLook cd pc = some (pc, .irem, 1, an, c)) (hn : pc + 1 = n) (hr : 0 ≤ x ∧ x < 2147483648 ∧ 0 < y) (k : Yx d cd rt Q n ls (vi (x % y) :: st) σ) : Yx d cd rt Q pc ls (vi y :: vi x :: st) σ := by
  subst hn
  exact x_of h rfl ⟨x, y, st, rfl, by omega, by show Yx _ _ _ _ _ _ (vi (x.tmod y) :: _) _; rw [Int.tmod_eq_emod_of_nonneg hr.1]; exact k⟩
theorem x_ldiv {d : Nat} {cd : List (List bE)} {rt : Nat} {Q : aQ} {pc n : Nat} {ls st : List aV} {σ : aW} {an : List Nat} {c : Int} {x y : Int} (h : aLook cd pc = some (pc, .ldiv, 1, an, c)) (hn : pc + 1 = n) (hr : 0 ≤ x ∧ x < 9223372036854775808 ∧ 0 < y) (k : Yx d cd rt Q n ls (vl (x / y) :: st) σ) : Yx d cd rt Q pc ls (vl y :: vl x :: st) σ := by
  subst hn
  exact x_of h rfl ⟨x, y, st, rfl, by omega, by show Yx _ _ _ _ _ _ (vl (w64 (x.tdiv y)) :: _) _; rw [dv_64 hr]; exact k⟩
theorem x_ldivw {d : Nat} {cd : List (List bE)} {rt : Nat} {Q : aQ} {pc n : Nat} {ls st : List aV} {σ : aW} {an : List Nat} {c : Int} {x y : Int} (h : aLook cd pc = some (pc, .ldiv, 1, an, c)) (hn : pc + 1 = n) (hr : ¬ y = 0) (k : Yx d cd rt Q n ls (vl (w64 (x.tdiv y)) :: st) σ) : Yx d cd rt Q pc ls (vl y :: vl x :: st) σ := by
  subst hn
  exact x_of h rfl ⟨x, y, st, rfl, hr, k⟩
theorem x_idivw {d : Nat} {cd : List (List bE)} {rt : Nat} {Q : aQ} {pc n : Nat} {ls st : List aV} {σ : aW} {an : List Nat} {c : Int} {x y : Int} (h : aLook cd pc = some (pc, .idiv, 1, an, c)) (hn : pc + 1 = n) (hr : ¬ y = 0) (k : Yx d cd rt Q n ls (vi (w32 (x.tdiv y)) :: st) σ) : Yx d cd rt Q pc ls (vi y :: vi x :: st) σ := by
  subst hn
  exact x_of h rfl ⟨x, y, st, rfl, hr, k⟩
theorem x_ineg {d : Nat} {cd : List (List bE)} {rt : Nat} {Q : aQ} {pc n : Nat} {ls st : List aV} {σ : aW} {an : List Nat} {c : Int} {x : Int} (h : aLook cd pc = some (pc, .ineg, 1, an, c)) (hn : pc + 1 = n) (hr : (-2147483648 ≤ -x ∧ -x < 2147483648)) (k : Yx d cd rt Q n ls (vi (-x) :: st) σ) : Yx d cd rt Q pc ls (vi x :: st) σ := by
  subst hn
  exact x_of h rfl ⟨x, st, rfl, by show Yx _ _ _ _ _ _ (vi (w32 (-x)) :: _) _; rw [w32_of hr.1 hr.2]; exact k⟩
theorem x_lneg {d : Nat} {cd : List (List bE)} {rt : Nat} {Q : aQ} {pc n : Nat} {ls st : List aV} {σ : aW} {an : List Nat} {c : Int} {x : Int} (h : aLook cd pc = some (pc, .lneg, 1, an, c)) (hn : pc + 1 = n) (hr : (-9223372036854775808 ≤ -x ∧ -x < 9223372036854775808)) (k : Yx d cd rt Q n ls (vl (-x) :: st) σ) : Yx d cd rt Q pc ls (vl x :: st) σ := by
  subst hn
  exact x_of h rfl ⟨x, st, rfl, by rw [w64_of hr.1 hr.2]; exact k⟩
theorem x_lnegw {d : Nat} {cd : List (List bE)} {rt : Nat} {Q : aQ} {pc n : Nat} {ls st : List aV} {σ : aW} {an : List Nat} {c : Int} {x : Int} (h : aLook cd pc = some (pc, .lneg, 1, an, c)) (hn : pc + 1 = n)  (k : Yx d cd rt Q n ls (vl (w64 (-x)) :: st) σ) : Yx d cd rt Q pc ls (vl x :: st) σ := by
  subst hn
  exact x_of h rfl ⟨x, st, rfl, k⟩
theorem x_i2b {d : Nat} {cd : List (List bE)} {rt : Nat} {Q : aQ} {pc n : Nat} {ls st : List aV} {σ : aW} {an : List Nat} {c : Int} {x : Int} (h : aLook cd pc = some (pc, .i2b, 1, an, c)) (hn : pc + 1 = n)  (k : Yx d cd rt Q n ls (vi (w8 x) :: st) σ) : Yx d cd rt Q pc ls (vi x :: st) σ := by
  subst hn
  exact x_of h rfl ⟨x, st, rfl, k⟩
theorem x_i2s {d : Nat} {cd : List (List bE)} {rt : Nat} {Q : aQ} {pc n : Nat} {ls st : List aV} {σ : aW} {an : List Nat} {c : Int} {x : Int} (h : aLook cd pc = some (pc, .i2s, 1, an, c)) (hn : pc + 1 = n)  (k : Yx d cd rt Q n ls (vi (w16 x) :: st) σ) : Yx d cd rt Q pc ls (vi x :: st) σ := by
  subst hn
  exact x_of h rfl ⟨x, st, rfl, k⟩
theorem x_i2c {d : Nat} {cd : List (List bE)} {rt : Nat} {Q : aQ} {pc n : Nat} {ls st : List aV} {σ : aW} {an : List Nat} {c : Int} {x : Int} (h : aLook cd pc = some (pc, .i2c, 1, an, c)) (hn : pc + 1 = n)  (k : Yx d cd rt Q n ls (vi (wc x) :: st) σ) : Yx d cd rt Q pc ls (vi x :: st) σ := by
  subst hn
  exact x_of h rfl ⟨x, st, rfl, k⟩
theorem x_i2l {d : Nat} {cd : List (List bE)} {rt : Nat} {Q : aQ} {pc n : Nat} {ls st : List aV} {σ : aW} {an : List Nat} {c : Int} {x : Int} (h : aLook cd pc = some (pc, .i2l, 1, an, c)) (hn : pc + 1 = n)  (k : Yx d cd rt Q n ls (vl x :: st) σ) : Yx d cd rt Q pc ls (vi x :: st) σ := by
  subst hn
  exact x_of h rfl ⟨x, st, rfl, k⟩
theorem x_l2i {d : Nat} {cd : List (List bE)} {rt : Nat} {Q : aQ} {pc n : Nat} {ls st : List aV} {σ : aW} {an : List Nat} {c : Int} {x : Int} (h : aLook cd pc = some (pc, .l2i, 1, an, c)) (hn : pc + 1 = n) (hr : (-2147483648 ≤ x ∧ x < 2147483648)) (k : Yx d cd rt Q n ls (vi x :: st) σ) : Yx d cd rt Q pc ls (vl x :: st) σ := by
  subst hn
  exact x_of h rfl ⟨x, st, rfl, by rw [w32_of hr.1 hr.2]; exact k⟩
theorem x_l2iw {d : Nat} {cd : List (List bE)} {rt : Nat} {Q : aQ} {pc n : Nat} {ls st : List aV} {σ : aW} {an : List Nat} {c : Int} {x : Int} (h : aLook cd pc = some (pc, .l2i, 1, an, c)) (hn : pc + 1 = n)  (k : Yx d cd rt Q n ls (vi (w32 x) :: st) σ) : Yx d cd rt Q pc ls (vl x :: st) σ := by
  subst hn
  exact x_of h rfl ⟨x, st, rfl, k⟩
theorem x_lcmp {d : Nat} {cd : List (List bE)} {rt : Nat} {Q : aQ} {pc n : Nat} {ls st : List aV} {σ : aW} {an : List Nat} {c : Int} {x y : Int} (h : aLook cd pc = some (pc, .lcmp, 1, an, c)) (hn : pc + 1 = n)  (k : Yx d cd rt Q n ls (vi (c3 x y) :: st) σ) : Yx d cd rt Q pc ls (vl y :: vl x :: st) σ := by
  subst hn
  exact x_of h rfl ⟨x, y, st, rfl, k⟩
theorem x_pop {d : Nat} {cd : List (List bE)} {rt : Nat} {Q : aQ} {pc n : Nat} {ls st : List aV} {σ : aW} {an : List Nat} {c : Int} {v : aV} (h : aLook cd pc = some (pc, .pop, 1, an, c)) (hn : pc + 1 = n) (hl : aIsL v = false) (k : Yx d cd rt Q n ls st σ) : Yx d cd rt Q pc ls (v :: st) σ := by
  subst hn
  exact x_of h rfl ⟨v, st, rfl, hl, k⟩
theorem x_dup {d : Nat} {cd : List (List bE)} {rt : Nat} {Q : aQ} {pc n : Nat} {ls st : List aV} {σ : aW} {an : List Nat} {c : Int} {v : aV} (h : aLook cd pc = some (pc, .dup, 1, an, c)) (hn : pc + 1 = n) (hl : aIsL v = false) (k : Yx d cd rt Q n ls (v :: v :: st) σ) : Yx d cd rt Q pc ls (v :: st) σ := by
  subst hn
  exact x_of h rfl ⟨v, st, rfl, hl, k⟩
theorem x_dup_x1 {d : Nat} {cd : List (List bE)} {rt : Nat} {Q : aQ} {pc n : Nat} {ls st : List aV} {σ : aW} {an : List Nat} {c : Int} {v w : aV} (h : aLook cd pc = some (pc, .dup_x1, 1, an, c)) (hn : pc + 1 = n) (hl : aIsL v = false) (hl2 : aIsL w = false) (k : Yx d cd rt Q n ls (v :: w :: v :: st) σ) : Yx d cd rt Q pc ls (v :: w :: st) σ := by
  subst hn
  exact x_of h rfl ⟨v, w, st, rfl, hl, hl2, k⟩
theorem x_dup2 {d : Nat} {cd : List (List bE)} {rt : Nat} {Q : aQ} {pc n : Nat} {ls st : List aV} {σ : aW} {an : List Nat} {c : Int} {v w : aV} (h : aLook cd pc = some (pc, .dup2, 1, an, c)) (hn : pc + 1 = n) (hl : aIsL v = false) (hl2 : aIsL w = false) (k : Yx d cd rt Q n ls (v :: w :: v :: w :: st) σ) : Yx d cd rt Q pc ls (v :: w :: st) σ := by
  subst hn
  exact x_of h rfl (Or.inl ⟨v, w, st, rfl, hl, hl2, k⟩)
theorem x_dup2l {d : Nat} {cd : List (List bE)} {rt : Nat} {Q : aQ} {pc n : Nat} {ls st : List aV} {σ : aW} {an : List Nat} {c : Int} {x : Int} (h : aLook cd pc = some (pc, .dup2, 1, an, c)) (hn : pc + 1 = n)  (k : Yx d cd rt Q n ls (vl x :: vl x :: st) σ) : Yx d cd rt Q pc ls (vl x :: st) σ := by
  subst hn
  exact x_of h rfl (Or.inr ⟨x, st, rfl, k⟩)
theorem x_icmp_eq {d : Nat} {cd : List (List bE)} {rt : Nat} {Q : aQ} {pc n : Nat} {ls st : List aV} {σ : aW} {an : List Nat} {c : Int} {x y : Int} {t : Nat} {off : Int} (h : aLook cd pc = some (pc, .if_icmp .eq off, 3, an, c)) (hn : pc + 3 = n) (ht : tg pc off = t) (k : x = y → Yx d cd rt Q t ls st σ) (k2 : ¬ x = y → Yx d cd rt Q n ls st σ) : Yx d cd rt Q pc ls (vi y :: vi x :: st) σ := by
  subst hn
  subst ht
  exact x_of h rfl ⟨x, y, st, rfl, k, k2⟩
theorem x_if_eq {d : Nat} {cd : List (List bE)} {rt : Nat} {Q : aQ} {pc n : Nat} {ls st : List aV} {σ : aW} {an : List Nat} {c : Int} {x : Int} {t : Nat} {off : Int} (h : aLook cd pc = some (pc, .ifCond .eq off, 3, an, c)) (hn : pc + 3 = n) (ht : tg pc off = t) (k : x = 0 → Yx d cd rt Q t ls st σ) (k2 : ¬ x = 0 → Yx d cd rt Q n ls st σ) : Yx d cd rt Q pc ls (vi x :: st) σ := by
  subst hn
  subst ht
  exact x_of h rfl ⟨x, st, rfl, k, k2⟩
theorem x_icmp_ne {d : Nat} {cd : List (List bE)} {rt : Nat} {Q : aQ} {pc n : Nat} {ls st : List aV} {σ : aW} {an : List Nat} {c : Int} {x y : Int} {t : Nat} {off : Int} (h : aLook cd pc = some (pc, .if_icmp .ne off, 3, an, c)) (hn : pc + 3 = n) (ht : tg pc off = t) (k : ¬ x = y → Yx d cd rt Q t ls st σ) (k2 : x = y → Yx d cd rt Q n ls st σ) : Yx d cd rt Q pc ls (vi y :: vi x :: st) σ := by
  subst hn
  subst ht
  exact x_of h rfl ⟨x, y, st, rfl, k, fun z => k2 (Classical.not_not.mp z)⟩
theorem x_if_ne {d : Nat} {cd : List (List bE)} {rt : Nat} {Q : aQ} {pc n : Nat} {ls st : List aV} {σ : aW} {an : List Nat} {c : Int} {x : Int} {t : Nat} {off : Int} (h : aLook cd pc = some (pc, .ifCond .ne off, 3, an, c)) (hn : pc + 3 = n) (ht : tg pc off = t) (k : ¬ x = 0 → Yx d cd rt Q t ls st σ) (k2 : x = 0 → Yx d cd rt Q n ls st σ) : Yx d cd rt Q pc ls (vi x :: st) σ := by
  subst hn
  subst ht
  exact x_of h rfl ⟨x, st, rfl, k, fun z => k2 (Classical.not_not.mp z)⟩
theorem x_icmp_lt {d : Nat} {cd : List (List bE)} {rt : Nat} {Q : aQ} {pc n : Nat} {ls st : List aV} {σ : aW} {an : List Nat} {c : Int} {x y : Int} {t : Nat} {off : Int} (h : aLook cd pc = some (pc, .if_icmp .lt off, 3, an, c)) (hn : pc + 3 = n) (ht : tg pc off = t) (k : x < y → Yx d cd rt Q t ls st σ) (k2 : ¬ x < y → Yx d cd rt Q n ls st σ) : Yx d cd rt Q pc ls (vi y :: vi x :: st) σ := by
  subst hn
  subst ht
  exact x_of h rfl ⟨x, y, st, rfl, k, k2⟩
theorem x_if_lt {d : Nat} {cd : List (List bE)} {rt : Nat} {Q : aQ} {pc n : Nat} {ls st : List aV} {σ : aW} {an : List Nat} {c : Int} {x : Int} {t : Nat} {off : Int} (h : aLook cd pc = some (pc, .ifCond .lt off, 3, an, c)) (hn : pc + 3 = n) (ht : tg pc off = t) (k : x < 0 → Yx d cd rt Q t ls st σ) (k2 : ¬ x < 0 → Yx d cd rt Q n ls st σ) : Yx d cd rt Q pc ls (vi x :: st) σ := by
  subst hn
  subst ht
  exact x_of h rfl ⟨x, st, rfl, k, k2⟩
theorem x_icmp_ge {d : Nat} {cd : List (List bE)} {rt : Nat} {Q : aQ} {pc n : Nat} {ls st : List aV} {σ : aW} {an : List Nat} {c : Int} {x y : Int} {t : Nat} {off : Int} (h : aLook cd pc = some (pc, .if_icmp .ge off, 3, an, c)) (hn : pc + 3 = n) (ht : tg pc off = t) (k : y ≤ x → Yx d cd rt Q t ls st σ) (k2 : ¬ y ≤ x → Yx d cd rt Q n ls st σ) : Yx d cd rt Q pc ls (vi y :: vi x :: st) σ := by
  subst hn
  subst ht
  exact x_of h rfl ⟨x, y, st, rfl, k, k2⟩
theorem x_if_ge {d : Nat} {cd : List (List bE)} {rt : Nat} {Q : aQ} {pc n : Nat} {ls st : List aV} {σ : aW} {an : List Nat} {c : Int} {x : Int} {t : Nat} {off : Int} (h : aLook cd pc = some (pc, .ifCond .ge off, 3, an, c)) (hn : pc + 3 = n) (ht : tg pc off = t) (k : 0 ≤ x → Yx d cd rt Q t ls st σ) (k2 : ¬ 0 ≤ x → Yx d cd rt Q n ls st σ) : Yx d cd rt Q pc ls (vi x :: st) σ := by
  subst hn
  subst ht
  exact x_of h rfl ⟨x, st, rfl, k, k2⟩
theorem x_icmp_gt {d : Nat} {cd : List (List bE)} {rt : Nat} {Q : aQ} {pc n : Nat} {ls st : List aV} {σ : aW} {an : List Nat} {c : Int} {x y : Int} {t : Nat} {off : Int} (h : aLook cd pc = some (pc, .if_icmp .gt off, 3, an, c)) (hn : pc + 3 = n) (ht : tg pc off = t) (k : y < x → Yx d cd rt Q t ls st σ) (k2 : ¬ y < x → Yx d cd rt Q n ls st σ) : Yx d cd rt Q pc ls (vi y :: vi x :: st) σ := by
  subst hn
  subst ht
  exact x_of h rfl ⟨x, y, st, rfl, k, k2⟩
theorem x_if_gt {d : Nat} {cd : List (List bE)} {rt : Nat} {Q : aQ} {pc n : Nat} {ls st : List aV} {σ : aW} {an : List Nat} {c : Int} {x : Int} {t : Nat} {off : Int} (h : aLook cd pc = some (pc, .ifCond .gt off, 3, an, c)) (hn : pc + 3 = n) (ht : tg pc off = t) (k : 0 < x → Yx d cd rt Q t ls st σ) (k2 : ¬ 0 < x → Yx d cd rt Q n ls st σ) : Yx d cd rt Q pc ls (vi x :: st) σ := by
  subst hn
  subst ht
  exact x_of h rfl ⟨x, st, rfl, k, k2⟩
theorem x_icmp_le {d : Nat} {cd : List (List bE)} {rt : Nat} {Q : aQ} {pc n : Nat} {ls st : List aV} {σ : aW} {an : List Nat} {c : Int} {x y : Int} {t : Nat} {off : Int} (h : aLook cd pc = some (pc, .if_icmp .le off, 3, an, c)) (hn : pc + 3 = n) (ht : tg pc off = t) (k : x ≤ y → Yx d cd rt Q t ls st σ) (k2 : ¬ x ≤ y → Yx d cd rt Q n ls st σ) : Yx d cd rt Q pc ls (vi y :: vi x :: st) σ := by
  subst hn
  subst ht
  exact x_of h rfl ⟨x, y, st, rfl, k, k2⟩
theorem x_if_le {d : Nat} {cd : List (List bE)} {rt : Nat} {Q : aQ} {pc n : Nat} {ls st : List aV} {σ : aW} {an : List Nat} {c : Int} {x : Int} {t : Nat} {off : Int} (h : aLook cd pc = some (pc, .ifCond .le off, 3, an, c)) (hn : pc + 3 = n) (ht : tg pc off = t) (k : x ≤ 0 → Yx d cd rt Q t ls st σ) (k2 : ¬ x ≤ 0 → Yx d cd rt Q n ls st σ) : Yx d cd rt Q pc ls (vi x :: st) σ := by
  subst hn
  subst ht
  exact x_of h rfl ⟨x, st, rfl, k, k2⟩
def bi (p : Prop) [Decidable p] : Int := if p then 1 else 0
theorem bi_t {p : Prop} [Decidable p] (h : p) : bi p = 1 := if_pos h
theorem bi_f {p : Prop} [Decidable p] (h : ¬ p) : bi p = 0 := if_neg h
theorem x_ifb_eq {d : Nat} {cd : List (List bE)} {rt : Nat} {Q : aQ} {pc n : Nat} {ls st : List aV} {σ : aW} {an : List Nat} {c : Int} {p : Prop} [Decidable p] {t : Nat} {off : Int} (h : aLook cd pc = some (pc, .ifCond .eq off, 3, an, c)) (hn : pc + 3 = n) (ht : tg pc off = t) (k : ¬ p → Yx d cd rt Q t ls st σ) (k2 : p → Yx d cd rt Q n ls st σ) : Yx d cd rt Q pc ls (vi (bi p) :: st) σ := by
  subst hn
  subst ht
  exact x_of h rfl ⟨bi p, st, rfl, fun z => k (fun q => by have z : bi p = 0 := z; rw [bi_t q] at z; cases z), fun z => k2 (Classical.byContradiction (fun q => absurd (bi_f q) z))⟩
theorem x_ifb_ne {d : Nat} {cd : List (List bE)} {rt : Nat} {Q : aQ} {pc n : Nat} {ls st : List aV} {σ : aW} {an : List Nat} {c : Int} {p : Prop} [Decidable p] {t : Nat} {off : Int} (h : aLook cd pc = some (pc, .ifCond .ne off, 3, an, c)) (hn : pc + 3 = n) (ht : tg pc off = t) (k : p → Yx d cd rt Q t ls st σ) (k2 : ¬ p → Yx d cd rt Q n ls st σ) : Yx d cd rt Q pc ls (vi (bi p) :: st) σ := by
  subst hn
  subst ht
  exact x_of h rfl ⟨bi p, st, rfl, fun z => k (Classical.byContradiction (fun q => absurd (bi_f q) z)), fun z => k2 (fun q => z (fun e => by rw [bi_t q] at e; cases e))⟩
theorem x_lc_eq {d : Nat} {cd : List (List bE)} {rt : Nat} {Q : aQ} {pc n : Nat} {ls st : List aV} {σ : aW} {an : List Nat} {c : Int} {x y : Int} {t pc2 : Nat} {off : Int} {an2 : List Nat} {c2 : Int} (h : aLook cd pc = some (pc, .lcmp, 1, an, c)) (hp : pc + 1 = pc2) (h2 : aLook cd pc2 = some (pc2, .ifCond .eq off, 3, an2, c2)) (hn : pc2 + 3 = n) (ht : tg pc2 off = t) (k : x = y → Yx d cd rt Q t ls st σ) (k2 : ¬ x = y → Yx d cd rt Q n ls st σ) : Yx d cd rt Q pc ls (vl y :: vl x :: st) σ := by
  subst hp
  refine x_lcmp h rfl (x_if_eq h2 hn ht (fun z => k ?_) (fun z => k2 ?_)) <;> (unfold c3 at z; split at z <;> (try split at z) <;> omega)
theorem x_lc_ne {d : Nat} {cd : List (List bE)} {rt : Nat} {Q : aQ} {pc n : Nat} {ls st : List aV} {σ : aW} {an : List Nat} {c : Int} {x y : Int} {t pc2 : Nat} {off : Int} {an2 : List Nat} {c2 : Int} (h : aLook cd pc = some (pc, .lcmp, 1, an, c)) (hp : pc + 1 = pc2) (h2 : aLook cd pc2 = some (pc2, .ifCond .ne off, 3, an2, c2)) (hn : pc2 + 3 = n) (ht : tg pc2 off = t) (k : ¬ x = y → Yx d cd rt Q t ls st σ) (k2 : x = y → Yx d cd rt Q n ls st σ) : Yx d cd rt Q pc ls (vl y :: vl x :: st) σ := by
  subst hp
  refine x_lcmp h rfl (x_if_ne h2 hn ht (fun z => k ?_) (fun z => k2 ?_)) <;> (unfold c3 at z; split at z <;> (try split at z) <;> omega)
theorem x_lc_lt {d : Nat} {cd : List (List bE)} {rt : Nat} {Q : aQ} {pc n : Nat} {ls st : List aV} {σ : aW} {an : List Nat} {c : Int} {x y : Int} {t pc2 : Nat} {off : Int} {an2 : List Nat} {c2 : Int} (h : aLook cd pc = some (pc, .lcmp, 1, an, c)) (hp : pc + 1 = pc2) (h2 : aLook cd pc2 = some (pc2, .ifCond .lt off, 3, an2, c2)) (hn : pc2 + 3 = n) (ht : tg pc2 off = t) (k : x < y → Yx d cd rt Q t ls st σ) (k2 : ¬ x < y → Yx d cd rt Q n ls st σ) : Yx d cd rt Q pc ls (vl y :: vl x :: st) σ := by
  subst hp
  refine x_lcmp h rfl (x_if_lt h2 hn ht (fun z => k ?_) (fun z => k2 ?_)) <;> (unfold c3 at z; split at z <;> (try split at z) <;> omega)
theorem x_lc_ge {d : Nat} {cd : List (List bE)} {rt : Nat} {Q : aQ} {pc n : Nat} {ls st : List aV} {σ : aW} {an : List Nat} {c : Int} {x y : Int} {t pc2 : Nat} {off : Int} {an2 : List Nat} {c2 : Int} (h : aLook cd pc = some (pc, .lcmp, 1, an, c)) (hp : pc + 1 = pc2) (h2 : aLook cd pc2 = some (pc2, .ifCond .ge off, 3, an2, c2)) (hn : pc2 + 3 = n) (ht : tg pc2 off = t) (k : y ≤ x → Yx d cd rt Q t ls st σ) (k2 : ¬ y ≤ x → Yx d cd rt Q n ls st σ) : Yx d cd rt Q pc ls (vl y :: vl x :: st) σ := by
  subst hp
  refine x_lcmp h rfl (x_if_ge h2 hn ht (fun z => k ?_) (fun z => k2 ?_)) <;> (unfold c3 at z; split at z <;> (try split at z) <;> omega)
theorem x_lc_gt {d : Nat} {cd : List (List bE)} {rt : Nat} {Q : aQ} {pc n : Nat} {ls st : List aV} {σ : aW} {an : List Nat} {c : Int} {x y : Int} {t pc2 : Nat} {off : Int} {an2 : List Nat} {c2 : Int} (h : aLook cd pc = some (pc, .lcmp, 1, an, c)) (hp : pc + 1 = pc2) (h2 : aLook cd pc2 = some (pc2, .ifCond .gt off, 3, an2, c2)) (hn : pc2 + 3 = n) (ht : tg pc2 off = t) (k : y < x → Yx d cd rt Q t ls st σ) (k2 : ¬ y < x → Yx d cd rt Q n ls st σ) : Yx d cd rt Q pc ls (vl y :: vl x :: st) σ := by
  subst hp
  refine x_lcmp h rfl (x_if_gt h2 hn ht (fun z => k ?_) (fun z => k2 ?_)) <;> (unfold c3 at z; split at z <;> (try split at z) <;> omega)
theorem x_lc_le {d : Nat} {cd : List (List bE)} {rt : Nat} {Q : aQ} {pc n : Nat} {ls st : List aV} {σ : aW} {an : List Nat} {c : Int} {x y : Int} {t pc2 : Nat} {off : Int} {an2 : List Nat} {c2 : Int} (h : aLook cd pc = some (pc, .lcmp, 1, an, c)) (hp : pc + 1 = pc2) (h2 : aLook cd pc2 = some (pc2, .ifCond .le off, 3, an2, c2)) (hn : pc2 + 3 = n) (ht : tg pc2 off = t) (k : x ≤ y → Yx d cd rt Q t ls st σ) (k2 : ¬ x ≤ y → Yx d cd rt Q n ls st σ) : Yx d cd rt Q pc ls (vl y :: vl x :: st) σ := by
  subst hp
  refine x_lcmp h rfl (x_if_le h2 hn ht (fun z => k ?_) (fun z => k2 ?_)) <;> (unfold c3 at z; split at z <;> (try split at z) <;> omega)
theorem x_goto {d : Nat} {cd : List (List bE)} {rt : Nat} {Q : aQ} {pc : Nat} {ls st : List aV} {σ : aW} {an : List Nat} {c : Int} {t : Nat} {off : Int} (h : aLook cd pc = some (pc, .goto off, 3, an, c)) (ht : tg pc off = t) (k : Yx d cd rt Q t ls st σ) : Yx d cd rt Q pc ls st σ := by
  subst ht
  exact x_of h rfl k
theorem x_tsw {d : Nat} {cd : List (List bE)} {rt : Nat} {Q : aQ} {pc : Nat} {ls st : List aV} {σ : aW} {an : List Nat} {c : Int} {x d0 lo hi : Int} {offs : Array Int} {ln : Nat} (h : aLook cd pc = some (pc, .tableswitch d0 lo hi offs, ln, an, c)) (k : oTsw (Yx d cd rt Q) pc x ls st σ lo offs.toList d0) : Yx d cd rt Q pc ls (vi x :: st) σ := x_of h rfl ⟨x, st, rfl, k⟩
theorem x_lsw {d : Nat} {cd : List (List bE)} {rt : Nat} {Q : aQ} {pc : Nat} {ls st : List aV} {σ : aW} {an : List Nat} {c : Int} {x d0 : Int} {ps : Array (Int × Int)} {ln : Nat} (h : aLook cd pc = some (pc, .lookupswitch d0 ps, ln, an, c)) (k : oLsw (Yx d cd rt Q) pc x ls st σ ps.toList d0) : Yx d cd rt Q pc ls (vi x :: st) σ := x_of h rfl ⟨x, st, rfl, k⟩
theorem x_iaload {d : Nat} {cd : List (List bE)} {rt : Nat} {Q : aQ} {pc n : Nat} {ls st : List aV} {σ : aW} {an : List Nat} {c : Int} {k0 : Nat} {i L v : Int} (h : aLook cd pc = some (pc, .iaload, 1, an, c)) (hn : pc + 1 = n) (hs : (Nat.blt k0 1000, aSh k0) = (true, 1, 0, L)) (hr : 0 ≤ i ∧ i < L) (hv : σ k0 i = v) (k : Yx d cd rt Q n ls (vi v :: st) σ) : Yx d cd rt Q pc ls (vi i :: vr k0 :: st) σ := by
  subst hn
  exact x_of h rfl (Or.inl ⟨k0, i, L, st, rfl, (Prod.mk.inj hs).1, (Prod.mk.inj hs).2, hr, hv ▸ k⟩)
theorem x_laload {d : Nat} {cd : List (List bE)} {rt : Nat} {Q : aQ} {pc n : Nat} {ls st : List aV} {σ : aW} {an : List Nat} {c : Int} {k0 : Nat} {i L v : Int} (h : aLook cd pc = some (pc, .laload, 1, an, c)) (hn : pc + 1 = n) (hs : (Nat.blt k0 1000, aSh k0) = (true, 2, 0, L)) (hr : 0 ≤ i ∧ i < L) (hv : σ k0 i = v) (k : Yx d cd rt Q n ls (vl v :: st) σ) : Yx d cd rt Q pc ls (vi i :: vr k0 :: st) σ := by
  subst hn
  exact x_of h rfl ⟨k0, i, L, st, rfl, (Prod.mk.inj hs).1, (Prod.mk.inj hs).2, hr, hv ▸ k⟩
theorem x_zaload {d : Nat} {cd : List (List bE)} {rt : Nat} {Q : aQ} {pc n : Nat} {ls st : List aV} {σ : aW} {an : List Nat} {c : Int} {k0 : Nat} {i L v : Int} (h : aLook cd pc = some (pc, .baload, 1, an, c)) (hn : pc + 1 = n) (hs : (Nat.blt k0 1000, aSh k0) = (true, 3, 0, L)) (hr : 0 ≤ i ∧ i < L) (hv : σ k0 i = v) (k : Yx d cd rt Q n ls (vi v :: st) σ) : Yx d cd rt Q pc ls (vi i :: vr k0 :: st) σ := by
  subst hn
  exact x_of h rfl (Or.inl ⟨k0, i, L, st, rfl, (Prod.mk.inj hs).1, (Prod.mk.inj hs).2, hr, hv ▸ k⟩)
theorem x_baload {d : Nat} {cd : List (List bE)} {rt : Nat} {Q : aQ} {pc n : Nat} {ls st : List aV} {σ : aW} {an : List Nat} {c : Int} {k0 : Nat} {i L v : Int} (h : aLook cd pc = some (pc, .baload, 1, an, c)) (hn : pc + 1 = n) (hs : (Nat.blt k0 1000, aSh k0) = (true, 4, 0, L)) (hr : 0 ≤ i ∧ i < L) (hv : σ k0 i = v) (k : Yx d cd rt Q n ls (vi v :: st) σ) : Yx d cd rt Q pc ls (vi i :: vr k0 :: st) σ := by
  subst hn
  exact x_of h rfl (Or.inr (Or.inl ⟨k0, i, L, st, rfl, (Prod.mk.inj hs).1, (Prod.mk.inj hs).2, hr, hv ▸ k⟩))
theorem x_caload {d : Nat} {cd : List (List bE)} {rt : Nat} {Q : aQ} {pc n : Nat} {ls st : List aV} {σ : aW} {an : List Nat} {c : Int} {k0 : Nat} {i L v : Int} (h : aLook cd pc = some (pc, .caload, 1, an, c)) (hn : pc + 1 = n) (hs : (Nat.blt k0 1000, aSh k0) = (true, 5, 0, L)) (hr : 0 ≤ i ∧ i < L) (hv : σ k0 i = v) (k : Yx d cd rt Q n ls (vi v :: st) σ) : Yx d cd rt Q pc ls (vi i :: vr k0 :: st) σ := by
  subst hn
  exact x_of h rfl ⟨k0, i, L, st, rfl, (Prod.mk.inj hs).1, (Prod.mk.inj hs).2, hr, hv ▸ k⟩
theorem x_saload {d : Nat} {cd : List (List bE)} {rt : Nat} {Q : aQ} {pc n : Nat} {ls st : List aV} {σ : aW} {an : List Nat} {c : Int} {i v : Int} (h : aLook cd pc = some (pc, .iaload, 1, an, c)) (hn : pc + 1 = n) (hr : 0 ≤ i ∧ i < σ 9999 2) (hv : σ 1200 i = v) (k : Yx d cd rt Q n ls (vi v :: st) σ) : Yx d cd rt Q pc ls (vi i :: vr 1200 :: st) σ := by
  subst hn
  exact x_of h rfl (Or.inr ⟨i, st, rfl, hr, hv ▸ k⟩)
theorem x_taload {d : Nat} {cd : List (List bE)} {rt : Nat} {Q : aQ} {pc n : Nat} {ls st : List aV} {σ : aW} {an : List Nat} {c : Int} {t0 : Nat} {i : Int} (h : aLook cd pc = some (pc, .baload, 1, an, c)) (hn : pc + 1 = n) (ht : Nat.blt t0 16 = true) (hr : 0 ≤ i ∧ i < (nth [] aSTR t0).length) (k : Yx d cd rt Q n ls (vi (nth 0 (nth [] aSTR t0) i.toNat) :: st) σ) : Yx d cd rt Q pc ls (vi i :: vr (1100 + t0) :: st) σ := by
  subst hn
  exact x_of h rfl (Or.inr (Or.inr ⟨t0, i, st, rfl, ht, hr, k⟩))
theorem x_iastore {d : Nat} {cd : List (List bE)} {rt : Nat} {Q : aQ} {pc n : Nat} {ls st : List aV} {σ : aW} {an : List Nat} {c : Int} {k0 : Nat} {i L x : Int} (h : aLook cd pc = some (pc, .iastore, 1, an, c)) (hn : pc + 1 = n) (hs : (Nat.blt k0 1000, aSh k0) = (true, 1, 0, L)) (hr : 0 ≤ i ∧ i < L) (k : Yx d cd rt Q n ls st (sw σ k0 (fu (σ k0) i x))) : Yx d cd rt Q pc ls (vi x :: vi i :: vr k0 :: st) σ := by
  subst hn
  exact x_of h rfl ⟨k0, i, x, L, st, rfl, (Prod.mk.inj hs).1, (Prod.mk.inj hs).2, hr, trivial, k⟩
theorem x_lastore {d : Nat} {cd : List (List bE)} {rt : Nat} {Q : aQ} {pc n : Nat} {ls st : List aV} {σ : aW} {an : List Nat} {c : Int} {k0 : Nat} {i L x : Int} (h : aLook cd pc = some (pc, .lastore, 1, an, c)) (hn : pc + 1 = n) (hs : (Nat.blt k0 1000, aSh k0) = (true, 2, 0, L)) (hr : 0 ≤ i ∧ i < L) (k : Yx d cd rt Q n ls st (sw σ k0 (fu (σ k0) i x))) : Yx d cd rt Q pc ls (vl x :: vi i :: vr k0 :: st) σ := by
  subst hn
  exact x_of h rfl ⟨k0, i, x, L, st, rfl, (Prod.mk.inj hs).1, (Prod.mk.inj hs).2, hr, trivial, k⟩
theorem x_zastore {d : Nat} {cd : List (List bE)} {rt : Nat} {Q : aQ} {pc n : Nat} {ls st : List aV} {σ : aW} {an : List Nat} {c : Int} {k0 : Nat} {i L x : Int} (h : aLook cd pc = some (pc, .bastore, 1, an, c)) (hn : pc + 1 = n) (hs : (Nat.blt k0 1000, aSh k0) = (true, 3, 0, L)) (hr : 0 ≤ i ∧ i < L) (hx : x = 0 ∨ x = 1) (k : Yx d cd rt Q n ls st (sw σ k0 (fu (σ k0) i x))) : Yx d cd rt Q pc ls (vi x :: vi i :: vr k0 :: st) σ := by
  subst hn
  exact x_of h rfl (Or.inl ⟨k0, i, x, L, st, rfl, (Prod.mk.inj hs).1, (Prod.mk.inj hs).2, hr, hx, k⟩)
theorem x_bastore {d : Nat} {cd : List (List bE)} {rt : Nat} {Q : aQ} {pc n : Nat} {ls st : List aV} {σ : aW} {an : List Nat} {c : Int} {k0 : Nat} {i L x : Int} (h : aLook cd pc = some (pc, .bastore, 1, an, c)) (hn : pc + 1 = n) (hs : (Nat.blt k0 1000, aSh k0) = (true, 4, 0, L)) (hr : 0 ≤ i ∧ i < L) (hx : -128 ≤ x ∧ x < 128) (k : Yx d cd rt Q n ls st (sw σ k0 (fu (σ k0) i x))) : Yx d cd rt Q pc ls (vi x :: vi i :: vr k0 :: st) σ := by
  subst hn
  exact x_of h rfl (Or.inr ⟨k0, i, x, L, st, rfl, (Prod.mk.inj hs).1, (Prod.mk.inj hs).2, hr, hx, k⟩)
theorem x_castore {d : Nat} {cd : List (List bE)} {rt : Nat} {Q : aQ} {pc n : Nat} {ls st : List aV} {σ : aW} {an : List Nat} {c : Int} {k0 : Nat} {i L x : Int} (h : aLook cd pc = some (pc, .castore, 1, an, c)) (hn : pc + 1 = n) (hs : (Nat.blt k0 1000, aSh k0) = (true, 5, 0, L)) (hr : 0 ≤ i ∧ i < L) (hx : 0 ≤ x ∧ x < 65536) (k : Yx d cd rt Q n ls st (sw σ k0 (fu (σ k0) i x))) : Yx d cd rt Q pc ls (vi x :: vi i :: vr k0 :: st) σ := by
  subst hn
  exact x_of h rfl ⟨k0, i, x, L, st, rfl, (Prod.mk.inj hs).1, (Prod.mk.inj hs).2, hr, hx, k⟩
theorem x_alen {d : Nat} {cd : List (List bE)} {rt : Nat} {Q : aQ} {pc n : Nat} {ls st : List aV} {σ : aW} {an : List Nat} {c : Int} {k0 kd : Nat} {L : Int} (h : aLook cd pc = some (pc, .arraylength, 1, an, c)) (hn : pc + 1 = n) (hs : (Nat.blt k0 1000, aSh k0) = (true, kd + 1, 0, L)) (k : Yx d cd rt Q n ls (vi L :: st) σ) : Yx d cd rt Q pc ls (vr k0 :: st) σ := by
  subst hn
  exact x_of h rfl (Or.inl ⟨k0, kd, L, st, rfl, (Prod.mk.inj hs).1, (Prod.mk.inj hs).2, k⟩)
theorem x_tlen {d : Nat} {cd : List (List bE)} {rt : Nat} {Q : aQ} {pc n : Nat} {ls st : List aV} {σ : aW} {an : List Nat} {c : Int} {t0 : Nat} {L : Int} (h : aLook cd pc = some (pc, .arraylength, 1, an, c)) (hn : pc + 1 = n) (ht : Nat.blt t0 16 = true) (hL : ((nth [] aSTR t0).length : Int) = L) (k : Yx d cd rt Q n ls (vi L :: st) σ) : Yx d cd rt Q pc ls (vr (1100 + t0) :: st) σ := by
  subst hn
  exact x_of h rfl (Or.inr (Or.inl ⟨t0, st, rfl, ht, hL ▸ k⟩))
theorem x_slen {d : Nat} {cd : List (List bE)} {rt : Nat} {Q : aQ} {pc n : Nat} {ls st : List aV} {σ : aW} {an : List Nat} {c : Int} {v : Int} (h : aLook cd pc = some (pc, .arraylength, 1, an, c)) (hn : pc + 1 = n) (hv : σ 9999 2 = v) (k : Yx d cd rt Q n ls (vi v :: st) σ) : Yx d cd rt Q pc ls (vr 1200 :: st) σ := by
  subst hn
  exact x_of h rfl (Or.inr (Or.inr ⟨st, rfl, hv ▸ k⟩))
theorem x_getI {d : Nat} {cd : List (List bE)} {rt : Nat} {Q : aQ} {pc n : Nat} {ls st : List aV} {σ : aW} {an : List Nat} {c : Int} {k0 ci i ps ix : Nat} {v : Int} (h : aLook cd pc = some (pc, .getfield ix, 3, an, c)) (hn : pc + 3 = n) (ha : an = [0, ci, i, ps]) (hs : (Nat.blt k0 1000, aSh k0, aFk ci i) = (true, (0, ci, 0), 1)) (hv : σ k0 i = v) (k : Yx d cd rt Q n ls (vi v :: st) σ) : Yx d cd rt Q pc ls (vr k0 :: st) σ := by
  subst hn
  exact x_of h rfl (Or.inl ⟨ci, i, k0, ps, st, ha, rfl, (Prod.mk.inj hs).1, (Prod.mk.inj (Prod.mk.inj hs).2).1, by rw [(Prod.mk.inj (Prod.mk.inj hs).2).2]; subst hv; exact k⟩)
theorem x_getJ {d : Nat} {cd : List (List bE)} {rt : Nat} {Q : aQ} {pc n : Nat} {ls st : List aV} {σ : aW} {an : List Nat} {c : Int} {k0 ci i ps ix : Nat} {v : Int} (h : aLook cd pc = some (pc, .getfield ix, 3, an, c)) (hn : pc + 3 = n) (ha : an = [0, ci, i, ps]) (hs : (Nat.blt k0 1000, aSh k0, aFk ci i) = (true, (0, ci, 0), 2)) (hv : σ k0 i = v) (k : Yx d cd rt Q n ls (vl v :: st) σ) : Yx d cd rt Q pc ls (vr k0 :: st) σ := by
  subst hn
  exact x_of h rfl (Or.inl ⟨ci, i, k0, ps, st, ha, rfl, (Prod.mk.inj hs).1, (Prod.mk.inj (Prod.mk.inj hs).2).1, by rw [(Prod.mk.inj (Prod.mk.inj hs).2).2]; subst hv; exact k⟩)
theorem x_getZ {d : Nat} {cd : List (List bE)} {rt : Nat} {Q : aQ} {pc n : Nat} {ls st : List aV} {σ : aW} {an : List Nat} {c : Int} {k0 ci i ps ix : Nat} {v : Int} (h : aLook cd pc = some (pc, .getfield ix, 3, an, c)) (hn : pc + 3 = n) (ha : an = [0, ci, i, ps]) (hs : (Nat.blt k0 1000, aSh k0, aFk ci i) = (true, (0, ci, 0), 3)) (hv : σ k0 i = v) (k : Yx d cd rt Q n ls (vi v :: st) σ) : Yx d cd rt Q pc ls (vr k0 :: st) σ := by
  subst hn
  exact x_of h rfl (Or.inl ⟨ci, i, k0, ps, st, ha, rfl, (Prod.mk.inj hs).1, (Prod.mk.inj (Prod.mk.inj hs).2).1, by rw [(Prod.mk.inj (Prod.mk.inj hs).2).2]; subst hv; exact k⟩)
theorem x_getA {d : Nat} {cd : List (List bE)} {rt : Nat} {Q : aQ} {pc n : Nat} {ls st : List aV} {σ : aW} {an : List Nat} {c : Int} {k0 ci i ps ix r : Nat} (h : aLook cd pc = some (pc, .getfield ix, 3, an, c)) (hn : pc + 3 = n) (ha : an = [0, ci, i, ps]) (hs : (Nat.blt k0 1000, aSh k0, aFk ci i, aRt k0 i) = (true, (0, ci, 0), 0, r)) (k : Yx d cd rt Q n ls (vr r :: st) σ) : Yx d cd rt Q pc ls (vr k0 :: st) σ := by
  subst hn
  exact x_of h rfl (Or.inl ⟨ci, i, k0, ps, st, ha, rfl, (Prod.mk.inj hs).1, (Prod.mk.inj (Prod.mk.inj hs).2).1, by rw [(Prod.mk.inj (Prod.mk.inj (Prod.mk.inj hs).2).2).1]; show Yx _ _ _ _ _ _ (vr (aRt k0 i) :: _) _; rw [(Prod.mk.inj (Prod.mk.inj (Prod.mk.inj hs).2).2).2]; exact k⟩)
theorem x_getV {d : Nat} {cd : List (List bE)} {rt : Nat} {Q : aQ} {pc n : Nat} {ls st : List aV} {σ : aW} {an : List Nat} {c : Int} {t0 ps ix : Nat} (h : aLook cd pc = some (pc, .getfield ix, 3, an, c)) (hn : pc + 3 = n) (ha : an = [1, ps]) (ht : Nat.blt t0 16 = true) (k : Yx d cd rt Q n ls (vr (1100 + t0) :: st) σ) : Yx d cd rt Q pc ls (vr (1000 + t0) :: st) σ := by
  subst hn
  exact x_of h rfl (Or.inr (Or.inl ⟨t0, ps, st, ha, rfl, ht, k⟩))
theorem x_getC {d : Nat} {cd : List (List bE)} {rt : Nat} {Q : aQ} {pc n : Nat} {ls st : List aV} {σ : aW} {an : List Nat} {c : Int} {t0 ps ix : Nat} (h : aLook cd pc = some (pc, .getfield ix, 3, an, c)) (hn : pc + 3 = n) (ha : an = [2, ps]) (ht : Nat.blt t0 16 = true) (k : Yx d cd rt Q n ls (vi 0 :: st) σ) : Yx d cd rt Q pc ls (vr (1000 + t0) :: st) σ := by
  subst hn
  exact x_of h rfl (Or.inr (Or.inr ⟨t0, ps, st, ha, rfl, ht, k⟩))
theorem x_putI {d : Nat} {cd : List (List bE)} {rt : Nat} {Q : aQ} {pc n : Nat} {ls st : List aV} {σ : aW} {an : List Nat} {c : Int} {k0 ci i fn ps ix : Nat} {x ii : Int} (h : aLook cd pc = some (pc, .putfield ix, 3, an, c)) (hn : pc + 3 = n) (ha : an = [ci, i, fn, ps]) (hs : (Nat.blt k0 1000, aSh k0, aFk ci i) = (true, (0, ci, 0), 1)) (hi : ((i : Nat) : Int) = ii) (k : Yx d cd rt Q n ls st (sw σ k0 (fu (σ k0) ii x))) : Yx d cd rt Q pc ls (vi x :: vr k0 :: st) σ := by
  subst hn
  exact x_of h rfl ⟨ci, i, k0, fn, ps, _, st, ha, rfl, (Prod.mk.inj hs).1, (Prod.mk.inj (Prod.mk.inj hs).2).1, Or.inl ⟨x, rfl, Or.inl (Prod.mk.inj (Prod.mk.inj hs).2).2, hi ▸ k⟩⟩
theorem x_putZ {d : Nat} {cd : List (List bE)} {rt : Nat} {Q : aQ} {pc n : Nat} {ls st : List aV} {σ : aW} {an : List Nat} {c : Int} {k0 ci i fn ps ix : Nat} {x ii : Int} (h : aLook cd pc = some (pc, .putfield ix, 3, an, c)) (hn : pc + 3 = n) (ha : an = [ci, i, fn, ps]) (hs : (Nat.blt k0 1000, aSh k0, aFk ci i) = (true, (0, ci, 0), 3)) (hi : ((i : Nat) : Int) = ii) (hx : x = 0 ∨ x = 1) (k : Yx d cd rt Q n ls st (sw σ k0 (fu (σ k0) ii x))) : Yx d cd rt Q pc ls (vi x :: vr k0 :: st) σ := by
  subst hn
  exact x_of h rfl ⟨ci, i, k0, fn, ps, _, st, ha, rfl, (Prod.mk.inj hs).1, (Prod.mk.inj (Prod.mk.inj hs).2).1, Or.inl ⟨x, rfl, Or.inr ⟨(Prod.mk.inj (Prod.mk.inj hs).2).2, hx⟩, hi ▸ k⟩⟩
theorem x_putJ {d : Nat} {cd : List (List bE)} {rt : Nat} {Q : aQ} {pc n : Nat} {ls st : List aV} {σ : aW} {an : List Nat} {c : Int} {k0 ci i fn ps ix : Nat} {x ii : Int} (h : aLook cd pc = some (pc, .putfield ix, 3, an, c)) (hn : pc + 3 = n) (ha : an = [ci, i, fn, ps]) (hs : (Nat.blt k0 1000, aSh k0, aFk ci i) = (true, (0, ci, 0), 2)) (hi : ((i : Nat) : Int) = ii) (k : Yx d cd rt Q n ls st (sw σ k0 (fu (σ k0) ii x))) : Yx d cd rt Q pc ls (vl x :: vr k0 :: st) σ := by
  subst hn
  exact x_of h rfl ⟨ci, i, k0, fn, ps, _, st, ha, rfl, (Prod.mk.inj hs).1, (Prod.mk.inj (Prod.mk.inj hs).2).1, Or.inr (Or.inl ⟨x, rfl, (Prod.mk.inj (Prod.mk.inj hs).2).2, hi ▸ k⟩)⟩
theorem x_gs0 {d : Nat} {cd : List (List bE)} {rt : Nat} {Q : aQ} {pc n : Nat} {ls st : List aV} {σ : aW} {an : List Nat} {c : Int} {ix ps : Nat} (h : aLook cd pc = some (pc, .getstatic ix, 3, an, c)) (hn : pc + 3 = n) (ha : an = [0, ps]) (k : Yx d cd rt Q n ls (vi 1 :: st) σ) : Yx d cd rt Q pc ls st σ := by
  subst hn
  exact x_of h rfl (Or.inl ⟨ps, ha, k⟩)
theorem x_gs1 {d : Nat} {cd : List (List bE)} {rt : Nat} {Q : aQ} {pc n : Nat} {ls st : List aV} {σ : aW} {an : List Nat} {c : Int} {ix ps : Nat} (h : aLook cd pc = some (pc, .getstatic ix, 3, an, c)) (hn : pc + 3 = n) (ha : an = [1, ps]) (k : Yx d cd rt Q n ls (vr 1300 :: st) σ) : Yx d cd rt Q pc ls st σ := by
  subst hn
  exact x_of h rfl (Or.inr ⟨ps, ha, k⟩)
theorem x_cvI {d : Nat} {cd : List (List bE)} {rt : Nat} {Q : aQ} {pc n : Nat} {ls st : List aV} {σ : aW} {an : List Nat} {c : Int} {ix j na ci : Nat} {ps : List Nat} {as s0 : List aV} (h : aLook cd pc = some (pc, .invokevirtual ix, 3, an, c)) (hn : pc + 3 = n) (ha : an = 0 :: j :: na :: ci :: ps) (hb : (Nat.blt j 276 && Nat.ble ((as.map aCat).sum) (aMl j) && Nat.ble ((st.map aCat).sum) 8 && Nat.beq as.length na) = true) (hst : as.reverse ++ st = s0) (hrc : oRc ci as) (k : aEp d true j as σ (fun r σ' => ∃ x : Int, r = some (vi x) ∧ Yx d cd rt Q n ls (vi x :: st) σ')) : Yx d cd rt Q pc ls s0 σ := by
  subst hn
  subst hst
  simp only [Bool.and_eq_true] at hb
  exact x_of h rfl ⟨j, na, ci, ps, as, st, ha, hb.1.1.1, rfl, Nat.eq_of_beq_eq_true hb.2, hb.1.1.2, hb.1.2, hrc, trivial, aEp_m d true j _ _ _ _ (fun r σ2 h => by obtain ⟨x, rfl, h⟩ := h; exact h) k⟩
theorem x_cvJ {d : Nat} {cd : List (List bE)} {rt : Nat} {Q : aQ} {pc n : Nat} {ls st : List aV} {σ : aW} {an : List Nat} {c : Int} {ix j na ci : Nat} {ps : List Nat} {as s0 : List aV} (h : aLook cd pc = some (pc, .invokevirtual ix, 3, an, c)) (hn : pc + 3 = n) (ha : an = 0 :: j :: na :: ci :: ps) (hb : (Nat.blt j 276 && Nat.ble ((as.map aCat).sum) (aMl j) && Nat.ble ((st.map aCat).sum) 8 && Nat.beq as.length na) = true) (hst : as.reverse ++ st = s0) (hrc : oRc ci as) (k : aEp d true j as σ (fun r σ' => ∃ x : Int, r = some (vl x) ∧ Yx d cd rt Q n ls (vl x :: st) σ')) : Yx d cd rt Q pc ls s0 σ := by
  subst hn
  subst hst
  simp only [Bool.and_eq_true] at hb
  exact x_of h rfl ⟨j, na, ci, ps, as, st, ha, hb.1.1.1, rfl, Nat.eq_of_beq_eq_true hb.2, hb.1.1.2, hb.1.2, hrc, trivial, aEp_m d true j _ _ _ _ (fun r σ2 h => by obtain ⟨x, rfl, h⟩ := h; exact h) k⟩
theorem x_cvV {d : Nat} {cd : List (List bE)} {rt : Nat} {Q : aQ} {pc n : Nat} {ls st : List aV} {σ : aW} {an : List Nat} {c : Int} {ix j na ci : Nat} {ps : List Nat} {as s0 : List aV} (h : aLook cd pc = some (pc, .invokevirtual ix, 3, an, c)) (hn : pc + 3 = n) (ha : an = 0 :: j :: na :: ci :: ps) (hb : (Nat.blt j 276 && Nat.ble ((as.map aCat).sum) (aMl j) && Nat.ble ((st.map aCat).sum) 8 && Nat.beq as.length na) = true) (hst : as.reverse ++ st = s0) (hrc : oRc ci as) (k : aEp d true j as σ (fun r σ' => r = none ∧ Yx d cd rt Q n ls st σ')) : Yx d cd rt Q pc ls s0 σ := by
  subst hn
  subst hst
  simp only [Bool.and_eq_true] at hb
  exact x_of h rfl ⟨j, na, ci, ps, as, st, ha, hb.1.1.1, rfl, Nat.eq_of_beq_eq_true hb.2, hb.1.1.2, hb.1.2, hrc, trivial, aEp_m d true j _ _ _ _ (fun r σ2 h => by obtain ⟨rfl, h⟩ := h; exact h) k⟩
theorem x_csI {d : Nat} {cd : List (List bE)} {rt : Nat} {Q : aQ} {pc n : Nat} {ls st : List aV} {σ : aW} {an : List Nat} {c : Int} {ix j na ci : Nat} {ps : List Nat} {as s0 : List aV} (h : aLook cd pc = some (pc, .invokestatic ix, 3, an, c)) (hn : pc + 3 = n) (ha : an = 0 :: j :: na :: ci :: ps) (hb : (Nat.blt j 276 && Nat.ble ((as.map aCat).sum) (aMl j) && Nat.ble ((st.map aCat).sum) 8 && Nat.beq as.length na) = true) (hst : as.reverse ++ st = s0) (hrc : oRc ci as) (k : aEp d true j as σ (fun r σ' => ∃ x : Int, r = some (vi x) ∧ Yx d cd rt Q n ls (vi x :: st) σ')) : Yx d cd rt Q pc ls s0 σ := by
  subst hn
  subst hst
  simp only [Bool.and_eq_true] at hb
  exact x_of h rfl (Or.inl ⟨j, na, ci, ps, as, st, ha, hb.1.1.1, rfl, Nat.eq_of_beq_eq_true hb.2, hb.1.1.2, hb.1.2, hrc, trivial, aEp_m d true j _ _ _ _ (fun r σ2 h => by obtain ⟨x, rfl, h⟩ := h; exact h) k⟩)
theorem x_csJ {d : Nat} {cd : List (List bE)} {rt : Nat} {Q : aQ} {pc n : Nat} {ls st : List aV} {σ : aW} {an : List Nat} {c : Int} {ix j na ci : Nat} {ps : List Nat} {as s0 : List aV} (h : aLook cd pc = some (pc, .invokestatic ix, 3, an, c)) (hn : pc + 3 = n) (ha : an = 0 :: j :: na :: ci :: ps) (hb : (Nat.blt j 276 && Nat.ble ((as.map aCat).sum) (aMl j) && Nat.ble ((st.map aCat).sum) 8 && Nat.beq as.length na) = true) (hst : as.reverse ++ st = s0) (hrc : oRc ci as) (k : aEp d true j as σ (fun r σ' => ∃ x : Int, r = some (vl x) ∧ Yx d cd rt Q n ls (vl x :: st) σ')) : Yx d cd rt Q pc ls s0 σ := by
  subst hn
  subst hst
  simp only [Bool.and_eq_true] at hb
  exact x_of h rfl (Or.inl ⟨j, na, ci, ps, as, st, ha, hb.1.1.1, rfl, Nat.eq_of_beq_eq_true hb.2, hb.1.1.2, hb.1.2, hrc, trivial, aEp_m d true j _ _ _ _ (fun r σ2 h => by obtain ⟨x, rfl, h⟩ := h; exact h) k⟩)
theorem x_csV {d : Nat} {cd : List (List bE)} {rt : Nat} {Q : aQ} {pc n : Nat} {ls st : List aV} {σ : aW} {an : List Nat} {c : Int} {ix j na ci : Nat} {ps : List Nat} {as s0 : List aV} (h : aLook cd pc = some (pc, .invokestatic ix, 3, an, c)) (hn : pc + 3 = n) (ha : an = 0 :: j :: na :: ci :: ps) (hb : (Nat.blt j 276 && Nat.ble ((as.map aCat).sum) (aMl j) && Nat.ble ((st.map aCat).sum) 8 && Nat.beq as.length na) = true) (hst : as.reverse ++ st = s0) (hrc : oRc ci as) (k : aEp d true j as σ (fun r σ' => r = none ∧ Yx d cd rt Q n ls st σ')) : Yx d cd rt Q pc ls s0 σ := by
  subst hn
  subst hst
  simp only [Bool.and_eq_true] at hb
  exact x_of h rfl (Or.inl ⟨j, na, ci, ps, as, st, ha, hb.1.1.1, rfl, Nat.eq_of_beq_eq_true hb.2, hb.1.1.2, hb.1.2, hrc, trivial, aEp_m d true j _ _ _ _ (fun r σ2 h => by obtain ⟨rfl, h⟩ := h; exact h) k⟩)
theorem x_copy {d : Nat} {cd : List (List bE)} {rt : Nat} {Q : aQ} {pc n : Nat} {ls st : List aV} {σ : aW} {an : List Nat} {c : Int} {ix k0 k1 kd : Nat} {ps : List Nat} {sp dp m L L2 : Int} (h : aLook cd pc = some (pc, .invokestatic ix, 3, an, c)) (hn : pc + 3 = n) (ha : an = 1 :: ps) (hs : (Nat.blt k0 1000, Nat.blt k1 1000, aSh k0, aSh k1) = (true, true, (kd + 1, 0, L), (kd + 1, 0, L2))) (hb : (Nat.beq kd 0 || Nat.beq kd 1) = true) (hb2 : (Nat.ble 1 d && Nat.ble ((st.map aCat).sum) 8) = true) (hr : 0 ≤ sp ∧ 0 ≤ dp ∧ 0 ≤ m ∧ sp + m ≤ L ∧ dp + m ≤ L2) (k : Yx d cd rt Q n ls st (sw σ k1 (aCp (σ k0) (σ k1) sp dp m))) : Yx d cd rt Q pc ls (vi m :: vi dp :: vr k1 :: vi sp :: vr k0 :: st) σ := by
  subst hn
  simp only [Bool.and_eq_true] at hb2
  obtain ⟨h1, h2⟩ := Prod.mk.inj hs
  obtain ⟨h2, h3⟩ := Prod.mk.inj h2
  obtain ⟨h3, h4⟩ := Prod.mk.inj h3
  exact x_of h rfl (Or.inr (Or.inl ⟨ps, k0, k1, kd, sp, dp, m, L, L2, st, ha, rfl, h1, h2, h3, h4, hb, hr, hb2.1, hb2.2, k⟩))
theorem x_max {d : Nat} {cd : List (List bE)} {rt : Nat} {Q : aQ} {pc n : Nat} {ls st : List aV} {σ : aW} {an : List Nat} {c : Int} {ix : Nat} {ps : List Nat} {x y : Int} (h : aLook cd pc = some (pc, .invokestatic ix, 3, an, c)) (hn : pc + 3 = n) (ha : an = 3 :: 0 :: ps) (hb2 : (Nat.ble 1 d && Nat.ble ((st.map aCat).sum) 8) = true) (k : Yx d cd rt Q n ls (vi (max x y) :: st) σ) : Yx d cd rt Q pc ls (vi y :: vi x :: st) σ := by
  subst hn
  simp only [Bool.and_eq_true] at hb2
  exact x_of h rfl (Or.inr (Or.inr ⟨hb2.1, ps, Or.inl ⟨x, y, st, ha, rfl, hb2.2, k⟩⟩))
theorem x_min {d : Nat} {cd : List (List bE)} {rt : Nat} {Q : aQ} {pc n : Nat} {ls st : List aV} {σ : aW} {an : List Nat} {c : Int} {ix : Nat} {ps : List Nat} {x y : Int} (h : aLook cd pc = some (pc, .invokestatic ix, 3, an, c)) (hn : pc + 3 = n) (ha : an = 3 :: 1 :: ps) (hb2 : (Nat.ble 1 d && Nat.ble ((st.map aCat).sum) 8) = true) (k : Yx d cd rt Q n ls (vi (min x y) :: st) σ) : Yx d cd rt Q pc ls (vi y :: vi x :: st) σ := by
  subst hn
  simp only [Bool.and_eq_true] at hb2
  exact x_of h rfl (Or.inr (Or.inr ⟨hb2.1, ps, Or.inr (Or.inl ⟨x, y, st, ha, rfl, hb2.2, k⟩)⟩))
theorem x_abs {d : Nat} {cd : List (List bE)} {rt : Nat} {Q : aQ} {pc n : Nat} {ls st : List aV} {σ : aW} {an : List Nat} {c : Int} {ix : Nat} {ps : List Nat} {x y : Int} (h : aLook cd pc = some (pc, .invokestatic ix, 3, an, c)) (hn : pc + 3 = n) (ha : an = 3 :: 2 :: ps) (hb2 : (Nat.ble 1 d && Nat.ble ((st.map aCat).sum) 8) = true) (hr : -2147483648 < x ∧ x < 2147483648) (k : Yx d cd rt Q n ls (vi (((x.natAbs : Nat) : Int)) :: st) σ) : Yx d cd rt Q pc ls (vi x :: st) σ := by
  subst hn
  simp only [Bool.and_eq_true] at hb2
  exact x_of h rfl (Or.inr (Or.inr ⟨hb2.1, ps, Or.inr (Or.inr (Or.inl ⟨x, st, ha, rfl, hb2.2, by rw [ab_32 hr]; exact k⟩))⟩))
theorem x_lmax {d : Nat} {cd : List (List bE)} {rt : Nat} {Q : aQ} {pc n : Nat} {ls st : List aV} {σ : aW} {an : List Nat} {c : Int} {ix : Nat} {ps : List Nat} {x y : Int} (h : aLook cd pc = some (pc, .invokestatic ix, 3, an, c)) (hn : pc + 3 = n) (ha : an = 3 :: 3 :: ps) (hb2 : (Nat.ble 1 d && Nat.ble ((st.map aCat).sum) 8) = true) (k : Yx d cd rt Q n ls (vl (max x y) :: st) σ) : Yx d cd rt Q pc ls (vl y :: vl x :: st) σ := by
  subst hn
  simp only [Bool.and_eq_true] at hb2
  exact x_of h rfl (Or.inr (Or.inr ⟨hb2.1, ps, Or.inr (Or.inr (Or.inr (Or.inl ⟨x, y, st, ha, rfl, hb2.2, k⟩)))⟩))
theorem x_lmin {d : Nat} {cd : List (List bE)} {rt : Nat} {Q : aQ} {pc n : Nat} {ls st : List aV} {σ : aW} {an : List Nat} {c : Int} {ix : Nat} {ps : List Nat} {x y : Int} (h : aLook cd pc = some (pc, .invokestatic ix, 3, an, c)) (hn : pc + 3 = n) (ha : an = 3 :: 4 :: ps) (hb2 : (Nat.ble 1 d && Nat.ble ((st.map aCat).sum) 8) = true) (k : Yx d cd rt Q n ls (vl (min x y) :: st) σ) : Yx d cd rt Q pc ls (vl y :: vl x :: st) σ := by
  subst hn
  simp only [Bool.and_eq_true] at hb2
  exact x_of h rfl (Or.inr (Or.inr ⟨hb2.1, ps, Or.inr (Or.inr (Or.inr (Or.inr ⟨x, y, st, ha, rfl, hb2.2, k⟩)))⟩))
theorem x_ret1 {d : Nat} {cd : List (List bE)} {rt : Nat} {Q : aQ} {pc : Nat} {ls : List aV} {σ : aW} {an : List Nat} {c : Int} {x : Int} (h : aLook cd pc = some (pc, .ireturn, 1, an, c)) (hr : rt = 1) (k : Q (some (vi x)) σ) : Yx d cd rt Q pc ls [vi x] σ := x_of h rfl ⟨x, rfl, ⟨by rw [hr]; rfl, by rw [hr]; trivial⟩, k⟩
theorem x_ret3 {d : Nat} {cd : List (List bE)} {rt : Nat} {Q : aQ} {pc : Nat} {ls : List aV} {σ : aW} {an : List Nat} {c : Int} {x : Int} (h : aLook cd pc = some (pc, .ireturn, 1, an, c)) (hr : rt = 3) (hx : x = 0 ∨ x = 1) (k : Q (some (vi x)) σ) : Yx d cd rt Q pc ls [vi x] σ := x_of h rfl ⟨x, rfl, ⟨by rw [hr]; rfl, by rw [hr]; exact hx⟩, k⟩
theorem x_ret4 {d : Nat} {cd : List (List bE)} {rt : Nat} {Q : aQ} {pc : Nat} {ls : List aV} {σ : aW} {an : List Nat} {c : Int} {x : Int} (h : aLook cd pc = some (pc, .ireturn, 1, an, c)) (hr : rt = 4) (hx : -128 ≤ x ∧ x < 128) (k : Q (some (vi x)) σ) : Yx d cd rt Q pc ls [vi x] σ := x_of h rfl ⟨x, rfl, ⟨by rw [hr]; rfl, by rw [hr]; exact hx⟩, k⟩
theorem x_ret5 {d : Nat} {cd : List (List bE)} {rt : Nat} {Q : aQ} {pc : Nat} {ls : List aV} {σ : aW} {an : List Nat} {c : Int} {x : Int} (h : aLook cd pc = some (pc, .ireturn, 1, an, c)) (hr : rt = 5) (hx : 0 ≤ x ∧ x < 65536) (k : Q (some (vi x)) σ) : Yx d cd rt Q pc ls [vi x] σ := x_of h rfl ⟨x, rfl, ⟨by rw [hr]; rfl, by rw [hr]; exact hx⟩, k⟩
theorem x_ret2 {d : Nat} {cd : List (List bE)} {rt : Nat} {Q : aQ} {pc : Nat} {ls : List aV} {σ : aW} {an : List Nat} {c : Int} {x : Int} (h : aLook cd pc = some (pc, .lreturn, 1, an, c)) (hr : rt = 2) (k : Q (some (vl x)) σ) : Yx d cd rt Q pc ls [vl x] σ := x_of h rfl ⟨x, rfl, hr, k⟩
theorem x_ret0 {d : Nat} {cd : List (List bE)} {rt : Nat} {Q : aQ} {pc : Nat} {ls : List aV} {σ : aW} {an : List Nat} {c : Int} (h : aLook cd pc = some (pc, .return_, 1, an, c)) (hr : rt = 0) (k : Q none σ) : Yx d cd rt Q pc ls [] σ := x_of h rfl ⟨rfl, hr, k⟩
theorem m_vit {d : Nat} {cd : List (List bE)} {rt : Nat} {Q : aQ} {pc : Nat} {ls st : List aV} {σ : aW} {p : Prop} [Decidable p] {x y : Int} (h : p) (k : Yx d cd rt Q pc ls (vi (if p then x else y) :: st) σ) : Yx d cd rt Q pc ls (vi x :: st) σ := by
  rw [if_pos h] at k
  exact k
theorem m_vif {d : Nat} {cd : List (List bE)} {rt : Nat} {Q : aQ} {pc : Nat} {ls st : List aV} {σ : aW} {p : Prop} [Decidable p] {x y : Int} (h : ¬ p) (k : Yx d cd rt Q pc ls (vi (if p then x else y) :: st) σ) : Yx d cd rt Q pc ls (vi y :: st) σ := by
  rw [if_neg h] at k
  exact k
theorem m_vlt {d : Nat} {cd : List (List bE)} {rt : Nat} {Q : aQ} {pc : Nat} {ls st : List aV} {σ : aW} {p : Prop} [Decidable p] {x y : Int} (h : p) (k : Yx d cd rt Q pc ls (vl (if p then x else y) :: st) σ) : Yx d cd rt Q pc ls (vl x :: st) σ := by
  rw [if_pos h] at k
  exact k
theorem m_vlf {d : Nat} {cd : List (List bE)} {rt : Nat} {Q : aQ} {pc : Nat} {ls st : List aV} {σ : aW} {p : Prop} [Decidable p] {x y : Int} (h : ¬ p) (k : Yx d cd rt Q pc ls (vl (if p then x else y) :: st) σ) : Yx d cd rt Q pc ls (vl y :: st) σ := by
  rw [if_neg h] at k
  exact k
theorem bi_01 {p : Prop} [Decidable p] : bi p = 0 ∨ bi p = 1 := by
  unfold bi
  split
  · exact Or.inr rfl
  · exact Or.inl rfl
theorem m_eq {d : Nat} {cd : List (List bE)} {rt : Nat} {Q : aQ} {pc : Nat} {ls st : List aV} {σ : aW} {v w : Int} (h : v = w) (k : Yx d cd rt Q pc ls (vi v :: st) σ) : Yx d cd rt Q pc ls (vi w :: st) σ := h ▸ k
theorem m_eql {d : Nat} {cd : List (List bE)} {rt : Nat} {Q : aQ} {pc : Nat} {ls st : List aV} {σ : aW} {v w : Int} (h : v = w) (k : Yx d cd rt Q pc ls (vl v :: st) σ) : Yx d cd rt Q pc ls (vl w :: st) σ := h ▸ k
theorem x_iincw {d : Nat} {cd : List (List bE)} {rt : Nat} {Q : aQ} {pc n : Nat} {ls st : List aV} {σ : aW} {an : List Nat} {c : Int} {i : Nat} {v x : Int} {L : List aV} (h : aLook cd pc = some (pc, .iinc i v, 6, an, c)) (hn : pc + 6 = n) (hv : nth vt ls i = vi x) (hr : (-2147483648 ≤ x + v ∧ x + v < 2147483648)) (hL : stI ls i (vi (x + v)) = L) (k : Yx d cd rt Q n L st σ) : Yx d cd rt Q pc ls st σ := by
  subst hn
  exact aX_in (aEp_m d) (Or.inr (Or.inr ⟨i, v, an, c, x, h, hv, by rw [w32_of hr.1 hr.2, hL]; exact k⟩))
end
