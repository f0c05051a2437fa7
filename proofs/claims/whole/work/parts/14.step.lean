section
def aKp (p : Program) (l : Launch) (e : Env) (R : Room) (s : State) (m : MethodId) (args : Array Value) (below : List Frame) (meth : Method) (c : Code) (b0 : Nat) (D : va_G) (cA : Nat → ClassId) (adK adV : Nat → Nat) (sc : Nat) (fv : Value) (sx : Int → Int) (sL : Int) (ml n0 s0 : Nat) (ph0 : Bool) (Z : State → Prop) : Bool → aK := fun ph pc ls st σ =>
  ∀ (H : Heap) (locs : List Loc) (LS : Array Slot), aRel b0 D cA sx sL ph σ H → va_S (fun q => b0 ≤ q) s.heap H locs → lv_has LS ml (aLv (aCv b0 adK adV sc fv) 0 ls) → ls.length = ml → aSo (aNn ph σ) ls → aSo (aNn ph σ) st →
    (n0 ≤ aNn ph σ ∧ s0 ≤ aSl ph σ ∧ aNn ph σ - n0 ≤ R.cells ∧ aSl ph σ - s0 ≤ R.slots ∧ (ph = false → ph0 = false ∧ s.heap.size = b0 + n0)) → W p l e R s m args below meth c H locs (aNn ph σ - n0) (aSl ph σ - s0) Z (F0 m pc LS (st.map (aCv b0 adK adV sc fv)))
theorem o32_b {f : Int32 → Int32 → Int32} {x y : Int} : Int32.ofInt (b32 f x y) = f (Int32.ofInt x) (Int32.ofInt y) := o32_back _
theorem o64_b {f : Int64 → Int64 → Int64} {x y : Int} : Int64.ofInt (b64 f x y) = f (Int64.ofInt x) (Int64.ofInt y) := o64_back _
theorem o32_c3 {x y : Int} (hx : r64 x) (hy : r64 y) : Int32.ofInt (c3 x y) = lg_cmp (Int64.ofInt x) (Int64.ofInt y) := by
  unfold c3 lg_cmp
  simp only [gt_iff_lt, o64_lt hy hx, o64_eq hx hy]
  by_cases h1 : y < x
  · rw [if_pos h1, if_pos h1]; decide
  · rw [if_neg h1, if_neg h1]
    by_cases h2 : x = y
    · rw [if_pos h2, if_pos h2]; decide
    · rw [if_neg h2, if_neg h2]; decide
theorem r32_0 : r32 0 := by unfold r32; omega
theorem r64_0 : r64 0 := by unfold r64; omega
theorem o32_0 : Int32.ofInt 0 = 0 := by decide
theorem o64_0 : Int64.ofInt 0 = 0 := by decide
theorem o32_z {y : Int} (hy : r32 y) (h : ¬ y = 0) : ¬ Int32.ofInt y = 0 := by
  rw [← o32_0, o32_eq hy r32_0]
  exact h
theorem o64_z {y : Int} (hy : r64 y) (h : ¬ y = 0) : ¬ Int64.ofInt y = 0 := by
  rw [← o64_0, o64_eq hy r64_0]
  exact h
theorem r32_b {f : Int32 → Int32 → Int32} {x y : Int} : r32 (b32 f x y) := r32_t _
theorem r64_b {f : Int64 → Int64 → Int64} {x y : Int} : r64 (b64 f x y) := r64_t _
theorem r32_c3 {x y : Int} : r32 (c3 x y) := by
  unfold c3 r32
  split
  · omega
  · split <;> omega
theorem lv_of {cv : aV → Value} {LS : Array Slot} {ml : Nat} {ls : List aV} {i : Nat} {v : aV} (h : lv_has LS ml (aLv cv 0 ls)) (hv : nth vt ls i = v) (ht : aIsT v = false) : LS[i]? = some (.val (cv v)) :=
  h.2.2 (i, cv v) ((aLv_mem _ _ _).mpr ⟨i, v, hv, ht, by rw [Nat.zero_add]⟩)
theorem so_nth {n : Nat} {ls : List aV} {i : Nat} {v : aV} (h : aSo n ls) (hv : nth vt ls i = v) (ht : aIsT v = false) : aOk v ∧ aOr n v := by
  rcases nth_in (ls := ls) (i := i) with h1 | h1
  · rw [h1] at hv
    subst hv
    cases ht
  · rw [hv] at h1
    exact h v h1
theorem aTb_of {w : Jvm.Cond} (h : w ∈ lw_tbl) (hg : goodWord w = true) : w ∈ aTb := List.mem_filter.mpr ⟨h, hg⟩
theorem tg_eq {pc : Nat} {off : Int} (h : aTgs pc off = true) : (pc : Int) + off = ((tg pc off : Nat) : Int) := by
  have : 0 ≤ (pc : Int) + off := of_decide_eq_true h
  unfold tg
  omega
theorem aSo_k {n n' : Nat} {st : List aV} (h : aSo n st) (hn : n ≤ n') : aSo n' st := by
  intro v hv
  obtain ⟨h1, h2⟩ := h v hv
  refine ⟨h1, ?_⟩
  rcases v with x | x | _ | k
  · trivial
  · trivial
  · trivial
  · rcases h2 with h2 | h2
    · exact Or.inl (by omega)
    · exact Or.inr h2
theorem lsw_of {K : aK} {pc : Nat} {x : Int} {ls st : List aV} {σ : aW} : ∀ (l : List (Int × Int)) (d : Int), oLsw K pc x ls st σ l d → (∀ q ∈ l, aTgs pc q.2 = true) → aTgs pc d = true → ∃ t, (pc : Int) + Op.lookupswitch.offset l d x = ((t : Nat) : Int) ∧ K t ls st σ
  | [], d, h, _, h2 => ⟨tg pc d, tg_eq h2, h⟩
  | (a, o) :: r, d, h, h1, h2 => by
    by_cases hx : x = a
    · refine ⟨tg pc o, ?_, h.1 hx⟩
      rw [show Op.lookupswitch.offset ((a, o) :: r) d x = o by simp [Op.lookupswitch.offset, hx]]
      exact tg_eq (h1 (a, o) List.mem_cons_self)
    · obtain ⟨t, q1, q2⟩ := lsw_of r d (h.2 hx) (fun q hq => h1 q (List.mem_cons_of_mem _ hq)) h2
      refine ⟨t, ?_, q2⟩
      rw [show Op.lookupswitch.offset ((a, o) :: r) d x = Op.lookupswitch.offset r d x by simp [Op.lookupswitch.offset, Ne.symm hx]]
      exact q1
theorem tsw_of {K : aK} {pc : Nat} {x : Int} {ls st : List aV} {σ : aW} : ∀ (l : List Int) (a d : Int), oTsw K pc x ls st σ a l d → ((x < a ∨ a + l.length ≤ x) ∧ K (tg pc d) ls st σ) ∨ ∃ (i : Nat) (o : Int), a + i = x ∧ l[i]? = some o ∧ K (tg pc o) ls st σ
  | [], a, d, h => Or.inl ⟨by simp; omega, h⟩
  | o :: r, a, d, h => by
    by_cases hx : x = a
    · exact Or.inr ⟨0, o, by omega, rfl, h.1 hx⟩
    · rcases tsw_of r (a + 1) d (h.2 hx) with ⟨h1, h2⟩ | ⟨i, o', h1, h2, h3⟩
      · refine Or.inl ⟨?_, h2⟩
        simp only [List.length_cons]
        omega
      · exact Or.inr ⟨i + 1, o', by omega, h2, h3⟩
theorem W_sz {p : Program} {l : Launch} {e : Env} {R : Room} {s : State} {m : MethodId} {args : Array Value} {below : List Frame} {meth : Method} {c : Code} {H : Heap} {locs : List Loc} {cells slots : Nat} {Q : State → Prop} {g : JFrame} (h : H.size ≤ s.heap.size + cells → W p l e R s m args below meth c H locs cells slots Q g) : W p l e R s m args below meth c H locs cells slots Q g :=
  fun T hT X => h (by rw [← hT]; exact X.same.2.2.1) T hT X
theorem wf_el {n : Nat} {σ : aW} {k kd : Nat} {L i : Int} (h : aWf n σ) (hk : k < n) (hs : aSh k = (kd, 0, L)) (h0 : 0 < kd) (h1 : 0 ≤ i) (h2 : i < L) : aRw kd (σ k i) := by
  have := h.2.1 k i hk (by rw [hs]; exact h0) h1 (by rw [hs]; exact h2)
  rw [hs] at this
  exact this
theorem wf_fd {n : Nat} {σ : aW} {k ci i : Nat} (h : aWf n σ) (hk : k < n) (hs : aSh k = (0, ci, 0)) (hi : i < aNf ci) : aRw (aFk ci i) (σ k i) := by
  have := h.1 k i hk (by rw [hs]) (by rw [hs]; exact hi)
  rw [hs] at this
  exact this
theorem cv_k {b0 : Nat} {adK adV : Nat → Nat} {sc : Nat} {fv : Value} {k : Nat} (h : k < 1000) : aCv b0 adK adV sc fv (vr k) = .ref (b0 + k) := by
  show (if k = 1300 then fv else Value.ref (aAd b0 adK adV sc k)) = _
  rw [if_neg (by omega), aAd, if_pos h]
theorem or_k {n k : Nat} (h : aOr n (vr k)) (hk : k < 1000) : k < n := by
  rcases h with h | h | h | h | h <;> omega
theorem bl_lt {a b : Nat} (h : Nat.blt a b = true) : a < b := Nat.le_of_ble_eq_true h
theorem aRw_32 {kd : Nat} {x : Int} (h : aRw kd x) (h1 : kd = 1 ∨ kd = 3 ∨ kd = 4 ∨ kd = 5) : r32 x := by
  rcases h1 with rfl | rfl | rfl | rfl
  · exact h
  · have h : x = 0 ∨ x = 1 := h
    constructor <;> omega
  · have h : -128 ≤ x ∧ x < 128 := h
    constructor <;> omega
  · have h : 0 ≤ x ∧ x < 65536 := h
    constructor <;> omega
theorem nar_z {x : Int} (h : x = 0 ∨ x = 1) : vp_nar .boolean (Int32.ofInt x) = Int32.ofInt x := by
  rcases h with rfl | rfl <;> decide
theorem nar_b {x : Int} (h : -128 ≤ x ∧ x < 128) : vp_nar .byte (Int32.ofInt x) = Int32.ofInt x := by
  rw [vp_nar_byte, o32_i2b ⟨by omega, by omega⟩]
  congr 1
  unfold w8
  rw [Int.bmod_def]
  split <;> omega
theorem nar_c {x : Int} (h : 0 ≤ x ∧ x < 65536) : vp_nar .char (Int32.ofInt x) = Int32.ofInt x := by
  rw [vp_nar_char]
  apply Int32.toInt_inj.mp
  rw [o32_t ⟨by omega, by omega⟩]
  have hx : Int32.ofInt x = nI x.toNat := by
    apply Int32.toInt_inj.mp
    rw [o32_t ⟨by omega, by omega⟩, nI_toInt (by omega)]
    omega
  have h3 := (pk_charN (q := x.toNat) (by omega)).1
  rw [hx]
  have h4 : vp_nar .char (nI x.toNat) = nI x.toNat := by
    unfold vp_nar
    rw [h3]
  rw [vp_nar_char] at h4
  rw [h4, nI_toInt (by omega)]
  omega
theorem i8_of {v : Int} (h : -128 ≤ v ∧ v < 128) : (Int8.ofInt v).toInt32 = Int32.ofInt v := by
  apply Int32.toInt_inj.mp
  rw [o32_t ⟨by omega, by omega⟩, Int8.toInt_toInt32, Int8.toInt_ofInt]
  show v.bmod 256 = v
  rw [Int.bmod_def]
  split <;> omega
theorem i16_of {v : Int} (h : -32768 ≤ v ∧ v < 32768) : (Int16.ofInt v).toInt32 = Int32.ofInt v := by
  apply Int32.toInt_inj.mp
  rw [o32_t ⟨by omega, by omega⟩, Int16.toInt_toInt32, Int16.toInt_ofInt]
  show v.bmod 65536 = v
  rw [Int.bmod_def]
  split <;> omega
theorem ck_ldc {j pc ln i : Nat} {an ps : List Nat} {cst : Int} (h : aCkB j (pc, .ldc i, ln, an, cst) = true) (ha : an = 0 :: ps) : Jvm.Cond.constant (aY j).cls i (Int32.ofInt cst) ∈ lw_tbl ∧ r32 cst := by
  subst ha
  rcases ps with _ | ⟨p, _ | ⟨_, _⟩⟩
  · simp [aCkB] at h
  · simp only [aCkB, Bool.and_eq_true, decide_eq_true_eq] at h
    exact ⟨aTw_mem h.2.1.1, h.2.1.2, h.2.2⟩
  · simp [aCkB] at h
theorem ck_ldcw {j pc ln i : Nat} {an ps : List Nat} {cst : Int} (h : aCkB j (pc, .ldc_w i, ln, an, cst) = true) (ha : an = 0 :: ps) : Jvm.Cond.constant (aY j).cls i (Int32.ofInt cst) ∈ lw_tbl ∧ r32 cst := by
  subst ha
  rcases ps with _ | ⟨p, _ | ⟨_, _⟩⟩
  · simp [aCkB] at h
  · simp only [aCkB, Bool.and_eq_true, decide_eq_true_eq] at h
    exact ⟨aTw_mem h.2.1.1, h.2.1.2, h.2.2⟩
  · simp [aCkB] at h
theorem ck_ldcs {j pc ln i t : Nat} {an ps : List Nat} {cst : Int} (h : aCkB j (pc, .ldc i, ln, an, cst) = true) (ha : an = 1 :: t :: ps) : (nth ("", 0, "") aSTN t).1 = (aY j).cls ∧ (nth ("", 0, "") aSTN t).2.1 = i := by
  subst ha
  rcases ps with _ | ⟨p, _ | ⟨_, _⟩⟩
  · simp [aCkB] at h
  · simp only [aCkB, Bool.and_eq_true, decide_eq_true_eq] at h
    exact ⟨h.2.1, Nat.eq_of_beq_eq_true h.2.2⟩
  · simp [aCkB] at h
theorem ck_ldcws {j pc ln i t : Nat} {an ps : List Nat} {cst : Int} (h : aCkB j (pc, .ldc_w i, ln, an, cst) = true) (ha : an = 1 :: t :: ps) : (nth ("", 0, "") aSTN t).1 = (aY j).cls ∧ (nth ("", 0, "") aSTN t).2.1 = i := by
  subst ha
  rcases ps with _ | ⟨p, _ | ⟨_, _⟩⟩
  · simp [aCkB] at h
  · simp only [aCkB, Bool.and_eq_true, decide_eq_true_eq] at h
    exact ⟨h.2.1, Nat.eq_of_beq_eq_true h.2.2⟩
  · simp [aCkB] at h
theorem ck_ldc2 {j pc ln i : Nat} {an : List Nat} {cst : Int} (h : aCkB j (pc, .ldc2_w i, ln, an, cst) = true) : Jvm.Cond.constantLong (aY j).cls i (Int64.ofInt cst) ∈ lw_tbl ∧ r64 cst := by
  rcases an with _ | ⟨p, _ | ⟨_, _⟩⟩
  · simp [aCkB] at h
  · simp only [aCkB, Bool.and_eq_true, decide_eq_true_eq] at h
    exact ⟨aTw_mem h.2.1.1, h.2.1.2, h.2.2⟩
  · simp [aCkB] at h
theorem ck_get {j pc ln i ci f ps : Nat} {an : List Nat} {cst : Int} (h : aCkB j (pc, .getfield i, ln, an, cst) = true) (ha : an = [0, ci, f, ps]) : ci < 13 ∧ f < (aCn ci).2.2 ∧ Jvm.Cond.fieldLink (aY j).cls i ((aCn ci).2.1 f).1 ((aCn ci).2.1 f).2.1 ((aCn ci).2.1 f).2.2.1 ∈ lw_tbl := by
  subst ha
  simp only [aCkB, Bool.and_eq_true, decide_eq_true_eq] at h
  exact ⟨bl_lt h.2.1.1, bl_lt h.2.1.2, aTw_mem h.2.2⟩
theorem ck_getv {j pc ln i ps : Nat} {an : List Nat} {cst : Int} (h : aCkB j (pc, .getfield i, ln, an, cst) = true) (ha : an = [1, ps]) : Jvm.Cond.fieldLink (aY j).cls i "java/lang/String" "value" "[B" ∈ lw_tbl := by
  subst ha
  simp only [aCkB, Bool.and_eq_true, decide_eq_true_eq] at h
  exact aTw_mem h.2
theorem ck_getc {j pc ln i ps : Nat} {an : List Nat} {cst : Int} (h : aCkB j (pc, .getfield i, ln, an, cst) = true) (ha : an = [2, ps]) : Jvm.Cond.fieldLink (aY j).cls i "java/lang/String" "coder" "B" ∈ lw_tbl := by
  subst ha
  simp only [aCkB, Bool.and_eq_true, decide_eq_true_eq] at h
  exact aTw_mem h.2
theorem ck_put {j pc ln i ci f fn ps : Nat} {an : List Nat} {cst : Int} (h : aCkB j (pc, .putfield i, ln, an, cst) = true) (ha : an = [ci, f, fn, ps]) : ci < 13 ∧ f < (aCn ci).2.2 ∧ Jvm.Cond.fieldLink (aY j).cls i ((aCn ci).2.1 f).1 ((aCn ci).2.1 f).2.1 ((aCn ci).2.1 f).2.2.1 ∈ lw_tbl ∧
    (((aCn ci).2.1 f).2.2.2 = false ∨ (((aCn ci).2.1 f).2.2.2 = true ∧ (aY j).name = "<init>" ∧ ((aCn ci).2.1 f).1 = (aY j).cls)) := by
  subst ha
  cases fn with
  | zero =>
    simp only [aCkB, Bool.and_eq_true, decide_eq_true_eq] at h
    exact ⟨bl_lt h.2.1.1.1, bl_lt h.2.1.1.2, aTw_mem h.2.1.2, Or.inl h.2.2⟩
  | succ fn =>
    simp only [aCkB, Bool.and_eq_true, decide_eq_true_eq] at h
    exact ⟨bl_lt h.2.1.1.1, bl_lt h.2.1.1.2, aTw_mem h.2.1.2, Or.inr ⟨h.2.2.1.1, h.2.2.1.2, h.2.2.2⟩⟩
theorem ck_gs0 {j pc ln i p : Nat} {an : List Nat} {cst : Int} (h : aCkB j (pc, .getstatic i, ln, an, cst) = true) (ha : an = [0, p]) : Jvm.Cond.fieldLink (aY j).cls i "java/lang/String" "COMPACT_STRINGS" "Z" ∈ lw_tbl := by
  subst ha
  simp only [aCkB, Bool.and_eq_true, decide_eq_true_eq] at h
  exact aTw_mem h.2
theorem ck_gs1 {j pc ln i p : Nat} {an : List Nat} {cst : Int} (h : aCkB j (pc, .getstatic i, ln, an, cst) = true) (ha : an = [1, p]) : Jvm.Cond.fieldLink (aY j).cls i "jdk/internal/util/Preconditions" "SIOOBE_FORMATTER" "Ljava/util/function/BiFunction;" ∈ lw_tbl := by
  subst ha
  simp only [aCkB, Bool.and_eq_true, decide_eq_true_eq] at h
  exact aTw_mem h.2
theorem ck_new {j pc ln i ci : Nat} {an ps : List Nat} {cst : Int} (h : aCkB j (pc, .new i, ln, an, cst) = true) (ha : an = ci :: ps) : ci < 13 ∧ Jvm.Cond.classLink (aY j).cls i (aCn ci).1 ∈ lw_tbl ∧ Jvm.Cond.instantiable (aCn ci).1 (aCn ci).2.2 ∈ lw_tbl ∧ Jvm.Cond.initialized (aCn ci).1 ∈ lw_tbl := by
  subst ha
  rcases ps with _ | ⟨p1, _ | ⟨p2, _ | ⟨p3, _ | ⟨_, _⟩⟩⟩⟩
  · simp [aCkB] at h
  · simp [aCkB] at h
  · simp [aCkB] at h
  · simp only [aCkB, Bool.and_eq_true, decide_eq_true_eq] at h
    exact ⟨bl_lt h.2.1.1.1, aTw_mem h.2.1.1.2, aTw_mem h.2.1.2, aTw_mem h.2.2⟩
  · simp [aCkB] at h
theorem ck_nwa {j pc ln : Nat} {ty : ArrayType} {an : List Nat} {cst : Int} (h : aCkB j (pc, .newarray ty, ln, an, cst) = true) : Jvm.Cond.arrayClass (newarray.typeOf ty) ∈ lw_tbl := by
  rcases an with _ | ⟨p1, _ | ⟨p2, _⟩⟩
  · simp [aCkB] at h
  · simp only [aCkB, Bool.and_eq_true, decide_eq_true_eq] at h
    exact aTw_mem h.2
  · simp [aCkB] at h
theorem yok_of {y : MethodName} {n : Nat} (h : aYok y n = true) : y.cls ≠ "java/lang/invoke/MethodHandle" ∧ y.cls ≠ "java/lang/invoke/VarHandle" ∧ (parseMethodDescriptor y.desc).map (fun d => d.parameters.length) = some n := by
  simp only [aYok, Bool.and_eq_true, decide_eq_true_eq] at h
  exact ⟨h.1.1, h.1.2, h.2⟩
theorem ck_iv {j pc ln i j2 na ci : Nat} {an ps : List Nat} {cst : Int} (h : aCkB j (pc, .invokevirtual i, ln, an, cst) = true) (ha : an = 0 :: j2 :: na :: ci :: ps) :
    0 < na ∧ aYok (aY j2) (na - 1) = true ∧ Jvm.Cond.methodLink (aY j).cls i (aY j2) ∈ lw_tbl ∧ Jvm.Cond.instanceMethod (aY j2) ∈ lw_tbl ∧ Jvm.Cond.selects (aY j2).cls (aY j2) (aY j2) ∈ lw_tbl ∧ Jvm.Cond.initialized (aY j2).cls ∈ lw_tbl ∧
      ((ci = 100 ∧ (aY j2).cls = "java/lang/String") ∨ (ci < 13 ∧ (aCn ci).1 = (aY j2).cls)) := by
  subst ha
  rcases ps with _ | ⟨p1, _ | ⟨p2, _ | ⟨p3, _ | ⟨p4, _ | ⟨p5, _ | ⟨_, _⟩⟩⟩⟩⟩⟩
  · simp [aCkB] at h
  · simp [aCkB] at h
  · simp [aCkB] at h
  · simp [aCkB] at h
  · simp [aCkB] at h
  · simp only [aCkB, Bool.and_eq_true, decide_eq_true_eq] at h
    obtain ⟨-, ⟨⟨⟨⟨⟨⟨hA, hB⟩, hY⟩, h1⟩, h2⟩, h3⟩, h4⟩, hM⟩ := h
    refine ⟨bl_lt hB, hY, aTw_mem h1, aTw_mem h2, aTw_mem h3, aTw_mem h4, ?_⟩
    split at hM
    · exact Or.inl ⟨rfl, of_decide_eq_true hM⟩
    · cases hM
    · simp only [Bool.and_eq_true, decide_eq_true_eq] at hM
      exact Or.inr ⟨bl_lt hM.1, hM.2⟩
  · simp [aCkB] at h
theorem ck_is {j pc ln i j2 na ci : Nat} {an ps : List Nat} {cst : Int} (h : aCkB j (pc, .invokestatic i, ln, an, cst) = true) (ha : an = 0 :: j2 :: na :: ci :: ps) :
    ci = 99 ∧ aYok (aY j2) na = true ∧ (Jvm.Cond.methodLink (aY j).cls i (aY j2) ∈ lw_tbl ∨ Jvm.Cond.methodLinkNest (aY j).cls i (aY j2) "HeatTown" ∈ lw_tbl) ∧ Jvm.Cond.static (aY j2) ∈ lw_tbl ∧ Jvm.Cond.initialized (aY j2).cls ∈ lw_tbl := by
  subst ha
  simp only [aCkB, Bool.and_eq_true, decide_eq_true_eq] at h
  obtain ⟨-, h⟩ := h
  split at h
  · rename_i heq
    cases heq
    simp only [Bool.and_eq_true] at h
    obtain ⟨⟨⟨⟨-, hY⟩, h1⟩, h2⟩, h3⟩ := h
    exact ⟨rfl, hY, Or.inl (aTw_mem h1), aTw_mem h2, aTw_mem h3⟩
  · rename_i heq
    cases heq
    simp only [Bool.and_eq_true] at h
    obtain ⟨⟨⟨⟨-, hY⟩, h1⟩, h2⟩, h3⟩ := h
    exact ⟨rfl, hY, Or.inr (aTw_mem h1), aTw_mem h2, aTw_mem h3⟩
  · rename_i heq
    cases heq
  · rename_i heq
    cases heq
  · cases h
  · rename_i heq
    cases heq
  · rename_i heq
    cases heq
  · rename_i hx1 hx2 hx3 hx4 hx5 hx6 hx7
    exact absurd rfl (hx5 _)
theorem ck_cp {j pc ln i : Nat} {an ps : List Nat} {cst : Int} (h : aCkB j (pc, .invokestatic i, ln, an, cst) = true) (ha : an = 1 :: ps) :
    Jvm.Cond.methodLink (aY j).cls i arraycopyName ∈ lw_tbl ∧ Jvm.Cond.native arraycopyName ∈ lw_tbl ∧ Jvm.Cond.static arraycopyName ∈ lw_tbl ∧ Jvm.Cond.initialized "java/lang/System" ∈ lw_tbl := by
  subst ha
  simp only [aCkB, Bool.and_eq_true, decide_eq_true_eq] at h
  obtain ⟨-, h⟩ := h
  split at h
  · rename_i heq
    cases heq
  · rename_i heq
    cases heq
  · rename_i heq
    cases heq
    simp only [Bool.and_eq_true] at h
    obtain ⟨⟨⟨h1, h2⟩, h3⟩, h4⟩ := h
    exact ⟨aTw_mem h1, aTw_mem h2, aTw_mem h3, aTw_mem h4⟩
  · rename_i heq
    cases heq
  · rename_i heq
    cases heq
  · cases h
  · rename_i heq
    cases heq
  · rename_i hx1 hx2 hx3 hx4 hx5 hx6 hx7
    exact absurd rfl (hx6 _)
theorem ck_mt {j pc ln i w : Nat} {an ps : List Nat} {cst : Int} (h : aCkB j (pc, .invokestatic i, ln, an, cst) = true) (ha : an = 3 :: w :: ps) :
    w < 5 ∧ Jvm.Cond.methodLink (aY j).cls i (aMn w) ∈ lw_tbl ∧ Jvm.Cond.static (aMn w) ∈ lw_tbl ∧ Jvm.Cond.initialized "java/lang/Math" ∈ lw_tbl := by
  subst ha
  simp only [aCkB, Bool.and_eq_true, decide_eq_true_eq] at h
  obtain ⟨-, h⟩ := h
  split at h
  · rename_i heq
    cases heq
  · rename_i heq
    cases heq
  · rename_i heq
    cases heq
  · rename_i heq
    cases heq
    simp only [Bool.and_eq_true] at h
    obtain ⟨⟨⟨h1, h2⟩, h3⟩, h4⟩ := h
    exact ⟨bl_lt h1, aTw_mem h2, aTw_mem h3, aTw_mem h4⟩
  · rename_i heq
    cases heq
  · rename_i heq
    cases heq
  · cases h
  · rename_i hx1 hx2 hx3 hx4 hx5 hx6 hx7
    exact absurd rfl (hx7 _)
theorem ck_ip {j pc ln i j2 na ci : Nat} {an ps : List Nat} {cst : Int} (h : aCkB j (pc, .invokespecial i, ln, an, cst) = true) (ha : an = 0 :: j2 :: na :: ci :: ps) :
    0 < na ∧ ci < 13 ∧ aYok (aY j2) (na - 1) = true ∧ (Jvm.Cond.methodLink (aY j).cls i (aY j2) ∈ lw_tbl ∨ Jvm.Cond.methodLinkNest (aY j).cls i (aY j2) "HeatTown" ∈ lw_tbl) ∧ Jvm.Cond.instanceMethod (aY j2) ∈ lw_tbl ∧ Jvm.Cond.initialized (aY j2).cls ∈ lw_tbl ∧ (aY j2).name = "<init>" ∧ aRk j2 = 0 := by
  subst ha
  simp only [aCkB, Bool.and_eq_true, decide_eq_true_eq] at h
  obtain ⟨-, h⟩ := h
  split at h
  · rename_i heq
    cases heq
    simp only [Bool.and_eq_true, decide_eq_true_eq] at h
    obtain ⟨⟨⟨⟨⟨⟨⟨⟨-, hB⟩, hY⟩, h1⟩, h2⟩, h3⟩, h4⟩, h5⟩, h6⟩ := h
    exact ⟨bl_lt hB, bl_lt h6, hY, Or.inl (aTw_mem h1), aTw_mem h2, aTw_mem h3, h4, Nat.eq_of_beq_eq_true h5⟩
  · rename_i heq
    cases heq
    simp only [Bool.and_eq_true, decide_eq_true_eq] at h
    obtain ⟨⟨⟨⟨⟨⟨⟨⟨-, hB⟩, hY⟩, h1⟩, h2⟩, h3⟩, h4⟩, h5⟩, h6⟩ := h
    exact ⟨bl_lt hB, bl_lt h6, hY, Or.inr (aTw_mem h1), aTw_mem h2, aTw_mem h3, h4, Nat.eq_of_beq_eq_true h5⟩
  · rename_i heq
    cases heq
  · cases h
  · rename_i heq
    cases heq
  · rename_i hx1 hx2 hx3 hx4 hx5
    exact absurd rfl (hx4 _)
theorem ck_ob {j pc ln i : Nat} {an ps : List Nat} {cst : Int} (h : aCkB j (pc, .invokespecial i, ln, an, cst) = true) (ha : an = 2 :: ps) :
    Jvm.Cond.methodLink (aY j).cls i objectInit ∈ lw_tbl ∧ Jvm.Cond.instanceMethod objectInit ∈ lw_tbl := by
  subst ha
  simp only [aCkB, Bool.and_eq_true, decide_eq_true_eq] at h
  obtain ⟨-, h⟩ := h
  split at h
  · rename_i heq
    cases heq
  · rename_i heq
    cases heq
  · rename_i heq
    cases heq
    simp only [Bool.and_eq_true, decide_eq_true_eq] at h
    exact ⟨aTw_mem h.1, aTw_mem h.2⟩
  · rename_i heq
    cases heq
  · cases h
  · rename_i hx1 hx2 hx3 hx4 hx5
    exact absurd rfl (hx5 _)
/-- what the tables say of each kind of object -/
theorem cl_f {ci : Nat} (h : ci < 13) : aCl[ci]? = some (aCn ci) ∧ (aCn ci).2.2 = aNf ci ∧ (∀ w ∈ u_ws (aCn ci).1 (aCn ci).2.1 (aCn ci).2.2, w ∈ lw_tbl) ∧ (∀ k, k < (aCn ci).2.2 → parseFieldDescriptor ((aCn ci).2.1 k).2.2.1 = some (nth tyX0 aTyl ci k)) ∧ (∀ a, a < (aCn ci).2.2 → ∀ b, b < (aCn ci).2.2 → a ≠ b → ((aCn ci).2.1 a).2.1 ≠ ((aCn ci).2.1 b).2.1) := by
  match ci, h with
  | 0, _ => exact ⟨rfl, rfl, inX0, tyX0_ok, nmX0⟩
  | 1, _ => exact ⟨rfl, rfl, inX1, tyX1_ok, nmX1⟩
  | 2, _ => exact ⟨rfl, rfl, inX2, tyX2_ok, nmX2⟩
  | 3, _ => exact ⟨rfl, rfl, inX3, tyX3_ok, nmX3⟩
  | 4, _ => exact ⟨rfl, rfl, inX4, tyX4_ok, nmX4⟩
  | 5, _ => exact ⟨rfl, rfl, inX5, tyX5_ok, nmX5⟩
  | 6, _ => exact ⟨rfl, rfl, inX6, tyX6_ok, nmX6⟩
  | 7, _ => exact ⟨rfl, rfl, inX7, tyX7_ok, nmX7⟩
  | 8, _ => exact ⟨rfl, rfl, inX8, tyX8_ok, nmX8⟩
  | 9, _ => exact ⟨rfl, rfl, inX9, tyX9_ok, nmX9⟩
  | 10, _ => exact ⟨rfl, rfl, inX10, tyX10_ok, nmX10⟩
  | 11, _ => exact ⟨rfl, rfl, inX11, tyX11_ok, nmX11⟩
  | 12, _ => exact ⟨rfl, rfl, inX12, tyX12_ok, nmX12⟩
/-- kinds of fields as the types have them -/
def aKt (ty : FieldType) : Nat := match ty with
  | .int => 1
  | .long => 2
  | .boolean => 3
  | .object _ => 0
  | .array _ => 0
  | _ => 9
set_option maxRecDepth 100000 in
theorem cl_k : ∀ ci, ci < 13 → ∀ i, i < aNf ci → aKt (nth tyX0 aTyl ci i) = aFk ci i := by decide +kernel
theorem u_good {C : String} {T : u_T} {N : Nat} (w : Jvm.Cond) (h : w ∈ u_ws C T N) : goodWord w = true := by
  obtain ⟨k, -, rfl⟩ := List.mem_map.mp h
  unfold u_lay
  split <;> rfl
set_option maxRecDepth 100000 in
theorem rt_lt : ∀ k, k < aNC → ∀ i, i < aNf (aSh k).2.1 → aRt k i < aNC := by decide +kernel
end
