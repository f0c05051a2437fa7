section
def aKp (p : Program) (l : Launch) (e : Env) (R : Room) (s : State) (m : MethodId) (args : Array Value) (below : List Frame) (meth : Method) (c : Code) (b0 : Nat) (D : va_G) (cA : Nat → ClassId) (adK adV : Nat → Nat) (sc : Nat) (fv : Value) (sx : Int → Int) (sL : Int) (ml n0 s0 : Nat) (lm : Int × Int) (Z : State → Prop) : Bool → aK := fun ph pc ls st σ =>
  ∀ (H : Heap) (locs : List Loc) (LS : Array Slot), aRel b0 D cA sx sL ph σ H → va_S (fun q => b0 ≤ q) s.heap H locs → lv_has LS ml (aLv (aCv b0 adK adV sc fv) 0 ls) → ls.length = ml → aSo (aNn ph σ) ls → aSo (aNn ph σ) st →
    (n0 ≤ aNn ph σ ∧ s0 ≤ aSl ph σ ∧ aNn ph σ - n0 ≤ R.cells ∧ aSl ph σ - s0 ≤ R.slots ∧ (ph = false → s.heap.size = b0 + n0)) → W p l e R s m args below meth c H locs (aNn ph σ - n0) (aSl ph σ - s0) Z (F0 m pc LS (st.map (aCv b0 adK adV sc fv)))
theorem o32_b {f : Int32 → Int32 → Int32} {x y : Int} : Int32.ofInt (b32 f x y) = f (Int32.ofInt x) (Int32.ofInt y) := o32_back _
theorem o64_b {f : Int64 → Int64 → Int64} {x y : Int} : Int64.ofInt (b64 f x y) = f (Int64.ofInt x) (Int64.ofInt y) := o64_back _
theorem o32_c3 {x y : Int} (hx : r64 x) (hy : r64 y) : Int32.ofInt (c3 x y) = lg_cmp (Int64.ofInt x) (Int64.ofInt y) := by
  unfold c3 lg_cmp
  simp only [gt_iff_lt, o64_lt hy hx, o64_eq hx hy]
  by_cases h1 : y < x
  · rw [if_pos h1, if_pos h1]; decide
  · rw [if_neg h1, if_neg h1]
    by_cases h2 : x = y
    · rw [if_pos h2, if_pos h2]; decide
    · rw [if_neg h2, if_neg h2]; decide
theorem r32_0 : r32 0 := by unfold r32; omega
theorem r64_0 : r64 0 := by unfold r64; omega
theorem o32_0 : Int32.ofInt 0 = 0 := by decide
theorem o64_0 : Int64.ofInt 0 = 0 := by decide
theorem o32_z {y : Int} (hy : r32 y) (h : ¬ y = 0) : ¬ Int32.ofInt y = 0 := by
  rw [← o32_0, o32_eq hy r32_0]
  exact h
theorem o64_z {y : Int} (hy : r64 y) (h : ¬ y = 0) : ¬ Int64.ofInt y = 0 := by
  rw [← o64_0, o64_eq hy r64_0]
  exact h
theorem r32_b {f : Int32 → Int32 → Int32} {x y : Int} : r32 (b32 f x y) := r32_t _
theorem r64_b {f : Int64 → Int64 → Int64} {x y : Int} : r64 (b64 f x y) := r64_t _
theorem r32_c3 {x y : Int} : r32 (c3 x y) := by
  unfold c3 r32
  split
  · omega
  · split <;> omega
theorem lv_of {cv : aV → Value} {LS : Array Slot} {ml : Nat} {ls : List aV} {i : Nat} {v : aV} (h : lv_has LS ml (aLv cv 0 ls)) (hv : nth vt ls i = v) (ht : aIsT v = false) : LS[i]? = some (.val (cv v)) :=
  h.2.2 (i, cv v) ((aLv_mem _ _ _).mpr ⟨i, v, hv, ht, by rw [Nat.zero_add]⟩)
theorem so_nth {n : Nat} {ls : List aV} {i : Nat} {v : aV} (h : aSo n ls) (hv : nth vt ls i = v) (ht : aIsT v = false) : aOk v ∧ aOr n v := by
  rcases nth_in (ls := ls) (i := i) with h1 | h1
  · rw [h1] at hv
    subst hv
    cases ht
  · rw [hv] at h1
    exact h v h1
theorem aTb_of {w : Jvm.Cond} (h : w ∈ lw_tbl) (hg : goodWord w = true) : w ∈ aTb := List.mem_filter.mpr ⟨h, hg⟩
theorem tg_eq {pc : Nat} {off : Int} (h : aTgs pc off = true) : (pc : Int) + off = ((tg pc off : Nat) : Int) := by
  have : 0 ≤ (pc : Int) + off := of_decide_eq_true h
  unfold tg
  omega
theorem aSo_k {n n' : Nat} {st : List aV} (h : aSo n st) (hn : n ≤ n') : aSo n' st := by
  intro v hv
  obtain ⟨h1, h2⟩ := h v hv
  refine ⟨h1, ?_⟩
  rcases v with x | x | _ | k
  · trivial
  · trivial
  · trivial
  · rcases h2 with h2 | h2
    · exact Or.inl (by omega)
    · exact Or.inr h2
theorem lsw_of {K : aK} {pc : Nat} {x : Int} {ls st : List aV} {σ : aW} : ∀ (l : List (Int × Int)) (d : Int), oLsw K pc x ls st σ l d → (∀ q ∈ l, aTgs pc q.2 = true) → aTgs pc d = true → ∃ t, (pc : Int) + Op.lookupswitch.offset l d x = ((t : Nat) : Int) ∧ K t ls st σ
  | [], d, h, _, h2 => ⟨tg pc d, tg_eq h2, h⟩
  | (a, o) :: r, d, h, h1, h2 => by
    by_cases hx : x = a
    · refine ⟨tg pc o, ?_, h.1 hx⟩
      rw [show Op.lookupswitch.offset ((a, o) :: r) d x = o by simp [Op.lookupswitch.offset, hx]]
      exact tg_eq (h1 (a, o) List.mem_cons_self)
    · obtain ⟨t, q1, q2⟩ := lsw_of r d (h.2 hx) (fun q hq => h1 q (List.mem_cons_of_mem _ hq)) h2
      refine ⟨t, ?_, q2⟩
      rw [show Op.lookupswitch.offset ((a, o) :: r) d x = Op.lookupswitch.offset r d x by simp [Op.lookupswitch.offset, Ne.symm hx]]
      exact q1
theorem tsw_of {K : aK} {pc : Nat} {x : Int} {ls st : List aV} {σ : aW} : ∀ (l : List Int) (a d : Int), oTsw K pc x ls st σ a l d → ((x < a ∨ a + l.length ≤ x) ∧ K (tg pc d) ls st σ) ∨ ∃ (i : Nat) (o : Int), a + i = x ∧ l[i]? = some o ∧ K (tg pc o) ls st σ
  | [], a, d, h => Or.inl ⟨by simp; omega, h⟩
  | o :: r, a, d, h => by
    by_cases hx : x = a
    · exact Or.inr ⟨0, o, by omega, rfl, h.1 hx⟩
    · rcases tsw_of r (a + 1) d (h.2 hx) with ⟨h1, h2⟩ | ⟨i, o', h1, h2, h3⟩
      · refine Or.inl ⟨?_, h2⟩
        simp only [List.length_cons]
        omega
      · exact Or.inr ⟨i + 1, o', by omega, h2, h3⟩
theorem W_sz {p : Program} {l : Launch} {e : Env} {R : Room} {s : State} {m : MethodId} {args : Array Value} {below : List Frame} {meth : Method} {c : Code} {H : Heap} {locs : List Loc} {cells slots : Nat} {Q : State → Prop} {g : JFrame} (h : H.size ≤ s.heap.size + cells → W p l e R s m args below meth c H locs cells slots Q g) : W p l e R s m args below meth c H locs cells slots Q g :=
  fun T hT X => h (by rw [← hT]; exact X.same.2.2.1) T hT X
theorem wf_el {n : Nat} {σ : aW} {k kd : Nat} {L i : Int} (h : aWf n σ) (hk : k < n) (hs : aSh k = (kd, 0, L)) (h0 : 0 < kd) (h1 : 0 ≤ i) (h2 : i < L) : aRw kd (σ k i) := by
  have := h.2.1 k i hk (by rw [hs]; exact h0) h1 (by rw [hs]; exact h2)
  rw [hs] at this
  exact this
theorem wf_fd {n : Nat} {σ : aW} {k ci i : Nat} (h : aWf n σ) (hk : k < n) (hs : aSh k = (0, ci, 0)) (hi : i < aNf ci) : aRw (aFk ci i) (σ k i) := by
  have := h.1 k i hk (by rw [hs]) (by rw [hs]; exact hi)
  rw [hs] at this
  exact this
theorem cv_k {b0 : Nat} {adK adV : Nat → Nat} {sc : Nat} {fv : Value} {k : Nat} (h : k < 1000) : aCv b0 adK adV sc fv (vr k) = .ref (b0 + k) := by
  show (if k = 1300 then fv else Value.ref (aAd b0 adK adV sc k)) = _
  rw [if_neg (by omega), aAd, if_pos h]
theorem or_k {n k : Nat} (h : aOr n (vr k)) (hk : k < 1000) : k < n := by
  rcases h with h | h | h | h | h <;> omega
theorem bl_lt {a b : Nat} (h : Nat.blt a b = true) : a < b := Nat.le_of_ble_eq_true h
theorem aRw_32 {kd : Nat} {x : Int} (h : aRw kd x) (h1 : kd = 1 ∨ kd = 3 ∨ kd = 4 ∨ kd = 5) : r32 x := by
  rcases h1 with rfl | rfl | rfl | rfl
  · exact h
  · have h : x = 0 ∨ x = 1 := h
    constructor <;> omega
  · have h : -128 ≤ x ∧ x < 128 := h
    constructor <;> omega
  · have h : 0 ≤ x ∧ x < 65536 := h
    constructor <;> omega
theorem nar_z {x : Int} (h : x = 0 ∨ x = 1) : vp_nar .boolean (Int32.ofInt x) = Int32.ofInt x := by
  rcases h with rfl | rfl <;> decide
theorem nar_b {x : Int} (h : -128 ≤ x ∧ x < 128) : vp_nar .byte (Int32.ofInt x) = Int32.ofInt x := by
  rw [vp_nar_byte, o32_i2b ⟨by omega, by omega⟩]
  congr 1
  unfold w8
  rw [Int.bmod_def]
  split <;> omega
theorem nar_c {x : Int} (h : 0 ≤ x ∧ x < 65536) : vp_nar .char (Int32.ofInt x) = Int32.ofInt x := by
  rw [vp_nar_char]
  apply Int32.toInt_inj.mp
  rw [o32_t ⟨by omega, by omega⟩]
  have hx : Int32.ofInt x = nI x.toNat := by
    apply Int32.toInt_inj.mp
    rw [o32_t ⟨by omega, by omega⟩, nI_toInt (by omega)]
    omega
  have h3 := (pk_charN (q := x.toNat) (by omega)).1
  rw [hx]
  have h4 : vp_nar .char (nI x.toNat) = nI x.toNat := by
    unfold vp_nar
    rw [h3]
  rw [vp_nar_char] at h4
  rw [h4, nI_toInt (by omega)]
  omega
end
