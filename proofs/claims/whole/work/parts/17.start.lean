section
/-! THE CLAIM OUT OF ONE WALK OF THE LAW'S BODY. Your part is whole_start (and what it stands on); all else here is the same for every law, but numbers. -/
def R_law : String := "HeatTownLaw"
def lw_P (b : Addr) (xs : List Int32) (args : Array Value) (s : State) : Prop := args = #[.ref b] ∧ s.IntsAt b xs ∧ xs.length ≤ 4096 ∧ (Jvm.Cond.and given_1 narrow_1).before args s = true
def lw_Q (_ : Array Value) (s : State) (o : Outcome) (t : State) : Prop := o = .returned (some (.int 1)) ∧ Framed s o t [] 600000 7302249
def lw_Z (below : List Frame) (a : Array Value) (s : State) : State → Prop := fun t => ∃ o, t.status = .running ∧ Ended t below o ∧ lw_Q a s o t
/-- the law's own end, with 1 on the stack, nothing written that was there before, its room as the claim has it -/
theorem lw_ret {p : Program} {l : Launch} {e : Env} {s : State} {m : MethodId} {below : List Frame} {meth : Method} {c : Code} {b : Nat} (hx : p.tables.exec = Jvm.exec) (hb : c.code = code) (hr : meth.sig.returnType = ret) (hlocks : meth.locks = false) {pc : Nat} {H : Heap} {ls : Array Slot} (hdg : decode code pc = .ok (.ireturn, 1)) : W p l e room_1 s m #[Value.ref b] below meth c H [] 600000 7302249 (lw_Z below #[Value.ref b] s) (F0 m pc ls [.int 1]) := by
  intro T hT X
  obtain ⟨fs, hret, hrun, hended, hW, hframe⟩ := X.leave (v := some (.int 1)) (hlocks := hlocks) (fun h => by rw [hr] at h; cases h)
  have hmeth' : T.vm.method? m = some meth := X.method'
  refine ⟨T.setFrames fs, ?_, .returned (some (.int 1)), hrun, hended, rfl, ⟨_, rfl⟩, hW, hframe⟩
  jvm_step X.here [X.here.top, hx, hb, hdg, hmeth', hr, ret, narrow_b1]
  (try refine ⟨rfl, ?_⟩); (try refine ⟨rfl, ?_⟩)
  first | (intro acts; rw [hret _ acts rfl rfl rfl]) | rw [hret _ _ rfl rfl rfl]
  exact Steps.refl _
/-- what holds at the law's entry: the machine, the code, the tables' words (any of lw_tbl by 'hts w (by decide +kernel)'), the script of L ints xs at the cell b, what the Statement gives of the start (any of its parts by flat_of_before) -/
def lw_At (p : Program) (s : State) (m : MethodId) (meth : Method) (c : Code) (b L : Nat) (xs : Nat → Int32) : Prop :=
  p.tables.exec = Jvm.exec ∧ c.code = code ∧ meth.sig.returnType = ret ∧ c.maxLocals = 4 ∧ s.vm.findClass R_law = some m.cls ∧ (∀ w ∈ lw_tbl, w.before #[Value.ref b] s = true) ∧ va_X b L xs s s.heap ∧ b < s.heap.size ∧ meth.locks = false ∧ (Jvm.Cond.and given_1 narrow_1).before #[Value.ref b] s = true

/-! the law as a run of the abstract machine -/
def aS0 (sx : Int → Int) (sL : Int) : aW := fun k => if k = 1200 then sx else if k = 9999 then (fun i => if i = 2 then sL else 0) else fun _ => 0
def aLaw : Prop := ∀ (sx : Int → Int) (sL : Int), (∀ i, r32 (sx i)) → 0 ≤ sL → sL ≤ 4096 → aX (aEv 59) 60 (aNC, aSL) (aCd 276) 3 (fun r _ => r = some (vi 1)) false 0 [vr 1200, vt, vt, vt] [] (aS0 sx sL)
def aTm (i : Nat) : Term := .string (nth ("", 0, "") aSTN i).1 (nth ("", 0, "") aSTN i).2.1
def aFl : List Jvm.Cond := flatC (Jvm.Cond.and given_1 narrow_1)
set_option maxRecDepth 1000000 in
theorem fl_ex : ∀ i, i < 16 → Cond.exactly (aTm i) "java/lang/String" ∈ aFl := by decide +kernel
set_option maxRecDepth 1000000 in
theorem fl_co : ∀ i, i < 16 → Cond.eq (.field (aTm i) "java/lang/String" "coder" "B") (.int 0) ∈ aFl := by decide +kernel
set_option maxRecDepth 1000000 in
theorem fl_ar : ∀ i, i < 16 → Cond.arrayOf (.field (aTm i) "java/lang/String" "value" "[B") .byte ∈ aFl := by decide +kernel
set_option maxRecDepth 1000000 in
theorem fl_le : ∀ i, i < 16 → Cond.eq (.length (.field (aTm i) "java/lang/String" "value" "[B")) (.int (Int32.ofNat (aSln.getD i 0))) ∈ aFl := by decide +kernel
def aElp : List (List Nat) := [[13, 14, 15, 16, 17, 18, 19, 20, 21, 22, 23, 24, 25, 26, 27, 28, 29, 30, 31, 32, 33, 34, 35, 36, 37, 38, 39, 40, 41, 42, 43, 44, 45, 46, 47, 48, 49, 50, 51, 52, 53, 54, 55, 56, 57, 58, 59, 60, 61, 62, 63, 64, 65, 66, 67, 68, 69, 70, 71, 72, 73, 74, 75, 76, 77, 78, 79, 80], [85, 86, 87, 88, 89, 90, 91, 92, 93, 94], [100, 101, 102, 103], [110, 111, 112, 113], [121, 122, 123, 124, 125], [134, 135, 136, 137], [147, 148, 149], [160, 161, 162, 163], [175, 176, 177, 178, 179], [192, 193, 194, 195], [209, 210, 211, 212], [227, 228, 229, 230], [246, 247, 248, 249], [266, 267, 268, 269], [287, 288, 289], [308, 309]]
set_option maxRecDepth 1000000 in
theorem fl_el0 : ∀ i, i < 16 → ∀ j, j < aSln.getD i 0 → aGt aFl (nth 0 (nth [] aElp i) j) = some (Cond.eq (.elem (.field (aTm i) "java/lang/String" "value" "[B") (.int (Int32.ofNat j))) (.int ((aSby.getD i []).getD j 0))) := by decide +kernel
theorem fl_el : ∀ i, i < 16 → ∀ j, j < aSln.getD i 0 → Cond.eq (.elem (.field (aTm i) "java/lang/String" "value" "[B") (.int (Int32.ofNat j))) (.int ((aSby.getD i []).getD j 0)) ∈ aFl := fun i hi j hj => aGt_mem (fl_el0 i hi j hj)
def aNep0 : List (Nat × Nat × Nat) := [(0, 1, 95), (0, 2, 104), (0, 3, 114), (0, 4, 126), (0, 5, 138), (0, 6, 150), (0, 7, 164), (0, 8, 180), (0, 9, 196), (0, 10, 213), (0, 11, 231), (0, 12, 250), (0, 13, 270), (0, 14, 290), (0, 15, 310), (1, 2, 105), (1, 3, 115), (1, 4, 127), (1, 5, 139), (1, 6, 151), (1, 7, 165), (1, 8, 181), (1, 9, 197), (1, 10, 214), (1, 11, 232), (1, 12, 251), (1, 13, 271), (1, 14, 291), (1, 15, 311), (2, 3, 116)]
set_option maxRecDepth 1000000 in
theorem fl_ne0 : ∀ q ∈ aNep0, aGt aFl q.2.2 = some (Cond.not (Cond.eq (aTm q.1) (aTm q.2.1))) := by decide +kernel
def aNep1 : List (Nat × Nat × Nat) := [(2, 4, 128), (2, 5, 140), (2, 6, 152), (2, 7, 166), (2, 8, 182), (2, 9, 198), (2, 10, 215), (2, 11, 233), (2, 12, 252), (2, 13, 272), (2, 14, 292), (2, 15, 312), (3, 4, 129), (3, 5, 141), (3, 6, 153), (3, 7, 167), (3, 8, 183), (3, 9, 199), (3, 10, 216), (3, 11, 234), (3, 12, 253), (3, 13, 273), (3, 14, 293), (3, 15, 313), (4, 5, 142), (4, 6, 154), (4, 7, 168), (4, 8, 184), (4, 9, 200), (4, 10, 217)]
set_option maxRecDepth 1000000 in
theorem fl_ne1 : ∀ q ∈ aNep1, aGt aFl q.2.2 = some (Cond.not (Cond.eq (aTm q.1) (aTm q.2.1))) := by decide +kernel
def aNep2 : List (Nat × Nat × Nat) := [(4, 11, 235), (4, 12, 254), (4, 13, 274), (4, 14, 294), (4, 15, 314), (5, 6, 155), (5, 7, 169), (5, 8, 185), (5, 9, 201), (5, 10, 218), (5, 11, 236), (5, 12, 255), (5, 13, 275), (5, 14, 295), (5, 15, 315), (6, 7, 170), (6, 8, 186), (6, 9, 202), (6, 10, 219), (6, 11, 237), (6, 12, 256), (6, 13, 276), (6, 14, 296), (6, 15, 316), (7, 8, 187), (7, 9, 203), (7, 10, 220), (7, 11, 238), (7, 12, 257), (7, 13, 277)]
set_option maxRecDepth 1000000 in
theorem fl_ne2 : ∀ q ∈ aNep2, aGt aFl q.2.2 = some (Cond.not (Cond.eq (aTm q.1) (aTm q.2.1))) := by decide +kernel
def aNep3 : List (Nat × Nat × Nat) := [(7, 14, 297), (7, 15, 317), (8, 9, 204), (8, 10, 221), (8, 11, 239), (8, 12, 258), (8, 13, 278), (8, 14, 298), (8, 15, 318), (9, 10, 222), (9, 11, 240), (9, 12, 259), (9, 13, 279), (9, 14, 299), (9, 15, 319), (10, 11, 241), (10, 12, 260), (10, 13, 280), (10, 14, 300), (10, 15, 320), (11, 12, 261), (11, 13, 281), (11, 14, 301), (11, 15, 321), (12, 13, 282), (12, 14, 302), (12, 15, 322), (13, 14, 303), (13, 15, 323), (14, 15, 324)]
set_option maxRecDepth 1000000 in
theorem fl_ne3 : ∀ q ∈ aNep3, aGt aFl q.2.2 = some (Cond.not (Cond.eq (aTm q.1) (aTm q.2.1))) := by decide +kernel
theorem fl_neA : ∀ q ∈ aNep0 ++ aNep1 ++ aNep2 ++ aNep3, Cond.not (Cond.eq (aTm q.1) (aTm q.2.1)) ∈ aFl := by
  intro q hq
  simp only [List.mem_append] at hq
  rcases hq with ((h | h) | h) | h
  · exact aGt_mem (fl_ne0 q h)
  · exact aGt_mem (fl_ne1 q h)
  · exact aGt_mem (fl_ne2 q h)
  · exact aGt_mem (fl_ne3 q h)
set_option maxRecDepth 1000000 in
theorem fl_neB : ∀ i, i < 16 → ∀ j, j < 16 → i ≠ j → ((∃ q ∈ aNep0 ++ aNep1 ++ aNep2 ++ aNep3, q.1 = i ∧ q.2.1 = j) ∨ (∃ q ∈ aNep0 ++ aNep1 ++ aNep2 ++ aNep3, q.1 = j ∧ q.2.1 = i)) := by decide +kernel
theorem fl_ne (i : Nat) (hi : i < 16) (j : Nat) (hj : j < 16) (hn : i ≠ j) : (Cond.not (Cond.eq (aTm i) (aTm j)) ∈ aFl ∨ Cond.not (Cond.eq (aTm j) (aTm i)) ∈ aFl) := by
  rcases fl_neB i hi j hj hn with ⟨q, hq, rfl, rfl⟩ | ⟨q, hq, rfl, rfl⟩
  · exact Or.inl (fl_neA q hq)
  · exact Or.inr (fl_neA q hq)
set_option maxRecDepth 1000000 in
theorem fl_cs : Cond.eq (.static "java/lang/String" "COMPACT_STRINGS" "Z") (.int 1) ∈ aFl := by decide +kernel
set_option maxRecDepth 1000000 in
theorem fl_sf : Cond.isRef (.static "jdk/internal/util/Preconditions" "SIOOBE_FORMATTER" "Ljava/util/function/BiFunction;") ∈ aFl := by decide +kernel
set_option maxRecDepth 1000000 in
theorem tb_sr : ∀ i, i < 16 → Cond.stringRef (nth ("", 0, "") aSTN i).1 (nth ("", 0, "") aSTN i).2.1 (nth ("", 0, "") aSTN i).2.2 ∈ lw_tbl := by decide +kernel
set_option maxRecDepth 1000000 in
theorem tb_in : ∀ ci, ci < 13 → Cond.instantiable (aCn ci).1 (aCn ci).2.2 ∈ lw_tbl := by decide +kernel
set_option maxRecDepth 1000000 in
theorem tb_w : Cond.laysStatic "java/lang/String" "COMPACT_STRINGS" "Z" ∈ lw_tbl ∧ Cond.laysStatic "jdk/internal/util/Preconditions" "SIOOBE_FORMATTER" "Ljava/util/function/BiFunction;" ∈ lw_tbl ∧ Cond.initialized "java/lang/String" ∈ lw_tbl ∧ Cond.initialized "jdk/internal/util/Preconditions" ∈ lw_tbl ∧ Cond.arrayClass .int ∈ lw_tbl ∧ Cond.arrayClass .long ∈ lw_tbl ∧ Cond.arrayClass .boolean ∈ lw_tbl ∧ Cond.arrayClass .byte ∈ lw_tbl ∧ Cond.arrayClass .char ∈ lw_tbl := by decide +kernel
theorem ac_of {s : State} {args : Array Value} {ty : FieldType} (h : (Cond.arrayClass ty).before args s = true) (hp : ∀ C, ty ≠ .object C) : ∃ cA : ClassId, ArrOfT s cA ty ∧ va_RA s cA ty := by
  obtain ⟨c, k, comp, h1, h2, h3⟩ := Cond.arrayClass_spec (show (Cond.arrayClass ty).holds _ _ _ _ _ = true from h)
  refine ⟨c, fun n z => ⟨fun k h => (by cases h), k, h2, comp, h3⟩, ?_⟩
  cases ty <;> first | exact absurd rfl (hp _) | exact h1
set_option maxHeartbeats 4000000 in
set_option maxRecDepth 100000 in
theorem start_of (hlaw : aLaw) {p : Program} {e : Env} {s : State} {m : MethodId} {below : List Frame} {meth : Method} {c : Code} (l : Launch) {b L : Nat} {xs : Nat → Int32} (hL : L ≤ 4096) (C0 : lw_At p s m meth c b L xs) : W p l e room_1 s m #[Value.ref b] below meth c s.heap [] 0 0 (lw_Z below #[Value.ref b] s) (entryFrame m ([Value.ref b] : List Value).toArray 4) := by
  obtain ⟨hx, hb, hr, hml, hown, hts, hX, hbl, hlocks, hgv⟩ := C0
  have hfl : ∀ c ∈ aFl, c.before #[Value.ref b] s = true := flat_of_before _ hgv
  have hA : ∀ a : Nat, a < s.heap.size → ¬ s.heap.size ≤ a := fun a h => Nat.not_le.mpr h
  obtain ⟨adK, adV, hStr, hEv⟩ := vk_Sof (A := fun q : Nat => s.heap.size ≤ q) (tm := aTm) (len := aSln) (byt := aSby) (N := 16) (fun i _ => by rw [str_len]; have := str_r i; omega) (fun i hi => hfl _ (fl_ex i hi)) (fun i hi => hfl _ (fl_co i hi)) (fun i hi => hfl _ (fl_ar i hi)) (fun i hi => hfl _ (fl_le i hi)) (fun i hi j hj => hfl _ (fl_el i hi j hj))
    (fun i j hi hj hn => (fl_ne i hi j hj hn).elim (fun h => Or.inl (hfl _ h)) (fun h => Or.inr (hfl _ h))) hA
  obtain ⟨t1, t2, t3, t4, t5, t6, t7, t8, t9⟩ := tb_w
  have hZc := va_Zof (A := fun q : Nat => s.heap.size ≤ q) (hts _ t1) (hts _ t3) (va_eqi (hfl _ fl_cs)) hA
  have hZq := va_Zqof (A := fun q : Nat => s.heap.size ≤ q) (hts _ t2) (hts _ t4) (hfl _ fl_sf) hA
  obtain ⟨fv, hZf, hfv⟩ : ∃ fv : Value, va_Z "jdk/internal/util/Preconditions" "SIOOBE_FORMATTER" "Ljava/util/function/BiFunction;" fv (fun q => s.heap.size ≤ q) s s.heap ∧ fv.category = 1 := by
    rcases hZq with h | ⟨t, h⟩
    · exact ⟨_, h, rfl⟩
    · exact ⟨_, h, rfl⟩
  have hcl : ∀ ci, ∃ (q : ClassId × (Nat → Nat)), ci < 13 → u_Kn s (aCn ci).1 (aCn ci).2.1 (aCn ci).2.2 q.1 q.2 := by
    intro ci
    by_cases h : ci < 13
    · obtain ⟨f1, f2, f3, -⟩ := cl_f h
      obtain ⟨cC, iS, hk⟩ := u_known (ws := lw_tbl) hts f3 (hts _ (tb_in ci h))
      exact ⟨(cC, iS), fun _ => hk⟩
    · exact ⟨(0, fun _ => 0), fun z => absurd z h⟩
  obtain ⟨a1, h1, h1b⟩ := ac_of (hts _ t5) (fun C h => by cases h)
  obtain ⟨a2, h2, h2b⟩ := ac_of (hts _ t6) (fun C h => by cases h)
  obtain ⟨a3, h3, h3b⟩ := ac_of (hts _ t7) (fun C h => by cases h)
  obtain ⟨a4, h4, h4b⟩ := ac_of (hts _ t8) (fun C h => by cases h)
  obtain ⟨a5, h5, h5b⟩ := ac_of (hts _ t9) (fun C h => by cases h)
  have hK : va_K (fun ci => (Classical.choose (hcl ci)).1, fun ci => (Classical.choose (hcl ci)).2) aCl (aTys (fun kd => nth 0 [0, a1, a2, a3, a4, a5] kd)) s := by
    refine ⟨fun ci q hq => ?_, fun k q hq => ?_⟩
    · have hci : ci < 13 := (List.getElem?_eq_some_iff.mp hq).1
      obtain ⟨f1, -⟩ := cl_f hci
      rw [f1] at hq
      cases hq
      exact Classical.choose_spec (hcl ci) hci
    · match k, hq with
      | 0, hq => cases hq; exact ⟨h1, h1b⟩
      | 1, hq => cases hq; exact ⟨h2, h2b⟩
      | 2, hq => cases hq; exact ⟨h3, h3b⟩
      | 3, hq => cases hq; exact ⟨h4, h4b⟩
      | 4, hq => cases hq; exact ⟨h5, h5b⟩
      | k + 5, hq => simp [aTys] at hq
  generalize (fun ci => (Classical.choose (hcl ci)).1, fun ci => (Classical.choose (hcl ci)).2) = D at hK
  generalize (fun kd => nth 0 [0, a1, a2, a3, a4, a5] kd) = cA at hK
  have hXs : va_X b ((L : Nat) : Int).toNat (fun j => Int32.ofInt ((fun i : Int => (xs i.toNat).toInt) j)) s s.heap := by
    have e : (fun j : Nat => Int32.ofInt ((fun i : Int => (xs i.toNat).toInt) j)) = xs := by
      funext j
      exact o32_back _
    rw [e]
    exact hX
  have hSt : aSta s.heap.size D cA adK adV b fv (fun i : Int => (xs i.toNat).toInt) (L : Nat) s :=
    ⟨hK, fun w hw => va_Nw.of (by
        obtain ⟨-, h⟩ := List.mem_filter.mp hw
        cases w <;> first | rfl | (simp at h)) (hts w (List.mem_filter.mp hw).1), hStr, fun t ht => vk_R.of (hts _ (tb_sr t ht)) (hEv t ht), hZc, hZf, hXs, ⟨hbl, Nat.le_refl _⟩, hfv⟩
  have hlen : ([vr 1200, vt, vt, vt] : List aV).length = aMl 276 := rfl
  have hl := lv_entry ([Value.ref b]) (n := 4) (Nat.le_of_ble_eq_true rfl)
  rw [lg_entry_eq]
  generalize (lg_sl [Value.ref b] ++ List.replicate (4 - (lg_sl [Value.ref b]).length) Slot.unset).toArray = LS at hl ⊢
  have e9 : (aS0 (fun i : Int => (xs i.toNat).toInt) (L : Nat)) 9999 0 = 0 := rfl
  have e91 : (aS0 (fun i : Int => (xs i.toNat).toInt) (L : Nat)) 9999 1 = 0 := rfl
  have hn0 : aNn false (aS0 (fun i : Int => (xs i.toNat).toInt) (L : Nat)) = 0 := rfl
  have hs0 : aSl false (aS0 (fun i : Int => (xs i.toNat).toInt) (L : Nat)) = 0 := rfl
  have hR : aRel s.heap.size D cA (fun i : Int => (xs i.toNat).toInt) (L : Nat) false (aS0 (fun i : Int => (xs i.toNat).toInt) (L : Nat)) s.heap := by
    refine ⟨?_, by rw [hn0]; exact Nat.zero_le _, ⟨fun k i h => by rw [hn0] at h; omega, fun k i h => by rw [hn0] at h; omega, fun i => r32_t _, ?_, ?_⟩, ⟨by rw [e9]; omega, by rw [e91]; omega, fun k i h => by rw [e9] at h; omega⟩, rfl, rfl⟩
    · rw [hn0]
      intro k q hq
      simp [aWs] at hq
    · show (0 : Int) ≤ ((L : Nat) : Int)
      omega
    · show ((L : Nat) : Int) ≤ 4096
      omega
  have hW := hlaw (fun i : Int => (xs i.toNat).toInt) (L : Nat) (fun i => r32_t _) (by omega) (by omega)
    (aKp p l e room_1 s m #[Value.ref b] below meth c s.heap.size D cA adK adV b fv (fun i : Int => (xs i.toNat).toInt) (L : Nat) (aMl 276) 0 0 false (lw_Z below #[Value.ref b] s))
    (snd_step (j := 276) (n0 := 0) (s0 := 0) hx hb hml hown (fun w hw => hts w (List.mem_filter.mp hw).1) ?_ hSt (show 60 ≤ 2048 by decide) (show 64 * 60 ≤ 84000 by decide) (by decide) (fun ph j2 as σ Q2 h _ _ => ⟨59, rfl, snd_ev l 59 ph j2 as σ Q2 h⟩)
      (fun ph' pc v σ' H locs LS hd hrg h32 hq hR' hS' hph hsl => ?_) (fun ph' pc v σ' H locs LS hd hrg => by cases hrg) (fun ph' pc σ' H locs LS hd hrg => by cases hrg)) s.heap [] LS hR va_S.rf ?_ hlen ?_ (fun w hw => by cases hw) ⟨Nat.zero_le _, Nat.zero_le _, Nat.zero_le _, Nat.zero_le _, fun _ => ⟨rfl, rfl⟩⟩
  · exact hW
  · exact fun z => absurd z (by decide)
  · cases hq
    refine va_forget (fun q hq => hS'.2.2 q hq) (W.widen (k := 600000) (n := 7302249) ?_ ?_ (lw_ret hx hb hr hlocks hd))
    · have := hR'.2.1
      have hNC : aNC = 146 := rfl
      omega
    · exact hsl
  · exact lv_mono hl (fun q hq => hq)
  · intro v hv
    rcases List.mem_cons.mp hv with rfl | hv
    · exact ⟨trivial, Or.inr (Or.inr (Or.inr (Or.inl rfl)))⟩
    · have : v = vt := by simpa using hv
      subst this
      exact ⟨trivial, trivial⟩
end
