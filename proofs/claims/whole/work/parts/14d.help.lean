section
theorem nth_getD {α : Type} (d : α) : ∀ (l : List α) (n : Nat), l.getD n d = nth d l n
  | [], n => by simp [nth]
  | a :: l, 0 => rfl
  | a :: l, n + 1 => by
    have := nth_getD d l n
    simpa [nth] using this
theorem nth_map {α β : Type} (f : α → β) (d : α) : ∀ (l : List α) (n : Nat), nth (f d) (l.map f) n = f (nth d l n)
  | [], n => rfl
  | a :: l, 0 => rfl
  | a :: l, n + 1 => nth_map f d l n
theorem str_len (k : Nat) : aSln.getD k 0 = (nth [] aSTR k).length := by
  rw [nth_getD]
  exact nth_map List.length [] aSTR k
theorem str_byt (k n : Nat) : (aSby.getD k []).getD n 0 = Int32.ofInt (nth 0 (nth [] aSTR k) n) := by
  rw [nth_getD, nth_getD]
  have h1 : nth [] aSby k = (nth [] aSTR k).map Int32.ofInt := nth_map (fun l : List Int => l.map Int32.ofInt) [] aSTR k
  rw [h1]
  exact nth_map Int32.ofInt 0 _ n
set_option maxRecDepth 100000 in
theorem str_rng : ∀ l ∈ aSTR, l.length < 1000 ∧ ∀ x ∈ l, 0 ≤ x ∧ x < 128 := by decide +kernel
theorem str_r (k : Nat) : (nth [] aSTR k).length < 1000 := by
  by_cases h : nth [] aSTR k = []
  · rw [h]; decide
  · exact (str_rng _ (nth_mem rfl h)).1
theorem str_b (k n : Nat) : 0 ≤ nth 0 (nth [] aSTR k) n ∧ nth 0 (nth [] aSTR k) n < 128 := by
  by_cases h0 : nth 0 (nth [] aSTR k) n = 0
  · rw [h0]; decide
  · have h1 := nth_mem (l := nth [] aSTR k) (n := n) (d := 0) rfl h0
    by_cases h : nth [] aSTR k = []
    · rw [h] at h1
      cases h1
    · exact (str_rng _ (nth_mem rfl h)).2 _ h1
theorem cv_t {b0 : Nat} {adK adV : Nat → Nat} {sc : Nat} {fv : Value} {k : Nat} (h : k < 16) : aCv b0 adK adV sc fv (vr (1000 + k)) = .ref (adK k) := by
  show (if 1000 + k = 1300 then fv else Value.ref (aAd b0 adK adV sc (1000 + k))) = _
  rw [if_neg (by omega), aAd, if_neg (by omega), if_pos (by omega), show 1000 + k - 1000 = k by omega]
theorem cv_v {b0 : Nat} {adK adV : Nat → Nat} {sc : Nat} {fv : Value} {k : Nat} (h : k < 16) : aCv b0 adK adV sc fv (vr (1100 + k)) = .ref (adV k) := by
  show (if 1100 + k = 1300 then fv else Value.ref (aAd b0 adK adV sc (1100 + k))) = _
  rw [if_neg (by omega), aAd, if_neg (by omega), if_neg (by omega), if_pos (by omega), show 1100 + k - 1100 = k by omega]
theorem wb_ldcw {p : Program} {l : Launch} {e : Env} {R : Room} {s : State} {m : MethodId} {args : Array Value} {below : List Frame} {meth : Method} {c : Code} {H : Heap} {locs : List Loc} {cells slots : Nat} {Q : State → Prop} {cc : ByteArray} {pc : Nat} {ls : Array Slot} {rest : List Value} (hexec : p.tables.exec = Jvm.exec) (hb : c.code = cc) {own tx : String} {index q : Nat} (hown : s.vm.findClass own = some m.cls) (hZ : vk_R own index tx q s) (hdg : decode cc pc = .ok (.ldc_w index, 3))
    (k : W p l e R s m args below meth c H locs cells slots Q (F0 m (pc + 3) ls (.ref q :: rest))) : W p l e R s m args below meth c H locs cells slots Q (F0 m pc ls rest) := by
  intro T hT X
  obtain ⟨t, a1, b1⟩ := k T hT X
  refine ⟨t, ?_, b1⟩
  obtain ⟨k, cf, i, a', hk, hcf, hcp, -, hr, hev'⟩ := Cond.stringRef_spec hown hZ.1
  cases hZ.2.symm.trans hev'
  obtain ⟨k', hk', he⟩ := X.warmed.alike.2.2 _ _ hk
  have hr' : k'.resolved[index]? = some (some (.string q)) := by
    rcases X.warmed.entry hk hk' index with h | ⟨h, -⟩
    · rw [h]; exact hr
    · rw [hr] at h; cases h
  subst hb
  jvm_step X.here [hexec, hdg, ldc_w.wp_string (e := e) (s := T) (f := F0 m pc ls rest) X.here.top hk' (by rw [he]; exact hcf) hcp hr']
  exact a1
set_option maxRecDepth 100000 in
theorem sh_all : ∀ k, k < aNC → (aSh k).1 ≤ 5 ∧ 0 ≤ (aSh k).2.2 ∧ (aSh k).2.2 < 100000 := by decide +kernel
theorem o32_n {L : Int} (h : 0 ≤ L) (h2 : L < 100000) : Int32.ofNat L.toNat = Int32.ofInt L := by
  apply Int32.toInt_inj.mp
  rw [o32_t ⟨by omega, by omega⟩]
  have := nI_toInt (n := L.toNat) (by omega)
  unfold nI at this
  rw [this]
  omega
set_option maxRecDepth 100000 in
theorem ml_all : ∀ j, j < 277 → aMl j ≤ 20 := by decide +kernel
theorem gd_in {ws : List Jvm.Cond} (h : ∀ w ∈ ws, w ∈ aTb) : GoodIn aTb ws := fun w hw => ⟨h w hw, good_of_word (List.mem_filter.mp (h w hw)).2⟩
theorem gd_wd {j : Nat} (hj : j < 276) : GoodIn aTb (aWd j) := gd_in (fun w hw => by
  rcases List.mem_cons.mp hw with rfl | hw
  · exact aTb_of (cw_all j hj) rfl
  · exact hw)
theorem aArg_len : ∀ (as : List aV), (aArg as).length = (as.map aCat).sum
  | [] => rfl
  | v :: l => by
    have ih := aArg_len l
    rw [List.map_cons, List.sum_cons, ← ih, show aArg (v :: l) = bif aIsL v then v :: vt :: aArg l else v :: aArg l from rfl]
    cases h : aIsL v with
    | true =>
      have e : aCat v = 2 := by unfold aCat; rw [h]; rfl
      rw [e, cond_true, List.length_cons, List.length_cons]
      omega
    | false =>
      have e : aCat v = 1 := by unfold aCat; rw [h]; rfl
      rw [e, cond_false, List.length_cons]
      omega
theorem cat_sum {cv : aV → Value} (hc : ∀ w, (cv w).category = aCat w) : ∀ (st : List aV), ((st.map cv).map fun v => v.category).sum = (st.map aCat).sum
  | [] => rfl
  | v :: l => by
    simp only [List.map_cons, List.sum_cons, hc, cat_sum hc l]
theorem aPc_bl {b0 : Nat} {D : va_G} {cA : Nat → ClassId} {adK adV : Nat → Nat} {sc : Nat} {fv : Value} {sx : Int → Int} {sL : Int} {ph : Bool} {as : List aV} {σ : aW} : FrameBlind (aPc b0 D cA adK adV sc fv sx sL ph as σ) := by
  intro a U g mk h
  obtain ⟨h1, h2, h3, h4⟩ := h
  exact ⟨h1, h2, aSta_bl h3 rfl rfl, h4⟩
/-- behind a call -/
theorem wb_call {p : Program} {l : Launch} {e : Env} {R : Room} {s : State} {m : MethodId} {args : Array Value} {below : List Frame} {meth : Method} {c : Code} {b0 : Nat} {D : va_G} {cA : Nat → ClassId} {adK adV : Nat → Nat} {sc : Nat} {fv : Value} {sx : Int → Int} {sL : Int} {ml n0 s0 pc j2 : Nat} {ph0 : Bool} {Z : State → Prop} {ph : Bool} {σ : aW} {H : Heap} {locs : List Loc} {LS : Array Slot} {ls st' : List aV} {st0 : List Value} {a : Array Value} {K2 : aQ}
    (hr : va_Run p l e R s m args below meth c H locs (aNn ph σ - n0) (aSl ph σ - s0) (aMc ph j2) (aMs ph j2) (F0 m pc LS st0) (st'.map (aCv b0 adK adV sc fv)) (aQc b0 D cA adK adV sc fv sx sL ph j2 σ K2 a) (fun q => b0 ≤ q))
    (hS : va_S (fun q => b0 ≤ q) s.heap H locs) (hL : lv_has LS ml (aLv (aCv b0 adK adV sc fv) 0 ls)) (hlen : ls.length = ml) (hls : aSo (aNn ph σ) ls) (hst : aSo (aNn ph σ) st')
    (hn : n0 ≤ aNn ph σ ∧ s0 ≤ aSl ph σ ∧ aNn ph σ - n0 ≤ R.cells ∧ aSl ph σ - s0 ≤ R.slots ∧ (ph = false → ph0 = false ∧ s.heap.size = b0 + n0)) (hfit : aNn ph σ - n0 + aMc ph j2 ≤ R.cells ∧ aSl ph σ - s0 + aMs ph j2 ≤ R.slots)
    (hk : ∀ r σ', K2 r σ' → aKp p l e R s m args below meth c b0 D cA adK adV sc fv sx sL ml n0 s0 ph0 Z ph (pc + 3) ls (r.toList ++ st') σ') : W p l e R s m args below meth c H locs (aNn ph σ - n0) (aSl ph σ - s0) Z (F0 m pc LS st0) := by
  intro T hT X
  obtain ⟨v, st₀, t, T', L, h0, X', hLo, e1, e2, ⟨r, σ', hv, hq, hso, hrel, ⟨n1, n2⟩, hfr⟩, st⟩ := hr T hT X
  have hv2 : v = r.map (aCv b0 adK adV sc fv) := by
    injection hv
  subst hv2
  have hsz : s.heap.size ≤ T'.heap.size := X'.same.2.1
  have hS' : va_S (fun q => b0 ≤ q) s.heap T'.heap (locs ++ L) := by
    refine ⟨hsz, fun q h1 h2 => ?_, fun q hq2 => ?_⟩
    · rw [e1, hfr q (by omega), h0]
      exact hS.2.1 q h1 h2
    · rcases List.mem_append.mp hq2 with h | h
      · exact hS.2.2 q h
      · exact hLo q h
  have g1 : aNn ph σ' - n0 = aNn ph σ - n0 + aMc ph j2 := by omega
  have g2 : aSl ph σ' - s0 = aSl ph σ - s0 + aMs ph j2 := by omega
  have h5 := hk r σ' hq T'.heap (locs ++ L) LS (by rw [e1]; exact hrel) hS' hL hlen (aSo_k hls (by omega)) (fun w hw => by
    rcases List.mem_append.mp hw with h | h
    · exact aSo_k hso (Nat.zero_le _) w h
    · exact aSo_k hst (by omega) w h) ⟨by omega, by omega, by omega, by omega, hn.2.2.2.2⟩
  rw [g1, g2] at h5
  obtain ⟨t2, a1, b1⟩ := h5 T' rfl X'
  refine ⟨t2, st t2 ?_, b1⟩
  have g3 : ((r.toList ++ st').map (aCv b0 adK adV sc fv)) = (r.map (aCv b0 adK adV sc fv)).toList ++ st'.map (aCv b0 adK adV sc fv) := by
    cases r <;> rfl
  rw [g3] at a1
  exact a1
theorem nf_z {z : Int} (h : z = 0 ∨ z = 1) : narrow .boolean (.int (Int32.ofInt z)) = .int (Int32.ofInt z) ∧ fits .boolean (.int (Int32.ofInt z)) = true := by
  rcases h with rfl | rfl <;> exact ⟨by decide, by decide⟩
theorem fit_of {ph : Bool} {σ : aW} {n0 s0 j2 : Nat} {lm : Int × Int} {R : Room} (hq : aRef ph σ) (hfit : aFit ph lm σ (aMk j2)) (hlm : lm.1 ≤ n0 + R.cells ∧ lm.2 ≤ s0 + R.slots)
    (hn : n0 ≤ aNn ph σ ∧ s0 ≤ aSl ph σ ∧ aNn ph σ - n0 ≤ R.cells ∧ aSl ph σ - s0 ≤ R.slots) : aNn ph σ - n0 + aMc ph j2 ≤ R.cells ∧ aSl ph σ - s0 + aMs ph j2 ≤ R.slots := by
  cases ph with
  | true => exact ⟨hn.2.2.1, hn.2.2.2⟩
  | false =>
    have g1 : aNn false σ = (σ 9999 0).toNat := rfl
    have g2 : aSl false σ = (σ 9999 1).toNat := rfl
    have g3 : aMc false j2 = (aMk j2).1 := rfl
    have g4 : aMs false j2 = (aMk j2).2 := rfl
    have hfit : σ 9999 0 + (aMk j2).1 ≤ lm.1 ∧ σ 9999 1 + (aMk j2).2 ≤ lm.2 := hfit
    have q1 : 0 ≤ σ 9999 0 := hq.1
    have q2 : 0 ≤ σ 9999 1 := hq.2.1
    rw [g1, g2] at hn
    rw [g1, g2, g3, g4]
    omega
theorem rm_of {ph : Bool} {R : Room} {lv d j2 : Nat} (hRf : lv ≤ R.frames) (hRl : 64 * lv ≤ R.locals) (hlv : lv = d + 1) (hj : j2 < 276) : (aRm ph d j2).frames + 1 ≤ R.frames ∧ 8 + (aMl j2 + 11) + (aRm ph d j2).locals ≤ R.locals := by
  have h1 := ml_all j2 (by omega)
  have g1 : (aRm ph d j2).frames = d := rfl
  have g2 : (aRm ph d j2).locals = 64 * d := rfl
  rw [g1, g2]
  omega
theorem pre_of {b0 : Nat} {D : va_G} {cA : Nat → ClassId} {adK adV : Nat → Nat} {sc : Nat} {fv : Value} {sx : Int → Int} {sL : Int} {ph : Bool} {as : List aV} {σ : aW} {s U : State} {H : Heap} {locs : List Loc} {n0 : Nat} (hR : aRel b0 D cA sx sL ph σ H) (hSt : aSta b0 D cA adK adV sc fv sx sL s) (hS : va_S (fun q => b0 ≤ q) s.heap H locs)
    (hsz : H.size ≤ s.heap.size + (aNn ph σ - n0)) (hn : n0 ≤ aNn ph σ) (h0 : ph = false → s.heap.size = b0 + n0) (hU : U.heap = H) (hW : s.WarmedH U.vm) : aPc b0 D cA adK adV sc fv sx sL ph as σ (as.map (aCv b0 adK adV sc fv)).toArray U := by
  refine ⟨rfl, by rw [hU]; exact hR, aSta_mv hSt hW (by rw [hU]; exact hS.1) (fun q hq => by rw [hU]; exact hS.2.1 q (Nat.lt_of_lt_of_le hq hSt.2.2.2.2.2.2.2.1.2) (by omega)), fun hph => ?_⟩
  have g0 := h0 hph
  rw [hU]
  have g1 := hS.1
  by_cases hz : aNn ph σ = 0
  · omega
  · have g2 := (hR.1 (aNn ph σ - 1) _ (aWs_get (by omega))).lt
    have g2 : b0 + (aNn ph σ - 1) < H.size := g2
    omega
theorem st_map {cv : aV → Value} {v : aV} {as st' : List aV} : ((v :: as).reverse ++ st').map cv = (as.map cv).reverse ++ cv v :: st'.map cv := by
  simp [List.map_append, List.map_reverse]
theorem st_map2 {cv : aV → Value} {as st' : List aV} : (as.reverse ++ st').map cv = (as.map cv).reverse ++ st'.map cv := by
  simp [List.map_append, List.map_reverse]
set_option maxRecDepth 100000 in
theorem ob_code : Jvm.Cond.code objectInit ⟨#[0xb1]⟩ 1 none ∈ lw_tbl := by decide +kernel
theorem o32_max {x y : Int} (hx : r32 x) (hy : r32 y) : (if Int32.ofInt x < Int32.ofInt y then Int32.ofInt y else Int32.ofInt x) = Int32.ofInt (max x y) := by
  by_cases h : x < y
  · rw [if_pos ((o32_lt hx hy).mpr h), show max x y = y by omega]
  · rw [if_neg (fun z => h ((o32_lt hx hy).mp z)), show max x y = x by omega]
theorem o32_min {x y : Int} (hx : r32 x) (hy : r32 y) : (if Int32.ofInt y < Int32.ofInt x then Int32.ofInt y else Int32.ofInt x) = Int32.ofInt (min x y) := by
  by_cases h : y < x
  · rw [if_pos ((o32_lt hy hx).mpr h), show min x y = y by omega]
  · rw [if_neg (fun z => h ((o32_lt hy hx).mp z)), show min x y = x by omega]
theorem o64_max {x y : Int} (hx : r64 x) (hy : r64 y) : (if Int64.ofInt y < Int64.ofInt x then Int64.ofInt x else Int64.ofInt y) = Int64.ofInt (max x y) := by
  by_cases h : y < x
  · rw [if_pos ((o64_lt hy hx).mpr h), show max x y = x by omega]
  · rw [if_neg (fun z => h ((o64_lt hy hx).mp z)), show max x y = y by omega]
theorem o64_min {x y : Int} (hx : r64 x) (hy : r64 y) : (if Int64.ofInt y < Int64.ofInt x then Int64.ofInt y else Int64.ofInt x) = Int64.ofInt (min x y) := by
  by_cases h : y < x
  · rw [if_pos ((o64_lt hy hx).mpr h), show min x y = y by omega]
  · rw [if_neg (fun z => h ((o64_lt hy hx).mp z)), show min x y = x by omega]
theorem o32_abs {x : Int} (hx : r32 x) : (if 0 ≤ Int32.ofInt x then Int32.ofInt x else 0 - Int32.ofInt x) = Int32.ofInt (w32 (if 0 ≤ x then x else -x)) := by
  have h0 : (0 ≤ Int32.ofInt x) ↔ 0 ≤ x := by rw [← o32_0]; exact o32_le r32_0 hx
  by_cases h : 0 ≤ x
  · rw [if_pos (h0.mpr h), if_pos h, o32_w]
  · rw [if_neg (fun z => h (h0.mp z)), if_neg h, ← o32_0, o32_sub, o32_w, o32_w]
    congr 1
    omega
theorem r32_max {x y : Int} (hx : r32 x) (hy : r32 y) : r32 (max x y) := by unfold r32 at *; omega
theorem r32_min {x y : Int} (hx : r32 x) (hy : r32 y) : r32 (min x y) := by unfold r32 at *; omega
theorem r64_max {x y : Int} (hx : r64 x) (hy : r64 y) : r64 (max x y) := by unfold r64 at *; omega
theorem r64_min {x y : Int} (hx : r64 x) (hy : r64 y) : r64 (min x y) := by unfold r64 at *; omega
theorem rw_0 (kd : Nat) : aRw kd 0 := by
  unfold aRw
  split <;> first | exact r32_0 | exact r64_0 | exact Or.inl rfl | omega | trivial
theorem dv_ok {ty : FieldType} {b0 kd : Nat} (h : aKt ty = kd) (h9 : kd ≠ 9) : defaultValue ty = aFv b0 kd 0 := by
  subst h
  cases ty <;> first | rfl | exact absurd rfl h9
set_option maxRecDepth 100000 in
theorem fk_9 : ∀ ci, ci < 13 → ∀ i, i < aNf ci → aFk ci i ≠ 9 := by decide +kernel
theorem aRel_nw {b0 : Nat} {D : va_G} {cA : Nat → ClassId} {sx : Int → Int} {sL q : Int} {σ : aW} {H H1 : Heap} (h : aRel b0 D cA sx sL false σ H) (hlt : (σ 9999 0).toNat < aNC) (hq : 0 ≤ q)
    (hP : va_P D aCl (aWs b0 cA (σ 9999 0).toNat σ ++ [(b0 + (σ 9999 0).toNat, aCe b0 cA (fun _ => 0) (σ 9999 0).toNat)]) H1) :
    aRel b0 D cA sx sL false (sw (sw σ (σ 9999 0).toNat (fun _ => 0)) 9999 (fu (fu (σ 9999) 0 (σ 9999 0 + 1)) 1 (σ 9999 1 + q))) H1 := by
  obtain ⟨p1, p3, ⟨w1, w2, w3⟩, ⟨p5, p5b, p5c⟩, p6, p7⟩ := h
  have hNC : aNC = 146 := rfl
  generalize hnn : (σ 9999 0).toNat = nn at *
  have hw1 : ∀ k i : Nat, k < nn → (aSh k).1 = 0 → i < aNf (aSh k).2.1 → aRw (aFk (aSh k).2.1 i) (σ k i) := by
    intro k i h1
    exact w1 k i (by show k < (σ 9999 0).toNat; omega)
  have hw2 : ∀ (k : Nat) (i : Int), k < nn → 0 < (aSh k).1 → 0 ≤ i → i < (aSh k).2.2 → aRw (aSh k).1 (σ k i) := by
    intro k i h1
    exact w2 k i (by show k < (σ 9999 0).toNat; omega)
  have e0 : ∀ a : Nat, a < 9999 → sw (sw σ nn (fun _ => 0)) 9999 (fu (fu (σ 9999) 0 (σ 9999 0 + 1)) 1 (σ 9999 1 + q)) a = if a = nn then (fun _ => 0) else σ a := by
    intro a ha
    rw [sw_n (by omega)]
    rfl
  have e1 : sw (sw σ nn (fun _ => 0)) 9999 (fu (fu (σ 9999) 0 (σ 9999 0 + 1)) 1 (σ 9999 1 + q)) 9999 = fu (fu (σ 9999) 0 (σ 9999 0 + 1)) 1 (σ 9999 1 + q) := sw_s
  have e2 : fu (fu (σ 9999) 0 (σ 9999 0 + 1)) 1 (σ 9999 1 + q) 0 = σ 9999 0 + 1 := by rw [fu_n (by omega), fu_s]
  have e3 : fu (fu (σ 9999) 0 (σ 9999 0 + 1)) 1 (σ 9999 1 + q) 1 = σ 9999 1 + q := fu_s
  have e4 : fu (fu (σ 9999) 0 (σ 9999 0 + 1)) 1 (σ 9999 1 + q) 2 = σ 9999 2 := by rw [fu_n (by omega), fu_n (by omega)]
  have hN : aNn false (sw (sw σ nn (fun _ => 0)) 9999 (fu (fu (σ 9999) 0 (σ 9999 0 + 1)) 1 (σ 9999 1 + q))) = nn + 1 := by
    show (sw (sw σ nn (fun _ => 0)) 9999 _ 9999 0).toNat = nn + 1
    rw [e1, e2]
    omega
  generalize hσ : sw (sw σ nn (fun _ => 0)) 9999 (fu (fu (σ 9999) 0 (σ 9999 0 + 1)) 1 (σ 9999 1 + q)) = σ' at *
  have e5 : σ' 1200 = σ 1200 := by rw [e0 1200 (by omega), if_neg (by omega)]
  refine ⟨?_, by rw [hN]; omega, ⟨fun k i h1 h2 h3 => ?_, fun k i h1 h2 h3 h4 => ?_, by rw [e5, e1, e4]; exact w3⟩, ⟨by rw [e1, e2]; omega, by rw [e1, e3]; omega, fun k i h1 h2 h3 h4 => ?_⟩, by rw [e5]; exact p6, by rw [e1, e4]; exact p7⟩
  · rw [hN, ← aWs_ext (σ := sw σ nn (fun _ => 0)) (fun k hk => by rw [e0 k (by omega)]; rfl), ← aWs_push rfl]
    exact hP
  · rw [hN] at h1
    rw [e0 k (by omega)]
    by_cases hk : k = nn
    · rw [if_pos hk]; exact rw_0 _
    · rw [if_neg hk]; exact hw1 k i (by omega) h2 h3
  · rw [hN] at h1
    rw [e0 k (by omega)]
    by_cases hk : k = nn
    · rw [if_pos hk]; exact rw_0 _
    · rw [if_neg hk]; exact hw2 k i (by omega) h2 h3 h4
  · rw [e1, e2] at h1 ⊢
    rw [e0 k (by omega)]
    by_cases hk : k = nn
    · rw [if_pos hk]; omega
    · rw [if_neg hk]
      have := p5c k i (by omega) h2 h3 h4
      omega
theorem aRel_sz {b0 : Nat} {D : va_G} {cA : Nat → ClassId} {sx : Int → Int} {sL : Int} {ph : Bool} {σ : aW} {H H0 : Heap} {n0 : Nat} (hR : aRel b0 D cA sx sL ph σ H) (hsz : H.size ≤ H0.size + (aNn ph σ - n0)) (hS : H0.size ≤ H.size) (hn : n0 ≤ aNn ph σ) (h0 : H0.size = b0 + n0) : H.size = b0 + aNn ph σ := by
  by_cases hz : aNn ph σ = 0
  · omega
  · have g2 := (hR.1 (aNn ph σ - 1) _ (aWs_get (by omega))).lt
    have g2 : b0 + (aNn ph σ - 1) < H.size := g2
    omega
end
