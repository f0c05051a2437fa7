section
set_option maxHeartbeats 16000000 in
set_option maxRecDepth 100000 in
theorem snd_step {p : Program} {l : Launch} {e : Env} {R : Room} {s : State} {m : MethodId} {args : Array Value} {below : List Frame} {meth : Method} {c : Code} {b0 : Nat} {D : va_G} {cA : Nat → ClassId} {adK adV : Nat → Nat} {sc : Nat} {fv : Value} {sx : Int → Int} {sL : Int} {j lv n0 s0 : Nat} {lm : Int × Int} {ph0 : Bool} {Q : aQ} {Z : State → Prop} {E : Bool → Nat → aT}
    (hx : p.tables.exec = Jvm.exec) (hb : c.code = aB j) (hml : c.maxLocals = aMl j) (hown : s.vm.findClass (aY j).cls = some m.cls) (hts : ∀ w ∈ aTb, w.before args s = true) (hnm : (aY j).name = "<init>" → meth.name = "<init>") (hSt : aSta b0 D cA adK adV sc fv sx sL s)
    (hRf : lv ≤ R.frames) (hRl : 64 * lv ≤ R.locals) (hlm : lm.1 ≤ n0 + R.cells ∧ lm.2 ≤ s0 + R.slots)
    (hE : ∀ ph j2 as σ Q2, E ph j2 as σ Q2 → aWf (aNn ph σ) σ → (∀ v ∈ as, aOk v) → ∃ d, lv = d + 1 ∧ aMet l d ph j2 as σ Q2)
    (hri : ∀ (ph : Bool) (pc : Nat) (v : Int) (σ : aW) (H : Heap) (locs : List Loc) (LS : Array Slot), decode (aB j) pc = .ok (.ireturn, 1) → (Nat.beq (aRk j) 2 = false ∧ aRg (aRk j) v) → r32 v → Q (some (vi v)) σ → aRel b0 D cA sx sL ph σ H → va_S (fun q => b0 ≤ q) s.heap H locs → (ph = false → ph0 = false) → aSl ph σ - s0 ≤ R.slots → W p l e R s m args below meth c H locs (aNn ph σ - n0) (aSl ph σ - s0) Z (F0 m pc LS [.int (Int32.ofInt v)]))
    (hrl : ∀ (ph : Bool) (pc : Nat) (v : Int) (σ : aW) (H : Heap) (locs : List Loc) (LS : Array Slot), decode (aB j) pc = .ok (.lreturn, 1) → aRk j = 2 → r64 v → Q (some (vl v)) σ → aRel b0 D cA sx sL ph σ H → va_S (fun q => b0 ≤ q) s.heap H locs → (ph = false → ph0 = false) → aSl ph σ - s0 ≤ R.slots → W p l e R s m args below meth c H locs (aNn ph σ - n0) (aSl ph σ - s0) Z (F0 m pc LS [.long (Int64.ofInt v)]))
    (hrv : ∀ (ph : Bool) (pc : Nat) (σ : aW) (H : Heap) (locs : List Loc) (LS : Array Slot), decode (aB j) pc = .ok (.return_, 1) → aRk j = 0 → Q none σ → aRel b0 D cA sx sL ph σ H → va_S (fun q => b0 ≤ q) s.heap H locs → (ph = false → ph0 = false) → aSl ph σ - s0 ≤ R.slots → W p l e R s m args below meth c H locs (aNn ph σ - n0) (aSl ph σ - s0) Z (F0 m pc LS [])) :
    ∀ ph pc ls st σ, aStp E lv lm (aCd j) (aRk j) Q (aKp p l e R s m args below meth c b0 D cA adK adV sc fv sx sL (aMl j) n0 s0 ph0 Z) ph pc ls st σ → aKp p l e R s m args below meth c b0 D cA adK adV sc fv sx sL (aMl j) n0 s0 ph0 Z ph pc ls st σ := by
  intro ph pc ls st σ hs H locs LS hR hS hL hlen hls hst hn
  refine W_sz (fun hsz => ?_)
  obtain ⟨hK, hNst, hStr, hStrR, hZc, hZf, hX, ⟨hsc, hb0⟩, hfv⟩ := id hSt
  rcases hs with ⟨x, ln, an, cst, hlook, hln, hs⟩ | ⟨rfl, hfull, hk⟩ | ⟨i, v, an, cst, a, hlook, h1, h2⟩
  · obtain ⟨hck, -⟩ := aCk_of hlook
    have hck0 := hck
    unfold aCkB at hck
    simp only [Bool.and_eq_true, decide_eq_true_eq] at hck
    obtain ⟨hd, hck⟩ := hck
    have hcat := aCv_cat (b0 := b0) (adK := adK) (adV := adV) (sc := sc) hfv
    have hP := hR.1
    have hNC := hR.2.1
    have hWf := hR.2.2.1
    have hD := aWs_D (b0 := b0) (n := aNn ph σ) (cA := cA) (σ := σ)
    cases x <;> try (exact hs.elim)
    case iconst v =>
      have e1 : ln = 1 := Nat.eq_of_beq_eq_true hln
      subst e1
      simp only [Bool.and_eq_true, decide_eq_true_eq] at hck
      exact lv_iconst hx hb hd rfl (hs H locs LS hR hS hL hlen hls (aSo_i (v := vi v) ⟨by omega, by omega⟩ trivial hst) hn)
    case bipush v =>
      have e1 : ln = 2 := Nat.eq_of_beq_eq_true hln
      subst e1
      simp only [Bool.and_eq_true, decide_eq_true_eq] at hck
      exact lv_bipush (v := Int32.ofInt v) hx hb hd (i8_of hck) (hs H locs LS hR hS hL hlen hls (aSo_i (v := vi v) ⟨by omega, by omega⟩ trivial hst) hn)
    case sipush v =>
      have e1 : ln = 3 := Nat.eq_of_beq_eq_true hln
      subst e1
      simp only [Bool.and_eq_true, decide_eq_true_eq] at hck
      exact lv_sipush (v := Int32.ofInt v) hx hb hd (i16_of hck) (hs H locs LS hR hS hL hlen hls (aSo_i (v := vi v) ⟨by omega, by omega⟩ trivial hst) hn)
    case lconst v =>
      have e1 : ln = 1 := Nat.eq_of_beq_eq_true hln
      subst e1
      have hv : (v : Nat) < 2 := v.isLt
      refine lv_lconst (v := Int64.ofInt (v : Nat)) hx hb hd ?_ (hs H locs LS hR hS hL hlen hls (aSo_i (v := vl (v : Nat)) ⟨by omega, by omega⟩ trivial hst) hn)
      exact (Int64.ofInt_eq_ofNat).symm
    case ldc i =>
      have e1 : ln = 2 := Nat.eq_of_beq_eq_true hln
      subst e1
      rcases hs with ⟨ps, ha, hk⟩ | ⟨t, ps, ha, h16, hk⟩
      · obtain ⟨k1, k2⟩ := ck_ldc hck0 ha
        exact lv_ldc hx hb hown (hts _ (aTb_of k1 rfl)) hd (hk H locs LS hR hS hL hlen hls (aSo_i (v := vi cst) k2 trivial hst) hn)
      · have h16 := bl_lt h16
        have hr := hStrR t h16
        obtain ⟨k1, k2⟩ := ck_ldcs hck0 ha
        rw [k1, k2] at hr
        have h3 := hk H locs LS hR hS hL hlen hls (aSo_i (v := vr (1000 + t)) trivial (Or.inr (Or.inl ⟨by omega, by omega⟩)) hst) hn
        rw [List.map_cons, cv_t h16] at h3
        exact va_ldcS hx hb hown hr hd h3
    case ldc_w i =>
      have e1 : ln = 3 := Nat.eq_of_beq_eq_true hln
      subst e1
      rcases hs with ⟨ps, ha, hk⟩ | ⟨t, ps, ha, h16, hk⟩
      · obtain ⟨k1, k2⟩ := ck_ldcw hck0 ha
        exact lv_ldcw hx hb hown (hts _ (aTb_of k1 rfl)) hd (hk H locs LS hR hS hL hlen hls (aSo_i (v := vi cst) k2 trivial hst) hn)
      · have h16 := bl_lt h16
        have hr := hStrR t h16
        obtain ⟨k1, k2⟩ := ck_ldcws hck0 ha
        rw [k1, k2] at hr
        have h3 := hk H locs LS hR hS hL hlen hls (aSo_i (v := vr (1000 + t)) trivial (Or.inr (Or.inl ⟨by omega, by omega⟩)) hst) hn
        rw [List.map_cons, cv_t h16] at h3
        exact wb_ldcw hx hb hown hr hd h3
    case ldc2_w i =>
      have e1 : ln = 3 := Nat.eq_of_beq_eq_true hln
      subst e1
      obtain ⟨k1, k2⟩ := ck_ldc2 hck0
      exact lv_ldc2 hx hb hown (hts _ (aTb_of k1 rfl)) hd (hs H locs LS hR hS hL hlen hls (aSo_i (v := vl cst) k2 trivial hst) hn)
    case iload i =>
      have e1 : ln = 2 := Nat.eq_of_beq_eq_true hln
      subst e1
      obtain ⟨v, h1, h2⟩ := hs
      have ho := so_nth hls h1 rfl
      exact lv_iload hx hb hd (lv_of hL h1 rfl) (h2 H locs LS hR hS hL hlen hls (aSo_i ho.1 ho.2 hst) hn)
    case iload_n i =>
      have e1 : ln = 1 := Nat.eq_of_beq_eq_true hln
      subst e1
      obtain ⟨v, h1, h2⟩ := hs
      have ho := so_nth hls h1 rfl
      exact lv_iload_n hx hb hd rfl (lv_of hL h1 rfl) (h2 H locs LS hR hS hL hlen hls (aSo_i ho.1 ho.2 hst) hn)
    case lload i =>
      have e1 : ln = 2 := Nat.eq_of_beq_eq_true hln
      subst e1
      obtain ⟨v, h1, h2⟩ := hs
      have ho := so_nth hls h1 rfl
      exact lv_lload hx hb hd (lv_of hL h1 rfl) (h2 H locs LS hR hS hL hlen hls (aSo_i ho.1 ho.2 hst) hn)
    case lload_n i =>
      have e1 : ln = 1 := Nat.eq_of_beq_eq_true hln
      subst e1
      obtain ⟨v, h1, h2⟩ := hs
      have ho := so_nth hls h1 rfl
      exact lv_lload_n hx hb hd rfl (lv_of hL h1 rfl) (h2 H locs LS hR hS hL hlen hls (aSo_i ho.1 ho.2 hst) hn)
    case aload i =>
      have e1 : ln = 2 := Nat.eq_of_beq_eq_true hln
      subst e1
      obtain ⟨v, h1, h0, h2⟩ := hs
      have ho := so_nth hls h1 rfl
      have hne : ¬ v = 1300 := fun z => by subst z; cases h0
      have hcv : aCv b0 adK adV sc fv (vr v) = .ref (aAd b0 adK adV sc v) := if_neg hne
      have h3 := h2 H locs LS hR hS hL hlen hls (aSo_i ho.1 ho.2 hst) hn
      rw [List.map_cons, hcv] at h3
      exact lv_aload hx hb hd (hcv ▸ lv_of hL h1 rfl) h3
    case aload_n i =>
      have e1 : ln = 1 := Nat.eq_of_beq_eq_true hln
      subst e1
      obtain ⟨v, h1, h0, h2⟩ := hs
      have ho := so_nth hls h1 rfl
      have hne : ¬ v = 1300 := fun z => by subst z; cases h0
      have hcv : aCv b0 adK adV sc fv (vr v) = .ref (aAd b0 adK adV sc v) := if_neg hne
      have h3 := h2 H locs LS hR hS hL hlen hls (aSo_i ho.1 ho.2 hst) hn
      rw [List.map_cons, hcv] at h3
      exact lv_aload_n hx hb hd rfl (hcv ▸ lv_of hL h1 rfl) h3
    case istore i =>
      have e1 : ln = 2 := Nat.eq_of_beq_eq_true hln
      subst e1
      obtain ⟨v, st', rfl, h1, h2⟩ := hs
      obtain ⟨ho, hst⟩ := aSo_c hst
      exact lv_istore hx hb hd hL (hlen ▸ h1) rfl (fun LS' hL' => h2 H locs LS' hR hS (lv_mono hL' (lv_stI (v := vi v) hcat)) (stI_len.trans hlen) (stI_so hls ho.1 ho.2) hst hn)
    case istore_n i =>
      have e1 : ln = 1 := Nat.eq_of_beq_eq_true hln
      subst e1
      obtain ⟨v, st', rfl, h1, h2⟩ := hs
      obtain ⟨ho, hst⟩ := aSo_c hst
      exact lv_istore_n hx hb hd rfl hL (hlen ▸ h1) rfl (fun LS' hL' => h2 H locs LS' hR hS (lv_mono hL' (lv_stI (v := vi v) hcat)) (stI_len.trans hlen) (stI_so hls ho.1 ho.2) hst hn)
    case lstore i =>
      have e1 : ln = 2 := Nat.eq_of_beq_eq_true hln
      subst e1
      obtain ⟨v, st', rfl, h1, h2⟩ := hs
      obtain ⟨ho, hst⟩ := aSo_c hst
      exact lv_lstore hx hb hd hL (hlen ▸ h1) rfl (fun LS' hL' => h2 H locs LS' hR hS (lv_mono hL' (lv_stJ (v := vl v) hcat)) (stJ_len.trans hlen) (stJ_so hls ho.1 ho.2) hst hn)
    case lstore_n i =>
      have e1 : ln = 1 := Nat.eq_of_beq_eq_true hln
      subst e1
      obtain ⟨v, st', rfl, h1, h2⟩ := hs
      obtain ⟨ho, hst⟩ := aSo_c hst
      exact lv_lstore_n hx hb hd rfl hL (hlen ▸ h1) rfl (fun LS' hL' => h2 H locs LS' hR hS (lv_mono hL' (lv_stJ (v := vl v) hcat)) (stJ_len.trans hlen) (stJ_so hls ho.1 ho.2) hst hn)
    case astore i =>
      have e1 : ln = 2 := Nat.eq_of_beq_eq_true hln
      subst e1
      obtain ⟨v, st', rfl, h0, h1, h2⟩ := hs
      obtain ⟨ho, hst⟩ := aSo_c hst
      have hne : ¬ v = 1300 := fun z => by subst z; cases h0
      have hcv : aCv b0 adK adV sc fv (vr v) = .ref (aAd b0 adK adV sc v) := if_neg hne
      rw [List.map_cons, hcv]
      refine lv_astore hx hb hd hL (hlen ▸ h1) rfl (fun LS' hL' => h2 H locs LS' hR hS (lv_mono hL' ?_) (stI_len.trans hlen) (stI_so hls ho.1 ho.2) hst hn)
      have h9 := lv_stI (ls := ls) (i := i) (v := vr v) hcat
      rw [hcv] at h9
      exact h9
    case astore_n i =>
      have e1 : ln = 1 := Nat.eq_of_beq_eq_true hln
      subst e1
      obtain ⟨v, st', rfl, h0, h1, h2⟩ := hs
      obtain ⟨ho, hst⟩ := aSo_c hst
      have hne : ¬ v = 1300 := fun z => by subst z; cases h0
      have hcv : aCv b0 adK adV sc fv (vr v) = .ref (aAd b0 adK adV sc v) := if_neg hne
      rw [List.map_cons, hcv]
      refine lv_astore_n hx hb hd rfl hL (hlen ▸ h1) rfl (fun LS' hL' => h2 H locs LS' hR hS (lv_mono hL' ?_) (stI_len.trans hlen) (stI_so hls ho.1 ho.2) hst hn)
      have h9 := lv_stI (ls := ls) (i := i) (v := vr v) hcat
      rw [hcv] at h9
      exact h9
    case iinc i v =>
      have e1 : ln = 3 := Nat.eq_of_beq_eq_true hln
      subst e1
      obtain ⟨a, h1, h2⟩ := hs
      have ho := so_nth hls h1 rfl
      obtain ⟨k, hk⟩ := List.getElem?_of_mem ((aLv_mem (cv := aCv b0 adK adV sc fv) ls 0 _).mpr ⟨i, vi a, h1, rfl, rfl⟩)
      rw [Nat.zero_add] at hk
      have hil : i < ls.length := by
        by_cases hi : i < ls.length
        · exact hi
        · exfalso
          have : nth vt ls i = vt := nth_ge (by omega)
          rw [this] at h1
          cases h1
      exact lv_iinc hx hb hd hL hk (o32_add _ _) (hlen ▸ hil) rfl (fun LS' hL' => h2 H locs LS' hR hS (lv_mono hL' (lv_stI (v := vi _) hcat)) (stI_len.trans hlen) (stI_so hls (w32_in _) trivial) hst hn)
    case iadd =>
      have e1 : ln = 1 := Nat.eq_of_beq_eq_true hln
      subst e1
      obtain ⟨a, b, st', rfl, h2⟩ := hs
      obtain ⟨hb1, hst⟩ := aSo_c hst
      obtain ⟨hb2, hst⟩ := aSo_c hst
      have h3 := h2 H locs LS hR hS hL hlen hls (aSo_i (v := vi _) (w32_in _) trivial hst) hn
      refine lv_iadd hx hb hd ?_
      rw [o32_add]
      exact h3
    case isub =>
      have e1 : ln = 1 := Nat.eq_of_beq_eq_true hln
      subst e1
      obtain ⟨a, b, st', rfl, h2⟩ := hs
      obtain ⟨hb1, hst⟩ := aSo_c hst
      obtain ⟨hb2, hst⟩ := aSo_c hst
      have h3 := h2 H locs LS hR hS hL hlen hls (aSo_i (v := vi _) (w32_in _) trivial hst) hn
      refine lv_isub hx hb hd ?_
      rw [o32_sub]
      exact h3
    case imul =>
      have e1 : ln = 1 := Nat.eq_of_beq_eq_true hln
      subst e1
      obtain ⟨a, b, st', rfl, h2⟩ := hs
      obtain ⟨hb1, hst⟩ := aSo_c hst
      obtain ⟨hb2, hst⟩ := aSo_c hst
      have h3 := h2 H locs LS hR hS hL hlen hls (aSo_i (v := vi _) (w32_in _) trivial hst) hn
      refine lv_imul hx hb hd ?_
      rw [o32_mul]
      exact h3
    case iand =>
      have e1 : ln = 1 := Nat.eq_of_beq_eq_true hln
      subst e1
      obtain ⟨a, b, st', rfl, h2⟩ := hs
      obtain ⟨hb1, hst⟩ := aSo_c hst
      obtain ⟨hb2, hst⟩ := aSo_c hst
      have h3 := h2 H locs LS hR hS hL hlen hls (aSo_i (v := vi _) r32_b trivial hst) hn
      refine lv_iand hx hb hd ?_
      rw [List.map_cons, show aCv b0 adK adV sc fv (vi _) = _ from congrArg Value.int o32_b] at h3
      exact h3
    case ior =>
      have e1 : ln = 1 := Nat.eq_of_beq_eq_true hln
      subst e1
      obtain ⟨a, b, st', rfl, h2⟩ := hs
      obtain ⟨hb1, hst⟩ := aSo_c hst
      obtain ⟨hb2, hst⟩ := aSo_c hst
      have h3 := h2 H locs LS hR hS hL hlen hls (aSo_i (v := vi _) r32_b trivial hst) hn
      refine lv_ior hx hb hd ?_
      rw [List.map_cons, show aCv b0 adK adV sc fv (vi _) = _ from congrArg Value.int o32_b] at h3
      exact h3
    case ishl =>
      have e1 : ln = 1 := Nat.eq_of_beq_eq_true hln
      subst e1
      obtain ⟨a, b, st', rfl, h2⟩ := hs
      obtain ⟨hb1, hst⟩ := aSo_c hst
      obtain ⟨hb2, hst⟩ := aSo_c hst
      have h3 := h2 H locs LS hR hS hL hlen hls (aSo_i (v := vi _) r32_b trivial hst) hn
      refine lv_ishl hx hb hd ?_
      rw [List.map_cons, show aCv b0 adK adV sc fv (vi _) = _ from congrArg Value.int o32_b] at h3
      exact h3
    case ishr =>
      have e1 : ln = 1 := Nat.eq_of_beq_eq_true hln
      subst e1
      obtain ⟨a, b, st', rfl, h2⟩ := hs
      obtain ⟨hb1, hst⟩ := aSo_c hst
      obtain ⟨hb2, hst⟩ := aSo_c hst
      have h3 := h2 H locs LS hR hS hL hlen hls (aSo_i (v := vi _) r32_b trivial hst) hn
      refine lv_ishr hx hb hd ?_
      rw [List.map_cons, show aCv b0 adK adV sc fv (vi _) = _ from congrArg Value.int o32_b] at h3
      exact h3
    case iushr =>
      have e1 : ln = 1 := Nat.eq_of_beq_eq_true hln
      subst e1
      obtain ⟨a, b, st', rfl, h2⟩ := hs
      obtain ⟨hb1, hst⟩ := aSo_c hst
      obtain ⟨hb2, hst⟩ := aSo_c hst
      exact lv_iushr hx hb hd (o32_back _).symm (h2 H locs LS hR hS hL hlen hls (aSo_i (v := vi _) (r32_t _) trivial hst) hn)
    case idiv =>
      have e1 : ln = 1 := Nat.eq_of_beq_eq_true hln
      subst e1
      obtain ⟨a, b, st', rfl, h0, h2⟩ := hs
      obtain ⟨hb1, hst⟩ := aSo_c hst
      obtain ⟨hb2, hst⟩ := aSo_c hst
      have h3 := h2 H locs LS hR hS hL hlen hls (aSo_i (v := vi _) (w32_in _) trivial hst) hn
      refine lv_idiv hx hb hd (o32_z hb1.1 h0) ?_
      rw [o32_div hb2.1 hb1.1]
      exact h3
    case irem =>
      have e1 : ln = 1 := Nat.eq_of_beq_eq_true hln
      subst e1
      obtain ⟨a, b, st', rfl, h0, h2⟩ := hs
      obtain ⟨hb1, hst⟩ := aSo_c hst
      obtain ⟨hb2, hst⟩ := aSo_c hst
      have h3 := h2 H locs LS hR hS hL hlen hls (aSo_i (v := vi _) (tmod_r32 hb2.1 _) trivial hst) hn
      refine lv_irem hx hb hd (o32_z hb1.1 h0) ?_
      rw [o32_rem hb2.1 hb1.1]
      exact h3
    case ineg =>
      have e1 : ln = 1 := Nat.eq_of_beq_eq_true hln
      subst e1
      obtain ⟨a, st', rfl, h2⟩ := hs
      obtain ⟨hb1, hst⟩ := aSo_c hst
      have h3 := h2 H locs LS hR hS hL hlen hls (aSo_i (v := vi _) (w32_in _) trivial hst) hn
      refine lv_ineg hx hb hd ?_
      rw [o32_neg]
      exact h3
    case i2b =>
      have e1 : ln = 1 := Nat.eq_of_beq_eq_true hln
      subst e1
      obtain ⟨a, st', rfl, h2⟩ := hs
      obtain ⟨hb1, hst⟩ := aSo_c hst
      exact lv_i2b hx hb hd (o32_i2b hb1.1) (h2 H locs LS hR hS hL hlen hls (aSo_i (v := vi _) (by have := w8_in a; exact ⟨by omega, by omega⟩) trivial hst) hn)
    case i2s =>
      have e1 : ln = 1 := Nat.eq_of_beq_eq_true hln
      subst e1
      obtain ⟨a, st', rfl, h2⟩ := hs
      obtain ⟨hb1, hst⟩ := aSo_c hst
      exact lv_i2s hx hb hd (o32_i2s hb1.1) (h2 H locs LS hR hS hL hlen hls (aSo_i (v := vi _) (by have := w16_in a; exact ⟨by omega, by omega⟩) trivial hst) hn)
    case i2c =>
      have e1 : ln = 1 := Nat.eq_of_beq_eq_true hln
      subst e1
      obtain ⟨a, st', rfl, h2⟩ := hs
      obtain ⟨hb1, hst⟩ := aSo_c hst
      exact lv_i2c hx hb hd (o32_back _).symm (h2 H locs LS hR hS hL hlen hls (aSo_i (v := vi _) (r32_t _) trivial hst) hn)
    case i2l =>
      have e1 : ln = 1 := Nat.eq_of_beq_eq_true hln
      subst e1
      obtain ⟨a, st', rfl, h2⟩ := hs
      obtain ⟨hb1, hst⟩ := aSo_c hst
      exact lv_i2l hx hb hd (o64_i2l hb1.1) (h2 H locs LS hR hS hL hlen hls (aSo_i (v := vl _) (r64_of hb1.1) trivial hst) hn)
    case l2i =>
      have e1 : ln = 1 := Nat.eq_of_beq_eq_true hln
      subst e1
      obtain ⟨a, st', rfl, h2⟩ := hs
      obtain ⟨hb1, hst⟩ := aSo_c hst
      exact lv_l2i hx hb hd (o32_l2i hb1.1) (h2 H locs LS hR hS hL hlen hls (aSo_i (v := vi _) (w32_in _) trivial hst) hn)
    case ladd =>
      have e1 : ln = 1 := Nat.eq_of_beq_eq_true hln
      subst e1
      obtain ⟨a, b, st', rfl, h2⟩ := hs
      obtain ⟨hb1, hst⟩ := aSo_c hst
      obtain ⟨hb2, hst⟩ := aSo_c hst
      have h3 := h2 H locs LS hR hS hL hlen hls (aSo_i (v := vl _) (w64_in _) trivial hst) hn
      refine lv_ladd hx hb hd ?_
      rw [o64_add]
      exact h3
    case lsub =>
      have e1 : ln = 1 := Nat.eq_of_beq_eq_true hln
      subst e1
      obtain ⟨a, b, st', rfl, h2⟩ := hs
      obtain ⟨hb1, hst⟩ := aSo_c hst
      obtain ⟨hb2, hst⟩ := aSo_c hst
      have h3 := h2 H locs LS hR hS hL hlen hls (aSo_i (v := vl _) (w64_in _) trivial hst) hn
      refine lv_lsub hx hb hd ?_
      rw [o64_sub]
      exact h3
    case lmul =>
      have e1 : ln = 1 := Nat.eq_of_beq_eq_true hln
      subst e1
      obtain ⟨a, b, st', rfl, h2⟩ := hs
      obtain ⟨hb1, hst⟩ := aSo_c hst
      obtain ⟨hb2, hst⟩ := aSo_c hst
      have h3 := h2 H locs LS hR hS hL hlen hls (aSo_i (v := vl _) (w64_in _) trivial hst) hn
      refine lv_lmul hx hb hd ?_
      rw [o64_mul]
      exact h3
    case land =>
      have e1 : ln = 1 := Nat.eq_of_beq_eq_true hln
      subst e1
      obtain ⟨a, b, st', rfl, h2⟩ := hs
      obtain ⟨hb1, hst⟩ := aSo_c hst
      obtain ⟨hb2, hst⟩ := aSo_c hst
      have h3 := h2 H locs LS hR hS hL hlen hls (aSo_i (v := vl _) r64_b trivial hst) hn
      refine lv_land hx hb hd ?_
      rw [List.map_cons, show aCv b0 adK adV sc fv (vl _) = _ from congrArg Value.long o64_b] at h3
      exact h3
    case lor =>
      have e1 : ln = 1 := Nat.eq_of_beq_eq_true hln
      subst e1
      obtain ⟨a, b, st', rfl, h2⟩ := hs
      obtain ⟨hb1, hst⟩ := aSo_c hst
      obtain ⟨hb2, hst⟩ := aSo_c hst
      have h3 := h2 H locs LS hR hS hL hlen hls (aSo_i (v := vl _) r64_b trivial hst) hn
      refine lv_lor hx hb hd ?_
      rw [List.map_cons, show aCv b0 adK adV sc fv (vl _) = _ from congrArg Value.long o64_b] at h3
      exact h3
    case lshl =>
      have e1 : ln = 1 := Nat.eq_of_beq_eq_true hln
      subst e1
      obtain ⟨a, b, st', rfl, h2⟩ := hs
      obtain ⟨hb1, hst⟩ := aSo_c hst
      obtain ⟨hb2, hst⟩ := aSo_c hst
      exact lv_lshl hx hb hd (o64_back _).symm (h2 H locs LS hR hS hL hlen hls (aSo_i (v := vl _) (r64_t _) trivial hst) hn)
    case lshr =>
      have e1 : ln = 1 := Nat.eq_of_beq_eq_true hln
      subst e1
      obtain ⟨a, b, st', rfl, h2⟩ := hs
      obtain ⟨hb1, hst⟩ := aSo_c hst
      obtain ⟨hb2, hst⟩ := aSo_c hst
      exact lv_lshr hx hb hd (o64_back _).symm (h2 H locs LS hR hS hL hlen hls (aSo_i (v := vl _) (r64_t _) trivial hst) hn)
    case ldiv =>
      have e1 : ln = 1 := Nat.eq_of_beq_eq_true hln
      subst e1
      obtain ⟨a, b, st', rfl, h0, h2⟩ := hs
      obtain ⟨hb1, hst⟩ := aSo_c hst
      obtain ⟨hb2, hst⟩ := aSo_c hst
      have h3 := h2 H locs LS hR hS hL hlen hls (aSo_i (v := vl _) (w64_in _) trivial hst) hn
      refine lv_ldiv hx hb hd (o64_z hb1.1 h0) ?_
      rw [o64_div hb2.1 hb1.1]
      exact h3
    case lneg =>
      have e1 : ln = 1 := Nat.eq_of_beq_eq_true hln
      subst e1
      obtain ⟨a, st', rfl, h2⟩ := hs
      obtain ⟨hb1, hst⟩ := aSo_c hst
      have h3 := h2 H locs LS hR hS hL hlen hls (aSo_i (v := vl _) (w64_in _) trivial hst) hn
      refine lv_lneg hx hb hd ?_
      rw [o64_neg]
      exact h3
    case lcmp =>
      have e1 : ln = 1 := Nat.eq_of_beq_eq_true hln
      subst e1
      obtain ⟨a, b, st', rfl, h2⟩ := hs
      obtain ⟨hb1, hst⟩ := aSo_c hst
      obtain ⟨hb2, hst⟩ := aSo_c hst
      have h3 := h2 H locs LS hR hS hL hlen hls (aSo_i (v := vi _) r32_c3 trivial hst) hn
      refine W.lcmp hx hb hd ?_
      rw [← o32_c3 hb2.1 hb1.1]
      exact h3
    case pop =>
      have e1 : ln = 1 := Nat.eq_of_beq_eq_true hln
      subst e1
      obtain ⟨a, st', rfl, h0, h2⟩ := hs
      obtain ⟨hb1, hst⟩ := aSo_c hst
      exact lv_pop hx hb hd (by rw [hcat, aCat, h0]; rfl) (h2 H locs LS hR hS hL hlen hls hst hn)
    case dup =>
      have e1 : ln = 1 := Nat.eq_of_beq_eq_true hln
      subst e1
      obtain ⟨a, st', rfl, h0, h2⟩ := hs
      obtain ⟨hb1, hst'⟩ := aSo_c hst
      exact lv_dup hx hb hd (by rw [hcat, aCat, h0]; rfl) (h2 H locs LS hR hS hL hlen hls (aSo_i hb1.1 hb1.2 hst) hn)
    case dup_x1 =>
      have e1 : ln = 1 := Nat.eq_of_beq_eq_true hln
      subst e1
      obtain ⟨a, b, st', rfl, h0, h1, h2⟩ := hs
      obtain ⟨hb1, hst'⟩ := aSo_c hst
      obtain ⟨hb2, hst2⟩ := aSo_c hst'
      exact lv_dup_x1 hx hb hd (by rw [hcat, aCat, h0]; rfl) (by rw [hcat, aCat, h1]; rfl) (h2 H locs LS hR hS hL hlen hls (aSo_i hb1.1 hb1.2 (aSo_i hb2.1 hb2.2 (aSo_i hb1.1 hb1.2 hst2))) hn)
    case dup2 =>
      have e1 : ln = 1 := Nat.eq_of_beq_eq_true hln
      subst e1
      rcases hs with ⟨a, b, st', rfl, h0, h1, h2⟩ | ⟨a, st', rfl, h2⟩
      · obtain ⟨hb1, hst'⟩ := aSo_c hst
        obtain ⟨hb2, hst2⟩ := aSo_c hst'
        exact lv_dup2_11 hx hb hd (by rw [hcat, aCat, h0]; rfl) (by rw [hcat, aCat, h1]; rfl) (h2 H locs LS hR hS hL hlen hls (aSo_i hb1.1 hb1.2 (aSo_i hb2.1 hb2.2 hst)) hn)
      · obtain ⟨hb1, hst'⟩ := aSo_c hst
        exact lv_dup2_2 hx hb hd rfl (h2 H locs LS hR hS hL hlen hls (aSo_i hb1.1 hb1.2 hst) hn)
    case ifCond b off =>
      have e1 : ln = 3 := Nat.eq_of_beq_eq_true hln
      subst e1
      obtain ⟨a, st', rfl, h1, h2⟩ := hs
      obtain ⟨hb1, hst⟩ := aSo_c hst
      have q0 : r32 a := hb1.1
      have qe : Int32.ofInt a = 0 ↔ a = 0 := by rw [← o32_0]; exact o32_eq q0 r32_0
      have ql : Int32.ofInt a < 0 ↔ a < 0 := by rw [← o32_0]; exact o32_lt q0 r32_0
      have qg : 0 < Int32.ofInt a ↔ 0 < a := by rw [← o32_0]; exact o32_lt r32_0 q0
      have qle : Int32.ofInt a ≤ 0 ↔ a ≤ 0 := by rw [← o32_0]; exact o32_le q0 r32_0
      have qge : 0 ≤ Int32.ofInt a ↔ 0 ≤ a := by rw [← o32_0]; exact o32_le r32_0 q0
      cases b with
      | eq => exact lv_if_eq hx hb hd (tg_eq hck) (fun z => h1 (qe.mp z) H locs LS hR hS hL hlen hls hst hn) (fun z => h2 (fun y => z (qe.mpr y)) H locs LS hR hS hL hlen hls hst hn)
      | ne => exact lv_if_ne hx hb hd (tg_eq hck) (fun z => h1 (fun y => z (qe.mpr y)) H locs LS hR hS hL hlen hls hst hn) (fun z => h2 (fun y => y (qe.mp z)) H locs LS hR hS hL hlen hls hst hn)
      | lt => exact lv_if_lt hx hb hd (tg_eq hck) (fun z => h1 (ql.mp z) H locs LS hR hS hL hlen hls hst hn) (fun z => h2 (fun y => z (ql.mpr y)) H locs LS hR hS hL hlen hls hst hn)
      | ge => exact lv_if_ge hx hb hd (tg_eq hck) (fun z => h1 (qge.mp z) H locs LS hR hS hL hlen hls hst hn) (fun z => h2 (fun y => z (qge.mpr y)) H locs LS hR hS hL hlen hls hst hn)
      | gt => exact lv_if_gt hx hb hd (tg_eq hck) (fun z => h1 (qg.mp z) H locs LS hR hS hL hlen hls hst hn) (fun z => h2 (fun y => z (qg.mpr y)) H locs LS hR hS hL hlen hls hst hn)
      | le => exact lv_if_le hx hb hd (tg_eq hck) (fun z => h1 (qle.mp z) H locs LS hR hS hL hlen hls hst hn) (fun z => h2 (fun y => z (qle.mpr y)) H locs LS hR hS hL hlen hls hst hn)
    case if_icmp b off =>
      have e1 : ln = 3 := Nat.eq_of_beq_eq_true hln
      subst e1
      obtain ⟨a, a2, st', rfl, h1, h2⟩ := hs
      obtain ⟨hb1, hst⟩ := aSo_c hst
      obtain ⟨hb2, hst⟩ := aSo_c hst
      have q1 : r32 a2 := hb1.1
      have q0 : r32 a := hb2.1
      have qe := o32_eq q0 q1
      have ql := o32_lt q0 q1
      have qg := o32_lt q1 q0
      have qle := o32_le q0 q1
      have qge := o32_le q1 q0
      cases b with
      | eq => exact lv_icmp_eq hx hb hd (tg_eq hck) (fun z => h1 (qe.mp z) H locs LS hR hS hL hlen hls hst hn) (fun z => h2 (fun y => z (qe.mpr y)) H locs LS hR hS hL hlen hls hst hn)
      | ne => exact lv_icmp_ne hx hb hd (tg_eq hck) (fun z => h1 (fun y => z (qe.mpr y)) H locs LS hR hS hL hlen hls hst hn) (fun z => h2 (fun y => y (qe.mp z)) H locs LS hR hS hL hlen hls hst hn)
      | lt => exact lv_icmp_lt hx hb hd (tg_eq hck) (fun z => h1 (ql.mp z) H locs LS hR hS hL hlen hls hst hn) (fun z => h2 (fun y => z (ql.mpr y)) H locs LS hR hS hL hlen hls hst hn)
      | ge => exact lv_icmp_ge hx hb hd (tg_eq hck) (fun z => h1 (qge.mp z) H locs LS hR hS hL hlen hls hst hn) (fun z => h2 (fun y => z (qge.mpr y)) H locs LS hR hS hL hlen hls hst hn)
      | gt => exact lv_icmp_gt hx hb hd (tg_eq hck) (fun z => h1 (qg.mp z) H locs LS hR hS hL hlen hls hst hn) (fun z => h2 (fun y => z (qg.mpr y)) H locs LS hR hS hL hlen hls hst hn)
      | le => exact lv_icmp_le hx hb hd (tg_eq hck) (fun z => h1 (qle.mp z) H locs LS hR hS hL hlen hls hst hn) (fun z => h2 (fun y => z (qle.mpr y)) H locs LS hR hS hL hlen hls hst hn)
    case goto off =>
      have e1 : ln = 3 := Nat.eq_of_beq_eq_true hln
      subst e1
      exact lv_goto hx hb hd (tg_eq hck) (hs H locs LS hR hS hL hlen hls hst hn)
    case lookupswitch d ps =>
      obtain ⟨a, st', rfl, h1⟩ := hs
      obtain ⟨hb1, hst⟩ := aSo_c hst
      simp only [Bool.and_eq_true] at hck
      obtain ⟨⟨k1, k2⟩, k3⟩ := hck
      obtain ⟨t, q1, q2⟩ := lsw_of ps.toList d h1 (fun q hq => by have := List.all_eq_true.mp k2 q hq; simp only [Bool.and_eq_true] at this; exact this.1.1) k1
      refine lv_lookup hx hb hd k3 (off := Op.lookupswitch.offset ps.toList d a) ?_ q1 (q2 H locs LS hR hS hL hlen hls hst hn)
      rw [o32_t hb1.1]
    case tableswitch d lo hi offs =>
      obtain ⟨a, st', rfl, h1⟩ := hs
      obtain ⟨hb1, hst⟩ := aSo_c hst
      simp only [Bool.and_eq_true, decide_eq_true_eq] at hck
      obtain ⟨⟨k1, k2⟩, k3⟩ := hck
      have q0 := o32_t hb1.1
      rcases tsw_of offs.toList lo d h1 with ⟨z, hk⟩ | ⟨i, o, z1, z2, hk⟩
      · refine lv_tableOut hx hb hd ?_ (tg_eq k1) (hk H locs LS hR hS hL hlen hls hst hn)
        rw [q0]
        omega
      · have hil : i < offs.toList.length := (List.getElem?_eq_some_iff.mp z2).1
        refine lv_tableIn (off := o) hx hb hd ?_ ?_ ?_ (tg_eq (List.all_eq_true.mp k2 o (List.mem_of_getElem? z2))) (hk H locs LS hR hS hL hlen hls hst hn)
        · rw [q0]; omega
        · rw [q0]; omega
        · rw [q0, show (a - lo).toNat = i by omega, ← Array.getElem?_toList]
          exact z2
    case iaload =>
      have e1 : ln = 1 := Nat.eq_of_beq_eq_true hln
      subst e1
      rcases hs with ⟨k, i, L, st', rfl, h0, h1, ⟨h2, h3⟩, hk⟩ | ⟨i, st', rfl, ⟨h2, h3⟩, hk⟩
      ·
        obtain ⟨hb1, hst⟩ := aSo_c hst
        obtain ⟨hb2, hst⟩ := aSo_c hst
        have hk1 := bl_lt h0
        have hkn := or_k hb2.2 hk1
        have ha := aWs_get (b0 := b0) (cA := cA) (σ := σ) hkn
        rw [aCe_i h1 (by decide) (by decide)] at ha
        have h4 := hk H locs LS hR hS hL hlen hls (aSo_i (v := vi _) (aRw_32 (wf_el hWf hkn h1 (by decide) h2 h3) (by decide)) trivial hst) hn
        rw [List.map_cons, List.map_cons, cv_k hk1]
        refine va_iald hx hb hK hP k 0 ha rfl (o32_in hb1.1 h2 h3) hd ?_
        rw [o32_cl hb1.1 h2, Int.toNat_of_nonneg h2]
        exact h4
      · obtain ⟨hb1, hst⟩ := aSo_c hst
        obtain ⟨hb2, hst⟩ := aSo_c hst
        have e5 : σ 9999 2 = sL := hR.2.2.2.2.2
        have e6 : σ 1200 = sx := hR.2.2.2.2.1
        have h4 := hk H locs LS hR hS hL hlen hls (aSo_i (v := vi _) (hWf.2.2.1 i) trivial hst) hn
        rw [List.map_cons, List.map_cons, show aCv b0 adK adV sc fv (vr 1200) = .ref sc from rfl]
        refine va_sld hx hb hX (Nat.lt_of_lt_of_le hsc hb0) (by show ¬ b0 ≤ sc; omega) hS (o32_in hb1.1 h2 (e5 ▸ h3)) hd ?_
        rw [o32_cl hb1.1 h2, Int.toNat_of_nonneg h2, ← e6]
        exact h4
    case laload =>
      have e1 : ln = 1 := Nat.eq_of_beq_eq_true hln
      subst e1
      obtain ⟨k, i, L, st', rfl, h0, h1, ⟨h2, h3⟩, hk⟩ := hs
      obtain ⟨hb1, hst⟩ := aSo_c hst
      obtain ⟨hb2, hst⟩ := aSo_c hst
      have hk1 := bl_lt h0
      have hkn := or_k hb2.2 hk1
      have ha := aWs_get (b0 := b0) (cA := cA) (σ := σ) hkn
      rw [aCe_l h1] at ha
      have h4 := hk H locs LS hR hS hL hlen hls (aSo_i (v := vl _) (wf_el hWf hkn h1 (by decide) h2 h3) trivial hst) hn
      rw [List.map_cons, List.map_cons, cv_k hk1]
      refine va_lald hx hb hK hP k 1 ha rfl (o32_in hb1.1 h2 h3) hd ?_
      rw [o32_cl hb1.1 h2, Int.toNat_of_nonneg h2]
      exact h4
    case baload =>
      have e1 : ln = 1 := Nat.eq_of_beq_eq_true hln
      subst e1
      rcases hs with ⟨k, i, L, st', rfl, h0, h1, ⟨h2, h3⟩, hk⟩ | ⟨k, i, L, st', rfl, h0, h1, ⟨h2, h3⟩, hk⟩ | ⟨k, i, st', rfl, h0, ⟨h2, h3⟩, hk⟩
      ·
        obtain ⟨hb1, hst⟩ := aSo_c hst
        obtain ⟨hb2, hst⟩ := aSo_c hst
        have hk1 := bl_lt h0
        have hkn := or_k hb2.2 hk1
        have ha := aWs_get (b0 := b0) (cA := cA) (σ := σ) hkn
        rw [aCe_i h1 (by decide) (by decide)] at ha
        have h4 := hk H locs LS hR hS hL hlen hls (aSo_i (v := vi _) (aRw_32 (wf_el hWf hkn h1 (by decide) h2 h3) (by decide)) trivial hst) hn
        rw [List.map_cons, List.map_cons, cv_k hk1]
        refine va_zald hx hb hK hP k 2 ha rfl (o32_in hb1.1 h2 h3) hd ?_
        rw [o32_cl hb1.1 h2, Int.toNat_of_nonneg h2]
        exact h4
      ·
        obtain ⟨hb1, hst⟩ := aSo_c hst
        obtain ⟨hb2, hst⟩ := aSo_c hst
        have hk1 := bl_lt h0
        have hkn := or_k hb2.2 hk1
        have ha := aWs_get (b0 := b0) (cA := cA) (σ := σ) hkn
        rw [aCe_i h1 (by decide) (by decide)] at ha
        have h4 := hk H locs LS hR hS hL hlen hls (aSo_i (v := vi _) (aRw_32 (wf_el hWf hkn h1 (by decide) h2 h3) (by decide)) trivial hst) hn
        rw [List.map_cons, List.map_cons, cv_k hk1]
        refine va_bald hx hb hK hP k 3 ha rfl (o32_in hb1.1 h2 h3) hd ?_
        rw [o32_cl hb1.1 h2, Int.toNat_of_nonneg h2]
        exact h4
      · obtain ⟨hb1, hst⟩ := aSo_c hst
        obtain ⟨hb2, hst⟩ := aSo_c hst
        have h16 := bl_lt h0
        have hbt := str_b k i.toNat
        have h4 := hk H locs LS hR hS hL hlen hls (aSo_i (v := vi _) ⟨by omega, by omega⟩ trivial hst) hn
        rw [List.map_cons, List.map_cons, cv_v h16]
        refine va_tb (t := adV k) hx hb (hStr.1 k h16).2.2.2 hS (v := .int (Int32.ofInt (nth 0 (nth [] aSTR k) i.toNat))) ?_ ?_ hd h4
        · rw [str_len]
          have := o32_in (L := ((nth [] aSTR k).length : Int)) hb1.1 h2 h3
          simpa using this
        · rw [o32_cl hb1.1 h2, str_byt]
    case caload =>
      have e1 : ln = 1 := Nat.eq_of_beq_eq_true hln
      subst e1
      obtain ⟨k, i, L, st', rfl, h0, h1, ⟨h2, h3⟩, hk⟩ := hs
      obtain ⟨hb1, hst⟩ := aSo_c hst
      obtain ⟨hb2, hst⟩ := aSo_c hst
      have hk1 := bl_lt h0
      have hkn := or_k hb2.2 hk1
      have ha := aWs_get (b0 := b0) (cA := cA) (σ := σ) hkn
      rw [aCe_i h1 (by decide) (by decide)] at ha
      have h4 := hk H locs LS hR hS hL hlen hls (aSo_i (v := vi _) (aRw_32 (wf_el hWf hkn h1 (by decide) h2 h3) (by decide)) trivial hst) hn
      rw [List.map_cons, List.map_cons, cv_k hk1]
      refine va_cald hx hb hK hP k 4 ha rfl (o32_in hb1.1 h2 h3) hd ?_
      rw [o32_cl hb1.1 h2, Int.toNat_of_nonneg h2]
      exact h4
    case iastore =>
      have e1 : ln = 1 := Nat.eq_of_beq_eq_true hln
      subst e1
      obtain ⟨k, i, z, L, st', rfl, h0, h1, ⟨h2, h3⟩, h4, hk⟩ := hs
      obtain ⟨hb0', hst⟩ := aSo_c hst
      obtain ⟨hb1, hst⟩ := aSo_c hst
      obtain ⟨hb2, hst⟩ := aSo_c hst
      have hk1 := bl_lt h0
      have hkn := or_k hb2.2 hk1
      have ha := aWs_get (b0 := b0) (cA := cA) (σ := σ) hkn
      rw [aCe_i h1 (by decide) (by decide)] at ha
      rw [List.map_cons, List.map_cons, List.map_cons, cv_k hk1]
      refine va_iast hx hb hK hP hD hS k 0 ha rfl (o32_in hb1.1 h2 h3) hd (fun H1 locs1 hP1 hD1 hS1 => ?_)
      rw [o32_cl hb1.1 h2, up_i h2, aWs_set (f := fu (σ k) i z) (aCe_i h1 (by decide) (by decide)).symm] at hP1
      have hR1 := aRel_st hR hk1 h1 (by decide) (fun q q1 q2 => by
        by_cases hq : q = i
        · subst hq
          rw [fu_s]
          exact hb0'.1
        · rw [fu_n hq]
          exact wf_el hWf hkn h1 (by decide) q1 q2) hP1
      have en := aNn_sw (ph := ph) (σ := σ) (f := fu (σ k) i z) hk1
      have es := aSl_sw (ph := ph) (σ := σ) (f := fu (σ k) i z) hk1
      have h5 := hk H1 locs1 LS hR1 hS1 hL hlen (by rw [en]; exact hls) (by rw [en]; exact hst) (by rw [en, es]; exact hn)
      rw [en, es] at h5
      exact h5
    case lastore =>
      have e1 : ln = 1 := Nat.eq_of_beq_eq_true hln
      subst e1
      obtain ⟨k, i, z, L, st', rfl, h0, h1, ⟨h2, h3⟩, h4, hk⟩ := hs
      obtain ⟨hb0', hst⟩ := aSo_c hst
      obtain ⟨hb1, hst⟩ := aSo_c hst
      obtain ⟨hb2, hst⟩ := aSo_c hst
      have hk1 := bl_lt h0
      have hkn := or_k hb2.2 hk1
      have ha := aWs_get (b0 := b0) (cA := cA) (σ := σ) hkn
      rw [aCe_l h1] at ha
      rw [List.map_cons, List.map_cons, List.map_cons, cv_k hk1]
      refine va_last hx hb hK hP hD hS k 1 ha rfl (o32_in hb1.1 h2 h3) hd (fun H1 locs1 hP1 hD1 hS1 => ?_)
      rw [o32_cl hb1.1 h2, up_l h2, aWs_set (f := fu (σ k) i z) (aCe_l h1).symm] at hP1
      have hR1 := aRel_st hR hk1 h1 (by decide) (fun q q1 q2 => by
        by_cases hq : q = i
        · subst hq
          rw [fu_s]
          exact hb0'.1
        · rw [fu_n hq]
          exact wf_el hWf hkn h1 (by decide) q1 q2) hP1
      have en := aNn_sw (ph := ph) (σ := σ) (f := fu (σ k) i z) hk1
      have es := aSl_sw (ph := ph) (σ := σ) (f := fu (σ k) i z) hk1
      have h5 := hk H1 locs1 LS hR1 hS1 hL hlen (by rw [en]; exact hls) (by rw [en]; exact hst) (by rw [en, es]; exact hn)
      rw [en, es] at h5
      exact h5
    case bastore =>
      have e1 : ln = 1 := Nat.eq_of_beq_eq_true hln
      subst e1
      rcases hs with ⟨k, i, z, L, st', rfl, h0, h1, ⟨h2, h3⟩, h4, hk⟩ | ⟨k, i, z, L, st', rfl, h0, h1, ⟨h2, h3⟩, h4, hk⟩
      ·
        obtain ⟨hb0', hst⟩ := aSo_c hst
        obtain ⟨hb1, hst⟩ := aSo_c hst
        obtain ⟨hb2, hst⟩ := aSo_c hst
        have hk1 := bl_lt h0
        have hkn := or_k hb2.2 hk1
        have ha := aWs_get (b0 := b0) (cA := cA) (σ := σ) hkn
        rw [aCe_i h1 (by decide) (by decide)] at ha
        rw [List.map_cons, List.map_cons, List.map_cons, cv_k hk1]
        refine va_zast hx hb hK hP hD hS k 2 ha rfl (o32_in hb1.1 h2 h3) hd (fun H1 locs1 hP1 hD1 hS1 => ?_)
        rw [nar_z h4, o32_cl hb1.1 h2, up_i h2, aWs_set (f := fu (σ k) i z) (aCe_i h1 (by decide) (by decide)).symm] at hP1
        have hR1 := aRel_st hR hk1 h1 (by decide) (fun q q1 q2 => by
          by_cases hq : q = i
          · subst hq
            rw [fu_s]
            exact h4
          · rw [fu_n hq]
            exact wf_el hWf hkn h1 (by decide) q1 q2) hP1
        have en := aNn_sw (ph := ph) (σ := σ) (f := fu (σ k) i z) hk1
        have es := aSl_sw (ph := ph) (σ := σ) (f := fu (σ k) i z) hk1
        have h5 := hk H1 locs1 LS hR1 hS1 hL hlen (by rw [en]; exact hls) (by rw [en]; exact hst) (by rw [en, es]; exact hn)
        rw [en, es] at h5
        exact h5
      ·
        obtain ⟨hb0', hst⟩ := aSo_c hst
        obtain ⟨hb1, hst⟩ := aSo_c hst
        obtain ⟨hb2, hst⟩ := aSo_c hst
        have hk1 := bl_lt h0
        have hkn := or_k hb2.2 hk1
        have ha := aWs_get (b0 := b0) (cA := cA) (σ := σ) hkn
        rw [aCe_i h1 (by decide) (by decide)] at ha
        rw [List.map_cons, List.map_cons, List.map_cons, cv_k hk1]
        refine va_bast hx hb hK hP hD hS k 3 ha rfl (o32_in hb1.1 h2 h3) hd (fun H1 locs1 hP1 hD1 hS1 => ?_)
        rw [nar_b h4, o32_cl hb1.1 h2, up_i h2, aWs_set (f := fu (σ k) i z) (aCe_i h1 (by decide) (by decide)).symm] at hP1
        have hR1 := aRel_st hR hk1 h1 (by decide) (fun q q1 q2 => by
          by_cases hq : q = i
          · subst hq
            rw [fu_s]
            exact h4
          · rw [fu_n hq]
            exact wf_el hWf hkn h1 (by decide) q1 q2) hP1
        have en := aNn_sw (ph := ph) (σ := σ) (f := fu (σ k) i z) hk1
        have es := aSl_sw (ph := ph) (σ := σ) (f := fu (σ k) i z) hk1
        have h5 := hk H1 locs1 LS hR1 hS1 hL hlen (by rw [en]; exact hls) (by rw [en]; exact hst) (by rw [en, es]; exact hn)
        rw [en, es] at h5
        exact h5
    case castore =>
      have e1 : ln = 1 := Nat.eq_of_beq_eq_true hln
      subst e1
      obtain ⟨k, i, z, L, st', rfl, h0, h1, ⟨h2, h3⟩, h4, hk⟩ := hs
      obtain ⟨hb0', hst⟩ := aSo_c hst
      obtain ⟨hb1, hst⟩ := aSo_c hst
      obtain ⟨hb2, hst⟩ := aSo_c hst
      have hk1 := bl_lt h0
      have hkn := or_k hb2.2 hk1
      have ha := aWs_get (b0 := b0) (cA := cA) (σ := σ) hkn
      rw [aCe_i h1 (by decide) (by decide)] at ha
      rw [List.map_cons, List.map_cons, List.map_cons, cv_k hk1]
      refine va_cast hx hb hK hP hD hS k 4 ha rfl (o32_in hb1.1 h2 h3) hd (fun H1 locs1 hP1 hD1 hS1 => ?_)
      rw [nar_c h4, o32_cl hb1.1 h2, up_i h2, aWs_set (f := fu (σ k) i z) (aCe_i h1 (by decide) (by decide)).symm] at hP1
      have hR1 := aRel_st hR hk1 h1 (by decide) (fun q q1 q2 => by
        by_cases hq : q = i
        · subst hq
          rw [fu_s]
          exact h4
        · rw [fu_n hq]
          exact wf_el hWf hkn h1 (by decide) q1 q2) hP1
      have en := aNn_sw (ph := ph) (σ := σ) (f := fu (σ k) i z) hk1
      have es := aSl_sw (ph := ph) (σ := σ) (f := fu (σ k) i z) hk1
      have h5 := hk H1 locs1 LS hR1 hS1 hL hlen (by rw [en]; exact hls) (by rw [en]; exact hst) (by rw [en, es]; exact hn)
      rw [en, es] at h5
      exact h5
    case ireturn =>
      have e1 : ln = 1 := Nat.eq_of_beq_eq_true hln
      subst e1
      obtain ⟨v, rfl, h1, h2⟩ := hs
      exact hri ph pc v σ H locs LS hd h1 (aSo_c hst).1.1 h2 hR hS (fun z => (hn.2.2.2.2 z).1) hn.2.2.2.1
    case lreturn =>
      have e1 : ln = 1 := Nat.eq_of_beq_eq_true hln
      subst e1
      obtain ⟨v, rfl, h1, h2⟩ := hs
      exact hrl ph pc v σ H locs LS hd h1 (aSo_c hst).1.1 h2 hR hS (fun z => (hn.2.2.2.2 z).1) hn.2.2.2.1
    case return_ =>
      have e1 : ln = 1 := Nat.eq_of_beq_eq_true hln
      subst e1
      obtain ⟨rfl, h1, h2⟩ := hs
      exact hrv ph pc σ H locs LS hd h1 h2 hR hS (fun z => (hn.2.2.2.2 z).1) hn.2.2.2.1
    case arraylength =>
      have e1 : ln = 1 := Nat.eq_of_beq_eq_true hln
      subst e1
      rcases hs with ⟨k, kd, L, st', rfl, h0, h1, hk⟩ | ⟨k, st', rfl, h0, hk⟩ | ⟨st', rfl, hk⟩
      · obtain ⟨hb2, hst⟩ := aSo_c hst
        have hk1 := bl_lt h0
        have hkn := or_k hb2.2 hk1
        have ha := aWs_get (b0 := b0) (cA := cA) (σ := σ) hkn
        have hsh := sh_all k (by omega)
        rw [h1] at hsh
        obtain ⟨s1, s2, s3⟩ := hsh
        have s2 : 0 ≤ L := s2
        have s3 : L < 100000 := s3
        have h4 := hk H locs LS hR hS hL hlen hls (aSo_i (v := vi L) ⟨by omega, by omega⟩ trivial hst) hn
        rw [List.map_cons, cv_k hk1]
        by_cases h2 : kd = 1
        · subst h2
          rw [aCe_l h1] at ha
          exact va_alen hx hb hK hP k 1 ha rfl (o32_n s2 s3) hd h4
        · rw [aCe_i h1 (by omega) (by omega)] at ha
          have s1 : kd + 1 ≤ 5 := s1
          rcases (show kd = 0 ∨ kd = 2 ∨ kd = 3 ∨ kd = 4 by omega) with rfl | rfl | rfl | rfl
          · exact va_alen hx hb hK hP k 0 ha rfl (o32_n s2 s3) hd h4
          · exact va_alen hx hb hK hP k 2 ha rfl (o32_n s2 s3) hd h4
          · exact va_alen hx hb hK hP k 3 ha rfl (o32_n s2 s3) hd h4
          · exact va_alen hx hb hK hP k 4 ha rfl (o32_n s2 s3) hd h4
      · obtain ⟨hb2, hst⟩ := aSo_c hst
        have h16 := bl_lt h0
        have hl := str_r k
        have h4 := hk H locs LS hR hS hL hlen hls (aSo_i (v := vi (nth [] aSTR k).length) ⟨by omega, by omega⟩ trivial hst) hn
        rw [List.map_cons, cv_v h16]
        refine va_tlen (t := adV k) hx hb (hStr.1 k h16).2.2.2 hS (v := Int32.ofInt (nth [] aSTR k).length) ?_ hd h4
        rw [str_len]
        have := o32_n (L := ((nth [] aSTR k).length : Int)) (by omega) (by omega)
        simpa using this
      · obtain ⟨hb2, hst⟩ := aSo_c hst
        have e5 : σ 9999 2 = sL := hR.2.2.2.2.2
        have h4 := hk H locs LS hR hS hL hlen hls (aSo_i (v := vi (σ 9999 2)) ⟨by have := hWf.2.2.2; omega, by have := hWf.2.2.2; omega⟩ trivial hst) hn
        rw [List.map_cons, show aCv b0 adK adV sc fv (vr 1200) = .ref sc from rfl]
        refine va_slen hx hb hX (Nat.lt_of_lt_of_le hsc hb0) (show ¬ b0 ≤ sc by omega) hS hd ?_
        have h7 : (nI sL.toNat) = Int32.ofInt (σ 9999 2) := by
          rw [e5]
          exact o32_n (by have := hWf.2.2.2; omega) (by have := hWf.2.2.2; omega)
        first | (rw [h7]; exact h4) | (rw [show Int32.ofNat sL.toNat = Int32.ofInt (σ 9999 2) from h7]; exact h4) | (have h8 : sL.toNat.toInt32 = Int32.ofInt (σ 9999 2) := h7; rw [h8]; exact h4)
    case getfield ix =>
      have e1 : ln = 3 := Nat.eq_of_beq_eq_true hln
      subst e1
      rcases hs with ⟨ci, i, k, ps, st', ha, rfl, h0, h1, hk⟩ | ⟨k, ps, st', ha, rfl, h0, hk⟩ | ⟨k, ps, st', ha, rfl, h0, hk⟩
      · obtain ⟨hb2, hst⟩ := aSo_c hst
        have hk1 := bl_lt h0
        have hkn := or_k hb2.2 hk1
        have hw := aWs_get (b0 := b0) (cA := cA) (σ := σ) hkn
        rw [aCe_o h1] at hw
        obtain ⟨c1, c2, c3⟩ := ck_get hck0 ha
        obtain ⟨f1, f2, f3, f4, f5⟩ := cl_f c1
        have hi : i < aNf ci := f2 ▸ c2
        have hfd := wf_fd hWf hkn h1 hi
        rw [List.map_cons, cv_k hk1]
        refine va_get (C := (aCn ci).1) (T := (aCn ci).2.1) (N := (aCn ci).2.2) hx hb hts (fun w hw => aTb_of (f3 w hw) (u_good w hw)) hown hK hP k hw f1 i c2 (hts _ (aTb_of c3 rfl)) (fun _ h => h) (aFs_get hi) hd ?_
        unfold oFld at hk
        split at hk
        · rename_i hfk
          rw [hfk] at hfd ⊢
          exact hk H locs LS hR hS hL hlen hls (aSo_i (v := vi _) hfd trivial hst) hn
        · rename_i hfk
          rw [hfk] at hfd ⊢
          exact hk H locs LS hR hS hL hlen hls (aSo_i (v := vl _) hfd trivial hst) hn
        · rename_i hfk
          rw [hfk] at hfd ⊢
          exact hk H locs LS hR hS hL hlen hls (aSo_i (v := vi _) (aRw_32 hfd (by decide)) trivial hst) hn
        · rename_i hfk
          rw [hfk]
          cases ph with
          | true =>
            have hNn : aNn true σ = aNC := rfl
            have hrt := rt_lt k (by rw [← hNn]; exact hkn) i (by rw [h1]; exact hi)
            have hrf : σ k i = aRt k i + 1 := hR.2.2.2.1.2.2 k i (by rw [← hNn]; exact hkn) (by rw [h1]) (by rw [h1]; exact hi) (by rw [h1]; exact hfk)
            have hNC2 : aNC = 146 := rfl
            have h3 := hk H locs LS hR hS hL hlen hls (aSo_i (v := vr _) trivial (Or.inl (by rw [hNn]; exact hrt)) hst) hn
            rw [List.map_cons, cv_k (by omega)] at h3
            have hv : aFv b0 0 (σ k i) = .ref (b0 + aRt k i) := by
              show (if σ k i = 0 then Value.null else .ref (b0 + (σ k i - 1).toNat)) = _
              rw [if_neg (by omega), show (σ k i - 1).toNat = aRt k i by omega]
            rw [hv]
            exact h3
          | false =>
            obtain ⟨t, ht, hk⟩ := hk
            have hrf := (hR.2.2.2.1.2.2 k i (by have : k < (σ 9999 0).toNat := hkn; omega) (by rw [h1]) (by rw [h1]; exact hi) (by rw [h1]; exact hfk)).2
            have hNC2 : aNC = 146 := rfl
            have hNn : aNn false σ = (σ 9999 0).toNat := rfl
            have htn : t < aNn false σ := by rw [hNn]; omega
            have h3 := hk H locs LS hR hS hL hlen hls (aSo_i (v := vr _) trivial (Or.inl htn) hst) hn
            rw [List.map_cons, cv_k (by omega)] at h3
            have hv : aFv b0 0 (σ k i) = .ref (b0 + t) := by
              show (if σ k i = 0 then Value.null else .ref (b0 + (σ k i - 1).toNat)) = _
              rw [if_neg (by omega), show (σ k i - 1).toNat = t by omega]
            rw [hv]
            exact h3
        · exact hk.elim
      · obtain ⟨hb2, hst⟩ := aSo_c hst
        have h16 := bl_lt h0
        have h3 := hk H locs LS hR hS hL hlen hls (aSo_i (v := vr (1100 + k)) trivial (Or.inr (Or.inr (Or.inl ⟨by omega, by omega⟩))) hst) hn
        rw [List.map_cons, cv_v h16] at h3
        rw [List.map_cons, cv_t h16]
        exact vk_getf hx hb (hStr.1 k h16).2.2.1 hS hown (hts _ (aTb_of (ck_getv hck0 ha) rfl)) (fun _ h => h) hd h3
      · obtain ⟨hb2, hst⟩ := aSo_c hst
        have h16 := bl_lt h0
        have h3 := hk H locs LS hR hS hL hlen hls (aSo_i (v := vi 0) r32_0 trivial hst) hn
        rw [List.map_cons, cv_t h16]
        exact vk_getf hx hb (hStr.1 k h16).2.1 hS hown (hts _ (aTb_of (ck_getc hck0 ha) rfl)) (fun _ h => h) hd h3
    case getstatic ix =>
      have e1 : ln = 3 := Nat.eq_of_beq_eq_true hln
      subst e1
      rcases hs with ⟨ps, ha, hk⟩ | ⟨ps, ha, hk⟩
      · exact va_gets hx hb hZc hS hown (hts _ (aTb_of (ck_gs0 hck0 ha) rfl)) (fun _ h => h) hd (hk H locs LS hR hS hL hlen hls (aSo_i (v := vi 1) ⟨by omega, by omega⟩ trivial hst) hn)
      · exact va_gets hx hb hZf hS hown (hts _ (aTb_of (ck_gs1 hck0 ha) rfl)) (fun _ h => h) hd (hk H locs LS hR hS hL hlen hls (aSo_i (v := vr 1300) trivial (Or.inr (Or.inr (Or.inr (Or.inr rfl)))) hst) hn)
    case putfield ix =>
      have e1 : ln = 3 := Nat.eq_of_beq_eq_true hln
      subst e1
      obtain ⟨ci, i, k, fn, ps, v, st', ha, rfl, h0, h1, hv⟩ := hs
      obtain ⟨hb1, hst⟩ := aSo_c hst
      obtain ⟨hb2, hst⟩ := aSo_c hst
      have hk1 := bl_lt h0
      have hkn := or_k hb2.2 hk1
      have hw := aWs_get (b0 := b0) (cA := cA) (σ := σ) hkn
      rw [aCe_o h1] at hw
      obtain ⟨c1, c2, c3, c4⟩ := ck_put hck0 ha
      obtain ⟨f1, f2, f3, f4, f5⟩ := cl_f c1
      have hi : i < aNf ci := f2 ▸ c2
      have hkt := cl_k ci c1 i hi
      rw [List.map_cons, List.map_cons, cv_k hk1]
      have key : ∀ (z : Int), aCv b0 adK adV sc fv v = aFv b0 (aFk ci i) z → aRw (aFk ci i) z → (aFk ci i = 0 → ph = false ∧ 0 ≤ z ∧ z ≤ σ 9999 0) → (narrow (nth tyX0 aTyl ci i) (aCv b0 adK adV sc fv v) = aCv b0 adK adV sc fv v ∧ fits (nth tyX0 aTyl ci i) (aCv b0 adK adV sc fv v) = true) →
          aKp p l e R s m args below meth c b0 D cA adK adV sc fv sx sL (aMl j) n0 s0 ph0 Z ph (pc + 3) ls st' (sw σ k (fu (σ k) i z)) → W p l e R s m args below meth c H locs (aNn ph σ - n0) (aSl ph σ - s0) Z (F0 m pc LS (aCv b0 adK adV sc fv v :: .ref (b0 + k) :: st'.map (aCv b0 adK adV sc fv))) := by
        intro z hz hrw href hnf hk
        have fin : ∀ (H1 : Heap) (locs1 : List Loc), va_P D aCl ((aWs b0 cA (aNn ph σ) σ).set k (b0 + k, .inr (ci, (aFs b0 ci (σ k)).set i (aCv b0 adK adV sc fv v)))) H1 → va_S (fun q => b0 ≤ q) s.heap H1 locs1 → W p l e R s m args below meth c H1 locs1 (aNn ph σ - n0) (aSl ph σ - s0) Z (F0 m (pc + 3) LS (st'.map (aCv b0 adK adV sc fv))) := by
          intro H1 locs1 hP1 hS1
          rw [aFs_set (x := z) hz, aWs_set (f := fu (σ k) i z) (aCe_o h1).symm] at hP1
          have hR1 := aRel_pf hR hk1 h1 hrw href hP1
          have en := aNn_sw (ph := ph) (σ := σ) (f := fu (σ k) i z) hk1
          have es := aSl_sw (ph := ph) (σ := σ) (f := fu (σ k) i z) hk1
          have h5 := hk H1 locs1 LS hR1 hS1 hL hlen (by rw [en]; exact hls) (by rw [en]; exact hst) (by rw [en, es]; exact hn)
          rw [en, es] at h5
          exact h5
        rcases c4 with c4 | ⟨c4, c5, c6⟩
        · exact va_put (C := (aCn ci).1) (T := (aCn ci).2.1) (N := (aCn ci).2.2) hx hb hts (fun w hw => aTb_of (f3 w hw) (u_good w hw)) (nth tyX0 aTyl ci) f4 f5 hown hK hP hD hS k hw f1 i c2 (hts _ (aTb_of c3 rfl)) (fun _ h => h) c4 (f4 i c2) hnf.1 hnf.2 (by rw [aFs_len]; exact hi) hd (fun H1 locs1 hP1 _ hS1 => fin H1 locs1 hP1 hS1)
        · exact va_putF (C := (aCn ci).1) (T := (aCn ci).2.1) (N := (aCn ci).2.2) hx hb hts (fun w hw => aTb_of (f3 w hw) (u_good w hw)) (nth tyX0 aTyl ci) f4 f5 hown hK hP hD hS k hw f1 i c2 (hts _ (aTb_of c3 rfl)) (fun _ h => h) c4 (hnm c5) c6 (f4 i c2) hnf.1 hnf.2 (by rw [aFs_len]; exact hi) hd (fun H1 locs1 hP1 _ hS1 => fin H1 locs1 hP1 hS1)
      rcases hv with ⟨z, rfl, hz, hk⟩ | ⟨z, rfl, hz, hk⟩ | ⟨tq, hph, rfl, ht, hz, hk⟩
      · rcases hz with hz | ⟨hz, hz2⟩
        · refine key z (by rw [hz]; rfl) (by rw [hz]; exact hb1.1) (fun q => by rw [hz] at q; cases q) ?_ hk
          rw [hz] at hkt
          cases hty : nth tyX0 aTyl ci i <;> rw [hty] at hkt <;> first | (exact ⟨rfl, rfl⟩) | (cases hkt)
        · refine key z (by rw [hz]; rfl) (by rw [hz]; exact hz2) (fun q => by rw [hz] at q; cases q) ?_ hk
          rw [hz] at hkt
          cases hty : nth tyX0 aTyl ci i <;> rw [hty] at hkt <;> first | (exact nf_z hz2) | (cases hkt)
      · refine key z (by rw [hz]; rfl) (by rw [hz]; exact hb1.1) (fun q => by rw [hz] at q; cases q) ?_ hk
        rw [hz] at hkt
        cases hty : nth tyX0 aTyl ci i <;> rw [hty] at hkt <;> first | (exact ⟨rfl, rfl⟩) | (cases hkt)
      · have ht := bl_lt ht
        have htn := or_k hb1.2 ht
        subst hph
        have hNn : aNn false σ = (σ 9999 0).toNat := rfl
        rw [hNn] at htn
        refine key (tq + 1) ?_ (by rw [hz]; trivial) (fun _ => ⟨rfl, by omega, by omega⟩) ?_ hk
        · rw [hz, cv_k ht]
          show _ = (if ((tq : Int) + 1) = 0 then Value.null else .ref (b0 + ((tq : Int) + 1 - 1).toNat))
          rw [if_neg (by omega), show ((tq : Int) + 1 - 1).toNat = tq by omega]
        · rw [hz] at hkt
          rw [cv_k ht]
          cases hty : nth tyX0 aTyl ci i <;> rw [hty] at hkt <;> first | (exact ⟨rfl, rfl⟩) | (cases hkt)
    case invokevirtual ix =>
      have e1 : ln = 3 := Nat.eq_of_beq_eq_true hln
      subst e1
      obtain ⟨j2, na, ci, ps, as, st', ha, hj2, rfl, hna, hml2, hcs, hrc, hfit, hev⟩ := hs
      have hj2 := bl_lt hj2
      have hml2 := Nat.le_of_ble_eq_true hml2
      have hcs := Nat.le_of_ble_eq_true hcs
      obtain ⟨k0, k1, k2, k3, k4, k5, k6⟩ := ck_iv hck0 ha
      have hst2 : aSo (aNn ph σ) st' := fun w hw => hst w (List.mem_append_right _ hw)
      have hsa : aSo (aNn ph σ) as := fun w hw => hst w (List.mem_append_left _ (List.mem_reverse.mpr hw))
      obtain ⟨d, hlv, hM⟩ := hE ph j2 as σ _ hev hWf (fun v hv => (hsa v hv).1)
      have hM := hM b0 D cA adK adV sc fv sx sL hsa (by rw [aArg_len]; exact hml2)
      have hfit2 := fit_of hR.2.2.2.1 hfit hlm ⟨hn.1, hn.2.1, hn.2.2.1, hn.2.2.2.1⟩
      have hrm := rm_of (ph := ph) hRf hRl hlv hj2
      obtain ⟨vb, as', hsp, hrcv⟩ : ∃ (kb : Nat) (as' : List aV), as = vr kb :: as' ∧ ∃ ab : Nat, aCv b0 adK adV sc fv (vr kb) = .ref ab ∧ ∃ cellB : Cell, H[ab]? = some cellB ∧ cellB.vm.isStatics = false ∧ s.vm.findClass (aY j2).cls = some cellB.cls := by
        rcases k6 with ⟨rfl, hc⟩ | ⟨hc, hc2⟩
        · obtain ⟨kb, as', rfl, h16⟩ := hrc
          have h16 := bl_lt h16
          refine ⟨_, as', rfl, adK kb, cv_t h16, ?_⟩
          rw [hc]
          exact vk_recv hStr h16 hS
        · have hrc2 : ∃ (k : Nat) (as' : List aV), as = vr k :: as' ∧ Nat.blt k 1000 = true ∧ aSh k = (0, ci, 0) := by
            unfold oRc at hrc
            split at hrc
            · omega
            · omega
            · exact hrc
          obtain ⟨kb, as', rfl, h9, h8⟩ := hrc2
          have hk1 := bl_lt h9
          have hkn := or_k (hsa (vr kb) List.mem_cons_self).2 hk1
          have hw := aWs_get (b0 := b0) (cA := cA) (σ := σ) hkn
          rw [aCe_o h8] at hw
          obtain ⟨f1, -⟩ := cl_f hc
          obtain ⟨r, q0, cell, q1, q2, q3, -⟩ := hP kb _ hw
          refine ⟨kb, as', rfl, b0 + kb, cv_k hk1, cell, q1, by rw [q3]; rfl, ?_⟩
          rw [← hc2, q2]
          exact (hK.1 ci _ f1).2.1
      obtain ⟨ab, hab, hcell⟩ := hrcv
      subst hsp
      rw [st_map, hab]
      refine wb_call (j2 := j2) (ml := aMl j) (ph0 := ph0) (va_runV (As := as'.map (aCv b0 adK adV sc fv)) (rest := st'.map (aCv b0 adK adV sc fv)) (b := ab) (C := (aY j2).cls) (n := na - 1) (own := (aY j).cls) (Ts := aTb) ⟨hx, hb, hml, hown, hts⟩ hM ⟨callB_of (na - 1) hts (gd_wd hj2) rfl rfl rfl (hts _ (aTb_of k5 rfl)) (hts _ (aTb_of k2 rfl)) (yok_of k1) hrm, hts _ (aTb_of k3 rfl), hts _ (aTb_of k4 rfl)⟩ ⟨aPc_bl, hcell, fun U hU hW => ?_⟩ rfl ?_ hL.1 rfl (lv_room (by rw [cat_sum hcat]; exact hcs)) hd hfit2) hS hL hlen hls hst2 hn hfit2 (fun r σ' h => h)
      · have := pre_of (as := vr vb :: as') hR hSt hS hsz hn.1 (fun z => (hn.2.2.2.2 z).2) hU hW
        rw [List.map_cons, hab] at this
        exact this
      · rw [List.length_map]
        have : (vr vb :: as').length = na := hna
        simp at this
        omega
    case invokestatic ix =>
      have e1 : ln = 3 := Nat.eq_of_beq_eq_true hln
      subst e1
      rcases hs with ⟨j2, na, ci, ps, as, st', ha, hj2, rfl, hna, hml2, hcs, hrc, hfit, hev⟩ | hs | hs
      · have hj2 := bl_lt hj2
        have hml2 := Nat.le_of_ble_eq_true hml2
        have hcs := Nat.le_of_ble_eq_true hcs
        obtain ⟨k0, k1, k2, k3, k5⟩ := ck_is hck0 ha
        have hst2 : aSo (aNn ph σ) st' := fun w hw => hst w (List.mem_append_right _ hw)
        have hsa : aSo (aNn ph σ) as := fun w hw => hst w (List.mem_append_left _ (List.mem_reverse.mpr hw))
        obtain ⟨d, hlv, hM⟩ := hE ph j2 as σ _ hev hWf (fun v hv => (hsa v hv).1)
        have hM := hM b0 D cA adK adV sc fv sx sL hsa (by rw [aArg_len]; exact hml2)
        have hfit2 := fit_of hR.2.2.2.1 hfit hlm ⟨hn.1, hn.2.1, hn.2.2.1, hn.2.2.2.1⟩
        have hrm := rm_of (ph := ph) hRf hRl hlv hj2
        have hpre : PreS s H (aPc b0 D cA adK adV sc fv sx sL ph as σ) (as.map (aCv b0 adK adV sc fv)) := ⟨aPc_bl, fun U hU hW => pre_of hR hSt hS hsz hn.1 (fun z => (hn.2.2.2.2 z).2) hU hW⟩
        rw [st_map2]
        rcases k2 with k2 | k2
        · exact wb_call (j2 := j2) (ml := aMl j) (ph0 := ph0) (va_runS (As := as.map (aCv b0 adK adV sc fv)) (rest := st'.map (aCv b0 adK adV sc fv)) (n := na) (own := (aY j).cls) (Ts := aTb) ⟨hx, hb, hml, hown, hts⟩ hM ⟨callB_of na hts (gd_wd hj2) rfl rfl rfl (hts _ (aTb_of k5 rfl)) (hts _ (aTb_of k2 rfl)) (yok_of k1) hrm, hts _ (aTb_of k3 rfl)⟩ hpre rfl (by rw [List.length_map]; exact hna) hL.1 rfl (lv_room (by rw [cat_sum hcat]; exact hcs)) hd hfit2) hS hL hlen hls hst2 hn hfit2 (fun r σ' h => h)
        · have hnw := hNst _ (List.mem_filter.mpr ⟨k2, rfl⟩)
          exact wb_call (j2 := j2) (ml := aMl j) (ph0 := ph0) (va_runSN (As := as.map (aCv b0 adK adV sc fv)) (rest := st'.map (aCv b0 adK adV sc fv)) (n := na) (own := (aY j).cls) (host := "HeatTown") (Ts := aTb) ⟨hx, hb, hml, hown, hts⟩ hM ⟨va_cnB na hts (gd_wd hj2) rfl rfl rfl hnw (hts _ (aTb_of k5 rfl)) (yok_of k1) hrm, hts _ (aTb_of k3 rfl), trivial⟩ hpre rfl (by rw [List.length_map]; exact hna) hL.1 rfl (lv_room (by rw [cat_sum hcat]; exact hcs)) hd hfit2) hS hL hlen hls hst2 hn hfit2 (fun r σ' h => h)
      · obtain ⟨ps, k, k2, kd, sp, dp, mm, L, L2, st', ha, rfl, h0, h02, h1, h12, hkd, ⟨b1, b2, b3, b4, b5⟩, hlv1, hcs, hk⟩ := hs
        obtain ⟨w1, w2, w3, w4⟩ := ck_cp hck0 ha
        obtain ⟨r1, hst⟩ := aSo_c hst
        obtain ⟨r2, hst⟩ := aSo_c hst
        obtain ⟨r3, hst⟩ := aSo_c hst
        obtain ⟨r4, hst⟩ := aSo_c hst
        obtain ⟨r5, hst⟩ := aSo_c hst
        have hk1 := bl_lt h0
        have hk2 := bl_lt h02
        have hkn := or_k r5.2 hk1
        have hkn2 := or_k r3.2 hk2
        have hcs := Nat.le_of_ble_eq_true hcs
        have hlv1 := Nat.le_of_ble_eq_true hlv1
        have ha1 := aWs_get (b0 := b0) (cA := cA) (σ := σ) hkn
        have ha2 := aWs_get (b0 := b0) (cA := cA) (σ := σ) hkn2
        have hpos : ∀ z : Int, r32 z → 0 ≤ z → ¬ Int32.ofInt z < 0 := fun z hz h => by rw [← o32_0, o32_lt hz r32_0]; omega
        have en := aNn_sw (ph := ph) (σ := σ) (f := aCp (σ k) (σ k2) sp dp mm) hk2
        have es := aSl_sw (ph := ph) (σ := σ) (f := aCp (σ k) (σ k2) sp dp mm) hk2
        have hloc : ((st'.map (aCv b0 adK adV sc fv)).map fun v => v.category).sum + (nativeFrameWords "java/lang/System" "arraycopy" 5 + 11) ≤ R.locals := by
          rw [cat_sum hcat]
          have : nativeFrameWords "java/lang/System" "arraycopy" 5 ≤ 40 := by decide +kernel
          omega
        have fin : ∀ (H1 : Heap) (locs1 : List Loc), va_P D aCl (aWs b0 cA (aNn ph σ) (sw σ k2 (aCp (σ k) (σ k2) sp dp mm))) H1 → va_S (fun q => b0 ≤ q) s.heap H1 locs1 → W p l e R s m args below meth c H1 locs1 (aNn ph σ - n0) (aSl ph σ - s0) Z (F0 m (pc + 3) LS (st'.map (aCv b0 adK adV sc fv))) := by
          intro H1 locs1 hP1 hS1
          have hR1 := aRel_st hR hk2 h12 (by omega) (fun q q1 q2 => by
            unfold aCp
            split
            · exact wf_el hWf hkn h1 (by omega) (by omega) (by omega)
            · exact wf_el hWf hkn2 h12 (by omega) q1 q2) hP1
          have h5 := hk H1 locs1 LS hR1 hS1 hL hlen (by rw [en]; exact hls) (by rw [en]; exact hst) (by rw [en, es]; exact hn)
          rw [en, es] at h5
          exact h5
        rw [List.map_cons, List.map_cons, List.map_cons, List.map_cons, List.map_cons, cv_k hk1, cv_k hk2]
        have hkd2 : kd = 0 ∨ kd = 1 := by
          cases kd with
          | zero => exact Or.inl rfl
          | succ kd => exact Or.inr (by simpa using hkd)
        rcases hkd2 with rfl | rfl
        · rw [aCe_i h1 (by decide) (by decide)] at ha1
          rw [aCe_i h12 (by decide) (by decide)] at ha2
          refine va_copyi hx hb (hml.trans hL.1.symm) hown (hts _ (aTb_of w1 rfl)) (hts _ (aTb_of w2 rfl)) (hts _ (aTb_of w3 rfl)) (hts _ (aTb_of w4 rfl)) hK hP hD hS k k2 0 0 ha1 ha2 rfl rfl rfl (hpos _ r4.1 b1) (hpos _ r2.1 b2) (hpos _ r1.1 b3) (by rw [o32_cl r4.1 b1, o32_cl r1.1 b3]; omega) (by rw [o32_cl r2.1 b2, o32_cl r1.1 b3]; omega) (fun i _ => rfl) (by omega) hloc hd (fun H1 locs1 hP1 _ hS1 => ?_)
          rw [o32_cl r4.1 b1, o32_cl r1.1 b3, o32_cl r2.1 b2, cp_i b1 b2 b3, aWs_set (f := aCp (σ k) (σ k2) sp dp mm) (aCe_i h12 (by decide) (by decide)).symm] at hP1
          exact fin H1 locs1 hP1 hS1
        · rw [aCe_l h1] at ha1
          rw [aCe_l h12] at ha2
          refine va_copyl hx hb (hml.trans hL.1.symm) hown (hts _ (aTb_of w1 rfl)) (hts _ (aTb_of w2 rfl)) (hts _ (aTb_of w3 rfl)) (hts _ (aTb_of w4 rfl)) hK hP hD hS k k2 1 1 ha1 ha2 rfl rfl rfl (hpos _ r4.1 b1) (hpos _ r2.1 b2) (hpos _ r1.1 b3) (by rw [o32_cl r4.1 b1, o32_cl r1.1 b3]; omega) (by rw [o32_cl r2.1 b2, o32_cl r1.1 b3]; omega) (fun i _ => rfl) (by omega) hloc hd (fun H1 locs1 hP1 _ hS1 => ?_)
          rw [o32_cl r4.1 b1, o32_cl r1.1 b3, o32_cl r2.1 b2, cp_l b1 b2 b3, aWs_set (f := aCp (σ k) (σ k2) sp dp mm) (aCe_l h12).symm] at hP1
          exact fin H1 locs1 hP1 hS1
      · obtain ⟨hlv1, ps, hs⟩ := hs
        have hlv1 := Nat.le_of_ble_eq_true hlv1
        rcases hs with ⟨x, y, st', ha, rfl, hcs, hk⟩ | ⟨x, y, st', ha, rfl, hcs, hk⟩ | ⟨x, st', ha, rfl, hcs, hk⟩ | ⟨x, y, st', ha, rfl, hcs, hk⟩ | ⟨x, y, st', ha, rfl, hcs, hk⟩
        · obtain ⟨w0, w1, w2, w3⟩ := ck_mt hck0 ha
          have hcs := Nat.le_of_ble_eq_true hcs
          obtain ⟨r1, hst⟩ := aSo_c hst
          obtain ⟨r2, hst⟩ := aSo_c hst
          have h3 := hk H locs LS hR hS hL hlen hls (aSo_i (v := vi _) (r32_max r2.1 r1.1) trivial hst) hn
          rw [List.map_cons, List.map_cons]
          refine va_mmax hx hb (hml.trans hL.1.symm) hown (hts _ (aTb_of w1 rfl)) (hts _ (aTb_of w2 rfl)) (hts _ (aTb_of w3 rfl)) (hts _ (aTb_of (aGt_mem cm0) rfl)) (by omega) (by rw [cat_sum hcat]; omega) hn.2.2.1 hn.2.2.2.1 hd ?_
          rw [o32_max r2.1 r1.1]
          exact h3
        · obtain ⟨w0, w1, w2, w3⟩ := ck_mt hck0 ha
          have hcs := Nat.le_of_ble_eq_true hcs
          obtain ⟨r1, hst⟩ := aSo_c hst
          obtain ⟨r2, hst⟩ := aSo_c hst
          have h3 := hk H locs LS hR hS hL hlen hls (aSo_i (v := vi _) (r32_min r2.1 r1.1) trivial hst) hn
          rw [List.map_cons, List.map_cons]
          refine va_mmin hx hb (hml.trans hL.1.symm) hown (hts _ (aTb_of w1 rfl)) (hts _ (aTb_of w2 rfl)) (hts _ (aTb_of w3 rfl)) (hts _ (aTb_of (aGt_mem cm1) rfl)) (by omega) (by rw [cat_sum hcat]; omega) hn.2.2.1 hn.2.2.2.1 hd ?_
          rw [o32_min r2.1 r1.1]
          exact h3
        · obtain ⟨w0, w1, w2, w3⟩ := ck_mt hck0 ha
          have hcs := Nat.le_of_ble_eq_true hcs
          obtain ⟨r1, hst⟩ := aSo_c hst
          have h3 := hk H locs LS hR hS hL hlen hls (aSo_i (v := vi _) (w32_in _) trivial hst) hn
          rw [List.map_cons]
          refine va_mabs hx hb (hml.trans hL.1.symm) hown (hts _ (aTb_of w1 rfl)) (hts _ (aTb_of w2 rfl)) (hts _ (aTb_of w3 rfl)) (hts _ (aTb_of (aGt_mem cm2) rfl)) (by omega) (by rw [cat_sum hcat]; omega) hn.2.2.1 hn.2.2.2.1 hd ?_
          rw [o32_abs r1.1]
          exact h3
        · obtain ⟨w0, w1, w2, w3⟩ := ck_mt hck0 ha
          have hcs := Nat.le_of_ble_eq_true hcs
          obtain ⟨r1, hst⟩ := aSo_c hst
          obtain ⟨r2, hst⟩ := aSo_c hst
          have h3 := hk H locs LS hR hS hL hlen hls (aSo_i (v := vl _) (r64_max r2.1 r1.1) trivial hst) hn
          rw [List.map_cons, List.map_cons]
          refine va_mmax_long hx hb (hml.trans hL.1.symm) hown (hts _ (aTb_of w1 rfl)) (hts _ (aTb_of w2 rfl)) (hts _ (aTb_of w3 rfl)) (hts _ (aTb_of (aGt_mem cm3) rfl)) (by omega) (by rw [cat_sum hcat]; omega) hn.2.2.1 hn.2.2.2.1 hd ?_
          rw [o64_max r2.1 r1.1]
          exact h3
        · obtain ⟨w0, w1, w2, w3⟩ := ck_mt hck0 ha
          have hcs := Nat.le_of_ble_eq_true hcs
          obtain ⟨r1, hst⟩ := aSo_c hst
          obtain ⟨r2, hst⟩ := aSo_c hst
          have h3 := hk H locs LS hR hS hL hlen hls (aSo_i (v := vl _) (r64_min r2.1 r1.1) trivial hst) hn
          rw [List.map_cons, List.map_cons]
          refine va_mmin_long hx hb (hml.trans hL.1.symm) hown (hts _ (aTb_of w1 rfl)) (hts _ (aTb_of w2 rfl)) (hts _ (aTb_of w3 rfl)) (hts _ (aTb_of (aGt_mem cm4) rfl)) (by omega) (by rw [cat_sum hcat]; omega) hn.2.2.1 hn.2.2.2.1 hd ?_
          rw [o64_min r2.1 r1.1]
          exact h3
    case invokespecial ix =>
      have e1 : ln = 3 := Nat.eq_of_beq_eq_true hln
      subst e1
      rcases hs with ⟨j2, na, ci, ps, as, st', ha, hj2, rfl, hna, hml2, hcs, hrc, hfit, hev⟩ | ⟨ps, k, st', ha, rfl, h0, hlv1, hcs, hk⟩
      · have hj2 := bl_lt hj2
        have hml2 := Nat.le_of_ble_eq_true hml2
        have hcs := Nat.le_of_ble_eq_true hcs
        obtain ⟨k0, k9, k1, k2, k3, k5, k6, k7⟩ := ck_ip hck0 ha
        have hst2 : aSo (aNn ph σ) st' := fun w hw => hst w (List.mem_append_right _ hw)
        have hsa : aSo (aNn ph σ) as := fun w hw => hst w (List.mem_append_left _ (List.mem_reverse.mpr hw))
        obtain ⟨d, hlv, hM⟩ := hE ph j2 as σ _ hev hWf (fun v hv => (hsa v hv).1)
        have hM := hM b0 D cA adK adV sc fv sx sL hsa (by rw [aArg_len]; exact hml2)
        have hfit2 := fit_of hR.2.2.2.1 hfit hlm ⟨hn.1, hn.2.1, hn.2.2.1, hn.2.2.2.1⟩
        have hrm := rm_of (ph := ph) hRf hRl hlv hj2
        have hrc2 : ∃ (k : Nat) (as' : List aV), as = vr k :: as' ∧ Nat.blt k 1000 = true ∧ aSh k = (0, ci, 0) := by
          unfold oRc at hrc
          split at hrc
          · omega
          · omega
          · exact hrc
        obtain ⟨kb, as', rfl, h9, h8⟩ := hrc2
        have hk1 := bl_lt h9
        have hret : aRy j2 = none := by unfold aRy; rw [k7]; rfl
        have hG := gd_wd hj2
        have hpre : PreS s H (aPc b0 D cA adK adV sc fv sx sL ph (vr kb :: as') σ) (.ref (b0 + kb) :: as'.map (aCv b0 adK adV sc fv)) := ⟨aPc_bl, fun U hU hW => by
          have := pre_of (as := vr kb :: as') hR hSt hS hsz hn.1 (fun z => (hn.2.2.2.2 z).2) hU hW
          rw [List.map_cons, cv_k hk1] at this
          exact this⟩
        have hlen2 : (as'.map (aCv b0 adK adV sc fv)).length = na - 1 := by
          rw [List.length_map]
          have : (vr kb :: as').length = na := hna
          simp at this
          omega
        rw [st_map, cv_k hk1]
        have hwd : aWd j2 = .code (aY j2) (aB j2) (aMl j2) none :: aTb := by unfold aWd; rw [hret]
        rcases k2 with k2 | k2
        · exact wb_call (j2 := j2) (ml := aMl j) (ph0 := ph0) (va_runI (As := as'.map (aCv b0 adK adV sc fv)) (rest := st'.map (aCv b0 adK adV sc fv)) (b := b0 + kb) (n := na - 1) (own := (aY j).cls) (Ts := aTb) ⟨hx, hb, hml, hown, hts⟩ hM ⟨callB_of (na - 1) hts hG hwd rfl rfl (hts _ (aTb_of k5 rfl)) (hts _ (aTb_of k2 rfl)) (yok_of k1) hrm, k6, hts _ (aTb_of k3 rfl)⟩ hpre rfl hlen2 hL.1 rfl (lv_room (by rw [cat_sum hcat]; exact hcs)) hd hfit2) hS hL hlen hls hst2 hn hfit2 (fun r σ' h => h)
        · have hnw := hNst _ (List.mem_filter.mpr ⟨k2, rfl⟩)
          exact wb_call (j2 := j2) (ml := aMl j) (ph0 := ph0) (va_runIN (As := as'.map (aCv b0 adK adV sc fv)) (rest := st'.map (aCv b0 adK adV sc fv)) (b := b0 + kb) (n := na - 1) (own := (aY j).cls) (host := "HeatTown") (Ts := aTb) ⟨hx, hb, hml, hown, hts⟩ hM ⟨va_cnB (na - 1) hts hG hwd rfl rfl hnw (hts _ (aTb_of k5 rfl)) (yok_of k1) hrm, k6, hts _ (aTb_of k3 rfl)⟩ hpre rfl hlen2 hL.1 rfl (lv_room (by rw [cat_sum hcat]; exact hcs)) hd hfit2) hS hL hlen hls hst2 hn hfit2 (fun r σ' h => h)
      · obtain ⟨w1, w2⟩ := ck_ob hck0 ha
        obtain ⟨r1, hst⟩ := aSo_c hst
        have hcs := Nat.le_of_ble_eq_true hcs
        have hlv1 := Nat.le_of_ble_eq_true hlv1
        have h3 := hk H locs LS hR hS hL hlen hls hst hn
        have hk1 := bl_lt h0
        rw [List.map_cons, cv_k hk1]
        exact W.objInit hx hb hown (hts _ (aTb_of w1 rfl)) (hts _ (aTb_of w2 rfl)) (hts _ (aTb_of ob_code rfl)) rfl (hL.1.trans hml.symm) rfl hd (by omega) (by have h9 := lv_room (m := m) (pc := pc) (ls := LS) (rest := st'.map (aCv b0 adK adV sc fv)) (st := st'.map (aCv b0 adK adV sc fv)) (by rw [cat_sum hcat]; exact hcs); show 2 * 0 + _ + 12 ≤ _; rw [cat_sum hcat]; omega) h3
    case new ix =>
      have e1 : ln = 3 := Nat.eq_of_beq_eq_true hln
      subst e1
      obtain ⟨ci, ps, ha, rfl, hlt, h1, ⟨hl1, hl2⟩, hk⟩ := hs
      have hlt := bl_lt hlt
      have hHs := aRel_sz hR hsz hS.1 hn.1 (hn.2.2.2.2 rfl).2
      have hNn : aNn false σ = (σ 9999 0).toNat := rfl
      have hSl : aSl false σ = (σ 9999 1).toNat := rfl
      have q1 : 0 ≤ σ 9999 0 := hR.2.2.2.1.1
      have q2 : 0 ≤ σ 9999 1 := hR.2.2.2.1.2.1
      obtain ⟨c1, w1, w2, w3⟩ := ck_new hck0 ha
      obtain ⟨f1, f2, f3, f4, f5⟩ := cl_f c1
      have hKn := hK.1 ci _ f1
      have hn0 := hn.1
      have hs0 := hn.2.1
      rw [hNn] at hn0 hHs
      rw [hSl] at hs0
      refine W.newcK hx hb hown (hts _ (aTb_of w1 rfl)) (hts _ (aTb_of w2 rfl)) (hts _ (aTb_of w3 rfl)) rfl hd (by rw [hNn]; omega) (by rw [hSl, f2]; omega) hKn.2.1 rfl fun H1 kC hkC z0 z1 o1 => ?_
      have hP1 : va_P D aCl (aWs b0 cA (σ 9999 0).toNat σ ++ [(b0 + (σ 9999 0).toNat, aCe b0 cA (fun _ => 0) (σ 9999 0).toNat)]) H1 := by
        refine (hP.kept (fun k x hx => o1 x.1 ((hP k x hx).lt))).app (fun k x hx => ?_)
        have hz : k < 1 := (List.getElem?_eq_some_iff.mp hx).1
        rw [show k = 0 by omega] at hx
        cases hx
        rw [aCe_o h1, ← hHs]
        refine ⟨_, f1, (u_born (nth tyX0 aTyl ci) hts (fun w hw => aTb_of (f3 w hw) (u_good w hw)) hKn hkC z0 f4).to (fun k hk => ?_)⟩
        have hk2 : k < aNf ci := f2 ▸ hk
        have hv : vp_V (aFs b0 ci (fun _ => 0)) k = aFv b0 (aFk ci k) 0 := by
          unfold vp_V
          rw [List.getD_eq_getElem?_getD, aFs_get hk2]
          rfl
        exact (dv_ok (cl_k ci c1 k hk2) (fk_9 ci c1 k hk2)).trans hv.symm
      have hR1 := aRel_nw (q := aNf ci) hR hlt (by omega) hP1
      have hS1 : va_S (fun q => b0 ≤ q) s.heap H1 locs := ⟨by have := hS.1; omega, fun x a1 a2 => (o1 x (Nat.lt_of_lt_of_le a1 hS.1)).trans (hS.2.1 x a1 a2), hS.2.2⟩
      have eN : aNn false (sw (sw σ (σ 9999 0).toNat (fun _ => 0)) 9999 (fu (fu (σ 9999) 0 (σ 9999 0 + 1)) 1 (σ 9999 1 + aNf ci))) = (σ 9999 0).toNat + 1 := by
        show (sw _ 9999 _ 9999 0).toNat = _
        rw [sw_s, fu_n (by omega), fu_s]
        omega
      have eS : aSl false (sw (sw σ (σ 9999 0).toNat (fun _ => 0)) 9999 (fu (fu (σ 9999) 0 (σ 9999 0 + 1)) 1 (σ 9999 1 + aNf ci))) = (σ 9999 1).toNat + aNf ci := by
        show (sw _ 9999 _ 9999 1).toNat = _
        rw [sw_s, fu_s]
        omega
      have h5 := hk H1 locs LS hR1 hS1 hL hlen (by rw [eN]; exact aSo_k hls (by rw [hNn]; omega)) (by rw [eN]; exact aSo_i (v := vr _) trivial (Or.inl (by omega)) (aSo_k hst (by rw [hNn]; omega))) (by rw [eN, eS]; exact ⟨by omega, by omega, by omega, by omega, hn.2.2.2.2⟩)
      have hNC2 : aNC = 146 := rfl
      rw [eN, eS, List.map_cons, cv_k (by omega), show (σ 9999 0).toNat + 1 - n0 = aNn false σ - n0 + 1 by rw [hNn]; omega, show (σ 9999 1).toNat + aNf ci - s0 = aSl false σ - s0 + (aCn ci).2.2 by rw [hSl, f2]; omega] at h5
      rw [hHs]
      exact h5
    case newarray ty =>
      have e1 : ln = 2 := Nat.eq_of_beq_eq_true hln
      subst e1
      obtain ⟨L, st', rfl, rfl, hlt, h1, hL01, ⟨hl1, hl2⟩, hk⟩ := hs
      have hlt := bl_lt hlt
      obtain ⟨r1, hst⟩ := aSo_c hst
      have hHs := aRel_sz hR hsz hS.1 hn.1 (hn.2.2.2.2 rfl).2
      have hNn : aNn false σ = (σ 9999 0).toNat := rfl
      have hSl : aSl false σ = (σ 9999 1).toNat := rfl
      have q1 : 0 ≤ σ 9999 0 := hR.2.2.2.1.1
      have q2 : 0 ≤ σ 9999 1 := hR.2.2.2.1.2.1
      have w1 := ck_nwa hck0
      have hn0 := hn.1
      have hs0 := hn.2.1
      rw [hNn] at hn0 hHs
      rw [hSl] at hs0
      have hcl := o32_cl r1.1 hL01.1
      have hty9 : aAty ty ≠ 9 := by
        intro z
        have := (sh_all _ hlt).1
        rw [h1, z] at this
        have this : (9 : Nat) ≤ 5 := this
        omega
      have hcm : ∀ N : Nat, N < 100000 → N * componentBytes (newarray.typeOf ty) ≤ 536870912 := by
        intro N hN
        have : componentBytes (newarray.typeOf ty) ≤ 8 := by cases ty <;> decide
        have := Nat.mul_le_mul (Nat.le_of_lt hN) this
        omega
      refine va_newaK (N := L.toNat) (rest := st'.map (aCv b0 adK adV sc fv)) hx hb (hts _ (aTb_of w1 rfl)) rfl hd rfl (by rw [← o32_0, o32_lt r1.1 r32_0]; omega) hcl (hcm _ (by omega)) (by rw [hNn]; omega) (by rw [hSl]; omega) hHs fun H1 cA' z0 z1 o1 hAr hNm => ?_
      have hcA : cA' = cA (aAty ty) ∧ vp_cell (cA (aAty ty)) (match aAty ty with
          | 2 => (L.toNat, .inr (.inl (fun j => Int64.ofInt 0)))
          | _ => (L.toNat, .inl (fun j => Int32.ofInt 0))) = arrV (cA (aAty ty)) L.toNat (fun _ => defaultValue (newarray.typeOf ty)) := by
        cases ty <;> first
          | exact absurd rfl hty9
          | exact ⟨Option.some.inj (hNm.symm.trans (hK.2 0 _ rfl).2), rfl⟩
          | exact ⟨Option.some.inj (hNm.symm.trans (hK.2 1 _ rfl).2), rfl⟩
          | exact ⟨Option.some.inj (hNm.symm.trans (hK.2 2 _ rfl).2), rfl⟩
          | exact ⟨Option.some.inj (hNm.symm.trans (hK.2 3 _ rfl).2), rfl⟩
          | exact ⟨Option.some.inj (hNm.symm.trans (hK.2 4 _ rfl).2), rfl⟩
      obtain ⟨rfl, hcell⟩ := hcA
      have hP1 : va_P D aCl (aWs b0 cA (σ 9999 0).toNat σ ++ [(b0 + (σ 9999 0).toNat, aCe b0 cA (fun _ => 0) (σ 9999 0).toNat)]) H1 := by
        refine (hP.kept (fun k x hx => o1 x.1 (by have := (hP k x hx).lt; omega))).app (fun k x hx => ?_)
        have hz : k < 1 := (List.getElem?_eq_some_iff.mp hx).1
        rw [show k = 0 by omega] at hx
        cases hx
        by_cases h2 : aAty ty = 2
        · rw [h2] at h1 hcell z0
          rw [aCe_l h1]
          show H1[_]? = some _
          rw [z0, ← hcell]
          rfl
        · have h0' : aAty ty ≠ 0 := by cases ty <;> decide
          rw [aCe_i h1 h0' h2]
          show H1[_]? = some _
          rw [z0, ← hcell]
          congr 2
          split
          · rename_i z
            exact absurd z h2
          · rfl
      have hR1 := aRel_nw (q := L) hR hlt hL01.1 hP1
      have hS1 : va_S (fun q => b0 ≤ q) s.heap H1 locs := ⟨by have := hS.1; omega, fun x a1 a2 => (o1 x (by have := hS.1; omega)).trans (hS.2.1 x a1 a2), hS.2.2⟩
      have eN : aNn false (sw (sw σ (σ 9999 0).toNat (fun _ => 0)) 9999 (fu (fu (σ 9999) 0 (σ 9999 0 + 1)) 1 (σ 9999 1 + L))) = (σ 9999 0).toNat + 1 := by
        show (sw _ 9999 _ 9999 0).toNat = _
        rw [sw_s, fu_n (by omega), fu_s]
        omega
      have eS : aSl false (sw (sw σ (σ 9999 0).toNat (fun _ => 0)) 9999 (fu (fu (σ 9999) 0 (σ 9999 0 + 1)) 1 (σ 9999 1 + L))) = (σ 9999 1).toNat + L.toNat := by
        show (sw _ 9999 _ 9999 1).toNat = _
        rw [sw_s, fu_s]
        omega
      have h5 := hk H1 locs LS hR1 hS1 hL hlen (by rw [eN]; exact aSo_k hls (by rw [hNn]; omega)) (by rw [eN]; exact aSo_i (v := vr _) trivial (Or.inl (by omega)) (aSo_k hst (by rw [hNn]; omega))) (by rw [eN, eS]; exact ⟨by omega, by omega, by omega, by omega, hn.2.2.2.2⟩)
      have hNC2 : aNC = 146 := rfl
      rw [eN, eS, List.map_cons, cv_k (by omega), show (σ 9999 0).toNat + 1 - n0 = aNn false σ - n0 + 1 by rw [hNn]; omega, show (σ 9999 1).toNat + L.toNat - s0 = aSl false σ - s0 + L.toNat by rw [hSl]; omega] at h5
      exact h5
  · have hNn : aNn true σ = aNn false σ := by
      show aNC = (σ 9999 0).toNat
      rw [hfull.1]
      omega
    have hSl : aSl true σ = aSl false σ := by
      show aSL = (σ 9999 1).toNat
      rw [hfull.2.1]
      omega
    have hR1 : aRel b0 D cA sx sL true σ H := ⟨by rw [hNn]; exact hR.1, by rw [hNn]; exact hR.2.1, by rw [hNn]; exact hR.2.2.1, hfull, hR.2.2.2.2⟩
    have h5 := hk H locs LS hR1 hS hL hlen (by rw [hNn]; exact hls) (by rw [hNn]; exact hst) (by rw [hNn, hSl]; exact ⟨hn.1, hn.2.1, hn.2.2.1, hn.2.2.2.1, fun z => by cases z⟩)
    rw [hNn, hSl] at h5
    exact h5
  · obtain ⟨hck, -⟩ := aCk_of hlook
    unfold aCkB at hck
    simp only [Bool.and_eq_true, decide_eq_true_eq] at hck
    obtain ⟨hd, hck⟩ := hck
    have hcat := aCv_cat (b0 := b0) (adK := adK) (adV := adV) (sc := sc) hfv
    have ho := so_nth hls h1 rfl
    obtain ⟨k, hk⟩ := List.getElem?_of_mem ((aLv_mem (cv := aCv b0 adK adV sc fv) ls 0 _).mpr ⟨i, vi a, h1, rfl, rfl⟩)
    rw [Nat.zero_add] at hk
    have hil : i < ls.length := by
      by_cases hi : i < ls.length
      · exact hi
      · exfalso
        have : nth vt ls i = vt := nth_ge (by omega)
        rw [this] at h1
        cases h1
    exact lv_iincW hx hb hd hL hk (o32_add _ _) (hlen ▸ hil) rfl (fun LS' hL' => h2 H locs LS' hR hS (lv_mono hL' (lv_stI (v := vi _) hcat)) (stI_len.trans hlen) (stI_so hls (w32_in _) trivial) hst hn)
end
