section
theorem lv_arg {cv : aV → Value} (hc : ∀ w, (cv w).category = aCat w) : ∀ (as : List aV) (o k : Nat), ∀ q ∈ aLv cv o (aArg as ++ List.replicate k vt), q ∈ lv_args o (as.map cv)
  | [], o, k, q, h => by
    exfalso
    obtain ⟨i, v, h1, h2, -⟩ := (aLv_mem _ _ _).mp h
    have : nth vt (aArg [] ++ List.replicate k vt) i = vt := by
      rcases nth_in (ls := aArg [] ++ List.replicate k vt) (i := i) with h | h
      · exact h
      · have h : nth vt (aArg [] ++ List.replicate k vt) i ∈ List.replicate k vt := h
        exact (List.mem_replicate.mp h).2
    rw [this] at h1
    subst h1
    cases h2
  | v :: l, o, k, q, h => by
    have ih := lv_arg hc l
    rw [show aArg (v :: l) = bif aIsL v then v :: vt :: aArg l else v :: aArg l from rfl] at h
    show q ∈ (o, cv v) :: lv_args (if (cv v).category = 2 then o + 2 else o + 1) (l.map cv)
    rw [hc]
    cases hl : aIsL v with
    | true =>
      have e : aCat v = 2 := by unfold aCat; rw [hl]; rfl
      rw [e, if_pos rfl]
      rw [hl, cond_true] at h
      have ht : aIsT v = false := by
        rcases v with x | x | _ | x
        · rfl
        · rfl
        · cases hl
        · rfl
      have h : q ∈ aLv cv o (v :: vt :: (aArg l ++ List.replicate k vt)) := h
      unfold aLv at h
      rw [ht, cond_false] at h
      rcases List.mem_cons.mp h with h | h
      · exact List.mem_cons.mpr (Or.inl h)
      · exact List.mem_cons_of_mem _ (ih (o + 2) k q h)
    | false =>
      have e : aCat v = 1 := by unfold aCat; rw [hl]; rfl
      rw [e, if_neg (by decide)]
      rw [hl, cond_false] at h
      have h : q ∈ aLv cv o (v :: (aArg l ++ List.replicate k vt)) := h
      unfold aLv at h
      cases ht : aIsT v with
      | true =>
        rw [ht, cond_true] at h
        exact List.mem_cons_of_mem _ (ih (o + 1) k q h)
      | false =>
        rw [ht, cond_false] at h
        rcases List.mem_cons.mp h with h | h
        · exact List.mem_cons.mpr (Or.inl h)
        · exact List.mem_cons_of_mem _ (ih (o + 1) k q h)
theorem sl_len {cv : aV → Value} (hc : ∀ w, (cv w).category = aCat w) : ∀ (as : List aV), (lg_sl (as.map cv)).length = (aArg as).length
  | [] => rfl
  | v :: l => by
    have ih := sl_len hc l
    rw [show aArg (v :: l) = bif aIsL v then v :: vt :: aArg l else v :: aArg l from rfl]
    have h0 : lg_sl ((v :: l).map cv) = (if (cv v).category = 2 then [Slot.val (cv v), .second] else [.val (cv v)]) ++ lg_sl (l.map cv) := by
      simp [lg_sl]
    rw [h0, hc, List.length_append, ih]
    cases hl : aIsL v with
    | true =>
      have e : aCat v = 2 := by unfold aCat; rw [hl]; rfl
      rw [e]
      simp
      omega
    | false =>
      have e : aCat v = 1 := by unfold aCat; rw [hl]; rfl
      rw [e]
      simp
      omega
theorem aX_nil {E : Bool → Nat → aT} {lv : Nat} {lm : Int × Int} {rt : Nat} {Q : aQ} {ph : Bool} {pc : Nat} {ls st : List aV} {σ : aW} (h : aX E lv lm [] rt Q ph pc ls st σ) : False :=
  h (fun _ _ _ _ _ => False) (fun ph pc ls st σ hs => by
    rcases hs with ⟨x, ln, an, c, h1, -⟩ | ⟨-, -, h3⟩ | ⟨i, n, an, c, v, -, -, h3⟩
    · unfold aLook at h1
      simp [nth, aFind] at h1
    · exact h3
    · exact h3)
theorem nth_out {α : Type} {d : α} : ∀ {l : List α} {n : Nat}, l.length ≤ n → nth d l n = d
  | [], _, _ => rfl
  | _ :: l, 0, h => by simp at h
  | _ :: l, n + 1, h => nth_out (l := l) (n := n) (by simpa using h)
set_option maxRecDepth 100000 in
theorem cd_len : aCDL.length = 18 := by decide +kernel
set_option maxRecDepth 100000 in
theorem cd_out1 : ∀ j, j < 288 → 277 ≤ j → (aCd j).isEmpty = true := by decide +kernel
theorem cd_out (j : Nat) (h : 277 ≤ j) : (aCd j).isEmpty = true := by
  by_cases h2 : j < 288
  · exact cd_out1 j h2 h
  · have h3 : aCd j = [] := by
      unfold aCd nth2
      rw [nth_out (l := aCDL) (by rw [cd_len]; omega)]
      rfl
    rw [h3]
    rfl
theorem aRel_tf {b0 : Nat} {D : va_G} {cA : Nat → ClassId} {sx : Int → Int} {sL : Int} {σ : aW} {H : Heap} (h : aRel b0 D cA sx sL true σ H) : aRel b0 D cA sx sL false σ H ∧ aNn true σ = aNn false σ ∧ aSl true σ = aSl false σ := by
  obtain ⟨p1, p3, p4, ⟨f1, f2, f3⟩, p6⟩ := h
  have e1 : aNn true σ = aNn false σ := by
    show aNC = (σ 9999 0).toNat
    rw [f1]
    omega
  have e2 : aSl true σ = aSl false σ := by
    show aSL = (σ 9999 1).toNat
    rw [f2]
    omega
  refine ⟨⟨by rw [← e1]; exact p1, by rw [← e1]; exact p3, by rw [← e1]; exact p4, ⟨by rw [f1]; omega, by rw [f2]; omega, fun k i h1 h2 h3 h4 => ?_⟩, p6⟩, e1, e2⟩
  rw [f1] at h1 ⊢
  have hk : k < aNC := by omega
  have := f3 k i hk h2 h3 h4
  have := rt_lt k hk i h3
  omega
/-- a body that keeps its word in the abstract machine keeps its contract -/
theorem snd_bd {l : Launch} {d : Nat} {E : Bool → Nat → aT} (hE : ∀ ph j2 as σ Q2, E ph j2 as σ Q2 → ∃ d', d = d' + 1 ∧ aMet l d' ph j2 as σ Q2) (ph : Bool) (j : Nat) (as : List aV) (σ : aW) (Q : aQ) (h : aBd E d ph j as σ Q) : aMet l d ph j as σ Q := by
  intro b0 D cA adK adV sc fv sx sL hso hlen
  by_cases hemp : (aCd j).isEmpty = true
  · have hnil : aCd j = [] := List.isEmpty_iff.mp hemp
    have hfalse : ∀ U : State, ∀ a, aPc b0 D cA adK adV sc fv sx sL ph as σ a U → False := by
      intro U a hv
      have hx := h hv.2.1.2.2.1 (fun v hv => (hso v hv).1)
      rw [hnil] at hx
      exact aX_nil hx
    intro p e h1 h2 h3 s m args below h4 h5 h6 h7
    exact (hfalse _ _ h6).elim
  · have hj : j < 277 := by
      by_cases z : j < 277
      · exact z
      · exact absurd (cd_out j (by omega)) hemp
    have hpl : plainName (aY j).cls = true := by
      have := aY_plain j hj
      rw [Bool.or_eq_true] at this
      exact this.resolve_left hemp
    refine Met.ofW (cc := aB j) (maxL := aMl j) (ret := aRy j) hpl rfl ?_
    intro p e s m args below meth c s₁ B hml hv
    obtain ⟨rfl, hR, hSt, hsz0⟩ := hv
    have hb := B.bytes
    have hr := B.returns
    have hts0 := atoms_spec (ws := aWd j) B.pre
    have hown : s.vm.findClass (aY j).cls = some m.cls := findClass_of_methodNamed B.named
    have hlocks := B.notSynchronized
    have hnm : (aY j).name = "<init>" → meth.name = "<init>" := fun z => (name_of_methodNamed B.named B.method).1.trans z
    have hcat := aCv_cat (b0 := b0) (adK := adK) (adV := adV) (sc := sc) hSt.2.2.2.2.2.2.2.2
    have hl := lv_entry (as.map (aCv b0 adK adV sc fv)) (n := aMl j) (by rw [sl_len hcat]; exact hlen)
    rw [lg_entry_eq]
    generalize (lg_sl (as.map (aCv b0 adK adV sc fv)) ++ List.replicate (aMl j - (lg_sl (as.map (aCv b0 adK adV sc fv))).length) Slot.unset).toArray = LS at hl ⊢
    have hX := h hR.2.2.1 (fun v hv => (hso v hv).1)
    have hL : lv_has LS (aMl j) (aLv (aCv b0 adK adV sc fv) 0 (aLoc (aMl j) as)) := lv_mono hl (lv_arg hcat as 0 _)
    have hlen2 : (aLoc (aMl j) as).length = aMl j := by
      unfold aLoc
      rw [List.length_append, List.length_replicate]
      omega
    have hso2 : aSo (aNn ph σ) (aLoc (aMl j) as) := by
      intro v hv
      unfold aLoc at hv
      rcases List.mem_append.mp hv with hv | hv
      · have key : ∀ (as : List aV), aSo (aNn ph σ) as → aSo (aNn ph σ) (aArg as) := by
          intro as
          induction as with
          | nil => exact fun h => h
          | cons w l ih =>
            intro h
            obtain ⟨h1, h2⟩ := aSo_c h
            rw [show aArg (w :: l) = bif aIsL w then w :: vt :: aArg l else w :: aArg l from rfl]
            cases aIsL w with
            | true => exact aSo_i h1.1 h1.2 (aSo_i (v := vt) trivial trivial (ih h2))
            | false => exact aSo_i h1.1 h1.2 (ih h2)
        exact key as hso v hv
      · rw [(List.mem_replicate.mp hv).2]
        exact ⟨trivial, trivial⟩
    -- the end of a call: what was made is what was told
    have ends : ∀ (ph' : Bool) (r : Option aV) (σ' : aW) (H : Heap), (match ph with
        | true => Q
        | false => fun r σ' => Q r σ' ∧ σ' 9999 0 = σ 9999 0 + (aMk j).1 ∧ σ' 9999 1 = σ 9999 1 + (aMk j).2) r σ' → aRel b0 D cA sx sL ph' σ' H → (ph' = false → ph = false) →
        Q r σ' ∧ aRel b0 D cA sx sL ph σ' H ∧ aNn ph σ' = aNn ph σ + aMc ph j ∧ aSl ph σ' = aSl ph σ + aMs ph j ∧ aNn ph' σ' - aNn ph σ = aMc ph j ∧ aSl ph' σ' - aSl ph σ = aMs ph j := by
      intro ph' r σ' H hq hR' hph
      cases ph with
      | true =>
        cases ph' with
        | true => exact ⟨hq, hR', rfl, rfl, Nat.sub_self _, Nat.sub_self _⟩
        | false => exact absurd (hph rfl) (by decide)
      | false =>
        obtain ⟨hq, q1, q2⟩ := hq
        have hf : aRel b0 D cA sx sL false σ' H ∧ aNn ph' σ' = aNn false σ' ∧ aSl ph' σ' = aSl false σ' := by
          cases ph' with
          | true => exact aRel_tf hR'
          | false => exact ⟨hR', rfl, rfl⟩
        obtain ⟨hR2, n1, n2⟩ := hf
        have g1 : 0 ≤ σ 9999 0 := hR.2.2.2.1.1
        have g2 : 0 ≤ σ 9999 1 := hR.2.2.2.1.2.1
        have e1 : aNn false σ' = aNn false σ + aMc false j := by
          show (σ' 9999 0).toNat = (σ 9999 0).toNat + (aMk j).1
          omega
        have e2 : aSl false σ' = aSl false σ + aMs false j := by
          show (σ' 9999 1).toNat = (σ 9999 1).toNat + (aMk j).2
          omega
        exact ⟨hq, hR2, e1, e2, by rw [n1]; omega, by rw [n2]; omega⟩
    have hlm : ((match ph with
        | true => ((0 : Int), (0 : Int))
        | false => (σ 9999 0 + (aMk j).1, σ 9999 1 + (aMk j).2)) : Int × Int).1 ≤ (aNn ph σ : Int) + (aRm ph d j).cells ∧ ((match ph with
        | true => ((0 : Int), (0 : Int))
        | false => (σ 9999 0 + (aMk j).1, σ 9999 1 + (aMk j).2)) : Int × Int).2 ≤ (aSl ph σ : Int) + (aRm ph d j).slots := by
      cases ph with
      | true => exact ⟨by show (0 : Int) ≤ _; omega, by show (0 : Int) ≤ _; omega⟩
      | false =>
        have g1 : 0 ≤ σ 9999 0 := hR.2.2.2.1.1
        have g2 : 0 ≤ σ 9999 1 := hR.2.2.2.1.2.1
        refine ⟨?_, ?_⟩
        · show σ 9999 0 + ((aMk j).1 : Int) ≤ (((σ 9999 0).toNat : Nat) : Int) + (((aMk j).1 : Nat) : Int)
          omega
        · show σ 9999 1 + ((aMk j).2 : Int) ≤ (((σ 9999 1).toNat : Nat) : Int) + (((aMk j).2 : Nat) : Int)
          omega
    have hW := hX (aKp p l e (aRm ph d j) s m (as.map (aCv b0 adK adV sc fv)).toArray below meth c b0 D cA adK adV sc fv sx sL (aMl j) (aNn ph σ) (aSl ph σ) ph (MQ below (aQc b0 D cA adK adV sc fv sx sL ph j σ Q) (as.map (aCv b0 adK adV sc fv)).toArray s (aMc ph j) (aMs ph j) (fun q => b0 ≤ q)))
      (snd_step B.exec hb hml hown (fun w hw => hts0 w (List.mem_cons_of_mem _ hw)) hnm hSt (Nat.le_refl d) (Nat.le_refl (64 * d)) hlm (fun ph j2 as σ Q2 h _ _ => hE ph j2 as σ Q2 h)
        (fun ph' pc v σ' H locs LS hd hrg h32 hq hR' hS' hph _ => ?_) (fun ph' pc v σ' H locs LS hd hrg h64 hq hR' hS' hph _ => ?_) (fun ph' pc σ' H locs LS hd hrg hq hR' hS' hph _ => ?_)) s.heap [] LS hR va_S.rf hL hlen2 hso2 (fun w hw => by cases hw)
      ⟨Nat.le_refl _, Nat.le_refl _, by rw [Nat.sub_self]; exact Nat.zero_le _, by rw [Nat.sub_self]; exact Nat.zero_le _, fun z => ⟨z, hsz0 z⟩⟩
    · rw [Nat.sub_self, Nat.sub_self] at hW
      exact hW
    · obtain ⟨g1, g2, g3, g4, g5, g6⟩ := ends ph' _ σ' H hq hR' hph
      rw [g5, g6]
      have hq2 : ∀ t : State, t.heap = H → s.WarmedH t.vm → aQc b0 D cA adK adV sc fv sx sL ph j σ Q (as.map (aCv b0 adK adV sc fv)).toArray s (.returned (some (.int (Int32.ofInt v)))) t := fun t ht _ =>
        ⟨some (vi v), σ', rfl, g1, aSo_i (v := vi v) h32 trivial (fun w hw => by cases hw), by rw [ht]; exact g2, ⟨g3, g4⟩, fun q hq => by rw [ht]; exact hS'.2.1 q (Nat.lt_of_lt_of_le hq hSt.2.2.2.2.2.2.2.1.2) (by omega)⟩
      unfold aRy at hr
      obtain ⟨hb2, hrg⟩ := hrg
      unfold aRg at hrg
      split at hrg
      · rename_i hk
        rw [hk] at hr
        exact W.zret B.exec hb hr rfl hq2 hS'.2.2 hd
      · rename_i hk
        rw [hk] at hb2
        cases hb2
      · rename_i hk
        rw [hk] at hr
        exact W.zret B.exec hb hr (nf_z hrg).1 hq2 hS'.2.2 hd
      · rename_i hk
        rw [hk] at hr
        refine W.zret B.exec hb hr ?_ hq2 hS'.2.2 hd
        have e : (Int32.ofInt v).toInt8.toInt32 = Int32.ofInt v := by
          have := nar_b hrg
          rw [vp_nar_byte] at this
          exact this
        rw [← e]
        exact pk_nb _
      · rename_i hk
        rw [hk] at hr
        refine W.zret B.exec hb hr ?_ hq2 hS'.2.2 hd
        have hx : Int32.ofInt v = nI v.toNat := by
          apply Int32.toInt_inj.mp
          rw [o32_t ⟨by omega, by omega⟩, nI_toInt (by omega)]
          omega
        rw [hx]
        exact (pk_charN (q := v.toNat) (by omega)).1
      · exact hrg.elim
    · obtain ⟨g1, g2, g3, g4, g5, g6⟩ := ends ph' _ σ' H hq hR' hph
      rw [g5, g6]
      have hr2 : meth.sig.returnType = some .long := by rw [hr]; unfold aRy; rw [hrg]; rfl
      exact W.lret B.exec hb hr2 (fun t ht _ => ⟨some (vl v), σ', rfl, g1, aSo_i (v := vl v) h64 trivial (fun w hw => by cases hw), by rw [ht]; exact g2, ⟨g3, g4⟩, fun q hq => by rw [ht]; exact hS'.2.1 q (Nat.lt_of_lt_of_le hq hSt.2.2.2.2.2.2.2.1.2) (by omega)⟩) hS'.2.2 hd
    · obtain ⟨g1, g2, g3, g4, g5, g6⟩ := ends ph' _ σ' H hq hR' hph
      rw [g5, g6]
      have hr2 : meth.sig.returnType = none := by rw [hr]; unfold aRy; rw [hrg]; rfl
      exact W.vret B.exec hb hr2 (fun t ht _ => ⟨none, σ', rfl, g1, (fun w hw => by cases hw), by rw [ht]; exact g2, ⟨g3, g4⟩, fun q hq => by rw [ht]; exact hS'.2.1 q (Nat.lt_of_lt_of_le hq hSt.2.2.2.2.2.2.2.1.2) (by omega)⟩) hS'.2.2 hd
theorem snd_ev (l : Launch) : ∀ (d : Nat) (ph : Bool) (j : Nat) (as : List aV) (σ : aW) (Q : aQ), aEv d ph j as σ Q → aMet l d ph j as σ Q
  | 0, ph, j, as, σ, Q, h => snd_bd (fun _ _ _ _ _ z => z.elim) ph j as σ Q h
  | d + 1, ph, j, as, σ, Q, h => snd_bd (fun ph j2 as σ Q2 z => ⟨d, rfl, snd_ev l d ph j2 as σ Q2 z⟩) ph j as σ Q h
end
