section
/-! how a world of the abstract machine lies in the heap -/
def aAd (b0 : Nat) (adK adV : Nat → Nat) (sc k : Nat) : Nat := if k < 1000 then b0 + k else if k < 1100 then adK (k - 1000) else if k < 1200 then adV (k - 1100) else sc
def aCv (b0 : Nat) (adK adV : Nat → Nat) (sc : Nat) (fv : Value) : aV → Value
  | .inl x => .int (Int32.ofInt x)
  | .inr (.inl x) => .long (Int64.ofInt x)
  | .inr (.inr (some k)) => if k = 1300 then fv else .ref (aAd b0 adK adV sc k)
  | .inr (.inr none) => .null
def aTys (cA : Nat → ClassId) : List (ClassId × FieldType) := [(cA 1, .int), (cA 2, .long), (cA 3, .boolean), (cA 4, .byte), (cA 5, .char)]
def aFv (b0 kd : Nat) (x : Int) : Value := match kd with
  | 1 => .int (Int32.ofInt x)
  | 2 => .long (Int64.ofInt x)
  | 3 => .int (Int32.ofInt x)
  | _ => if x = 0 then .null else .ref (b0 + (x - 1).toNat)
def aFs (b0 ci : Nat) (f : Int → Int) : List Value := (List.range (aNf ci)).map (fun i => aFv b0 (aFk ci i) (f i))
def aCe (b0 : Nat) (cA : Nat → ClassId) (f : Int → Int) (k : Nat) : va_E := match aSh k with
  | (0, ci, _) => .inr (ci, aFs b0 ci f)
  | (2, _, L) => .inl (cA 2, L.toNat, .inr (.inl (fun j => Int64.ofInt (f j))))
  | (kd, _, L) => .inl (cA kd, L.toNat, .inl (fun j => Int32.ofInt (f j)))
def aWs (b0 : Nat) (cA : Nat → ClassId) (n : Nat) (σ : aW) : va_W := (List.range n).map (fun k => (b0 + k, aCe b0 cA (σ k) k))
/-- references are what they must be -/
def aRef (ph : Bool) (σ : aW) : Prop := match ph with
  | true => aFull σ
  | false => 0 ≤ σ 9999 0 ∧ 0 ≤ σ 9999 1 ∧ ∀ k i : Nat, (k : Int) < σ 9999 0 → (aSh k).1 = 0 → i < aNf (aSh k).2.1 → aFk (aSh k).2.1 i = 0 → 0 ≤ σ k i ∧ σ k i ≤ σ 9999 0
def aRel (b0 : Nat) (D : va_G) (cA : Nat → ClassId) (sx : Int → Int) (sL : Int) (ph : Bool) (σ : aW) (H : Heap) : Prop :=
  va_P D aCl (aWs b0 cA (aNn ph σ) σ) H ∧ aNn ph σ ≤ aNC ∧ aWf (aNn ph σ) σ ∧ aRef ph σ ∧ σ 1200 = sx ∧ σ 9999 2 = sL
def aOr (n : Nat) (v : aV) : Prop := match v with
  | .inr (.inr (some k)) => k < n ∨ (1000 ≤ k ∧ k < 1016) ∨ (1100 ≤ k ∧ k < 1116) ∨ k = 1200 ∨ k = 1300
  | _ => True
def aSo (n : Nat) (st : List aV) : Prop := ∀ v ∈ st, aOk v ∧ aOr n v
theorem aSo_c {n : Nat} {v : aV} {st : List aV} (h : aSo n (v :: st)) : (aOk v ∧ aOr n v) ∧ aSo n st := ⟨h v List.mem_cons_self, fun w hw => h w (List.mem_cons_of_mem _ hw)⟩
theorem aSo_i {n : Nat} {v : aV} {st : List aV} (h1 : aOk v) (h2 : aOr n v) (h : aSo n st) : aSo n (v :: st) := fun w hw => (List.mem_cons.mp hw).elim (fun e => e ▸ ⟨h1, h2⟩) (fun hw => h w hw)
theorem aWs_get {b0 n k : Nat} {cA : Nat → ClassId} {σ : aW} (hk : k < n) : (aWs b0 cA n σ)[k]? = some (b0 + k, aCe b0 cA (σ k) k) := by
  unfold aWs
  rw [List.getElem?_map, List.getElem?_range hk]
  rfl
theorem aWs_len {b0 n : Nat} {cA : Nat → ClassId} {σ : aW} : (aWs b0 cA n σ).length = n := by simp [aWs]
theorem aWs_set {b0 n k : Nat} {cA : Nat → ClassId} {σ : aW} {f : Int → Int} {e : va_E} (he : e = aCe b0 cA f k) : (aWs b0 cA n σ).set k (b0 + k, e) = aWs b0 cA n (sw σ k f) := by
  apply List.ext_getElem?
  intro i
  by_cases hi : i < n
  · rw [aWs_get hi]
    by_cases hki : k = i
    · subst hki
      rw [List.getElem?_set_self (by rw [aWs_len]; exact hi), he]
      simp [sw]
    · rw [List.getElem?_set_ne hki, aWs_get hi]
      simp [sw, Ne.symm hki]
  · rw [List.getElem?_eq_none (by rw [List.length_set, aWs_len]; omega), List.getElem?_eq_none (by rw [aWs_len]; omega)]
theorem aWs_push {b0 n : Nat} {cA : Nat → ClassId} {σ : aW} {f : Int → Int} {e : va_E} (he : e = aCe b0 cA f n) : aWs b0 cA n σ ++ [(b0 + n, e)] = aWs b0 cA (n + 1) (sw σ n f) := by
  unfold aWs
  rw [List.range_succ, List.map_append, he]
  congr 1
  · apply List.map_congr_left
    intro a ha
    have : a < n := List.mem_range.mp ha
    simp [sw, Nat.ne_of_lt this]
  · simp [sw]
theorem aWs_D {b0 n : Nat} {cA : Nat → ClassId} {σ : aW} : va_D (fun q => b0 ≤ q) (aWs b0 cA n σ) := by
  have key : ∀ (k : Nat) (q : Nat × va_E), (aWs b0 cA n σ)[k]? = some q → q.1 = b0 + k := by
    intro k q h
    have hk : k < n := by
      have := (List.getElem?_eq_some_iff.mp h).1
      rwa [aWs_len] at this
    rw [aWs_get hk] at h
    cases h
    rfl
  refine ⟨fun i j p q hi hj e => ?_, fun k q hk => ?_⟩
  · rw [key i p hi, key j q hj] at e
    omega
  · show b0 ≤ q.1
    rw [key k q hk]
    omega
theorem aWs_ext {b0 n : Nat} {cA : Nat → ClassId} {σ σ' : aW} (h : ∀ k, k < n → σ k = σ' k) : aWs b0 cA n σ = aWs b0 cA n σ' := by
  unfold aWs
  apply List.map_congr_left
  intro a ha
  rw [h a (List.mem_range.mp ha)]
theorem aNn_sw {ph : Bool} {σ : aW} {k : Nat} {f : Int → Int} (hk : k < 1000) : aNn ph (sw σ k f) = aNn ph σ := by
  have h : ¬ 9999 = k := by omega
  unfold aNn sw
  simp [h]
theorem aSl_sw {ph : Bool} {σ : aW} {k : Nat} {f : Int → Int} (hk : k < 1000) : aSl ph (sw σ k f) = aSl ph σ := by
  have h : ¬ 9999 = k := by omega
  unfold aSl sw
  simp [h]
theorem sw_s {σ : aW} {k : Nat} {f : Int → Int} : sw σ k f k = f := by simp [sw]
theorem sw_n {σ : aW} {k a : Nat} {f : Int → Int} (h : a ≠ k) : sw σ k f a = σ a := by simp [sw, h]
theorem fu_s {f : Int → Int} {i v : Int} : fu f i v i = v := by simp [fu]
theorem fu_n {f : Int → Int} {i v j : Int} (h : j ≠ i) : fu f i v j = f j := by simp [fu, h]
/-- a row's element is written -/
theorem aRel_st {b0 : Nat} {D : va_G} {cA : Nat → ClassId} {sx : Int → Int} {sL : Int} {ph : Bool} {σ : aW} {H H1 : Heap} {k kd : Nat} {f : Int → Int} {L : Int} (h : aRel b0 D cA sx sL ph σ H) (hk : k < 1000) (hs : aSh k = (kd, 0, L)) (h0 : 0 < kd)
    (hf : ∀ j : Int, 0 ≤ j → j < L → aRw kd (f j)) (hP : va_P D aCl (aWs b0 cA (aNn ph σ) (sw σ k f)) H1) : aRel b0 D cA sx sL ph (sw σ k f) H1 := by
  obtain ⟨p1, p3, ⟨w1, w2, w3⟩, p5, p6, p7⟩ := h
  have hn := aNn_sw (ph := ph) (σ := σ) (f := f) hk
  have e1 : sw σ k f 9999 = σ 9999 := sw_n (by omega)
  have e2 : sw σ k f 1200 = σ 1200 := sw_n (by omega)
  have key : ∀ a : Nat, (aSh a).1 = 0 → sw σ k f a = σ a := by
    intro a ha
    refine sw_n (fun z => ?_)
    subst z
    rw [hs] at ha
    simp at ha
    omega
  refine ⟨by rw [hn]; exact hP, by rw [hn]; exact p3, ⟨fun a i h1 h2 h3 => ?_, fun a i h1 h2 h3 h4 => ?_, by rw [e2, e1]; exact w3⟩, ?_, by rw [e2]; exact p6, by rw [e1]; exact p7⟩
  · rw [hn] at h1
    rw [key a h2]
    exact w1 a i h1 h2 h3
  · rw [hn] at h1
    by_cases hak : a = k
    · subst hak
      rw [sw_s]
      rw [hs] at h4 ⊢
      exact hf i h3 h4
    · rw [sw_n hak]
      exact w2 a i h1 h2 h3 h4
  · cases ph with
    | true => exact ⟨by rw [e1]; exact p5.1, by rw [e1]; exact p5.2.1, fun a i h1 h2 h3 h4 => by rw [key a h2]; exact p5.2.2 a i h1 h2 h3 h4⟩
    | false =>
      refine ⟨by rw [e1]; exact p5.1, by rw [e1]; exact p5.2.1, fun a i h1 h2 h3 h4 => ?_⟩
      rw [e1] at h1 ⊢
      rw [key a h2]
      exact p5.2.2 a i h1 h2 h3 h4
/-- a field is written -/
theorem aRel_pf {b0 : Nat} {D : va_G} {cA : Nat → ClassId} {sx : Int → Int} {sL : Int} {ph : Bool} {σ : aW} {H H1 : Heap} {k ci i : Nat} {x : Int} (h : aRel b0 D cA sx sL ph σ H) (hk : k < 1000) (hs : aSh k = (0, ci, 0))
    (hx : aRw (aFk ci i) x) (hr : aFk ci i = 0 → ph = false ∧ 0 ≤ x ∧ x ≤ σ 9999 0) (hP : va_P D aCl (aWs b0 cA (aNn ph σ) (sw σ k (fu (σ k) i x))) H1) : aRel b0 D cA sx sL ph (sw σ k (fu (σ k) i x)) H1 := by
  obtain ⟨p1, p3, ⟨w1, w2, w3⟩, p5, p6, p7⟩ := h
  have hn := aNn_sw (ph := ph) (σ := σ) (f := fu (σ k) i x) hk
  have e1 : sw σ k (fu (σ k) i x) 9999 = σ 9999 := sw_n (by omega)
  have e2 : sw σ k (fu (σ k) i x) 1200 = σ 1200 := sw_n (by omega)
  have key : ∀ a i' : Nat, ¬ (a = k ∧ i' = i) → sw σ k (fu (σ k) i x) a i' = σ a i' := by
    intro a i' hne
    by_cases ha : a = k
    · subst ha
      rw [sw_s, fu_n]
      intro z
      exact hne ⟨rfl, by omega⟩
    · rw [sw_n ha]
  refine ⟨by rw [hn]; exact hP, by rw [hn]; exact p3, ⟨fun a i' h1 h2 h3 => ?_, fun a i' h1 h2 h3 h4 => ?_, by rw [e2, e1]; exact w3⟩, ?_, by rw [e2]; exact p6, by rw [e1]; exact p7⟩
  · rw [hn] at h1
    by_cases hne : a = k ∧ i' = i
    · obtain ⟨rfl, rfl⟩ := hne
      rw [sw_s, fu_s, hs]
      exact hx
    · rw [key a i' hne]
      exact w1 a i' h1 h2 h3
  · rw [hn] at h1
    have hak : a ≠ k := fun z => by subst z; rw [hs] at h2; simp at h2
    rw [sw_n hak]
    exact w2 a i' h1 h2 h3 h4
  · cases ph with
    | true =>
      refine ⟨by rw [e1]; exact p5.1, by rw [e1]; exact p5.2.1, fun a i' h1 h2 h3 h4 => ?_⟩
      rw [key a i' ?_]
      · exact p5.2.2 a i' h1 h2 h3 h4
      · rintro ⟨rfl, rfl⟩
        rw [hs] at h4
        exact absurd (hr h4).1 (by decide)
    | false =>
      refine ⟨by rw [e1]; exact p5.1, by rw [e1]; exact p5.2.1, fun a i' h1 h2 h3 h4 => ?_⟩
      rw [e1] at h1 ⊢
      by_cases hne : a = k ∧ i' = i
      · obtain ⟨rfl, rfl⟩ := hne
        rw [sw_s, fu_s]
        rw [hs] at h4
        exact (hr h4).2
      · rw [key a i' hne]
        exact p5.2.2 a i' h1 h2 h3 h4
theorem aCe_o {b0 k ci : Nat} {cA : Nat → ClassId} {f : Int → Int} (h : aSh k = (0, ci, 0)) : aCe b0 cA f k = .inr (ci, aFs b0 ci f) := by
  unfold aCe
  rw [h]
  rfl
theorem aCe_l {b0 k : Nat} {cA : Nat → ClassId} {f : Int → Int} {L : Int} (h : aSh k = (2, 0, L)) : aCe b0 cA f k = .inl (cA 2, L.toNat, .inr (.inl (fun j => Int64.ofInt (f j)))) := by
  unfold aCe
  rw [h]
  rfl
theorem aCe_i {b0 k kd : Nat} {cA : Nat → ClassId} {f : Int → Int} {L : Int} (h : aSh k = (kd, 0, L)) (h0 : kd ≠ 0) (h2 : kd ≠ 2) : aCe b0 cA f k = .inl (cA kd, L.toNat, .inl (fun j => Int32.ofInt (f j))) := by
  unfold aCe
  rw [h]
  split
  · rename_i z
    cases z
    exact absurd rfl h0
  · rename_i z
    cases z
    exact absurd rfl h2
  · rename_i z
    cases z
    rfl
theorem aFs_get {b0 ci i : Nat} {f : Int → Int} (h : i < aNf ci) : (aFs b0 ci f)[i]? = some (aFv b0 (aFk ci i) (f i)) := by
  unfold aFs
  rw [List.getElem?_map, List.getElem?_range h]
  rfl
theorem aFs_len {b0 ci : Nat} {f : Int → Int} : (aFs b0 ci f).length = aNf ci := by simp [aFs]
theorem aFs_set {b0 ci i : Nat} {f : Int → Int} {x : Int} {v : Value} (hv : v = aFv b0 (aFk ci i) x) : (aFs b0 ci f).set i v = aFs b0 ci (fu f i x) := by
  apply List.ext_getElem?
  intro a
  by_cases ha : a < aNf ci
  · rw [aFs_get ha]
    by_cases hia : i = a
    · subst hia
      rw [List.getElem?_set_self (by rw [aFs_len]; exact ha), hv, fu_s]
    · rw [List.getElem?_set_ne hia, aFs_get ha, fu_n (by omega)]
  · rw [List.getElem?_eq_none (by rw [List.length_set, aFs_len]; omega), List.getElem?_eq_none (by rw [aFs_len]; omega)]
theorem o32_cl {i : Int} (h : r32 i) (h0 : 0 ≤ i) : (Int32.ofInt i).toNatClampNeg = i.toNat := by
  have := o32_t h
  simp only [Int32.toNatClampNeg]
  rw [this]
theorem o32_in {i L : Int} (h : r32 i) (h0 : 0 ≤ i) (h1 : i < L) : vp_in (Int32.ofInt i) L.toNat := by
  rw [vp_in_iff, o32_t h]
  omega
theorem up_i {f : Int → Int} {i x : Int} (h0 : 0 ≤ i) : upd (fun j => Int32.ofInt (f j)) i.toNat (Int32.ofInt x) = fun j : Nat => Int32.ofInt (fu f i x j) := by
  funext j
  unfold upd
  by_cases hj : j = i.toNat
  · subst hj
    rw [if_pos rfl, Int.toNat_of_nonneg h0, fu_s]
  · rw [if_neg hj, fu_n (by omega)]
theorem up_l {f : Int → Int} {i x : Int} (h0 : 0 ≤ i) : vp_updL (fun j => Int64.ofInt (f j)) i.toNat (Int64.ofInt x) = fun j : Nat => Int64.ofInt (fu f i x j) := by
  funext j
  unfold vp_updL
  by_cases hj : j = i.toNat
  · subst hj
    rw [if_pos rfl, Int.toNat_of_nonneg h0, fu_s]
  · rw [if_neg hj, fu_n (by omega)]
theorem cp_i {f g : Int → Int} {sp dp n : Int} (h1 : 0 ≤ sp) (h2 : 0 ≤ dp) (h3 : 0 ≤ n) : va_cpy (fun j => Int32.ofInt (f j)) (fun j => Int32.ofInt (g j)) sp.toNat dp.toNat n.toNat = fun j : Nat => Int32.ofInt (aCp f g sp dp n j) := by
  funext j
  unfold va_cpy aCp
  by_cases hj : dp.toNat ≤ j ∧ j < dp.toNat + n.toNat
  · rw [if_pos hj, if_pos (by omega), show sp + ((j : Int) - dp) = ((sp.toNat + (j - dp.toNat) : Nat) : Int) by omega]
  · rw [if_neg hj, if_neg (by omega)]
theorem cp_l {f g : Int → Int} {sp dp n : Int} (h1 : 0 ≤ sp) (h2 : 0 ≤ dp) (h3 : 0 ≤ n) : va_cpy (fun j => Int64.ofInt (f j)) (fun j => Int64.ofInt (g j)) sp.toNat dp.toNat n.toNat = fun j : Nat => Int64.ofInt (aCp f g sp dp n j) := by
  funext j
  unfold va_cpy aCp
  by_cases hj : dp.toNat ≤ j ∧ j < dp.toNat + n.toNat
  · rw [if_pos hj, if_pos (by omega), show sp + ((j : Int) - dp) = ((sp.toNat + (j - dp.toNat) : Nat) : Int) by omega]
  · rw [if_neg hj, if_neg (by omega)]
/-- variables -/
def aIsT : aV → Bool
  | .inr (.inr none) => true
  | _ => false
def aLv (cv : aV → Value) : Nat → List aV → List (Nat × Value)
  | _, [] => []
  | i, v :: l => bif aIsT v then aLv cv (i + 1) l else (i, cv v) :: aLv cv (i + 1) l
theorem aLv_mem {cv : aV → Value} : ∀ (ls : List aV) (o : Nat) (q : Nat × Value), q ∈ aLv cv o ls ↔ ∃ (i : Nat) (v : aV), nth vt ls i = v ∧ aIsT v = false ∧ q = (o + i, cv v)
  | [], o, q => by
    constructor
    · intro h; cases h
    · rintro ⟨i, v, h1, h2, -⟩
      simp [nth] at h1
      subst h1
      simp [aIsT] at h2
  | w :: l, o, q => by
    have ih := aLv_mem (cv := cv) l (o + 1) q
    unfold aLv
    cases hw : aIsT w with
    | true =>
      rw [cond_true, ih]
      constructor
      · rintro ⟨i, v, h1, h2, h3⟩
        exact ⟨i + 1, v, h1, h2, by rw [h3]; congr 1; omega⟩
      · rintro ⟨i, v, h1, h2, h3⟩
        cases i with
        | zero =>
          simp [nth] at h1
          subst h1
          rw [hw] at h2
          cases h2
        | succ i => exact ⟨i, v, h1, h2, by rw [h3]; congr 1; omega⟩
    | false =>
      rw [cond_false, List.mem_cons, ih]
      constructor
      · rintro (h | ⟨i, v, h1, h2, h3⟩)
        · exact ⟨0, w, rfl, hw, h⟩
        · exact ⟨i + 1, v, h1, h2, by rw [h3]; congr 1; omega⟩
      · rintro ⟨i, v, h1, h2, h3⟩
        cases i with
        | zero =>
          simp [nth] at h1
          subst h1
          exact Or.inl h3
        | succ i => exact Or.inr ⟨i, v, h1, h2, by rw [h3]; congr 1; omega⟩
theorem nth_set {ls : List aV} {i : Nat} {v : aV} : ∀ {j : Nat}, nth vt (ls.set i v) j = if j = i ∧ i < ls.length then v else nth vt ls j := by
  induction ls generalizing i with
  | nil => intro j; simp [nth]
  | cons w l ih =>
    intro j
    cases i with
    | zero =>
      cases j with
      | zero => simp [nth]
      | succ j => simp [nth]
    | succ i =>
      cases j with
      | zero => simp [nth]
      | succ j =>
        rw [List.set_cons_succ]
        simp only [nth, ih, List.length_cons]
        by_cases h : j = i ∧ i < l.length
        · rw [if_pos h, if_pos (by omega)]
        · rw [if_neg h, if_neg (by omega)]
theorem nth_ge : ∀ {ls : List aV} {i : Nat}, ls.length ≤ i → nth vt ls i = vt
  | [], _, _ => rfl
  | _ :: l, 0, h => by simp at h
  | _ :: l, i + 1, h => nth_ge (ls := l) (i := i) (by simpa using h)
theorem aKill_s (ls : List aV) (i : Nat) : aKill ls (i + 1) = bif aIsL (nth vt ls i) then ls.set i vt else ls := rfl
theorem aKill_len (ls : List aV) (i : Nat) : (aKill ls i).length = ls.length := by
  cases i with
  | zero => rfl
  | succ i =>
    rw [aKill_s]
    cases aIsL (nth vt ls i) <;> simp
theorem nth_kill {ls : List aV} {i j : Nat} : nth vt (aKill ls i) j = if j + 1 = i ∧ aIsL (nth vt ls j) = true then vt else nth vt ls j := by
  cases i with
  | zero => simp [aKill]
  | succ i =>
    rw [aKill_s]
    cases hl : aIsL (nth vt ls i) with
    | true =>
      rw [cond_true, nth_set]
      by_cases hj : j = i
      · subst hj
        rw [if_pos (c := j + 1 = j + 1 ∧ _) ⟨rfl, hl⟩]
        by_cases hlen : j < ls.length
        · rw [if_pos ⟨rfl, hlen⟩]
        · rw [nth_ge (by omega)] at hl
          cases hl
      · rw [if_neg (fun z => hj z.1), if_neg (fun z => hj (by omega))]
    | false =>
      rw [cond_false]
      by_cases hj : j + 1 = i + 1 ∧ aIsL (nth vt ls j) = true
      · obtain ⟨h1, h2⟩ := hj
        have : j = i := by omega
        subst this
        rw [hl] at h2
        cases h2
      · rw [if_neg hj]
theorem nth_in {ls : List aV} {i : Nat} : nth vt ls i = vt ∨ nth vt ls i ∈ ls := by
  by_cases h : nth vt ls i = vt
  · exact Or.inl h
  · exact Or.inr (nth_mem rfl h)
theorem set_so {n i : Nat} {ls : List aV} {v : aV} (h : aSo n ls) (h1 : aOk v) (h2 : aOr n v) : aSo n (ls.set i v) := by
  intro w hw
  rcases List.mem_or_eq_of_mem_set hw with h3 | h3
  · exact h w h3
  · subst h3
    exact ⟨h1, h2⟩
theorem kill_so {n i : Nat} {ls : List aV} (h : aSo n ls) : aSo n (aKill ls i) := by
  cases i with
  | zero => exact h
  | succ i =>
    rw [aKill_s]
    cases aIsL (nth vt ls i) with
    | true => exact set_so (v := vt) h trivial trivial
    | false => exact h
theorem stI_so {n i : Nat} {ls : List aV} {v : aV} (h : aSo n ls) (h1 : aOk v) (h2 : aOr n v) : aSo n (stI ls i v) := set_so (kill_so h) h1 h2
theorem stJ_so {n i : Nat} {ls : List aV} {v : aV} (h : aSo n ls) (h1 : aOk v) (h2 : aOr n v) : aSo n (stJ ls i v) := set_so (set_so (v := vt) (kill_so h) trivial trivial) h1 h2
theorem stI_len {i : Nat} {ls : List aV} {v : aV} : (stI ls i v).length = ls.length := by simp [stI, aKill_len]
theorem stJ_len {i : Nat} {ls : List aV} {v : aV} : (stJ ls i v).length = ls.length := by simp [stJ, aKill_len]
theorem aCv_cat {b0 : Nat} {adK adV : Nat → Nat} {sc : Nat} {fv : Value} (hfv : fv.category = 1) (v : aV) : (aCv b0 adK adV sc fv v).category = aCat v := by
  rcases v with x | x | _ | k
  · rfl
  · rfl
  · rfl
  · unfold aCv aCat
    by_cases h : k = 1300
    · simp [h, aIsL, hfv]
    · simp [h, aIsL, Value.category]
theorem lv_mono {ls : Array Slot} {nL : Nat} {l l' : List (Nat × Value)} (h : lv_has ls nL l) (hs : ∀ q ∈ l', q ∈ l) : lv_has ls nL l' := ⟨h.1, h.2.1, fun q hq => h.2.2 q (hs q hq)⟩
theorem lv_stI {cv : aV → Value} {ls : List aV} {i : Nat} {v : aV} (hc : ∀ w, (cv w).category = aCat w) : ∀ q ∈ aLv cv 0 (stI ls i v), q ∈ (i, cv v) :: (aLv cv 0 ls).filter (fun q => !(q.1 == i) && !(q.1 + 1 == i && q.2.category == 2)) := by
  intro q hq
  obtain ⟨j, w, h1, h2, h3⟩ := (aLv_mem _ _ _).mp hq
  unfold stI at h1
  rw [nth_set, nth_kill] at h1
  subst h3
  by_cases hj : j = i ∧ i < (aKill ls i).length
  · rw [if_pos hj] at h1
    subst h1
    rw [Nat.zero_add, hj.1]
    exact List.mem_cons_self
  · rw [if_neg hj] at h1
    by_cases hk : j + 1 = i ∧ aIsL (nth vt ls j) = true
    · rw [if_pos hk] at h1
      subst h1
      cases h2
    · rw [if_neg hk] at h1
      refine List.mem_cons_of_mem _ (List.mem_filter.mpr ⟨(aLv_mem _ _ _).mpr ⟨j, w, h1, h2, rfl⟩, ?_⟩)
      have hji : j ≠ i := by
        intro z
        subst z
        have hlt : ¬ j < (aKill ls j).length := fun z => hj ⟨rfl, z⟩
        rw [aKill_len] at hlt
        have : nth vt ls j = vt := nth_ge (by omega)
        rw [this] at h1
        subst h1
        cases h2
      simp only [Nat.zero_add, Bool.and_eq_true, Bool.not_eq_true', beq_eq_false_iff_ne, ne_eq, Bool.and_eq_false_iff]
      refine ⟨hji, ?_⟩
      by_cases hji2 : j + 1 = i
      · right
        rw [hc]
        unfold aCat
        have : aIsL w = false := by
          cases hz : aIsL w with
          | false => rfl
          | true => exact absurd ⟨hji2, by rw [h1]; exact hz⟩ hk
        rw [this]
        decide
      · exact Or.inl hji2
theorem lv_stJ {cv : aV → Value} {ls : List aV} {i : Nat} {v : aV} (hc : ∀ w, (cv w).category = aCat w) : ∀ q ∈ aLv cv 0 (stJ ls i v), q ∈ (i, cv v) :: (aLv cv 0 ls).filter (fun q => !(q.1 == i) && (!(q.1 == i + 1) && !(q.1 + 1 == i && q.2.category == 2))) := by
  intro q hq
  obtain ⟨j, w, h1, h2, h3⟩ := (aLv_mem _ _ _).mp hq
  unfold stJ at h1
  rw [nth_set, nth_set, nth_kill] at h1
  subst h3
  have nv : ∀ j : Nat, ¬ j < ls.length → nth vt ls j = vt := fun j h => nth_ge (by omega)
  rw [List.length_set, aKill_len] at h1
  by_cases hj : j = i ∧ i < ls.length
  · rw [if_pos hj] at h1
    subst h1
    rw [Nat.zero_add, hj.1]
    exact List.mem_cons_self
  · rw [if_neg hj] at h1
    by_cases hj1 : j = i + 1 ∧ i + 1 < ls.length
    · rw [if_pos hj1] at h1
      subst h1
      cases h2
    · rw [if_neg hj1] at h1
      by_cases hk : j + 1 = i ∧ aIsL (nth vt ls j) = true
      · rw [if_pos hk] at h1
        subst h1
        cases h2
      · rw [if_neg hk] at h1
        refine List.mem_cons_of_mem _ (List.mem_filter.mpr ⟨(aLv_mem _ _ _).mpr ⟨j, w, h1, h2, rfl⟩, ?_⟩)
        have hji : j ≠ i := by
          intro z
          subst z
          rw [nv j (fun z => hj ⟨rfl, z⟩)] at h1
          subst h1
          cases h2
        have hji1 : j ≠ i + 1 := by
          intro z
          rw [nv j (fun z2 => hj1 ⟨z, by omega⟩)] at h1
          subst h1
          cases h2
        simp only [Nat.zero_add, Bool.and_eq_true, Bool.not_eq_true', beq_eq_false_iff_ne, ne_eq, Bool.and_eq_false_iff]
        refine ⟨hji, hji1, ?_⟩
        by_cases hji2 : j + 1 = i
        · right
          rw [hc]
          unfold aCat
          have : aIsL w = false := by
            cases hz : aIsL w with
            | false => rfl
            | true => exact absurd ⟨hji2, by rw [h1]; exact hz⟩ hk
          rw [this]
          decide
        · exact Or.inl hji2
end
