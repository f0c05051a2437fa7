section
/-! one instruction at a time, in the phase in which nothing is made -/
def aEp : Nat → Bool → Nat → aT
  | 0 => fun _ _ _ _ _ => False
  | d + 1 => aEv d
theorem aEv_bd : ∀ d : Nat, aEv d = aBd (aEp d) d
  | 0 => rfl
  | _ + 1 => rfl
theorem aEp_m : ∀ (d : Nat) (ph : Bool) (j : Nat), aMo (aEp d ph j)
  | 0, _, _ => fun _ _ _ _ _ h => h
  | d + 1, ph, j => aEv_m d ph j
def Yx (d : Nat) (cd : List (List bE)) (rt : Nat) (Q : aQ) (pc : Nat) (ls st : List aV) (σ : aW) : Prop := aX (aEp d) d (0, 0) cd rt Q true pc ls st σ
theorem x_of {d : Nat} {cd : List (List bE)} {rt : Nat} {Q : aQ} {pc ln : Nat} {ls st : List aV} {σ : aW} {an : List Nat} {c : Int} {x : Instr} (h : aLook cd pc = some (pc, x, ln, an, c)) (hl : (Nat.beq (aLn x) 0 || Nat.beq ln (aLn x)) = true) (hs : aStep (aEp d true) d (0, 0) true rt (Yx d cd rt Q) Q pc x an c ls st σ) : Yx d cd rt Q pc ls st σ :=
  aX_in (aEp_m d) (Or.inl ⟨x, ln, an, c, h, hl, hs⟩)
theorem ev_of {d j : Nat} {as : List aV} {σ : aW} {Q : aQ} (h : aWf aNC σ → (∀ v ∈ as, aOk v) → Yx d (aCd j) (aRk j) Q 0 (aLoc (aMl j) as) [] σ) : aEv d true j as σ Q := by
  rw [aEv_bd]
  exact h
theorem ev_m {d j : Nat} {as : List aV} {σ : aW} {Q Q' : aQ} (h : aEv d true j as σ Q) (hQ : ∀ r σ', Q r σ' → Q' r σ') : aEv d true j as σ Q' := aEv_m d true j as σ Q Q' hQ h
/-- fewer variables known -/
def aLe : List aV → List aV → Prop
  | [], [] => True
  | a :: l, b :: m => (a = vt ∨ a = b) ∧ aLe l m
  | _, _ => False
theorem aLe_nth : ∀ {l m : List aV} {i : Nat}, aLe l m → nth vt l i = vt ∨ nth vt l i = nth vt m i
  | [], [], _, _ => Or.inl rfl
  | a :: l, b :: m, 0, h => h.1
  | a :: l, b :: m, i + 1, h => aLe_nth (l := l) (m := m) (i := i) h.2
  | [], _ :: _, _, h => h.elim
  | _ :: _, [], _, h => h.elim
theorem aLe_len : ∀ {l m : List aV}, aLe l m → l.length = m.length
  | [], [], _ => rfl
  | _ :: l, _ :: m, h => by simp [aLe_len (l := l) (m := m) h.2]
  | [], _ :: _, h => h.elim
  | _ :: _, [], h => h.elim
theorem aLe_of : ∀ {l m : List aV}, l.length = m.length → (∀ i, nth vt l i = vt ∨ nth vt l i = nth vt m i) → aLe l m
  | [], [], _, _ => trivial
  | a :: l, b :: m, h, hi => ⟨hi 0, aLe_of (l := l) (m := m) (by simpa using h) (fun i => hi (i + 1))⟩
  | [], _ :: _, h, _ => by simp at h
  | _ :: _, [], h, _ => by simp at h
theorem aLe_kill {l m : List aV} (h : aLe l m) (i : Nat) (j : Nat) : nth vt (aKill l i) j = vt ∨ nth vt (aKill l i) j = nth vt (aKill m i) j := by
  rw [nth_kill, nth_kill]
  rcases aLe_nth (i := j) h with e | e
  · rw [e]
    left
    split <;> rfl
  · rw [e]
    exact Or.inr rfl
theorem aLe_stI {l m : List aV} (h : aLe l m) (i : Nat) (v : aV) : aLe (stI l i v) (stI m i v) := by
  refine aLe_of (by rw [stI_len, stI_len]; exact aLe_len h) (fun j => ?_)
  unfold stI
  rw [nth_set, nth_set, aKill_len, aKill_len, aLe_len h]
  by_cases hj : j = i ∧ i < m.length
  · rw [if_pos hj, if_pos hj]
    exact Or.inr rfl
  · rw [if_neg hj, if_neg hj]
    exact aLe_kill h i j
theorem aLe_stJ {l m : List aV} (h : aLe l m) (i : Nat) (v : aV) : aLe (stJ l i v) (stJ m i v) := by
  refine aLe_of (by rw [stJ_len, stJ_len]; exact aLe_len h) (fun j => ?_)
  unfold stJ
  simp only [nth_set, List.length_set, aKill_len, aLe_len h]
  by_cases hj : j = i ∧ i < m.length
  · rw [if_pos hj, if_pos hj]
    exact Or.inr rfl
  · rw [if_neg hj, if_neg hj]
    by_cases hj : j = i + 1 ∧ i + 1 < m.length
    · rw [if_pos hj, if_pos hj]
      exact Or.inr rfl
    · rw [if_neg hj, if_neg hj]
      exact aLe_kill h i j
theorem aLe_rf : ∀ l : List aV, aLe l l
  | [] => trivial
  | _ :: l => ⟨Or.inr rfl, aLe_rf l⟩
set_option maxHeartbeats 4000000 in
theorem aStep_le {E : Nat → aT} (hE : ∀ j, aMo (E j)) {K : aK} {Q : aQ} {lv : Nat} {lm : Int × Int} {ph : Bool} {rt pc : Nat} {x : Instr} {an : List Nat} {c : Int} {l m st : List aV} {σ : aW} (hl : aLe l m)
    (h : aStep E lv lm ph rt (fun n l st σ => ∀ m, aLe l m → K n m st σ) Q pc x an c l st σ) : aStep E lv lm ph rt K Q pc x an c m st σ := by
  have hv : ∀ {i : Nat} {v : aV}, nth vt l i = v → aIsT v = false → nth vt m i = v := by
    intro i v e ht
    rcases aLe_nth (i := i) hl with z | z
    · rw [e] at z
      subst z
      cases ht
    · rw [← z]; exact e
  have hlen := aLe_len hl
  have hK : ∀ (n : Nat) (st : List aV) (σ : aW), (∀ m', aLe l m' → K n m' st σ) → K n m st σ := fun n st σ h => h m hl
  have le_x : ∀ {n kd : Nat} {mk : Int → aV}, oLdX (fun n l st σ => ∀ m, aLe l m → K n m st σ) n mk kd l st σ → oLdX K n mk kd m st σ := by
    rintro n kd mk ⟨a, b, c, d, h1, h2, h3, h4, h5⟩
    exact ⟨a, b, c, d, h1, h2, h3, h4, h5 _ hl⟩
  have le_s : ∀ {n kd : Nat} {mk : Int → aV}, oStX (fun n l st σ => ∀ m, aLe l m → K n m st σ) n mk kd l st σ → oStX K n mk kd m st σ := by
    rintro n kd mk ⟨a, b, c, d, e, h1, h2, h3, h4, h5, h6⟩
    exact ⟨a, b, c, d, e, h1, h2, h3, h4, h5, h6 _ hl⟩
  have le_ls : ∀ {n : Nat}, oLdS (fun n l st σ => ∀ m, aLe l m → K n m st σ) n l st σ → oLdS K n m st σ := by
    rintro n ⟨a, b, h1, h2, h3⟩
    exact ⟨a, b, h1, h2, h3 _ hl⟩
  have le_lt : ∀ {n : Nat}, oLdT (fun n l st σ => ∀ m, aLe l m → K n m st σ) n l st σ → oLdT K n m st σ := by
    rintro n ⟨a, b, d, h1, h2, h3, h4⟩
    exact ⟨a, b, d, h1, h2, h3, h4 _ hl⟩
  have le_o : ∀ {n : Nat}, oObj lv (fun n l st σ => ∀ m, aLe l m → K n m st σ) n an l st σ → oObj lv K n an m st σ := by
    rintro n ⟨a1, a2, a3, h1, h2, h3, h4, h5, h6⟩
    exact ⟨a1, a2, a3, h1, h2, h3, h4, h5, h6 _ hl⟩
  have le_n : ∀ {n : Nat}, oLen (fun n l st σ => ∀ m, aLe l m → K n m st σ) n l st σ → oLen K n m st σ := by
    rintro n (⟨a, b, c, d, h1, h2, h3, h4⟩ | ⟨a, b, h1, h2, h3⟩ | ⟨a, h1, h2⟩)
    · exact Or.inl ⟨a, b, c, d, h1, h2, h3, h4 _ hl⟩
    · exact Or.inr (Or.inl ⟨a, b, h1, h2, h3 _ hl⟩)
    · exact Or.inr (Or.inr ⟨a, h1, h2 _ hl⟩)
  have le_g : ∀ {n : Nat}, oGet ph (fun n l st σ => ∀ m, aLe l m → K n m st σ) n an l st σ → oGet ph K n an m st σ := by
    rintro n (⟨a, b, c, d, e, h1, h2, h3, h4, h5⟩ | ⟨a, b, c, h1, h2, h3, h4⟩ | ⟨a, b, c, h1, h2, h3, h4⟩)
    · exact Or.inl ⟨a, b, c, d, e, h1, h2, h3, h4, oFld_m (fun v hv => hv _ hl) h5⟩
    · exact Or.inr (Or.inl ⟨a, b, c, h1, h2, h3, h4 _ hl⟩)
    · exact Or.inr (Or.inr ⟨a, b, c, h1, h2, h3, h4 _ hl⟩)
  have le_p : ∀ {n : Nat}, oPut ph (fun n l st σ => ∀ m, aLe l m → K n m st σ) n an l st σ → oPut ph K n an m st σ := by
    rintro n ⟨a, b, c, d, e, f, g, h1, h2, h3, h4, h5⟩
    refine ⟨a, b, c, d, e, f, g, h1, h2, h3, h4, ?_⟩
    rcases h5 with ⟨x, q1, q2, q3⟩ | ⟨x, q1, q2, q3⟩ | ⟨x, q1, q2, q3, q4, q5⟩
    · exact Or.inl ⟨x, q1, q2, q3 _ hl⟩
    · exact Or.inr (Or.inl ⟨x, q1, q2, q3 _ hl⟩)
    · exact Or.inr (Or.inr ⟨x, q1, q2, q3, q4, q5 _ hl⟩)
  have le_c : ∀ {n : Nat}, oCall ph lm E (fun n l st σ => ∀ m, aLe l m → K n m st σ) n an l st σ → oCall ph lm E K n an m st σ := by
    rintro n ⟨a, b, c, d, e, f, h1, h2, h3, h4, h5, h7, h8, h9, h6⟩
    exact ⟨a, b, c, d, e, f, h1, h2, h3, h4, h5, h7, h8, h9, hE a _ _ _ _ (fun r σ' hq => hq _ hl) h6⟩
  have le_cp : ∀ {n : Nat}, oCopy lv (fun n l st σ => ∀ m, aLe l m → K n m st σ) n an l st σ → oCopy lv K n an m st σ := by
    rintro n ⟨a1, a2, a3, a4, a5, a6, a7, a8, a9, a10, h1, h2, h3, h4, h5, h6, h7, h8, h9, h10, h11⟩
    exact ⟨a1, a2, a3, a4, a5, a6, a7, a8, a9, a10, h1, h2, h3, h4, h5, h6, h7, h8, h9, h10, h11 _ hl⟩
  have le_mt : ∀ {n : Nat}, oMth lv (fun n l st σ => ∀ m, aLe l m → K n m st σ) n an l st σ → oMth lv K n an m st σ := by
    rintro n ⟨h0, ps, h⟩
    refine ⟨h0, ps, ?_⟩
    rcases h with ⟨x, y, s, h1, h2, h3, h4⟩ | ⟨x, y, s, h1, h2, h3, h4⟩ | ⟨x, s, h1, h2, h3, h4⟩ | ⟨x, y, s, h1, h2, h3, h4⟩ | ⟨x, y, s, h1, h2, h3, h4⟩
    · exact Or.inl ⟨x, y, s, h1, h2, h3, h4 _ hl⟩
    · exact Or.inr (Or.inl ⟨x, y, s, h1, h2, h3, h4 _ hl⟩)
    · exact Or.inr (Or.inr (Or.inl ⟨x, s, h1, h2, h3, h4 _ hl⟩))
    · exact Or.inr (Or.inr (Or.inr (Or.inl ⟨x, y, s, h1, h2, h3, h4 _ hl⟩)))
    · exact Or.inr (Or.inr (Or.inr (Or.inr ⟨x, y, s, h1, h2, h3, h4 _ hl⟩)))
  have le_tsw : ∀ {x : Int} {st : List aV} (a : Int) (r : List Int) (d : Int), oTsw (fun n l st σ => ∀ m, aLe l m → K n m st σ) pc x l st σ a r d → oTsw K pc x m st σ a r d := by
    intro x st a r
    induction r generalizing a with
    | nil => exact fun d h => h _ hl
    | cons o r ih => exact fun d h => ⟨fun z => h.1 z _ hl, fun z => ih _ d (h.2 z)⟩
  have le_lsw : ∀ {x : Int} {st : List aV} (r : List (Int × Int)) (d : Int), oLsw (fun n l st σ => ∀ m, aLe l m → K n m st σ) pc x l st σ r d → oLsw K pc x m st σ r d := by
    intro x st r
    induction r with
    | nil => exact fun d h => h _ hl
    | cons o r ih => exact fun d h => ⟨fun z => h.1 z _ hl, fun z => ih d (h.2 z)⟩
  cases x <;> first
    | exact False.elim h
    | exact hK _ _ _ h
    | (obtain ⟨a, h1, h2⟩ := h; exact ⟨a, hv h1 rfl, h2 _ hl⟩)
    | (obtain ⟨a, h1, h3, h2⟩ := h; exact ⟨a, hv h1 rfl, h3, h2 _ hl⟩)
    | (obtain ⟨a, h1, h2⟩ := h; exact ⟨a, hv h1 rfl, h2 _ (aLe_stI hl _ _)⟩)
    | (obtain ⟨a, b, h1, h2, h3⟩ := h; exact ⟨a, b, h1, hlen ▸ h2, h3 _ (aLe_stI hl _ _)⟩)
    | (obtain ⟨a, b, h1, h2, h3⟩ := h; exact ⟨a, b, h1, hlen ▸ h2, h3 _ (aLe_stJ hl _ _)⟩)
    | (obtain ⟨a, b, h1, h4, h2, h3⟩ := h; exact ⟨a, b, h1, h4, hlen ▸ h2, h3 _ (aLe_stI hl _ _)⟩)
    | (obtain ⟨a, b, d, h1, h2⟩ := h; exact ⟨a, b, d, h1, h2 _ hl⟩)
    | (obtain ⟨a, b, d, h1, h2, h3⟩ := h; exact ⟨a, b, d, h1, h2, h3 _ hl⟩)
    | (obtain ⟨a, d, h1, h2⟩ := h; exact ⟨a, d, h1, h2 _ hl⟩)
    | (obtain ⟨a, b, h1, h2, h3⟩ := h; exact ⟨a, b, h1, h2, h3 _ hl⟩)
    | (obtain ⟨a, b, d, h1, h2, h3, h4⟩ := h; exact ⟨a, b, d, h1, h2, h3, h4 _ hl⟩)
    | (obtain ⟨a, d, h1, h2, h3⟩ := h; exact ⟨a, d, h1, fun z => h2 z _ hl, fun z => h3 z _ hl⟩)
    | (obtain ⟨a, b, d, h1, h2, h3⟩ := h; exact ⟨a, b, d, h1, fun z => h2 z _ hl, fun z => h3 z _ hl⟩)
    | exact le_x h
    | exact le_s h
    | exact Or.imp le_x le_ls h
    | exact Or.imp le_x (Or.imp le_x le_lt) h
    | exact Or.imp le_s le_s h
    | exact le_n h
    | exact le_g h
    | exact le_p h
    | exact le_c h
    | exact Or.imp le_c (Or.imp le_cp le_mt) h
    | exact Or.imp le_c le_o h
    | (rcases h with ⟨v, w, st', h1, h2, h3, h4⟩ | ⟨v, st', h1, h2⟩; { exact Or.inl ⟨v, w, st', h1, h2, h3, h4 _ hl⟩ }; { exact Or.inr ⟨v, st', h1, h2 _ hl⟩ })
    | (rcases h with ⟨ps, h1, h2⟩ | ⟨t, ps, h1, h2, h3⟩; { exact Or.inl ⟨ps, h1, h2 _ hl⟩ }; { exact Or.inr ⟨t, ps, h1, h2, h3 _ hl⟩ })
    | (rcases h with ⟨ps, h1, h2⟩ | ⟨ps, h1, h2⟩; { exact Or.inl ⟨ps, h1, h2 _ hl⟩ }; { exact Or.inr ⟨ps, h1, h2 _ hl⟩ })
    | (obtain ⟨a, b, h1, h2⟩ := h; exact ⟨a, b, h1, le_tsw _ _ _ h2⟩)
    | (obtain ⟨a, b, h1, h2⟩ := h; exact ⟨a, b, h1, le_lsw _ _ h2⟩)
    | (obtain ⟨a1, a2, h1, h2, h3, h4, h6, h5⟩ := h; exact ⟨a1, a2, h1, h2, h3, h4, h6, h5 _ hl⟩)
    | (obtain ⟨a1, a2, h1, h2, h3, h4, h5, h7, h6⟩ := h; exact ⟨a1, a2, h1, h2, h3, h4, h5, h7, h6 _ hl⟩)
    | (obtain ⟨a, h1, h2, h3⟩ := h; exact ⟨a, h1, h2, h3⟩)
    | (obtain ⟨h1, h2, h3⟩ := h; exact ⟨h1, h2, h3⟩)
theorem Yx_fg {d : Nat} {cd : List (List bE)} {rt : Nat} {Q : aQ} {pc : Nat} {l m st : List aV} {σ : aW} (hl : aLe l m) (h : Yx d cd rt Q pc l st σ) : Yx d cd rt Q pc m st σ := by
  refine h (fun ph pc l st σ => ∀ m, aLe l m → aX (aEp d) d (0, 0) cd rt Q ph pc m st σ) (fun ph pc l st σ hs m hl => ?_) m hl
  refine aX_in (aEp_m d) ?_
  rcases hs with ⟨x, ln, an, c, h1, h0, h2⟩ | ⟨h1, h2, h3⟩ | ⟨i, n, an, c, v, h1, h2, h3⟩
  · exact Or.inl ⟨x, ln, an, c, h1, h0, aStep_le (aEp_m d ph) hl h2⟩
  · exact Or.inr (Or.inl ⟨h1, h2, h3 _ hl⟩)
  · refine Or.inr (Or.inr ⟨i, n, an, c, v, h1, ?_, h3 _ (aLe_stI hl _ _)⟩)
    rcases aLe_nth (i := i) hl with z | z
    · rw [z] at h2
      cases h2
    · rw [← z]
      exact h2
end
