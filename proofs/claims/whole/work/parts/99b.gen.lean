section
/-! a call keeps the script, and answers by its kind -/
def Ag (σ s : aW) : Prop := s 1200 = σ 1200 ∧ s 9999 = σ 9999
theorem Ag_r {σ : aW} : Ag σ σ := ⟨rfl, rfl⟩
theorem Ag_t {σ s t : aW} (h : Ag σ s) (h2 : Ag s t) : Ag σ t := ⟨h2.1.trans h.1, h2.2.trans h.2⟩
theorem Ag_w {σ : aW} {k : Nat} {f : Int → Int} (h : Nat.blt k 1000 = true) : Ag σ (sw σ k f) := by
  have hk : k + 1 ≤ 1000 := Nat.le_of_ble_eq_true h
  exact ⟨sw_n (by omega), sw_n (by omega)⟩
def aKd (rt : Nat) (r : Option aV) : Prop := (rt = 0 ∧ r = none) ∨ (rt = 2 ∧ ∃ v, r = some (vl v)) ∨ (¬ rt = 0 ∧ ¬ rt = 2 ∧ ∃ v, r = some (vi v))
theorem oTsw_p {K : aK} {pc : Nat} {x : Int} {ls st : List aV} {σ : aW} : ∀ (a : Int) (l : List Int) (d : Int), oTsw K pc x ls st σ a l d → oTsw (fun n l s σ' => K n l s σ' ∧ Ag σ σ') pc x ls st σ a l d
  | _, [], _, h => ⟨h, Ag_r⟩
  | _, _ :: r, d, h => ⟨fun z => ⟨h.1 z, Ag_r⟩, fun z => oTsw_p _ r d (h.2 z)⟩
theorem oLsw_p {K : aK} {pc : Nat} {x : Int} {ls st : List aV} {σ : aW} : ∀ (l : List (Int × Int)) (d : Int), oLsw K pc x ls st σ l d → oLsw (fun n l s σ' => K n l s σ' ∧ Ag σ σ') pc x ls st σ l d
  | [], _, h => ⟨h, Ag_r⟩
  | (_, _) :: r, d, h => ⟨fun z => ⟨h.1 z, Ag_r⟩, fun z => oLsw_p r d (h.2 z)⟩
theorem oLdX_p {K : aK} {σ : aW} {n kd : Nat} {mk : Int → aV} {ls st : List aV} (h : oLdX K n mk kd ls st σ) : oLdX (fun n l s σ' => K n l s σ' ∧ Ag σ σ') n mk kd ls st σ := by
  obtain ⟨a, b, c, d, h1, h2, h3, h4, h5⟩ := h
  exact ⟨a, b, c, d, h1, h2, h3, h4, h5, Ag_r⟩
theorem oLdS_p {K : aK} {σ : aW} {n : Nat} {ls st : List aV} (h : oLdS K n ls st σ) : oLdS (fun n l s σ' => K n l s σ' ∧ Ag σ σ') n ls st σ := by
  obtain ⟨a, b, h1, h2, h3⟩ := h
  exact ⟨a, b, h1, h2, h3, Ag_r⟩
theorem oLdT_p {K : aK} {σ : aW} {n : Nat} {ls st : List aV} (h : oLdT K n ls st σ) : oLdT (fun n l s σ' => K n l s σ' ∧ Ag σ σ') n ls st σ := by
  obtain ⟨a, b, c, h1, h2, h3, h4⟩ := h
  exact ⟨a, b, c, h1, h2, h3, h4, Ag_r⟩
theorem oStX_p {K : aK} {σ : aW} {n kd : Nat} {mk : Int → aV} {ls st : List aV} (h : oStX K n mk kd ls st σ) : oStX (fun n l s σ' => K n l s σ' ∧ Ag σ σ') n mk kd ls st σ := by
  obtain ⟨a, b, c, d, e, h1, h2, h3, h4, h5, h6⟩ := h
  exact ⟨a, b, c, d, e, h1, h2, h3, h4, h5, h6, Ag_w h2⟩
theorem oLen_p {K : aK} {σ : aW} {n : Nat} {ls st : List aV} (h : oLen K n ls st σ) : oLen (fun n l s σ' => K n l s σ' ∧ Ag σ σ') n ls st σ := by
  rcases h with ⟨a, b, c, d, h1, h2, h3, h4⟩ | ⟨a, b, h1, h2, h3⟩ | ⟨a, h1, h2⟩
  · exact Or.inl ⟨a, b, c, d, h1, h2, h3, h4, Ag_r⟩
  · exact Or.inr (Or.inl ⟨a, b, h1, h2, h3, Ag_r⟩)
  · exact Or.inr (Or.inr ⟨a, h1, h2, Ag_r⟩)
theorem oGet_p {K : aK} {σ : aW} {ph : Bool} {n : Nat} {an : List Nat} {ls st : List aV} (h : oGet ph K n an ls st σ) : oGet ph (fun n l s σ' => K n l s σ' ∧ Ag σ σ') n an ls st σ := by
  rcases h with ⟨a, b, c, d, e, h1, h2, h3, h4, h5⟩ | ⟨a, b, c, h1, h2, h3, h4⟩ | ⟨a, b, c, h1, h2, h3, h4⟩
  · exact Or.inl ⟨a, b, c, d, e, h1, h2, h3, h4, oFld_m (fun v hv => ⟨hv, Ag_r⟩) h5⟩
  · exact Or.inr (Or.inl ⟨a, b, c, h1, h2, h3, h4, Ag_r⟩)
  · exact Or.inr (Or.inr ⟨a, b, c, h1, h2, h3, h4, Ag_r⟩)
theorem oPut_p {K : aK} {σ : aW} {ph : Bool} {n : Nat} {an : List Nat} {ls st : List aV} (h : oPut ph K n an ls st σ) : oPut ph (fun n l s σ' => K n l s σ' ∧ Ag σ σ') n an ls st σ := by
  obtain ⟨a, b, c, d, e, f, g, h1, h2, h3, h4, h5⟩ := h
  refine ⟨a, b, c, d, e, f, g, h1, h2, h3, h4, ?_⟩
  rcases h5 with ⟨x, q1, q2, q3⟩ | ⟨x, q1, q2, q3⟩ | ⟨x, q1, q2, q3, q4, q5⟩
  · exact Or.inl ⟨x, q1, q2, q3, Ag_w h3⟩
  · exact Or.inr (Or.inl ⟨x, q1, q2, q3, Ag_w h3⟩)
  · exact Or.inr (Or.inr ⟨x, q1, q2, q3, q4, q5, Ag_w h3⟩)
theorem oCall_p {ph : Bool} {lm : Int × Int} {E : Nat → aT} (hE : ∀ j as σ Q, E j as σ Q → E j as σ (fun r s => Q r s ∧ Ag σ s)) {K : aK} {σ : aW} {n : Nat} {an : List Nat} {ls st : List aV} (h : oCall ph lm E K n an ls st σ) : oCall ph lm E (fun n l s σ' => K n l s σ' ∧ Ag σ σ') n an ls st σ := by
  obtain ⟨a, b, c, d, e, f, h1, h2, h3, h4, h5, h7, h8, h9, h6⟩ := h
  exact ⟨a, b, c, d, e, f, h1, h2, h3, h4, h5, h7, h8, h9, hE _ _ _ _ h6⟩
theorem oCopy_p {K : aK} {σ : aW} {lv n : Nat} {an : List Nat} {ls st : List aV} (h : oCopy lv K n an ls st σ) : oCopy lv (fun n l s σ' => K n l s σ' ∧ Ag σ σ') n an ls st σ := by
  obtain ⟨a1, a2, a3, a4, a5, a6, a7, a8, a9, a10, h1, h2, h3, h4, h5, h6, h7, h8, h9, h10, h11⟩ := h
  exact ⟨a1, a2, a3, a4, a5, a6, a7, a8, a9, a10, h1, h2, h3, h4, h5, h6, h7, h8, h9, h10, h11, Ag_w h4⟩
theorem oMth_p {K : aK} {σ : aW} {lv n : Nat} {an : List Nat} {ls st : List aV} (h : oMth lv K n an ls st σ) : oMth lv (fun n l s σ' => K n l s σ' ∧ Ag σ σ') n an ls st σ := by
  obtain ⟨h0, ps, h⟩ := h
  refine ⟨h0, ps, ?_⟩
  rcases h with ⟨x, y, s, h1, h2, h3, h4⟩ | ⟨x, y, s, h1, h2, h3, h4⟩ | ⟨x, s, h1, h2, h3, h4⟩ | ⟨x, y, s, h1, h2, h3, h4⟩ | ⟨x, y, s, h1, h2, h3, h4⟩
  · exact Or.inl ⟨x, y, s, h1, h2, h3, h4, Ag_r⟩
  · exact Or.inr (Or.inl ⟨x, y, s, h1, h2, h3, h4, Ag_r⟩)
  · exact Or.inr (Or.inr (Or.inl ⟨x, s, h1, h2, h3, h4, Ag_r⟩))
  · exact Or.inr (Or.inr (Or.inr (Or.inl ⟨x, y, s, h1, h2, h3, h4, Ag_r⟩)))
  · exact Or.inr (Or.inr (Or.inr (Or.inr ⟨x, y, s, h1, h2, h3, h4, Ag_r⟩)))
theorem oObj_p {K : aK} {σ : aW} {lv n : Nat} {an : List Nat} {ls st : List aV} (h : oObj lv K n an ls st σ) : oObj lv (fun n l s σ' => K n l s σ' ∧ Ag σ σ') n an ls st σ := by
  obtain ⟨a1, a2, a3, h1, h2, h3, h4, h5, h6⟩ := h
  exact ⟨a1, a2, a3, h1, h2, h3, h4, h5, h6, Ag_r⟩
theorem aKd_i {rt : Nat} {v : Int} (h : Nat.beq rt 2 = false) (h2 : aRg rt v) : aKd rt (some (vi v)) := by
  refine Or.inr (Or.inr ⟨fun z => ?_, fun z => ?_, v, rfl⟩)
  · rw [z] at h2
    exact h2
  · rw [z] at h
    cases h
set_option maxHeartbeats 4000000 in
theorem step_p {E : Nat → aT} (hE : ∀ j as σ Q, E j as σ Q → E j as σ (fun r s => Q r s ∧ Ag σ s)) {K : aK} {Q : aQ} {lv : Nat} {lm : Int × Int} {rt pc : Nat} {x : Instr} {an : List Nat} {c : Int} {ls st : List aV} {σ : aW}
    (h : aStep E lv lm true rt K Q pc x an c ls st σ) : aStep E lv lm true rt (fun n l s σ' => K n l s σ' ∧ Ag σ σ') (fun r s => Q r s ∧ aKd rt r ∧ Ag σ s) pc x an c ls st σ := by
  cases x <;> first
    | exact False.elim h
    | exact ⟨h, Ag_r⟩
    | exact oGet_p h
    | exact oPut_p h
    | exact oCall_p hE h
    | exact oLdX_p h
    | exact oStX_p h
    | exact oLen_p h
    | exact Or.imp (oCall_p hE) (Or.imp oCopy_p oMth_p) h
    | exact Or.imp (oCall_p hE) oObj_p h
    | exact Or.imp oLdX_p oLdS_p h
    | exact Or.imp oLdX_p (Or.imp oLdX_p oLdT_p) h
    | exact Or.imp oStX_p oStX_p h
    | (obtain ⟨_, _, _, hf, _⟩ := h; cases hf; done)
    | (obtain ⟨a, h1, h2, h3⟩ := h; exact ⟨a, h1, h2, h3, aKd_i h2.1 h2.2, Ag_r⟩)
    | (obtain ⟨a, h1, h2, h3⟩ := h; exact ⟨a, h1, h2, h3, Or.inr (Or.inl ⟨h2, a, rfl⟩), Ag_r⟩)
    | (obtain ⟨h1, h2, h3⟩ := h; exact ⟨h1, h2, h3, Or.inl ⟨h2, rfl⟩, Ag_r⟩)
    | (obtain ⟨a, d, h1, h2, h3⟩ := h; exact ⟨a, d, h1, fun z => ⟨h2 z, Ag_r⟩, fun z => ⟨h3 z, Ag_r⟩⟩)
    | (obtain ⟨a, b, d, h1, h2, h3⟩ := h; exact ⟨a, b, d, h1, fun z => ⟨h2 z, Ag_r⟩, fun z => ⟨h3 z, Ag_r⟩⟩)
    | (obtain ⟨a, b, h1, h2⟩ := h; exact ⟨a, b, h1, oTsw_p _ _ _ h2⟩)
    | (obtain ⟨a, b, h1, h2⟩ := h; exact ⟨a, b, h1, oLsw_p _ _ h2⟩)
    | (rcases h with ⟨v, w, st', h1, h2, h3, h4⟩ | ⟨v, st', h1, h2⟩; { exact Or.inl ⟨v, w, st', h1, h2, h3, h4, Ag_r⟩ }; { exact Or.inr ⟨v, st', h1, h2, Ag_r⟩ })
    | (rcases h with ⟨ps, h1, h2⟩ | ⟨t, ps, h1, h2, h3⟩; { exact Or.inl ⟨ps, h1, h2, Ag_r⟩ }; { exact Or.inr ⟨t, ps, h1, h2, h3, Ag_r⟩ })
    | (rcases h with ⟨ps, h1, h2⟩ | ⟨ps, h1, h2⟩; { exact Or.inl ⟨ps, h1, h2, Ag_r⟩ }; { exact Or.inr ⟨ps, h1, h2, Ag_r⟩ })
    | (obtain ⟨a, h1, h2⟩ := h; exact ⟨a, h1, h2, Ag_r⟩)
    | (obtain ⟨a, h1, h2, h3⟩ := h; exact ⟨a, h1, h2, h3, Ag_r⟩)
    | (obtain ⟨a, b, h1, h2, h3⟩ := h; exact ⟨a, b, h1, h2, h3, Ag_r⟩)
    | (obtain ⟨a, b, d, h1, h2⟩ := h; exact ⟨a, b, d, h1, h2, Ag_r⟩)
    | (obtain ⟨a, b, h1, h2⟩ := h; exact ⟨a, b, h1, h2, Ag_r⟩)
    | (obtain ⟨a, b, d, h1, h2, h3⟩ := h; exact ⟨a, b, d, h1, h2, h3, Ag_r⟩)
    | (obtain ⟨a, b, d, h1, h2, h3, h4⟩ := h; exact ⟨a, b, d, h1, h2, h3, h4, Ag_r⟩)
    | (obtain ⟨a, b, h1, h2, h3, h4⟩ := h; exact ⟨a, b, h1, h2, h3, h4, Ag_r⟩)
theorem X_p {E : Bool → Nat → aT} (hm : ∀ ph j, aMo (E ph j)) (hE : ∀ j as σ Q, E true j as σ Q → E true j as σ (fun r s => Q r s ∧ Ag σ s)) {lv : Nat} {lm : Int × Int} {cd : List (List bE)} {rt : Nat} {Q : aQ} {pc : Nat} {ls st : List aV} {σ : aW} (h : aX E lv lm cd rt Q true pc ls st σ) : aX E lv lm cd rt (fun r s => Q r s ∧ aKd rt r ∧ Ag σ s) true pc ls st σ := by
  refine h (fun ph pc ls st s => ph = true → Ag σ s → aX E lv lm cd rt (fun r s => Q r s ∧ aKd rt r ∧ Ag σ s) true pc ls st s) ?_ rfl Ag_r
  intro ph pc ls st s hs e ag
  subst e
  refine aX_in hm ?_
  rcases hs with ⟨x, ln, an, c, h1, h0, h2⟩ | ⟨h1, _, _⟩ | ⟨i, n, an, c, v, h1, h2, h3⟩
  · refine Or.inl ⟨x, ln, an, c, h1, h0, ?_⟩
    exact aStep_m (hm true) (fun n l st' s' hk => hk.1 rfl (Ag_t ag hk.2)) (fun r s' hq => ⟨hq.1, hq.2.1, Ag_t ag hq.2.2⟩) (step_p hE h2)
  · cases h1
  · exact Or.inr (Or.inr ⟨i, n, an, c, v, h1, h2, h3 rfl ag⟩)
theorem ev_p : ∀ (d j : Nat) (as : List aV) (σ : aW) (Q : aQ), aEv d true j as σ Q → aEv d true j as σ (fun r s => Q r s ∧ aKd (aRk j) r ∧ Ag σ s)
  | 0, j, as, σ, Q, h => by
    have h' : aBd (fun _ _ _ _ _ => False) 0 true j as σ Q := h
    show aBd (fun _ _ _ _ _ => False) 0 true j as σ _
    intro hw ha
    exact X_p (fun _ _ _ _ _ _ _ h => h) (fun _ _ _ _ h => h.elim) (h' hw ha)
  | d + 1, j, as, σ, Q, h => by
    have h' : aBd (aEv d) (d + 1) true j as σ Q := h
    show aBd (aEv d) (d + 1) true j as σ _
    intro hw ha
    exact X_p (aEv_m d) (fun j as σ Q h => aEv_m d true j as σ _ _ (fun r s q => ⟨q.1, q.2.2⟩) (ev_p d j as σ Q h)) (h' hw ha)
set_option maxHeartbeats 4000000 in
theorem aStep_lm {E : Nat → aT} {K : aK} {Q : aQ} {lv : Nat} {lm lm' : Int × Int} {rt pc : Nat} {x : Instr} {an : List Nat} {c : Int} {ls st : List aV} {σ : aW} (h : aStep E lv lm true rt K Q pc x an c ls st σ) : aStep E lv lm' true rt K Q pc x an c ls st σ := by
  have hc : ∀ {n : Nat}, oCall true lm E K n an ls st σ → oCall true lm' E K n an ls st σ := fun ⟨a, b, c, d, e, f, h1, h2, h3, h4, h5, h7, h8, _, h6⟩ => ⟨a, b, c, d, e, f, h1, h2, h3, h4, h5, h7, h8, trivial, h6⟩
  cases x <;> first
    | exact False.elim h
    | exact hc h
    | exact Or.imp hc (fun z => z) h
    | (obtain ⟨_, _, _, hf, _⟩ := h; cases hf; done)
    | exact h
theorem Yx_lm {lm : Int × Int} {Q : aQ} {cd : List (List bE)} {rt pc : Nat} {ls st : List aV} {σ : aW} (h : Yx 60 cd rt Q pc ls st σ) : aX (aEv 59) 60 lm cd rt Q true pc ls st σ := by
  refine h (fun ph pc ls st s => ph = true → aX (aEv 59) 60 lm cd rt Q true pc ls st s) ?_ rfl
  intro ph pc ls st s hs e
  subst e
  refine aX_in (aEv_m 59) ?_
  rcases hs with ⟨x, ln, an, c, h1, h0, h2⟩ | ⟨h1, _, _⟩ | ⟨i, n, an, c, v, h1, h2, h3⟩
  · exact Or.inl ⟨x, ln, an, c, h1, h0, aStep_lm (aStep_m (E := aEv 59 true) (aEv_m 59 true) (fun n l s s' hk => hk rfl) (fun _ _ q => q) h2)⟩
  · cases h1
  · exact Or.inr (Or.inr ⟨i, n, an, c, v, h1, h2, h3 rfl⟩)
/-- two calls of the law -/
theorem glI {σ : aW} {j1 j2 : Nat} {as1 as2 : List aV} {I : aW → Prop} {L : List Nat} {P : List (Nat × Int)} {Y1 : Int → aW → Prop} (hk : ¬ aRk j1 = 0 ∧ ¬ aRk j1 = 2) (h : aEv 59 true j1 as1 σ (fun r s => aEv 59 true j2 as2 s (Tp I L P σ r)))
    (k : ∀ x s, Ag σ s → aEv 59 true j2 as2 s (fun r' t => r' = some (vi x) ∧ I t ∧ Fg L P σ t ∧ Ag σ t) → Y1 x s) : aEv 59 true j1 as1 σ (fun r s => ∃ x : Int, r = some (vi x) ∧ Y1 x s) := by
  refine ev_m (ev_p 59 j1 as1 σ _ h) (fun r s q => ?_)
  obtain ⟨q1, q2, q3⟩ := q
  rcases q2 with ⟨z, _⟩ | ⟨z, _⟩ | ⟨_, _, x, e⟩
  · exact absurd z hk.1
  · exact absurd z hk.2
  · refine ⟨x, e, k x s q3 (ev_m (ev_p 59 j2 as2 s _ q1) (fun r' t p => ?_))⟩
    obtain ⟨⟨p1, p2, p3⟩, _, p4⟩ := p
    exact ⟨p1.trans e, p2, p3, Ag_t q3 p4⟩
theorem glJ {σ : aW} {j1 j2 : Nat} {as1 as2 : List aV} {I : aW → Prop} {L : List Nat} {P : List (Nat × Int)} {Y1 : Int → aW → Prop} (hk : aRk j1 = 2) (h : aEv 59 true j1 as1 σ (fun r s => aEv 59 true j2 as2 s (Tp I L P σ r)))
    (k : ∀ x s, Ag σ s → aEv 59 true j2 as2 s (fun r' t => r' = some (vl x) ∧ I t ∧ Fg L P σ t ∧ Ag σ t) → Y1 x s) : aEv 59 true j1 as1 σ (fun r s => ∃ x : Int, r = some (vl x) ∧ Y1 x s) := by
  refine ev_m (ev_p 59 j1 as1 σ _ h) (fun r s q => ?_)
  obtain ⟨q1, q2, q3⟩ := q
  rcases q2 with ⟨z, _⟩ | ⟨_, x, e⟩ | ⟨_, z, _⟩
  · rw [hk] at z
    cases z
  · refine ⟨x, e, k x s q3 (ev_m (ev_p 59 j2 as2 s _ q1) (fun r' t p => ?_))⟩
    obtain ⟨⟨p1, p2, p3⟩, _, p4⟩ := p
    exact ⟨p1.trans e, p2, p3, Ag_t q3 p4⟩
  · exact absurd hk z
end
