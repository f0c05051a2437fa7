section
theorem oB32_m {K K' : aK} (hK : ∀ n ls st σ, K n ls st σ → K' n ls st σ) {n : Nat} {f : Int → Int → Int} {ls st : List aV} {σ : aW} (h : oB32 K n f ls st σ) : oB32 K' n f ls st σ := by
  obtain ⟨a, b, d, h1, h2⟩ := h
  exact ⟨a, b, d, h1, hK _ _ _ _ h2⟩
theorem oB64_m {K K' : aK} (hK : ∀ n ls st σ, K n ls st σ → K' n ls st σ) {n : Nat} {f : Int → Int → Int} {ls st : List aV} {σ : aW} (h : oB64 K n f ls st σ) : oB64 K' n f ls st σ := by
  obtain ⟨a, b, d, h1, h2⟩ := h
  exact ⟨a, b, d, h1, hK _ _ _ _ h2⟩
theorem oS64_m {K K' : aK} (hK : ∀ n ls st σ, K n ls st σ → K' n ls st σ) {n : Nat} {f : Int → Int → Int} {ls st : List aV} {σ : aW} (h : oS64 K n f ls st σ) : oS64 K' n f ls st σ := by
  obtain ⟨a, b, d, h1, h2⟩ := h
  exact ⟨a, b, d, h1, hK _ _ _ _ h2⟩
theorem oD32_m {K K' : aK} (hK : ∀ n ls st σ, K n ls st σ → K' n ls st σ) {n : Nat} {f : Int → Int → Int} {ls st : List aV} {σ : aW} (h : oD32 K n f ls st σ) : oD32 K' n f ls st σ := by
  obtain ⟨a, b, d, h1, h2, h3⟩ := h
  exact ⟨a, b, d, h1, h2, hK _ _ _ _ h3⟩
theorem oD64_m {K K' : aK} (hK : ∀ n ls st σ, K n ls st σ → K' n ls st σ) {n : Nat} {f : Int → Int → Int} {ls st : List aV} {σ : aW} (h : oD64 K n f ls st σ) : oD64 K' n f ls st σ := by
  obtain ⟨a, b, d, h1, h2, h3⟩ := h
  exact ⟨a, b, d, h1, h2, hK _ _ _ _ h3⟩
theorem oU32_m {K K' : aK} (hK : ∀ n ls st σ, K n ls st σ → K' n ls st σ) {n : Nat} {f : Int → Int} {ls st : List aV} {σ : aW} (h : oU32 K n f ls st σ) : oU32 K' n f ls st σ := by
  obtain ⟨a, d, h1, h2⟩ := h
  exact ⟨a, d, h1, hK _ _ _ _ h2⟩
theorem oLdI_m {K K' : aK} (hK : ∀ n ls st σ, K n ls st σ → K' n ls st σ) {n i : Nat} {ls st : List aV} {σ : aW} (h : oLdI K n i ls st σ) : oLdI K' n i ls st σ := by
  obtain ⟨a, h1, h2⟩ := h
  exact ⟨a, h1, hK _ _ _ _ h2⟩
theorem oLdL_m {K K' : aK} (hK : ∀ n ls st σ, K n ls st σ → K' n ls st σ) {n i : Nat} {ls st : List aV} {σ : aW} (h : oLdL K n i ls st σ) : oLdL K' n i ls st σ := by
  obtain ⟨a, h1, h2⟩ := h
  exact ⟨a, h1, hK _ _ _ _ h2⟩
theorem oLdA_m {K K' : aK} (hK : ∀ n ls st σ, K n ls st σ → K' n ls st σ) {n i : Nat} {ls st : List aV} {σ : aW} (h : oLdA K n i ls st σ) : oLdA K' n i ls st σ := by
  obtain ⟨a, h1, h2, h3⟩ := h
  exact ⟨a, h1, h2, hK _ _ _ _ h3⟩
theorem oStI_m {K K' : aK} (hK : ∀ n ls st σ, K n ls st σ → K' n ls st σ) {n i : Nat} {ls st : List aV} {σ : aW} (h : oStI K n i ls st σ) : oStI K' n i ls st σ := by
  obtain ⟨a, d, h1, h2, h3⟩ := h
  exact ⟨a, d, h1, h2, hK _ _ _ _ h3⟩
theorem oStL_m {K K' : aK} (hK : ∀ n ls st σ, K n ls st σ → K' n ls st σ) {n i : Nat} {ls st : List aV} {σ : aW} (h : oStL K n i ls st σ) : oStL K' n i ls st σ := by
  obtain ⟨a, d, h1, h2, h3⟩ := h
  exact ⟨a, d, h1, h2, hK _ _ _ _ h3⟩
theorem oStA_m {K K' : aK} (hK : ∀ n ls st σ, K n ls st σ → K' n ls st σ) {n i : Nat} {ls st : List aV} {σ : aW} (h : oStA K n i ls st σ) : oStA K' n i ls st σ := by
  obtain ⟨a, d, h1, h2, h3, h4⟩ := h
  exact ⟨a, d, h1, h2, h3, hK _ _ _ _ h4⟩
theorem oLdX_m {K K' : aK} (hK : ∀ n ls st σ, K n ls st σ → K' n ls st σ) {n kd : Nat} {mk : Int → aV} {ls st : List aV} {σ : aW} (h : oLdX K n mk kd ls st σ) : oLdX K' n mk kd ls st σ := by
  obtain ⟨a, b, c, d, h1, h2, h3, h4, h5⟩ := h
  exact ⟨a, b, c, d, h1, h2, h3, h4, hK _ _ _ _ h5⟩
theorem oLdS_m {K K' : aK} (hK : ∀ n ls st σ, K n ls st σ → K' n ls st σ) {n : Nat} {ls st : List aV} {σ : aW} (h : oLdS K n ls st σ) : oLdS K' n ls st σ := by
  obtain ⟨a, b, h1, h2, h3⟩ := h
  exact ⟨a, b, h1, h2, hK _ _ _ _ h3⟩
theorem oLdT_m {K K' : aK} (hK : ∀ n ls st σ, K n ls st σ → K' n ls st σ) {n : Nat} {ls st : List aV} {σ : aW} (h : oLdT K n ls st σ) : oLdT K' n ls st σ := by
  obtain ⟨a, b, c, h1, h2, h3, h4⟩ := h
  exact ⟨a, b, c, h1, h2, h3, hK _ _ _ _ h4⟩
theorem oStX_m {K K' : aK} (hK : ∀ n ls st σ, K n ls st σ → K' n ls st σ) {n kd : Nat} {mk : Int → aV} {ls st : List aV} {σ : aW} (h : oStX K n mk kd ls st σ) : oStX K' n mk kd ls st σ := by
  obtain ⟨a, b, c, d, e, h1, h2, h3, h4, h5, h6⟩ := h
  exact ⟨a, b, c, d, e, h1, h2, h3, h4, h5, hK _ _ _ _ h6⟩
theorem oLen_m {K K' : aK} (hK : ∀ n ls st σ, K n ls st σ → K' n ls st σ) {n : Nat} {ls st : List aV} {σ : aW} (h : oLen K n ls st σ) : oLen K' n ls st σ := by
  rcases h with ⟨a, b, c, d, h1, h2, h3, h4⟩ | ⟨a, b, h1, h2, h3⟩ | ⟨a, h1, h2⟩
  · exact Or.inl ⟨a, b, c, d, h1, h2, h3, hK _ _ _ _ h4⟩
  · exact Or.inr (Or.inl ⟨a, b, h1, h2, hK _ _ _ _ h3⟩)
  · exact Or.inr (Or.inr ⟨a, h1, hK _ _ _ _ h2⟩)
theorem oFld_m {ph : Bool} {K K' : aV → Prop} (hK : ∀ v, K v → K' v) {kd k i : Nat} {σ : aW} (h : oFld ph K kd k i σ) : oFld ph K' kd k i σ := by
  unfold oFld at h ⊢
  split
  · exact hK _ h
  · exact hK _ h
  · exact hK _ h
  · cases ph with
    | true => exact hK _ h
    | false =>
      obtain ⟨t, h1, h2⟩ := h
      exact ⟨t, h1, hK _ h2⟩
  · split at h <;> first | exact h | (exfalso; simp_all)
theorem oGet_m {K K' : aK} (hK : ∀ n ls st σ, K n ls st σ → K' n ls st σ) {ph : Bool} {n : Nat} {an : List Nat} {ls st : List aV} {σ : aW} (h : oGet ph K n an ls st σ) : oGet ph K' n an ls st σ := by
  rcases h with ⟨a, b, c, d, e, h1, h2, h3, h4, h5⟩ | ⟨a, b, c, h1, h2, h3, h4⟩ | ⟨a, b, c, h1, h2, h3, h4⟩
  · exact Or.inl ⟨a, b, c, d, e, h1, h2, h3, h4, oFld_m (fun v hv => hK _ _ _ _ hv) h5⟩
  · exact Or.inr (Or.inl ⟨a, b, c, h1, h2, h3, hK _ _ _ _ h4⟩)
  · exact Or.inr (Or.inr ⟨a, b, c, h1, h2, h3, hK _ _ _ _ h4⟩)
theorem oPut_m {K K' : aK} (hK : ∀ n ls st σ, K n ls st σ → K' n ls st σ) {ph : Bool} {n : Nat} {an : List Nat} {ls st : List aV} {σ : aW} (h : oPut ph K n an ls st σ) : oPut ph K' n an ls st σ := by
  obtain ⟨a, b, c, d, e, f, g, h1, h2, h3, h4, h5⟩ := h
  refine ⟨a, b, c, d, e, f, g, h1, h2, h3, h4, ?_⟩
  rcases h5 with ⟨x, q1, q2, q3⟩ | ⟨x, q1, q2, q3⟩ | ⟨x, q1, q2, q3, q4, q5⟩
  · exact Or.inl ⟨x, q1, q2, hK _ _ _ _ q3⟩
  · exact Or.inr (Or.inl ⟨x, q1, q2, hK _ _ _ _ q3⟩)
  · exact Or.inr (Or.inr ⟨x, q1, q2, q3, q4, hK _ _ _ _ q5⟩)
theorem oIf_m {K K' : aK} (hK : ∀ n ls st σ, K n ls st σ → K' n ls st σ) {pc : Nat} {b : Jvm.ClassFile.Cond} {off : Int} {ls st : List aV} {σ : aW} (h : oIf K pc b off ls st σ) : oIf K' pc b off ls st σ := by
  obtain ⟨a, d, h1, h2, h3⟩ := h
  exact ⟨a, d, h1, fun z => hK _ _ _ _ (h2 z), fun z => hK _ _ _ _ (h3 z)⟩
theorem oIc_m {K K' : aK} (hK : ∀ n ls st σ, K n ls st σ → K' n ls st σ) {pc : Nat} {b : Jvm.ClassFile.Cond} {off : Int} {ls st : List aV} {σ : aW} (h : oIc K pc b off ls st σ) : oIc K' pc b off ls st σ := by
  obtain ⟨a, a2, d, h1, h2, h3⟩ := h
  exact ⟨a, a2, d, h1, fun z => hK _ _ _ _ (h2 z), fun z => hK _ _ _ _ (h3 z)⟩
theorem oLsw_m {K K' : aK} (hK : ∀ n ls st σ, K n ls st σ → K' n ls st σ) {pc : Nat} {x : Int} {ls st : List aV} {σ : aW} : ∀ (l : List (Int × Int)) (d : Int), oLsw K pc x ls st σ l d → oLsw K' pc x ls st σ l d
  | [], _, h => hK _ _ _ _ h
  | (_, _) :: r, d, h => ⟨fun z => hK _ _ _ _ (h.1 z), fun z => oLsw_m hK r d (h.2 z)⟩
theorem oTsw_m {K K' : aK} (hK : ∀ n ls st σ, K n ls st σ → K' n ls st σ) {pc : Nat} {x : Int} {ls st : List aV} {σ : aW} : ∀ (a : Int) (l : List Int) (d : Int), oTsw K pc x ls st σ a l d → oTsw K' pc x ls st σ a l d
  | _, [], _, h => hK _ _ _ _ h
  | _, _ :: r, d, h => ⟨fun z => hK _ _ _ _ (h.1 z), fun z => oTsw_m hK _ r d (h.2 z)⟩
/-- a transformer that is monotone -/
def aMo (T : aT) : Prop := ∀ (as : List aV) (σ : aW) (Q Q' : aQ), (∀ r σ', Q r σ' → Q' r σ') → T as σ Q → T as σ Q'
theorem oCall_m {ph : Bool} {lm : Int × Int} {E : Nat → aT} (hE : ∀ j, aMo (E j)) {K K' : aK} (hK : ∀ n ls st σ, K n ls st σ → K' n ls st σ) {n : Nat} {an : List Nat} {ls st : List aV} {σ : aW} (h : oCall ph lm E K n an ls st σ) : oCall ph lm E K' n an ls st σ := by
  obtain ⟨a, b, c, d, e, f, h1, h2, h3, h4, h5, h7, h8, h9, h6⟩ := h
  exact ⟨a, b, c, d, e, f, h1, h2, h3, h4, h5, h7, h8, h9, hE a _ _ _ _ (fun r σ' hq => hK _ _ _ _ hq) h6⟩
theorem oCopy_m {K K' : aK} (hK : ∀ n ls st σ, K n ls st σ → K' n ls st σ) {lv n : Nat} {an : List Nat} {ls st : List aV} {σ : aW} (h : oCopy lv K n an ls st σ) : oCopy lv K' n an ls st σ := by
  obtain ⟨a1, a2, a3, a4, a5, a6, a7, a8, a9, a10, h1, h2, h3, h4, h5, h6, h7, h8, h9, h10, h11⟩ := h
  exact ⟨a1, a2, a3, a4, a5, a6, a7, a8, a9, a10, h1, h2, h3, h4, h5, h6, h7, h8, h9, h10, hK _ _ _ _ h11⟩
theorem oMth_m {K K' : aK} (hK : ∀ n ls st σ, K n ls st σ → K' n ls st σ) {lv n : Nat} {an : List Nat} {ls st : List aV} {σ : aW} (h : oMth lv K n an ls st σ) : oMth lv K' n an ls st σ := by
  obtain ⟨h0, ps, h⟩ := h
  refine ⟨h0, ps, ?_⟩
  rcases h with ⟨x, y, s, h1, h2, h3, h4⟩ | ⟨x, y, s, h1, h2, h3, h4⟩ | ⟨x, s, h1, h2, h3, h4⟩ | ⟨x, y, s, h1, h2, h3, h4⟩ | ⟨x, y, s, h1, h2, h3, h4⟩
  · exact Or.inl ⟨x, y, s, h1, h2, h3, hK _ _ _ _ h4⟩
  · exact Or.inr (Or.inl ⟨x, y, s, h1, h2, h3, hK _ _ _ _ h4⟩)
  · exact Or.inr (Or.inr (Or.inl ⟨x, s, h1, h2, h3, hK _ _ _ _ h4⟩))
  · exact Or.inr (Or.inr (Or.inr (Or.inl ⟨x, y, s, h1, h2, h3, hK _ _ _ _ h4⟩)))
  · exact Or.inr (Or.inr (Or.inr (Or.inr ⟨x, y, s, h1, h2, h3, hK _ _ _ _ h4⟩)))
theorem oObj_m {K K' : aK} (hK : ∀ n ls st σ, K n ls st σ → K' n ls st σ) {lv n : Nat} {an : List Nat} {ls st : List aV} {σ : aW} (h : oObj lv K n an ls st σ) : oObj lv K' n an ls st σ := by
  obtain ⟨a1, a2, a3, h1, h2, h3, h4, h5, h6⟩ := h
  exact ⟨a1, a2, a3, h1, h2, h3, h4, h5, hK _ _ _ _ h6⟩
theorem oNew_m {K K' : aK} (hK : ∀ n ls st σ, K n ls st σ → K' n ls st σ) {ph : Bool} {lm : Int × Int} {n : Nat} {an : List Nat} {ls st : List aV} {σ : aW} (h : oNew ph lm K n an ls st σ) : oNew ph lm K' n an ls st σ := by
  obtain ⟨a1, a2, h1, h2, h3, h4, h6, h5⟩ := h
  exact ⟨a1, a2, h1, h2, h3, h4, h6, hK _ _ _ _ h5⟩
theorem oNwa_m {K K' : aK} (hK : ∀ n ls st σ, K n ls st σ → K' n ls st σ) {ph : Bool} {lm : Int × Int} {n kd : Nat} {ls st : List aV} {σ : aW} (h : oNwa ph lm K n kd ls st σ) : oNwa ph lm K' n kd ls st σ := by
  obtain ⟨a1, a2, h1, h2, h3, h4, h5, h7, h6⟩ := h
  exact ⟨a1, a2, h1, h2, h3, h4, h5, h7, hK _ _ _ _ h6⟩
set_option maxHeartbeats 4000000 in
theorem aStep_m {E : Nat → aT} (hE : ∀ j, aMo (E j)) {K K' : aK} (hK : ∀ n ls st σ, K n ls st σ → K' n ls st σ) {Q Q' : aQ} (hQ : ∀ r σ, Q r σ → Q' r σ) {lv : Nat} {lm : Int × Int} {ph : Bool} {rt pc : Nat} {x : Instr} {an : List Nat} {c : Int} {ls st : List aV} {σ : aW}
    (h : aStep E lv lm ph rt K Q pc x an c ls st σ) : aStep E lv lm ph rt K' Q' pc x an c ls st σ := by
  cases x <;> first
    | exact False.elim h
    | exact hK _ _ _ _ h
    | exact oB32_m hK h
    | exact oB64_m hK h
    | exact oS64_m hK h
    | exact oD32_m hK h
    | exact oD64_m hK h
    | exact oU32_m hK h
    | exact oLdI_m hK h
    | exact oLdL_m hK h
    | exact oLdA_m hK h
    | exact oStI_m hK h
    | exact oStL_m hK h
    | exact oStA_m hK h
    | exact oIf_m hK h
    | exact oIc_m hK h
    | exact oLdX_m hK h
    | exact oStX_m hK h
    | exact oLen_m hK h
    | exact oGet_m hK h
    | exact oPut_m hK h
    | exact oCall_m hE hK h
    | exact oNew_m hK h
    | exact oNwa_m hK h
    | exact Or.imp (oCall_m hE hK) (Or.imp (oCopy_m hK) (oMth_m hK)) h
    | exact Or.imp (oCall_m hE hK) (oObj_m hK) h
    | exact Or.imp (oLdX_m hK) (oLdS_m hK) h
    | exact Or.imp (oLdX_m hK) (Or.imp (oLdX_m hK) (oLdT_m hK)) h
    | exact Or.imp (oStX_m hK) (oStX_m hK) h
    | (rcases h with ⟨v, w, st', h1, h2, h3, h4⟩ | ⟨v, st', h1, h2⟩; { exact Or.inl ⟨v, w, st', h1, h2, h3, hK _ _ _ _ h4⟩ }; { exact Or.inr ⟨v, st', h1, hK _ _ _ _ h2⟩ })
    | (rcases h with ⟨ps, h1, h2⟩ | ⟨t, ps, h1, h2, h3⟩; { exact Or.inl ⟨ps, h1, hK _ _ _ _ h2⟩ }; { exact Or.inr ⟨t, ps, h1, h2, hK _ _ _ _ h3⟩ })
    | (rcases h with ⟨ps, h1, h2⟩ | ⟨ps, h1, h2⟩; { exact Or.inl ⟨ps, h1, hK _ _ _ _ h2⟩ }; { exact Or.inr ⟨ps, h1, hK _ _ _ _ h2⟩ })
    | (obtain ⟨a, h1, h2⟩ := h; exact ⟨a, h1, hK _ _ _ _ h2⟩)
    | (obtain ⟨a, b, h1, h2⟩ := h; exact ⟨a, b, h1, hK _ _ _ _ h2⟩)
    | (obtain ⟨a, b, h1, h2, h3⟩ := h; exact ⟨a, b, h1, h2, hK _ _ _ _ h3⟩)
    | (obtain ⟨a, b, d, h1, h2⟩ := h; exact ⟨a, b, d, h1, hK _ _ _ _ h2⟩)
    | (obtain ⟨a, b, d, h1, h2, h3, h4⟩ := h; exact ⟨a, b, d, h1, h2, h3, hK _ _ _ _ h4⟩)
    | (obtain ⟨a, b, h1, h2⟩ := h; exact ⟨a, b, h1, oTsw_m hK _ _ _ h2⟩)
    | (obtain ⟨a, b, h1, h2⟩ := h; exact ⟨a, b, h1, oLsw_m hK _ _ h2⟩)
    | (obtain ⟨a, h1, h2, h3⟩ := h; exact ⟨a, h1, h2, hQ _ _ h3⟩)
    | (obtain ⟨h1, h2, h3⟩ := h; exact ⟨h1, h2, hQ _ _ h3⟩)
theorem aStp_m {E : Bool → Nat → aT} (hE : ∀ ph j, aMo (E ph j)) {K K' : Bool → aK} (hK : ∀ ph n ls st σ, K ph n ls st σ → K' ph n ls st σ) {Q Q' : aQ} (hQ : ∀ r σ, Q r σ → Q' r σ) {lv : Nat} {lm : Int × Int} {cd : List (List bE)} {ph : Bool} {rt pc : Nat} {ls st : List aV} {σ : aW}
    (h : aStp E lv lm cd rt Q K ph pc ls st σ) : aStp E lv lm cd rt Q' K' ph pc ls st σ := by
  rcases h with ⟨x, ln, an, c, h1, h0, h2⟩ | ⟨h1, h2, h3⟩ | ⟨i, n, an, c, v, h1, h2, h3⟩
  · exact Or.inl ⟨x, ln, an, c, h1, h0, aStep_m (hE ph) (hK ph) hQ h2⟩
  · exact Or.inr (Or.inl ⟨h1, h2, hK _ _ _ _ _ h3⟩)
  · exact Or.inr (Or.inr ⟨i, n, an, c, v, h1, h2, hK _ _ _ _ _ h3⟩)
theorem aX_in {E : Bool → Nat → aT} (hE : ∀ ph j, aMo (E ph j)) {Q : aQ} {lv : Nat} {lm : Int × Int} {cd : List (List bE)} {ph : Bool} {rt pc : Nat} {ls st : List aV} {σ : aW}
    (h : aStp E lv lm cd rt Q (aX E lv lm cd rt Q) ph pc ls st σ) : aX E lv lm cd rt Q ph pc ls st σ :=
  fun K hK => hK _ _ _ _ _ (aStp_m hE (fun _ _ _ _ _ hx => hx K hK) (fun _ _ q => q) h)
theorem aX_m {E : Bool → Nat → aT} (hE : ∀ ph j, aMo (E ph j)) {Q Q' : aQ} (hQ : ∀ r σ, Q r σ → Q' r σ) {lv : Nat} {lm : Int × Int} {cd : List (List bE)} {ph : Bool} {rt pc : Nat} {ls st : List aV} {σ : aW}
    (h : aX E lv lm cd rt Q ph pc ls st σ) : aX E lv lm cd rt Q' ph pc ls st σ :=
  h (aX E lv lm cd rt Q') (fun _ _ _ _ _ hs => aX_in hE (aStp_m hE (fun _ _ _ _ _ hx => hx) hQ hs))
theorem aBd_m {E : Bool → Nat → aT} (hE : ∀ ph j, aMo (E ph j)) (lv : Nat) (ph : Bool) (j : Nat) : aMo (aBd E lv ph j) := by
  intro as σ Q Q' hQ h hw ha
  have h := h hw ha
  cases ph with
  | true => exact aX_m hE hQ h
  | false => exact aX_m hE (fun r σ' q => ⟨hQ r σ' q.1, q.2⟩) h
theorem aEv_m : ∀ (d : Nat) (ph : Bool) (j : Nat), aMo (aEv d ph j)
  | 0, ph, j => aBd_m (fun _ _ _ _ _ _ _ h => h) 0 ph j
  | d + 1, ph, j => aBd_m (aEv_m d) (d + 1) ph j
end
