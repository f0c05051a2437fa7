section
/-! rules: the component's conditions -/
theorem c74 {d : Nat} {T Sp : Int → Int} {M : Int} (hT : rT T M) : rSpS (d + 19) 74 T Sp M (rCond T) [vr 32] := by
  intro Q s i n hG kO kB
  have hS : rSpS (d + 18) 75 T Sp M (rSum T 8) [vr 32, vi 0] := c75 hT 8 d (by omega)
  have h4 := hG.2.2.2.1
  have h5 := hG.2.2.2.2.1
  have hM := hT.2.1
  unfold rCond at kO kB
  have pg := rSum_pg hT 8 i h4 h5
  refine e74 (d := d + 16) (b74_0 (hS _ s i n hG (fun j c v s1 e k1 => ⟨rfl, b74_5 ?_⟩) (fun j s1 e k1 => ⟨rfl, b74_5 ?_⟩)))
  · rw [e] at kO kB
    simp only at kO kB
    have hq := pg.1 _ _ _ e
    have g1 := k1.2.1
    have g1' := g1
    obtain ⟨-, x2, x3, x4, x5, x6, -⟩ := g1'
    have hx := x2 j x4 x5
    rw [x3, hx.1, x6]
    have bad : ¬ (T j = 20060 ∨ T j = 20061 ∨ T j = 20062) → aEv (d + 16 + 2) true 68 [vr 32] s1 (fun r σ' => r = none ∧ Yx (d + 16 + 3) cd74 0 Q 46 [vt, vt] [] σ') := fun z => by
      rw [if_neg z] at kB
      exact c68 g1 (fun s2 k2 => ⟨rfl, b74_46 (kB j s2 rfl ⟨Fg_t k1.1 k2.1, k2.2⟩)⟩)
    have ok : (T j = 20060 ∨ T j = 20061 ∨ T j = 20062) → aEv (d + 16 + 2) true 71 [vr 32] s1 (fun r σ' => r = none ∧ Yx (d + 16 + 3) cd74 0 Q 51 [vr 32, vi (T j)] [] σ') := fun z => by
      rw [if_pos z] at kO kB
      have hjM : j < M := by
        by_cases e2 : j = M
        · rw [e2] at z
          have := hT.2.2.1
          omega
        · omega
      have pg2 := rSum_pg hT 8 (j + 1) (by omega) (by omega)
      refine c71 g1 (by omega) (fun s2 f2 g2 => ⟨rfl, b74_51 (hS _ s2 (j + 1) (n + c.length) g2 (fun j2 c2 v2 s3 e2 k3 => ⟨rfl, b74_56 ?_⟩) (fun j2 s3 e2 k3 => ⟨rfl, b74_56 ?_⟩))⟩)
      · rw [e2] at kO
        have hq2 := pg2.1 _ _ _ e2
        have k4 := rKo_t (rKo_m k1 f2 g2) k3
        refine c82o k4 (by rw [List.length_append]; have := k1.2.1.2.2.2.2.2.2.2.2; omega) (fun s4 k5 => ⟨rfl, b74_64 (kO _ _ _ s4 rfl k5)⟩)
      · rw [e2] at kB
        exact c82b k3.2 (fun s4 f4 b4 => ⟨rfl, b74_64 (kB _ s4 rfl ⟨Fg_t (Fg_t (Fg_t k1.1 (Fg_m f2 (by decide) (by decide))) k3.1) f4, b4⟩)⟩)
    clear kO kB
    (repeat' first | with_reducible apply And.intro | with_reducible intro _)
    all_goals first
      | omega
      | exact ok (by omega)
      | exact bad (by omega)
  · rw [e] at kB
    have b3 := k1.2
    have ng : ∀ x : Int, ¬ (s1 32 1 = -1 ∧ s1 34 (s1 32 7) = x) := fun x y => b3.2.1 (b3.1.symm.trans y.1)
    exact ⟨⟨b3.2.2.1, b3.2.2.2.1⟩, ⟨b3.2.2.1, b3.2.2.2.1⟩, by omega, fun y => absurd y (ng _), fun _ => ⟨⟨b3.2.2.1, b3.2.2.2.1⟩, by omega, fun y => absurd y (ng _), fun _ => ⟨⟨b3.2.2.1, b3.2.2.2.1⟩, by omega, fun y => absurd y (ng _), fun _ => c68b b3 ⟨rfl, b74_46 (kB j s1 rfl k1)⟩⟩⟩⟩
def rWb (L : Option (Int × rV)) : Int := match L with
  | none => 0
  | some _ => 1
def rWc0 (L : Option (Int × rV)) : Prop := match L with
  | none => True
  | some (o, _) => o = 10005
theorem rFn_b0 {L : Option (Int × rV)} (z : rWb L = 0) : rFn L = [] := by
  cases L with
  | none => rfl
  | some p => exact absurd z (by show ¬ (1 : Int) = 0; omega)
theorem rFn_b1 {L : Option (Int × rV)} (h : rWc0 L) (z : ¬ rWb L = 0) : rFn L = [10005] := by
  cases L with
  | none => exact absurd rfl z
  | some p =>
    obtain ⟨o, l⟩ := p
    have : o = 10005 := h
    rw [this]
    rfl
theorem rWb_01 (L : Option (Int × rV)) : rWb L = 0 ∨ rWb L = 1 := by
  cases L with
  | none => exact Or.inl rfl
  | some p => exact Or.inr rfl
theorem c73l {d : Nat} {T Sp : Int → Int} {M : Int} {F : Int → rO} (hF : rSpS (d + 3) 74 T Sp M F [vr 32]) (hPg : rPg M F) : ∀ (f : Nat) (L : Option (Int × rV)) (c : List Int) (t : rV) (i : Int) (Q : aQ) (s0 s : aW) (n a3 : Int), M - i < f → rKo T Sp M s0 s n i c → n + c.length + (rFn L).length ≤ i → 0 ≤ a3 → a3 + 1 ≤ i → rWc0 L → (∀ j c' v s', rLp T rhW rlW F f L c t i = .inr (j, c', v) → rKo T Sp M s0 s' n j c' → Q none s') → (∀ j s', rLp T rhW rlW F f L c t i = .inl j → rKb Sp s0 s' j → Q none s') → Yx (d + 4) cd73 0 Q 8 [vr 32, vi (rWb L), vi a3, vt] [] s
  | 0, L, c, t, i, Q, s0, s, n, a3, hf, hk, _, _, _, _, _, _ => by
    have := hk.2.1.2.2.2.2.1
    omega
  | f + 1, L, c, t, i, Q, s0, s, n, a3, hf, hk, hl, a0, a1, hw, kO, kB => by
    have hG := hk.2.1
    have hG' := hG
    obtain ⟨h1, h2, h3, h4, h5, h6, h7, h8, h9⟩ := hG'
    have hM := h1.2.1
    have hx := h2 i h4 h5
    have hb01 := rWb_01 L
    unfold rLp at kO kB
    have next : ∀ (s1 : aW) (L' : Option (Int × rV)) (c1 : List Int) (b w : Int), w = rWb L' → rKo T Sp M s0 s1 n (i + 1) c1 → (b = 0 ∨ b = 1) → (b = 1 → T i = 10006) → n + c1.length + (rFn L').length + b ≤ i + 1 → rWc0 L' → i < M → (∀ j s', F (i + 1) = .inl j → rKb Sp s0 s' j → Q none s') → (∀ j c' v, F (i + 1) = .inr (j, c', v) → ∃ t', (∀ j2 c2 v2 s', rLp T rhW rlW F f L' (c1 ++ c' ++ (if b = 0 then [] else [T i])) t' j = .inr (j2, c2, v2) → rKo T Sp M s0 s' n j2 c2 → Q none s') ∧ (∀ j2 s', rLp T rhW rlW F f L' (c1 ++ c' ++ (if b = 0 then [] else [T i])) t' j = .inl j2 → rKb Sp s0 s' j2 → Q none s')) → Yx (d + 4) cd73 0 Q 77 [vr 32, vi w, vi a3, vi b] [] s1 := by
      intro s1 L' c1 b w ew k1 hb hbT hlen hw' hiM qB qO
      subst ew
      have g1 := k1.2.1
      have pg := hPg (i + 1) (by omega) (by omega)
      refine b73_77 (hF _ s1 (i + 1) (n + c1.length) g1 (fun j c' v s2 e k2 => ⟨rfl, b73_81 ?_⟩) (fun j s2 e k2 => ⟨rfl, b73_81 ?_⟩))
      · obtain ⟨t', q1, q2⟩ := qO j c' v e
        have hq := pg.1 _ _ _ e
        have k3 := rKo_t k1 k2
        rcases hb with hb | hb
        · subst hb
          rw [if_pos rfl, List.append_nil] at q1 q2
          refine ⟨fun _ => ⟨by omega, c73l hF hPg f L' (c1 ++ c') t' j Q s0 s2 n (a3 + 1) (by omega) k3 ?_ (by omega) (by omega) hw' q1 q2⟩, fun z => absurd rfl z⟩
          rw [List.length_append]
          omega
        · subst hb
          rw [if_neg (by decide), hbT rfl] at q1 q2
          refine ⟨fun z => by omega, fun _ => ?_⟩
          refine c82o k3 (by rw [List.length_append]; omega) (fun s3 k4 => ⟨rfl, b73_95 ⟨by omega, c73l hF hPg f L' (c1 ++ c' ++ [10006]) t' j Q s0 s3 n (a3 + 1) (by omega) k4 ?_ (by omega) (by omega) hw' q1 q2⟩⟩)
          simp only [List.length_append, List.length_cons, List.length_nil]
          omega
      · have b2 := k2.2
        have kb : rKb Sp s0 s2 j := ⟨Fg_t k1.1 k2.1, b2⟩
        have fin : ∀ s3, rKb Sp s0 s3 j → Yx (d + 4) cd73 0 Q 8 [vr 32, vi (rWb L'), vi (a3 + 1), vt] [] s3 := by
          intro s3 kb3
          have b3 := kb3.2
          have ng : ∀ x : Int, ¬ (s3 32 1 = -1 ∧ s3 34 (s3 32 7) = x) := fun x y => b3.2.1 (b3.1.symm.trans y.1)
          exact b73_8 ⟨fun z => ⟨fun _ => qB j s3 e kb3, fun _ => c82b b3 (fun s4 f4 b4 => ⟨rfl, b73_115 (qB j s4 e ⟨Fg_t kb3.1 f4, b4⟩)⟩)⟩, fun _ => ⟨⟨b3.2.2.1, b3.2.2.2.1⟩, fun y => absurd y (ng _), fun _ => ⟨⟨b3.2.2.1, b3.2.2.2.1⟩, fun _ => ⟨fun _ => qB j s3 e kb3, fun _ => c82b b3 (fun s4 f4 b4 => ⟨rfl, b73_115 (qB j s4 e ⟨Fg_t kb3.1 f4, b4⟩)⟩)⟩, fun y => absurd y (ng _)⟩⟩⟩
        exact ⟨fun _ => ⟨by omega, fin s2 kb⟩, fun _ => c82b b2 (fun s3 f3 b3 => ⟨rfl, b73_95 ⟨by omega, fin s3 ⟨Fg_t kb.1 f3, b3⟩⟩⟩)⟩
    have hiM : ¬ T i = 30000 → i < M := fun z => by
      by_cases e : i = M
      · rw [e] at z
        exact absurd h1.2.2.1 z
      · omega
    by_cases hH : rhW (T i) = true
    · have hv : T i = 10006 := by unfold rhW at hH; simpa using hH
      rw [if_pos hH] at kO kB
      have go : ∀ w b : Int, w = rWb L → b = 1 → aEv (d + 3) true 71 [vr 32] s (fun r σ' => r = none ∧ Yx (d + 4) cd73 0 Q 77 [vr 32, vi w, vi a3, vi b] [] σ') := by
        rintro w b rfl rfl
        refine c71 hG (by omega) (fun s1 f1 g1 => ⟨rfl, next s1 L c 1 _ rfl (rKo_m hk f1 g1) (Or.inr rfl) (fun _ => hv) (by omega) hw (hiM (by omega)) (fun j s' e kb => ?_) (fun j c' v e => ⟨fun e => rJ (T i) (t e) (v e), ?_, ?_⟩)⟩)
        · rw [e] at kB
          exact kB j s' rfl kb
        · rw [e] at kO
          rw [if_neg (by decide)]
          exact kO
        · rw [e] at kB
          rw [if_neg (by decide)]
          exact kB
      refine b73_8 ⟨fun z => by omega, fun _ => ?_⟩
      rw [h3, hx.1, h6]
      clear kO kB next
      (repeat' first | with_reducible apply And.intro | with_reducible intro _)
      all_goals first
        | omega
        | exact go _ _ (by unfold bi; rw [if_neg (by omega), or32_0 hb01]) (by unfold bi; rw [if_pos (by omega)])
    rw [if_neg hH] at kO kB
    have hnH : ¬ T i = 10006 := by
      unfold rhW at hH
      simpa using hH
    by_cases hL : rlW (T i) = true
    · have hv : T i = 10005 := by unfold rlW at hL; simpa using hL
      rw [if_pos hL] at kO kB
      have go : ∀ (s1 : aW) (w b : Int), rKo T Sp M s0 s1 n i (c ++ rFn L) → w = 1 → b = 0 → aEv (d + 3) true 71 [vr 32] s1 (fun r σ' => r = none ∧ Yx (d + 4) cd73 0 Q 77 [vr 32, vi w, vi a3, vi b] [] σ') := by
        rintro s1 w b k1 rfl rfl
        refine c71 k1.2.1 (by omega) (fun s2 f2 g2 => ⟨rfl, next s2 (some (T i, rCb L t)) (c ++ rFn L) 0 _ rfl (rKo_m k1 f2 g2) (Or.inl rfl) (fun z => by omega) ?_ hv (hiM (by omega)) (fun j s' e kb => ?_) (fun j c' v e => ⟨v, ?_, ?_⟩)⟩)
        · rw [List.length_append]
          have : (rFn (some (T i, rCb L t))).length = 1 := rfl
          omega
        · rw [e] at kB
          exact kB j s' rfl kb
        · rw [e] at kO
          rw [if_pos rfl, List.append_nil]
          exact kO
        · rw [e] at kB
          rw [if_pos rfl, List.append_nil]
          exact kB
      have go0 : ∀ w b : Int, rWb L = 0 → w = 1 → b = 0 → aEv (d + 3) true 71 [vr 32] s (fun r σ' => r = none ∧ Yx (d + 4) cd73 0 Q 77 [vr 32, vi w, vi a3, vi b] [] σ') := fun w b z e1 e2 => go s w b (by rw [rFn_b0 z, List.append_nil]; exact hk) e1 e2
      have go1 : ∀ b : Int, ¬ rWb L = 0 → b = 0 → aEv (d + 3) true 82 [vr 36, vi 10005] s (fun r σ' => r = none ∧ Yx (d + 4) cd73 0 Q 61 [vr 32, vi (rWb L), vi a3, vi b] [] σ') := by
        rintro b z rfl
        rw [rFn_b1 hw z] at hl
        simp only [List.length_cons, List.length_nil] at hl
        refine c82o hk (by omega) (fun s1 k1 => ⟨rfl, b73_61 (go s1 _ _ (by rw [rFn_b1 hw z]; exact k1) (by unfold bi; rw [if_pos rfl, or32_1 hb01]) rfl)⟩)
      refine b73_8 ⟨fun z => by omega, fun _ => ?_⟩
      rw [h3, hx.1, h6]
      clear kO kB next go
      (repeat' first | with_reducible apply And.intro | with_reducible intro _)
      all_goals first
        | omega
        | exact go0 _ _ (by assumption) (by unfold bi; rw [if_pos (by omega), or32_1 hb01]) (by unfold bi; rw [if_neg (by omega)])
        | exact go1 _ (by assumption) (by unfold bi; rw [if_neg (by omega)])
    · rw [if_neg hL] at kO
      have hnL : ¬ T i = 10005 := by
        unfold rlW at hL
        simpa using hL
      have e0 : rWb L = 0 → Q none s := fun z => kO i _ _ s rfl (by rw [rFn_b0 z, List.append_nil]; exact hk)
      have e1 : ¬ rWb L = 0 → aEv (d + 3) true 82 [vr 36, vi 10005] s (fun r σ' => r = none ∧ Yx (d + 4) cd73 0 Q 115 [vt, vt, vt, vt] [] σ') := fun z => by
        rw [rFn_b1 hw z] at hl
        simp only [List.length_cons, List.length_nil] at hl
        exact c82o hk (by omega) (fun s1 k1 => ⟨rfl, b73_115 (kO i _ _ s1 rfl (by rw [rFn_b1 hw z]; exact k1))⟩)
      refine b73_8 ⟨fun z => by omega, fun _ => ?_⟩
      rw [h3, hx.1, h6]
      clear kO kB next
      (repeat' first | with_reducible apply And.intro | with_reducible intro _)
      all_goals first
        | omega
        | exact e0 (by assumption)
        | exact e1 (by assumption)
theorem c73 {d : Nat} {T Sp : Int → Int} {M : Int} (hT : rT T M) : rSpS (d + 20) 73 T Sp M (rWhen T) [vr 32] := by
  intro Q s i n hG kO kB
  have hF : rSpS (d + 16 + 3) 74 T Sp M (rCond T) [vr 32] := c74 (d := d) hT
  have hPg := rCond_pg hT
  have h4 := hG.2.2.2.1
  have h5 := hG.2.2.2.2.1
  have hM := hG.1.2.1
  unfold rWhen rTwo at kO kB
  have pg := hPg i h4 h5
  refine e73 (d := d + 16) (b73_0 (hF _ s i n hG (fun j c v s1 e k1 => ⟨rfl, b73_6 ?_⟩) (fun j s1 e k1 => ⟨rfl, b73_6 ?_⟩)))
  · rw [e] at kO kB
    have hq := pg.1 _ _ _ e
    refine c73l hF hPg 400 none c v j Q s s1 n 0 (by omega) k1 ?_ (Int.le_refl _) (by omega) trivial kO kB
    show n + c.length + ((0 : Nat) : Int) ≤ j
    have := k1.2.1.2.2.2.2.2.2.2.2
    omega
  · rw [e] at kB
    have b3 := k1.2
    have ng : ∀ x : Int, ¬ (s1 32 1 = -1 ∧ s1 34 (s1 32 7) = x) := fun x y => b3.2.1 (b3.1.symm.trans y.1)
    exact b73_8 ⟨fun z => by omega, fun _ => ⟨⟨b3.2.2.1, b3.2.2.2.1⟩, fun y => absurd y (ng _), fun _ => ⟨⟨b3.2.2.1, b3.2.2.2.1⟩, fun _ => ⟨fun _ => kB j s1 rfl k1, fun z => absurd rfl z⟩, fun y => absurd y (ng _)⟩⟩⟩
end
