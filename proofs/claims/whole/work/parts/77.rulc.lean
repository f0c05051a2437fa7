section
/-! rules: the component's loops -/
def rWt (L : Option (Int × rV)) : Int := match L with
  | none => -1
  | some (o, _) => o
def rWo (L : Option (Int × rV)) : Prop := match L with
  | none => True
  | some (o, _) => ¬ o = -1
theorem rFn_0 {L : Option (Int × rV)} (h : rWo L) (z : rWt L = -1) : rFn L = [] := by
  cases L with
  | none => rfl
  | some p => exact absurd z h
theorem rFn_1 {L : Option (Int × rV)} (z : ¬ rWt L = -1) : rFn L = [rWt L] := by
  cases L with
  | none => exact absurd rfl z
  | some p => rfl
theorem c75l {d : Nat} {T Sp : Int → Int} {M : Int} {F : Int → rO} {a : Int} (hF : rSpS (d + 1) 76 T Sp M F [vr 32, vi a]) (hPg : rPg M F) : ∀ (f : Nat) (L : Option (Int × rV)) (c : List Int) (t : rV) (i : Int) (Q : aQ) (s0 s : aW) (n a3 : Int), M - i < f → rKo T Sp M s0 s n i c → n + c.length + (rFn L).length ≤ i → 0 ≤ a3 → a3 + 1 ≤ i → rWo L → (∀ j c' v s', rLp T rhS rlS F f L c t i = .inr (j, c', v) → rKo T Sp M s0 s' n j c' → Q none s') → (∀ j s', rLp T rhS rlS F f L c t i = .inl j → rKb Sp s0 s' j → Q none s') → Yx (d + 2) cd75 0 Q 9 [vr 32, vi a, vi (rWt L), vi a3, vt, vt] [] s
  | 0, L, c, t, i, Q, s0, s, n, a3, hf, hk, _, _, _, _, _, _ => by
    have := hk.2.1.2.2.2.2.1
    omega
  | f + 1, L, c, t, i, Q, s0, s, n, a3, hf, hk, hl, a0, a1, hw, kO, kB => by
    have hG := hk.2.1
    have hG' := hG
    obtain ⟨h1, h2, h3, h4, h5, h6, h7, h8, h9⟩ := hG'
    have hM := h1.2.1
    have hx := h2 i h4 h5
    unfold rLp at kO kB
    have next : ∀ (s1 : aW) (L' : Option (Int × rV)) (c1 : List Int) (b : Int), rKo T Sp M s0 s1 n (i + 1) c1 → (b = 0 ∨ b = 1) → n + c1.length + (rFn L').length + b ≤ i + 1 → rWo L' → i < M → (∀ j s', F (i + 1) = .inl j → rKb Sp s0 s' j → Q none s') → (∀ j c' v, F (i + 1) = .inr (j, c', v) → ∃ t', (∀ j2 c2 v2 s', rLp T rhS rlS F f L' (c1 ++ c' ++ (if b = 0 then [] else [T i])) t' j = .inr (j2, c2, v2) → rKo T Sp M s0 s' n j2 c2 → Q none s') ∧ (∀ j2 s', rLp T rhS rlS F f L' (c1 ++ c' ++ (if b = 0 then [] else [T i])) t' j = .inl j2 → rKb Sp s0 s' j2 → Q none s')) → Yx (d + 2) cd75 0 Q 122 [vr 32, vi a, vi (rWt L'), vi a3, vi (T i), vi b] [] s1 := by
      intro s1 L' c1 b k1 hb hlen hw' hiM qB qO
      have g1 := k1.2.1
      have pg := hPg (i + 1) (by omega) (by omega)
      refine b75_122 (hF _ s1 (i + 1) (n + c1.length) g1 (fun j c' v s2 e k2 => ⟨rfl, b75_127 ?_⟩) (fun j s2 e k2 => ⟨rfl, b75_127 ?_⟩))
      · obtain ⟨t', q1, q2⟩ := qO j c' v e
        have hq := pg.1 _ _ _ e
        have k3 := rKo_t k1 k2
        rcases hb with hb | hb
        · subst hb
          rw [if_pos rfl, List.append_nil] at q1 q2
          refine ⟨fun _ => ⟨by omega, c75l hF hPg f L' (c1 ++ c') t' j Q s0 s2 n (a3 + 1) (by omega) k3 ?_ (by omega) (by omega) hw' q1 q2⟩, fun z => absurd rfl z⟩
          rw [List.length_append]
          omega
        · subst hb
          rw [if_neg (by decide)] at q1 q2
          refine ⟨fun z => by omega, fun _ => ?_⟩
          refine c82o k3 (by rw [List.length_append]; omega) (fun s3 k4 => ⟨rfl, b75_141 ⟨by omega, c75l hF hPg f L' (c1 ++ c' ++ [T i]) t' j Q s0 s3 n (a3 + 1) (by omega) k4 ?_ (by omega) (by omega) hw' q1 q2⟩⟩)
          simp only [List.length_append, List.length_cons, List.length_nil]
          omega
      · have b2 := k2.2
        have kb : rKb Sp s0 s2 j := ⟨Fg_t k1.1 k2.1, b2⟩
        have fin : ∀ s3, rKb Sp s0 s3 j → Yx (d + 2) cd75 0 Q 9 [vr 32, vi a, vi (rWt L'), vi (a3 + 1), vt, vt] [] s3 := by
          intro s3 kb3
          have b3 := kb3.2
          have ng : ∀ x : Int, ¬ (s3 32 1 = -1 ∧ s3 34 (s3 32 7) = x) := fun x y => b3.2.1 (b3.1.symm.trans y.1)
          refine b75_9 ⟨fun z => ⟨fun _ => qB j s3 e kb3, fun _ => c82b b3 (fun s4 f4 b4 => ⟨rfl, b75_160 (qB j s4 e ⟨Fg_t kb3.1 f4, b4⟩)⟩)⟩, fun _ => ⟨⟨b3.2.2.1, b3.2.2.2.1⟩, by omega, fun y => absurd y (ng _), fun _ => ⟨⟨b3.2.2.1, b3.2.2.2.1⟩, by omega, fun y => absurd y (ng _), fun _ => ⟨⟨b3.2.2.1, b3.2.2.2.1⟩, by omega, fun y => absurd y (ng _), fun _ => ⟨⟨b3.2.2.1, b3.2.2.2.1⟩, by omega, fun _ => ⟨fun _ => qB j s3 e kb3, fun _ => c82b b3 (fun s4 f4 b4 => ⟨rfl, b75_160 (qB j s4 e ⟨Fg_t kb3.1 f4, b4⟩)⟩)⟩, fun y => absurd y (ng _)⟩⟩⟩⟩⟩
        refine ⟨fun _ => ⟨by omega, fin s2 kb⟩, fun _ => c82b b2 (fun s3 f3 b3 => ⟨rfl, b75_141 ⟨by omega, fin s3 ⟨Fg_t kb.1 f3, b3⟩⟩⟩)⟩
    have hiM : ¬ T i = 30000 → i < M := fun z => by
      by_cases e : i = M
      · rw [e] at z
        exact absurd h1.2.2.1 z
      · omega
    by_cases hH : rhS (T i) = true
    · have hv : T i = 20042 ∨ T i = 20047 := by unfold rhS at hH; simp at hH; exact hH
      rw [if_pos hH] at kO kB
      have go : ∀ w b : Int, w = rWt L → b = 1 → aEv (d + 1) true 71 [vr 32] s (fun r σ' => r = none ∧ Yx (d + 2) cd75 0 Q 122 [vr 32, vi a, vi w, vi a3, vi (T i), vi b] [] σ') := by
        rintro w b rfl rfl
        refine c71 hG (by omega) (fun s1 f1 g1 => ⟨rfl, next s1 L c 1 (rKo_m hk f1 g1) (Or.inr rfl) (by omega) hw (hiM (by omega)) (fun j s' e kb => ?_) (fun j c' v e => ⟨fun e => rJ (T i) (t e) (v e), ?_, ?_⟩)⟩)
        · rw [e] at kB
          exact kB j s' rfl kb
        · rw [e] at kO
          rw [if_neg (by decide)]
          exact kO
        · rw [e] at kB
          rw [if_neg (by decide)]
          exact kB
      refine b75_9 ⟨fun z => by omega, fun _ => ?_⟩
      rw [h3, hx.1, h6]
      clear kO kB next
      (repeat' first | with_reducible apply And.intro | with_reducible intro _)
      all_goals first
        | omega
        | exact go _ _ rfl rfl
        | exact go _ _ (by rw [if_neg (by omega)]) (by unfold bi; rw [if_pos (by omega)])
    rw [if_neg hH] at kO kB
    have hnH : ¬ T i = 20042 ∧ ¬ T i = 20047 := by
      unfold rhS at hH
      simp at hH
      exact hH
    by_cases hL : rlS (T i) = true
    · have hv : T i = 20043 ∨ T i = 20045 := by unfold rlS at hL; simp at hL; exact hL
      rw [if_pos hL] at kO kB
      have go : ∀ (s1 : aW) (w b : Int), rKo T Sp M s0 s1 n i (c ++ rFn L) → w = T i → b = 0 → aEv (d + 1) true 71 [vr 32] s1 (fun r σ' => r = none ∧ Yx (d + 2) cd75 0 Q 122 [vr 32, vi a, vi w, vi a3, vi (T i), vi b] [] σ') := by
        rintro s1 w b k1 rfl rfl
        refine c71 k1.2.1 (by omega) (fun s2 f2 g2 => ⟨rfl, next s2 (some (T i, rCb L t)) (c ++ rFn L) 0 (rKo_m k1 f2 g2) (Or.inl rfl) ?_ (by show ¬ T i = -1; omega) (hiM (by omega)) (fun j s' e kb => ?_) (fun j c' v e => ⟨v, ?_, ?_⟩)⟩)
        · rw [List.length_append]
          have : (rFn (some (T i, rCb L t))).length = 1 := rfl
          omega
        · rw [e] at kB
          exact kB j s' rfl kb
        · rw [e] at kO
          rw [if_pos rfl, List.append_nil]
          exact kO
        · rw [e] at kB
          rw [if_pos rfl, List.append_nil]
          exact kB
      have go0 : ∀ w b : Int, rWt L = -1 → w = T i → b = 0 → aEv (d + 1) true 71 [vr 32] s (fun r σ' => r = none ∧ Yx (d + 2) cd75 0 Q 122 [vr 32, vi a, vi w, vi a3, vi (T i), vi b] [] σ') := fun w b z e1 e2 => go s w b (by rw [rFn_0 hw z, List.append_nil]; exact hk) e1 e2
      have go1 : ∀ b : Int, ¬ rWt L = -1 → b = 0 → aEv (d + 1) true 82 [vr 36, vi (rWt L)] s (fun r σ' => r = none ∧ Yx (d + 2) cd75 0 Q 106 [vr 32, vi a, vi (rWt L), vi a3, vi (T i), vi b] [] σ') := by
        rintro b z rfl
        rw [rFn_1 z] at hl
        simp only [List.length_cons, List.length_nil] at hl
        refine c82o hk (by omega) (fun s1 k1 => ⟨rfl, b75_106 (go s1 _ _ (by rw [rFn_1 z]; exact k1) (by rw [if_pos rfl]) rfl)⟩)
      refine b75_9 ⟨fun z => by omega, fun _ => ?_⟩
      rw [h3, hx.1, h6]
      clear kO kB next go
      (repeat' first | with_reducible apply And.intro | with_reducible intro _)
      all_goals first
        | omega
        | exact go0 _ _ (by assumption) (by rw [if_pos (by omega)]) (by unfold bi; rw [if_neg (by omega)])
        | exact go1 _ (by assumption) (by unfold bi; rw [if_neg (by omega)])
    · rw [if_neg hL] at kO
      have hnL : ¬ T i = 20043 ∧ ¬ T i = 20045 := by
        unfold rlS at hL
        simp at hL
        exact hL
      have e0 : rWt L = -1 → Q none s := fun z => kO i _ _ s rfl (by rw [rFn_0 hw z, List.append_nil]; exact hk)
      have e1 : ¬ rWt L = -1 → aEv (d + 1) true 82 [vr 36, vi (rWt L)] s (fun r σ' => r = none ∧ Yx (d + 2) cd75 0 Q 160 [vt, vt, vt, vt, vt, vt] [] σ') := fun z => by
        rw [rFn_1 z] at hl
        simp only [List.length_cons, List.length_nil] at hl
        exact c82o hk (by omega) (fun s1 k1 => ⟨rfl, b75_160 (kO i _ _ s1 rfl (by rw [rFn_1 z]; exact k1))⟩)
      refine b75_9 ⟨fun z => by omega, fun _ => ?_⟩
      rw [h3, hx.1, h6]
      clear kO kB next
      (repeat' first | with_reducible apply And.intro | with_reducible intro _)
      all_goals first
        | omega
        | exact e0 (by assumption)
        | exact e1 (by assumption)
theorem c75t {d : Nat} {T Sp : Int → Int} {M : Int} {F : Int → rO} {a : Int} (hF : rSpS (d + 1) 76 T Sp M F [vr 32, vi a]) (hPg : rPg M F) : rSpS (d + 2) 75 T Sp M (rTwo T rhS rlS F) [vr 32, vi a] := by
  intro Q s i n hG kO kB
  have h4 := hG.2.2.2.1
  have h5 := hG.2.2.2.2.1
  have hM := hG.1.2.1
  unfold rTwo at kO kB
  have pg := hPg i h4 h5
  refine e75 (b75_0 (hF _ s i n hG (fun j c v s1 e k1 => ⟨rfl, b75_7 ?_⟩) (fun j s1 e k1 => ⟨rfl, b75_7 ?_⟩)))
  · rw [e] at kO kB
    have hq := pg.1 _ _ _ e
    refine c75l hF hPg 400 none c v j Q s s1 n 0 (by omega) k1 ?_ (Int.le_refl _) (by omega) trivial kO kB
    show n + c.length + ((0 : Nat) : Int) ≤ j
    have := k1.2.1.2.2.2.2.2.2.2.2
    omega
  · rw [e] at kB
    have b3 := k1.2
    have ng : ∀ x : Int, ¬ (s1 32 1 = -1 ∧ s1 34 (s1 32 7) = x) := fun x y => b3.2.1 (b3.1.symm.trans y.1)
    exact b75_9 ⟨fun z => by omega, fun _ => ⟨⟨b3.2.2.1, b3.2.2.2.1⟩, by omega, fun y => absurd y (ng _), fun _ => ⟨⟨b3.2.2.1, b3.2.2.2.1⟩, by omega, fun y => absurd y (ng _), fun _ => ⟨⟨b3.2.2.1, b3.2.2.2.1⟩, by omega, fun y => absurd y (ng _), fun _ => ⟨⟨b3.2.2.1, b3.2.2.2.1⟩, by omega, fun _ => ⟨fun _ => kB j s1 rfl k1, fun z => absurd rfl z⟩, fun y => absurd y (ng _)⟩⟩⟩⟩⟩
theorem c75 {T Sp : Int → Int} {M : Int} (hT : rT T M) : ∀ (k d : Nat), (k : Int) ≤ 8 → rSpS (d + (2 * k + 2)) 75 T Sp M (rSum T k) [vr 32, vi (8 - k)]
  | 0, d, _ => c75t (d := d) (c76 (fun z => by cases z) ⟨fun z => (by cases z), fun z => by omega⟩ ⟨by omega, by omega⟩ (fun z => by cases z)) (rFac_pg hT (fun z => by cases z))
  | k + 1, d, h => by
    have ih := c75 (Sp := Sp) hT k d (by omega)
    have e : (8 : Int) - ((k + 1 : Nat) : Int) + 1 = 8 - k := by omega
    exact c75t (d := d + (2 * k + 2)) (c76 (fun _ => by rw [e]; exact ih) ⟨fun _ => by omega, fun _ => rfl⟩ ⟨by omega, by omega⟩ (fun _ => rSum_pg hT k)) (rFac_pg hT (fun _ => rSum_pg hT k))
end
