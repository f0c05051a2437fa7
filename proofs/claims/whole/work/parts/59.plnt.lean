section
/-! plan -/
/-- the store and the planned levels are at most so many whole steps -/
def ILv (σ : aW) : Prop := σ 120 2533 ≤ (σ 96 12 / σ 96 13) * σ 96 13 ∧ (σ 96 44 = 1 → ∀ k, 0 ≤ k → k < σ 96 43 → σ 125 k ≤ (σ 96 12 / σ 96 13) * σ 96 13)
theorem t_plan {σ : aW} {a1 : Int} (hP : IPl σ) (hS : ISt 63 σ) (hD : IDp σ) (hB : IBo σ) (hO : IOf σ) (hL : ILv σ) (h5 : σ 120 2532 ≤ 5000) : aEv 59 true 129 [vr 0, vi a1] σ (fun r s => aEv 59 true 232 [vr 96, vi a1] s (Tp (fun t => IDp t ∧ ILv t) [52, 53, 54, 55, 125, 145] [(45, 3), (45, 4), (45, 5), (51, 2), (51, 3), (51, 5), (96, 0), (96, 42), (96, 43), (96, 44)] σ r)) := by
  have hr : ∀ r : Option aV, Tp (fun t => IDp t ∧ ILv t) [52, 53, 54, 55, 125, 145] [(45, 3), (45, 4), (45, 5), (51, 2), (51, 3), (51, 5), (96, 0), (96, 42), (96, 43), (96, 44)] σ r r (sw σ 96 (fu (σ 96) 0 0)) := fun r => ⟨rfl, ⟨hD, hL⟩, Fg_f Fg_r (by decide)⟩
  have hc := hS.2.1
  unfold Sc at hc
  have hD' := hD
  obtain ⟨d1, d2, d3, d4, d5, d6, d7, d8, d9, d10, d11, d12, d13, d14, d15, d16⟩ := hD'
  refine e129 (b129_0 ?_)
  by_cases h1 : 0 ≤ a1 ∧ a1 ≤ 3
  · have hp := hP a1 (by omega) (by omega)
    by_cases h2 : σ 86 a1 = -1
    · refine ⟨fun z => ?_, fun _ => ?_⟩
      · rw [if_pos h1, if_pos h2] at z
        omega
      · rw [if_pos h1, if_pos h2]
        refine e232 (b232_0 ?_)
        (repeat' first | with_reducible apply And.intro | with_reducible intro _)
        all_goals first | omega | exact hr _
    · rcases hp with z | ⟨p1, p2, p3, p4, p5, p6, p7⟩
      · exact absurd z.1 h2
      refine ⟨fun _ => ⟨by omega, fun h3 => ?_, fun h3 => ?_⟩, fun z => absurd (by rw [if_pos h1, if_neg h2]) z⟩
      · have mdl : ∀ (r : Option aV) (s : aW), Fg [52, 53, 54, 55] [(45, 3), (45, 4), (45, 5), (51, 2), (51, 3), (51, 5)] σ s → ((∀ j, 0 ≤ j → j < σ 98 a1 → 0 ≤ σ 99 (60 * a1 + j) ∧ σ 99 (60 * a1 + j) ≤ 800000) → Yx 59 cd232 2 (Tp (fun t => IDp t ∧ ILv t) [52, 53, 54, 55, 125, 145] [(45, 3), (45, 4), (45, 5), (51, 2), (51, 3), (51, 5), (96, 0), (96, 42), (96, 43), (96, 44)] σ r) 62 [vr 96, vi a1, vt, vt, vt, vt, vt, vt, vt, vt, vt, vt, vt] [vi 1] (sw s 96 (fu (s 96) 0 0))) → (∀ j, 0 ≤ j → j < σ 98 a1 → ¬ (0 ≤ σ 99 (60 * a1 + j) ∧ σ 99 (60 * a1 + j) ≤ 800000) → Yx 59 cd232 2 (Tp (fun t => IDp t ∧ ILv t) [52, 53, 54, 55, 125, 145] [(45, 3), (45, 4), (45, 5), (51, 2), (51, 3), (51, 5), (96, 0), (96, 42), (96, 43), (96, 44)] σ r) 62 [vr 96, vi a1, vt, vt, vt, vt, vt, vt, vt, vt, vt, vt, vt] [vi 0] (sw s 96 (fu (s 96) 0 0))) → aEv 59 true 232 [vr 96, vi a1] s (Tp (fun t => IDp t ∧ ILv t) [52, 53, 54, 55, 125, 145] [(45, 3), (45, 4), (45, 5), (51, 2), (51, 3), (51, 5), (96, 0), (96, 42), (96, 43), (96, 44)] σ r) := by
          intro r s s1 k1 k0
          have z97 : s 97 = σ 97 := Fg_k s1 rfl rfl
          have z98 : s 98 = σ 98 := Fg_k s1 rfl rfl
          have z99 : s 99 = σ 99 := Fg_k s1 rfl rfl
          refine e232 (b232_0 ?_)
          rw [z97, z98]
          refine ⟨fun _ => ⟨by omega, fun _ => ⟨by omega, fun z => by omega, fun _ => ⟨by omega, fun _ => ?_, fun z => by omega⟩⟩, fun z => by omega⟩, fun z => absurd h1 z⟩
          refine c160 (d := 57) h1.1 (by omega) ?_ (fun hall => ⟨_, rfl, k1 ?_⟩) (fun j j0 j1 hj => ⟨_, rfl, k0 j j0 ?_ ?_⟩)
          · rw [sw_n (by decide), z98]
            omega
          · rw [sw_n (by decide), sw_n (by decide), z98, z99] at hall
            exact hall
          · rw [sw_n (by decide), z98] at j1
            exact j1
          · rw [sw_n (by decide), z99] at hj
            exact hj
        refine c55 (d := 57) h1.1 (by omega) (by omega) (fun hall => ⟨_, rfl, b129_52_1 ⟨fun _ => ?_, fun z => by omega⟩⟩) (fun j j0 j1 hj => ⟨_, rfl, b129_52_1 ⟨fun z => absurd rfl z, fun _ => ?_⟩⟩)
        · have hv : ∀ j, 0 ≤ j → j < σ 98 a1 → σ 88 (60 * a1 + j) = σ 99 (60 * a1 + j) ∧ 0 ≤ σ 99 (60 * a1 + j) ∧ σ 99 (60 * a1 + j) ≤ 800000 := fun j j0 j1 => by
            have a := p7 j j0 j1
            have b := hall j j0 (by omega)
            rw [a] at b
            exact ⟨a, b⟩
          have q2 : σ 120 2533 / σ 96 13 ≤ σ 96 12 / σ 96 13 := Int.ediv_le_of_le_mul (by omega) hL.1
          have q0 : 0 ≤ σ 120 2533 / σ 96 13 := Int.ediv_nonneg (by omega) (by omega)
          refine c99 (d := 55) hB hO hD (by omega) p1 (by omega) hv (by omega) (by omega) q2 (fun hy s s1 s2 => ⟨_, rfl, b129_75_1 ?_⟩) (fun hy s s1 s2 s3 s4 s5 => ⟨_, rfl, b129_75_1 ?_⟩)
          · refine mdl _ s (Fg_m s1 (by decide) (by decide)) (fun hq => b232_62_1 ⟨fun _ => ?_, fun z => by omega⟩) (fun j j0 j1 hj => absurd (hv j j0 j1).2 hj)
            have f0 : Fg [52, 53, 54, 55, 125, 145] [(45, 3), (45, 4), (45, 5), (51, 2), (96, 0), (96, 44)] σ (sw s 96 (fu (s 96) 0 0)) := Fg_f (Fg_m s1 (by decide) (by decide)) (by decide)
            have z98 : (sw s 96 (fu (s 96) 0 0)) 98 = σ 98 := by rw [sw_n (by decide)]; exact Fg_k s1 rfl rfl
            rw [z98, f0 96 12 (by decide) (by decide), f0 96 13 (by decide) (by decide)]
            refine ⟨by omega, by omega, ?_⟩
            refine c232 (Fg_m f0 (by decide) (by decide)) hB hO hD (by omega) (by omega) hq (by omega) (by omega) q2 (fun _ t t1 t2 => ?_) (fun z => by omega)
            have fa : Fg [53, 54, 55, 145] [(45, 3), (45, 4), (45, 5), (51, 2), (96, 0), (96, 44)] σ t := Fg_t (Fg_f (Fg_m s1 (by decide) (by decide)) (by decide)) (Fg_m t1 (by decide) (by decide))
            have e2 : t 51 2 = 0 := by rw [t1 51 2 (by decide) (by decide), sw_n (by decide)]; exact s2
            refine ⟨rfl, ⟨?_, ?_⟩, Fg_m fa (by decide) (by decide)⟩
            · unfold IDp
              rw [fa 51 0 (by decide) (by decide), fa 51 1 (by decide) (by decide), e2, t2, fa 51 3 (by decide) (by decide), fa 51 5 (by decide) (by decide), fa 96 12 (by decide) (by decide), fa 96 13 (by decide) (by decide), fa 96 43 (by decide) (by decide), fa 96 42 (by decide) (by decide), Fg_k fa (k := 52) rfl rfl, Fg_k fa (k := 125) rfl rfl]
              exact ⟨d1, d2, d3, d4, d5, d6, d7, rfl, Or.inl rfl, d10, d11, d12, d13, d14, d15, d16⟩
            · unfold ILv
              rw [t2, fa 120 2533 (by decide) (by decide), fa 96 12 (by decide) (by decide), fa 96 13 (by decide) (by decide)]
              exact ⟨hL.1, fun z => by omega⟩
          · refine mdl _ s s1 (fun hq => b232_62_1 ⟨fun _ => ?_, fun z => by omega⟩) (fun j j0 j1 hj => absurd (hv j j0 j1).2 hj)
            have f0 : Fg [52, 53, 54, 55, 125, 145] [(45, 3), (45, 4), (45, 5), (51, 2), (51, 3), (51, 5), (96, 0), (96, 42), (96, 43), (96, 44)] σ (sw s 96 (fu (s 96) 0 0)) := Fg_f (Fg_m s1 (by decide) (by decide)) (by decide)
            have z98 : (sw s 96 (fu (s 96) 0 0)) 98 = σ 98 := by rw [sw_n (by decide)]; exact Fg_k s1 rfl rfl
            rw [z98, f0 96 12 (by decide) (by decide), f0 96 13 (by decide) (by decide)]
            refine ⟨by omega, by omega, ?_⟩
            refine c232 f0 hB hO hD (by omega) (by omega) hq (by omega) (by omega) q2 (fun z => by omega) (fun _ t t1 t2 t3 t4 t5 => ?_)
            have fa : Fg [52, 53, 54, 55, 125, 145] [(45, 3), (45, 4), (45, 5), (51, 2), (51, 3), (51, 5), (96, 0), (96, 42), (96, 43), (96, 44)] σ t := Fg_t f0 (Fg_m t1 (by decide) (by decide))
            have e2 : t 51 2 = 1 := by rw [t1 51 2 (by decide) (by decide), sw_n (by decide)]; exact s2
            have e3 : t 51 3 = σ 98 a1 := by rw [t1 51 3 (by decide) (by decide), sw_n (by decide)]; exact s3
            have e5 : t 51 5 = σ 120 2532 := by rw [t1 51 5 (by decide) (by decide), sw_n (by decide)]; exact s4
            have e52 : t 52 = s 52 := by rw [Fg_k t1 rfl rfl, sw_n (by decide)]
            have lv : ∀ k, 0 ≤ k → k < σ 98 a1 → t 52 k = t 125 k ∧ 0 ≤ t 125 k ∧ t 125 k ≤ σ 96 12 / σ 96 13 * σ 96 13 := fun k k0 k1 => by
              have pb := pL_b (c := cF σ a1) (T := cT σ) (n := σ 98 a1) (l := σ 120 2533 / σ 96 13) q0 (by unfold cT; omega) (k + 1).toNat
              rw [e52, s5 k k0 k1, t5 k k0 k1, Int.mul_comm (σ 96 13)]
              refine ⟨rfl, Int.mul_nonneg pb.1 (by omega), Int.mul_le_mul_of_nonneg_right ?_ (by omega)⟩
              unfold cT at *
              omega
            have sb := Int.ediv_mul_le (σ 96 12) (show σ 96 13 ≠ 0 by omega)
            refine ⟨rfl, ⟨?_, ?_⟩, fa⟩
            · unfold IDp
              rw [fa 51 0 (by decide) (by decide), fa 51 1 (by decide) (by decide), e2, t2, e3, t3, e5, t4, fa 96 12 (by decide) (by decide), fa 96 13 (by decide) (by decide)]
              exact ⟨d1, d2, d3, d4, d5, d6, d7, rfl, Or.inr rfl, rfl, by omega, by omega, rfl, by omega, h5, fun k k0 k1 => ⟨(lv k k0 k1).1, (lv k k0 k1).2.1, by have := (lv k k0 k1).2.2; omega⟩⟩
            · unfold ILv
              rw [t2, t3, fa 120 2533 (by decide) (by decide), fa 96 12 (by decide) (by decide), fa 96 13 (by decide) (by decide)]
              exact ⟨hL.1, fun _ k k0 k1 => (lv k k0 k1).2.2⟩
        · refine mdl _ σ Fg_r (fun hq => absurd (hq j j0 (by omega)) (by rw [← p7 j j0 (by omega)]; exact hj)) (fun _ _ _ _ => b232_62_1 ⟨fun z => absurd rfl z, fun _ => hr _⟩)
      · refine e232 (b232_0 ?_)
        (repeat' first | with_reducible apply And.intro | with_reducible intro _)
        all_goals first | omega | exact hr _
  · refine ⟨fun z => ?_, fun _ => ?_⟩
    · rw [if_neg h1] at z
      omega
    · rw [if_neg h1]
      refine e232 (b232_0 ?_)
      (repeat' first | with_reducible apply And.intro | with_reducible intro _)
      all_goals first | omega | exact hr _
end
