section
/-! the loop of the law -/
theorem Inv_u {σ : aW} {i : Int} (h : Inv i σ) : Inv (i + 8) σ := by
  obtain ⟨v1, v2, v3⟩ := h
  refine ⟨v1, ?_, v3⟩
  unfold iV at *
  omega
theorem l_loop {sx : Int → Int} {sL : Int} (hx : ∀ j, r32 (sx j)) (g0 : 0 ≤ sL) (g1 : sL ≤ 4096) : ∀ (m : Nat) (i : Int) (σ : aW), (sL - i).toNat ≤ m → 0 ≤ i → i ≤ 4104 → Inv i σ → σ 1200 = sx → σ 9999 2 = sL → Yx (0 + 60) cd276 3 (fun r _ => r = some (vi 1)) 18 [vr 1200, vr 0, vr 96, vi i] [] σ := by
  intro m
  induction m with
  | zero =>
    intro i σ hm h0 h4 hv e1 e2
    exact b276_18 ⟨by omega, fun _ => rfl, fun z => by omega⟩
  | succ m ih =>
    intro i σ hm h0 h4 hv e1 e2
    refine b276_18 ⟨by omega, fun _ => rfl, fun z => ?_⟩
    have hk : ∀ t, Inv (i + 8) t → Ag σ t → Yx (0 + 60) cd276 3 (fun r _ => r = some (vi 1)) 1544 [vr 1200, vr 0, vr 96, vi i] [] t := fun t ht ag => b276_1544 ⟨by omega, ih (i + 8) t (by omega) (by omega) (by omega) ht (by rw [ag.1, e1]) (by rw [ag.2, e2])⟩
    have hx2 : ∀ j, r32 (σ 1200 j) := fun j => by rw [e1]; exact hx j
    have h1 : i + 8 ≤ σ 9999 2 := by omega
    have h2 : σ 9999 2 ≤ 4096 := by omega
    exact ⟨by omega, ⟨fun _ => lwc_terms hv h0 h1 h2 hx2 hk, fun _ => ⟨fun _ => lwc_node hv h0 h1 h2 hx2 hk, fun _ => ⟨fun _ => lwc_pipe hv h0 h1 h2 hx2 hk, fun _ => ⟨fun _ => lwc_house hv h0 h1 h2 hx2 hk, fun _ => ⟨fun _ => lwc_valve hv h0 h1 h2 hx2 hk, fun _ => ⟨fun _ => lwc_burst hv h0 h1 h2 hx2 hk, fun _ => ⟨fun _ => lwc_air hv h0 h1 h2 hx2 hk, fun _ => ⟨fun _ => lwc_boiler hv h0 h1 h2 hx2 hk, fun _ => ⟨fun _ => lwc_store hv h0 h1 h2 hx2 hk, fun _ => ⟨fun _ => lwc_mill hv h0 h1 h2 hx2 hk, fun _ => ⟨fun _ => lwc_feed hv h0 h1 h2 hx2 hk, fun _ => ⟨fun _ => lwc_end hv h0 h1 h2 hx2 hk, fun _ => ⟨fun _ => lwc_rules hv h0 h1 h2 hx2 hk, fun _ => ⟨fun _ => lwc_fault hv h0 h1 h2 hx2 hk, fun _ => ⟨fun _ => lwc_go hv h0 h1 h2 hx2 hk, fun _ => ⟨fun _ => lwc_ahead hv h0 h1 h2 hx2 hk, fun _ => ⟨fun _ => lwc_aheadOf hv h0 h1 h2 hx2 hk, fun _ => ⟨fun _ => lwc_flow hv h0 h1 h2 hx2 hk, fun _ => ⟨fun _ => lwc_gets hv h0 h1 h2 hx2 hk, fun _ => ⟨fun _ => lwc_would hv h0 h1 h2 hx2 hk, fun _ => ⟨fun _ => lwc_cut hv h0 h1 h2 hx2 hk, fun _ => ⟨fun _ => lwc_isolate hv h0 h1 h2 hx2 hk, fun _ => ⟨fun _ => lwc_plan hv h0 h1 h2 hx2 hk, fun _ => ⟨fun _ => lwc_planned hv h0 h1 h2 hx2 hk, fun _ => ⟨fun _ => lwc_meter hv h0 h1 h2 hx2 hk, fun _ => ⟨fun _ => lwc_leak hv h0 h1 h2 hx2 hk, fun _ => ⟨fun _ => lwc_unit hv h0 h1 h2 hx2 hk, fun _ => ⟨fun _ => lwc_houseOf hv h0 h1 h2 hx2 hk, fun _ => ⟨fun _ => lwc_sums hv h0 h1 h2 hx2 hk, fun _ => ⟨fun _ => lwc_pipeOf hv h0 h1 h2 hx2 hk, fun _ => ⟨fun _ => lwc_sum hv h0 h1 h2 hx2 hk, fun _ => ⟨fun _ => lwc_count hv h0 h1 h2 hx2 hk, fun _ => ⟨fun _ => lwc_row hv h0 h1 h2 hx2 hk, fun _ => ⟨fun _ => lwc_tear hv h0 h1 h2 hx2 hk, fun _ => ⟨fun _ => lwc_write hv h0 h1 h2 hx2 hk, fun _ => ⟨fun _ => lwc_paste hv h0 h1 h2 hx2 hk, fun _ => hk σ (Inv_u hv) Ag_r⟩⟩⟩⟩⟩⟩⟩⟩⟩⟩⟩⟩⟩⟩⟩⟩⟩⟩⟩⟩⟩⟩⟩⟩⟩⟩⟩⟩⟩⟩⟩⟩⟩⟩⟩⟩⟩
end
