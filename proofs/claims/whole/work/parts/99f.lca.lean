section
/-! the calls of the law -/
theorem IRu_c {σ : aW} (h : IRu σ) : σ 25 0 = σ 96 39 := by
  obtain ⟨_, _, B, l, _, _, h5, _, _, _, _, h10⟩ := h
  rw [h5, h10]
theorem lwc_terms {σ : aW} {i : Int} (hv : Inv i σ) (h0 : 0 ≤ i) (h1 : i + 8 ≤ σ 9999 2) (h2 : σ 9999 2 ≤ 4096) (hx : ∀ j, r32 (σ 1200 j)) (k : ∀ t, Inv (i + 8) t → Ag σ t → Yx (0 + 60) cd276 3 (fun r _ => r = some (vi 1)) 1544 [vr 1200, vr 0, vr 96, vi i] [] t) : Yx (0 + 60) cd276 3 (fun r _ => r = some (vi 1)) 192 [vr 1200, vr 0, vr 96, vi i] [] σ := by
  obtain ⟨v1, v2, v3, v4, v5, v6, v7, v8, v9, v10, v11, v12, v13, v14, v15, v16, v17⟩ := hv
  refine b276_192 ⟨by omega, by omega, by omega, by omega, glI (by decide) (t_terms v15) (fun x s ag h => b276_206_1 ?_)⟩
  rw [ag.1, ag.2]
  refine ⟨by omega, by omega, by omega, by omega, ev_m h (fun r t q => ⟨x, q.1, b276_220_2 ⟨fun _ => k t ?_ q.2.2.2, fun z => absurd rfl z⟩⟩)⟩
  obtain ⟨_, hI, f, _⟩ := q
  exact ⟨INet_k f (by decide) v1, iV_k f (by decide) v2, IPl_k f (by decide) v3, ISt_k f (by decide) v4, IDp_k f (by decide) v5, IBo_k f (by decide) v6, IOf_k f (by decide) v7, IAr_k f (by decide) v8, ILv_k f (by decide) v9, IMt_k f (by decide) v10, IAh_k f (by decide) v11, ITp_k f (by decide) v12, IRu_k f (by decide) v13, IFc_k f (by decide) v14, hI, iH_k f (by decide) v16, iF_k f (by decide) v17⟩
theorem lwc_node {σ : aW} {i : Int} (hv : Inv i σ) (h0 : 0 ≤ i) (h1 : i + 8 ≤ σ 9999 2) (h2 : σ 9999 2 ≤ 4096) (hx : ∀ j, r32 (σ 1200 j)) (k : ∀ t, Inv (i + 8) t → Ag σ t → Yx (0 + 60) cd276 3 (fun r _ => r = some (vi 1)) 1544 [vr 1200, vr 0, vr 96, vi i] [] t) : Yx (0 + 60) cd276 3 (fun r _ => r = some (vi 1)) 225 [vr 1200, vr 0, vr 96, vi i] [] σ := by
  obtain ⟨v1, v2, v3, v4, v5, v6, v7, v8, v9, v10, v11, v12, v13, v14, v15, v16, v17⟩ := hv
  refine b276_225 (glI (by decide) (t_node v1 (iV_v v2 (by omega))) (fun x s ag h => b276_229_1 ?_))
  refine ev_m h (fun r t q => ⟨x, q.1, b276_233_2 ⟨fun _ => k t ?_ q.2.2.2, fun z => absurd rfl z⟩⟩)
  obtain ⟨_, hI, f, _⟩ := q
  exact ⟨hI.1, iV_n hI v2, IPl_k f (by decide) v3, ISt_k f (by decide) v4, IDp_k f (by decide) v5, IBo_k f (by decide) v6, IOf_k f (by decide) v7, IAr_k f (by decide) v8, ILv_k f (by decide) v9, IMt_k f (by decide) v10, IAh_k f (by decide) v11, ITp_k f (by decide) v12, IRu_k f (by decide) v13, IFc_v hI (Fg_kq f (by decide) (by decide)) v14, iT_k f (by decide) v15, iH_k f (by decide) v16, iF_k f (by decide) v17⟩
theorem lwc_pipe {σ : aW} {i : Int} (hv : Inv i σ) (h0 : 0 ≤ i) (h1 : i + 8 ≤ σ 9999 2) (h2 : σ 9999 2 ≤ 4096) (hx : ∀ j, r32 (σ 1200 j)) (k : ∀ t, Inv (i + 8) t → Ag σ t → Yx (0 + 60) cd276 3 (fun r _ => r = some (vi 1)) 1544 [vr 1200, vr 0, vr 96, vi i] [] t) : Yx (0 + 60) cd276 3 (fun r _ => r = some (vi 1)) 238 [vr 1200, vr 0, vr 96, vi i] [] σ := by
  obtain ⟨v1, v2, v3, v4, v5, v6, v7, v8, v9, v10, v11, v12, v13, v14, v15, v16, v17⟩ := hv
  refine b276_238 ⟨by omega, by omega, by omega, by omega, by omega, by omega, by omega, by omega, by omega, by omega, by omega, by omega, by omega, by omega, glI (by decide) (t_pipe bi_01 bi_01 v1 v4.1 (iV_v v2 (by omega))) (fun x s ag h => b276_295_1 ?_)⟩
  rw [ag.1, ag.2]
  refine ⟨by omega, by omega, by omega, by omega, by omega, by omega, by omega, by omega, by omega, by omega, by omega, by omega, by omega, by omega, ev_m h (fun r t q => ⟨x, q.1, b276_352_2 ⟨fun _ => k t ?_ q.2.2.2, fun z => absurd rfl z⟩⟩)⟩
  obtain ⟨_, hI, f, _⟩ := q
  exact ⟨hI.1.1, iV_n hI.1 v2, IPl_k f (by decide) v3, ISt_p hI.2.1 hI.2.2 (fun k hk => by simp only [List.mem_cons, List.not_mem_nil, or_false] at hk; rcases hk with z | z | z | z | z | z | z | z | z | z <;> rw [z] <;> exact Fg_k f (by decide) (by decide)) v4, IDp_k f (by decide) v5, IBo_k f (by decide) v6, IOf_u (Fg_k f (by decide) (by decide)) (Fg_kq f (by decide) (by decide)) (Fg_kq f (by decide) (by decide)) (Fg_k f (by decide) (by decide)) (Fg_k f (by decide) (by decide)) (by rw [hI.2.2 2532 (by omega)]; exact Int.le_refl _) v7, IAr_u (Fg_k f (by decide) (by decide)) (Fg_k f (by decide) (by decide)) (Fg_k f (by decide) (by decide)) (by rw [hI.2.2 2532 (by omega)]; exact Int.le_refl _) v8, ILv_s (IDp_k f (by decide) v5) (Or.inr ⟨Fg_kq f (by decide) (by decide), Fg_kq f (by decide) (by decide)⟩) (Or.inr ⟨Fg_kq f (by decide) (by decide), Fg_kq f (by decide) (by decide)⟩) (hI.2.2 2533 (by omega)) (Fg_kq f (by decide) (by decide)) (Fg_kq f (by decide) (by decide)) (Fg_k f (by decide) (by decide)) v9, IMt_k f (by decide) v10, IAh_k f (by decide) v11, ITp_k f (by decide) v12, IRu_k f (by decide) v13, IFc_v hI.1 (Fg_kq f (by decide) (by decide)) v14, iT_k f (by decide) v15, by unfold iH; rw [hI.2.2 2532 (by omega), hI.2.2 2533 (by omega)]; exact v16, iF_k f (by decide) v17⟩
theorem lwc_house {σ : aW} {i : Int} (hv : Inv i σ) (h0 : 0 ≤ i) (h1 : i + 8 ≤ σ 9999 2) (h2 : σ 9999 2 ≤ 4096) (hx : ∀ j, r32 (σ 1200 j)) (k : ∀ t, Inv (i + 8) t → Ag σ t → Yx (0 + 60) cd276 3 (fun r _ => r = some (vi 1)) 1544 [vr 1200, vr 0, vr 96, vi i] [] t) : Yx (0 + 60) cd276 3 (fun r _ => r = some (vi 1)) 357 [vr 1200, vr 0, vr 96, vi i] [] σ := by
  obtain ⟨v1, v2, v3, v4, v5, v6, v7, v8, v9, v10, v11, v12, v13, v14, v15, v16, v17⟩ := hv
  refine b276_357 ⟨by omega, by omega, by omega, by omega, by omega, by omega, glI (by decide) (t_house2 v1 (iV_v v2 (by omega))) (fun x s ag h => b276_376_1 ?_)⟩
  rw [ag.1, ag.2]
  refine ⟨by omega, by omega, by omega, by omega, by omega, by omega, ev_m h (fun r t q => ⟨x, q.1, b276_395_2 ⟨fun _ => k t ?_ q.2.2.2, fun z => absurd rfl z⟩⟩)⟩
  obtain ⟨_, hI, f, _⟩ := q
  exact ⟨hI.1.1, iV_n hI.1 v2, IPl_k f (by decide) v3, ISt_k f (by decide) v4, IDp_k f (by decide) v5, IBo_k f (by decide) v6, IOf_k f (by decide) v7, IAr_k f (by decide) v8, ILv_k f (by decide) v9, IMt_k f (by decide) v10, IAh_h hI.2 (Fg_kq f (by decide) (by decide)) (Fg_kq f (by decide) (by decide)) (Fg_k f (by decide) (by decide)) (Fg_k f (by decide) (by decide)) (Fg_k f (by decide) (by decide)) (Fg_k f (by decide) (by decide)) v11, ITp_k f (by decide) v12, IRu_k f (by decide) v13, IFc_v hI.1 (Fg_kq f (by decide) (by decide)) v14, iT_k f (by decide) v15, iH_k f (by decide) v16, iF_k f (by decide) v17⟩
theorem lwc_valve {σ : aW} {i : Int} (hv : Inv i σ) (h0 : 0 ≤ i) (h1 : i + 8 ≤ σ 9999 2) (h2 : σ 9999 2 ≤ 4096) (hx : ∀ j, r32 (σ 1200 j)) (k : ∀ t, Inv (i + 8) t → Ag σ t → Yx (0 + 60) cd276 3 (fun r _ => r = some (vi 1)) 1544 [vr 1200, vr 0, vr 96, vi i] [] t) : Yx (0 + 60) cd276 3 (fun r _ => r = some (vi 1)) 400 [vr 1200, vr 0, vr 96, vi i] [] σ := by
  obtain ⟨v1, v2, v3, v4, v5, v6, v7, v8, v9, v10, v11, v12, v13, v14, v15, v16, v17⟩ := hv
  refine b276_400 ⟨by omega, by omega, by omega, by omega, by omega, by omega, glI (by decide) (t_valve bi_01 v1 (iV_v v2 (by omega))) (fun x s ag h => b276_427_1 ?_)⟩
  rw [ag.1, ag.2]
  refine ⟨by omega, by omega, by omega, by omega, by omega, by omega, ev_m h (fun r t q => ⟨x, q.1, b276_454_2 ⟨fun _ => k t ?_ q.2.2.2, fun z => absurd rfl z⟩⟩)⟩
  obtain ⟨_, hI, f, _⟩ := q
  exact ⟨hI.1, iV_n hI v2, IPl_k f (by decide) v3, ISt_k f (by decide) v4, IDp_k f (by decide) v5, IBo_k f (by decide) v6, IOf_k f (by decide) v7, IAr_k f (by decide) v8, ILv_k f (by decide) v9, IMt_k f (by decide) v10, IAh_k f (by decide) v11, ITp_k f (by decide) v12, IRu_k f (by decide) v13, IFc_v hI (Fg_kq f (by decide) (by decide)) v14, iT_k f (by decide) v15, iH_k f (by decide) v16, iF_k f (by decide) v17⟩
theorem lwc_burst {σ : aW} {i : Int} (hv : Inv i σ) (h0 : 0 ≤ i) (h1 : i + 8 ≤ σ 9999 2) (h2 : σ 9999 2 ≤ 4096) (hx : ∀ j, r32 (σ 1200 j)) (k : ∀ t, Inv (i + 8) t → Ag σ t → Yx (0 + 60) cd276 3 (fun r _ => r = some (vi 1)) 1544 [vr 1200, vr 0, vr 96, vi i] [] t) : Yx (0 + 60) cd276 3 (fun r _ => r = some (vi 1)) 459 [vr 1200, vr 0, vr 96, vi i] [] σ := by
  obtain ⟨v1, v2, v3, v4, v5, v6, v7, v8, v9, v10, v11, v12, v13, v14, v15, v16, v17⟩ := hv
  refine b276_459 ⟨by omega, by omega, by omega, by omega, glI (by decide) (t_burst bi_01 v1 (iV_v v2 (by omega))) (fun x s ag h => b276_481_1 ?_)⟩
  rw [ag.1, ag.2]
  refine ⟨by omega, by omega, by omega, by omega, ev_m h (fun r t q => ⟨x, q.1, b276_503_2 ⟨fun _ => k t ?_ q.2.2.2, fun z => absurd rfl z⟩⟩)⟩
  obtain ⟨_, hI, f, _⟩ := q
  exact ⟨hI.1, iV_n hI v2, IPl_k f (by decide) v3, ISt_k f (by decide) v4, IDp_k f (by decide) v5, IBo_k f (by decide) v6, IOf_k f (by decide) v7, IAr_k f (by decide) v8, ILv_k f (by decide) v9, IMt_k f (by decide) v10, IAh_k f (by decide) v11, ITp_k f (by decide) v12, IRu_k f (by decide) v13, IFc_v hI (Fg_kq f (by decide) (by decide)) v14, iT_k f (by decide) v15, iH_k f (by decide) v16, iF_k f (by decide) v17⟩
theorem lwc_air {σ : aW} {i : Int} (hv : Inv i σ) (h0 : 0 ≤ i) (h1 : i + 8 ≤ σ 9999 2) (h2 : σ 9999 2 ≤ 4096) (hx : ∀ j, r32 (σ 1200 j)) (k : ∀ t, Inv (i + 8) t → Ag σ t → Yx (0 + 60) cd276 3 (fun r _ => r = some (vi 1)) 1544 [vr 1200, vr 0, vr 96, vi i] [] t) : Yx (0 + 60) cd276 3 (fun r _ => r = some (vi 1)) 508 [vr 1200, vr 0, vr 96, vi i] [] σ := by
  obtain ⟨v1, v2, v3, v4, v5, v6, v7, v8, v9, v10, v11, v12, v13, v14, v15, v16, v17⟩ := hv
  refine b276_508 ⟨by omega, by omega, glI (by decide) (t_air v3 v4 v8) (fun x s ag h => b276_517_1 ?_)⟩
  rw [ag.1, ag.2]
  refine ⟨by omega, by omega, ev_m h (fun r t q => ⟨x, q.1, b276_526_2 ⟨fun _ => k t ?_ q.2.2.2, fun z => absurd rfl z⟩⟩)⟩
  obtain ⟨_, hI, f, _⟩ := q
  exact ⟨INet_k f (by decide) v1, iV_k f (by decide) v2, IPl_k f (by decide) v3, ISt_k f (by decide) v4, IDp_k f (by decide) v5, IBo_k f (by decide) v6, IOf_k f (by decide) v7, hI, ILv_k f (by decide) v9, IMt_k f (by decide) v10, IAh_k f (by decide) v11, ITp_k f (by decide) v12, IRu_k f (by decide) v13, IFc_k f (by decide) v14, iT_k f (by decide) v15, iH_k f (by decide) v16, iF_k f (by decide) v17⟩
theorem lwc_boiler {σ : aW} {i : Int} (hv : Inv i σ) (h0 : 0 ≤ i) (h1 : i + 8 ≤ σ 9999 2) (h2 : σ 9999 2 ≤ 4096) (hx : ∀ j, r32 (σ 1200 j)) (k : ∀ t, Inv (i + 8) t → Ag σ t → Yx (0 + 60) cd276 3 (fun r _ => r = some (vi 1)) 1544 [vr 1200, vr 0, vr 96, vi i] [] t) : Yx (0 + 60) cd276 3 (fun r _ => r = some (vi 1)) 531 [vr 1200, vr 0, vr 96, vi i] [] σ := by
  obtain ⟨v1, v2, v3, v4, v5, v6, v7, v8, v9, v10, v11, v12, v13, v14, v15, v16, v17⟩ := hv
  refine b276_531 ⟨by omega, by omega, by omega, by omega, glI (by decide) (t_boiler v6) (fun x s ag h => b276_545_1 ?_)⟩
  rw [ag.1, ag.2]
  refine ⟨by omega, by omega, by omega, by omega, ev_m h (fun r t q => ⟨x, q.1, b276_559_2 ⟨fun _ => k t ?_ q.2.2.2, fun z => absurd rfl z⟩⟩)⟩
  obtain ⟨_, hI, f, _⟩ := q
  exact ⟨INet_k f (by decide) v1, iV_k f (by decide) v2, IPl_k f (by decide) v3, ISt_k f (by decide) v4, IDp_k f (by decide) v5, hI, IOf_k f (by decide) v7, IAr_k f (by decide) v8, ILv_k f (by decide) v9, IMt_k f (by decide) v10, IAh_k f (by decide) v11, ITp_k f (by decide) v12, IRu_k f (by decide) v13, IFc_k f (by decide) v14, iT_k f (by decide) v15, iH_k f (by decide) v16, iF_k f (by decide) v17⟩
theorem lwc_store {σ : aW} {i : Int} (hv : Inv i σ) (h0 : 0 ≤ i) (h1 : i + 8 ≤ σ 9999 2) (h2 : σ 9999 2 ≤ 4096) (hx : ∀ j, r32 (σ 1200 j)) (k : ∀ t, Inv (i + 8) t → Ag σ t → Yx (0 + 60) cd276 3 (fun r _ => r = some (vi 1)) 1544 [vr 1200, vr 0, vr 96, vi i] [] t) : Yx (0 + 60) cd276 3 (fun r _ => r = some (vi 1)) 564 [vr 1200, vr 0, vr 96, vi i] [] σ := by
  obtain ⟨v1, v2, v3, v4, v5, v6, v7, v8, v9, v10, v11, v12, v13, v14, v15, v16, v17⟩ := hv
  refine b276_564 ⟨by omega, by omega, by omega, by omega, glI (by decide) (t_store v5 v4 v16.2) (fun x s ag h => b276_578_1 ?_)⟩
  rw [ag.1, ag.2]
  refine ⟨by omega, by omega, by omega, by omega, ev_m h (fun r t q => ⟨x, q.1, b276_592_2 ⟨fun _ => k t ?_ q.2.2.2, fun z => absurd rfl z⟩⟩)⟩
  obtain ⟨_, hI, f, _⟩ := q
  exact ⟨INet_k f (by decide) v1, iV_k f (by decide) v2, IPl_k f (by decide) v3, ISt_k f (by decide) v4, hI.1, IBo_k f (by decide) v6, IOf_k f (by decide) v7, IAr_k f (by decide) v8, ILv_s hI.1 hI.2.1 hI.2.2 (Fg_kq f (by decide) (by decide)) (Fg_kq f (by decide) (by decide)) (Fg_kq f (by decide) (by decide)) (Fg_k f (by decide) (by decide)) v9, IMt_k f (by decide) v10, IAh_k f (by decide) v11, ITp_k f (by decide) v12, IRu_k f (by decide) v13, IFc_k f (by decide) v14, iT_k f (by decide) v15, iH_k f (by decide) v16, iF_k f (by decide) v17⟩
theorem lwc_mill {σ : aW} {i : Int} (hv : Inv i σ) (h0 : 0 ≤ i) (h1 : i + 8 ≤ σ 9999 2) (h2 : σ 9999 2 ≤ 4096) (hx : ∀ j, r32 (σ 1200 j)) (k : ∀ t, Inv (i + 8) t → Ag σ t → Yx (0 + 60) cd276 3 (fun r _ => r = some (vi 1)) 1544 [vr 1200, vr 0, vr 96, vi i] [] t) : Yx (0 + 60) cd276 3 (fun r _ => r = some (vi 1)) 597 [vr 1200, vr 0, vr 96, vi i] [] σ := by
  obtain ⟨v1, v2, v3, v4, v5, v6, v7, v8, v9, v10, v11, v12, v13, v14, v15, v16, v17⟩ := hv
  refine b276_597 ⟨by omega, by omega, by omega, by omega, glI (by decide) (t_mill v3 v4 v7) (fun x s ag h => b276_611_1 ?_)⟩
  rw [ag.1, ag.2]
  refine ⟨by omega, by omega, by omega, by omega, ev_m h (fun r t q => ⟨x, q.1, b276_625_2 ⟨fun _ => k t ?_ q.2.2.2, fun z => absurd rfl z⟩⟩)⟩
  obtain ⟨_, hI, f, _⟩ := q
  exact ⟨INet_k f (by decide) v1, iV_k f (by decide) v2, IPl_k f (by decide) v3, ISt_k f (by decide) v4, IDp_k f (by decide) v5, IBo_k f (by decide) v6, hI, IAr_k f (by decide) v8, ILv_k f (by decide) v9, IMt_k f (by decide) v10, IAh_k f (by decide) v11, ITp_k f (by decide) v12, IRu_k f (by decide) v13, IFc_k f (by decide) v14, iT_k f (by decide) v15, iH_k f (by decide) v16, iF_k f (by decide) v17⟩
theorem lwc_feed {σ : aW} {i : Int} (hv : Inv i σ) (h0 : 0 ≤ i) (h1 : i + 8 ≤ σ 9999 2) (h2 : σ 9999 2 ≤ 4096) (hx : ∀ j, r32 (σ 1200 j)) (k : ∀ t, Inv (i + 8) t → Ag σ t → Yx (0 + 60) cd276 3 (fun r _ => r = some (vi 1)) 1544 [vr 1200, vr 0, vr 96, vi i] [] t) : Yx (0 + 60) cd276 3 (fun r _ => r = some (vi 1)) 630 [vr 1200, vr 0, vr 96, vi i] [] σ := by
  obtain ⟨v1, v2, v3, v4, v5, v6, v7, v8, v9, v10, v11, v12, v13, v14, v15, v16, v17⟩ := hv
  refine b276_630 ⟨by omega, by omega, by omega, by omega, by omega, by omega, by omega, by omega, by omega, by omega, glI (by decide) (t_feed v12) (fun x s ag h => b276_659_1 ?_)⟩
  rw [ag.1, ag.2]
  refine ⟨by omega, by omega, by omega, by omega, by omega, by omega, by omega, by omega, by omega, by omega, ev_m h (fun r t q => ⟨x, q.1, b276_688_2 ⟨fun _ => k t ?_ q.2.2.2, fun z => absurd rfl z⟩⟩)⟩
  obtain ⟨_, hI, f, _⟩ := q
  exact ⟨INet_k f (by decide) v1, iV_k f (by decide) v2, IPl_k f (by decide) v3, ISt_k f (by decide) v4, IDp_k f (by decide) v5, IBo_k f (by decide) v6, IOf_k f (by decide) v7, IAr_k f (by decide) v8, ILv_k f (by decide) v9, IMt_k f (by decide) v10, IAh_k f (by decide) v11, hI, IRu_k f (by decide) v13, IFc_k f (by decide) v14, iT_k f (by decide) v15, iH_k f (by decide) v16, iF_k f (by decide) v17⟩
theorem lwc_end {σ : aW} {i : Int} (hv : Inv i σ) (h0 : 0 ≤ i) (h1 : i + 8 ≤ σ 9999 2) (h2 : σ 9999 2 ≤ 4096) (hx : ∀ j, r32 (σ 1200 j)) (k : ∀ t, Inv (i + 8) t → Ag σ t → Yx (0 + 60) cd276 3 (fun r _ => r = some (vi 1)) 1544 [vr 1200, vr 0, vr 96, vi i] [] t) : Yx (0 + 60) cd276 3 (fun r _ => r = some (vi 1)) 693 [vr 1200, vr 0, vr 96, vi i] [] σ := by
  obtain ⟨v1, v2, v3, v4, v5, v6, v7, v8, v9, v10, v11, v12, v13, v14, v15, v16, v17⟩ := hv
  refine b276_693 ⟨by omega, by omega, glI (by decide) (t_end ⟨v12.1, v12.2.1, v12.2.2.1⟩) (fun x s ag h => b276_702_1 ?_)⟩
  rw [ag.1, ag.2]
  refine ⟨by omega, by omega, ev_m h (fun r t q => ⟨x, q.1, b276_711_2 ⟨fun _ => k t ?_ q.2.2.2, fun z => absurd rfl z⟩⟩)⟩
  obtain ⟨_, hI, f, _⟩ := q
  exact ⟨INet_k f (by decide) v1, iV_k f (by decide) v2, IPl_k f (by decide) v3, ISt_k f (by decide) v4, IDp_k f (by decide) v5, IBo_k f (by decide) v6, IOf_k f (by decide) v7, IAr_k f (by decide) v8, ILv_k f (by decide) v9, IMt_k f (by decide) v10, IAh_k f (by decide) v11, ITp_e hI (Fg_k f (by decide) (by decide)) (Fg_k f (by decide) (by decide)) v12, IRu_k f (by decide) v13, IFc_k f (by decide) v14, iT_k f (by decide) v15, iH_k f (by decide) v16, iF_k f (by decide) v17⟩
theorem lwc_rules {σ : aW} {i : Int} (hv : Inv i σ) (h0 : 0 ≤ i) (h1 : i + 8 ≤ σ 9999 2) (h2 : σ 9999 2 ≤ 4096) (hx : ∀ j, r32 (σ 1200 j)) (k : ∀ t, Inv (i + 8) t → Ag σ t → Yx (0 + 60) cd276 3 (fun r _ => r = some (vi 1)) 1544 [vr 1200, vr 0, vr 96, vi i] [] t) : Yx (0 + 60) cd276 3 (fun r _ => r = some (vi 1)) 716 [vr 1200, vr 0, vr 96, vi i] [] σ := by
  obtain ⟨v1, v2, v3, v4, v5, v6, v7, v8, v9, v10, v11, v12, v13, v14, v15, v16, v17⟩ := hv
  refine b276_716 (glI (by decide) (t_rules v13 v12 v4.2.1.2.1 v16.1) (fun x s ag h => b276_720_1 ?_))
  refine ev_m h (fun r t q => ⟨x, q.1, b276_724_2 ⟨fun _ => k t ?_ q.2.2.2, fun z => absurd rfl z⟩⟩)
  obtain ⟨_, hI, f, _⟩ := q
  exact ⟨INet_k f (by decide) v1, iV_k f (by decide) v2, IPl_k f (by decide) v3, ISt_k f (by decide) v4, IDp_k f (by decide) v5, IBo_k f (by decide) v6, IOf_k f (by decide) v7, IAr_k f (by decide) v8, ILv_k f (by decide) v9, IMt_k f (by decide) v10, IAh_k f (by decide) v11, hI.2.1, hI.1, IFc_k f (by decide) v14, iT_k f (by decide) v15, iH_k f (by decide) v16, hI.2.2⟩
theorem lwc_fault {σ : aW} {i : Int} (hv : Inv i σ) (h0 : 0 ≤ i) (h1 : i + 8 ≤ σ 9999 2) (h2 : σ 9999 2 ≤ 4096) (hx : ∀ j, r32 (σ 1200 j)) (k : ∀ t, Inv (i + 8) t → Ag σ t → Yx (0 + 60) cd276 3 (fun r _ => r = some (vi 1)) 1544 [vr 1200, vr 0, vr 96, vi i] [] t) : Yx (0 + 60) cd276 3 (fun r _ => r = some (vi 1)) 729 [vr 1200, vr 0, vr 96, vi i] [] σ := by
  obtain ⟨v1, v2, v3, v4, v5, v6, v7, v8, v9, v10, v11, v12, v13, v14, v15, v16, v17⟩ := hv
  refine b276_729 (glI (by decide) (t_fault v17) (fun x s ag h => b276_733_1 ?_))
  refine ev_m h (fun r t q => ⟨x, q.1, b276_737_2 ⟨fun _ => k t ?_ q.2.2.2, fun z => absurd rfl z⟩⟩)
  obtain ⟨_, hI, f, _⟩ := q
  exact ⟨INet_k f (by decide) v1, iV_k f (by decide) v2, IPl_k f (by decide) v3, ISt_k f (by decide) v4, IDp_k f (by decide) v5, IBo_k f (by decide) v6, IOf_k f (by decide) v7, IAr_k f (by decide) v8, ILv_k f (by decide) v9, IMt_k f (by decide) v10, IAh_k f (by decide) v11, ITp_k f (by decide) v12, IRu_k f (by decide) v13, IFc_k f (by decide) v14, iT_k f (by decide) v15, iH_k f (by decide) v16, iF_k f (by decide) v17⟩
theorem lwc_go {σ : aW} {i : Int} (hv : Inv i σ) (h0 : 0 ≤ i) (h1 : i + 8 ≤ σ 9999 2) (h2 : σ 9999 2 ≤ 4096) (hx : ∀ j, r32 (σ 1200 j)) (k : ∀ t, Inv (i + 8) t → Ag σ t → Yx (0 + 60) cd276 3 (fun r _ => r = some (vi 1)) 1544 [vr 1200, vr 0, vr 96, vi i] [] t) : Yx (0 + 60) cd276 3 (fun r _ => r = some (vi 1)) 742 [vr 1200, vr 0, vr 96, vi i] [] σ := by
  obtain ⟨v1, v2, v3, v4, v5, v6, v7, v8, v9, v10, v11, v12, v13, v14, v15, v16, v17⟩ := hv
  refine b276_742 ⟨by omega, by omega, glI (by decide) (t_go ⟨v1, v8, v7, v5, v6, v15.2.2⟩ ⟨v15.1, v15.2.1⟩ v4 v13 v14 v16.1 v9 v16.2) (fun x s ag h => b276_751_1 ?_)⟩
  rw [ag.1, ag.2]
  refine ⟨by omega, by omega, ev_m h (fun r t q => ⟨x, q.1, b276_760_2 ⟨fun _ => k t ?_ q.2.2.2, fun z => absurd rfl z⟩⟩)⟩
  obtain ⟨_, hI, f, _⟩ := q
  exact ⟨INet_k f (by decide) v1, iV_k f (by decide) v2, IPl_k f (by decide) v3, hI.1, IDp_k f (by decide) v5, IBo_k f (by decide) v6, hI.2.2.2.1, hI.2.2.1, hI.2.2.2.2.2.1, IMt_k f (by decide) v10, IAh_k f (by decide) v11, ITp_k f (by decide) v12, IRu_k f (by decide) v13, hI.2.1, iT_k f (by decide) v15, ⟨hI.2.2.2.2.1, hI.2.2.2.2.2.2.1⟩, iF_k f (by decide) v17⟩
theorem lwc_ahead {σ : aW} {i : Int} (hv : Inv i σ) (h0 : 0 ≤ i) (h1 : i + 8 ≤ σ 9999 2) (h2 : σ 9999 2 ≤ 4096) (hx : ∀ j, r32 (σ 1200 j)) (k : ∀ t, Inv (i + 8) t → Ag σ t → Yx (0 + 60) cd276 3 (fun r _ => r = some (vi 1)) 1544 [vr 1200, vr 0, vr 96, vi i] [] t) : Yx (0 + 60) cd276 3 (fun r _ => r = some (vi 1)) 765 [vr 1200, vr 0, vr 96, vi i] [] σ := by
  obtain ⟨v1, v2, v3, v4, v5, v6, v7, v8, v9, v10, v11, v12, v13, v14, v15, v16, v17⟩ := hv
  refine b276_765 ⟨by omega, by omega, by omega, by omega, glJ (by decide) (t_ahead ⟨v1, v8, v7, v5, v6, v15.2.2⟩ ⟨v15.1, v15.2.1⟩ v4 v13 v14 v16.1 v9 v11) (fun x s ag h => b276_779_1 ?_)⟩
  rw [ag.1, ag.2]
  refine ⟨by omega, by omega, by omega, by omega, ev_m h (fun r t q => ⟨x, q.1, b276_793_2 ⟨fun _ => k t ?_ q.2.2.2, fun z => absurd rfl z⟩⟩)⟩
  obtain ⟨_, hI, f, _⟩ := q
  exact ⟨INet_k f (by decide) v1, iV_k f (by decide) v2, IPl_k f (by decide) v3, ISt_k f (by decide) v4, IDp_k f (by decide) v5, IBo_k f (by decide) v6, IOf_k f (by decide) v7, IAr_k f (by decide) v8, ILv_k f (by decide) v9, IMt_k f (by decide) v10, hI.2, ITp_k f (by decide) v12, IRu_k f (by decide) v13, hI.1, iT_k f (by decide) v15, iH_k f (by decide) v16, iF_k f (by decide) v17⟩
theorem lwc_aheadOf {σ : aW} {i : Int} (hv : Inv i σ) (h0 : 0 ≤ i) (h1 : i + 8 ≤ σ 9999 2) (h2 : σ 9999 2 ≤ 4096) (hx : ∀ j, r32 (σ 1200 j)) (k : ∀ t, Inv (i + 8) t → Ag σ t → Yx (0 + 60) cd276 3 (fun r _ => r = some (vi 1)) 1544 [vr 1200, vr 0, vr 96, vi i] [] t) : Yx (0 + 60) cd276 3 (fun r _ => r = some (vi 1)) 799 [vr 1200, vr 0, vr 96, vi i] [] σ := by
  obtain ⟨v1, v2, v3, v4, v5, v6, v7, v8, v9, v10, v11, v12, v13, v14, v15, v16, v17⟩ := hv
  refine b276_799 ⟨by omega, by omega, by omega, by omega, glJ (by decide) (t_aheadOf v1 v11) (fun x s ag h => b276_813_1 ?_)⟩
  rw [ag.1, ag.2]
  refine ⟨by omega, by omega, by omega, by omega, ev_m h (fun r t q => ⟨x, q.1, b276_827_2 ⟨fun _ => k t ?_ q.2.2.2, fun z => absurd rfl z⟩⟩)⟩
  obtain ⟨_, hI, f, _⟩ := q
  exact ⟨INet_k f (by decide) v1, iV_k f (by decide) v2, IPl_k f (by decide) v3, ISt_k f (by decide) v4, IDp_k f (by decide) v5, IBo_k f (by decide) v6, IOf_k f (by decide) v7, IAr_k f (by decide) v8, ILv_k f (by decide) v9, IMt_k f (by decide) v10, IAh_k f (by decide) v11, ITp_k f (by decide) v12, IRu_k f (by decide) v13, IFc_k f (by decide) v14, iT_k f (by decide) v15, iH_k f (by decide) v16, iF_k f (by decide) v17⟩
theorem lwc_flow {σ : aW} {i : Int} (hv : Inv i σ) (h0 : 0 ≤ i) (h1 : i + 8 ≤ σ 9999 2) (h2 : σ 9999 2 ≤ 4096) (hx : ∀ j, r32 (σ 1200 j)) (k : ∀ t, Inv (i + 8) t → Ag σ t → Yx (0 + 60) cd276 3 (fun r _ => r = some (vi 1)) 1544 [vr 1200, vr 0, vr 96, vi i] [] t) : Yx (0 + 60) cd276 3 (fun r _ => r = some (vi 1)) 833 [vr 1200, vr 0, vr 96, vi i] [] σ := by
  obtain ⟨v1, v2, v3, v4, v5, v6, v7, v8, v9, v10, v11, v12, v13, v14, v15, v16, v17⟩ := hv
  refine b276_833 ⟨by omega, by omega, glI (by decide) (t_flow v1 v4 v8 v13 v14) (fun x s ag h => b276_842_1 ?_)⟩
  rw [ag.1, ag.2]
  refine ⟨by omega, by omega, ev_m h (fun r t q => ⟨x, q.1, b276_851_2 ⟨fun _ => k t ?_ q.2.2.2, fun z => absurd rfl z⟩⟩)⟩
  obtain ⟨_, hI, f, _⟩ := q
  exact ⟨INet_k f (by decide) v1, iV_k f (by decide) v2, IPl_k f (by decide) v3, ISt_k f (by decide) v4, IDp_k f (by decide) v5, IBo_k f (by decide) v6, IOf_k f (by decide) v7, IAr_k f (by decide) v8, ILv_k f (by decide) v9, IMt_k f (by decide) v10, IAh_k f (by decide) v11, ITp_k f (by decide) v12, IRu_k f (by decide) v13, hI, iT_k f (by decide) v15, iH_k f (by decide) v16, iF_k f (by decide) v17⟩
end
