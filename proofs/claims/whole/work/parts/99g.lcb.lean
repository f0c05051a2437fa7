section
theorem lwc_gets {σ : aW} {i : Int} (hv : Inv i σ) (h0 : 0 ≤ i) (h1 : i + 8 ≤ σ 9999 2) (h2 : σ 9999 2 ≤ 4096) (hx : ∀ j, r32 (σ 1200 j)) (k : ∀ t, Inv (i + 8) t → Ag σ t → Yx (0 + 60) cd276 3 (fun r _ => r = some (vi 1)) 1544 [vr 1200, vr 0, vr 96, vi i] [] t) : Yx (0 + 60) cd276 3 (fun r _ => r = some (vi 1)) 856 [vr 1200, vr 0, vr 96, vi i] [] σ := by
  obtain ⟨v1, v2, v3, v4, v5, v6, v7, v8, v9, v10, v11, v12, v13, v14, v15, v16, v17⟩ := hv
  refine b276_856 ⟨by omega, by omega, by omega, by omega, glI (by decide) (t_gets v1 v4 v8 v13 v14) (fun x s ag h => b276_870_1 ?_)⟩
  rw [ag.1, ag.2]
  refine ⟨by omega, by omega, by omega, by omega, ev_m h (fun r t q => ⟨x, q.1, b276_884_2 ⟨fun _ => k t ?_ q.2.2.2, fun z => absurd rfl z⟩⟩)⟩
  obtain ⟨_, hI, f, _⟩ := q
  exact ⟨INet_k f (by decide) v1, iV_k f (by decide) v2, IPl_k f (by decide) v3, ISt_k f (by decide) v4, IDp_k f (by decide) v5, IBo_k f (by decide) v6, IOf_k f (by decide) v7, IAr_k f (by decide) v8, ILv_k f (by decide) v9, IMt_k f (by decide) v10, IAh_k f (by decide) v11, ITp_k f (by decide) v12, IRu_k f (by decide) v13, hI, iT_k f (by decide) v15, iH_k f (by decide) v16, iF_k f (by decide) v17⟩
theorem lwc_would {σ : aW} {i : Int} (hv : Inv i σ) (h0 : 0 ≤ i) (h1 : i + 8 ≤ σ 9999 2) (h2 : σ 9999 2 ≤ 4096) (hx : ∀ j, r32 (σ 1200 j)) (k : ∀ t, Inv (i + 8) t → Ag σ t → Yx (0 + 60) cd276 3 (fun r _ => r = some (vi 1)) 1544 [vr 1200, vr 0, vr 96, vi i] [] t) : Yx (0 + 60) cd276 3 (fun r _ => r = some (vi 1)) 889 [vr 1200, vr 0, vr 96, vi i] [] σ := by
  obtain ⟨v1, v2, v3, v4, v5, v6, v7, v8, v9, v10, v11, v12, v13, v14, v15, v16, v17⟩ := hv
  refine b276_889 ⟨by omega, by omega, by omega, by omega, by omega, by omega, by omega, by omega, glI (by decide) (t_would v1 (iV_v v2 (by omega)) v4 v8 v13 v14) (fun x s ag h => b276_913_1 ?_)⟩
  rw [ag.1, ag.2]
  refine ⟨by omega, by omega, by omega, by omega, by omega, by omega, by omega, by omega, ev_m h (fun r t q => ⟨x, q.1, b276_937_2 ⟨fun _ => k t ?_ q.2.2.2, fun z => absurd rfl z⟩⟩)⟩
  obtain ⟨_, hI, f, _⟩ := q
  exact ⟨hI.1.1, iV_n hI.1 v2, IPl_k f (by decide) v3, ISt_k f (by decide) v4, IDp_k f (by decide) v5, IBo_k f (by decide) v6, IOf_k f (by decide) v7, IAr_k f (by decide) v8, ILv_k f (by decide) v9, IMt_k f (by decide) v10, IAh_k f (by decide) v11, ITp_k f (by decide) v12, IRu_k f (by decide) v13, hI.2, iT_k f (by decide) v15, iH_k f (by decide) v16, iF_k f (by decide) v17⟩
theorem lwc_cut {σ : aW} {i : Int} (hv : Inv i σ) (h0 : 0 ≤ i) (h1 : i + 8 ≤ σ 9999 2) (h2 : σ 9999 2 ≤ 4096) (hx : ∀ j, r32 (σ 1200 j)) (k : ∀ t, Inv (i + 8) t → Ag σ t → Yx (0 + 60) cd276 3 (fun r _ => r = some (vi 1)) 1544 [vr 1200, vr 0, vr 96, vi i] [] t) : Yx (0 + 60) cd276 3 (fun r _ => r = some (vi 1)) 942 [vr 1200, vr 0, vr 96, vi i] [] σ := by
  obtain ⟨v1, v2, v3, v4, v5, v6, v7, v8, v9, v10, v11, v12, v13, v14, v15, v16, v17⟩ := hv
  refine b276_942 ⟨by omega, by omega, by omega, by omega, glJ (by decide) (t_cut v1) (fun x s ag h => b276_956_1 ?_)⟩
  rw [ag.1, ag.2]
  refine ⟨by omega, by omega, by omega, by omega, ev_m h (fun r t q => ⟨x, q.1, b276_970_2 ⟨fun _ => k t ?_ q.2.2.2, fun z => absurd rfl z⟩⟩)⟩
  obtain ⟨_, hI, f, _⟩ := q
  exact ⟨INet_k f (by decide) v1, iV_k f (by decide) v2, IPl_k f (by decide) v3, ISt_k f (by decide) v4, IDp_k f (by decide) v5, IBo_k f (by decide) v6, IOf_k f (by decide) v7, IAr_k f (by decide) v8, ILv_k f (by decide) v9, IMt_k f (by decide) v10, IAh_k f (by decide) v11, ITp_k f (by decide) v12, IRu_k f (by decide) v13, IFc_k f (by decide) v14, iT_k f (by decide) v15, iH_k f (by decide) v16, iF_k f (by decide) v17⟩
theorem lwc_isolate {σ : aW} {i : Int} (hv : Inv i σ) (h0 : 0 ≤ i) (h1 : i + 8 ≤ σ 9999 2) (h2 : σ 9999 2 ≤ 4096) (hx : ∀ j, r32 (σ 1200 j)) (k : ∀ t, Inv (i + 8) t → Ag σ t → Yx (0 + 60) cd276 3 (fun r _ => r = some (vi 1)) 1544 [vr 1200, vr 0, vr 96, vi i] [] t) : Yx (0 + 60) cd276 3 (fun r _ => r = some (vi 1)) 976 [vr 1200, vr 0, vr 96, vi i] [] σ := by
  obtain ⟨v1, v2, v3, v4, v5, v6, v7, v8, v9, v10, v11, v12, v13, v14, v15, v16, v17⟩ := hv
  refine b276_976 ⟨by omega, by omega, glI (by decide) (t_isolate v1 (iV_v v2 (by omega))) (fun x s ag h => b276_985_1 ?_)⟩
  rw [ag.1, ag.2]
  refine ⟨by omega, by omega, ev_m h (fun r t q => ⟨x, q.1, b276_994_2 ⟨fun _ => k t ?_ q.2.2.2, fun z => absurd rfl z⟩⟩)⟩
  obtain ⟨_, hI, f, _⟩ := q
  exact ⟨hI.1, iV_n hI v2, IPl_k f (by decide) v3, ISt_k f (by decide) v4, IDp_k f (by decide) v5, IBo_k f (by decide) v6, IOf_k f (by decide) v7, IAr_k f (by decide) v8, ILv_k f (by decide) v9, IMt_k f (by decide) v10, IAh_k f (by decide) v11, ITp_k f (by decide) v12, IRu_k f (by decide) v13, IFc_v hI (Fg_kq f (by decide) (by decide)) v14, iT_k f (by decide) v15, iH_k f (by decide) v16, iF_k f (by decide) v17⟩
theorem lwc_plan {σ : aW} {i : Int} (hv : Inv i σ) (h0 : 0 ≤ i) (h1 : i + 8 ≤ σ 9999 2) (h2 : σ 9999 2 ≤ 4096) (hx : ∀ j, r32 (σ 1200 j)) (k : ∀ t, Inv (i + 8) t → Ag σ t → Yx (0 + 60) cd276 3 (fun r _ => r = some (vi 1)) 1544 [vr 1200, vr 0, vr 96, vi i] [] t) : Yx (0 + 60) cd276 3 (fun r _ => r = some (vi 1)) 999 [vr 1200, vr 0, vr 96, vi i] [] σ := by
  obtain ⟨v1, v2, v3, v4, v5, v6, v7, v8, v9, v10, v11, v12, v13, v14, v15, v16, v17⟩ := hv
  refine b276_999 ⟨by omega, by omega, glJ (by decide) (t_plan v3 v4 v5 v6 v7 v9 v16.1) (fun x s ag h => b276_1008_1 ?_)⟩
  rw [ag.1, ag.2]
  refine ⟨by omega, by omega, ev_m h (fun r t q => ⟨x, q.1, b276_1017_2 ⟨fun _ => k t ?_ q.2.2.2, fun z => absurd rfl z⟩⟩)⟩
  obtain ⟨_, hI, f, _⟩ := q
  exact ⟨INet_k f (by decide) v1, iV_k f (by decide) v2, IPl_k f (by decide) v3, ISt_k f (by decide) v4, hI.1, IBo_k f (by decide) v6, IOf_k f (by decide) v7, IAr_k f (by decide) v8, hI.2, IMt_k f (by decide) v10, IAh_k f (by decide) v11, ITp_k f (by decide) v12, IRu_k f (by decide) v13, IFc_k f (by decide) v14, iT_k f (by decide) v15, iH_k f (by decide) v16, iF_k f (by decide) v17⟩
theorem lwc_planned {σ : aW} {i : Int} (hv : Inv i σ) (h0 : 0 ≤ i) (h1 : i + 8 ≤ σ 9999 2) (h2 : σ 9999 2 ≤ 4096) (hx : ∀ j, r32 (σ 1200 j)) (k : ∀ t, Inv (i + 8) t → Ag σ t → Yx (0 + 60) cd276 3 (fun r _ => r = some (vi 1)) 1544 [vr 1200, vr 0, vr 96, vi i] [] t) : Yx (0 + 60) cd276 3 (fun r _ => r = some (vi 1)) 1023 [vr 1200, vr 0, vr 96, vi i] [] σ := by
  obtain ⟨v1, v2, v3, v4, v5, v6, v7, v8, v9, v10, v11, v12, v13, v14, v15, v16, v17⟩ := hv
  refine b276_1023 ⟨by omega, by omega, glI (by decide) (t_planned v5) (fun x s ag h => b276_1032_1 ?_)⟩
  rw [ag.1, ag.2]
  refine ⟨by omega, by omega, ev_m h (fun r t q => ⟨x, q.1, b276_1041_2 ⟨fun _ => k t ?_ q.2.2.2, fun z => absurd rfl z⟩⟩)⟩
  obtain ⟨_, hI, f, _⟩ := q
  exact ⟨INet_k f (by decide) v1, iV_k f (by decide) v2, IPl_k f (by decide) v3, ISt_k f (by decide) v4, IDp_k f (by decide) v5, IBo_k f (by decide) v6, IOf_k f (by decide) v7, IAr_k f (by decide) v8, ILv_k f (by decide) v9, IMt_k f (by decide) v10, IAh_k f (by decide) v11, ITp_k f (by decide) v12, IRu_k f (by decide) v13, IFc_k f (by decide) v14, iT_k f (by decide) v15, iH_k f (by decide) v16, iF_k f (by decide) v17⟩
theorem lwc_meter {σ : aW} {i : Int} (hv : Inv i σ) (h0 : 0 ≤ i) (h1 : i + 8 ≤ σ 9999 2) (h2 : σ 9999 2 ≤ 4096) (hx : ∀ j, r32 (σ 1200 j)) (k : ∀ t, Inv (i + 8) t → Ag σ t → Yx (0 + 60) cd276 3 (fun r _ => r = some (vi 1)) 1544 [vr 1200, vr 0, vr 96, vi i] [] t) : Yx (0 + 60) cd276 3 (fun r _ => r = some (vi 1)) 1046 [vr 1200, vr 0, vr 96, vi i] [] σ := by
  obtain ⟨v1, v2, v3, v4, v5, v6, v7, v8, v9, v10, v11, v12, v13, v14, v15, v16, v17⟩ := hv
  refine b276_1046 ⟨by omega, by omega, by omega, by omega, by omega, by omega, by omega, by omega, glI (by decide) (t_meter v1 v4 v10) (fun x s ag h => b276_1070_1 ?_)⟩
  rw [ag.1, ag.2]
  refine ⟨by omega, by omega, by omega, by omega, by omega, by omega, by omega, by omega, ev_m h (fun r t q => ⟨x, q.1, b276_1094_2 ⟨fun _ => k t ?_ q.2.2.2, fun z => absurd rfl z⟩⟩)⟩
  obtain ⟨_, hI, f, _⟩ := q
  exact ⟨INet_k f (by decide) v1, iV_k f (by decide) v2, IPl_k f (by decide) v3, ISt_k f (by decide) v4, IDp_k f (by decide) v5, IBo_k f (by decide) v6, IOf_k f (by decide) v7, IAr_k f (by decide) v8, ILv_k f (by decide) v9, hI, IAh_k f (by decide) v11, ITp_k f (by decide) v12, IRu_k f (by decide) v13, IFc_k f (by decide) v14, iT_k f (by decide) v15, iH_k f (by decide) v16, iF_k f (by decide) v17⟩
theorem lwc_leak {σ : aW} {i : Int} (hv : Inv i σ) (h0 : 0 ≤ i) (h1 : i + 8 ≤ σ 9999 2) (h2 : σ 9999 2 ≤ 4096) (hx : ∀ j, r32 (σ 1200 j)) (k : ∀ t, Inv (i + 8) t → Ag σ t → Yx (0 + 60) cd276 3 (fun r _ => r = some (vi 1)) 1544 [vr 1200, vr 0, vr 96, vi i] [] t) : Yx (0 + 60) cd276 3 (fun r _ => r = some (vi 1)) 1099 [vr 1200, vr 0, vr 96, vi i] [] σ := by
  obtain ⟨v1, v2, v3, v4, v5, v6, v7, v8, v9, v10, v11, v12, v13, v14, v15, v16, v17⟩ := hv
  refine b276_1099 ⟨by omega, by omega, by omega, by omega, by omega, by omega, by omega, by omega, glI (by decide) (t_leak v1 v10) (fun x s ag h => b276_1123_1 ?_)⟩
  rw [ag.1, ag.2]
  refine ⟨by omega, by omega, by omega, by omega, by omega, by omega, by omega, by omega, ev_m h (fun r t q => ⟨x, q.1, b276_1147_2 ⟨fun _ => k t ?_ q.2.2.2, fun z => absurd rfl z⟩⟩)⟩
  obtain ⟨_, hI, f, _⟩ := q
  exact ⟨INet_k f (by decide) v1, iV_k f (by decide) v2, IPl_k f (by decide) v3, ISt_k f (by decide) v4, IDp_k f (by decide) v5, IBo_k f (by decide) v6, IOf_k f (by decide) v7, IAr_k f (by decide) v8, ILv_k f (by decide) v9, IMt_k f (by decide) v10, IAh_k f (by decide) v11, ITp_k f (by decide) v12, IRu_k f (by decide) v13, IFc_k f (by decide) v14, iT_k f (by decide) v15, iH_k f (by decide) v16, iF_k f (by decide) v17⟩
theorem lwc_unit {σ : aW} {i : Int} (hv : Inv i σ) (h0 : 0 ≤ i) (h1 : i + 8 ≤ σ 9999 2) (h2 : σ 9999 2 ≤ 4096) (hx : ∀ j, r32 (σ 1200 j)) (k : ∀ t, Inv (i + 8) t → Ag σ t → Yx (0 + 60) cd276 3 (fun r _ => r = some (vi 1)) 1544 [vr 1200, vr 0, vr 96, vi i] [] t) : Yx (0 + 60) cd276 3 (fun r _ => r = some (vi 1)) 1152 [vr 1200, vr 0, vr 96, vi i] [] σ := by
  obtain ⟨v1, v2, v3, v4, v5, v6, v7, v8, v9, v10, v11, v12, v13, v14, v15, v16, v17⟩ := hv
  refine b276_1152 ⟨by omega, by omega, by omega, by omega, by omega, by omega, glI (by decide) (t_unit v1 v4.1) (fun x s ag h => b276_1171_1 ?_)⟩
  rw [ag.1, ag.2]
  refine ⟨by omega, by omega, by omega, by omega, by omega, by omega, ev_m h (fun r t q => ⟨x, q.1, b276_1190_2 ⟨fun _ => k t ?_ q.2.2.2, fun z => absurd rfl z⟩⟩)⟩
  obtain ⟨_, hI, f, _⟩ := q
  exact ⟨INet_k f (by decide) v1, iV_k f (by decide) v2, IPl_k f (by decide) v3, ISt_k f (by decide) v4, IDp_k f (by decide) v5, IBo_k f (by decide) v6, IOf_k f (by decide) v7, IAr_k f (by decide) v8, ILv_k f (by decide) v9, IMt_k f (by decide) v10, IAh_k f (by decide) v11, ITp_k f (by decide) v12, IRu_k f (by decide) v13, IFc_k f (by decide) v14, iT_k f (by decide) v15, iH_k f (by decide) v16, iF_k f (by decide) v17⟩
theorem lwc_houseOf {σ : aW} {i : Int} (hv : Inv i σ) (h0 : 0 ≤ i) (h1 : i + 8 ≤ σ 9999 2) (h2 : σ 9999 2 ≤ 4096) (hx : ∀ j, r32 (σ 1200 j)) (k : ∀ t, Inv (i + 8) t → Ag σ t → Yx (0 + 60) cd276 3 (fun r _ => r = some (vi 1)) 1544 [vr 1200, vr 0, vr 96, vi i] [] t) : Yx (0 + 60) cd276 3 (fun r _ => r = some (vi 1)) 1195 [vr 1200, vr 0, vr 96, vi i] [] σ := by
  obtain ⟨v1, v2, v3, v4, v5, v6, v7, v8, v9, v10, v11, v12, v13, v14, v15, v16, v17⟩ := hv
  refine b276_1195 ⟨by omega, by omega, by omega, by omega, glI (by decide) (t_houseOf v1 v4) (fun x s ag h => b276_1209_1 ?_)⟩
  rw [ag.1, ag.2]
  refine ⟨by omega, by omega, by omega, by omega, ev_m h (fun r t q => ⟨x, q.1, b276_1223_2 ⟨fun _ => k t ?_ q.2.2.2, fun z => absurd rfl z⟩⟩)⟩
  obtain ⟨_, hI, f, _⟩ := q
  exact ⟨INet_k f (by decide) v1, iV_k f (by decide) v2, IPl_k f (by decide) v3, ISt_k f (by decide) v4, IDp_k f (by decide) v5, IBo_k f (by decide) v6, IOf_k f (by decide) v7, IAr_k f (by decide) v8, ILv_k f (by decide) v9, IMt_k f (by decide) v10, IAh_k f (by decide) v11, ITp_k f (by decide) v12, IRu_k f (by decide) v13, IFc_k f (by decide) v14, iT_k f (by decide) v15, iH_k f (by decide) v16, iF_k f (by decide) v17⟩
theorem lwc_sums {σ : aW} {i : Int} (hv : Inv i σ) (h0 : 0 ≤ i) (h1 : i + 8 ≤ σ 9999 2) (h2 : σ 9999 2 ≤ 4096) (hx : ∀ j, r32 (σ 1200 j)) (k : ∀ t, Inv (i + 8) t → Ag σ t → Yx (0 + 60) cd276 3 (fun r _ => r = some (vi 1)) 1544 [vr 1200, vr 0, vr 96, vi i] [] t) : Yx (0 + 60) cd276 3 (fun r _ => r = some (vi 1)) 1228 [vr 1200, vr 0, vr 96, vi i] [] σ := by
  obtain ⟨v1, v2, v3, v4, v5, v6, v7, v8, v9, v10, v11, v12, v13, v14, v15, v16, v17⟩ := hv
  refine b276_1228 ⟨by omega, by omega, by omega, by omega, glJ (by decide) (t_sums v1 v4) (fun x s ag h => b276_1242_1 ?_)⟩
  rw [ag.1, ag.2]
  refine ⟨by omega, by omega, by omega, by omega, ev_m h (fun r t q => ⟨x, q.1, b276_1256_2 ⟨fun _ => k t ?_ q.2.2.2, fun z => absurd rfl z⟩⟩)⟩
  obtain ⟨_, hI, f, _⟩ := q
  exact ⟨INet_k f (by decide) v1, iV_k f (by decide) v2, IPl_k f (by decide) v3, ISt_k f (by decide) v4, IDp_k f (by decide) v5, IBo_k f (by decide) v6, IOf_k f (by decide) v7, IAr_k f (by decide) v8, ILv_k f (by decide) v9, IMt_k f (by decide) v10, IAh_k f (by decide) v11, ITp_k f (by decide) v12, IRu_k f (by decide) v13, IFc_k f (by decide) v14, iT_k f (by decide) v15, iH_k f (by decide) v16, iF_k f (by decide) v17⟩
theorem lwc_pipeOf {σ : aW} {i : Int} (hv : Inv i σ) (h0 : 0 ≤ i) (h1 : i + 8 ≤ σ 9999 2) (h2 : σ 9999 2 ≤ 4096) (hx : ∀ j, r32 (σ 1200 j)) (k : ∀ t, Inv (i + 8) t → Ag σ t → Yx (0 + 60) cd276 3 (fun r _ => r = some (vi 1)) 1544 [vr 1200, vr 0, vr 96, vi i] [] t) : Yx (0 + 60) cd276 3 (fun r _ => r = some (vi 1)) 1262 [vr 1200, vr 0, vr 96, vi i] [] σ := by
  obtain ⟨v1, v2, v3, v4, v5, v6, v7, v8, v9, v10, v11, v12, v13, v14, v15, v16, v17⟩ := hv
  refine b276_1262 ⟨by omega, by omega, by omega, by omega, glI (by decide) (t_pipeOf v1 v4) (fun x s ag h => b276_1276_1 ?_)⟩
  rw [ag.1, ag.2]
  refine ⟨by omega, by omega, by omega, by omega, ev_m h (fun r t q => ⟨x, q.1, b276_1290_2 ⟨fun _ => k t ?_ q.2.2.2, fun z => absurd rfl z⟩⟩)⟩
  obtain ⟨_, hI, f, _⟩ := q
  exact ⟨INet_k f (by decide) v1, iV_k f (by decide) v2, IPl_k f (by decide) v3, ISt_k f (by decide) v4, IDp_k f (by decide) v5, IBo_k f (by decide) v6, IOf_k f (by decide) v7, IAr_k f (by decide) v8, ILv_k f (by decide) v9, IMt_k f (by decide) v10, IAh_k f (by decide) v11, ITp_k f (by decide) v12, IRu_k f (by decide) v13, IFc_k f (by decide) v14, iT_k f (by decide) v15, iH_k f (by decide) v16, iF_k f (by decide) v17⟩
theorem lwc_sum {σ : aW} {i : Int} (hv : Inv i σ) (h0 : 0 ≤ i) (h1 : i + 8 ≤ σ 9999 2) (h2 : σ 9999 2 ≤ 4096) (hx : ∀ j, r32 (σ 1200 j)) (k : ∀ t, Inv (i + 8) t → Ag σ t → Yx (0 + 60) cd276 3 (fun r _ => r = some (vi 1)) 1544 [vr 1200, vr 0, vr 96, vi i] [] t) : Yx (0 + 60) cd276 3 (fun r _ => r = some (vi 1)) 1295 [vr 1200, vr 0, vr 96, vi i] [] σ := by
  obtain ⟨v1, v2, v3, v4, v5, v6, v7, v8, v9, v10, v11, v12, v13, v14, v15, v16, v17⟩ := hv
  refine b276_1295 ⟨by omega, by omega, glJ (by decide) (t_sum v1 v4) (fun x s ag h => b276_1304_1 ?_)⟩
  rw [ag.1, ag.2]
  refine ⟨by omega, by omega, ev_m h (fun r t q => ⟨x, q.1, b276_1313_2 ⟨fun _ => k t ?_ q.2.2.2, fun z => absurd rfl z⟩⟩)⟩
  obtain ⟨_, hI, f, _⟩ := q
  exact ⟨INet_k f (by decide) v1, iV_k f (by decide) v2, IPl_k f (by decide) v3, ISt_k f (by decide) v4, IDp_k f (by decide) v5, IBo_k f (by decide) v6, IOf_k f (by decide) v7, IAr_k f (by decide) v8, ILv_k f (by decide) v9, IMt_k f (by decide) v10, IAh_k f (by decide) v11, ITp_k f (by decide) v12, IRu_k f (by decide) v13, IFc_k f (by decide) v14, iT_k f (by decide) v15, iH_k f (by decide) v16, iF_k f (by decide) v17⟩
theorem lwc_count {σ : aW} {i : Int} (hv : Inv i σ) (h0 : 0 ≤ i) (h1 : i + 8 ≤ σ 9999 2) (h2 : σ 9999 2 ≤ 4096) (hx : ∀ j, r32 (σ 1200 j)) (k : ∀ t, Inv (i + 8) t → Ag σ t → Yx (0 + 60) cd276 3 (fun r _ => r = some (vi 1)) 1544 [vr 1200, vr 0, vr 96, vi i] [] t) : Yx (0 + 60) cd276 3 (fun r _ => r = some (vi 1)) 1319 [vr 1200, vr 0, vr 96, vi i] [] σ := by
  obtain ⟨v1, v2, v3, v4, v5, v6, v7, v8, v9, v10, v11, v12, v13, v14, v15, v16, v17⟩ := hv
  refine b276_1319 ⟨by omega, by omega, glI (by decide) (t_count v1 v3 v4 v8 v10 v6.1 (IRu_c v13) v12.1) (fun x s ag h => b276_1328_1 ?_)⟩
  rw [ag.1, ag.2]
  refine ⟨by omega, by omega, ev_m h (fun r t q => ⟨x, q.1, b276_1337_2 ⟨fun _ => k t ?_ q.2.2.2, fun z => absurd rfl z⟩⟩)⟩
  obtain ⟨_, hI, f, _⟩ := q
  exact ⟨INet_k f (by decide) v1, iV_k f (by decide) v2, IPl_k f (by decide) v3, ISt_k f (by decide) v4, IDp_k f (by decide) v5, IBo_k f (by decide) v6, IOf_k f (by decide) v7, IAr_k f (by decide) v8, ILv_k f (by decide) v9, IMt_k f (by decide) v10, IAh_k f (by decide) v11, ITp_k f (by decide) v12, IRu_k f (by decide) v13, IFc_k f (by decide) v14, iT_k f (by decide) v15, iH_k f (by decide) v16, iF_k f (by decide) v17⟩
theorem lwc_row {σ : aW} {i : Int} (hv : Inv i σ) (h0 : 0 ≤ i) (h1 : i + 8 ≤ σ 9999 2) (h2 : σ 9999 2 ≤ 4096) (hx : ∀ j, r32 (σ 1200 j)) (k : ∀ t, Inv (i + 8) t → Ag σ t → Yx (0 + 60) cd276 3 (fun r _ => r = some (vi 1)) 1544 [vr 1200, vr 0, vr 96, vi i] [] t) : Yx (0 + 60) cd276 3 (fun r _ => r = some (vi 1)) 1342 [vr 1200, vr 0, vr 96, vi i] [] σ := by
  obtain ⟨v1, v2, v3, v4, v5, v6, v7, v8, v9, v10, v11, v12, v13, v14, v15, v16, v17⟩ := hv
  refine b276_1342 ⟨by omega, by omega, by omega, by omega, by omega, by omega, glI (by decide) (t_row v3) (fun x s ag h => b276_1361_1 ?_)⟩
  rw [ag.1, ag.2]
  refine ⟨by omega, by omega, by omega, by omega, by omega, by omega, ev_m h (fun r t q => ⟨x, q.1, b276_1380_2 ⟨fun _ => k t ?_ q.2.2.2, fun z => absurd rfl z⟩⟩)⟩
  obtain ⟨_, hI, f, _⟩ := q
  exact ⟨INet_k f (by decide) v1, iV_k f (by decide) v2, hI, ISt_k f (by decide) v4, IDp_k f (by decide) v5, IBo_k f (by decide) v6, IOf_k f (by decide) v7, IAr_k f (by decide) v8, ILv_k f (by decide) v9, IMt_k f (by decide) v10, IAh_k f (by decide) v11, ITp_k f (by decide) v12, IRu_k f (by decide) v13, IFc_k f (by decide) v14, iT_k f (by decide) v15, iH_k f (by decide) v16, iF_k f (by decide) v17⟩
theorem lwc_tear {σ : aW} {i : Int} (hv : Inv i σ) (h0 : 0 ≤ i) (h1 : i + 8 ≤ σ 9999 2) (h2 : σ 9999 2 ≤ 4096) (hx : ∀ j, r32 (σ 1200 j)) (k : ∀ t, Inv (i + 8) t → Ag σ t → Yx (0 + 60) cd276 3 (fun r _ => r = some (vi 1)) 1544 [vr 1200, vr 0, vr 96, vi i] [] t) : Yx (0 + 60) cd276 3 (fun r _ => r = some (vi 1)) 1385 [vr 1200, vr 0, vr 96, vi i] [] σ := by
  obtain ⟨v1, v2, v3, v4, v5, v6, v7, v8, v9, v10, v11, v12, v13, v14, v15, v16, v17⟩ := hv
  refine b276_1385 ⟨by omega, by omega, glI (by decide) (t_tear v3) (fun x s ag h => b276_1394_1 ?_)⟩
  rw [ag.1, ag.2]
  refine ⟨by omega, by omega, ev_m h (fun r t q => ⟨x, q.1, b276_1403_2 ⟨fun _ => k t ?_ q.2.2.2, fun z => absurd rfl z⟩⟩)⟩
  obtain ⟨_, hI, f, _⟩ := q
  exact ⟨INet_k f (by decide) v1, iV_k f (by decide) v2, hI, ISt_k f (by decide) v4, IDp_k f (by decide) v5, IBo_k f (by decide) v6, IOf_k f (by decide) v7, IAr_k f (by decide) v8, ILv_k f (by decide) v9, IMt_k f (by decide) v10, IAh_k f (by decide) v11, ITp_k f (by decide) v12, IRu_k f (by decide) v13, IFc_k f (by decide) v14, iT_k f (by decide) v15, iH_k f (by decide) v16, iF_k f (by decide) v17⟩
theorem lwc_write {σ : aW} {i : Int} (hv : Inv i σ) (h0 : 0 ≤ i) (h1 : i + 8 ≤ σ 9999 2) (h2 : σ 9999 2 ≤ 4096) (hx : ∀ j, r32 (σ 1200 j)) (k : ∀ t, Inv (i + 8) t → Ag σ t → Yx (0 + 60) cd276 3 (fun r _ => r = some (vi 1)) 1544 [vr 1200, vr 0, vr 96, vi i] [] t) : Yx (0 + 60) cd276 3 (fun r _ => r = some (vi 1)) 1408 [vr 1200, vr 0, vr 96, vi i] [] σ := by
  obtain ⟨v1, v2, v3, v4, v5, v6, v7, v8, v9, v10, v11, v12, v13, v14, v15, v16, v17⟩ := hv
  refine b276_1408 ⟨by omega, by omega, by omega, by omega, by omega, by omega, by omega, by omega, glI (by decide) (t_write v3) (fun x s ag h => b276_1442_1 ?_)⟩
  rw [ag.1, ag.2]
  refine ⟨by omega, by omega, by omega, by omega, by omega, by omega, by omega, by omega, ev_m h (fun r t q => ⟨x, q.1, b276_1476_2 ⟨fun _ => k t ?_ q.2.2.2, fun z => absurd rfl z⟩⟩)⟩
  obtain ⟨_, hI, f, _⟩ := q
  exact ⟨INet_k f (by decide) v1, iV_k f (by decide) v2, hI, ISt_k f (by decide) v4, IDp_k f (by decide) v5, IBo_k f (by decide) v6, IOf_k f (by decide) v7, IAr_k f (by decide) v8, ILv_k f (by decide) v9, IMt_k f (by decide) v10, IAh_k f (by decide) v11, ITp_k f (by decide) v12, IRu_k f (by decide) v13, IFc_k f (by decide) v14, iT_k f (by decide) v15, iH_k f (by decide) v16, iF_k f (by decide) v17⟩
theorem lwc_paste {σ : aW} {i : Int} (hv : Inv i σ) (h0 : 0 ≤ i) (h1 : i + 8 ≤ σ 9999 2) (h2 : σ 9999 2 ≤ 4096) (hx : ∀ j, r32 (σ 1200 j)) (k : ∀ t, Inv (i + 8) t → Ag σ t → Yx (0 + 60) cd276 3 (fun r _ => r = some (vi 1)) 1544 [vr 1200, vr 0, vr 96, vi i] [] t) : Yx (0 + 60) cd276 3 (fun r _ => r = some (vi 1)) 1481 [vr 1200, vr 0, vr 96, vi i] [] σ := by
  obtain ⟨v1, v2, v3, v4, v5, v6, v7, v8, v9, v10, v11, v12, v13, v14, v15, v16, v17⟩ := hv
  refine b276_1481 ⟨by omega, by omega, by omega, by omega, by omega, by omega, by omega, by omega, by omega, by omega, glI (by decide) (t_paste (hx _) (hx _) (hx _) v3) (fun x s ag h => b276_1510_1 ?_)⟩
  rw [ag.1, ag.2]
  refine ⟨by omega, by omega, by omega, by omega, by omega, by omega, by omega, by omega, by omega, by omega, ev_m h (fun r t q => ⟨x, q.1, b276_1539_2 ⟨fun _ => k t ?_ q.2.2.2, fun z => absurd rfl z⟩⟩)⟩
  obtain ⟨_, hI, f, _⟩ := q
  exact ⟨INet_k f (by decide) v1, iV_k f (by decide) v2, hI, ISt_k f (by decide) v4, IDp_k f (by decide) v5, IBo_k f (by decide) v6, IOf_k f (by decide) v7, IAr_k f (by decide) v8, ILv_k f (by decide) v9, IMt_k f (by decide) v10, IAh_k f (by decide) v11, ITp_k f (by decide) v12, IRu_k f (by decide) v13, IFc_k f (by decide) v14, iT_k f (by decide) v15, iH_k f (by decide) v16, iF_k f (by decide) v17⟩
end
