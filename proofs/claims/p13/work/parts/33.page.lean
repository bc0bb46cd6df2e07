theorem pIK_mono {e t : Nat} {K : ty_K → mh_M → Prop} {σ : ty_K} {M : mh_M} (h : pIK (pR e t) K σ M) : pIK (pR (e + 1) t) K σ M := ⟨pR_mono (Nat.le_succ e) (Nat.le_refl t) h.1, h.2⟩
/-- KnowDiskModel.page -/
theorem mt_X5_page {l : Launch} {D : va_G} {tys : List (ClassId × FieldType)} {K : ty_K → mh_M → Prop} (ht : ty_tys tys) (hK : ty_sI pPSC K) (e t : Nat) : ty_Met l D vwCl tys pKT (pIK (pR e t) K) (pIK (pR (e + 1) t) K) pPG yX5_page cX5_page 6 (some .int) 4 94 ct_X5_page := by
  refine ty_of (by decide +kernel) (by decide +kernel) (by decide +kernel) ?_
  intro x av M0 σ0 ls post hx hl hnm hR hD hav hH hI hls hp hr
  have hG1 := pI_G ht hK e t
  have hG2 := pI_G ht hK (e + 1) t
  have E2 := ty_env hG2 hx hR hr (fun v M σ h1 h2 h3 h4 => hp v M σ h1 h2 h3 h4 trivial) pd_X5_page (pv_X5_page hG2 hx hl hnm hR hD)
  have E1 := ty_env hG1 hx hR hr (fun v M σ h1 h2 h3 h4 => hp v M σ h1 h2 (pIK_mono h3) h4 trivial) pd_X5_page (pv_X5_page hG1 hx hl hnm hR hD)
  have cl := sc_X5_page_146 (mt_X5_lay ht hK e t) hx hl hR hD
  have Js1 := ty_spc cl (Or.inl ⟨146, rfl, rfl⟩) (pc := 102) (n := 0) (k := 0) (w := 0) (L := []) (rs := []) (mods := ct_X5_page.2.2.1) (news := ct_X5_page.2.2.2.1) (σ0 := σ0) (M0 := M0) (by decide +kernel) (by decide +kernel) rfl (by decide) (by decide +kernel) (by decide +kernel) (by rw [hR]; decide) (by rw [hR]; decide) (by decide +kernel) (ty_seg E2 [] [] (fun h hh => absurd hh List.not_mem_nil) [] 10 _ (by decide +kernel) (by decide +kernel))
  have Js2 := ty_spc cl (Or.inl ⟨146, rfl, rfl⟩) (pc := 129) (n := 0) (k := 0) (w := 0) (L := []) (rs := []) (mods := ct_X5_page.2.2.1) (news := ct_X5_page.2.2.2.1) (σ0 := σ0) (M0 := M0) (by decide +kernel) (by decide +kernel) rfl (by decide) (by decide +kernel) (by decide +kernel) (by rw [hR]; decide) (by rw [hR]; decide) (by decide +kernel) (ty_seg E2 [] [] (fun h hh => absurd hh List.not_mem_nil) [] 10 _ (by decide +kernel) (by decide +kernel))
  have J1 := ty_seg E1 [] _ (pcons Js1 (pcons Js2 pnil)) [] 300 (0, ty_L0 0 ct_X5_page.1, [], 0, 0) (by decide +kernel) (by decide +kernel)
  exact ty_enter (J1 0) (by decide +kernel) hav hH hI hls
/-- KnowDiskModel.derived -/
theorem mt_X5_derived {l : Launch} {D : va_G} {tys : List (ClassId × FieldType)} {K : ty_K → mh_M → Prop} (ht : ty_tys tys) (hK : ty_sI pPSC K) (e t : Nat) : ty_Met l D vwCl tys pKT (pIK (pR e t) K) (pIK (pR (e + 1) t) K) pPG yX5_derived cX5_derived 7 (some .int) 4 94 ct_X5_derived := by
  refine ty_of (by decide +kernel) (by decide +kernel) (by decide +kernel) ?_
  intro x av M0 σ0 ls post hx hl hnm hR hD hav hH hI hls hp hr
  have hG1 := pI_G ht hK e t
  have hG2 := pI_G ht hK (e + 1) t
  have E2 := ty_env hG2 hx hR hr (fun v M σ h1 h2 h3 h4 => hp v M σ h1 h2 h3 h4 trivial) pd_X5_derived (pv_X5_derived hG2 hx hl hnm hR hD)
  have E1 := ty_env hG1 hx hR hr (fun v M σ h1 h2 h3 h4 => hp v M σ h1 h2 (pIK_mono h3) h4 trivial) pd_X5_derived (pv_X5_derived hG1 hx hl hnm hR hD)
  have cl := sc_X5_derived_146 (mt_X5_lay ht hK e t) hx hl hR hD
  have Js1 := ty_spc cl (Or.inl ⟨146, rfl, rfl⟩) (pc := 125) (n := 0) (k := 0) (w := 0) (L := []) (rs := []) (mods := ct_X5_derived.2.2.1) (news := ct_X5_derived.2.2.2.1) (σ0 := σ0) (M0 := M0) (by decide +kernel) (by decide +kernel) rfl (by decide) (by decide +kernel) (by decide +kernel) (by rw [hR]; decide) (by rw [hR]; decide) (by decide +kernel) (ty_seg E2 [] [] (fun h hh => absurd hh List.not_mem_nil) [] 10 _ (by decide +kernel) (by decide +kernel))
  have J1 := ty_seg E1 [] _ (pcons Js1 pnil) [] 300 (0, ty_L0 0 ct_X5_derived.1, [], 0, 0) (by decide +kernel) (by decide +kernel)
  exact ty_enter (J1 0) (by decide +kernel) hav hH hI hls
