/-- KnowDiskModel.lay: one more sector may be laid -/
theorem mt_X5_lay {l : Launch} {D : va_G} {tys : List (ClassId × FieldType)} {K : ty_K → mh_M → Prop} (ht : ty_tys tys) (hK : ty_sI pPSC K) (e t : Nat) : ty_Met l D vwCl tys pKT (pIK (pR e t) K) (pIK (pR (e + 1) t) K) pPG yX5_lay cX5_lay 8 (some .int) 3 67 ct_X5_lay := by
  refine ty_of (by decide +kernel) (by decide +kernel) (by decide +kernel) ?_
  intro x av M0 σ0 ls post hx hl hnm hR hD hav hH hI hls hp hr
  have hG1 := pI_G ht hK e t
  have hG2 := pI_G ht hK (e + 1) t
  have E2 := ty_env hG2 hx hR hr (fun v M σ h1 h2 h3 h4 => hp v M σ h1 h2 h3 h4 trivial) pd_X5_lay (pv_X5_lay hG2 hx hl hnm hR hD)
  have E1 := ty_env hG1 hx hR hr (fun v M σ h1 h2 h3 h4 => hp v M σ h1 h2 ⟨pR_mono (Nat.le_succ e) (Nat.le_refl t) h3.1, h3.2⟩ h4 trivial) pd_X5_lay (pv_X5_lay hG1 hx hl hnm hR hD)
  have J2 := ty_seg E2 [] [] (fun h hh => absurd hh List.not_mem_nil) [] 100 (153, [(0, (2, 12, 0)), (2, (0, 0, 29)), (6, (0, 2, 63))], [], 0, 0) (by decide +kernel) (by decide +kernel)
  have Js : ∀ g : Int, ty_J x vwCl 8 tys pKT (pIK (pR e t) K) pPG ct_X5_lay.2.2.1 ct_X5_lay.2.2.2.1 σ0 M0 g (ty_s0 (152, [(0, (2, 12, 0)), (2, (0, 0, 29)), (6, (0, 2, 63))], [(0, 1, 1), (0, 2, 63), (2, 16, 0)], 0, 0)) := by
    intro g σ M ls st hs hw hH hI hF hL hS
    obtain ⟨v1, s1, rfl, hv1, hS⟩ := ty_stk_c hS
    obtain ⟨v2, s2, rfl, hv2, hS⟩ := ty_stk_c hS
    obtain ⟨v3, s3, rfl, hv3, hS⟩ := ty_stk_c hS
    rw [ty_stk_n hS]
    obtain ⟨y, rfl, y1, y2⟩ := hv1.1
    obtain ⟨i, rfl, i1, i2⟩ := hv2.1
    obtain ⟨a, rfl, ha⟩ := hv3.1
    have ha : σ a = some 16 := ha
    have i1 : (2 : Int) ≤ i.toInt := i1
    have i2 : i.toInt ≤ 63 := i2
    have y1 : (1 : Int) ≤ y.toInt := y1
    have y2 : y.toInt ≤ 1 := y2
    have ey : y = 1 := Int32.toInt_inj.mp (by rw [show (1 : Int32).toInt = 1 from rfl]; omega)
    subst ey
    have ht2 := ht
    obtain ⟨cB, cI, cZ, cJ, r, rfl⟩ := ht2
    obtain ⟨cA, ft, f, t0, at0, el⟩ := ty_arr (j := 2) hH ha (show pKT[16]? = some (1 + 2, 64, [pB]) from rfl) (by omega)
    cases t0
    have hin : vp_in i 64 := vp_in_iff.mpr ⟨by omega, by omega⟩
    refine gG_zast hx 2 (by decide +kernel) at0 rfl hin ?_
    have en : vp_nar .boolean 1 = 1 := by decide
    rw [en]
    have hok : ty_ok ((cB, .byte) :: (cI, .int) :: (cZ, .boolean) :: (cJ, .long) :: r) σ (3, 64, [pB]) (.inl (cZ, 64, .inl (upd f i.toNatClampNeg 1))) := ty_ok_ar (ft := .boolean) rfl (by omega) rfl (fun j hj => by
      by_cases e : j = i.toNatClampNeg
      · rw [e, pk_us]; exact ⟨1, rfl, by decide, by decide⟩
      · rw [pk_un e]; exact el j hj)
    exact J2 g σ _ ls [] hs hw (ty_H_set hH ha rfl hok) ⟨pR_lay hI.1 ha at0.2 hin, pK_set hK ha (pK_no (by decide)) hI.2⟩ (hF.tr (ty_F_set ha (fun q hq => ty_p_arr at0.2 q (fun e => hq (by rw [e]; decide))))) (ty_loc_mv (fun _ _ h => h) (ty_wpg pPG_s ha (by decide)) hL) trivial
  have J1 := ty_seg E1 [] _ (ty_1 Js) [(30, [(0, (2, 12, 0)), (1, (0, 0, 255)), (2, (0, 0, 29)), (3, (0, 0, 255)), (4, (1, 0, 0)), (6, (0, 2, 63)), (7, (0, 0, 32))], 7, 32, 0, 0)] 300 (0, ty_L0 0 ct_X5_lay.1, [], 0, 0) (by decide +kernel) (by decide +kernel)
  exact ty_enter (J1 0) (by decide +kernel) hav hH hI hls
