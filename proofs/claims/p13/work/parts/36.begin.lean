theorem ty_z0 {v : Value} {σ : ty_K} {g : Int} {pg : Int32 → Prop} (h : ty_has σ g pg v (0, 0, 0)) : v = .int (nI 0) := by
  obtain ⟨z, rfl, z1, z2⟩ := h
  have z1 : (0 : Int) ≤ z.toInt := z1
  have z2 : z.toInt ≤ 0 := z2
  have e : z = 0 := Int32.toInt_inj.mp (by rw [show (0 : Int32).toInt = 0 from rfl]; omega)
  rw [e, nI_0]
/-- KnowDiskModel.begin: nothing waits, the newest is the first -/
theorem mt_X5_begin {l : Launch} {D : va_G} {tys : List (ClassId × FieldType)} {K : ty_K → mh_M → Prop} (ht : ty_tys tys) (hK : ty_sI pPSC K) (e t : Nat) : ty_Met l D vwCl tys pKT (pIK (pR e t) K) (pIK (pR 64 0) K) pPG yX5_begin cX5_begin 5 none 0 0 ct_X5_begin := by
  refine ty_of (by decide +kernel) (by decide +kernel) (by decide +kernel) ?_
  intro x av M0 σ0 ls post hx hl hnm hR hD hav hH hI hls hp hr
  have hG1 := pI_G ht hK e t
  have hG2 := pI_G ht hK e 0
  have hG3 := pI_G ht hK 64 0
  have hps : ∀ (e t : Nat), ty_pst tys pKT (pIK (pR 64 0) K) ct_X5_begin.2.2.1 ct_X5_begin.2.2.2.1 σ0 M0 ct_X5_begin.2.1 post := fun _ _ v M σ h1 h2 h3 h4 => hp v M σ h1 h2 h3 h4 trivial
  have P3 := pv_X5_begin hG3 hx hl hnm hR hD
  have E3 := ty_env hG3 hx hR hr (hps 0 0) pd_X5_begin P3
  have J3 := ty_seg E3 [] [] (fun h hh => absurd hh List.not_mem_nil) [(47, [(0, (2, 12, 0)), (4, (0, 0, 30))], 4, 30, 0, 0), (71, [(0, (2, 12, 0)), (4, (0, 0, 64))], 4, 64, 0, 0), (95, [(0, (2, 12, 0)), (4, (0, 0, 2048))], 4, 2048, 0, 0)] 100 (39, [(0, (2, 12, 0))], [], 0, 0) (by decide +kernel) (by decide +kernel)
  have JB : ∀ g : Int, ty_J x vwCl 5 tys pKT (pIK (pR e 0) K) pPG ct_X5_begin.2.2.1 ct_X5_begin.2.2.2.1 σ0 M0 g (ty_s0 (31, [(0, (2, 12, 0))], [(0, 0, 0), (2, 12, 0)], 0, 0)) := by
    intro g σ M ls st hs hw hH hI hF hL hS
    obtain ⟨v, vs, rfl, hv, hvs⟩ := ty_stk_c hS
    obtain ⟨u, us, rfl, hu, hus⟩ := ty_stk_c hvs
    rw [ty_stk_n hus]
    obtain ⟨m, rfl, hk⟩ := hu.1
    have hk : σ m = some 12 := hk
    rw [ty_z0 hv.1]
    obtain ⟨w0, l0, m', rfl, hk'⟩ := hL (0, (2, 12, 0)) List.mem_cons_self
    have hk' : σ m' = some 12 := hk'
    obtain ⟨fi, be, hX⟩ := hI.1
    have em := hX.1 12 (by decide) m' m hk' hk
    subst em
    obtain ⟨fs, hat, hfs⟩ := ty_obj hH hk (show pKT[12]? = some (0, 7, _) from rfl)
    have z0 : ∀ t : ty_T, t = (0, 0, 1199) → ty_has σ 0 ty_no (.int (nI 0)) t := fun t e => by rw [e]; exact ⟨_, rfl, by decide, by decide⟩
    obtain ⟨hH1, hl1⟩ := ty_putH (f := 11) hH hk (show pKT[12]? = some (0, 7, _) from rfl) hat rfl (z0 _ rfl)
    refine P3.2.1 (70, 7, 11, .int) (by decide +kernel) 31 ls m' fs (.int (nI 0)) [] M 0 0 (by decide +kernel) hat hl1 rfl rfl ?_
    have hat1 : mh_at (mh_set M m' (.inr (7, fs.set 11 (.int (nI 0))))) m' (.inr (7, fs.set 11 (.int (nI 0)))) := hat.set_self
    obtain ⟨hH2, hl2⟩ := ty_putH (f := 12) hH1 hk (show pKT[12]? = some (0, 7, _) from rfl) hat1 rfl (z0 _ rfl)
    refine gG_sp hx (i := .aload_n 0) (len := 1) (by decide +kernel) (sp_al l0) ?_
    refine gG_sp hx (i := .iconst 0) (len := 1) (by decide +kernel) (r := [.int (nI 0), .ref m']) rfl ?_
    refine P3.2.1 (73, 7, 12, .int) (by decide +kernel) 36 ls m' _ (.int (nI 0)) [] _ 0 0 (by decide +kernel) hat1 hl2 rfl rfl ?_
    rw [mh_set_set] at hH2 ⊢
    have hl3 : 12 < fs.length := by simpa using hl2
    have F1 : ∀ fs', (∀ i, i ≠ 11 → i ≠ 12 → fs'[i]? = fs[i]?) → ty_FM ct_X5_begin.2.2.1 ct_X5_begin.2.2.2.1 σ M σ (mh_set M m' (.inr (7, fs'))) := fun fs' h => ty_F_set hk (fun i hi => by
      rw [hat.2]
      show Sum.inr (fs'[i]?) = Sum.inr (fs[i]?)
      rw [h i (fun q => hi (by rw [q]; decide)) (fun q => hi (by rw [q]; decide))])
    refine J3 g σ _ ls [] hs hw hH2 ⟨⟨0, 0, pRx_none hX hk hat.2 hl3⟩, pK_set hK hk (pK_no (by decide)) hI.2⟩ (hF.tr (F1 _ (fun i q1 q2 => by rw [List.getElem?_set_ne (Ne.symm q2), List.getElem?_set_ne (Ne.symm q1)]))) (ty_loc_mv (fun _ _ h => h) (ty_wpg pPG_s hk (by decide)) hL) trivial
  have P2 := pv_X5_begin hG2 hx hl hnm hR hD
  have P1 := pv_X5_begin hG1 hx hl hnm hR hD
  have E2 := ty_env hG2 hx hR hr ty_pN pd_X5_begin P2 (σ0 := σ0) (M0 := M0)
  have E1 := ty_env hG1 hx hR hr ty_pN pd_X5_begin P1 (σ0 := σ0) (M0 := M0)
  have J2 := ty_seg E2 [] _ (pcons JB pnil) [] 100 (10, [(0, (2, 12, 0)), (1, (0, 0, 2147483647)), (2, (1, 0, 0))], [], 0, 0) (by decide +kernel) (by decide +kernel)
  have JA : ∀ g : Int, ty_J x vwCl 5 tys pKT (pIK (pR e t) K) pPG ct_X5_begin.2.2.1 ct_X5_begin.2.2.2.1 σ0 M0 g (ty_s0 (7, [(0, (2, 12, 0)), (1, (0, 0, 2147483647)), (2, (1, 0, 0))], [(0, 0, 0), (2, 12, 0)], 0, 0)) := fun g =>
    ty_jput (kk := 12) (P1.2.1 (64, 7, 16, .int) (by decide +kernel)) (by decide +kernel) rfl rfl (by decide +kernel) (by decide +kernel) (by decide +kernel) (by decide) (by decide) (fun σ M m fs v hH hI hk hat hlt hv => by
      obtain ⟨⟨fi, be, hX⟩, hKI⟩ := hI
      rw [ty_z0 hv]
      exact ⟨⟨fi, be, pRx_new hX hk hat.2 hlt (Nat.le_refl 0)⟩, pK_set hK hk (pK_no (by decide)) hKI⟩) (J2 g)
  have J1 := ty_seg E1 [] _ (pcons JA pnil) [] 100 (0, ty_L0 0 ct_X5_begin.1, [], 0, 0) (by decide +kernel) (by decide +kernel)
  exact ty_enter (J1 0) (by decide +kernel) hav hH hI hls
