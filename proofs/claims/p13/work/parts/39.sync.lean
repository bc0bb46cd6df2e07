/-- both at 0 where they are one -/
theorem pRx_zero {e t fi be : Nat} {σ : ty_K} {M : mh_M} {m : Nat} {fs : List Value} (hI : pRx e t fi be σ M) (hm : σ m = some 12) (hat : M.2 m = .inr (7, fs)) (hl : 12 < fs.length) : pRx e t 0 0 σ (mh_set M m (.inr (7, (fs.set 11 (.int (nI 0))).set 12 (.int (nI 0))))) := by
  obtain ⟨h0, ne, dk, la, ta, by_, h1, h2, h3, h4, h5, h6⟩ := hI
  obtain ⟨r1, r2, r3⟩ := pRs_fs h1 hm hat
  refine ⟨h0, ne, dk, la, ta, by_, pRs_mk h0 h1 hm ?_ ?_ ?_, pArr_set hm (by decide) h2, pArr_set hm (by decide) h3, pArr_set hm (by decide) h4, pArr_set hm (by decide) h5, Nat.le_refl _, by have := h6.2.1; omega, h6.2.2.1, h6.2.2.2.1, h6.2.2.2.2.1, fun w q1 q2 _ => by omega⟩
  · rw [List.getElem?_set_ne (by omega), List.getElem?_set_self (by omega)]
  · rw [List.getElem?_set_self (by simp; omega)]
  · rw [List.getElem?_set_ne (by omega), List.getElem?_set_ne (by omega)]; exact r3
/-- KnowDiskModel.settle -/
theorem mt_X5_settle {l : Launch} {D : va_G} {tys : List (ClassId × FieldType)} {K : ty_K → mh_M → Prop} (ht : ty_tys tys) (hK : ty_sI pPSC K) (e t : Nat) : ty_Met l D vwCl tys pKT (pIK (pR e t) K) (pIK (pR e t) K) pPG yX5_settle cX5_settle 1 none 0 0 ct_X5_settle := by
  refine ty_of (by decide +kernel) (by decide +kernel) (by decide +kernel) ?_
  intro x av M0 σ0 ls0 post hx hl hnm hR hD hav hH0 hI0 hls hp hr
  have hG := pI_G ht hK e t
  have P := pv_X5_settle hG hx hl hnm hR hD
  have E := ty_env hG hx hR hr (fun v M σ h1 h2 h3 h4 => hp v M σ h1 h2 h3 h4 trivial) pd_X5_settle P
  have J61 := ty_seg E [] [] (fun h hh => absurd hh List.not_mem_nil) [] 10 (61, [], [], 0, 0) (by decide +kernel) (by decide +kernel)
  have J58 : ∀ g : Int, ty_J x vwCl 1 tys pKT (pIK (pR e t) K) pPG ct_X5_settle.2.2.1 ct_X5_settle.2.2.2.1 σ0 M0 g (ty_s0 (58, [], [(0, 0, 0), (2, 12, 0)], 0, 0)) := fun g =>
    ty_jput (kk := 12) (P.2.1 (64, 7, 16, .int) (by decide +kernel)) (by decide +kernel) rfl rfl (by decide +kernel) (by decide +kernel) (by decide +kernel) (by decide) (by decide) (fun σ M m fs v hH hI hk hat hlt hv => by
      obtain ⟨⟨fi, be, hX⟩, hKI⟩ := hI
      rw [ty_z0 hv]
      exact ⟨⟨fi, be, pRx_new hX hk hat.2 hlt (Nat.zero_le t)⟩, pK_set hK hk (pK_no (by decide)) hKI⟩) (J61 g)
  have J21 := ty_seg E [] _ (pcons J58 pnil) [] 100 (21, [(0, (2, 12, 0))], [], 0, 0) (by decide +kernel) (by decide +kernel)
  match av, hav with
  | [_], ⟨⟨m, e0, hm⟩, _⟩ =>
    subst e0
    have hm : σ0 m = some 12 := hm
    obtain ⟨⟨fi, be, hX⟩, hKI⟩ := id hI0
    have h0 : ls0[((0 : Fin 4) : Nat)]? = some (.val (.ref m)) := hls.2.2 (0, .ref m) List.mem_cons_self
    obtain ⟨hu, ne, dk, la, ta, by_, r1, r2, r3, r4, r5, r6⟩ := id hX
    obtain ⟨fs, hat, hfs⟩ := ty_obj hH0 hm (show pKT[12]? = some (0, 7, _) from rfl)
    obtain ⟨f11, f12, f16⟩ := pRs_fs r1 hm hat.2
    have hL0 : ∀ (σ : ty_K) (M : mh_M), σ m = some 12 → ty_loc σ 0 (pPG σ M) ls0 [(0, (2, 12, 0))] := fun σ M q z hz => by
      rw [List.mem_singleton.mp hz]
      exact ⟨_, h0, m, rfl, q⟩
    refine gG_sp hx (i := .aload_n 0) (len := 1) (by decide +kernel) (sp_al h0) ?_
    refine P.1 (70, 7, 11, .int) (by decide +kernel) 1 ls0 m fs _ _ M0 0 0 (by decide +kernel) hat f11 ?_
    refine gG_sp hx (i := .aload_n 0) (len := 1) (by decide +kernel) (sp_al h0) ?_
    refine P.1 (73, 7, 12, .int) (by decide +kernel) 5 ls0 m fs _ _ M0 0 0 (by decide +kernel) hat f12 ?_
    refine gG_ic hx (cn := .ne) (off := 13) (tgt := 21) (by decide +kernel) rfl (fun _ => ?_) (fun _ => ?_)
    · exact J21 0 σ0 M0 ls0 [] hls.1 hls.2.1 hH0 hI0 ty_F.rf (hL0 σ0 M0 hm) trivial
    · have z0 : ∀ t : ty_T, t = (0, 0, 1199) → ty_has σ0 0 ty_no (.int (nI 0)) t := fun t e => by rw [e]; exact ⟨_, rfl, by decide, by decide⟩
      obtain ⟨hH1, hl1⟩ := ty_putH (f := 11) hH0 hm (show pKT[12]? = some (0, 7, _) from rfl) hat rfl (z0 _ rfl)
      refine gG_sp hx (i := .aload_n 0) (len := 1) (by decide +kernel) (sp_al h0) ?_
      refine gG_sp hx (i := .iconst 0) (len := 1) (by decide +kernel) (r := [.int (nI 0), .ref m]) rfl ?_
      refine P.2.1 (70, 7, 11, .int) (by decide +kernel) 13 ls0 m fs (.int (nI 0)) [] M0 0 0 (by decide +kernel) hat hl1 rfl rfl ?_
      have hat1 : mh_at (mh_set M0 m (.inr (7, fs.set 11 (.int (nI 0))))) m (.inr (7, fs.set 11 (.int (nI 0)))) := hat.set_self
      obtain ⟨hH2, hl2⟩ := ty_putH (f := 12) hH1 hm (show pKT[12]? = some (0, 7, _) from rfl) hat1 rfl (z0 _ rfl)
      refine gG_sp hx (i := .aload_n 0) (len := 1) (by decide +kernel) (sp_al h0) ?_
      refine gG_sp hx (i := .iconst 0) (len := 1) (by decide +kernel) (r := [.int (nI 0), .ref m]) rfl ?_
      refine P.2.1 (73, 7, 12, .int) (by decide +kernel) 18 ls0 m _ (.int (nI 0)) [] _ 0 0 (by decide +kernel) hat1 hl2 rfl rfl ?_
      rw [mh_set_set] at hH2 ⊢
      have hl3 : 12 < fs.length := by simpa using hl2
      exact J21 0 σ0 _ ls0 [] hls.1 hls.2.1 hH2 ⟨⟨0, 0, pRx_zero hX hm hat.2 hl3⟩, pK_set hK hm (pK_no (by decide)) hKI⟩ (ty_F_set hm (fun i hi => by
        rw [hat.2]
        show Sum.inr (_[i]?) = Sum.inr (fs[i]?)
        rw [List.getElem?_set_ne (fun q => hi (by rw [← q]; decide)), List.getElem?_set_ne (fun q => hi (by rw [← q]; decide))])) (hL0 σ0 _ hm) trivial
