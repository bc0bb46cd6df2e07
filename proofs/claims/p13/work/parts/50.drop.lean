/-! KnowDiskModel.at, backup, drop, full -/
set_option maxRecDepth 100000 in
set_option maxHeartbeats 4000000 in
theorem mt_X5_at {l : Launch} {D : va_G} {tys : List (ClassId × FieldType)} {K : ty_K → mh_M → Prop} (ht : ty_tys tys) (hK : ty_sI pPSC K) (e t : Nat) : ty_Met l D vwCl tys pKT (pIK (pR e t) K) (pIK (pR e t) K) pPG yX5_at cX5_at 3 (some .byte) 1 22 ct_X5_at := by
  refine ty_of (by decide +kernel) (by decide +kernel) (by decide +kernel) ?_
  intro x av M0 σ0 ls0 post hx hl hnm hR hD hav hH0 hI0 hls hp hr
  have hG := pI_G ht hK e t
  have P := pv_X5_at hG hx hl hnm hR hD
  have E := ty_env hG hx hR hr (fun v M σ h1 h2 h3 h4 => hp v M σ h1 h2 h3 h4 trivial) pd_X5_at P
  have J34 := ty_seg E [] [] pnil [] 10 (34, [], [], 0, 0) (by decide +kernel) (by decide +kernel)
  have J38 := ty_seg E [] [] pnil [] 20 (38, [(0, (2, 12, 0)), (1, (4, 0, 29)), (2, (0, 0, 31))], [], 0, 0) (by decide +kernel) (by decide +kernel)
  have JA : ∀ g : Int, ty_J x vwCl 3 tys pKT (pIK (pR e t) K) pPG ct_X5_at.2.2.1 ct_X5_at.2.2.2.1 σ0 M0 g (ty_s0 (24, [(0, (2, 12, 0))], [(0, 1, 1), (2, 12, 0)], 0, 0)) := by
    intro g σ M ls st hs hw hH hI hF hL hS
    obtain ⟨v, vs, rfl, hv, hvs⟩ := ty_stk_c hS
    obtain ⟨u, us, rfl, hu, hus⟩ := ty_stk_c hvs
    rw [ty_stk_n hus]
    obtain ⟨m, rfl, hk⟩ := hu.1
    have hk : σ m = some 12 := hk
    obtain ⟨w0, h0, m', rfl, hk'⟩ := hL (0, (2, 12, 0)) List.mem_cons_self
    have em := pR_u σ M hI.1 12 (by decide) m' m hk' hk
    subst em
    obtain ⟨z, rfl, z1, z2⟩ := hv.1
    have z1 : (1 : Int) ≤ z.toInt := z1
    have z2 : z.toInt ≤ 1 := z2
    have ez : z = 1 := Int32.toInt_inj.mp (by rw [show (1 : Int32).toInt = 1 from rfl]; omega)
    subst ez
    obtain ⟨fs, hat, hfs⟩ := ty_obj hH hk (show pKT[12]? = some (0, 7, _) from rfl)
    obtain ⟨hH1, hl1⟩ := ty_putH (f := 20) (v := .int 1) hH hk (show pKT[12]? = some (0, 7, _) from rfl) hat rfl ⟨_, rfl, by decide, by decide⟩
    refine P.2.1 (168, 7, 20, .boolean) (by decide +kernel) 24 ls m' fs (.int 1) [] M 0 0 (by decide +kernel) hat hl1 rfl rfl ?_
    refine gG_sp hx (i := .aload_n 0) (len := 1) (by decide +kernel) (sp_al (j := 0) h0) ?_
    refine P.1 (168, 7, 20, .boolean) (by decide +kernel) 28 ls m' (fs.set 20 (.int 1)) _ _ _ 0 0 (by decide +kernel) hat.set_self (List.getElem?_set_self hl1) ?_
    refine gG_if hx (cn := .eq) (off := 7) (tgt := 38) (by decide +kernel) rfl (fun c => absurd c (by show ¬ (1 : Int32).toInt = 0; decide)) (fun _ => ?_)
    exact J34 g σ _ ls [] hs hw hH1 ⟨ty_sIset (pR_s e t) hk (fun i hi => ty_p_set hat.2 i (fun q => by rw [q] at hi; exact absurd hi (by decide))) hI.1, pK_set hK hk (pK_no (by decide)) hI.2⟩ (hF.tr (ty_F_set hk (fun i hi => ty_p_set hat.2 i (fun q => hi (by rw [q]; decide))))) (fun q hq => absurd hq List.not_mem_nil) trivial
  have JB : ∀ g : Int, ty_J x vwCl 3 tys pKT (pIK (pR e t) K) pPG ct_X5_at.2.2.1 ct_X5_at.2.2.2.1 σ0 M0 g (ty_s0 (24, [(0, (2, 12, 0)), (1, (4, 0, 29)), (2, (0, 0, 31))], [(0, 0, 0), (2, 12, 0)], 0, 0)) := by
    intro g σ M ls st hs hw hH hI hF hL hS
    obtain ⟨v, vs, rfl, hv, hvs⟩ := ty_stk_c hS
    obtain ⟨u, us, rfl, hu, hus⟩ := ty_stk_c hvs
    rw [ty_stk_n hus]
    obtain ⟨m, rfl, hk⟩ := hu.1
    have hk : σ m = some 12 := hk
    obtain ⟨w0, h0, m', rfl, hk'⟩ := hL (0, (2, 12, 0)) List.mem_cons_self
    have em := pR_u σ M hI.1 12 (by decide) m' m hk' hk
    subst em
    rw [ty_z0 hv.1]
    obtain ⟨fs, hat, hfs⟩ := ty_obj hH hk (show pKT[12]? = some (0, 7, _) from rfl)
    obtain ⟨hH1, hl1⟩ := ty_putH (f := 20) (v := .int (nI 0)) hH hk (show pKT[12]? = some (0, 7, _) from rfl) hat rfl ⟨_, rfl, by decide, by decide⟩
    refine P.2.1 (168, 7, 20, .boolean) (by decide +kernel) 24 ls m' fs (.int (nI 0)) [] M 0 0 (by decide +kernel) hat hl1 rfl rfl ?_
    refine gG_sp hx (i := .aload_n 0) (len := 1) (by decide +kernel) (sp_al (j := 0) h0) ?_
    refine P.1 (168, 7, 20, .boolean) (by decide +kernel) 28 ls m' (fs.set 20 (.int (nI 0))) _ _ _ 0 0 (by decide +kernel) hat.set_self (List.getElem?_set_self hl1) ?_
    refine gG_if hx (cn := .eq) (off := 7) (tgt := 38) (by decide +kernel) rfl (fun _ => ?_) (fun c => absurd (show (nI 0).toInt = 0 from by decide) c)
    exact J38 g σ _ ls [] hs hw hH1 ⟨ty_sIset (pR_s e t) hk (fun i hi => ty_p_set hat.2 i (fun q => by rw [q] at hi; exact absurd hi (by decide))) hI.1, pK_set hK hk (pK_no (by decide)) hI.2⟩ (hF.tr (ty_F_set hk (fun i hi => ty_p_set hat.2 i (fun q => hi (by rw [q]; decide))))) (ty_loc_mv (fun _ _ h => h) (ty_wpg pPG_s hk (by decide)) hL) trivial
  have J0 := ty_seg E [] _ (pcons JA (pcons JB pnil)) [] 30 (0, ty_L0 0 ct_X5_at.1, [], 0, 0) (by decide +kernel) (by decide +kernel)
  exact ty_enter (J0 0) (by decide +kernel) hav hH0 hI0 hls
set_option maxRecDepth 100000 in
set_option maxHeartbeats 4000000 in
theorem mt_X5_backup {l : Launch} {D : va_G} {tys : List (ClassId × FieldType)} {K : ty_K → mh_M → Prop} (ht : ty_tys tys) (hK : ty_sI pPSC K) (e t : Nat) : ty_Met l D vwCl tys pKT (pIK (pR e t) K) (pIK (pR e t) K) pPG yX5_backup cX5_backup 2 (some .int) 1 23 ct_X5_backup := by
  refine ty_of (by decide +kernel) (by decide +kernel) (by decide +kernel) ?_
  intro x av M0 σ0 ls0 post hx hl hnm hR hD hav hH0 hI0 hls hp hr
  have hG := pI_G ht hK e t
  have P := pv_X5_backup hG hx hl hnm hR hD
  have E := ty_env hG hx hR hr (fun v M σ h1 h2 h3 h4 => hp v M σ h1 h2 h3 h4 trivial) pd_X5_backup P
  have J33 := ty_seg E [] [] pnil [] 10 (33, [], [], 0, 0) (by decide +kernel) (by decide +kernel)
  have J74 := ty_seg E [] [] pnil [] 20 (74, [(0, (2, 12, 0))], [], 0, 0) (by decide +kernel) (by decide +kernel)
  have J25 : ∀ g : Int, ty_J x vwCl 2 tys pKT (pIK (pR e t) K) pPG ct_X5_backup.2.2.1 ct_X5_backup.2.2.2.1 σ0 M0 g (ty_s0 (25, [(0, (2, 12, 0)), (1, ty_f)], [], 0, 0)) := by
    intro g σ M ls st hs hw hH hI hF hL hS
    rw [ty_stk_n hS]
    obtain ⟨w0, h0, m, rfl, hm⟩ := hL (0, (2, 12, 0)) List.mem_cons_self
    have hm : σ m = some 12 := hm
    obtain ⟨w1, h1, nn, rfl, -⟩ := hL (1, ty_f) (List.mem_cons_of_mem _ List.mem_cons_self)
    obtain ⟨fs, hat, hfs⟩ := ty_obj hH hm (show pKT[12]? = some (0, 7, _) from rfl)
    obtain ⟨v19, f19, kv, rfl, k0, k1⟩ := hfs 19 (0, 0, 4) rfl
    have k0 : (0 : Int) ≤ kv.toInt := k0
    have k1 : kv.toInt ≤ 4 := k1
    obtain ⟨v16, f16, nw, rfl, n0, n1⟩ := hfs 16 (0, 0, 1198) rfl
    have n0 : (0 : Int) ≤ nw.toInt := n0
    have n1 : nw.toInt ≤ 1198 := n1
    obtain ⟨v17, f17, aN, rfl, hN⟩ := hfs 17 (2, 22, 0) rfl
    obtain ⟨v18, f18, aS, rfl, hSk⟩ := hfs 18 (2, 23, 0) rfl
    obtain ⟨v14, f14, aT, rfl, hT⟩ := hfs 14 (2, 21, 0) rfl
    have hN : σ aN = some 22 := hN
    have hSk : σ aS = some 23 := hSk
    have hT : σ aT = some 21 := hT
    have ht2 := ht
    obtain ⟨cB, cI, cZ, cJ, rr, rfl⟩ := ht2
    have e4 : (Int32.ofInt 4).toInt = 4 := rfl
    show gG x vwCl 25 ls [] M 0 0
    refine gG_sp hx (i := .aload_n 0) (len := 1) (by decide +kernel) (sp_al (j := 0) h0) ?_
    refine P.1 (67, 7, 19, .int) (by decide +kernel) 26 ls m fs _ _ M 0 0 (by decide +kernel) hat f19 ?_
    refine gG_sp hx (i := .iconst 4) (len := 1) (by decide +kernel) rfl ?_
    refine gG_ic hx (cn := .ne) (off := 6) (tgt := 36) (by decide +kernel) rfl (fun cn => ?_) (fun _ => J33 g σ M ls [] hs hw hH hI hF (fun q hq => absurd hq List.not_mem_nil) trivial)
    have cn : kv.toInt ≠ (Int32.ofInt 4).toInt := cn
    rw [e4] at cn
    have inK : vp_in kv 4 := vp_in_iff.mpr ⟨k0, by omega⟩
    have inN : vp_in nw 1200 := vp_in_iff.mpr ⟨n0, by omega⟩
    obtain ⟨cA, ft, fN, tN, atN, elN⟩ := ty_arr (j := 1) hH hN (show pKT[22]? = some (1 + 1, 4, [ty_f]) from rfl) (by omega)
    cases tN
    have hok : ty_ok ((cB, .byte) :: (cI, .int) :: (cZ, .boolean) :: (cJ, .long) :: rr) σ (2, 4, [ty_f]) (.inl (cI, 4, .inl (upd fN kv.toNatClampNeg nn))) := ty_ok_ar (ft := .int) rfl (by omega) rfl (fun j hj => ty_any _)
    have hH1 := ty_H_set hH hN rfl hok
    have hI1 : pIK (pR e t) K σ (mh_set M aN (.inl (cI, 4, .inl (upd fN kv.toNatClampNeg nn)))) := ⟨ty_sIset (pR_s e t) hN (fun i hi => ty_p_arr atN.2 i (fun q => by rw [q] at hi; exact absurd hi (by decide))) hI.1, pK_set hK hN (pK_no (by decide)) hI.2⟩
    have hF1 := hF.tr (ty_F_set (e := .inl (cI, 4, .inl (upd fN kv.toNatClampNeg nn))) hN (fun i hi => ty_p_arr atN.2 i (fun q => hi (by rw [q]; decide))))
    have hat1 : mh_at (mh_set M aN (.inl (cI, 4, .inl (upd fN kv.toNatClampNeg nn)))) m (.inr (7, fs)) := hat.set_ne (fun q => by rw [q, hN] at hm; cases hm)
    refine gG_sp hx (i := .aload_n 0) (len := 1) (by decide +kernel) (sp_al (j := 0) h0) ?_
    refine P.1 (44, 7, 17, .array .int) (by decide +kernel) 37 ls m fs _ _ M 0 0 (by decide +kernel) hat f17 ?_
    refine gG_sp hx (i := .aload_n 0) (len := 1) (by decide +kernel) (sp_al (j := 0) h0) ?_
    refine P.1 (67, 7, 19, .int) (by decide +kernel) 41 ls m fs _ _ M 0 0 (by decide +kernel) hat f19 ?_
    refine gG_sp hx (i := .iload_n 1) (len := 1) (by decide +kernel) (sp_il (j := 1) h1) ?_
    refine gG_iast hx 1 (by decide +kernel) atN rfl inK ?_
    generalize mh_set M aN (.inl (cI, 4, .inl (upd fN kv.toNatClampNeg nn))) = M1 at hH1 hI1 hF1 hat1 ⊢
    obtain ⟨cA2, ft2, fS, tS, atS⟩ := ty_arrL hH1 hSk (show pKT[23]? = some (23, 4, []) from rfl)
    cases tS
    obtain ⟨cA3, ft3, fT, tT, atT⟩ := ty_arrL hH1 hT (show pKT[21]? = some (23, 1200, []) from rfl)
    cases tT
    have hH2 := ty_H_set hH1 hSk rfl (ty_ok_al (ft := .long) (N := 4) (ts := []) (f := vp_updL fS kv.toNatClampNeg (fT nw.toNatClampNeg)) (tys := ((cB, .byte) :: (cI, .int) :: (cZ, .boolean) :: (cJ, .long) :: rr)) rfl)
    have hI2 : pIK (pR e t) K σ (mh_set M1 aS (.inl (cJ, 4, .inr (.inl (vp_updL fS kv.toNatClampNeg (fT nw.toNatClampNeg)))))) := ⟨ty_sIset (pR_s e t) hSk (fun i hi => ty_p_arr atS.2 i (fun q => by rw [q] at hi; exact absurd hi (by decide))) hI1.1, pK_set hK hSk (pK_no (by decide)) hI1.2⟩
    have hF2 := hF1.tr (ty_F_set (e := .inl (cJ, 4, .inr (.inl (vp_updL fS kv.toNatClampNeg (fT nw.toNatClampNeg))))) hSk (fun i hi => ty_p_arr atS.2 i (fun q => hi (by rw [q]; decide))))
    have hat2 : mh_at (mh_set M1 aS (.inl (cJ, 4, .inr (.inl (vp_updL fS kv.toNatClampNeg (fT nw.toNatClampNeg)))))) m (.inr (7, fs)) := hat1.set_ne (fun q => by rw [q, hSk] at hm; cases hm)
    refine gG_sp hx (i := .aload_n 0) (len := 1) (by decide +kernel) (sp_al (j := 0) h0) ?_
    refine P.1 (47, 7, 18, .array .long) (by decide +kernel) 47 ls m fs _ _ M1 0 0 (by decide +kernel) hat1 f18 ?_
    refine gG_sp hx (i := .aload_n 0) (len := 1) (by decide +kernel) (sp_al (j := 0) h0) ?_
    refine P.1 (67, 7, 19, .int) (by decide +kernel) 51 ls m fs _ _ M1 0 0 (by decide +kernel) hat1 f19 ?_
    refine gG_sp hx (i := .aload_n 0) (len := 1) (by decide +kernel) (sp_al (j := 0) h0) ?_
    refine P.1 (40, 7, 14, .array .long) (by decide +kernel) 55 ls m fs _ _ M1 0 0 (by decide +kernel) hat1 f14 ?_
    refine gG_sp hx (i := .aload_n 0) (len := 1) (by decide +kernel) (sp_al (j := 0) h0) ?_
    refine P.1 (64, 7, 16, .int) (by decide +kernel) 59 ls m fs _ _ M1 0 0 (by decide +kernel) hat1 f16 ?_
    refine gG_lald hx 3 (by decide +kernel) atT rfl inN ?_
    refine gG_last hx 3 (by decide +kernel) atS rfl inK ?_
    generalize mh_set M1 aS (.inl (cJ, 4, .inr (.inl (vp_updL fS kv.toNatClampNeg (fT nw.toNatClampNeg))))) = M2 at hH2 hI2 hF2 hat2 ⊢
    refine gG_sp hx (i := .aload_n 0) (len := 1) (by decide +kernel) (sp_al (j := 0) h0) ?_
    refine gG_sp hx (i := .dup) (len := 1) (by decide +kernel) rfl ?_
    refine P.1 (67, 7, 19, .int) (by decide +kernel) 66 ls m fs _ _ M2 0 0 (by decide +kernel) hat2 f19 ?_
    refine gG_sp hx (i := .iconst 1) (len := 1) (by decide +kernel) rfl ?_
    refine gG_sp hx (i := .iadd) (len := 1) (by decide +kernel) rfl ?_
    have ek : (kv + Int32.ofInt 1).toInt = kv.toInt + 1 := ty_addI rfl rfl (by omega) (by omega)
    obtain ⟨hH3, hl3⟩ := ty_putH (f := 19) (v := .int (kv + Int32.ofInt 1)) hH2 hm (show pKT[12]? = some (0, 7, _) from rfl) hat2 rfl ⟨_, rfl, by rw [ek]; show (0 : Int) ≤ _; omega, by rw [ek]; show _ ≤ (4 : Int); omega⟩
    refine P.2.1 (67, 7, 19, .int) (by decide +kernel) 71 ls m fs (.int (kv + Int32.ofInt 1)) [] M2 0 0 (by decide +kernel) hat2 hl3 rfl rfl ?_
    exact J74 g σ _ ls [] hs hw hH3 ⟨ty_sIset (pR_s e t) hm (fun i hi => ty_p_set hat2.2 i (fun q => by rw [q] at hi; exact absurd hi (by decide))) hI2.1, pK_set hK hm (pK_no (by decide)) hI2.2⟩ (hF2.tr (ty_F_set hm (fun i hi => ty_p_set hat2.2 i (fun q => hi (by rw [q]; decide))))) (fun q hq => by
      have hq : q ∈ ([(0, (2, 12, 0))] : ty_L) := hq
      rw [List.mem_singleton.mp hq]
      exact ⟨_, h0, m, rfl, hm⟩) trivial
  have J0 := ty_seg E [] _ (pcons J25 pnil) [] 30 (0, ty_L0 0 ct_X5_backup.1, [], 0, 0) (by decide +kernel) (by decide +kernel)
  exact ty_enter (J0 0) (by decide +kernel) hav hH0 hI0 hls
set_option maxRecDepth 100000 in
set_option maxHeartbeats 4000000 in
theorem mt_X5_drop {l : Launch} {D : va_G} {tys : List (ClassId × FieldType)} {K : ty_K → mh_M → Prop} (ht : ty_tys tys) (hK : ty_sI pPSC K) (e t : Nat) : ty_Met l D vwCl tys pKT (pIK (pR e t) K) (pIK (pR e t) K) pPG yX5_drop cX5_drop 5 (some .int) 3 68 ct_X5_drop := by
  refine ty_of (by decide +kernel) (by decide +kernel) (by decide +kernel) ?_
  intro x av M0 σ0 ls0 post hx hl hnm hR hD hav hH0 hI0 hls hp hr
  have hG := pI_G ht hK e t
  have P := pv_X5_drop hG hx hl hnm hR hD
  have E := ty_env hG hx hR hr (fun v M σ h1 h2 h3 h4 => hp v M σ h1 h2 h3 h4 trivial) pd_X5_drop P
  have J44 := ty_seg E [] [] pnil [] 10 (44, [], [], 0, 0) (by decide +kernel) (by decide +kernel)
  have J111 := ty_seg E [] [] pnil [] 20 (111, [(0, (2, 12, 0)), (3, ty_f)], [], 0, 0) (by decide +kernel) (by decide +kernel)
  have ht2 := ht
  obtain ⟨cB, cI, cZ, cJ, rr, rfl⟩ := ht2
  have loop2 : ∀ (n : Nat) (j b v : Int32) (m : Nat) (fs : List Value) (σ : ty_K) (M : mh_M) (ls : Array Slot), (4 - j.toInt).toNat < n → 0 ≤ j.toInt → j.toInt ≤ 4 → v.toInt ≤ 3 → ls.size = 5 → lv_wf ls → ls[((0 : Fin 4) : Nat)]? = some (.val (.ref m)) → ls[((3 : Fin 4) : Nat)]? = some (.val (.int b)) → ls[4]? = some (.val (.int j)) → σ m = some 12 → mh_at M m (.inr (7, fs)) → fs[19]? = some (.int v) → ty_H ((cB, .byte) :: (cI, .int) :: (cZ, .boolean) :: (cJ, .long) :: rr) pKT σ M → pIK (pR e t) K σ M → ty_FM ct_X5_drop.2.2.1 ct_X5_drop.2.2.2.1 σ0 M0 σ M → gG x vwCl 64 ls [] M 0 0 := by
    intro n
    induction n with
    | zero => intro j b v m fs σ M ls hn; omega
    | succ n ih =>
      intro j b v m fs σ M ls hn j0 j1 hv hs hw h0 h3 h4 hm hat f19 hH hI hF
      obtain ⟨fs', hat', hfs⟩ := ty_obj hH hm (show pKT[12]? = some (0, 7, _) from rfl)
      have efs := hat.uniq hat'
      cases efs
      obtain ⟨v17, f17, aN, rfl, hN⟩ := hfs 17 (2, 22, 0) rfl
      obtain ⟨v18, f18, aS, rfl, hSk⟩ := hfs 18 (2, 23, 0) rfl
      have hN : σ aN = some 22 := hN
      have hSk : σ aS = some 23 := hSk
      refine gG_sp hx (i := .iload 4) (len := 2) (by decide +kernel) (sp_il2 h4) ?_
      refine gG_sp hx (i := .aload_n 0) (len := 1) (by decide +kernel) (sp_al h0) ?_
      refine P.1 (67, 7, 19, .int) (by decide +kernel) 67 ls m fs _ _ M 0 0 (by decide +kernel) hat f19 ?_
      refine gG_ic hx (cn := .ge) (off := 41) (tgt := 111) (by decide +kernel) rfl (fun _ => J111 0 σ M ls [] hs hw hH hI hF (fun q hq => by
        have hq : q ∈ ([(0, (2, 12, 0)), (3, ty_f)] : ty_L) := hq
        simp only [List.mem_cons, List.not_mem_nil, or_false] at hq
        rcases hq with rfl | rfl
        · exact ⟨_, h0, m, rfl, hm⟩
        · exact ⟨_, h3, ty_any b⟩) trivial) (fun cg => ?_)
      have cg : ¬ v.toInt ≤ j.toInt := cg
      have ej1 : (j + Int32.ofInt 1).toInt = j.toInt + 1 := ty_addI rfl rfl (by omega) (by omega)
      have inJ : vp_in j 4 := vp_in_iff.mpr ⟨j0, by omega⟩
      have inJ1 : vp_in (j + Int32.ofInt 1) 4 := vp_in_iff.mpr ⟨by omega, by omega⟩
      obtain ⟨cA, ft, fN, tN, atN, elN⟩ := ty_arr (j := 1) hH hN (show pKT[22]? = some (1 + 1, 4, [ty_f]) from rfl) (by omega)
      cases tN
      have hok : ty_ok ((cB, .byte) :: (cI, .int) :: (cZ, .boolean) :: (cJ, .long) :: rr) σ (2, 4, [ty_f]) (.inl (cI, 4, .inl (upd fN j.toNatClampNeg (fN (j + Int32.ofInt 1).toNatClampNeg)))) := ty_ok_ar (ft := .int) rfl (by omega) rfl (fun j hj => ty_any _)
      have hH1 := ty_H_set hH hN rfl hok
      have hI1 : pIK (pR e t) K σ (mh_set M aN (.inl (cI, 4, .inl (upd fN j.toNatClampNeg (fN (j + Int32.ofInt 1).toNatClampNeg))))) := ⟨ty_sIset (pR_s e t) hN (fun i hi => ty_p_arr atN.2 i (fun q => by rw [q] at hi; exact absurd hi (by decide))) hI.1, pK_set hK hN (pK_no (by decide)) hI.2⟩
      have hF1 := hF.tr (ty_F_set (e := .inl (cI, 4, .inl (upd fN j.toNatClampNeg (fN (j + Int32.ofInt 1).toNatClampNeg)))) hN (fun i hi => ty_p_arr atN.2 i (fun q => hi (by rw [q]; decide))))
      have hat1 : mh_at (mh_set M aN (.inl (cI, 4, .inl (upd fN j.toNatClampNeg (fN (j + Int32.ofInt 1).toNatClampNeg))))) m (.inr (7, fs)) := hat.set_ne (fun q => by rw [q, hN] at hm; cases hm)
      refine gG_sp hx (i := .aload_n 0) (len := 1) (by decide +kernel) (sp_al h0) ?_
      refine P.1 (44, 7, 17, .array .int) (by decide +kernel) 74 ls m fs _ _ M 0 0 (by decide +kernel) hat f17 ?_
      refine gG_sp hx (i := .iload 4) (len := 2) (by decide +kernel) (sp_il2 h4) ?_
      refine gG_sp hx (i := .aload_n 0) (len := 1) (by decide +kernel) (sp_al h0) ?_
      refine P.1 (44, 7, 17, .array .int) (by decide +kernel) 80 ls m fs _ _ M 0 0 (by decide +kernel) hat f17 ?_
      refine gG_sp hx (i := .iload 4) (len := 2) (by decide +kernel) (sp_il2 h4) ?_
      refine gG_sp hx (i := .iconst 1) (len := 1) (by decide +kernel) rfl ?_
      refine gG_sp hx (i := .iadd) (len := 1) (by decide +kernel) rfl ?_
      refine gG_iald hx 1 (by decide +kernel) atN rfl inJ1 ?_
      refine gG_iast hx 1 (by decide +kernel) atN rfl inJ ?_
      generalize mh_set M aN (.inl (cI, 4, .inl (upd fN j.toNatClampNeg (fN (j + Int32.ofInt 1).toNatClampNeg)))) = M1 at hH1 hI1 hF1 hat1 ⊢
      obtain ⟨cA2, ft2, fS, tS, atS⟩ := ty_arrL hH1 hSk (show pKT[23]? = some (23, 4, []) from rfl)
      cases tS
      have hH2 := ty_H_set hH1 hSk rfl (ty_ok_al (ft := .long) (N := 4) (ts := []) (f := vp_updL fS j.toNatClampNeg (fS (j + Int32.ofInt 1).toNatClampNeg)) (tys := ((cB, .byte) :: (cI, .int) :: (cZ, .boolean) :: (cJ, .long) :: rr)) rfl)
      have hI2 : pIK (pR e t) K σ (mh_set M1 aS (.inl (cJ, 4, .inr (.inl (vp_updL fS j.toNatClampNeg (fS (j + Int32.ofInt 1).toNatClampNeg)))))) := ⟨ty_sIset (pR_s e t) hSk (fun i hi => ty_p_arr atS.2 i (fun q => by rw [q] at hi; exact absurd hi (by decide))) hI1.1, pK_set hK hSk (pK_no (by decide)) hI1.2⟩
      have hF2 := hF1.tr (ty_F_set (e := .inl (cJ, 4, .inr (.inl (vp_updL fS j.toNatClampNeg (fS (j + Int32.ofInt 1).toNatClampNeg))))) hSk (fun i hi => ty_p_arr atS.2 i (fun q => hi (by rw [q]; decide))))
      have hat2 : mh_at (mh_set M1 aS (.inl (cJ, 4, .inr (.inl (vp_updL fS j.toNatClampNeg (fS (j + Int32.ofInt 1).toNatClampNeg)))))) m (.inr (7, fs)) := hat1.set_ne (fun q => by rw [q, hSk] at hm; cases hm)
      refine gG_sp hx (i := .aload_n 0) (len := 1) (by decide +kernel) (sp_al h0) ?_
      refine P.1 (47, 7, 18, .array .long) (by decide +kernel) 90 ls m fs _ _ M1 0 0 (by decide +kernel) hat1 f18 ?_
      refine gG_sp hx (i := .iload 4) (len := 2) (by decide +kernel) (sp_il2 h4) ?_
      refine gG_sp hx (i := .aload_n 0) (len := 1) (by decide +kernel) (sp_al h0) ?_
      refine P.1 (47, 7, 18, .array .long) (by decide +kernel) 96 ls m fs _ _ M1 0 0 (by decide +kernel) hat1 f18 ?_
      refine gG_sp hx (i := .iload 4) (len := 2) (by decide +kernel) (sp_il2 h4) ?_
      refine gG_sp hx (i := .iconst 1) (len := 1) (by decide +kernel) rfl ?_
      refine gG_sp hx (i := .iadd) (len := 1) (by decide +kernel) rfl ?_
      refine gG_lald hx 3 (by decide +kernel) atS rfl inJ1 ?_
      refine gG_last hx 3 (by decide +kernel) atS rfl inJ ?_
      refine gG_iinc hx hs hw (i := 4) (z := 1) (v := j) (by decide +kernel) h4 (fun ls' hp' => ?_)
      refine gG_goto hx (off := -44) (tgt := 64) (by decide +kernel) rfl ?_
      exact ih (j + Int32.ofInt 1) b v m fs σ _ ls' (by omega) (by omega) (by omega) hv hp'.1 hp'.2.1 (ty_kp hp' h0 (by omega) (by omega)) (ty_kp hp' h3 (by omega) (Or.inl rfl)) hp'.2.2.1 hm hat2 f19 hH2 hI2 hF2
  have J36 : ∀ (m : Nat) (k v nn : Int32) (fs : List Value) (σ : ty_K) (M : mh_M) (ls : Array Slot), 0 ≤ k.toInt → k.toInt ≤ v.toInt → v.toInt ≤ 4 → ls.size = 5 → lv_wf ls → ls[((0 : Fin 4) : Nat)]? = some (.val (.ref m)) → ls[((2 : Fin 4) : Nat)]? = some (.val (.int k)) → σ m = some 12 → mh_at M m (.inr (7, fs)) → fs[19]? = some (.int v) → ty_H ((cB, .byte) :: (cI, .int) :: (cZ, .boolean) :: (cJ, .long) :: rr) pKT σ M → pIK (pR e t) K σ M → ty_FM ct_X5_drop.2.2.1 ct_X5_drop.2.2.2.1 σ0 M0 σ M → gG x vwCl 36 ls [] M 0 0 := by
    intro m k v nn fs σ M ls k0 k1 v1 hs hw h0 h2 hm hat f19 hH hI hF
    refine gG_sp hx (i := .iload_n 2) (len := 1) (by decide +kernel) (sp_il h2) ?_
    refine gG_sp hx (i := .aload_n 0) (len := 1) (by decide +kernel) (sp_al h0) ?_
    refine P.1 (67, 7, 19, .int) (by decide +kernel) 38 ls m fs _ _ M 0 0 (by decide +kernel) hat f19 ?_
    refine gG_ic hx (cn := .ne) (off := 5) (tgt := 46) (by decide +kernel) rfl (fun cn => ?_) (fun _ => J44 0 σ M ls [] hs hw hH hI hF (fun q hq => absurd hq List.not_mem_nil) trivial)
    have cn : k.toInt ≠ v.toInt := cn
    refine gG_sp hx (i := .aload_n 0) (len := 1) (by decide +kernel) (sp_al (j := 0) h0) ?_
    refine P.2.2.1 (525, ct_X5_heldCount) List.mem_cons_self 47 ls (.invokevirtual 175) [.ref m] [] M σ 0 0 (by decide +kernel) (Or.inl ⟨175, rfl, rfl⟩) hs ⟨⟨m, rfl, hm⟩, trivial⟩ hH hI (Nat.zero_le 8) (by rw [hR]; decide) (by rw [hR]; decide) (fun v' M' σ' q1 q2 q3 q4 q5 => ?_)
    obtain ⟨u, rfl, b, rfl, -⟩ := q4
    have hm' := q1.kinds m 12 hm
    have hF' : ty_FM ct_X5_drop.2.2.1 ct_X5_drop.2.2.2.1 σ0 M0 σ' M' := hF.tr (ty_FMw (by decide) (by decide) q1)
    obtain ⟨fs', hat', hfs'⟩ := ty_obj q2 hm' (show pKT[12]? = some (0, 7, _) from rfl)
    have f19' : fs'[19]? = some (.int v) := by
      have h3 := (q1.2.1 m 12 hm).2 19 (by decide)
      rw [hat'.2, hat.2] at h3
      exact (Sum.inr.inj h3).trans f19
    refine gG_istore hx hs hw (i := 3) (len := 1) (Or.inr ⟨3, by decide +kernel, rfl, rfl⟩) (by decide) (fun ls1 p1 => ?_)
    have k0' := ty_kp p1 h0 (by omega) (by omega)
    have k2' := ty_kp p1 h2 (by omega) (Or.inl rfl)
    refine gG_sp hx (i := .aload_n 0) (len := 1) (by decide +kernel) (sp_al (j := 0) k0') ?_
    refine gG_sp hx (i := .dup) (len := 1) (by decide +kernel) rfl ?_
    refine P.1 (67, 7, 19, .int) (by decide +kernel) 53 ls1 m fs' _ _ M' 0 0 (by decide +kernel) hat' f19' ?_
    refine gG_sp hx (i := .iconst 1) (len := 1) (by decide +kernel) rfl ?_
    refine gG_sp hx (i := .isub) (len := 1) (by decide +kernel) rfl ?_
    have ek : (v - Int32.ofInt 1).toInt = v.toInt - 1 := by rw [Int32.toInt_sub, show (Int32.ofInt 1).toInt = 1 from rfl, ty_bm (by omega) (by omega)]
    obtain ⟨hH3, hl3⟩ := ty_putH (f := 19) (v := .int (v - Int32.ofInt 1)) q2 hm' (show pKT[12]? = some (0, 7, _) from rfl) hat' rfl ⟨_, rfl, by rw [ek]; show (0 : Int) ≤ _; omega, by rw [ek]; show _ ≤ (4 : Int); omega⟩
    refine P.2.1 (67, 7, 19, .int) (by decide +kernel) 58 ls1 m fs' (.int (v - Int32.ofInt 1)) [] M' 0 0 (by decide +kernel) hat' hl3 rfl rfl ?_
    refine gG_sp hx (i := .iload_n 2) (len := 1) (by decide +kernel) (sp_il (j := 2) k2') ?_
    refine gG_istore hx p1.1 p1.2.1 (i := 4) (len := 2) (Or.inl ⟨by decide +kernel, rfl⟩) (by decide) (fun ls2 p2 => ?_)
    exact loop2 5 k b (v - Int32.ofInt 1) m _ σ' _ ls2 (by omega) k0 (by omega) (by omega) p2.1 p2.2.1 (ty_kp p2 k0' (by omega) (by omega)) (ty_kp p2 p1.2.2.1 (by omega) (Or.inl rfl)) p2.2.2.1 hm' hat'.set_self (List.getElem?_set_self hl3) hH3 ⟨ty_sIset (pR_s e t) hm' (fun i hi => ty_p_set hat'.2 i (fun q => by rw [q] at hi; exact absurd hi (by decide))) q3.1, pK_set hK hm' (pK_no (by decide)) q3.2⟩ (hF'.tr (ty_F_set hm' (fun i hi => ty_p_set hat'.2 i (fun q => hi (by rw [q]; decide)))))
  have J10 : ∀ g : Int, ty_J x vwCl 5 ((cB, .byte) :: (cI, .int) :: (cZ, .boolean) :: (cJ, .long) :: rr) pKT (pIK (pR e t) K) pPG ct_X5_drop.2.2.1 ct_X5_drop.2.2.2.1 σ0 M0 g (ty_s0 (10, [(0, (2, 12, 0)), (1, ty_f)], [], 0, 0)) := by
    intro g σ M ls st hs hw hH hI hF hL hS
    rw [ty_stk_n hS]
    obtain ⟨w0, h0, m, rfl, hm⟩ := hL (0, (2, 12, 0)) List.mem_cons_self
    have hm : σ m = some 12 := hm
    obtain ⟨w1, h1, nn, rfl, -⟩ := hL (1, ty_f) (List.mem_cons_of_mem _ List.mem_cons_self)
    obtain ⟨fs, hat, hfs⟩ := ty_obj hH hm (show pKT[12]? = some (0, 7, _) from rfl)
    obtain ⟨v19, f19, v, rfl, v0, v1⟩ := hfs 19 (0, 0, 4) rfl
    have v0 : (0 : Int) ≤ v.toInt := v0
    have v1 : v.toInt ≤ 4 := v1
    obtain ⟨v17, f17, aN, rfl, hN⟩ := hfs 17 (2, 22, 0) rfl
    have hN : σ aN = some 22 := hN
    obtain ⟨cA, ft, fN, tN, atN, elN⟩ := ty_arr (j := 1) hH hN (show pKT[22]? = some (1 + 1, 4, [ty_f]) from rfl) (by omega)
    cases tN
    have loop : ∀ (n : Nat) (k : Int32) (ls : Array Slot), (4 - k.toInt).toNat < n → 0 ≤ k.toInt → k.toInt ≤ v.toInt → ls.size = 5 → lv_wf ls → ls[((0 : Fin 4) : Nat)]? = some (.val (.ref m)) → ls[((1 : Fin 4) : Nat)]? = some (.val (.int nn)) → ls[((2 : Fin 4) : Nat)]? = some (.val (.int k)) → gG x vwCl 12 ls [] M 0 0 := by
      intro n
      induction n with
      | zero => intro k ls hn; omega
      | succ n ih =>
        intro k ls hn k0 k1 hs hw h0 h1 h2
        refine gG_sp hx (i := .iload_n 2) (len := 1) (by decide +kernel) (sp_il h2) ?_
        refine gG_sp hx (i := .aload_n 0) (len := 1) (by decide +kernel) (sp_al h0) ?_
        refine P.1 (67, 7, 19, .int) (by decide +kernel) 14 ls m fs _ _ M 0 0 (by decide +kernel) hat f19 ?_
        refine gG_ic hx (cn := .ge) (off := 19) (tgt := 36) (by decide +kernel) rfl (fun _ => J36 m k v nn fs σ M ls k0 k1 v1 hs hw h0 h2 hm hat f19 hH hI hF) (fun cg => ?_)
        have cg : ¬ v.toInt ≤ k.toInt := cg
        have inK : vp_in k 4 := vp_in_iff.mpr ⟨k0, by omega⟩
        refine gG_sp hx (i := .aload_n 0) (len := 1) (by decide +kernel) (sp_al h0) ?_
        refine P.1 (44, 7, 17, .array .int) (by decide +kernel) 21 ls m fs _ _ M 0 0 (by decide +kernel) hat f17 ?_
        refine gG_sp hx (i := .iload_n 2) (len := 1) (by decide +kernel) (sp_il h2) ?_
        refine gG_iald hx 1 (by decide +kernel) atN rfl inK ?_
        refine gG_sp hx (i := .iload_n 1) (len := 1) (by decide +kernel) (sp_il h1) ?_
        refine gG_ic hx (cn := .eq) (off := 9) (tgt := 36) (by decide +kernel) rfl (fun _ => J36 m k v nn fs σ M ls k0 k1 v1 hs hw h0 h2 hm hat f19 hH hI hF) (fun _ => ?_)
        refine gG_iinc hx hs hw (i := 2) (z := 1) (v := k) (by decide +kernel) h2 (fun ls' hp' => ?_)
        refine gG_goto hx (off := -21) (tgt := 12) (by decide +kernel) rfl ?_
        have ek1 : (k + Int32.ofInt 1).toInt = k.toInt + 1 := ty_addI rfl rfl (by omega) (by omega)
        exact ih (k + Int32.ofInt 1) ls' (by omega) (by omega) (by omega) hp'.1 hp'.2.1 (ty_kp hp' h0 (by omega) (by omega)) (ty_kp hp' h1 (by omega) (Or.inl rfl)) hp'.2.2.1
    show gG x vwCl 10 ls [] M 0 0
    refine gG_sp hx (i := .iconst 0) (len := 1) (by decide +kernel) rfl ?_
    refine gG_istore hx hs hw (i := 2) (len := 1) (Or.inr ⟨2, by decide +kernel, rfl, rfl⟩) (by decide) (fun ls1 p1 => ?_)
    exact loop 5 (Int32.ofInt 0) ls1 (by decide) (by decide) (by show (0 : Int) ≤ v.toInt; omega) p1.1 p1.2.1 (ty_kp p1 h0 (by omega) (by omega)) (ty_kp p1 h1 (by omega) (Or.inl rfl)) p1.2.2.1
  have J0 := ty_seg E [] _ (pcons J10 pnil) [] 30 (0, ty_L0 0 ct_X5_drop.1, [], 0, 0) (by decide +kernel) (by decide +kernel)
  exact ty_enter (J0 0) (by decide +kernel) hav hH0 hI0 hls
/-- KnowDiskModel.full exactly -/
theorem mx_X5_full {l : Launch} {D : va_G} {tys : List (ClassId × FieldType)} {INV : ty_K → mh_M → Prop} (hG : pG tys INV) {M : mh_M} {m : Nat} {fs : List Value} {was on : Int32} (hat : mh_at M m (.inr (7, fs))) (f2 : fs[2]? = some (.int was)) (hw0 : 0 ≤ was.toInt) (hw1 : was.toInt ≤ 1) (ho0 : 0 ≤ on.toInt) (ho1 : on.toInt ≤ 1) : mh_Met vwCl tys l D yX5_full [Cond.code yX5_full cX5_full 3 (some .boolean)] (ty_rm 0 0 ct_X5_full) [.ref m, .int on] M (fun v M' => v = some (.int was) ∧ M' = mh_set M m (.inr (7, fs.set 2 (.int on)))) := by
  refine ty_ofX (by decide +kernel) (by show 2 ≤ 3; omega) ?_
  intro x ls hx hl hnm hR hD hls hr
  have P := pv_X5_full hG hx hl hnm hR hD
  have h0 : ls[((0 : Fin 4) : Nat)]? = some (.val (.ref m)) := hls.2.2 (0, .ref m) List.mem_cons_self
  have h1 : ls[((1 : Fin 4) : Nat)]? = some (.val (.int on)) := hls.2.2 (1, .int on) (List.mem_cons_of_mem _ List.mem_cons_self)
  have hlt := (List.getElem?_eq_some_iff.mp f2).1
  have nar : ∀ z : Int32, 0 ≤ z.toInt → z.toInt ≤ 1 → narrow .boolean (.int z) = .int z := fun z z0 z1 => by
    rcases (by omega : z.toInt = 0 ∨ z.toInt = 1) with q | q
    · rw [show z = 0 from Int32.toInt_inj.mp q]; rfl
    · rw [show z = 1 from Int32.toInt_inj.mp q]; rfl
  refine gG_sp hx (i := .aload_n 0) (len := 1) (by decide +kernel) (sp_al h0) ?_
  refine P.1 (117, 7, 2, .boolean) (by decide +kernel) 1 ls m fs _ _ M 0 0 (by decide +kernel) hat f2 ?_
  refine gG_istore hx hls.1 hls.2.1 (i := 2) (len := 1) (Or.inr ⟨2, by decide +kernel, rfl, rfl⟩) (by decide) (fun ls1 p1 => ?_)
  have h0 : ls1[((0 : Fin 4) : Nat)]? = some (.val (.ref m)) := ty_kp p1 h0 (by omega) (Or.inl rfl)
  have h1 : ls1[((1 : Fin 4) : Nat)]? = some (.val (.int on)) := ty_kp p1 h1 (by omega) (Or.inl rfl)
  refine gG_sp hx (i := .aload_n 0) (len := 1) (by decide +kernel) (sp_al (j := 0) h0) ?_
  refine gG_sp hx (i := .iload_n 1) (len := 1) (by decide +kernel) (sp_il (j := 1) h1) ?_
  obtain ⟨n1, n2⟩ := ty_ff_ok (ft := .boolean) (t := pB) (by decide) (show ty_has (fun _ => none) 0 ty_no (.int on) pB from ⟨on, rfl, ho0, ho1⟩)
  refine P.2.1 (117, 7, 2, .boolean) (by decide +kernel) 7 ls1 m fs (.int on) [] M 0 0 (by decide +kernel) hat hlt n1 n2 ?_
  refine gG_sp hx (i := .iload_n 2) (len := 1) (by decide +kernel) (sp_il (j := 2) p1.2.2.1) ?_
  exact hr 11 ls1 .ireturn (some (.int was)) _ 0 0 (by decide +kernel) ⟨rfl, _, rfl, nar was hw0 hw1⟩ ⟨rfl, rfl⟩ (Nat.le_refl _) (Nat.le_refl _)
