/-! KnowDiskModel.start -/
theorem pBt_0 (y : Int32) : pBt (Int64.ofNat 0) y = Int64.ofNat 0 := by
  unfold pBt
  have e : Int64.ofNat 0 >>> (y.toInt64 &&& 63) = 0 := by
    rw [← Int64.toBitVec_inj, Int64.toBitVec_shiftRight]
    show (0#64).sshiftRight' _ = 0#64
    rw [BitVec.sshiftRight_eq', BitVec.zero_sshiftRight]
  rw [e]
  rfl
set_option maxRecDepth 100000 in
set_option maxHeartbeats 4000000 in
theorem mt_X5_start {l : Launch} {D : va_G} {tys : List (ClassId × FieldType)} {K : ty_K → mh_M → Prop} (ht : ty_tys tys) (hK : ty_sI pPSC K) (e t : Nat) (he : 64 ≤ e) : ty_Met l D vwCl tys pKT (pIK (pR e t) K) (pIK (pR e t) K) pPG yX5_start cX5_start 7 (some .int) 3 74 ct_X5_start := by
  refine ty_of (by decide +kernel) (by decide +kernel) (by decide +kernel) ?_
  intro x av M0 σ0 ls0 post hx hl hnm hR hD hav hH0 hI0 hls hp hr
  have hG := pI_G ht hK e t
  have hG3 := pI_G ht hK 64 0
  have P := pv_X5_start hG hx hl hnm hR hD
  have P3 := pv_X5_start hG3 hx hl hnm hR hD
  have E := ty_env hG hx hR hr (fun v M σ h1 h2 h3 h4 => hp v M σ h1 h2 h3 h4 trivial) pd_X5_start P
  have E3 := ty_env hG3 hx hR hr (fun v M σ h1 h2 h3 h4 => hp v M σ h1 h2 ⟨pR_mono he (Nat.zero_le t) h3.1, h3.2⟩ h4 trivial) pd_X5_start P3
  have J185 := ty_seg E3 [] [] pnil [] 40 (185, [(0, (2, 12, 0))], [], 0, 0) (by decide +kernel) (by decide +kernel)
  have ht2 := ht
  obtain ⟨cB, cI, cZ, cJ, rr, rfl⟩ := ht2
  match av, hav with
  | [_], ⟨⟨m, e0, hm0⟩, _⟩ =>
    subst e0
    have hm0 : σ0 m = some 12 := hm0
    obtain ⟨⟨fi0, be0, hX0⟩, hK0⟩ := id hI0
    obtain ⟨hu, ne0, dk, la0, ta0, by0, r1, hdk, r3, r4, r5, r6⟩ := id hX0
    have one : ∀ (σ : ty_K) (M : mh_M) (m' : Nat), ty_FM ct_X5_start.2.2.1 ct_X5_start.2.2.2.1 σ0 M0 σ M → pUq σ → σ m' = some 12 → m' = m := fun σ M m' hF hu hm' => hu 12 (by decide) m' m hm' (hF.kinds m 12 hm0)
    have getD : ∀ (σ : ty_K) (M : mh_M), ty_H ((cB, .byte) :: (cI, .int) :: (cZ, .boolean) :: (cJ, .long) :: rr) pKT σ M → ty_FM ct_X5_start.2.2.1 ct_X5_start.2.2.2.1 σ0 M0 σ M → σ m = some 12 → ∃ (fs : List Value) (aD aP : Nat), mh_at M m (.inr (7, fs)) ∧ fs[3]? = some (.ref aD) ∧ σ aD = some 13 ∧ mh_at M aD (.inl (cI, 2048, .inl dk)) ∧ (∀ i, i < 2048 → 0 ≤ (dk i).toInt ∧ (dk i).toInt ≤ 255) ∧ fs[7]? = some (.ref aP) ∧ σ aP = some 17 := by
      intro σ M hH hF hm
      obtain ⟨fs, hat, hfs⟩ := ty_obj hH hm (show pKT[12]? = some (0, 7, _) from rfl)
      obtain ⟨v3, f3, aD, rfl, hD3⟩ := hfs 3 (2, 13, 0) rfl
      obtain ⟨v7, f7, aP, rfl, hP7⟩ := hfs 7 (2, 17, 0) rfl
      obtain ⟨cA, ft, dk', t3, at3, el3⟩ := ty_arr (j := 1) hH hD3 (show pKT[13]? = some (1 + 1, 2048, [(0, 0, 255)]) from rfl) (by omega)
      cases t3
      obtain ⟨ea, -⟩ := pArr_eq (pArr_F hF (by decide) (by decide) hdk) hD3 at3.2
      subst ea
      exact ⟨fs, aD, aP, hat, f3, hD3, at3, fun i hi => by
        obtain ⟨z, z0, z1, z2⟩ := el3 i hi
        cases z0
        exact ⟨z1, z2⟩, f7, hP7⟩
    have loop : ∀ (st : Int64), pWf dk st 64 → ∀ (n : Nat) (z : Int32) (σ : ty_K) (M : mh_M) (ls : Array Slot), (64 - z.toInt).toNat < n → 0 ≤ z.toInt → z.toInt ≤ 64 → ls.size = 7 → lv_wf ls → ls[((0 : Fin 4) : Nat)]? = some (.val (.ref m)) → ls[6]? = some (.val (.int z)) → σ m = some 12 → ty_H ((cB, .byte) :: (cI, .int) :: (cZ, .boolean) :: (cJ, .long) :: rr) pKT σ M → pIK (pR 64 0) K σ M → pS0 st σ M → ty_FM ct_X5_start.2.2.1 ct_X5_start.2.2.2.1 σ0 M0 σ M → gG x vwCl 134 ls [] M 0 0 := by
      intro st hW n
      induction n with
      | zero => intro z σ M ls hn; omega
      | succ n ih =>
        intro z σ M ls hn z0 z1 hs hw h0 h6 hm hH hI hS hF
        have e64 : (Int8.ofInt 64).toInt32.toInt = 64 := ty_cb (by omega) (by omega)
        have e32 : (Int8.ofInt 32).toInt32.toInt = 32 := ty_cb (by omega) (by omega)
        obtain ⟨fs, aD, aP, hat, f3, hD3, at3, el, f7, hP7⟩ := getD σ M hH hF hm
        obtain ⟨aS, cS, fS, s1, s2, s3, s4⟩ := hS m hm
        have f14 : fs[14]? = some (.ref aS) := by
          rw [hat.2] at s1
          exact Sum.inr.inj s1
        obtain ⟨⟨fi, be, hX⟩, hKI⟩ := id hI
        obtain ⟨hu, ne, dk2, la, ta, by_, r1, r2, r3, r4, r5, r6⟩ := id hX
        obtain ⟨f11, f12, f16⟩ := pRs_fs r1 hm hat.2
        have ene : ne = 0 := by have := r6.2.2.1; omega
        subst ene
        obtain ⟨cS', ftS, fS', tS, atS⟩ := ty_arrL hH s2 (show pKT[21]? = some (23, 1200, []) from rfl)
        cases tS
        have eS : fS' 0 = st := by
          have := atS.2
          rw [s3] at this
          cases this
          exact s4
        have next : ∀ (M' : mh_M), ty_H ((cB, .byte) :: (cI, .int) :: (cZ, .boolean) :: (cJ, .long) :: rr) pKT σ M' → pIK (pR 64 0) K σ M' → pS0 st σ M' → ty_FM ct_X5_start.2.2.1 ct_X5_start.2.2.2.1 σ0 M0 σ M' → z.toInt < 64 → gG x vwCl 179 ls [] M' 0 0 := by
          intro M' hH' hI' hS' hF' hz
          refine gG_iinc hx hs hw (i := 6) (z := 1) (v := z) (by decide +kernel) h6 (fun ls' hp' => ?_)
          refine gG_goto hx (off := -48) (tgt := 134) (by decide +kernel) rfl ?_
          have ec : (z + Int32.ofInt 1).toInt = z.toInt + 1 := ty_addI rfl rfl (by omega) (by omega)
          exact ih (z + Int32.ofInt 1) σ M' ls' (by omega) (by omega) (by omega) hp'.1 hp'.2.1 (ty_kp hp' h0 (by omega) (by omega)) hp'.2.2.1 hm hH' hI' hS' hF'
        refine gG_sp hx (i := .iload 6) (len := 2) (by decide +kernel) (sp_il2 h6) ?_
        refine gG_sp hx (i := .bipush 64) (len := 2) (by decide +kernel) rfl ?_
        refine gG_ic hx (cn := .ge) (off := 47) (tgt := 185) (by decide +kernel) rfl (fun _ => J185 0 σ M ls [] hs hw hH hI hF (fun q hq => by
          have hq : q ∈ ([(0, (2, 12, 0))] : ty_L) := hq
          rw [List.mem_singleton.mp hq]
          exact ⟨_, h0, m, rfl, hm⟩) trivial) (fun cg => ?_)
        have cg : ¬ (Int8.ofInt 64).toInt32.toInt ≤ z.toInt := cg
        rw [e64] at cg
        refine gG_sp hx (i := .aload_n 0) (len := 1) (by decide +kernel) (sp_al h0) ?_
        refine P3.1 (40, 7, 14, .array .long) (by decide +kernel) 142 ls m fs _ _ M 0 0 (by decide +kernel) hat f14 ?_
        refine gG_sp hx (i := .aload_n 0) (len := 1) (by decide +kernel) (sp_al h0) ?_
        refine P3.1 (64, 7, 16, .int) (by decide +kernel) 146 ls m fs _ _ M 0 0 (by decide +kernel) hat f16 ?_
        refine gG_lald hx 3 (by decide +kernel) atS rfl (vp_in_iff.mpr ⟨by decide, by decide⟩) ?_
        rw [show (nI 0).toNatClampNeg = 0 from rfl, eS]
        refine gG_sp hx (i := .iload 6) (len := 2) (by decide +kernel) (sp_il2 h6) ?_
        refine gG_sp hx (i := .lshr) (len := 1) (by decide +kernel) rfl ?_
        refine gG_sp hx (i := .lconst 1) (len := 1) (by decide +kernel) rfl ?_
        refine gG_sp hx (i := .land) (len := 1) (by decide +kernel) rfl ?_
        refine gG_sp hx (i := .lconst 1) (len := 1) (by decide +kernel) rfl ?_
        refine gG_sp hx (i := .lcmp) (len := 1) (by decide +kernel) rfl ?_
        refine gG_if hx (cn := .ne) (off := 22) (tgt := 179) (by decide +kernel) rfl (fun _ => next M hH hI hS hF (by omega)) (fun cb => ?_)
        have cb : ¬ (lg_cmp (pBt st z) (Int64.ofNat 1)).toInt ≠ 0 := cb
        have cb1 : pBt st z = Int64.ofNat 1 := lg_cm_eq (Classical.not_not.mp cb)
        obtain ⟨w1, w2, w3⟩ := hW z z0 (by omega) (by rw [cb1]; decide)
        obtain ⟨w4, -⟩ := el (32 * z.toInt.toNat + 5) (by omega)
        have ix5 : ((Int8.ofInt 32).toInt32 * z + Int32.ofInt 5).toInt = 32 * z.toInt + 5 := ty_addI (ty_mulI e32 rfl (by omega) (by omega)) rfl (by omega) (by omega)
        have in5 : vp_in ((Int8.ofInt 32).toInt32 * z + Int32.ofInt 5) 2048 := vp_in_iff.mpr ⟨by omega, by omega⟩
        have c5 : ((Int8.ofInt 32).toInt32 * z + Int32.ofInt 5).toNatClampNeg = 32 * z.toInt.toNat + 5 := ty_clN (by rw [ix5]; omega)
        obtain ⟨cP, ftP, fP, tP, atP, elP⟩ := ty_arr (j := 1) hH hP7 (show pKT[17]? = some (1 + 1, 30, [(5, 2, 63)]) from rfl) (by omega)
        cases tP
        have inP : vp_in (dk (32 * z.toInt.toNat + 5)) 30 := vp_in_iff.mpr ⟨by omega, by omega⟩
        refine gG_sp hx (i := .aload_n 0) (len := 1) (by decide +kernel) (sp_al h0) ?_
        refine P3.1 (27, 7, 7, .array .int) (by decide +kernel) 161 ls m fs _ _ M 0 0 (by decide +kernel) hat f7 ?_
        refine gG_sp hx (i := .aload_n 0) (len := 1) (by decide +kernel) (sp_al h0) ?_
        refine P3.1 (13, 7, 3, .array .int) (by decide +kernel) 165 ls m fs _ _ M 0 0 (by decide +kernel) hat f3 ?_
        refine gG_sp hx (i := .bipush 32) (len := 2) (by decide +kernel) rfl ?_
        refine gG_sp hx (i := .iload 6) (len := 2) (by decide +kernel) (sp_il2 h6) ?_
        refine gG_sp hx (i := .imul) (len := 1) (by decide +kernel) rfl ?_
        refine gG_sp hx (i := .iconst 5) (len := 1) (by decide +kernel) rfl ?_
        refine gG_sp hx (i := .iadd) (len := 1) (by decide +kernel) rfl ?_
        refine gG_iald hx 1 (by decide +kernel) at3 rfl in5 ?_
        rw [c5]
        refine gG_sp hx (i := .iload 6) (len := 2) (by decide +kernel) (sp_il2 h6) ?_
        refine gG_iast hx 1 (by decide +kernel) atP rfl inP ?_
        have hok : ty_ok ((cB, .byte) :: (cI, .int) :: (cZ, .boolean) :: (cJ, .long) :: rr) σ (2, 30, [(5, 2, 63)]) (.inl (cI, 30, .inl (upd fP (dk (32 * z.toInt.toNat + 5)).toNatClampNeg z))) := ty_ok_ar (ft := .int) rfl (by omega) rfl (fun j hj => by
          by_cases ej : j = (dk (32 * z.toInt.toNat + 5)).toNatClampNeg
          · subst ej; rw [pk_us]; exact ⟨_, rfl, Or.inr ⟨w1, by show z.toInt ≤ 63; omega⟩⟩
          · rw [pk_un ej]; exact elP j hj)
        refine next _ (ty_H_set hH hP7 rfl hok) ⟨pR_S 64 0 _ (17, 0, 29, -1, 63) (by decide) σ M aP cI 30 fP _ z hH hI.1 hP7 atP inP w4 w3 (by show (-1 : Int) ≤ z.toInt; omega) (by show z.toInt ≤ 63; omega), pK_set hK hP7 (pK_no (by decide)) hI.2⟩ ?_ (hF.tr (ty_F_set hP7 (fun i hi => ty_p_arr atP.2 i (fun q => hi (by rw [q]; decide))))) (by omega)
        exact pS0_F (P := fun k i => k ≠ 17) (B := fun _ => False) (ty_F_set hP7 (fun i hi => absurd rfl hi)) (by decide) (by decide) (fun q => q) hS
    have J123 : ∀ (nn : Int32) (st : Int64) (σ : ty_K) (M : mh_M) (ls : Array Slot), 0 ≤ nn.toInt → pWf dk st 64 → ls.size = 7 → lv_wf ls → ls[((0 : Fin 4) : Nat)]? = some (.val (.ref m)) → σ m = some 12 → ty_H ((cB, .byte) :: (cI, .int) :: (cZ, .boolean) :: (cJ, .long) :: rr) pKT σ M → pIK (pR e t) K σ M → ty_FM ct_X5_start.2.2.1 ct_X5_start.2.2.2.1 σ0 M0 σ M → gG x vwCl 123 ls [.long st, .int nn, .ref m] M 0 0 := by
      intro nn st σ M ls hn hW hs hw h0 hm hH hI hF
      obtain ⟨fs, hat, hfs⟩ := ty_obj hH hm (show pKT[12]? = some (0, 7, _) from rfl)
      refine gX_cV (idx := 57) (C := ct_X5_begin) (ci := 7) (T := TX5) (N := 22) hx hl hD (mx_begin (nn := nn) (st := st) ht hK e t hm hn hH hI) rfl (kw_at 600 (by decide +kernel)) (kw_at 10 (by decide +kernel)) (Or.inl (kw_at 597 (by decide +kernel))) (kw_at 599 (by decide +kernel)) (kw_sl 46 (by decide +kernel)) (nA := 2) (by decide +kernel) rfl ⟨by rw [hR]; decide, by rw [hR]; decide⟩ (pc := 123) (by decide +kernel) hat hs (rest := []) (Nat.zero_le 8) (by rw [hR]; decide) (by rw [hR]; decide) rfl (fun v M1 hv => ?_)
      obtain ⟨σ1, q1, q2, q3, rfl, q5⟩ := hv
      have hm1 := q1.kinds m 12 hm
      have hF1 : ty_FM ct_X5_start.2.2.1 ct_X5_start.2.2.2.1 σ0 M0 σ1 M1 := hF.tr (ty_FMw (by decide) (by decide) q1)
      obtain ⟨fs, hat, hfs⟩ := ty_obj q2 hm1 (show pKT[12]? = some (0, 7, _) from rfl)
      obtain ⟨hH2, hl2⟩ := ty_putH (f := 1) (v := .int (Int32.ofInt 1)) q2 hm1 (show pKT[12]? = some (0, 7, _) from rfl) hat rfl ⟨_, rfl, by decide, by decide⟩
      refine gG_sp hx (i := .aload_n 0) (len := 1) (by decide +kernel) (sp_al h0) ?_
      refine gG_sp hx (i := .iconst 1) (len := 1) (by decide +kernel) (r := [.int (Int32.ofInt 1), .ref m]) rfl ?_
      refine P3.2.1 (7, 7, 1, .boolean) (by decide +kernel) 128 ls m fs (.int (Int32.ofInt 1)) [] M1 0 0 (by decide +kernel) hat hl2 rfl rfl ?_
      refine gG_sp hx (i := .iconst 0) (len := 1) (by decide +kernel) rfl ?_
      refine gG_istore hx hs hw (i := 6) (len := 2) (Or.inl ⟨by decide +kernel, rfl⟩) (by decide) (fun ls' hp' => ?_)
      refine loop st hW 65 (Int32.ofInt 0) σ1 _ ls' (by decide) (by decide) (by decide) hp'.1 hp'.2.1 (ty_kp hp' h0 (by omega) (by omega)) hp'.2.2.1 hm1 hH2 ⟨ty_sIset (pR_s 64 0) hm1 (fun i hi => ty_p_set hat.2 i (fun q => by rw [q] at hi; exact absurd hi (by decide))) q3.1, pK_set hK hm1 (pK_no (by decide)) q3.2⟩ ?_ (hF1.tr (ty_F_set hm1 (fun i hi => ty_p_set hat.2 i (fun q => hi (by rw [q]; decide)))))
      exact pS0_F (P := fun k i => (k, i) ≠ (12, 1)) (B := fun _ => False) (ty_F_set hm1 (fun i hi => ty_p_set hat.2 i (fun q => hi (by rw [q])))) (by decide) (by decide) (fun q => q) q5
    have J72 : ∀ (a b : Int), (∀ k : Int32, a ≤ k.toInt → k.toInt ≤ b → k.toInt = -1 ∨ ((k.toInt = 0 ∨ k.toInt = 1) ∧ pWf dk (pWide dk (32 * k.toInt.toNat + 8)) 64)) → ∀ g, ty_J x vwCl 7 ((cB, .byte) :: (cI, .int) :: (cZ, .boolean) :: (cJ, .long) :: rr) pKT (pIK (pR e t) K) pPG ct_X5_start.2.2.1 ct_X5_start.2.2.2.1 σ0 M0 g (ty_s0 (72, [(0, (2, 12, 0)), (5, (0, a, b))], [], 0, 0)) := by
      intro a b hab g σ M ls st' hs hw hH hI hF hL hS
      rw [ty_stk_n hS]
      obtain ⟨w0, h0, m', rfl, hm'⟩ := hL (0, (2, 12, 0)) List.mem_cons_self
      have em := one σ M m' hF (pR_u σ M hI.1) hm'
      subst em
      obtain ⟨w5, h5, kv, rfl, k0, k1⟩ := hL (5, (0, a, b)) (List.mem_cons_of_mem _ List.mem_cons_self)
      obtain ⟨fs, aD, aP, hat, f3, hD3, at3, el, f7, hP7⟩ := getD σ M hH hF hm'
      have hm : σ m' = some 12 := hm'
      have em1 : (Int32.ofInt (-1)).toInt = -1 := by decide
      have e32 : (Int8.ofInt 32).toInt32.toInt = 32 := ty_cb (by omega) (by omega)
      have e16 : (Int8.ofInt 16).toInt32.toInt = 16 := ty_cb (by omega) (by omega)
      have e8 : (Int8.ofInt 8).toInt32.toInt = 8 := ty_cb (by omega) (by omega)
      show gG x vwCl 72 ls [] M 0 0
      refine gG_sp hx (i := .aload_n 0) (len := 1) (by decide +kernel) (sp_al (j := 0) h0) ?_
      refine gG_sp hx (i := .iload 5) (len := 2) (by decide +kernel) (sp_il2 (j := 5) h5) ?_
      refine gG_sp hx (i := .iconst (-1)) (len := 1) (by decide +kernel) rfl ?_
      refine gG_ic hx (cn := .ne) (off := 7) (tgt := 83) (by decide +kernel) rfl (fun cn => ?_) (fun cn => ?_)
      rotate_left
      · have cn : ¬ kv.toInt ≠ (Int32.ofInt (-1)).toInt := cn
        refine gG_sp hx (i := .iconst 0) (len := 1) (by decide +kernel) rfl ?_
        refine gG_goto hx (off := 18) (tgt := 98) (by decide +kernel) rfl ?_
        refine gG_sp hx (i := .iload 5) (len := 2) (by decide +kernel) (sp_il2 (j := 5) h5) ?_
        refine gG_sp hx (i := .iconst (-1)) (len := 1) (by decide +kernel) rfl ?_
        refine gG_ic hx (cn := .ne) (off := 7) (tgt := 108) (by decide +kernel) rfl (fun c2 => absurd c2 cn) (fun _ => ?_)
        refine gG_sp hx (i := .lconst 0) (len := 1) (by decide +kernel) rfl ?_
        refine gG_goto hx (off := 18) (tgt := 123) (by decide +kernel) rfl ?_
        exact J123 (Int32.ofInt 0) (Int64.ofNat 0) σ M ls (by decide) (fun y y0 y1 y2 => absurd (pBt_0 y) y2) hs hw h0 hm hH hI hF
      · have cn : kv.toInt ≠ (Int32.ofInt (-1)).toInt := cn
        rw [em1] at cn
        obtain ⟨k01, hW⟩ := (hab kv k0 k1).resolve_left cn
        have ix16 : ((Int8.ofInt 32).toInt32 * kv + (Int8.ofInt 16).toInt32).toInt = 32 * kv.toInt + 16 := ty_addI (ty_mulI e32 rfl (by omega) (by omega)) e16 (by omega) (by omega)
        have c16 : ((Int8.ofInt 32).toInt32 * kv + (Int8.ofInt 16).toInt32).toNatClampNeg = 32 * kv.toInt.toNat + 16 := ty_clN (by rw [ix16]; omega)
        have ix8 : ((Int8.ofInt 32).toInt32 * kv + (Int8.ofInt 8).toInt32).toInt = 32 * kv.toInt + 8 := ty_addI (ty_mulI e32 rfl (by omega) (by omega)) e8 (by omega) (by omega)
        have c8 : ((Int8.ofInt 32).toInt32 * kv + (Int8.ofInt 8).toInt32).toNatClampNeg = 32 * kv.toInt.toNat + 8 := ty_clN (by rw [ix8]; omega)
        have hnn : 0 ≤ (pNum dk (32 * kv.toInt.toNat + 16)).toInt := by
          have hb : (dk (32 * kv.toInt.toNat + 16)).toInt ≤ 127 := by
            rcases k01 with q | q
            · rw [q]; exact r6.2.2.2.1
            · rw [q]; exact r6.2.2.2.2.1
          exact pNum_nn (el _ (by omega)).1 hb (el _ (by omega)).1 (el _ (by omega)).2 (el _ (by omega)).1 (el _ (by omega)).2 (el _ (by omega)).1
        refine gG_sp hx (i := .aload_n 0) (len := 1) (by decide +kernel) (sp_al (j := 0) h0) ?_
        refine P.1 (13, 7, 3, .array .int) (by decide +kernel) 84 ls m' fs _ _ M 0 0 (by decide +kernel) hat f3 ?_
        refine gG_sp hx (i := .bipush 32) (len := 2) (by decide +kernel) rfl ?_
        refine gG_sp hx (i := .iload 5) (len := 2) (by decide +kernel) (sp_il2 (j := 5) h5) ?_
        refine gG_sp hx (i := .imul) (len := 1) (by decide +kernel) rfl ?_
        refine gG_sp hx (i := .bipush 16) (len := 2) (by decide +kernel) rfl ?_
        refine gG_sp hx (i := .iadd) (len := 1) (by decide +kernel) rfl ?_
        refine gX_cS (idx := 88) (C := cZ0) hx hl hD (mx_number (i := (Int8.ofInt 32).toInt32 * kv + (Int8.ofInt 16).toInt32) ht rfl at3 (by omega) (by omega)) (kw_at 699 (by decide +kernel)) (kw_at 10 (by decide +kernel)) (Or.inl (kw_at 697 (by decide +kernel))) (kw_at 698 (by decide +kernel)) (nA := 2) (by decide +kernel) rfl ⟨by rw [hR]; decide, by rw [hR]; decide⟩ (pc := 95) (by decide +kernel) hs (rest := [.ref m']) (by show 1 ≤ 8; omega) (by rw [hR]; decide) (by rw [hR]; decide) (fun v M2 hv => ?_)
        obtain ⟨rfl, rfl⟩ := hv
        rw [c16]
        refine gG_sp hx (i := .iload 5) (len := 2) (by decide +kernel) (sp_il2 (j := 5) h5) ?_
        refine gG_sp hx (i := .iconst (-1)) (len := 1) (by decide +kernel) rfl ?_
        refine gG_ic hx (cn := .ne) (off := 7) (tgt := 108) (by decide +kernel) rfl (fun _ => ?_) (fun c2 => absurd (show kv.toInt ≠ (Int32.ofInt (-1)).toInt by rw [em1]; exact cn) c2)
        refine gG_sp hx (i := .aload_n 0) (len := 1) (by decide +kernel) (sp_al (j := 0) h0) ?_
        refine P.1 (13, 7, 3, .array .int) (by decide +kernel) 109 ls m' fs _ _ M2 0 0 (by decide +kernel) hat f3 ?_
        refine gG_sp hx (i := .bipush 32) (len := 2) (by decide +kernel) rfl ?_
        refine gG_sp hx (i := .iload 5) (len := 2) (by decide +kernel) (sp_il2 (j := 5) h5) ?_
        refine gG_sp hx (i := .imul) (len := 1) (by decide +kernel) rfl ?_
        refine gG_sp hx (i := .bipush 8) (len := 2) (by decide +kernel) rfl ?_
        refine gG_sp hx (i := .iadd) (len := 1) (by decide +kernel) rfl ?_
        refine gX_cS (idx := 93) (C := cZ0) hx hl hD (mx_wide (i := (Int8.ofInt 32).toInt32 * kv + (Int8.ofInt 8).toInt32) ht rfl at3 (by omega) (by omega)) (kw_at 696 (by decide +kernel)) (kw_at 10 (by decide +kernel)) (Or.inl (kw_at 694 (by decide +kernel))) (kw_at 695 (by decide +kernel)) (nA := 2) (by decide +kernel) rfl ⟨by rw [hR]; decide, by rw [hR]; decide⟩ (pc := 120) (by decide +kernel) hs (by show 2 ≤ 8; omega) (by rw [hR]; decide) (by rw [hR]; decide) (fun v M3 hv => ?_)
        obtain ⟨rfl, rfl⟩ := hv
        rw [c8]
        exact J123 _ _ σ _ ls hnn hW hs hw h0 hm hH hI hF
    have go22 : ∀ (a b c d : Int), (∀ g, ty_J x vwCl 7 ((cB, .byte) :: (cI, .int) :: (cZ, .boolean) :: (cJ, .long) :: rr) pKT (pIK (pR e t) K) pPG ct_X5_start.2.2.1 ct_X5_start.2.2.2.1 σ0 M0 g (22, [(0, (2, 12, 0)), (1, (0, a, b)), (2, (0, c, d))], [], 0, 0)) → ∀ (z1 z2 : Int32) (σ : ty_K) (M : mh_M) (ls : Array Slot), a ≤ z1.toInt → z1.toInt ≤ b → c ≤ z2.toInt → z2.toInt ≤ d → ls.size = 7 → lv_wf ls → ls[((0 : Fin 4) : Nat)]? = some (.val (.ref m)) → ls[1]? = some (.val (.int z1)) → ls[2]? = some (.val (.int z2)) → σ m = some 12 → ty_H ((cB, .byte) :: (cI, .int) :: (cZ, .boolean) :: (cJ, .long) :: rr) pKT σ M → pIK (pR e t) K σ M → ty_FM ct_X5_start.2.2.1 ct_X5_start.2.2.2.1 σ0 M0 σ M → gG x vwCl 22 ls [] M 0 0 := by
      intro a b c d hJ z1 z2 σ M ls a1 b1 c1 d1 hs hw h0 h1 h2 hm hH hI hF
      refine hJ 0 σ M ls [] hs hw hH hI hF (fun q hq => ?_) trivial
      have hq : q ∈ ([(0, (2, 12, 0)), (1, (0, a, b)), (2, (0, c, d))] : ty_L) := hq
      simp only [List.mem_cons, List.not_mem_nil, or_false] at hq
      rcases hq with rfl | rfl | rfl
      · exact ⟨_, h0, m, rfl, hm⟩
      · exact ⟨_, h1, z1, rfl, a1, b1⟩
      · exact ⟨_, h2, z2, rfl, c1, d1⟩
    have J10 : ∀ g, ty_J x vwCl 7 ((cB, .byte) :: (cI, .int) :: (cZ, .boolean) :: (cJ, .long) :: rr) pKT (pIK (pR e t) K) pPG ct_X5_start.2.2.1 ct_X5_start.2.2.2.1 σ0 M0 g (ty_s0 (10, [(0, (2, 12, 0))], [], 0, 0)) := by
      intro g σ M ls st' hs hw hH hI hF hL hS
      rw [ty_stk_n hS]
      obtain ⟨w0, h0, m', rfl, hm'⟩ := hL (0, (2, 12, 0)) List.mem_cons_self
      have em := one σ M m' hF (pR_u σ M hI.1) hm'
      subst em
      have hm : σ m' = some 12 := hm'
      obtain ⟨fs, hat, hfs⟩ := ty_obj hH hm (show pKT[12]? = some (0, 7, _) from rfl)
      show gG x vwCl 10 ls [] M 0 0
      refine gG_sp hx (i := .aload_n 0) (len := 1) (by decide +kernel) (sp_al (j := 0) h0) ?_
      refine gG_sp hx (i := .iconst 0) (len := 1) (by decide +kernel) rfl ?_
      refine gX_cV (idx := 165) (C := ct_X5_isWhole) (ci := 7) (T := TX5) (N := 22) hx hl hD (mx_isWhole (k := Int32.ofInt 0) ht hK e t hm (Or.inl rfl) hH hI (pArr_F hF (by decide) (by decide) hdk)) rfl (kw_at 777 (by decide +kernel)) (kw_at 10 (by decide +kernel)) (Or.inl (kw_at 774 (by decide +kernel))) (kw_at 776 (by decide +kernel)) (kw_sl 60 (by decide +kernel)) (nA := 1) (by decide +kernel) rfl ⟨by rw [hR]; decide, by rw [hR]; decide⟩ (pc := 12) (by decide +kernel) hat hs (rest := []) (Nat.zero_le 8) (by rw [hR]; decide) (by rw [hR]; decide) rfl (fun v M1 hv => ?_)
      obtain ⟨σ1, q1, q2, q3, z1, rfl, a1, b1, w1⟩ := hv
      refine gG_istore hx hs hw (i := 1) (len := 1) (Or.inr ⟨1, by decide +kernel, rfl, rfl⟩) (by decide) (fun ls1 p1 => ?_)
      have hm1 := q1.kinds m' 12 hm
      have hF1 : ty_FM ct_X5_start.2.2.1 ct_X5_start.2.2.2.1 σ0 M0 σ1 M1 := hF.tr (ty_FMw (by decide) (by decide) q1)
      obtain ⟨fs, hat, hfs⟩ := ty_obj q2 hm1 (show pKT[12]? = some (0, 7, _) from rfl)
      have k0 := ty_kp p1 h0 (by omega) (Or.inl rfl)
      refine gG_sp hx (i := .aload_n 0) (len := 1) (by decide +kernel) (sp_al (j := 0) k0) ?_
      refine gG_sp hx (i := .iconst 1) (len := 1) (by decide +kernel) rfl ?_
      refine gX_cV (idx := 165) (C := ct_X5_isWhole) (ci := 7) (T := TX5) (N := 22) hx hl hD (mx_isWhole (k := Int32.ofInt 1) ht hK e t hm1 (Or.inr rfl) q2 q3 (pArr_F hF1 (by decide) (by decide) hdk)) rfl (kw_at 777 (by decide +kernel)) (kw_at 10 (by decide +kernel)) (Or.inl (kw_at 774 (by decide +kernel))) (kw_at 776 (by decide +kernel)) (kw_sl 60 (by decide +kernel)) (nA := 1) (by decide +kernel) rfl ⟨by rw [hR]; decide, by rw [hR]; decide⟩ (pc := 18) (by decide +kernel) hat p1.1 (rest := []) (Nat.zero_le 8) (by rw [hR]; decide) (by rw [hR]; decide) rfl (fun v M2 hv => ?_)
      obtain ⟨σ2, s1, s2, s3, z2, rfl, a2, b2, w2⟩ := hv
      refine gG_istore hx p1.1 p1.2.1 (i := 2) (len := 1) (Or.inr ⟨2, by decide +kernel, rfl, rfl⟩) (by decide) (fun ls2 p2 => ?_)
      have hF2 : ty_FM ct_X5_start.2.2.1 ct_X5_start.2.2.2.1 σ0 M0 σ2 M2 := hF1.tr (ty_FMw (by decide) (by decide) s1)
      have hm2 := s1.kinds m' 12 hm1
      have j0 := ty_kp p2 k0 (by omega) (by omega)
      have j1 := ty_kp p2 p1.2.2.1 (by omega) (Or.inl rfl)
      have i0 : (Int32.ofInt 0).toInt = 0 := rfl
      have i1 : (Int32.ofInt 1).toInt = 1 := rfl
      rw [i0] at w1
      rw [i1] at w2
      by_cases n1 : z1.toInt = 0
      · by_cases n2 : z2.toInt = 0
        · exact go22 0 0 0 0 (ty_seg E [] _ (pcons (J72 (-1) (-1) (fun k q1 q2 => Or.inl (by omega))) pnil) [] 60 (22, [(0, (2, 12, 0)), (1, (0, 0, 0)), (2, (0, 0, 0))], [], 0, 0) (by decide +kernel) (by decide +kernel)) z1 z2 σ2 M2 ls2 (by omega) (by omega) (by omega) (by omega) p2.1 p2.2.1 j0 j1 p2.2.2.1 hm2 s2 s3 hF2
        · exact go22 0 0 1 1 (ty_seg E [] _ (pcons (J72 1 1 (fun k q1 q2 => Or.inr ⟨by omega, by rw [show k.toInt = 1 by omega]; exact w2 n2⟩)) pnil) [] 60 (22, [(0, (2, 12, 0)), (1, (0, 0, 0)), (2, (0, 1, 1))], [], 0, 0) (by decide +kernel) (by decide +kernel)) z1 z2 σ2 M2 ls2 (by omega) (by omega) (by omega) (by omega) p2.1 p2.2.1 j0 j1 p2.2.2.1 hm2 s2 s3 hF2
      · by_cases n2 : z2.toInt = 0
        · exact go22 1 1 0 0 (ty_seg E [] _ (pcons (J72 0 0 (fun k q1 q2 => Or.inr ⟨by omega, by rw [show k.toInt = 0 by omega]; exact w1 n1⟩)) pnil) [] 60 (22, [(0, (2, 12, 0)), (1, (0, 1, 1)), (2, (0, 0, 0))], [], 0, 0) (by decide +kernel) (by decide +kernel)) z1 z2 σ2 M2 ls2 (by omega) (by omega) (by omega) (by omega) p2.1 p2.2.1 j0 j1 p2.2.2.1 hm2 s2 s3 hF2
        · exact go22 1 1 1 1 (ty_seg E [] _ (pcons (J72 0 1 (fun k q1 q2 => Or.inr ⟨by omega, by
            by_cases q : k.toInt = 0
            · rw [q]; exact w1 n1
            · rw [show k.toInt = 1 by omega]; exact w2 n2⟩)) pnil) [] 60 (22, [(0, (2, 12, 0)), (1, (0, 1, 1)), (2, (0, 1, 1))], [], 0, 0) (by decide +kernel) (by decide +kernel)) z1 z2 σ2 M2 ls2 (by omega) (by omega) (by omega) (by omega) p2.1 p2.2.1 j0 j1 p2.2.2.1 hm2 s2 s3 hF2
    have J0 := ty_seg E [] _ (pcons J10 pnil) [] 20 (0, ty_L0 0 ct_X5_start.1, [], 0, 0) (by decide +kernel) (by decide +kernel)
    exact ty_enter (J0 0) (by decide +kernel) (show ty_av σ0 (pPG σ0 M0) [.ref m] ct_X5_start.1 from ⟨⟨m, rfl, hm0⟩, trivial⟩) hH0 hI0 hls
