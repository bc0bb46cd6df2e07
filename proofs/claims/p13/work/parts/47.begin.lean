/-! KnowDiskModel.begin exactly, start -/
theorem ty_arrL {tys : List (ClassId × FieldType)} {σ : ty_K} {M : mh_M} {a k N : Nat} {ts : List ty_T} (hH : ty_H tys pKT σ M) (hk : σ a = some k) (hd : pKT[k]? = some (23, N, ts)) : ∃ (cA : ClassId) (ft : FieldType) (f : Nat → Int64), tys[3]? = some (cA, ft) ∧ mh_at M a (.inl (cA, N, .inr (.inl f))) := by
  obtain ⟨h1, d, h2, -, -, h3⟩ := hH a k hk
  rw [hd] at h2
  cases h2
  obtain ⟨cA, ft, f, e1, e2⟩ := h3 3 rfl
  exact ⟨cA, ft, f, e1, h1, e2⟩
theorem ty_ok_al {tys : List (ClassId × FieldType)} {σ : ty_K} {N : Nat} {ts : List ty_T} {cA : ClassId} {ft : FieldType} {f : Nat → Int64} (h : tys[3]? = some (cA, ft)) : ty_ok tys σ (23, N, ts) (.inl (cA, N, .inr (.inl f))) := by
  refine ⟨fun q => absurd q (by show ¬ 23 = 0; omega), fun j hj hlt => absurd hj (by show ¬ 23 = 1 + j; omega), fun j hj => ?_⟩
  have hj : 23 = 20 + j := hj
  have e : j = 3 := by omega
  subst e
  exact ⟨cA, ft, f, h, rfl⟩
/-- the first of the states' sectors -/
def pS0 (st : Int64) (σ : ty_K) (M : mh_M) : Prop := ∀ m, σ m = some 12 → ∃ (a : Nat) (c : ClassId) (f : Nat → Int64), ty_p (M.2 m) 14 = .inr (some (.ref a)) ∧ σ a = some 21 ∧ M.2 a = .inl (c, 1200, .inr (.inl f)) ∧ f 0 = st
theorem pS0_F {P : Nat → Nat → Prop} {B : Nat → Prop} {σ σ' : ty_K} {M M' : mh_M} {st : Int64} (hF : ty_F P B σ M σ' M') (h1 : P 12 14) (h2 : P 21 0) (hb : ¬ B 12) (h : pS0 st σ M) : pS0 st σ' M' := by
  intro m hm
  cases hq : σ m with
  | none => exact absurd (hF.2.2 m 12 hq hm) hb
  | some k2 =>
    obtain ⟨e1, e2⟩ := hF.2.1 m k2 hq
    rw [hm] at e1
    cases e1
    obtain ⟨a, c, f, r1, r2, r3, r4⟩ := h m hq
    obtain ⟨q1, q2⟩ := hF.2.1 a 21 r2
    refine ⟨a, c, f, (e2 14 h1).trans r1, q1, ?_, r4⟩
    have q3 := q2 0 h2
    rw [r3] at q3
    cases hm' : M'.2 a with
    | inl y =>
      rw [hm'] at q3
      have h4 : (Sum.inl y : (ClassId × vp_A) ⊕ Option Value) = .inl (c, 1200, .inr (.inl f)) := q3
      cases h4
      rfl
    | inr o =>
      rw [hm'] at q3
      have h4 : (Sum.inr (o.2[0]?) : (ClassId × vp_A) ⊕ Option Value) = .inl (c, 1200, .inr (.inl f)) := q3
      cases h4
theorem ty_sIset {PS : List (Nat × Nat)} {INV : ty_K → mh_M → Prop} (hs : ty_sI PS INV) {σ : ty_K} {M : mh_M} {a k : Nat} {e : va_E} (hk : σ a = some k) (hp : ∀ i, (k, i) ∈ PS → ty_p e i = ty_p (M.2 a) i) (h : INV σ M) : INV σ (mh_set M a e) := hs σ M σ _ (ty_F_set hk hp) h
theorem ty_FMw {m1 m2 : List (Nat × Nat)} {n1 n2 : List Nat} {σ σ' : ty_K} {M M' : mh_M} (hm : ∀ q ∈ m1, q ∈ m2) (hn : ∀ q ∈ n1, q ∈ n2) (h : ty_FM m1 n1 σ M σ' M') : ty_FM m2 n2 σ M σ' M' := h.mono (fun k i hk hq => hk (hm (k, i) hq)) (fun k hk => hn k hk)
def ct_X5_begin2 : ty_C := (ct_X5_begin.1, none, [(12, 15), (12, 16), (12, 19), (12, 11), (12, 12), (12, 8), (17, 0), (16, 0), (14, 0)], [], 0, 0, ty_i0)
set_option maxRecDepth 100000 in
set_option maxHeartbeats 4000000 in
theorem mx_begin {l : Launch} {D : va_G} {tys : List (ClassId × FieldType)} {K : ty_K → mh_M → Prop} (ht : ty_tys tys) (hK : ty_sI pPSC K) (e t : Nat) {σ0 : ty_K} {M0 : mh_M} {m : Nat} {nn : Int32} {st : Int64} (hm : σ0 m = some 12) (hn : 0 ≤ nn.toInt) (hH0 : ty_H tys pKT σ0 M0) (hI0 : pIK (pR e t) K σ0 M0) :
    mh_Met vwCl tys l D yX5_begin [Cond.code yX5_begin cX5_begin 5 none] (ty_rm 0 0 ct_X5_begin) [.ref m, .int nn, .long st] M0 (fun v M' => ∃ σ', ty_FM ct_X5_begin.2.2.1 ct_X5_begin.2.2.2.1 σ0 M0 σ' M' ∧ ty_H tys pKT σ' M' ∧ pIK (pR 64 0) K σ' M' ∧ v = none ∧ pS0 st σ' M') := by
  refine ty_ofX (by decide +kernel) (by show 4 ≤ 5; omega) ?_
  intro x ls hx hl hnm hR hD hls hr
  have hR2 : gx_R x = ty_rm 0 0 ct_X5_begin2 := hR
  have hr2 : gR_ret x vwCl cX5_begin none (fun v M' => ∃ σ', ty_FM ct_X5_begin.2.2.1 ct_X5_begin.2.2.2.1 σ0 M0 σ' M' ∧ ty_H tys pKT σ' M' ∧ pIK (pR 64 0) K σ' M' ∧ v = none ∧ pS0 st σ' M') ct_X5_begin2.2.2.2.2.1 ct_X5_begin2.2.2.2.2.2.1 := hr
  have hG2 := pI_G ht hK e 0
  have hG3 := pI_G ht hK 64 0
  have P3 := pv_X5_begin hG3 hx hl hnm hR hD
  have P2 := pv_X5_begin hG2 hx hl hnm hR hD
  have tail : ∀ M1 : mh_M, ty_FM ct_X5_begin.2.2.1 ct_X5_begin.2.2.2.1 σ0 M0 σ0 M1 → pS0 st σ0 M1 → ∀ g, ty_J x vwCl 5 tys pKT (pIK (pR e 0) K) pPG ct_X5_begin2.2.2.1 ct_X5_begin2.2.2.2.1 σ0 M1 g (24, [(0, (2, 12, 0))], [], 0, 0) := by
    intro M1 hF1 hS1
    have E3 := ty_env (C := ct_X5_begin2) (σ0 := σ0) (M0 := M1) (rT := none) hG3 hx hR2 hr2 (fun v M σ h1 h2 h3 h4 => ⟨σ, hF1.tr (ty_FMw (by decide) (by decide) h1), h2, h3, h4, pS0_F h1 (by decide) (by decide) (by decide) hS1⟩) pd_X5_begin P3
    have J3 := ty_seg E3 [] [] (fun h hh => absurd hh List.not_mem_nil) [(47, [(0, (2, 12, 0)), (4, (0, 0, 30))], 4, 30, 0, 0), (71, [(0, (2, 12, 0)), (4, (0, 0, 64))], 4, 64, 0, 0), (95, [(0, (2, 12, 0)), (4, (0, 0, 2048))], 4, 2048, 0, 0)] 100 (39, [(0, (2, 12, 0))], [], 0, 0) (by decide +kernel) (by decide +kernel)
    have JB : ∀ g : Int, ty_J x vwCl 5 tys pKT (pIK (pR e 0) K) pPG ct_X5_begin2.2.2.1 ct_X5_begin2.2.2.2.1 σ0 M1 g (ty_s0 (31, [(0, (2, 12, 0))], [(0, 0, 0), (2, 12, 0)], 0, 0)) := by
      intro g σ M ls st hs hw hH hI hF hL hS
      obtain ⟨v, vs, rfl, hv, hvs⟩ := ty_stk_c hS
      obtain ⟨u, us, rfl, hu, hus⟩ := ty_stk_c hvs
      rw [ty_stk_n hus]
      obtain ⟨m, rfl, hk⟩ := hu.1
      have hk : σ m = some 12 := hk
      rw [ty_z0 hv.1]
      obtain ⟨w0, l0, m', rfl, hk'⟩ := hL (0, (2, 12, 0)) List.mem_cons_self
      have hk' : σ m' = some 12 := hk'
      obtain ⟨fi, be, hX⟩ := hI.1
      have em := hX.1 12 (by decide) m' m hk' hk
      subst em
      obtain ⟨fs, hat, hfs⟩ := ty_obj hH hk (show pKT[12]? = some (0, 7, _) from rfl)
      have z0 : ∀ t : ty_T, t = (0, 0, 1199) → ty_has σ 0 ty_no (.int (nI 0)) t := fun t e => by rw [e]; exact ⟨_, rfl, by decide, by decide⟩
      obtain ⟨hH1, hl1⟩ := ty_putH (f := 11) hH hk (show pKT[12]? = some (0, 7, _) from rfl) hat rfl (z0 _ rfl)
      refine P3.2.1 (70, 7, 11, .int) (by decide +kernel) 31 ls m' fs (.int (nI 0)) [] M 0 0 (by decide +kernel) hat hl1 rfl rfl ?_
      have hat1 : mh_at (mh_set M m' (.inr (7, fs.set 11 (.int (nI 0))))) m' (.inr (7, fs.set 11 (.int (nI 0)))) := hat.set_self
      obtain ⟨hH2, hl2⟩ := ty_putH (f := 12) hH1 hk (show pKT[12]? = some (0, 7, _) from rfl) hat1 rfl (z0 _ rfl)
      refine gG_sp hx (i := .aload_n 0) (len := 1) (by decide +kernel) (sp_al l0) ?_
      refine gG_sp hx (i := .iconst 0) (len := 1) (by decide +kernel) (r := [.int (nI 0), .ref m']) rfl ?_
      refine P3.2.1 (73, 7, 12, .int) (by decide +kernel) 36 ls m' _ (.int (nI 0)) [] _ 0 0 (by decide +kernel) hat1 hl2 rfl rfl ?_
      rw [mh_set_set] at hH2 ⊢
      have hl3 : 12 < fs.length := by simpa using hl2
      have F1 : ∀ fs', (∀ i, i ≠ 11 → i ≠ 12 → fs'[i]? = fs[i]?) → ty_FM ct_X5_begin2.2.2.1 ct_X5_begin2.2.2.2.1 σ M σ (mh_set M m' (.inr (7, fs'))) := fun fs' h => ty_F_set hk (fun i hi => by
        rw [hat.2]
        show Sum.inr (fs'[i]?) = Sum.inr (fs[i]?)
        rw [h i (fun q => hi (by rw [q]; decide)) (fun q => hi (by rw [q]; decide))])
      refine J3 g σ _ ls [] hs hw hH2 ⟨⟨0, 0, pRx_none hX hk hat.2 hl3⟩, pK_set hK hk (pK_no (by decide)) hI.2⟩ (hF.tr (F1 _ (fun i q1 q2 => by rw [List.getElem?_set_ne (Ne.symm q2), List.getElem?_set_ne (Ne.symm q1)]))) (ty_loc_mv (fun _ _ h => h) (ty_wpg pPG_s hk (by decide)) hL) trivial
    have E2 := ty_env (C := ct_X5_begin2) (σ0 := σ0) (M0 := M1) hG2 hx hR2 hr2 ty_pN pd_X5_begin P2
    exact ty_seg E2 [] _ (pcons JB pnil) [] 100 (24, [(0, (2, 12, 0))], [], 0, 0) (by decide +kernel) (by decide +kernel)
  have h0 : ls[((0 : Fin 4) : Nat)]? = some (.val (.ref m)) := hls.2.2 (0, .ref m) List.mem_cons_self
  have h1 : ls[((1 : Fin 4) : Nat)]? = some (.val (.int nn)) := hls.2.2 (1, .int nn) (List.mem_cons_of_mem _ List.mem_cons_self)
  have h2 : ls[((2 : Fin 4) : Nat)]? = some (.val (.long st)) := hls.2.2 (2, .long st) (List.mem_cons_of_mem _ (List.mem_cons_of_mem _ List.mem_cons_self))
  obtain ⟨⟨fi, be, hX⟩, hKI⟩ := hI0
  obtain ⟨fs, hat, hfs⟩ := ty_obj hH0 hm (show pKT[12]? = some (0, 7, _) from rfl)
  obtain ⟨v13, f13, aN, rfl, hN⟩ := hfs 13 (2, 20, 0) rfl
  obtain ⟨v14, f14, aS, rfl, hS⟩ := hfs 14 (2, 21, 0) rfl
  have hN : σ0 aN = some 20 := hN
  have hS : σ0 aS = some 21 := hS
  obtain ⟨hH1, hl1⟩ := ty_putH (f := 15) (v := .int (nI 0)) hH0 hm (show pKT[12]? = some (0, 7, _) from rfl) hat rfl ⟨_, rfl, by decide, by decide⟩
  have hat1 : mh_at (mh_set M0 m (.inr (7, fs.set 15 (.int (nI 0))))) m (.inr (7, fs.set 15 (.int (nI 0)))) := hat.set_self
  have hX1 : pRx e t fi be σ0 (mh_set M0 m (.inr (7, fs.set 15 (.int (nI 0))))) := ty_sIset (pRx_s e t fi be) hm (fun i hi => ty_p_set hat.2 i (fun q => by rw [q] at hi; exact absurd hi (by decide))) hX
  obtain ⟨hH2, hl2⟩ := ty_putH (f := 16) (v := .int (nI 0)) hH1 hm (show pKT[12]? = some (0, 7, _) from rfl) hat1 rfl ⟨_, rfl, by decide, by decide⟩
  have hX2 := pRx_new (t' := 0) (ne := 0) hX1 hm hat1.2 hl2 (Nat.le_refl 0)
  rw [mh_set_set] at hH2 hX2
  have hfs2 : ∀ i, i ≠ 15 → i ≠ 16 → ((fs.set 15 (.int (nI 0))).set 16 (.int (nI 0)))[i]? = fs[i]? := fun i q1 q2 => by rw [List.getElem?_set_ne (Ne.symm q2), List.getElem?_set_ne (Ne.symm q1)]
  have hF2 : ty_FM ct_X5_begin.2.2.1 ct_X5_begin.2.2.2.1 σ0 M0 σ0 (mh_set M0 m (.inr (7, (fs.set 15 (.int (nI 0))).set 16 (.int (nI 0))))) := ty_F_set hm (fun i hi => by
    rw [hat.2]
    show Sum.inr (_) = Sum.inr (fs[i]?)
    rw [hfs2 i (fun q => hi (by rw [q]; decide)) (fun q => hi (by rw [q]; decide))])
  have hK2 := pK_set (e := .inr (7, (fs.set 15 (.int (nI 0))).set 16 (.int (nI 0)))) hK hm (pK_no (by decide)) hKI
  have hat2 : mh_at (mh_set M0 m (.inr (7, (fs.set 15 (.int (nI 0))).set 16 (.int (nI 0))))) m (.inr (7, (fs.set 15 (.int (nI 0))).set 16 (.int (nI 0)))) := hat.set_self
  refine gG_sp hx (i := .aload_n 0) (len := 1) (by decide +kernel) (sp_al h0) ?_
  refine gG_sp hx (i := .iconst 0) (len := 1) (by decide +kernel) (r := [.int (nI 0), .ref m]) rfl ?_
  refine P2.2.1 (61, 7, 15, .int) (by decide +kernel) 2 ls m fs (.int (nI 0)) [] M0 0 0 (by decide +kernel) hat hl1 rfl rfl ?_
  refine gG_sp hx (i := .aload_n 0) (len := 1) (by decide +kernel) (sp_al h0) ?_
  refine gG_sp hx (i := .iconst 0) (len := 1) (by decide +kernel) (r := [.int (nI 0), .ref m]) rfl ?_
  refine P2.2.1 (64, 7, 16, .int) (by decide +kernel) 7 ls m _ (.int (nI 0)) [] _ 0 0 (by decide +kernel) hat1 hl2 rfl rfl ?_
  rw [mh_set_set]
  generalize hM2 : mh_set M0 m (.inr (7, (fs.set 15 (.int (nI 0))).set 16 (.int (nI 0)))) = M2 at hH2 hX2 hF2 hK2 hat2 ⊢
  generalize hfb : (fs.set 15 (.int (nI 0))).set 16 (.int (nI 0)) = fb at hfs2 hat2
  have f13 : fb[13]? = some (.ref aN) := (hfs2 13 (by decide) (by decide)).trans f13
  have f14 : fb[14]? = some (.ref aS) := (hfs2 14 (by decide) (by decide)).trans f14
  have ht2 := ht
  obtain ⟨cB, cI, cZ, cJ, rr, rfl⟩ := ht2
  obtain ⟨cA, ft, fN, tN, atN, elN⟩ := ty_arr (j := 1) hH2 hN (show pKT[20]? = some (1 + 1, 1200, [(0, 0, 2147483647)]) from rfl) (by omega)
  cases tN
  have hok : ty_ok ((cB, .byte) :: (cI, .int) :: (cZ, .boolean) :: (cJ, .long) :: rr) σ0 (2, 1200, [(0, 0, 2147483647)]) (.inl (cI, 1200, .inl (upd fN (Int32.ofInt 0).toNatClampNeg nn))) := ty_ok_ar (ft := .int) rfl (by omega) rfl (fun j hj => by
    by_cases ej : j = (Int32.ofInt 0).toNatClampNeg
    · subst ej; rw [pk_us]; exact ⟨_, rfl, hn, by show nn.toInt ≤ 2147483647; have := Int32.toInt_lt nn; omega⟩
    · rw [pk_un ej]; exact elN j hj)
  have hH3 := ty_H_set hH2 hN rfl hok
  have hX3 : pRx e 0 fi be σ0 (mh_set M2 aN (.inl (cI, 1200, .inl (upd fN (Int32.ofInt 0).toNatClampNeg nn)))) := ty_sIset (pRx_s e 0 fi be) hN (fun i hi => ty_p_arr atN.2 i (fun q => by rw [q] at hi; exact absurd hi (by decide))) hX2
  have hF3 := hF2.tr (ty_F_set (e := .inl (cI, 1200, .inl (upd fN (Int32.ofInt 0).toNatClampNeg nn))) hN (fun i hi => ty_p_arr atN.2 i (fun q => hi (by rw [q]; decide))))
  have hK3 := pK_set (e := .inl (cI, 1200, .inl (upd fN (Int32.ofInt 0).toNatClampNeg nn))) hK hN (pK_no (by decide)) hK2
  have hat3 : mh_at (mh_set M2 aN (.inl (cI, 1200, .inl (upd fN (Int32.ofInt 0).toNatClampNeg nn)))) m (.inr (7, fb)) := hat2.set_ne (fun q => by rw [q, hN] at hm; cases hm)
  refine gG_sp hx (i := .aload_n 0) (len := 1) (by decide +kernel) (sp_al h0) ?_
  refine P2.1 (37, 7, 13, .array .int) (by decide +kernel) 11 ls m fb _ _ M2 0 0 (by decide +kernel) hat2 f13 ?_
  refine gG_sp hx (i := .iconst 0) (len := 1) (by decide +kernel) rfl ?_
  refine gG_sp hx (i := .iload_n 1) (len := 1) (by decide +kernel) (sp_il h1) ?_
  refine gG_iast hx 1 (by decide +kernel) atN rfl (vp_in_iff.mpr ⟨by decide, by decide⟩) ?_
  generalize hM3 : mh_set M2 aN (.inl (cI, 1200, .inl (upd fN (Int32.ofInt 0).toNatClampNeg nn))) = M3 at hH3 hX3 hF3 hK3 hat3 ⊢
  obtain ⟨cS, ftS, fS, tS, atS⟩ := ty_arrL hH3 hS (show pKT[21]? = some (23, 1200, []) from rfl)
  cases tS
  refine gG_sp hx (i := .aload_n 0) (len := 1) (by decide +kernel) (sp_al h0) ?_
  refine P2.1 (40, 7, 14, .array .long) (by decide +kernel) 18 ls m fb _ _ M3 0 0 (by decide +kernel) hat3 f14 ?_
  refine gG_sp hx (i := .iconst 0) (len := 1) (by decide +kernel) rfl ?_
  refine gG_sp hx (i := .lload_n 2) (len := 1) (by decide +kernel) (sp_ll1 h2) ?_
  refine gG_last hx 3 (by decide +kernel) atS rfl (vp_in_iff.mpr ⟨by decide, by decide⟩) ?_
  have hH4 := ty_H_set hH3 hS rfl (ty_ok_al (ft := .long) (N := 1200) (ts := []) (f := vp_updL fS (Int32.ofInt 0).toNatClampNeg st) (tys := ((cB, .byte) :: (cI, .int) :: (cZ, .boolean) :: (cJ, .long) :: rr)) rfl)
  have hX4 : pRx e 0 fi be σ0 (mh_set M3 aS (.inl (cJ, 1200, .inr (.inl (vp_updL fS (Int32.ofInt 0).toNatClampNeg st))))) := ty_sIset (pRx_s e 0 fi be) hS (fun i hi => ty_p_arr atS.2 i (fun q => by rw [q] at hi; exact absurd hi (by decide))) hX3
  have hF4 := hF3.tr (ty_F_set (e := .inl (cJ, 1200, .inr (.inl (vp_updL fS (Int32.ofInt 0).toNatClampNeg st)))) hS (fun i hi => ty_p_arr atS.2 i (fun q => hi (by rw [q]; decide))))
  have hK4 := pK_set (e := .inl (cJ, 1200, .inr (.inl (vp_updL fS (Int32.ofInt 0).toNatClampNeg st)))) hK hS (pK_no (by decide)) hK3
  have hat4 : mh_at (mh_set M3 aS (.inl (cJ, 1200, .inr (.inl (vp_updL fS (Int32.ofInt 0).toNatClampNeg st))))) m (.inr (7, fb)) := hat3.set_ne (fun q => by rw [q, hS] at hm; cases hm)
  have hS0 : pS0 st σ0 (mh_set M3 aS (.inl (cJ, 1200, .inr (.inl (vp_updL fS (Int32.ofInt 0).toNatClampNeg st))))) := by
    intro m' hm'
    rw [hX4.1 12 (by decide) m' m hm' hm]
    refine ⟨aS, cJ, vp_updL fS (Int32.ofInt 0).toNatClampNeg st, ?_, hS, va_up_self _ _ _, ?_⟩
    · rw [hat4.2]
      exact congrArg Sum.inr f14
    · show vp_updL fS 0 st 0 = st
      unfold vp_updL
      simp
  exact tail _ hF4 hS0 0 σ0 _ ls [] hls.1 hls.2.1 hH4 ⟨⟨fi, be, hX4⟩, hK4⟩ ty_F.rf (fun q hq => by
    have hq : q ∈ ([(0, (2, 12, 0))] : ty_L) := hq
    rw [List.mem_singleton.mp hq]
    exact ⟨_, h0, m, rfl, hm⟩) trivial
