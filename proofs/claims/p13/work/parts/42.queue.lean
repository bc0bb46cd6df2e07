/-! KnowDiskModel.queue: one more write waits -/
theorem sp_il2 {ls : Array Slot} {j : Nat} {z : Int32} {st : List Value} (h : ls[j]? = some (.val (.int z))) : sp (.iload j) ls st = some (.int z :: st, 2) := by
  show (sp_ldi ls j st).map (·, 2) = _
  unfold sp_ldi
  rw [h]
  rfl
theorem sp_al2 {ls : Array Slot} {j : Nat} {a : Nat} {st : List Value} (h : ls[j]? = some (.val (.ref a))) : sp (.aload j) ls st = some (.ref a :: st, 2) := by
  show (sp_lda ls j st).map (·, 2) = _
  unfold sp_lda
  rw [h]
  rfl
theorem sp_ll1 {ls : Array Slot} {j : Fin 4} {z : Int64} {st : List Value} (h : ls[(j : Nat)]? = some (.val (.long z))) : sp (.lload_n j) ls st = some (.long z :: st, 1) := by
  show (sp_ldl ls j st).map (·, 1) = _
  unfold sp_ldl
  rw [h]
  rfl
theorem sp_ll2 {ls : Array Slot} {j : Nat} {z : Int64} {st : List Value} (h : ls[j]? = some (.val (.long z))) : sp (.lload j) ls st = some (.long z :: st, 2) := by
  show (sp_ldl ls j st).map (·, 2) = _
  unfold sp_ldl
  rw [h]
  rfl
/-- a write is being queued: its target stands, its number's first byte too behind 16 -/
def pQ (e t fi be : Nat) (to : Int32) (c : Int) (σ : ty_K) (M : mh_M) : Prop := pUq σ ∧ ∃ (ne : Nat) (dk la ta by_ : Nat → Int32), pRs σ M fi be ne ∧ pArr σ M 13 2048 dk ∧ pArr σ M 16 64 la ∧ pArr σ M 18 1200 ta ∧ pArr σ M 19 38400 by_ ∧ pRn e t fi be ne dk la ta by_ ∧ ta be = to ∧ (to.toInt < 2 → 16 < c → (by_ (32 * be + 16)).toInt ≤ 127)
theorem pQ_x {e t fi be : Nat} {to : Int32} {c : Int} {σ : ty_K} {M : mh_M} (h : pQ e t fi be to c σ M) : pRx e t fi be σ M := by
  obtain ⟨h0, ne, dk, la, ta, by_, h1, h2, h3, h4, h5, h6, -⟩ := h
  exact ⟨h0, ne, dk, la, ta, by_, h1, h2, h3, h4, h5, h6⟩
/-- the target is set -/
theorem pQ_ta {e t fi be : Nat} {σ : ty_K} {M : mh_M} {a : Nat} {cA : ClassId} {f : Nat → Int32} {to : Int32} (hI : pRx e t fi be σ M) (hk : σ a = some 18) (hat : M.2 a = .inl (cA, 1200, .inl f)) : pQ e t fi be to 0 σ (mh_set M a (.inl (cA, 1200, .inl (upd f be to)))) := by
  obtain ⟨h0, ne, dk, la, ta, by_, h1, h2, h3, h4, h5, h6⟩ := hI
  obtain ⟨e1, -⟩ := pArr_eq h4 hk hat
  subst e1
  exact ⟨h0, ne, dk, la, _, by_, pRs_set hk (by decide) h1, pArr_set hk (by decide) h2, pArr_set hk (by decide) h3, pArr_upd (fun b hb => h0 18 (by decide) b a hb hk), pArr_set hk (by decide) h5, ⟨h6.1, h6.2.1, h6.2.2.1, h6.2.2.2.1, h6.2.2.2.2.1, fun w q1 q2 q3 => h6.2.2.2.2.2 w q1 q2 (by rw [pk_un (by omega)] at q3; exact q3)⟩, pk_us, fun _ q => by omega⟩
/-- a byte is set -/
theorem pQ_by {e t fi be : Nat} {σ : ty_K} {M : mh_M} {a : Nat} {cA : ClassId} {f : Nat → Int32} {to v : Int32} {c : Nat} (hI : pQ e t fi be to c σ M) (hk : σ a = some 19) (hat : M.2 a = .inl (cA, 38400, .inl f)) (hv : to.toInt < 2 → c = 16 → v.toInt ≤ 127) : pQ e t fi be to ((c : Int) + 1) σ (mh_set M a (.inl (cA, 38400, .inl (upd f (32 * be + c) v)))) := by
  obtain ⟨h0, ne, dk, la, ta, by_, h1, h2, h3, h4, h5, h6, h7, h8⟩ := hI
  obtain ⟨e1, -⟩ := pArr_eq h5 hk hat
  subst e1
  refine ⟨h0, ne, dk, la, ta, _, pRs_set hk (by decide) h1, pArr_set hk (by decide) h2, pArr_set hk (by decide) h3, pArr_set hk (by decide) h4, pArr_upd (fun b hb => h0 19 (by decide) b a hb hk), ⟨h6.1, h6.2.1, h6.2.2.1, h6.2.2.2.1, h6.2.2.2.2.1, fun w q1 q2 q3 => ?_⟩, h7, fun q1 q2 => ?_⟩
  · rw [pk_un (by omega)]
    exact h6.2.2.2.2.2 w q1 q2 q3
  · by_cases ec : c = 16
    · subst ec; rw [pk_us]; exact hv q1 rfl
    · rw [pk_un (by omega)]; exact h8 q1 (by omega)
theorem pQ_set {e t fi be : Nat} {to : Int32} {c : Int} {σ : ty_K} {M : mh_M} {a k : Nat} {z : va_E} (hI : pQ e t fi be to c σ M) (hk : σ a = some k) (hn : k ∉ [12, 13, 16, 18, 19, 24]) : pQ e t fi be to c σ (mh_set M a z) := by
  obtain ⟨h0, ne, dk, la, ta, by_, h1, h2, h3, h4, h5, h6, h7, h8⟩ := hI
  simp only [List.mem_cons, List.not_mem_nil, or_false, not_or] at hn
  exact ⟨h0, ne, dk, la, ta, by_, pRs_set hk ⟨hn.1, hn.2.2.2.2.2⟩ h1, pArr_set hk (Ne.symm hn.2.1) h2, pArr_set hk (Ne.symm hn.2.2.1) h3, pArr_set hk (Ne.symm hn.2.2.2.1) h4, pArr_set hk (Ne.symm hn.2.2.2.2.1) h5, h6, h7, h8⟩
/-- one more waits -/
theorem pQ_end {e t fi be : Nat} {σ : ty_K} {M : mh_M} {m : Nat} {fs : List Value} {to : Int32} (hI : pQ e t fi be to 32 σ M) (hm : σ m = some 12) (hat : M.2 m = .inr (7, fs)) (hl : 12 < fs.length) : pRx (e + 1) t fi (be + 1) σ (mh_set M m (.inr (7, fs.set 12 (.int (nI (be + 1)))))) := by
  obtain ⟨h0, ne, dk, la, ta, by_, h1, h2, h3, h4, h5, h6, h7, h8⟩ := hI
  obtain ⟨r1, r2, r3⟩ := pRs_fs h1 hm hat
  refine ⟨h0, ne, dk, la, ta, by_, pRs_mk h0 h1 hm (by rw [List.getElem?_set_ne (by omega)]; exact r1) (List.getElem?_set_self hl) (by rw [List.getElem?_set_ne (by omega)]; exact r3), pArr_set hm (by decide) h2, pArr_set hm (by decide) h3, pArr_set hm (by decide) h4, pArr_set hm (by decide) h5, by have := h6.1; omega, by have := h6.2.1; omega, h6.2.2.1, h6.2.2.2.1, h6.2.2.2.2.1, fun w q1 q2 q3 => ?_⟩
  by_cases ew : w = be
  · subst ew; rw [h7] at q3; exact h8 q3 (by omega)
  · exact h6.2.2.2.2.2 w q1 (by omega) q3
theorem ty_i32 {z : Int32} (h : z = (Int8.ofInt 32).toInt32) : z.toInt = 32 := by rw [h]; exact ty_cb (by omega) (by omega)
set_option maxRecDepth 100000 in
set_option maxHeartbeats 4000000 in
theorem q_body {x : gx_T} {tys : List (ClassId × FieldType)} {K : ty_K → mh_M → Prop} (ht : ty_tys tys) (hK : ty_sI pPSC K) {e t : Nat} (he : e ≤ 1198) (hx : gC x vwCl cX5_queue 5 tys kwT yX5_queue.cls) (P : ty_Pv x cX5_queue 5 tys (pIK (pR e t) K) fT_X5_queue_o pT_X5_queue_o cT_X5_queue_o kT_X5_queue_o lT_X5_queue_o nT_X5_queue_o)
    {kr N : Nat} (hkr : pKT[kr]? = some (2, N, [(0, 0, 255)])) (hkrn : kr ≠ 19 ∧ kr ≠ 14) {m ar : Nat} {fr to : Int32} {σ0 : ty_K} {M0 : mh_M} {ls0 : Array Slot} {post : Option Value → mh_M → Prop} (hm : σ0 m = some 12) (har : σ0 ar = some kr) (hf : 0 ≤ fr.toInt) (hf2 : 32 * fr.toInt + 31 < (N : Int)) (hN : N < 100000) (ht0 : 0 ≤ to.toInt) (ht1 : to.toInt ≤ 63) (h16 : to.toInt < 2 → fr.toInt = 0 ∧ kr = 24)
    (hs0 : ls0.size = 5) (hw0 : lv_wf ls0) (g0 : ls0[((0 : Fin 4) : Nat)]? = some (.val (.ref m))) (g1 : ls0[((1 : Fin 4) : Nat)]? = some (.val (.ref ar))) (g2 : ls0[((2 : Fin 4) : Nat)]? = some (.val (.int fr))) (g3 : ls0[((3 : Fin 4) : Nat)]? = some (.val (.int to))) (hH0 : ty_H tys pKT σ0 M0) (hI0 : pIK (pR e t) K σ0 M0) (hr : gR_ret x vwCl cX5_queue none post 0 0)
    (hp : ∀ (M' : mh_M) (σ' : ty_K), ty_FM ct_X5_queue_o.2.2.1 ct_X5_queue_o.2.2.2.1 σ0 M0 σ' M' → ty_H tys pKT σ' M' → pIK (pR (e + 1) t) K σ' M' → post none M') : gG x vwCl 0 ls0 [] M0 0 0 := by
  obtain ⟨⟨fi, be, hX0⟩, hK0⟩ := hI0
  obtain ⟨b1, b2⟩ := pRx_be hX0
  have eb : (nI be).toInt = (be : Int) := nI_tn (by omega)
  have e32 : (Int8.ofInt 32).toInt32.toInt = 32 := ty_cb (by omega) (by omega)
  have ht2 := ht
  obtain ⟨cB, cI, cZ, cJ, rr, rfl⟩ := ht2
  have loop : ∀ (k c : Nat) (ci : Int32) (σ : ty_K) (M : mh_M) (ls : Array Slot), 32 - c < k → ci.toInt = (c : Int) → c ≤ 32 → ls.size = 5 → lv_wf ls → ls[((0 : Fin 4) : Nat)]? = some (.val (.ref m)) → ls[((1 : Fin 4) : Nat)]? = some (.val (.ref ar)) → ls[((2 : Fin 4) : Nat)]? = some (.val (.int fr)) → ls[((3 : Fin 4) : Nat)]? = some (.val (.int to)) → ls[4]? = some (.val (.int ci)) → σ m = some 12 → σ ar = some kr → ty_H ((cB, .byte) :: (cI, .int) :: (cZ, .boolean) :: (cJ, .long) :: rr) pKT σ M → pIK (pQ e t fi be to c) K σ M → ty_FM ct_X5_queue_o.2.2.1 ct_X5_queue_o.2.2.2.1 σ0 M0 σ M → gG x vwCl 13 ls [] M 0 0 := by
    intro k
    induction k with
    | zero => intro c ci σ M ls hk; omega
    | succ k ih =>
      intro c ci σ M ls hk hci hc hs hw h0 h1 h2 h3 h4 hm har hH hI hF
      have hX := pQ_x hI.1
      obtain ⟨hu, ne, dk, la, ta, by_, r1, r2, r3, r4, r5, r6⟩ := id hX
      obtain ⟨fs, hat, hfs⟩ := ty_obj hH hm (show pKT[12]? = some (0, 7, _) from rfl)
      obtain ⟨f11, f12, f16⟩ := pRs_fs r1 hm hat.2
      obtain ⟨v4, f4, aL, rfl, hL4⟩ := hfs 4 (2, 14, 0) rfl
      obtain ⟨v10, f10, aB, rfl, hB10⟩ := hfs 10 (2, 19, 0) rfl
      have hL4 : σ aL = some 14 := hL4
      have hB10 : σ aB = some 19 := hB10
      refine gG_sp hx (i := .iload 4) (len := 2) (by decide +kernel) (sp_il2 h4) ?_
      refine gG_sp hx (i := .bipush 32) (len := 2) (by decide +kernel) rfl ?_
      refine gG_ic hx (cn := .ge) (off := 54) (tgt := 71) (by decide +kernel) rfl (fun cg => ?_) (fun cg => ?_)
      · have cg : (Int8.ofInt 32).toInt32.toInt ≤ ci.toInt := cg
        have c32 : c = 32 := by omega
        subst c32
        refine gG_sp hx (i := .aload_n 0) (len := 1) (by decide +kernel) (sp_al h0) ?_
        refine gG_sp hx (i := .dup) (len := 1) (by decide +kernel) rfl ?_
        refine P.1 (73, 7, 12, .int) (by decide +kernel) 73 ls m fs _ _ M 0 0 (by decide +kernel) hat f12 ?_
        refine gG_sp hx (i := .iconst 1) (len := 1) (by decide +kernel) rfl ?_
        refine gG_sp hx (i := .iadd) (len := 1) (by decide +kernel) rfl ?_
        have ew : nI be + Int32.ofInt 1 = nI (be + 1) := by rw [lit1]; exact nI_1 be
        show gG x vwCl 78 ls [.int (nI be + Int32.ofInt 1), .ref m] M 0 0
        rw [ew]
        obtain ⟨hH1, hl1⟩ := ty_putH (f := 12) (v := .int (nI (be + 1))) hH hm (show pKT[12]? = some (0, 7, _) from rfl) hat rfl ⟨_, rfl, by rw [nI_tn (by omega)]; show (0 : Int) ≤ _; omega, by rw [nI_tn (by omega)]; show _ ≤ (1199 : Int); omega⟩
        refine P.2.1 (73, 7, 12, .int) (by decide +kernel) 78 ls m fs (.int (nI (be + 1))) [] M 0 0 (by decide +kernel) hat hl1 rfl rfl ?_
        exact hr 81 ls .return_ none _ 0 0 (by decide +kernel) ⟨rfl, rfl⟩ (hp _ σ (hF.tr (ty_F_set hm (fun i hi => ty_p_set hat.2 i (fun q => hi (by rw [q]; decide))))) hH1 ⟨⟨fi, be + 1, pQ_end hI.1 hm hat.2 hl1⟩, pK_set hK hm (pK_no (by decide)) hI.2⟩) (Nat.le_refl _) (Nat.le_refl _)
      · have cg : ¬ (Int8.ofInt 32).toInt32.toInt ≤ ci.toInt := cg
        rw [e32, hci] at cg
        obtain ⟨cA10, ft10, by', t10, at10, el10⟩ := ty_arr (j := 1) hH hB10 (show pKT[19]? = some (1 + 1, 38400, [(0, 0, 255)]) from rfl) (by omega)
        cases t10
        obtain ⟨cAr, ftr, rw_, tr, atr, elr⟩ := ty_arr (j := 1) hH har hkr (by omega)
        cases tr
        have jx : ((Int8.ofInt 32).toInt32 * nI be + ci).toInt = 32 * (be : Int) + c := ty_addI (ty_mulI e32 eb (by omega) (by omega)) hci (by omega) (by omega)
        have kx : ((Int8.ofInt 32).toInt32 * fr + ci).toInt = 32 * fr.toInt + c := ty_addI (ty_mulI e32 rfl (by omega) (by omega)) hci (by omega) (by omega)
        have lx : ((Int8.ofInt 32).toInt32 * to + ci).toInt = 32 * to.toInt + c := ty_addI (ty_mulI e32 rfl (by omega) (by omega)) hci (by omega) (by omega)
        have inJ : vp_in ((Int8.ofInt 32).toInt32 * nI be + ci) 38400 := vp_in_iff.mpr ⟨by rw [jx]; omega, by rw [jx]; omega⟩
        have inK : vp_in ((Int8.ofInt 32).toInt32 * fr + ci) N := vp_in_iff.mpr ⟨by rw [kx]; omega, by rw [kx]; omega⟩
        have inL : vp_in ((Int8.ofInt 32).toInt32 * to + ci) 2048 := vp_in_iff.mpr ⟨by rw [lx]; omega, by rw [lx]; omega⟩
        have cj : ((Int8.ofInt 32).toInt32 * nI be + ci).toNatClampNeg = 32 * be + c := ty_clN (by rw [jx]; omega)
        have ck : ((Int8.ofInt 32).toInt32 * fr + ci).toNatClampNeg = 32 * fr.toInt.toNat + c := ty_clN (by rw [kx]; omega)
        have ek := elr (32 * fr.toInt.toNat + c) (by omega)
        refine gG_sp hx (i := .aload_n 0) (len := 1) (by decide +kernel) (sp_al h0) ?_
        refine P.1 (34, 7, 10, .array .int) (by decide +kernel) 21 ls m fs _ _ M 0 0 (by decide +kernel) hat f10 ?_
        refine gG_sp hx (i := .bipush 32) (len := 2) (by decide +kernel) rfl ?_
        refine gG_sp hx (i := .aload_n 0) (len := 1) (by decide +kernel) (sp_al h0) ?_
        refine P.1 (73, 7, 12, .int) (by decide +kernel) 27 ls m fs _ _ M 0 0 (by decide +kernel) hat f12 ?_
        refine gG_sp hx (i := .imul) (len := 1) (by decide +kernel) rfl ?_
        refine gG_sp hx (i := .iload 4) (len := 2) (by decide +kernel) (sp_il2 h4) ?_
        refine gG_sp hx (i := .iadd) (len := 1) (by decide +kernel) rfl ?_
        refine gG_sp hx (i := .aload_n 1) (len := 1) (by decide +kernel) (sp_al h1) ?_
        refine gG_sp hx (i := .bipush 32) (len := 2) (by decide +kernel) rfl ?_
        refine gG_sp hx (i := .iload_n 2) (len := 1) (by decide +kernel) (sp_il h2) ?_
        refine gG_sp hx (i := .imul) (len := 1) (by decide +kernel) rfl ?_
        refine gG_sp hx (i := .iload 4) (len := 2) (by decide +kernel) (sp_il2 h4) ?_
        refine gG_sp hx (i := .iadd) (len := 1) (by decide +kernel) rfl ?_
        refine gG_iald hx 1 (by decide +kernel) atr rfl inK ?_
        rw [ck]
        refine gG_iast hx 1 (by decide +kernel) at10 rfl inJ ?_
        rw [cj]
        have hok : ty_ok ((cB, .byte) :: (cI, .int) :: (cZ, .boolean) :: (cJ, .long) :: rr) σ (2, 38400, [(0, 0, 255)]) (.inl (cI, 38400, .inl (upd by' (32 * be + c) (rw_ (32 * fr.toInt.toNat + c))))) := ty_ok_ar (ft := .int) rfl (by omega) rfl (fun j hj => by
          by_cases ej : j = 32 * be + c
          · subst ej; rw [pk_us]; exact ek
          · rw [pk_un ej]; exact el10 j hj)
        have hH1 := ty_H_set hH hB10 rfl hok
        have hm1 : mh_at (mh_set M aB (.inl (cI, 38400, .inl (upd by' (32 * be + c) (rw_ (32 * fr.toInt.toNat + c)))))) m (.inr (7, fs)) := hat.set_ne (fun q => by rw [q, hB10] at hm; cases hm)
        have hr1 : kr ≠ 19 → mh_at (mh_set M aB (.inl (cI, 38400, .inl (upd by' (32 * be + c) (rw_ (32 * fr.toInt.toNat + c)))))) ar (.inl (cI, N, .inl rw_)) := fun hne => atr.set_ne (fun q => hne (by rw [q, hB10] at har; exact (Option.some.inj har).symm))
        have hkn : kr ≠ 19 ∧ kr ≠ 14 := hkrn
        have hQ1 : pQ e t fi be to ((c : Int) + 1) σ (mh_set M aB (.inl (cI, 38400, .inl (upd by' (32 * be + c) (rw_ (32 * fr.toInt.toNat + c)))))) := pQ_by hI.1 hB10 at10.2 (fun q1 q2 => by
          obtain ⟨z1, z2⟩ := h16 q1
          subst q2
          have z3 : fr.toInt.toNat = 0 := by rw [z1]; rfl
          rw [z3]
          subst z2
          obtain ⟨c0, f0, w1, w2⟩ := r1.2 ar har
          rw [atr.2] at w1
          cases w1
          exact w2)
        refine gG_sp hx (i := .aload_n 0) (len := 1) (by decide +kernel) (sp_al h0) ?_
        refine P.1 (17, 7, 4, .array .int) (by decide +kernel) 45 ls m fs _ _ (mh_set M aB (.inl (cI, 38400, .inl (upd by' (32 * be + c) (rw_ (32 * fr.toInt.toNat + c)))))) 0 0 (by decide +kernel) hm1 f4 ?_
        refine gG_sp hx (i := .bipush 32) (len := 2) (by decide +kernel) rfl ?_
        refine gG_sp hx (i := .iload_n 3) (len := 1) (by decide +kernel) (sp_il h3) ?_
        refine gG_sp hx (i := .imul) (len := 1) (by decide +kernel) rfl ?_
        refine gG_sp hx (i := .iload 4) (len := 2) (by decide +kernel) (sp_il2 h4) ?_
        refine gG_sp hx (i := .iadd) (len := 1) (by decide +kernel) rfl ?_
        refine gG_sp hx (i := .aload_n 1) (len := 1) (by decide +kernel) (sp_al h1) ?_
        refine gG_sp hx (i := .bipush 32) (len := 2) (by decide +kernel) rfl ?_
        refine gG_sp hx (i := .iload_n 2) (len := 1) (by decide +kernel) (sp_il h2) ?_
        refine gG_sp hx (i := .imul) (len := 1) (by decide +kernel) rfl ?_
        refine gG_sp hx (i := .iload 4) (len := 2) (by decide +kernel) (sp_il2 h4) ?_
        refine gG_sp hx (i := .iadd) (len := 1) (by decide +kernel) rfl ?_
        refine gG_iald hx 1 (by decide +kernel) (hr1 hkn.1) rfl inK ?_
        rw [ck]
        obtain ⟨cAl, ftl, la', tl, atl, ell⟩ := ty_arr (j := 1) hH1 hL4 (show pKT[14]? = some (1 + 1, 2048, [(0, 0, 255)]) from rfl) (by omega)
        cases tl
        refine gG_iast hx 1 (by decide +kernel) atl rfl inL ?_
        have hok2 : ty_ok ((cB, .byte) :: (cI, .int) :: (cZ, .boolean) :: (cJ, .long) :: rr) σ (2, 2048, [(0, 0, 255)]) (.inl (cI, 2048, .inl (upd la' ((Int8.ofInt 32).toInt32 * to + ci).toNatClampNeg (rw_ (32 * fr.toInt.toNat + c))))) := ty_ok_ar (ft := .int) rfl (by omega) rfl (fun j hj => by
          by_cases ej : j = ((Int8.ofInt 32).toInt32 * to + ci).toNatClampNeg
          · subst ej; rw [pk_us]; exact ek
          · rw [pk_un ej]; exact ell j hj)
        refine gG_iinc hx hs hw (i := 4) (z := 1) (v := ci) (by decide +kernel) h4 (fun ls' hp' => ?_)
        refine gG_goto hx (off := -55) (tgt := 13) (by decide +kernel) rfl ?_
        have ec : (ci + Int32.ofInt 1).toInt = ((c + 1 : Nat) : Int) := by
          rw [ty_addI hci (show (Int32.ofInt 1).toInt = 1 from rfl) (by omega) (by omega)]; omega
        refine ih (c + 1) (ci + Int32.ofInt 1) σ _ ls' (by omega) ec (by omega) hp'.1 hp'.2.1 (hp'.2.2.2 0 _ h0 (by omega) (fun q => by omega)) (hp'.2.2.2 1 _ h1 (by omega) (fun q => by omega)) (hp'.2.2.2 2 _ h2 (by omega) (fun q => by omega)) (hp'.2.2.2 3 _ h3 (by omega) (fun q => absurd q.2 (by show ¬ (1 : Nat) = 2; omega))) hp'.2.2.1 hm har (ty_H_set hH1 hL4 rfl hok2) ⟨?_, pK_set hK hL4 (pK_no (by decide)) (pK_set hK hB10 (pK_no (by decide)) hI.2)⟩ ((hF.tr (ty_F_set hB10 (fun i hi => ty_p_arr at10.2 i (fun q => hi (by rw [q]; decide))))).tr (ty_F_set hL4 (fun i hi => ty_p_arr atl.2 i (fun q => hi (by rw [q]; decide)))))
        have hQ2 := pQ_set (z := .inl (cI, 2048, .inl (upd la' ((Int8.ofInt 32).toInt32 * to + ci).toNatClampNeg (rw_ (32 * fr.toInt.toNat + c))))) hQ1 hL4 (by decide)
        rw [show ((c + 1 : Nat) : Int) = (c : Int) + 1 by omega]
        exact hQ2
  obtain ⟨hu, ne, dk, la, ta, by_, r1, r2, r3, r4, r5, r6⟩ := id hX0
  obtain ⟨fs, hat, hfs⟩ := ty_obj hH0 hm (show pKT[12]? = some (0, 7, _) from rfl)
  obtain ⟨f11, f12, f16⟩ := pRs_fs r1 hm hat.2
  obtain ⟨v9, f9, aT, rfl, hT9⟩ := hfs 9 (2, 18, 0) rfl
  have hT9 : σ0 aT = some 18 := hT9
  obtain ⟨cA9, ft9, ta', t9, at9, el9⟩ := ty_arr (j := 1) hH0 hT9 (show pKT[18]? = some (1 + 1, 1200, [(0, 0, 63)]) from rfl) (by omega)
  cases t9
  have inB : vp_in (nI be) 1200 := vp_in_iff.mpr ⟨by rw [eb]; omega, by rw [eb]; omega⟩
  have cb : (nI be).toNatClampNeg = be := ty_clN eb
  refine gG_sp hx (i := .aload_n 0) (len := 1) (by decide +kernel) (sp_al g0) ?_
  refine P.1 (30, 7, 9, .array .int) (by decide +kernel) 1 ls0 m fs _ _ M0 0 0 (by decide +kernel) hat f9 ?_
  refine gG_sp hx (i := .aload_n 0) (len := 1) (by decide +kernel) (sp_al g0) ?_
  refine P.1 (73, 7, 12, .int) (by decide +kernel) 5 ls0 m fs _ _ M0 0 0 (by decide +kernel) hat f12 ?_
  refine gG_sp hx (i := .iload_n 3) (len := 1) (by decide +kernel) (sp_il g3) ?_
  refine gG_iast hx 1 (by decide +kernel) at9 rfl inB ?_
  rw [cb]
  refine gG_sp hx (i := .iconst 0) (len := 1) (by decide +kernel) rfl ?_
  refine gG_istore hx hs0 hw0 (i := 4) (len := 2) (Or.inl ⟨by decide +kernel, rfl⟩) (by decide) (fun ls' hp' => ?_)
  have hok : ty_ok ((cB, .byte) :: (cI, .int) :: (cZ, .boolean) :: (cJ, .long) :: rr) σ0 (2, 1200, [(0, 0, 63)]) (.inl (cI, 1200, .inl (upd ta' be to))) := ty_ok_ar (ft := .int) rfl (by omega) rfl (fun j hj => by
    by_cases ej : j = be
    · subst ej; rw [pk_us]; exact ⟨_, rfl, ht0, ht1⟩
    · rw [pk_un ej]; exact el9 j hj)
  exact loop 33 0 (Int32.ofInt 0) σ0 _ ls' (by decide) rfl (by decide) hp'.1 hp'.2.1 (hp'.2.2.2 0 _ g0 (by omega) (fun q => by omega)) (hp'.2.2.2 1 _ g1 (by omega) (fun q => by omega)) (hp'.2.2.2 2 _ g2 (by omega) (fun q => by omega)) (hp'.2.2.2 3 _ g3 (by omega) (fun q => absurd q.2 (by show ¬ (1 : Nat) = 2; omega))) hp'.2.2.1 hm har (ty_H_set hH0 hT9 rfl hok) ⟨pQ_ta hX0 hT9 at9.2, pK_set hK hT9 (pK_no (by decide)) hK0⟩ (ty_F_set hT9 (fun i hi => ty_p_arr at9.2 i (fun q => hi (by rw [q]; decide))))
theorem mt_X5_queue_o {l : Launch} {D : va_G} {tys : List (ClassId × FieldType)} {K : ty_K → mh_M → Prop} (ht : ty_tys tys) (hK : ty_sI pPSC K) (e t : Nat) (he : e ≤ 1198) : ty_Met l D vwCl tys pKT (pIK (pR e t) K) (pIK (pR (e + 1) t) K) pPG yX5_queue cX5_queue 5 none 0 0 ct_X5_queue_o := by
  refine ty_of (by decide +kernel) (by decide +kernel) (by decide +kernel) ?_
  intro x av M0 σ0 ls0 post hx hl hnm hR hD hav hH0 hI0 hls hp hr
  match av, hav with
  | [_, _, _, _], ⟨⟨m, e0, hm⟩, ⟨ar, e1, har⟩, ⟨fr, e2, f1, f2⟩, ⟨to, e3, t1, t2⟩, _⟩ =>
    subst e0; subst e1; subst e2; subst e3
    have f1 : (2 : Int) ≤ fr.toInt := f1
    have f2 : fr.toInt ≤ 63 := f2
    have t1 : (2 : Int) ≤ to.toInt := t1
    have t2 : to.toInt ≤ 63 := t2
    exact q_body ht hK he hx (pv_X5_queue_o (pI_G ht hK e t) hx hl hnm hR hD) (kr := 15) (N := 2048) rfl (by decide) hm har (by omega) (by omega) (by decide) (by omega) t2 (fun q => by omega) hls.1 hls.2.1 (hls.2.2 (0, .ref m) List.mem_cons_self) (hls.2.2 (1, .ref ar) (List.mem_cons_of_mem _ List.mem_cons_self)) (hls.2.2 (2, .int fr) (List.mem_cons_of_mem _ (List.mem_cons_of_mem _ List.mem_cons_self))) (hls.2.2 (3, .int to) (List.mem_cons_of_mem _ (List.mem_cons_of_mem _ (List.mem_cons_of_mem _ List.mem_cons_self)))) hH0 hI0 hr (fun M' σ' q1 q2 q3 => hp none M' σ' q1 q2 q3 rfl trivial)
theorem mt_X5_queue_h {l : Launch} {D : va_G} {tys : List (ClassId × FieldType)} {K : ty_K → mh_M → Prop} (ht : ty_tys tys) (hK : ty_sI pPSC K) (e t : Nat) (he : e ≤ 1198) : ty_Met l D vwCl tys pKT (pIK (pR e t) K) (pIK (pR (e + 1) t) K) pPG yX5_queue cX5_queue 5 none 0 0 ct_X5_queue_h := by
  refine ty_of (by decide +kernel) (by decide +kernel) (by decide +kernel) ?_
  intro x av M0 σ0 ls0 post hx hl hnm hR hD hav hH0 hI0 hls hp hr
  match av, hav with
  | [_, _, _, _], ⟨⟨m, e0, hm⟩, ⟨ar, e1, har⟩, ⟨fr, e2, f1, f2⟩, ⟨to, e3, t1, t2⟩, _⟩ =>
    subst e0; subst e1; subst e2; subst e3
    have f1 : (0 : Int) ≤ fr.toInt := f1
    have f2 : fr.toInt ≤ 0 := f2
    have t1 : (0 : Int) ≤ to.toInt := t1
    have t2 : to.toInt ≤ 1 := t2
    exact q_body ht hK he hx (pv_X5_queue_o (pI_G ht hK e t) hx hl hnm hR hD) (kr := 24) (N := 32) rfl (by decide) hm har (by omega) (by omega) (by decide) (by omega) (by omega) (fun q => ⟨by omega, rfl⟩) hls.1 hls.2.1 (hls.2.2 (0, .ref m) List.mem_cons_self) (hls.2.2 (1, .ref ar) (List.mem_cons_of_mem _ List.mem_cons_self)) (hls.2.2 (2, .int fr) (List.mem_cons_of_mem _ (List.mem_cons_of_mem _ List.mem_cons_self))) (hls.2.2 (3, .int to) (List.mem_cons_of_mem _ (List.mem_cons_of_mem _ (List.mem_cons_of_mem _ List.mem_cons_self)))) hH0 hI0 hr (fun M' σ' q1 q2 q3 => hp none M' σ' q1 q2 q3 rfl trivial)
