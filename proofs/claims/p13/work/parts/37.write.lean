/-! KnowDiskModel.write: the first write that waits reaches the disk -/
/-- the disk gets byte i of the first write -/
theorem pRx_disk {e t fi be : Nat} {σ : ty_K} {M : mh_M} {a : Nat} {cA : ClassId} {f ta by_ : Nat → Int32} {i : Nat} (hI : pRx e t fi be σ M) (hk : σ a = some 13) (hat : M.2 a = .inl (cA, 2048, .inl f)) (hta : pArr σ M 18 1200 ta) (hby : pArr σ M 19 38400 by_) (h18 : ∃ b, σ b = some 18) (h19 : ∃ b, σ b = some 19) (hlt : fi < be) (hi : i < 32) (ht0 : 0 ≤ (ta fi).toInt) : pRx e t fi be σ (mh_set M a (.inl (cA, 2048, .inl (upd f (32 * (ta fi).toInt.toNat + i) (by_ (32 * fi + i)))))) := by
  obtain ⟨h0, ne, dk, la, ta', by', h1, h2, h3, h4, h5, h6⟩ := hI
  obtain ⟨e1, -⟩ := pArr_eq h2 hk hat
  subst e1
  obtain ⟨b, hb⟩ := h18
  obtain ⟨c1, q1⟩ := hta b hb
  obtain ⟨e2, -⟩ := pArr_eq h4 hb q1
  subst e2
  obtain ⟨b2, hb2⟩ := h19
  obtain ⟨c2, q2⟩ := hby b2 hb2
  obtain ⟨e3, -⟩ := pArr_eq h5 hb2 q2
  subst e3
  have key := h6.2.2.2.2.2 fi (Nat.le_refl _) hlt
  refine ⟨h0, ne, _, la, ta, by_, pRs_set hk (by decide) h1, pArr_upd (fun b hb => h0 13 (by decide) b a hb hk), pArr_set hk (by decide) h3, pArr_set hk (by decide) h4, pArr_set hk (by decide) h5, h6.1, h6.2.1, h6.2.2.1, ?_, ?_, h6.2.2.2.2.2⟩
  · by_cases e : 16 = 32 * (ta fi).toInt.toNat + i
    · rw [← e, pk_us]
      have : i = 16 := by omega
      rw [this]
      exact key (by omega)
    · rw [pk_un e]; exact h6.2.2.2.1
  · by_cases e : 48 = 32 * (ta fi).toInt.toNat + i
    · rw [← e, pk_us]
      have : i = 16 := by omega
      rw [this]
      exact key (by omega)
    · rw [pk_un e]; exact h6.2.2.2.2.1
theorem nI_tn {n : Nat} (h : n < 2147483648) : (nI n).toInt = (n : Int) := nI_toInt (by omega)
theorem ty_mulI {a b : Int32} {x y : Int} (ha : a.toInt = x) (hb : b.toInt = y) (h1 : -2147483648 ≤ x * y) (h2 : x * y ≤ 2147483647) : (a * b).toInt = x * y := by
  rw [Int32.toInt_mul, ha, hb, ty_bm h1 h2]
theorem ty_addI {a b : Int32} {x y : Int} (ha : a.toInt = x) (hb : b.toInt = y) (h1 : -2147483648 ≤ x + y) (h2 : x + y ≤ 2147483647) : (a + b).toInt = x + y := by
  rw [Int32.toInt_add, ha, hb, ty_bm h1 h2]
theorem ty_clN {a : Int32} {n : Nat} (h : a.toInt = (n : Int)) : a.toNatClampNeg = n := by
  have e : a.toNatClampNeg = a.toInt.toNat := rfl
  rw [e, h]
  rfl
set_option maxRecDepth 100000 in
set_option maxHeartbeats 1000000 in
theorem mt_X5_write {l : Launch} {D : va_G} {tys : List (ClassId × FieldType)} {K : ty_K → mh_M → Prop} (ht : ty_tys tys) (hK : ty_sI pPSC K) (e t fi be : Nat) (hfb : fi < be) (hbe : be < 2147483648) : ty_Met l D vwCl tys pKT (pIK (pRx e t fi be) K) (pIK (pRx e t (fi + 1) be) K) pPG yX5_write cX5_write 3 none 0 0 ct_X5_write := by
  refine ty_of (by decide +kernel) (by decide +kernel) (by decide +kernel) ?_
  intro x av M0 σ0 ls0 post hx hl hnm hR hD hav hH0 hI0 hls hp hr
  have hG := pX_G ht hK e t fi be
  have P := pv_X5_write hG hx hl hnm hR hD
  match av, hav with
  | [_, _], ⟨⟨m, e0, hm⟩, ⟨nn, e1, n1, n2⟩, _⟩ =>
    subst e0; subst e1
    have hm : σ0 m = some 12 := hm
    have n1 : (0 : Int) ≤ nn.toInt := n1
    have n2 : nn.toInt ≤ 32 := n2
    have loop : ∀ (k : Nat) (c : Int32) (σ : ty_K) (M : mh_M) (ls : Array Slot), (32 - c.toInt).toNat < k → ls.size = 3 → lv_wf ls → ls[((0 : Fin 4) : Nat)]? = some (.val (.ref m)) → ls[((1 : Fin 4) : Nat)]? = some (.val (.int nn)) → ls[((2 : Fin 4) : Nat)]? = some (.val (.int c)) → 0 ≤ c.toInt → c.toInt ≤ 32 → σ m = some 12 → ty_H tys pKT σ M → pIK (pRx e t fi be) K σ M → ty_FM ct_X5_write.2.2.1 ct_X5_write.2.2.2.1 σ0 M0 σ M → gG x vwCl 2 ls [] M 0 0 := by
      intro k
      induction k with
      | zero => intro c σ M ls hk; omega
      | succ k ih =>
        intro c σ M ls hk hs hw h0 h1 h2 c0 c1 hm hH hI hF
        have hX := hI.1
        obtain ⟨hu, ne, dk, la, ta, by_, r1, r2, r3, r4, r5, r6⟩ := id hX
        obtain ⟨fs, hat, hfs⟩ := ty_obj hH hm (show pKT[12]? = some (0, 7, _) from rfl)
        obtain ⟨f11, f12, f16⟩ := pRs_fs r1 hm hat.2
        obtain ⟨v3, f3, aD, rfl, hD3⟩ := hfs 3 (2, 13, 0) rfl
        obtain ⟨v9, f9, aT, rfl, hT9⟩ := hfs 9 (2, 18, 0) rfl
        obtain ⟨v10, f10, aB, rfl, hB10⟩ := hfs 10 (2, 19, 0) rfl
        have hD3 : σ aD = some 13 := hD3
        have hT9 : σ aT = some 18 := hT9
        have hB10 : σ aB = some 19 := hB10
        obtain ⟨vf, ff, zf, zf0, zf1, zf2⟩ := hfs 11 (0, 0, 1199) rfl
        rw [f11] at ff
        cases ff
        cases zf0
        have zf2 : (nI fi).toInt ≤ 1199 := zf2
        refine gG_sp hx (i := .iload_n 2) (len := 1) (by decide +kernel) (sp_il h2) ?_
        refine gG_sp hx (i := .iload_n 1) (len := 1) (by decide +kernel) (sp_il h1) ?_
        refine gG_ic hx (cn := .ge) (off := 42) (tgt := 46) (by decide +kernel) rfl (fun _ => ?_) (fun cg => ?_)
        · refine gG_sp hx (i := .aload_n 0) (len := 1) (by decide +kernel) (sp_al h0) ?_
          refine gG_sp hx (i := .dup) (len := 1) (by decide +kernel) rfl ?_
          refine P.1 (70, 7, 11, .int) (by decide +kernel) 48 ls m fs (.int (nI fi)) [.ref m] M 0 0 (by decide +kernel) hat f11 ?_
          refine gG_sp hx (i := .iconst 1) (len := 1) (by decide +kernel) rfl ?_
          refine gG_sp hx (i := .iadd) (len := 1) (by decide +kernel) rfl ?_
          have ew : nI fi + Int32.ofInt 1 = nI (fi + 1) := by rw [lit1]; exact nI_1 fi
          show gG x vwCl 53 ls [.int (nI fi + Int32.ofInt 1), .ref m] M 0 0
          rw [ew]
          obtain ⟨vb, fb, zb, zb0, zb1, zb2⟩ := hfs 12 (0, 0, 1199) rfl
          rw [f12] at fb
          cases fb
          cases zb0
          have zb2 : (nI be).toInt ≤ 1199 := zb2
          have zb1 : (0 : Int) ≤ (nI be).toInt := zb1
          have hb31 : be < 2147483648 := hbe
          rw [nI_tn hb31] at zb2
          obtain ⟨hH1, hl1⟩ := ty_putH (f := 11) (v := .int (nI (fi + 1))) hH hm (show pKT[12]? = some (0, 7, _) from rfl) hat rfl ⟨_, rfl, by rw [nI_tn (by omega)]; show (0 : Int) ≤ _; omega, by rw [nI_tn (by omega)]; show _ ≤ (1199 : Int); omega⟩
          refine P.2.1 (70, 7, 11, .int) (by decide +kernel) 53 ls m fs (.int (nI (fi + 1))) [] M 0 0 (by decide +kernel) hat hl1 rfl rfl ?_
          refine hr 56 ls .return_ none _ 0 0 (by decide +kernel) ⟨rfl, rfl⟩ (hp none _ σ (hF.tr (ty_F_set hm (fun i hi => ty_p_set hat.2 i (fun q => hi (by rw [q]; decide))))) hH1 ⟨pRx_first hX hm hat.2 hl1 (Nat.le_succ fi) hfb, pK_set hK hm (pK_no (by decide)) hI.2⟩ rfl trivial) (Nat.le_refl _) (Nat.le_refl _)
        · have cg : ¬ nn.toInt ≤ c.toInt := cg
          have hb31 : be < 2147483648 := hbe
          have ht2 := ht
          obtain ⟨cB, cI, cZ, cJ, rr, rfl⟩ := ht2
          obtain ⟨cA, ft, dk', t3, at3, el3⟩ := ty_arr (j := 1) hH hD3 (show pKT[13]? = some (1 + 1, 2048, [(0, 0, 255)]) from rfl) (by omega)
          cases t3
          obtain ⟨cA9, ft9, ta', t9, at9, el9⟩ := ty_arr (j := 1) hH hT9 (show pKT[18]? = some (1 + 1, 1200, [(0, 0, 63)]) from rfl) (by omega)
          cases t9
          obtain ⟨cA10, ft10, by', t10, at10, el10⟩ := ty_arr (j := 1) hH hB10 (show pKT[19]? = some (1 + 1, 38400, [(0, 0, 255)]) from rfl) (by omega)
          cases t10
          obtain ⟨ea, -⟩ := pArr_eq r4 hT9 at9.2
          obtain ⟨eb, -⟩ := pArr_eq r5 hB10 at10.2
          subst ea; subst eb
          have zf3 : (nI fi).toInt = (fi : Int) := nI_tn (by omega)
          rw [zf3] at zf2
          have inF : vp_in (nI fi) 1200 := vp_in_iff.mpr ⟨by rw [zf3]; omega, by rw [zf3]; omega⟩
          have cf : (nI fi).toNatClampNeg = fi := ty_clN zf3
          obtain ⟨zt, zt0, zt1, zt2⟩ := el9 fi (by omega)
          cases zt0
          have zt1 : (0 : Int) ≤ (ta' fi).toInt := zt1
          have zt2 : (ta' fi).toInt ≤ 63 := zt2
          have e32 : (Int8.ofInt 32).toInt32.toInt = 32 := ty_cb (by omega) (by omega)
          refine gG_sp hx (i := .aload_n 0) (len := 1) (by decide +kernel) (sp_al h0) ?_
          refine P.1 (13, 7, 3, .array .int) (by decide +kernel) 8 ls m fs (.ref aD) [] M 0 0 (by decide +kernel) hat f3 ?_
          refine gG_sp hx (i := .bipush 32) (len := 2) (by decide +kernel) rfl ?_
          refine gG_sp hx (i := .aload_n 0) (len := 1) (by decide +kernel) (sp_al h0) ?_
          refine P.1 (30, 7, 9, .array .int) (by decide +kernel) 14 ls m fs (.ref aT) _ M 0 0 (by decide +kernel) hat f9 ?_
          refine gG_sp hx (i := .aload_n 0) (len := 1) (by decide +kernel) (sp_al h0) ?_
          refine P.1 (70, 7, 11, .int) (by decide +kernel) 18 ls m fs (.int (nI fi)) _ M 0 0 (by decide +kernel) hat f11 ?_
          refine gG_iald hx 1 (by decide +kernel) at9 rfl inF ?_
          rw [cf]
          refine gG_sp hx (i := .imul) (len := 1) (by decide +kernel) rfl ?_
          refine gG_sp hx (i := .iload_n 2) (len := 1) (by decide +kernel) (sp_il h2) ?_
          refine gG_sp hx (i := .iadd) (len := 1) (by decide +kernel) rfl ?_
          have ix : ((Int8.ofInt 32).toInt32 * ta' fi + c).toInt = 32 * (ta' fi).toInt + c.toInt := ty_addI (ty_mulI e32 rfl (by omega) (by omega)) rfl (by omega) (by omega)
          refine gG_sp hx (i := .aload_n 0) (len := 1) (by decide +kernel) (sp_al h0) ?_
          refine P.1 (34, 7, 10, .array .int) (by decide +kernel) 26 ls m fs (.ref aB) _ M 0 0 (by decide +kernel) hat f10 ?_
          refine gG_sp hx (i := .bipush 32) (len := 2) (by decide +kernel) rfl ?_
          refine gG_sp hx (i := .aload_n 0) (len := 1) (by decide +kernel) (sp_al h0) ?_
          refine P.1 (70, 7, 11, .int) (by decide +kernel) 32 ls m fs (.int (nI fi)) _ M 0 0 (by decide +kernel) hat f11 ?_
          refine gG_sp hx (i := .imul) (len := 1) (by decide +kernel) rfl ?_
          refine gG_sp hx (i := .iload_n 2) (len := 1) (by decide +kernel) (sp_il h2) ?_
          refine gG_sp hx (i := .iadd) (len := 1) (by decide +kernel) rfl ?_
          have jx : ((Int8.ofInt 32).toInt32 * nI fi + c).toInt = 32 * (fi : Int) + c.toInt := ty_addI (ty_mulI e32 zf3 (by omega) (by omega)) rfl (by omega) (by omega)
          have inJ : vp_in ((Int8.ofInt 32).toInt32 * nI fi + c) 38400 := vp_in_iff.mpr ⟨by rw [jx]; omega, by rw [jx]; omega⟩
          have inI : vp_in ((Int8.ofInt 32).toInt32 * ta' fi + c) 2048 := vp_in_iff.mpr ⟨by rw [ix]; omega, by rw [ix]; omega⟩
          have cj : ((Int8.ofInt 32).toInt32 * nI fi + c).toNatClampNeg = 32 * fi + c.toInt.toNat := ty_clN (by rw [jx]; omega)
          have ci : ((Int8.ofInt 32).toInt32 * ta' fi + c).toNatClampNeg = 32 * (ta' fi).toInt.toNat + c.toInt.toNat := ty_clN (by rw [ix]; omega)
          refine gG_iald hx 1 (by decide +kernel) at10 rfl inJ ?_
          rw [cj]
          refine gG_iast hx 1 (by decide +kernel) at3 rfl inI ?_
          rw [ci]
          obtain ⟨zv, zv0, zv1, zv2⟩ := el10 (32 * fi + c.toInt.toNat) (by omega)
          have hok : ty_ok ((cB, .byte) :: (cI, .int) :: (cZ, .boolean) :: (cJ, .long) :: rr) σ (2, 2048, [(0, 0, 255)]) (.inl (cI, 2048, .inl (upd dk' (32 * (ta' fi).toInt.toNat + c.toInt.toNat) (by' (32 * fi + c.toInt.toNat))))) := ty_ok_ar (ft := .int) rfl (by omega) rfl (fun j hj => by
            by_cases ej : j = 32 * (ta' fi).toInt.toNat + c.toInt.toNat
            · subst ej; rw [pk_us]; exact ⟨zv, zv0, zv1, zv2⟩
            · rw [pk_un ej]; exact el3 j hj)
          have hX2 := pRx_disk (i := c.toInt.toNat) hX hD3 at3.2 r4 r5 ⟨aT, hT9⟩ ⟨aB, hB10⟩ hfb (by omega) zt1
          refine gG_iinc hx hs hw (i := 2) (z := 1) (v := c) (by decide +kernel) h2 (fun ls' hp' => ?_)
          refine gG_goto hx (off := -41) (tgt := 2) (by decide +kernel) rfl ?_
          have ec : (c + Int32.ofInt 1).toInt = c.toInt + 1 := ty_addI rfl rfl (by omega) (by omega)
          exact ih (c + Int32.ofInt 1) σ _ ls' (by rw [ec]; omega) hp'.1 hp'.2.1 (hp'.2.2.2 0 _ h0 (by omega) (fun q => by omega)) (hp'.2.2.2 1 _ h1 (by omega) (fun q => absurd q.2 (by show ¬ (1 : Nat) = 2; omega))) hp'.2.2.1 (by rw [ec]; omega) (by rw [ec]; omega) hm (ty_H_set hH hD3 rfl hok) ⟨hX2, pK_set hK hD3 (pK_no (by decide)) hI.2⟩ (hF.tr (ty_F_set hD3 (fun i hi => ty_p_arr at3.2 i (fun q => hi (by rw [q]; decide)))))
    have h0 : ls0[((0 : Fin 4) : Nat)]? = some (.val (.ref m)) := hls.2.2 (0, .ref m) List.mem_cons_self
    have h1 : ls0[((1 : Fin 4) : Nat)]? = some (.val (.int nn)) := hls.2.2 (1, .int nn) (List.mem_cons_of_mem _ List.mem_cons_self)
    refine gG_sp hx (i := .iconst 0) (len := 1) (by decide +kernel) rfl ?_
    refine gG_istore hx hls.1 hls.2.1 (i := 2) (len := 1) (Or.inr ⟨2, by decide +kernel, rfl, rfl⟩) (by decide) (fun ls' hp' => ?_)
    exact loop 33 (Int32.ofInt 0) σ0 M0 ls' (by decide) hp'.1 hp'.2.1 (hp'.2.2.2 0 _ h0 (by omega) (fun q => by omega)) (hp'.2.2.2 1 _ h1 (by omega) (fun q => absurd q.2 (by show ¬ (1 : Nat) = 2; omega))) hp'.2.2.1 (by decide) (by decide) hm hH0 hI0 ty_F.rf
