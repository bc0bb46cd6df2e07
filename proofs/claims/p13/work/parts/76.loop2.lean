set_option maxRecDepth 100000 in
theorem lw_cat {p : Program} {l : Launch} {e : Env} {s : State} {m : MethodId} {below : List Frame} {meth : Method} {c : Code} {D : va_G} {tys : List (ClassId × FieldType)} {cO : ClassId} {b L : Nat} {xs : Nat → Int32} (htr : ∀ e : Env, l.admits e → e.platform.stackTraces = false) (hx : gC (LX p l e s m b below meth c D) vwCl code 7 tys kwT "KnowDiskLaw") (hX : va_X b L xs s s.heap) (hbl : b < s.heap.size) (hL : pGL cO tys pKw pKk) {kd md ot i t n k : Nat} {σ : ty_K} {M : mh_M} {ls : Array Slot} (hi : i + 5 ≤ L) (hL2 : L ≤ 2561) (ht : t ≤ 511) (hs : lwS ls b kd md ot i) (hJ : lwJ tys D cO kd md ot (64 + t) t σ M) (hn : n + 190 ≤ 601024) (hk : k + 8714 ≤ 7293000) (next : ∀ (σ' : ty_K) (M' : mh_M) (n' k' : Nat) (ls' : Array Slot), lwS ls' b kd md ot i → lwJ tys D cO kd md ot (64 + (t + 1)) (t + 1) σ' M' → n' ≤ n + 190 → k' ≤ k + 8714 → gG (LX p l e s m b below meth c D) vwCl 509 ls' [] M' n' k') : gG (LX p l e s m b below meth c D) vwCl 279 ls [] M n k := by
  obtain ⟨s0, s1, h0, h1, h2, h3, h4⟩ := id hs
  have ei : (nI i).toInt = (i : Int) := nI_tn (by omega)
  have hin1 : vp_in (nI i + Int32.ofInt 1) L := vp_in_iff.mpr ⟨by rw [ty_addI ei (show (Int32.ofInt 1).toInt = 1 from rfl) (by omega) (by omega)]; omega, by rw [ty_addI ei (show (Int32.ofInt 1).toInt = 1 from rfl) (by omega) (by omega)]; omega⟩
  have hin2 : vp_in (nI i + Int32.ofInt 2) L := vp_in_iff.mpr ⟨by rw [ty_addI ei (show (Int32.ofInt 2).toInt = 2 from rfl) (by omega) (by omega)]; omega, by rw [ty_addI ei (show (Int32.ofInt 2).toInt = 2 from rfl) (by omega) (by omega)]; omega⟩
  have hin3 : vp_in (nI i + Int32.ofInt 3) L := vp_in_iff.mpr ⟨by rw [ty_addI ei (show (Int32.ofInt 3).toInt = 3 from rfl) (by omega) (by omega)]; omega, by rw [ty_addI ei (show (Int32.ofInt 3).toInt = 3 from rfl) (by omega) (by omega)]; omega⟩
  have hin4 : vp_in (nI i + Int32.ofInt 4) L := vp_in_iff.mpr ⟨by rw [ty_addI ei (show (Int32.ofInt 4).toInt = 4 from rfl) (by omega) (by omega)]; omega, by rw [ty_addI ei (show (Int32.ofInt 4).toInt = 4 from rfl) (by omega) (by omega)]; omega⟩
  refine gG_sp hx (i := .aload_n 1) (len := 1) (by decide +kernel) (sp_al (j := 1) h1) ?_
  refine gG_sp hx (i := .aload_n 0) (len := 1) (by decide +kernel) (sp_al (j := 0) h0) ?_
  refine gG_sp hx (i := .iload 4) (len := 2) (by decide +kernel) (sp_il2 h4) ?_
  refine gG_sp hx (i := .iconst 1) (len := 1) (by decide +kernel) rfl ?_
  refine gG_sp hx (i := .iadd) (len := 1) (by decide +kernel) rfl ?_
  refine gG_sld hx hX hbl (fun q => by omega) hin1 (by decide +kernel) ?_
  refine gG_sp hx (i := .aload_n 0) (len := 1) (by decide +kernel) (sp_al (j := 0) h0) ?_
  refine gG_sp hx (i := .iload 4) (len := 2) (by decide +kernel) (sp_il2 h4) ?_
  refine gG_sp hx (i := .iconst 2) (len := 1) (by decide +kernel) rfl ?_
  refine gG_sp hx (i := .iadd) (len := 1) (by decide +kernel) rfl ?_
  refine gG_sld hx hX hbl (fun q => by omega) hin2 (by decide +kernel) ?_
  refine gG_sp hx (i := .aload_n 3) (len := 1) (by decide +kernel) (sp_al (j := 3) h3) ?_
  refine gX_lat (rest := []) (av := [.ref kd, .int _, .int _, .ref ot]) hx (mt_L_at (tys := tys) (D := D) (pGL_G (e := 64 + t) (t := t) (D := D) hL) htr (σ0 := σ) ⟨⟨kd, rfl, hJ.2.2.1⟩, ty_any _, ty_any _, ⟨ot, rfl, hJ.2.2.2.2.1⟩, trivial⟩ hJ.1 hJ.2.1) rfl (Nat.le_of_ble_eq_true rfl) (Nat.le_of_ble_eq_true rfl) (by show n + 1 ≤ 601024; omega) (by show k + 6 ≤ 7293000; omega) s0 (Nat.zero_le 8) (by decide +kernel) (fun v M1 hp => ?_)
  obtain ⟨σ1, q1, q2, q3, q4, q5⟩ := hp
  obtain ⟨u, rfl, z, rfl, -⟩ := q4
  have hJ1 := lwJ_call hJ q1 (by decide) (by decide) q2 q3
  refine gG_istore hx s0 s1 (i := 5) (len := 2) (Or.inl ⟨by decide +kernel, rfl⟩) (by decide) (fun ls1 p1 => ?_)
  have s0 := p1.1
  have s1 := p1.2.1
  have h0 := ty_kp p1 h0 (by omega) (Or.inl rfl)
  have h1 := ty_kp p1 h1 (by omega) (Or.inl rfl)
  have h2 := ty_kp p1 h2 (by omega) (Or.inl rfl)
  have h3 := ty_kp p1 h3 (by omega) (Or.inl rfl)
  have h4 := ty_kp p1 h4 (by omega) (Or.inl rfl)
  show gG (LX p l e s m b below meth c D) vwCl 298 ls1 [] M1 (n + 1) (k + 6)
  refine gG_sp hx (i := .aload_n 2) (len := 1) (by decide +kernel) (sp_al (j := 2) h2) ?_
  refine gG_sp hx (i := .aload_n 0) (len := 1) (by decide +kernel) (sp_al (j := 0) h0) ?_
  refine gG_sp hx (i := .iload 4) (len := 2) (by decide +kernel) (sp_il2 h4) ?_
  refine gG_sp hx (i := .iconst 1) (len := 1) (by decide +kernel) rfl ?_
  refine gG_sp hx (i := .iadd) (len := 1) (by decide +kernel) rfl ?_
  refine gG_sld hx hX hbl (fun q => by omega) hin1 (by decide +kernel) ?_
  refine gG_sp hx (i := .aload_n 0) (len := 1) (by decide +kernel) (sp_al (j := 0) h0) ?_
  refine gG_sp hx (i := .iload 4) (len := 2) (by decide +kernel) (sp_il2 h4) ?_
  refine gG_sp hx (i := .iconst 2) (len := 1) (by decide +kernel) rfl ?_
  refine gG_sp hx (i := .iadd) (len := 1) (by decide +kernel) rfl ?_
  refine gG_sld hx hX hbl (fun q => by omega) hin2 (by decide +kernel) ?_
  refine (gR_cV (idx := 56) hx rfl rfl (mt_X5_at hL.1 pKK_s (64 + t) t) rfl (ci := 7) (T := TX5) (N := 22) rfl rfl (kw_at 781 (by decide +kernel)) (kw_at 10 (by decide +kernel)) (Or.inl (kw_at 778 (by decide +kernel))) (kw_at 779 (by decide +kernel)) (kw_at 780 (by decide +kernel)) (by decide +kernel) ⟨Nat.le_of_ble_eq_true rfl, Nat.le_of_ble_eq_true rfl⟩) 311 ls1 (.invokevirtual 56) [.ref md, .int _, .int _] [] M1 σ1 (n + 1) (k + 6) (by decide +kernel) (Or.inl ⟨56, rfl, rfl⟩) s0 ⟨⟨md, rfl, hJ1.2.2.2.1⟩, ty_any _, ty_any _, trivial⟩ hJ1.1 hJ1.2.1 (Nat.zero_le 8) (by show n + 1 + 0 ≤ 601024; omega) (by show k + 6 + 0 ≤ 7293000; omega) (fun v M2 σ2 q1 q2 q3 q4 q5 => ?_)
  obtain ⟨u, rfl, z2, rfl, -⟩ := q4
  have hJ2 := lwJ_call hJ1 q1 (by decide) (by decide) q2 q3
  refine gG_istore hx s0 s1 (i := 6) (len := 2) (Or.inl ⟨by decide +kernel, rfl⟩) (by decide) (fun ls2 p2 => ?_)
  refine gG_goto hx (off := 193) (tgt := 509) (by decide +kernel) rfl ?_
  exact next σ2 M2 _ _ ls2 ⟨p2.1, p2.2.1, ty_kp p2 h0 (by omega) (Or.inl rfl), ty_kp p2 h1 (by omega) (Or.inl rfl), ty_kp p2 h2 (by omega) (Or.inl rfl), ty_kp p2 h3 (by omega) (Or.inl rfl), ty_kp p2 h4 (by omega) (Or.inl rfl)⟩ (lwJ_mono (by omega) (by omega) hJ2) (by show n + 1 + 0 ≤ _; omega) (by show k + 6 + 0 ≤ _; omega)
set_option maxRecDepth 100000 in
theorem lw_full {p : Program} {l : Launch} {e : Env} {s : State} {m : MethodId} {below : List Frame} {meth : Method} {c : Code} {D : va_G} {tys : List (ClassId × FieldType)} {cO : ClassId} {b L : Nat} {xs : Nat → Int32} (hx : gC (LX p l e s m b below meth c D) vwCl code 7 tys kwT "KnowDiskLaw") (hX : va_X b L xs s s.heap) (hbl : b < s.heap.size) (hL : pGL cO tys pKw pKk) {kd md ot i t n k : Nat} {σ : ty_K} {M : mh_M} {ls : Array Slot} (hi : i + 5 ≤ L) (hL2 : L ≤ 2561) (ht : t ≤ 511) (hs : lwS ls b kd md ot i) (hJ : lwJ tys D cO kd md ot (64 + t) t σ M) (hn : n + 190 ≤ 601024) (hk : k + 8714 ≤ 7293000) (next : ∀ (σ' : ty_K) (M' : mh_M) (n' k' : Nat) (ls' : Array Slot), lwS ls' b kd md ot i → lwJ tys D cO kd md ot (64 + (t + 1)) (t + 1) σ' M' → n' ≤ n + 190 → k' ≤ k + 8714 → gG (LX p l e s m b below meth c D) vwCl 509 ls' [] M' n' k') : gG (LX p l e s m b below meth c D) vwCl 468 ls [] M n k := by
  obtain ⟨s0, s1, h0, h1, h2, h3, h4⟩ := id hs
  have ei : (nI i).toInt = (i : Int) := nI_tn (by omega)
  have hin1 : vp_in (nI i + Int32.ofInt 1) L := vp_in_iff.mpr ⟨by rw [ty_addI ei (show (Int32.ofInt 1).toInt = 1 from rfl) (by omega) (by omega)]; omega, by rw [ty_addI ei (show (Int32.ofInt 1).toInt = 1 from rfl) (by omega) (by omega)]; omega⟩
  have hin2 : vp_in (nI i + Int32.ofInt 2) L := vp_in_iff.mpr ⟨by rw [ty_addI ei (show (Int32.ofInt 2).toInt = 2 from rfl) (by omega) (by omega)]; omega, by rw [ty_addI ei (show (Int32.ofInt 2).toInt = 2 from rfl) (by omega) (by omega)]; omega⟩
  have hin3 : vp_in (nI i + Int32.ofInt 3) L := vp_in_iff.mpr ⟨by rw [ty_addI ei (show (Int32.ofInt 3).toInt = 3 from rfl) (by omega) (by omega)]; omega, by rw [ty_addI ei (show (Int32.ofInt 3).toInt = 3 from rfl) (by omega) (by omega)]; omega⟩
  have hin4 : vp_in (nI i + Int32.ofInt 4) L := vp_in_iff.mpr ⟨by rw [ty_addI ei (show (Int32.ofInt 4).toInt = 4 from rfl) (by omega) (by omega)]; omega, by rw [ty_addI ei (show (Int32.ofInt 4).toInt = 4 from rfl) (by omega) (by omega)]; omega⟩
  obtain ⟨hH, hI, hkd, hmd, hot, z, hz7, hz2⟩ := id hJ
  obtain ⟨fs, hat, hfs⟩ := ty_obj hH hkd (show pKT[0]? = some (0, 6, _) from rfl)
  obtain ⟨gs, hatm, hgs⟩ := ty_obj hH hmd (show pKT[12]? = some (0, 7, _) from rfl)
  have f7 : fs[7]? = some (.int z) := by
    rw [hat.2] at hz7
    exact Sum.inr.inj hz7
  have f2 : gs[2]? = some (.int z) := by
    rw [hatm.2] at hz2
    exact Sum.inr.inj hz2
  obtain ⟨v7, g7, z7, rfl, z0, z1⟩ := hfs 7 pB rfl
  have e7 : z7 = z := by
    rw [f7] at g7
    cases g7
    rfl
  subst e7
  have hne : md ≠ kd := fun q => by rw [q, hkd] at hmd; cases hmd
  have mid : ∀ on : Int32, 0 ≤ on.toInt → on.toInt ≤ 1 → (∀ M' : mh_M, gG (LX p l e s m b below meth c D) vwCl 501 ls [.int on, .ref md, .int z7] M' n k → gG (LX p l e s m b below meth c D) vwCl 486 ls [.int z7] M' n k) → gG (LX p l e s m b below meth c D) vwCl 483 ls [.int on, .ref kd] M n k := by
    intro on o0 o1 to501
    refine gX_cV (idx := 78) (C := cZ0) (ci := 6) (T := TX4) (N := 13) hx rfl rfl (mx_X4_full hat f7 ⟨z0, z1⟩ ⟨o0, o1⟩) rfl (kw_at 508 (by decide +kernel)) (kw_at 1 (by decide +kernel)) (Or.inl (kw_at 505 (by decide +kernel))) (kw_at 506 (by decide +kernel)) (kw_at 507 (by decide +kernel)) (nA := 1) (by decide +kernel) rfl ⟨Nat.le_of_ble_eq_true rfl, Nat.le_of_ble_eq_true rfl⟩ (pc := 483) (by decide +kernel) hat s0 (rest := []) (Nat.zero_le 8) (by show n + 0 ≤ 601024; omega) (by show k + 0 ≤ 7293000; omega) rfl (fun v M1 hv => ?_)
    obtain ⟨rfl, rfl⟩ := hv
    refine to501 _ ?_
    obtain ⟨hH1, hl1⟩ := ty_putH (f := 7) (v := .int on) hH hkd (show pKT[0]? = some (0, 6, _) from rfl) hat rfl ⟨on, rfl, o0, o1⟩
    have hI1 : pJ (64 + t) t D cO pKw pKk σ (mh_set M kd (.inr (6, fs.set 7 (.int on)))) := ⟨ty_sIset (pR_s (64 + t) t) hkd (fun i hi => ty_p_set hat.2 i (fun q => by rw [q] at hi; exact absurd hi (by decide))) hI.1, pK_set pKK_s hkd (pK_no (by decide)) hI.2⟩
    have hatm1 : mh_at (mh_set M kd (.inr (6, fs.set 7 (.int on)))) md (.inr (7, gs)) := hatm.set_ne hne
    refine gX_cV (idx := 82) (C := ct_X5_full) (ci := 7) (T := TX5) (N := 22) hx rfl rfl (mx_X5_full (pGL_G (e := 64 + t) (t := t) (D := D) hL) hatm1 f2 z0 z1 o0 o1) rfl (kw_at 808 (by decide +kernel)) (kw_at 10 (by decide +kernel)) (Or.inl (kw_at 805 (by decide +kernel))) (kw_at 806 (by decide +kernel)) (kw_at 807 (by decide +kernel)) (nA := 1) (by decide +kernel) rfl ⟨Nat.le_of_ble_eq_true rfl, Nat.le_of_ble_eq_true rfl⟩ (pc := 501) (by decide +kernel) hatm1 s0 (rest := [.int z7]) (by show 1 ≤ 8; omega) (by show n + 0 ≤ 601024; omega) (by show k + 0 ≤ 7293000; omega) rfl (fun v M2 hv => ?_)
    obtain ⟨rfl, rfl⟩ := hv
    obtain ⟨hH2, hl2⟩ := ty_putH (f := 2) (v := .int on) hH1 hmd (show pKT[12]? = some (0, 7, _) from rfl) hatm1 rfl ⟨on, rfl, o0, o1⟩
    refine gG_ic hx (cn := .eq) (off := 5) (tgt := 509) (by decide +kernel) rfl (fun _ => ?_) (fun q => absurd rfl q)
    refine next σ _ _ _ ls hs (lwJ_mono (by omega) (by omega) ⟨hH2, ⟨ty_sIset (pR_s (64 + t) t) hmd (fun i hi => ty_p_set hatm1.2 i (fun q => by rw [q] at hi; exact absurd hi (by decide))) hI1.1, pK_set pKK_s hmd (pK_no (by decide)) hI1.2⟩, hkd, hmd, hot, on, ?_, ?_⟩) (by show n + 0 + 0 ≤ _; omega) (by show k + 0 + 0 ≤ _; omega)
    · have h9 : (mh_set (mh_set M kd (.inr (6, fs.set 7 (.int on)))) md (.inr (7, gs.set 2 (.int on)))).2 kd = .inr (6, fs.set 7 (.int on)) := (va_up_ne _ _ (Ne.symm hne)).trans (va_up_self _ _ _)
      rw [h9]
      exact congrArg Sum.inr (List.getElem?_set_self hl1)
    · have h9 : (mh_set (mh_set M kd (.inr (6, fs.set 7 (.int on)))) md (.inr (7, gs.set 2 (.int on)))).2 md = .inr (7, gs.set 2 (.int on)) := va_up_self _ _ _
      rw [h9]
      exact congrArg Sum.inr (List.getElem?_set_self hl2)
  refine gG_sp hx (i := .aload_n 1) (len := 1) (by decide +kernel) (sp_al (j := 1) h1) ?_
  refine gG_sp hx (i := .aload_n 0) (len := 1) (by decide +kernel) (sp_al (j := 0) h0) ?_
  refine gG_sp hx (i := .iload 4) (len := 2) (by decide +kernel) (sp_il2 h4) ?_
  refine gG_sp hx (i := .iconst 1) (len := 1) (by decide +kernel) rfl ?_
  refine gG_sp hx (i := .iadd) (len := 1) (by decide +kernel) rfl ?_
  refine gG_sld hx hX hbl (fun q => by omega) hin1 (by decide +kernel) ?_
  generalize hv0 : xs (nI i + Int32.ofInt 1).toNatClampNeg = v0
  refine gG_if hx (cn := .eq) (off := 7) (tgt := 482) (by decide +kernel) rfl (fun c0 => ?_) (fun c0 => ?_)
  · refine gG_sp hx (i := .iconst 0) (len := 1) (by decide +kernel) rfl ?_
    refine mid _ (by decide) (by decide) (fun M' k501 => ?_)
    refine gG_sp hx (i := .aload_n 2) (len := 1) (by decide +kernel) (sp_al (j := 2) h2) ?_
    refine gG_sp hx (i := .aload_n 0) (len := 1) (by decide +kernel) (sp_al (j := 0) h0) ?_
    refine gG_sp hx (i := .iload 4) (len := 2) (by decide +kernel) (sp_il2 h4) ?_
    refine gG_sp hx (i := .iconst 1) (len := 1) (by decide +kernel) rfl ?_
    refine gG_sp hx (i := .iadd) (len := 1) (by decide +kernel) rfl ?_
    refine gG_sld hx hX hbl (fun q => by omega) hin1 (by decide +kernel) ?_
    rw [hv0]
    refine gG_if hx (cn := .eq) (off := 7) (tgt := 500) (by decide +kernel) rfl (fun _ => ?_) (fun q => absurd c0 q)
    refine gG_sp hx (i := .iconst 0) (len := 1) (by decide +kernel) rfl ?_
    exact k501
  · refine gG_sp hx (i := .iconst 1) (len := 1) (by decide +kernel) rfl ?_
    refine gG_goto hx (off := 4) (tgt := 483) (by decide +kernel) rfl ?_
    refine mid _ (by decide) (by decide) (fun M' k501 => ?_)
    refine gG_sp hx (i := .aload_n 2) (len := 1) (by decide +kernel) (sp_al (j := 2) h2) ?_
    refine gG_sp hx (i := .aload_n 0) (len := 1) (by decide +kernel) (sp_al (j := 0) h0) ?_
    refine gG_sp hx (i := .iload 4) (len := 2) (by decide +kernel) (sp_il2 h4) ?_
    refine gG_sp hx (i := .iconst 1) (len := 1) (by decide +kernel) rfl ?_
    refine gG_sp hx (i := .iadd) (len := 1) (by decide +kernel) rfl ?_
    refine gG_sld hx hX hbl (fun q => by omega) hin1 (by decide +kernel) ?_
    rw [hv0]
    refine gG_if hx (cn := .eq) (off := 7) (tgt := 500) (by decide +kernel) rfl (fun q => absurd q c0) (fun _ => ?_)
    refine gG_sp hx (i := .iconst 1) (len := 1) (by decide +kernel) rfl ?_
    refine gG_goto hx (off := 4) (tgt := 501) (by decide +kernel) rfl ?_
    exact k501
set_option maxRecDepth 100000 in
theorem lw_end {p : Program} {l : Launch} {e : Env} {s : State} {m : MethodId} {below : List Frame} {meth : Method} {c : Code} {D : va_G} {tys : List (ClassId × FieldType)} {b : Nat} (hx : gC (LX p l e s m b below meth c D) vwCl code 7 tys kwT "KnowDiskLaw") (hr : meth.sig.returnType = ret) (hlk : meth.locks = false) {n k : Nat} {M : mh_M} {ls : Array Slot} (hn : n ≤ 601024) (hk : k ≤ 7293000) : gG (LX p l e s m b below meth c D) vwCl 515 ls [] M n k := by
  refine gG_sp hx (i := .iconst 1) (len := 1) (by decide +kernel) (r := [.int 1]) rfl ?_
  obtain ⟨⟨he, hb, -⟩, -⟩ := hx
  intro H locs hm
  refine va_forget (fun q hq => hm.2.2.1.2.2 q hq) ?_
  refine W.widen hn hk ?_
  exact lw_ret he hb hr hlk (by decide +kernel)
set_option maxRecDepth 100000 in
theorem lw_loop {p : Program} {l : Launch} {e : Env} {s : State} {m : MethodId} {below : List Frame} {meth : Method} {c : Code} {D : va_G} {tys : List (ClassId × FieldType)} {cO : ClassId} {b L : Nat} {xs : Nat → Int32} (htr : ∀ e : Env, l.admits e → e.platform.stackTraces = false) (hx : gC (LX p l e s m b below meth c D) vwCl code 7 tys kwT "KnowDiskLaw") (hX : va_X b L xs s s.heap) (hbl : b < s.heap.size) (hL : pGL cO tys pKw pKk) (hL2 : L ≤ 2561) (hr : meth.sig.returnType = ret) (hlk : meth.locks = false) {kd md ot : Nat} : ∀ (fuel t : Nat) (σ : ty_K) (M : mh_M) (ls : Array Slot) (n k : Nat), 600 - t < fuel → t ≤ 512 → lwS ls b kd md ot (1 + 5 * t) → lwJ tys D cO kd md ot (64 + t) t σ M → n ≤ 24 + 190 * t → k ≤ 52452 + 8714 * t → gG (LX p l e s m b below meth c D) vwCl 33 ls [] M n k := by
  intro fuel
  induction fuel with
  | zero => intro t σ M ls n k hf; omega
  | succ fuel ih =>
    intro t σ M ls n k hf ht hs hJ hn hk
    obtain ⟨s0, s1, h0, h1, h2, h3, h4⟩ := id hs
    have ei : (nI (1 + 5 * t)).toInt = ((1 + 5 * t : Nat) : Int) := nI_tn (by omega)
    have eL : (Int32.ofNat L).toInt = (L : Int) := nI_tn (by omega)
    refine gG_sp hx (i := .iload 4) (len := 2) (by decide +kernel) (sp_il2 h4) ?_
    refine gG_sp hx (i := .aload_n 0) (len := 1) (by decide +kernel) (sp_al (j := 0) h0) ?_
    refine gG_slen hx hX hbl (fun q => by omega) (by decide +kernel) ?_
    refine gG_sp hx (i := .iconst 5) (len := 1) (by decide +kernel) rfl ?_
    refine gG_sp hx (i := .isub) (len := 1) (by decide +kernel) rfl ?_
    refine gG_ic hx (cn := .gt) (off := 476) (tgt := 515) (by decide +kernel) rfl (fun _ => lw_end hx hr hlk (by omega) (by omega)) (fun q => ?_)
    have q : ¬ (Int32.ofNat L - Int32.ofInt 5).toInt < (nI (1 + 5 * t)).toInt := q
    rw [ty_subI eL (show (Int32.ofInt 5).toInt = 5 from rfl) (by omega) (by omega), ei] at q
    have hi : (1 + 5 * t) + 5 ≤ L := by omega
    have ht : t ≤ 511 := by omega
    have hin0 : vp_in (nI (1 + 5 * t)) L := vp_in_iff.mpr ⟨by rw [ei]; omega, by rw [ei]; omega⟩
    have next : ∀ (σ' : ty_K) (M' : mh_M) (n' k' : Nat) (ls' : Array Slot), lwS ls' b kd md ot (1 + 5 * t) → lwJ tys D cO kd md ot (64 + (t + 1)) (t + 1) σ' M' → n' ≤ n + 190 → k' ≤ k + 8714 → gG (LX p l e s m b below meth c D) vwCl 509 ls' [] M' n' k' := by
      intro σ' M' n' k' ls' hs' hJ' hn' hk'
      obtain ⟨s0, s1, h0, h1, h2, h3, h4⟩ := hs'
      refine gG_iinc hx s0 s1 (i := 4) (z := 5) (v := nI (1 + 5 * t)) (by decide +kernel) h4 (fun ls2 p2 => ?_)
      refine gG_goto hx (off := -479) (tgt := 33) (by decide +kernel) rfl ?_
      have ew : nI (1 + 5 * t) + Int32.ofInt 5 = nI (1 + 5 * (t + 1)) := by
        apply Int32.toInt_inj.mp
        rw [ty_addI ei (show (Int32.ofInt 5).toInt = 5 from rfl) (by omega) (by omega), nI_tn (by omega)]
        omega
      refine ih (t + 1) σ' M' ls2 n' k' (by omega) (by omega) ⟨p2.1, p2.2.1, ty_kp p2 h0 (by omega) (Or.inl rfl), ty_kp p2 h1 (by omega) (Or.inl rfl), ty_kp p2 h2 (by omega) (Or.inl rfl), ty_kp p2 h3 (by omega) (Or.inl rfl), ?_⟩ hJ' (by omega) (by omega)
      rw [← ew]
      exact p2.2.2.1
    refine gG_sp hx (i := .aload_n 0) (len := 1) (by decide +kernel) (sp_al (j := 0) h0) ?_
    refine gG_sp hx (i := .iload 4) (len := 2) (by decide +kernel) (sp_il2 h4) ?_
    refine gG_sld hx hX hbl (fun q => by omega) hin0 (by decide +kernel) ?_
    refine gG_sp hx (i := .bipush 15) (len := 2) (by decide +kernel) rfl ?_
    refine gG_sp hx (i := .iand) (len := 1) (by decide +kernel) rfl ?_
    refine gG_ts hx (d := 460) (lo := 0) (hi := 11) (offs := #[63, 144, 169, 182, 217, 230, 270, 319, 344, 369, 394, 419]) (len := 63) (by decide +kernel) (by decide) (by decide) (by decide) ?_ ?_
    · exact next σ M n k ls hs (lwJ_mono (by omega) (by omega) hJ) (by omega) (by omega)
    · intro of hof
      have hof : of ∈ ([63, 144, 169, 182, 217, 230, 270, 319, 344, 369, 394, 419] : List Int) := hof
      simp only [List.mem_cons, List.not_mem_nil, or_false] at hof
      rcases hof with rfl | rfl | rfl | rfl | rfl | rfl | rfl | rfl | rfl | rfl | rfl | rfl
      · show gG (LX p l e s m b below meth c D) vwCl 112 ls [] M n k
        exact lw_page hx hX hbl hL hi hL2 ht hs hJ (by omega) (by omega) next
      · show gG (LX p l e s m b below meth c D) vwCl 193 ls [] M n k
        exact lw_commit hx hX hbl hL hi hL2 ht hs hJ (by omega) (by omega) next
      · show gG (LX p l e s m b below meth c D) vwCl 218 ls [] M n k
        exact lw_sync hx hX hbl hL hi hL2 ht hs hJ (by omega) (by omega) next
      · show gG (LX p l e s m b below meth c D) vwCl 231 ls [] M n k
        exact lw_cut hx hX hbl hL hi hL2 ht hs hJ (by omega) (by omega) next
      · show gG (LX p l e s m b below meth c D) vwCl 266 ls [] M n k
        exact lw_start hx hX hbl hL hi hL2 ht hs hJ (by omega) (by omega) next
      · show gG (LX p l e s m b below meth c D) vwCl 279 ls [] M n k
        exact lw_cat htr hx hX hbl hL hi hL2 ht hs hJ (by omega) (by omega) next
      · show gG (LX p l e s m b below meth c D) vwCl 319 ls [] M n k
        exact lw_poke hx hX hbl hL hi hL2 ht hs hJ (by omega) (by omega) next
      · show gG (LX p l e s m b below meth c D) vwCl 368 ls [] M n k
        exact lw_wrong hx hX hbl hL hi hL2 ht hs hJ (by omega) (by omega) next
      · show gG (LX p l e s m b below meth c D) vwCl 393 ls [] M n k
        exact lw_backup hx hX hbl hL hi hL2 ht hs hJ (by omega) (by omega) next
      · show gG (LX p l e s m b below meth c D) vwCl 418 ls [] M n k
        exact lw_drop hx hX hbl hL hi hL2 ht hs hJ (by omega) (by omega) next
      · show gG (LX p l e s m b below meth c D) vwCl 443 ls [] M n k
        exact lw_derived hx hX hbl hL hi hL2 ht hs hJ (by omega) (by omega) next
      · show gG (LX p l e s m b below meth c D) vwCl 468 ls [] M n k
        exact lw_full hx hX hbl hL hi hL2 ht hs hJ (by omega) (by omega) next
