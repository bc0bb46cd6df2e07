/-! commit; full, exactly -/
set_option maxRecDepth 100000 in
set_option maxHeartbeats 4000000 in
theorem mt_X4_commit {l : Launch} {D : va_G} {tys : List (ClassId × FieldType)} {e t : Nat} {cO : ClassId} {Ψ : Nat → Nat → Prop} (hL : pGL cO tys pKw Ψ) : ty_Met l D vwCl tys pKT (pJ e t D cO pKw Ψ) (pJ e t D cO pKw Ψ) pPG yX4_commit cX4_commit 3 (some .int) 9 200 ct_X4_commit := by
  refine ty_of (by decide +kernel) (by decide +kernel) (by decide +kernel) ?_
  intro x av M0 σ0 ls0 post hx hl hnm hR hD hav hH0 hI0 hls hp hr
  have hL1 : pGL cO tys (pKb 1085) Ψ := ⟨hL.1, hL.2.1, fun c' N' h => ⟨by have := h.1; omega, h.2⟩, hL.2.2.2⟩
  have hL0 : pGL cO tys (pKb 1023) Ψ := ⟨hL.1, hL.2.1, fun c' N' h => ⟨by have := h.1; omega, h.2⟩, hL.2.2.2⟩
  have hG := pGL_G (e := e) (t := t) (D := D) hL
  have hG1 := pGL_G (e := e) (t := t) (D := D) hL1
  have hG0 := pGL_G (e := e) (t := t) (D := D) hL0
  have P := pv_X4_commit hG hx hl hnm hR hD
  have E := ty_env hG hx hR hr (fun v M σ h1 h2 h3 h4 => hp v M σ h1 h2 h3 h4 trivial) pd_X4_commit P
  have E1 := ty_env hG1 hx hR hr ty_pN pd_X4_commit (pv_X4_commit hG1 hx hl hnm hR hD) (σ0 := σ0) (M0 := M0)
  have E0 := ty_env hG0 hx hR hr ty_pN pd_X4_commit (pv_X4_commit hG0 hx hl hnm hR hD) (σ0 := σ0) (M0 := M0)
  have J75 := ty_seg E [] [] pnil [] 40 (75, [(0, (2, 0, 0)), (1, ty_f), (2, ty_f)], [], 189, 8712) (by decide +kernel) (by decide +kernel)
  have J72 := ty_spc (sc_X4_commit_113 (mt_X4_letHeadWait hL) hx hl hR hD) (Or.inl ⟨113, rfl, rfl⟩) (pc := 72) (n := 186) (k := 7051) (w := 0) (L := [(0, (2, 0, 0)), (1, ty_f), (2, ty_f)]) (rs := []) (mods := ct_X4_commit.2.2.1) (news := ct_X4_commit.2.2.2.1) (σ0 := σ0) (M0 := M0) (by decide +kernel) (by decide +kernel) rfl (by decide) (by decide +kernel) (by decide +kernel) (by rw [hR]; decide) (by rw [hR]; decide) (by decide +kernel) J75
  have J70 := ty_seg E1 [] _ (pcons J72 pnil) [] 10 (70, [(0, (2, 0, 0)), (1, ty_f), (2, ty_f)], [], 186, 7051) (by decide +kernel) (by decide +kernel)
  have J67 := ty_spc (sc_X4_commit_110 (mt_X4_letPagesWait hL) hx hl hR hD) (Or.inl ⟨110, rfl, rfl⟩) (pc := 67) (n := 0) (k := 0) (w := 0) (L := [(0, (2, 0, 0)), (1, ty_f), (2, ty_f)]) (rs := []) (mods := ct_X4_commit.2.2.1) (news := ct_X4_commit.2.2.2.1) (σ0 := σ0) (M0 := M0) (by decide +kernel) (by decide +kernel) rfl (by decide) (by decide +kernel) (by decide +kernel) (by rw [hR]; decide) (by rw [hR]; decide) (by decide +kernel) J70
  have J65 := ty_seg E0 [] _ (pcons J67 pnil) [] 10 (65, [(0, (2, 0, 0)), (1, ty_f), (2, ty_f)], [], 0, 0) (by decide +kernel) (by decide +kernel)
  have J62 := ty_seg E [] [] pnil [] 10 (62, [], [], 0, 0) (by decide +kernel) (by decide +kernel)
  have J47 : ∀ g : Int, ty_J x vwCl 3 tys pKT (pJ e t D cO pKw Ψ) pPG ct_X4_commit.2.2.1 ct_X4_commit.2.2.2.1 σ0 M0 g (ty_s0 (47, [(0, (2, 0, 0)), (1, ty_f), (2, (0, 1, 128))], [], 0, 0)) := by
    intro g σ M ls st hs hw hH hI hF hLo hS
    rw [ty_stk_n hS]
    obtain ⟨v0, h0, m, rfl, hm⟩ := hLo (0, (2, 0, 0)) List.mem_cons_self
    have hm : σ m = some 0 := hm
    obtain ⟨v1, h1, nn, rfl, b1, b2⟩ := hLo (1, ty_f) (List.mem_cons_of_mem _ List.mem_cons_self)
    obtain ⟨v2, h2, z, rfl, z1, z2⟩ := hLo (2, (0, 1, 128)) (List.mem_cons_of_mem _ (List.mem_cons_of_mem _ List.mem_cons_self))
    have z1 : (1 : Int) ≤ z.toInt := z1
    have z2 : z.toInt ≤ 128 := z2
    obtain ⟨fs, hat, hfs⟩ := ty_obj hH hm (show pKT[0]? = some (0, 6, _) from rfl)
    obtain ⟨v3, f3, wt, rfl, hwt⟩ := hfs 3 (2, 2, 0) rfl
    obtain ⟨fs2, hat2, hfs2⟩ := ty_obj hH hwt (show pKT[2]? = some (0, 4, _) from rfl)
    obtain ⟨v4, f0, w, rfl, hwk⟩ := hfs2 0 (2, 4, 0) rfl
    have hwk : σ w = some 4 := hwk
    obtain ⟨c, N, p0, hLx⟩ := pL_get hI.2.1 hwk
    obtain ⟨mc, a, c', N', f, pe, hatw, -⟩ := pL_open hH rfl hLx hwk
    have pe1 : c' = c := pe.1
    subst pe1
    have hc1 := p0.1
    have hc2 := p0.2
    have ec : (nI c').toInt = (c' : Int) := nI_tn (by omega)
    show gG x vwCl 47 ls [] M 0 0
    refine gG_sp hx (i := .aload_n 0) (len := 1) (by decide +kernel) (sp_al (j := 0) h0) ?_
    refine P.1 (36, 6, 3, .object "KnowDisk$Waiting") (by decide +kernel) 48 ls m fs _ _ M 0 0 (by decide +kernel) hat f3 ?_
    refine gX_cV (idx := 107) (C := cZ0) (ci := 4) (T := TX2) (N := 2) hx hl hD (mx_X2_count hat2 f0 hatw) rfl (kw_at 290 (by decide +kernel)) (kw_at 4 (by decide +kernel)) (Or.inr ⟨"KnowDisk", (kw_at 287 (by decide +kernel))⟩) (kw_at 289 (by decide +kernel)) (kw_sl 20 (by decide +kernel)) (nA := 0) (by decide +kernel) rfl ⟨by rw [hR]; decide, by rw [hR]; decide⟩ (pc := 51) (by decide +kernel) hat2 hs (rest := []) (Nat.zero_le 8) (by rw [hR]; decide) (by rw [hR]; decide) rfl (fun v M' hv => ?_)
    obtain ⟨rfl, rfl⟩ := hv
    refine gG_sp hx (i := .iload_n 2) (len := 1) (by decide +kernel) (sp_il (j := 2) h2) ?_
    refine gG_sp hx (i := .iadd) (len := 1) (by decide +kernel) rfl ?_
    refine gG_sp hx (i := .sipush 1024) (len := 3) (by decide +kernel) rfl ?_
    refine gG_ic hx (cn := .le) (off := 6) (tgt := 65) (by decide +kernel) rfl (fun q => ?_) (fun _ => J62 g σ M' ls [] hs hw hH hI hF pnil trivial)
    have q : (nI c' + z).toInt ≤ ((Int16.ofInt 1024).toInt32).toInt := q
    rw [ty_addI ec rfl (by omega) (by omega), show ((Int16.ofInt 1024).toInt32).toInt = 1024 from rfl] at q
    exact J65 g σ M' ls [] hs hw hH ⟨hI.1, pL_mono (fun c2 N2 h => by rw [h.1, h.2]; exact ⟨by omega, hc2⟩) hLx, hI.2.2⟩ hF (pcons ⟨_, h0, m, rfl, hm⟩ (pcons ⟨_, h1, nn, rfl, b1, b2⟩ (pcons ⟨_, h2, z, rfl, by show (-2147483648 : Int) ≤ _; omega, by show _ ≤ (2147483647 : Int); omega⟩ pnil))) trivial
  have J0 := ty_seg E [] _ (pcons J47 pnil) [] 60 (0, ty_L0 0 ct_X4_commit.1, [], 0, 0) (by decide +kernel) (by decide +kernel)
  exact ty_enter (J0 0) (by decide +kernel) hav hH0 hI0 hls
theorem mx_X4_full {l : Launch} {D : va_G} {tys : List (ClassId × FieldType)} {M : mh_M} {m : Nat} {z on : Int32} {fs : List Value} (hat : mh_at M m (.inr (6, fs))) (f7 : fs[7]? = some (.int z)) (hz : 0 ≤ z.toInt ∧ z.toInt ≤ 1) (hon : 0 ≤ on.toInt ∧ on.toInt ≤ 1) : mh_Met vwCl tys l D yX4_full [Cond.code yX4_full cX4_full 3 (some .boolean)] (ty_rm 0 0 cZ0) [.ref m, .int on] M (fun v M' => v = some (.int z) ∧ M' = mh_set M m (.inr (6, fs.set 7 (.int on)))) := by
  refine ty_ofX (by decide +kernel) (show 2 ≤ 3 by omega) ?_
  intro x ls hx hl hnm hR hD hls hr
  have h0 : ls[((0 : Fin 4) : Nat)]? = some (.val (.ref m)) := hls.2.2 (0, .ref m) List.mem_cons_self
  have h1 : ls[((1 : Fin 4) : Nat)]? = some (.val (.int on)) := hls.2.2 (1, .int on) (List.mem_cons_of_mem _ List.mem_cons_self)
  obtain ⟨n1, n2⟩ := ty_ff_ok (ft := .boolean) (t := pB) (by decide) (show ty_has (fun _ => none) 0 ty_no (.int on) pB from ⟨on, rfl, hon.1, hon.2⟩)
  obtain ⟨n3, -⟩ := ty_ff_ok (ft := .boolean) (t := pB) (by decide) (show ty_has (fun _ => none) 0 ty_no (.int z) pB from ⟨z, rfl, hz.1, hz.2⟩)
  have hl7 : 7 < fs.length := (List.getElem?_eq_some_iff.mp f7).1
  refine gG_sp hx (i := .aload_n 0) (len := 1) (by decide +kernel) (sp_al h0) ?_
  refine (gR_getP (idx := 217) (ci := 6) (f := 7) hx rfl (by decide) uX4 (kw_at 114 (by decide +kernel))) 1 ls m _ _ _ M 0 0 (by decide +kernel) hat f7 ?_
  refine gG_istore hx hls.1 hls.2.1 (i := 2) (len := 1) (Or.inr ⟨2, by decide +kernel, rfl, rfl⟩) (by decide) (fun ls1 p1 => ?_)
  have h0 : ls1[((0 : Fin 4) : Nat)]? = some (.val (.ref m)) := ty_kp p1 h0 (by omega) (by omega)
  have h1 : ls1[((1 : Fin 4) : Nat)]? = some (.val (.int on)) := ty_kp p1 h1 (by omega) (Or.inl rfl)
  have h2 : ls1[((2 : Fin 4) : Nat)]? = some (.val (.int z)) := p1.2.2.1
  refine gG_sp hx (i := .aload_n 0) (len := 1) (by decide +kernel) (sp_al h0) ?_
  refine gG_sp hx (i := .iload_n 1) (len := 1) (by decide +kernel) (sp_il h1) ?_
  refine (gR_putP (idx := 217) (ci := 6) (f := 7) hx rfl (by decide) uX4 tyX4 tyX4_ok nmX4 rfl (kw_at 114 (by decide +kernel)) rfl) 7 ls1 m fs (.int on) [] M 0 0 (by decide +kernel) hat hl7 n1 n2 ?_
  refine gG_sp hx (i := .iload_n 2) (len := 1) (by decide +kernel) (sp_il h2) ?_
  exact hr 11 ls1 .ireturn (some (.int z)) _ 0 0 (by decide +kernel) ⟨rfl, z, rfl, n3⟩ ⟨rfl, rfl⟩ (Nat.le_refl _) (Nat.le_refl _)
