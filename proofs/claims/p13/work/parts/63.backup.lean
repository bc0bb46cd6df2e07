/-! backup, drop -/
def pr_X4_backup : List (Nat × Instr × Nat) := [(0, .aload_n 0, 1), (1, .getfield 66, 3), (4, .ifCond .ne 6, 3), (7, .bipush (-3), 2), (9, .ireturn, 1), (10, .iload_n 1, 1), (11, .aload_n 0, 1), (12, .getfield 62, 3), (15, .getfield 93, 3), (18, .if_icmp .eq 5, 3), (21, .iconst (-1), 1), (22, .ireturn, 1), (23, .aload_n 0, 1), (24, .getfield 43, 3), (27, .invokevirtual 183, 3), (30, .iconst 4, 1), (31, .if_icmp .lt 6, 3), (34, .bipush (-4), 2), (36, .ireturn, 1), (37, .aload_n 0, 1), (38, .getfield 43, 3), (41, .aload_n 0, 1), (42, .getfield 62, 3), (45, .invokevirtual 186, 3), (48, .pop, 1), (49, .aload_n 0, 1), (50, .getfield 62, 3), (53, .getfield 126, 3), (56, .invokestatic 101, 3), (59, .ireturn, 1)]
theorem pd_X4_backup : ∀ q ∈ pr_X4_backup, decode cX4_backup q.1 = .ok (q.2.1, q.2.2) := by decide +kernel
def ct_X4_backup : ty_C := ([(2, 0, 0), ty_f], some ty_f, [(5, 0), (5, 1), (5, 2), (11, 0)], [11], 1, 10, ty_i0)
def fT_X4_backup : List (Nat × Nat × Nat × FieldType) := [(66, 6, 6, .boolean), (62, 6, 11, .object "KnowDisk$State"), (93, 3, 0, .int), (43, 6, 4, .object "java/util/ArrayList"), (126, 3, 1, .long)]
def pT_X4_backup : List (Nat × Nat × Nat × FieldType) := []
def cT_X4_backup : List (Nat × ty_C) := [(304, ct_J13_bitCount_95d88)]
def kT_X4_backup : List (Nat × Int) := []
def lT_X4_backup : List Nat := []
def nT_X4_backup : List (Nat × Nat × Nat × Nat × List Value) := []
set_option maxRecDepth 100000 in
theorem pv_X4_backup {x : gx_T} {l : Launch} {D : va_G} {tys : List (ClassId × FieldType)} {e t : Nat} {cO : ClassId} {Φ : Nat → Nat → Prop} (hL : pGL cO tys Φ pKk) (hx : gC x vwCl cX4_backup 2 tys kwT yX4_backup.cls) (hl : x.2.1 = l) (hnm : x.2.2.2.2.2.2.2.2.1.name = yX4_backup.name) (hR : gx_R x = ty_rm 7 157 ct_X4_backup) (hD : x.2.2.2.2.2.2.2.2.2.2.2.1 = D) : ty_Pv x cX4_backup 2 tys (pJ e t D cO Φ pKk) fT_X4_backup pT_X4_backup cT_X4_backup kT_X4_backup lT_X4_backup nT_X4_backup :=
  ⟨(pcons (gR_getP hx rfl (by decide) uX4 (kw_at 113 (by decide +kernel))) (pcons (gR_getP hx rfl (by decide) uX4 (kw_at 118 (by decide +kernel))) (pcons (gR_getN (host := "KnowDisk") hx rfl (by decide) uX1 (kw_at 98 (by decide +kernel))) (pcons (gR_getP hx rfl (by decide) uX4 (kw_at 111 (by decide +kernel))) (pcons (gR_getN (host := "KnowDisk") hx rfl (by decide) uX1 (kw_at 100 (by decide +kernel))) pnil))))), pnil, (pcons (gR_cS (idx := 101) hx hl hD (mt_J13_bitCount_95d88 (pGL_G (e := e) (t := t) (D := D) hL)) (kw_at 238 (by decide +kernel)) (kw_at 11 (by decide +kernel)) (Or.inl (kw_at 236 (by decide +kernel))) (kw_at 237 (by decide +kernel)) (by decide +kernel) ⟨by rw [hR]; decide, by rw [hR]; decide⟩) pnil), pnil, pnil, pnil⟩
def pr_X4_drop : List (Nat × Instr × Nat) := [(0, .aload_n 0, 1), (1, .getfield 66, 3), (4, .ifCond .ne 6, 3), (7, .bipush (-3), 2), (9, .ireturn, 1), (10, .aload_n 0, 1), (11, .iload_n 1, 1), (12, .invokevirtual 190, 3), (15, .istore_n 2, 1), (16, .iload_n 2, 1), (17, .ifCond .lt 14, 3), (20, .iload_n 2, 1), (21, .aload_n 0, 1), (22, .getfield 43, 3), (25, .invokevirtual 183, 3), (28, .if_icmp .lt 5, 3), (31, .iconst (-1), 1), (32, .ireturn, 1), (33, .aload_n 0, 1), (34, .invokevirtual 193, 3), (37, .invokestatic 101, 3), (40, .istore_n 3, 1), (41, .aload_n 0, 1), (42, .getfield 43, 3), (45, .iload_n 2, 1), (46, .invokevirtual 196, 3), (49, .pop, 1), (50, .aload_n 0, 1), (51, .invokevirtual 193, 3), (54, .invokestatic 101, 3), (57, .iload_n 3, 1), (58, .isub, 1), (59, .ireturn, 1)]
theorem pd_X4_drop : ∀ q ∈ pr_X4_drop, decode cX4_drop q.1 = .ok (q.2.1, q.2.2) := by decide +kernel
def ct_X4_drop : ty_C := ([(2, 0, 0), ty_f], some ty_f, [(5, 0), (5, 1), (5, 2), (11, 0)], [], 0, 0, ty_i0)
def fT_X4_drop : List (Nat × Nat × Nat × FieldType) := [(66, 6, 6, .boolean), (43, 6, 4, .object "java/util/ArrayList")]
def pT_X4_drop : List (Nat × Nat × Nat × FieldType) := []
def cT_X4_drop : List (Nat × ty_C) := [(570, ct_X4_firstKept), (579, ct_X4_freeSectors), (304, ct_J13_bitCount_95d88)]
def kT_X4_drop : List (Nat × Int) := []
def lT_X4_drop : List Nat := []
def nT_X4_drop : List (Nat × Nat × Nat × Nat × List Value) := []
set_option maxRecDepth 100000 in
theorem pv_X4_drop {x : gx_T} {l : Launch} {D : va_G} {tys : List (ClassId × FieldType)} {e t : Nat} {cO : ClassId} {Φ Ψ : Nat → Nat → Prop} (hL : pGL cO tys Φ Ψ) (hx : gC x vwCl cX4_drop 4 tys kwT yX4_drop.cls) (hl : x.2.1 = l) (hnm : x.2.2.2.2.2.2.2.2.1.name = yX4_drop.name) (hR : gx_R x = ty_rm 4 87 ct_X4_drop) (hD : x.2.2.2.2.2.2.2.2.2.2.2.1 = D) : ty_Pv x cX4_drop 4 tys (pJ e t D cO Φ Ψ) fT_X4_drop pT_X4_drop cT_X4_drop kT_X4_drop lT_X4_drop nT_X4_drop :=
  ⟨(pcons (gR_getP hx rfl (by decide) uX4 (kw_at 113 (by decide +kernel))) (pcons (gR_getP hx rfl (by decide) uX4 (kw_at 111 (by decide +kernel))) pnil)), pnil, (pcons (gR_cV (idx := 190) hx hl hD (mt_X4_firstKept hL) rfl (ci := 6) (T := TX4) (N := 13) rfl rfl (kw_at 487 (by decide +kernel)) (kw_at 1 (by decide +kernel)) (Or.inl (kw_at 484 (by decide +kernel))) (kw_at 486 (by decide +kernel)) (kw_sl 42 (by decide +kernel)) (by decide +kernel) ⟨by rw [hR]; decide, by rw [hR]; decide⟩) (pcons (gR_cV (idx := 193) hx hl hD (mt_X4_freeSectors hL) rfl (ci := 6) (T := TX4) (N := 13) rfl rfl (kw_at 213 (by decide +kernel)) (kw_at 1 (by decide +kernel)) (Or.inl (kw_at 210 (by decide +kernel))) (kw_at 212 (by decide +kernel)) (kw_sl 11 (by decide +kernel)) (by decide +kernel) ⟨by rw [hR]; decide, by rw [hR]; decide⟩) (pcons (gR_cS (idx := 101) hx hl hD (mt_J13_bitCount_95d88 (pGL_G (e := e) (t := t) (D := D) hL)) (kw_at 238 (by decide +kernel)) (kw_at 11 (by decide +kernel)) (Or.inl (kw_at 236 (by decide +kernel))) (kw_at 237 (by decide +kernel)) (by decide +kernel) ⟨by rw [hR]; decide, by rw [hR]; decide⟩) pnil))), pnil, pnil, pnil⟩
set_option maxRecDepth 100000 in
set_option maxHeartbeats 4000000 in
theorem mt_X4_backup {l : Launch} {D : va_G} {tys : List (ClassId × FieldType)} {e t : Nat} {cO : ClassId} {Φ : Nat → Nat → Prop} (hL : pGL cO tys Φ pKk) : ty_Met l D vwCl tys pKT (pJ e t D cO Φ pKk) (pJ e t D cO Φ pKk) pPG yX4_backup cX4_backup 2 (some .int) 7 157 ct_X4_backup := by
  refine ty_of (by decide +kernel) (by decide +kernel) (by decide +kernel) ?_
  intro x av M0 σ0 ls0 post hx hl hnm hR hD hav hH0 hI0 hls hp hr
  have hG := pGL_G (e := e) (t := t) (D := D) hL
  have P := pv_X4_backup (e := e) (t := t) hL hx hl hnm hR hD
  have E := ty_env hG hx hR hr (fun v M σ h1 h2 h3 h4 => hp v M σ h1 h2 h3 h4 trivial) pd_X4_backup P
  have J34 := ty_seg E [] [] pnil [] 20 (34, [], [], 0, 0) (by decide +kernel) (by decide +kernel)
  have J49 := ty_seg E [] [] pnil [] 20 (49, [(0, (2, 0, 0))], [], 1, 10) (by decide +kernel) (by decide +kernel)
  have J23 : ∀ g : Int, ty_J x vwCl 2 tys pKT (pJ e t D cO Φ pKk) pPG ct_X4_backup.2.2.1 ct_X4_backup.2.2.2.1 σ0 M0 g (ty_s0 (23, [(0, (2, 0, 0))], [], 0, 0)) := by
    intro g σ M ls st hs hw hH hI hF hLo hS
    rw [ty_stk_n hS]
    obtain ⟨v0, h0, m, rfl, hm⟩ := hLo (0, (2, 0, 0)) List.mem_cons_self
    have hm : σ m = some 0 := hm
    obtain ⟨fs, hat, hfs⟩ := ty_obj hH hm (show pKT[0]? = some (0, 6, _) from rfl)
    obtain ⟨v4, f4, w, rfl, hwk⟩ := hfs 4 (2, 5, 0) rfl
    have hwk : σ w = some 5 := hwk
    obtain ⟨mc, a, c, N, f, p0, hatw, pf⟩ := pL_open hH rfl hI.2.2 hwk
    have hc1 := (hL.2.2.2 c N p0).1
    have hc2 := (hL.2.2.2 c N p0).2
    have ec : (nI c).toInt = (c : Int) := nI_tn (by omega)
    obtain ⟨v11, f11, y, rfl, hyk⟩ := hfs 11 (2, 3, 0) rfl
    have hyk : σ y = some 3 := hyk
    obtain ⟨gs, haty, -⟩ := ty_obj hH hyk (show pKT[3]? = some (0, 3, _) from rfl)
    show gG x vwCl 23 ls [] M 0 0
    refine gG_sp hx (i := .aload_n 0) (len := 1) (by decide +kernel) (sp_al (j := 0) h0) ?_
    refine P.1 (43, 6, 4, .object "java/util/ArrayList") (by decide +kernel) 24 ls m fs _ _ M 0 0 (by decide +kernel) hat f4 ?_
    refine gX_cV (idx := 183) (C := cZ0) (ci := 1) (T := TJx4a65c) (N := 3) hx hl hD (mx_size hatw) rfl (kw_at 221 (by decide +kernel)) (kw_at 7 (by decide +kernel)) (Or.inl (kw_at 218 (by decide +kernel))) (kw_at 219 (by decide +kernel)) (kw_at 220 (by decide +kernel)) (nA := 0) (by decide +kernel) rfl ⟨by rw [hR]; decide, by rw [hR]; decide⟩ (pc := 27) (by decide +kernel) hatw hs (rest := []) (Nat.zero_le 8) (by rw [hR]; decide) (by rw [hR]; decide) rfl (fun v M' hv => ?_)
    obtain ⟨rfl, rfl⟩ := hv
    refine gG_sp hx (i := .iconst 4) (len := 1) (by decide +kernel) rfl ?_
    refine gG_ic hx (cn := .lt) (off := 6) (tgt := 37) (by decide +kernel) rfl (fun q => ?_) (fun _ => J34 g σ M' ls [] hs hw hH hI hF pnil trivial)
    have q : (nI c).toInt < (Int32.ofInt 4).toInt := q
    rw [ec, show (Int32.ofInt 4).toInt = 4 from rfl] at q
    refine gG_sp hx (i := .aload_n 0) (len := 1) (by decide +kernel) (sp_al (j := 0) h0) ?_
    refine P.1 (43, 6, 4, .object "java/util/ArrayList") (by decide +kernel) 38 ls m fs _ _ M' 0 0 (by decide +kernel) hat f4 ?_
    refine gG_sp hx (i := .aload_n 0) (len := 1) (by decide +kernel) (sp_al (j := 0) h0) ?_
    refine P.1 (62, 6, 11, .object "KnowDisk$State") (by decide +kernel) 42 ls m fs _ _ M' 0 0 (by decide +kernel) hat f11 ?_
    have hrm := pLf_rm (w := w) hH (show pKT[3]? = some (0, 3, _) from rfl) hatw (by omega) pf
    have hnc : (if c < N then 0 else 1) ≤ 1 := by split <;> omega
    have hns : (if c < N then 0 else if N = 0 then 10 else N + max 1 (N / 2)) ≤ 10 := by
      split
      · omega
      · split
        · omega
        · omega
    generalize (if c < N then 0 else 1) = nc at hrm hnc
    generalize (if c < N then 0 else if N = 0 then 10 else N + max 1 (N / 2)) = ns at hrm hns
    refine gX_cV (idx := 186) (C := (cN0 nc ns)) (ci := 1) (T := TJx4a65c) (N := 3) hx hl hD (mx_add hL.2.1 (by decide +kernel) rfl hrm haty (by decide)) rfl (kw_at 329 (by decide +kernel)) (kw_at 7 (by decide +kernel)) (Or.inl (kw_at 479 (by decide +kernel))) (kw_at 327 (by decide +kernel)) (kw_at 328 (by decide +kernel)) (nA := 1) (by decide +kernel) rfl ⟨by rw [hR]; decide, by rw [hR]; decide⟩ (pc := 45) (by decide +kernel) hatw hs (rest := []) (Nat.zero_le 8) (by rw [hR]; show 0 + nc ≤ 1; omega) (by rw [hR]; show 0 + ns ≤ 10; omega) rfl (fun v M2 hv => ?_)
    obtain ⟨rfl, hAd⟩ := hv
    refine gG_sp hx (i := .pop) (len := 1) (by decide +kernel) rfl ?_
    obtain ⟨σ', N', hH', hF', hL', hN'⟩ := ls_add hH hwk rfl rfl (by decide) (fun v hv => hI.2.2.1 v w hv hwk) hatw pf hyk hAd
    have hI' := pJ_mono (Ψ' := pKk) (fun _ _ h => h) (fun c' N'' h => by rw [h.1, h.2]; exact ⟨by omega, by omega⟩) (pJ_k (fun k hk => List.mem_singleton.mp hk) hF' hL' hI)
    exact gG_widen (n' := 1) (k' := 10) (by show 0 + nc ≤ 1; omega) (by show 0 + ns ≤ 10; omega) (J49 g σ' M2 ls [] hs hw hH' hI' (hF.tr (ty_FMw (by decide) (by decide) hF')) (pcons ⟨_, h0, m, rfl, hF'.kinds m 0 hm⟩ pnil) trivial)
  have J0 := ty_seg E [] _ (pcons J23 pnil) [] 30 (0, ty_L0 0 ct_X4_backup.1, [], 0, 0) (by decide +kernel) (by decide +kernel)
  exact ty_enter (J0 0) (by decide +kernel) hav hH0 hI0 hls
set_option maxRecDepth 100000 in
set_option maxHeartbeats 4000000 in
theorem mt_X4_drop {l : Launch} {D : va_G} {tys : List (ClassId × FieldType)} {e t : Nat} {cO : ClassId} {Φ : Nat → Nat → Prop} (hL : pGL cO tys Φ pKk) : ty_Met l D vwCl tys pKT (pJ e t D cO Φ pKk) (pJ e t D cO Φ pKk) pPG yX4_drop cX4_drop 4 (some .int) 4 87 ct_X4_drop := by
  refine ty_of (by decide +kernel) (by decide +kernel) (by decide +kernel) ?_
  intro x av M0 σ0 ls0 post hx hl hnm hR hD hav hH0 hI0 hls hp hr
  have hG := pGL_G (e := e) (t := t) (D := D) hL
  have P := pv_X4_drop (e := e) (t := t) hL hx hl hnm hR hD
  have E := ty_env hG hx hR hr (fun v M σ h1 h2 h3 h4 => hp v M σ h1 h2 h3 h4 trivial) pd_X4_drop P
  have J31 := ty_seg E [] [] pnil [] 20 (31, [], [], 0, 0) (by decide +kernel) (by decide +kernel)
  have J50 := ty_seg E [] [] pnil [] 20 (50, [(0, (2, 0, 0)), (3, ty_f)], [], 0, 0) (by decide +kernel) (by decide +kernel)
  have J20 : ∀ g : Int, ty_J x vwCl 4 tys pKT (pJ e t D cO Φ pKk) pPG ct_X4_drop.2.2.1 ct_X4_drop.2.2.2.1 σ0 M0 g (ty_s0 (20, [(0, (2, 0, 0)), (2, (0, 0, 2147483647))], [], 0, 0)) := by
    intro g σ M ls st hs hw hH hI hF hLo hS
    rw [ty_stk_n hS]
    obtain ⟨v0, h0, m, rfl, hm⟩ := hLo (0, (2, 0, 0)) List.mem_cons_self
    have hm : σ m = some 0 := hm
    obtain ⟨v2, h2, z, rfl, z1, z2⟩ := hLo (2, (0, 0, 2147483647)) (List.mem_cons_of_mem _ List.mem_cons_self)
    have z1 : (0 : Int) ≤ z.toInt := z1
    have z2 : z.toInt ≤ 2147483647 := z2
    obtain ⟨fs, hat, hfs⟩ := ty_obj hH hm (show pKT[0]? = some (0, 6, _) from rfl)
    obtain ⟨v4, f4, w, rfl, hwk⟩ := hfs 4 (2, 5, 0) rfl
    have hwk : σ w = some 5 := hwk
    obtain ⟨c, N, p0, hLx⟩ := pL_get hI.2.2 hwk
    obtain ⟨mc, a, c', N', f, pe, hatw, -⟩ := pL_open hH rfl hLx hwk
    have pe1 : c' = c := pe.1
    subst pe1
    have hc1 := p0.1
    have hc2 := p0.2
    have ec : (nI c').toInt = (c' : Int) := nI_tn (by omega)
    show gG x vwCl 20 ls [] M 0 0
    refine gG_sp hx (i := .iload_n 2) (len := 1) (by decide +kernel) (sp_il (j := 2) h2) ?_
    refine gG_sp hx (i := .aload_n 0) (len := 1) (by decide +kernel) (sp_al (j := 0) h0) ?_
    refine P.1 (43, 6, 4, .object "java/util/ArrayList") (by decide +kernel) 22 ls m fs _ _ M 0 0 (by decide +kernel) hat f4 ?_
    refine gX_cV (idx := 183) (C := cZ0) (ci := 1) (T := TJx4a65c) (N := 3) hx hl hD (mx_size hatw) rfl (kw_at 221 (by decide +kernel)) (kw_at 7 (by decide +kernel)) (Or.inl (kw_at 218 (by decide +kernel))) (kw_at 219 (by decide +kernel)) (kw_at 220 (by decide +kernel)) (nA := 0) (by decide +kernel) rfl ⟨by rw [hR]; decide, by rw [hR]; decide⟩ (pc := 25) (by decide +kernel) hatw hs (rest := [.int z]) (by show 1 ≤ 8; omega) (by rw [hR]; decide) (by rw [hR]; decide) rfl (fun v M' hv => ?_)
    obtain ⟨rfl, rfl⟩ := hv
    refine gG_ic hx (cn := .lt) (off := 5) (tgt := 33) (by decide +kernel) rfl (fun q => ?_) (fun _ => J31 g σ M' ls [] hs hw hH hI hF pnil trivial)
    have q : z.toInt < (nI c').toInt := q
    rw [ec] at q
    have hL2 : pGL cO tys Φ (pEx c' N) := ⟨hL.1, hL.2.1, hL.2.2.1, fun c2 N2 h => by rw [h.1, h.2]; exact p0⟩
    have hG2 := pGL_G (e := e) (t := t) (D := D) hL2
    have P2 := pv_X4_drop (e := e) (t := t) hL2 hx hl hnm hR hD
    have E2 := ty_env hG2 hx hR hr ty_pN pd_X4_drop P2 (σ0 := σ0) (M0 := M0)
    have J46 : ty_J x vwCl 4 tys pKT (pJ e t D cO Φ (pEx c' N)) pPG ct_X4_drop.2.2.1 ct_X4_drop.2.2.2.1 σ0 M0 z.toInt (ty_s0 (46, [(0, (2, 0, 0)), (3, ty_f)], [(6, 0, 2147483647), (2, 5, 0)], 0, 0)) := by
      intro σ M ls st hs hw hH hI hF hLo hS
      obtain ⟨u, us, rfl, hu, hS⟩ := ty_stk_c hS
      obtain ⟨u2, us2, rfl, hu2, hS⟩ := ty_stk_c hS
      rw [ty_stk_n hS]
      obtain ⟨z', rfl, y1, y2, y3⟩ := hu.1
      obtain ⟨w6, rfl, hw6⟩ := hu2.1
      have hw6 : σ w6 = some 5 := hw6
      obtain ⟨v0, h0, m6, rfl, hm6⟩ := hLo (0, (2, 0, 0)) List.mem_cons_self
      obtain ⟨v3, h3, fb, rfl, b1, b2⟩ := hLo (3, ty_f) (List.mem_cons_of_mem _ List.mem_cons_self)
      obtain ⟨mc6, a6, c2, N2, f6, pe6, hat6, pf⟩ := pL_open hH rfl hI.2.2 hw6
      have pe1 := pe6.1
      have pe2 := pe6.2
      rcases pf.1 with ⟨-, e2, -⟩ | ⟨ha0, ha1, hcN, -⟩
      · omega
      have ic : z'.toNatClampNeg = z'.toInt.toNat := rfl
      obtain ⟨y, hy⟩ := pf.2.1 z'.toNatClampNeg (by omega)
      show gG x vwCl 46 ls [.int z', .ref w6] M 0 0
      refine gX_cV (idx := 196) (C := cZ0) (ci := 1) (T := TJx4a65c) (N := 3) hx hl hD (mx_remove (i := z'.toNatClampNeg) hL.2.1 (by decide +kernel) rfl hat6 ⟨(hH a6 11 ha0).1, ha1⟩ (by omega) (by omega) hcN (by omega) (by decide) (pLf_el hH (show pKT[3]? = some (0, 3, _) from rfl) pf) hy) rfl (kw_at 491 (by decide +kernel)) (kw_at 7 (by decide +kernel)) (Or.inl (kw_at 488 (by decide +kernel))) (kw_at 489 (by decide +kernel)) (kw_at 490 (by decide +kernel)) (nA := 1) (by decide +kernel) rfl ⟨by rw [hR]; decide, by rw [hR]; decide⟩ (pc := 46) (by decide +kernel) hat6 hs (rest := []) (Nat.zero_le 8) (by rw [hR]; decide) (by rw [hR]; decide) rfl (fun v M2 hv => ?_)
      obtain ⟨rfl, hRe⟩ := hv
      refine gG_sp hx (i := .pop) (len := 1) (by decide +kernel) rfl ?_
      obtain ⟨hH', hF', hL'⟩ := ls_rem hH hw6 rfl rfl (fun v hv => hI.2.2.1 v w6 hv hw6) hat6 pf (by omega) hRe
      have hI' := pJ_mono (Ψ' := pKk) (fun _ _ h => h) (fun c3 N3 h => by rw [h.1, h.2]; exact ⟨by omega, by omega⟩) (pJ_k (fun k hk => absurd hk List.not_mem_nil) hF' hL' hI)
      exact J50 0 σ M2 ls [] hs hw hH' hI' (hF.tr (ty_FMw (by decide) (by decide) hF')) (pcons ⟨_, h0, m6, rfl, hm6⟩ (pcons ⟨_, h3, fb, rfl, b1, b2⟩ pnil)) trivial
    have J33 : ty_J x vwCl 4 tys pKT (pJ e t D cO Φ (pEx c' N)) pPG ct_X4_drop.2.2.1 ct_X4_drop.2.2.2.1 σ0 M0 z.toInt (33, [(0, (2, 0, 0)), (2, (6, 0, 2147483647))], [], 0, 0) := ty_chk_ok E2 (pcons J46 pnil) pnil (fun h e => by cases e) 30 _ (by decide +kernel : ty_chk pKT fT_X4_drop pT_X4_drop cT_X4_drop kT_X4_drop lT_X4_drop nT_X4_drop [] ct_X4_drop.2.2.1 pPS pSW ct_X4_drop.2.2.2.1 17 4 0 0 0 0 ty_rN (some .int) pr_X4_drop [(46, [(0, (2, 0, 0)), (3, ty_f)], [(6, 0, 2147483647), (2, 5, 0)], 0, 0)] [] none 30 (33, [(0, (2, 0, 0)), (2, (6, 0, 2147483647))], [], 0, 0) = true)
    exact J33 σ M' ls [] hs hw hH ⟨hI.1, hI.2.1, hLx⟩ hF (pcons ⟨_, h0, m, rfl, hm⟩ (pcons ⟨_, h2, z, rfl, z1, z2, rfl⟩ pnil)) trivial
  have J0 := ty_seg E [] _ (pcons J20 pnil) [] 30 (0, ty_L0 0 ct_X4_drop.1, [], 0, 0) (by decide +kernel) (by decide +kernel)
  exact ty_enter (J0 0) (by decide +kernel) hav hH0 hI0 hls
