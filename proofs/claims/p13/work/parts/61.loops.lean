/-! loops over the lists: freeSectors, firstKept, bring -/
def pr_X4_freeSectors : List (Nat × Instr × Nat) := [(0, .aload_n 0, 1), (1, .getfield 116, 3), (4, .aload_n 0, 1), (5, .getfield 119, 3), (8, .lor, 1), (9, .aload_n 0, 1), (10, .getfield 36, 3), (13, .invokevirtual 166, 3), (16, .lor, 1), (17, .lstore_n 1, 1), (18, .iconst 0, 1), (19, .istore_n 3, 1), (20, .iload_n 3, 1), (21, .aload_n 0, 1), (22, .getfield 43, 3), (25, .invokevirtual 183, 3), (28, .if_icmp .ge 26, 3), (31, .lload_n 1, 1), (32, .aload_n 0, 1), (33, .getfield 43, 3), (36, .iload_n 3, 1), (37, .invokevirtual 230, 3), (40, .checkcast 57, 3), (43, .getfield 126, 3), (46, .lor, 1), (47, .lstore_n 1, 1), (48, .iinc 3 1, 3), (51, .goto (-31), 3), (54, .aload_n 0, 1), (55, .getfield 19, 3), (58, .lload_n 1, 1), (59, .ldc2_w 15, 3), (62, .lxor, 1), (63, .land, 1), (64, .lreturn, 1)]
theorem pd_X4_freeSectors : ∀ q ∈ pr_X4_freeSectors, decode cX4_freeSectors q.1 = .ok (q.2.1, q.2.2) := by decide +kernel
def ct_X4_freeSectors : ty_C := ([(2, 0, 0)], some (1, 0, 0), [], [], 0, 0, ty_i0)
def fT_X4_freeSectors : List (Nat × Nat × Nat × FieldType) := [(116, 6, 9, .long), (119, 6, 12, .long), (36, 6, 3, .object "KnowDisk$Waiting"), (43, 6, 4, .object "java/util/ArrayList"), (126, 3, 1, .long), (19, 6, 0, .long)]
def pT_X4_freeSectors : List (Nat × Nat × Nat × FieldType) := []
def cT_X4_freeSectors : List (Nat × ty_C) := [(498, ct_X2_sectors)]
def kT_X4_freeSectors : List (Nat × Int) := []
def lT_X4_freeSectors : List Nat := [15]
def nT_X4_freeSectors : List (Nat × Nat × Nat × Nat × List Value) := []
set_option maxRecDepth 100000 in
theorem pv_X4_freeSectors {x : gx_T} {l : Launch} {D : va_G} {tys : List (ClassId × FieldType)} {INV : ty_K → mh_M → Prop} (hG : pG tys INV) (hx : gC x vwCl cX4_freeSectors 4 tys kwT yX4_freeSectors.cls) (hl : x.2.1 = l) (hnm : x.2.2.2.2.2.2.2.2.1.name = yX4_freeSectors.name) (hR : gx_R x = ty_rm 3 64 ct_X4_freeSectors) (hD : x.2.2.2.2.2.2.2.2.2.2.2.1 = D) : ty_Pv x cX4_freeSectors 4 tys INV fT_X4_freeSectors pT_X4_freeSectors cT_X4_freeSectors kT_X4_freeSectors lT_X4_freeSectors nT_X4_freeSectors :=
  ⟨(pcons (gR_getP hx rfl (by decide) uX4 (kw_at 116 (by decide +kernel))) (pcons (gR_getP hx rfl (by decide) uX4 (kw_at 119 (by decide +kernel))) (pcons (gR_getP hx rfl (by decide) uX4 (kw_at 110 (by decide +kernel))) (pcons (gR_getP hx rfl (by decide) uX4 (kw_at 111 (by decide +kernel))) (pcons (gR_getN (host := "KnowDisk") hx rfl (by decide) uX1 (kw_at 100 (by decide +kernel))) (pcons (gR_getP hx rfl (by decide) uX4 (kw_at 107 (by decide +kernel))) pnil)))))), pnil, (pcons (gR_cV (idx := 166) hx hl hD (mt_X2_sectors hG) rfl (ci := 4) (T := TX2) (N := 2) rfl rfl (kw_at 217 (by decide +kernel)) (kw_at 4 (by decide +kernel)) (Or.inr ⟨"KnowDisk", (kw_at 214 (by decide +kernel))⟩) (kw_at 216 (by decide +kernel)) (kw_sl 12 (by decide +kernel)) (by decide +kernel) ⟨by rw [hR]; decide, by rw [hR]; decide⟩) pnil), pnil, (pcons (gR_ldlP hx (v := -1) (kw_at 34 (by decide +kernel))) pnil), pnil⟩
def pr_X4_firstKept : List (Nat × Instr × Nat) := [(0, .iconst 0, 1), (1, .istore_n 2, 1), (2, .iload_n 2, 1), (3, .aload_n 0, 1), (4, .getfield 43, 3), (7, .invokevirtual 183, 3), (10, .if_icmp .ge 29, 3), (13, .aload_n 0, 1), (14, .getfield 43, 3), (17, .iload_n 2, 1), (18, .invokevirtual 230, 3), (21, .checkcast 57, 3), (24, .getfield 93, 3), (27, .iload_n 1, 1), (28, .if_icmp .ne 5, 3), (31, .iload_n 2, 1), (32, .ireturn, 1), (33, .iinc 2 1, 3), (36, .goto (-34), 3), (39, .iconst (-1), 1), (40, .ireturn, 1)]
theorem pd_X4_firstKept : ∀ q ∈ pr_X4_firstKept, decode cX4_firstKept q.1 = .ok (q.2.1, q.2.2) := by decide +kernel
def ct_X4_firstKept : ty_C := ([(2, 0, 0), ty_f], some ty_f, [], [], 0, 0, ty_i0)
def fT_X4_firstKept : List (Nat × Nat × Nat × FieldType) := [(43, 6, 4, .object "java/util/ArrayList"), (93, 3, 0, .int)]
def pT_X4_firstKept : List (Nat × Nat × Nat × FieldType) := []
def cT_X4_firstKept : List (Nat × ty_C) := []
def kT_X4_firstKept : List (Nat × Int) := []
def lT_X4_firstKept : List Nat := []
def nT_X4_firstKept : List (Nat × Nat × Nat × Nat × List Value) := []
set_option maxRecDepth 100000 in
theorem pv_X4_firstKept {x : gx_T} {l : Launch} {D : va_G} {tys : List (ClassId × FieldType)} {INV : ty_K → mh_M → Prop} (hG : pG tys INV) (hx : gC x vwCl cX4_firstKept 3 tys kwT yX4_firstKept.cls) (hl : x.2.1 = l) (hnm : x.2.2.2.2.2.2.2.2.1.name = yX4_firstKept.name) (hR : gx_R x = ty_rm 3 64 ct_X4_firstKept) (hD : x.2.2.2.2.2.2.2.2.2.2.2.1 = D) : ty_Pv x cX4_firstKept 3 tys INV fT_X4_firstKept pT_X4_firstKept cT_X4_firstKept kT_X4_firstKept lT_X4_firstKept nT_X4_firstKept :=
  ⟨(pcons (gR_getP hx rfl (by decide) uX4 (kw_at 111 (by decide +kernel))) (pcons (gR_getN (host := "KnowDisk") hx rfl (by decide) uX1 (kw_at 98 (by decide +kernel))) pnil)), pnil, pnil, pnil, pnil, pnil⟩
def pr_X2_bring : List (Nat × Instr × Nat) := [(0, .iload_n 2, 1), (1, .ifCond .lt 42, 3), (4, .iload_n 2, 1), (5, .aload_n 0, 1), (6, .getfield 12, 3), (9, .invokevirtual 18, 3), (12, .if_icmp .ge 31, 3), (15, .aload_n 0, 1), (16, .getfield 12, 3), (19, .iload_n 2, 1), (20, .invokevirtual 52, 3), (23, .checkcast 31, 3), (26, .astore 4, 2), (28, .aload_n 1, 1), (29, .aload 4, 2), (31, .getfield 30, 3), (34, .aload 4, 2), (36, .getfield 56, 3), (39, .iload_n 3, 1), (40, .invokevirtual 60, 3), (43, .return_, 1)]
theorem pd_X2_bring : ∀ q ∈ pr_X2_bring, decode cX2_bring q.1 = .ok (q.2.1, q.2.2) := by decide +kernel
def ct_X2_bring : ty_C := ([(2, 2, 0), (2, 1, 0), ty_f, ty_f], none, [(7, 0)], [], 0, 0, ty_i0)
def fT_X2_bring : List (Nat × Nat × Nat × FieldType) := [(12, 4, 0, .object "java/util/ArrayList"), (30, 5, 0, .int), (56, 5, 1, .array .byte)]
def pT_X2_bring : List (Nat × Nat × Nat × FieldType) := []
def cT_X2_bring : List (Nat × ty_C) := [(180, ct_X0_putFirst)]
def kT_X2_bring : List (Nat × Int) := []
def lT_X2_bring : List Nat := []
def nT_X2_bring : List (Nat × Nat × Nat × Nat × List Value) := []
set_option maxRecDepth 100000 in
theorem pv_X2_bring {x : gx_T} {l : Launch} {D : va_G} {tys : List (ClassId × FieldType)} {INV : ty_K → mh_M → Prop} (hG : pG tys INV) (hx : gC x vwCl cX2_bring 5 tys kwT yX2_bring.cls) (hl : x.2.1 = l) (hnm : x.2.2.2.2.2.2.2.2.1.name = yX2_bring.name) (hR : gx_R x = ty_rm 3 64 ct_X2_bring) (hD : x.2.2.2.2.2.2.2.2.2.2.2.1 = D) : ty_Pv x cX2_bring 5 tys INV fT_X2_bring pT_X2_bring cT_X2_bring kT_X2_bring lT_X2_bring nT_X2_bring :=
  ⟨(pcons (gR_getP hx rfl (by decide) uX2 (kw_at 79 (by decide +kernel))) (pcons (gR_getN (host := "KnowDisk") hx rfl (by decide) uX3 (kw_at 314 (by decide +kernel))) (pcons (gR_getN (host := "KnowDisk") hx rfl (by decide) uX3 (kw_at 316 (by decide +kernel))) pnil))), pnil, (pcons (gR_cV (idx := 60) hx hl hD (mt_X0_putFirst hG) rfl (ci := 2) (T := TX0) (N := 1) rfl rfl (kw_at 406 (by decide +kernel)) (kw_at 3 (by decide +kernel)) (Or.inr ⟨"KnowDisk", (kw_at 403 (by decide +kernel))⟩) (kw_at 405 (by decide +kernel)) (kw_sl 30 (by decide +kernel)) (by decide +kernel) ⟨by rw [hR]; decide, by rw [hR]; decide⟩) pnil), pnil, pnil, pnil⟩
set_option maxRecDepth 100000 in
set_option maxHeartbeats 4000000 in
theorem mt_X4_freeSectors {l : Launch} {D : va_G} {tys : List (ClassId × FieldType)} {e t : Nat} {cO : ClassId} {Φ Ψ : Nat → Nat → Prop} (hL : pGL cO tys Φ Ψ) : ty_Met l D vwCl tys pKT (pJ e t D cO Φ Ψ) (pJ e t D cO Φ Ψ) pPG yX4_freeSectors cX4_freeSectors 4 (some .long) 3 64 ct_X4_freeSectors := by
  refine ty_of (by decide +kernel) (by decide +kernel) (by decide +kernel) ?_
  intro x av M0 σ0 ls0 post hx hl hnm hR hD hav hH0 hI0 hls hp hr
  have hG := pGL_G (e := e) (t := t) (D := D) hL
  have P := pv_X4_freeSectors hG hx hl hnm hR hD
  have E := ty_env hG hx hR hr (fun v M σ h1 h2 h3 h4 => hp v M σ h1 h2 h3 h4 trivial) pd_X4_freeSectors P
  have J54 := ty_seg E [] [] pnil [] 20 (54, [(0, (2, 0, 0)), (1, (1, 0, 0))], [], 0, 0) (by decide +kernel) (by decide +kernel)
  have loop : ∀ (n : Nat) (g : Int), 0 ≤ g → (5 - g).toNat < n → ty_J x vwCl 4 tys pKT (pJ e t D cO Φ Ψ) pPG ct_X4_freeSectors.2.2.1 ct_X4_freeSectors.2.2.2.1 σ0 M0 g (ty_s0 (20, [(0, (2, 0, 0)), (1, (1, 0, 0)), (3, (6, 0, 4))], [], 0, 0)) := by
    intro n
    induction n with
    | zero => intro g _ hg; omega
    | succ n ih =>
      intro g hg0 hg σ M ls st hs hw hH hI hF hLo hS
      rw [ty_stk_n hS]
      obtain ⟨v0, h0, m, rfl, hm⟩ := hLo (0, (2, 0, 0)) List.mem_cons_self
      have hm : σ m = some 0 := hm
      obtain ⟨v1, h1, tk, rfl⟩ := hLo (1, (1, 0, 0)) (List.mem_cons_of_mem _ List.mem_cons_self)
      obtain ⟨v3, h3, z, rfl, z1, z2, z3⟩ := hLo (3, (6, 0, 4)) (List.mem_cons_of_mem _ (List.mem_cons_of_mem _ List.mem_cons_self))
      have z1 : (0 : Int) ≤ z.toInt := z1
      have z2 : z.toInt ≤ 4 := z2
      obtain ⟨fs, hat, hfs⟩ := ty_obj hH hm (show pKT[0]? = some (0, 6, _) from rfl)
      obtain ⟨v4, f4, w, rfl, hwk⟩ := hfs 4 (2, 5, 0) rfl
      have hwk : σ w = some 5 := hwk
      obtain ⟨mc, a, c, N, f, p0, hatw, pf⟩ := pL_open hH rfl hI.2.2 hwk
      have hc := hL.2.2.2 c N p0
      have hc1 := hc.1
      have hc2 := hc.2
      have ec : (nI c).toInt = (c : Int) := nI_tn (by omega)
      have ic : z.toNatClampNeg = z.toInt.toNat := rfl
      show gG x vwCl 20 ls [] M 0 0
      refine gG_sp hx (i := .iload_n 3) (len := 1) (by decide +kernel) (sp_il (j := 3) h3) ?_
      refine gG_sp hx (i := .aload_n 0) (len := 1) (by decide +kernel) (sp_al (j := 0) h0) ?_
      refine P.1 (43, 6, 4, .object "java/util/ArrayList") (by decide +kernel) 22 ls m fs _ _ M 0 0 (by decide +kernel) hat f4 ?_
      refine gX_cV (idx := 183) (C := cZ0) (ci := 1) (T := TJx4a65c) (N := 3) hx hl hD (mx_size hatw) rfl (kw_at 221 (by decide +kernel)) (kw_at 7 (by decide +kernel)) (Or.inl (kw_at 218 (by decide +kernel))) (kw_at 219 (by decide +kernel)) (kw_at 220 (by decide +kernel)) (nA := 0) (by decide +kernel) rfl ⟨by rw [hR]; decide, by rw [hR]; decide⟩ (pc := 25) (by decide +kernel) hatw hs (rest := [.int z]) (by show 1 ≤ 8; omega) (by rw [hR]; decide) (by rw [hR]; decide) rfl (fun v M' hv => ?_)
      obtain ⟨rfl, rfl⟩ := hv
      refine gG_ic hx (cn := .ge) (off := 26) (tgt := 54) (by decide +kernel) rfl (fun _ => J54 g σ M' ls [] hs hw hH hI hF (pcons ⟨_, h0, m, rfl, hm⟩ (pcons ⟨_, h1, tk, rfl⟩ pnil)) trivial) (fun q => ?_)
      have q : ¬ (nI c).toInt ≤ z.toInt := q
      rw [ec] at q
      have hlt : z.toInt < (c : Int) := by omega
      obtain ⟨y, hy⟩ := pf.2.1 z.toNatClampNeg (by omega)
      rcases pf.1 with ⟨-, e2, -⟩ | ⟨ha0, ha1, hcN, -⟩
      · omega
      have ha : mh_at M' a (qA cO N f) := ⟨(hH a 11 ha0).1, ha1⟩
      have hky : σ y = some 3 := pf.2.2 _ y hy
      obtain ⟨gs, haty, hgs⟩ := ty_obj hH hky (show pKT[3]? = some (0, 3, _) from rfl)
      obtain ⟨v5, g1, sv, rfl⟩ := hgs 1 (1, 0, 0) rfl
      refine gG_sp hx (i := .lload_n 1) (len := 1) (by decide +kernel) (sp_ll1 (j := 1) h1) ?_
      refine gG_sp hx (i := .aload_n 0) (len := 1) (by decide +kernel) (sp_al (j := 0) h0) ?_
      refine P.1 (43, 6, 4, .object "java/util/ArrayList") (by decide +kernel) 33 ls m fs _ _ M' 0 0 (by decide +kernel) hat f4 ?_
      refine gG_sp hx (i := .iload_n 3) (len := 1) (by decide +kernel) (sp_il (j := 3) h3) ?_
      refine gX_cV (idx := 230) (C := cZ0) (ci := 1) (T := TJx4a65c) (N := 3) hx hl hD (mx_get hL.2.1 hatw ha z1 hlt hcN (by omega) hy) rfl (kw_at 225 (by decide +kernel)) (kw_at 7 (by decide +kernel)) (Or.inl (kw_at 222 (by decide +kernel))) (kw_at 223 (by decide +kernel)) (kw_at 224 (by decide +kernel)) (nA := 1) (by decide +kernel) rfl ⟨by rw [hR]; decide, by rw [hR]; decide⟩ (pc := 37) (by decide +kernel) hatw hs (rest := [.long tk]) (by show 2 ≤ 8; omega) (by rw [hR]; decide) (by rw [hR]; decide) rfl (fun v M2 hv => ?_)
      obtain ⟨rfl, rfl⟩ := hv
      refine gG_cast (idx := 57) (ci := 3) hx (kw_at 91 (by decide +kernel)) (by decide +kernel) rfl haty (by decide +kernel) ?_
      refine P.1 (126, 3, 1, .long) (by decide +kernel) 43 ls y gs _ _ M2 0 0 (by decide +kernel) haty g1 ?_
      refine gG_sp hx (i := .lor) (len := 1) (by decide +kernel) rfl ?_
      refine gG_lstore hx hs hw (i := 1) (len := 1) (Or.inr ⟨1, by decide +kernel, rfl, rfl⟩) (by decide) (fun ls1 p1 => ?_)
      have k0 := ty_kp p1 h0 (by omega) (Or.inl rfl)
      have k3 := ty_kp p1 h3 (by omega) (Or.inl rfl)
      refine gG_iinc hx p1.1 p1.2.1 (i := 3) (z := 1) (v := z) (by decide +kernel) k3 (fun ls2 p2 => ?_)
      refine gG_goto hx (off := -31) (tgt := 20) (by decide +kernel) rfl ?_
      have ez : (z + Int32.ofInt 1).toInt = g + 1 := by rw [ty_addI z3 (show (Int32.ofInt 1).toInt = 1 from rfl) (by omega) (by omega)]
      refine ih (g + 1) (by omega) (by omega) σ M2 ls2 [] p2.1 p2.2.1 hH hI hF (pcons ⟨_, ty_kp p2 k0 (by omega) (Or.inl rfl), m, rfl, hm⟩ (pcons ⟨_, ty_kp p2 p1.2.2.1 (by omega) (Or.inr (by omega)), _, rfl⟩ (pcons ⟨_, p2.2.2.1, _, rfl, by rw [ez]; show (0 : Int) ≤ _; omega, by rw [ez]; show _ ≤ (4 : Int); omega, ez⟩ pnil))) trivial
  have J20 : ∀ g : Int, ty_J x vwCl 4 tys pKT (pJ e t D cO Φ Ψ) pPG ct_X4_freeSectors.2.2.1 ct_X4_freeSectors.2.2.2.1 σ0 M0 g (ty_s0 (20, [(0, (2, 0, 0)), (1, (1, 0, 0)), (3, (0, 0, 0))], [], 0, 0)) := by
    intro g σ M ls st hs hw hH hI hF hLo hS
    rw [ty_stk_n hS]
    obtain ⟨v0, h0, m, rfl, hm⟩ := hLo (0, (2, 0, 0)) List.mem_cons_self
    obtain ⟨v1, h1, tk, rfl⟩ := hLo (1, (1, 0, 0)) (List.mem_cons_of_mem _ List.mem_cons_self)
    obtain ⟨v3, h3, z, rfl, z1, z2⟩ := hLo (3, (0, 0, 0)) (List.mem_cons_of_mem _ (List.mem_cons_of_mem _ List.mem_cons_self))
    have z1 : (0 : Int) ≤ z.toInt := z1
    have z2 : z.toInt ≤ 0 := z2
    exact loop 7 0 (by omega) (by omega) σ M ls [] hs hw hH hI hF (pcons ⟨_, h0, m, rfl, hm⟩ (pcons ⟨_, h1, tk, rfl⟩ (pcons ⟨_, h3, z, rfl, z1, by show z.toInt ≤ 4; omega, by omega⟩ pnil))) trivial
  have J0 := ty_seg E [] _ (pcons J20 pnil) [] 30 (0, ty_L0 0 ct_X4_freeSectors.1, [], 0, 0) (by decide +kernel) (by decide +kernel)
  exact ty_enter (J0 0) (by decide +kernel) hav hH0 hI0 hls
set_option maxRecDepth 100000 in
set_option maxHeartbeats 4000000 in
theorem mt_X4_firstKept {l : Launch} {D : va_G} {tys : List (ClassId × FieldType)} {e t : Nat} {cO : ClassId} {Φ Ψ : Nat → Nat → Prop} (hL : pGL cO tys Φ Ψ) : ty_Met l D vwCl tys pKT (pJ e t D cO Φ Ψ) (pJ e t D cO Φ Ψ) pPG yX4_firstKept cX4_firstKept 3 (some .int) 3 64 ct_X4_firstKept := by
  refine ty_of (by decide +kernel) (by decide +kernel) (by decide +kernel) ?_
  intro x av M0 σ0 ls0 post hx hl hnm hR hD hav hH0 hI0 hls hp hr
  have hG := pGL_G (e := e) (t := t) (D := D) hL
  have P := pv_X4_firstKept hG hx hl hnm hR hD
  have E := ty_env hG hx hR hr (fun v M σ h1 h2 h3 h4 => hp v M σ h1 h2 h3 h4 trivial) pd_X4_firstKept P
  have J39 := ty_seg E [] [] pnil [] 20 (39, [], [], 0, 0) (by decide +kernel) (by decide +kernel)
  have J31 := ty_seg E [] [] pnil [] 20 (31, [(2, (0, 0, 4))], [], 0, 0) (by decide +kernel) (by decide +kernel)
  have loop : ∀ (n : Nat) (g : Int), 0 ≤ g → (5 - g).toNat < n → ty_J x vwCl 3 tys pKT (pJ e t D cO Φ Ψ) pPG ct_X4_firstKept.2.2.1 ct_X4_firstKept.2.2.2.1 σ0 M0 g (ty_s0 (2, [(0, (2, 0, 0)), (1, ty_f), (2, (6, 0, 4))], [], 0, 0)) := by
    intro n
    induction n with
    | zero => intro g _ hg; omega
    | succ n ih =>
      intro g hg0 hg σ M ls st hs hw hH hI hF hLo hS
      rw [ty_stk_n hS]
      obtain ⟨v0, h0, m, rfl, hm⟩ := hLo (0, (2, 0, 0)) List.mem_cons_self
      have hm : σ m = some 0 := hm
      obtain ⟨v1, h1, nn, rfl, b1, b2⟩ := hLo (1, ty_f) (List.mem_cons_of_mem _ List.mem_cons_self)
      obtain ⟨v2, h2, z, rfl, z1, z2, z3⟩ := hLo (2, (6, 0, 4)) (List.mem_cons_of_mem _ (List.mem_cons_of_mem _ List.mem_cons_self))
      have z1 : (0 : Int) ≤ z.toInt := z1
      have z2 : z.toInt ≤ 4 := z2
      obtain ⟨fs, hat, hfs⟩ := ty_obj hH hm (show pKT[0]? = some (0, 6, _) from rfl)
      obtain ⟨v4, f4, w, rfl, hwk⟩ := hfs 4 (2, 5, 0) rfl
      have hwk : σ w = some 5 := hwk
      obtain ⟨mc, a, c, N, f, p0, hatw, pf⟩ := pL_open hH rfl hI.2.2 hwk
      have hc := hL.2.2.2 c N p0
      have hc1 := hc.1
      have hc2 := hc.2
      have ec : (nI c).toInt = (c : Int) := nI_tn (by omega)
      have ic : z.toNatClampNeg = z.toInt.toNat := rfl
      show gG x vwCl 2 ls [] M 0 0
      refine gG_sp hx (i := .iload_n 2) (len := 1) (by decide +kernel) (sp_il (j := 2) h2) ?_
      refine gG_sp hx (i := .aload_n 0) (len := 1) (by decide +kernel) (sp_al (j := 0) h0) ?_
      refine P.1 (43, 6, 4, .object "java/util/ArrayList") (by decide +kernel) 4 ls m fs _ _ M 0 0 (by decide +kernel) hat f4 ?_
      refine gX_cV (idx := 183) (C := cZ0) (ci := 1) (T := TJx4a65c) (N := 3) hx hl hD (mx_size hatw) rfl (kw_at 221 (by decide +kernel)) (kw_at 7 (by decide +kernel)) (Or.inl (kw_at 218 (by decide +kernel))) (kw_at 219 (by decide +kernel)) (kw_at 220 (by decide +kernel)) (nA := 0) (by decide +kernel) rfl ⟨by rw [hR]; decide, by rw [hR]; decide⟩ (pc := 7) (by decide +kernel) hatw hs (rest := [.int z]) (by show 1 ≤ 8; omega) (by rw [hR]; decide) (by rw [hR]; decide) rfl (fun v M' hv => ?_)
      obtain ⟨rfl, rfl⟩ := hv
      refine gG_ic hx (cn := .ge) (off := 29) (tgt := 39) (by decide +kernel) rfl (fun _ => J39 g σ M' ls [] hs hw hH hI hF pnil trivial) (fun q => ?_)
      have q : ¬ (nI c).toInt ≤ z.toInt := q
      rw [ec] at q
      have hlt : z.toInt < (c : Int) := by omega
      obtain ⟨y, hy⟩ := pf.2.1 z.toNatClampNeg (by omega)
      rcases pf.1 with ⟨-, e2, -⟩ | ⟨ha0, ha1, hcN, -⟩
      · omega
      have ha : mh_at M' a (qA cO N f) := ⟨(hH a 11 ha0).1, ha1⟩
      have hky : σ y = some 3 := pf.2.2 _ y hy
      obtain ⟨gs, haty, hgs⟩ := ty_obj hH hky (show pKT[3]? = some (0, 3, _) from rfl)
      obtain ⟨v5, g0, sv, rfl, -⟩ := hgs 0 ty_f rfl
      refine gG_sp hx (i := .aload_n 0) (len := 1) (by decide +kernel) (sp_al (j := 0) h0) ?_
      refine P.1 (43, 6, 4, .object "java/util/ArrayList") (by decide +kernel) 14 ls m fs _ _ M' 0 0 (by decide +kernel) hat f4 ?_
      refine gG_sp hx (i := .iload_n 2) (len := 1) (by decide +kernel) (sp_il (j := 2) h2) ?_
      refine gX_cV (idx := 230) (C := cZ0) (ci := 1) (T := TJx4a65c) (N := 3) hx hl hD (mx_get hL.2.1 hatw ha z1 hlt hcN (by omega) hy) rfl (kw_at 225 (by decide +kernel)) (kw_at 7 (by decide +kernel)) (Or.inl (kw_at 222 (by decide +kernel))) (kw_at 223 (by decide +kernel)) (kw_at 224 (by decide +kernel)) (nA := 1) (by decide +kernel) rfl ⟨by rw [hR]; decide, by rw [hR]; decide⟩ (pc := 18) (by decide +kernel) hatw hs (rest := []) (Nat.zero_le 8) (by rw [hR]; decide) (by rw [hR]; decide) rfl (fun v M2 hv => ?_)
      obtain ⟨rfl, rfl⟩ := hv
      refine gG_cast (idx := 57) (ci := 3) hx (kw_at 91 (by decide +kernel)) (by decide +kernel) rfl haty (by decide +kernel) ?_
      refine P.1 (93, 3, 0, .int) (by decide +kernel) 24 ls y gs _ _ M2 0 0 (by decide +kernel) haty g0 ?_
      refine gG_sp hx (i := .iload_n 1) (len := 1) (by decide +kernel) (sp_il (j := 1) h1) ?_
      refine gG_ic hx (cn := .ne) (off := 5) (tgt := 33) (by decide +kernel) rfl (fun _ => ?_) (fun _ => J31 g σ M2 ls [] hs hw hH hI hF (pcons ⟨_, h2, z, rfl, z1, z2⟩ pnil) trivial)
      refine gG_iinc hx hs hw (i := 2) (z := 1) (v := z) (by decide +kernel) h2 (fun ls2 p2 => ?_)
      refine gG_goto hx (off := -34) (tgt := 2) (by decide +kernel) rfl ?_
      have ez : (z + Int32.ofInt 1).toInt = g + 1 := by rw [ty_addI z3 (show (Int32.ofInt 1).toInt = 1 from rfl) (by omega) (by omega)]
      refine ih (g + 1) (by omega) (by omega) σ M2 ls2 [] p2.1 p2.2.1 hH hI hF (pcons ⟨_, ty_kp p2 h0 (by omega) (Or.inl rfl), m, rfl, hm⟩ (pcons ⟨_, ty_kp p2 h1 (by omega) (Or.inl rfl), _, rfl, b1, b2⟩ (pcons ⟨_, p2.2.2.1, _, rfl, by rw [ez]; show (0 : Int) ≤ _; omega, by rw [ez]; show _ ≤ (4 : Int); omega, ez⟩ pnil))) trivial
  have J2 : ∀ g : Int, ty_J x vwCl 3 tys pKT (pJ e t D cO Φ Ψ) pPG ct_X4_firstKept.2.2.1 ct_X4_firstKept.2.2.2.1 σ0 M0 g (ty_s0 (2, [(0, (2, 0, 0)), (1, ty_f), (2, (0, 0, 0))], [], 0, 0)) := by
    intro g σ M ls st hs hw hH hI hF hLo hS
    rw [ty_stk_n hS]
    obtain ⟨v0, h0, m, rfl, hm⟩ := hLo (0, (2, 0, 0)) List.mem_cons_self
    obtain ⟨v1, h1, nn, rfl, b1, b2⟩ := hLo (1, ty_f) (List.mem_cons_of_mem _ List.mem_cons_self)
    obtain ⟨v3, h3, z, rfl, z1, z2⟩ := hLo (2, (0, 0, 0)) (List.mem_cons_of_mem _ (List.mem_cons_of_mem _ List.mem_cons_self))
    have z1 : (0 : Int) ≤ z.toInt := z1
    have z2 : z.toInt ≤ 0 := z2
    exact loop 7 0 (by omega) (by omega) σ M ls [] hs hw hH hI hF (pcons ⟨_, h0, m, rfl, hm⟩ (pcons ⟨_, h1, nn, rfl, b1, b2⟩ (pcons ⟨_, h3, z, rfl, z1, by show z.toInt ≤ 4; omega, by omega⟩ pnil))) trivial
  have J0 := ty_seg E [] _ (pcons J2 pnil) [] 30 (0, ty_L0 0 ct_X4_firstKept.1, [], 0, 0) (by decide +kernel) (by decide +kernel)
  exact ty_enter (J0 0) (by decide +kernel) hav hH0 hI0 hls
set_option maxRecDepth 100000 in
set_option maxHeartbeats 4000000 in
theorem mt_X2_bring {l : Launch} {D : va_G} {tys : List (ClassId × FieldType)} {e t : Nat} {cO : ClassId} {Φ Ψ : Nat → Nat → Prop} (hL : pGL cO tys Φ Ψ) : ty_Met l D vwCl tys pKT (pJ e t D cO Φ Ψ) (pJ e t D cO Φ Ψ) pPG yX2_bring cX2_bring 5 none 3 64 ct_X2_bring := by
  refine ty_of (by decide +kernel) (by decide +kernel) (by decide +kernel) ?_
  intro x av M0 σ0 ls0 post hx hl hnm hR hD hav hH0 hI0 hls hp hr
  have hG := pGL_G (e := e) (t := t) (D := D) hL
  have P := pv_X2_bring hG hx hl hnm hR hD
  have E := ty_env hG hx hR hr (fun v M σ h1 h2 h3 h4 => hp v M σ h1 h2 h3 h4 trivial) pd_X2_bring P
  have J43 := ty_seg E [] [] pnil [] 20 (43, [], [], 0, 0) (by decide +kernel) (by decide +kernel)
  have J28 := ty_seg E [] [] pnil [] 20 (28, [(1, (2, 1, 0)), (3, ty_f), (4, (2, 9, 0))], [], 0, 0) (by decide +kernel) (by decide +kernel)
  have J4 : ∀ g : Int, ty_J x vwCl 5 tys pKT (pJ e t D cO Φ Ψ) pPG ct_X2_bring.2.2.1 ct_X2_bring.2.2.2.1 σ0 M0 g (ty_s0 (4, [(0, (2, 2, 0)), (1, (2, 1, 0)), (2, (0, 0, 2147483647)), (3, ty_f)], [], 0, 0)) := by
    intro g σ M ls st hs hw hH hI hF hLo hS
    rw [ty_stk_n hS]
    obtain ⟨v0, h0, m, rfl, hm⟩ := hLo (0, (2, 2, 0)) List.mem_cons_self
    have hm : σ m = some 2 := hm
    obtain ⟨v1, h1, dk, rfl, hdk⟩ := hLo (1, (2, 1, 0)) (List.mem_cons_of_mem _ List.mem_cons_self)
    obtain ⟨v2, h2, z, rfl, z1, z2⟩ := hLo (2, (0, 0, 2147483647)) (List.mem_cons_of_mem _ (List.mem_cons_of_mem _ List.mem_cons_self))
    obtain ⟨v3, h3, bb, rfl, b1, b2⟩ := hLo (3, ty_f) (List.mem_cons_of_mem _ (List.mem_cons_of_mem _ (List.mem_cons_of_mem _ List.mem_cons_self)))
    have z1 : (0 : Int) ≤ z.toInt := z1
    obtain ⟨fs, hat, hfs⟩ := ty_obj hH hm (show pKT[2]? = some (0, 4, _) from rfl)
    obtain ⟨v4, f0, w, rfl, hwk⟩ := hfs 0 (2, 4, 0) rfl
    have hwk : σ w = some 4 := hwk
    obtain ⟨mc, a, c, N, f, p0, hatw, pf⟩ := pL_open hH rfl hI.2.1 hwk
    have hc := hL.2.2.1 c N p0
    have hc1 := hc.1
    have hc2 := hc.2
    have ec : (nI c).toInt = (c : Int) := nI_tn (by omega)
    have ic : z.toNatClampNeg = z.toInt.toNat := rfl
    show gG x vwCl 4 ls [] M 0 0
    refine gG_sp hx (i := .iload_n 2) (len := 1) (by decide +kernel) (sp_il (j := 2) h2) ?_
    refine gG_sp hx (i := .aload_n 0) (len := 1) (by decide +kernel) (sp_al (j := 0) h0) ?_
    refine P.1 (12, 4, 0, .object "java/util/ArrayList") (by decide +kernel) 6 ls m fs _ _ M 0 0 (by decide +kernel) hat f0 ?_
    refine gX_cV (idx := 18) (C := cZ0) (ci := 1) (T := TJx4a65c) (N := 3) hx hl hD (mx_size hatw) rfl (kw_at 221 (by decide +kernel)) (kw_at 7 (by decide +kernel)) (Or.inl (kw_at 291 (by decide +kernel))) (kw_at 219 (by decide +kernel)) (kw_at 220 (by decide +kernel)) (nA := 0) (by decide +kernel) rfl ⟨by rw [hR]; decide, by rw [hR]; decide⟩ (pc := 9) (by decide +kernel) hatw hs (rest := [.int z]) (by show 1 ≤ 8; omega) (by rw [hR]; decide) (by rw [hR]; decide) rfl (fun v M' hv => ?_)
    obtain ⟨rfl, rfl⟩ := hv
    refine gG_ic hx (cn := .ge) (off := 31) (tgt := 43) (by decide +kernel) rfl (fun _ => J43 g σ M' ls [] hs hw hH hI hF pnil trivial) (fun q => ?_)
    have q : ¬ (nI c).toInt ≤ z.toInt := q
    rw [ec] at q
    have hlt : z.toInt < (c : Int) := by omega
    obtain ⟨y, hy⟩ := pf.2.1 z.toNatClampNeg (by omega)
    rcases pf.1 with ⟨-, e2, -⟩ | ⟨ha0, ha1, hcN, -⟩
    · omega
    have ha : mh_at M' a (qA cO N f) := ⟨(hH a 10 ha0).1, ha1⟩
    have hky : σ y = some 9 := pf.2.2 _ y hy
    obtain ⟨gs, haty, hgs⟩ := ty_obj hH hky (show pKT[9]? = some (0, 5, _) from rfl)
    refine gG_sp hx (i := .aload_n 0) (len := 1) (by decide +kernel) (sp_al (j := 0) h0) ?_
    refine P.1 (12, 4, 0, .object "java/util/ArrayList") (by decide +kernel) 16 ls m fs _ _ M' 0 0 (by decide +kernel) hat f0 ?_
    refine gG_sp hx (i := .iload_n 2) (len := 1) (by decide +kernel) (sp_il (j := 2) h2) ?_
    refine gX_cV (idx := 52) (C := cZ0) (ci := 1) (T := TJx4a65c) (N := 3) hx hl hD (mx_get hL.2.1 hatw ha z1 hlt hcN (by omega) hy) rfl (kw_at 225 (by decide +kernel)) (kw_at 7 (by decide +kernel)) (Or.inl (kw_at 401 (by decide +kernel))) (kw_at 223 (by decide +kernel)) (kw_at 224 (by decide +kernel)) (nA := 1) (by decide +kernel) rfl ⟨by rw [hR]; decide, by rw [hR]; decide⟩ (pc := 20) (by decide +kernel) hatw hs (rest := []) (Nat.zero_le 8) (by rw [hR]; decide) (by rw [hR]; decide) rfl (fun v M2 hv => ?_)
    obtain ⟨rfl, rfl⟩ := hv
    refine gG_cast (idx := 31) (ci := 5) hx (kw_at 402 (by decide +kernel)) (by decide +kernel) rfl haty (by decide +kernel) ?_
    refine gG_astore hx hs hw (i := 4) (len := 2) (Or.inl ⟨by decide +kernel, rfl⟩) (by decide) (fun ls1 p1 => ?_)
    exact J28 g σ M2 ls1 [] p1.1 p1.2.1 hH hI hF (pcons ⟨_, ty_kp p1 h1 (by omega) (Or.inl rfl), dk, rfl, hdk⟩ (pcons ⟨_, ty_kp p1 h3 (by omega) (Or.inl rfl), bb, rfl, b1, b2⟩ (pcons ⟨_, p1.2.2.1, y, rfl, hky⟩ pnil))) trivial
  have J0 := ty_seg E [] _ (pcons J4 pnil) [] 30 (0, ty_L0 0 ct_X2_bring.1, [], 0, 0) (by decide +kernel) (by decide +kernel)
  exact ty_enter (J0 0) (by decide +kernel) hav hH0 hI0 hls
