/-! letPagesWait, letHeadWait, commit -/
def pr_X4_letPagesWait : List (Nat × Instr × Nat) := [(0, .iconst 2, 1), (1, .istore_n 2, 1), (2, .iload_n 2, 1), (3, .bipush 64, 2), (5, .if_icmp .ge 62, 3), (8, .aload_n 0, 1), (9, .getfield 98, 3), (12, .iload_n 2, 1), (13, .invokestatic 169, 3), (16, .ifCond .eq 45, 3), (19, .aload_n 0, 1), (20, .getfield 30, 3), (23, .iload_n 2, 1), (24, .bipush 16, 2), (26, .iload_n 1, 1), (27, .invokevirtual 249, 3), (30, .aload_n 0, 1), (31, .getfield 30, 3), (34, .iload_n 2, 1), (35, .invokevirtual 246, 3), (38, .aload_n 0, 1), (39, .getfield 36, 3), (42, .new 252, 3), (45, .dup, 1), (46, .iload_n 2, 1), (47, .aload_n 0, 1), (48, .getfield 30, 3), (51, .iload_n 2, 1), (52, .invokevirtual 254, 3), (55, .invokespecial 258, 3), (58, .invokevirtual 261, 3), (61, .iinc 2 1, 3), (64, .goto (-62), 3), (67, .return_, 1)]
theorem pd_X4_letPagesWait : ∀ q ∈ pr_X4_letPagesWait, decode cX4_letPagesWait q.1 = .ok (q.2.1, q.2.2) := by decide +kernel
def ct_X4_letPagesWait : ty_C := ([(2, 0, 0), ty_f], none, [(7, 0), (8, 0), (26, 0), (26, 1), (2, 1), (4, 0), (4, 1), (4, 2), (10, 0)], [8, 9, 10], 186, 7051, ty_i0)
def fT_X4_letPagesWait : List (Nat × Nat × Nat × FieldType) := [(98, 6, 10, .long), (30, 6, 2, .object "KnowDisk$Sectors"), (36, 6, 3, .object "KnowDisk$Waiting")]
def pT_X4_letPagesWait : List (Nat × Nat × Nat × FieldType) := []
def cT_X4_letPagesWait : List (Nat × ty_C) := [(508, ct_X4_isIn), (747, ct_X0_putInt), (738, ct_X0_seal), (762, ct_X0_copyOf)]
def kT_X4_letPagesWait : List (Nat × Int) := []
def lT_X4_letPagesWait : List Nat := []
def nT_X4_letPagesWait : List (Nat × Nat × Nat × Nat × List Value) := []
set_option maxRecDepth 100000 in
theorem pv_X4_letPagesWait {x : gx_T} {l : Launch} {D : va_G} {tys : List (ClassId × FieldType)} {INV : ty_K → mh_M → Prop} (hG : pG tys INV) (hx : gC x vwCl cX4_letPagesWait 3 tys kwT yX4_letPagesWait.cls) (hl : x.2.1 = l) (hnm : x.2.2.2.2.2.2.2.2.1.name = yX4_letPagesWait.name) (hR : gx_R x = ty_rm 8 178 ct_X4_letPagesWait) (hD : x.2.2.2.2.2.2.2.2.2.2.2.1 = D) : ty_Pv x cX4_letPagesWait 3 tys INV fT_X4_letPagesWait pT_X4_letPagesWait cT_X4_letPagesWait kT_X4_letPagesWait lT_X4_letPagesWait nT_X4_letPagesWait :=
  ⟨(pcons (gR_getP hx rfl (by decide) uX4 (kw_at 117 (by decide +kernel))) (pcons (gR_getP hx rfl (by decide) uX4 (kw_at 109 (by decide +kernel))) (pcons (gR_getP hx rfl (by decide) uX4 (kw_at 110 (by decide +kernel))) pnil))), pnil, (pcons (gR_cS (idx := 169) hx hl hD (mt_X4_isIn hG) (kw_at 298 (by decide +kernel)) (kw_at 1 (by decide +kernel)) (Or.inl (kw_at 296 (by decide +kernel))) (kw_at 297 (by decide +kernel)) (by decide +kernel) ⟨by rw [hR]; decide, by rw [hR]; decide⟩) (pcons (gR_cV (idx := 249) hx hl hD (mt_X0_putInt hG) rfl (ci := 2) (T := TX0) (N := 1) rfl rfl (kw_at 269 (by decide +kernel)) (kw_at 3 (by decide +kernel)) (Or.inr ⟨"KnowDisk", (kw_at 299 (by decide +kernel))⟩) (kw_at 268 (by decide +kernel)) (kw_sl 17 (by decide +kernel)) (by decide +kernel) ⟨by rw [hR]; decide, by rw [hR]; decide⟩) (pcons (gR_cV (idx := 246) hx hl hD (mt_X0_seal hG) rfl (ci := 2) (T := TX0) (N := 1) rfl rfl (kw_at 273 (by decide +kernel)) (kw_at 3 (by decide +kernel)) (Or.inr ⟨"KnowDisk", (kw_at 270 (by decide +kernel))⟩) (kw_at 272 (by decide +kernel)) (kw_sl 18 (by decide +kernel)) (by decide +kernel) ⟨by rw [hR]; decide, by rw [hR]; decide⟩) (pcons (gR_cV (idx := 254) hx hl hD (mt_X0_copyOf hG) rfl (ci := 2) (T := TX0) (N := 1) rfl rfl (kw_at 305 (by decide +kernel)) (kw_at 3 (by decide +kernel)) (Or.inr ⟨"KnowDisk", (kw_at 302 (by decide +kernel))⟩) (kw_at 304 (by decide +kernel)) (kw_sl 22 (by decide +kernel)) (by decide +kernel) ⟨by rw [hR]; decide, by rw [hR]; decide⟩) pnil)))), pnil, pnil, pnil⟩
def pr_X4_letHeadWait : List (Nat × Instr × Nat) := [(0, .iload_n 1, 1), (1, .iconst 2, 1), (2, .irem, 1), (3, .ifCond .ne 7, 3), (6, .iconst 0, 1), (7, .goto 4, 3), (10, .iconst 1, 1), (11, .istore_n 2, 1), (12, .aload_n 0, 1), (13, .getfield 30, 3), (16, .iload_n 2, 1), (17, .invokevirtual 240, 3), (20, .aload_n 0, 1), (21, .getfield 30, 3), (24, .iload_n 2, 1), (25, .iconst 4, 1), (26, .bipush 9, 2), (28, .invokevirtual 173, 3), (31, .aload_n 0, 1), (32, .getfield 30, 3), (35, .iload_n 2, 1), (36, .bipush 8, 2), (38, .aload_n 0, 1), (39, .getfield 116, 3), (42, .invokevirtual 242, 3), (45, .aload_n 0, 1), (46, .getfield 30, 3), (49, .iload_n 2, 1), (50, .bipush 16, 2), (52, .iload_n 1, 1), (53, .invokevirtual 249, 3), (56, .aload_n 0, 1), (57, .getfield 30, 3), (60, .iload_n 2, 1), (61, .bipush 20, 2), (63, .aload_n 0, 1), (64, .getfield 30, 3), (67, .aload_n 0, 1), (68, .getfield 116, 3), (71, .invokestatic 264, 3), (74, .invokevirtual 249, 3), (77, .aload_n 0, 1), (78, .getfield 30, 3), (81, .iload_n 2, 1), (82, .invokevirtual 246, 3), (85, .aload_n 0, 1), (86, .getfield 36, 3), (89, .new 252, 3), (92, .dup, 1), (93, .iload_n 2, 1), (94, .aload_n 0, 1), (95, .getfield 30, 3), (98, .iload_n 2, 1), (99, .invokevirtual 254, 3), (102, .invokespecial 258, 3), (105, .invokevirtual 261, 3), (108, .return_, 1)]
theorem pd_X4_letHeadWait : ∀ q ∈ pr_X4_letHeadWait, decode cX4_letHeadWait q.1 = .ok (q.2.1, q.2.2) := by decide +kernel
def ct_X4_letHeadWait : ty_C := ([(2, 0, 0), ty_f], none, [(7, 0), (8, 0), (26, 0), (26, 1), (2, 1), (4, 0), (4, 1), (4, 2), (10, 0)], [8, 9, 10], 3, 1661, ty_i0)
def fT_X4_letHeadWait : List (Nat × Nat × Nat × FieldType) := [(30, 6, 2, .object "KnowDisk$Sectors"), (116, 6, 9, .long), (36, 6, 3, .object "KnowDisk$Waiting")]
def pT_X4_letHeadWait : List (Nat × Nat × Nat × FieldType) := []
def cT_X4_letHeadWait : List (Nat × ty_C) := [(720, ct_X0_clear), (519, ct_X0_put), (726, ct_X0_putLong), (747, ct_X0_putInt), (793, ct_X4_xorOfSums), (738, ct_X0_seal), (762, ct_X0_copyOf)]
def kT_X4_letHeadWait : List (Nat × Int) := []
def lT_X4_letHeadWait : List Nat := []
def nT_X4_letHeadWait : List (Nat × Nat × Nat × Nat × List Value) := []
set_option maxRecDepth 100000 in
theorem pv_X4_letHeadWait {x : gx_T} {l : Launch} {D : va_G} {tys : List (ClassId × FieldType)} {INV : ty_K → mh_M → Prop} (hG : pG tys INV) (hx : gC x vwCl cX4_letHeadWait 3 tys kwT yX4_letHeadWait.cls) (hl : x.2.1 = l) (hnm : x.2.2.2.2.2.2.2.2.1.name = yX4_letHeadWait.name) (hR : gx_R x = ty_rm 8 178 ct_X4_letHeadWait) (hD : x.2.2.2.2.2.2.2.2.2.2.2.1 = D) : ty_Pv x cX4_letHeadWait 3 tys INV fT_X4_letHeadWait pT_X4_letHeadWait cT_X4_letHeadWait kT_X4_letHeadWait lT_X4_letHeadWait nT_X4_letHeadWait :=
  ⟨(pcons (gR_getP hx rfl (by decide) uX4 (kw_at 109 (by decide +kernel))) (pcons (gR_getP hx rfl (by decide) uX4 (kw_at 116 (by decide +kernel))) (pcons (gR_getP hx rfl (by decide) uX4 (kw_at 110 (by decide +kernel))) pnil))), pnil, (pcons (gR_cV (idx := 240) hx hl hD (mt_X0_clear hG) rfl (ci := 2) (T := TX0) (N := 1) rfl rfl (kw_at 256 (by decide +kernel)) (kw_at 3 (by decide +kernel)) (Or.inr ⟨"KnowDisk", (kw_at 253 (by decide +kernel))⟩) (kw_at 255 (by decide +kernel)) (kw_sl 14 (by decide +kernel)) (by decide +kernel) ⟨by rw [hR]; decide, by rw [hR]; decide⟩) (pcons (gR_cV (idx := 173) hx hl hD (mt_X0_put hG) rfl (ci := 2) (T := TX0) (N := 1) rfl rfl (kw_at 260 (by decide +kernel)) (kw_at 3 (by decide +kernel)) (Or.inr ⟨"KnowDisk", (kw_at 261 (by decide +kernel))⟩) (kw_at 259 (by decide +kernel)) (kw_sl 15 (by decide +kernel)) (by decide +kernel) ⟨by rw [hR]; decide, by rw [hR]; decide⟩) (pcons (gR_cV (idx := 242) hx hl hD (mt_X0_putLong hG) rfl (ci := 2) (T := TX0) (N := 1) rfl rfl (kw_at 265 (by decide +kernel)) (kw_at 3 (by decide +kernel)) (Or.inr ⟨"KnowDisk", (kw_at 262 (by decide +kernel))⟩) (kw_at 264 (by decide +kernel)) (kw_sl 16 (by decide +kernel)) (by decide +kernel) ⟨by rw [hR]; decide, by rw [hR]; decide⟩) (pcons (gR_cV (idx := 249) hx hl hD (mt_X0_putInt hG) rfl (ci := 2) (T := TX0) (N := 1) rfl rfl (kw_at 269 (by decide +kernel)) (kw_at 3 (by decide +kernel)) (Or.inr ⟨"KnowDisk", (kw_at 299 (by decide +kernel))⟩) (kw_at 268 (by decide +kernel)) (kw_sl 17 (by decide +kernel)) (by decide +kernel) ⟨by rw [hR]; decide, by rw [hR]; decide⟩) (pcons (gR_cS (idx := 264) hx hl hD (mt_X4_xorOfSums hG) (kw_at 385 (by decide +kernel)) (kw_at 1 (by decide +kernel)) (Or.inl (kw_at 383 (by decide +kernel))) (kw_at 384 (by decide +kernel)) (by decide +kernel) ⟨by rw [hR]; decide, by rw [hR]; decide⟩) (pcons (gR_cV (idx := 246) hx hl hD (mt_X0_seal hG) rfl (ci := 2) (T := TX0) (N := 1) rfl rfl (kw_at 273 (by decide +kernel)) (kw_at 3 (by decide +kernel)) (Or.inr ⟨"KnowDisk", (kw_at 270 (by decide +kernel))⟩) (kw_at 272 (by decide +kernel)) (kw_sl 18 (by decide +kernel)) (by decide +kernel) ⟨by rw [hR]; decide, by rw [hR]; decide⟩) (pcons (gR_cV (idx := 254) hx hl hD (mt_X0_copyOf hG) rfl (ci := 2) (T := TX0) (N := 1) rfl rfl (kw_at 305 (by decide +kernel)) (kw_at 3 (by decide +kernel)) (Or.inr ⟨"KnowDisk", (kw_at 302 (by decide +kernel))⟩) (kw_at 304 (by decide +kernel)) (kw_sl 22 (by decide +kernel)) (by decide +kernel) ⟨by rw [hR]; decide, by rw [hR]; decide⟩) pnil))))))), pnil, pnil, pnil⟩
def pr_X4_commit : List (Nat × Instr × Nat) := [(0, .aload_n 0, 1), (1, .getfield 66, 3), (4, .ifCond .eq 10, 3), (7, .aload_n 0, 1), (8, .getfield 90, 3), (11, .ifCond .ne 6, 3), (14, .bipush (-3), 2), (16, .ireturn, 1), (17, .iload_n 1, 1), (18, .aload_n 0, 1), (19, .getfield 62, 3), (22, .getfield 93, 3), (25, .if_icmp .le 9, 3), (28, .iload_n 1, 1), (29, .ldc 97, 2), (31, .if_icmp .le 6, 3), (34, .bipush (-2), 2), (36, .ireturn, 1), (37, .aload_n 0, 1), (38, .getfield 98, 3), (41, .invokestatic 101, 3), (44, .iconst 1, 1), (45, .iadd, 1), (46, .istore_n 2, 1), (47, .aload_n 0, 1), (48, .getfield 36, 3), (51, .invokevirtual 107, 3), (54, .iload_n 2, 1), (55, .iadd, 1), (56, .sipush 1024, 3), (59, .if_icmp .le 6, 3), (62, .bipush (-4), 2), (64, .ireturn, 1), (65, .aload_n 0, 1), (66, .iload_n 1, 1), (67, .invokevirtual 110, 3), (70, .aload_n 0, 1), (71, .iload_n 1, 1), (72, .invokevirtual 113, 3), (75, .aload_n 0, 1), (76, .new 57, 3), (79, .dup, 1), (80, .iload_n 1, 1), (81, .aload_n 0, 1), (82, .getfield 116, 3), (85, .invokespecial 59, 3), (88, .putfield 62, 3), (91, .aload_n 0, 1), (92, .dup, 1), (93, .getfield 119, 3), (96, .aload_n 0, 1), (97, .getfield 116, 3), (100, .lor, 1), (101, .putfield 119, 3), (104, .aload_n 0, 1), (105, .lconst 0, 1), (106, .putfield 98, 3), (109, .aload_n 0, 1), (110, .iconst 0, 1), (111, .putfield 90, 3), (114, .iload_n 2, 1), (115, .ireturn, 1)]
theorem pd_X4_commit : ∀ q ∈ pr_X4_commit, decode cX4_commit q.1 = .ok (q.2.1, q.2.2) := by decide +kernel
def ct_X4_commit : ty_C := ([(2, 0, 0), ty_f], some ty_f, [(7, 0), (8, 0), (26, 0), (26, 1), (2, 1), (4, 0), (4, 1), (4, 2), (10, 0), (3, 0), (3, 1), (0, 11), (0, 12), (0, 10), (0, 8)], [8, 9, 10, 3], 190, 8714, ty_i0)
def fT_X4_commit : List (Nat × Nat × Nat × FieldType) := [(66, 6, 6, .boolean), (90, 6, 8, .boolean), (62, 6, 11, .object "KnowDisk$State"), (93, 3, 0, .int), (98, 6, 10, .long), (36, 6, 3, .object "KnowDisk$Waiting"), (116, 6, 9, .long), (119, 6, 12, .long)]
def pT_X4_commit : List (Nat × Nat × Nat × FieldType) := [(62, 6, 11, .object "KnowDisk$State"), (119, 6, 12, .long), (98, 6, 10, .long), (90, 6, 8, .boolean)]
def cT_X4_commit : List (Nat × ty_C) := [(304, ct_J13_bitCount_95d88), (179, ct_X1_init)]
def kT_X4_commit : List (Nat × Int) := [(97, 1000000)]
def lT_X4_commit : List Nat := []
def nT_X4_commit : List (Nat × Nat × Nat × Nat × List Value) := [(57, 3, 3, 2, [.int 0, .long 0])]
set_option maxRecDepth 100000 in
theorem pv_X4_commit {x : gx_T} {l : Launch} {D : va_G} {tys : List (ClassId × FieldType)} {INV : ty_K → mh_M → Prop} (hG : pG tys INV) (hx : gC x vwCl cX4_commit 3 tys kwT yX4_commit.cls) (hl : x.2.1 = l) (hnm : x.2.2.2.2.2.2.2.2.1.name = yX4_commit.name) (hR : gx_R x = ty_rm 9 200 ct_X4_commit) (hD : x.2.2.2.2.2.2.2.2.2.2.2.1 = D) : ty_Pv x cX4_commit 3 tys INV fT_X4_commit pT_X4_commit cT_X4_commit kT_X4_commit lT_X4_commit nT_X4_commit :=
  ⟨(pcons (gR_getP hx rfl (by decide) uX4 (kw_at 113 (by decide +kernel))) (pcons (gR_getP hx rfl (by decide) uX4 (kw_at 115 (by decide +kernel))) (pcons (gR_getP hx rfl (by decide) uX4 (kw_at 118 (by decide +kernel))) (pcons (gR_getN (host := "KnowDisk") hx rfl (by decide) uX1 (kw_at 98 (by decide +kernel))) (pcons (gR_getP hx rfl (by decide) uX4 (kw_at 117 (by decide +kernel))) (pcons (gR_getP hx rfl (by decide) uX4 (kw_at 110 (by decide +kernel))) (pcons (gR_getP hx rfl (by decide) uX4 (kw_at 116 (by decide +kernel))) (pcons (gR_getP hx rfl (by decide) uX4 (kw_at 119 (by decide +kernel))) pnil)))))))), (pcons (gR_putP hx rfl (by decide) uX4 tyX4 tyX4_ok nmX4 rfl (kw_at 118 (by decide +kernel)) rfl) (pcons (gR_putP hx rfl (by decide) uX4 tyX4 tyX4_ok nmX4 rfl (kw_at 119 (by decide +kernel)) rfl) (pcons (gR_putP hx rfl (by decide) uX4 tyX4 tyX4_ok nmX4 rfl (kw_at 117 (by decide +kernel)) rfl) (pcons (gR_putP hx rfl (by decide) uX4 tyX4 tyX4_ok nmX4 rfl (kw_at 115 (by decide +kernel)) rfl) pnil)))), (pcons (gR_cS (idx := 101) hx hl hD (mt_J13_bitCount_95d88 hG) (kw_at 238 (by decide +kernel)) (kw_at 11 (by decide +kernel)) (Or.inl (kw_at 236 (by decide +kernel))) (kw_at 237 (by decide +kernel)) (by decide +kernel) ⟨by rw [hR]; decide, by rw [hR]; decide⟩) (pcons (gR_cI (idx := 59) hx hl hD (mt_X1_init hG) rfl rfl (kw_at 95 (by decide +kernel)) (kw_at 9 (by decide +kernel)) (Or.inr ⟨"KnowDisk", (kw_at 93 (by decide +kernel))⟩) (kw_at 94 (by decide +kernel)) (by decide +kernel) ⟨by rw [hR]; decide, by rw [hR]; decide⟩) pnil)), (pcons (gR_ldcP hx (kw_at 286 (by decide +kernel))) pnil), pnil, (pcons (gR_newP hx rfl uX1 tyX1 tyX1_ok (by decide) (kw_at 91 (by decide +kernel)) (kw_at 92 (by decide +kernel)) (kw_at 9 (by decide +kernel))) pnil)⟩
theorem sc_X4_commit_110 {x : gx_T} {l : Launch} {D : va_G} {tys : List (ClassId × FieldType)} {INV INV2 : ty_K → mh_M → Prop} (hM : ty_Met l D vwCl tys pKT INV INV2 pPG yX4_letPagesWait cX4_letPagesWait 3 none 8 178 ct_X4_letPagesWait) (hx : gC x vwCl cX4_commit 3 tys kwT yX4_commit.cls) (hl : x.2.1 = l) (hR : gx_R x = ty_rm 9 200 ct_X4_commit) (hD : x.2.2.2.2.2.2.2.2.2.2.2.1 = D) : gR_call x vwCl cX4_commit 3 tys pKT INV INV2 pPG 330 ct_X4_letPagesWait := gR_cV (idx := 110) hx hl hD hM rfl (ci := 6) (T := TX4) (N := 13) rfl rfl (kw_at 295 (by decide +kernel)) (kw_at 1 (by decide +kernel)) (Or.inl (kw_at 292 (by decide +kernel))) (kw_at 294 (by decide +kernel)) (kw_sl 21 (by decide +kernel)) (by decide +kernel) ⟨by rw [hR]; decide, by rw [hR]; decide⟩
theorem sc_X4_commit_113 {x : gx_T} {l : Launch} {D : va_G} {tys : List (ClassId × FieldType)} {INV INV2 : ty_K → mh_M → Prop} (hM : ty_Met l D vwCl tys pKT INV INV2 pPG yX4_letHeadWait cX4_letHeadWait 3 none 8 178 ct_X4_letHeadWait) (hx : gC x vwCl cX4_commit 3 tys kwT yX4_commit.cls) (hl : x.2.1 = l) (hR : gx_R x = ty_rm 9 200 ct_X4_commit) (hD : x.2.2.2.2.2.2.2.2.2.2.2.1 = D) : gR_call x vwCl cX4_commit 3 tys pKT INV INV2 pPG 339 ct_X4_letHeadWait := gR_cV (idx := 113) hx hl hD hM rfl (ci := 6) (T := TX4) (N := 13) rfl rfl (kw_at 382 (by decide +kernel)) (kw_at 1 (by decide +kernel)) (Or.inl (kw_at 379 (by decide +kernel))) (kw_at 381 (by decide +kernel)) (kw_sl 27 (by decide +kernel)) (by decide +kernel) ⟨by rw [hR]; decide, by rw [hR]; decide⟩
/-- at most b writes wait -/
def pKb (b : Nat) (c N : Nat) : Prop := c ≤ b ∧ N ≤ 1627
theorem a_bd {c N : Nat} (hc : c ≤ 1085) (hN : N ≤ 1627) : aC c N ≤ 1 ∧ aN c N ≤ 1627 ∧ 3 * N + aS c N ≤ 3 * aN c N + 1 ∧ aS c N ≤ 1627 := by
  unfold aN aC aS
  by_cases h : c < N
  · rw [if_pos h, if_pos h, if_pos h]; omega
  · rw [if_neg h, if_neg h, if_neg h]
    by_cases h0 : N = 0
    · rw [if_pos h0]; omega
    · rw [if_neg h0]; omega
theorem okE {tys : List (ClassId × FieldType)} {σ : ty_K} {ci : Nat} {fs : List Value} : ty_ok tys σ (0, ci, []) (.inr (ci, fs)) :=
  ⟨fun _ => ⟨fs, rfl, fun i t ht => by cases ht⟩, fun j q hj => by have q : 0 = 1 + j := q; omega, fun j q => by have q : 0 = 20 + j := q; omega⟩
theorem okW {tys : List (ClassId × FieldType)} {σ : ty_K} {z : Int32} {r : Nat} (hr : σ r = some 8) : ty_ok tys σ (0, 5, [ty_f, (2, 8, 0)]) (.inr (5, [.int z, .ref r])) := by
  refine ⟨fun _ => ⟨_, rfl, fun i t ht => ?_⟩, fun j q hj => by have q : 0 = 1 + j := q; omega, fun j q => by have q : 0 = 20 + j := q; omega⟩
  match i, ht with
  | 0, ht => cases ht; exact ⟨_, rfl, ty_any z⟩
  | 1, ht => cases ht; exact ⟨_, rfl, r, rfl, hr⟩
  | i + 2, ht => cases ht
theorem ty_same {e e' : va_E} {ci ci' : Nat} {fs fs' : List Value} (h1 : e = .inr (ci, fs)) (h2 : e' = .inr (ci', fs')) (h : ∀ i, ty_p e i = ty_p e' i) : fs = fs' := by
  subst h1; subst h2
  exact List.ext_getElem? (fun i => Sum.inr.inj (h i))
theorem nK {k : Nat} {PS : List (Nat × Nat)} (h : PS.all (fun q => q.1 != k) = true) : ∀ i, (k, i) ∉ PS := fun i hi => by
  have := List.all_eq_true.mp h _ hi
  simp at this
theorem mx_X2_count {l : Launch} {D : va_G} {tys : List (ClassId × FieldType)} {M : mh_M} {m w a c : Nat} {mc : Int32} {fs : List Value} (hat : mh_at M m (.inr (4, fs))) (f0 : fs[0]? = some (.ref w)) (hatw : mh_at M w (lE mc a c)) : mh_Met vwCl tys l D yX2_count [Cond.code yX2_count cX2_count 1 (some .int)] (ty_rm 1 20 cZ0) [.ref m] M (fun v M' => v = some (.int (nI c)) ∧ M' = M) := by
  refine ty_ofX (by decide +kernel) (Nat.le_refl 1) ?_
  intro x ls hx hl hnm hR hD hls hr
  have h0 : ls[((0 : Fin 4) : Nat)]? = some (.val (.ref m)) := hls.2.2 (0, .ref m) List.mem_cons_self
  refine gG_sp hx (i := .aload_n 0) (len := 1) (by decide +kernel) (sp_al h0) ?_
  refine (gR_getP (idx := 12) (ci := 4) (f := 0) hx rfl (by decide) uX2 (kw_at 79 (by decide +kernel))) 1 ls m _ _ _ M 0 0 (by decide +kernel) hat f0 ?_
  refine gX_cV (idx := 18) (C := cZ0) (ci := 1) (T := TJx4a65c) (N := 3) hx hl hD (mx_size hatw) rfl (kw_at 221 (by decide +kernel)) (kw_at 7 (by decide +kernel)) (Or.inl (kw_at 291 (by decide +kernel))) (kw_at 219 (by decide +kernel)) (kw_at 220 (by decide +kernel)) (nA := 0) (by decide +kernel) rfl ⟨by rw [hR]; decide, by rw [hR]; decide⟩ (pc := 4) (by decide +kernel) hatw hls.1 (rest := []) (Nat.zero_le 8) (by rw [hR]; decide) (by rw [hR]; decide) rfl (fun v M' hv => ?_)
  obtain ⟨rfl, rfl⟩ := hv
  exact hr 7 ls .ireturn (some (.int (nI c))) M' 0 0 (by decide +kernel) ⟨rfl, _, rfl, rfl⟩ ⟨rfl, rfl⟩ (Nat.le_refl _) (Nat.le_refl _)
set_option maxRecDepth 100000 in
set_option maxHeartbeats 4000000 in
theorem mt_X4_letPagesWait {l : Launch} {D : va_G} {tys : List (ClassId × FieldType)} {e t : Nat} {cO : ClassId} {Ψ : Nat → Nat → Prop} (hL : pGL cO tys pKw Ψ) : ty_Met l D vwCl tys pKT (pJ e t D cO (pKb 1023) Ψ) (pJ e t D cO (pKb 1085) Ψ) pPG yX4_letPagesWait cX4_letPagesWait 3 none 8 178 ct_X4_letPagesWait := by
  refine ty_of (by decide +kernel) (by decide +kernel) (by decide +kernel) ?_
  intro x av M0 σ0 ls0 post hx hl hnm hR hD hav hH0 hI0 hls hp hr
  have loop : ∀ (fuel g c N n k : Nat), 64 - g < fuel → 2 ≤ g → g ≤ 64 → c ≤ 1021 + g → N ≤ 1627 → n ≤ 3 * (g - 2) → k ≤ 3 * N + 35 * (g - 2) → ∀ (σ : ty_K) (M : mh_M) (ls : Array Slot) (m : Nat) (nn : Int32), ls.size = 3 → lv_wf ls → ty_H tys pKT σ M → pJ e t D cO (pEx c N) Ψ σ M → ty_FM ct_X4_letPagesWait.2.2.1 ct_X4_letPagesWait.2.2.2.1 σ0 M0 σ M → ls[0]? = some (.val (.ref m)) → σ m = some 0 → ls[1]? = some (.val (.int nn)) → ls[2]? = some (.val (.int (nI g))) → gG x vwCl 2 ls [] M n k := by
    intro fuel
    induction fuel with
    | zero => intro g c N n k hf; omega
    | succ fuel ih =>
      intro g c N n k hf hg2 hg64 hc0 hN hn hk σ M ls m nn hs hw hH hI hF h0 hm h1 h2
      have eg : (nI g).toInt = (g : Int) := nI_tn (by omega)
      refine gG_sp hx (i := .iload_n 2) (len := 1) (by decide +kernel) (sp_il (j := 2) h2) ?_
      refine gG_sp hx (i := .bipush 64) (len := 2) (by decide +kernel) rfl ?_
      refine gG_ic hx (cn := .ge) (off := 62) (tgt := 67) (by decide +kernel) rfl (fun q => ?_) (fun q => ?_)
      · refine hr 67 ls .return_ none M n k (by decide +kernel) ⟨rfl, rfl⟩ (hp none M σ hF hH (pJ_mono (fun c' N' h => by rw [h.1, h.2]; exact ⟨by omega, hN⟩) (fun _ _ h => h) hI) rfl trivial) (by show n ≤ 186; omega) (by show k ≤ 7051; omega)
      have q : ¬ ((Int8.ofInt 64).toInt32).toInt ≤ (nI g).toInt := q
      rw [eg, show ((Int8.ofInt 64).toInt32).toInt = 64 from rfl] at q
      have hc : c ≤ 1085 := by omega
      obtain ⟨b1, b2, b3, b4⟩ := a_bd hc hN
      have hL2 : pGL cO tys (pEx c N) Ψ := ⟨hL.1, hL.2.1, fun c' N' h => by rw [h.1, h.2]; exact ⟨by omega, hN⟩, hL.2.2.2⟩
      have hG := pGL_G (e := e) (t := t) (D := D) hL2
      have P := pv_X4_letPagesWait hG hx hl hnm hR hD
      have next : ∀ (c N n k : Nat) (σ : ty_K) (M : mh_M), c ≤ 1022 + g → N ≤ 1627 → n ≤ 3 * (g - 1) → k ≤ 3 * N + 35 * (g - 1) → ty_H tys pKT σ M → pJ e t D cO (pEx c N) Ψ σ M → ty_FM ct_X4_letPagesWait.2.2.1 ct_X4_letPagesWait.2.2.2.1 σ0 M0 σ M → σ m = some 0 → gG x vwCl 61 ls [] M n k := by
        intro c N n k σ M e1 e2 e3 e4 hH hI hF hm
        refine gG_iinc hx hs hw (i := 2) (z := 1) (v := nI g) (by decide +kernel) h2 (fun ls2 p2 => ?_)
        refine gG_goto hx (off := -62) (tgt := 2) (by decide +kernel) rfl ?_
        have ew : nI g + Int32.ofInt 1 = nI (g + 1) := by rw [lit1]; exact nI_1 g
        refine ih (g + 1) c N n k (by omega) (by omega) (by omega) (by omega) e2 (by omega) (by omega) σ M ls2 m nn p2.1 p2.2.1 hH hI hF (ty_kp p2 h0 (by omega) (Or.inl rfl)) hm (ty_kp p2 h1 (by omega) (Or.inl rfl)) ?_
        rw [← ew]; exact p2.2.2.1
      obtain ⟨fs, hat, hfs⟩ := ty_obj hH hm (show pKT[0]? = some (0, 6, _) from rfl)
      obtain ⟨v10, f10, lv, rfl⟩ := hfs 10 (1, 0, 0) rfl
      refine gG_sp hx (i := .aload_n 0) (len := 1) (by decide +kernel) (sp_al (j := 0) h0) ?_
      refine P.1 (98, 6, 10, .long) (by decide +kernel) 9 ls m fs _ _ M _ _ (by decide +kernel) hat f10 ?_
      refine gG_sp hx (i := .iload_n 2) (len := 1) (by decide +kernel) (sp_il (j := 2) h2) ?_
      refine P.2.2.1 (508, ct_X4_isIn) (List.mem_of_getElem? (i := 0) rfl) 13 ls (.invokestatic 169) [.long lv, .int (nI g)] [] M σ n k (by decide +kernel) (Or.inr (Or.inl ⟨169, rfl, rfl⟩)) hs ⟨⟨lv, rfl⟩, ty_any _, trivial⟩ hH hI (Nat.zero_le 8) (by rw [hR]; show n + 0 ≤ 186; omega) (by rw [hR]; show k + 0 ≤ 7051; omega) (fun v M' σ' q1 q2 q3 q4 q5 => ?_)
      obtain ⟨u, rfl, bb, rfl, -⟩ := q4
      have hF1 := (hF.tr (ty_FMw (m2 := ct_X4_letPagesWait.2.2.1) (n2 := ct_X4_letPagesWait.2.2.2.1) (by decide +kernel) (by decide +kernel) q1))
      have hm1 := q1.kinds m 0 hm
      refine gG_if hx (cn := .eq) (off := 45) (tgt := 61) (by decide +kernel) rfl (fun _ => next c N n k σ' M' (by omega) hN (by omega) (by omega) q2 q3 hF1 hm1) (fun _ => ?_)
      clear hat hfs f10
      generalize nI g = z at *
      obtain ⟨fs, hat, hfs⟩ := ty_obj q2 hm1 (show pKT[0]? = some (0, 6, _) from rfl)
      obtain ⟨v2, f2, rd, rfl, hrd⟩ := hfs 2 (2, 1, 0) rfl
      refine gG_sp hx (i := .aload_n 0) (len := 1) (by decide +kernel) (sp_al (j := 0) h0) ?_
      refine P.1 (30, 6, 2, .object "KnowDisk$Sectors") (by decide +kernel) 20 ls m fs _ _ M' _ _ (by decide +kernel) hat f2 ?_
      refine gG_sp hx (i := .iload_n 2) (len := 1) (by decide +kernel) (sp_il (j := 2) h2) ?_
      refine gG_sp hx (i := .bipush 16) (len := 2) (by decide +kernel) rfl ?_
      refine gG_sp hx (i := .iload_n 1) (len := 1) (by decide +kernel) (sp_il (j := 1) h1) ?_
      refine P.2.2.1 (747, ct_X0_putInt) (List.mem_of_getElem? (i := 1) rfl) 27 ls (.invokevirtual 249) [.ref rd, .int z, .int _, .int nn] [] M' σ' n k (by decide +kernel) (Or.inl ⟨249, rfl, rfl⟩) hs ⟨⟨rd, rfl, hrd⟩, ty_any _, ty_any _, ty_any _, trivial⟩ q2 q3 (Nat.zero_le 8) (by rw [hR]; show n + 0 ≤ 186; omega) (by rw [hR]; show k + 0 ≤ 7051; omega) (fun v M2 σ2 s1 s2 s3 s4 s5 => ?_)
      have s4 : v = none := s4
      subst s4
      have hF2 := (hF1.tr (ty_FMw (m2 := ct_X4_letPagesWait.2.2.1) (n2 := ct_X4_letPagesWait.2.2.2.1) (by decide +kernel) (by decide +kernel) s1))
      have hm2 := s1.kinds m 0 hm1
      clear hat hfs f2
      obtain ⟨fs, hat, hfs⟩ := ty_obj s2 hm2 (show pKT[0]? = some (0, 6, _) from rfl)
      obtain ⟨v2, f2, rd2, rfl, hrd2⟩ := hfs 2 (2, 1, 0) rfl
      refine gG_sp hx (i := .aload_n 0) (len := 1) (by decide +kernel) (sp_al (j := 0) h0) ?_
      refine P.1 (30, 6, 2, .object "KnowDisk$Sectors") (by decide +kernel) 31 ls m fs _ _ M2 _ _ (by decide +kernel) hat f2 ?_
      refine gG_sp hx (i := .iload_n 2) (len := 1) (by decide +kernel) (sp_il (j := 2) h2) ?_
      refine P.2.2.1 (738, ct_X0_seal) (List.mem_of_getElem? (i := 2) rfl) 35 ls (.invokevirtual 246) [.ref rd2, .int z] [] M2 σ2 n k (by decide +kernel) (Or.inl ⟨246, rfl, rfl⟩) hs ⟨⟨rd2, rfl, hrd2⟩, ty_any _, trivial⟩ s2 s3 (Nat.zero_le 8) (by rw [hR]; show n + 0 ≤ 186; omega) (by rw [hR]; show k + 0 ≤ 7051; omega) (fun v M3 σ3 t1 t2 t3 t4 t5 => ?_)
      have t4 : v = none := t4
      subst t4
      have hF3 := (hF2.tr (ty_FMw (m2 := ct_X4_letPagesWait.2.2.1) (n2 := ct_X4_letPagesWait.2.2.2.1) (by decide +kernel) (by decide +kernel) t1))
      have hm3 := t1.kinds m 0 hm2
      clear hat hfs f2
      obtain ⟨fs, hat, hfs⟩ := ty_obj t2 hm3 (show pKT[0]? = some (0, 6, _) from rfl)
      obtain ⟨v3, f3, wt, rfl, hwt⟩ := hfs 3 (2, 2, 0) rfl
      have hwt : σ3 wt = some 2 := hwt
      refine gG_sp hx (i := .aload_n 0) (len := 1) (by decide +kernel) (sp_al (j := 0) h0) ?_
      refine P.1 (36, 6, 3, .object "KnowDisk$Waiting") (by decide +kernel) 39 ls m fs _ _ M3 _ _ (by decide +kernel) hat f3 ?_
      clear hat hfs f3 hH hI hF hm q1 q2 q3 q5 s1 s2 s3 s5 hF1 hF2 hm1 hm2 t1 t5
      show gG x vwCl 42 ls [.ref wt] M3 n k
      revert t2 t3 hF3 hm3 hwt
      generalize M3 = M, σ3 = σ
      intro hH hI hF hm hwt
      refine (gR_newP (idx := 252) (ci := 5) (N := 2) (fs := [.int 0, .null]) hx rfl uX3 tyX3 tyX3_ok (by decide) (kw_at 300 (by decide +kernel)) (kw_at 301 (by decide +kernel)) (kw_at 15 (by decide +kernel))) 42 ls [.ref wt] M n k (by decide +kernel) (by rw [hR]; show n + 1 ≤ 186; omega) (by rw [hR]; show k + 2 ≤ 7051; omega) (fun q hq => ?_)
      have hH1 : ty_H tys pKT (ty_new σ q 26) (mh_new M q (.inr (5, [.int 0, .null]))) := ty_H_new hH hq (show pKT[26]? = some (0, 5, []) from rfl) okE
      have hF1 : ty_FP pPS σ M (ty_new σ q 26) (mh_new M q (.inr (5, [.int 0, .null]))) := ty_F_new hH hq (nK (by decide))
      have hI1 := hG.2.1 _ _ _ _ hF1 hI
      have hk1 : ty_new σ q 26 q = some 26 := if_pos rfl
      have hm1 : ty_new σ q 26 m = some 0 := hF1.kinds m 0 hm
      obtain ⟨fs1, hat1, hfs1⟩ := ty_obj hH1 hm1 (show pKT[0]? = some (0, 6, _) from rfl)
      obtain ⟨v2, g2, rd, rfl, hrd⟩ := hfs1 2 (2, 1, 0) rfl
      refine gG_sp hx (i := .dup) (len := 1) (by decide +kernel) rfl ?_
      refine gG_sp hx (i := .iload_n 2) (len := 1) (by decide +kernel) (sp_il (j := 2) h2) ?_
      refine gG_sp hx (i := .aload_n 0) (len := 1) (by decide +kernel) (sp_al (j := 0) h0) ?_
      refine P.1 (30, 6, 2, .object "KnowDisk$Sectors") (by decide +kernel) 48 ls m fs1 _ _ _ _ _ (by decide +kernel) hat1 g2 ?_
      refine gG_sp hx (i := .iload_n 2) (len := 1) (by decide +kernel) (sp_il (j := 2) h2) ?_
      refine P.2.2.1 (762, ct_X0_copyOf) (List.mem_of_getElem? (i := 3) rfl) 52 ls (.invokevirtual 254) [.ref rd, .int z] [.int z, .ref q, .ref q, .ref wt] _ _ _ _ (by decide +kernel) (Or.inl ⟨254, rfl, rfl⟩) hs ⟨⟨rd, rfl, hrd⟩, ty_any z, trivial⟩ hH1 hI1 (by show 4 ≤ 8; omega) (by rw [hR]; show n + 1 + 1 ≤ 186; omega) (by rw [hR]; show k + 2 + 32 ≤ 7051; omega) (fun v M2 σ2 q1 q2 q3 q4 q5 => ?_)
      obtain ⟨u, rfl, r, rfl, hr8⟩ := q4
      have hr8 : σ2 r = some 8 := hr8
      have hq2 := q1.kinds q 26 hk1
      obtain ⟨fsq, hatq, -⟩ := ty_obj q2 hq2 (show pKT[26]? = some (0, 5, []) from rfl)
      have efs : fsq = [.int 0, .null] := ty_same hatq.2 (va_up_self _ _ _) (fun i => (q1.2.1 q 26 hk1).2 i (nK (k := 26) (by decide) i))
      subst efs
      refine gX_cI (idx := 258) (K := cZ0) hx hl hD (mx_X3_init (z := z) (r := r) hatq) rfl (kw_at 311 (by decide +kernel)) (kw_at 15 (by decide +kernel)) (Or.inr ⟨"KnowDisk", (kw_at 309 (by decide +kernel))⟩) (kw_at 310 (by decide +kernel)) (nA := 2) (by decide +kernel) rfl ⟨by rw [hR]; exact Nat.le_of_ble_eq_true rfl, by rw [hR]; exact Nat.le_of_ble_eq_true rfl⟩ (pc := 55) (by decide +kernel) hs (rest := [.ref q, .ref wt]) (by show 2 ≤ 8; omega) (by rw [hR]; show n + 1 + 1 + 0 ≤ 186; omega) (by rw [hR]; show k + 2 + 32 + 0 ≤ 7051; omega) rfl (fun v M3 hv => ?_)
      obtain ⟨rfl, eM3⟩ := hv
      have hM3 : M3.2 q = .inr (5, [.int z, .ref r]) := by rw [eM3]; exact va_up_self _ _ _
      have hH2 : ty_H tys pKT σ2 M3 := by rw [eM3]; exact ty_H_set q2 hq2 rfl okE
      have hrq : r ≠ q := fun e => by rw [e, hq2] at hr8; cases hr8
      have hH3 : ty_H tys pKT (ty_new σ2 q 9) M3 := ty_rek (by decide +kernel) hq2 hH2 (show pKT[9]? = some (0, 5, [ty_f, (2, 8, 0)]) from rfl) (by rw [hM3]; exact okW ((if_neg hrq).trans hr8))
      have hF3 : ty_FM [(8, 0), (26, 0), (26, 1)] [8, 9] (ty_new σ q 26) (mh_new M q (.inr (5, [.int 0, .null]))) σ2 M3 := by
        rw [eM3]
        refine (ty_FMw (by decide) (by decide) q1).tr (ty_F_set hq2 (fun i hi => ?_))
        rw [hatq.2]
        match i, hi with
        | 0, hi => exact absurd (by decide) hi
        | 1, hi => exact absurd (by decide) hi
        | i + 2, _ => rfl
      have hF4 := ty_rekF (k' := 9) hH hq hF3 (by decide)
      have hI4 := hG.2.1 _ _ _ _ (hF4.mono (fun k i hi hm => by
        have : ∀ q ∈ pPS, q ∉ [(8, 0), (26, 0), (26, 1)] := by decide
        exact this _ hi hm) (fun k hk i hi => by
        have : ∀ q ∈ pPS, q.1 ∉ [8, 9] := by decide
        exact this _ hi hk)) hI
      have hwt4 := hF4.kinds wt 2 hwt
      have hm4 := hF4.kinds m 0 hm
      have hq4 : ty_new σ2 q 9 q = some 9 := if_pos rfl
      refine (gR_cV (idx := 261) hx hl hD (mt_X2_add (e := e) (t := t) (c := c) (N := N) (Ψ := Ψ) ⟨hL.1, hL.2.1, fun _ _ h => h, hL.2.2.2⟩ hc hN) rfl (ci := 4) (T := TX2) (N := 2) rfl rfl (kw_at 325 (by decide +kernel)) (kw_at 4 (by decide +kernel)) (Or.inr ⟨"KnowDisk", (kw_at 322 (by decide +kernel))⟩) (kw_at 324 (by decide +kernel)) (kw_sl 23 (by decide +kernel)) (by decide +kernel) ⟨by rw [hR]; exact Nat.le_of_ble_eq_true rfl, by rw [hR]; exact Nat.le_of_ble_eq_true rfl⟩) 58 ls (.invokevirtual 261) [.ref wt, .ref q] [] _ _ _ _ (by decide +kernel) (Or.inl ⟨261, rfl, rfl⟩) hs ⟨⟨wt, rfl, hwt4⟩, ⟨q, rfl, hq4⟩, trivial⟩ hH3 hI4 (Nat.zero_le 8) (by rw [hR]; show n + 1 + 1 + 0 + aC c N ≤ 186; omega) (by rw [hR]; show k + 2 + 32 + 0 + aS c N ≤ 7051; omega) (fun v M5 σ5 s1 s2 s3 s4 s5 => ?_)
      have s4 : v = none := s4
      subst s4
      have s1 : ty_FM [(2, 1), (4, 0), (4, 1), (4, 2), (10, 0)] [10] (ty_new σ2 q 9) M3 σ5 M5 := s1
      have hF5 := hF.tr ((ty_FMw (m2 := ct_X4_letPagesWait.2.2.1) (n2 := ct_X4_letPagesWait.2.2.2.1) (by decide +kernel) (by decide +kernel) hF4).tr (ty_FMw (by decide +kernel) (by decide +kernel) s1))
      have hm5 := s1.kinds m 0 hm4
      show gG x vwCl 61 ls [] M5 (n + 1 + 1 + 0 + aC c N) (k + 2 + 32 + 0 + aS c N)
      exact next (c + 1) (aN c N) _ _ σ5 M5 (by omega) b2 (by omega) (by omega) s2 s3 hF5 hm5
  obtain ⟨v, vs, rfl, ⟨m, rfl, hm⟩, hv1⟩ := ty_av_c hav
  obtain ⟨v, vs, rfl, ⟨nn, rfl, -⟩, hv2⟩ := ty_av_c hv1
  have hv3 := ty_av_n hv2
  subst hv3
  have hm : σ0 m = some 0 := hm
  have h0 : ls0[0]? = some (.val (.ref m)) := hls.2.2 (0, .ref m) List.mem_cons_self
  have h1 : ls0[1]? = some (.val (.int nn)) := hls.2.2 (1, .int nn) (List.mem_cons_of_mem _ List.mem_cons_self)
  obtain ⟨fs, hat, hfs⟩ := ty_obj hH0 hm (show pKT[0]? = some (0, 6, _) from rfl)
  obtain ⟨v3, f3, wt, rfl, hwt⟩ := hfs 3 (2, 2, 0) rfl
  obtain ⟨fs2, hat2, hfs2⟩ := ty_obj hH0 hwt (show pKT[2]? = some (0, 4, _) from rfl)
  obtain ⟨v4, f0, w, rfl, hwk⟩ := hfs2 0 (2, 4, 0) rfl
  have hwk : σ0 w = some 4 := hwk
  obtain ⟨c, N, p0, hLx⟩ := pL_get hI0.2.1 hwk
  have p1 := p0.1
  have p2 := p0.2
  refine gG_sp hx (i := .iconst 2) (len := 1) (by decide +kernel) (r := [.int (nI 2)]) rfl ?_
  refine gG_istore hx hls.1 hls.2.1 (i := 2) (len := 1) (Or.inr ⟨2, by decide +kernel, rfl, rfl⟩) (by decide) (fun ls1 p1 => ?_)
  exact loop 100 2 c N 0 0 (by omega) (by omega) (by omega) (by omega) p2 (by omega) (by omega) σ0 M0 ls1 m nn p1.1 p1.2.1 hH0 ⟨hI0.1, hLx, hI0.2.2⟩ ty_F.rf (ty_kp p1 h0 (by omega) (Or.inl rfl)) hm (ty_kp p1 h1 (by omega) (Or.inl rfl)) p1.2.2.1
set_option maxRecDepth 100000 in
set_option maxHeartbeats 4000000 in
theorem mt_X4_letHeadWait {l : Launch} {D : va_G} {tys : List (ClassId × FieldType)} {e t : Nat} {cO : ClassId} {Ψ : Nat → Nat → Prop} (hL : pGL cO tys pKw Ψ) : ty_Met l D vwCl tys pKT (pJ e t D cO (pKb 1085) Ψ) (pJ e t D cO pKw Ψ) pPG yX4_letHeadWait cX4_letHeadWait 3 none 8 178 ct_X4_letHeadWait := by
  refine ty_of (by decide +kernel) (by decide +kernel) (by decide +kernel) ?_
  intro x av M0 σ0 ls0 post hx hl hnm hR hD hav hH0 hI0 hls hp hr
  have hLb : pGL cO tys (pKb 1085) Ψ := ⟨hL.1, hL.2.1, fun c' N' h => ⟨by have := h.1; omega, h.2⟩, hL.2.2.2⟩
  have hGb := pGL_G (e := e) (t := t) (D := D) hLb
  have Pb := pv_X4_letHeadWait hGb hx hl hnm hR hD
  have E := ty_env hGb hx hR hr ty_pN pd_X4_letHeadWait Pb (σ0 := σ0) (M0 := M0)
  have J89 : ∀ g : Int, ty_J x vwCl 3 tys pKT (pJ e t D cO (pKb 1085) Ψ) pPG ct_X4_letHeadWait.2.2.1 ct_X4_letHeadWait.2.2.2.1 σ0 M0 g (ty_s0 (89, [(0, (2, 0, 0)), (2, ty_f)], [(2, 2, 0)], 0, 0)) := by
    intro g σ M ls st hs hw hH hI hF hLo hS
    obtain ⟨u, us, rfl, hu, hS⟩ := ty_stk_c hS
    rw [ty_stk_n hS]
    obtain ⟨wt, rfl, hwt⟩ := hu.1
    have hwt : σ wt = some 2 := hwt
    obtain ⟨v0, h0, m, rfl, hm⟩ := hLo (0, (2, 0, 0)) List.mem_cons_self
    have hm : σ m = some 0 := hm
    obtain ⟨v1, h2, z, rfl, -⟩ := hLo (2, ty_f) (List.mem_cons_of_mem _ List.mem_cons_self)
    have h0 : ls[0]? = some (.val (.ref m)) := h0
    have h2 : ls[2]? = some (.val (.int z)) := h2
    obtain ⟨fsw, hatw0, hfsw⟩ := ty_obj hH hwt (show pKT[2]? = some (0, 4, _) from rfl)
    obtain ⟨v4, f0w, w, rfl, hwk⟩ := hfsw 0 (2, 4, 0) rfl
    obtain ⟨c, N, p0, hLx⟩ := pL_get hI.2.1 hwk
    have hI : pJ e t D cO (pEx c N) Ψ σ M := ⟨hI.1, hLx, hI.2.2⟩
    have hc : c ≤ 1085 := p0.1
    have hN : N ≤ 1627 := p0.2
    obtain ⟨b1, b2, b3, b4⟩ := a_bd hc hN
    have hL2 : pGL cO tys (pEx c N) Ψ := ⟨hL.1, hL.2.1, fun c' N' h => by rw [h.1, h.2]; exact ⟨by omega, hN⟩, hL.2.2.2⟩
    have hG := pGL_G (e := e) (t := t) (D := D) hL2
    have P := pv_X4_letHeadWait hG hx hl hnm hR hD
    clear hatw0 hfsw f0w
    obtain ⟨n, hn⟩ : ∃ n : Nat, n = 0 := ⟨0, rfl⟩
    obtain ⟨k, hk⟩ : ∃ k : Nat, k = 0 := ⟨0, rfl⟩
    have hgo : gG x vwCl 89 ls [.ref wt] M n k := by
      refine (gR_newP (idx := 252) (ci := 5) (N := 2) (fs := [.int 0, .null]) hx rfl uX3 tyX3 tyX3_ok (by decide) (kw_at 300 (by decide +kernel)) (kw_at 301 (by decide +kernel)) (kw_at 15 (by decide +kernel))) 89 ls [.ref wt] M n k (by decide +kernel) (by rw [hR]; show n + 1 ≤ 3; omega) (by rw [hR]; show k + 2 ≤ 1661; omega) (fun q hq => ?_)
      have hH1 : ty_H tys pKT (ty_new σ q 26) (mh_new M q (.inr (5, [.int 0, .null]))) := ty_H_new hH hq (show pKT[26]? = some (0, 5, []) from rfl) okE
      have hF1 : ty_FP pPS σ M (ty_new σ q 26) (mh_new M q (.inr (5, [.int 0, .null]))) := ty_F_new hH hq (nK (by decide))
      have hI1 := hG.2.1 _ _ _ _ hF1 hI
      have hk1 : ty_new σ q 26 q = some 26 := if_pos rfl
      have hm1 : ty_new σ q 26 m = some 0 := hF1.kinds m 0 hm
      obtain ⟨fs1, hat1, hfs1⟩ := ty_obj hH1 hm1 (show pKT[0]? = some (0, 6, _) from rfl)
      obtain ⟨v2, g2, rd, rfl, hrd⟩ := hfs1 2 (2, 1, 0) rfl
      refine gG_sp hx (i := .dup) (len := 1) (by decide +kernel) rfl ?_
      refine gG_sp hx (i := .iload_n 2) (len := 1) (by decide +kernel) (sp_il (j := 2) h2) ?_
      refine gG_sp hx (i := .aload_n 0) (len := 1) (by decide +kernel) (sp_al (j := 0) h0) ?_
      refine P.1 (30, 6, 2, .object "KnowDisk$Sectors") (by decide +kernel) 95 ls m fs1 _ _ _ _ _ (by decide +kernel) hat1 g2 ?_
      refine gG_sp hx (i := .iload_n 2) (len := 1) (by decide +kernel) (sp_il (j := 2) h2) ?_
      refine P.2.2.1 (762, ct_X0_copyOf) (List.mem_of_getElem? (i := 6) rfl) 99 ls (.invokevirtual 254) [.ref rd, .int z] [.int z, .ref q, .ref q, .ref wt] _ _ _ _ (by decide +kernel) (Or.inl ⟨254, rfl, rfl⟩) hs ⟨⟨rd, rfl, hrd⟩, ty_any z, trivial⟩ hH1 hI1 (by show 4 ≤ 8; omega) (by rw [hR]; show n + 1 + 1 ≤ 3; omega) (by rw [hR]; show k + 2 + 32 ≤ 1661; omega) (fun v M2 σ2 q1 q2 q3 q4 q5 => ?_)
      obtain ⟨u, rfl, r, rfl, hr8⟩ := q4
      have hr8 : σ2 r = some 8 := hr8
      have hq2 := q1.kinds q 26 hk1
      obtain ⟨fsq, hatq, -⟩ := ty_obj q2 hq2 (show pKT[26]? = some (0, 5, []) from rfl)
      have efs : fsq = [.int 0, .null] := ty_same hatq.2 (va_up_self _ _ _) (fun i => (q1.2.1 q 26 hk1).2 i (nK (k := 26) (by decide) i))
      subst efs
      refine gX_cI (idx := 258) (K := cZ0) hx hl hD (mx_X3_init (z := z) (r := r) hatq) rfl (kw_at 311 (by decide +kernel)) (kw_at 15 (by decide +kernel)) (Or.inr ⟨"KnowDisk", (kw_at 309 (by decide +kernel))⟩) (kw_at 310 (by decide +kernel)) (nA := 2) (by decide +kernel) rfl ⟨by rw [hR]; exact Nat.le_of_ble_eq_true rfl, by rw [hR]; exact Nat.le_of_ble_eq_true rfl⟩ (pc := 102) (by decide +kernel) hs (rest := [.ref q, .ref wt]) (by show 2 ≤ 8; omega) (by rw [hR]; show n + 1 + 1 + 0 ≤ 3; omega) (by rw [hR]; show k + 2 + 32 + 0 ≤ 1661; omega) rfl (fun v M3 hv => ?_)
      obtain ⟨rfl, eM3⟩ := hv
      have hM3 : M3.2 q = .inr (5, [.int z, .ref r]) := by rw [eM3]; exact va_up_self _ _ _
      have hH2 : ty_H tys pKT σ2 M3 := by rw [eM3]; exact ty_H_set q2 hq2 rfl okE
      have hrq : r ≠ q := fun e => by rw [e, hq2] at hr8; cases hr8
      have hH3 : ty_H tys pKT (ty_new σ2 q 9) M3 := ty_rek (by decide +kernel) hq2 hH2 (show pKT[9]? = some (0, 5, [ty_f, (2, 8, 0)]) from rfl) (by rw [hM3]; exact okW ((if_neg hrq).trans hr8))
      have hF3 : ty_FM [(8, 0), (26, 0), (26, 1)] [8, 9] (ty_new σ q 26) (mh_new M q (.inr (5, [.int 0, .null]))) σ2 M3 := by
        rw [eM3]
        refine (ty_FMw (by decide) (by decide) q1).tr (ty_F_set hq2 (fun i hi => ?_))
        rw [hatq.2]
        match i, hi with
        | 0, hi => exact absurd (by decide) hi
        | 1, hi => exact absurd (by decide) hi
        | i + 2, _ => rfl
      have hF4 := ty_rekF (k' := 9) hH hq hF3 (by decide)
      have hI4 := hG.2.1 _ _ _ _ (hF4.mono (fun k i hi hm => by
        have : ∀ q ∈ pPS, q ∉ [(8, 0), (26, 0), (26, 1)] := by decide
        exact this _ hi hm) (fun k hk i hi => by
        have : ∀ q ∈ pPS, q.1 ∉ [8, 9] := by decide
        exact this _ hi hk)) hI
      have hwt4 := hF4.kinds wt 2 hwt
      have hm4 := hF4.kinds m 0 hm
      have hq4 : ty_new σ2 q 9 q = some 9 := if_pos rfl
      refine (gR_cV (idx := 261) hx hl hD (mt_X2_add (e := e) (t := t) (c := c) (N := N) (Ψ := Ψ) ⟨hL.1, hL.2.1, fun _ _ h => h, hL.2.2.2⟩ hc hN) rfl (ci := 4) (T := TX2) (N := 2) rfl rfl (kw_at 325 (by decide +kernel)) (kw_at 4 (by decide +kernel)) (Or.inr ⟨"KnowDisk", (kw_at 322 (by decide +kernel))⟩) (kw_at 324 (by decide +kernel)) (kw_sl 23 (by decide +kernel)) (by decide +kernel) ⟨by rw [hR]; exact Nat.le_of_ble_eq_true rfl, by rw [hR]; exact Nat.le_of_ble_eq_true rfl⟩) 105 ls (.invokevirtual 261) [.ref wt, .ref q] [] _ _ _ _ (by decide +kernel) (Or.inl ⟨261, rfl, rfl⟩) hs ⟨⟨wt, rfl, hwt4⟩, ⟨q, rfl, hq4⟩, trivial⟩ hH3 hI4 (Nat.zero_le 8) (by rw [hR]; show n + 1 + 1 + 0 + aC c N ≤ 3; omega) (by rw [hR]; show k + 2 + 32 + 0 + aS c N ≤ 1661; omega) (fun v M5 σ5 s1 s2 s3 s4 s5 => ?_)
      have s4 : v = none := s4
      subst s4
      have s1 : ty_FM [(2, 1), (4, 0), (4, 1), (4, 2), (10, 0)] [10] (ty_new σ2 q 9) M3 σ5 M5 := s1
      have hF5 := hF.tr ((ty_FMw (m2 := ct_X4_letHeadWait.2.2.1) (n2 := ct_X4_letHeadWait.2.2.2.1) (by decide +kernel) (by decide +kernel) hF4).tr (ty_FMw (by decide +kernel) (by decide +kernel) s1))
      have hm5 := s1.kinds m 0 hm4
      show gG x vwCl 108 ls [] M5 (n + 1 + 1 + 0 + aC c N) (k + 2 + 32 + 0 + aS c N)
      refine hr 108 ls .return_ none M5 _ _ (by decide +kernel) ⟨rfl, rfl⟩ (hp none M5 σ5 hF5 s2 (pJ_mono (fun c' N' h => by rw [h.1, h.2]; exact ⟨by omega, b2⟩) (fun _ _ h => h) s3) rfl trivial) (by show n + 1 + 1 + 0 + aC c N ≤ 3; omega) (by show k + 2 + 32 + 0 + aS c N ≤ 1661; omega)
    rw [hn, hk] at hgo
    exact hgo
  have J0 := ty_seg E [] _ (pcons J89 pnil) [] 60 (0, ty_L0 0 ct_X4_letHeadWait.1, [], 0, 0) (by decide +kernel) (by decide +kernel)
  exact ty_enter (J0 0) (by decide +kernel) hav hH0 hI0 hls
