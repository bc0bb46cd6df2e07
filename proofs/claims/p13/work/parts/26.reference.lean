def pr_X5_number : List (Nat × Instr × Nat) := [(0, .aload_n 0, 1), (1, .iload_n 1, 1), (2, .iaload, 1), (3, .bipush 24, 2), (5, .ishl, 1), (6, .aload_n 0, 1), (7, .iload_n 1, 1), (8, .iconst 1, 1), (9, .iadd, 1), (10, .iaload, 1), (11, .bipush 16, 2), (13, .ishl, 1), (14, .ior, 1), (15, .aload_n 0, 1), (16, .iload_n 1, 1), (17, .iconst 2, 1), (18, .iadd, 1), (19, .iaload, 1), (20, .bipush 8, 2), (22, .ishl, 1), (23, .ior, 1), (24, .aload_n 0, 1), (25, .iload_n 1, 1), (26, .iconst 3, 1), (27, .iadd, 1), (28, .iaload, 1), (29, .ior, 1), (30, .ireturn, 1)]
theorem pd_X5_number : ∀ q ∈ pr_X5_number, decode cX5_number q.1 = .ok (q.2.1, q.2.2) := by decide +kernel
def ct_X5_number_d : ty_C := ([(2, 13, 0), (0, 0, 2044)], some ty_f, [], [], 0, 0, ty_i0)
set_option maxRecDepth 100000 in
set_option maxHeartbeats 4000000 in
theorem mt_X5_number_d {l : Launch} {D : va_G} {tys : List (ClassId × FieldType)} {INV : ty_K → mh_M → Prop} (hG : pG tys INV) : ty_Met l D vwCl tys pKT INV INV pPG yX5_number cX5_number 2 (some .int) 0 0 ct_X5_number_d :=
  ty_of (by decide +kernel) (by decide +kernel) (by decide +kernel) (ty_by (fT := []) (pT := []) (cT := []) (kT := []) (lT := []) (nT := []) (prog := pr_X5_number) [] [] 400 hG.1 hG.2.1 pPG_s hG.2.2.1 hG.2.2.2 pd_X5_number rfl (by decide +kernel)
    (fun x hx hl hnm hR hD => ⟨pnil, pnil, pnil, pnil, pnil, pnil⟩)
    (fun x hx => pNA hG.1 hx) (by decide +kernel) (by decide +kernel))
def ct_X5_number_l : ty_C := ([(2, 14, 0), (0, 0, 2044)], some ty_f, [], [], 0, 0, ty_i0)
set_option maxRecDepth 100000 in
set_option maxHeartbeats 4000000 in
theorem mt_X5_number_l {l : Launch} {D : va_G} {tys : List (ClassId × FieldType)} {INV : ty_K → mh_M → Prop} (hG : pG tys INV) : ty_Met l D vwCl tys pKT INV INV pPG yX5_number cX5_number 2 (some .int) 0 0 ct_X5_number_l :=
  ty_of (by decide +kernel) (by decide +kernel) (by decide +kernel) (ty_by (fT := []) (pT := []) (cT := []) (kT := []) (lT := []) (nT := []) (prog := pr_X5_number) [] [] 400 hG.1 hG.2.1 pPG_s hG.2.2.1 hG.2.2.2 pd_X5_number rfl (by decide +kernel)
    (fun x hx hl hnm hR hD => ⟨pnil, pnil, pnil, pnil, pnil, pnil⟩)
    (fun x hx => pNA hG.1 hx) (by decide +kernel) (by decide +kernel))
def ct_X5_number_o : ty_C := ([(2, 15, 0), (0, 0, 2044)], some ty_f, [], [], 0, 0, ty_i0)
set_option maxRecDepth 100000 in
set_option maxHeartbeats 4000000 in
theorem mt_X5_number_o {l : Launch} {D : va_G} {tys : List (ClassId × FieldType)} {INV : ty_K → mh_M → Prop} (hG : pG tys INV) : ty_Met l D vwCl tys pKT INV INV pPG yX5_number cX5_number 2 (some .int) 0 0 ct_X5_number_o :=
  ty_of (by decide +kernel) (by decide +kernel) (by decide +kernel) (ty_by (fT := []) (pT := []) (cT := []) (kT := []) (lT := []) (nT := []) (prog := pr_X5_number) [] [] 400 hG.1 hG.2.1 pPG_s hG.2.2.1 hG.2.2.2 pd_X5_number rfl (by decide +kernel)
    (fun x hx hl hnm hR hD => ⟨pnil, pnil, pnil, pnil, pnil, pnil⟩)
    (fun x hx => pNA hG.1 hx) (by decide +kernel) (by decide +kernel))
def ct_X5_number_h : ty_C := ([(2, 24, 0), (0, 0, 28)], some ty_f, [], [], 0, 0, ty_i0)
set_option maxRecDepth 100000 in
set_option maxHeartbeats 4000000 in
theorem mt_X5_number_h {l : Launch} {D : va_G} {tys : List (ClassId × FieldType)} {INV : ty_K → mh_M → Prop} (hG : pG tys INV) : ty_Met l D vwCl tys pKT INV INV pPG yX5_number cX5_number 2 (some .int) 0 0 ct_X5_number_h :=
  ty_of (by decide +kernel) (by decide +kernel) (by decide +kernel) (ty_by (fT := []) (pT := []) (cT := []) (kT := []) (lT := []) (nT := []) (prog := pr_X5_number) [] [] 400 hG.1 hG.2.1 pPG_s hG.2.2.1 hG.2.2.2 pd_X5_number rfl (by decide +kernel)
    (fun x hx hl hnm hR hD => ⟨pnil, pnil, pnil, pnil, pnil, pnil⟩)
    (fun x hx => pNA hG.1 hx) (by decide +kernel) (by decide +kernel))
def pr_X5_set : List (Nat × Instr × Nat) := [(0, .iconst 0, 1), (1, .istore_n 3, 1), (2, .iload_n 3, 1), (3, .iconst 4, 1), (4, .if_icmp .ge 27, 3), (7, .aload_n 0, 1), (8, .iload_n 1, 1), (9, .iload_n 3, 1), (10, .iadd, 1), (11, .iload_n 2, 1), (12, .bipush 24, 2), (14, .bipush 8, 2), (16, .iload_n 3, 1), (17, .imul, 1), (18, .isub, 1), (19, .ishr, 1), (20, .sipush 255, 3), (23, .iand, 1), (24, .iastore, 1), (25, .iinc 3 1, 3), (28, .goto (-26), 3), (31, .return_, 1)]
theorem pd_X5_set : ∀ q ∈ pr_X5_set, decode cX5_set q.1 = .ok (q.2.1, q.2.2) := by decide +kernel
def ct_X5_set_o : ty_C := ([(2, 15, 0), (0, 0, 2044), ty_f], none, [(15, 0)], [], 0, 0, ty_i0)
set_option maxRecDepth 100000 in
set_option maxHeartbeats 4000000 in
theorem mt_X5_set_o {l : Launch} {D : va_G} {tys : List (ClassId × FieldType)} {INV : ty_K → mh_M → Prop} (hG : pG tys INV) : ty_Met l D vwCl tys pKT INV INV pPG yX5_set cX5_set 4 none 0 0 ct_X5_set_o :=
  ty_of (by decide +kernel) (by decide +kernel) (by decide +kernel) (ty_by (fT := []) (pT := []) (cT := []) (kT := []) (lT := []) (nT := []) (prog := pr_X5_set) [] [(2, [(0, (2, 15, 0)), (1, (0, 0, 2044)), (2, ty_f), (3, (0, 0, 4))], 3, 4, 0, 0)] 400 hG.1 hG.2.1 pPG_s hG.2.2.1 hG.2.2.2 pd_X5_set rfl (by decide +kernel)
    (fun x hx hl hnm hR hD => ⟨pnil, pnil, pnil, pnil, pnil, pnil⟩)
    (fun x hx => pNA hG.1 hx) (by decide +kernel) (by decide +kernel))
def ct_X5_set_h : ty_C := ([(2, 24, 0), (0, 0, 12), ty_f], none, [(24, 0)], [], 0, 0, ty_i0)
set_option maxRecDepth 100000 in
set_option maxHeartbeats 4000000 in
theorem mt_X5_set_h {l : Launch} {D : va_G} {tys : List (ClassId × FieldType)} {INV : ty_K → mh_M → Prop} (hG : pG tys INV) : ty_Met l D vwCl tys pKT INV INV pPG yX5_set cX5_set 4 none 0 0 ct_X5_set_h :=
  ty_of (by decide +kernel) (by decide +kernel) (by decide +kernel) (ty_by (fT := []) (pT := []) (cT := []) (kT := []) (lT := []) (nT := []) (prog := pr_X5_set) [] [(2, [(0, (2, 24, 0)), (1, (0, 0, 12)), (2, ty_f), (3, (0, 0, 4))], 3, 4, 0, 0)] 400 hG.1 hG.2.1 pPG_s hG.2.2.1 hG.2.2.2 pd_X5_set rfl (by decide +kernel)
    (fun x hx hl hnm hR hD => ⟨pnil, pnil, pnil, pnil, pnil, pnil⟩)
    (fun x hx => pNA hG.1 hx) (by decide +kernel) (by decide +kernel))
def ct_X5_set_g : ty_C := ([(2, 24, 0), (0, 20, 20), ty_f], none, [(24, 0)], [], 0, 0, ty_i0)
set_option maxRecDepth 100000 in
set_option maxHeartbeats 4000000 in
theorem mt_X5_set_g {l : Launch} {D : va_G} {tys : List (ClassId × FieldType)} {INV : ty_K → mh_M → Prop} (hG : pG tys INV) : ty_Met l D vwCl tys pKT INV INV pPG yX5_set cX5_set 4 none 0 0 ct_X5_set_g :=
  ty_of (by decide +kernel) (by decide +kernel) (by decide +kernel) (ty_by (fT := []) (pT := []) (cT := []) (kT := []) (lT := []) (nT := []) (prog := pr_X5_set) [] [(2, [(0, (2, 24, 0)), (1, (0, 20, 20)), (2, ty_f), (3, (0, 0, 4))], 3, 4, 0, 0)] 400 hG.1 hG.2.1 pPG_s hG.2.2.1 hG.2.2.2 pd_X5_set rfl (by decide +kernel)
    (fun x hx hl hnm hR hD => ⟨pnil, pnil, pnil, pnil, pnil, pnil⟩)
    (fun x hx => pNA hG.1 hx) (by decide +kernel) (by decide +kernel))
def ct_X5_set_n : ty_C := ([(2, 24, 0), (0, 16, 16), (0, 0, 1000000)], none, [(24, 0)], [], 0, 0, ty_i0)
set_option maxRecDepth 100000 in
set_option maxHeartbeats 4000000 in
theorem mt_X5_set_n {l : Launch} {D : va_G} {tys : List (ClassId × FieldType)} {INV : ty_K → mh_M → Prop} (hG : pG tys INV) : ty_Met l D vwCl tys pKT INV INV pPG yX5_set cX5_set 4 none 0 0 ct_X5_set_n :=
  ty_of (by decide +kernel) (by decide +kernel) (by decide +kernel) (ty_by (fT := []) (pT := []) (cT := []) (kT := []) (lT := []) (nT := []) (prog := pr_X5_set) [] [] 400 hG.1 hG.2.1 pPG_s hG.2.2.1 hG.2.2.2 pd_X5_set rfl (by decide +kernel)
    (fun x hx hl hnm hR hD => ⟨pnil, pnil, pnil, pnil, pnil, pnil⟩)
    (fun x hx => pNA hG.1 hx) (by decide +kernel) (by decide +kernel))
def pr_X5_sum : List (Nat × Instr × Nat) := [(0, .iconst 0, 1), (1, .istore_n 2, 1), (2, .iconst 4, 1), (3, .istore_n 3, 1), (4, .iload_n 3, 1), (5, .bipush 32, 2), (7, .if_icmp .ge 36, 3), (10, .iload_n 2, 1), (11, .aload_n 0, 1), (12, .bipush 32, 2), (14, .iload_n 1, 1), (15, .imul, 1), (16, .iload_n 3, 1), (17, .iadd, 1), (18, .iaload, 1), (19, .ixor, 1), (20, .istore 4, 2), (22, .iload 4, 2), (24, .bipush 11, 2), (26, .ishl, 1), (27, .iload 4, 2), (29, .bipush 21, 2), (31, .iushr, 1), (32, .ior, 1), (33, .ldc 79, 2), (35, .imul, 1), (36, .istore_n 2, 1), (37, .iinc 3 1, 3), (40, .goto (-36), 3), (43, .iload_n 2, 1), (44, .ireturn, 1)]
theorem pd_X5_sum : ∀ q ∈ pr_X5_sum, decode cX5_sum q.1 = .ok (q.2.1, q.2.2) := by decide +kernel
def ct_X5_sum_d : ty_C := ([(2, 13, 0), (0, 0, 63)], some ty_f, [], [], 0, 0, ty_i0)
set_option maxRecDepth 100000 in
set_option maxHeartbeats 4000000 in
theorem mt_X5_sum_d {l : Launch} {D : va_G} {tys : List (ClassId × FieldType)} {INV : ty_K → mh_M → Prop} (hG : pG tys INV) : ty_Met l D vwCl tys pKT INV INV pPG yX5_sum cX5_sum 5 (some .int) 0 0 ct_X5_sum_d :=
  ty_of (by decide +kernel) (by decide +kernel) (by decide +kernel) (ty_by (fT := []) (pT := []) (cT := []) (kT := [(79, -2048144777)]) (lT := []) (nT := []) (prog := pr_X5_sum) [] [(4, [(0, (2, 13, 0)), (1, (0, 0, 63)), (2, ty_f), (3, (0, 4, 32))], 3, 32, 0, 0)] 400 hG.1 hG.2.1 pPG_s hG.2.2.1 hG.2.2.2 pd_X5_sum rfl (by decide +kernel)
    (fun x hx hl hnm hR hD => ⟨pnil, pnil, pnil, (pcons (gR_ldcP hx (kw_at 737 (by decide +kernel))) pnil), pnil, pnil⟩)
    (fun x hx => pNA hG.1 hx) (by decide +kernel) (by decide +kernel))
def ct_X5_sum_l : ty_C := ([(2, 14, 0), (0, 0, 63)], some ty_f, [], [], 0, 0, ty_i0)
set_option maxRecDepth 100000 in
set_option maxHeartbeats 4000000 in
theorem mt_X5_sum_l {l : Launch} {D : va_G} {tys : List (ClassId × FieldType)} {INV : ty_K → mh_M → Prop} (hG : pG tys INV) : ty_Met l D vwCl tys pKT INV INV pPG yX5_sum cX5_sum 5 (some .int) 0 0 ct_X5_sum_l :=
  ty_of (by decide +kernel) (by decide +kernel) (by decide +kernel) (ty_by (fT := []) (pT := []) (cT := []) (kT := [(79, -2048144777)]) (lT := []) (nT := []) (prog := pr_X5_sum) [] [(4, [(0, (2, 14, 0)), (1, (0, 0, 63)), (2, ty_f), (3, (0, 4, 32))], 3, 32, 0, 0)] 400 hG.1 hG.2.1 pPG_s hG.2.2.1 hG.2.2.2 pd_X5_sum rfl (by decide +kernel)
    (fun x hx hl hnm hR hD => ⟨pnil, pnil, pnil, (pcons (gR_ldcP hx (kw_at 737 (by decide +kernel))) pnil), pnil, pnil⟩)
    (fun x hx => pNA hG.1 hx) (by decide +kernel) (by decide +kernel))
def ct_X5_sum_o : ty_C := ([(2, 15, 0), (0, 0, 63)], some ty_f, [], [], 0, 0, ty_i0)
set_option maxRecDepth 100000 in
set_option maxHeartbeats 4000000 in
theorem mt_X5_sum_o {l : Launch} {D : va_G} {tys : List (ClassId × FieldType)} {INV : ty_K → mh_M → Prop} (hG : pG tys INV) : ty_Met l D vwCl tys pKT INV INV pPG yX5_sum cX5_sum 5 (some .int) 0 0 ct_X5_sum_o :=
  ty_of (by decide +kernel) (by decide +kernel) (by decide +kernel) (ty_by (fT := []) (pT := []) (cT := []) (kT := [(79, -2048144777)]) (lT := []) (nT := []) (prog := pr_X5_sum) [] [(4, [(0, (2, 15, 0)), (1, (0, 0, 63)), (2, ty_f), (3, (0, 4, 32))], 3, 32, 0, 0)] 400 hG.1 hG.2.1 pPG_s hG.2.2.1 hG.2.2.2 pd_X5_sum rfl (by decide +kernel)
    (fun x hx hl hnm hR hD => ⟨pnil, pnil, pnil, (pcons (gR_ldcP hx (kw_at 737 (by decide +kernel))) pnil), pnil, pnil⟩)
    (fun x hx => pNA hG.1 hx) (by decide +kernel) (by decide +kernel))
def ct_X5_sum_h : ty_C := ([(2, 24, 0), (0, 0, 0)], some ty_f, [], [], 0, 0, ty_i0)
set_option maxRecDepth 100000 in
set_option maxHeartbeats 4000000 in
theorem mt_X5_sum_h {l : Launch} {D : va_G} {tys : List (ClassId × FieldType)} {INV : ty_K → mh_M → Prop} (hG : pG tys INV) : ty_Met l D vwCl tys pKT INV INV pPG yX5_sum cX5_sum 5 (some .int) 0 0 ct_X5_sum_h :=
  ty_of (by decide +kernel) (by decide +kernel) (by decide +kernel) (ty_by (fT := []) (pT := []) (cT := []) (kT := [(79, -2048144777)]) (lT := []) (nT := []) (prog := pr_X5_sum) [] [(4, [(0, (2, 24, 0)), (1, (0, 0, 0)), (2, ty_f), (3, (0, 4, 32))], 3, 32, 0, 0)] 400 hG.1 hG.2.1 pPG_s hG.2.2.1 hG.2.2.2 pd_X5_sum rfl (by decide +kernel)
    (fun x hx hl hnm hR hD => ⟨pnil, pnil, pnil, (pcons (gR_ldcP hx (kw_at 737 (by decide +kernel))) pnil), pnil, pnil⟩)
    (fun x hx => pNA hG.1 hx) (by decide +kernel) (by decide +kernel))
def pr_X5_close : List (Nat × Instr × Nat) := [(0, .aload_n 0, 1), (1, .bipush 32, 2), (3, .iload_n 1, 1), (4, .imul, 1), (5, .aload_n 0, 1), (6, .iload_n 1, 1), (7, .invokestatic 80, 3), (10, .invokestatic 84, 3), (13, .return_, 1)]
theorem pd_X5_close : ∀ q ∈ pr_X5_close, decode cX5_close q.1 = .ok (q.2.1, q.2.2) := by decide +kernel
def ct_X5_close_o : ty_C := ([(2, 15, 0), (0, 0, 63)], none, [(15, 0)], [], 0, 0, ty_i0)
set_option maxRecDepth 100000 in
set_option maxHeartbeats 4000000 in
theorem mt_X5_close_o {l : Launch} {D : va_G} {tys : List (ClassId × FieldType)} {INV : ty_K → mh_M → Prop} (hG : pG tys INV) : ty_Met l D vwCl tys pKT INV INV pPG yX5_close cX5_close 2 none 1 24 ct_X5_close_o :=
  ty_of (by decide +kernel) (by decide +kernel) (by decide +kernel) (ty_by (fT := []) (pT := []) (cT := [(241, ct_X5_sum_o), (253, ct_X5_set_o)]) (kT := []) (lT := []) (nT := []) (prog := pr_X5_close) [] [] 400 hG.1 hG.2.1 pPG_s hG.2.2.1 hG.2.2.2 pd_X5_close rfl (by decide +kernel)
    (fun x hx hl hnm hR hD => ⟨pnil, pnil, (pcons (gR_cS (idx := 80) hx hl hD (mt_X5_sum_o hG) (kw_at 736 (by decide +kernel)) (kw_at 10 (by decide +kernel)) (Or.inl (kw_at 734 (by decide +kernel))) (kw_at 735 (by decide +kernel)) (by decide +kernel) ⟨by rw [hR]; decide, by rw [hR]; decide⟩) (pcons (gR_cS (idx := 84) hx hl hD (mt_X5_set_o hG) (kw_at 730 (by decide +kernel)) (kw_at 10 (by decide +kernel)) (Or.inl (kw_at 728 (by decide +kernel))) (kw_at 729 (by decide +kernel)) (by decide +kernel) ⟨by rw [hR]; decide, by rw [hR]; decide⟩) pnil)), pnil, pnil, pnil⟩)
    (fun x hx => pNA hG.1 hx) (by decide +kernel) (by decide +kernel))
def ct_X5_close_h : ty_C := ([(2, 24, 0), (0, 0, 0)], none, [(24, 0)], [], 0, 0, ty_i0)
set_option maxRecDepth 100000 in
set_option maxHeartbeats 4000000 in
theorem mt_X5_close_h {l : Launch} {D : va_G} {tys : List (ClassId × FieldType)} {INV : ty_K → mh_M → Prop} (hG : pG tys INV) : ty_Met l D vwCl tys pKT INV INV pPG yX5_close cX5_close 2 none 1 24 ct_X5_close_h :=
  ty_of (by decide +kernel) (by decide +kernel) (by decide +kernel) (ty_by (fT := []) (pT := []) (cT := [(241, ct_X5_sum_h), (253, ct_X5_set_h)]) (kT := []) (lT := []) (nT := []) (prog := pr_X5_close) [] [] 400 hG.1 hG.2.1 pPG_s hG.2.2.1 hG.2.2.2 pd_X5_close rfl (by decide +kernel)
    (fun x hx hl hnm hR hD => ⟨pnil, pnil, (pcons (gR_cS (idx := 80) hx hl hD (mt_X5_sum_h hG) (kw_at 736 (by decide +kernel)) (kw_at 10 (by decide +kernel)) (Or.inl (kw_at 734 (by decide +kernel))) (kw_at 735 (by decide +kernel)) (by decide +kernel) ⟨by rw [hR]; decide, by rw [hR]; decide⟩) (pcons (gR_cS (idx := 84) hx hl hD (mt_X5_set_h hG) (kw_at 730 (by decide +kernel)) (kw_at 10 (by decide +kernel)) (Or.inl (kw_at 728 (by decide +kernel))) (kw_at 729 (by decide +kernel)) (by decide +kernel) ⟨by rw [hR]; decide, by rw [hR]; decide⟩) pnil)), pnil, pnil, pnil⟩)
    (fun x hx => pNA hG.1 hx) (by decide +kernel) (by decide +kernel))
def pr_X5_isRight : List (Nat × Instr × Nat) := [(0, .aload_n 0, 1), (1, .bipush 32, 2), (3, .iload_n 1, 1), (4, .imul, 1), (5, .invokestatic 88, 3), (8, .aload_n 0, 1), (9, .iload_n 1, 1), (10, .invokestatic 80, 3), (13, .if_icmp .ne 7, 3), (16, .iconst 1, 1), (17, .goto 4, 3), (20, .iconst 0, 1), (21, .ireturn, 1)]
theorem pd_X5_isRight : ∀ q ∈ pr_X5_isRight, decode cX5_isRight q.1 = .ok (q.2.1, q.2.2) := by decide +kernel
def ct_X5_isRight_d : ty_C := ([(2, 13, 0), (0, 0, 63)], some pB, [], [], 0, 0, ty_i0)
set_option maxRecDepth 100000 in
set_option maxHeartbeats 4000000 in
theorem mt_X5_isRight_d {l : Launch} {D : va_G} {tys : List (ClassId × FieldType)} {INV : ty_K → mh_M → Prop} (hG : pG tys INV) : ty_Met l D vwCl tys pKT INV INV pPG yX5_isRight cX5_isRight 2 (some .boolean) 1 24 ct_X5_isRight_d :=
  ty_of (by decide +kernel) (by decide +kernel) (by decide +kernel) (ty_by (fT := []) (pT := []) (cT := [(265, ct_X5_number_d), (241, ct_X5_sum_d)]) (kT := []) (lT := []) (nT := []) (prog := pr_X5_isRight) [] [] 400 hG.1 hG.2.1 pPG_s hG.2.2.1 hG.2.2.2 pd_X5_isRight rfl (by decide +kernel)
    (fun x hx hl hnm hR hD => ⟨pnil, pnil, (pcons (gR_cS (idx := 88) hx hl hD (mt_X5_number_d hG) (kw_at 699 (by decide +kernel)) (kw_at 10 (by decide +kernel)) (Or.inl (kw_at 697 (by decide +kernel))) (kw_at 698 (by decide +kernel)) (by decide +kernel) ⟨by rw [hR]; decide, by rw [hR]; decide⟩) (pcons (gR_cS (idx := 80) hx hl hD (mt_X5_sum_d hG) (kw_at 736 (by decide +kernel)) (kw_at 10 (by decide +kernel)) (Or.inl (kw_at 734 (by decide +kernel))) (kw_at 735 (by decide +kernel)) (by decide +kernel) ⟨by rw [hR]; decide, by rw [hR]; decide⟩) pnil)), pnil, pnil, pnil⟩)
    (fun x hx => pNA hG.1 hx) (by decide +kernel) (by decide +kernel))
def ct_X5_isRight_l : ty_C := ([(2, 14, 0), (0, 0, 63)], some pB, [], [], 0, 0, ty_i0)
set_option maxRecDepth 100000 in
set_option maxHeartbeats 4000000 in
theorem mt_X5_isRight_l {l : Launch} {D : va_G} {tys : List (ClassId × FieldType)} {INV : ty_K → mh_M → Prop} (hG : pG tys INV) : ty_Met l D vwCl tys pKT INV INV pPG yX5_isRight cX5_isRight 2 (some .boolean) 1 24 ct_X5_isRight_l :=
  ty_of (by decide +kernel) (by decide +kernel) (by decide +kernel) (ty_by (fT := []) (pT := []) (cT := [(265, ct_X5_number_l), (241, ct_X5_sum_l)]) (kT := []) (lT := []) (nT := []) (prog := pr_X5_isRight) [] [] 400 hG.1 hG.2.1 pPG_s hG.2.2.1 hG.2.2.2 pd_X5_isRight rfl (by decide +kernel)
    (fun x hx hl hnm hR hD => ⟨pnil, pnil, (pcons (gR_cS (idx := 88) hx hl hD (mt_X5_number_l hG) (kw_at 699 (by decide +kernel)) (kw_at 10 (by decide +kernel)) (Or.inl (kw_at 697 (by decide +kernel))) (kw_at 698 (by decide +kernel)) (by decide +kernel) ⟨by rw [hR]; decide, by rw [hR]; decide⟩) (pcons (gR_cS (idx := 80) hx hl hD (mt_X5_sum_l hG) (kw_at 736 (by decide +kernel)) (kw_at 10 (by decide +kernel)) (Or.inl (kw_at 734 (by decide +kernel))) (kw_at 735 (by decide +kernel)) (by decide +kernel) ⟨by rw [hR]; decide, by rw [hR]; decide⟩) pnil)), pnil, pnil, pnil⟩)
    (fun x hx => pNA hG.1 hx) (by decide +kernel) (by decide +kernel))
def pr_X5_wide : List (Nat × Instr × Nat) := [(0, .aload_n 0, 1), (1, .iload_n 1, 1), (2, .invokestatic 88, 3), (5, .i2l, 1), (6, .bipush 32, 2), (8, .lshl, 1), (9, .aload_n 0, 1), (10, .iload_n 1, 1), (11, .iconst 4, 1), (12, .iadd, 1), (13, .invokestatic 88, 3), (16, .i2l, 1), (17, .ldc2_w 91, 3), (20, .land, 1), (21, .lor, 1), (22, .lreturn, 1)]
theorem pd_X5_wide : ∀ q ∈ pr_X5_wide, decode cX5_wide q.1 = .ok (q.2.1, q.2.2) := by decide +kernel
def ct_X5_wide_d : ty_C := ([(2, 13, 0), (0, 0, 2040)], some (1, 0, 0), [], [], 0, 0, ty_i0)
set_option maxRecDepth 100000 in
set_option maxHeartbeats 4000000 in
theorem mt_X5_wide_d {l : Launch} {D : va_G} {tys : List (ClassId × FieldType)} {INV : ty_K → mh_M → Prop} (hG : pG tys INV) : ty_Met l D vwCl tys pKT INV INV pPG yX5_wide cX5_wide 2 (some .long) 1 21 ct_X5_wide_d :=
  ty_of (by decide +kernel) (by decide +kernel) (by decide +kernel) (ty_by (fT := []) (pT := []) (cT := [(265, ct_X5_number_d)]) (kT := []) (lT := [91]) (nT := []) (prog := pr_X5_wide) [] [] 400 hG.1 hG.2.1 pPG_s hG.2.2.1 hG.2.2.2 pd_X5_wide rfl (by decide +kernel)
    (fun x hx hl hnm hR hD => ⟨pnil, pnil, (pcons (gR_cS (idx := 88) hx hl hD (mt_X5_number_d hG) (kw_at 699 (by decide +kernel)) (kw_at 10 (by decide +kernel)) (Or.inl (kw_at 697 (by decide +kernel))) (kw_at 698 (by decide +kernel)) (by decide +kernel) ⟨by rw [hR]; decide, by rw [hR]; decide⟩) pnil), pnil, (pcons (gR_ldlP hx (v := 4294967295) (kw_at 700 (by decide +kernel))) pnil), pnil⟩)
    (fun x hx => pNA hG.1 hx) (by decide +kernel) (by decide +kernel))
def ct_X5_wide_l : ty_C := ([(2, 14, 0), (0, 0, 2040)], some (1, 0, 0), [], [], 0, 0, ty_i0)
set_option maxRecDepth 100000 in
set_option maxHeartbeats 4000000 in
theorem mt_X5_wide_l {l : Launch} {D : va_G} {tys : List (ClassId × FieldType)} {INV : ty_K → mh_M → Prop} (hG : pG tys INV) : ty_Met l D vwCl tys pKT INV INV pPG yX5_wide cX5_wide 2 (some .long) 1 21 ct_X5_wide_l :=
  ty_of (by decide +kernel) (by decide +kernel) (by decide +kernel) (ty_by (fT := []) (pT := []) (cT := [(265, ct_X5_number_l)]) (kT := []) (lT := [91]) (nT := []) (prog := pr_X5_wide) [] [] 400 hG.1 hG.2.1 pPG_s hG.2.2.1 hG.2.2.2 pd_X5_wide rfl (by decide +kernel)
    (fun x hx hl hnm hR hD => ⟨pnil, pnil, (pcons (gR_cS (idx := 88) hx hl hD (mt_X5_number_l hG) (kw_at 699 (by decide +kernel)) (kw_at 10 (by decide +kernel)) (Or.inl (kw_at 697 (by decide +kernel))) (kw_at 698 (by decide +kernel)) (by decide +kernel) ⟨by rw [hR]; decide, by rw [hR]; decide⟩) pnil), pnil, (pcons (gR_ldlP hx (v := 4294967295) (kw_at 700 (by decide +kernel))) pnil), pnil⟩)
    (fun x hx => pNA hG.1 hx) (by decide +kernel) (by decide +kernel))
def ct_X5_wide_o : ty_C := ([(2, 15, 0), (0, 0, 2040)], some (1, 0, 0), [], [], 0, 0, ty_i0)
set_option maxRecDepth 100000 in
set_option maxHeartbeats 4000000 in
theorem mt_X5_wide_o {l : Launch} {D : va_G} {tys : List (ClassId × FieldType)} {INV : ty_K → mh_M → Prop} (hG : pG tys INV) : ty_Met l D vwCl tys pKT INV INV pPG yX5_wide cX5_wide 2 (some .long) 1 21 ct_X5_wide_o :=
  ty_of (by decide +kernel) (by decide +kernel) (by decide +kernel) (ty_by (fT := []) (pT := []) (cT := [(265, ct_X5_number_o)]) (kT := []) (lT := [91]) (nT := []) (prog := pr_X5_wide) [] [] 400 hG.1 hG.2.1 pPG_s hG.2.2.1 hG.2.2.2 pd_X5_wide rfl (by decide +kernel)
    (fun x hx hl hnm hR hD => ⟨pnil, pnil, (pcons (gR_cS (idx := 88) hx hl hD (mt_X5_number_o hG) (kw_at 699 (by decide +kernel)) (kw_at 10 (by decide +kernel)) (Or.inl (kw_at 697 (by decide +kernel))) (kw_at 698 (by decide +kernel)) (by decide +kernel) ⟨by rw [hR]; decide, by rw [hR]; decide⟩) pnil), pnil, (pcons (gR_ldlP hx (v := 4294967295) (kw_at 700 (by decide +kernel))) pnil), pnil⟩)
    (fun x hx => pNA hG.1 hx) (by decide +kernel) (by decide +kernel))
def pr_X5_setWide : List (Nat × Instr × Nat) := [(0, .aload_n 0, 1), (1, .iload_n 1, 1), (2, .lload_n 2, 1), (3, .bipush 32, 2), (5, .lshr, 1), (6, .l2i, 1), (7, .invokestatic 84, 3), (10, .aload_n 0, 1), (11, .iload_n 1, 1), (12, .iconst 4, 1), (13, .iadd, 1), (14, .lload_n 2, 1), (15, .l2i, 1), (16, .invokestatic 84, 3), (19, .return_, 1)]
theorem pd_X5_setWide : ∀ q ∈ pr_X5_setWide, decode cX5_setWide q.1 = .ok (q.2.1, q.2.2) := by decide +kernel
def ct_X5_setWide_o : ty_C := ([(2, 15, 0), (0, 0, 2040), (1, 0, 0)], none, [(15, 0)], [], 0, 0, ty_i0)
set_option maxRecDepth 100000 in
set_option maxHeartbeats 4000000 in
theorem mt_X5_setWide_o {l : Launch} {D : va_G} {tys : List (ClassId × FieldType)} {INV : ty_K → mh_M → Prop} (hG : pG tys INV) : ty_Met l D vwCl tys pKT INV INV pPG yX5_setWide cX5_setWide 4 none 1 23 ct_X5_setWide_o :=
  ty_of (by decide +kernel) (by decide +kernel) (by decide +kernel) (ty_by (fT := []) (pT := []) (cT := [(253, ct_X5_set_o)]) (kT := []) (lT := []) (nT := []) (prog := pr_X5_setWide) [] [] 400 hG.1 hG.2.1 pPG_s hG.2.2.1 hG.2.2.2 pd_X5_setWide rfl (by decide +kernel)
    (fun x hx hl hnm hR hD => ⟨pnil, pnil, (pcons (gR_cS (idx := 84) hx hl hD (mt_X5_set_o hG) (kw_at 730 (by decide +kernel)) (kw_at 10 (by decide +kernel)) (Or.inl (kw_at 728 (by decide +kernel))) (kw_at 729 (by decide +kernel)) (by decide +kernel) ⟨by rw [hR]; decide, by rw [hR]; decide⟩) pnil), pnil, pnil, pnil⟩)
    (fun x hx => pNA hG.1 hx) (by decide +kernel) (by decide +kernel))
def ct_X5_setWide_h : ty_C := ([(2, 24, 0), (0, 8, 8), (1, 0, 0)], none, [(24, 0)], [], 0, 0, ty_i0)
set_option maxRecDepth 100000 in
set_option maxHeartbeats 4000000 in
theorem mt_X5_setWide_h {l : Launch} {D : va_G} {tys : List (ClassId × FieldType)} {INV : ty_K → mh_M → Prop} (hG : pG tys INV) : ty_Met l D vwCl tys pKT INV INV pPG yX5_setWide cX5_setWide 4 none 1 23 ct_X5_setWide_h :=
  ty_of (by decide +kernel) (by decide +kernel) (by decide +kernel) (ty_by (fT := []) (pT := []) (cT := [(253, ct_X5_set_h)]) (kT := []) (lT := []) (nT := []) (prog := pr_X5_setWide) [] [] 400 hG.1 hG.2.1 pPG_s hG.2.2.1 hG.2.2.2 pd_X5_setWide rfl (by decide +kernel)
    (fun x hx hl hnm hR hD => ⟨pnil, pnil, (pcons (gR_cS (idx := 84) hx hl hD (mt_X5_set_h hG) (kw_at 730 (by decide +kernel)) (kw_at 10 (by decide +kernel)) (Or.inl (kw_at 728 (by decide +kernel))) (kw_at 729 (by decide +kernel)) (by decide +kernel) ⟨by rw [hR]; decide, by rw [hR]; decide⟩) pnil), pnil, pnil, pnil⟩)
    (fun x hx => pNA hG.1 hx) (by decide +kernel) (by decide +kernel))
def pr_X5_byteOf : List (Nat × Instr × Nat) := [(0, .aload_n 0, 1), (1, .getfield 23, 3), (4, .iload_n 1, 1), (5, .baload, 1), (6, .ifCond .eq 17, 3), (9, .aload_n 0, 1), (10, .getfield 20, 3), (13, .bipush 32, 2), (15, .iload_n 1, 1), (16, .imul, 1), (17, .iload_n 2, 1), (18, .iadd, 1), (19, .iaload, 1), (20, .goto 14, 3), (23, .aload_n 0, 1), (24, .getfield 17, 3), (27, .bipush 32, 2), (29, .iload_n 1, 1), (30, .imul, 1), (31, .iload_n 2, 1), (32, .iadd, 1), (33, .iaload, 1), (34, .ireturn, 1)]
theorem pd_X5_byteOf : ∀ q ∈ pr_X5_byteOf, decode cX5_byteOf q.1 = .ok (q.2.1, q.2.2) := by decide +kernel
def ct_X5_byteOf : ty_C := ([(2, 12, 0), (0, 0, 63), (0, 0, 31)], some (0, 0, 255), [], [], 0, 0, ty_i0)
set_option maxRecDepth 100000 in
set_option maxHeartbeats 4000000 in
theorem mt_X5_byteOf {l : Launch} {D : va_G} {tys : List (ClassId × FieldType)} {INV : ty_K → mh_M → Prop} (hG : pG tys INV) : ty_Met l D vwCl tys pKT INV INV pPG yX5_byteOf cX5_byteOf 3 (some .int) 0 0 ct_X5_byteOf :=
  ty_of (by decide +kernel) (by decide +kernel) (by decide +kernel) (ty_by (fT := [(23, 7, 6, .array .boolean), (20, 7, 5, .array .int), (17, 7, 4, .array .int)]) (pT := []) (cT := []) (kT := []) (lT := []) (nT := []) (prog := pr_X5_byteOf) [] [] 400 hG.1 hG.2.1 pPG_s hG.2.2.1 hG.2.2.2 pd_X5_byteOf rfl (by decide +kernel)
    (fun x hx hl hnm hR hD => ⟨(pcons (gR_getP hx rfl (by decide) uX5 (kw_at 607 (by decide +kernel))) (pcons (gR_getP hx rfl (by decide) uX5 (kw_at 606 (by decide +kernel))) (pcons (gR_getP hx rfl (by decide) uX5 (kw_at 605 (by decide +kernel))) pnil))), pnil, pnil, pnil, pnil, pnil⟩)
    (fun x hx => pNA hG.1 hx) (by decide +kernel) (by decide +kernel))
def pr_X5_valueOf : List (Nat × Instr × Nat) := [(0, .aload_n 0, 1), (1, .getfield 23, 3), (4, .iload_n 1, 1), (5, .baload, 1), (6, .ifCond .eq 20, 3), (9, .aload_n 0, 1), (10, .getfield 20, 3), (13, .bipush 32, 2), (15, .iload_n 1, 1), (16, .imul, 1), (17, .bipush 8, 2), (19, .iadd, 1), (20, .invokestatic 93, 3), (23, .goto 17, 3), (26, .aload_n 0, 1), (27, .getfield 17, 3), (30, .bipush 32, 2), (32, .iload_n 1, 1), (33, .imul, 1), (34, .bipush 8, 2), (36, .iadd, 1), (37, .invokestatic 93, 3), (40, .lreturn, 1)]
theorem pd_X5_valueOf : ∀ q ∈ pr_X5_valueOf, decode cX5_valueOf q.1 = .ok (q.2.1, q.2.2) := by decide +kernel
def ct_X5_valueOf : ty_C := ([(2, 12, 0), (0, 0, 63)], some (1, 0, 0), [], [], 0, 0, ty_i0)
set_option maxRecDepth 100000 in
set_option maxHeartbeats 4000000 in
theorem mt_X5_valueOf {l : Launch} {D : va_G} {tys : List (ClassId × FieldType)} {INV : ty_K → mh_M → Prop} (hG : pG tys INV) : ty_Met l D vwCl tys pKT INV INV pPG yX5_valueOf cX5_valueOf 2 (some .long) 2 42 ct_X5_valueOf :=
  ty_of (by decide +kernel) (by decide +kernel) (by decide +kernel) (ty_by (fT := [(23, 7, 6, .array .boolean), (20, 7, 5, .array .int), (17, 7, 4, .array .int)]) (pT := []) (cT := [(280, ct_X5_wide_o), (280, ct_X5_wide_l)]) (kT := []) (lT := []) (nT := []) (prog := pr_X5_valueOf) [] [] 400 hG.1 hG.2.1 pPG_s hG.2.2.1 hG.2.2.2 pd_X5_valueOf rfl (by decide +kernel)
    (fun x hx hl hnm hR hD => ⟨(pcons (gR_getP hx rfl (by decide) uX5 (kw_at 607 (by decide +kernel))) (pcons (gR_getP hx rfl (by decide) uX5 (kw_at 606 (by decide +kernel))) (pcons (gR_getP hx rfl (by decide) uX5 (kw_at 605 (by decide +kernel))) pnil))), pnil, (pcons (gR_cS (idx := 93) hx hl hD (mt_X5_wide_o hG) (kw_at 696 (by decide +kernel)) (kw_at 10 (by decide +kernel)) (Or.inl (kw_at 694 (by decide +kernel))) (kw_at 695 (by decide +kernel)) (by decide +kernel) ⟨by rw [hR]; decide, by rw [hR]; decide⟩) (pcons (gR_cS (idx := 93) hx hl hD (mt_X5_wide_l hG) (kw_at 696 (by decide +kernel)) (kw_at 10 (by decide +kernel)) (Or.inl (kw_at 694 (by decide +kernel))) (kw_at 695 (by decide +kernel)) (by decide +kernel) ⟨by rw [hR]; decide, by rw [hR]; decide⟩) pnil)), pnil, pnil, pnil⟩)
    (fun x hx => pNA hG.1 hx) (by decide +kernel) (by decide +kernel))
def pr_X5_kindOf : List (Nat × Instr × Nat) := [(0, .aload_n 0, 1), (1, .iload_n 1, 1), (2, .iconst 4, 1), (3, .invokevirtual 97, 3), (6, .istore_n 2, 1), (7, .iload_n 2, 1), (8, .bipush 127, 2), (10, .if_icmp .le 11, 3), (13, .iload_n 2, 1), (14, .sipush 256, 3), (17, .isub, 1), (18, .goto 4, 3), (21, .iload_n 2, 1), (22, .ireturn, 1)]
theorem pd_X5_kindOf : ∀ q ∈ pr_X5_kindOf, decode cX5_kindOf q.1 = .ok (q.2.1, q.2.2) := by decide +kernel
def ct_X5_kindOf : ty_C := ([(2, 12, 0), (0, 0, 63)], some ty_f, [], [], 0, 0, ty_i0)
set_option maxRecDepth 100000 in
set_option maxHeartbeats 4000000 in
theorem mt_X5_kindOf {l : Launch} {D : va_G} {tys : List (ClassId × FieldType)} {INV : ty_K → mh_M → Prop} (hG : pG tys INV) : ty_Met l D vwCl tys pKT INV INV pPG yX5_kindOf cX5_kindOf 3 (some .int) 1 22 ct_X5_kindOf :=
  ty_of (by decide +kernel) (by decide +kernel) (by decide +kernel) (ty_by (fT := []) (pT := []) (cT := [(291, ct_X5_byteOf)]) (kT := []) (lT := []) (nT := []) (prog := pr_X5_kindOf) [] [] 400 hG.1 hG.2.1 pPG_s hG.2.2.1 hG.2.2.2 pd_X5_kindOf rfl (by decide +kernel)
    (fun x hx hl hnm hR hD => ⟨pnil, pnil, (pcons (gR_cV (idx := 97) hx hl hD (mt_X5_byteOf hG) rfl (ci := 7) (T := TX5) (N := 22) rfl rfl (kw_at 685 (by decide +kernel)) (kw_at 10 (by decide +kernel)) (Or.inl (kw_at 682 (by decide +kernel))) (kw_at 684 (by decide +kernel)) (kw_sl 49 (by decide +kernel)) (by decide +kernel) ⟨by rw [hR]; decide, by rw [hR]; decide⟩) pnil), pnil, pnil, pnil⟩)
    (fun x hx => pNA hG.1 hx) (by decide +kernel) (by decide +kernel))
def pr_X5_isOpen : List (Nat × Instr × Nat) := [(0, .iconst 0, 1), (1, .istore_n 2, 1), (2, .iconst 0, 1), (3, .istore_n 3, 1), (4, .iload_n 3, 1), (5, .bipush 30, 2), (7, .if_icmp .ge 29, 3), (10, .iload_n 2, 1), (11, .ifCond .ne 13, 3), (14, .aload_n 0, 1), (15, .getfield 27, 3), (18, .iload_n 3, 1), (19, .iaload, 1), (20, .iload_n 1, 1), (21, .if_icmp .ne 7, 3), (24, .iconst 1, 1), (25, .goto 4, 3), (28, .iconst 0, 1), (29, .istore_n 2, 1), (30, .iinc 3 1, 3), (33, .goto (-29), 3), (36, .iload_n 2, 1), (37, .ireturn, 1)]
theorem pd_X5_isOpen : ∀ q ∈ pr_X5_isOpen, decode cX5_isOpen q.1 = .ok (q.2.1, q.2.2) := by decide +kernel
def ct_X5_isOpen : ty_C := ([(2, 12, 0), ty_f], some pB, [], [], 0, 0, ty_i0)
set_option maxRecDepth 100000 in
set_option maxHeartbeats 4000000 in
theorem mt_X5_isOpen {l : Launch} {D : va_G} {tys : List (ClassId × FieldType)} {INV : ty_K → mh_M → Prop} (hG : pG tys INV) : ty_Met l D vwCl tys pKT INV INV pPG yX5_isOpen cX5_isOpen 4 (some .boolean) 0 0 ct_X5_isOpen :=
  ty_of (by decide +kernel) (by decide +kernel) (by decide +kernel) (ty_by (fT := [(27, 7, 7, .array .int)]) (pT := []) (cT := []) (kT := []) (lT := []) (nT := []) (prog := pr_X5_isOpen) [] [(4, [(0, (2, 12, 0)), (1, ty_f), (2, pB), (3, (0, 0, 30))], 3, 30, 0, 0)] 400 hG.1 hG.2.1 pPG_s hG.2.2.1 hG.2.2.2 pd_X5_isOpen rfl (by decide +kernel)
    (fun x hx hl hnm hR hD => ⟨(pcons (gR_getP hx rfl (by decide) uX5 (kw_at 608 (by decide +kernel))) pnil), pnil, pnil, pnil, pnil, pnil⟩)
    (fun x hx => pNA hG.1 hx) (by decide +kernel) (by decide +kernel))
def pr_X5_isWaiting : List (Nat × Instr × Nat) := [(0, .iconst 0, 1), (1, .istore_n 2, 1), (2, .aload_n 0, 1), (3, .getfield 70, 3), (6, .istore_n 3, 1), (7, .iload_n 3, 1), (8, .aload_n 0, 1), (9, .getfield 73, 3), (12, .if_icmp .ge 29, 3), (15, .iload_n 2, 1), (16, .ifCond .ne 13, 3), (19, .aload_n 0, 1), (20, .getfield 30, 3), (23, .iload_n 3, 1), (24, .iaload, 1), (25, .iload_n 1, 1), (26, .if_icmp .ne 7, 3), (29, .iconst 1, 1), (30, .goto 4, 3), (33, .iconst 0, 1), (34, .istore_n 2, 1), (35, .iinc 3 1, 3), (38, .goto (-31), 3), (41, .iload_n 2, 1), (42, .ireturn, 1)]
theorem pd_X5_isWaiting : ∀ q ∈ pr_X5_isWaiting, decode cX5_isWaiting q.1 = .ok (q.2.1, q.2.2) := by decide +kernel
def ct_X5_isWaiting : ty_C := ([(2, 12, 0), ty_f], some pB, [], [], 0, 0, ty_i0)
set_option maxRecDepth 100000 in
set_option maxHeartbeats 4000000 in
theorem mt_X5_isWaiting {l : Launch} {D : va_G} {tys : List (ClassId × FieldType)} {INV : ty_K → mh_M → Prop} (hG : pG tys INV) : ty_Met l D vwCl tys pKT INV INV pPG yX5_isWaiting cX5_isWaiting 4 (some .boolean) 0 0 ct_X5_isWaiting :=
  ty_of (by decide +kernel) (by decide +kernel) (by decide +kernel) (ty_by (fT := [(70, 7, 11, .int), (73, 7, 12, .int), (30, 7, 9, .array .int)]) (pT := []) (cT := []) (kT := []) (lT := []) (nT := []) (prog := pr_X5_isWaiting) [] [(7, [(0, (2, 12, 0)), (1, ty_f), (2, pB), (3, (0, 0, 1199))], 3, 1199, 0, 0)] 400 hG.1 hG.2.1 pPG_s hG.2.2.1 hG.2.2.2 pd_X5_isWaiting rfl (by decide +kernel)
    (fun x hx hl hnm hR hD => ⟨(pcons (gR_getP hx rfl (by decide) uX5 (kw_at 612 (by decide +kernel))) (pcons (gR_getP hx rfl (by decide) uX5 (kw_at 613 (by decide +kernel))) (pcons (gR_getP hx rfl (by decide) uX5 (kw_at 610 (by decide +kernel))) pnil))), pnil, pnil, pnil, pnil, pnil⟩)
    (fun x hx => pNA hG.1 hx) (by decide +kernel) (by decide +kernel))
def pr_X5_isHeld : List (Nat × Instr × Nat) := [(0, .aload_n 0, 1), (1, .iload_n 1, 1), (2, .invokevirtual 101, 3), (5, .ifCond .ne 11, 3), (8, .aload_n 0, 1), (9, .iload_n 1, 1), (10, .invokevirtual 105, 3), (13, .ifCond .eq 7, 3), (16, .iconst 1, 1), (17, .goto 4, 3), (20, .iconst 0, 1), (21, .istore_n 2, 1), (22, .aload_n 0, 1), (23, .getfield 61, 3), (26, .istore_n 3, 1), (27, .iload_n 3, 1), (28, .aload_n 0, 1), (29, .getfield 64, 3), (32, .if_icmp .gt 34, 3), (35, .iload_n 2, 1), (36, .ifCond .ne 18, 3), (39, .aload_n 0, 1), (40, .getfield 40, 3), (43, .iload_n 3, 1), (44, .laload, 1), (45, .iload_n 1, 1), (46, .lshr, 1), (47, .lconst 1, 1), (48, .land, 1), (49, .lconst 1, 1), (50, .lcmp, 1), (51, .ifCond .ne 7, 3), (54, .iconst 1, 1), (55, .goto 4, 3), (58, .iconst 0, 1), (59, .istore_n 2, 1), (60, .iinc 3 1, 3), (63, .goto (-36), 3), (66, .iconst 0, 1), (67, .istore_n 3, 1), (68, .iload_n 3, 1), (69, .aload_n 0, 1), (70, .getfield 67, 3), (73, .if_icmp .ge 34, 3), (76, .iload_n 2, 1), (77, .ifCond .ne 18, 3), (80, .aload_n 0, 1), (81, .getfield 47, 3), (84, .iload_n 3, 1), (85, .laload, 1), (86, .iload_n 1, 1), (87, .lshr, 1), (88, .lconst 1, 1), (89, .land, 1), (90, .lconst 1, 1), (91, .lcmp, 1), (92, .ifCond .ne 7, 3), (95, .iconst 1, 1), (96, .goto 4, 3), (99, .iconst 0, 1), (100, .istore_n 2, 1), (101, .iinc 3 1, 3), (104, .goto (-36), 3), (107, .iload_n 2, 1), (108, .ireturn, 1)]
theorem pd_X5_isHeld : ∀ q ∈ pr_X5_isHeld, decode cX5_isHeld q.1 = .ok (q.2.1, q.2.2) := by decide +kernel
def ct_X5_isHeld : ty_C := ([(2, 12, 0), ty_f], some pB, [], [], 0, 0, ty_i0)
set_option maxRecDepth 100000 in
set_option maxHeartbeats 4000000 in
theorem mt_X5_isHeld {l : Launch} {D : va_G} {tys : List (ClassId × FieldType)} {INV : ty_K → mh_M → Prop} (hG : pG tys INV) : ty_Met l D vwCl tys pKT INV INV pPG yX5_isHeld cX5_isHeld 4 (some .boolean) 1 23 ct_X5_isHeld :=
  ty_of (by decide +kernel) (by decide +kernel) (by decide +kernel) (ty_by (fT := [(61, 7, 15, .int), (64, 7, 16, .int), (40, 7, 14, .array .long), (67, 7, 19, .int), (47, 7, 18, .array .long)]) (pT := []) (cT := [(303, ct_X5_isOpen), (315, ct_X5_isWaiting)]) (kT := []) (lT := []) (nT := []) (prog := pr_X5_isHeld) [] [(27, [(0, (2, 12, 0)), (1, ty_f), (2, pB), (3, (0, 0, 1199))], 3, 1199, 0, 0), (68, [(0, (2, 12, 0)), (1, ty_f), (2, pB), (3, (0, 0, 4))], 3, 4, 0, 0)] 400 hG.1 hG.2.1 pPG_s hG.2.2.1 hG.2.2.2 pd_X5_isHeld rfl (by decide +kernel)
    (fun x hx hl hnm hR hD => ⟨(pcons (gR_getP hx rfl (by decide) uX5 (kw_at 616 (by decide +kernel))) (pcons (gR_getP hx rfl (by decide) uX5 (kw_at 617 (by decide +kernel))) (pcons (gR_getP hx rfl (by decide) uX5 (kw_at 615 (by decide +kernel))) (pcons (gR_getP hx rfl (by decide) uX5 (kw_at 620 (by decide +kernel))) (pcons (gR_getP hx rfl (by decide) uX5 (kw_at 619 (by decide +kernel))) pnil))))), pnil, (pcons (gR_cV (idx := 101) hx hl hD (mt_X5_isOpen hG) rfl (ci := 7) (T := TX5) (N := 22) rfl rfl (kw_at 720 (by decide +kernel)) (kw_at 10 (by decide +kernel)) (Or.inl (kw_at 717 (by decide +kernel))) (kw_at 719 (by decide +kernel)) (kw_sl 55 (by decide +kernel)) (by decide +kernel) ⟨by rw [hR]; decide, by rw [hR]; decide⟩) (pcons (gR_cV (idx := 105) hx hl hD (mt_X5_isWaiting hG) rfl (ci := 7) (T := TX5) (N := 22) rfl rfl (kw_at 724 (by decide +kernel)) (kw_at 10 (by decide +kernel)) (Or.inl (kw_at 721 (by decide +kernel))) (kw_at 723 (by decide +kernel)) (kw_sl 56 (by decide +kernel)) (by decide +kernel) ⟨by rw [hR]; decide, by rw [hR]; decide⟩) pnil)), pnil, pnil, pnil⟩)
    (fun x hx => pNA hG.1 hx) (by decide +kernel) (by decide +kernel))
def pr_X5_freeSector : List (Nat × Instr × Nat) := [(0, .iconst 2, 1), (1, .istore_n 1, 1), (2, .iload_n 1, 1), (3, .aload_n 0, 1), (4, .getfield 53, 3), (7, .if_icmp .ge 17, 3), (10, .aload_n 0, 1), (11, .iload_n 1, 1), (12, .invokevirtual 108, 3), (15, .ifCond .eq 9, 3), (18, .iinc 1 1, 3), (21, .goto (-19), 3), (24, .iload_n 1, 1), (25, .aload_n 0, 1), (26, .getfield 53, 3), (29, .if_icmp .ge 7, 3), (32, .iload_n 1, 1), (33, .goto 4, 3), (36, .iconst (-1), 1), (37, .ireturn, 1)]
theorem pd_X5_freeSector : ∀ q ∈ pr_X5_freeSector, decode cX5_freeSector q.1 = .ok (q.2.1, q.2.2) := by decide +kernel
def ct_X5_freeSector : ty_C := ([(2, 12, 0)], some (5, 2, 63), [], [], 0, 0, ty_i0)
set_option maxRecDepth 100000 in
set_option maxHeartbeats 4000000 in
theorem mt_X5_freeSector {l : Launch} {D : va_G} {tys : List (ClassId × FieldType)} {INV : ty_K → mh_M → Prop} (hG : pG tys INV) : ty_Met l D vwCl tys pKT INV INV pPG yX5_freeSector cX5_freeSector 2 (some .int) 2 46 ct_X5_freeSector :=
  ty_of (by decide +kernel) (by decide +kernel) (by decide +kernel) (ty_by (fT := [(53, 7, 0, .int)]) (pT := []) (cT := [(324, ct_X5_isHeld)]) (kT := []) (lT := []) (nT := []) (prog := pr_X5_freeSector) [] [(2, [(0, (2, 12, 0)), (1, (0, 2, 64))], 1, 64, 0, 0)] 400 hG.1 hG.2.1 pPG_s hG.2.2.1 hG.2.2.2 pd_X5_freeSector rfl (by decide +kernel)
    (fun x hx hl hnm hR hD => ⟨(pcons (gR_getP hx rfl (by decide) uX5 (kw_at 601 (by decide +kernel))) pnil), pnil, (pcons (gR_cV (idx := 108) hx hl hD (mt_X5_isHeld hG) rfl (ci := 7) (T := TX5) (N := 22) rfl rfl (kw_at 716 (by decide +kernel)) (kw_at 10 (by decide +kernel)) (Or.inl (kw_at 713 (by decide +kernel))) (kw_at 715 (by decide +kernel)) (kw_sl 54 (by decide +kernel)) (by decide +kernel) ⟨by rw [hR]; decide, by rw [hR]; decide⟩) pnil), pnil, pnil, pnil⟩)
    (fun x hx => pNA hG.1 hx) (by decide +kernel) (by decide +kernel))
def pr_X5_freePage : List (Nat × Instr × Nat) := [(0, .iconst 0, 1), (1, .istore_n 1, 1), (2, .iload_n 1, 1), (3, .bipush 30, 2), (5, .if_icmp .ge 19, 3), (8, .aload_n 0, 1), (9, .getfield 27, 3), (12, .iload_n 1, 1), (13, .iaload, 1), (14, .iconst (-1), 1), (15, .if_icmp .eq 9, 3), (18, .iinc 1 1, 3), (21, .goto (-19), 3), (24, .iload_n 1, 1), (25, .bipush 30, 2), (27, .if_icmp .ge 7, 3), (30, .iload_n 1, 1), (31, .goto 4, 3), (34, .iconst (-1), 1), (35, .ireturn, 1)]
theorem pd_X5_freePage : ∀ q ∈ pr_X5_freePage, decode cX5_freePage q.1 = .ok (q.2.1, q.2.2) := by decide +kernel
def ct_X5_freePage : ty_C := ([(2, 12, 0)], some (5, 0, 29), [], [], 0, 0, ty_i0)
set_option maxRecDepth 100000 in
set_option maxHeartbeats 4000000 in
theorem mt_X5_freePage {l : Launch} {D : va_G} {tys : List (ClassId × FieldType)} {INV : ty_K → mh_M → Prop} (hG : pG tys INV) : ty_Met l D vwCl tys pKT INV INV pPG yX5_freePage cX5_freePage 2 (some .int) 0 0 ct_X5_freePage :=
  ty_of (by decide +kernel) (by decide +kernel) (by decide +kernel) (ty_by (fT := [(27, 7, 7, .array .int)]) (pT := []) (cT := []) (kT := []) (lT := []) (nT := []) (prog := pr_X5_freePage) [] [(2, [(0, (2, 12, 0)), (1, (0, 0, 30))], 1, 30, 0, 0)] 400 hG.1 hG.2.1 pPG_s hG.2.2.1 hG.2.2.2 pd_X5_freePage rfl (by decide +kernel)
    (fun x hx hl hnm hR hD => ⟨(pcons (gR_getP hx rfl (by decide) uX5 (kw_at 608 (by decide +kernel))) pnil), pnil, pnil, pnil, pnil, pnil⟩)
    (fun x hx => pNA hG.1 hx) (by decide +kernel) (by decide +kernel))
def pr_X5_turned : List (Nat × Instr × Nat) := [(0, .lload_n 0, 1), (1, .bipush 9, 2), (3, .lshl, 1), (4, .lload_n 0, 1), (5, .bipush 55, 2), (7, .lushr, 1), (8, .lor, 1), (9, .ldc2_w 111, 3), (12, .lxor, 1), (13, .lreturn, 1)]
theorem pd_X5_turned : ∀ q ∈ pr_X5_turned, decode cX5_turned q.1 = .ok (q.2.1, q.2.2) := by decide +kernel
def ct_X5_turned : ty_C := ([(1, 0, 0)], some (1, 0, 0), [], [], 0, 0, ty_i0)
set_option maxRecDepth 100000 in
set_option maxHeartbeats 4000000 in
theorem mt_X5_turned {l : Launch} {D : va_G} {tys : List (ClassId × FieldType)} {INV : ty_K → mh_M → Prop} (hG : pG tys INV) : ty_Met l D vwCl tys pKT INV INV pPG yX5_turned cX5_turned 2 (some .long) 0 0 ct_X5_turned :=
  ty_of (by decide +kernel) (by decide +kernel) (by decide +kernel) (ty_by (fT := []) (pT := []) (cT := []) (kT := []) (lT := [111]) (nT := []) (prog := pr_X5_turned) [] [] 400 hG.1 hG.2.1 pPG_s hG.2.2.1 hG.2.2.2 pd_X5_turned rfl (by decide +kernel)
    (fun x hx hl hnm hR hD => ⟨pnil, pnil, pnil, pnil, (pcons (gR_ldlP hx (v := 25214903917) (kw_at 704 (by decide +kernel))) pnil), pnil⟩)
    (fun x hx => pNA hG.1 hx) (by decide +kernel) (by decide +kernel))
def pr_X5_bits : List (Nat × Instr × Nat) := [(0, .iconst 0, 1), (1, .istore_n 2, 1), (2, .iconst 0, 1), (3, .istore_n 3, 1), (4, .iload_n 3, 1), (5, .bipush 64, 2), (7, .if_icmp .ge 18, 3), (10, .iload_n 2, 1), (11, .lload_n 0, 1), (12, .iload_n 3, 1), (13, .lshr, 1), (14, .lconst 1, 1), (15, .land, 1), (16, .l2i, 1), (17, .iadd, 1), (18, .istore_n 2, 1), (19, .iinc 3 1, 3), (22, .goto (-18), 3), (25, .iload_n 2, 1), (26, .ireturn, 1)]
theorem pd_X5_bits : ∀ q ∈ pr_X5_bits, decode cX5_bits q.1 = .ok (q.2.1, q.2.2) := by decide +kernel
def ct_X5_bits : ty_C := ([(1, 0, 0)], some ty_f, [], [], 0, 0, ty_i0)
set_option maxRecDepth 100000 in
set_option maxHeartbeats 4000000 in
theorem mt_X5_bits {l : Launch} {D : va_G} {tys : List (ClassId × FieldType)} {INV : ty_K → mh_M → Prop} (hG : pG tys INV) : ty_Met l D vwCl tys pKT INV INV pPG yX5_bits cX5_bits 4 (some .int) 0 0 ct_X5_bits :=
  ty_of (by decide +kernel) (by decide +kernel) (by decide +kernel) (ty_by (fT := []) (pT := []) (cT := []) (kT := []) (lT := []) (nT := []) (prog := pr_X5_bits) [] [(4, [(0, (1, 0, 0)), (2, ty_f), (3, (0, 0, 64))], 3, 64, 0, 0)] 400 hG.1 hG.2.1 pPG_s hG.2.2.1 hG.2.2.2 pd_X5_bits rfl (by decide +kernel)
    (fun x hx hl hnm hR hD => ⟨pnil, pnil, pnil, pnil, pnil, pnil⟩)
    (fun x hx => pNA hG.1 hx) (by decide +kernel) (by decide +kernel))
def pr_X5_heldCount : List (Nat × Instr × Nat) := [(0, .iconst 0, 1), (1, .istore_n 1, 1), (2, .iconst 2, 1), (3, .istore_n 2, 1), (4, .iload_n 2, 1), (5, .bipush 64, 2), (7, .if_icmp .ge 25, 3), (10, .iload_n 1, 1), (11, .aload_n 0, 1), (12, .iload_n 2, 1), (13, .invokevirtual 108, 3), (16, .ifCond .eq 7, 3), (19, .iconst 1, 1), (20, .goto 4, 3), (23, .iconst 0, 1), (24, .iadd, 1), (25, .istore_n 1, 1), (26, .iinc 2 1, 3), (29, .goto (-25), 3), (32, .iload_n 1, 1), (33, .ireturn, 1)]
theorem pd_X5_heldCount : ∀ q ∈ pr_X5_heldCount, decode cX5_heldCount q.1 = .ok (q.2.1, q.2.2) := by decide +kernel
def ct_X5_heldCount : ty_C := ([(2, 12, 0)], some ty_f, [], [], 0, 0, ty_i0)
set_option maxRecDepth 100000 in
set_option maxHeartbeats 4000000 in
theorem mt_X5_heldCount {l : Launch} {D : va_G} {tys : List (ClassId × FieldType)} {INV : ty_K → mh_M → Prop} (hG : pG tys INV) : ty_Met l D vwCl tys pKT INV INV pPG yX5_heldCount cX5_heldCount 3 (some .int) 2 46 ct_X5_heldCount :=
  ty_of (by decide +kernel) (by decide +kernel) (by decide +kernel) (ty_by (fT := []) (pT := []) (cT := [(324, ct_X5_isHeld)]) (kT := []) (lT := []) (nT := []) (prog := pr_X5_heldCount) [] [(4, [(0, (2, 12, 0)), (1, ty_f), (2, (0, 2, 64))], 2, 64, 0, 0)] 400 hG.1 hG.2.1 pPG_s hG.2.2.1 hG.2.2.2 pd_X5_heldCount rfl (by decide +kernel)
    (fun x hx hl hnm hR hD => ⟨pnil, pnil, (pcons (gR_cV (idx := 108) hx hl hD (mt_X5_isHeld hG) rfl (ci := 7) (T := TX5) (N := 22) rfl rfl (kw_at 716 (by decide +kernel)) (kw_at 10 (by decide +kernel)) (Or.inl (kw_at 713 (by decide +kernel))) (kw_at 715 (by decide +kernel)) (kw_sl 54 (by decide +kernel)) (by decide +kernel) ⟨by rw [hR]; decide, by rw [hR]; decide⟩) pnil), pnil, pnil, pnil⟩)
    (fun x hx => pNA hG.1 hx) (by decide +kernel) (by decide +kernel))
def pr_X5_wrong : List (Nat × Instr × Nat) := [(0, .aload_n 0, 1), (1, .getfield 7, 3), (4, .ifCond .ne 6, 3), (7, .bipush (-3), 2), (9, .ireturn, 1), (10, .iload_n 1, 1), (11, .ifCond .lt 8, 3), (14, .iload_n 1, 1), (15, .iconst 2, 1), (16, .if_icmp .le 6, 3), (19, .bipush (-2), 2), (21, .ireturn, 1), (22, .iconst 0, 1), (23, .istore_n 2, 1), (24, .iconst (-1), 1), (25, .istore_n 3, 1), (26, .iconst 0, 1), (27, .istore 4, 2), (29, .iload 4, 2), (31, .bipush 30, 2), (33, .if_icmp .ge 66, 3), (36, .aload_n 0, 1), (37, .getfield 27, 3), (40, .iload 4, 2), (42, .iaload, 1), (43, .iconst (-1), 1), (44, .if_icmp .eq 49, 3), (47, .aload_n 0, 1), (48, .getfield 23, 3), (51, .aload_n 0, 1), (52, .getfield 27, 3), (55, .iload 4, 2), (57, .iaload, 1), (58, .baload, 1), (59, .ifCond .ne 34, 3), (62, .aload_n 0, 1), (63, .getfield 17, 3), (66, .aload_n 0, 1), (67, .getfield 27, 3), (70, .iload 4, 2), (72, .iaload, 1), (73, .invokestatic 150, 3), (76, .ifCond .eq 6, 3), (79, .goto 14, 3), (82, .iinc 2 1, 3), (85, .iload_n 3, 1), (86, .iconst (-1), 1), (87, .if_icmp .ne 6, 3), (90, .iload 4, 2), (92, .istore_n 3, 1), (93, .iinc 4 1, 3), (96, .goto (-67), 3), (99, .iload_n 1, 1), (100, .ifCond .ne 7, 3), (103, .iload_n 2, 1), (104, .goto 27, 3), (107, .iload_n 3, 1), (108, .iconst (-1), 1), (109, .if_icmp .ne 7, 3), (112, .iconst (-1), 1), (113, .goto 18, 3), (116, .iload_n 1, 1), (117, .iconst 1, 1), (118, .if_icmp .ne 7, 3), (121, .iload_n 3, 1), (122, .goto 9, 3), (125, .aload_n 0, 1), (126, .getfield 27, 3), (129, .iload_n 3, 1), (130, .iaload, 1), (131, .ireturn, 1)]
theorem pd_X5_wrong : ∀ q ∈ pr_X5_wrong, decode cX5_wrong q.1 = .ok (q.2.1, q.2.2) := by decide +kernel
def ct_X5_wrong : ty_C := ([(2, 12, 0), ty_f], some ty_f, [], [], 0, 0, ty_i0)
set_option maxRecDepth 100000 in
set_option maxHeartbeats 4000000 in
theorem mt_X5_wrong {l : Launch} {D : va_G} {tys : List (ClassId × FieldType)} {INV : ty_K → mh_M → Prop} (hG : pG tys INV) : ty_Met l D vwCl tys pKT INV INV pPG yX5_wrong cX5_wrong 5 (some .int) 2 45 ct_X5_wrong :=
  ty_of (by decide +kernel) (by decide +kernel) (by decide +kernel) (ty_by (fT := [(7, 7, 1, .boolean), (27, 7, 7, .array .int), (23, 7, 6, .array .boolean), (17, 7, 4, .array .int)]) (pT := []) (cT := [(451, ct_X5_isRight_l)]) (kT := []) (lT := []) (nT := []) (prog := pr_X5_wrong) [] [(29, [(0, (2, 12, 0)), (1, (0, 0, 2)), (2, ty_f), (3, (5, 0, 29)), (4, (0, 0, 30))], 4, 30, 0, 0)] 400 hG.1 hG.2.1 pPG_s hG.2.2.1 hG.2.2.2 pd_X5_wrong rfl (by decide +kernel)
    (fun x hx hl hnm hR hD => ⟨(pcons (gR_getP hx rfl (by decide) uX5 (kw_at 602 (by decide +kernel))) (pcons (gR_getP hx rfl (by decide) uX5 (kw_at 608 (by decide +kernel))) (pcons (gR_getP hx rfl (by decide) uX5 (kw_at 607 (by decide +kernel))) (pcons (gR_getP hx rfl (by decide) uX5 (kw_at 605 (by decide +kernel))) pnil)))), pnil, (pcons (gR_cS (idx := 150) hx hl hD (mt_X5_isRight_l hG) (kw_at 744 (by decide +kernel)) (kw_at 10 (by decide +kernel)) (Or.inl (kw_at 742 (by decide +kernel))) (kw_at 743 (by decide +kernel)) (by decide +kernel) ⟨by rw [hR]; decide, by rw [hR]; decide⟩) pnil), pnil, pnil, pnil⟩)
    (fun x hx => pNA hG.1 hx) (by decide +kernel) (by decide +kernel))
