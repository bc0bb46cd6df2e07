def R_law : String := "KnowDiskLaw"
def lw_P (b : Addr) (xs : List Int32) (args : Array Value) (s : State) : Prop := args = #[.ref b] ∧ s.IntsAt b xs ∧ xs.length ≤ 2561 ∧ (Jvm.Cond.and given_1 narrow_1).before args s = true
def lw_Q (_ : Array Value) (s : State) (o : Outcome) (t : State) : Prop := o = .returned (some (.int 1)) ∧ Framed s o t [] 601024 7293000
def lw_Z (below : List Frame) (a : Array Value) (s : State) : State → Prop := fun t => ∃ o, t.status = .running ∧ Ended t below o ∧ lw_Q a s o t
/-- the law's own end, with 1 on the stack, nothing written that was there before, its room as the claim has it -/
theorem lw_ret {p : Program} {l : Launch} {e : Env} {s : State} {m : MethodId} {below : List Frame} {meth : Method} {c : Code} {b : Nat} (hx : p.tables.exec = Jvm.exec) (hb : c.code = code) (hr : meth.sig.returnType = ret) (hlocks : meth.locks = false) {pc : Nat} {H : Heap} {ls : Array Slot} (hdg : decode code pc = .ok (.ireturn, 1)) : W p l e room_1 s m #[Value.ref b] below meth c H [] 601024 7293000 (lw_Z below #[Value.ref b] s) (F0 m pc ls [.int 1]) := by
  intro T hT X
  obtain ⟨fs, hret, hrun, hended, hW, hframe⟩ := X.leave (v := some (.int 1)) (hlocks := hlocks) (fun h => by rw [hr] at h; cases h)
  have hmeth' : T.vm.method? m = some meth := X.method'
  refine ⟨T.setFrames fs, ?_, .returned (some (.int 1)), hrun, hended, rfl, ⟨_, rfl⟩, hW, hframe⟩
  jvm_step X.here [X.here.top, hx, hb, hdg, hmeth', hr, ret, narrow_b1]
  (try refine ⟨rfl, ?_⟩); (try refine ⟨rfl, ?_⟩)
  first | (intro acts; rw [hret _ acts rfl rfl rfl]) | rw [hret _ _ rfl rfl rfl]
  exact Steps.refl _
/-- what holds at the law's entry: the machine, the code, the tables' words (any of lw_tbl by 'hts w (by decide +kernel)'), the script of L ints xs at the cell b, what the Statement gives of the start (any of its parts by flat_of_before) -/
def lw_At (p : Program) (s : State) (m : MethodId) (meth : Method) (c : Code) (b L : Nat) (xs : Nat → Int32) : Prop :=
  p.tables.exec = Jvm.exec ∧ c.code = code ∧ meth.sig.returnType = ret ∧ c.maxLocals = 7 ∧ s.vm.findClass R_law = some m.cls ∧ (∀ w ∈ lw_tbl, w.before #[Value.ref b] s = true) ∧ va_X b L xs s s.heap ∧ b < s.heap.size ∧ meth.locks = false ∧ (Jvm.Cond.and given_1 narrow_1).before #[Value.ref b] s = true
/-! THE LAW's LOOP -/
abbrev LX (p : Program) (l : Launch) (e : Env) (s : State) (m : MethodId) (b : Nat) (below : List Frame) (meth : Method) (c : Code) (D : va_G) : gx_T := (p, l, e, room_1, s, m, #[Value.ref b], below, meth, c, lw_Z below #[Value.ref b] s, D, fun q => s.heap.size ≤ q, s.heap)
/-- between two calls: class and reference are whole, and both were told of the same fullness -/
def lwJ (tys : List (ClassId × FieldType)) (D : va_G) (cO : ClassId) (kd md ot e t : Nat) (σ : ty_K) (M : mh_M) : Prop := ty_H tys pKT σ M ∧ pJ e t D cO pKw pKk σ M ∧ σ kd = some 0 ∧ σ md = some 12 ∧ σ ot = some 25 ∧ ∃ z : Int32, ty_p (M.2 kd) 7 = .inr (some (.int z)) ∧ ty_p (M.2 md) 2 = .inr (some (.int z))
def lwS (ls : Array Slot) (b kd md ot i : Nat) : Prop := ls.size = 7 ∧ lv_wf ls ∧ ls[0]? = some (.val (.ref b)) ∧ ls[1]? = some (.val (.ref kd)) ∧ ls[2]? = some (.val (.ref md)) ∧ ls[3]? = some (.val (.ref ot)) ∧ ls[4]? = some (.val (.int (nI i)))
theorem lwJ_call {tys : List (ClassId × FieldType)} {D : va_G} {cO : ClassId} {kd md ot e t e' t' : Nat} {σ σ1 : ty_K} {M M1 : mh_M} {mods : List (Nat × Nat)} {news : List Nat} (hJ : lwJ tys D cO kd md ot e t σ M) (q1 : ty_FM mods news σ M σ1 M1) (h7 : (0, 7) ∉ mods) (h2 : (12, 2) ∉ mods) (q2 : ty_H tys pKT σ1 M1) (q3 : pJ e' t' D cO pKw pKk σ1 M1) : lwJ tys D cO kd md ot e' t' σ1 M1 := by
  obtain ⟨-, -, h3, h4, h5, z, h6, h8⟩ := hJ
  exact ⟨q2, q3, q1.kinds _ _ h3, q1.kinds _ _ h4, q1.kinds _ _ h5, z, ((q1.2.1 kd 0 h3).2 7 h7).trans h6, ((q1.2.1 md 12 h4).2 2 h2).trans h8⟩
theorem lwJ_mono {tys : List (ClassId × FieldType)} {D : va_G} {cO : ClassId} {kd md ot e t e' t' : Nat} {σ : ty_K} {M : mh_M} (he : e ≤ e') (ht : t ≤ t') (h : lwJ tys D cO kd md ot e t σ M) : lwJ tys D cO kd md ot e' t' σ M := by
  obtain ⟨h1, h2, h3⟩ := h
  exact ⟨h1, ⟨pR_mono he ht h2.1, h2.2⟩, h3⟩
set_option maxRecDepth 100000 in
theorem lw_page {p : Program} {l : Launch} {e : Env} {s : State} {m : MethodId} {below : List Frame} {meth : Method} {c : Code} {D : va_G} {tys : List (ClassId × FieldType)} {cO : ClassId} {b L : Nat} {xs : Nat → Int32} (hx : gC (LX p l e s m b below meth c D) vwCl code 7 tys kwT "KnowDiskLaw") (hX : va_X b L xs s s.heap) (hbl : b < s.heap.size) (hL : pGL cO tys pKw pKk) {kd md ot i t n k : Nat} {σ : ty_K} {M : mh_M} {ls : Array Slot} (hi : i + 5 ≤ L) (hL2 : L ≤ 2561) (ht : t ≤ 511) (hs : lwS ls b kd md ot i) (hJ : lwJ tys D cO kd md ot (64 + t) t σ M) (hn : n + 190 ≤ 601024) (hk : k + 8714 ≤ 7293000) (next : ∀ (σ' : ty_K) (M' : mh_M) (n' k' : Nat) (ls' : Array Slot), lwS ls' b kd md ot i → lwJ tys D cO kd md ot (64 + (t + 1)) (t + 1) σ' M' → n' ≤ n + 190 → k' ≤ k + 8714 → gG (LX p l e s m b below meth c D) vwCl 509 ls' [] M' n' k') : gG (LX p l e s m b below meth c D) vwCl 112 ls [] M n k := by
  obtain ⟨s0, s1, h0, h1, h2, h3, h4⟩ := id hs
  have ei : (nI i).toInt = (i : Int) := nI_tn (by omega)
  have hin1 : vp_in (nI i + Int32.ofInt 1) L := vp_in_iff.mpr ⟨by rw [ty_addI ei (show (Int32.ofInt 1).toInt = 1 from rfl) (by omega) (by omega)]; omega, by rw [ty_addI ei (show (Int32.ofInt 1).toInt = 1 from rfl) (by omega) (by omega)]; omega⟩
  have hin2 : vp_in (nI i + Int32.ofInt 2) L := vp_in_iff.mpr ⟨by rw [ty_addI ei (show (Int32.ofInt 2).toInt = 2 from rfl) (by omega) (by omega)]; omega, by rw [ty_addI ei (show (Int32.ofInt 2).toInt = 2 from rfl) (by omega) (by omega)]; omega⟩
  have hin3 : vp_in (nI i + Int32.ofInt 3) L := vp_in_iff.mpr ⟨by rw [ty_addI ei (show (Int32.ofInt 3).toInt = 3 from rfl) (by omega) (by omega)]; omega, by rw [ty_addI ei (show (Int32.ofInt 3).toInt = 3 from rfl) (by omega) (by omega)]; omega⟩
  have hin4 : vp_in (nI i + Int32.ofInt 4) L := vp_in_iff.mpr ⟨by rw [ty_addI ei (show (Int32.ofInt 4).toInt = 4 from rfl) (by omega) (by omega)]; omega, by rw [ty_addI ei (show (Int32.ofInt 4).toInt = 4 from rfl) (by omega) (by omega)]; omega⟩
  refine gG_sp hx (i := .aload_n 1) (len := 1) (by decide +kernel) (sp_al (j := 1) h1) ?_
  refine gG_sp hx (i := .aload_n 0) (len := 1) (by decide +kernel) (sp_al (j := 0) h0) ?_
  refine gG_sp hx (i := .iload 4) (len := 2) (by decide +kernel) (sp_il2 h4) ?_
  refine gG_sp hx (i := .iconst 1) (len := 1) (by decide +kernel) rfl ?_
  refine gG_sp hx (i := .iadd) (len := 1) (by decide +kernel) rfl ?_
  refine gG_sld hx hX hbl (fun q => by omega) hin1 (by decide +kernel) ?_
  refine gG_sp hx (i := .aload_n 0) (len := 1) (by decide +kernel) (sp_al (j := 0) h0) ?_
  refine gG_sp hx (i := .iload 4) (len := 2) (by decide +kernel) (sp_il2 h4) ?_
  refine gG_sp hx (i := .iconst 2) (len := 1) (by decide +kernel) rfl ?_
  refine gG_sp hx (i := .iadd) (len := 1) (by decide +kernel) rfl ?_
  refine gG_sld hx hX hbl (fun q => by omega) hin2 (by decide +kernel) ?_
  refine gG_sp hx (i := .aload_n 0) (len := 1) (by decide +kernel) (sp_al (j := 0) h0) ?_
  refine gG_sp hx (i := .iload 4) (len := 2) (by decide +kernel) (sp_il2 h4) ?_
  refine gG_sp hx (i := .iconst 3) (len := 1) (by decide +kernel) rfl ?_
  refine gG_sp hx (i := .iadd) (len := 1) (by decide +kernel) rfl ?_
  refine gG_sld hx hX hbl (fun q => by omega) hin3 (by decide +kernel) ?_
  refine gG_sp hx (i := .i2l) (len := 1) (by decide +kernel) rfl ?_
  refine gG_sp hx (i := .bipush 32) (len := 2) (by decide +kernel) rfl ?_
  refine gG_sp hx (i := .lshl) (len := 1) (by decide +kernel) rfl ?_
  refine gG_sp hx (i := .aload_n 0) (len := 1) (by decide +kernel) (sp_al (j := 0) h0) ?_
  refine gG_sp hx (i := .iload 4) (len := 2) (by decide +kernel) (sp_il2 h4) ?_
  refine gG_sp hx (i := .iconst 4) (len := 1) (by decide +kernel) rfl ?_
  refine gG_sp hx (i := .iadd) (len := 1) (by decide +kernel) rfl ?_
  refine gG_sld hx hX hbl (fun q => by omega) hin4 (by decide +kernel) ?_
  refine gG_sp hx (i := .i2l) (len := 1) (by decide +kernel) rfl ?_
  refine gR_ldlX (idx := 27) hx (v := 4294967295) (kw_at 809 (by decide +kernel)) 142 ls _ _ _ _ (by decide +kernel) ?_
  refine gG_sp hx (i := .land) (len := 1) (by decide +kernel) rfl ?_
  refine gG_sp hx (i := .lor) (len := 1) (by decide +kernel) rfl ?_
  refine (gR_cV (idx := 29) hx rfl rfl (mt_X4_page (e := 64 + t) (t := t) (D := D) hL) rfl (ci := 6) (T := TX4) (N := 13) rfl rfl (kw_at 150 (by decide +kernel)) (kw_at 1 (by decide +kernel)) (Or.inl (kw_at 147 (by decide +kernel))) (kw_at 148 (by decide +kernel)) (kw_at 149 (by decide +kernel)) (by decide +kernel) ⟨Nat.le_of_ble_eq_true rfl, Nat.le_of_ble_eq_true rfl⟩) 147 ls (.invokevirtual 29) [.ref kd, .int _, .int _, .long _] [] M σ n k (by decide +kernel) (Or.inl ⟨29, rfl, rfl⟩) s0 ⟨⟨kd, rfl, hJ.2.2.1⟩, ty_any _, ty_any _, ⟨_, rfl⟩, trivial⟩ hJ.1 hJ.2.1 (Nat.zero_le 8) (by show n + 0 ≤ 601024; omega) (by show k + 0 ≤ 7293000; omega) (fun v M1 σ1 q1 q2 q3 q4 q5 => ?_)
  obtain ⟨u, rfl, z, rfl, -⟩ := q4
  have hJ1 := lwJ_call hJ q1 (by decide) (by decide) q2 q3
  have hn1 : n + 0 ≤ 601024 := by omega
  have hk1 : k + 0 ≤ 7293000 := by omega
  show gG (LX p l e s m b below meth c D) vwCl 150 ls [.int z] M1 (n + 0) (k + 0)
  refine gG_sp hx (i := .pop) (len := 1) (by decide +kernel) rfl ?_
  refine gG_sp hx (i := .aload_n 2) (len := 1) (by decide +kernel) (sp_al (j := 2) h2) ?_
  refine gG_sp hx (i := .aload_n 0) (len := 1) (by decide +kernel) (sp_al (j := 0) h0) ?_
  refine gG_sp hx (i := .iload 4) (len := 2) (by decide +kernel) (sp_il2 h4) ?_
  refine gG_sp hx (i := .iconst 1) (len := 1) (by decide +kernel) rfl ?_
  refine gG_sp hx (i := .iadd) (len := 1) (by decide +kernel) rfl ?_
  refine gG_sld hx hX hbl (fun q => by omega) hin1 (by decide +kernel) ?_
  refine gG_sp hx (i := .aload_n 0) (len := 1) (by decide +kernel) (sp_al (j := 0) h0) ?_
  refine gG_sp hx (i := .iload 4) (len := 2) (by decide +kernel) (sp_il2 h4) ?_
  refine gG_sp hx (i := .iconst 2) (len := 1) (by decide +kernel) rfl ?_
  refine gG_sp hx (i := .iadd) (len := 1) (by decide +kernel) rfl ?_
  refine gG_sld hx hX hbl (fun q => by omega) hin2 (by decide +kernel) ?_
  refine gG_sp hx (i := .aload_n 0) (len := 1) (by decide +kernel) (sp_al (j := 0) h0) ?_
  refine gG_sp hx (i := .iload 4) (len := 2) (by decide +kernel) (sp_il2 h4) ?_
  refine gG_sp hx (i := .iconst 3) (len := 1) (by decide +kernel) rfl ?_
  refine gG_sp hx (i := .iadd) (len := 1) (by decide +kernel) rfl ?_
  refine gG_sld hx hX hbl (fun q => by omega) hin3 (by decide +kernel) ?_
  refine gG_sp hx (i := .i2l) (len := 1) (by decide +kernel) rfl ?_
  refine gG_sp hx (i := .bipush 32) (len := 2) (by decide +kernel) rfl ?_
  refine gG_sp hx (i := .lshl) (len := 1) (by decide +kernel) rfl ?_
  refine gG_sp hx (i := .aload_n 0) (len := 1) (by decide +kernel) (sp_al (j := 0) h0) ?_
  refine gG_sp hx (i := .iload 4) (len := 2) (by decide +kernel) (sp_il2 h4) ?_
  refine gG_sp hx (i := .iconst 4) (len := 1) (by decide +kernel) rfl ?_
  refine gG_sp hx (i := .iadd) (len := 1) (by decide +kernel) rfl ?_
  refine gG_sld hx hX hbl (fun q => by omega) hin4 (by decide +kernel) ?_
  refine gG_sp hx (i := .i2l) (len := 1) (by decide +kernel) rfl ?_
  refine gR_ldlX (idx := 27) hx (v := 4294967295) (kw_at 809 (by decide +kernel)) 181 ls _ _ _ _ (by decide +kernel) ?_
  refine gG_sp hx (i := .land) (len := 1) (by decide +kernel) rfl ?_
  refine gG_sp hx (i := .lor) (len := 1) (by decide +kernel) rfl ?_
  refine (gR_cV (idx := 33) hx rfl rfl (mt_X5_page hL.1 pKK_s (64 + t) t) rfl (ci := 7) (T := TX5) (N := 22) rfl rfl (kw_at 673 (by decide +kernel)) (kw_at 10 (by decide +kernel)) (Or.inl (kw_at 670 (by decide +kernel))) (kw_at 671 (by decide +kernel)) (kw_at 672 (by decide +kernel)) (by decide +kernel) ⟨Nat.le_of_ble_eq_true rfl, Nat.le_of_ble_eq_true rfl⟩) 186 ls (.invokevirtual 33) [.ref md, .int _, .int _, .long _] [] M1 σ1 (n + 0) (k + 0) (by decide +kernel) (Or.inl ⟨33, rfl, rfl⟩) s0 ⟨⟨md, rfl, hJ1.2.2.2.1⟩, ty_any _, ty_any _, ⟨_, rfl⟩, trivial⟩ hJ1.1 hJ1.2.1 (Nat.zero_le 8) (by show n + 0 + 0 ≤ 601024; omega) (by show k + 0 + 0 ≤ 7293000; omega) (fun v M2 σ2 q1 q2 q3 q4 q5 => ?_)
  obtain ⟨u, rfl, z2, rfl, -⟩ := q4
  have hJ2 : lwJ tys D cO kd md ot (64 + t + 1) (t) σ2 M2 := lwJ_call hJ1 q1 (by decide) (by decide) q2 q3
  show gG (LX p l e s m b below meth c D) vwCl 189 ls [.int z2] M2 (n + 0) (k + 0)
  refine gG_sp hx (i := .pop) (len := 1) (by decide +kernel) rfl ?_
  refine gG_goto hx (off := 319) (tgt := 509) (by decide +kernel) rfl ?_
  exact next σ2 M2 _ _ ls hs (lwJ_mono (by omega) (by omega) hJ2) (by omega) (by omega)
set_option maxRecDepth 100000 in
theorem lw_commit {p : Program} {l : Launch} {e : Env} {s : State} {m : MethodId} {below : List Frame} {meth : Method} {c : Code} {D : va_G} {tys : List (ClassId × FieldType)} {cO : ClassId} {b L : Nat} {xs : Nat → Int32} (hx : gC (LX p l e s m b below meth c D) vwCl code 7 tys kwT "KnowDiskLaw") (hX : va_X b L xs s s.heap) (hbl : b < s.heap.size) (hL : pGL cO tys pKw pKk) {kd md ot i t n k : Nat} {σ : ty_K} {M : mh_M} {ls : Array Slot} (hi : i + 5 ≤ L) (hL2 : L ≤ 2561) (ht : t ≤ 511) (hs : lwS ls b kd md ot i) (hJ : lwJ tys D cO kd md ot (64 + t) t σ M) (hn : n + 190 ≤ 601024) (hk : k + 8714 ≤ 7293000) (next : ∀ (σ' : ty_K) (M' : mh_M) (n' k' : Nat) (ls' : Array Slot), lwS ls' b kd md ot i → lwJ tys D cO kd md ot (64 + (t + 1)) (t + 1) σ' M' → n' ≤ n + 190 → k' ≤ k + 8714 → gG (LX p l e s m b below meth c D) vwCl 509 ls' [] M' n' k') : gG (LX p l e s m b below meth c D) vwCl 193 ls [] M n k := by
  obtain ⟨s0, s1, h0, h1, h2, h3, h4⟩ := id hs
  have ei : (nI i).toInt = (i : Int) := nI_tn (by omega)
  have hin1 : vp_in (nI i + Int32.ofInt 1) L := vp_in_iff.mpr ⟨by rw [ty_addI ei (show (Int32.ofInt 1).toInt = 1 from rfl) (by omega) (by omega)]; omega, by rw [ty_addI ei (show (Int32.ofInt 1).toInt = 1 from rfl) (by omega) (by omega)]; omega⟩
  have hin2 : vp_in (nI i + Int32.ofInt 2) L := vp_in_iff.mpr ⟨by rw [ty_addI ei (show (Int32.ofInt 2).toInt = 2 from rfl) (by omega) (by omega)]; omega, by rw [ty_addI ei (show (Int32.ofInt 2).toInt = 2 from rfl) (by omega) (by omega)]; omega⟩
  have hin3 : vp_in (nI i + Int32.ofInt 3) L := vp_in_iff.mpr ⟨by rw [ty_addI ei (show (Int32.ofInt 3).toInt = 3 from rfl) (by omega) (by omega)]; omega, by rw [ty_addI ei (show (Int32.ofInt 3).toInt = 3 from rfl) (by omega) (by omega)]; omega⟩
  have hin4 : vp_in (nI i + Int32.ofInt 4) L := vp_in_iff.mpr ⟨by rw [ty_addI ei (show (Int32.ofInt 4).toInt = 4 from rfl) (by omega) (by omega)]; omega, by rw [ty_addI ei (show (Int32.ofInt 4).toInt = 4 from rfl) (by omega) (by omega)]; omega⟩
  refine gG_sp hx (i := .aload_n 1) (len := 1) (by decide +kernel) (sp_al (j := 1) h1) ?_
  refine gG_sp hx (i := .aload_n 0) (len := 1) (by decide +kernel) (sp_al (j := 0) h0) ?_
  refine gG_sp hx (i := .iload 4) (len := 2) (by decide +kernel) (sp_il2 h4) ?_
  refine gG_sp hx (i := .iconst 1) (len := 1) (by decide +kernel) rfl ?_
  refine gG_sp hx (i := .iadd) (len := 1) (by decide +kernel) rfl ?_
  refine gG_sld hx hX hbl (fun q => by omega) hin1 (by decide +kernel) ?_
  refine (gR_cV (idx := 34) hx rfl rfl (mt_X4_commit (e := 64 + t) (t := t) (D := D) hL) rfl (ci := 6) (T := TX4) (N := 13) rfl rfl (kw_at 285 (by decide +kernel)) (kw_at 1 (by decide +kernel)) (Or.inl (kw_at 282 (by decide +kernel))) (kw_at 283 (by decide +kernel)) (kw_at 284 (by decide +kernel)) (by decide +kernel) ⟨Nat.le_of_ble_eq_true rfl, Nat.le_of_ble_eq_true rfl⟩) 200 ls (.invokevirtual 34) [.ref kd, .int _] [] M σ n k (by decide +kernel) (Or.inl ⟨34, rfl, rfl⟩) s0 ⟨⟨kd, rfl, hJ.2.2.1⟩, ty_any _, trivial⟩ hJ.1 hJ.2.1 (Nat.zero_le 8) (by show n + 190 ≤ 601024; omega) (by show k + 8714 ≤ 7293000; omega) (fun v M1 σ1 q1 q2 q3 q4 q5 => ?_)
  obtain ⟨u, rfl, z, rfl, -⟩ := q4
  have hJ1 := lwJ_call hJ q1 (by decide) (by decide) q2 q3
  have hn1 : n + 190 ≤ 601024 := by omega
  have hk1 : k + 8714 ≤ 7293000 := by omega
  show gG (LX p l e s m b below meth c D) vwCl 203 ls [.int z] M1 (n + 190) (k + 8714)
  refine gG_sp hx (i := .pop) (len := 1) (by decide +kernel) rfl ?_
  refine gG_sp hx (i := .aload_n 2) (len := 1) (by decide +kernel) (sp_al (j := 2) h2) ?_
  refine gG_sp hx (i := .aload_n 0) (len := 1) (by decide +kernel) (sp_al (j := 0) h0) ?_
  refine gG_sp hx (i := .iload 4) (len := 2) (by decide +kernel) (sp_il2 h4) ?_
  refine gG_sp hx (i := .iconst 1) (len := 1) (by decide +kernel) rfl ?_
  refine gG_sp hx (i := .iadd) (len := 1) (by decide +kernel) rfl ?_
  refine gG_sld hx hX hbl (fun q => by omega) hin1 (by decide +kernel) ?_
  refine (gR_cV (idx := 38) hx rfl rfl (mt_X5_commit hL.1 pKK_s (63 + t) t (by omega) (by omega)) rfl (ci := 7) (T := TX5) (N := 22) rfl rfl (kw_at 748 (by decide +kernel)) (kw_at 10 (by decide +kernel)) (Or.inl (kw_at 745 (by decide +kernel))) (kw_at 746 (by decide +kernel)) (kw_at 747 (by decide +kernel)) (by decide +kernel) ⟨Nat.le_of_ble_eq_true rfl, Nat.le_of_ble_eq_true rfl⟩) 211 ls (.invokevirtual 38) [.ref md, .int _] [] M1 σ1 (n + 190) (k + 8714) (by decide +kernel) (Or.inl ⟨38, rfl, rfl⟩) s0 ⟨⟨md, rfl, hJ1.2.2.2.1⟩, ty_any _, trivial⟩ hJ1.1 (by rw [show 63 + t + 1 = 64 + t by omega]; exact hJ1.2.1) (Nat.zero_le 8) (by show n + 190 + 0 ≤ 601024; omega) (by show k + 8714 + 0 ≤ 7293000; omega) (fun v M2 σ2 q1 q2 q3 q4 q5 => ?_)
  obtain ⟨u, rfl, z2, rfl, -⟩ := q4
  have hJ2 : lwJ tys D cO kd md ot (63 + t + 2) (t + 1) σ2 M2 := lwJ_call hJ1 q1 (by decide) (by decide) q2 q3
  show gG (LX p l e s m b below meth c D) vwCl 214 ls [.int z2] M2 (n + 190) (k + 8714)
  refine gG_sp hx (i := .pop) (len := 1) (by decide +kernel) rfl ?_
  refine gG_goto hx (off := 294) (tgt := 509) (by decide +kernel) rfl ?_
  exact next σ2 M2 _ _ ls hs (lwJ_mono (by omega) (by omega) hJ2) (by omega) (by omega)
set_option maxRecDepth 100000 in
theorem lw_sync {p : Program} {l : Launch} {e : Env} {s : State} {m : MethodId} {below : List Frame} {meth : Method} {c : Code} {D : va_G} {tys : List (ClassId × FieldType)} {cO : ClassId} {b L : Nat} {xs : Nat → Int32} (hx : gC (LX p l e s m b below meth c D) vwCl code 7 tys kwT "KnowDiskLaw") (hX : va_X b L xs s s.heap) (hbl : b < s.heap.size) (hL : pGL cO tys pKw pKk) {kd md ot i t n k : Nat} {σ : ty_K} {M : mh_M} {ls : Array Slot} (hi : i + 5 ≤ L) (hL2 : L ≤ 2561) (ht : t ≤ 511) (hs : lwS ls b kd md ot i) (hJ : lwJ tys D cO kd md ot (64 + t) t σ M) (hn : n + 190 ≤ 601024) (hk : k + 8714 ≤ 7293000) (next : ∀ (σ' : ty_K) (M' : mh_M) (n' k' : Nat) (ls' : Array Slot), lwS ls' b kd md ot i → lwJ tys D cO kd md ot (64 + (t + 1)) (t + 1) σ' M' → n' ≤ n + 190 → k' ≤ k + 8714 → gG (LX p l e s m b below meth c D) vwCl 509 ls' [] M' n' k') : gG (LX p l e s m b below meth c D) vwCl 218 ls [] M n k := by
  obtain ⟨s0, s1, h0, h1, h2, h3, h4⟩ := id hs
  have ei : (nI i).toInt = (i : Int) := nI_tn (by omega)
  have hin1 : vp_in (nI i + Int32.ofInt 1) L := vp_in_iff.mpr ⟨by rw [ty_addI ei (show (Int32.ofInt 1).toInt = 1 from rfl) (by omega) (by omega)]; omega, by rw [ty_addI ei (show (Int32.ofInt 1).toInt = 1 from rfl) (by omega) (by omega)]; omega⟩
  have hin2 : vp_in (nI i + Int32.ofInt 2) L := vp_in_iff.mpr ⟨by rw [ty_addI ei (show (Int32.ofInt 2).toInt = 2 from rfl) (by omega) (by omega)]; omega, by rw [ty_addI ei (show (Int32.ofInt 2).toInt = 2 from rfl) (by omega) (by omega)]; omega⟩
  have hin3 : vp_in (nI i + Int32.ofInt 3) L := vp_in_iff.mpr ⟨by rw [ty_addI ei (show (Int32.ofInt 3).toInt = 3 from rfl) (by omega) (by omega)]; omega, by rw [ty_addI ei (show (Int32.ofInt 3).toInt = 3 from rfl) (by omega) (by omega)]; omega⟩
  have hin4 : vp_in (nI i + Int32.ofInt 4) L := vp_in_iff.mpr ⟨by rw [ty_addI ei (show (Int32.ofInt 4).toInt = 4 from rfl) (by omega) (by omega)]; omega, by rw [ty_addI ei (show (Int32.ofInt 4).toInt = 4 from rfl) (by omega) (by omega)]; omega⟩
  refine gG_sp hx (i := .aload_n 1) (len := 1) (by decide +kernel) (sp_al (j := 1) h1) ?_
  refine (gR_cV (idx := 39) hx rfl rfl (mt_X4_sync (e := 64 + t) (t := t) (D := D) hL) rfl (ci := 6) (T := TX4) (N := 13) rfl rfl (kw_at 390 (by decide +kernel)) (kw_at 1 (by decide +kernel)) (Or.inl (kw_at 387 (by decide +kernel))) (kw_at 388 (by decide +kernel)) (kw_at 389 (by decide +kernel)) (by decide +kernel) ⟨Nat.le_of_ble_eq_true rfl, Nat.le_of_ble_eq_true rfl⟩) 219 ls (.invokevirtual 39) [.ref kd] [] M σ n k (by decide +kernel) (Or.inl ⟨39, rfl, rfl⟩) s0 ⟨⟨kd, rfl, hJ.2.2.1⟩, trivial⟩ hJ.1 hJ.2.1 (Nat.zero_le 8) (by show n + 0 ≤ 601024; omega) (by show k + 0 ≤ 7293000; omega) (fun v M1 σ1 q1 q2 q3 q4 q5 => ?_)
  obtain ⟨u, rfl, z, rfl, -⟩ := q4
  have hJ1 := lwJ_call hJ q1 (by decide) (by decide) q2 q3
  have hn1 : n + 0 ≤ 601024 := by omega
  have hk1 : k + 0 ≤ 7293000 := by omega
  show gG (LX p l e s m b below meth c D) vwCl 222 ls [.int z] M1 (n + 0) (k + 0)
  refine gG_sp hx (i := .pop) (len := 1) (by decide +kernel) rfl ?_
  refine gG_sp hx (i := .aload_n 2) (len := 1) (by decide +kernel) (sp_al (j := 2) h2) ?_
  refine (gR_cV (idx := 43) hx rfl rfl (mt_X5_sync hL.1 pKK_s (64 + t) t (by omega)) rfl (ci := 7) (T := TX5) (N := 22) rfl rfl (kw_at 757 (by decide +kernel)) (kw_at 10 (by decide +kernel)) (Or.inl (kw_at 754 (by decide +kernel))) (kw_at 755 (by decide +kernel)) (kw_at 756 (by decide +kernel)) (by decide +kernel) ⟨Nat.le_of_ble_eq_true rfl, Nat.le_of_ble_eq_true rfl⟩) 224 ls (.invokevirtual 43) [.ref md] [] M1 σ1 (n + 0) (k + 0) (by decide +kernel) (Or.inl ⟨43, rfl, rfl⟩) s0 ⟨⟨md, rfl, hJ1.2.2.2.1⟩, trivial⟩ hJ1.1 hJ1.2.1 (Nat.zero_le 8) (by show n + 0 + 0 ≤ 601024; omega) (by show k + 0 + 0 ≤ 7293000; omega) (fun v M2 σ2 q1 q2 q3 q4 q5 => ?_)
  obtain ⟨u, rfl, z2, rfl, -⟩ := q4
  have hJ2 : lwJ tys D cO kd md ot (64 + t) (t) σ2 M2 := lwJ_call hJ1 q1 (by decide) (by decide) q2 q3
  show gG (LX p l e s m b below meth c D) vwCl 227 ls [.int z2] M2 (n + 0) (k + 0)
  refine gG_sp hx (i := .pop) (len := 1) (by decide +kernel) rfl ?_
  refine gG_goto hx (off := 281) (tgt := 509) (by decide +kernel) rfl ?_
  exact next σ2 M2 _ _ ls hs (lwJ_mono (by omega) (by omega) hJ2) (by omega) (by omega)
set_option maxRecDepth 100000 in
theorem lw_cut {p : Program} {l : Launch} {e : Env} {s : State} {m : MethodId} {below : List Frame} {meth : Method} {c : Code} {D : va_G} {tys : List (ClassId × FieldType)} {cO : ClassId} {b L : Nat} {xs : Nat → Int32} (hx : gC (LX p l e s m b below meth c D) vwCl code 7 tys kwT "KnowDiskLaw") (hX : va_X b L xs s s.heap) (hbl : b < s.heap.size) (hL : pGL cO tys pKw pKk) {kd md ot i t n k : Nat} {σ : ty_K} {M : mh_M} {ls : Array Slot} (hi : i + 5 ≤ L) (hL2 : L ≤ 2561) (ht : t ≤ 511) (hs : lwS ls b kd md ot i) (hJ : lwJ tys D cO kd md ot (64 + t) t σ M) (hn : n + 190 ≤ 601024) (hk : k + 8714 ≤ 7293000) (next : ∀ (σ' : ty_K) (M' : mh_M) (n' k' : Nat) (ls' : Array Slot), lwS ls' b kd md ot i → lwJ tys D cO kd md ot (64 + (t + 1)) (t + 1) σ' M' → n' ≤ n + 190 → k' ≤ k + 8714 → gG (LX p l e s m b below meth c D) vwCl 509 ls' [] M' n' k') : gG (LX p l e s m b below meth c D) vwCl 231 ls [] M n k := by
  obtain ⟨s0, s1, h0, h1, h2, h3, h4⟩ := id hs
  have ei : (nI i).toInt = (i : Int) := nI_tn (by omega)
  have hin1 : vp_in (nI i + Int32.ofInt 1) L := vp_in_iff.mpr ⟨by rw [ty_addI ei (show (Int32.ofInt 1).toInt = 1 from rfl) (by omega) (by omega)]; omega, by rw [ty_addI ei (show (Int32.ofInt 1).toInt = 1 from rfl) (by omega) (by omega)]; omega⟩
  have hin2 : vp_in (nI i + Int32.ofInt 2) L := vp_in_iff.mpr ⟨by rw [ty_addI ei (show (Int32.ofInt 2).toInt = 2 from rfl) (by omega) (by omega)]; omega, by rw [ty_addI ei (show (Int32.ofInt 2).toInt = 2 from rfl) (by omega) (by omega)]; omega⟩
  have hin3 : vp_in (nI i + Int32.ofInt 3) L := vp_in_iff.mpr ⟨by rw [ty_addI ei (show (Int32.ofInt 3).toInt = 3 from rfl) (by omega) (by omega)]; omega, by rw [ty_addI ei (show (Int32.ofInt 3).toInt = 3 from rfl) (by omega) (by omega)]; omega⟩
  have hin4 : vp_in (nI i + Int32.ofInt 4) L := vp_in_iff.mpr ⟨by rw [ty_addI ei (show (Int32.ofInt 4).toInt = 4 from rfl) (by omega) (by omega)]; omega, by rw [ty_addI ei (show (Int32.ofInt 4).toInt = 4 from rfl) (by omega) (by omega)]; omega⟩
  refine gG_sp hx (i := .aload_n 1) (len := 1) (by decide +kernel) (sp_al (j := 1) h1) ?_
  refine gG_sp hx (i := .aload_n 0) (len := 1) (by decide +kernel) (sp_al (j := 0) h0) ?_
  refine gG_sp hx (i := .iload 4) (len := 2) (by decide +kernel) (sp_il2 h4) ?_
  refine gG_sp hx (i := .iconst 1) (len := 1) (by decide +kernel) rfl ?_
  refine gG_sp hx (i := .iadd) (len := 1) (by decide +kernel) rfl ?_
  refine gG_sld hx hX hbl (fun q => by omega) hin1 (by decide +kernel) ?_
  refine gG_sp hx (i := .aload_n 0) (len := 1) (by decide +kernel) (sp_al (j := 0) h0) ?_
  refine gG_sp hx (i := .iload 4) (len := 2) (by decide +kernel) (sp_il2 h4) ?_
  refine gG_sp hx (i := .iconst 2) (len := 1) (by decide +kernel) rfl ?_
  refine gG_sp hx (i := .iadd) (len := 1) (by decide +kernel) rfl ?_
  refine gG_sld hx hX hbl (fun q => by omega) hin2 (by decide +kernel) ?_
  refine (gR_cV (idx := 44) hx rfl rfl (mt_X4_cut (e := 64 + t) (t := t) (D := D) hL) rfl (ci := 6) (T := TX4) (N := 13) rfl rfl (kw_at 416 (by decide +kernel)) (kw_at 1 (by decide +kernel)) (Or.inl (kw_at 413 (by decide +kernel))) (kw_at 414 (by decide +kernel)) (kw_at 415 (by decide +kernel)) (by decide +kernel) ⟨Nat.le_of_ble_eq_true rfl, Nat.le_of_ble_eq_true rfl⟩) 244 ls (.invokevirtual 44) [.ref kd, .int _, .int _] [] M σ n k (by decide +kernel) (Or.inl ⟨44, rfl, rfl⟩) s0 ⟨⟨kd, rfl, hJ.2.2.1⟩, ty_any _, ty_any _, trivial⟩ hJ.1 hJ.2.1 (Nat.zero_le 8) (by show n + 0 ≤ 601024; omega) (by show k + 0 ≤ 7293000; omega) (fun v M1 σ1 q1 q2 q3 q4 q5 => ?_)
  have q4 : v = none := q4
  subst q4
  have hJ1 := lwJ_call hJ q1 (by decide) (by decide) q2 q3
  have hn1 : n + 0 ≤ 601024 := by omega
  have hk1 : k + 0 ≤ 7293000 := by omega
  show gG (LX p l e s m b below meth c D) vwCl 247 ls [] M1 (n + 0) (k + 0)
  refine gG_sp hx (i := .aload_n 2) (len := 1) (by decide +kernel) (sp_al (j := 2) h2) ?_
  refine gG_sp hx (i := .aload_n 0) (len := 1) (by decide +kernel) (sp_al (j := 0) h0) ?_
  refine gG_sp hx (i := .iload 4) (len := 2) (by decide +kernel) (sp_il2 h4) ?_
  refine gG_sp hx (i := .iconst 1) (len := 1) (by decide +kernel) rfl ?_
  refine gG_sp hx (i := .iadd) (len := 1) (by decide +kernel) rfl ?_
  refine gG_sld hx hX hbl (fun q => by omega) hin1 (by decide +kernel) ?_
  refine gG_sp hx (i := .aload_n 0) (len := 1) (by decide +kernel) (sp_al (j := 0) h0) ?_
  refine gG_sp hx (i := .iload 4) (len := 2) (by decide +kernel) (sp_il2 h4) ?_
  refine gG_sp hx (i := .iconst 2) (len := 1) (by decide +kernel) rfl ?_
  refine gG_sp hx (i := .iadd) (len := 1) (by decide +kernel) rfl ?_
  refine gG_sld hx hX hbl (fun q => by omega) hin2 (by decide +kernel) ?_
  refine (gR_cV (idx := 48) hx rfl rfl (mt_X5_cut hL.1 pKK_s (64 + t) t (by omega) (by omega)) rfl (ci := 7) (T := TX5) (N := 22) rfl rfl (kw_at 769 (by decide +kernel)) (kw_at 10 (by decide +kernel)) (Or.inl (kw_at 766 (by decide +kernel))) (kw_at 767 (by decide +kernel)) (kw_at 768 (by decide +kernel)) (by decide +kernel) ⟨Nat.le_of_ble_eq_true rfl, Nat.le_of_ble_eq_true rfl⟩) 260 ls (.invokevirtual 48) [.ref md, .int _, .int _] [] M1 σ1 (n + 0) (k + 0) (by decide +kernel) (Or.inl ⟨48, rfl, rfl⟩) s0 ⟨⟨md, rfl, hJ1.2.2.2.1⟩, ty_any _, ty_any _, trivial⟩ hJ1.1 hJ1.2.1 (Nat.zero_le 8) (by show n + 0 + 0 ≤ 601024; omega) (by show k + 0 + 0 ≤ 7293000; omega) (fun v M2 σ2 q1 q2 q3 q4 q5 => ?_)
  have q4 : v = none := q4
  subst q4
  have hJ2 : lwJ tys D cO kd md ot (64 + t) (t) σ2 M2 := lwJ_call hJ1 q1 (by decide) (by decide) q2 q3
  show gG (LX p l e s m b below meth c D) vwCl 263 ls [] M2 (n + 0) (k + 0)
  refine gG_goto hx (off := 246) (tgt := 509) (by decide +kernel) rfl ?_
  exact next σ2 M2 _ _ ls hs (lwJ_mono (by omega) (by omega) hJ2) (by omega) (by omega)
set_option maxRecDepth 100000 in
theorem lw_start {p : Program} {l : Launch} {e : Env} {s : State} {m : MethodId} {below : List Frame} {meth : Method} {c : Code} {D : va_G} {tys : List (ClassId × FieldType)} {cO : ClassId} {b L : Nat} {xs : Nat → Int32} (hx : gC (LX p l e s m b below meth c D) vwCl code 7 tys kwT "KnowDiskLaw") (hX : va_X b L xs s s.heap) (hbl : b < s.heap.size) (hL : pGL cO tys pKw pKk) {kd md ot i t n k : Nat} {σ : ty_K} {M : mh_M} {ls : Array Slot} (hi : i + 5 ≤ L) (hL2 : L ≤ 2561) (ht : t ≤ 511) (hs : lwS ls b kd md ot i) (hJ : lwJ tys D cO kd md ot (64 + t) t σ M) (hn : n + 190 ≤ 601024) (hk : k + 8714 ≤ 7293000) (next : ∀ (σ' : ty_K) (M' : mh_M) (n' k' : Nat) (ls' : Array Slot), lwS ls' b kd md ot i → lwJ tys D cO kd md ot (64 + (t + 1)) (t + 1) σ' M' → n' ≤ n + 190 → k' ≤ k + 8714 → gG (LX p l e s m b below meth c D) vwCl 509 ls' [] M' n' k') : gG (LX p l e s m b below meth c D) vwCl 266 ls [] M n k := by
  obtain ⟨s0, s1, h0, h1, h2, h3, h4⟩ := id hs
  have ei : (nI i).toInt = (i : Int) := nI_tn (by omega)
  have hin1 : vp_in (nI i + Int32.ofInt 1) L := vp_in_iff.mpr ⟨by rw [ty_addI ei (show (Int32.ofInt 1).toInt = 1 from rfl) (by omega) (by omega)]; omega, by rw [ty_addI ei (show (Int32.ofInt 1).toInt = 1 from rfl) (by omega) (by omega)]; omega⟩
  have hin2 : vp_in (nI i + Int32.ofInt 2) L := vp_in_iff.mpr ⟨by rw [ty_addI ei (show (Int32.ofInt 2).toInt = 2 from rfl) (by omega) (by omega)]; omega, by rw [ty_addI ei (show (Int32.ofInt 2).toInt = 2 from rfl) (by omega) (by omega)]; omega⟩
  have hin3 : vp_in (nI i + Int32.ofInt 3) L := vp_in_iff.mpr ⟨by rw [ty_addI ei (show (Int32.ofInt 3).toInt = 3 from rfl) (by omega) (by omega)]; omega, by rw [ty_addI ei (show (Int32.ofInt 3).toInt = 3 from rfl) (by omega) (by omega)]; omega⟩
  have hin4 : vp_in (nI i + Int32.ofInt 4) L := vp_in_iff.mpr ⟨by rw [ty_addI ei (show (Int32.ofInt 4).toInt = 4 from rfl) (by omega) (by omega)]; omega, by rw [ty_addI ei (show (Int32.ofInt 4).toInt = 4 from rfl) (by omega) (by omega)]; omega⟩
  refine gG_sp hx (i := .aload_n 1) (len := 1) (by decide +kernel) (sp_al (j := 1) h1) ?_
  refine (gR_cV (idx := 49) hx rfl rfl (mt_X4_start (pGL_G (e := 64 + t) (t := t) (D := D) hL)) rfl (ci := 6) (T := TX4) (N := 13) rfl rfl (kw_at 425 (by decide +kernel)) (kw_at 1 (by decide +kernel)) (Or.inl (kw_at 422 (by decide +kernel))) (kw_at 423 (by decide +kernel)) (kw_at 424 (by decide +kernel)) (by decide +kernel) ⟨Nat.le_of_ble_eq_true rfl, Nat.le_of_ble_eq_true rfl⟩) 267 ls (.invokevirtual 49) [.ref kd] [] M σ n k (by decide +kernel) (Or.inl ⟨49, rfl, rfl⟩) s0 ⟨⟨kd, rfl, hJ.2.2.1⟩, trivial⟩ hJ.1 hJ.2.1 (Nat.zero_le 8) (by show n + 1 ≤ 601024; omega) (by show k + 2 ≤ 7293000; omega) (fun v M1 σ1 q1 q2 q3 q4 q5 => ?_)
  obtain ⟨u, rfl, z, rfl, -⟩ := q4
  have hJ1 := lwJ_call hJ q1 (by decide) (by decide) q2 q3
  have hn1 : n + 1 ≤ 601024 := by omega
  have hk1 : k + 2 ≤ 7293000 := by omega
  show gG (LX p l e s m b below meth c D) vwCl 270 ls [.int z] M1 (n + 1) (k + 2)
  refine gG_sp hx (i := .pop) (len := 1) (by decide +kernel) rfl ?_
  refine gG_sp hx (i := .aload_n 2) (len := 1) (by decide +kernel) (sp_al (j := 2) h2) ?_
  refine (gR_cV (idx := 52) hx rfl rfl (mt_X5_start hL.1 pKK_s (64 + t) t (by omega)) rfl (ci := 7) (T := TX5) (N := 22) rfl rfl (kw_at 773 (by decide +kernel)) (kw_at 10 (by decide +kernel)) (Or.inl (kw_at 770 (by decide +kernel))) (kw_at 771 (by decide +kernel)) (kw_at 772 (by decide +kernel)) (by decide +kernel) ⟨Nat.le_of_ble_eq_true rfl, Nat.le_of_ble_eq_true rfl⟩) 272 ls (.invokevirtual 52) [.ref md] [] M1 σ1 (n + 1) (k + 2) (by decide +kernel) (Or.inl ⟨52, rfl, rfl⟩) s0 ⟨⟨md, rfl, hJ1.2.2.2.1⟩, trivial⟩ hJ1.1 hJ1.2.1 (Nat.zero_le 8) (by show n + 1 + 0 ≤ 601024; omega) (by show k + 2 + 0 ≤ 7293000; omega) (fun v M2 σ2 q1 q2 q3 q4 q5 => ?_)
  obtain ⟨u, rfl, z2, rfl, -⟩ := q4
  have hJ2 : lwJ tys D cO kd md ot (64 + t) (t) σ2 M2 := lwJ_call hJ1 q1 (by decide) (by decide) q2 q3
  show gG (LX p l e s m b below meth c D) vwCl 275 ls [.int z2] M2 (n + 1) (k + 2)
  refine gG_sp hx (i := .pop) (len := 1) (by decide +kernel) rfl ?_
  refine gG_goto hx (off := 233) (tgt := 509) (by decide +kernel) rfl ?_
  exact next σ2 M2 _ _ ls hs (lwJ_mono (by omega) (by omega) hJ2) (by omega) (by omega)
set_option maxRecDepth 100000 in
theorem lw_poke {p : Program} {l : Launch} {e : Env} {s : State} {m : MethodId} {below : List Frame} {meth : Method} {c : Code} {D : va_G} {tys : List (ClassId × FieldType)} {cO : ClassId} {b L : Nat} {xs : Nat → Int32} (hx : gC (LX p l e s m b below meth c D) vwCl code 7 tys kwT "KnowDiskLaw") (hX : va_X b L xs s s.heap) (hbl : b < s.heap.size) (hL : pGL cO tys pKw pKk) {kd md ot i t n k : Nat} {σ : ty_K} {M : mh_M} {ls : Array Slot} (hi : i + 5 ≤ L) (hL2 : L ≤ 2561) (ht : t ≤ 511) (hs : lwS ls b kd md ot i) (hJ : lwJ tys D cO kd md ot (64 + t) t σ M) (hn : n + 190 ≤ 601024) (hk : k + 8714 ≤ 7293000) (next : ∀ (σ' : ty_K) (M' : mh_M) (n' k' : Nat) (ls' : Array Slot), lwS ls' b kd md ot i → lwJ tys D cO kd md ot (64 + (t + 1)) (t + 1) σ' M' → n' ≤ n + 190 → k' ≤ k + 8714 → gG (LX p l e s m b below meth c D) vwCl 509 ls' [] M' n' k') : gG (LX p l e s m b below meth c D) vwCl 319 ls [] M n k := by
  obtain ⟨s0, s1, h0, h1, h2, h3, h4⟩ := id hs
  have ei : (nI i).toInt = (i : Int) := nI_tn (by omega)
  have hin1 : vp_in (nI i + Int32.ofInt 1) L := vp_in_iff.mpr ⟨by rw [ty_addI ei (show (Int32.ofInt 1).toInt = 1 from rfl) (by omega) (by omega)]; omega, by rw [ty_addI ei (show (Int32.ofInt 1).toInt = 1 from rfl) (by omega) (by omega)]; omega⟩
  have hin2 : vp_in (nI i + Int32.ofInt 2) L := vp_in_iff.mpr ⟨by rw [ty_addI ei (show (Int32.ofInt 2).toInt = 2 from rfl) (by omega) (by omega)]; omega, by rw [ty_addI ei (show (Int32.ofInt 2).toInt = 2 from rfl) (by omega) (by omega)]; omega⟩
  have hin3 : vp_in (nI i + Int32.ofInt 3) L := vp_in_iff.mpr ⟨by rw [ty_addI ei (show (Int32.ofInt 3).toInt = 3 from rfl) (by omega) (by omega)]; omega, by rw [ty_addI ei (show (Int32.ofInt 3).toInt = 3 from rfl) (by omega) (by omega)]; omega⟩
  have hin4 : vp_in (nI i + Int32.ofInt 4) L := vp_in_iff.mpr ⟨by rw [ty_addI ei (show (Int32.ofInt 4).toInt = 4 from rfl) (by omega) (by omega)]; omega, by rw [ty_addI ei (show (Int32.ofInt 4).toInt = 4 from rfl) (by omega) (by omega)]; omega⟩
  refine gG_sp hx (i := .aload_n 1) (len := 1) (by decide +kernel) (sp_al (j := 1) h1) ?_
  refine gG_sp hx (i := .aload_n 0) (len := 1) (by decide +kernel) (sp_al (j := 0) h0) ?_
  refine gG_sp hx (i := .iload 4) (len := 2) (by decide +kernel) (sp_il2 h4) ?_
  refine gG_sp hx (i := .iconst 1) (len := 1) (by decide +kernel) rfl ?_
  refine gG_sp hx (i := .iadd) (len := 1) (by decide +kernel) rfl ?_
  refine gG_sld hx hX hbl (fun q => by omega) hin1 (by decide +kernel) ?_
  refine gG_sp hx (i := .aload_n 0) (len := 1) (by decide +kernel) (sp_al (j := 0) h0) ?_
  refine gG_sp hx (i := .iload 4) (len := 2) (by decide +kernel) (sp_il2 h4) ?_
  refine gG_sp hx (i := .iconst 2) (len := 1) (by decide +kernel) rfl ?_
  refine gG_sp hx (i := .iadd) (len := 1) (by decide +kernel) rfl ?_
  refine gG_sld hx hX hbl (fun q => by omega) hin2 (by decide +kernel) ?_
  refine gG_sp hx (i := .aload_n 0) (len := 1) (by decide +kernel) (sp_al (j := 0) h0) ?_
  refine gG_sp hx (i := .iload 4) (len := 2) (by decide +kernel) (sp_il2 h4) ?_
  refine gG_sp hx (i := .iconst 3) (len := 1) (by decide +kernel) rfl ?_
  refine gG_sp hx (i := .iadd) (len := 1) (by decide +kernel) rfl ?_
  refine gG_sld hx hX hbl (fun q => by omega) hin3 (by decide +kernel) ?_
  refine (gR_cV (idx := 57) hx rfl rfl (mt_X4_poke (pGL_G (e := 64 + t) (t := t) (D := D) hL)) rfl (ci := 6) (T := TX4) (N := 13) rfl rfl (kw_at 457 (by decide +kernel)) (kw_at 1 (by decide +kernel)) (Or.inl (kw_at 454 (by decide +kernel))) (kw_at 455 (by decide +kernel)) (kw_at 456 (by decide +kernel)) (by decide +kernel) ⟨Nat.le_of_ble_eq_true rfl, Nat.le_of_ble_eq_true rfl⟩) 338 ls (.invokevirtual 57) [.ref kd, .int _, .int _, .int _] [] M σ n k (by decide +kernel) (Or.inl ⟨57, rfl, rfl⟩) s0 ⟨⟨kd, rfl, hJ.2.2.1⟩, ty_any _, ty_any _, ty_any _, trivial⟩ hJ.1 hJ.2.1 (Nat.zero_le 8) (by show n + 0 ≤ 601024; omega) (by show k + 0 ≤ 7293000; omega) (fun v M1 σ1 q1 q2 q3 q4 q5 => ?_)
  obtain ⟨u, rfl, z, rfl, -⟩ := q4
  have hJ1 := lwJ_call hJ q1 (by decide) (by decide) q2 q3
  have hn1 : n + 0 ≤ 601024 := by omega
  have hk1 : k + 0 ≤ 7293000 := by omega
  show gG (LX p l e s m b below meth c D) vwCl 341 ls [.int z] M1 (n + 0) (k + 0)
  refine gG_sp hx (i := .pop) (len := 1) (by decide +kernel) rfl ?_
  refine gG_sp hx (i := .aload_n 2) (len := 1) (by decide +kernel) (sp_al (j := 2) h2) ?_
  refine gG_sp hx (i := .aload_n 0) (len := 1) (by decide +kernel) (sp_al (j := 0) h0) ?_
  refine gG_sp hx (i := .iload 4) (len := 2) (by decide +kernel) (sp_il2 h4) ?_
  refine gG_sp hx (i := .iconst 1) (len := 1) (by decide +kernel) rfl ?_
  refine gG_sp hx (i := .iadd) (len := 1) (by decide +kernel) rfl ?_
  refine gG_sld hx hX hbl (fun q => by omega) hin1 (by decide +kernel) ?_
  refine gG_sp hx (i := .aload_n 0) (len := 1) (by decide +kernel) (sp_al (j := 0) h0) ?_
  refine gG_sp hx (i := .iload 4) (len := 2) (by decide +kernel) (sp_il2 h4) ?_
  refine gG_sp hx (i := .iconst 2) (len := 1) (by decide +kernel) rfl ?_
  refine gG_sp hx (i := .iadd) (len := 1) (by decide +kernel) rfl ?_
  refine gG_sld hx hX hbl (fun q => by omega) hin2 (by decide +kernel) ?_
  refine gG_sp hx (i := .aload_n 0) (len := 1) (by decide +kernel) (sp_al (j := 0) h0) ?_
  refine gG_sp hx (i := .iload 4) (len := 2) (by decide +kernel) (sp_il2 h4) ?_
  refine gG_sp hx (i := .iconst 3) (len := 1) (by decide +kernel) rfl ?_
  refine gG_sp hx (i := .iadd) (len := 1) (by decide +kernel) rfl ?_
  refine gG_sld hx hX hbl (fun q => by omega) hin3 (by decide +kernel) ?_
  refine (gR_cV (idx := 61) hx rfl rfl (mt_X5_poke (pGL_G (e := 64 + t) (t := t) (D := D) hL)) rfl (ci := 7) (T := TX5) (N := 22) rfl rfl (kw_at 785 (by decide +kernel)) (kw_at 10 (by decide +kernel)) (Or.inl (kw_at 782 (by decide +kernel))) (kw_at 783 (by decide +kernel)) (kw_at 784 (by decide +kernel)) (by decide +kernel) ⟨Nat.le_of_ble_eq_true rfl, Nat.le_of_ble_eq_true rfl⟩) 361 ls (.invokevirtual 61) [.ref md, .int _, .int _, .int _] [] M1 σ1 (n + 0) (k + 0) (by decide +kernel) (Or.inl ⟨61, rfl, rfl⟩) s0 ⟨⟨md, rfl, hJ1.2.2.2.1⟩, ty_any _, ty_any _, ty_any _, trivial⟩ hJ1.1 hJ1.2.1 (Nat.zero_le 8) (by show n + 0 + 0 ≤ 601024; omega) (by show k + 0 + 0 ≤ 7293000; omega) (fun v M2 σ2 q1 q2 q3 q4 q5 => ?_)
  obtain ⟨u, rfl, z2, rfl, -⟩ := q4
  have hJ2 : lwJ tys D cO kd md ot (64 + t) (t) σ2 M2 := lwJ_call hJ1 q1 (by decide) (by decide) q2 q3
  show gG (LX p l e s m b below meth c D) vwCl 364 ls [.int z2] M2 (n + 0) (k + 0)
  refine gG_sp hx (i := .pop) (len := 1) (by decide +kernel) rfl ?_
  refine gG_goto hx (off := 144) (tgt := 509) (by decide +kernel) rfl ?_
  exact next σ2 M2 _ _ ls hs (lwJ_mono (by omega) (by omega) hJ2) (by omega) (by omega)
set_option maxRecDepth 100000 in
theorem lw_wrong {p : Program} {l : Launch} {e : Env} {s : State} {m : MethodId} {below : List Frame} {meth : Method} {c : Code} {D : va_G} {tys : List (ClassId × FieldType)} {cO : ClassId} {b L : Nat} {xs : Nat → Int32} (hx : gC (LX p l e s m b below meth c D) vwCl code 7 tys kwT "KnowDiskLaw") (hX : va_X b L xs s s.heap) (hbl : b < s.heap.size) (hL : pGL cO tys pKw pKk) {kd md ot i t n k : Nat} {σ : ty_K} {M : mh_M} {ls : Array Slot} (hi : i + 5 ≤ L) (hL2 : L ≤ 2561) (ht : t ≤ 511) (hs : lwS ls b kd md ot i) (hJ : lwJ tys D cO kd md ot (64 + t) t σ M) (hn : n + 190 ≤ 601024) (hk : k + 8714 ≤ 7293000) (next : ∀ (σ' : ty_K) (M' : mh_M) (n' k' : Nat) (ls' : Array Slot), lwS ls' b kd md ot i → lwJ tys D cO kd md ot (64 + (t + 1)) (t + 1) σ' M' → n' ≤ n + 190 → k' ≤ k + 8714 → gG (LX p l e s m b below meth c D) vwCl 509 ls' [] M' n' k') : gG (LX p l e s m b below meth c D) vwCl 368 ls [] M n k := by
  obtain ⟨s0, s1, h0, h1, h2, h3, h4⟩ := id hs
  have ei : (nI i).toInt = (i : Int) := nI_tn (by omega)
  have hin1 : vp_in (nI i + Int32.ofInt 1) L := vp_in_iff.mpr ⟨by rw [ty_addI ei (show (Int32.ofInt 1).toInt = 1 from rfl) (by omega) (by omega)]; omega, by rw [ty_addI ei (show (Int32.ofInt 1).toInt = 1 from rfl) (by omega) (by omega)]; omega⟩
  have hin2 : vp_in (nI i + Int32.ofInt 2) L := vp_in_iff.mpr ⟨by rw [ty_addI ei (show (Int32.ofInt 2).toInt = 2 from rfl) (by omega) (by omega)]; omega, by rw [ty_addI ei (show (Int32.ofInt 2).toInt = 2 from rfl) (by omega) (by omega)]; omega⟩
  have hin3 : vp_in (nI i + Int32.ofInt 3) L := vp_in_iff.mpr ⟨by rw [ty_addI ei (show (Int32.ofInt 3).toInt = 3 from rfl) (by omega) (by omega)]; omega, by rw [ty_addI ei (show (Int32.ofInt 3).toInt = 3 from rfl) (by omega) (by omega)]; omega⟩
  have hin4 : vp_in (nI i + Int32.ofInt 4) L := vp_in_iff.mpr ⟨by rw [ty_addI ei (show (Int32.ofInt 4).toInt = 4 from rfl) (by omega) (by omega)]; omega, by rw [ty_addI ei (show (Int32.ofInt 4).toInt = 4 from rfl) (by omega) (by omega)]; omega⟩
  refine gG_sp hx (i := .aload_n 1) (len := 1) (by decide +kernel) (sp_al (j := 1) h1) ?_
  refine gG_sp hx (i := .aload_n 0) (len := 1) (by decide +kernel) (sp_al (j := 0) h0) ?_
  refine gG_sp hx (i := .iload 4) (len := 2) (by decide +kernel) (sp_il2 h4) ?_
  refine gG_sp hx (i := .iconst 1) (len := 1) (by decide +kernel) rfl ?_
  refine gG_sp hx (i := .iadd) (len := 1) (by decide +kernel) rfl ?_
  refine gG_sld hx hX hbl (fun q => by omega) hin1 (by decide +kernel) ?_
  refine (gR_cV (idx := 62) hx rfl rfl (mt_X4_wrong (pGL_G (e := 64 + t) (t := t) (D := D) hL)) rfl (ci := 6) (T := TX4) (N := 13) rfl rfl (kw_at 462 (by decide +kernel)) (kw_at 1 (by decide +kernel)) (Or.inl (kw_at 459 (by decide +kernel))) (kw_at 460 (by decide +kernel)) (kw_at 461 (by decide +kernel)) (by decide +kernel) ⟨Nat.le_of_ble_eq_true rfl, Nat.le_of_ble_eq_true rfl⟩) 375 ls (.invokevirtual 62) [.ref kd, .int _] [] M σ n k (by decide +kernel) (Or.inl ⟨62, rfl, rfl⟩) s0 ⟨⟨kd, rfl, hJ.2.2.1⟩, ty_any _, trivial⟩ hJ.1 hJ.2.1 (Nat.zero_le 8) (by show n + 0 ≤ 601024; omega) (by show k + 0 ≤ 7293000; omega) (fun v M1 σ1 q1 q2 q3 q4 q5 => ?_)
  obtain ⟨u, rfl, z, rfl, -⟩ := q4
  have hJ1 := lwJ_call hJ q1 (by decide) (by decide) q2 q3
  have hn1 : n + 0 ≤ 601024 := by omega
  have hk1 : k + 0 ≤ 7293000 := by omega
  show gG (LX p l e s m b below meth c D) vwCl 378 ls [.int z] M1 (n + 0) (k + 0)
  refine gG_sp hx (i := .pop) (len := 1) (by decide +kernel) rfl ?_
  refine gG_sp hx (i := .aload_n 2) (len := 1) (by decide +kernel) (sp_al (j := 2) h2) ?_
  refine gG_sp hx (i := .aload_n 0) (len := 1) (by decide +kernel) (sp_al (j := 0) h0) ?_
  refine gG_sp hx (i := .iload 4) (len := 2) (by decide +kernel) (sp_il2 h4) ?_
  refine gG_sp hx (i := .iconst 1) (len := 1) (by decide +kernel) rfl ?_
  refine gG_sp hx (i := .iadd) (len := 1) (by decide +kernel) rfl ?_
  refine gG_sld hx hX hbl (fun q => by omega) hin1 (by decide +kernel) ?_
  refine (gR_cV (idx := 65) hx rfl rfl (mt_X5_wrong (pGL_G (e := 64 + t) (t := t) (D := D) hL)) rfl (ci := 7) (T := TX5) (N := 22) rfl rfl (kw_at 789 (by decide +kernel)) (kw_at 10 (by decide +kernel)) (Or.inl (kw_at 786 (by decide +kernel))) (kw_at 787 (by decide +kernel)) (kw_at 788 (by decide +kernel)) (by decide +kernel) ⟨Nat.le_of_ble_eq_true rfl, Nat.le_of_ble_eq_true rfl⟩) 386 ls (.invokevirtual 65) [.ref md, .int _] [] M1 σ1 (n + 0) (k + 0) (by decide +kernel) (Or.inl ⟨65, rfl, rfl⟩) s0 ⟨⟨md, rfl, hJ1.2.2.2.1⟩, ty_any _, trivial⟩ hJ1.1 hJ1.2.1 (Nat.zero_le 8) (by show n + 0 + 0 ≤ 601024; omega) (by show k + 0 + 0 ≤ 7293000; omega) (fun v M2 σ2 q1 q2 q3 q4 q5 => ?_)
  obtain ⟨u, rfl, z2, rfl, -⟩ := q4
  have hJ2 : lwJ tys D cO kd md ot (64 + t) (t) σ2 M2 := lwJ_call hJ1 q1 (by decide) (by decide) q2 q3
  show gG (LX p l e s m b below meth c D) vwCl 389 ls [.int z2] M2 (n + 0) (k + 0)
  refine gG_sp hx (i := .pop) (len := 1) (by decide +kernel) rfl ?_
  refine gG_goto hx (off := 119) (tgt := 509) (by decide +kernel) rfl ?_
  exact next σ2 M2 _ _ ls hs (lwJ_mono (by omega) (by omega) hJ2) (by omega) (by omega)
set_option maxRecDepth 100000 in
theorem lw_backup {p : Program} {l : Launch} {e : Env} {s : State} {m : MethodId} {below : List Frame} {meth : Method} {c : Code} {D : va_G} {tys : List (ClassId × FieldType)} {cO : ClassId} {b L : Nat} {xs : Nat → Int32} (hx : gC (LX p l e s m b below meth c D) vwCl code 7 tys kwT "KnowDiskLaw") (hX : va_X b L xs s s.heap) (hbl : b < s.heap.size) (hL : pGL cO tys pKw pKk) {kd md ot i t n k : Nat} {σ : ty_K} {M : mh_M} {ls : Array Slot} (hi : i + 5 ≤ L) (hL2 : L ≤ 2561) (ht : t ≤ 511) (hs : lwS ls b kd md ot i) (hJ : lwJ tys D cO kd md ot (64 + t) t σ M) (hn : n + 190 ≤ 601024) (hk : k + 8714 ≤ 7293000) (next : ∀ (σ' : ty_K) (M' : mh_M) (n' k' : Nat) (ls' : Array Slot), lwS ls' b kd md ot i → lwJ tys D cO kd md ot (64 + (t + 1)) (t + 1) σ' M' → n' ≤ n + 190 → k' ≤ k + 8714 → gG (LX p l e s m b below meth c D) vwCl 509 ls' [] M' n' k') : gG (LX p l e s m b below meth c D) vwCl 393 ls [] M n k := by
  obtain ⟨s0, s1, h0, h1, h2, h3, h4⟩ := id hs
  have ei : (nI i).toInt = (i : Int) := nI_tn (by omega)
  have hin1 : vp_in (nI i + Int32.ofInt 1) L := vp_in_iff.mpr ⟨by rw [ty_addI ei (show (Int32.ofInt 1).toInt = 1 from rfl) (by omega) (by omega)]; omega, by rw [ty_addI ei (show (Int32.ofInt 1).toInt = 1 from rfl) (by omega) (by omega)]; omega⟩
  have hin2 : vp_in (nI i + Int32.ofInt 2) L := vp_in_iff.mpr ⟨by rw [ty_addI ei (show (Int32.ofInt 2).toInt = 2 from rfl) (by omega) (by omega)]; omega, by rw [ty_addI ei (show (Int32.ofInt 2).toInt = 2 from rfl) (by omega) (by omega)]; omega⟩
  have hin3 : vp_in (nI i + Int32.ofInt 3) L := vp_in_iff.mpr ⟨by rw [ty_addI ei (show (Int32.ofInt 3).toInt = 3 from rfl) (by omega) (by omega)]; omega, by rw [ty_addI ei (show (Int32.ofInt 3).toInt = 3 from rfl) (by omega) (by omega)]; omega⟩
  have hin4 : vp_in (nI i + Int32.ofInt 4) L := vp_in_iff.mpr ⟨by rw [ty_addI ei (show (Int32.ofInt 4).toInt = 4 from rfl) (by omega) (by omega)]; omega, by rw [ty_addI ei (show (Int32.ofInt 4).toInt = 4 from rfl) (by omega) (by omega)]; omega⟩
  refine gG_sp hx (i := .aload_n 1) (len := 1) (by decide +kernel) (sp_al (j := 1) h1) ?_
  refine gG_sp hx (i := .aload_n 0) (len := 1) (by decide +kernel) (sp_al (j := 0) h0) ?_
  refine gG_sp hx (i := .iload 4) (len := 2) (by decide +kernel) (sp_il2 h4) ?_
  refine gG_sp hx (i := .iconst 1) (len := 1) (by decide +kernel) rfl ?_
  refine gG_sp hx (i := .iadd) (len := 1) (by decide +kernel) rfl ?_
  refine gG_sld hx hX hbl (fun q => by omega) hin1 (by decide +kernel) ?_
  refine (gR_cV (idx := 66) hx rfl rfl (mt_X4_backup (e := 64 + t) (t := t) (D := D) hL) rfl (ci := 6) (T := TX4) (N := 13) rfl rfl (kw_at 478 (by decide +kernel)) (kw_at 1 (by decide +kernel)) (Or.inl (kw_at 475 (by decide +kernel))) (kw_at 476 (by decide +kernel)) (kw_at 477 (by decide +kernel)) (by decide +kernel) ⟨Nat.le_of_ble_eq_true rfl, Nat.le_of_ble_eq_true rfl⟩) 400 ls (.invokevirtual 66) [.ref kd, .int _] [] M σ n k (by decide +kernel) (Or.inl ⟨66, rfl, rfl⟩) s0 ⟨⟨kd, rfl, hJ.2.2.1⟩, ty_any _, trivial⟩ hJ.1 hJ.2.1 (Nat.zero_le 8) (by show n + 1 ≤ 601024; omega) (by show k + 10 ≤ 7293000; omega) (fun v M1 σ1 q1 q2 q3 q4 q5 => ?_)
  obtain ⟨u, rfl, z, rfl, -⟩ := q4
  have hJ1 := lwJ_call hJ q1 (by decide) (by decide) q2 q3
  have hn1 : n + 1 ≤ 601024 := by omega
  have hk1 : k + 10 ≤ 7293000 := by omega
  show gG (LX p l e s m b below meth c D) vwCl 403 ls [.int z] M1 (n + 1) (k + 10)
  refine gG_sp hx (i := .pop) (len := 1) (by decide +kernel) rfl ?_
  refine gG_sp hx (i := .aload_n 2) (len := 1) (by decide +kernel) (sp_al (j := 2) h2) ?_
  refine gG_sp hx (i := .aload_n 0) (len := 1) (by decide +kernel) (sp_al (j := 0) h0) ?_
  refine gG_sp hx (i := .iload 4) (len := 2) (by decide +kernel) (sp_il2 h4) ?_
  refine gG_sp hx (i := .iconst 1) (len := 1) (by decide +kernel) rfl ?_
  refine gG_sp hx (i := .iadd) (len := 1) (by decide +kernel) rfl ?_
  refine gG_sld hx hX hbl (fun q => by omega) hin1 (by decide +kernel) ?_
  refine (gR_cV (idx := 69) hx rfl rfl (mt_X5_backup hL.1 pKK_s (64 + t) t) rfl (ci := 7) (T := TX5) (N := 22) rfl rfl (kw_at 793 (by decide +kernel)) (kw_at 10 (by decide +kernel)) (Or.inl (kw_at 790 (by decide +kernel))) (kw_at 791 (by decide +kernel)) (kw_at 792 (by decide +kernel)) (by decide +kernel) ⟨Nat.le_of_ble_eq_true rfl, Nat.le_of_ble_eq_true rfl⟩) 411 ls (.invokevirtual 69) [.ref md, .int _] [] M1 σ1 (n + 1) (k + 10) (by decide +kernel) (Or.inl ⟨69, rfl, rfl⟩) s0 ⟨⟨md, rfl, hJ1.2.2.2.1⟩, ty_any _, trivial⟩ hJ1.1 hJ1.2.1 (Nat.zero_le 8) (by show n + 1 + 0 ≤ 601024; omega) (by show k + 10 + 0 ≤ 7293000; omega) (fun v M2 σ2 q1 q2 q3 q4 q5 => ?_)
  obtain ⟨u, rfl, z2, rfl, -⟩ := q4
  have hJ2 : lwJ tys D cO kd md ot (64 + t) (t) σ2 M2 := lwJ_call hJ1 q1 (by decide) (by decide) q2 q3
  show gG (LX p l e s m b below meth c D) vwCl 414 ls [.int z2] M2 (n + 1) (k + 10)
  refine gG_sp hx (i := .pop) (len := 1) (by decide +kernel) rfl ?_
  refine gG_goto hx (off := 94) (tgt := 509) (by decide +kernel) rfl ?_
  exact next σ2 M2 _ _ ls hs (lwJ_mono (by omega) (by omega) hJ2) (by omega) (by omega)
set_option maxRecDepth 100000 in
theorem lw_drop {p : Program} {l : Launch} {e : Env} {s : State} {m : MethodId} {below : List Frame} {meth : Method} {c : Code} {D : va_G} {tys : List (ClassId × FieldType)} {cO : ClassId} {b L : Nat} {xs : Nat → Int32} (hx : gC (LX p l e s m b below meth c D) vwCl code 7 tys kwT "KnowDiskLaw") (hX : va_X b L xs s s.heap) (hbl : b < s.heap.size) (hL : pGL cO tys pKw pKk) {kd md ot i t n k : Nat} {σ : ty_K} {M : mh_M} {ls : Array Slot} (hi : i + 5 ≤ L) (hL2 : L ≤ 2561) (ht : t ≤ 511) (hs : lwS ls b kd md ot i) (hJ : lwJ tys D cO kd md ot (64 + t) t σ M) (hn : n + 190 ≤ 601024) (hk : k + 8714 ≤ 7293000) (next : ∀ (σ' : ty_K) (M' : mh_M) (n' k' : Nat) (ls' : Array Slot), lwS ls' b kd md ot i → lwJ tys D cO kd md ot (64 + (t + 1)) (t + 1) σ' M' → n' ≤ n + 190 → k' ≤ k + 8714 → gG (LX p l e s m b below meth c D) vwCl 509 ls' [] M' n' k') : gG (LX p l e s m b below meth c D) vwCl 418 ls [] M n k := by
  obtain ⟨s0, s1, h0, h1, h2, h3, h4⟩ := id hs
  have ei : (nI i).toInt = (i : Int) := nI_tn (by omega)
  have hin1 : vp_in (nI i + Int32.ofInt 1) L := vp_in_iff.mpr ⟨by rw [ty_addI ei (show (Int32.ofInt 1).toInt = 1 from rfl) (by omega) (by omega)]; omega, by rw [ty_addI ei (show (Int32.ofInt 1).toInt = 1 from rfl) (by omega) (by omega)]; omega⟩
  have hin2 : vp_in (nI i + Int32.ofInt 2) L := vp_in_iff.mpr ⟨by rw [ty_addI ei (show (Int32.ofInt 2).toInt = 2 from rfl) (by omega) (by omega)]; omega, by rw [ty_addI ei (show (Int32.ofInt 2).toInt = 2 from rfl) (by omega) (by omega)]; omega⟩
  have hin3 : vp_in (nI i + Int32.ofInt 3) L := vp_in_iff.mpr ⟨by rw [ty_addI ei (show (Int32.ofInt 3).toInt = 3 from rfl) (by omega) (by omega)]; omega, by rw [ty_addI ei (show (Int32.ofInt 3).toInt = 3 from rfl) (by omega) (by omega)]; omega⟩
  have hin4 : vp_in (nI i + Int32.ofInt 4) L := vp_in_iff.mpr ⟨by rw [ty_addI ei (show (Int32.ofInt 4).toInt = 4 from rfl) (by omega) (by omega)]; omega, by rw [ty_addI ei (show (Int32.ofInt 4).toInt = 4 from rfl) (by omega) (by omega)]; omega⟩
  refine gG_sp hx (i := .aload_n 1) (len := 1) (by decide +kernel) (sp_al (j := 1) h1) ?_
  refine gG_sp hx (i := .aload_n 0) (len := 1) (by decide +kernel) (sp_al (j := 0) h0) ?_
  refine gG_sp hx (i := .iload 4) (len := 2) (by decide +kernel) (sp_il2 h4) ?_
  refine gG_sp hx (i := .iconst 1) (len := 1) (by decide +kernel) rfl ?_
  refine gG_sp hx (i := .iadd) (len := 1) (by decide +kernel) rfl ?_
  refine gG_sld hx hX hbl (fun q => by omega) hin1 (by decide +kernel) ?_
  refine (gR_cV (idx := 70) hx rfl rfl (mt_X4_drop (e := 64 + t) (t := t) (D := D) hL) rfl (ci := 6) (T := TX4) (N := 13) rfl rfl (kw_at 483 (by decide +kernel)) (kw_at 1 (by decide +kernel)) (Or.inl (kw_at 480 (by decide +kernel))) (kw_at 481 (by decide +kernel)) (kw_at 482 (by decide +kernel)) (by decide +kernel) ⟨Nat.le_of_ble_eq_true rfl, Nat.le_of_ble_eq_true rfl⟩) 425 ls (.invokevirtual 70) [.ref kd, .int _] [] M σ n k (by decide +kernel) (Or.inl ⟨70, rfl, rfl⟩) s0 ⟨⟨kd, rfl, hJ.2.2.1⟩, ty_any _, trivial⟩ hJ.1 hJ.2.1 (Nat.zero_le 8) (by show n + 0 ≤ 601024; omega) (by show k + 0 ≤ 7293000; omega) (fun v M1 σ1 q1 q2 q3 q4 q5 => ?_)
  obtain ⟨u, rfl, z, rfl, -⟩ := q4
  have hJ1 := lwJ_call hJ q1 (by decide) (by decide) q2 q3
  have hn1 : n + 0 ≤ 601024 := by omega
  have hk1 : k + 0 ≤ 7293000 := by omega
  show gG (LX p l e s m b below meth c D) vwCl 428 ls [.int z] M1 (n + 0) (k + 0)
  refine gG_sp hx (i := .pop) (len := 1) (by decide +kernel) rfl ?_
  refine gG_sp hx (i := .aload_n 2) (len := 1) (by decide +kernel) (sp_al (j := 2) h2) ?_
  refine gG_sp hx (i := .aload_n 0) (len := 1) (by decide +kernel) (sp_al (j := 0) h0) ?_
  refine gG_sp hx (i := .iload 4) (len := 2) (by decide +kernel) (sp_il2 h4) ?_
  refine gG_sp hx (i := .iconst 1) (len := 1) (by decide +kernel) rfl ?_
  refine gG_sp hx (i := .iadd) (len := 1) (by decide +kernel) rfl ?_
  refine gG_sld hx hX hbl (fun q => by omega) hin1 (by decide +kernel) ?_
  refine (gR_cV (idx := 73) hx rfl rfl (mt_X5_drop hL.1 pKK_s (64 + t) t) rfl (ci := 7) (T := TX5) (N := 22) rfl rfl (kw_at 800 (by decide +kernel)) (kw_at 10 (by decide +kernel)) (Or.inl (kw_at 797 (by decide +kernel))) (kw_at 798 (by decide +kernel)) (kw_at 799 (by decide +kernel)) (by decide +kernel) ⟨Nat.le_of_ble_eq_true rfl, Nat.le_of_ble_eq_true rfl⟩) 436 ls (.invokevirtual 73) [.ref md, .int _] [] M1 σ1 (n + 0) (k + 0) (by decide +kernel) (Or.inl ⟨73, rfl, rfl⟩) s0 ⟨⟨md, rfl, hJ1.2.2.2.1⟩, ty_any _, trivial⟩ hJ1.1 hJ1.2.1 (Nat.zero_le 8) (by show n + 0 + 0 ≤ 601024; omega) (by show k + 0 + 0 ≤ 7293000; omega) (fun v M2 σ2 q1 q2 q3 q4 q5 => ?_)
  obtain ⟨u, rfl, z2, rfl, -⟩ := q4
  have hJ2 : lwJ tys D cO kd md ot (64 + t) (t) σ2 M2 := lwJ_call hJ1 q1 (by decide) (by decide) q2 q3
  show gG (LX p l e s m b below meth c D) vwCl 439 ls [.int z2] M2 (n + 0) (k + 0)
  refine gG_sp hx (i := .pop) (len := 1) (by decide +kernel) rfl ?_
  refine gG_goto hx (off := 69) (tgt := 509) (by decide +kernel) rfl ?_
  exact next σ2 M2 _ _ ls hs (lwJ_mono (by omega) (by omega) hJ2) (by omega) (by omega)
set_option maxRecDepth 100000 in
theorem lw_derived {p : Program} {l : Launch} {e : Env} {s : State} {m : MethodId} {below : List Frame} {meth : Method} {c : Code} {D : va_G} {tys : List (ClassId × FieldType)} {cO : ClassId} {b L : Nat} {xs : Nat → Int32} (hx : gC (LX p l e s m b below meth c D) vwCl code 7 tys kwT "KnowDiskLaw") (hX : va_X b L xs s s.heap) (hbl : b < s.heap.size) (hL : pGL cO tys pKw pKk) {kd md ot i t n k : Nat} {σ : ty_K} {M : mh_M} {ls : Array Slot} (hi : i + 5 ≤ L) (hL2 : L ≤ 2561) (ht : t ≤ 511) (hs : lwS ls b kd md ot i) (hJ : lwJ tys D cO kd md ot (64 + t) t σ M) (hn : n + 190 ≤ 601024) (hk : k + 8714 ≤ 7293000) (next : ∀ (σ' : ty_K) (M' : mh_M) (n' k' : Nat) (ls' : Array Slot), lwS ls' b kd md ot i → lwJ tys D cO kd md ot (64 + (t + 1)) (t + 1) σ' M' → n' ≤ n + 190 → k' ≤ k + 8714 → gG (LX p l e s m b below meth c D) vwCl 509 ls' [] M' n' k') : gG (LX p l e s m b below meth c D) vwCl 443 ls [] M n k := by
  obtain ⟨s0, s1, h0, h1, h2, h3, h4⟩ := id hs
  have ei : (nI i).toInt = (i : Int) := nI_tn (by omega)
  have hin1 : vp_in (nI i + Int32.ofInt 1) L := vp_in_iff.mpr ⟨by rw [ty_addI ei (show (Int32.ofInt 1).toInt = 1 from rfl) (by omega) (by omega)]; omega, by rw [ty_addI ei (show (Int32.ofInt 1).toInt = 1 from rfl) (by omega) (by omega)]; omega⟩
  have hin2 : vp_in (nI i + Int32.ofInt 2) L := vp_in_iff.mpr ⟨by rw [ty_addI ei (show (Int32.ofInt 2).toInt = 2 from rfl) (by omega) (by omega)]; omega, by rw [ty_addI ei (show (Int32.ofInt 2).toInt = 2 from rfl) (by omega) (by omega)]; omega⟩
  have hin3 : vp_in (nI i + Int32.ofInt 3) L := vp_in_iff.mpr ⟨by rw [ty_addI ei (show (Int32.ofInt 3).toInt = 3 from rfl) (by omega) (by omega)]; omega, by rw [ty_addI ei (show (Int32.ofInt 3).toInt = 3 from rfl) (by omega) (by omega)]; omega⟩
  have hin4 : vp_in (nI i + Int32.ofInt 4) L := vp_in_iff.mpr ⟨by rw [ty_addI ei (show (Int32.ofInt 4).toInt = 4 from rfl) (by omega) (by omega)]; omega, by rw [ty_addI ei (show (Int32.ofInt 4).toInt = 4 from rfl) (by omega) (by omega)]; omega⟩
  refine gG_sp hx (i := .aload_n 1) (len := 1) (by decide +kernel) (sp_al (j := 1) h1) ?_
  refine gG_sp hx (i := .aload_n 0) (len := 1) (by decide +kernel) (sp_al (j := 0) h0) ?_
  refine gG_sp hx (i := .iload 4) (len := 2) (by decide +kernel) (sp_il2 h4) ?_
  refine gG_sp hx (i := .iconst 1) (len := 1) (by decide +kernel) rfl ?_
  refine gG_sp hx (i := .iadd) (len := 1) (by decide +kernel) rfl ?_
  refine gG_sld hx hX hbl (fun q => by omega) hin1 (by decide +kernel) ?_
  refine (gR_cV (idx := 74) hx rfl rfl (mt_X4_derived (e := 64 + t) (t := t) (D := D) hL) rfl (ci := 6) (T := TX4) (N := 13) rfl rfl (kw_at 500 (by decide +kernel)) (kw_at 1 (by decide +kernel)) (Or.inl (kw_at 497 (by decide +kernel))) (kw_at 498 (by decide +kernel)) (kw_at 499 (by decide +kernel)) (by decide +kernel) ⟨Nat.le_of_ble_eq_true rfl, Nat.le_of_ble_eq_true rfl⟩) 450 ls (.invokevirtual 74) [.ref kd, .int _] [] M σ n k (by decide +kernel) (Or.inl ⟨74, rfl, rfl⟩) s0 ⟨⟨kd, rfl, hJ.2.2.1⟩, ty_any _, trivial⟩ hJ.1 hJ.2.1 (Nat.zero_le 8) (by show n + 0 ≤ 601024; omega) (by show k + 0 ≤ 7293000; omega) (fun v M1 σ1 q1 q2 q3 q4 q5 => ?_)
  obtain ⟨u, rfl, z, rfl, -⟩ := q4
  have hJ1 := lwJ_call hJ q1 (by decide) (by decide) q2 q3
  have hn1 : n + 0 ≤ 601024 := by omega
  have hk1 : k + 0 ≤ 7293000 := by omega
  show gG (LX p l e s m b below meth c D) vwCl 453 ls [.int z] M1 (n + 0) (k + 0)
  refine gG_sp hx (i := .pop) (len := 1) (by decide +kernel) rfl ?_
  refine gG_sp hx (i := .aload_n 2) (len := 1) (by decide +kernel) (sp_al (j := 2) h2) ?_
  refine gG_sp hx (i := .aload_n 0) (len := 1) (by decide +kernel) (sp_al (j := 0) h0) ?_
  refine gG_sp hx (i := .iload 4) (len := 2) (by decide +kernel) (sp_il2 h4) ?_
  refine gG_sp hx (i := .iconst 1) (len := 1) (by decide +kernel) rfl ?_
  refine gG_sp hx (i := .iadd) (len := 1) (by decide +kernel) rfl ?_
  refine gG_sld hx hX hbl (fun q => by omega) hin1 (by decide +kernel) ?_
  refine (gR_cV (idx := 77) hx rfl rfl (mt_X5_derived hL.1 pKK_s (64 + t) t) rfl (ci := 7) (T := TX5) (N := 22) rfl rfl (kw_at 741 (by decide +kernel)) (kw_at 10 (by decide +kernel)) (Or.inl (kw_at 738 (by decide +kernel))) (kw_at 739 (by decide +kernel)) (kw_at 740 (by decide +kernel)) (by decide +kernel) ⟨Nat.le_of_ble_eq_true rfl, Nat.le_of_ble_eq_true rfl⟩) 461 ls (.invokevirtual 77) [.ref md, .int _] [] M1 σ1 (n + 0) (k + 0) (by decide +kernel) (Or.inl ⟨77, rfl, rfl⟩) s0 ⟨⟨md, rfl, hJ1.2.2.2.1⟩, ty_any _, trivial⟩ hJ1.1 hJ1.2.1 (Nat.zero_le 8) (by show n + 0 + 0 ≤ 601024; omega) (by show k + 0 + 0 ≤ 7293000; omega) (fun v M2 σ2 q1 q2 q3 q4 q5 => ?_)
  obtain ⟨u, rfl, z2, rfl, -⟩ := q4
  have hJ2 : lwJ tys D cO kd md ot (64 + t + 1) (t) σ2 M2 := lwJ_call hJ1 q1 (by decide) (by decide) q2 q3
  show gG (LX p l e s m b below meth c D) vwCl 464 ls [.int z2] M2 (n + 0) (k + 0)
  refine gG_sp hx (i := .pop) (len := 1) (by decide +kernel) rfl ?_
  refine gG_goto hx (off := 44) (tgt := 509) (by decide +kernel) rfl ?_
  exact next σ2 M2 _ _ ls hs (lwJ_mono (by omega) (by omega) hJ2) (by omega) (by omega)
