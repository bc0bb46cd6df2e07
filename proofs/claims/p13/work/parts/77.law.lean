theorem mk_out {x : gx_T} {cl : List vw_C} {cc : ByteArray} {nL : Nat} {own : String} {cB cI cZ cJ : ClassId} {rr : List (ClassId × FieldType)} (hx : gC x cl cc nL ((cB, .byte) :: (cI, .int) :: (cZ, .boolean) :: (cJ, .long) :: rr) kwT own) (hw : Cond.arrayClass .long ∈ lw_tbl) {pc n k : Nat} {ls : Array Slot} {st : List Value} {M : mh_M} {z : Int32} (hd : decode cc pc = .ok (.newarray .long, 2)) (hz : z.toInt = 1) (h1 : n + 1 ≤ (gx_R x).cells) (h2 : k + 1 ≤ (gx_R x).slots) (kk : ∀ r, r ∉ M.1 → gG x cl (pc + 2) ls (.ref r :: st) (mh_new M r (.inl (cJ, 1, .inr (.inl (fun _ => 0))))) (n + 1) (k + 1)) : gG x cl pc ls (.int z :: st) M n k := by
  obtain ⟨p, l, e, R, s, m, args, below, meth, c, Q, D, A, H0⟩ := x
  have w1 := gx_word hx hw rfl
  obtain ⟨⟨he, hb, hml, ho, hts⟩, hK, -⟩ := hx
  intro H locs hm
  have hz0 : ¬ z < 0 := fun q => by
    have := Int32.lt_iff_toInt_lt.mp q
    rw [show (0 : Int32).toInt = 0 from rfl] at this
    omega
  exact mh_newa (atype := .long) (ty := .long) he hb w1 rfl hK hm (N' := 1) (a0 := (1, .inr (.inl (fun _ => 0)))) 3 rfl (fun _ q => by cases q) (fun cA => rfl) hz0 (ty_clN (by rw [hz]; rfl)) (by decide) h1 h2 hd (fun q H1 hq hm1 => kk q hq H1 locs hm1)
/-! THE LAW -/
/-- a cell without a kind is made -/
theorem ty_F_un {P : Nat → Nat → Prop} {B : Nat → Prop} {tys : List (ClassId × FieldType)} {σ : ty_K} {M : mh_M} {q : Nat} {e : va_E} (hH : ty_H tys pKT σ M) (hq : q ∉ M.1) : ty_F P B σ M σ (mh_new M q e) ∧ ty_H tys pKT σ (mh_new M q e) := by
  have hne : ∀ a k, σ a = some k → a ≠ q := fun a k ha z => hq (z ▸ (hH a k ha).1)
  refine ⟨⟨fun a ha => List.mem_append_left _ ha, fun a k ha => ⟨ha, fun i _ => by rw [show (mh_new M q e).2 a = M.2 a from va_up_ne _ _ (hne a k ha)]⟩, fun a k h1 h2 => by rw [h1] at h2; cases h2⟩, fun a k ha => ?_⟩
  obtain ⟨h1, d, h2, h3⟩ := hH a k ha
  exact ⟨List.mem_append_left _ h1, d, h2, by rw [show (mh_new M q e).2 a = M.2 a from va_up_ne _ _ (hne a k ha)]; exact h3⟩
theorem ty_none {tys : List (ClassId × FieldType)} {σ : ty_K} {M : mh_M} {q : Nat} (hH : ty_H tys pKT σ M) (hq : q ∉ M.1) : σ q = none := by
  cases h : σ q with
  | none => rfl
  | some k => exact absurd (hH q k h).1 hq
set_option maxRecDepth 100000 in
set_option maxHeartbeats 4000000 in
/-- from the entry, for every script of at most 2561 ints, the law comes to its end with true -/
theorem whole_start {p : Program} {e : Env} {s : State} {m : MethodId} {below : List Frame} {meth : Method} {c : Code} (l : Launch) (htr : ∀ e : Env, l.admits e → e.platform.stackTraces = false) {b L : Nat} {xs : Nat → Int32} (hL2 : L ≤ 2561) (C0 : lw_At p s m meth c b L xs) : W p l e room_1 s m #[Value.ref b] below meth c s.heap [] 0 0 (lw_Z below #[Value.ref b] s) (entryFrame m ([Value.ref b] : List Value).toArray 7) := by
  obtain ⟨he, hb, hr, hml, ho, hts, hX, hbl, hlk, hgv⟩ := C0
  obtain ⟨D, tys, cO, ht, hO, hk⟩ := st_start hts hgv
  have hL : pGL cO tys pKw pKk := ⟨ht, hO, fun _ _ h => h, fun _ _ h => h⟩
  have hx : gC (LX p l e s m b below meth c D) vwCl code 7 tys kwT "KnowDiskLaw" := ⟨⟨he, hb, hml, ho, kwT_hts hk.2.1⟩, hk⟩
  have hl := lv_entry [.ref b] (n := 7) (show 1 ≤ 7 by omega)
  rw [lg_entry_eq]
  have hm0 : mh vwCl D (fun q => s.heap.size ≤ q) s.heap s.heap [] ([], fun _ => .inr (0, [])) := ⟨fun k q hq => (by cases hq), ⟨fun i j p q hp => (by cases hp), fun k q hq => (by cases hq)⟩, va_S.rf, fun q h => h⟩
  generalize (lg_sl [.ref b] ++ List.replicate (7 - (lg_sl [.ref b]).length) Slot.unset).toArray = ls at hl ⊢
  have h0 : ls[0]? = some (.val (.ref b)) := hl.2.2 (0, .ref b) List.mem_cons_self
  have s0 : ls.size = 7 := hl.1
  have s1 : lv_wf ls := hl.2.1
  have hH0 : ty_H tys pKT (fun _ => none) (([], fun _ => .inr (0, [])) : mh_M) := fun a k h => by cases h
  suffices hg : gG (LX p l e s m b below meth c D) vwCl 0 ls [] ([], fun _ => .inr (0, [])) 0 0 from hg s.heap [] hm0
  generalize hMe : (([], fun _ => .inr (0, [])) : mh_M) = M0 at hH0 ⊢
  refine (gR_newP (idx := 8) (ci := 6) (N := 13) (fs := [.long 0, .null, .null, .null, .null, .null, .int 0, .int 0, .int 0, .long 0, .long 0, .null, .long 0]) hx rfl uX4 tyX4 tyX4_ok (by decide) (kw_at 23 (by decide +kernel)) (kw_at 24 (by decide +kernel)) (kw_at 1 (by decide +kernel))) 0 ls [] M0 0 0 (by decide +kernel) (by show 0 + 1 ≤ 601024; omega) (by show 0 + 13 ≤ 7293000; omega) (fun kd hkd => ?_)
  refine gG_sp hx (i := .dup) (len := 1) (by decide +kernel) rfl ?_
  refine gG_sp hx (i := .aload_n 0) (len := 1) (by decide +kernel) (sp_al (j := 0) h0) ?_
  refine gG_sp hx (i := .iconst 0) (len := 1) (by decide +kernel) rfl ?_
  refine gX_cell hx hX hbl (fun q => by omega) (by omega) (by decide) (Nat.le_of_ble_eq_true rfl) (Nat.le_of_ble_eq_true rfl) (by show 0 + 1 ≤ 601024; omega) (by show 0 + 13 ≤ 7293000; omega) s0 (rest := [.ref kd, .ref kd]) (by show 2 ≤ 8; omega) (by decide +kernel) (fun v1 => ?_)
  have hH1 := (ty_F_un (P := fun _ _ => True) (B := fun _ => True) (e := .inr (6, [.long 0, .null, .null, .null, .null, .null, .int 0, .int 0, .int 0, .long 0, .long 0, .null, .long 0])) hH0 hkd).2
  refine gX_cI (idx := 21) (K := (cN0 9 4138)) hx rfl rfl (mx_X4_init (D := D) hL mh_at.new_self rfl hH1 (fun a k h => by cases h)) rfl (kw_at 27 (by decide +kernel)) (kw_at 1 (by decide +kernel)) (Or.inl (kw_at 25 (by decide +kernel))) (kw_at 26 (by decide +kernel)) (nA := 1) (by decide +kernel) rfl ⟨Nat.le_of_ble_eq_true rfl, Nat.le_of_ble_eq_true rfl⟩ (pc := 9) (by decide +kernel) s0 (rest := [.ref kd]) (by show 1 ≤ 8; omega) (by show 0 + 1 + 9 ≤ 601024; omega) (by show 0 + 13 + 4138 ≤ 7293000; omega) rfl (fun v M1 hv => ?_)
  obtain ⟨rfl, σ1, hF1, hHa, hKa, hkd1, hf7⟩ := hv
  refine gG_astore hx s0 s1 (i := 1) (len := 1) (Or.inr ⟨1, by decide +kernel, rfl, rfl⟩) (by decide) (fun ls1 p1 => ?_)
  have h0 := ty_kp p1 h0 (by omega) (Or.inl rfl)
  have h1 := p1.2.2.1
  refine (gR_newP (idx := 24) (ci := 7) (N := 22) (fs := [.int 0, .int 0, .int 0, .null, .null, .null, .null, .null, .int 0, .null, .null, .int 0, .int 0, .null, .null, .int 0, .int 0, .null, .null, .int 0, .int 0, .null]) hx rfl uX5 tyX5 tyX5_ok (by decide) (kw_at 590 (by decide +kernel)) (kw_at 591 (by decide +kernel)) (kw_at 10 (by decide +kernel))) 13 ls1 [] M1 _ _ (by decide +kernel) (by show 0 + 1 + 9 + 1 ≤ 601024; omega) (by show 0 + 13 + 4138 + 22 ≤ 7293000; omega) (fun md hmd => ?_)
  have hσm := ty_none hHa hmd
  obtain ⟨hFu, hHb⟩ := ty_F_un (P := fun k i => (k, i) ∈ pPSC) (B := fun k => ∀ i, (k, i) ∉ pPSC) (e := .inr (7, [.int 0, .int 0, .int 0, .null, .null, .null, .null, .null, .int 0, .null, .null, .int 0, .int 0, .null, .null, .int 0, .int 0, .null, .null, .int 0, .int 0, .null])) hHa hmd
  have hKb := pKK_s _ _ _ _ hFu hKa
  refine gG_sp hx (i := .dup) (len := 1) (by decide +kernel) rfl ?_
  refine gG_sp hx (i := .aload_n 0) (len := 1) (by decide +kernel) (sp_al (j := 0) h0) ?_
  refine gG_sp hx (i := .iconst 0) (len := 1) (by decide +kernel) rfl ?_
  refine gX_cell hx hX hbl (fun q => by omega) (by omega) (by decide) (Nat.le_of_ble_eq_true rfl) (Nat.le_of_ble_eq_true rfl) (by show 0 + 1 + 9 + 1 ≤ 601024; omega) (by show 0 + 13 + 4138 + 22 ≤ 7293000; omega) p1.1 (rest := [.ref md, .ref md]) (by show 2 ≤ 8; omega) (by decide +kernel) (fun v2 => ?_)
  have hno : ∀ a k, σ1 a = some k → k < 12 ∨ k = 25 := fun a k h => by
    have h9 := hF1.2.2 a k rfl h
    simp only [List.mem_cons, List.not_mem_nil, or_false] at h9
    omega
  refine gX_cI (idx := 26) (K := ct_X5_init) hx rfl rfl (mx_X5_init (D := D) (K := pKK D cO pKw pKk) ht pKK_s mh_at.new_self hσm hHb hKb hno) rfl (kw_at 594 (by decide +kernel)) (kw_at 10 (by decide +kernel)) (Or.inl (kw_at 592 (by decide +kernel))) (kw_at 593 (by decide +kernel)) (nA := 1) (by decide +kernel) rfl ⟨Nat.le_of_ble_eq_true rfl, Nat.le_of_ble_eq_true rfl⟩ (pc := 22) (by decide +kernel) p1.1 (rest := [.ref md]) (by show 1 ≤ 8; omega) (by show 0 + 1 + 9 + 1 + 12 ≤ 601024; omega) (by show 0 + 13 + 4138 + 22 + 48278 ≤ 7293000; omega) rfl (fun v M2 hv => ?_)
  obtain ⟨rfl, σ2, hF2, hHc, hIc, hmd2, hf2⟩ := hv
  refine gG_astore hx p1.1 p1.2.1 (i := 2) (len := 1) (Or.inr ⟨2, by decide +kernel, rfl, rfl⟩) (by decide) (fun ls2 p2 => ?_)
  have h0 := ty_kp p2 h0 (by omega) (Or.inl rfl)
  have h1 := ty_kp p2 h1 (by omega) (Or.inl rfl)
  have h2 := p2.2.2.1
  refine gG_sp hx (i := .iconst 1) (len := 1) (by decide +kernel) rfl ?_
  have ht2 := ht
  obtain ⟨cB, cI, cZ, cJ, rr, rfl⟩ := ht2
  refine mk_out hx (kw_at 669 (by decide +kernel)) (by decide +kernel) (by decide) (by show 0 + 1 + 9 + 1 + 12 + 1 ≤ 601024; omega) (by show 0 + 13 + 4138 + 22 + 48278 + 1 ≤ 7293000; omega) (fun ot hot => ?_)
  have hHd : ty_H ((cB, .byte) :: (cI, .int) :: (cZ, .boolean) :: (cJ, .long) :: rr) pKT (ty_new σ2 ot 25) (mh_new M2 ot (.inl (cJ, 1, .inr (.inl (fun _ => 0))))) := ty_H_new hHc hot (show pKT[25]? = some (23, 1, []) from rfl) (ty_ok_al (ft := .long) rfl)
  have hFd : ty_FP pPS σ2 M2 (ty_new σ2 ot 25) (mh_new M2 ot (.inl (cJ, 1, .inr (.inl (fun _ => 0))))) := ty_F_new hHc hot (nK (by decide))
  have hId : pJ 64 0 D cO pKw pKk (ty_new σ2 ot 25) (mh_new M2 ot (.inl (cJ, 1, .inr (.inl (fun _ => 0))))) := ⟨pR_s 64 0 _ _ _ _ hFd hIc.1, pK_s pKK_s _ _ _ _ hFd hIc.2⟩
  refine gG_astore hx p2.1 p2.2.1 (i := 3) (len := 1) (Or.inr ⟨3, by decide +kernel, rfl, rfl⟩) (by decide) (fun ls3 p3 => ?_)
  have h0 := ty_kp p3 h0 (by omega) (Or.inl rfl)
  have h1 := ty_kp p3 h1 (by omega) (Or.inl rfl)
  have h2 := ty_kp p3 h2 (by omega) (Or.inl rfl)
  have h3 := p3.2.2.1
  refine gG_sp hx (i := .iconst 1) (len := 1) (by decide +kernel) (r := [.int (nI 1)]) rfl ?_
  refine gG_istore hx p3.1 p3.2.1 (i := 4) (len := 2) (Or.inl ⟨by decide +kernel, rfl⟩) (by decide) (fun ls4 p4 => ?_)
  have hkd2 : σ2 kd = some 0 := hF2.kinds kd 0 hkd1
  have hkdM : kd ∈ M2.1 := (hHc kd 0 hkd2).1
  have hmdM : md ∈ M2.1 := (hHc md 12 hmd2).1
  have hko : kd ≠ ot := fun z => hot (z ▸ hkdM)
  have hmo : md ≠ ot := fun z => hot (z ▸ hmdM)
  have hkm : kd ≠ md := fun z => by rw [z, hσm] at hkd1; cases hkd1
  refine lw_loop htr hx hX hbl hL hL2 hr hlk (kd := kd) (md := md) (ot := ot) 700 0 _ _ ls4 _ _ (by omega) (by omega) ⟨p4.1, p4.2.1, ty_kp p4 h0 (by omega) (Or.inl rfl), ty_kp p4 h1 (by omega) (Or.inl rfl), ty_kp p4 h2 (by omega) (Or.inl rfl), ty_kp p4 h3 (by omega) (Or.inl rfl), p4.2.2.1⟩ ⟨hHd, hId, (if_neg hko).trans hkd2, (if_neg hmo).trans hmd2, if_pos rfl, 0, ?_, ?_⟩ (by show 0 + 1 + 9 + 1 + 12 + 1 ≤ _; omega) (by show 0 + 13 + 4138 + 22 + 48278 + 1 ≤ _; omega)
  · rw [show (mh_new M2 ot (.inl (cJ, 1, .inr (.inl (fun _ => 0))))).2 kd = M2.2 kd from va_up_ne _ _ hko, (hF2.2.1 kd 0 hkd1).2 7 (by decide +kernel), show (mh_new M1 md (.inr (7, [.int 0, .int 0, .int 0, .null, .null, .null, .null, .null, .int 0, .null, .null, .int 0, .int 0, .null, .null, .int 0, .int 0, .null, .null, .int 0, .int 0, .null]))).2 kd = M1.2 kd from va_up_ne _ _ hkm]
    exact hf7
  · rw [show (mh_new M2 ot (.inl (cJ, 1, .inr (.inl (fun _ => 0))))).2 md = M2.2 md from va_up_ne _ _ hmo]
    exact hf2
set_option maxHeartbeats 4000000 in
theorem lw_walk (l : Launch) (htr : ∀ e : Env, l.admits e → e.platform.stackTraces = false) (b : Addr) (xs : List Int32) : MetFree l x (headSpec (Jvm.Cond.code x code maxLocals ret :: tables_1) room_1) (lw_P b xs) (fun _ _ _ _ _ => True) lw_Q := by
  refine MetFree.of_bodyS (code := code) (maxLocals := maxLocals) (ret := ret) (by decide) ?_ ?_
  · intro args s m h hn
    obtain ⟨meth, c, h1, h2, h3, h4, h5, h6, -, -⟩ := Cond.code_spec hn (atoms_spec (ws := Jvm.Cond.code x code maxLocals ret :: tables_1) h _ List.mem_cons_self)
    exact ⟨meth, c, h1, h2, h3, h4, h5, h6⟩
  · intro p e s m args below meth c s₁ B hml0 hP _
    obtain ⟨rfl, hx, hbd, hgv⟩ := hP
    obtain ⟨scr, harrAt, hlist, hof, hsmall⟩ := hx
    obtain ⟨hcb, hkn, -, -⟩ := State.arrayAt?_spec harrAt
    have hown : s.vm.findClass R_law = some m.cls := findClass_of_methodNamed B.named
    have hts0 : ∀ c ∈ (Jvm.Cond.code x code maxLocals ret :: tables_1), c.before #[Value.ref b] s = true := atoms_spec (ws := Jvm.Cond.code x code maxLocals ret :: tables_1) B.pre
    have hts : ∀ w ∈ lw_tbl, w.before #[Value.ref b] s = true := k2_hts_sels lw_privs (fun w hw => hts0 w (List.mem_cons_of_mem _ hw)) lw_privs_ok
    have hml : c.maxLocals = 7 := B.maxLocals_eq (hts0 _ List.mem_cons_self)
    have X₀ : Stand p l e room_1 s m #[Value.ref b] below meth c s₁ [] 0 0 := Stand.of_body B
    have hh0 : s₁.heap = s.heap := by rw [B.state]; rfl
    have hsz : scr.slots.size = xs.length := by rw [← Array.length_toList, hlist, List.length_map]
    have hval : ∀ j : Nat, j < xs.length → scr.slots[j]? = some (.int (xs.getD j 0)) := fun j hj => by
      rw [← Array.getElem?_toList, hlist]
      simp [hj]
    have hbl : b < s.heap.size := (Array.getElem?_eq_some_iff.mp hcb).1
    have hX : va_X b xs.length (fun j => xs.getD j 0) s s.heap := ⟨scr, hcb, hof, hkn, hsz, hval⟩
    have K : W p l e room_1 s m #[Value.ref b] below meth c s₁.heap [] 0 0 (lw_Z below #[Value.ref b] s) (entryFrame m ([Value.ref b] : List Value).toArray 7) := by
      rw [hh0]
      exact whole_start l htr hbd ⟨B.exec, B.bytes, B.returns, hml, hown, hts, hX, hbl, B.notSynchronized, hgv⟩
    obtain ⟨t, a1, o, b1, b2, b3⟩ := K s₁ rfl X₀
    exact ⟨t, o, a1, b1, b2, b3⟩
theorem lw_pre_spec {args : Array Value} {s : State} (h : (Jvm.Cond.and given_1 narrow_1).before args s = true) (hr : rest_1_c.before args s = true) : ∃ (b : Addr) (xs : List Int32), lw_P b xs args s := by
  have hs := flat_of_before _ h
  have hq := flat_of_before _ hr
  have hc : (Cond.count 1).before args s = true := hs _ (by decide +kernel)
  have harr : (Cond.arrayOf (.arg 0) .int).before args s = true := hs _ (by decide +kernel)
  have hle : (Cond.le (.length (.arg 0)) (.int 2561)).before args s = true := hs _ (by decide +kernel)
  have hlen : (Cond.isInt (.length (.arg 0))).before args s = true := hq _ (by decide +kernel)
  have hall : (Cond.all (.arg 0) (.isInt (.elem (.arg 0) (.index 0)))).before args s = true := hq _ (by decide +kernel)
  obtain ⟨b, xs, hb, hx⟩ := State.ints_of_pre rfl harr hlen hall
  have hsm : xs.length < 2 ^ 31 := hx.choose_spec.2.2.2
  have hev : (Term.length (.arg 0)).eval args s none [] s = some (.int xs.length.toInt32) := hx.length_eval hb
  have hv := Cond.le_ints hev (show (Term.int 2561).eval args s none [] s = some (.int 2561) from rfl)
  have hd : xs.length.toInt32 ≤ 2561 := by
    simpa [Cond.before, Cond.holds, hv] using hle
  have hN : xs.length ≤ 2561 := (Int32.ofNat_le_ofNat hsm (by decide)).mp (show Int32.ofNat xs.length ≤ Int32.ofNat 2561 from hd)
  exact ⟨b, xs, Cond.one_arg hc (show args[0]? = some (.ref b) from hb), hx, hN, h⟩
theorem lw_comes (l : Launch) (htr : ∀ e : Env, l.admits e → e.platform.stackTraces = false) : Comes l x (Jvm.Cond.code x code maxLocals ret :: tables_1) room_1 (fun tb e args s => Calls_1 tb e args s ∧ rest_1 tb e args s ∧ Pre_1 tb e args s)
    (fun _ _ args s o t => lw_Q args s o t) := by
  intro p e ha hc hk s m args below hf hfit hheap happ hpre
  obtain ⟨b, xs, hP⟩ := lw_pre_spec hpre.2.2 hpre.2.1
  obtain ⟨k, o, h1, h2, h3, hQ⟩ := lw_walk l htr b xs p e ha hc hk s m args below hf ((Spec.applies_iff_loose hf).mp happ).1 hP trivial
  exact ⟨k, o, h1, h2, h3, hQ⟩
theorem lw_frame {s t : State} {o : Outcome} {args : Array Value} (h : Framed s o t [] 601024 7293000) :
    Framed s o t (fieldLocs frame_1_writes args s ++ arrayLocs frame_1_arrays args s ++ staticLocs frame_1_statics s) 601024 7293000 := h
theorem lw_limb (L : Cond) (hL : ∀ (args : Array Value) (s t : State), L.after args s (.returned (some (.int 1))) t = true) :
    ArmFor flags0 classFile x code maxLocals ret World_1 tables_1 room_1 Calls_1 rest_1 Pre_1
      (fun tb e a s o t => postC L tb e a s o t ∧ Framed s o t (fieldLocs frame_1_writes a s ++ arrayLocs frame_1_arrays a s ++ staticLocs frame_1_statics s) 601024 7293000) := by
  intro l hfl _ _ p e ha hc hk s m args below hf hfit hheap happ hpre
  obtain ⟨k, o, h1, h2, h3, rfl, hF⟩ := lw_comes l (fun e ha => Launch.traces_off hfl ha) p e ha hc hk s m args below hf hfit hheap happ hpre
  exact ⟨k, _, h1, h2, h3, hL args s _, lw_frame hF⟩
theorem i_vc : Claimed_1_1 ∧ Claimed_1_2 := ⟨lw_limb limb_1_1 (fun args s t => by simp [limb_1_1, Cond.after, Cond.holds, Cond.value]), lw_limb limb_1_2 (fun args s t => Cond.after_iff.mpr (by
  first | (rw [show limb_1_2 = Cond.eq .result (.int 1) from rfl, Cond.eq_ints (x := 1) (y := 1) rfl rfl]; simp; done) | (simp [limb_1_2, Cond.value, Term.eval]; done)))⟩
