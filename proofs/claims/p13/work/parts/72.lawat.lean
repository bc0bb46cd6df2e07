/-! the call of KnowDisk.at, and KnowDiskLaw.at -/
section CA
variable {p : Program} {l : Launch} {e : Env} {R : Room} {s : State} {m : MethodId} {args : Array Value} {below : List Frame} {meth : Method} {c : Code} {Q : State → Prop} {D : va_G} {A : Nat → Prop} {H0 : Heap} {tys : List (ClassId × FieldType)} {ls : Array Slot} {M : mh_M}
set_option maxRecDepth 100000 in
set_option maxHeartbeats 4000000 in
theorem gA_call {kd n k : Nat} {i1 i2 : Int32} {fs : List Value} {post : mh_M → Prop} {rest : List Value} (hx : gC (p, l, e, R, s, m, args, below, meth, c, Q, D, A, H0) vwCl cL_at 5 tys kwT "KnowDiskLaw") (hM : aMet l D tys [.ref kd, .int i1, .int i2] M post) (hat : mh_at M kd (.inr (6, fs))) (hs : ls.size = 5) (htab : c.exceptionTable.toList.map (fun h => (h.startPc, h.endPc, h.handlerPc, h.catchType)) = [(0, 10, 13, 13)]) (hRf : 8 ≤ R.frames) (hRl : 117 ≤ R.locals) (hn : n + 1 ≤ R.cells) (hk : k + 6 ≤ R.slots) (h8 : (rest.map fun v => v.category).sum ≤ 8)
    (kr : ∀ (z : Int32) (M' : mh_M), -128 ≤ z.toInt → z.toInt ≤ 127 → post M' → gG (p, l, e, R, s, m, args, below, meth, c, Q, D, A, H0) vwCl 8 ls (.int z :: rest) M' (n + 1) (k + 6)) (kt : ∀ (a : Nat) (M' : mh_M), post M' → gG (p, l, e, R, s, m, args, below, meth, c, Q, D, A, H0) vwCl 13 ls [.ref a] M' (n + 1) (k + 6)) : gG (p, l, e, R, s, m, args, below, meth, c, Q, D, A, H0) vwCl 5 ls (.int i2 :: .int i1 :: .ref kd :: rest) M n k := by
  have w1 := gx_word hx (w := Cond.methodLink "KnowDiskLaw" 7 yX4_at) (kw_at 516 (by decide +kernel)) rfl
  have w2 := gx_word hx (w := Cond.instanceMethod yX4_at) (kw_at 517 (by decide +kernel)) rfl
  have w3 := gx_word hx (w := Cond.selects "KnowDisk" yX4_at yX4_at) (kw_at 518 (by decide +kernel)) rfl
  have w4 := gx_word hx (w := Cond.code yX4_at cX4_at 3 (some .byte)) (kw_at 519 (by decide +kernel)) rfl
  have w5 := gx_word hx (w := Cond.initialized "KnowDisk") (kw_at 1 (by decide +kernel)) rfl
  have w6 := gx_word hx (w := Cond.classLink "KnowDiskLaw" 13 tX) (kw_at 515 (by decide +kernel)) rfl
  have w7 := kS_now hx.2 (w := Cond.castable tX tX) (by decide +kernel) args
  have hKX := hx.2
  obtain ⟨⟨he, hb, hml, ho, hts⟩, hK, hWw, hZ, hE⟩ := hx
  intro H locs hm T hT X
  obtain ⟨q0, hq0⟩ := mh_get_ix hat
  obtain ⟨cellB, hcB, hobB, hclB⟩ := va_recv hK hm.1 (show vwCl[6]? = some (RX4, TX4, 13) from rfl) hq0
  obtain ⟨mk, methM, hnamed, hmethM, hstM, habM⟩ := Cond.instanceMethod_spec w2
  obtain ⟨methM', cM, hmethM', hcM, -, hlM, -, hlkM, -, hsigM⟩ := Cond.code_spec hnamed w4
  cases hmethM.symm.trans hmethM'
  obtain ⟨c2, r2, m2, q1, q2, q3, q4, kP, hkP, hkPi⟩ := Cond.selects_spec w3
  cases hclB.symm.trans q1
  cases (State.methodFound?_of_named hnamed (by decide)).symm.trans q2
  cases hnamed.symm.trans q3
  have hselP : selectMethod e.platform s.vm cellB.cls mk = .method mk := by rw [Launch.admits_selectMethod X.admits]; exact q4
  have hlen : ([.int i1, .int i2] : List Value).length = methM.sig.parameters.length := by
    have h1 : (parseMethodDescriptor yX4_at.desc).map (fun d => d.parameters.length) = some 2 := by decide +kernel
    rw [hsigM] at h1
    exact (Option.some.inj h1).symm
  have d5 : decode c.code (F0 m 5 ls rest).pc = .ok (.invokevirtual 7, 3) := by
    rw [hb]
    exact (by decide +kernel : decode cL_at 5 = .ok (.invokevirtual 7, 3))
  obtain ⟨vm₁, X₁, hstep₁⟩ := X.invokevirtual he ho w1 hnamed hmethM hstM hkP hkPi (by decide) (a := kd) (cell := cellB) (by rw [hT]; exact hcB) (fun z h => by rw [h] at hobB; cases hobB) hselP hmethM habM hkP hkPi (g := F0 m 5 ls (.int i2 :: .int i1 :: .ref kd :: rest)) rfl (argsL := [.int i1, .int i2]) (rest := rest) hlen rfl d5
  have hstep₁ : ∀ target, (∀ acts, Steps p.tables e below (doInvoke e ((T.setVm vm₁).setTop (F0 m 5 ls rest)) acts mk #[.ref kd, .int i1, .int i2]).1 target) → Steps p.tables e below (T.setTop (F0 m 5 ls (.int i2 :: .int i1 :: .ref kd :: rest))) target := hstep₁
  have hAt : At (T.setVm vm₁) (F0 m 5 ls rest).method c below := X₁.here
  have hnT : (T.setVm vm₁).methodNamed? yX4_at = some mk := X₁.named hnamed
  obtain ⟨kY, hkY, -⟩ := className_of_methodNamed hnT
  have w5' : (Cond.initialized "KnowDisk").before args (T.setVm vm₁) = true := kw_warm rfl X₁.warmed w5
  have hinitY : kY.init = .initialized := Cond.initialized_spec (findClass_of_methodNamed hnT) hkY w5'
  have hmT : (T.setVm vm₁).vm.method? mk = some methM := by rw [X₁.warmed.alike.method?]; exact hmethM
  have happ : (headSpec [Cond.code yX4_at cX4_at 3 (some .byte)] (ty_rm 7 95 ct_X4_at)).appliesLoose yX4_at e.platform ((T.setVm vm₁).calling (F0 m 5 ls rest) mk #[.ref kd, .int i1, .int i2]) = true :=
    Spec.appliesLoose_calling (g := F0 m 5 ls rest) hAt d5 hnT hkY hinitY
      (X₁.room_calling (g := F0 m 5 ls rest) (R' := ty_rm 7 95 ct_X4_at) (by rw [hml]; exact hs) hmT hcM (by show 7 + 1 ≤ R.frames; omega) (by rw [hlM]; show 2 * 0 + (rest.map fun v => v.category).sum + (3 + 11) + 95 ≤ R.locals; omega) hn hk)
      (atoms_intro fun w hw => by rw [List.mem_singleton.mp hw]; exact kw_warm rfl X₁.warmed w4)
  obtain ⟨mid, hmid⟩ := hAt.above
  have hfr : ((T.setVm vm₁).setTop (F0 m 5 ls rest)).frames = (.java (F0 m 5 ls rest) :: mid) ++ below := by rw [State.frames_setTop' _ hAt.top, hmid]; rfl
  have hPc0 : mh_Pc vwCl tys D [.ref kd, .int i1, .int i2] M H.size #[.ref kd, .int i1, .int i2] (T.setVm vm₁) :=
    ⟨rfl, by show T.heap.size = H.size; rw [hT], by show va_P D vwCl (mh_w M) T.heap; rw [hT]; exact hm.1, kX_call X₁.warmed (show (T.setVm vm₁).heap = H from hT) hKX hm, hm.2.1.weaken (fun _ _ _ _ => trivial)⟩
  have hPc := mh_blind _ _ (F0 m 5 ls rest) mk hPc0
  obtain ⟨oc, s₂, hsteps, hrun, hend, hq⟩ := Steps.callFree (hM H.size) p X.admits X.cas X.clock (acts := []) hfr happ hPc trivial
  have hq : aQ D M H.size post #[.ref kd, .int i1, .int i2] ((T.setVm vm₁).calling (F0 m 5 ls rest) mk #[.ref kd, .int i1, .int i2]) oc s₂ := hq
  rw [State.frames_setTop' _ hAt.top, X₁.tail] at hend
  obtain ⟨⟨M', hp, hP', hD'⟩, hF', hor, L, hW₂, hsame, hL⟩ := hq
  have hsub : ∀ q, va_A (mh_w M) H.size q → A q := by
    intro q h
    rcases h with ⟨k, e, h⟩ | h
    · exact hm.2.1.2 k _ h
    · exact hm.2.2.2 q (Nat.le_trans hm.2.2.1.1 h)
  have hF1 : H.size ≤ s₂.heap.size := by
    have := hF'.1
    rw [show ((T.setVm vm₁).calling (F0 m 5 ls rest) mk #[.ref kd, .int i1, .int i2]).heap = H from hT] at this
    exact this
  have hF2 : ∀ q : Nat, q < H.size → ¬ va_A (mh_w M) H.size q → s₂.heap[q]? = H[q]? := by
    have := hF'.2
    rw [show ((T.setVm vm₁).calling (F0 m 5 ls rest) mk #[.ref kd, .int i1, .int i2]).heap = H from hT] at this
    exact this
  have hm' : mh vwCl D A H0 s₂.heap (locs ++ L) M' := ⟨hP', hD'.weaken (fun k q _ h => hsub _ h), ⟨Nat.le_trans hm.2.2.1.1 hF1, fun q h1 h2 => by
      rw [hF2 q (Nat.lt_of_lt_of_le h1 hm.2.2.1.1) (fun z => h2 (hsub q z))]
      exact hm.2.2.1.2.1 q h1 h2, fun q hq => by
      rcases List.mem_append.mp hq with h | h
      · exact hm.2.2.1.2.2 q h
      · exact hsub _ (hL q h)⟩, hm.2.2.2⟩
  rcases hor with ⟨z, rfl, z1, z2⟩ | ⟨a, ce, rfl, hce, hcv, hcc⟩
  · obtain ⟨T', X', -, -, et⟩ := X₁.outOf (g := F0 m 5 ls rest) rfl d5 hend hW₂ hsame
    have hh : T'.heap = s₂.heap := by rw [et]; rfl
    obtain ⟨t2, a1, b1⟩ := kr z M' z1 z2 hp s₂.heap (locs ++ L) hm' T' hh X'
    exact ⟨t2, hstep₁ _ (fun acts => by rw [doInvoke_state]; exact hsteps.trans (by rw [et]; exact a1)), b1⟩
  · obtain ⟨T', X', -, -, et⟩ := X₁.outOfThrown (g := F0 m 5 ls rest) rfl hend hW₂ hsame
    have hh : T'.heap = s₂.heap := by rw [et, Stand.throwing_heap]
    obtain ⟨c3, c4, hc3, hc4, hasg⟩ := Cond.castable_spec w7
    have hcs : s.vm.findClass tX = some ce.cls := by rw [← X₁.warmed.alike.findClass]; exact hcc
    cases hc3.symm.trans hcs
    cases hc4.symm.trans hcs
    obtain ⟨x, hx1⟩ : ∃ x, c.exceptionTable.toList = [x] := by
      cases hl : c.exceptionTable.toList with
      | nil => rw [hl] at htab; cases htab
      | cons x r =>
        cases r with
        | nil => exact ⟨x, rfl⟩
        | cons y r =>
          rw [hl] at htab
          have := congrArg List.length htab
          simp at this
    rw [hx1] at htab
    have hx2 := List.cons.inj htab
    have hx3 : (x.startPc, x.endPc, x.handlerPc, x.catchType) = (0, 10, 13, 13) := hx2.1
    simp only [Prod.mk.injEq] at hx3
    obtain ⟨y1, y2, y3, y4⟩ := hx3
    obtain ⟨vm', X2, st⟩ := st_catch X' (a := a) (g := F0 m 5 ls rest) rfl ho hx1 (by show covers x 5 = true; simp [covers, y1, y2]) (by rw [y4]; decide) (by rw [y4]; exact w6) (by rw [hh]; exact hce) hcv hcs hasg
    rw [y3] at st
    obtain ⟨t2, a1, b1⟩ := kt a M' hp s₂.heap (locs ++ L) hm' (T'.setVm vm') hh X2
    exact ⟨t2, hstep₁ _ (fun acts => by rw [doInvoke_state]; exact hsteps.trans (by rw [et]; exact st _ a1)), b1⟩
end CA
def ct_L_at : ty_C := ([(2, 0, 0), ty_f, ty_f, (2, 25, 0)], some (0, 0, 1), [(25, 0)], [], 1, 6, ty_i0)
abbrev wL_at : Cond := Cond.codeWith yL_at cL_at 5 (some .int) [(0, 10, 13, 13)]
set_option maxRecDepth 100000 in
set_option maxHeartbeats 4000000 in
theorem mt_L_at {l : Launch} {D : va_G} {tys : List (ClassId × FieldType)} {INV : ty_K → mh_M → Prop} (hG : pG tys INV) (htr : ∀ e : Env, l.admits e → e.platform.stackTraces = false) {av : List Value} {M0 : mh_M} {σ0 : ty_K} (hav : ty_av σ0 (pPG σ0 M0) av ct_L_at.1) (hH0 : ty_H tys pKT σ0 M0) (hI0 : INV σ0 M0) : mh_Met vwCl tys l D yL_at [wL_at] (ty_rm 8 117 ct_L_at) av M0 (ty_po tys pKT INV pPG ct_L_at av M0 σ0) := by
  intro sz
  refine va_MetW (cc := cL_at) (maxL := 5) (ret := some .int) (hh := [(0, 10, 13, 13)]) (ws' := []) (by decide +kernel) rfl ?_
  intro p e s m args below meth c s₁ B hml hv
  obtain ⟨rfl, hsz, hP, hK, hD0⟩ := hv
  subst hsz
  have hD := hD0.self (sz := s.heap.size)
  have hl := lv_entry av (n := 5) (by rw [ty_w0_ok (by decide +kernel) hav]; decide)
  rw [lg_entry_eq]
  have hm0 : mh vwCl D (va_A (mh_w M0) s.heap.size) s.heap s.heap [] M0 := ⟨hP, hD, va_S.rf, fun q h => Or.inr h⟩
  obtain ⟨m9, meth9, c9, hn9, g1, g2, -, -, htab, -, -, -⟩ := Cond.codeWith_spec (atoms_spec (ws := [wL_at]) B.pre _ List.mem_cons_self)
  cases hn9.symm.trans B.named
  cases g1.symm.trans B.method
  cases g2.symm.trans (Stand.of_body B).code
  generalize hx0 : ((p, l, e, ty_rm 8 117 ct_L_at, s, m, av.toArray, below, meth, c, MQ below (mh_Q vwCl D M0 s.heap.size (ty_po tys pKT INV pPG ct_L_at av M0 σ0)) av.toArray s (ty_rm 8 117 ct_L_at).cells (ty_rm 8 117 ct_L_at).slots (va_A (mh_w M0) s.heap.size), D, va_A (mh_w M0) s.heap.size, s.heap) : gx_T) = x
  have hx : gC x vwCl cL_at 5 tys kwT "KnowDiskLaw" := by rw [← hx0]; exact ⟨⟨B.exec, B.bytes, hml, findClass_of_methodNamed B.named, kwT_hts hK.2.1⟩, hK⟩
  have hr : gR_ret x vwCl cL_at (some .int) (ty_po tys pKT INV pPG ct_L_at av M0 σ0) 1 6 := by
    rw [← hx0]
    intro pc ls' i v M' n k hd hrt hp hn hk H locs hm'
    obtain ⟨rfl, z, rfl, hnr⟩ := hrt
    exact mh_zret B.exec B.bytes B.returns B.notSynchronized hnr hm' hd hn hk hp
  have goal : ∀ ls, lv_has ls 5 (lv_args 0 av) → gG x vwCl 0 ls [] M0 0 0 := by
    intro ls hl
    obtain ⟨v, vs, rfl, ⟨kd, rfl, hkd⟩, hv1⟩ := ty_av_c hav
    obtain ⟨v, vs, rfl, ⟨i1, rfl, b1, b2⟩, hv2⟩ := ty_av_c hv1
    obtain ⟨v, vs, rfl, ⟨i2, rfl, b3, b4⟩, hv3⟩ := ty_av_c hv2
    obtain ⟨v, vs, rfl, ⟨ot, rfl, hot⟩, hv4⟩ := ty_av_c hv3
    have hv5 := ty_av_n hv4
    subst hv5
    have hkd : σ0 kd = some 0 := hkd
    have hot : σ0 ot = some 25 := hot
    have h0 : ls[((0 : Fin 4) : Nat)]? = some (.val (.ref kd)) := hl.2.2 (0, .ref kd) List.mem_cons_self
    have h1 : ls[((1 : Fin 4) : Nat)]? = some (.val (.int i1)) := hl.2.2 (1, .int i1) (List.mem_cons_of_mem _ List.mem_cons_self)
    have h2 : ls[((2 : Fin 4) : Nat)]? = some (.val (.int i2)) := hl.2.2 (2, .int i2) (List.mem_cons_of_mem _ (List.mem_cons_of_mem _ List.mem_cons_self))
    have h3 : ls[((3 : Fin 4) : Nat)]? = some (.val (.ref ot)) := hl.2.2 (3, .ref ot) (List.mem_cons_of_mem _ (List.mem_cons_of_mem _ (List.mem_cons_of_mem _ List.mem_cons_self)))
    obtain ⟨fs, hat, -⟩ := ty_obj hH0 hkd (show pKT[0]? = some (0, 6, _) from rfl)
    have fin : ∀ (b : Int32) (pc : Nat) (ls : Array Slot) (M : mh_M) (σ : ty_K), 0 ≤ b.toInt → b.toInt ≤ 1 → decode cL_at pc = .ok (.ireturn, 1) → ty_FM [(25, 0)] [] σ0 M0 σ M → ty_H tys pKT σ M → INV σ M → gG x vwCl pc ls [.int b] M (0 + 1) (0 + 6) := fun b pc ls M σ e1 e2 hd hF hH hI =>
      hr pc ls .ireturn (some (.int b)) M _ _ hd ⟨rfl, b, rfl, rfl⟩ ⟨σ, hF, hH, hI, ⟨_, rfl, b, rfl, e1, e2⟩, trivial⟩ (Nat.le_refl _) (Nat.le_refl _)
    refine gG_sp hx (i := .aload_n 3) (len := 1) (by decide +kernel) (sp_al (j := 3) h3) ?_
    refine gG_sp hx (i := .iconst 0) (len := 1) (by decide +kernel) (r := [.int (nI 0), .ref ot]) rfl ?_
    refine gG_sp hx (i := .aload_n 0) (len := 1) (by decide +kernel) (sp_al (j := 0) h0) ?_
    refine gG_sp hx (i := .iload_n 1) (len := 1) (by decide +kernel) (sp_il (j := 1) h1) ?_
    refine gG_sp hx (i := .iload_n 2) (len := 1) (by decide +kernel) (sp_il (j := 2) h2) ?_
    subst hx0
    refine gA_call hx (mt_X4_at hG htr (σ0 := σ0) ⟨⟨kd, rfl, hkd⟩, ty_any _, ty_any _, trivial⟩ hH0 hI0) hat hl.1 htab (by decide) (by decide) (by decide) (by decide) (by show 2 ≤ 8; omega) (fun z M' z1 z2 hp => ?_) (fun a M' hp => ?_)
    · obtain ⟨σ', hF, hH, hI⟩ := hp
      have hot' := hF.kinds ot 25 hot
      obtain ⟨cA, ft, f, t3, at3⟩ := ty_arrL hH hot' (show pKT[25]? = some (23, 1, []) from rfl)
      have htt := hG.1
      obtain ⟨cB, cI, cZ, cJ, rr, rfl⟩ := htt
      cases t3
      refine gG_sp hx (i := .i2l) (len := 1) (by decide +kernel) rfl ?_
      refine gG_last hx 3 (by decide +kernel) at3 rfl (vp_in_iff.mpr ⟨by decide, by decide⟩) ?_
      refine gG_goto hx (off := 7) (tgt := 17) (by decide +kernel) rfl ?_
      refine gG_sp hx (i := .iconst 0) (len := 1) (by decide +kernel) rfl ?_
      refine fin _ 18 ls _ σ' (by decide) (by decide) (by decide +kernel) ((ty_FMw (fun q h => absurd h List.not_mem_nil) (fun q h => h) hF).tr (ty_F_set hot' (fun i hi => ty_p_arr at3.2 i (fun q => hi (by rw [q]; decide))))) (ty_H_set hH hot' rfl (ty_ok_al (ft := .long) rfl)) ?_
      exact ty_sIset hG.2.1 hot' (fun i hi => ty_p_arr at3.2 i (fun q => by rw [q] at hi; exact absurd hi (by decide))) hI
    · obtain ⟨σ', hF, hH, hI⟩ := hp
      refine gG_astore hx hl.1 hl.2.1 (i := 4) (len := 2) (Or.inl ⟨by decide +kernel, rfl⟩) (by decide) (fun ls1 p1 => ?_)
      refine gG_sp hx (i := .iconst 1) (len := 1) (by decide +kernel) rfl ?_
      exact fin _ 16 ls1 _ σ' (by decide) (by decide) (by decide +kernel) (ty_FMw (fun q h => absurd h List.not_mem_nil) (fun q h => h) hF) hH hI
  have hW := goal _ hl
  rw [← hx0] at hW
  exact hW s.heap [] hm0
