/-! the script, KnowDiskLaw.cell, the call of KnowDiskLaw.at -/
section SC2
variable {p : Program} {l : Launch} {e : Env} {R : Room} {s : State} {m : MethodId} {args : Array Value} {below : List Frame} {meth : Method} {c : Code} {Q : State → Prop} {D : va_G} {A : Nat → Prop} {H0 : Heap} {tys : List (ClassId × FieldType)} {ls : Array Slot} {M : mh_M} {cl : List vw_C} {cc : ByteArray} {nL pc n k b L : Nat} {own : String} {st : List Value} {xs : Nat → Int32}
theorem gG_sld (hx : gC (p, l, e, R, s, m, args, below, meth, c, Q, D, A, H0) cl cc nL tys kwT own) (hX : va_X b L xs s H0) (hbl : b < H0.size) (hbA : ¬ A b) {i : Int32} (hin : vp_in i L) (hd : decode cc pc = .ok (.iaload, 1)) (kk : gG (p, l, e, R, s, m, args, below, meth, c, Q, D, A, H0) cl (pc + 1) ls (.int (xs i.toNatClampNeg) :: st) M n k) : gG (p, l, e, R, s, m, args, below, meth, c, Q, D, A, H0) cl pc ls (.int i :: .ref b :: st) M n k := by
  obtain ⟨⟨he, hb, -⟩, -⟩ := hx
  exact fun H locs hm => va_sld he hb hX hbl hbA hm.2.2.1 hin hd (kk H locs hm)
theorem gG_slen (hx : gC (p, l, e, R, s, m, args, below, meth, c, Q, D, A, H0) cl cc nL tys kwT own) (hX : va_X b L xs s H0) (hbl : b < H0.size) (hbA : ¬ A b) (hd : decode cc pc = .ok (.arraylength, 1)) (kk : gG (p, l, e, R, s, m, args, below, meth, c, Q, D, A, H0) cl (pc + 1) ls (.int (Int32.ofNat L) :: st) M n k) : gG (p, l, e, R, s, m, args, below, meth, c, Q, D, A, H0) cl pc ls (.ref b :: st) M n k := by
  obtain ⟨⟨he, hb, -⟩, -⟩ := hx
  exact fun H locs hm => va_slen he hb hX hbl hbA hm.2.2.1 hd (kk H locs hm)
end SC2
def cPc (b L : Nat) (xs : Nat → Int32) (i : Int32) : Array Value → State → Prop := fun a U => a = ([.ref b, .int i] : List Value).toArray ∧ va_X b L xs U U.heap
def cQc : Array Value → State → Outcome → State → Prop := fun _ st o t => (∃ v : Int32, o = .returned (some (.int v))) ∧ t.heap = st.heap
theorem mt_L_cell (l : Launch) (b L : Nat) (xs : Nat → Int32) (i : Int32) (hi : 0 ≤ i.toInt) (hL : L < 2147483648) : Met l yL_cell [Cond.code yL_cell cL_cell 2 (some .int)] (ty_rm 0 0 cZ0) (cPc b L xs i) cQc 0 0 (fun _ => False) := by
  refine Met.ofW (cc := cL_cell) (maxL := 2) (ret := some .int) (ws' := []) (by decide +kernel) rfl ?_
  intro p e s m args below meth c s₁ B hml hP
  obtain ⟨rfl, hX⟩ := hP
  have hl := lv_entry [.ref b, .int i] (n := 2) (Nat.le_refl 2)
  rw [lg_entry_eq]
  have hbl : b < s.heap.size := by obtain ⟨scr, h1, -⟩ := hX; exact (Array.getElem?_eq_some_iff.mp h1).1
  have hS : va_S (fun _ => False) s.heap s.heap [] := va_S.rf
  generalize (lg_sl [.ref b, .int i] ++ List.replicate (2 - (lg_sl [.ref b, .int i]).length) Slot.unset).toArray = ls at hl ⊢
  have h0 : ls[((0 : Fin 4) : Nat)]? = some (.val (.ref b)) := hl.2.2 (0, .ref b) List.mem_cons_self
  have h1 : ls[((1 : Fin 4) : Nat)]? = some (.val (.int i)) := hl.2.2 (1, .int i) (List.mem_cons_of_mem _ List.mem_cons_self)
  have he := B.exec
  have hb := B.bytes
  have fin : ∀ v : Int32, W p l e (headSpec [Cond.code yL_cell cL_cell 2 (some .int)] (ty_rm 0 0 cZ0)).room s m ([.ref b, .int i] : List Value).toArray below meth c s.heap [] 0 0 (MQ below cQc ([.ref b, .int i] : List Value).toArray s 0 0 (fun _ => False)) (F0 m 13 ls [.int v]) := fun v =>
    W.iret he hb B.returns (fun t ht _ => ⟨⟨v, rfl⟩, ht⟩) (fun q hq => absurd hq List.not_mem_nil) (by decide +kernel : decode cL_cell 13 = .ok (.ireturn, 1)) B.notSynchronized
  refine lv_iload_n he hb (by decide +kernel : decode cL_cell 0 = .ok (.iload_n 1, 1)) rfl h1 ?_
  refine lv_aload_n he hb (by decide +kernel : decode cL_cell 1 = .ok (.aload_n 0, 1)) rfl h0 ?_
  refine va_slen (A := fun _ => False) he hb hX hbl (fun q => q) hS (by decide +kernel : decode cL_cell 2 = .ok (.arraylength, 1)) ?_
  refine lv_icmp_ge (tgt := 12) he hb (by decide +kernel : decode cL_cell 3 = .ok (.if_icmp .ge 9, 3)) rfl (fun _ => ?_) (fun q => ?_)
  · refine lv_iconst he hb (by decide +kernel : decode cL_cell 12 = .ok (.iconst 0, 1)) rfl ?_
    exact fin _
  · have eL : (Int32.ofNat L).toInt = (L : Int) := nI_tn hL
    have q2 : ¬ (Int32.ofNat L).toInt ≤ i.toInt := fun w => q (Int32.le_iff_toInt_le.mpr w)
    rw [eL] at q2
    refine lv_aload_n he hb (by decide +kernel : decode cL_cell 6 = .ok (.aload_n 0, 1)) rfl h0 ?_
    refine lv_iload_n he hb (by decide +kernel : decode cL_cell 7 = .ok (.iload_n 1, 1)) rfl h1 ?_
    refine va_sld (A := fun _ => False) he hb hX hbl (fun q => q) hS (vp_in_iff.mpr ⟨hi, by omega⟩) (by decide +kernel : decode cL_cell 8 = .ok (.iaload, 1)) ?_
    refine lv_goto (tgt := 13) he hb (by decide +kernel : decode cL_cell 9 = .ok (.goto 4, 3)) rfl ?_
    exact fin _
section CC2
variable {p : Program} {l : Launch} {e : Env} {R : Room} {s : State} {m : MethodId} {args : Array Value} {below : List Frame} {meth : Method} {c : Code} {Q : State → Prop} {D : va_G} {A : Nat → Prop} {H0 : Heap} {tys : List (ClassId × FieldType)} {ls : Array Slot} {M : mh_M} {cc : ByteArray} {nL pc n k b L : Nat} {rest : List Value} {xs : Nat → Int32}
set_option maxRecDepth 100000 in
theorem gX_cell (hx : gC (p, l, e, R, s, m, args, below, meth, c, Q, D, A, H0) vwCl cc nL tys kwT "KnowDiskLaw") (hX : va_X b L xs s H0) (hbl : b < H0.size) (hbA : ¬ A b) (hL : L < 2147483648) {i : Int32} (hi : 0 ≤ i.toInt) (hRf : 1 ≤ R.frames) (hRl : 21 ≤ R.locals) (hn : n ≤ R.cells) (hk : k ≤ R.slots) (hs : ls.size = nL) (h8 : (rest.map fun v => v.category).sum ≤ 8) (hd : decode cc pc = .ok (.invokestatic 15, 3)) (kk : ∀ v : Int32, gG (p, l, e, R, s, m, args, below, meth, c, Q, D, A, H0) vwCl (pc + 3) ls (.int v :: rest) M n k) : gG (p, l, e, R, s, m, args, below, meth, c, Q, D, A, H0) vwCl pc ls (.int i :: .ref b :: rest) M n k := by
  have cw := gx_cb (idx := 15) (C := cZ0) (fr := 0) (lo := 0) (y := yL_cell) (bytes := cL_cell) (maxL := 2) (rF := some .int) hx (kw_at 511 (by decide +kernel)) (kw_at 0 (by decide +kernel)) (kw_at 509 (by decide +kernel)) (n := 2) (by decide +kernel) ⟨by omega, by omega⟩
  have w1 := gx_word hx (w := Cond.static yL_cell) (kw_at 510 (by decide +kernel)) rfl
  intro H locs hm
  have hp : PreS s H (cPc b L xs i) [.ref b, .int i] := ⟨fun a U g mk q => ⟨q.1, q.2⟩, fun U hU hW => ⟨rfl, by rw [hU]; exact (hX.kept (hm.2.2.1.2.1 b hbl hbA)).moved hW.alike⟩⟩
  have hr := va_runS (rest := rest) (cells := n) (slots := k) (locs := locs) hx.1 (mt_L_cell l b L xs i hi hL) ⟨cw, w1⟩ hp (g := F0 m pc ls (.int i :: .ref b :: rest)) rfl rfl hs rfl (lv_room h8) hd ⟨hn, hk⟩ (p := p) (e := e) (below := below) (meth := meth)
  intro T hT X
  obtain ⟨v, st₀, t, T', Lq, h0, X', hLq, e1, e2, ⟨⟨v', hv⟩, hh⟩, st⟩ := hr T hT X
  cases hv
  have eL : Lq = [] := List.eq_nil_iff_forall_not_mem.mpr (fun q hq => hLq q hq)
  subst eL
  rw [List.append_nil] at X'
  obtain ⟨t2, a1, b1⟩ := kk v' H locs hm T' (by rw [e1, hh, h0]) X'
  exact ⟨t2, st t2 a1, b1⟩
set_option maxRecDepth 100000 in
/-- the call of KnowDiskLaw.at -/
theorem gX_lat {av : List Value} {post : Option Value → mh_M → Prop} (hx : gC (p, l, e, R, s, m, args, below, meth, c, Q, D, A, H0) vwCl cc nL tys kwT "KnowDiskLaw") (hM : mh_Met vwCl tys l D yL_at [wL_at] (ty_rm 8 117 ct_L_at) av M post) (hav : av.length = 4) (hRf : 9 ≤ R.frames) (hRl : 141 ≤ R.locals) (hn : n + 1 ≤ R.cells) (hk : k + 6 ≤ R.slots) (hs : ls.size = nL) (h8 : (rest.map fun v => v.category).sum ≤ 8) (hd : decode cc pc = .ok (.invokestatic 53, 3)) (kk : ∀ (v : Option Value) (M' : mh_M), post v M' → gG (p, l, e, R, s, m, args, below, meth, c, Q, D, A, H0) vwCl (pc + 3) ls (v.toList ++ rest) M' (n + 1) (k + 6)) : gG (p, l, e, R, s, m, args, below, meth, c, Q, D, A, H0) vwCl pc ls (av.reverse ++ rest) M n k := by
  have wc := gx_word hx (w := wL_at) (kw_at 514 (by decide +kernel)) rfl
  have wi := gx_word hx (w := Cond.initialized "KnowDiskLaw") (kw_at 0 (by decide +kernel)) rfl
  have wl := gx_word hx (w := Cond.methodLink "KnowDiskLaw" 53 yL_at) (kw_at 512 (by decide +kernel)) rfl
  have wst := gx_word hx (w := Cond.static yL_at) (kw_at 513 (by decide +kernel)) rfl
  have hKX := hx.2
  obtain ⟨⟨he, hb, hml, ho, hts⟩, hK, hWw, hZ, hE⟩ := hx
  intro H locs hm
  refine mh_after (mc := 1) (ms := 6) hm (?_ : va_Run p l e R s m args below meth c H locs n k 1 6 (F0 m pc ls (av.reverse ++ rest)) rest (mh_Q vwCl D M H.size post av.toArray) (va_A (mh_w M) H.size)) (fun v M' H1 l1 hp h1 => kk v M' hp H1 l1 h1)
  intro T hT X
  have hB : Back l R p e below s args yL_at 3 8 (PreOf R 1 6 (mh_Pc vwCl tys D av M H.size)) (PostOf (mh_Q vwCl D M H.size post) 1 6 (va_A (mh_w M) H.size)) :=
    va_backW (hh := [(0, 10, 13, 13)]) (bytes := cL_at) (maxL := 5) (ret := some .int) (hM H.size) mh_blind rfl rfl (by show 8 + 1 ≤ R.frames; omega) (by show 8 + (5 + 11) + 117 ≤ R.locals; omega) (fun w hw a' U hW => by rw [List.mem_singleton.mp hw]; exact kw_warm rfl hW wc) (List.mem_singleton.mpr rfl) (fun a' U hW => kw_warm rfl hW wi)
  obtain ⟨mk, methM, cM, hnamed, hmethM, hcM, -, -, -, -, -, hsigM⟩ := Cond.codeWith_spec wc
  have hstatic : methM.isStatic = true := Cond.static_spec hnamed hmethM wst
  obtain ⟨kP, hkP, -⟩ := className_of_methodNamed hnamed
  have hinitP : kP.init = .initialized := Cond.initialized_spec (findClass_of_methodNamed hnamed) hkP wi
  have hlen : av.length = methM.sig.parameters.length := by
    have h1 : (parseMethodDescriptor yL_at.desc).map (fun d => d.parameters.length) = some 4 := by decide +kernel
    rw [hsigM] at h1
    rw [hav]
    exact (Option.some.inj h1).symm
  have hdg : decode c.code (F0 m pc ls rest).pc = .ok (.invokestatic 53, 3) := by rw [hb]; exact hd
  obtain ⟨vm₁, X₁, hstep₁⟩ := X.invokestatic he ho wl hnamed hmethM hstatic hkP hinitP (by decide) (g := F0 m pc ls (av.reverse ++ rest)) rfl (argsL := av) (rest := rest) hlen rfl hdg
  obtain ⟨v, ⟨U', ls', c', sl'⟩, X', ⟨g', mk', t, L, e1, e2, hq, hl, hL, hc, hsl⟩, hsteps⟩ := hB m meth c ⟨T.setVm vm₁, locs, n, k⟩ (F0 m pc ls rest) (.invokestatic 53) mk av.toArray X₁ rfl (by rw [hml]; exact hs) hdg (lv_room h8) (X₁.named hnamed) ⟨hn, hk, rfl, by show T.heap.size = H.size; rw [hT], by show va_P D vwCl (mh_w M) T.heap; rw [hT]; exact hm.1, kX_call X₁.warmed (show (T.setVm vm₁).heap = H from hT) hKX hm, hm.2.1.weaken (fun _ _ _ _ => trivial)⟩
  dsimp only [Pt.U, Pt.locs, Pt.cells, Pt.slots] at X' e1 e2 hl hc hsl hsteps
  subst hl; subst hc; subst hsl
  exact ⟨v, _, t, U', L, hT, X', hL, e1, e2, hq, fun target h => hstep₁ _ fun acts => by rw [doInvoke_state]; exact hsteps.trans h⟩
end CC2
