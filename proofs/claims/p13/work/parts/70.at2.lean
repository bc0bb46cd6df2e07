def pr_X4_at : List (Nat × Instr × Nat) := [(0, .aload_n 0, 1), (1, .getfield 66, 3), (4, .ifCond .eq 18, 3), (7, .aload_n 0, 1), (8, .iload_n 1, 1), (9, .invokevirtual 70, 3), (12, .ifCond .eq 10, 3), (15, .iload_n 2, 1), (16, .invokestatic 150, 3), (19, .ifCond .ne 13, 3), (22, .new 153, 3), (25, .dup, 1), (26, .ldc 155, 2), (28, .invokespecial 157, 3), (31, .athrow, 1), (32, .aload_n 0, 1), (33, .getfield 30, 3), (36, .aload_n 0, 1), (37, .iload_n 1, 1), (38, .invokevirtual 160, 3), (41, .iload_n 2, 1), (42, .invokevirtual 163, 3), (45, .i2b, 1), (46, .ireturn, 1)]
theorem pd_X4_at : ∀ q ∈ pr_X4_at, decode cX4_at q.1 = .ok (q.2.1, q.2.2) := by decide +kernel
def ct_X4_at : ty_C := ([(2, 0, 0), ty_f, ty_f], some (0, -128, 127), [], [], 1, 6, ty_i0)
def fT_X4_at : List (Nat × Nat × Nat × FieldType) := [(66, 6, 6, .boolean), (30, 6, 2, .object "KnowDisk$Sectors")]
def pT_X4_at : List (Nat × Nat × Nat × FieldType) := []
def cT_X4_at : List (Nat × ty_C) := [(210, ct_X4_isPage), (451, ct_X4_isInSector), (480, ct_X4_placeOf), (489, ct_X0_byteOf)]
def kT_X4_at : List (Nat × Int) := []
def lT_X4_at : List Nat := []
def nT_X4_at : List (Nat × Nat × Nat × Nat × List Value) := []
set_option maxRecDepth 100000 in
theorem pv_X4_at {x : gx_T} {l : Launch} {D : va_G} {tys : List (ClassId × FieldType)} {INV : ty_K → mh_M → Prop} (hG : pG tys INV) (hx : gC x vwCl cX4_at 3 tys kwT yX4_at.cls) (hl : x.2.1 = l) (hnm : x.2.2.2.2.2.2.2.2.1.name = yX4_at.name) (hR : gx_R x = ty_rm 7 95 ct_X4_at) (hD : x.2.2.2.2.2.2.2.2.2.2.2.1 = D) : ty_Pv x cX4_at 3 tys INV fT_X4_at pT_X4_at cT_X4_at kT_X4_at lT_X4_at nT_X4_at :=
  ⟨(pcons (gR_getP hx rfl (by decide) uX4 (kw_at 113 (by decide +kernel))) (pcons (gR_getP hx rfl (by decide) uX4 (kw_at 109 (by decide +kernel))) pnil)), pnil, (pcons (gR_cV (idx := 70) hx hl hD (mt_X4_isPage hG) rfl (ci := 6) (T := TX4) (N := 13) rfl rfl (kw_at 154 (by decide +kernel)) (kw_at 1 (by decide +kernel)) (Or.inl (kw_at 151 (by decide +kernel))) (kw_at 153 (by decide +kernel)) (kw_sl 0 (by decide +kernel)) (by decide +kernel) ⟨by rw [hR]; decide, by rw [hR]; decide⟩) (pcons (gR_cS (idx := 150) hx hl hD (mt_X4_isInSector hG) (kw_at 180 (by decide +kernel)) (kw_at 1 (by decide +kernel)) (Or.inl (kw_at 458 (by decide +kernel))) (kw_at 179 (by decide +kernel)) (by decide +kernel) ⟨by rw [hR]; decide, by rw [hR]; decide⟩) (pcons (gR_cV (idx := 160) hx hl hD (mt_X4_placeOf hG) rfl (ci := 6) (T := TX4) (N := 13) rfl rfl (kw_at 158 (by decide +kernel)) (kw_at 1 (by decide +kernel)) (Or.inl (kw_at 155 (by decide +kernel))) (kw_at 157 (by decide +kernel)) (kw_sl 1 (by decide +kernel)) (by decide +kernel) ⟨by rw [hR]; decide, by rw [hR]; decide⟩) (pcons (gR_cV (idx := 163) hx hl hD (mt_X0_byteOf hG) rfl (ci := 2) (T := TX0) (N := 1) rfl rfl (kw_at 174 (by decide +kernel)) (kw_at 3 (by decide +kernel)) (Or.inr ⟨"KnowDisk", (kw_at 171 (by decide +kernel))⟩) (kw_at 173 (by decide +kernel)) (kw_sl 5 (by decide +kernel)) (by decide +kernel) ⟨by rw [hR]; decide, by rw [hR]; decide⟩) pnil)))), pnil, pnil, pnil⟩
section TH
variable {p : Program} {l : Launch} {e : Env} {R : Room} {s : State} {m : MethodId} {args : Array Value} {below : List Frame} {meth : Method} {c : Code} {Q : State → Prop} {D : va_G} {A : Nat → Prop} {H0 : Heap} {tys : List (ClassId × FieldType)} {ls : Array Slot} {M : mh_M}
set_option maxRecDepth 100000 in
set_option maxHeartbeats 4000000 in
/-- from pc 22 the exception is made and thrown -/
theorem gT_throw (hx : gC (p, l, e, R, s, m, args, below, meth, c, Q, D, A, H0) vwCl cX4_at 3 tys kwT "KnowDisk") (hlk : meth.locks = false) (hex : c.exceptionTable.toList = []) (htr : e.platform.stackTraces = false) (hRf : 7 ≤ R.frames) (hRl : 95 ≤ R.locals) (hRc : 1 ≤ R.cells) (hRs : 6 ≤ R.slots) (hs : ls.size = 3)
    (hq : ∀ (H : Heap) (locs : List Loc) (t : State) (a : Nat) (ce : Cell), mh vwCl D A H0 H locs M → t.status = .running → Ended t below (.threw a) → s.WarmedH t.vm → s.sameButNew ({ t with vm := s.vm } : State) locs 1 6 → H.size ≤ t.heap.size → (∀ q, q < H.size → t.heap[q]? = H[q]?) → t.heap[a]? = some ce → ce.vm = .none → s.vm.findClass tX = some ce.cls → Q t) : gG (p, l, e, R, s, m, args, below, meth, c, Q, D, A, H0) vwCl 22 ls [] M 0 0 := by
  obtain ⟨⟨he, hb, hml, ho, hts⟩, hK, hW, hZ, hE⟩ := hx
  intro H locs hm T hT X
  obtain ⟨X2, hB⟩ := st_rebase X (Nat.zero_le _) (Nat.zero_le _)
  obtain ⟨s2, es2⟩ : ∃ s2 : State, s2 = { s with heap := T.heap, slotsUsed := T.slotsUsed } := ⟨_, rfl⟩
  obtain ⟨R2, eR2⟩ : ∃ R2 : Room, R2 = { R with cells := R.cells - 0, slots := R.slots - 0 } := ⟨_, rfl⟩
  rw [← es2, ← eR2] at X2
  rw [← es2] at hB
  have v2 : s2.vm = s.vm := by rw [es2]
  have hp2 : s2.heap = T.heap := by rw [es2]
  have r1 : R2.frames = R.frames := by rw [eR2]
  have r2 : R2.locals = R.locals := by rw [eR2]
  have r3 : R2.cells = R.cells := by rw [eR2]; rfl
  have r4 : R2.slots = R.slots := by rw [eR2]; rfl
  clear es2 eR2
  have ho2 : s2.vm.findClass "KnowDisk" = some m.cls := by rw [v2]; exact ho
  have hws : s.WarmedH s2.vm := by rw [v2]; exact State.WarmedH.refl s
  have hag : ∀ a : Nat, a < H0.size → ¬ A a → s2.heap[a]? = H0[a]? := fun a ha hn => by
    rw [hp2, hT]
    exact hm.2.2.1.2.1 a ha hn
  have hkW := hW.moved hws
  have hw1 : ∀ w ∈ lw_tbl, kw_ok w = true → w.before args s2 = true := fun w h1 h2 => hkW w h1 h2 args
  have hw2 : ∀ w ∈ kSW, w.before args s2 = true := fun w h => hZ.2.2.2 w h _ hws hag args
  have hwd : ∀ a ∈ Bundle.ownAtoms "KnowDisk" 157 tX tNs, a.before args s2 = true := fun a ha => by
    rcases tAll a ha with ⟨h1, h2⟩ | h1
    · exact hw1 a (List.mem_append_right _ h1) h2
    · exact hw2 a h1
  have wS := hw2 (Cond.stringRef "KnowDisk" 155 "no such byte of a page") (by decide +kernel)
  obtain ⟨ks, cfs, is_, ad, -, -, -, -, -, hev⟩ := Cond.stringRef_spec ho2 wS
  have d22 : decode cX4_at (F0 m 22 ls []).pc = .ok (.new 153, 3) := (by decide +kernel : decode cX4_at 22 = .ok (.new 153, 3))
  have w1 := hw1 (Cond.classLink "KnowDisk" 153 tX) (kw_at 520 (by decide +kernel)) rfl
  have w2 := hw1 (Cond.instantiable tX 6) (kw_at 521 (by decide +kernel)) rfl
  have w3 := hw1 (Cond.initialized tX) (kw_at 22 (by decide +kernel)) rfl
  have hW2 : W p l e R2 s2 m args below meth c T.heap [] 0 0 Q (F0 m 22 ls []) := by
    refine W.newc (g := F0 m 22 ls []) (own := "KnowDisk") (C := tX) (index := 153) (n := 6) he hb ho2 w1 w2 w3 rfl d22 (by omega) (by omega) (fun cC kC f1 f2 f3 f4 => ?_)
    show W p l e R2 s2 m args below meth c (T.heap.push _) [] (0 + 1) (0 + 6) Q (F0 m 25 ls [.ref T.heap.size])
    refine lv_dup he hb (by decide +kernel) rfl ?_
    refine va_ldcS he hb ho2 (tx := "no such byte of a page") (index := 155) (q := ad) (vk_R.of (A := args) wS hev) (by decide +kernel) ?_
    intro T2 hT2 X3
    have hg6 : decode c.code (F0 m 28 ls [.ref ad, .ref T.heap.size, .ref T.heap.size]).pc = .ok (.invokespecial 157, 3) := by
      rw [hb]
      exact (by decide +kernel : decode cX4_at 28 = .ok (.invokespecial 157, 3))
    have hg9 : decode c.code ((F0 m 28 ls [.ref ad, .ref T.heap.size, .ref T.heap.size]).pc + 3) = .ok (.athrow, 1) := by
      rw [hb]
      exact (by decide +kernel : decode cX4_at 31 = .ok (.athrow, 1))
    obtain ⟨U, st, run, en, hWU, hsame, ce, hce, hown⟩ := X3.ctorThrowS (own := "KnowDisk") (cls := tX) (names := tNs) (ic := 157) (a := T.heap.size) (cX := cC) (kX := kC) (msg := .ref ad) (rest := []) he htr ho2 (by decide +kernel) (by decide +kernel) hwd (fun x hx => absurd hx List.not_mem_nil) f1 f2 (by rw [hT2]; exact Array.getElem?_push_size) (by rw [hp2]; exact Nat.le_refl _) rfl (g := F0 m 28 ls [.ref ad, .ref T.heap.size, .ref T.heap.size]) rfl (by rw [hml]; exact hs) rfl rfl rfl hg6 hg9 (fun x hx => by rw [hex] at hx; exact absurd hx List.not_mem_nil) (by show 3 + 3 < R2.frames; omega) (by show 2 * 0 + 1 + (13 * (3 + 1) + 42) ≤ R2.locals; omega) hlk
    refine ⟨U, st, hq H locs U T.heap.size ce hm run en (State.WarmedH.trans hws hWU) ?_ ?_ ?_ hce hown.vm (by rw [← v2]; exact hown.cls)⟩
    · have h3 := hB.trans hsame
      rw [List.append_nil, v2] at h3
      exact h3
    · have h1 : s2.heap.size ≤ U.heap.size := hsame.2.1
      rw [hp2, hT] at h1
      exact h1
    · intro q hq1
      have hq2 : q < s2.heap.size := by rw [hp2, hT]; exact hq1
      have h2 : s2.heap[q]? = some s2.heap[q] := Array.getElem?_eq_getElem hq2
      obtain ⟨c', g1, g2, g3, g4⟩ := hsame.2.2.2.2.2 q s2.heap[q] h2
      have g5 : c' = s2.heap[q] := by
        rw [g2]
        have : c'.slots = (s2.heap[q]).slots := Array.ext_getElem? (fun i => g4 i List.not_mem_nil)
        rw [this]
      have g1 : U.heap[q]? = some c' := g1
      rw [g1, g5, ← h2, hp2, hT]
  obtain ⟨t, a1, b1⟩ := hW2 T rfl X2
  exact ⟨t, a1, b1⟩
end TH
theorem va_Pkeep {D : va_G} {cl : List vw_C} {ws : va_W} {H H1 : Heap} (h : va_P D cl ws H) (hk : ∀ q, q < H.size → H1[q]? = H[q]?) : va_P D cl ws H1 := h.kept (fun k q hq => hk _ (h k q hq).lt)
/-- what at leaves: its own cells told, a byte or an exception of its class -/
def aQ (D : va_G) (M : mh_M) (sz : Nat) (post : mh_M → Prop) : Array Value → State → Outcome → State → Prop := fun _ st oc t =>
  (∃ M' : mh_M, post M' ∧ va_P D vwCl (mh_w M') t.heap ∧ va_D (va_A (mh_w M) sz) (mh_w M')) ∧ va_F (va_A (mh_w M) sz) st t ∧
  ((∃ z : Int32, oc = .returned (some (.int z)) ∧ -128 ≤ z.toInt ∧ z.toInt ≤ 127) ∨ (∃ (a : Nat) (ce : Cell), oc = .threw a ∧ t.heap[a]? = some ce ∧ ce.vm = .none ∧ st.vm.findClass tX = some ce.cls)) ∧
  ∃ L, st.WarmedH t.vm ∧ st.sameButNew ({ t with vm := st.vm } : State) L 1 6 ∧ ∀ q ∈ L, va_A (mh_w M) sz q.base
def aMet (l : Launch) (D : va_G) (tys : List (ClassId × FieldType)) (av : List Value) (M : mh_M) (post : mh_M → Prop) : Prop := ∀ sz : Nat, MetFree l yX4_at (headSpec [Cond.code yX4_at cX4_at 3 (some .byte)] (ty_rm 7 95 ct_X4_at)) (mh_Pc vwCl tys D av M sz) (fun _ _ _ _ _ => True) (aQ D M sz post)
set_option maxRecDepth 100000 in
set_option maxHeartbeats 4000000 in
theorem mt_X4_at {l : Launch} {D : va_G} {tys : List (ClassId × FieldType)} {INV : ty_K → mh_M → Prop} (hG : pG tys INV) (htr : ∀ e : Env, l.admits e → e.platform.stackTraces = false) {av : List Value} {M0 : mh_M} {σ0 : ty_K} (hav : ty_av σ0 (pPG σ0 M0) av ct_X4_at.1) (hH0 : ty_H tys pKT σ0 M0) (hI0 : INV σ0 M0) : aMet l D tys av M0 (fun M' => ∃ σ', ty_FM [] [] σ0 M0 σ' M' ∧ ty_H tys pKT σ' M' ∧ INV σ' M') := by
  intro sz
  refine MetFree.of_bodyS (code := cX4_at) (maxLocals := 3) (ret := some .byte) (by decide +kernel) (fun args s m h hn => ?_) (fun p e s m args below meth c s₁ B hml hv _ => ?_)
  · obtain ⟨meth, c, h1, h2, h3, h4, h5, h6, -, -⟩ := Cond.code_spec hn (atoms_spec (ws := [Cond.code yX4_at cX4_at 3 (some .byte)]) h _ List.mem_cons_self)
    exact ⟨meth, c, h1, h2, h3, h4, h5, h6⟩
  · obtain ⟨rfl, hsz, hP, hK, hD0⟩ := hv
    subst hsz
    have hD := hD0.self (sz := s.heap.size)
    have hl := lv_entry av (n := 3) (by rw [ty_w0_ok (by decide +kernel) hav]; decide)
    have hm0 : mh vwCl D (va_A (mh_w M0) s.heap.size) s.heap s.heap [] M0 := ⟨hP, hD, va_S.rf, fun q h => Or.inr h⟩
    have hcw := atoms_spec (ws := [Cond.code yX4_at cX4_at 3 (some .byte)]) B.pre _ List.mem_cons_self
    have hex : c.exceptionTable.toList = [] := by
      have := B.noHandlers hcw
      rw [Array.isEmpty_iff] at this
      rw [this]
    have hS0 := Stand.of_body B
    have htr' := htr e hS0.admits
    let Qf : State → Prop := fun t => ∃ o, t.status = .running ∧ Ended t below o ∧ aQ D M0 s.heap.size (fun M' => ∃ σ', ty_FM [] [] σ0 M0 σ' M' ∧ ty_H tys pKT σ' M' ∧ INV σ' M') av.toArray s o t
    have hx : gC (p, l, e, ty_rm 7 95 ct_X4_at, s, m, av.toArray, below, meth, c, Qf, D, va_A (mh_w M0) s.heap.size, s.heap) vwCl cX4_at 3 tys kwT "KnowDisk" := ⟨⟨B.exec, B.bytes, hml, findClass_of_methodNamed B.named, kwT_hts hK.2.1⟩, hK⟩
    have hr : gR_ret (p, l, e, ty_rm 7 95 ct_X4_at, s, m, av.toArray, below, meth, c, Qf, D, va_A (mh_w M0) s.heap.size, s.heap) vwCl cX4_at (some .byte) (fun v M' => (∃ z : Int32, v = some (.int z) ∧ -128 ≤ z.toInt ∧ z.toInt ≤ 127) ∧ ∃ σ', ty_FM [] [] σ0 M0 σ' M' ∧ ty_H tys pKT σ' M' ∧ INV σ' M') 1 6 := by
      intro pc ls' i v M' n k hd hrt hp hn hk H locs hm'
      obtain ⟨rfl, z, rfl, hnr⟩ := hrt
      obtain ⟨⟨z', hz', z1, z2⟩, hp⟩ := hp
      cases hz'
      have hz := mh_zret (rm := ty_rm 7 95 ct_X4_at) (post := fun v M' => v = some (.int z) ∧ ∃ σ', ty_FM [] [] σ0 M0 σ' M' ∧ ty_H tys pKT σ' M' ∧ INV σ' M') B.exec B.bytes B.returns B.notSynchronized hnr hm' hd hn hk ⟨rfl, hp⟩ (p := p) (l := l) (e := e) (R := ty_rm 7 95 ct_X4_at) (m := m) (args := av.toArray) (below := below) (ls := ls')
      intro T hT X
      obtain ⟨t, a1, o, b1, b2, ⟨⟨v, M2, e1, ⟨e2, e3⟩, e4, e5⟩, e6⟩, L, ⟨-, e7, e8⟩, e9⟩ := hz T hT X
      subst e2
      exact ⟨t, a1, o, b1, b2, ⟨M2, e3, e4, e5⟩, e6, Or.inl ⟨z, e1, z1, z2⟩, L, e7, e8, e9⟩
    have P := pv_X4_at (l := l) (D := D) hG hx rfl (name_of_methodNamed B.named B.method).1 rfl rfl
    have E := ty_env (C := ct_X4_at) (fr := 7) (lo := 95) (rT := some (0, -128, 127)) (σ0 := σ0) (M0 := M0) hG hx rfl hr (fun v M σ h1 h2 h3 h4 => by
      obtain ⟨u, rfl, z, rfl, z1, z2⟩ := h4
      exact ⟨⟨z, rfl, z1, z2⟩, σ, h1, h2, h3⟩) pd_X4_at P
    have J22 : ∀ g : Int, ty_J (p, l, e, ty_rm 7 95 ct_X4_at, s, m, av.toArray, below, meth, c, Qf, D, va_A (mh_w M0) s.heap.size, s.heap) vwCl 3 tys pKT INV pPG ct_X4_at.2.2.1 ct_X4_at.2.2.2.1 σ0 M0 g (ty_s0 (22, [], [], 0, 0)) := by
      intro g σ M ls st hs hw hH hI hF hLo hS
      rw [ty_stk_n hS]
      refine gT_throw hx B.notSynchronized hex htr' (by decide) (by decide) (by decide) (by decide) hs (fun H locs t a ce hm r en hW hsm h1 h2 h3 h4 h5 => ?_)
      refine ⟨.threw a, r, en, ⟨M, ⟨σ, hF, hH, hI⟩, va_Pkeep hm.1 h2, hm.2.1⟩, ⟨Nat.le_trans hm.2.2.1.1 h1, fun q q1 q2 => (h2 q (Nat.lt_of_lt_of_le q1 hm.2.2.1.1)).trans (hm.2.2.1.2.1 q q1 q2)⟩, Or.inr ⟨a, ce, rfl, h3, h4, h5⟩, locs, hW, hsm, hm.2.2.1.2.2⟩
    have J0 := ty_seg E [] _ (pcons J22 pnil) [] 60 (0, ty_L0 0 ct_X4_at.1, [], 0, 0) (by decide +kernel) (by decide +kernel)
    have hW := ty_enter (J0 0) (by decide +kernel) hav hH0 hI0 hl s.heap [] hm0
    have hW : W p l e (ty_rm 7 95 ct_X4_at) s m av.toArray below meth c s.heap [] 0 0 Qf (F0 m 0 _ []) := hW
    rw [← lg_entry_eq] at hW
    obtain ⟨t, a1, o, b1, b2, b3⟩ := hW s₁ (by rw [B.state]; rfl) hS0
    exact ⟨t, o, a1, b1, b2, b3⟩
