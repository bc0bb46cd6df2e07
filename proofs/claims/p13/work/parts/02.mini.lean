/-! the tables' words that stay true while the tables warm: a body has them all -/
def kw_ok (w : Cond) : Bool := goodWord w || (w.onTables && w.keepsH)
theorem kw_warm {w : Cond} (hk : kw_ok w = true) {s U : State} (hW : s.WarmedH U.vm) {a a' : Array Value} (h : w.before a s = true) : w.before a' U = true := by
  unfold kw_ok at hk
  rw [Bool.or_eq_true] at hk
  rcases hk with h1 | h1
  · exact word_at hW (good_of_word h1) h
  · rw [Bool.and_eq_true] at h1
    have h2 := Cond.onTables_warmH (T := U) (args' := a') hW h1.1 h1.2 h
    rwa [State.setVm_self] at h2
def kW (U : State) : Prop := ∀ w ∈ lw_tbl, kw_ok w = true → ∀ a : Array Value, w.before a U = true
theorem kW.moved {s U : State} (hW : s.WarmedH U.vm) (h : kW s) : kW U := fun w hw hk _ => kw_warm hk hW (h w hw hk #[])
/-! the statics that are read: the empty array that every new list holds (its place is told in D), the object of the class of arrays of objects, two of Throwable -/
def kem (D : va_G) : Nat := D.2 1000 0
def kmi (D : va_G) : Nat := D.2 1000 1
/-- words that need the start's heap, or of which the tables' own laws tell nothing: true in every state that comes of this one, the cells outside A as they are -/
def kSW : List Cond := [(Jvm.Cond.arrayOver (Jvm.ClassFile.FieldType.object "java/lang/Object")), (Jvm.Cond.castable "java/lang/ArrayIndexOutOfBoundsException" "java/lang/ArrayIndexOutOfBoundsException"), (Jvm.Cond.declares ({ cls := "java/lang/IndexOutOfBoundsException", name := "<init>", desc := "()V" } : Jvm.MethodName)), (Jvm.Cond.declares ({ cls := "java/lang/IndexOutOfBoundsException", name := "<init>", desc := "(Ljava/lang/String;)V" } : Jvm.MethodName)), (Jvm.Cond.declares ({ cls := "java/lang/RuntimeException", name := "<init>", desc := "()V" } : Jvm.MethodName)), (Jvm.Cond.declares ({ cls := "java/lang/RuntimeException", name := "<init>", desc := "(Ljava/lang/String;)V" } : Jvm.MethodName)), (Jvm.Cond.declares ({ cls := "java/lang/Exception", name := "<init>", desc := "()V" } : Jvm.MethodName)), (Jvm.Cond.declares ({ cls := "java/lang/Exception", name := "<init>", desc := "(Ljava/lang/String;)V" } : Jvm.MethodName)), (Jvm.Cond.declares ({ cls := "java/lang/Throwable", name := "<init>", desc := "()V" } : Jvm.MethodName)), (Jvm.Cond.declares ({ cls := "java/lang/Throwable", name := "<init>", desc := "(Ljava/lang/String;)V" } : Jvm.MethodName)), (Jvm.Cond.stringRef "KnowDisk" (155 : Nat) "no such byte of a page"), (Jvm.Cond.castable "KnowDisk$State" "KnowDisk$State"), (Jvm.Cond.castable "KnowDisk$Write" "KnowDisk$Write"), (Jvm.Cond.declares ({ cls := "java/lang/Object", name := "getClass", desc := "()Ljava/lang/Class;" } : Jvm.MethodName)), (Jvm.Cond.castable "KnowDisk" "java/lang/Object"), (Jvm.Cond.castable "KnowDisk$Sectors" "java/lang/Object"), (Jvm.Cond.castable "KnowDisk$Waiting" "java/lang/Object"), (Jvm.Cond.castable "KnowDisk$State" "java/lang/Object"), (Jvm.Cond.castable "KnowDiskModel" "java/lang/Object"), (Jvm.Cond.castable "KnowDisk$Write" "java/lang/Object"), (Jvm.Cond.castable "java/lang/String" "java/lang/Object"), (Jvm.Cond.laysStatic "java/lang/Throwable" "UNASSIGNED_STACK" "[Ljava/lang/StackTraceElement;"), (Jvm.Cond.laysStatic "java/lang/Throwable" "SUPPRESSED_SENTINEL" "Ljava/util/List;"), (Jvm.Cond.isRef (Jvm.Term.static "java/lang/Throwable" "UNASSIGNED_STACK" "[Ljava/lang/StackTraceElement;")), (Jvm.Cond.isRef (Jvm.Term.static "java/lang/Throwable" "SUPPRESSED_SENTINEL" "Ljava/util/List;"))]
def kSt (w : Cond) (A : Nat → Prop) (U : State) (H : Heap) : Prop := ∀ U2 : State, U.WarmedH U2.vm → (∀ a : Nat, a < H.size → ¬ A a → U2.heap[a]? = H[a]?) → ∀ args : Array Value, w.before args U2 = true
def kZ (D : va_G) (A : Nat → Prop) (U : State) (H : Heap) : Prop := va_Z "java/util/ArrayList" "DEFAULTCAPACITY_EMPTY_ELEMENTDATA" "[Ljava/lang/Object;" (.ref (kem D)) A U H ∧ va_T (.object "java/lang/Object") (kem D) 0 (fun _ => .null) A U H ∧ va_Mi "[Ljava/lang/Object;" (kmi D) U ∧ ∀ w ∈ kSW, kSt w A U H
theorem kZ.moved {D : va_G} {A : Nat → Prop} {u U : State} {H : Heap} (hW : u.WarmedH U.vm) (h : kZ D A u H) : kZ D A U H := by
  obtain ⟨h1, h2, h3, h4⟩ := h
  exact ⟨h1.moved hW.alike, h2.moved hW.alike, h3.moved hW.alike, fun w hw U2 hU => h4 w hw U2 (State.WarmedH.trans hW hU)⟩
theorem kZ.kept {D : va_G} {A : Nat → Prop} {U : State} {H H1 : Heap} (h : kZ D A U H) (hs : H.size ≤ H1.size) (hq : ∀ a : Nat, a < H.size → ¬ A a → H1[a]? = H[a]?) : kZ D A U H1 := by
  obtain ⟨h1, h2, h3, h4⟩ := h
  exact ⟨h1.kept hq, h2.kept hq, h3, fun w hw U2 hU hk => h4 w hw U2 hU (fun a ha hn => (hk a (Nat.lt_of_lt_of_le ha hs) hn).trans (hq a ha hn))⟩
theorem kZ.narrow {D : va_G} {A B : Nat → Prop} {U : State} {H : Heap} (h : kZ D A U H) (hAB : ∀ q, B q → A q) : kZ D B U H := by
  obtain ⟨h1, h2, h3, h4⟩ := h
  exact ⟨h1.narrow hAB, h2.narrow hAB, h3, fun w hw U2 hU hk => h4 w hw U2 hU (fun a ha hn => hk a ha (fun z => hn (hAB a z)))⟩
abbrev kX (cl : List vw_C) (D : va_G) (tys : List (ClassId × FieldType)) (A : Nat → Prop) (H : Heap) (U : State) : Prop := va_K D cl tys U ∧ kW U ∧ kZ D A U H ∧ H = U.heap
theorem kX_moved {cl : List vw_C} {D : va_G} {tys : List (ClassId × FieldType)} {A : Nat → Prop} {H : Heap} {s U : State} (hW : s.WarmedH U.vm) (hU : H = U.heap) (h : va_K D cl tys s ∧ kW s ∧ kZ D A s H) : kX cl D tys A H U := ⟨va_K.moved hW.alike h.1, kW.moved hW h.2.1, h.2.2.moved hW, hU⟩
/-- such a word, now -/
theorem kS_now {cl : List vw_C} {D : va_G} {tys : List (ClassId × FieldType)} {A : Nat → Prop} {H : Heap} {U : State} (h : kX cl D tys A H U) {w : Cond} (hw : w ∈ kSW) (args : Array Value) : w.before args U = true := h.2.2.1.2.2.2 w hw U (State.WarmedH.refl U) (fun a _ _ => by rw [h.2.2.2]) args
/-! A small heap of one's own: M = (addresses, what each holds). A method's world is 'mh_w M'; a contract tells M behind it as a function of M before it. -/
abbrev mh_M : Type := List Nat × (Nat → va_E)
abbrev mh_w (M : mh_M) : va_W := va_pl M.1 M.2
def mh_at (M : mh_M) (a : Nat) (e : va_E) : Prop := a ∈ M.1 ∧ M.2 a = e
def mh_set (M : mh_M) (a : Nat) (e : va_E) : mh_M := (M.1, va_up M.2 a e)
def mh_new (M : mh_M) (a : Nat) (e : va_E) : mh_M := (M.1 ++ [a], va_up M.2 a e)
theorem mh_at.uniq {M : mh_M} {a : Nat} {x y : va_E} (h1 : mh_at M a x) (h2 : mh_at M a y) : x = y := h1.2.symm.trans h2.2
theorem mh_at.set_self {M : mh_M} {a : Nat} {x y : va_E} (h : mh_at M a x) : mh_at (mh_set M a y) a y := ⟨h.1, va_up_self _ _ _⟩
theorem mh_at.set_ne {M : mh_M} {a b : Nat} {x y : va_E} (h : mh_at M b x) (hn : b ≠ a) : mh_at (mh_set M a y) b x := ⟨h.1, (va_up_ne _ _ hn).trans h.2⟩
theorem mh_at.new_self {M : mh_M} {a : Nat} {y : va_E} : mh_at (mh_new M a y) a y := ⟨List.mem_append_right _ (List.mem_singleton.mpr rfl), va_up_self _ _ _⟩
theorem mh_at.new {M : mh_M} {a b : Nat} {x y : va_E} (h : mh_at M b x) (hn : a ∉ M.1) : mh_at (mh_new M a y) b x := ⟨List.mem_append_left _ h.1, (va_up_ne _ _ (show b ≠ a from fun q => hn (q ▸ h.1))).trans h.2⟩
theorem mh_at.ne {M : mh_M} {a b : Nat} {x y : va_E} (h1 : mh_at M a x) (h2 : mh_at M b y) (hxy : x ≠ y) : a ≠ b := fun q => hxy (by subst q; exact h1.uniq h2)
theorem mh_at.ne_new {M : mh_M} {a b : Nat} {x : va_E} (h : mh_at M b x) (hn : a ∉ M.1) : b ≠ a := fun q => hn (q ▸ h.1)
theorem mh_set_set {M : mh_M} {a : Nat} {x y : va_E} : mh_set (mh_set M a x) a y = mh_set M a y := by
  unfold mh_set
  rw [bx_uu]
theorem mh_set_same {M : mh_M} {a : Nat} {x : va_E} (h : mh_at M a x) : mh_set M a x = M := by
  obtain ⟨L, f⟩ := M
  have h2 : f a = x := h.2
  unfold mh_set
  congr 1
  funext j
  unfold va_up
  by_cases hj : j = a
  · rw [if_pos hj, hj, h2]
  · rw [if_neg hj]
/-- what holds between a method's start and now: the cells of M stand in H, apart, within A; nothing outside A has changed -/
def mh (cl : List vw_C) (D : va_G) (A : Nat → Prop) (H0 H : Heap) (locs : List Loc) (M : mh_M) : Prop :=
  va_P D cl (mh_w M) H ∧ va_D A (mh_w M) ∧ va_S A H0 H locs ∧ ∀ q, H0.size ≤ q → A q
def mh_Pc (cl : List vw_C) (tys : List (ClassId × FieldType)) (D : va_G) (av : List Value) (M : mh_M) (sz : Nat) : Array Value → State → Prop :=
  va_Pc av (fun U => U.heap.size = sz ∧ va_P D cl (mh_w M) U.heap ∧ kX cl D tys (va_A (mh_w M) sz) U.heap U ∧ va_D (fun _ => True) (mh_w M))
def mh_Q (cl : List vw_C) (D : va_G) (M : mh_M) (sz : Nat) (post : Option Value → mh_M → Prop) : Array Value → State → Outcome → State → Prop := fun _ st oc t =>
  (∃ (v : Option Value) (M' : mh_M), oc = .returned v ∧ post v M' ∧ va_P D cl (mh_w M') t.heap ∧ va_D (va_A (mh_w M) sz) (mh_w M')) ∧ va_F (va_A (mh_w M) sz) st t
/-- a method's contract: from M with arguments av it returns, and 'post answer M'' -/
def mh_Met (cl : List vw_C) (tys : List (ClassId × FieldType)) (l : Launch) (D : va_G) (y : MethodName) (ws : List Cond) (rm : Room) (av : List Value) (M : mh_M) (post : Option Value → mh_M → Prop) : Prop :=
  ∀ sz : Nat, Met l y ws rm (mh_Pc cl tys D av M sz) (mh_Q cl D M sz post) rm.cells rm.slots (va_A (mh_w M) sz)
theorem mh_blind {cl : List vw_C} {tys : List (ClassId × FieldType)} {D : va_G} {av : List Value} {M : mh_M} {sz : Nat} : FrameBlind (mh_Pc cl tys D av M sz) := by
  intro a U g mk q
  obtain ⟨q0, q1, qP, qK, qD⟩ := q
  exact ⟨q0, q1, qP, kX_moved (s := U) (U := U.calling g mk a) (State.WarmedH.refl U) rfl ⟨qK.1, qK.2.1, qK.2.2.1⟩, qD⟩
theorem mh_get_ix {M : mh_M} {a : Nat} {e : va_E} (h : mh_at M a e) : ∃ k : Nat, (mh_w M)[k]? = some (a, e) := by
  obtain ⟨k, hk⟩ := va_pl_get (X := []) (f := M.2) h.1
  rw [h.2] at hk
  exact ⟨k, hk⟩
theorem mh_set_eq {A : Nat → Prop} {M : mh_M} {a k : Nat} {x y : va_E} (hD : va_D A (mh_w M)) (h : mh_at M a x) (hk : (mh_w M)[k]? = some (a, x)) : (mh_w M).set k (a, y) = mh_w (mh_set M a y) := by
  have hk' : ([] ++ va_pl M.1 M.2)[k]? = some (a, M.2 a) := by rw [h.2]; exact hk
  exact va_pl_set (X := []) (L := M.1) (f := M.2) (e := y) hD h.1 hk'
theorem mh_new_eq {M : mh_M} {a : Nat} {y : va_E} (h : a ∉ M.1) : mh_w M ++ [(a, y)] = mh_w (mh_new M a y) := va_pl_push h
section MH
variable {p : Program} {l : Launch} {e : Env} {R : Room} {s : State} {m : MethodId} {args : Array Value} {below : List Frame} {meth : Method} {c : Code} {H : Heap} {locs : List Loc} {cells slots : Nat} {Q : State → Prop}
variable {cc : ByteArray} {pc : Nat} {ls : Array Slot} {rest : List Value} {D : va_G} {cl : List vw_C} {A : Nat → Prop} {a : Nat} {tys : List (ClassId × FieldType)} {M : mh_M} {H0 : Heap}
theorem mh_get (hexec : p.tables.exec = Jvm.exec) (hb : c.code = cc) {own ref C : String} {T : u_T} {N ci index : Nat} {Ts : List Cond} (hts : ∀ w ∈ Ts, w.before args s = true) (hin : ∀ w ∈ u_ws C T N, w ∈ Ts) (hown : s.vm.findClass own = some m.cls) (hK : va_K D cl tys s) (h : mh cl D A H0 H locs M) {fs : List Value} (he : mh_at M a (.inr (ci, fs))) (hc : cl[ci]? = some (C, T, N)) (k : Nat) (hk : k < N) (hlink : (Cond.fieldLink own index ref (T k).2.1 (T k).2.2.1).before args s = true) (hsame : ∀ x, s.fieldFound? (T k).1 (T k).2.1 (T k).2.2.1 = some x → s.fieldFound? ref (T k).2.1 (T k).2.2.1 = some x) {v : Value} (hv : fs[k]? = some v) (hdg : decode cc pc = .ok (.getfield index, 3))
    (kk : W p l e R s m args below meth c H locs cells slots Q (F0 m (pc + 3) ls (v :: rest))) : W p l e R s m args below meth c H locs cells slots Q (F0 m pc ls (.ref a :: rest)) := by
  obtain ⟨i, hi⟩ := mh_get_ix he
  exact va_get hexec hb hts hin hown hK h.1 i hi hc k hk hlink hsame hv hdg kk
theorem mh_getN (hexec : p.tables.exec = Jvm.exec) (hb : c.code = cc) {own ref C host : String} {T : u_T} {N ci index : Nat} {Ts : List Cond} (hts : ∀ w ∈ Ts, w.before args s = true) (hin : ∀ w ∈ u_ws C T N, w ∈ Ts) (hown : s.vm.findClass own = some m.cls) (hK : va_K D cl tys s) (h : mh cl D A H0 H locs M) {fs : List Value} (he : mh_at M a (.inr (ci, fs))) (hc : cl[ci]? = some (C, T, N)) (k : Nat) (hk : k < N) (hlink : (Cond.fieldLinkNest own index ref (T k).2.1 (T k).2.2.1 host).before args s = true) (hsame : ∀ x, s.fieldFound? (T k).1 (T k).2.1 (T k).2.2.1 = some x → s.fieldFound? ref (T k).2.1 (T k).2.2.1 = some x) {v : Value} (hv : fs[k]? = some v) (hdg : decode cc pc = .ok (.getfield index, 3))
    (kk : W p l e R s m args below meth c H locs cells slots Q (F0 m (pc + 3) ls (v :: rest))) : W p l e R s m args below meth c H locs cells slots Q (F0 m pc ls (.ref a :: rest)) := by
  obtain ⟨i, hi⟩ := mh_get_ix he
  exact va_getN hexec hb hts hin hown hK h.1 i hi hc k hk hlink hsame hv hdg kk
theorem mh_put (hexec : p.tables.exec = Jvm.exec) (hb : c.code = cc) {own ref C : String} {T : u_T} {N ci index : Nat} {Ts : List Cond} (hts : ∀ w ∈ Ts, w.before args s = true) (hin : ∀ w ∈ u_ws C T N, w ∈ Ts) (ty0 : Nat → FieldType) (hty : ∀ k, k < N → parseFieldDescriptor (T k).2.2.1 = some (ty0 k)) (hnm : ∀ a, a < N → ∀ b, b < N → a ≠ b → (T a).2.1 ≠ (T b).2.1) (hown : s.vm.findClass own = some m.cls) (hK : va_K D cl tys s) (h : mh cl D A H0 H locs M) {fs fs' : List Value} (he : mh_at M a (.inr (ci, fs))) (hc : cl[ci]? = some (C, T, N)) (k : Nat) (hk : k < N) (hlink : (Cond.fieldLink own index ref (T k).2.1 (T k).2.2.1).before args s = true) (hsame : ∀ x, s.fieldFound? (T k).1 (T k).2.1 (T k).2.2.1 = some x → s.fieldFound? ref (T k).2.1 (T k).2.2.1 = some x) (hfin : (T k).2.2.2 = false) {ty : FieldType} {v : Value} (hd : parseFieldDescriptor (T k).2.2.1 = some ty) (hn : narrow ty v = v) (hfit : fits ty v = true) (hl : k < fs.length) (hfs : fs.set k v = fs')
    (hdg : decode cc pc = .ok (.putfield index, 3)) (kk : ∀ (H1 : Heap) (locs1 : List Loc), mh cl D A H0 H1 locs1 (mh_set M a (.inr (ci, fs'))) → W p l e R s m args below meth c H1 locs1 cells slots Q (F0 m (pc + 3) ls rest)) : W p l e R s m args below meth c H locs cells slots Q (F0 m pc ls (v :: .ref a :: rest)) := by
  obtain ⟨i, hi⟩ := mh_get_ix he
  obtain ⟨hP, hD, hS, hA⟩ := h
  subst hfs
  refine va_put hexec hb hts hin ty0 hty hnm hown hK hP hD hS i hi hc k hk hlink hsame hfin hd hn hfit hl hdg (fun H1 locs1 hP1 hD1 hS1 => ?_)
  rw [mh_set_eq hD he hi] at hP1 hD1
  exact kk H1 locs1 ⟨hP1, hD1, hS1, hA⟩
theorem mh_putF (hexec : p.tables.exec = Jvm.exec) (hb : c.code = cc) {own ref C : String} {T : u_T} {N ci index : Nat} {Ts : List Cond} (hts : ∀ w ∈ Ts, w.before args s = true) (hin : ∀ w ∈ u_ws C T N, w ∈ Ts) (ty0 : Nat → FieldType) (hty : ∀ k, k < N → parseFieldDescriptor (T k).2.2.1 = some (ty0 k)) (hnm : ∀ a, a < N → ∀ b, b < N → a ≠ b → (T a).2.1 ≠ (T b).2.1) (hown : s.vm.findClass own = some m.cls) (hK : va_K D cl tys s) (h : mh cl D A H0 H locs M) {fs fs' : List Value} (he : mh_at M a (.inr (ci, fs))) (hc : cl[ci]? = some (C, T, N)) (k : Nat) (hk : k < N) (hlink : (Cond.fieldLink own index ref (T k).2.1 (T k).2.2.1).before args s = true) (hsame : ∀ x, s.fieldFound? (T k).1 (T k).2.1 (T k).2.2.1 = some x → s.fieldFound? ref (T k).2.1 (T k).2.2.1 = some x) (hfin : (T k).2.2.2 = true) (hin2 : meth.name = "<init>") (hdecl : (T k).1 = own) {ty : FieldType} {v : Value} (hd : parseFieldDescriptor (T k).2.2.1 = some ty) (hn : narrow ty v = v) (hfit : fits ty v = true) (hl : k < fs.length) (hfs : fs.set k v = fs')
    (hdg : decode cc pc = .ok (.putfield index, 3)) (kk : ∀ (H1 : Heap) (locs1 : List Loc), mh cl D A H0 H1 locs1 (mh_set M a (.inr (ci, fs'))) → W p l e R s m args below meth c H1 locs1 cells slots Q (F0 m (pc + 3) ls rest)) : W p l e R s m args below meth c H locs cells slots Q (F0 m pc ls (v :: .ref a :: rest)) := by
  obtain ⟨i, hi⟩ := mh_get_ix he
  obtain ⟨hP, hD, hS, hA⟩ := h
  subst hfs
  refine va_putF hexec hb hts hin ty0 hty hnm hown hK hP hD hS i hi hc k hk hlink hsame hfin hin2 hdecl hd hn hfit hl hdg (fun H1 locs1 hP1 hD1 hS1 => ?_)
  rw [mh_set_eq hD he hi] at hP1 hD1
  exact kk H1 locs1 ⟨hP1, hD1, hS1, hA⟩
theorem mh_bald (hexec : p.tables.exec = Jvm.exec) (hb : c.code = cc) (hK : va_K D cl tys s) (h : mh cl D A H0 H locs M) (t0 : Nat) {cA : ClassId} {n : Nat} {f : Nat → Int32} (ha : mh_at M a (.inl (cA, n, .inl f))) (ht : tys[t0]? = some (cA, .byte)) {i : Int32} (hin : vp_in i n) (hdg : decode cc pc = .ok (.baload, 1))
    (kk : W p l e R s m args below meth c H locs cells slots Q (F0 m (pc + 1) ls (.int (f i.toNatClampNeg) :: rest))) : W p l e R s m args below meth c H locs cells slots Q (F0 m pc ls (.int i :: .ref a :: rest)) := by
  obtain ⟨q, hq⟩ := mh_get_ix ha
  exact va_bald hexec hb hK h.1 q t0 hq ht hin hdg kk
theorem mh_zald (hexec : p.tables.exec = Jvm.exec) (hb : c.code = cc) (hK : va_K D cl tys s) (h : mh cl D A H0 H locs M) (t0 : Nat) {cA : ClassId} {n : Nat} {f : Nat → Int32} (ha : mh_at M a (.inl (cA, n, .inl f))) (ht : tys[t0]? = some (cA, .boolean)) {i : Int32} (hin : vp_in i n) (hdg : decode cc pc = .ok (.baload, 1))
    (kk : W p l e R s m args below meth c H locs cells slots Q (F0 m (pc + 1) ls (.int (f i.toNatClampNeg) :: rest))) : W p l e R s m args below meth c H locs cells slots Q (F0 m pc ls (.int i :: .ref a :: rest)) := by
  obtain ⟨q, hq⟩ := mh_get_ix ha
  exact va_zald hexec hb hK h.1 q t0 hq ht hin hdg kk
theorem mh_iald (hexec : p.tables.exec = Jvm.exec) (hb : c.code = cc) (hK : va_K D cl tys s) (h : mh cl D A H0 H locs M) (t0 : Nat) {cA : ClassId} {n : Nat} {f : Nat → Int32} (ha : mh_at M a (.inl (cA, n, .inl f))) (ht : tys[t0]? = some (cA, .int)) {i : Int32} (hin : vp_in i n) (hdg : decode cc pc = .ok (.iaload, 1))
    (kk : W p l e R s m args below meth c H locs cells slots Q (F0 m (pc + 1) ls (.int (f i.toNatClampNeg) :: rest))) : W p l e R s m args below meth c H locs cells slots Q (F0 m pc ls (.int i :: .ref a :: rest)) := by
  obtain ⟨q, hq⟩ := mh_get_ix ha
  exact va_iald hexec hb hK h.1 q t0 hq ht hin hdg kk
theorem mh_lald (hexec : p.tables.exec = Jvm.exec) (hb : c.code = cc) (hK : va_K D cl tys s) (h : mh cl D A H0 H locs M) (t0 : Nat) {cA : ClassId} {n : Nat} {f : Nat → Int64} (ha : mh_at M a (.inl (cA, n, .inr (.inl f)))) (ht : tys[t0]? = some (cA, .long)) {i : Int32} (hin : vp_in i n) (hdg : decode cc pc = .ok (.laload, 1))
    (kk : W p l e R s m args below meth c H locs cells slots Q (F0 m (pc + 1) ls (.long (f i.toNatClampNeg) :: rest))) : W p l e R s m args below meth c H locs cells slots Q (F0 m pc ls (.int i :: .ref a :: rest)) := by
  obtain ⟨q, hq⟩ := mh_get_ix ha
  exact va_lald hexec hb hK h.1 q t0 hq ht hin hdg kk
theorem mh_alen (hexec : p.tables.exec = Jvm.exec) (hb : c.code = cc) (hK : va_K D cl tys s) (h : mh cl D A H0 H locs M) (t0 : Nat) {cA : ClassId} {x : vp_A} (ha : mh_at M a (.inl (cA, x))) {ty : FieldType} (ht : tys[t0]? = some (cA, ty)) {v : Int32} (hv : Int32.ofNat x.1 = v) (hdg : decode cc pc = .ok (.arraylength, 1))
    (kk : W p l e R s m args below meth c H locs cells slots Q (F0 m (pc + 1) ls (.int v :: rest))) : W p l e R s m args below meth c H locs cells slots Q (F0 m pc ls (.ref a :: rest)) := by
  obtain ⟨q, hq⟩ := mh_get_ix ha
  exact va_alen hexec hb hK h.1 q t0 hq ht hv hdg kk
theorem mh_bast (hexec : p.tables.exec = Jvm.exec) (hb : c.code = cc) (hK : va_K D cl tys s) (h : mh cl D A H0 H locs M) (t0 : Nat) {cA : ClassId} {n : Nat} {f : Nat → Int32} (ha : mh_at M a (.inl (cA, n, .inl f))) (ht : tys[t0]? = some (cA, .byte)) {i : Int32} {x : Int32} (hin : vp_in i n) (hdg : decode cc pc = .ok (.bastore, 1))
    (kk : ∀ (H1 : Heap) (locs1 : List Loc), mh cl D A H0 H1 locs1 (mh_set M a (.inl (cA, n, .inl (upd f i.toNatClampNeg (vp_nar .byte x))))) → W p l e R s m args below meth c H1 locs1 cells slots Q (F0 m (pc + 1) ls rest)) : W p l e R s m args below meth c H locs cells slots Q (F0 m pc ls (.int x :: .int i :: .ref a :: rest)) := by
  obtain ⟨q, hq⟩ := mh_get_ix ha
  obtain ⟨hP, hD, hS, hA⟩ := h
  refine va_bast hexec hb hK hP hD hS q t0 hq ht hin hdg (fun H1 locs1 hP1 hD1 hS1 => ?_)
  rw [mh_set_eq hD ha hq] at hP1 hD1
  exact kk H1 locs1 ⟨hP1, hD1, hS1, hA⟩
theorem mh_zast (hexec : p.tables.exec = Jvm.exec) (hb : c.code = cc) (hK : va_K D cl tys s) (h : mh cl D A H0 H locs M) (t0 : Nat) {cA : ClassId} {n : Nat} {f : Nat → Int32} (ha : mh_at M a (.inl (cA, n, .inl f))) (ht : tys[t0]? = some (cA, .boolean)) {i : Int32} {x : Int32} (hin : vp_in i n) (hdg : decode cc pc = .ok (.bastore, 1))
    (kk : ∀ (H1 : Heap) (locs1 : List Loc), mh cl D A H0 H1 locs1 (mh_set M a (.inl (cA, n, .inl (upd f i.toNatClampNeg (vp_nar .boolean x))))) → W p l e R s m args below meth c H1 locs1 cells slots Q (F0 m (pc + 1) ls rest)) : W p l e R s m args below meth c H locs cells slots Q (F0 m pc ls (.int x :: .int i :: .ref a :: rest)) := by
  obtain ⟨q, hq⟩ := mh_get_ix ha
  obtain ⟨hP, hD, hS, hA⟩ := h
  refine va_zast hexec hb hK hP hD hS q t0 hq ht hin hdg (fun H1 locs1 hP1 hD1 hS1 => ?_)
  rw [mh_set_eq hD ha hq] at hP1 hD1
  exact kk H1 locs1 ⟨hP1, hD1, hS1, hA⟩
theorem mh_iast (hexec : p.tables.exec = Jvm.exec) (hb : c.code = cc) (hK : va_K D cl tys s) (h : mh cl D A H0 H locs M) (t0 : Nat) {cA : ClassId} {n : Nat} {f : Nat → Int32} (ha : mh_at M a (.inl (cA, n, .inl f))) (ht : tys[t0]? = some (cA, .int)) {i : Int32} {x : Int32} (hin : vp_in i n) (hdg : decode cc pc = .ok (.iastore, 1))
    (kk : ∀ (H1 : Heap) (locs1 : List Loc), mh cl D A H0 H1 locs1 (mh_set M a (.inl (cA, n, .inl (upd f i.toNatClampNeg x)))) → W p l e R s m args below meth c H1 locs1 cells slots Q (F0 m (pc + 1) ls rest)) : W p l e R s m args below meth c H locs cells slots Q (F0 m pc ls (.int x :: .int i :: .ref a :: rest)) := by
  obtain ⟨q, hq⟩ := mh_get_ix ha
  obtain ⟨hP, hD, hS, hA⟩ := h
  refine va_iast hexec hb hK hP hD hS q t0 hq ht hin hdg (fun H1 locs1 hP1 hD1 hS1 => ?_)
  rw [mh_set_eq hD ha hq] at hP1 hD1
  exact kk H1 locs1 ⟨hP1, hD1, hS1, hA⟩
theorem mh_last (hexec : p.tables.exec = Jvm.exec) (hb : c.code = cc) (hK : va_K D cl tys s) (h : mh cl D A H0 H locs M) (t0 : Nat) {cA : ClassId} {n : Nat} {f : Nat → Int64} (ha : mh_at M a (.inl (cA, n, .inr (.inl f)))) (ht : tys[t0]? = some (cA, .long)) {i : Int32} {x : Int64} (hin : vp_in i n) (hdg : decode cc pc = .ok (.lastore, 1))
    (kk : ∀ (H1 : Heap) (locs1 : List Loc), mh cl D A H0 H1 locs1 (mh_set M a (.inl (cA, n, .inr (.inl (vp_updL f i.toNatClampNeg x))))) → W p l e R s m args below meth c H1 locs1 cells slots Q (F0 m (pc + 1) ls rest)) : W p l e R s m args below meth c H locs cells slots Q (F0 m pc ls (.long x :: .int i :: .ref a :: rest)) := by
  obtain ⟨q, hq⟩ := mh_get_ix ha
  obtain ⟨hP, hD, hS, hA⟩ := h
  refine va_last hexec hb hK hP hD hS q t0 hq ht hin hdg (fun H1 locs1 hP1 hD1 hS1 => ?_)
  rw [mh_set_eq hD ha hq] at hP1 hD1
  exact kk H1 locs1 ⟨hP1, hD1, hS1, hA⟩
theorem mh_fresh {q : Nat} {x : va_E} (hD : va_D A (mh_w M ++ [(q, x)])) : q ∉ M.1 := va_pl_fresh2 (X := []) (L := M.1) (f := M.2) (e := x) hD
theorem mh_newo (hexec : p.tables.exec = Jvm.exec) (hb : c.code = cc) {own C : String} {T : u_T} {N ci index : Nat} {Ts : List Cond} (hts : ∀ w ∈ Ts, w.before args s = true) (hin : ∀ w ∈ u_ws C T N, w ∈ Ts) (ty : Nat → FieldType) (hty : ∀ k, k < N → parseFieldDescriptor (T k).2.2.1 = some (ty k)) (hown : s.vm.findClass own = some m.cls) (hcl : (Cond.classLink own index C).before args s = true) (hinst : (Cond.instantiable C N).before args s = true) (hini : (Cond.initialized C).before args s = true)
    (hK : va_K D cl tys s) (h : mh cl D A H0 H locs M) (hc : cl[ci]? = some (C, T, N)) {fs : List Value} (hfs : ∀ j, j < N → defaultValue (ty j) = vp_V fs j) (hcells : cells + 1 ≤ R.cells) (hslots : slots + N ≤ R.slots) (hdg : decode cc pc = .ok (.new index, 3))
    (kk : ∀ (q : Nat) (H1 : Heap), q ∉ M.1 → mh cl D A H0 H1 locs (mh_new M q (.inr (ci, fs))) →
      W p l e R s m args below meth c H1 locs (cells + 1) (slots + N) Q (F0 m (pc + 3) ls (.ref q :: rest))) : W p l e R s m args below meth c H locs cells slots Q (F0 m pc ls rest) := by
  obtain ⟨hP, hD, hS, hA⟩ := h
  refine va_new hexec hb hts hin ty hty hown hcl hinst hini hK hP hD hS hA hc hfs hcells hslots hdg (fun q H1 hP1 hD1 hS1 => ?_)
  have hq := mh_fresh hD1
  rw [mh_new_eq hq] at hP1 hD1
  exact kk q H1 hq ⟨hP1, hD1, hS1, hA⟩
theorem mh_newa (hexec : p.tables.exec = Jvm.exec) (hb : c.code = cc) {atype : ArrayType} (harr : (Cond.arrayClass (newarray.typeOf atype)).before args s = true) {ty : FieldType} (hty : newarray.typeOf atype = ty) (hK : va_K D cl tys s) (h : mh cl D A H0 H locs M)
    {n : Int32} {N' : Nat} {a0 : vp_A} (t0 : Nat) {cA : ClassId} (ht : tys[t0]? = some (cA, ty)) (hob : ∀ C, ty ≠ .object C) (ha : ∀ cA : ClassId, vp_cell cA a0 = arrV cA N' (fun _ => defaultValue ty)) (hn : ¬ n < 0) (hN : n.toNatClampNeg = N') (hbytes : N' * componentBytes ty ≤ 536870912) (hcells : cells + 1 ≤ R.cells) (hslots : slots + N' ≤ R.slots) (hdg : decode cc pc = .ok (.newarray atype, 2))
    (kk : ∀ (q : Nat) (H1 : Heap), q ∉ M.1 → mh cl D A H0 H1 locs (mh_new M q (.inl (cA, a0))) →
      W p l e R s m args below meth c H1 locs (cells + 1) (slots + N') Q (F0 m (pc + 2) ls (.ref q :: rest))) : W p l e R s m args below meth c H locs cells slots Q (F0 m pc ls (.int n :: rest)) := by
  obtain ⟨hP, hD, hS, hA⟩ := h
  refine va_newa hexec hb harr hty hK hP hD hS hA ha hn hN hbytes hcells hslots hdg (fun q cA2 H1 hK1 hP1 hD1 hS1 => ?_)
  have e1 := (hK.2 t0 _ ht).2
  have e2 := (hK1.2 tys.length (cA2, ty) (by rw [List.getElem?_append_right (Nat.le_refl _), Nat.sub_self]; rfl)).2
  have e3 : cA2 = cA := by
    cases ty with
    | object C => exact absurd rfl (hob C)
    | _ => exact Option.some.inj (e2.symm.trans e1)
  subst e3
  have hq := mh_fresh hD1
  rw [mh_new_eq hq] at hP1 hD1
  exact kk q H1 hq ⟨hP1, hD1, hS1, hA⟩
/-- behind a call -/
theorem mh_after {mc ms : Nat} {st0 : List Value} {av : Array Value} {post : Option Value → mh_M → Prop} (h : mh cl D A H0 H locs M) (hr : va_Run p l e R s m args below meth c H locs cells slots mc ms (F0 m pc ls st0) rest (mh_Q cl D M H.size post av) (va_A (mh_w M) H.size))
    (kk : ∀ (v : Option Value) (M' : mh_M) (H1 : Heap) (locs1 : List Loc), post v M' → mh cl D A H0 H1 locs1 M' → W p l e R s m args below meth c H1 locs1 (cells + mc) (slots + ms) Q (F0 m (pc + 3) ls (v.toList ++ rest))) : W p l e R s m args below meth c H locs cells slots Q (F0 m pc ls st0) := by
  obtain ⟨hP, hD, hS, hA⟩ := h
  have hsub : ∀ q, va_A (mh_w M) H.size q → A q := by
    intro q h
    rcases h with ⟨k, e, h⟩ | h
    · exact hD.2 k _ h
    · exact hA q (Nat.le_trans hS.1 h)
  intro T hT X
  obtain ⟨v, st₀, t, T', L, h0, X', hL, e1, e2, ⟨⟨v', M', hv, hp, hP1, hD1⟩, hz, hk⟩, st⟩ := hr T hT X
  cases hv
  rw [h0] at hz hk
  obtain ⟨t2, a1, b1⟩ := kk v M' T'.heap (locs ++ L) hp ⟨by rw [e1]; exact hP1, hD1.weaken (fun k q _ h => hsub _ h), ⟨Nat.le_trans hS.1 (by rw [e1]; exact hz), fun q h1 h2 => by rw [e1, hk q (Nat.lt_of_lt_of_le h1 hS.1) (fun z => h2 (hsub q z))]; exact hS.2.1 q h1 h2, fun q hq => by
      rcases List.mem_append.mp hq with h | h
      · exact hS.2.2 q h
      · exact hsub _ (hL q h)⟩, hA⟩ T' rfl X'
  exact ⟨t2, st t2 a1, b1⟩
theorem kX_call {U : State} (hW : s.WarmedH U.vm) (hU : U.heap = H) (hK : kX cl D tys A H0 s) (h : mh cl D A H0 H locs M) : kX cl D tys (va_A (mh_w M) H.size) U.heap U := by
  obtain ⟨hP, hD, hS, hA⟩ := h
  rw [hU]
  refine kX_moved hW hU.symm ⟨hK.1, hK.2.1, (hK.2.2.1.kept hS.1 hS.2.1).narrow (fun q hq => ?_)⟩
  rcases hq with ⟨k, e, hk⟩ | hq
  · exact hD.2 k _ hk
  · exact hA q (Nat.le_trans hS.1 hq)
theorem mh_preS {av : List Value} (hK : kX cl D tys A H0 s) (h : mh cl D A H0 H locs M) : PreS s H (mh_Pc cl tys D av M H.size) av :=
  ⟨mh_blind, fun U hU hW => ⟨rfl, by rw [hU], by rw [hU]; exact h.1, kX_call hW hU hK h, h.2.1.weaken (fun _ _ _ _ => trivial)⟩⟩
theorem mh_preV {As : List Value} {b ci : Nat} {fs : List Value} {q : vw_C} (hK : kX cl D tys A H0 s) (h : mh cl D A H0 H locs M) (hr : mh_at M b (.inr (ci, fs))) (hc : cl[ci]? = some q) : PreV s H q.1 b (mh_Pc cl tys D (.ref b :: As) M H.size) As := by
  obtain ⟨i, hi⟩ := mh_get_ix hr
  exact ⟨mh_blind, va_recv hK.1 h.1 hc hi, fun U hU hW => ⟨rfl, by rw [hU], by rw [hU]; exact h.1, kX_call hW hU hK h, h.2.1.weaken (fun _ _ _ _ => trivial)⟩⟩
variable {y : MethodName} {bytes : ByteArray} {maxL nL n index : Nat} {ret : Option FieldType} {ws : List Cond} {rm : Room} {Ts : List Cond} {own host : String} {b : Addr} {As : List Value} {post : Option Value → mh_M → Prop}
/-- calls: V virtual, S static, I a constructor; N: of a nest mate -/
theorem mh_cV {ci : Nat} {fs : List Value} {C : String} {T : u_T} {N : Nat} (S : CallFix p m c cc nL s args Ts own) (hM : mh_Met cl tys l D y ws rm (.ref b :: As) M post) (cw : CallW R s args own C index y bytes maxL ret ws rm rm.cells rm.slots n) (hK : kX cl D tys A H0 s) (h : mh cl D A H0 H locs M) (hr : mh_at M b (.inr (ci, fs))) (hc : cl[ci]? = some (C, T, N))
    (hn : As.length = n) (hsize : ls.size = nL) {st0 : List Value} (hstack : st0 = As.reverse ++ .ref b :: rest) (hW : (rest.map fun v => v.category).sum ≤ 8) (hdg : decode cc pc = .ok (.invokevirtual index, 3)) (hf : cells + rm.cells ≤ R.cells ∧ slots + rm.slots ≤ R.slots)
    (kk : ∀ (v : Option Value) (M' : mh_M) (H1 : Heap) (locs1 : List Loc), post v M' → mh cl D A H0 H1 locs1 M' → W p l e R s m args below meth c H1 locs1 (cells + rm.cells) (slots + rm.slots) Q (F0 m (pc + 3) ls (v.toList ++ rest))) : W p l e R s m args below meth c H locs cells slots Q (F0 m pc ls st0) :=
  mh_after h (va_runV S (hM H.size) cw (mh_preV hK h hr hc) rfl hn hsize hstack (lv_room hW) hdg hf) kk
theorem mh_cVN {ci : Nat} {fs : List Value} {C : String} {T : u_T} {N : Nat} (S : CallFix p m c cc nL s args Ts own) (hM : mh_Met cl tys l D y ws rm (.ref b :: As) M post) (cw : va_CN R s args own index y host bytes maxL ret ws rm rm.cells rm.slots n ∧ (Cond.instanceMethod y).before args s = true ∧ (Cond.selects C y y).before args s = true) (hK : kX cl D tys A H0 s) (h : mh cl D A H0 H locs M) (hr : mh_at M b (.inr (ci, fs))) (hc : cl[ci]? = some (C, T, N))
    (hn : As.length = n) (hsize : ls.size = nL) {st0 : List Value} (hstack : st0 = As.reverse ++ .ref b :: rest) (hW : (rest.map fun v => v.category).sum ≤ 8) (hdg : decode cc pc = .ok (.invokevirtual index, 3)) (hf : cells + rm.cells ≤ R.cells ∧ slots + rm.slots ≤ R.slots)
    (kk : ∀ (v : Option Value) (M' : mh_M) (H1 : Heap) (locs1 : List Loc), post v M' → mh cl D A H0 H1 locs1 M' → W p l e R s m args below meth c H1 locs1 (cells + rm.cells) (slots + rm.slots) Q (F0 m (pc + 3) ls (v.toList ++ rest))) : W p l e R s m args below meth c H locs cells slots Q (F0 m pc ls st0) :=
  mh_after h (va_runVN S (hM H.size) cw (mh_preV hK h hr hc) rfl hn hsize hstack (lv_room hW) hdg hf) kk
theorem mh_cS (S : CallFix p m c cc nL s args Ts own) (hM : mh_Met cl tys l D y ws rm As M post) (cw : CallB R s args own index y bytes maxL ret ws rm rm.cells rm.slots n ∧ (Cond.static y).before args s = true) (hK : kX cl D tys A H0 s) (h : mh cl D A H0 H locs M)
    (hn : As.length = n) (hsize : ls.size = nL) {st0 : List Value} (hstack : st0 = As.reverse ++ rest) (hW : (rest.map fun v => v.category).sum ≤ 8) (hdg : decode cc pc = .ok (.invokestatic index, 3)) (hf : cells + rm.cells ≤ R.cells ∧ slots + rm.slots ≤ R.slots)
    (kk : ∀ (v : Option Value) (M' : mh_M) (H1 : Heap) (locs1 : List Loc), post v M' → mh cl D A H0 H1 locs1 M' → W p l e R s m args below meth c H1 locs1 (cells + rm.cells) (slots + rm.slots) Q (F0 m (pc + 3) ls (v.toList ++ rest))) : W p l e R s m args below meth c H locs cells slots Q (F0 m pc ls st0) :=
  mh_after h (va_runS S (hM H.size) cw (mh_preS hK h) rfl hn hsize hstack (lv_room hW) hdg hf) kk
theorem mh_cSN (S : CallFix p m c cc nL s args Ts own) (hM : mh_Met cl tys l D y ws rm As M post) (cw : va_CN R s args own index y host bytes maxL ret ws rm rm.cells rm.slots n ∧ (Cond.static y).before args s = true ∧ True) (hK : kX cl D tys A H0 s) (h : mh cl D A H0 H locs M)
    (hn : As.length = n) (hsize : ls.size = nL) {st0 : List Value} (hstack : st0 = As.reverse ++ rest) (hW : (rest.map fun v => v.category).sum ≤ 8) (hdg : decode cc pc = .ok (.invokestatic index, 3)) (hf : cells + rm.cells ≤ R.cells ∧ slots + rm.slots ≤ R.slots)
    (kk : ∀ (v : Option Value) (M' : mh_M) (H1 : Heap) (locs1 : List Loc), post v M' → mh cl D A H0 H1 locs1 M' → W p l e R s m args below meth c H1 locs1 (cells + rm.cells) (slots + rm.slots) Q (F0 m (pc + 3) ls (v.toList ++ rest))) : W p l e R s m args below meth c H locs cells slots Q (F0 m pc ls st0) :=
  mh_after h (va_runSN S (hM H.size) cw (mh_preS hK h) rfl hn hsize hstack (lv_room hW) hdg hf) kk
theorem mh_cI (S : CallFix p m c cc nL s args Ts own) (hM : mh_Met cl tys l D y ws rm (.ref b :: As) M post) (cw : CallB R s args own index y bytes maxL none ws rm rm.cells rm.slots n ∧ y.name = "<init>" ∧ (Cond.instanceMethod y).before args s = true) (hK : kX cl D tys A H0 s) (h : mh cl D A H0 H locs M)
    (hn : As.length = n) (hsize : ls.size = nL) {st0 : List Value} (hstack : st0 = As.reverse ++ .ref b :: rest) (hW : (rest.map fun v => v.category).sum ≤ 8) (hdg : decode cc pc = .ok (.invokespecial index, 3)) (hf : cells + rm.cells ≤ R.cells ∧ slots + rm.slots ≤ R.slots)
    (kk : ∀ (v : Option Value) (M' : mh_M) (H1 : Heap) (locs1 : List Loc), post v M' → mh cl D A H0 H1 locs1 M' → W p l e R s m args below meth c H1 locs1 (cells + rm.cells) (slots + rm.slots) Q (F0 m (pc + 3) ls (v.toList ++ rest))) : W p l e R s m args below meth c H locs cells slots Q (F0 m pc ls st0) :=
  mh_after h (va_runI S (hM H.size) cw (mh_preS hK h) rfl hn hsize hstack (lv_room hW) hdg hf) kk
theorem mh_cIN (S : CallFix p m c cc nL s args Ts own) (hM : mh_Met cl tys l D y ws rm (.ref b :: As) M post) (cw : va_CN R s args own index y host bytes maxL none ws rm rm.cells rm.slots n ∧ y.name = "<init>" ∧ (Cond.instanceMethod y).before args s = true) (hK : kX cl D tys A H0 s) (h : mh cl D A H0 H locs M)
    (hn : As.length = n) (hsize : ls.size = nL) {st0 : List Value} (hstack : st0 = As.reverse ++ .ref b :: rest) (hW : (rest.map fun v => v.category).sum ≤ 8) (hdg : decode cc pc = .ok (.invokespecial index, 3)) (hf : cells + rm.cells ≤ R.cells ∧ slots + rm.slots ≤ R.slots)
    (kk : ∀ (v : Option Value) (M' : mh_M) (H1 : Heap) (locs1 : List Loc), post v M' → mh cl D A H0 H1 locs1 M' → W p l e R s m args below meth c H1 locs1 (cells + rm.cells) (slots + rm.slots) Q (F0 m (pc + 3) ls (v.toList ++ rest))) : W p l e R s m args below meth c H locs cells slots Q (F0 m pc ls st0) :=
  mh_after h (va_runIN S (hM H.size) cw (mh_preS hK h) rfl hn hsize hstack (lv_room hW) hdg hf) kk
/-- a method's end -/
theorem mh_end {sz : Nat} {v : Option Value} {t : State} {M0 : mh_M} (h : mh cl D (va_A (mh_w M0) sz) s.heap H locs M) (hp : post v M) (ht : t.heap = H) (a : Array Value) : mh_Q cl D M0 sz post a s (.returned v) t :=
  ⟨⟨v, M, rfl, hp, by rw [ht]; exact h.1, h.2.1⟩, h.2.2.1.F ht⟩
theorem mh_iret {sz : Nat} {x : Int32} {M0 : mh_M} (hexec : p.tables.exec = Jvm.exec) (hb : c.code = cc) (hr : meth.sig.returnType = some .int) (hlocks : meth.locks = false) (h : mh cl D (va_A (mh_w M0) sz) s.heap H locs M) (hdg : decode cc pc = .ok (.ireturn, 1)) (h1 : cells ≤ rm.cells) (h2 : slots ≤ rm.slots) (hp : post (some (.int x)) M) :
    W p l e R s m args below meth c H locs cells slots (MQ below (mh_Q cl D M0 sz post) args s rm.cells rm.slots (va_A (mh_w M0) sz)) (F0 m pc ls [.int x]) := by
  refine W.widen h1 h2 ?_
  exact W.iret hexec hb hr (fun t ht _ => mh_end h hp ht _) h.2.2.1.2.2 hdg hlocks
theorem mh_zret {sz : Nat} {x : Int32} {M0 : mh_M} {ty : FieldType} (hexec : p.tables.exec = Jvm.exec) (hb : c.code = cc) (hr : meth.sig.returnType = some ty) (hlocks : meth.locks = false) (hn : narrow ty (.int x) = .int x) (h : mh cl D (va_A (mh_w M0) sz) s.heap H locs M) (hdg : decode cc pc = .ok (.ireturn, 1)) (h1 : cells ≤ rm.cells) (h2 : slots ≤ rm.slots) (hp : post (some (.int x)) M) :
    W p l e R s m args below meth c H locs cells slots (MQ below (mh_Q cl D M0 sz post) args s rm.cells rm.slots (va_A (mh_w M0) sz)) (F0 m pc ls [.int x]) := by
  refine W.widen h1 h2 ?_
  exact W.zret hexec hb hr hn (fun t ht _ => mh_end h hp ht _) h.2.2.1.2.2 hdg hlocks
theorem mh_lret {sz : Nat} {x : Int64} {M0 : mh_M} (hexec : p.tables.exec = Jvm.exec) (hb : c.code = cc) (hr : meth.sig.returnType = some .long) (hlocks : meth.locks = false) (h : mh cl D (va_A (mh_w M0) sz) s.heap H locs M) (hdg : decode cc pc = .ok (.lreturn, 1)) (h1 : cells ≤ rm.cells) (h2 : slots ≤ rm.slots) (hp : post (some (.long x)) M) :
    W p l e R s m args below meth c H locs cells slots (MQ below (mh_Q cl D M0 sz post) args s rm.cells rm.slots (va_A (mh_w M0) sz)) (F0 m pc ls [.long x]) := by
  refine W.widen h1 h2 ?_
  exact W.lret hexec hb hr (fun t ht _ => mh_end h hp ht _) h.2.2.1.2.2 hdg hlocks
theorem mh_vret {sz : Nat} {M0 : mh_M} (hexec : p.tables.exec = Jvm.exec) (hb : c.code = cc) (hr : meth.sig.returnType = none) (hlocks : meth.locks = false) (h : mh cl D (va_A (mh_w M0) sz) s.heap H locs M) (hdg : decode cc pc = .ok (.return_, 1)) (h1 : cells ≤ rm.cells) (h2 : slots ≤ rm.slots) (hp : post none M) :
    W p l e R s m args below meth c H locs cells slots (MQ below (mh_Q cl D M0 sz post) args s rm.cells rm.slots (va_A (mh_w M0) sz)) (F0 m pc ls []) := by
  refine W.widen h1 h2 ?_
  exact W.vret hexec hb hr (fun t ht _ => mh_end h hp ht _) h.2.2.1.2.2 hdg hlocks
theorem mh_aret {sz : Nat} {v : Value} {M0 : mh_M} {rt : FieldType} (hexec : p.tables.exec = Jvm.exec) (hb : c.code = cc) (hr : meth.sig.returnType = some rt) (hrt : (∃ n, rt = .object n) ∨ ∃ t, rt = .array t) (hv : v = .null ∨ ∃ a, v = .ref a) (hlocks : meth.locks = false) (h : mh cl D (va_A (mh_w M0) sz) s.heap H locs M) (hdg : decode cc pc = .ok (.areturn, 1)) (h1 : cells ≤ rm.cells) (h2 : slots ≤ rm.slots) (hp : post (some v) M) :
    W p l e R s m args below meth c H locs cells slots (MQ below (mh_Q cl D M0 sz post) args s rm.cells rm.slots (va_A (mh_w M0) sz)) (F0 m pc ls [v]) := by
  refine W.widen h1 h2 ?_
  exact W.aret hexec hb hr hrt hv (fun t ht _ => mh_end h hp ht _) h.2.2.1.2.2 hdg hlocks
end MH
/-- a method's start: all that a walk of its body has at hand -/
def mh_Body (cl : List vw_C) (tys : List (ClassId × FieldType)) (D : va_G) (y : MethodName) (ws : List Cond) (rm : Room) (cc : ByteArray) (maxL : Nat) (ret : Option FieldType) (av : List Value) (M : mh_M) (post : Option Value → mh_M → Prop) (l : Launch) : Prop :=
  ∀ (p : Program) (e : Env) (s : State) (m : MethodId) (args : Array Value) (below : List Frame) (meth : Method) (c : Code) (ls : Array Slot), p.tables.exec = Jvm.exec → c.code = cc → meth.sig.returnType = ret → meth.locks = false → c.maxLocals = maxL → (∀ w ∈ ws, w.before args s = true) → s.vm.findClass y.cls = some m.cls → meth.name = y.name →
    kX cl D tys (va_A (mh_w M) s.heap.size) s.heap s → mh cl D (va_A (mh_w M) s.heap.size) s.heap s.heap [] M → lv_has ls maxL (lv_args 0 av) →
    W p l e rm s m args below meth c s.heap [] 0 0 (MQ below (mh_Q cl D M s.heap.size post) args s rm.cells rm.slots (va_A (mh_w M) s.heap.size)) (F0 m 0 ls [])
theorem mh_of {cl : List vw_C} {tys : List (ClassId × FieldType)} {D : va_G} {y : MethodName} {ws ws' : List Cond} {rm : Room} {cc : ByteArray} {maxL : Nat} {ret : Option FieldType} {av : List Value} {M : mh_M} {post : Option Value → mh_M → Prop} {l : Launch}
    (hy : plainName y.cls = true) (hw : ws = Cond.code y cc maxL ret :: ws') (hle : (lg_sl av).length ≤ maxL) (body : mh_Body cl tys D y ws rm cc maxL ret av M post l) : mh_Met cl tys l D y ws rm av M post := by
  intro sz
  refine Met.ofW (cc := cc) (maxL := maxL) (ret := ret) hy hw ?_
  intro p e s m args below meth c s₁ B hml hv
  obtain ⟨rfl, hsz, hP, hK, hD0⟩ := hv
  subst hsz
  have hD := hD0.self (sz := s.heap.size)
  have hl := lv_entry av (n := maxL) hle
  rw [lg_entry_eq]
  exact body p e s m _ below meth c _ B.exec B.bytes B.returns B.notSynchronized hml (atoms_spec (ws := ws) B.pre) (findClass_of_methodNamed B.named) (name_of_methodNamed B.named B.method).1 hK ⟨hP, hD, va_S.rf, fun q h => Or.inr h⟩ hl
