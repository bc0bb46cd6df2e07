/-! KnowDiskLaw.at: the exception is caught -/
section CT
variable {p : Program} {l : Launch} {e : Env} {R : Room} {s : State} {m : MethodId} {args : Array Value} {below : List Frame} {meth : Method} {c : Code} {T : State} {locs : List Loc} {cells slots : Nat}
/-- a method with one handler catches an exception of the class that the handler names -/
theorem st_catch (X : Stand p l e R s m args below meth c T locs cells slots) {a : Nat} {g : JFrame} (hg : g.method = m) {own name : String} (hown : s.vm.findClass own = some m.cls) {x : ExceptionTableEntry} (htab : c.exceptionTable.toList = [x]) (hcov : covers x g.pc = true) (h0 : x.catchType ≠ 0) (hlink : (Cond.classLink own x.catchType name).before args s = true) {cell : Cell} (hcell : T.heap[a]? = some cell) (hvm : cell.vm = .none) (hcls : s.vm.findClass name = some cell.cls) (hself : s.vm.assignable cell.cls cell.cls = true) :
    ∃ vm', Stand p l e R s m args below meth c (T.setVm vm') locs cells slots ∧ ∀ target, Steps p.tables e below ((T.setVm vm').setTop { g with pc := x.handlerPc, stack := [.ref a] }) target → Steps p.tables e below ((T.setTop g).pushFrame (.throwing a)) target := by
  have hpl : e.platform.magicAccessors = ({} : Platform).magicAccessors := by rw [X.admits.platform]
  obtain ⟨cT, hcT, hcl⟩ := Cond.classLink_spec hown hlink e.platform hpl
  have ecT : cT = cell.cls := Option.some.inj (hcT.symm.trans hcls)
  subst ecT
  obtain ⟨dk, _, _, kt, hd, _, _, _, _, hkt, _, hopen⟩ := hcl.here
  have hW' : s.WarmedH (T.vm.noted m.cls x.catchType (.cls cell.cls)) := X.warmed.noted hd hopen (State.rightAt_cls hcl)
  have hlT := X.warmed.classLinks hcl
  obtain ⟨kt', hkt', -⟩ := X.warmed.alike.2.2 _ _ hkt
  have hfit : T.vm.assignable cell.cls cell.cls = true := by rw [X.warmed.alike.assignable]; exact hself
  refine ⟨_, X.noted hW', fun target hrest => ?_⟩
  subst hg
  have hal : T.vm.Alike (T.vm.noted g.method.cls x.catchType (.cls cell.cls)) := (Vm.Alike.refl T.vm).noted _ _ _
  obtain ⟨k2, hk2, -⟩ := hal.2.2 _ _ hkt'
  have hfit2 : (T.vm.noted g.method.cls x.catchType (.cls cell.cls)).assignable cell.cls cell.cls = true := by rw [hal.assignable]; exact hfit
  have hm' := X.method'
  have hco := X.code
  have hAt := X.here
  obtain ⟨S, eS⟩ : ∃ S : State, S = (T.setTop g).pushFrame (.throwing a) := ⟨_, rfl⟩
  have vS : S.vm = T.vm := by rw [eS]; exact Stand.throwing_vm T g a
  have hS : S.heap = T.heap := by rw [eS]; exact Stand.throwing_heap T g a
  have hfind : ∀ (Q : Handler → Pre) (E : CtlPost) (d : Bool) (acts : List Action), wp (findHandler g a) Q E e d acts S ↔ Q (.found x.handlerPc) d acts (S.setVm (T.vm.noted g.method.cls x.catchType (.cls cell.cls))) := by
    intro Q E d acts
    have hlS : S.vm.ClassLinks e.platform g.method.cls x.catchType cell.cls := by rw [vS]; exact hlT
    rw [W.findHandler_eq (by rw [vS]; exact hm') hco, htab]
    obtain ⟨h1, h2⟩ := (resolveClass_links e.toSetting hlS).op (op := VmOp.resolveClass g.method.cls x.catchType) rfl
    have hcS : S.heap[a]? = some cell := by rw [hS]; exact hcell
    have hob : ∀ k, cell.vm ≠ .statics k := fun k q => by rw [hvm] at q; cases q
    have hx := hcov
    simp only [covers] at hx
    rw [vS] at h1 h2
    simp [findHandler.go, hx, h0, vS, h1, h2, hcS, hob, hk2, hfit2, VmOp.dirties, VmOp.acts]
  have key : ∀ r, (stepThrowing e S a (.java g :: r)).1 = (S.setVm (T.vm.noted g.method.cls x.catchType (.cls cell.cls))).setFrames (.java { g with pc := x.handlerPc, stack := [.ref a] } :: r) := by
    intro r
    simp only [stepThrowing, searchFrame, vmDo]
    generalize hr : Sem.go _ e false [] S = res
    obtain ⟨as, rfl, -⟩ := Sem.eq_ok_of hr (a := Handler.found x.handlerPc) (s' := S.setVm (T.vm.noted g.method.cls x.catchType (.cls cell.cls))) (acts' := []) (by simp [hfind])
    rfl
  obtain ⟨hgo, hw⟩ := hAt.throwing a
  refine Steps.head hgo hw ?_
  rw [stepThread_throwing (frames_entered hAt.top _), ← eS, key]
  obtain ⟨g₀, hg0⟩ := Option.isSome_iff_exists.mp hAt.top
  obtain ⟨r, hr⟩ := State.topJava?_eq_some.mp hg0
  have hr' : (T.setVm (T.vm.noted g.method.cls x.catchType (.cls cell.cls))).frames = .java g₀ :: r := hr
  have hsf : ∀ (u : State) (v : Vm) (F G : List Frame), ((u.setFrames F).setVm v).setFrames G = (u.setVm v).setFrames G := fun u v F G => by
    show ((u.setVm v).setFrames F).setFrames G = _
    rw [State.setFrames_setFrames]
  rw [State.setTop_of_frames _ hr'] at hrest
  rw [eS, hr, List.tail_cons, State.pushFrame, hsf, State.setTop_of_frames _ hr, hsf]
  exact hrest
end CT
