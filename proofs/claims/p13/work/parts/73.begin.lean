/-! THE LAW's START: what its contracts ask of the tables and of the statics -/
section KS
variable {A : Nat → Prop} {s : State} {args : Array Value}
theorem kSt_castable {C T : String} (h : (Cond.castable C T).before args s = true) : kSt (.castable C T) A s s.heap := fun _ hW _ _ => va_Nw.use rfl (va_Nw.warmC hW (va_Nw.of rfl h))
theorem kSt_declares {x : MethodName} (h : (Cond.declares x).before args s = true) : kSt (.declares x) A s s.heap := fun _ hW _ _ => va_Nw.use rfl (va_Nw.warmD hW (va_Nw.of rfl h))
theorem kSt_over {C : String} (h : (Cond.arrayOver (.object C)).before args s = true) : kSt (.arrayOver (.object C)) A s s.heap := fun _ hW _ _ => va_AO.use (va_AO.moved hW.alike (va_AO.of h))
theorem kSt_string {own tx : String} {k : Nat} (h : (Cond.stringRef own k tx).before args s = true) : kSt (.stringRef own k tx) A s s.heap := fun U hW _ _ => by
  have h1 := Cond.stringRef_warmed hW h
  simp only [Cond.before, Cond.holds, Cond.value, State.names, State.poolOf?, State.resolvedAt?] at h1 ⊢
  exact h1
theorem kSt_lays {C n d : String} (hA : ∀ a : Nat, a < s.heap.size → ¬ A a) (h : (Cond.laysStatic C n d).before args s = true) : kSt (.laysStatic C n d) A s s.heap := fun U hW hk args' => by
  have h1 := Cond.laysStatic_setVm hW.alike h
  obtain ⟨c, k, i, f, a, cell, hc, hi, hst, ha, hcell, hs, hcls, hlt, hty⟩ := Cond.laysStatic_spec h1
  have hcell : s.heap[a]? = some cell := hcell
  have hl := (Array.getElem?_eq_some_iff.mp hcell).1
  have hcU : U.heap[a]? = some cell := by rw [hk a hl (hA a hl)]; exact hcell
  have hc : U.vm.findClass C = some c := hc
  have hi : U.fieldFound? C n d = some (c, k, i, f) := hi
  simp [Cond.before, Cond.holds, Cond.value, hc, hi, hst, ha, hcU, hs, hcls, hlt, hty]
theorem kSt_ref {C n d : String} (hA : ∀ a : Nat, a < s.heap.size → ¬ A a) (h : (Cond.laysStatic C n d).before args s = true) (hini : (Cond.initialized C).before args s = true) (hr : (Cond.isRef (.static C n d)).before args s = true) : kSt (.isRef (.static C n d)) A s s.heap := fun U hW hk args' => by
  obtain ⟨v, hv, hvr⟩ := Cond.isRef_spec hr
  obtain ⟨cf, kf, fi, f, a, cell, h1, h2, h3, h4, h5, h6, h7, h8⟩ := ((va_Zof (A := A) h hini hv hA).moved hW.alike).kept hk
  have he : (Term.static C n d).eval args' U none [] U = some v := by simp [Term.eval, State.fieldNamed?, h1, h2, h4, h5, h6, h7]
  simp only [Cond.before, Cond.holds, Cond.value, he]
  cases v <;> simp_all [Value.isRef]
end KS
theorem ar_of {s : State} {args : Array Value} {ty : FieldType} (hob : ∀ C, ty ≠ .object C) (h : (Cond.arrayClass ty).before args s = true) : ∃ cA : ClassId, ArrOfT s cA ty ∧ va_RA s cA ty := by
  obtain ⟨c, k, comp, h1, h2, h3⟩ := Cond.arrayClass_spec h
  refine ⟨c, fun n z => ⟨fun k h => (by cases h), k, h2, comp, h3⟩, ?_⟩
  cases ty with
  | object C => exact absurd rfl (hob C)
  | _ => exact h1
theorem ar_ofO {s : State} {args : Array Value} {C : String} (h : (Cond.arrayOver (.object C)).before args s = true) : ∃ cA : ClassId, ArrOfT s cA (.object C) ∧ va_RA s cA (.object C) := by
  obtain ⟨comp, c, k, h1, h2, h3, h4, h5⟩ := Cond.arrayOver_spec h
  exact ⟨c, fun n z => ⟨fun k h => (by cases h), k, h3, comp, h4⟩, k, comp, h3, h4, h1, h5⟩
set_option maxRecDepth 100000 in
theorem st_start {s : State} {b : Nat} (hts : ∀ w ∈ lw_tbl, w.before #[Value.ref b] s = true) (hgv : (Jvm.Cond.and given_1 narrow_1).before #[Value.ref b] s = true) : ∃ (D : va_G) (tys : List (ClassId × FieldType)) (cO : ClassId), ty_tys tys ∧ ty_tyO tys cO ∧ kX vwCl D tys (fun q => s.heap.size ≤ q) s.heap s := by
  have hgs := flat_of_before _ hgv
  have hA : ∀ a : Nat, a < s.heap.size → ¬ (s.heap.size ≤ a) := fun a h q => by omega
  have hin : ∀ {C : String} {T : u_T} {N : Nat}, (∀ w ∈ u_ws C T N, w ∈ kwT) → ∀ w ∈ u_ws C T N, w ∈ lw_tbl := fun h w hw => (List.mem_filter.mp (h w hw)).1
  have hx0 : ∀ w ∈ u_ws RJx00060 TJx00060 6, w ∈ tables_1 := by decide +kernel
  obtain ⟨c0, f0, k0⟩ := u_known (n := 6) (C := RJx00060) (T := TJx00060) (N := 6) hts (fun w hw => List.mem_append_right _ (hx0 w hw)) (hts _ (kw_at 521 (by decide +kernel)))
  obtain ⟨c1, f1, k1⟩ := u_known (n := 3) (C := RJx4a65c) (T := TJx4a65c) (N := 3) hts (hin uJx4a65c) (hts _ (kw_at 54 (by decide +kernel)))
  obtain ⟨c2, f2, k2⟩ := u_known (n := 1) (C := RX0) (T := TX0) (N := 1) hts (hin uX0) (hts _ (kw_at 37 (by decide +kernel)))
  obtain ⟨c3, f3, k3⟩ := u_known (n := 2) (C := RX1) (T := TX1) (N := 2) hts (hin uX1) (hts _ (kw_at 92 (by decide +kernel)))
  obtain ⟨c4, f4, k4⟩ := u_known (n := 2) (C := RX2) (T := TX2) (N := 2) hts (hin uX2) (hts _ (kw_at 48 (by decide +kernel)))
  obtain ⟨c5, f5, k5⟩ := u_known (n := 2) (C := RX3) (T := TX3) (N := 2) hts (hin uX3) (hts _ (kw_at 301 (by decide +kernel)))
  obtain ⟨c6, f6, k6⟩ := u_known (n := 13) (C := RX4) (T := TX4) (N := 13) hts (hin uX4) (hts _ (kw_at 24 (by decide +kernel)))
  obtain ⟨c7, f7, k7⟩ := u_known (n := 22) (C := RX5) (T := TX5) (N := 22) hts (hin uX5) (hts _ (kw_at 591 (by decide +kernel)))
  obtain ⟨cB, aB⟩ := ar_of (ty := .byte) (fun _ q => by cases q) (hts _ (kw_at 46 (by decide +kernel)))
  obtain ⟨cI, aI⟩ := ar_of (ty := .int) (fun _ q => by cases q) (hts _ (kw_at 106 (by decide +kernel)))
  obtain ⟨cZ, aZ⟩ := ar_of (ty := .boolean) (fun _ q => by cases q) (hts _ (kw_at 668 (by decide +kernel)))
  obtain ⟨cJ, aJ⟩ := ar_of (ty := .long) (fun _ q => by cases q) (hts _ (kw_at 669 (by decide +kernel)))
  obtain ⟨cO, aO⟩ := ar_ofO (C := "java/lang/Object") (hts _ (kw_at 371 (by decide +kernel)))
  have g1 : (Cond.arrayOf (.static "java/util/ArrayList" "DEFAULTCAPACITY_EMPTY_ELEMENTDATA" "[Ljava/lang/Object;") (.object "java/lang/Object")).before #[Value.ref b] s = true := hgs _ (by decide +kernel)
  have g2 : (Cond.eq (.length (.static "java/util/ArrayList" "DEFAULTCAPACITY_EMPTY_ELEMENTDATA" "[Ljava/lang/Object;")) (.int 0)).before #[Value.ref b] s = true := hgs _ (by decide +kernel)
  have g3 : (Cond.isRef (.mirror "[Ljava/lang/Object;")).before #[Value.ref b] s = true := hgs _ (by decide +kernel)
  have g4 : (Cond.isRef (.static "java/lang/Throwable" "UNASSIGNED_STACK" "[Ljava/lang/StackTraceElement;")).before #[Value.ref b] s = true := hgs _ (by decide +kernel)
  have g5 : (Cond.isRef (.static "java/lang/Throwable" "SUPPRESSED_SENTINEL" "Ljava/util/List;")).before #[Value.ref b] s = true := hgs _ (by decide +kernel)
  obtain ⟨em, hem, hT⟩ := va_Tof (N := 0) (f := fun _ => .null) (A := fun q => s.heap.size ≤ q) (by omega) g1 (va_eqt g2) (fun j hj => by omega) hA
  obtain ⟨mi, hMi⟩ := va_Mi.of g3
  refine ⟨(fun i => [c0, c1, c2, c3, c4, c5, c6, c7].getD i 0, fun i j => if i = 1000 then (if j = 0 then em else mi) else ([f0, f1, f2, f3, f4, f5, f6, f7].getD i (fun _ => 0)) j), [(cB, .byte), (cI, .int), (cZ, .boolean), (cJ, .long), (cO, .object "java/lang/Object")], cO, ⟨cB, cI, cZ, cJ, [(cO, .object "java/lang/Object")], rfl⟩, rfl, ⟨?_, ?_⟩, ?_, ⟨?_, ?_, ?_, ?_⟩, rfl⟩
  · intro c q hq
    match c, hq with
    | 0, hq => cases hq; exact k0
    | 1, hq => cases hq; exact k1
    | 2, hq => cases hq; exact k2
    | 3, hq => cases hq; exact k3
    | 4, hq => cases hq; exact k4
    | 5, hq => cases hq; exact k5
    | 6, hq => cases hq; exact k6
    | 7, hq => cases hq; exact k7
    | c + 8, hq => cases hq
  · intro k q hq
    match k, hq with
    | 0, hq => cases hq; exact aB
    | 1, hq => cases hq; exact aI
    | 2, hq => cases hq; exact aZ
    | 3, hq => cases hq; exact aJ
    | 4, hq => cases hq; exact aO
    | k + 5, hq => cases hq
  · exact fun w hw hk a => kw_warm hk (State.WarmedH.refl s) (hts w hw)
  · exact va_Zof (hts _ (kw_at 66 (by decide +kernel))) (hts _ (kw_at 7 (by decide +kernel))) hem hA
  · exact hT
  · exact hMi
  · have hl1 := hts (Cond.laysStatic "java/lang/Throwable" "UNASSIGNED_STACK" "[Ljava/lang/StackTraceElement;") (kw_at 549 (by decide +kernel))
    have hl2 := hts (Cond.laysStatic "java/lang/Throwable" "SUPPRESSED_SENTINEL" "Ljava/util/List;") (kw_at 551 (by decide +kernel))
    have hi1 := hts (Cond.initialized "java/lang/Throwable") (kw_at 18 (by decide +kernel))
    unfold kSW
    exact (pcons (kSt_over (hts _ (kw_at 371 (by decide +kernel)))) (pcons (kSt_castable (hts _ (kw_at 522 (by decide +kernel)))) (pcons (kSt_declares (hts _ (kw_at 523 (by decide +kernel)))) (pcons (kSt_declares (hts _ (kw_at 524 (by decide +kernel)))) (pcons (kSt_declares (hts _ (kw_at 525 (by decide +kernel)))) (pcons (kSt_declares (hts _ (kw_at 526 (by decide +kernel)))) (pcons (kSt_declares (hts _ (kw_at 527 (by decide +kernel)))) (pcons (kSt_declares (hts _ (kw_at 528 (by decide +kernel)))) (pcons (kSt_declares (hts _ (kw_at 529 (by decide +kernel)))) (pcons (kSt_declares (hts _ (kw_at 530 (by decide +kernel)))) (pcons (kSt_string (hts _ (kw_at 561 (by decide +kernel)))) (pcons (kSt_castable (hts _ (kw_at 811 (by decide +kernel)))) (pcons (kSt_castable (hts _ (kw_at 812 (by decide +kernel)))) (pcons (kSt_declares (hts _ (kw_at 815 (by decide +kernel)))) (pcons (kSt_castable (hts _ (kw_at 816 (by decide +kernel)))) (pcons (kSt_castable (hts _ (kw_at 817 (by decide +kernel)))) (pcons (kSt_castable (hts _ (kw_at 818 (by decide +kernel)))) (pcons (kSt_castable (hts _ (kw_at 819 (by decide +kernel)))) (pcons (kSt_castable (hts _ (kw_at 820 (by decide +kernel)))) (pcons (kSt_castable (hts _ (kw_at 821 (by decide +kernel)))) (pcons (kSt_castable (hts _ (kw_at 822 (by decide +kernel)))) (pcons (kSt_lays hA hl1) (pcons (kSt_lays hA hl2) (pcons (kSt_ref hA hl1 hi1 g4) (pcons (kSt_ref hA hl2 hi1 g5) pnil)))))))))))))))))))))))))
