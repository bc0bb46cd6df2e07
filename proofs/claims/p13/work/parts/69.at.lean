/-! KnowDisk.at: it returns a byte, or it throws -/
/-- the walk from here on, as if the call had begun with the heap of now -/
theorem st_rebase {p : Program} {l : Launch} {e : Env} {R : Room} {s : State} {m : MethodId} {args : Array Value} {below : List Frame} {meth : Method} {c : Code} {T : State} {locs : List Loc} {cells slots : Nat} (X : Stand p l e R s m args below meth c T locs cells slots) (hc : cells ≤ R.cells) (hs : slots ≤ R.slots) :
    Stand p l e { R with cells := R.cells - cells, slots := R.slots - slots } { s with heap := T.heap, slotsUsed := T.slotsUsed } m args below meth c T [] 0 0 ∧ s.sameButNew { s with heap := T.heap, slotsUsed := T.slotsUsed } locs cells slots := by
  obtain ⟨e1, e2, e3, e4, e5, e6⟩ := X.same
  have e2 : s.heap.size ≤ T.heap.size := e2
  have e3 : T.heap.size ≤ s.heap.size + cells := e3
  have e4 : T.slotsUsed = s.slotsUsed + ((T.heap.toList.drop s.heap.size).map (·.slots.size)).sum := e4
  have e5 : ((T.heap.toList.drop s.heap.size).map (·.slots.size)).sum ≤ slots := e5
  have hB : s.sameButNew { s with heap := T.heap, slotsUsed := T.slotsUsed } locs cells slots := by
    refine ⟨?_, e2, e3, e4, e5, e6⟩
    obtain ⟨th, hth, -⟩ := State.frames_cons X.frames
    show ({ s with heap := T.heap, slotsUsed := T.slotsUsed } : State) = { s.setFrames s.frames with heap := T.heap, slotsUsed := T.slotsUsed }
    rw [State.setFrames_self hth]
  have hz : T.heap.toList.drop T.heap.size = [] := List.drop_eq_nil_of_le (by simp)
  refine ⟨⟨X.admits, X.cas, X.clock, X.frames, ?_, X.hears, X.method, X.code, X.here, X.tail, X.warmed, X.limits, X.bytes, ⟨e1, Nat.le_refl _, Nat.le_refl _, ?_, ?_, ?_⟩⟩, hB⟩
  · have hr := X.room
    have hbk := X.book
    unfold State.hasRoom at hr ⊢
    simp only [Bool.and_eq_true, decide_eq_true_eq] at hr ⊢
    obtain ⟨⟨⟨⟨h1, h2⟩, h3⟩, h4⟩, h5⟩ := hr
    exact ⟨⟨⟨⟨h1, h2⟩, by omega⟩, by omega⟩, hbk⟩
  · show T.slotsUsed = T.slotsUsed + ((T.heap.toList.drop T.heap.size).map (·.slots.size)).sum
    rw [hz]; rfl
  · show ((T.heap.toList.drop T.heap.size).map (·.slots.size)).sum ≤ 0
    rw [hz]; exact Nat.le_refl _
  · exact fun a c h => ⟨c, h, rfl, rfl, fun _ _ => rfl⟩
abbrev tX : String := "java/lang/ArrayIndexOutOfBoundsException"
abbrev tNs : List String := ["java/lang/IndexOutOfBoundsException", "java/lang/RuntimeException", "java/lang/Exception"]
set_option maxRecDepth 100000 in
theorem tAll : ∀ a ∈ Bundle.ownAtoms "KnowDisk" 157 tX tNs, (a ∈ tables_1 ∧ kw_ok a = true) ∨ a ∈ kSW := by
  have h : (Bundle.ownAtoms "KnowDisk" 157 tX tNs).all (fun a => (decide (a ∈ tables_1) && kw_ok a) || decide (a ∈ kSW)) = true := by decide +kernel
  intro a ha
  have := List.all_eq_true.mp h a ha
  simp only [Bool.or_eq_true, Bool.and_eq_true, decide_eq_true_eq] at this
  exact this
