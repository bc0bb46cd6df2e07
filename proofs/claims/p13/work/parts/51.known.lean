/-! KNOWN CELLS: while an object is made, the new cells are known one by one; the old ones stay -/
def mx_has (M0 : mh_M) (q : Nat) (M : mh_M) (xs : List (Nat × va_E)) : Prop := (∀ p ∈ xs, mh_at M p.1 p.2) ∧ (xs.map Prod.fst).Nodup ∧ (∀ b, b ∈ M0.1 → b ∈ M.1 ∧ (b ≠ q → M.2 b = M0.2 b)) ∧ (∀ p ∈ xs, p.1 = q ∨ p.1 ∉ M0.1)
theorem mx_at {M0 M : mh_M} {q : Nat} {xs : List (Nat × va_E)} (i : Nat) {a : Nat} {e : va_E} (h : mx_has M0 q M xs) (hi : xs[i]? = some (a, e)) : mh_at M a e := h.1 (a, e) (List.mem_of_getElem? hi)
theorem mx_new {M0 M : mh_M} {q r : Nat} {xs : List (Nat × va_E)} {e : va_E} (h : mx_has M0 q M xs) (hr : r ∉ M.1) : mx_has M0 q (mh_new M r e) ((r, e) :: xs) := by
  obtain ⟨h1, h2, h3, h4⟩ := h
  refine ⟨fun p hp => ?_, ?_, fun b hb => ?_, fun p hp => ?_⟩
  · rcases List.mem_cons.mp hp with rfl | hp
    · exact mh_at.new_self
    · exact (h1 p hp).new hr
  · rw [List.map_cons, List.nodup_cons]
    refine ⟨fun hq => ?_, h2⟩
    obtain ⟨p, hp, e1⟩ := List.mem_map.mp hq
    have e1 : p.1 = r := e1
    exact hr (e1 ▸ (h1 p hp).1)
  · obtain ⟨b1, b2⟩ := h3 b hb
    refine ⟨List.mem_append_left _ b1, fun hn => ?_⟩
    exact (va_up_ne _ _ (show b ≠ r from fun e => hr (e ▸ b1))).trans (b2 hn)
  · rcases List.mem_cons.mp hp with rfl | hp
    · exact Or.inr (fun hb => hr (h3 _ hb).1)
    · exact h4 p hp
theorem mx_set {M0 M : mh_M} {q a : Nat} {xs : List (Nat × va_E)} {e e0 : va_E} (i : Nat) (h : mx_has M0 q M xs) (hi : xs[i]? = some (a, e0)) : mx_has M0 q (mh_set M a e) (xs.set i (a, e)) := by
  obtain ⟨h1, h2, h3, h4⟩ := h
  obtain ⟨hlt, hge⟩ := List.getElem?_eq_some_iff.mp hi
  have emap : (xs.set i (a, e)).map Prod.fst = xs.map Prod.fst := by
    rw [List.map_set]
    have e1 : (xs.map Prod.fst)[i]? = some a := by rw [List.getElem?_map, hi]; rfl
    obtain ⟨hl2, hg2⟩ := List.getElem?_eq_some_iff.mp e1
    conv => lhs; rw [show a = (xs.map Prod.fst)[i] from hg2.symm]
    exact List.set_getElem_self hl2
  have ha := h1 (a, e0) (List.mem_of_getElem? hi)
  refine ⟨fun p hp => ?_, emap ▸ h2, fun b hb => ?_, fun p hp => ?_⟩
  · obtain ⟨j, hj⟩ := List.getElem?_of_mem hp
    by_cases ej : i = j
    · subst ej
      rw [List.getElem?_set_self hlt] at hj
      cases hj
      exact ha.set_self
    · rw [List.getElem?_set_ne ej] at hj
      have hp2 := h1 p (List.mem_of_getElem? hj)
      refine hp2.set_ne (fun ea => ej ?_)
      have m1 : (xs.map Prod.fst)[i]? = some a := by rw [List.getElem?_map, hi]; rfl
      have m2 : (xs.map Prod.fst)[j]? = some a := by rw [List.getElem?_map, hj]; exact congrArg some ea
      obtain ⟨l1, g1⟩ := List.getElem?_eq_some_iff.mp m1
      obtain ⟨l2, g2⟩ := List.getElem?_eq_some_iff.mp m2
      rcases Nat.lt_trichotomy i j with h | h | h
      · exact absurd (g1.trans g2.symm) (List.pairwise_iff_getElem.mp h2 i j l1 l2 h)
      · exact h
      · exact absurd (g2.trans g1.symm) (List.pairwise_iff_getElem.mp h2 j i l2 l1 h)
  · obtain ⟨b1, b2⟩ := h3 b hb
    refine ⟨b1, fun hn => ?_⟩
    have hne : b ≠ a := fun eb => by
      rcases h4 (a, e0) (List.mem_of_getElem? hi) with r | r
      · exact hn (eb.trans r)
      · exact r (eb ▸ hb)
    exact (va_up_ne _ _ hne).trans (b2 hn)
  · rcases List.mem_or_eq_of_mem_set hp with hp | rfl
    · exact h4 p hp
    · exact h4 (a, e0) (List.mem_of_getElem? hi)
section GK
variable {x : gx_T} {cl : List vw_C} {cc : ByteArray} {nL : Nat} {tys : List (ClassId × FieldType)} {Ts : List Cond} {own : String} {pc : Nat} {ls : Array Slot} {st : List Value} {M0 M : mh_M} {q n k : Nat} {xs : List (Nat × va_E)} {a idx ci j : Nat} {ft : FieldType} {fs : List Value} {v : Value}
theorem gK_put (hput : gR_put x cl cc idx ci j ft) (hd : decode cc pc = .ok (.putfield idx, 3)) (i : Nat) (hX : mx_has M0 q M xs) (hi : xs[i]? = some (a, .inr (ci, fs))) (hj : j < fs.length) (n1 : narrow ft v = v) (n2 : fits ft v = true) (kk : ∀ M', mx_has M0 q M' (xs.set i (a, .inr (ci, fs.set j v))) → gG x cl (pc + 3) ls st M' n k) : gG x cl pc ls (v :: .ref a :: st) M n k :=
  hput pc ls a fs v st M n k hd (mx_at i hX hi) hj n1 n2 (kk _ (mx_set i hX hi))
theorem gK_get (hget : gR_get x cl cc idx ci j) (hd : decode cc pc = .ok (.getfield idx, 3)) (i : Nat) (hX : mx_has M0 q M xs) (hi : xs[i]? = some (a, .inr (ci, fs))) (hv : fs[j]? = some v) (kk : gG x cl (pc + 3) ls (v :: st) M n k) : gG x cl pc ls (.ref a :: st) M n k :=
  hget pc ls a fs v st M n k hd (mx_at i hX hi) hv kk
theorem gK_nai {at_ : ArrayType} {cA : ClassId} (hn : gR_nai x cl cc at_ cA) (hd : decode cc pc = .ok (.newarray at_, 2)) (hX : mx_has M0 q M xs) {z : Int32} (N : Nat) (hz : z.toInt = (N : Int)) (hN : N ≤ 60000000) (h1 : n + 1 ≤ (gx_R x).cells) (h2 : k + N ≤ (gx_R x).slots) (kk : ∀ r M', mx_has M0 q M' ((r, .inl (cA, N, .inl (fun _ => 0))) :: xs) → gG x cl (pc + 2) ls (.ref r :: st) M' (n + 1) (k + N)) : gG x cl pc ls (.int z :: st) M n k :=
  hn pc ls st M n k z N hd hz hN h1 h2 (fun r hr => kk r _ (mx_new hX hr))
/-- a new array of longs -/
theorem gK_nal (hx : gC x cl cc nL tys kwT own) {cA : ClassId} (t0 : Nat) (ht : tys[t0]? = some (cA, .long)) (hw : Cond.arrayClass .long ∈ lw_tbl) (hd : decode cc pc = .ok (.newarray .long, 2)) (hX : mx_has M0 q M xs) {z : Int32} (N : Nat) (hz : z.toInt = (N : Int)) (hN : N ≤ 60000000) (h1 : n + 1 ≤ (gx_R x).cells) (h2 : k + N ≤ (gx_R x).slots) (kk : ∀ r M', mx_has M0 q M' ((r, .inl (cA, N, .inr (.inl (fun _ => 0)))) :: xs) → gG x cl (pc + 2) ls (.ref r :: st) M' (n + 1) (k + N)) : gG x cl pc ls (.int z :: st) M n k := by
  obtain ⟨p, l, e, R, s, m, args, below, meth, c, Q, D, A, H0⟩ := x
  have w1 := gx_word hx hw rfl
  obtain ⟨⟨he, hb, hml, ho, hts⟩, hK, -⟩ := hx
  intro H locs hm
  have h0 : ¬ z < 0 := fun q => by
    have := Int32.lt_iff_toInt_lt.mp q
    rw [show (0 : Int32).toInt = 0 from rfl] at this
    omega
  have e1 : z.toNatClampNeg = N := ty_clN hz
  refine mh_newa (atype := .long) he hb w1 rfl hK hm (a0 := (N, .inr (.inl (fun _ => 0)))) t0 ht (fun C q => by cases q) (fun cA => rfl) h0 e1 (by show N * 8 ≤ 536870912; omega) h1 h2 hd (fun r H1 hq h1 => kk r _ (mx_new hX hq) H1 locs h1)
theorem gK_iast (hx : gC x cl cc nL tys Ts own) (t0 i : Nat) {cA : ClassId} {N : Nat} {f : Nat → Int32} {y w : Int32} (hd : decode cc pc = .ok (.iastore, 1)) (hX : mx_has M0 q M xs) (hi : xs[i]? = some (a, .inl (cA, N, .inl f))) (ht : tys[t0]? = some (cA, .int)) (hy : vp_in y N) (kk : ∀ M', mx_has M0 q M' (xs.set i (a, .inl (cA, N, .inl (upd f y.toNatClampNeg w)))) → gG x cl (pc + 1) ls st M' n k) : gG x cl pc ls (.int w :: .int y :: .ref a :: st) M n k :=
  gG_iast hx t0 hd (mx_at i hX hi) ht hy (kk _ (mx_set i hX hi))
theorem gK_zast (hx : gC x cl cc nL tys Ts own) (t0 i : Nat) {cA : ClassId} {N : Nat} {f : Nat → Int32} {y w : Int32} (hd : decode cc pc = .ok (.bastore, 1)) (hX : mx_has M0 q M xs) (hi : xs[i]? = some (a, .inl (cA, N, .inl f))) (ht : tys[t0]? = some (cA, .boolean)) (hy : vp_in y N) (kk : ∀ M', mx_has M0 q M' (xs.set i (a, .inl (cA, N, .inl (upd f y.toNatClampNeg (vp_nar .boolean w))))) → gG x cl (pc + 1) ls st M' n k) : gG x cl pc ls (.int w :: .int y :: .ref a :: st) M n k :=
  gG_zast hx t0 hd (mx_at i hX hi) ht hy (kk _ (mx_set i hX hi))
theorem gK_last (hx : gC x cl cc nL tys Ts own) (t0 i : Nat) {cA : ClassId} {N : Nat} {f : Nat → Int64} {y : Int32} {w : Int64} (hd : decode cc pc = .ok (.lastore, 1)) (hX : mx_has M0 q M xs) (hi : xs[i]? = some (a, .inl (cA, N, .inr (.inl f)))) (ht : tys[t0]? = some (cA, .long)) (hy : vp_in y N) (kk : ∀ M', mx_has M0 q M' (xs.set i (a, .inl (cA, N, .inr (.inl (vp_updL f y.toNatClampNeg w))))) → gG x cl (pc + 1) ls st M' n k) : gG x cl pc ls (.long w :: .int y :: .ref a :: st) M n k :=
  gG_last hx t0 hd (mx_at i hX hi) ht hy (kk _ (mx_set i hX hi))
theorem gK_iald (hx : gC x cl cc nL tys Ts own) (t0 i : Nat) {cA : ClassId} {N : Nat} {f : Nat → Int32} {y : Int32} (hd : decode cc pc = .ok (.iaload, 1)) (hX : mx_has M0 q M xs) (hi : xs[i]? = some (a, .inl (cA, N, .inl f))) (ht : tys[t0]? = some (cA, .int)) (hy : vp_in y N) (kk : gG x cl (pc + 1) ls (.int (f y.toNatClampNeg) :: st) M n k) : gG x cl pc ls (.int y :: .ref a :: st) M n k :=
  gG_iald hx t0 hd (mx_at i hX hi) ht hy kk
/-- Object.<init> on any object -/
theorem gK_obj (hx : gC x cl cc nL tys kwT own) (hk : Cond.methodLink own idx Lib.objectInit ∈ lw_tbl) (hi1 : Cond.instanceMethod Lib.objectInit ∈ lw_tbl) (hcd : Cond.code Lib.objectInit ⟨#[0xb1]⟩ 1 none ∈ lw_tbl) (hR : 1 ≤ (gx_R x).frames ∧ 20 ≤ (gx_R x).locals) (hd : decode cc pc = .ok (.invokespecial idx, 3)) (hs : ls.size = nL) (h8 : (st.map fun v => v.category).sum ≤ 8) (hn : n ≤ (gx_R x).cells) (hk2 : k ≤ (gx_R x).slots) (kk : gG x cl (pc + 3) ls st M n k) : gG x cl pc ls (.ref a :: st) M n k := by
  obtain ⟨p, l', e, R, s, m, args, below, meth, c, Q, D', A, H0⟩ := x
  have w1 := gx_word hx hk rfl
  have w2 := gx_word hx hi1 rfl
  have w3 := gx_word hx hcd rfl
  obtain ⟨⟨he, hb, hml, ho, hts⟩, hK⟩ := hx
  intro H locs hm
  have hR1 : 1 ≤ R.frames := hR.1
  have hR2 : 20 ≤ R.locals := hR.2
  refine W.objInit he hb ho w1 w2 w3 rfl (hs.trans hml.symm) rfl hd hR1 ?_ (kk H locs hm)
  show 2 * 0 + (st.map fun v => v.category).sum + 12 ≤ R.locals
  omega
end GK
