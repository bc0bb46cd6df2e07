/-! a call that changes the invariant, between two segments -/
section SC
variable {x : gx_T} {cl : List vw_C} {cc : ByteArray} {nL : Nat} {tys : List (ClassId × FieldType)} {KT : List ty_D} {INV INV2 : ty_K → mh_M → Prop} {pgf : ty_K → mh_M → Int32 → Prop} {mods : List (Nat × Nat)} {news : List Nat} {σ0 : ty_K} {M0 : mh_M} {key : Nat} {C : ty_C}
theorem ty_av_of {σ : ty_K} {g : Int} {pg : Int32 → Prop} {ls : Array Slot} {a : List Value} {ts : List ty_T} (hp : ts.all (fun t => ty_sub t t) = true) (h : ty_stk σ g pg ls a (ts.map (fun t => (t, ty_i0)))) : ty_av σ pg a ts := by
  induction ts generalizing a with
  | nil => rw [ty_stk_n h]; trivial
  | cons t ts ih =>
    obtain ⟨v, vs, rfl, h1, h2⟩ := ty_stk_c h
    simp only [List.all_cons, Bool.and_eq_true] at hp
    exact ⟨ty_sub_ok hp.1 h1.1, ih hp.2 h2⟩
theorem ty_spc (hc : gR_call x cl cc nL tys KT INV INV2 pgf key C) {i : Instr} (hi : ty_ky i key) {pc n k w : Nat} {L : ty_L} {rs : List ty_T} (hd : decode cc pc = .ok (i, 3)) (hst : C.1.all (fun t => ty_sub t t) = true) (hw8 : ty_cat (rs.map (fun t => (t, ty_i0))) = some w) (h8 : w ≤ 8) (hmd : C.2.2.1.all (fun q => decide (q ∈ mods)) = true) (hnw : C.2.2.2.1.all (fun q => decide (q ∈ news)) = true) (hn : n + C.2.2.2.2.1 ≤ (gx_R x).cells) (hk : k + C.2.2.2.2.2.1 ≤ (gx_R x).slots) (hrt : ty_prt C.2.1 = true)
    (J2 : ∀ g : Int, ty_J x cl nL tys KT INV2 pgf mods news σ0 M0 g (pc + 3, ty_wL L, ty_psh C.2.1 ty_i0 (ty_wS (rs.map (fun t => (t, ty_i0)))), n + C.2.2.2.2.1, k + C.2.2.2.2.2.1)) : ∀ g : Int, ty_J x cl nL tys KT INV pgf mods news σ0 M0 g (ty_s0 (pc, L, C.1.reverse ++ rs, n, k)) := by
  intro g σ M ls st hs hw hH hI hF hL hS
  have hS : ty_stk σ g (pgf σ M) ls st ((C.1.reverse ++ rs).map (fun t => (t, ty_i0))) := hS
  rw [List.map_append] at hS
  obtain ⟨t1, t2⟩ := ty_stk_td C.1.length hS
  have e1 : (C.1.reverse.map (fun t => (t, ty_i0)) ++ rs.map (fun t => (t, ty_i0))).take C.1.length = C.1.reverse.map (fun t => (t, ty_i0)) := by
    rw [List.take_append_of_le_length (by simp)]
    exact List.take_of_length_le (by simp)
  have e2 : (C.1.reverse.map (fun t => (t, ty_i0)) ++ rs.map (fun t => (t, ty_i0))).drop C.1.length = rs.map (fun t => (t, ty_i0)) := by
    rw [List.drop_append_of_le_length (by simp), List.drop_of_length_le (by simp)]
    rfl
  rw [e1] at t1
  rw [e2] at t2
  have t3 := ty_stk_rev t1
  rw [← List.map_reverse, List.reverse_reverse] at t3
  have hs2 : st = ((st.take C.1.length).reverse).reverse ++ st.drop C.1.length := by rw [List.reverse_reverse, List.take_append_drop]
  show gG x cl pc ls st M n k
  rw [hs2]
  refine hc _ ls i _ _ M σ _ _ hd hi hs (ty_av_of hst t3) hH hI (by rw [ty_cat_ok t2 hw8]; exact h8) hn hk (fun v M' σ' f1 f2 f3 f4 f5 => ?_)
  have hF' : ty_FM mods news σ0 M0 σ' M' := hF.tr (f1.mono (fun k i hk hm => hk (of_decide_eq_true (List.all_eq_true.mp hmd (k, i) hm))) (fun k hk => of_decide_eq_true (List.all_eq_true.mp hnw k hk)))
  have hL' : ty_loc σ' g (pgf σ' M') ls (ty_wL L) := ty_loc_wk f1.kinds hL
  have hS' := ty_stk_wk (pg' := pgf σ' M') f1.kinds t2
  have J2 := J2 g σ' M' ls (v.toList ++ st.drop C.1.length) hs hw f2 f3 hF' hL'
  cases hrT : C.2.1 with
  | none =>
    rw [hrT] at f4 J2
    have f4 : v = none := f4
    subst f4
    exact J2 hS'
  | some t =>
    rw [hrT] at f4 J2 hrt
    obtain ⟨u, rfl, hu⟩ := f4
    exact J2 ⟨⟨ty_plain_ok hrt hu, trivial⟩, hS'⟩
end SC
