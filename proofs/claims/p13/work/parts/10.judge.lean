/-! THE JUDGEMENT: every machine state that has these types comes to its end -/
def ty_rv (σ : ty_K) (v : Option Value) (rT : Option ty_T) : Prop := match rT with
  | none => v = none
  | some t => ∃ w, v = some w ∧ ty_has σ 0 ty_no w t
def ty_av (σ : ty_K) (pg : Int32 → Prop) : List Value → List ty_T → Prop
  | [], [] => True
  | v :: vs, t :: ts => ty_has σ 0 pg v t ∧ ty_av σ pg vs ts
  | _, _ => False
/-- the remark on an answer -/
def ty_rr (pg : Int32 → Prop) (av : List Value) (v : Option Value) (i : ty_I) : Prop := match i.1 with
  | 2 => ∃ b z : Int32, v = some (.int b) ∧ av[i.2.1]? = some (.int z) ∧ (b ≠ 0 → i.2.2.1 ≤ z.toInt ∧ z.toInt ≤ i.2.2.2)
  | 3 => ∃ b z : Int32, v = some (.int b) ∧ av[i.2.1]? = some (.int z) ∧ (b ≠ 0 → i.2.2.1 ≤ z.toInt ∧ z.toInt ≤ i.2.2.2 ∧ pg z)
  | _ => True
section JJ
variable (x : gx_T) (cl : List vw_C) (cc : ByteArray) (nL : Nat) (tys : List (ClassId × FieldType)) (KT : List ty_D) (INV INV' : ty_K → mh_M → Prop) (pgf : ty_K → mh_M → Int32 → Prop)
/-- the key of a call: three times its place, and 0, 1, 2 for virtual, static, special -/
def ty_ky (i : Instr) (key : Nat) : Prop := (∃ j, i = .invokevirtual j ∧ key = 3 * j) ∨ (∃ j, i = .invokestatic j ∧ key = 3 * j + 1) ∨ (∃ j, i = .invokespecial j ∧ key = 3 * j + 2)
/-- a call of the key idx by its contract -/
def gR_call (idx : Nat) (C : ty_C) : Prop := ∀ (pc : Nat) (ls : Array Slot) (i : Instr) (av rest : List Value) (M : mh_M) (σ : ty_K) (n k : Nat), decode cc pc = .ok (i, 3) → ty_ky i idx → ls.size = nL → ty_av σ (pgf σ M) av C.1 → ty_H tys KT σ M → INV σ M →
  (rest.map fun v => v.category).sum ≤ 8 → n + C.2.2.2.2.1 ≤ (gx_R x).cells → k + C.2.2.2.2.2.1 ≤ (gx_R x).slots →
  (∀ (v : Option Value) (M' : mh_M) (σ' : ty_K), ty_FM C.2.2.1 C.2.2.2.1 σ M σ' M' → ty_H tys KT σ' M' → INV' σ' M' → ty_rv σ' v C.2.1 → ty_rr (pgf σ' M') av v C.2.2.2.2.2.2 → gG x cl (pc + 3) ls (v.toList ++ rest) M' (n + C.2.2.2.2.1) (k + C.2.2.2.2.2.1)) →
  gG x cl pc ls (av.reverse ++ rest) M n k
def ty_J (mods : List (Nat × Nat)) (news : List Nat) (σ0 : ty_K) (M0 : mh_M) (g : Int) (s : ty_S) : Prop := ∀ (σ : ty_K) (M : mh_M) (ls : Array Slot) (st : List Value), ls.size = nL → lv_wf ls → ty_H tys KT σ M → INV σ M → ty_FM mods news σ0 M0 σ M → ty_loc σ g (pgf σ M) ls s.2.1 → ty_stk σ g (pgf σ M) ls st s.2.2.1 → gG x cl s.1 ls st M s.2.2.2.1 s.2.2.2.2
end JJ
/-! locals and stacks that change -/
section MV
variable {σ σ' : ty_K} {g : Int} {pg pg' : Int32 → Prop} {ls ls' : Array Slot} {L : ty_L} {st : List Value} {es : List ty_E} {nL : Nat}
theorem ty_stk_clr (h : ty_stk σ g pg ls st es) : ty_stk σ g pg ls' st (ty_clr es) := by
  induction es generalizing st with
  | nil => rw [ty_stk_n h]; trivial
  | cons e es ih =>
    obtain ⟨v, vs, rfl, h1, h2⟩ := ty_stk_c h
    exact ⟨⟨h1.1, trivial⟩, ih h2⟩
theorem ty_loc_st1 {i : Nat} {v : Value} {t : ty_T} (hp : ty_put nL ls i 1 v ls') (hl : ty_loc σ g pg ls L) (hv : ty_has σ g pg v t) : ty_loc σ g pg ls' (ty_st1 L i t) := by
  intro q hq
  rcases List.mem_cons.mp hq with rfl | hq
  · exact ⟨v, hp.2.2.1, hv⟩
  · obtain ⟨h1, h2⟩ := List.mem_filter.mp hq
    obtain ⟨w, h3, h4⟩ := hl q h1
    simp only [Bool.and_eq_true, bne_iff_ne, ne_eq, Bool.or_eq_true] at h2
    refine ⟨w, hp.2.2.2 q.1 w h3 (by omega) (fun ⟨a, b⟩ => ?_), h4⟩
    rcases h2.2 with r | r
    · exact r a
    · have := ty_c1_ok r h4; omega
theorem ty_loc_st2 {i : Nat} {v : Int64} (hp : ty_put nL ls i 2 (.long v) ls') (hl : ty_loc σ g pg ls L) : ty_loc σ g pg ls' (ty_st2 L i) := by
  intro q hq
  rcases List.mem_cons.mp hq with rfl | hq
  · exact ⟨_, hp.2.2.1, v, rfl⟩
  · obtain ⟨h1, h2⟩ := List.mem_filter.mp hq
    obtain ⟨w, h3, h4⟩ := hl q h1
    simp only [Bool.and_eq_true, bne_iff_ne, ne_eq, Bool.or_eq_true] at h2
    refine ⟨w, hp.2.2.2 q.1 w h3 (by omega) (fun ⟨a, b⟩ => ?_), h4⟩
    rcases h2.2 with r | r
    · exact r a
    · have := ty_c1_ok r h4; omega
theorem ty_loc_at {j : Nat} {F : ty_T → ty_T} {z : Int32} (hj : ls[j]? = some (.val (.int z))) (hF : ∀ t, ty_has σ g pg (.int z) t → ty_has σ g pg (.int z) (F t)) (hl : ty_loc σ g pg ls L) : ty_loc σ g pg ls (ty_at L j F) := by
  intro q hq
  obtain ⟨r, h1, h2⟩ := List.mem_map.mp hq
  obtain ⟨w, h3, h4⟩ := hl r h1
  split at h2
  · rename_i e
    subst h2
    rw [e, hj] at h3
    cases h3
    exact ⟨_, by show ls[r.1]? = _; rw [e]; exact hj, hF _ h4⟩
  · subst h2; exact ⟨w, h3, h4⟩
theorem ty_loc_rf {i : ty_I} {r : Int × Int} {z : Int32} (hi : ty_inf pg ls (.int z) i) (h1 : r.1 ≤ z.toInt) (h2 : z.toInt ≤ r.2) (hl : ty_loc σ g pg ls L) : ty_loc σ g pg ls (ty_rf L i r) := by
  unfold ty_rf
  split
  · rename_i e
    obtain ⟨a, b, c, d⟩ := i
    dsimp only at e
    subst e
    exact ty_loc_at hi (fun t ht => ty_nr_ok h1 h2 ht) hl
  · exact hl
theorem ty_loc_nz {i : ty_I} {z : Int32} (hi : ty_inf pg ls (.int z) i) (hz : z ≠ 0) (hl : ty_loc σ g pg ls L) : ty_loc σ g pg ls (ty_nz L i) := by
  unfold ty_nz
  split
  · rename_i e
    obtain ⟨a, b, c, d⟩ := i
    dsimp only at e
    subst e
    obtain ⟨b', y, h1, h2, h3⟩ := hi
    cases h1
    exact ty_loc_at h2 (fun t ht => ty_nr_ok (h3 hz).1 (h3 hz).2 ht) hl
  · split
    · rename_i e
      obtain ⟨a, b, c, d⟩ := i
      dsimp only at e
      subst e
      obtain ⟨b', y, h1, h2, h3⟩ := hi
      cases h1
      exact ty_loc_at h2 (fun t ht => ty_sp_ok (h3 hz).2.2 (ty_nr_ok (h3 hz).1 (h3 hz).2.1 ht)) hl
    · exact hl
theorem ty_loc_nm {i : ty_I} {z : Int32} (hi : ty_inf pg ls (.int z) i) (hz : z ≠ -1) (hl : ty_loc σ g pg ls L) : ty_loc σ g pg ls (ty_nm L i) := by
  unfold ty_nm
  split
  · rename_i e
    obtain ⟨a, b, c, d⟩ := i
    dsimp only at e
    subst e
    obtain ⟨b', y, h1, h2, h3⟩ := hi
    cases h1
    exact ty_loc_at h2 (fun t ht => ty_sp_ok (h3 hz) ht) hl
  · exact hl
theorem ty_cut_ok {c : ClassFile.Cond} {a b : Int × Int} {u v : Int} (h : ty_hI c u v) (h1 : a.1 ≤ u) (h2 : u ≤ a.2) (h3 : b.1 ≤ v) (h4 : v ≤ b.2) : ((ty_cut c a b).1.1 ≤ u ∧ u ≤ (ty_cut c a b).1.2) ∧ ((ty_cut c a b).2.1 ≤ v ∧ v ≤ (ty_cut c a b).2.2) := by
  cases c
  · have h : u = v := h
    subst h
    refine ⟨⟨?_, ?_⟩, ⟨?_, ?_⟩⟩ <;> show _ ≤ _ <;> simp only [ty_cut] <;> omega
  · have h : u ≠ v := h
    show ((if b.1 = b.2 then _ else _ : (Int × Int) × (Int × Int)).1.1 ≤ u ∧ _) ∧ _
    unfold ty_cut
    dsimp only
    split
    · refine ⟨⟨?_, ?_⟩, h3, h4⟩
      · show (if a.1 = b.1 then a.1 + 1 else a.1) ≤ u
        split <;> omega
      · show u ≤ (if a.2 = b.1 then a.2 - 1 else a.2)
        split <;> omega
    · exact ⟨⟨h1, h2⟩, h3, h4⟩
  · have h : u < v := h
    refine ⟨⟨?_, ?_⟩, ⟨?_, ?_⟩⟩ <;> show _ ≤ _ <;> simp only [ty_cut] <;> omega
  · have h : v ≤ u := h
    refine ⟨⟨?_, ?_⟩, ⟨?_, ?_⟩⟩ <;> show _ ≤ _ <;> simp only [ty_cut] <;> omega
  · have h : v < u := h
    refine ⟨⟨?_, ?_⟩, ⟨?_, ?_⟩⟩ <;> show _ ≤ _ <;> simp only [ty_cut] <;> omega
  · have h : u ≤ v := h
    refine ⟨⟨?_, ?_⟩, ⟨?_, ?_⟩⟩ <;> show _ ≤ _ <;> simp only [ty_cut] <;> omega
theorem ty_neg_ok {c : ClassFile.Cond} {u v : Int} (h : ¬ ty_hI c u v) : ty_hI (ty_neg c) u v := by
  cases c <;> simp only [ty_hI, ty_neg] at h ⊢ <;> omega
theorem ty_br_ok {c : ClassFile.Cond} {ia ib : ty_I} {a b : Int × Int} {u v : Int32} (h : ty_hI c u.toInt v.toInt) (h1 : a.1 ≤ u.toInt) (h2 : u.toInt ≤ a.2) (h3 : b.1 ≤ v.toInt) (h4 : v.toInt ≤ b.2) (hia : ty_inf pg ls (.int u) ia) (hib : ty_inf pg ls (.int v) ib) (hl : ty_loc σ g pg ls L) : ∃ L', ty_br c L ia ib a b = some L' ∧ ty_loc σ g pg ls L' := by
  obtain ⟨⟨c1, c2⟩, c3, c4⟩ := ty_cut_ok h h1 h2 h3 h4
  have q1 := ty_loc_rf hib c3 c4 (ty_loc_rf hia c1 c2 hl)
  unfold ty_br
  dsimp only
  rw [if_pos ⟨by omega, by omega⟩]
  refine ⟨_, rfl, ?_⟩
  split
  · rename_i e
    obtain ⟨rfl, rfl⟩ := e
    refine ty_loc_nz hia (fun w => ?_) q1
    have h : u.toInt ≠ v.toInt := h
    rw [w] at h
    have z : (0 : Int32).toInt = 0 := rfl
    have h3 : (0 : Int) ≤ v.toInt := h3
    have h4 : v.toInt ≤ 0 := h4
    omega
  · split
    · rename_i e
      obtain ⟨rfl, rfl⟩ := e
      refine ty_loc_nm hia (fun w => ?_) q1
      have h : u.toInt ≠ v.toInt := h
      rw [w] at h
      have z : (-1 : Int32).toInt = -1 := rfl
      have h3 : (-1 : Int) ≤ v.toInt := h3
      have h4 : v.toInt ≤ -1 := h4
      omega
    · exact q1
/-! the heap changes -/
theorem ty_inf_pg {i : ty_I} {v : Value} (hp : ∀ z, pg z → pg' z) (h : ty_inf pg ls v i) : ty_inf pg' ls v i := by
  obtain ⟨a, b, c, d⟩ := i
  unfold ty_inf at h ⊢
  dsimp only at h ⊢
  split at h <;> try exact h
  · obtain ⟨b', z, h1, h2, h3⟩ := h; exact ⟨b', z, h1, h2, fun q => ⟨(h3 q).1, (h3 q).2.1, hp _ (h3 q).2.2⟩⟩
  · obtain ⟨b', z, h1, h2, h3⟩ := h; exact ⟨b', z, h1, h2, fun q => hp _ (h3 q)⟩
theorem ty_loc_mv (hs : ∀ a k, σ a = some k → σ' a = some k) (hp : ∀ z, pg z → pg' z) (hl : ty_loc σ g pg ls L) : ty_loc σ' g pg' ls L := fun q hq => by
  obtain ⟨v, h1, h2⟩ := hl q hq
  exact ⟨v, h1, ty_has_pg hp (ty_has_mono hs h2)⟩
theorem ty_stk_mv (hs : ∀ a k, σ a = some k → σ' a = some k) (hp : ∀ z, pg z → pg' z) (h : ty_stk σ g pg ls st es) : ty_stk σ' g pg' ls st es := by
  induction es generalizing st with
  | nil => rw [ty_stk_n h]; trivial
  | cons e es ih =>
    obtain ⟨v, vs, rfl, h1, h2⟩ := ty_stk_c h
    exact ⟨⟨ty_has_pg hp (ty_has_mono hs h1.1), ty_inf_pg hp h1.2⟩, ih h2⟩
theorem ty_loc_wk (hs : ∀ a k, σ a = some k → σ' a = some k) (hl : ty_loc σ g pg ls L) : ty_loc σ' g pg' ls (ty_wL L) := fun q hq => by
  obtain ⟨r, h1, rfl⟩ := List.mem_map.mp hq
  obtain ⟨v, h2, h3⟩ := hl r h1
  exact ⟨v, h2, ty_wk_ok (ty_has_mono hs h3)⟩
theorem ty_stk_wk (hs : ∀ a k, σ a = some k → σ' a = some k) (h : ty_stk σ g pg ls st es) : ty_stk σ' g pg' ls st (ty_wS es) := by
  induction es generalizing st with
  | nil => rw [ty_stk_n h]; trivial
  | cons e es ih =>
    obtain ⟨v, vs, rfl, h1, h2⟩ := ty_stk_c h
    refine ⟨⟨ty_wk_ok (ty_has_mono hs h1.1), ?_⟩, ih h2⟩
    show ty_inf pg' ls v (if e.2.1 = 3 ∨ e.2.1 = 4 then ty_i0 else e.2)
    split
    · trivial
    · rename_i q
      have h3 := h1.2
      obtain ⟨t, a, b, c, d⟩ := e
      unfold ty_inf at h3 ⊢
      dsimp only at h3 q ⊢
      split at h3 <;> first | exact h3 | (exfalso; omega)
end MV
