/-! what is made, calls, ends, branches, locals -/
theorem ty_dvs_ok {fs : List Value} {ts : List ty_T} {σ : ty_K} (h : ty_dvs fs ts = true) : ∀ (i : Nat) (t : ty_T), ts[i]? = some t → ∃ v : Value, fs[i]? = some v ∧ ty_has σ 0 ty_no v t := by
  induction ts generalizing fs with
  | nil => intro i t hi; simp at hi
  | cons t0 ts ih =>
    cases fs with
    | nil => cases h
    | cons v vs =>
      simp only [ty_dvs, Bool.and_eq_true] at h
      intro i t hi
      cases i with
      | zero =>
        have e : t0 = t := by simpa using hi
        subst e
        refine ⟨v, rfl, ?_⟩
        have h1 := h.1
        obtain ⟨n, lo, hi'⟩ := t0
        unfold ty_dv at h1
        split at h1
        · rename_i z _ e0
          dsimp only at e0
          subst e0
          simp only [Bool.and_eq_true, decide_eq_true_eq] at h1
          obtain ⟨⟨rfl, q1⟩, q2⟩ := h1
          exact ⟨0, rfl, q1, q2⟩
        · rename_i e0
          dsimp only at e0
          subst e0
          exact ⟨_, rfl⟩
        · rename_i _ e0
          dsimp only at e0
          subst e0
          exact Or.inl rfl
        · cases h1
      | succ i => exact ih h.2 i t (by simpa using hi)
theorem ty_stk_app {σ : ty_K} {g : Int} {pg : Int32 → Prop} {ls : Array Slot} {a b : List Value} {c d : List ty_E} (h1 : ty_stk σ g pg ls a c) (h2 : ty_stk σ g pg ls b d) : ty_stk σ g pg ls (a ++ b) (c ++ d) := by
  induction c generalizing a with
  | nil => rw [ty_stk_n h1]; exact h2
  | cons e es ih =>
    obtain ⟨v, vs, rfl, h3, h4⟩ := ty_stk_c h1
    exact ⟨h3, ih h4⟩
theorem ty_stk_rev {σ : ty_K} {g : Int} {pg : Int32 → Prop} {ls : Array Slot} {a : List Value} {c : List ty_E} (h : ty_stk σ g pg ls a c) : ty_stk σ g pg ls a.reverse c.reverse := by
  induction c generalizing a with
  | nil => rw [ty_stk_n h]; trivial
  | cons e es ih =>
    obtain ⟨v, vs, rfl, h3, h4⟩ := ty_stk_c h
    rw [List.reverse_cons, List.reverse_cons]
    exact ty_stk_app (ih h4) ⟨h3, trivial⟩
theorem ty_stk_td {σ : ty_K} {g : Int} {pg : Int32 → Prop} {ls : Array Slot} {a : List Value} {c : List ty_E} (n : Nat) (h : ty_stk σ g pg ls a c) : ty_stk σ g pg ls (a.take n) (c.take n) ∧ ty_stk σ g pg ls (a.drop n) (c.drop n) := by
  induction n generalizing a c with
  | zero => exact ⟨by simp [ty_stk], by simpa using h⟩
  | succ n ih =>
    cases c with
    | nil => rw [ty_stk_n h]; exact ⟨by simp [ty_stk], by simp [ty_stk]⟩
    | cons e es =>
      obtain ⟨v, vs, rfl, h3, h4⟩ := ty_stk_c h
      exact ⟨⟨h3, (ih h4).1⟩, (ih h4).2⟩
theorem ty_stk_get {σ : ty_K} {g : Int} {pg : Int32 → Prop} {ls : Array Slot} {a : List Value} {c : List ty_E} {i : Nat} {e : ty_E} (h : ty_stk σ g pg ls a c) (hi : c[i]? = some e) : ∃ v : Value, a[i]? = some v ∧ ty_ent σ g pg ls v e := by
  induction c generalizing a i with
  | nil => simp at hi
  | cons e0 es ih =>
    obtain ⟨v, vs, rfl, h3, h4⟩ := ty_stk_c h
    cases i with
    | zero =>
      have q : e0 = e := by simpa using hi
      subst q
      exact ⟨v, rfl, h3⟩
    | succ i =>
      have q := ih (a := vs) (i := i) h4 (by simpa using hi)
      simpa using q
theorem ty_args_ok {σ : ty_K} {g : Int} {pg : Int32 → Prop} {ls : Array Slot} {a : List Value} {c : List ty_E} {ts : List ty_T} (h : ty_stk σ g pg ls a c) (ha : ty_args c ts = true) : ty_av σ pg a ts := by
  induction c generalizing a ts with
  | nil =>
    rw [ty_stk_n h]
    cases ts with
    | nil => trivial
    | cons t ts => cases ha
  | cons e es ih =>
    obtain ⟨v, vs, rfl, h3, h4⟩ := ty_stk_c h
    cases ts with
    | nil => cases ha
    | cons t ts =>
      simp only [ty_args, Bool.and_eq_true] at ha
      exact ⟨ty_sub_ok ha.1 h3.1, ih h4 ha.2⟩
theorem ty_cat_ok {σ : ty_K} {g : Int} {pg : Int32 → Prop} {ls : Array Slot} {a : List Value} {c : List ty_E} {w : Nat} (h : ty_stk σ g pg ls a c) (hc : ty_cat c = some w) : (a.map fun v => v.category).sum = w := by
  induction c generalizing a w with
  | nil => rw [ty_stk_n h]; cases hc; rfl
  | cons e es ih =>
    obtain ⟨v, vs, rfl, h3, h4⟩ := ty_stk_c h
    unfold ty_cat at hc
    split at hc
    · rename_i n hn
      have h5 := ih h4 hn
      split at hc
      · rename_i q
        cases hc
        have := ty_c1_ok q h3.1
        simp only [List.map_cons, List.sum_cons]
        omega
      · split at hc
        · rename_i q
          cases hc
          have := ty_c2 q h3.1
          simp only [List.map_cons, List.sum_cons]
          omega
        · cases hc
    · cases hc
theorem ty_ri_ok {σ : ty_K} {g : Int} {pg pg' : Int32 → Prop} {ls : Array Slot} {a : List Value} {c : List ty_E} {i : ty_I} {v : Value} (h : ty_stk σ g pg ls a c) (hr : ty_rr pg' a (some v) i) : ty_inf pg' ls v (ty_ri i c) := by
  obtain ⟨i1, i2, i3, i4⟩ := i
  unfold ty_ri
  split
  · rename_i hi
    split
    · rename_i e he
      split
      · rename_i hq
        obtain ⟨w, h1, h2⟩ := ty_stk_get h he
        obtain ⟨et, e1, e2, e3, e4⟩ := e
        dsimp only at hq
        subst hq
        have h3 : ls[e2]? = some (.val w) := h2.2
        dsimp only at hi
        rcases hi with rfl | rfl
        · obtain ⟨b, z, r1, r2, r3⟩ := hr
          cases r1
          rw [h1] at r2
          cases r2
          exact ⟨b, z, rfl, h3, r3⟩
        · obtain ⟨b, z, r1, r2, r3⟩ := hr
          cases r1
          rw [h1] at r2
          cases r2
          exact ⟨b, z, rfl, h3, r3⟩
      · trivial
    · trivial
  · trivial
section CL
variable {x : gx_T} {cl : List vw_C} {cc : ByteArray} {nL : Nat} {tys : List (ClassId × FieldType)} {Ts : List Cond} {own : String} {KT : List ty_D} {INV : ty_K → mh_M → Prop} {pgf : ty_K → mh_M → Int32 → Prop} {mods PS : List (Nat × Nat)} {news : List Nat} {kp : Nat} {σ0 : ty_K} {M0 : mh_M} {g : Int}
variable {fT pT : List (Nat × Nat × Nat × FieldType)} {cT : List (Nat × ty_C)} {nT : List (Nat × Nat × Nat × Nat × List Value)} {aT : List (Nat × Nat)} {nc ns RC RS : Nat} {rT : Option ty_T} {rF : Option FieldType} {post : Option Value → mh_M → Prop}
variable {s : ty_S} {l : List ty_S} {idx pc : Nat}
theorem ty_made {σ : ty_K} {M : mh_M} {a k : Nat} {d : ty_D} {e : va_E} (hsI : ty_sI PS INV) (hsP : ty_sP kp pgf) (hH : ty_H tys KT σ M) (hI : INV σ M) (hF : ty_FM mods news σ0 M0 σ M) (ha : a ∉ M.1) (hd : KT[k]? = some d) (he : ty_ok tys (ty_new σ a k) d e) (hm : ty_mk PS news kp k = true) :
    ty_H tys KT (ty_new σ a k) (mh_new M a e) ∧ INV (ty_new σ a k) (mh_new M a e) ∧ ty_FM mods news σ0 M0 (ty_new σ a k) (mh_new M a e) ∧ (∀ z, pgf σ M z → pgf (ty_new σ a k) (mh_new M a e) z) ∧ (∀ b k2, σ b = some k2 → ty_new σ a k b = some k2) := by
  unfold ty_mk at hm
  simp only [Bool.and_eq_true, decide_eq_true_eq, bne_iff_ne, ne_eq, List.all_eq_true] at hm
  obtain ⟨⟨m1, m2⟩, m3⟩ := hm
  exact ⟨ty_H_new hH ha hd he, hsI _ _ _ _ (ty_F_new hH ha (fun i hi => m2 _ hi rfl)) hI, hF.tr (ty_F_new hH ha m1), hsP _ _ _ _ (ty_F_new hH ha m3), ty_new_le hH ha⟩
theorem ty_newk (σ : ty_K) (a k : Nat) : ty_new σ a k a = some k := if_pos rfl
theorem sh_new_ok (hsI : ty_sI PS INV) (hsP : ty_sP kp pgf) (hRC : RC ≤ (gx_R x).cells) (hRS : RS ≤ (gx_R x).slots) (hn : ∀ q ∈ nT, gR_new x cl cc q.1 q.2.2.1 q.2.2.2.1 q.2.2.2.2) (hd : decode cc s.1 = .ok (.new idx, 3)) (h : sh_new KT nT PS news kp RC RS idx s = some l) (hJ : ∀ t ∈ l, ty_J x cl nL tys KT INV pgf mods news σ0 M0 g t) : ty_J x cl nL tys KT INV pgf mods news σ0 M0 g s := by
  unfold sh_new at h
  split at h
  split at h
  · rename_i pc L r n k _ i0 kk ci N fs hfi
    have h3 := List.mem_of_find?_eq_some hfi
    have h4 := List.find?_some hfi
    simp only [beq_iff_eq] at h4
    split at h
    · rename_i _ cj ts hkd
      split at h
      · rename_i hc
        obtain ⟨e1, hc1, hc2, hc3, hc4⟩ := hc
        cases h
        intro σ M ls st hs hw hH hI hF hL hS
        have h5 := hn _ h3
        subst e1
        rw [h4] at h5
        refine h5 _ ls st M _ _ hd (Nat.le_trans hc3 hRC) (Nat.le_trans hc4 hRS) (fun q hq => ?_)
        have hok : ty_ok tys (ty_new σ q kk) (0, ci, ts) (.inr (ci, fs)) := ⟨fun _ => ⟨_, rfl, ty_dvs_ok hc1⟩, fun j hj => absurd hj (by show ¬ (0 = 1 + j); omega), fun j hj => absurd hj (by show ¬ (0 = 20 + j); omega)⟩
        obtain ⟨r1, r2, r3, r4, r5⟩ := ty_made hsI hsP hH hI hF hq hkd hok hc2
        refine hJ _ (List.mem_singleton.mpr rfl) _ _ ls (.ref q :: st) hs hw r1 r2 r3 (ty_loc_mv r5 r4 hL) ⟨⟨⟨q, rfl, ?_⟩, trivial⟩, ty_stk_mv r5 r4 hS⟩
        exact ty_newk _ _ _
      · cases h
    · cases h
  · cases h
theorem sh_nai_ok (hsI : ty_sI PS INV) (hsP : ty_sP kp pgf) (ht : ty_tys tys) (hRC : RC ≤ (gx_R x).cells) (hRS : RS ≤ (gx_R x).slots) {at_ : ArrayType} {c0 : Nat} (hc0 : c0 = 1 ∨ c0 = 2 ∨ c0 = 3) (hn : ∀ cA ft, tys[c0 - 1]? = some (cA, ft) → gR_nai x cl cc at_ cA) (hd : decode cc s.1 = .ok (.newarray at_, 2)) (h : sh_nai KT aT PS news kp RC RS c0 s = some l) (hJ : ∀ t ∈ l, ty_J x cl nL tys KT INV pgf mods news σ0 M0 g t) : ty_J x cl nL tys KT INV pgf mods news σ0 M0 g s := by
  unfold sh_nai at h
  split at h
  · split at h
    · rename_i pc L e r n k _ i0 kk hfi
      split at h
      · rename_i _ c N t hkd
        split at h
        · rename_i hc
          obtain ⟨e0, hc1, hc2, hc3, hc4, hc5, hc6, hc7⟩ := hc
          subst e0
          cases h
          intro σ M ls st hs hw hH hI hF hL hS
          obtain ⟨v, vs, rfl, hv, hvs⟩ := ty_stk_c hS
          obtain ⟨z, rfl, hz1, hz2⟩ := ty_rng_ok hc1 hv.1
          have hex : ∃ cA ft, tys[c - 1]? = some (cA, ft) := by
            obtain ⟨cB, cI, cZ, cJ, r, rfl⟩ := ht
            rcases hc0 with rfl | rfl | rfl
            · exact ⟨_, _, rfl⟩
            · exact ⟨_, _, rfl⟩
            · exact ⟨_, _, rfl⟩
          obtain ⟨cA, ft, htc⟩ := hex
          refine hn cA ft htc _ ls vs M _ _ z _ hd (by dsimp only at hz1 hz2; omega) hc2 (Nat.le_trans hc6 hRC) (Nat.le_trans hc7 hRS) (fun q hq => ?_)
          have hok : ty_ok tys (ty_new σ q kk) (c, N, [t]) (.inl (cA, N, .inl (fun _ => 0))) := ty_ok_ar (by omega) (by omega) htc (fun i hi => ty_plain_ok (g := 0) (pg := ty_no) hc4 (ty_sub_ok (g := 0) hc3 ⟨0, rfl, Int.le_refl _, Int.le_refl _⟩))
          obtain ⟨r1, r2, r3, r4, r5⟩ := ty_made hsI hsP hH hI hF hq hkd hok hc5
          refine hJ _ (List.mem_singleton.mpr rfl) _ _ ls (.ref q :: vs) hs hw r1 r2 r3 (ty_loc_mv r5 r4 hL) ⟨⟨⟨q, rfl, ?_⟩, trivial⟩, ty_stk_mv r5 r4 hvs⟩
          exact ty_newk _ _ _
        · cases h
      · cases h
    · cases h
  · cases h
theorem sh_call_ok (hsP : ty_sP kp pgf) (hRC : RC ≤ (gx_R x).cells) (hRS : RS ≤ (gx_R x).slots) (hc : ∀ q ∈ cT, gR_call x cl cc nL tys KT INV INV pgf q.1 q.2) {i : Instr} (hi : ty_ky i idx) (hd : decode cc s.1 = .ok (i, 3)) (h : sh_call cT mods news kp RC RS idx s = some l) (hJ : ∀ t ∈ l, ty_J x cl nL tys KT INV pgf mods news σ0 M0 g t) : ty_J x cl nL tys KT INV pgf mods news σ0 M0 g s := by
  unfold sh_call at h
  split at h
  split at h
  · rename_i pc L es n k _ i0 as_ rt md nw mc ms inf hfi
    have h3 := List.mem_of_find?_eq_some hfi
    have h4 := List.find?_some hfi
    simp only [Bool.and_eq_true, beq_iff_eq] at h4
    obtain ⟨rfl, ha⟩ := h4
    dsimp only at h
    split at h
    · rename_i w hw8
      split at h
      · rename_i hq
        obtain ⟨q1, q2, q3, q4, q5, q6, q7⟩ := hq
        cases h
        intro σ M ls st hs hw hH hI hF hL hS
        obtain ⟨t1, t2⟩ := ty_stk_td as_.length hS
        have t3 := ty_stk_rev t1
        have hst : st = ((st.take as_.length).reverse).reverse ++ st.drop as_.length := by rw [List.reverse_reverse, List.take_append_drop]
        rw [hst]
        refine hc _ h3 _ ls i _ _ M σ _ _ hd hi hs (ty_args_ok t3 ha) hH hI (by rw [ty_cat_ok t2 hw8]; exact q1) (Nat.le_trans q4 hRC) (Nat.le_trans q5 hRS) (fun v M' σ' f1 f2 f3 f4 f5 => ?_)
        have hF' : ty_FM mods news σ0 M0 σ' M' := hF.tr (f1.mono (fun k i hk hm => hk (of_decide_eq_true (List.all_eq_true.mp q2 (k, i) hm))) (fun k hk => of_decide_eq_true (List.all_eq_true.mp q3 k hk)))
        have key : ∀ (L1 : ty_L) (r1 : List ty_E), ty_loc σ' g (pgf σ' M') ls L1 → ty_stk σ' g (pgf σ' M') ls (st.drop as_.length) r1 → (∀ t ∈ [((pc + 3, L1, ty_psh rt (ty_ri inf (es.take as_.length).reverse) r1, n + mc, k + ms) : ty_S)], ty_J x cl nL tys KT INV pgf mods news σ0 M0 g t) → gG x cl (pc + 3) ls (v.toList ++ st.drop as_.length) M' (n + mc) (k + ms) := by
          intro L1 r1 g1 g2 hJ
          cases rt with
          | none =>
            have f4 : v = none := f4
            subst f4
            exact hJ _ (List.mem_singleton.mpr rfl) σ' M' ls _ hs hw f2 f3 hF' g1 g2
          | some t =>
            obtain ⟨u, rfl, hu⟩ := f4
            exact hJ _ (List.mem_singleton.mpr rfl) σ' M' ls (u :: st.drop as_.length) hs hw f2 f3 hF' g1 ⟨⟨ty_plain_ok q7 hu, ty_ri_ok t3 f5⟩, g2⟩
        cases hpk : md.all (fun q => q.1 != kp) with
        | true =>
          rw [hpk] at hJ
          have hp := hsP σ M σ' M' (f1.mono (fun k i hk hm => by
            have := List.all_eq_true.mp hpk _ hm
            simp only [bne_iff_ne, ne_eq] at this
            exact this hk) (fun k hk => by
            have := List.all_eq_true.mp q6 _ hk
            simpa using this))
          exact key L (es.drop as_.length) (ty_loc_mv f1.kinds hp hL) (ty_stk_mv f1.kinds hp t2) hJ
        | false =>
          rw [hpk] at hJ
          exact key (ty_wL L) (ty_wS (es.drop as_.length)) (ty_loc_wk f1.kinds hL) (ty_stk_wk f1.kinds t2) hJ
      · cases h
    · cases h
  · cases h
end CL
