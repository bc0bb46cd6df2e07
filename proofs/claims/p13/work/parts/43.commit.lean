/-! KnowDiskModel.commit -/
section SCG
variable {x : gx_T} {cl : List vw_C} {cc : ByteArray} {nL : Nat} {tys : List (ClassId × FieldType)} {KT : List ty_D} {INV INV2 : ty_K → mh_M → Prop} {pgf : ty_K → mh_M → Int32 → Prop} {mods : List (Nat × Nat)} {news : List Nat} {σ0 : ty_K} {M0 : mh_M} {key : Nat} {C : ty_C} {g : Int}
theorem ty_av_og {σ : ty_K} {g : Int} {pg : Int32 → Prop} {ls : Array Slot} {a : List Value} {ts us : List ty_T} (hp : (ts.zip us).all (fun t => ty_sub t.1 t.2) = true) (hn : ts.length = us.length) (h : ty_stk σ g pg ls a (ts.map (fun t => (t, ty_i0)))) : ty_av σ pg a us := by
  induction ts generalizing a us with
  | nil => cases us with
    | nil => rw [ty_stk_n h]; trivial
    | cons u us => cases hn
  | cons t ts ih => cases us with
    | nil => cases hn
    | cons u us =>
      obtain ⟨v, vs, rfl, h1, h2⟩ := ty_stk_c h
      simp only [List.zip_cons_cons, List.all_cons, Bool.and_eq_true] at hp
      exact ⟨ty_sub_ok hp.1 h1.1, ih hp.2 (by simpa using hn) h2⟩
/-- the same for one ghost; the stack's types may be sharper than the contract's -/
theorem ty_spcg (hc : gR_call x cl cc nL tys KT INV INV2 pgf key C) {i : Instr} (hi : ty_ky i key) {pc n k w : Nat} {L : ty_L} {rs as_ : List ty_T} (hd : decode cc pc = .ok (i, 3)) (hal : as_.length = C.1.length) (hst : (as_.zip C.1).all (fun t => ty_sub t.1 t.2) = true) (hw8 : ty_cat (rs.map (fun t => (t, ty_i0))) = some w) (h8 : w ≤ 8) (hmd : C.2.2.1.all (fun q => decide (q ∈ mods)) = true) (hnw : C.2.2.2.1.all (fun q => decide (q ∈ news)) = true) (hn : n + C.2.2.2.2.1 ≤ (gx_R x).cells) (hk : k + C.2.2.2.2.2.1 ≤ (gx_R x).slots) (hrt : ty_prt C.2.1 = true)
    (J2 : ty_J x cl nL tys KT INV2 pgf mods news σ0 M0 g (pc + 3, ty_wL L, ty_psh C.2.1 ty_i0 (ty_wS (rs.map (fun t => (t, ty_i0)))), n + C.2.2.2.2.1, k + C.2.2.2.2.2.1)) : ty_J x cl nL tys KT INV pgf mods news σ0 M0 g (ty_s0 (pc, L, as_.reverse ++ rs, n, k)) := by
  intro σ M ls st hs hw hH hI hF hL hS
  have hS : ty_stk σ g (pgf σ M) ls st ((as_.reverse ++ rs).map (fun t => (t, ty_i0))) := hS
  rw [List.map_append] at hS
  obtain ⟨t1, t2⟩ := ty_stk_td as_.length hS
  have e1 : (as_.reverse.map (fun t => (t, ty_i0)) ++ rs.map (fun t => (t, ty_i0))).take as_.length = as_.reverse.map (fun t => (t, ty_i0)) := by
    rw [List.take_append_of_le_length (by simp)]
    exact List.take_of_length_le (by simp)
  have e2 : (as_.reverse.map (fun t => (t, ty_i0)) ++ rs.map (fun t => (t, ty_i0))).drop as_.length = rs.map (fun t => (t, ty_i0)) := by
    rw [List.drop_append_of_le_length (by simp), List.drop_of_length_le (by simp)]
    rfl
  rw [e1] at t1
  rw [e2] at t2
  have t3 := ty_stk_rev t1
  rw [← List.map_reverse, List.reverse_reverse] at t3
  have hs2 : st = ((st.take as_.length).reverse).reverse ++ st.drop as_.length := by rw [List.reverse_reverse, List.take_append_drop]
  show gG x cl pc ls st M n k
  rw [hs2]
  refine hc _ ls i _ _ M σ _ _ hd hi hs (ty_av_og hst hal t3) hH hI (by rw [ty_cat_ok t2 hw8]; exact h8) hn hk (fun v M' σ' f1 f2 f3 f4 f5 => ?_)
  have hF' : ty_FM mods news σ0 M0 σ' M' := hF.tr (f1.mono (fun k i hk hm => hk (of_decide_eq_true (List.all_eq_true.mp hmd (k, i) hm))) (fun k hk => of_decide_eq_true (List.all_eq_true.mp hnw k hk)))
  have hL' : ty_loc σ' g (pgf σ' M') ls (ty_wL L) := ty_loc_wk f1.kinds hL
  have hS' := ty_stk_wk (pg' := pgf σ' M') f1.kinds t2
  have J2 := J2 σ' M' ls (v.toList ++ st.drop as_.length) hs hw f2 f3 hF' hL'
  cases hrT : C.2.1 with
  | none =>
    rw [hrT] at f4 J2
    have f4 : v = none := f4
    subst f4
    exact J2 hS'
  | some t =>
    rw [hrT] at f4 J2 hrt
    obtain ⟨u, rfl, hu⟩ := f4
    exact J2 ⟨⟨ty_plain_ok hrt hu, trivial⟩, hS'⟩
end SCG
/-- sector g is laid -/
def pLg (g : Nat) (σ : ty_K) (M : mh_M) : Prop := ∃ la, pArr σ M 16 64 la ∧ la g ≠ 0
def pRl (e t g : Nat) (σ : ty_K) (M : mh_M) : Prop := pR e t σ M ∨ (pR (e + 1) t σ M ∧ pLg g σ M)
theorem pR_un {e t g : Nat} {σ : ty_K} {M : mh_M} {a : Nat} {cA : ClassId} {N : Nat} {f : Nat → Int32} {w : Int32} (h : pR (e + 1) t σ M) (hl : pLg g σ M) (hk : σ a = some 16) (hat : M.2 a = .inl (cA, N, .inl f)) (hg : g < 64) (hw : w = 0) : pR e t σ (mh_set M a (.inl (cA, N, .inl (upd f g w)))) := by
  obtain ⟨fi, be, h0, ne, dk, la, ta, by_, h1, h2, h3, h4, h5, h6⟩ := h
  obtain ⟨la', l1, l2⟩ := hl
  obtain ⟨e1, e2⟩ := pArr_eq h3 hk hat
  obtain ⟨e3, -⟩ := pArr_eq l1 hk hat
  subst e2
  rw [← e3] at l2
  rw [← e1] at h6
  refine ⟨fi, be, h0, ne, dk, upd f g w, ta, by_, pRs_set hk (by decide) h1, pArr_set hk (by decide) h2, pArr_upd (fun b hb => h0 16 (by decide) b a hb hk), pArr_set hk (by decide) h4, pArr_set hk (by decide) h5, h6.1, ?_, h6.2.2⟩
  have hc := cntL_on (f := f) (k := g) (w := w) 64 hg
  rw [if_pos hw, if_neg l2] at hc
  have := h6.2.1
  omega
theorem pLg_set {g : Nat} {σ : ty_K} {M : mh_M} {a k : Nat} {z : va_E} (hk : σ a = some k) (hn : 16 ≠ k) (h : pLg g σ M) : pLg g σ (mh_set M a z) := by
  obtain ⟨la, h1, h2⟩ := h
  exact ⟨la, pArr_set hk hn h1, h2⟩
theorem pRl_s (e t g : Nat) : ty_sI pPS (pRl e t g) := by
  intro σ M σ' M' hF h
  rcases h with h | ⟨h, la, l1, l2⟩
  · exact Or.inl (pR_s e t σ M σ' M' hF h)
  · exact Or.inr ⟨pR_s (e + 1) t σ M σ' M' hF h, la, pArr_F hF (by decide) (fun q => q 0 (by decide)) l1, l2⟩
theorem pRl_S (e t g : Nat) (tys : List (ClassId × FieldType)) : ty_sS tys pKT pSW (pRl e t g) := by
  intro q hq σ M a cA N f i w hH hI hk hat hin i1 i2 w1 w2
  rcases hI with h | ⟨h, hl⟩
  · exact Or.inl (pR_S e t tys q hq σ M a cA N f i w hH h hk hat hin i1 i2 w1 w2)
  · have hS := pR_S (e + 1) t tys q hq σ M a cA N f i w hH h hk hat hin i1 i2 w1 w2
    unfold pSW at hq
    simp only [List.mem_cons, List.not_mem_nil, or_false] at hq
    rcases hq with rfl | rfl | rfl | rfl | rfl | rfl
    · have hk : σ a = some 16 := hk
      have w0 : w = 0 := Int32.toInt_inj.mp (by have : (0 : Int) ≤ w.toInt := w1; have : w.toInt ≤ 0 := w2; rw [show (0 : Int32).toInt = 0 from rfl]; omega)
      have i2 : i.toInt ≤ 63 := i2
      have ic : i.toNatClampNeg = i.toInt.toNat := rfl
      by_cases eg : i.toNatClampNeg = g
      · rw [eg]
        exact Or.inl (pR_un h hl hk hat.2 (by omega) w0)
      · refine Or.inr ⟨hS, ?_⟩
        obtain ⟨la, l1, l2⟩ := hl
        obtain ⟨e1, e2⟩ := pArr_eq l1 hk hat.2
        subst e1; subst e2
        obtain ⟨fi, be, hu, -⟩ := h
        exact ⟨_, pArr_upd (fun b hb => hu 16 (by decide) b a hb hk), by rw [pk_un (fun q => eg q.symm)]; exact l2⟩
    all_goals exact Or.inr ⟨hS, pLg_set hk (by decide) hl⟩
theorem pRl_u {e t g : Nat} : ∀ σ M, pRl e t g σ M → pUq σ := fun σ M h => by
  rcases h with h | h
  · exact pR_u σ M h
  · exact pR_u σ M h.1
set_option maxRecDepth 100000 in
set_option maxHeartbeats 4000000 in
theorem mt_X5_commit {l : Launch} {D : va_G} {tys : List (ClassId × FieldType)} {K : ty_K → mh_M → Prop} (ht : ty_tys tys) (hK : ty_sI pPSC K) (e t : Nat) (he : e ≤ 1197) (htt : t ≤ 1197) : ty_Met l D vwCl tys pKT (pIK (pR (e + 1) t) K) (pIK (pR (e + 2) (t + 1)) K) pPG yX5_commit cX5_commit 7 (some .int) 2 46 ct_X5_commit := by
  refine ty_of (by decide +kernel) (by decide +kernel) (by decide +kernel) ?_
  intro x av M0 σ0 ls0 post hx hl hnm hR hD hav hH0 hI0 hls hp hr
  have hG0 := pI_G ht hK e t
  have hG1 := pI_G ht hK (e + 1) t
  have hG2 := pI_G ht hK (e + 2) (t + 1)
  have P1 := pv_X5_commit hG1 hx hl hnm hR hD
  have P0 := pv_X5_commit hG0 hx hl hnm hR hD
  have P2 := pv_X5_commit hG2 hx hl hnm hR hD
  have E1 := ty_env hG1 hx hR hr (fun v M σ h1 h2 h3 h4 => hp v M σ h1 h2 ⟨pR_mono (by omega) (by omega) h3.1, h3.2⟩ h4 trivial) pd_X5_commit P1
  have E0 := ty_env hG0 hx hR hr ty_pN pd_X5_commit P0 (σ0 := σ0) (M0 := M0)
  have E2 := ty_env hG2 hx hR hr (fun v M σ h1 h2 h3 h4 => hp v M σ h1 h2 h3 h4 trivial) pd_X5_commit P2
  have J264 := ty_seg E2 [] [] (fun h hh => absurd hh List.not_mem_nil) [] 40 (264, [(0, (2, 12, 0)), (1, (0, 1, 1000000)), (2, ty_f), (3, (1, 0, 0))], [], 0, 0) (by decide +kernel) (by decide +kernel)
  have J254 : ∀ g : Int, ty_J x vwCl 7 tys pKT (pIK (pR (e + 2) t) K) pPG ct_X5_commit.2.2.1 ct_X5_commit.2.2.2.1 σ0 M0 g (ty_s0 (254, [(0, (2, 12, 0)), (1, (0, 1, 1000000)), (2, ty_f), (3, (1, 0, 0))], [], 0, 0)) := by
    intro g σ M ls st hs hw hH hI hF hL hS
    rw [ty_stk_n hS]
    obtain ⟨⟨fi, be, hX⟩, hKI⟩ := id hI
    obtain ⟨w, h0, m, rfl, hm⟩ := hL (0, (2, 12, 0)) List.mem_cons_self
    have hm : σ m = some 12 := hm
    obtain ⟨hu, ne, dk, la, ta, by_, r1, r2, r3, r4, r5, r6⟩ := id hX
    obtain ⟨fs, hat, hfs⟩ := ty_obj hH hm (show pKT[12]? = some (0, 7, _) from rfl)
    obtain ⟨f11, f12, f16⟩ := pRs_fs r1 hm hat.2
    have hne := r6.2.2.1
    show gG x vwCl 254 ls [] M 0 0
    refine gG_sp hx (i := .aload_n 0) (len := 1) (by decide +kernel) (sp_al (j := 0) h0) ?_
    refine gG_sp hx (i := .dup) (len := 1) (by decide +kernel) rfl ?_
    refine P1.1 (64, 7, 16, .int) (by decide +kernel) 256 ls m fs _ _ M 0 0 (by decide +kernel) hat f16 ?_
    refine gG_sp hx (i := .iconst 1) (len := 1) (by decide +kernel) rfl ?_
    refine gG_sp hx (i := .iadd) (len := 1) (by decide +kernel) rfl ?_
    have ew : nI ne + Int32.ofInt 1 = nI (ne + 1) := by rw [lit1]; exact nI_1 ne
    show gG x vwCl 261 ls [.int (nI ne + Int32.ofInt 1), .ref m] M 0 0
    rw [ew]
    obtain ⟨hH1, hl1⟩ := ty_putH (f := 16) (v := .int (nI (ne + 1))) hH hm (show pKT[12]? = some (0, 7, _) from rfl) hat rfl ⟨_, rfl, by rw [nI_tn (by omega)]; show (0 : Int) ≤ _; omega, by rw [nI_tn (by omega)]; show _ ≤ (1198 : Int); omega⟩
    refine P1.2.1 (64, 7, 16, .int) (by decide +kernel) 261 ls m fs (.int (nI (ne + 1))) [] M 0 0 (by decide +kernel) hat hl1 rfl rfl ?_
    exact J264 g σ _ ls [] hs hw hH1 ⟨⟨fi, be, pRx_new hX hm hat.2 hl1 (by omega)⟩, pK_set hK hm (pK_no (by decide)) hKI⟩ (hF.tr (ty_F_set hm (fun i hi => ty_p_set hat.2 i (fun q => hi (by rw [q]; decide))))) (ty_loc_mv (fun _ _ h => h) (ty_wpg pPG_s hm (by decide)) hL) trivial
  have J251 := ty_spc (sc_X5_commit_155h (mt_X5_queue_h ht hK (e + 1) t (by omega)) hx hl hR hD) (Or.inl ⟨155, rfl, rfl⟩) (pc := 251) (n := 0) (k := 0) (w := 0) (L := [(0, (2, 12, 0)), (1, (0, 1, 1000000)), (2, ty_f), (3, (1, 0, 0))]) (rs := []) (mods := ct_X5_commit.2.2.1) (news := ct_X5_commit.2.2.2.1) (σ0 := σ0) (M0 := M0) (by decide +kernel) (by decide +kernel) rfl (by decide) (by decide +kernel) (by decide +kernel) (by rw [hR]; decide) (by rw [hR]; decide) (by decide +kernel) J254
  have J112 := ty_seg E1 [] _ (pcons J251 pnil) [(174, [(0, (2, 12, 0)), (1, (0, 1, 1000000)), (2, ty_f), (3, (1, 0, 0)), (5, ty_f), (6, (0, 0, 32))], 6, 32, 0, 0), (120, [(0, (2, 12, 0)), (1, (0, 1, 1000000)), (2, ty_f), (3, (1, 0, 0)), (5, ty_f), (6, (0, 2, 64))], 6, 64, 0, 0)].reverse 100 (112, [(0, (2, 12, 0)), (1, (0, 1, 1000000)), (2, ty_f)], [], 0, 0) (by decide +kernel) (by decide +kernel)
  have loop : ∀ (n : Nat) (g : Int), (64 - g).toNat < n → ty_J x vwCl 7 tys pKT (pIK (pR (e + 1) t) K) pPG ct_X5_commit.2.2.1 ct_X5_commit.2.2.2.1 σ0 M0 g (ty_s0 (46, [(0, (2, 12, 0)), (1, (0, 1, 1000000)), (2, ty_f), (3, (6, 2, 64))], [], 0, 0)) := by
    intro n
    induction n with
    | zero => intro g hg; omega
    | succ n ih =>
      intro g hg
      have next : ∀ (pc : Nat) (off : Int) (σ : ty_K) (M : mh_M) (ls : Array Slot) (st : List Value), decode cX5_commit 106 = .ok (.iinc 3 1, 3) → ls.size = 7 → lv_wf ls → ty_H tys pKT σ M → pIK (pR (e + 1) t) K σ M → ty_FM ct_X5_commit.2.2.1 ct_X5_commit.2.2.2.1 σ0 M0 σ M → ty_loc σ g (pPG σ M) ls [(0, (2, 12, 0)), (1, (0, 1, 1000000)), (2, ty_f), (3, (6, 2, 63))] → gG x vwCl 106 ls [] M 0 0 := by
        intro _ _ σ M ls _ d106 hs hw hH hI hF hL
        obtain ⟨w3, h3, z, rfl, z1, z2, z3⟩ := hL (3, (6, 2, 63)) (List.mem_cons_of_mem _ (List.mem_cons_of_mem _ (List.mem_cons_of_mem _ List.mem_cons_self)))
        have z1 : (2 : Int) ≤ z.toInt := z1
        have z2 : z.toInt ≤ 63 := z2
        obtain ⟨w0, h0, m, rfl, hm⟩ := hL (0, (2, 12, 0)) List.mem_cons_self
        obtain ⟨w1, h1, y1, rfl, a1, a2⟩ := hL (1, (0, 1, 1000000)) (List.mem_cons_of_mem _ List.mem_cons_self)
        obtain ⟨w2, h2, y2, rfl, b1, b2⟩ := hL (2, ty_f) (List.mem_cons_of_mem _ (List.mem_cons_of_mem _ List.mem_cons_self))
        refine gG_iinc hx hs hw (i := 3) (z := 1) (v := z) d106 h3 (fun ls' hp' => ?_)
        refine gG_goto hx (off := -63) (tgt := 46) (by decide +kernel) rfl ?_
        have ez : (z + Int32.ofInt 1).toInt = g + 1 := by rw [ty_addI z3 (show (Int32.ofInt 1).toInt = 1 from rfl) (by omega) (by omega)]
        refine ih (g + 1) (by omega) σ M ls' [] hp'.1 hp'.2.1 hH hI hF ?_ trivial
        intro q hq
        have hq : q ∈ ([(0, (2, 12, 0)), (1, (0, 1, 1000000)), (2, ty_f), (3, (6, 2, 64))] : ty_L) := hq
        simp only [List.mem_cons, List.not_mem_nil, or_false] at hq
        rcases hq with rfl | rfl | rfl | rfl
        · exact ⟨_, hp'.2.2.2 0 _ h0 (by omega) (fun q => by omega), m, rfl, hm⟩
        · exact ⟨_, hp'.2.2.2 1 _ h1 (by omega) (fun q => by omega), y1, rfl, a1, a2⟩
        · exact ⟨_, hp'.2.2.2 2 _ h2 (by omega) (fun q => absurd q.2 (by show ¬ (1 : Nat) = 2; omega)), y2, rfl, b1, b2⟩
        · exact ⟨_, hp'.2.2.1, _, rfl, by rw [ez]; show (2 : Int) ≤ _; omega, by rw [ez]; show _ ≤ (64 : Int); omega, ez⟩
      have J106 : ty_J x vwCl 7 tys pKT (pIK (pR (e + 1) t) K) pPG ct_X5_commit.2.2.1 ct_X5_commit.2.2.2.1 σ0 M0 g (ty_s0 (106, [(0, (2, 12, 0)), (1, (0, 1, 1000000)), (2, ty_f), (3, (6, 2, 63))], [], 0, 0)) := by
        intro σ M ls st hs hw hH hI hF hL hS
        rw [ty_stk_n hS]
        exact next 0 0 σ M ls [] (by decide +kernel) hs hw hH hI hF hL
      have J103 := ty_spcg (sc_X5_commit_155 (mt_X5_queue_o ht hK e t (by omega)) hx hl hR hD) (Or.inl ⟨155, rfl, rfl⟩) (pc := 103) (n := 0) (k := 0) (w := 0) (L := [(0, (2, 12, 0)), (1, (0, 1, 1000000)), (2, ty_f), (3, (6, 2, 63))]) (rs := []) (as_ := [(2, 12, 0), (2, 15, 0), (6, 2, 63), (6, 2, 63)]) (mods := ct_X5_commit.2.2.1) (news := ct_X5_commit.2.2.2.1) (σ0 := σ0) (M0 := M0) (by decide +kernel) rfl (by decide +kernel) rfl (by decide) (by decide +kernel) (by decide +kernel) (by rw [hR]; decide) (by rw [hR]; decide) (by decide +kernel) J106
      have J96 : ty_J x vwCl 7 tys pKT (pIK (pR e t) K) pPG ct_X5_commit.2.2.1 ct_X5_commit.2.2.2.1 σ0 M0 g (96, [(0, (2, 12, 0)), (1, (0, 1, 1000000)), (2, ty_f), (3, (6, 2, 63))], [], 0, 0) := ty_chk_ok E0 (pcons J103 pnil) pnil (fun h e => by cases e) 20 _ (by decide +kernel : ty_chk pKT fT_X5_commit pT_X5_commit cT_X5_commit kT_X5_commit lT_X5_commit nT_X5_commit [] ct_X5_commit.2.2.1 pPS pSW ct_X5_commit.2.2.2.1 17 7 0 0 0 0 ty_rN (some .int) pr_X5_commit [(103, [(0, (2, 12, 0)), (1, (0, 1, 1000000)), (2, ty_f), (3, (6, 2, 63))], ([(2, 12, 0), (2, 15, 0), (6, 2, 63), (6, 2, 63)] : List ty_T).reverse ++ [], 0, 0)] [] none 20 (96, [(0, (2, 12, 0)), (1, (0, 1, 1000000)), (2, ty_f), (3, (6, 2, 63))], [], 0, 0) = true)
      have hGl := pIK_G (R := pRl e t g.toNat) ht hK (pRl_s e t g.toNat) (pRl_S e t g.toNat tys) pRl_u
      have Pl := pv_X5_commit hGl hx hl hnm hR hD
      have El := ty_env hGl hx hR hr ty_pN pd_X5_commit Pl (σ0 := σ0) (M0 := M0)
      have J95 : ty_J x vwCl 7 tys pKT (pIK (pRl e t g.toNat) K) pPG ct_X5_commit.2.2.1 ct_X5_commit.2.2.2.1 σ0 M0 g (ty_s0 (95, [(0, (2, 12, 0)), (1, (0, 1, 1000000)), (2, ty_f), (3, (6, 2, 63))], [(0, 0, 0), (6, 2, 63), (2, 16, 0)], 0, 0)) :=
        ty_jast (kk := 16) hx ht (Or.inl ⟨by decide +kernel, rfl⟩) rfl (by decide +kernel) (by decide +kernel) (by decide +kernel) (fun _ => by decide +kernel) (by decide +kernel) (by decide) (by decide) (fun σ M a cA f i w hH hI hk hat hin hi hv => by
          obtain ⟨y, y0, y1, y2, y3⟩ := hi
          cases y0
          have y1 : (2 : Int) ≤ i.toInt := y1
          have y2 : i.toInt ≤ 63 := y2
          have w0 : w = 0 := by
            have := ty_z0 hv
            rw [nI_0] at this
            exact Value.int.inj this
          have ic : i.toNatClampNeg = i.toInt.toNat := rfl
          have eg : i.toNatClampNeg = g.toNat := by rw [ic, y3]
          refine ⟨?_, pK_set hK hk (pK_no (by decide)) hI.2⟩
          rcases hI.1 with h | ⟨h, hl⟩
          · exact pR_S e t tys (16, 0, 63, 0, 0) (by decide) σ M a cA 64 f i w hH h hk hat hin (by show (0 : Int) ≤ _; omega) y2 (by rw [w0]; decide) (by rw [w0]; decide)
          · rw [eg]
            exact pR_un h hl hk hat.2 (by omega) w0) J96
      have J66 : ty_J x vwCl 7 tys pKT (pIK (pRl e t g.toNat) K) pPG ct_X5_commit.2.2.1 ct_X5_commit.2.2.2.1 σ0 M0 g (66, [(0, (2, 12, 0)), (1, (0, 1, 1000000)), (2, ty_f), (3, (6, 2, 63))], [], 0, 0) := ty_chk_ok El (pcons J95 pnil) pnil (fun h e => by cases e) 40 _ (by decide +kernel : ty_chk pKT fT_X5_commit pT_X5_commit cT_X5_commit kT_X5_commit lT_X5_commit nT_X5_commit [] ct_X5_commit.2.2.1 pPS pSW ct_X5_commit.2.2.2.1 17 7 0 0 0 0 ty_rN (some .int) pr_X5_commit [(95, [(0, (2, 12, 0)), (1, (0, 1, 1000000)), (2, ty_f), (3, (6, 2, 63))], [(0, 0, 0), (6, 2, 63), (2, 16, 0)], 0, 0)] [] none 40 (66, [(0, (2, 12, 0)), (1, (0, 1, 1000000)), (2, ty_f), (3, (6, 2, 63))], [], 0, 0) = true)
      intro σ M ls st hs hw hH hI hF hL hS
      rw [ty_stk_n hS]
      obtain ⟨w3, h3, z, rfl, z1, z2, z3⟩ := hL (3, (6, 2, 64)) (List.mem_cons_of_mem _ (List.mem_cons_of_mem _ (List.mem_cons_of_mem _ List.mem_cons_self)))
      have z1 : (2 : Int) ≤ z.toInt := z1
      have z2 : z.toInt ≤ 64 := z2
      obtain ⟨w0, h0, m, rfl, hm⟩ := hL (0, (2, 12, 0)) List.mem_cons_self
      obtain ⟨w1, h1, y1, rfl, a1, a2⟩ := hL (1, (0, 1, 1000000)) (List.mem_cons_of_mem _ List.mem_cons_self)
      obtain ⟨w2, h2, y2, rfl, b1, b2⟩ := hL (2, ty_f) (List.mem_cons_of_mem _ (List.mem_cons_of_mem _ List.mem_cons_self))
      have hm : σ m = some 12 := hm
      obtain ⟨fs, hat, hfs⟩ := ty_obj hH hm (show pKT[12]? = some (0, 7, _) from rfl)
      obtain ⟨v0, f0, cn, rfl, c1, c2⟩ := hfs 0 (0, 8, 64) rfl
      have c2 : cn.toInt ≤ 64 := c2
      obtain ⟨v6, f6, aL, rfl, hL6⟩ := hfs 6 (2, 16, 0) rfl
      have hL6 : σ aL = some 16 := hL6
      have ht2 := ht
      obtain ⟨cB, cI, cZ, cJ, rr, rfl⟩ := ht2
      obtain ⟨cA, ft, la', t0, at0, el⟩ := ty_arr (j := 2) hH hL6 (show pKT[16]? = some (1 + 2, 64, [pB]) from rfl) (by omega)
      cases t0
      show gG x vwCl 46 ls [] M 0 0
      refine gG_sp hx (i := .iload_n 3) (len := 1) (by decide +kernel) (sp_il (j := 3) h3) ?_
      refine gG_sp hx (i := .aload_n 0) (len := 1) (by decide +kernel) (sp_al (j := 0) h0) ?_
      refine P1.1 (53, 7, 0, .int) (by decide +kernel) 48 ls m fs _ _ M 0 0 (by decide +kernel) hat f0 ?_
      refine gG_ic hx (cn := .ge) (off := 61) (tgt := 112) (by decide +kernel) rfl (fun _ => ?_) (fun cg => ?_)
      · refine J112 g σ M ls [] hs hw hH hI hF ?_ trivial
        intro q hq
        have hq : q ∈ ([(0, (2, 12, 0)), (1, (0, 1, 1000000)), (2, ty_f)] : ty_L) := hq
        simp only [List.mem_cons, List.not_mem_nil, or_false] at hq
        rcases hq with rfl | rfl | rfl
        · exact ⟨_, h0, m, rfl, hm⟩
        · exact ⟨_, h1, y1, rfl, a1, a2⟩
        · exact ⟨_, h2, y2, rfl, b1, b2⟩
      · have cg : ¬ cn.toInt ≤ z.toInt := cg
        have hin : vp_in z 64 := vp_in_iff.mpr ⟨by omega, by omega⟩
        have hL' : ty_loc σ g (pPG σ M) ls [(0, (2, 12, 0)), (1, (0, 1, 1000000)), (2, ty_f), (3, (6, 2, 63))] := by
          intro q hq
          simp only [List.mem_cons, List.not_mem_nil, or_false] at hq
          rcases hq with rfl | rfl | rfl | rfl
          · exact ⟨_, h0, m, rfl, hm⟩
          · exact ⟨_, h1, y1, rfl, a1, a2⟩
          · exact ⟨_, h2, y2, rfl, b1, b2⟩
          · exact ⟨_, h3, z, rfl, z1, by show z.toInt ≤ 63; omega, z3⟩
        refine gG_sp hx (i := .aload_n 0) (len := 1) (by decide +kernel) (sp_al (j := 0) h0) ?_
        refine P1.1 (23, 7, 6, .array .boolean) (by decide +kernel) 55 ls m fs _ _ M 0 0 (by decide +kernel) hat f6 ?_
        refine gG_sp hx (i := .iload_n 3) (len := 1) (by decide +kernel) (sp_il (j := 3) h3) ?_
        refine gG_zald hx 2 (by decide +kernel) at0 rfl hin ?_
        refine gG_if hx (cn := .ne) (off := 6) (tgt := 66) (by decide +kernel) rfl (fun cv => ?_) (fun _ => ?_)
        · have cv : (la' z.toNatClampNeg).toInt ≠ 0 := cv
          obtain ⟨⟨fi, be, hX⟩, hKI⟩ := id hI
          obtain ⟨hu, ne, dk, la, ta, by_, r1, r2, r3, r4, r5, r6⟩ := id hX
          obtain ⟨ea, -⟩ := pArr_eq r3 hL6 at0.2
          have ic : z.toNatClampNeg = z.toInt.toNat := rfl
          rw [ic, z3] at cv
          exact J66 σ M ls [] hs hw hH ⟨Or.inr ⟨hI.1, la', ea ▸ r3, fun q => cv (by rw [q]; rfl)⟩, hKI⟩ hF hL' trivial
        · refine gG_goto hx (off := 43) (tgt := 106) (by decide +kernel) rfl ?_
          exact next 0 0 σ M ls [] (by decide +kernel) hs hw hH hI hF hL'
  have J46 : ∀ g : Int, ty_J x vwCl 7 tys pKT (pIK (pR (e + 1) t) K) pPG ct_X5_commit.2.2.1 ct_X5_commit.2.2.2.1 σ0 M0 g (ty_s0 (46, [(0, (2, 12, 0)), (1, (0, 1, 1000000)), (2, ty_f), (3, (0, 2, 64))], [], 0, 0)) := by
    intro g σ M ls st hs hw hH hI hF hL hS
    obtain ⟨w3, h3, z, rfl, z1, z2⟩ := hL (3, (0, 2, 64)) (List.mem_cons_of_mem _ (List.mem_cons_of_mem _ (List.mem_cons_of_mem _ List.mem_cons_self)))
    obtain ⟨w0, h0, m, rfl, hm⟩ := hL (0, (2, 12, 0)) List.mem_cons_self
    obtain ⟨w1, h1, y1, rfl, a1, a2⟩ := hL (1, (0, 1, 1000000)) (List.mem_cons_of_mem _ List.mem_cons_self)
    obtain ⟨w2, h2, y2, rfl, b1, b2⟩ := hL (2, ty_f) (List.mem_cons_of_mem _ (List.mem_cons_of_mem _ List.mem_cons_self))
    rw [ty_stk_n hS]
    refine loop _ z.toInt (Nat.lt_succ_self _) σ M ls [] hs hw hH hI hF ?_ trivial
    intro q hq
    have hq : q ∈ ([(0, (2, 12, 0)), (1, (0, 1, 1000000)), (2, ty_f), (3, (6, 2, 64))] : ty_L) := hq
    simp only [List.mem_cons, List.not_mem_nil, or_false] at hq
    rcases hq with rfl | rfl | rfl | rfl
    · exact ⟨_, h0, m, rfl, hm⟩
    · exact ⟨_, h1, y1, rfl, a1, a2⟩
    · exact ⟨_, h2, y2, rfl, b1, b2⟩
    · exact ⟨_, h3, z, rfl, z1, z2, rfl⟩
  have J0 := ty_seg E1 [] _ (pcons J46 pnil) [] 40 (0, ty_L0 0 ct_X5_commit.1, [], 0, 0) (by decide +kernel) (by decide +kernel)
  exact ty_enter (J0 0) (by decide +kernel) hav hH0 hI0 hls
