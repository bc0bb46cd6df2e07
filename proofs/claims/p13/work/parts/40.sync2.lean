theorem pX_I {e t fi be : Nat} {K : ty_K → mh_M → Prop} {σ : ty_K} {M : mh_M} (h : pIK (pRx e t fi be) K σ M) : pIK (pR e t) K σ M := ⟨⟨fi, be, h.1⟩, h.2⟩
theorem pRx_be {e t fi be : Nat} {σ : ty_K} {M : mh_M} (h : pRx e t fi be σ M) : fi ≤ be ∧ be ≤ e := by
  obtain ⟨-, ne, dk, la, ta, by_, -, -, -, -, -, h6⟩ := h
  have := h6.2.1
  exact ⟨h6.1, by omega⟩
/-- KnowDiskModel.sync -/
theorem mt_X5_sync {l : Launch} {D : va_G} {tys : List (ClassId × FieldType)} {K : ty_K → mh_M → Prop} (ht : ty_tys tys) (hK : ty_sI pPSC K) (e t : Nat) (he : e < 2147483648) : ty_Met l D vwCl tys pKT (pIK (pR e t) K) (pIK (pR e t) K) pPG yX5_sync cX5_sync 1 (some .int) 1 22 ct_X5_sync := by
  refine ty_of (by decide +kernel) (by decide +kernel) (by decide +kernel) ?_
  intro x av M0 σ0 ls0 post hx hl hnm hR hD hav hH0 hI0 hls hp hr
  have hG := pI_G ht hK e t
  have P := pv_X5_sync hG hx hl hnm hR hD
  have E := ty_env hG hx hR hr (fun v M σ h1 h2 h3 h4 => hp v M σ h1 h2 h3 h4 trivial) pd_X5_sync P
  have J34 := ty_seg E [] [] (fun h hh => absurd hh List.not_mem_nil) [] 20 (34, [(0, (2, 12, 0))], [], 0, 0) (by decide +kernel) (by decide +kernel)
  have J31 := ty_spc (sc_X5_sync_162 (mt_X5_settle ht hK e t) hx hl hR hD) (Or.inl ⟨162, rfl, rfl⟩) (pc := 31) (n := 0) (k := 0) (w := 0) (L := [(0, (2, 12, 0))]) (rs := []) (mods := ct_X5_sync.2.2.1) (news := ct_X5_sync.2.2.2.1) (σ0 := σ0) (M0 := M0) (by decide +kernel) (by decide +kernel) rfl (by decide) (by decide +kernel) (by decide +kernel) (by rw [hR]; decide) (by rw [hR]; decide) (by decide +kernel) J34
  have J30 := ty_seg E [] _ (pcons J31 pnil) [] 20 (30, [(0, (2, 12, 0))], [], 0, 0) (by decide +kernel) (by decide +kernel)
  have loop : ∀ (k fi be m : Nat) (σ : ty_K) (M : mh_M) (ls : Array Slot), be - fi < k → ls.size = 1 → lv_wf ls → ls[((0 : Fin 4) : Nat)]? = some (.val (.ref m)) → σ m = some 12 → ty_H tys pKT σ M → pIK (pRx e t fi be) K σ M → ty_FM ct_X5_sync.2.2.1 ct_X5_sync.2.2.2.1 σ0 M0 σ M → gG x vwCl 10 ls [] M 0 0 := by
    intro k
    induction k with
    | zero => intro fi be m σ M ls hk; omega
    | succ k ih =>
      intro fi be m σ M ls hk hs hw h0 hm hH hI hF
      obtain ⟨b1, b2⟩ := pRx_be hI.1
      obtain ⟨hu, ne, dk, la, ta, by_, r1, r2, r3, r4, r5, r6⟩ := id hI.1
      obtain ⟨fs, hat, hfs⟩ := ty_obj hH hm (show pKT[12]? = some (0, 7, _) from rfl)
      obtain ⟨f11, f12, f16⟩ := pRs_fs r1 hm hat.2
      refine gG_sp hx (i := .aload_n 0) (len := 1) (by decide +kernel) (sp_al h0) ?_
      refine P.1 (70, 7, 11, .int) (by decide +kernel) 11 ls m fs _ _ M 0 0 (by decide +kernel) hat f11 ?_
      refine gG_sp hx (i := .aload_n 0) (len := 1) (by decide +kernel) (sp_al h0) ?_
      refine P.1 (73, 7, 12, .int) (by decide +kernel) 15 ls m fs _ _ M 0 0 (by decide +kernel) hat f12 ?_
      refine gG_ic hx (cn := .ge) (off := 12) (tgt := 30) (by decide +kernel) rfl (fun _ => ?_) (fun cg => ?_)
      · exact J30 0 σ M ls [] hs hw hH (pX_I hI) hF (fun z hz => by rw [List.mem_singleton.mp hz]; exact ⟨_, h0, m, rfl, hm⟩) trivial
      · have cg : ¬ (nI be).toInt ≤ (nI fi).toInt := cg
        rw [nI_tn (by omega), nI_tn (by omega)] at cg
        refine gG_sp hx (i := .aload_n 0) (len := 1) (by decide +kernel) (sp_al h0) ?_
        refine gG_sp hx (i := .bipush 32) (len := 2) (by decide +kernel) (r := [.int (Int8.ofInt 32).toInt32, .ref m]) rfl ?_
        refine sc_X5_sync_158 (mt_X5_write ht hK e t fi be (by omega) (by omega)) hx hl hR hD 24 ls (.invokevirtual 158) [.ref m, .int (Int8.ofInt 32).toInt32] [] M σ 0 0 (by decide +kernel) (Or.inl ⟨158, rfl, rfl⟩) hs ⟨⟨m, rfl, hm⟩, ⟨_, rfl, by decide, by decide⟩, trivial⟩ hH hI (by decide) (by rw [hR]; decide) (by rw [hR]; decide) (fun v M' σ' q1 q2 q3 q4 q5 => ?_)
        have q4 : v = none := q4
        subst q4
        refine gG_goto hx (off := -17) (tgt := 10) (by decide +kernel) rfl ?_
        have z : ∀ q ∈ ct_X5_write.2.2.1, q ∈ ct_X5_sync.2.2.1 := by decide
        have hF' : ty_FM ct_X5_sync.2.2.1 ct_X5_sync.2.2.2.1 σ0 M0 σ' M' := hF.tr (q1.mono (fun k i hk hq => hk (z (k, i) hq)) (fun k hk => absurd hk List.not_mem_nil))
        exact ih (fi + 1) be m σ' M' ls (by omega) hs hw h0 (q1.kinds m 12 hm) q2 q3 hF'
  have J10 : ∀ g : Int, ty_J x vwCl 1 tys pKT (pIK (pR e t) K) pPG ct_X5_sync.2.2.1 ct_X5_sync.2.2.2.1 σ0 M0 g (ty_s0 (10, [(0, (2, 12, 0))], [], 0, 0)) := by
    intro g σ M ls st hs hw hH hI hF hL hS
    rw [ty_stk_n hS]
    obtain ⟨⟨fi, be, hX⟩, hKI⟩ := hI
    obtain ⟨w, l0, m, rfl, hm⟩ := hL (0, (2, 12, 0)) List.mem_cons_self
    exact loop (be - fi + 1) fi be m σ M ls (by omega) hs hw l0 hm hH ⟨hX, hKI⟩ hF
  have J0 := ty_seg E [] _ (pcons J10 pnil) [] 20 (0, ty_L0 0 ct_X5_sync.1, [], 0, 0) (by decide +kernel) (by decide +kernel)
  exact ty_enter (J0 0) (by decide +kernel) hav hH0 hI0 hls
set_option maxRecDepth 100000 in
/-- KnowDiskModel.cut -/
theorem mt_X5_cut {l : Launch} {D : va_G} {tys : List (ClassId × FieldType)} {K : ty_K → mh_M → Prop} (ht : ty_tys tys) (hK : ty_sI pPSC K) (e t : Nat) (he : e < 2147483648) (he2 : 64 ≤ e) : ty_Met l D vwCl tys pKT (pIK (pR e t) K) (pIK (pR e t) K) pPG yX5_cut cX5_cut 4 none 1 24 ct_X5_cut := by
  refine ty_of (by decide +kernel) (by decide +kernel) (by decide +kernel) ?_
  intro x av M0 σ0 ls0 post hx hl hnm hR hD hav hH0 hI0 hls hp hr
  have hG := pI_G ht hK e t
  have hG3 := pI_G ht hK 64 0
  have P := pv_X5_cut hG hx hl hnm hR hD
  have E := ty_env hG hx hR hr (fun v M σ h1 h2 h3 h4 => hp v M σ h1 h2 h3 h4 trivial) pd_X5_cut P
  have E3 := ty_env hG3 hx hR hr (fun v M σ h1 h2 h3 h4 => hp v M σ h1 h2 ⟨pR_mono he2 (Nat.zero_le t) h3.1, h3.2⟩ h4 trivial) pd_X5_cut (pv_X5_cut hG3 hx hl hnm hR hD)
  have J84 := ty_seg E3 [] [] (fun h hh => absurd hh List.not_mem_nil) [] 20 (84, [], [], 0, 0) (by decide +kernel) (by decide +kernel)
  have J81 := ty_spc (sc_X5_cut_57 (mt_X5_begin ht hK e t) hx hl hR hD) (Or.inl ⟨57, rfl, rfl⟩) (pc := 81) (n := 0) (k := 0) (w := 0) (L := []) (rs := []) (mods := ct_X5_cut.2.2.1) (news := ct_X5_cut.2.2.2.1) (σ0 := σ0) (M0 := M0) (by decide +kernel) (by decide +kernel) rfl (by decide) (by decide +kernel) (by decide +kernel) (by rw [hR]; decide) (by rw [hR]; decide) (by decide +kernel) J84
  have J73 := ty_seg E [] _ (pcons J81 pnil) [] 20 (73, [(0, (2, 12, 0))], [], 0, 0) (by decide +kernel) (by decide +kernel)
  have hL2 : ∀ (σ : ty_K) (M : mh_M) (ls : Array Slot) (m : Nat) (te : Int32), ls[((0 : Fin 4) : Nat)]? = some (.val (.ref m)) → ls[((2 : Fin 4) : Nat)]? = some (.val (.int te)) → σ m = some 12 → ty_loc σ 0 (pPG σ M) ls [(0, (2, 12, 0)), (2, ty_f)] := fun σ M ls m te a b c z hz => by
    rcases List.mem_cons.mp hz with rfl | hz
    · exact ⟨_, a, m, rfl, c⟩
    · rw [List.mem_singleton.mp hz]; exact ⟨_, b, ty_any te⟩
  have J38 : ∀ (m fi be : Nat) (te : Int32) (σ : ty_K) (M : mh_M) (ls : Array Slot), ls.size = 4 → lv_wf ls → ls[((0 : Fin 4) : Nat)]? = some (.val (.ref m)) → ls[((2 : Fin 4) : Nat)]? = some (.val (.int te)) → σ m = some 12 → ty_H tys pKT σ M → pIK (pRx e t fi be) K σ M → ty_FM ct_X5_cut.2.2.1 ct_X5_cut.2.2.2.1 σ0 M0 σ M → gG x vwCl 38 ls [] M 0 0 := by
    intro m fi be te σ M ls hs hw h0 h2 hm hH hI hF
    obtain ⟨b1, b2⟩ := pRx_be hI.1
    obtain ⟨hu, ne, dk, la, ta, by_, r1, r2, r3, r4, r5, r6⟩ := id hI.1
    obtain ⟨fs, hat, hfs⟩ := ty_obj hH hm (show pKT[12]? = some (0, 7, _) from rfl)
    obtain ⟨f11, f12, f16⟩ := pRs_fs r1 hm hat.2
    refine gG_sp hx (i := .aload_n 0) (len := 1) (by decide +kernel) (sp_al h0) ?_
    refine P.1 (70, 7, 11, .int) (by decide +kernel) 39 ls m fs _ _ M 0 0 (by decide +kernel) hat f11 ?_
    refine gG_sp hx (i := .aload_n 0) (len := 1) (by decide +kernel) (sp_al h0) ?_
    refine P.1 (73, 7, 12, .int) (by decide +kernel) 43 ls m fs _ _ M 0 0 (by decide +kernel) hat f12 ?_
    refine gG_ic hx (cn := .ge) (off := 27) (tgt := 73) (by decide +kernel) rfl (fun _ => ?_) (fun cg => ?_)
    · exact J73 0 σ M ls [] hs hw hH (pX_I hI) hF (fun z hz => by rw [List.mem_singleton.mp hz]; exact ⟨_, h0, m, rfl, hm⟩) trivial
    · have cg : ¬ (nI be).toInt ≤ (nI fi).toInt := cg
      rw [nI_tn (by omega), nI_tn (by omega)] at cg
      have hGx := pX_G ht hK e t fi be
      have Ex := ty_env hGx hx hR hr ty_pN pd_X5_cut (pv_X5_cut hGx hx hl hnm hR hD) (σ0 := σ0) (M0 := M0)
      have J70 := ty_spc (sc_X5_cut_158 (mt_X5_write ht hK e t fi be (by omega) (by omega)) hx hl hR hD) (Or.inl ⟨158, rfl, rfl⟩) (pc := 70) (n := 0) (k := 0) (w := 0) (L := [(0, (2, 12, 0))]) (rs := []) (mods := ct_X5_cut.2.2.1) (news := ct_X5_cut.2.2.2.1) (σ0 := σ0) (M0 := M0) (by decide +kernel) (by decide +kernel) rfl (by decide) (by decide +kernel) (by decide +kernel) (by rw [hR]; decide) (by rw [hR]; decide) (by decide +kernel) (fun g => ty_Jw (fun σ M h => pX_I h) (J73 g))
      have J49 := ty_seg Ex [] _ (pcons J70 pnil) [] 20 (49, [(0, (2, 12, 0)), (2, ty_f)], [], 0, 0) (by decide +kernel) (by decide +kernel)
      exact J49 0 σ M ls [] hs hw hH hI hF (hL2 σ M ls m te h0 h2 hm) trivial
  have loop : ∀ (k fi be m : Nat) (ke te c : Int32) (σ : ty_K) (M : mh_M) (ls : Array Slot), be - fi < k → ls.size = 4 → lv_wf ls → ls[((0 : Fin 4) : Nat)]? = some (.val (.ref m)) → ls[((1 : Fin 4) : Nat)]? = some (.val (.int ke)) → ls[((2 : Fin 4) : Nat)]? = some (.val (.int te)) → ls[((3 : Fin 4) : Nat)]? = some (.val (.int c)) → σ m = some 12 → ty_H tys pKT σ M → pIK (pRx e t fi be) K σ M → ty_FM ct_X5_cut.2.2.1 ct_X5_cut.2.2.2.1 σ0 M0 σ M → gG x vwCl 10 ls [] M 0 0 := by
    intro k
    induction k with
    | zero => intro fi be m ke te c σ M ls hk; omega
    | succ k ih =>
      intro fi be m ke te c σ M ls hk hs hw h0 h1 h2 h3 hm hH hI hF
      obtain ⟨b1, b2⟩ := pRx_be hI.1
      obtain ⟨hu, ne, dk, la, ta, by_, r1, r2, r3, r4, r5, r6⟩ := id hI.1
      obtain ⟨fs, hat, hfs⟩ := ty_obj hH hm (show pKT[12]? = some (0, 7, _) from rfl)
      obtain ⟨f11, f12, f16⟩ := pRs_fs r1 hm hat.2
      refine gG_sp hx (i := .iload_n 3) (len := 1) (by decide +kernel) (sp_il h3) ?_
      refine gG_sp hx (i := .iload_n 1) (len := 1) (by decide +kernel) (sp_il h1) ?_
      refine gG_ic hx (cn := .ge) (off := 26) (tgt := 38) (by decide +kernel) rfl (fun _ => J38 m fi be te σ M ls hs hw h0 h2 hm hH hI hF) (fun _ => ?_)
      refine gG_sp hx (i := .aload_n 0) (len := 1) (by decide +kernel) (sp_al h0) ?_
      refine P.1 (70, 7, 11, .int) (by decide +kernel) 16 ls m fs _ _ M 0 0 (by decide +kernel) hat f11 ?_
      refine gG_sp hx (i := .aload_n 0) (len := 1) (by decide +kernel) (sp_al h0) ?_
      refine P.1 (73, 7, 12, .int) (by decide +kernel) 20 ls m fs _ _ M 0 0 (by decide +kernel) hat f12 ?_
      refine gG_ic hx (cn := .ge) (off := 15) (tgt := 38) (by decide +kernel) rfl (fun _ => J38 m fi be te σ M ls hs hw h0 h2 hm hH hI hF) (fun cg => ?_)
      have cg : ¬ (nI be).toInt ≤ (nI fi).toInt := cg
      rw [nI_tn (by omega), nI_tn (by omega)] at cg
      refine gG_sp hx (i := .aload_n 0) (len := 1) (by decide +kernel) (sp_al h0) ?_
      refine gG_sp hx (i := .bipush 32) (len := 2) (by decide +kernel) (r := [.int (Int8.ofInt 32).toInt32, .ref m]) rfl ?_
      refine sc_X5_cut_158 (mt_X5_write ht hK e t fi be (by omega) (by omega)) hx hl hR hD 29 ls (.invokevirtual 158) [.ref m, .int (Int8.ofInt 32).toInt32] [] M σ 0 0 (by decide +kernel) (Or.inl ⟨158, rfl, rfl⟩) hs ⟨⟨m, rfl, hm⟩, ⟨_, rfl, by decide, by decide⟩, trivial⟩ hH hI (by decide) (by rw [hR]; decide) (by rw [hR]; decide) (fun v M' σ' q1 q2 q3 q4 q5 => ?_)
      have q4 : v = none := q4
      subst q4
      refine gG_iinc hx hs hw (i := 3) (z := 1) (v := c) (by decide +kernel) h3 (fun ls' hp' => ?_)
      refine gG_goto hx (off := -25) (tgt := 10) (by decide +kernel) rfl ?_
      have z : ∀ q ∈ ct_X5_write.2.2.1, q ∈ ct_X5_cut.2.2.1 := by decide
      have hF' : ty_FM ct_X5_cut.2.2.1 ct_X5_cut.2.2.2.1 σ0 M0 σ' M' := hF.tr (q1.mono (fun k i hk hq => hk (z (k, i) hq)) (fun k hk => absurd hk List.not_mem_nil))
      exact ih (fi + 1) be m ke te _ σ' M' ls' (by omega) hp'.1 hp'.2.1 (hp'.2.2.2 0 _ h0 (by omega) (fun q => by omega)) (hp'.2.2.2 1 _ h1 (by omega) (fun q => by omega)) (hp'.2.2.2 2 _ h2 (by omega) (fun q => absurd q.2 (by show ¬ (1 : Nat) = 2; omega))) hp'.2.2.1 (q1.kinds m 12 hm) q2 q3 hF'
  have J10 : ∀ g : Int, ty_J x vwCl 4 tys pKT (pIK (pR e t) K) pPG ct_X5_cut.2.2.1 ct_X5_cut.2.2.2.1 σ0 M0 g (ty_s0 (10, [(0, (2, 12, 0)), (1, ty_f), (2, ty_f), (3, ty_f)], [], 0, 0)) := by
    intro g σ M ls st hs hw hH hI hF hL hS
    rw [ty_stk_n hS]
    obtain ⟨⟨fi, be, hX⟩, hKI⟩ := hI
    obtain ⟨w, l0, m, rfl, hm⟩ := hL (0, (2, 12, 0)) List.mem_cons_self
    obtain ⟨w1, l1, ke, rfl, -⟩ := hL (1, ty_f) (List.mem_cons_of_mem _ List.mem_cons_self)
    obtain ⟨w2, l2, te, rfl, -⟩ := hL (2, ty_f) (List.mem_cons_of_mem _ (List.mem_cons_of_mem _ List.mem_cons_self))
    obtain ⟨w3, l3, c, rfl, -⟩ := hL (3, ty_f) (List.mem_cons_of_mem _ (List.mem_cons_of_mem _ (List.mem_cons_of_mem _ List.mem_cons_self)))
    exact loop (be - fi + 1) fi be m ke te c σ M ls (by omega) hs hw l0 l1 l2 l3 hm hH ⟨hX, hKI⟩ hF
  have J0 := ty_seg E [] _ (pcons J10 pnil) [] 20 (0, ty_L0 0 ct_X5_cut.1, [], 0, 0) (by decide +kernel) (by decide +kernel)
  exact ty_enter (J0 0) (by decide +kernel) hav hH0 hI0 hls
