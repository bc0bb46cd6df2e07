/-! steps that change the invariant -/
section S2
variable {x : gx_T} {cc : ByteArray} {nL : Nat} {tys : List (ClassId × FieldType)} {own : String} {INV INV2 : ty_K → mh_M → Prop} {mods : List (Nat × Nat)} {news : List Nat} {σ0 : ty_K} {M0 : mh_M} {g : Int}
theorem ty_Jw {s : ty_S} (h : ∀ σ M, INV σ M → INV2 σ M) (J : ty_J x vwCl nL tys pKT INV2 pPG mods news σ0 M0 g s) : ty_J x vwCl nL tys pKT INV pPG mods news σ0 M0 g s := fun σ M ls st hs hw hH hI hF hL hS => J σ M ls st hs hw hH (h σ M hI) hF hL hS
theorem ty_putH {σ : ty_K} {M : mh_M} {m k ci f : Nat} {ts : List ty_T} {fs : List Value} {t : ty_T} {v : Value} (hH : ty_H tys pKT σ M) (hk : σ m = some k) (hd : pKT[k]? = some (0, ci, ts)) (hat : mh_at M m (.inr (ci, fs))) (ht : ts[f]? = some t) (hv : ty_has σ 0 ty_no v t) : ty_H tys pKT σ (mh_set M m (.inr (ci, fs.set f v))) ∧ f < fs.length := by
  obtain ⟨gs, hat2, hfs⟩ := ty_obj hH hk hd
  have e := hat.uniq hat2
  cases e
  obtain ⟨w, hw1, hw2⟩ := hfs f t ht
  have hlt := (List.getElem?_eq_some_iff.mp hw1).1
  refine ⟨ty_H_set hH hk hd ⟨fun _ => ⟨_, rfl, fun i t' hi => ?_⟩, fun j hj => absurd hj (by show ¬ (0 = 1 + j); omega), fun j hj => absurd hj (by show ¬ (0 = 20 + j); omega)⟩, hlt⟩
  by_cases e : i = f
  · subst e
    rw [ht] at hi
    cases hi
    exact ⟨v, by rw [List.getElem?_set_self hlt], hv⟩
  · rw [List.getElem?_set_ne (Ne.symm e)]
    exact hfs i t' hi
theorem ty_jput {idx ci f pc n k kk : Nat} {ft : FieldType} {L : ty_L} {rs : List ty_T} {vt t : ty_T} {ts : List ty_T} (hput : gR_put x vwCl cc idx ci f ft) (hd : decode cc pc = .ok (.putfield idx, 3)) (hkd : pKT[kk]? = some (0, ci, ts)) (ht : ts[f]? = some t) (hsub : ty_sub vt t = true) (hpl : ty_plain t = true) (hff : ty_ff ft vt = true) (hm : (kk, f) ∈ mods) (hkp : kk ≠ 17)
    (hI2 : ∀ (σ : ty_K) (M : mh_M) (m : Nat) (fs : List Value) (v : Value), ty_H tys pKT σ M → INV σ M → σ m = some kk → mh_at M m (.inr (ci, fs)) → f < fs.length → ty_has σ g (pPG σ M) v vt → INV2 σ (mh_set M m (.inr (ci, fs.set f v))))
    (J2 : ty_J x vwCl nL tys pKT INV2 pPG mods news σ0 M0 g (pc + 3, L, rs.map (fun t => (t, ty_i0)), n, k)) : ty_J x vwCl nL tys pKT INV pPG mods news σ0 M0 g (ty_s0 (pc, L, vt :: (2, (kk : Int), 0) :: rs, n, k)) := by
  intro σ M ls st hs hw hH hI hF hL hS
  obtain ⟨v, vs, rfl, hv, hvs⟩ := ty_stk_c hS
  obtain ⟨u, us, rfl, hu, hus⟩ := ty_stk_c hvs
  obtain ⟨m, rfl, hk⟩ := hu.1
  have hk : σ m = some kk := hk
  obtain ⟨fs, hat, hfs⟩ := ty_obj hH hk hkd
  obtain ⟨n1, n2⟩ := ty_ff_ok hff hv.1
  obtain ⟨hH2, hlt⟩ := ty_putH hH hk hkd hat ht (ty_plain_ok hpl (ty_sub_ok (g' := 0) hsub hv.1))
  have hF2 : ty_FM mods news σ0 M0 σ (mh_set M m (.inr (ci, fs.set f v))) := hF.tr (ty_F_set hk (fun i hi => ty_p_set hat.2 i (fun e => hi (e ▸ hm))))
  exact hput pc ls m fs v us M n k hd hat hlt n1 n2 (J2 σ _ ls us hs hw hH2 (hI2 σ M m fs v hH hI hk hat hlt hv.1) hF2 (ty_loc_mv (fun _ _ h => h) (ty_wpg pPG_s hk hkp) hL) (ty_stk_mv (fun _ _ h => h) (ty_wpg pPG_s hk hkp) hus))
theorem ty_jast (hx : gC x vwCl cc nL tys kwT own) (htys : ty_tys tys) {pc n k kk c N : Nat} {L : ty_L} {rs : List ty_T} {vt it t : ty_T} (hd : (decode cc pc = .ok (.bastore, 1) ∧ c = 3) ∨ (decode cc pc = .ok (.iastore, 1) ∧ c = 2)) (hkd : pKT[kk]? = some (c, N, [t])) (hin : ty_in it N = true) (hsub : ty_sub vt t = true) (hpl : ty_plain t = true) (hz : c = 3 → ty_sub vt (0, 0, 1) = true) (hrv : (ty_rng vt).isSome = true) (hm : (kk, 0) ∈ mods) (hkp : kk ≠ 17)
    (hI2 : ∀ (σ : ty_K) (M : mh_M) (a : Nat) (cA : ClassId) (f : Nat → Int32) (i w : Int32), ty_H tys pKT σ M → INV σ M → σ a = some kk → mh_at M a (.inl (cA, N, .inl f)) → vp_in i N → ty_has σ g (pPG σ M) (.int i) it → ty_has σ g (pPG σ M) (.int w) vt → INV2 σ (mh_set M a (.inl (cA, N, .inl (upd f i.toNatClampNeg w)))))
    (J2 : ty_J x vwCl nL tys pKT INV2 pPG mods news σ0 M0 g (pc + 1, L, rs.map (fun t => (t, ty_i0)), n, k)) : ty_J x vwCl nL tys pKT INV pPG mods news σ0 M0 g (ty_s0 (pc, L, vt :: it :: (2, (kk : Int), 0) :: rs, n, k)) := by
  intro σ M ls st hs hw hH hI hF hL hS
  obtain ⟨v, vs, rfl, hv, hvs⟩ := ty_stk_c hS
  obtain ⟨i0, is, rfl, hi, his⟩ := ty_stk_c hvs
  obtain ⟨u, us, rfl, hu, hus⟩ := ty_stk_c his
  obtain ⟨a, rfl, hk⟩ := hu.1
  have hk : σ a = some kk := hk
  obtain ⟨iv, rfl, hi1, hi2⟩ := ty_in_ok hin hi.1
  obtain ⟨y, rfl⟩ := ty_rs hrv hv.1
  have hdec : (decode cc pc = .ok (.bastore, 1) ∧ (c = 1 ∨ c = 3)) ∨ (decode cc pc = .ok (.iastore, 1) ∧ c = 2) := hd.imp (fun q => ⟨q.1, Or.inr q.2⟩) id
  obtain ⟨cA, ft, f, q1, q2, q3, hat, hel, hgo⟩ := gG_ast hx htys hH hk hkd hdec
  obtain ⟨w, w1, w2, hgo⟩ := hgo y (fun e3 => by
    obtain ⟨z, z0, z1, z2⟩ := ty_sub_ok (g' := 0) (b := (0, 0, 1)) (hz e3) hv.1
    cases z0
    have z1 : (0 : Int) ≤ y.toInt := z1
    have z2 : y.toInt ≤ 1 := z2
    omega)
  have ew : w = y := w2 (by rcases hd with ⟨-, q⟩ | ⟨-, q⟩ <;> omega)
  subst ew
  have hok : ty_ok tys σ (c, N, [t]) (.inl (cA, N, .inl (upd f iv.toNatClampNeg w))) := ty_ok_ar q1 q2 q3 (fun j hj => by
    by_cases ej : j = iv.toNatClampNeg
    · subst ej; rw [pk_us]; exact ty_plain_ok hpl (ty_sub_ok (g' := 0) hsub hv.1)
    · rw [pk_un ej]; exact hel j hj)
  have hF2 : ty_FM mods news σ0 M0 σ (mh_set M a (.inl (cA, N, .inl (upd f iv.toNatClampNeg w)))) := hF.tr (ty_F_set hk (fun i hi => ty_p_arr hat.2 i (fun e => hi (e ▸ hm))))
  exact hgo iv ls us n k hi1 (J2 σ _ ls us hs hw (ty_H_set hH hk hkd hok) (hI2 σ M a cA f iv w hH hI hk hat hi1 hi.1 hv.1) hF2 (ty_loc_mv (fun _ _ h => h) (ty_wpg pPG_s hk hkp) hL) (ty_stk_mv (fun _ _ h => h) (ty_wpg pPG_s hk hkp) hus))
end S2
/-! the model's own fields -/
theorem pRs_fs {σ : ty_K} {M : mh_M} {fi be ne m : Nat} {fs : List Value} (h : pRs σ M fi be ne) (hm : σ m = some 12) (hat : M.2 m = .inr (7, fs)) : fs[11]? = some (.int (nI fi)) ∧ fs[12]? = some (.int (nI be)) ∧ fs[16]? = some (.int (nI ne)) := by
  obtain ⟨h1, h2, h3⟩ := h.1 m hm
  rw [hat] at h1 h2 h3
  have h1 : (Sum.inr (fs[11]?) : (ClassId × vp_A) ⊕ Option Value) = .inr (some (.int (nI fi))) := h1
  have h2 : (Sum.inr (fs[12]?) : (ClassId × vp_A) ⊕ Option Value) = .inr (some (.int (nI be))) := h2
  have h3 : (Sum.inr (fs[16]?) : (ClassId × vp_A) ⊕ Option Value) = .inr (some (.int (nI ne))) := h3
  exact ⟨Sum.inr.inj h1, Sum.inr.inj h2, Sum.inr.inj h3⟩
theorem pRs_mk {σ : ty_K} {M : mh_M} {fi be ne m : Nat} {fs : List Value} {fi0 be0 ne0 : Nat} (hu : pUq σ) (hh : pRs σ M fi0 be0 ne0) (hm : σ m = some 12) (h1 : fs[11]? = some (.int (nI fi))) (h2 : fs[12]? = some (.int (nI be))) (h3 : fs[16]? = some (.int (nI ne))) : pRs σ (mh_set M m (.inr (7, fs))) fi be ne := by
  refine ⟨?_, pHd_set hm (by decide) hh.2⟩
  intro b hb
  rw [hu 12 (by decide) b m hb hm]
  have e : (mh_set M m (.inr (7, fs))).2 m = .inr (7, fs) := va_up_self _ _ _
  rw [e]
  exact ⟨congrArg Sum.inr h1, congrArg Sum.inr h2, congrArg Sum.inr h3⟩
/-- the newest number's place changes -/
theorem pRx_new {e t t' fi be : Nat} {σ : ty_K} {M : mh_M} {m ne : Nat} {fs : List Value} (hI : pRx e t fi be σ M) (hm : σ m = some 12) (hat : M.2 m = .inr (7, fs)) (hl : 16 < fs.length) (hn : ne ≤ t') : pRx e t' fi be σ (mh_set M m (.inr (7, fs.set 16 (.int (nI ne))))) := by
  obtain ⟨h0, ne0, dk, la, ta, by_, h1, h2, h3, h4, h5, h6⟩ := hI
  obtain ⟨r1, r2, r3⟩ := pRs_fs h1 hm hat
  exact ⟨h0, ne, dk, la, ta, by_, pRs_mk h0 h1 hm (by rw [List.getElem?_set_ne (by omega)]; exact r1) (by rw [List.getElem?_set_ne (by omega)]; exact r2) (List.getElem?_set_self hl), pArr_set hm (by decide) h2, pArr_set hm (by decide) h3, pArr_set hm (by decide) h4, pArr_set hm (by decide) h5, h6.1, h6.2.1, hn, h6.2.2.2⟩
/-- first moves on -/
theorem pRx_first {e t fi be fi' : Nat} {σ : ty_K} {M : mh_M} {m : Nat} {fs : List Value} (hI : pRx e t fi be σ M) (hm : σ m = some 12) (hat : M.2 m = .inr (7, fs)) (hl : 11 < fs.length) (h1' : fi ≤ fi') (h2' : fi' ≤ be) : pRx e t fi' be σ (mh_set M m (.inr (7, fs.set 11 (.int (nI fi'))))) := by
  obtain ⟨h0, ne, dk, la, ta, by_, h1, h2, h3, h4, h5, h6⟩ := hI
  obtain ⟨r1, r2, r3⟩ := pRs_fs h1 hm hat
  exact ⟨h0, ne, dk, la, ta, by_, pRs_mk h0 h1 hm (List.getElem?_set_self hl) (by rw [List.getElem?_set_ne (by omega)]; exact r2) (by rw [List.getElem?_set_ne (by omega)]; exact r3), pArr_set hm (by decide) h2, pArr_set hm (by decide) h3, pArr_set hm (by decide) h4, pArr_set hm (by decide) h5, h2', h6.2.1, h6.2.2.1, h6.2.2.2.1, h6.2.2.2.2.1, fun w q1 q2 q3 => h6.2.2.2.2.2 w (by omega) q2 q3⟩
/-- nothing waits any more: both stand at 0 -/
theorem pRx_none {e t fi be : Nat} {σ : ty_K} {M : mh_M} {m : Nat} {fs : List Value} (hI : pRx e t fi be σ M) (hm : σ m = some 12) (hat : M.2 m = .inr (7, fs)) (hl : 12 < fs.length) : pRx 64 t 0 0 σ (mh_set M m (.inr (7, (fs.set 11 (.int (nI 0))).set 12 (.int (nI 0))))) := by
  obtain ⟨h0, ne, dk, la, ta, by_, h1, h2, h3, h4, h5, h6⟩ := hI
  obtain ⟨r1, r2, r3⟩ := pRs_fs h1 hm hat
  refine ⟨h0, ne, dk, la, ta, by_, pRs_mk h0 h1 hm ?_ ?_ ?_, pArr_set hm (by decide) h2, pArr_set hm (by decide) h3, pArr_set hm (by decide) h4, pArr_set hm (by decide) h5, Nat.le_refl _, by have := cntL_le la 64; omega, h6.2.2.1, h6.2.2.2.1, h6.2.2.2.2.1, fun w q1 q2 _ => by omega⟩
  · rw [List.getElem?_set_ne (by omega), List.getElem?_set_self (by omega)]
  · rw [List.getElem?_set_self (by simp; omega)]
  · rw [List.getElem?_set_ne (by omega), List.getElem?_set_ne (by omega)]; exact r3
