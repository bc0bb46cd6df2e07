/-! new writes: a cell changes its kind when it is made; Waiting.add -/
/-- no type speaks of kind k -/
def ty_nok (k : Nat) : Bool := pKT.all (fun d => d.2.2.all (fun t => !((t.1 == 2 || t.1 == 3) && t.2.1.toNat == k)))
theorem ty_rek_has {σ : ty_K} {q k k' : Nat} {t : ty_T} {v : Value} (hq : σ q = some k) (ht : (!((t.1 == 2 || t.1 == 3) && t.2.1.toNat == k)) = true) (h : ty_has σ 0 ty_no v t) : ty_has (ty_new σ q k') 0 ty_no v t := by
  obtain ⟨n, lo, hi⟩ := t
  have key : ∀ a : Nat, (n = 2 ∨ n = 3) → σ a = some lo.toNat → ty_new σ q k' a = some lo.toNat := by
    intro a hn ha
    have hne : a ≠ q := by
      intro e
      rw [e, hq] at ha
      have ek := Option.some.inj ha
      rcases hn with rfl | rfl <;> simp [← ek] at ht
    exact (if_neg hne).trans ha
  unfold ty_has at h ⊢
  dsimp only at h ⊢
  split at h <;> try exact h
  · obtain ⟨a, h1, h2⟩ := h; exact ⟨a, h1, key a (Or.inl rfl) h2⟩
  · rcases h with h | ⟨a, h1, h2⟩
    · exact Or.inl h
    · exact Or.inr ⟨a, h1, key a (Or.inr rfl) h2⟩
theorem ty_rek {tys : List (ClassId × FieldType)} {σ : ty_K} {M : mh_M} {q k k' : Nat} {d : ty_D} (hno : ty_nok k = true) (hq : σ q = some k) (hH : ty_H tys pKT σ M) (hd : pKT[k']? = some d) (hok : ty_ok tys (ty_new σ q k') d (M.2 q)) : ty_H tys pKT (ty_new σ q k') M := by
  intro b kb hb
  by_cases eb : b = q
  · subst eb
    have e1 : ty_new σ b k' b = some k' := if_pos rfl
    rw [e1] at hb
    cases hb
    exact ⟨(hH b k hq).1, d, hd, hok⟩
  · have e1 : ty_new σ q k' b = σ b := if_neg eb
    rw [e1] at hb
    obtain ⟨h1, d2, h2, h3, h4, h5⟩ := hH b kb hb
    have hall := List.all_eq_true.mp (List.all_eq_true.mp hno d2 (List.mem_of_getElem? h2))
    refine ⟨h1, d2, h2, fun q0 => ?_, fun j q0 hj => ?_, h5⟩
    · obtain ⟨fs, r1, r2⟩ := h3 q0
      refine ⟨fs, r1, fun i t ht => ?_⟩
      obtain ⟨v, s1, s2⟩ := r2 i t ht
      exact ⟨v, s1, ty_rek_has hq (hall t (List.mem_of_getElem? ht)) s2⟩
    · obtain ⟨cA, ft, f, r1, r2, r3⟩ := h4 j q0 hj
      refine ⟨cA, ft, f, r1, r2, fun t ht i hi => ?_⟩
      exact ty_rek_has hq (hall t (by rw [ht]; exact List.mem_cons_self)) (r3 t ht i hi)
theorem ty_rekF {tys : List (ClassId × FieldType)} {KT : List ty_D} {P : Nat → Nat → Prop} {B : Nat → Prop} {σ σ2 : ty_K} {M M3 : mh_M} {q k0 k' : Nat} {e0 : va_E} (hH : ty_H tys KT σ M) (hq : q ∉ M.1) (h : ty_F P B (ty_new σ q k0) (mh_new M q e0) σ2 M3) (hb : B k') : ty_F P B σ M (ty_new σ2 q k') M3 := by
  refine ⟨fun a ha => h.1 a (List.mem_append_left _ ha), fun a k ha => ?_, fun a k h1 h2 => ?_⟩
  · have hne : a ≠ q := fun e => hq (e ▸ (hH a k ha).1)
    obtain ⟨r1, r2⟩ := h.2.1 a k ((if_neg hne).trans ha)
    refine ⟨(if_neg hne).trans r1, fun i hi => (r2 i hi).trans ?_⟩
    rw [show (mh_new M q e0).2 a = M.2 a from va_up_ne _ _ hne]
  · by_cases ea : a = q
    · subst ea
      have e1 : ty_new σ2 a k' a = some k' := if_pos rfl
      rw [e1] at h2
      cases h2
      exact hb
    · exact h.2.2 a k ((if_neg ea).trans h1) ((if_neg ea).symm.trans h2)
/-- what an add costs, and the room behind it -/
def aC (c N : Nat) : Nat := if c < N then 0 else 1
def aS (c N : Nat) : Nat := if c < N then 0 else if N = 0 then 10 else N + max 1 (N / 2)
def aN (c N : Nat) : Nat := if c < N then N else aS c N
def C_add (c N : Nat) : ty_C := ([(2, 2, 0), (2, 9, 0)], none, [(2, 1), (4, 0), (4, 1), (4, 2), (10, 0)], [10], aC c N, aS c N, ty_i0)
theorem mt_X2_add {l : Launch} {D : va_G} {tys : List (ClassId × FieldType)} {e t : Nat} {cO : ClassId} {Ψ : Nat → Nat → Prop} {c N : Nat} (hL : pGL cO tys pKw Ψ) (hc : c ≤ 1085) (hN : N ≤ 1627) : ty_Met l D vwCl tys pKT (pJ e t D cO (pEx c N) Ψ) (pJ e t D cO (pEx (c + 1) (aN c N)) Ψ) pPG yX2_add cX2_add 2 none 7 157 (C_add c N) := by
  refine ty_of (by decide +kernel) rfl (show 2 ≤ 2 by omega) ?_
  intro x av M σ ls post hx hl hnm hR hD hav hH hI hls hp hr
  obtain ⟨v, vs, rfl, ⟨m, rfl, hm⟩, hv1⟩ := ty_av_c hav
  obtain ⟨v, vs, rfl, ⟨y, rfl, hy⟩, hv2⟩ := ty_av_c hv1
  have hm : σ m = some 2 := hm
  have hy : σ y = some 9 := hy
  have hv3 := ty_av_n hv2
  subst hv3
  have h0 : ls[((0 : Fin 4) : Nat)]? = some (.val (.ref m)) := hls.2.2 (0, .ref m) List.mem_cons_self
  have h1 : ls[((1 : Fin 4) : Nat)]? = some (.val (.ref y)) := hls.2.2 (1, .ref y) (List.mem_cons_of_mem _ List.mem_cons_self)
  obtain ⟨fs, hat, hfs⟩ := ty_obj hH hm (show pKT[2]? = some (0, 4, _) from rfl)
  obtain ⟨v4, f0, w, rfl, hwk⟩ := hfs 0 (2, 4, 0) rfl
  have hwk : σ w = some 4 := hwk
  obtain ⟨mc, a, c', N', f, p0, hatw, pf⟩ := pL_open hH rfl hI.2.1 hwk
  obtain ⟨rfl, rfl⟩ := p0
  obtain ⟨gs, haty, -⟩ := ty_obj hH hy (show pKT[9]? = some (0, 5, _) from rfl)
  have hrm := pLf_rm (w := w) hH (show pKT[9]? = some (0, 5, _) from rfl) hatw (by omega) pf
  refine gG_sp hx (i := .aload_n 0) (len := 1) (by decide +kernel) (sp_al h0) ?_
  refine (gR_getP (idx := 12) (ci := 4) (f := 0) hx rfl (by decide) uX2 (kw_at 79 (by decide +kernel))) 1 ls m _ _ _ M 0 0 (by decide +kernel) hat f0 ?_
  refine gG_sp hx (i := .aload_n 1) (len := 1) (by decide +kernel) (sp_al h1) ?_
  refine gX_cV (idx := 26) (C := (cN0 (aC c' N') (aS c' N'))) (ci := 1) (T := TJx4a65c) (N := 3) hx hl hD (mx_add hL.2.1 (by decide +kernel) rfl hrm haty (by decide)) rfl (kw_at 329 (by decide +kernel)) (kw_at 7 (by decide +kernel)) (Or.inl (kw_at 326 (by decide +kernel))) (kw_at 327 (by decide +kernel)) (kw_at 328 (by decide +kernel)) (nA := 1) (by decide +kernel) rfl ⟨by rw [hR]; exact Nat.le_of_ble_eq_true rfl, by rw [hR]; exact Nat.le_of_ble_eq_true rfl⟩ (pc := 5) (by decide +kernel) hatw hls.1 (rest := []) (Nat.zero_le 8) (by rw [hR]; show 0 + aC c' N' ≤ aC c' N'; omega) (by rw [hR]; show 0 + aS c' N' ≤ aS c' N'; omega) rfl (fun v M2 hv => ?_)
  obtain ⟨rfl, hAd⟩ := hv
  refine gG_sp hx (i := .pop) (len := 1) (by decide +kernel) rfl ?_
  obtain ⟨σ', N2, hH', hF', hL', hN'⟩ := ls_add hH hwk rfl rfl (by decide) (fun v hv => hI.2.1.1 v w hv hwk) hatw pf hy hAd
  have eN : N2 = aN c' N' := by
    unfold aN aS
    rcases hN' with ⟨e1, e2⟩ | ⟨e1, e2⟩
    · rw [if_pos e2]; exact e1
    · by_cases hlt : c' < N'
      · unfold aS at e2
        rw [if_pos hlt] at e2
        exact absurd rfl e2
      · rw [if_neg hlt]; exact e1
  rw [eN] at hL'
  have hI' := pJ_w (fun k hk => List.mem_singleton.mp hk) hF' hL' hI
  have hm2 := hF'.kinds m 2 hm
  have hy2 := hF'.kinds y 9 hy
  obtain ⟨fs2, hat2, hfs2⟩ := ty_obj hH' hm2 (show pKT[2]? = some (0, 4, _) from rfl)
  obtain ⟨v5, g1, sv, rfl⟩ := hfs2 1 (1, 0, 0) rfl
  obtain ⟨gs2, haty2, hgs2⟩ := ty_obj hH' hy2 (show pKT[9]? = some (0, 5, _) from rfl)
  obtain ⟨v6, g0, sec, rfl, -⟩ := hgs2 0 ty_f rfl
  refine gG_sp hx (i := .aload_n 0) (len := 1) (by decide +kernel) (sp_al h0) ?_
  refine gG_sp hx (i := .dup) (len := 1) (by decide +kernel) rfl ?_
  refine (gR_getP (idx := 22) (ci := 4) (f := 1) hx rfl (by decide) uX2 (kw_at 80 (by decide +kernel))) 11 ls m _ _ _ M2 _ _ (by decide +kernel) hat2 g1 ?_
  refine gG_sp hx (i := .lconst 1) (len := 1) (by decide +kernel) rfl ?_
  refine gG_sp hx (i := .aload_n 1) (len := 1) (by decide +kernel) (sp_al h1) ?_
  refine (gR_getN (idx := 30) (ci := 5) (f := 0) (host := "KnowDisk") hx rfl (by decide) uX3 (kw_at 314 (by decide +kernel))) 16 ls y _ _ _ M2 _ _ (by decide +kernel) haty2 g0 ?_
  refine gG_sp hx (i := .lshl) (len := 1) (by decide +kernel) rfl ?_
  refine gG_sp hx (i := .lor) (len := 1) (by decide +kernel) (r := [.long _, .ref m]) rfl ?_
  obtain ⟨hH3, hl3⟩ := ty_putH (f := 1) (v := .long (sv ||| (Int64.ofInt 1 <<< (sec.toInt64 &&& 63)))) hH' hm2 (show pKT[2]? = some (0, 4, _) from rfl) hat2 rfl ⟨_, rfl⟩
  refine (gR_putP (idx := 22) (ci := 4) (f := 1) hx rfl (by decide) uX2 tyX2 tyX2_ok nmX2 rfl (kw_at 80 (by decide +kernel)) rfl) 21 ls m fs2 _ [] M2 _ _ (by decide +kernel) hat2 hl3 rfl rfl ?_
  have hFF : ty_FM [(2, 1), (4, 0), (4, 1), (4, 2), (10, 0)] [10] σ M σ' (mh_set M2 m (.inr (4, fs2.set 1 (.long (sv ||| (Int64.ofInt 1 <<< (sec.toInt64 &&& 63))))))) := (ty_FMw (by decide) (by decide) hF').tr (ty_F_set hm2 (fun i hi => ty_p_set hat2.2 i (fun q => hi (by rw [q]; decide))))
  refine hr 24 ls .return_ none _ _ _ (by decide +kernel) ⟨rfl, rfl⟩ (hp none _ σ' hFF hH3 ⟨?_, ?_⟩ rfl trivial) (by show 0 + aC c' N' ≤ aC c' N'; omega) (by show 0 + aS c' N' ≤ aS c' N'; omega)
  · exact ty_sIset (pR_s e t) hm2 (fun i hi => ty_p_set hat2.2 i (fun q => by rw [q] at hi; exact absurd hi (by decide))) hI'.1
  · exact pK_set pKK_s hm2 (pK_no (by decide)) hI'.2
theorem mx_X3_init {l : Launch} {D : va_G} {tys : List (ClassId × FieldType)} {M : mh_M} {q r : Nat} {z : Int32} {v0 v1 : Value} (hat : mh_at M q (.inr (5, [v0, v1]))) : mh_Met vwCl tys l D yX3_init [Cond.code yX3_init cX3_init 3 none] (ty_rm 1 20 cZ0) [.ref q, .int z, .ref r] M (fun v M' => v = none ∧ M' = mh_set M q (.inr (5, [.int z, .ref r]))) := by
  refine ty_ofX (by decide +kernel) (Nat.le_refl 3) ?_
  intro x ls hx hl hnm hR hD hls hr
  have h0 : ls[((0 : Fin 4) : Nat)]? = some (.val (.ref q)) := hls.2.2 (0, .ref q) List.mem_cons_self
  have h1 : ls[((1 : Fin 4) : Nat)]? = some (.val (.int z)) := hls.2.2 (1, .int z) (List.mem_cons_of_mem _ List.mem_cons_self)
  have h2 : ls[((2 : Fin 4) : Nat)]? = some (.val (.ref r)) := hls.2.2 (2, .ref r) (List.mem_cons_of_mem _ (List.mem_cons_of_mem _ List.mem_cons_self))
  refine gG_sp hx (i := .aload_n 0) (len := 1) (by decide +kernel) (sp_al h0) ?_
  refine gK_obj (idx := 1) hx (kw_at 312 (by decide +kernel)) (kw_at 29 (by decide +kernel)) (kw_at 30 (by decide +kernel)) ⟨by rw [hR]; exact Nat.le_of_ble_eq_true rfl, by rw [hR]; exact Nat.le_of_ble_eq_true rfl⟩ (by decide +kernel) hls.1 (Nat.zero_le 8) (by rw [hR]; decide) (by rw [hR]; decide) ?_
  refine gG_sp hx (i := .aload_n 0) (len := 1) (by decide +kernel) (sp_al h0) ?_
  refine gG_sp hx (i := .iload_n 1) (len := 1) (by decide +kernel) (sp_il h1) ?_
  refine (gR_putI (idx := 7) (ci := 5) (f := 0) hx hnm rfl (by decide) uX3 tyX3 tyX3_ok nmX3 rfl rfl (kw_at 313 (by decide +kernel)) rfl) 6 ls q [v0, v1] (.int z) [] M 0 0 (by decide +kernel) hat (by show 0 < 2; omega) rfl rfl ?_
  have hat1 : mh_at (mh_set M q (.inr (5, [.int z, v1]))) q (.inr (5, [.int z, v1])) := hat.set_self
  refine gG_sp hx (i := .aload_n 0) (len := 1) (by decide +kernel) (sp_al h0) ?_
  refine gG_sp hx (i := .aload_n 2) (len := 1) (by decide +kernel) (sp_al h2) ?_
  refine (gR_putI (idx := 13) (ci := 5) (f := 1) hx hnm rfl (by decide) uX3 tyX3 tyX3_ok nmX3 rfl rfl (kw_at 315 (by decide +kernel)) rfl) 11 ls q [.int z, v1] (.ref r) [] _ 0 0 (by decide +kernel) hat1 (by show 1 < 2; omega) rfl rfl ?_
  refine hr 14 ls .return_ none _ 0 0 (by decide +kernel) ⟨rfl, rfl⟩ ⟨rfl, ?_⟩ (Nat.le_refl _) (Nat.le_refl _)
  show mh_set (mh_set M q (.inr (5, [.int z, v1]))) q (.inr (5, [.int z, .ref r])) = _
  rw [mh_set_set]
