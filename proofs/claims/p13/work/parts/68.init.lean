/-! KnowDisk's constructor -/
theorem okO {tys : List (ClassId × FieldType)} {σ : ty_K} {ci : Nat} {ts : List ty_T} {fs : List Value} (h : ∀ (i : Nat) (t : ty_T), ts[i]? = some t → ∃ v : Value, fs[i]? = some v ∧ ty_has σ 0 ty_no v t) : ty_ok tys σ (0, ci, ts) (.inr (ci, fs)) :=
  ⟨fun _ => ⟨fs, rfl, h⟩, fun j q hj => by have q : 0 = 1 + j := q; omega, fun j q => by have q : 0 = 20 + j := q; omega⟩
set_option maxRecDepth 100000 in
set_option maxHeartbeats 4000000 in
theorem mx_X4_init {l : Launch} {D : va_G} {tys : List (ClassId × FieldType)} {cO : ClassId} (hL : pGL cO tys pKw pKk) {M0 : mh_M} {σ : ty_K} {q : Nat} {nn : Int32} (hq : mh_at M0 q (.inr (6, [.long 0, .null, .null, .null, .null, .null, .int 0, .int 0, .int 0, .long 0, .long 0, .null, .long 0]))) (hσq : σ q = none) (hH0 : ty_H tys pKT σ M0) (hno : ∀ a k, σ a = some k → k ≠ 4 ∧ k ≠ 5) :
    mh_Met vwCl tys l D yX4_init [Cond.code yX4_init cX4_init 3 none] (ty_rm 5 102 (cN0 9 4138)) [.ref q, .int nn] M0 (fun v M' => v = none ∧ ∃ σ', ty_FM [] [3, 6, 5, 4, 2, 7, 1, 7, 1, 0] σ M0 σ' M' ∧ ty_H tys pKT σ' M' ∧ pKK D cO pKw pKk σ' M' ∧ σ' q = some 0 ∧ ty_p (M'.2 q) 7 = .inr (some (.int 0))) := by
  refine ty_ofX (by decide +kernel) (by show 2 ≤ 3; omega) ?_
  intro x ls hx hl hnm hR hD hls hr
  obtain ⟨nb, ni, nz⟩ := pNA hL.1 hx
  have ht2 := hL.1
  obtain ⟨cB, cI, cZ, cJ, rr, rfl⟩ := ht2
  have h0 : ls[((0 : Fin 4) : Nat)]? = some (.val (.ref q)) := hls.2.2 (0, .ref q) List.mem_cons_self
  have h1 : ls[((1 : Fin 4) : Nat)]? = some (.val (.int nn)) := hls.2.2 (1, .int nn) (List.mem_cons_of_mem _ List.mem_cons_self)
  have hX : mx_has M0 q M0 [(q, .inr (6, [.long 0, .null, .null, .null, .null, .null, .int 0, .int 0, .int 0, .long 0, .long 0, .null, .long 0]))] := ⟨fun p hp => by rw [List.mem_singleton.mp hp]; exact hq, by simp, fun b hb => ⟨hb, fun _ => rfl⟩, fun p hp => by rw [List.mem_singleton.mp hp]; exact Or.inl rfl⟩
  refine gG_sp hx (i := .aload_n 0) (len := 1) (by decide +kernel) (sp_al h0) ?_
  refine gK_obj (idx := 1) hx (kw_at 28 (by decide +kernel)) (kw_at 29 (by decide +kernel)) (kw_at 30 (by decide +kernel)) ⟨by rw [hR]; exact Nat.le_of_ble_eq_true rfl, by rw [hR]; exact Nat.le_of_ble_eq_true rfl⟩ (by decide +kernel) hls.1 (Nat.zero_le 8) (by rw [hR]; decide) (by rw [hR]; decide) ?_
  refine gG_sp hx (i := .bipush 8) (len := 2) (by decide +kernel) rfl ?_
  refine gG_sp hx (i := .iload_n 1) (len := 1) (by decide +kernel) (sp_il h1) ?_
  refine gG_sp hx (i := .bipush 57) (len := 2) (by decide +kernel) rfl ?_
  refine gX_cS (idx := 9) (C := cZ0) hx hl hD (mx_floorMod (by decide)) (kw_at 33 (by decide +kernel)) (kw_at 2 (by decide +kernel)) (Or.inl (kw_at 31 (by decide +kernel))) (kw_at 32 (by decide +kernel)) (nA := 2) (by decide +kernel) rfl ⟨by rw [hR]; decide, by rw [hR]; decide⟩ (pc := 9) (by decide +kernel) hls.1 (rest := [.int (Int8.ofInt 8).toInt32]) (by show 1 ≤ 8; omega) (by rw [hR]; decide) (by rw [hR]; decide) (fun v M2 hv => ?_)
  obtain ⟨⟨rm, rfl⟩, rfl⟩ := hv
  refine gG_sp hx (i := .iadd) (len := 1) (by decide +kernel) rfl ?_
  refine gG_istore hx hls.1 hls.2.1 (i := 2) (len := 1) (Or.inr ⟨2, by decide +kernel, rfl, rfl⟩) (by decide) (fun ls1 p1 => ?_)
  have h0 : ls1[((0 : Fin 4) : Nat)]? = some (.val (.ref q)) := ty_kp p1 h0 (by omega) (Or.inl rfl)
  have h2 := p1.2.2.1
  refine gG_sp hx (i := .aload_n 0) (len := 1) (by decide +kernel) (sp_al (j := 0) h0) ?_
  refine gR_ldlX (idx := 15) hx (v := -1) (kw_at 34 (by decide +kernel)) 15 ls1 _ M2 0 0 (by decide +kernel) ?_
  refine gG_sp hx (i := .bipush 64) (len := 2) (by decide +kernel) rfl ?_
  refine gG_sp hx (i := .iload_n 2) (len := 1) (by decide +kernel) (sp_il (j := 2) h2) ?_
  refine gG_sp hx (i := .isub) (len := 1) (by decide +kernel) rfl ?_
  refine gG_sp hx (i := .lushr) (len := 1) (by decide +kernel) rfl ?_
  refine gR_ldlX (idx := 17) hx (v := -4) (kw_at 35 (by decide +kernel)) 23 ls1 _ M2 0 0 (by decide +kernel) ?_
  refine gG_sp hx (i := .land) (len := 1) (by decide +kernel) rfl ?_
  refine gK_put (gR_putI (idx := 19) (ci := 6) (f := 0) hx hnm rfl (by decide) uX4 tyX4 tyX4_ok nmX4 rfl rfl (kw_at 107 (by decide +kernel)) rfl) (by decide +kernel) 0 hX rfl (by show 0 < 13; omega) rfl rfl (fun M hX => ?_)
  refine gG_sp hx (i := .aload_n 0) (len := 1) (by decide +kernel) (sp_al (j := 0) h0) ?_
  refine (gR_newP (idx := 23) (ci := 2) (N := 1) (fs := [.null]) hx rfl uX0 tyX0 tyX0_ok (by decide) (kw_at 36 (by decide +kernel)) (kw_at 37 (by decide +kernel)) (kw_at 3 (by decide +kernel))) _ ls1 [.ref q] _ _ _ (by decide +kernel) (by rw [hR]; decide) (by rw [hR]; decide) (fun s1 hs1 => ?_)
  replace hX := mx_new (e := .inr (2, [.null])) hX hs1
  refine gG_sp hx (i := .dup) (len := 1) (by decide +kernel) rfl ?_
  refine gX_cI (idx := 25) (K := (cN0 1 2048)) hx hl hD (mx_X0_init hL.1 (mx_at 0 hX rfl)) rfl (kw_at 40 (by decide +kernel)) (kw_at 3 (by decide +kernel)) (Or.inr ⟨"KnowDisk", (kw_at 38 (by decide +kernel))⟩) (kw_at 39 (by decide +kernel)) (nA := 0) (by decide +kernel) rfl ⟨by rw [hR]; exact Nat.le_of_ble_eq_true rfl, by rw [hR]; exact Nat.le_of_ble_eq_true rfl⟩ (by decide +kernel) p1.1 (rest := [.ref s1, .ref q]) (by show 2 ≤ 8; omega) (by rw [hR]; decide) (by rw [hR]; decide) rfl (fun v M2 hv => ?_)
  obtain ⟨rfl, r1, cr1, tr1, hr1, rfl⟩ := hv
  replace hX := mx_set (e := .inr (2, [.ref r1])) 1 (mx_new (e := .inl (cr1, 2048, .inl (fun _ => 0))) hX hr1) rfl
  refine gK_put (gR_putI (idx := 26) (ci := 6) (f := 1) hx hnm rfl (by decide) uX4 tyX4 tyX4_ok nmX4 rfl rfl (kw_at 108 (by decide +kernel)) rfl) (by decide +kernel) 2 hX rfl (by show 1 < 13; omega) rfl rfl (fun M hX => ?_)
  refine gG_sp hx (i := .aload_n 0) (len := 1) (by decide +kernel) (sp_al (j := 0) h0) ?_
  refine (gR_newP (idx := 23) (ci := 2) (N := 1) (fs := [.null]) hx rfl uX0 tyX0 tyX0_ok (by decide) (kw_at 36 (by decide +kernel)) (kw_at 37 (by decide +kernel)) (kw_at 3 (by decide +kernel))) _ ls1 [.ref q] _ _ _ (by decide +kernel) (by rw [hR]; decide) (by rw [hR]; decide) (fun s2 hs2 => ?_)
  replace hX := mx_new (e := .inr (2, [.null])) hX hs2
  refine gG_sp hx (i := .dup) (len := 1) (by decide +kernel) rfl ?_
  refine gX_cI (idx := 25) (K := (cN0 1 2048)) hx hl hD (mx_X0_init hL.1 (mx_at 0 hX rfl)) rfl (kw_at 40 (by decide +kernel)) (kw_at 3 (by decide +kernel)) (Or.inr ⟨"KnowDisk", (kw_at 38 (by decide +kernel))⟩) (kw_at 39 (by decide +kernel)) (nA := 0) (by decide +kernel) rfl ⟨by rw [hR]; exact Nat.le_of_ble_eq_true rfl, by rw [hR]; exact Nat.le_of_ble_eq_true rfl⟩ (by decide +kernel) p1.1 (rest := [.ref s2, .ref q]) (by show 2 ≤ 8; omega) (by rw [hR]; decide) (by rw [hR]; decide) rfl (fun v M2 hv => ?_)
  obtain ⟨rfl, r2, cr2, tr2, hr2, rfl⟩ := hv
  replace hX := mx_set (e := .inr (2, [.ref r2])) 1 (mx_new (e := .inl (cr2, 2048, .inl (fun _ => 0))) hX hr2) rfl
  refine gK_put (gR_putI (idx := 30) (ci := 6) (f := 2) hx hnm rfl (by decide) uX4 tyX4 tyX4_ok nmX4 rfl rfl (kw_at 109 (by decide +kernel)) rfl) (by decide +kernel) 4 hX rfl (by show 2 < 13; omega) rfl rfl (fun M hX => ?_)
  refine gG_sp hx (i := .aload_n 0) (len := 1) (by decide +kernel) (sp_al (j := 0) h0) ?_
  refine (gR_newP (idx := 33) (ci := 4) (N := 2) (fs := [.null, .long 0]) hx rfl uX2 tyX2 tyX2_ok (by decide) (kw_at 47 (by decide +kernel)) (kw_at 48 (by decide +kernel)) (kw_at 4 (by decide +kernel))) _ ls1 [.ref q] _ _ _ (by decide +kernel) (by rw [hR]; decide) (by rw [hR]; decide) (fun wt hwt => ?_)
  replace hX := mx_new (e := .inr (4, [.null, .long 0])) hX hwt
  refine gG_sp hx (i := .dup) (len := 1) (by decide +kernel) rfl ?_
  refine gX_cI (idx := 35) (K := (cN0 1 3)) hx hl hD (mx_X2_init (mx_at 0 hX rfl)) rfl (kw_at 51 (by decide +kernel)) (kw_at 4 (by decide +kernel)) (Or.inr ⟨"KnowDisk", (kw_at 49 (by decide +kernel))⟩) (kw_at 50 (by decide +kernel)) (nA := 0) (by decide +kernel) rfl ⟨by rw [hR]; exact Nat.le_of_ble_eq_true rfl, by rw [hR]; exact Nat.le_of_ble_eq_true rfl⟩ (by decide +kernel) p1.1 (rest := [.ref wt, .ref q]) (by show 2 ≤ 8; omega) (by rw [hR]; decide) (by rw [hR]; decide) rfl (fun v M2 hv => ?_)
  obtain ⟨rfl, w, hw, rfl⟩ := hv
  replace hX := mx_set (e := .inr (4, [.ref w, .long 0])) 1 (mx_new (e := lE (nI 0) (kem D) 0) hX hw) rfl
  refine gK_put (gR_putI (idx := 36) (ci := 6) (f := 3) hx hnm rfl (by decide) uX4 tyX4 tyX4_ok nmX4 rfl rfl (kw_at 110 (by decide +kernel)) rfl) (by decide +kernel) 6 hX rfl (by show 3 < 13; omega) rfl rfl (fun M hX => ?_)
  refine gG_sp hx (i := .aload_n 0) (len := 1) (by decide +kernel) (sp_al (j := 0) h0) ?_
  refine (gR_newP (idx := 40) (ci := 1) (N := 3) (fs := [.int 0, .null, .int 0]) hx rfl uJx4a65c tyJx4a65c tyJx4a65c_ok (by decide) (kw_at 86 (by decide +kernel)) (kw_at 54 (by decide +kernel)) (kw_at 7 (by decide +kernel))) _ ls1 [.ref q] _ _ _ (by decide +kernel) (by rw [hR]; decide) (by rw [hR]; decide) (fun kl hkl => ?_)
  replace hX := mx_new (e := .inr (1, [.int 0, .null, .int 0])) hX hkl
  refine gG_sp hx (i := .dup) (len := 1) (by decide +kernel) rfl ?_
  refine gX_cI (idx := 42) (K := cZ0) hx hl hD (mx_Li (mx_at 0 hX rfl)) rfl (kw_at 57 (by decide +kernel)) (kw_at 7 (by decide +kernel)) (Or.inl (kw_at 87 (by decide +kernel))) (kw_at 56 (by decide +kernel)) (nA := 0) (by decide +kernel) rfl ⟨by rw [hR]; exact Nat.le_of_ble_eq_true rfl, by rw [hR]; exact Nat.le_of_ble_eq_true rfl⟩ (by decide +kernel) p1.1 (rest := [.ref kl, .ref q]) (by show 2 ≤ 8; omega) (by rw [hR]; decide) (by rw [hR]; decide) rfl (fun v M2 hv => ?_)
  obtain ⟨rfl, rfl⟩ := hv
  replace hX := mx_set (e := lE (nI 0) (kem D) 0) 0 hX rfl
  refine gK_put (gR_putI (idx := 43) (ci := 6) (f := 4) hx hnm rfl (by decide) uX4 tyX4 tyX4_ok nmX4 rfl rfl (kw_at 111 (by decide +kernel)) rfl) (by decide +kernel) 7 hX rfl (by show 4 < 13; omega) rfl rfl (fun M hX => ?_)
  refine gG_sp hx (i := .aload_n 0) (len := 1) (by decide +kernel) (sp_al (j := 0) h0) ?_
  refine gG_sp hx (i := .bipush 30) (len := 2) (by decide +kernel) rfl ?_
  refine gK_nai (ni _ _ rfl) (by decide +kernel) hX 30 (ty_cb (by omega) (by omega)) (by omega) (by rw [hR]; decide) (by rw [hR]; decide) (fun p M hX => ?_)
  refine gK_put (gR_putI (idx := 47) (ci := 6) (f := 5) hx hnm rfl (by decide) uX4 tyX4 tyX4_ok nmX4 rfl rfl (kw_at 112 (by decide +kernel)) rfl) (by decide +kernel) 8 hX rfl (by show 5 < 13; omega) rfl rfl (fun M hX => ?_)
  refine gG_sp hx (i := .aload_n 0) (len := 1) (by decide +kernel) (sp_al (j := 0) h0) ?_
  refine gK_get (gR_getP (idx := 47) (ci := 6) (f := 5) hx rfl (by decide) uX4 (kw_at 112 (by decide +kernel))) (by decide +kernel) 8 hX rfl rfl ?_
  refine gG_sp hx (i := .iconst (-1)) (len := 1) (by decide +kernel) rfl ?_
  refine gX_cS (idx := 51) (C := cZ0) hx hl hD (mx_fill (f := fun _ => 0) rfl (mx_at 0 hX rfl) (by omega)) (kw_at 90 (by decide +kernel)) (kw_at 8 (by decide +kernel)) (Or.inl (kw_at 88 (by decide +kernel))) (kw_at 89 (by decide +kernel)) (nA := 2) (by decide +kernel) rfl ⟨by rw [hR]; decide, by rw [hR]; decide⟩ (pc := 87) (by decide +kernel) p1.1 (rest := []) (Nat.zero_le 8) (by rw [hR]; decide) (by rw [hR]; decide) (fun v M2 hv => ?_)
  obtain ⟨rfl, gp, rfl⟩ := hv
  replace hX := mx_set (e := .inl (cI, 30, .inl gp)) 0 hX rfl
  refine gG_sp hx (i := .aload_n 0) (len := 1) (by decide +kernel) (sp_al (j := 0) h0) ?_
  refine (gR_newP (idx := 57) (ci := 3) (N := 2) (fs := [.int 0, .long 0]) hx rfl uX1 tyX1 tyX1_ok (by decide) (kw_at 91 (by decide +kernel)) (kw_at 92 (by decide +kernel)) (kw_at 9 (by decide +kernel))) _ ls1 [.ref q] _ _ _ (by decide +kernel) (by rw [hR]; decide) (by rw [hR]; decide) (fun st hst => ?_)
  replace hX := mx_new (e := .inr (3, [.int 0, .long 0])) hX hst
  refine gG_sp hx (i := .dup) (len := 1) (by decide +kernel) rfl ?_
  refine gG_sp hx (i := .iconst 0) (len := 1) (by decide +kernel) rfl ?_
  refine gG_sp hx (i := .lconst 0) (len := 1) (by decide +kernel) rfl ?_
  refine gX_cI (idx := 59) (K := cZ0) hx hl hD (mx_X1_init (mx_at 0 hX rfl)) rfl (kw_at 95 (by decide +kernel)) (kw_at 9 (by decide +kernel)) (Or.inr ⟨"KnowDisk", (kw_at 93 (by decide +kernel))⟩) (kw_at 94 (by decide +kernel)) (nA := 2) (by decide +kernel) rfl ⟨by rw [hR]; exact Nat.le_of_ble_eq_true rfl, by rw [hR]; exact Nat.le_of_ble_eq_true rfl⟩ (by decide +kernel) p1.1 (rest := [.ref st, .ref q]) (by show 2 ≤ 8; omega) (by rw [hR]; decide) (by rw [hR]; decide) rfl (fun v M2 hv => ?_)
  obtain ⟨rfl, rfl⟩ := hv
  refine gK_put (gR_putP (idx := 62) (ci := 6) (f := 11) hx rfl (by decide) uX4 tyX4 tyX4_ok nmX4 rfl (kw_at 118 (by decide +kernel)) rfl) (by decide +kernel) 9 (mx_set 0 hX rfl) rfl (by show 11 < 13; omega) rfl rfl (fun M hX => ?_)
  refine gG_sp hx (i := .aload_n 0) (len := 1) (by decide +kernel) (sp_al (j := 0) h0) ?_
  refine gG_sp hx (i := .iconst 1) (len := 1) (by decide +kernel) rfl ?_
  refine gK_put (gR_putP (idx := 66) (ci := 6) (f := 6) hx rfl (by decide) uX4 tyX4 tyX4_ok nmX4 rfl (kw_at 113 (by decide +kernel)) rfl) (by decide +kernel) 9 hX rfl (by show 6 < 13; omega) rfl rfl (fun M hX => ?_)
  have hnd := hX.2.1
  have hin : ∀ a k, (a, k) ∈ ([(st, 3), (p, 6), (kl, 5), (w, 4), (wt, 2), (r2, 7), (s2, 1), (r1, 7), (s1, 1), (q, 0)] : List (Nat × Nat)) → ty_add σ [(st, 3), (p, 6), (kl, 5), (w, 4), (wt, 2), (r2, 7), (s2, 1), (r1, 7), (s1, 1), (q, 0)] a = some k := fun a k h => ty_add_in (L := [(st, 3), (p, 6), (kl, 5), (w, 4), (wt, 2), (r2, 7), (s2, 1), (r1, 7), (s1, 1), (q, 0)]) hnd h
  have hnb : ∀ a k, ty_add σ [(st, 3), (p, 6), (kl, 5), (w, 4), (wt, 2), (r2, 7), (s2, 1), (r1, 7), (s1, 1), (q, 0)] a = some k → k = 4 ∨ k = 5 → (a, k) ∈ ([(st, 3), (p, 6), (kl, 5), (w, 4), (wt, 2), (r2, 7), (s2, 1), (r1, 7), (s1, 1), (q, 0)] : List (Nat × Nat)) := fun a k h hk => by
    rcases ty_add_of h with r | r
    · exact r
    · have := hno a k r
      omega
  have e0 : cr1 = cB := by cases tr1; rfl
  have e1 : cr2 = cB := by cases tr2; rfl
  subst e0
  subst e1
  obtain ⟨hH1, hF1⟩ := ty_H_add (L := [(st, 3), (p, 6), (kl, 5), (w, 4), (wt, 2), (r2, 7), (s2, 1), (r1, 7), (s1, 1), (q, 0)]) hH0 hX hσq hnd (pcons ⟨_, List.mem_of_getElem? (i := 0) rfl, _, rfl, okO (fun i t hi => by
    match i, hi with
    | 0, hi => cases hi; exact ⟨_, rfl, ty_any _⟩
    | 1, hi => cases hi; exact ⟨_, rfl, _, rfl⟩
    | i + 2, hi => cases hi)⟩ (pcons ⟨_, List.mem_of_getElem? (i := 1) rfl, _, rfl, ty_ok_ar (ft := .int) rfl (by omega) rfl (fun j hj => ty_any _)⟩ (pcons ⟨_, List.mem_of_getElem? (i := 2) rfl, _, rfl, okE⟩ (pcons ⟨_, List.mem_of_getElem? (i := 3) rfl, _, rfl, okE⟩ (pcons ⟨_, List.mem_of_getElem? (i := 4) rfl, _, rfl, okO (fun i t hi => by
    match i, hi with
    | 0, hi => cases hi; exact ⟨_, rfl, w, rfl, hin w 4 (List.mem_of_getElem? (i := 3) rfl)⟩
    | 1, hi => cases hi; exact ⟨_, rfl, _, rfl⟩
    | i + 2, hi => cases hi)⟩ (pcons ⟨_, List.mem_of_getElem? (i := 5) rfl, _, rfl, ty_ok_ar (ft := .byte) rfl (by omega) rfl (fun j hj => ⟨0, rfl, by decide, by decide⟩)⟩ (pcons ⟨_, List.mem_of_getElem? (i := 6) rfl, _, rfl, okO (fun i t hi => by
    match i, hi with
    | 0, hi => cases hi; exact ⟨_, rfl, r2, rfl, hin r2 7 (List.mem_of_getElem? (i := 5) rfl)⟩
    | i + 1, hi => cases hi)⟩ (pcons ⟨_, List.mem_of_getElem? (i := 7) rfl, _, rfl, ty_ok_ar (ft := .byte) rfl (by omega) rfl (fun j hj => ⟨0, rfl, by decide, by decide⟩)⟩ (pcons ⟨_, List.mem_of_getElem? (i := 8) rfl, _, rfl, okO (fun i t hi => by
    match i, hi with
    | 0, hi => cases hi; exact ⟨_, rfl, r1, rfl, hin r1 7 (List.mem_of_getElem? (i := 7) rfl)⟩
    | i + 1, hi => cases hi)⟩ (pcons ⟨_, List.mem_of_getElem? (i := 9) rfl, _, rfl, okO (fun i t hi => by
    match i, hi with
    | 0, hi => cases hi; exact ⟨_, rfl, _, rfl⟩
    | 1, hi => cases hi; exact ⟨_, rfl, s1, rfl, hin s1 1 (List.mem_of_getElem? (i := 8) rfl)⟩
    | 2, hi => cases hi; exact ⟨_, rfl, s2, rfl, hin s2 1 (List.mem_of_getElem? (i := 6) rfl)⟩
    | 3, hi => cases hi; exact ⟨_, rfl, wt, rfl, hin wt 2 (List.mem_of_getElem? (i := 4) rfl)⟩
    | 4, hi => cases hi; exact ⟨_, rfl, kl, rfl, hin kl 5 (List.mem_of_getElem? (i := 2) rfl)⟩
    | 5, hi => cases hi; exact ⟨_, rfl, p, rfl, hin p 6 (List.mem_of_getElem? (i := 1) rfl)⟩
    | 6, hi => cases hi; exact ⟨_, rfl, _, rfl, by decide, by decide⟩
    | 7, hi => cases hi; exact ⟨_, rfl, 0, rfl, by decide, by decide⟩
    | 8, hi => cases hi; exact ⟨_, rfl, 0, rfl, by decide, by decide⟩
    | 9, hi => cases hi; exact ⟨_, rfl, _, rfl⟩
    | 10, hi => cases hi; exact ⟨_, rfl, _, rfl⟩
    | 11, hi => cases hi; exact ⟨_, rfl, st, rfl, hin st 3 (List.mem_of_getElem? (i := 0) rfl)⟩
    | 12, hi => cases hi; exact ⟨_, rfl, _, rfl⟩
    | i + 13, hi => cases hi)⟩ pnil))))))))))
  have hq' := mx_at 9 hX rfl
  refine hr 108 ls1 .return_ none M _ _ (by decide +kernel) ⟨rfl, rfl⟩ ⟨rfl, _, hF1, hH1, ⟨?_, ?_⟩, hin q 0 (List.mem_of_getElem? (i := 9) rfl), by rw [hq'.2]; rfl⟩ (Nat.le_refl _) (Nat.le_refl _)
  · exact pL_mk (w := w) (f := fun _ => none) (N := 0) (fun v hv => by have := hnb v 4 hv (Or.inl rfl); simpa using this) (mx_at 3 hX rfl).2 ⟨Or.inl ⟨rfl, rfl, rfl, fun _ => rfl⟩, fun i hi => by omega, fun i y hy => by cases hy⟩ ⟨by omega, by omega⟩
  · exact pL_mk (w := kl) (f := fun _ => none) (N := 0) (fun v hv => by have := hnb v 5 hv (Or.inr rfl); simpa using this) (mx_at 2 hX rfl).2 ⟨Or.inl ⟨rfl, rfl, rfl, fun _ => rfl⟩, fun i hi => by omega, fun i y hy => by cases hy⟩ ⟨by omega, by omega⟩
