/-! ArrayList: add, clear, remove, the constructors -/
theorem lRm_set {D : va_G} {cO : ClassId} {ci : Nat} {M : mh_M} {w c N a nc ns : Nat} {f : Nat → Option Nat} (hci : ci ≠ 1) (h : lRm D cO ci M w c N f a nc ns) : ∃ mc : Int32, mh_at M w (lE mc a c) ∧ ∀ mc' : Int32, lRm D cO ci (mh_set M w (lE mc' a c)) w c N f a nc ns := by
  obtain ⟨mc, hat, h⟩ := h
  refine ⟨mc, hat, fun mc' => ⟨mc', hat.set_self, ?_⟩⟩
  have hne : ∀ {b : Nat} {n : Nat} {g : Nat → Option Nat}, mh_at M b (qA cO n g) → b ≠ w := fun hb => hb.ne hat (by intro z; cases z)
  rcases h with ⟨ha, hcN, hN, r1, r2⟩ | ⟨ha, hcN, hN1, hN, hel, r1, r2⟩ | h
  · exact Or.inl ⟨ha.set_ne (hne ha), hcN, hN, r1, r2⟩
  · refine Or.inr (Or.inl ⟨ha.set_ne (hne ha), hcN, hN1, hN, fun i hi y hy => ?_, r1, r2⟩)
    obtain ⟨vs, hv⟩ := hel i hi y hy
    exact ⟨vs, hv.set_ne (hv.ne hat (by intro z; cases z; exact hci rfl))⟩
  · exact Or.inr (Or.inr h)
theorem mx_add {l : Launch} {D : va_G} {tys : List (ClassId × FieldType)} {cO : ClassId} (hO : ty_tyO tys cO) {C : String} {T : u_T} {F ci : Nat} (hw : Cond.castable C "java/lang/Object" ∈ kSW) (hc : vwCl[ci]? = some (C, T, F)) {M : mh_M} {w a c N nc ns e : Nat} {f : Nat → Option Nat} {vs : List Value} (hL : lRm D cO ci M w c N f a nc ns) (he : mh_at M e (.inr (ci, vs))) (hci : ci ≠ 1) : mh_Met vwCl tys l D yJx4a65c_add_9ea2d [Cond.code yJx4a65c_add_9ea2d cJx4a65c_add_9ea2d 2 ((some .boolean))] (ty_rm 6 136 (cN0 nc ns)) [.ref w, .ref e] M (fun v M' => v = some (.int (Int32.ofInt 1)) ∧ lAd cO M w e a c N ns f M') := by
  obtain ⟨mc, hat, hset⟩ := lRm_set hci hL
  have hew : e ≠ w := he.ne hat (by intro z; cases z; exact hci rfl)
  refine ty_ofX (by decide +kernel) (Nat.le_refl 2) ?_
  intro x ls hx hl hnm hR hD hls hr
  have h0 : ls[((0 : Fin 4) : Nat)]? = some (.val (.ref w)) := hls.2.2 (0, .ref w) List.mem_cons_self
  have h1 : ls[((1 : Fin 4) : Nat)]? = some (.val (.ref e)) := hls.2.2 (1, .ref e) (List.mem_cons_of_mem _ List.mem_cons_self)
  refine gG_sp hx (i := .aload_n 0) (len := 1) (by decide +kernel) (sp_al h0) ?_
  refine gG_sp hx (i := .dup) (len := 1) (by decide +kernel) rfl ?_
  refine (gR_getPS (idx := 63) (ci := 1) (f := 0) (ref := "java/util/ArrayList") hx rfl (by decide) uJx4a65c (kw_at 70 (by decide +kernel)) (kw_at 71 (by decide +kernel))) 2 ls w _ _ _ M 0 0 (by decide +kernel) hat rfl ?_
  refine gG_sp hx (i := .iconst 1) (len := 1) (by decide +kernel) rfl ?_
  refine gG_sp hx (i := .iadd) (len := 1) (by decide +kernel) rfl ?_
  refine (gR_putPS (idx := 63) (ci := 1) (f := 0) (ref := "java/util/ArrayList") hx rfl (by decide) uJx4a65c tyJx4a65c tyJx4a65c_ok nmJx4a65c rfl (kw_at 70 (by decide +kernel)) (kw_at 71 (by decide +kernel)) rfl) 7 ls w [.int mc, .ref a, .int (nI c)] (.int (mc + Int32.ofInt 1)) [] M 0 0 (by decide +kernel) hat (by show 0 < 3; omega) rfl rfl ?_
  have hat1 : mh_at (mh_set M w (lE (mc + Int32.ofInt 1) a c)) w (lE (mc + Int32.ofInt 1) a c) := hat.set_self
  show gG x vwCl 10 ls [] (mh_set M w (lE (mc + Int32.ofInt 1) a c)) 0 0
  refine gG_sp hx (i := .aload_n 0) (len := 1) (by decide +kernel) (sp_al h0) ?_
  refine gG_sp hx (i := .aload_n 1) (len := 1) (by decide +kernel) (sp_al h1) ?_
  refine gG_sp hx (i := .aload_n 0) (len := 1) (by decide +kernel) (sp_al h0) ?_
  refine (gR_getP (idx := 9) (ci := 1) (f := 1) hx rfl (by decide) uJx4a65c (kw_at 67 (by decide +kernel))) 13 ls w _ _ _ _ 0 0 (by decide +kernel) hat1 rfl ?_
  refine gG_sp hx (i := .aload_n 0) (len := 1) (by decide +kernel) (sp_al h0) ?_
  refine (gR_getP (idx := 48) (ci := 1) (f := 2) hx rfl (by decide) uJx4a65c (kw_at 68 (by decide +kernel))) 17 ls w _ _ _ _ 0 0 (by decide +kernel) hat1 rfl ?_
  refine gX_cV (idx := 131) (C := (cN0 nc ns)) (ci := 1) (T := TJx4a65c) (N := 3) hx hl hD (mx_add3 hO hw hc (hset (mc + Int32.ofInt 1)) (he.set_ne hew) hew hci) rfl (kw_at 333 (by decide +kernel)) (kw_at 7 (by decide +kernel)) (Or.inl (kw_at 330 (by decide +kernel))) (kw_at 332 (by decide +kernel)) (kw_sl 24 (by decide +kernel)) (nA := 3) (by decide +kernel) rfl ⟨by rw [hR]; exact Nat.le_of_ble_eq_true rfl, by rw [hR]; exact Nat.le_of_ble_eq_true rfl⟩ (pc := 20) (by decide +kernel) hat1 hls.1 (rest := []) (Nat.zero_le 8) (by rw [hR]; show 0 + nc ≤ nc; omega) (by rw [hR]; show 0 + ns ≤ ns; omega) rfl (fun v M2 hv => ?_)
  obtain ⟨rfl, q, N', g, mc', b1, b2, b3, b4, b5, b6, b7⟩ := hv
  refine gG_sp hx (i := .iconst 1) (len := 1) (by decide +kernel) rfl ?_
  refine hr 24 ls .ireturn (some (.int (Int32.ofInt 1))) M2 _ _ (by decide +kernel) ⟨rfl, _, rfl, rfl⟩ ⟨rfl, q, N', g, mc', b1, b2, b3, b4, b5, b6, fun b hb => ?_⟩ (by show 0 + nc ≤ nc; omega) (by show 0 + ns ≤ ns; omega)
  obtain ⟨c1, c2⟩ := b7 b hb
  exact ⟨c1, fun n1 n2 => (c2 n1 n2).trans (va_up_ne _ _ n1)⟩
set_option maxRecDepth 100000 in
theorem mx_clear {l : Launch} {D : va_G} {tys : List (ClassId × FieldType)} {cO : ClassId} (hO : ty_tyO tys cO) {M : mh_M} {w da c N : Nat} {mc : Int32} {f : Nat → Option Nat} (hat : mh_at M w (lE mc da c)) (hc : c = 0 ∨ (mh_at M da (qA cO N f) ∧ c ≤ N ∧ N ≤ 100000)) : mh_Met vwCl tys l D yJx4a65c_clear_da8c8 [Cond.code yJx4a65c_clear_da8c8 cJx4a65c_clear_da8c8 4 none] (ty_rm 0 0 cZ0) [.ref w] M (fun v M' => v = none ∧ M'.1 = M.1 ∧ (∃ mc', mh_at M' w (lE mc' da 0)) ∧ (∀ b, b ≠ w → b ≠ da → M'.2 b = M.2 b) ∧ ((c = 0 ∧ ∀ b, b ≠ w → M'.2 b = M.2 b) ∨ (0 < c ∧ ∃ g, mh_at M' da (qA cO N g) ∧ ∀ i, g i = none ∨ g i = f i))) := by
  refine ty_ofX (by decide +kernel) (show 1 ≤ 4 by omega) ?_
  intro x ls hx hl hnm hR hD hls hr
  have h0 : ls[((0 : Fin 4) : Nat)]? = some (.val (.ref w)) := hls.2.2 (0, .ref w) List.mem_cons_self
  refine gG_sp hx (i := .aload_n 0) (len := 1) (by decide +kernel) (sp_al h0) ?_
  refine gG_sp hx (i := .dup) (len := 1) (by decide +kernel) rfl ?_
  refine (gR_getPS (idx := 63) (ci := 1) (f := 0) (ref := "java/util/ArrayList") hx rfl (by decide) uJx4a65c (kw_at 70 (by decide +kernel)) (kw_at 71 (by decide +kernel))) 2 ls w _ _ _ M 0 0 (by decide +kernel) hat rfl ?_
  refine gG_sp hx (i := .iconst 1) (len := 1) (by decide +kernel) rfl ?_
  refine gG_sp hx (i := .iadd) (len := 1) (by decide +kernel) rfl ?_
  refine (gR_putPS (idx := 63) (ci := 1) (f := 0) (ref := "java/util/ArrayList") hx rfl (by decide) uJx4a65c tyJx4a65c tyJx4a65c_ok nmJx4a65c rfl (kw_at 70 (by decide +kernel)) (kw_at 71 (by decide +kernel)) rfl) 7 ls w [.int mc, .ref da, .int (nI c)] (.int (mc + Int32.ofInt 1)) [] M 0 0 (by decide +kernel) hat (by show 0 < 3; omega) rfl rfl ?_
  have hat1 : mh_at (mh_set M w (lE (mc + Int32.ofInt 1) da c)) w (lE (mc + Int32.ofInt 1) da c) := hat.set_self
  show gG x vwCl 10 ls [] (mh_set M w (lE (mc + Int32.ofInt 1) da c)) 0 0
  refine gG_sp hx (i := .aload_n 0) (len := 1) (by decide +kernel) (sp_al h0) ?_
  refine (gR_getP (idx := 9) (ci := 1) (f := 1) hx rfl (by decide) uJx4a65c (kw_at 67 (by decide +kernel))) 11 ls w _ _ _ _ 0 0 (by decide +kernel) hat1 rfl ?_
  refine gG_astore hx hls.1 hls.2.1 (i := 1) (len := 1) (Or.inr ⟨1, by decide +kernel, rfl, rfl⟩) (by decide) (fun ls1 p1 => ?_)
  have k0 : ls1[((0 : Fin 4) : Nat)]? = some (.val (.ref w)) := ty_kp p1 h0 (by omega) (Or.inl rfl)
  have k1 : ls1[((1 : Fin 4) : Nat)]? = some (.val (.ref da)) := p1.2.2.1
  refine gG_sp hx (i := .aload_n 0) (len := 1) (by decide +kernel) (sp_al k0) ?_
  refine (gR_getP (idx := 48) (ci := 1) (f := 2) hx rfl (by decide) uJx4a65c (kw_at 68 (by decide +kernel))) 16 ls1 w _ _ _ _ 0 0 (by decide +kernel) hat1 rfl ?_
  refine gG_istore hx p1.1 p1.2.1 (i := 2) (len := 1) (Or.inr ⟨2, by decide +kernel, rfl, rfl⟩) (by decide) (fun ls2 p2 => ?_)
  have k0 : ls2[((0 : Fin 4) : Nat)]? = some (.val (.ref w)) := ty_kp p2 k0 (by omega) (by omega)
  have k1 : ls2[((1 : Fin 4) : Nat)]? = some (.val (.ref da)) := ty_kp p2 k1 (by omega) (Or.inl rfl)
  have k2 : ls2[((2 : Fin 4) : Nat)]? = some (.val (.int (nI c))) := p2.2.2.1
  refine gG_sp hx (i := .aload_n 0) (len := 1) (by decide +kernel) (sp_al (j := 0) k0) ?_
  refine gG_sp hx (i := .iconst 0) (len := 1) (by decide +kernel) (r := [.int (nI 0), .ref w]) rfl ?_
  refine gG_sp hx (i := .dup_x1) (len := 1) (by decide +kernel) (r := [.int (nI 0), .ref w, .int (nI 0)]) rfl ?_
  refine (gR_putP (idx := 48) (ci := 1) (f := 2) hx rfl (by decide) uJx4a65c tyJx4a65c tyJx4a65c_ok nmJx4a65c rfl (kw_at 68 (by decide +kernel)) rfl) 23 ls2 w [.int (mc + Int32.ofInt 1), .ref da, .int (nI c)] (.int (nI 0)) [.int (nI 0)] _ 0 0 (by decide +kernel) hat1 (by show 2 < 3; omega) rfl rfl ?_
  refine gG_istore hx p2.1 p2.2.1 (i := 3) (len := 1) (Or.inr ⟨3, by decide +kernel, rfl, rfl⟩) (by decide) (fun ls3 p3 => ?_)
  have k1 : ls3[((1 : Fin 4) : Nat)]? = some (.val (.ref da)) := ty_kp p3 k1 (by omega) (by omega)
  have k2 : ls3[((2 : Fin 4) : Nat)]? = some (.val (.int (nI c))) := ty_kp p3 k2 (by omega) (Or.inl rfl)
  have k3 : ls3[((3 : Fin 4) : Nat)]? = some (.val (.int (nI 0))) := p3.2.2.1
  show gG x vwCl 27 ls3 [] (mh_set (mh_set M w (lE (mc + Int32.ofInt 1) da c)) w (lE (mc + Int32.ofInt 1) da 0)) 0 0
  rw [mh_set_set]
  by_cases h00 : c = 0
  · subst h00
    refine gG_sp hx (i := .iload_n 3) (len := 1) (by decide +kernel) (sp_il k3) ?_
    refine gG_sp hx (i := .iload_n 2) (len := 1) (by decide +kernel) (sp_il k2) ?_
    refine gG_ic hx (cn := .ge) (off := 13) (tgt := 42) (by decide +kernel) rfl (fun _ => ?_) (fun q => absurd (Int.le_refl _) q)
    exact hr 42 ls3 .return_ none _ 0 0 (by decide +kernel) ⟨rfl, rfl⟩ ⟨rfl, rfl, ⟨_, hat.set_self⟩, fun b n1 _ => va_up_ne _ _ n1, Or.inl ⟨rfl, fun b n1 => va_up_ne _ _ n1⟩⟩ (Nat.le_refl _) (Nat.le_refl _)
  · obtain ⟨ha, hcN, hN⟩ := hc.resolve_left h00
    have hdw : da ≠ w := ha.ne hat (by intro z; cases z)
    have loop : ∀ (n i : Nat) (g : Nat → Option Nat) (M1 : mh_M) (ls : Array Slot), c - i < n → i ≤ c → ls.size = 4 → lv_wf ls → ls[((1 : Fin 4) : Nat)]? = some (.val (.ref da)) → ls[((2 : Fin 4) : Nat)]? = some (.val (.int (nI c))) → ls[((3 : Fin 4) : Nat)]? = some (.val (.int (nI i))) → M1.1 = M.1 → mh_at M1 w (lE (mc + Int32.ofInt 1) da 0) → mh_at M1 da (qA cO N g) → (∀ i, g i = none ∨ g i = f i) → (∀ b, b ≠ w → b ≠ da → M1.2 b = M.2 b) → gG x vwCl 27 ls [] M1 0 0 := by
      intro n
      induction n with
      | zero => intro i g M1 ls hn; omega
      | succ n ih =>
        intro i g M1 ls hn hi hs hw h1 h2 h3 hM hat hg hgf hold
        have ei : (nI i).toInt = (i : Int) := nI_tn (by omega)
        have ec : (nI c).toInt = (c : Int) := nI_tn (by omega)
        refine gG_sp hx (i := .iload_n 3) (len := 1) (by decide +kernel) (sp_il h3) ?_
        refine gG_sp hx (i := .iload_n 2) (len := 1) (by decide +kernel) (sp_il h2) ?_
        refine gG_ic hx (cn := .ge) (off := 13) (tgt := 42) (by decide +kernel) rfl (fun _ => hr 42 ls .return_ none M1 0 0 (by decide +kernel) ⟨rfl, rfl⟩ ⟨rfl, hM, ⟨_, hat⟩, hold, Or.inr ⟨by omega, g, hg, hgf⟩⟩ (Nat.le_refl _) (Nat.le_refl _)) (fun q => ?_)
        have q : ¬ (nI c).toInt ≤ (nI i).toInt := q
        rw [ei, ec] at q
        refine gG_sp hx (i := .aload_n 1) (len := 1) (by decide +kernel) (sp_al h1) ?_
        refine gG_sp hx (i := .iload_n 3) (len := 1) (by decide +kernel) (sp_il h3) ?_
        refine gG_null hx (by decide +kernel) ?_
        refine gG_astN hx 4 (by decide +kernel) hg hO (vp_in_iff.mpr ⟨by rw [ei]; omega, by rw [ei]; omega⟩) ?_
        rw [ty_clN ei]
        refine gG_iinc hx hs hw (i := 3) (z := 1) (v := nI i) (by decide +kernel) h3 (fun ls' hp' => ?_)
        refine gG_goto hx (off := -12) (tgt := 27) (by decide +kernel) rfl ?_
        have ew : nI i + Int32.ofInt 1 = nI (i + 1) := by rw [lit1]; exact nI_1 i
        refine ih (i + 1) (va_up g i none) _ ls' (by omega) (by omega) hp'.1 hp'.2.1 (ty_kp hp' h1 (by omega) (by omega)) (ty_kp hp' h2 (by omega) (Or.inl rfl)) (by rw [← ew]; exact hp'.2.2.1) hM (hat.set_ne (Ne.symm hdw)) hg.set_self (fun j => ?_) (fun b n1 n2 => (va_up_ne _ _ n2).trans (hold b n1 n2))
        by_cases ej : j = i
        · rw [ej, va_up_self]; exact Or.inl rfl
        · rw [va_up_ne _ _ ej]; exact hgf j
    exact loop (c + 1) 0 f _ ls3 (by omega) (by omega) p3.1 p3.2.1 k1 k2 k3 rfl hat.set_self (ha.set_ne hdw) (fun i => Or.inr rfl) (fun b n1 _ => va_up_ne _ _ n1)
theorem mx_AC {l : Launch} {D : va_G} {tys : List (ClassId × FieldType)} {M : mh_M} {w : Nat} : mh_Met vwCl tys l D yJxa1e45_init_da8c8 [Cond.code yJxa1e45_init_da8c8 cJxa1e45_init_da8c8 1 none] (ty_rm 1 20 cZ0) [.ref w] M (fun v M' => v = none ∧ M' = M) := by
  refine ty_ofX (by decide +kernel) (Nat.le_refl 1) ?_
  intro x ls hx hl hnm hR hD hls hr
  have h0 : ls[((0 : Fin 4) : Nat)]? = some (.val (.ref w)) := hls.2.2 (0, .ref w) List.mem_cons_self
  refine gG_sp hx (i := .aload_n 0) (len := 1) (by decide +kernel) (sp_al (j := 0) h0) ?_
  refine gK_obj (idx := 1) hx (kw_at 64 (by decide +kernel)) (kw_at 29 (by decide +kernel)) (kw_at 30 (by decide +kernel)) ⟨by rw [hR]; exact Nat.le_of_ble_eq_true rfl, by rw [hR]; exact Nat.le_of_ble_eq_true rfl⟩ (by decide +kernel) hls.1 (Nat.zero_le 8) (by rw [hR]; decide) (by rw [hR]; decide) ?_
  exact hr 4 ls .return_ none M 0 0 (by decide +kernel) ⟨rfl, rfl⟩ ⟨rfl, rfl⟩ (Nat.le_refl _) (Nat.le_refl _)
theorem mx_ALi {l : Launch} {D : va_G} {tys : List (ClassId × FieldType)} {M : mh_M} {w : Nat} {v0 v1 v2 : Value} (hat : mh_at M w (.inr (1, [v0, v1, v2]))) : mh_Met vwCl tys l D yJxc12de_init_da8c8 [Cond.code yJxc12de_init_da8c8 cJxc12de_init_da8c8 1 none] (ty_rm 2 40 cZ0) [.ref w] M (fun v M' => v = none ∧ M' = mh_set M w (.inr (1, [.int (nI 0), v1, v2]))) := by
  refine ty_ofX (by decide +kernel) (Nat.le_refl 1) ?_
  intro x ls hx hl hnm hR hD hls hr
  have h0 : ls[((0 : Fin 4) : Nat)]? = some (.val (.ref w)) := hls.2.2 (0, .ref w) List.mem_cons_self
  refine gG_sp hx (i := .aload_n 0) (len := 1) (by decide +kernel) (sp_al (j := 0) h0) ?_
  refine gX_cI (idx := 1) (K := cZ0) hx hl hD mx_AC rfl (kw_at 63 (by decide +kernel)) (kw_at 5 (by decide +kernel)) (Or.inl (kw_at 61 (by decide +kernel))) (kw_at 62 (by decide +kernel)) (nA := 0) (by decide +kernel) rfl ⟨by rw [hR]; exact Nat.le_of_ble_eq_true rfl, by rw [hR]; exact Nat.le_of_ble_eq_true rfl⟩ (pc := 1) (by decide +kernel) hls.1 (rest := []) (Nat.zero_le 8) (by rw [hR]; decide) (by rw [hR]; decide) rfl (fun v M' hv => ?_)
  obtain ⟨rfl, rfl⟩ := hv
  refine gG_sp hx (i := .aload_n 0) (len := 1) (by decide +kernel) (sp_al (j := 0) h0) ?_
  refine gG_sp hx (i := .iconst 0) (len := 1) (by decide +kernel) (r := [.int (nI 0), .ref w]) rfl ?_
  refine (gR_putP (idx := 7) (ci := 1) (f := 0) hx rfl (by decide) uJx4a65c tyJx4a65c tyJx4a65c_ok nmJx4a65c rfl (kw_at 69 (by decide +kernel)) rfl) 6 ls w [v0, v1, v2] (.int (nI 0)) [] _ 0 0 (by decide +kernel) hat (by show 0 < 3; omega) rfl rfl ?_
  exact hr 9 ls .return_ none _ 0 0 (by decide +kernel) ⟨rfl, rfl⟩ ⟨rfl, rfl⟩ (Nat.le_refl _) (Nat.le_refl _)
theorem mx_Li {l : Launch} {D : va_G} {tys : List (ClassId × FieldType)} {M : mh_M} {w : Nat} (hat : mh_at M w (.inr (1, [.int 0, .null, .int 0]))) : mh_Met vwCl tys l D yJx4a65c_init_da8c8 [Cond.code yJx4a65c_init_da8c8 cJx4a65c_init_da8c8 1 none] (ty_rm 3 60 cZ0) [.ref w] M (fun v M' => v = none ∧ M' = mh_set M w (lE (nI 0) (kem D) 0)) := by
  refine ty_ofX (by decide +kernel) (Nat.le_refl 1) ?_
  intro x ls hx hl hnm hR hD hls hr
  have h0 : ls[((0 : Fin 4) : Nat)]? = some (.val (.ref w)) := hls.2.2 (0, .ref w) List.mem_cons_self
  refine gG_sp hx (i := .aload_n 0) (len := 1) (by decide +kernel) (sp_al (j := 0) h0) ?_
  refine gX_cI (idx := 1) (K := cZ0) hx hl hD (mx_ALi hat) rfl (kw_at 60 (by decide +kernel)) (kw_at 6 (by decide +kernel)) (Or.inl (kw_at 58 (by decide +kernel))) (kw_at 59 (by decide +kernel)) (nA := 0) (by decide +kernel) rfl ⟨by rw [hR]; exact Nat.le_of_ble_eq_true rfl, by rw [hR]; exact Nat.le_of_ble_eq_true rfl⟩ (pc := 1) (by decide +kernel) hls.1 (rest := []) (Nat.zero_le 8) (by rw [hR]; decide) (by rw [hR]; decide) rfl (fun v M' hv => ?_)
  obtain ⟨rfl, rfl⟩ := hv
  have hat1 : mh_at (mh_set M w (.inr (1, [.int (nI 0), .null, .int 0]))) w (.inr (1, [.int (nI 0), .null, .int 0])) := hat.set_self
  refine gG_sp hx (i := .aload_n 0) (len := 1) (by decide +kernel) (sp_al (j := 0) h0) ?_
  refine gG_getem (idx := 39) hx (kw_at 65 (by decide +kernel)) (by decide +kernel) ?_
  rw [show gx_D x = D from hD]
  refine (gR_putP (idx := 9) (ci := 1) (f := 1) hx rfl (by decide) uJx4a65c tyJx4a65c tyJx4a65c_ok nmJx4a65c rfl (kw_at 67 (by decide +kernel)) rfl) 8 ls w [.int (nI 0), .null, .int 0] (.ref (kem D)) [] _ 0 0 (by decide +kernel) hat1 (by show 1 < 3; omega) rfl rfl ?_
  refine hr 11 ls .return_ none _ 0 0 (by decide +kernel) ⟨rfl, rfl⟩ ⟨rfl, ?_⟩ (Nat.le_refl _) (Nat.le_refl _)
  rw [mh_set_set]
  rfl
