/-! ArrayList.remove -/
/-- behind a remove -/
def lRe (cO : ClassId) (M : mh_M) (w a c N : Nat) (f : Nat → Option Nat) (M' : mh_M) : Prop := M'.1 = M.1 ∧ ∃ (mc : Int32) (g : Nat → Option Nat), mh_at M' w (lE mc a (c - 1)) ∧ mh_at M' a (qA cO N g) ∧ (∀ b, b ≠ w → b ≠ a → M'.2 b = M.2 b) ∧ (∀ j, j < c - 1 → ∃ k, k < c ∧ g j = f k) ∧ (∀ j, g j = none ∨ ∃ k, g j = f k)
set_option maxRecDepth 100000 in
theorem mx_fastR {l : Launch} {D : va_G} {tys : List (ClassId × FieldType)} {cO : ClassId} (hO : ty_tyO tys cO) {C : String} {T : u_T} {F ci : Nat} (hw : Cond.castable C "java/lang/Object" ∈ kSW) (hc : vwCl[ci]? = some (C, T, F)) {M : mh_M} {w a c N i : Nat} {mc z : Int32} {f : Nat → Option Nat} (hat : mh_at M w (lE mc a c)) (ha : mh_at M a (qA cO N f)) (hz : z.toInt = (i : Int)) (hi : i < c) (hcN : c ≤ N) (hN : N ≤ 100000) (hci : ci ≠ 1) (hel : ∀ i, i < N → ∀ y, f i = some y → ∃ vs, mh_at M y (.inr (ci, vs))) : mh_Met vwCl tys l D yJx4a65c_fastRemove_b59b0 [Cond.code yJx4a65c_fastRemove_b59b0 cJx4a65c_fastRemove_b59b0 4 none] (ty_rm 1 26 cZ0) [.ref w, .ref a, .int z] M (fun v M' => v = none ∧ lRe cO M w a c N f M') := by
  refine ty_ofX (by decide +kernel) (show 3 ≤ 4 by omega) ?_
  intro x ls hx hl hnm hR hD hls hr
  have h0 : ls[((0 : Fin 4) : Nat)]? = some (.val (.ref w)) := hls.2.2 (0, .ref w) List.mem_cons_self
  have h1 : ls[((1 : Fin 4) : Nat)]? = some (.val (.ref a)) := hls.2.2 (1, .ref a) (List.mem_cons_of_mem _ List.mem_cons_self)
  have h2 : ls[((2 : Fin 4) : Nat)]? = some (.val (.int z)) := hls.2.2 (2, .int z) (List.mem_cons_of_mem _ (List.mem_cons_of_mem _ List.mem_cons_self))
  have haw : a ≠ w := ha.ne hat (by intro z; cases z)
  have evc : nI c - Int32.ofInt 1 = nI (c - 1) := by
    obtain ⟨d, rfl⟩ : ∃ d, c = d + 1 := ⟨c - 1, by omega⟩
    rw [lit1]
    exact dec_ofNat d
  have ec1 : (nI (c - 1)).toInt = ((c - 1 : Nat) : Int) := nI_tn (by omega)
  refine gG_sp hx (i := .aload_n 0) (len := 1) (by decide +kernel) (sp_al h0) ?_
  refine gG_sp hx (i := .dup) (len := 1) (by decide +kernel) rfl ?_
  refine (gR_getPS (idx := 63) (ci := 1) (f := 0) (ref := "java/util/ArrayList") hx rfl (by decide) uJx4a65c (kw_at 70 (by decide +kernel)) (kw_at 71 (by decide +kernel))) 2 ls w _ _ _ M 0 0 (by decide +kernel) hat rfl ?_
  refine gG_sp hx (i := .iconst 1) (len := 1) (by decide +kernel) rfl ?_
  refine gG_sp hx (i := .iadd) (len := 1) (by decide +kernel) rfl ?_
  refine (gR_putPS (idx := 63) (ci := 1) (f := 0) (ref := "java/util/ArrayList") hx rfl (by decide) uJx4a65c tyJx4a65c tyJx4a65c_ok nmJx4a65c rfl (kw_at 70 (by decide +kernel)) (kw_at 71 (by decide +kernel)) rfl) 7 ls w [.int mc, .ref a, .int (nI c)] (.int (mc + Int32.ofInt 1)) [] M 0 0 (by decide +kernel) hat (by show 0 < 3; omega) rfl rfl ?_
  have hat1 : mh_at (mh_set M w (lE (mc + Int32.ofInt 1) a c)) w (lE (mc + Int32.ofInt 1) a c) := hat.set_self
  have ha1 : mh_at (mh_set M w (lE (mc + Int32.ofInt 1) a c)) a (qA cO N f) := ha.set_ne haw
  show gG x vwCl 10 ls [] (mh_set M w (lE (mc + Int32.ofInt 1) a c)) 0 0
  refine gG_sp hx (i := .aload_n 0) (len := 1) (by decide +kernel) (sp_al h0) ?_
  refine (gR_getP (idx := 48) (ci := 1) (f := 2) hx rfl (by decide) uJx4a65c (kw_at 68 (by decide +kernel))) 11 ls w _ _ _ _ 0 0 (by decide +kernel) hat1 rfl ?_
  refine gG_sp hx (i := .iconst 1) (len := 1) (by decide +kernel) rfl ?_
  refine gG_sp hx (i := .isub) (len := 1) (by decide +kernel) rfl ?_
  refine gG_sp hx (i := .dup) (len := 1) (by decide +kernel) rfl ?_
  show gG x vwCl 17 ls [.int (nI c - Int32.ofInt 1), .int (nI c - Int32.ofInt 1)] _ 0 0
  rw [evc]
  refine gG_istore hx hls.1 hls.2.1 (i := 3) (len := 1) (Or.inr ⟨3, by decide +kernel, rfl, rfl⟩) (by decide) (fun ls1 p1 => ?_)
  have k0 : ls1[((0 : Fin 4) : Nat)]? = some (.val (.ref w)) := ty_kp p1 h0 (by omega) (by omega)
  have k1 : ls1[((1 : Fin 4) : Nat)]? = some (.val (.ref a)) := ty_kp p1 h1 (by omega) (by omega)
  have k2 : ls1[((2 : Fin 4) : Nat)]? = some (.val (.int z)) := ty_kp p1 h2 (by omega) (Or.inl rfl)
  have k3 : ls1[((3 : Fin 4) : Nat)]? = some (.val (.int (nI (c - 1)))) := p1.2.2.1
  have fin : ∀ (g : Nat → Option Nat) (M1 : mh_M), M1.1 = M.1 → mh_at M1 w (lE (mc + Int32.ofInt 1) a c) → mh_at M1 a (qA cO N g) → (∀ b, b ≠ w → b ≠ a → M1.2 b = M.2 b) → (∀ j, j < c - 1 → ∃ k, k < c ∧ g j = f k) → (∀ j, g j = none ∨ ∃ k, g j = f k) → gG x vwCl 34 ls1 [] M1 0 0 := by
    intro g M1 hM hat hg hold g1 g2
    refine gG_sp hx (i := .aload_n 1) (len := 1) (by decide +kernel) (sp_al (j := 1) k1) ?_
    refine gG_sp hx (i := .aload_n 0) (len := 1) (by decide +kernel) (sp_al (j := 0) k0) ?_
    refine gG_sp hx (i := .iload_n 3) (len := 1) (by decide +kernel) (sp_il (j := 3) k3) ?_
    refine gG_sp hx (i := .dup_x1) (len := 1) (by decide +kernel) rfl ?_
    refine (gR_putP (idx := 48) (ci := 1) (f := 2) hx rfl (by decide) uJx4a65c tyJx4a65c tyJx4a65c_ok nmJx4a65c rfl (kw_at 68 (by decide +kernel)) rfl) 38 ls1 w [.int (mc + Int32.ofInt 1), .ref a, .int (nI c)] (.int (nI (c - 1))) [.int (nI (c - 1)), .ref a] M1 0 0 (by decide +kernel) hat (by show 2 < 3; omega) rfl rfl ?_
    refine gG_null hx (by decide +kernel) ?_
    have hg1 : mh_at (mh_set M1 w (.inr (1, ([.int (mc + Int32.ofInt 1), .ref a, .int (nI c)] : List Value).set 2 (.int (nI (c - 1)))))) a (qA cO N g) := hg.set_ne haw
    refine gG_astN hx 4 (by decide +kernel) hg1 hO (vp_in_iff.mpr ⟨by rw [ec1]; omega, by rw [ec1]; omega⟩) ?_
    rw [ty_clN ec1]
    refine hr 43 ls1 .return_ none _ 0 0 (by decide +kernel) ⟨rfl, rfl⟩ ⟨rfl, hM, mc + Int32.ofInt 1, va_up g (c - 1) none, (hat.set_self).set_ne (Ne.symm haw), hg1.set_self, fun b n1 n2 => ?_, fun j hj => ?_, fun j => ?_⟩ (Nat.le_refl _) (Nat.le_refl _)
    · exact ((va_up_ne _ _ n2).trans (va_up_ne _ _ n1)).trans (hold b n1 n2)
    · rw [va_up_ne _ _ (by omega)]; exact g1 j hj
    · by_cases ej : j = c - 1
      · rw [ej, va_up_self]; exact Or.inl rfl
      · rw [va_up_ne _ _ ej]; exact g2 j
  refine gG_sp hx (i := .iload_n 2) (len := 1) (by decide +kernel) (sp_il (j := 2) k2) ?_
  refine gG_ic hx (cn := .le) (off := 15) (tgt := 34) (by decide +kernel) rfl (fun q => ?_) (fun q => ?_)
  · have q : (nI (c - 1)).toInt ≤ z.toInt := q
    exact fin f _ rfl hat1 ha1 (fun b n1 _ => va_up_ne _ _ n1) (fun j hj => ⟨j, by omega, rfl⟩) (fun j => Or.inr ⟨j, rfl⟩)
  · have q : ¬ (nI (c - 1)).toInt ≤ z.toInt := q
    rw [ec1, hz] at q
    have e1 : (z + Int32.ofInt 1).toInt = ((i + 1 : Nat) : Int) := by rw [ty_addI hz (show (Int32.ofInt 1).toInt = 1 from rfl) (by omega) (by omega)]; omega
    have e2 : (nI (c - 1) - z).toInt = ((c - 1 - i : Nat) : Int) := by rw [ty_subI ec1 hz (by omega) (by omega)]; omega
    refine gG_sp hx (i := .aload_n 1) (len := 1) (by decide +kernel) (sp_al k1) ?_
    refine gG_sp hx (i := .iload_n 2) (len := 1) (by decide +kernel) (sp_il k2) ?_
    refine gG_sp hx (i := .iconst 1) (len := 1) (by decide +kernel) rfl ?_
    refine gG_sp hx (i := .iadd) (len := 1) (by decide +kernel) rfl ?_
    refine gG_sp hx (i := .aload_n 1) (len := 1) (by decide +kernel) (sp_al k1) ?_
    refine gG_sp hx (i := .iload_n 2) (len := 1) (by decide +kernel) (sp_il k2) ?_
    refine gG_sp hx (i := .iload_n 3) (len := 1) (by decide +kernel) (sp_il k3) ?_
    refine gG_sp hx (i := .iload_n 2) (len := 1) (by decide +kernel) (sp_il k2) ?_
    refine gG_sp hx (i := .isub) (len := 1) (by decide +kernel) rfl ?_
    refine gG_copyq (idx := 112) hx 4 (kw_at 496 (by decide +kernel)) (kw_at 308 (by decide +kernel)) (kw_at 307 (by decide +kernel)) (kw_at 16 (by decide +kernel)) hw hc hO ha1 ha1 (sp' := i + 1) (dp' := i) (ln' := c - 1 - i) e1 hz e2 (by omega) (by omega) (fun j hj y hy => ?_) ⟨by rw [hR]; exact Nat.le_of_ble_eq_true rfl, by rw [hR]; show 8 + (nativeFrameWords "java/lang/System" "arraycopy" 5 + 11) ≤ 26; decide +kernel⟩ p1.1 (Nat.zero_le 8) (by decide +kernel) ?_
    · obtain ⟨vs, hv⟩ := hel (i + 1 + j) (by omega) y hy
      exact ⟨vs, hv.set_ne (hv.ne hat (by intro z; cases z; exact hci rfl))⟩
    have cpy : ∀ j, ∃ k, (j < c - 1 → k < c) ∧ (j < N → k < N) ∧ va_cpy f f (i + 1) i (c - 1 - i) j = f k := fun j => by
      unfold va_cpy
      by_cases hj : i ≤ j ∧ j < i + (c - 1 - i)
      · rw [if_pos hj]; exact ⟨i + 1 + (j - i), fun _ => by omega, fun _ => by omega, rfl⟩
      · rw [if_neg hj]; exact ⟨j, fun _ => by omega, fun h => h, rfl⟩
    refine fin (va_cpy f f (i + 1) i (c - 1 - i)) _ rfl (hat1.set_ne (Ne.symm haw)) ha1.set_self (fun b n1 n2 => (va_up_ne _ _ n2).trans (va_up_ne _ _ n1)) (fun j hj => ?_) (fun j => ?_)
    · obtain ⟨k, c1, -, c3⟩ := cpy j
      exact ⟨k, c1 hj, c3⟩
    · obtain ⟨k, -, -, c3⟩ := cpy j
      exact Or.inr ⟨k, c3⟩
theorem mx_remove {l : Launch} {D : va_G} {tys : List (ClassId × FieldType)} {cO : ClassId} (hO : ty_tyO tys cO) {C : String} {T : u_T} {F ci : Nat} (hw : Cond.castable C "java/lang/Object" ∈ kSW) (hc : vwCl[ci]? = some (C, T, F)) {M : mh_M} {w a c N i y : Nat} {mc z : Int32} {f : Nat → Option Nat} (hat : mh_at M w (lE mc a c)) (ha : mh_at M a (qA cO N f)) (hz : z.toInt = (i : Int)) (hi : i < c) (hcN : c ≤ N) (hN : N ≤ 100000) (hci : ci ≠ 1) (hel : ∀ i, i < N → ∀ y, f i = some y → ∃ vs, mh_at M y (.inr (ci, vs))) (hy : f i = some y) : mh_Met vwCl tys l D yJx4a65c_remove_915e3 [Cond.code yJx4a65c_remove_915e3 cJx4a65c_remove_915e3 4 ((some (.object "java/lang/Object")))] (ty_rm 2 49 cZ0) [.ref w, .int z] M (fun v M' => v = some (.ref y) ∧ lRe cO M w a c N f M') := by
  refine ty_ofX (by decide +kernel) (show 2 ≤ 4 by omega) ?_
  intro x ls hx hl hnm hR hD hls hr
  have h0 : ls[((0 : Fin 4) : Nat)]? = some (.val (.ref w)) := hls.2.2 (0, .ref w) List.mem_cons_self
  have h1 : ls[((1 : Fin 4) : Nat)]? = some (.val (.int z)) := hls.2.2 (1, .int z) (List.mem_cons_of_mem _ List.mem_cons_self)
  refine gG_sp hx (i := .iload_n 1) (len := 1) (by decide +kernel) (sp_il h1) ?_
  refine gG_sp hx (i := .aload_n 0) (len := 1) (by decide +kernel) (sp_al h0) ?_
  refine (gR_getP (idx := 48) (ci := 1) (f := 2) hx rfl (by decide) uJx4a65c (kw_at 68 (by decide +kernel))) 2 ls w _ _ _ M 0 0 (by decide +kernel) hat rfl ?_
  refine gX_cS (idx := 118) (C := cZ0) hx hl hD (mx_chk2 (by omega) (by rw [nI_tn (by omega), hz]; omega)) (kw_at 228 (by decide +kernel)) (kw_at 12 (by decide +kernel)) (Or.inl (kw_at 226 (by decide +kernel))) (kw_at 227 (by decide +kernel)) (nA := 2) (by decide +kernel) rfl ⟨by rw [hR]; exact Nat.le_of_ble_eq_true rfl, by rw [hR]; exact Nat.le_of_ble_eq_true rfl⟩ (pc := 5) (by decide +kernel) hls.1 (rest := []) (Nat.zero_le 8) (by rw [hR]; decide) (by rw [hR]; decide) (fun v M' hv => ?_)
  obtain ⟨rfl, rfl⟩ := hv
  refine gG_sp hx (i := .pop) (len := 1) (by decide +kernel) rfl ?_
  refine gG_sp hx (i := .aload_n 0) (len := 1) (by decide +kernel) (sp_al h0) ?_
  refine (gR_getP (idx := 9) (ci := 1) (f := 1) hx rfl (by decide) uJx4a65c (kw_at 67 (by decide +kernel))) 10 ls w _ _ _ M' 0 0 (by decide +kernel) hat rfl ?_
  refine gG_astore hx hls.1 hls.2.1 (i := 2) (len := 1) (Or.inr ⟨2, by decide +kernel, rfl, rfl⟩) (by decide) (fun ls1 p1 => ?_)
  have k0 : ls1[((0 : Fin 4) : Nat)]? = some (.val (.ref w)) := ty_kp p1 h0 (by omega) (by omega)
  have k1 : ls1[((1 : Fin 4) : Nat)]? = some (.val (.int z)) := ty_kp p1 h1 (by omega) (Or.inl rfl)
  have k2 : ls1[((2 : Fin 4) : Nat)]? = some (.val (.ref a)) := p1.2.2.1
  refine gG_sp hx (i := .aload_n 2) (len := 1) (by decide +kernel) (sp_al k2) ?_
  refine gG_sp hx (i := .iload_n 1) (len := 1) (by decide +kernel) (sp_il k1) ?_
  refine gG_aldq hx 4 (by decide +kernel) ha hO (vp_in_iff.mpr ⟨by rw [hz]; omega, by rw [hz]; omega⟩) ?_
  rw [ty_clN hz, hy]
  refine gG_astore hx p1.1 p1.2.1 (i := 3) (len := 1) (Or.inr ⟨3, by decide +kernel, rfl, rfl⟩) (by decide) (fun ls2 p2 => ?_)
  have k0 : ls2[((0 : Fin 4) : Nat)]? = some (.val (.ref w)) := ty_kp p2 k0 (by omega) (by omega)
  have k1 : ls2[((1 : Fin 4) : Nat)]? = some (.val (.int z)) := ty_kp p2 k1 (by omega) (by omega)
  have k2 : ls2[((2 : Fin 4) : Nat)]? = some (.val (.ref a)) := ty_kp p2 k2 (by omega) (Or.inl rfl)
  have k3 : ls2[((3 : Fin 4) : Nat)]? = some (.val (.ref y)) := p2.2.2.1
  refine gG_sp hx (i := .aload_n 0) (len := 1) (by decide +kernel) (sp_al k0) ?_
  refine gG_sp hx (i := .aload_n 2) (len := 1) (by decide +kernel) (sp_al k2) ?_
  refine gG_sp hx (i := .iload_n 1) (len := 1) (by decide +kernel) (sp_il k1) ?_
  refine gX_cV (idx := 144) (C := cZ0) (ci := 1) (T := TJx4a65c) (N := 3) hx hl hD (mx_fastR hO hw hc hat ha hz hi hcN hN hci hel) rfl (kw_at 495 (by decide +kernel)) (kw_at 7 (by decide +kernel)) (Or.inl (kw_at 492 (by decide +kernel))) (kw_at 494 (by decide +kernel)) (kw_sl 43 (by decide +kernel)) (nA := 2) (by decide +kernel) rfl ⟨by rw [hR]; exact Nat.le_of_ble_eq_true rfl, by rw [hR]; exact Nat.le_of_ble_eq_true rfl⟩ (pc := 21) (by decide +kernel) hat p2.1 (rest := []) (Nat.zero_le 8) (by rw [hR]; decide) (by rw [hR]; decide) rfl (fun v M2 hv => ?_)
  obtain ⟨rfl, hv⟩ := hv
  refine gG_sp hx (i := .aload_n 3) (len := 1) (by decide +kernel) (sp_al (j := 3) k3) ?_
  exact hr 25 ls2 .areturn (some (.ref y)) M2 0 0 (by decide +kernel) ⟨rfl, _, rfl⟩ ⟨rfl, hv⟩ (Nat.le_refl _) (Nat.le_refl _)
