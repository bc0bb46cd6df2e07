/-! ArrayList: grow, add, clear, remove, the constructors -/
theorem ty_subI {a b : Int32} {x y : Int} (ha : a.toInt = x) (hb : b.toInt = y) (h1 : -2147483648 ≤ x - y) (h2 : x - y ≤ 2147483647) : (a - b).toInt = x - y := by
  rw [Int32.toInt_sub, ha, hb, ty_bm h1 h2]
theorem mx_growG {l : Launch} {D : va_G} {tys : List (ClassId × FieldType)} {cO : ClassId} (hO : ty_tyO tys cO) {C : String} {T : u_T} {F ci : Nat} (hw : Cond.castable C "java/lang/Object" ∈ kSW) (hc : vwCl[ci]? = some (C, T, F)) {M : mh_M} {w a c N : Nat} {mc m1 : Int32} {f : Nat → Option Nat} (hat : mh_at M w (lE mc a c)) (ha : mh_at M a (qA cO N f)) (hN1 : 1 ≤ N) (hN : N ≤ 100000) (hm1 : m1.toInt = (N : Int) + 1) (hel : ∀ i, i < N → ∀ y, f i = some y → ∃ vs, mh_at M y (.inr (ci, vs))) : mh_Met vwCl tys l D yJx4a65c_grow_92f84 [Cond.code yJx4a65c_grow_92f84 cJx4a65c_grow_92f84 4 ((some (.array (.object "java/lang/Object"))))] (ty_rm 3 70 (cN0 1 (N + max 1 (N / 2)))) [.ref w, .int m1] M (fun v M' => ∃ q, q ∉ M.1 ∧ v = some (.ref q) ∧ M' = mh_set (mh_new M q (qA cO (N + max 1 (N / 2)) (va_cpy f (fun _ => none) 0 0 N))) w (lE mc q c)) := by
  refine ty_ofX (by decide +kernel) (show 2 ≤ 4 by omega) ?_
  intro x ls hx hl hnm hR hD hls hr
  have h0 : ls[((0 : Fin 4) : Nat)]? = some (.val (.ref w)) := hls.2.2 (0, .ref w) List.mem_cons_self
  have h1 : ls[((1 : Fin 4) : Nat)]? = some (.val (.int m1)) := hls.2.2 (1, .int m1) (List.mem_cons_of_mem _ List.mem_cons_self)
  have eN : (Int32.ofNat N).toInt = (N : Int) := nI_tn (by omega)
  refine gG_sp hx (i := .aload_n 0) (len := 1) (by decide +kernel) (sp_al h0) ?_
  refine (gR_getP (idx := 9) (ci := 1) (f := 1) hx rfl (by decide) uJx4a65c (kw_at 67 (by decide +kernel))) 1 ls w _ _ _ M 0 0 (by decide +kernel) hat rfl ?_
  refine gG_alen hx 4 (by decide +kernel) ha hO ?_
  refine gG_istore hx hls.1 hls.2.1 (i := 2) (len := 1) (Or.inr ⟨2, by decide +kernel, rfl, rfl⟩) (by decide) (fun ls1 p1 => ?_)
  have h0 : ls1[((0 : Fin 4) : Nat)]? = some (.val (.ref w)) := ty_kp p1 h0 (by omega) (by omega)
  have h1 : ls1[((1 : Fin 4) : Nat)]? = some (.val (.int m1)) := ty_kp p1 h1 (by omega) (Or.inl rfl)
  have h2 : ls1[((2 : Fin 4) : Nat)]? = some (.val (.int (Int32.ofNat N))) := p1.2.2.1
  refine gG_sp hx (i := .iload_n 2) (len := 1) (by decide +kernel) (sp_il h2) ?_
  refine gG_if hx (cn := .gt) (off := 13) (tgt := 20) (by decide +kernel) rfl (fun _ => ?_) (fun c => absurd (show (0 : Int) < (Int32.ofNat N).toInt by rw [eN]; omega) c)
  refine gG_sp hx (i := .iload_n 2) (len := 1) (by decide +kernel) (sp_il h2) ?_
  refine gG_sp hx (i := .iload_n 1) (len := 1) (by decide +kernel) (sp_il h1) ?_
  refine gG_sp hx (i := .iload_n 2) (len := 1) (by decide +kernel) (sp_il h2) ?_
  refine gG_sp hx (i := .isub) (len := 1) (by decide +kernel) rfl ?_
  refine gG_sp hx (i := .iload_n 2) (len := 1) (by decide +kernel) (sp_il h2) ?_
  refine gG_sp hx (i := .iconst 1) (len := 1) (by decide +kernel) rfl ?_
  refine gG_sp hx (i := .ishr) (len := 1) (by decide +kernel) rfl ?_
  have e1 : (m1 - Int32.ofNat N).toInt = 1 := by rw [ty_subI hm1 eN (by omega) (by omega)]; omega
  have e2 : (Int32.ofNat N >>> (Int32.ofInt 1 &&& 31)).toInt = ((N / 2 : Nat) : Int) := by
    have k := pk_shrN (n := N) (by omega) ((1 : Int32) &&& 31) 1 (by decide)
    rw [Nat.pow_one] at k
    rw [lit1]
    show (nI N >>> ((1 : Int32) &&& 31)).toInt = _
    rw [k]
    exact nI_tn (by omega)
  refine gX_cS (idx := 73) (C := cZ0) hx hl hD (mx_newLen (by omega) eN e1 e2) (kw_at 344 (by decide +kernel)) (kw_at 17 (by decide +kernel)) (Or.inl (kw_at 342 (by decide +kernel))) (kw_at 343 (by decide +kernel)) (nA := 3) (by decide +kernel) rfl ⟨by rw [hR]; exact Nat.le_of_ble_eq_true rfl, by rw [hR]; exact Nat.le_of_ble_eq_true rfl⟩ (pc := 27) (by decide +kernel) p1.1 (rest := []) (Nat.zero_le 8) (by rw [hR]; exact Nat.zero_le _) (by rw [hR]; exact Nat.zero_le _) (fun v M' hv => ?_)
  obtain ⟨rfl, r, rfl, er⟩ := hv
  refine gG_istore hx p1.1 p1.2.1 (i := 3) (len := 1) (Or.inr ⟨3, by decide +kernel, rfl, rfl⟩) (by decide) (fun ls2 p2 => ?_)
  have h0 : ls2[((0 : Fin 4) : Nat)]? = some (.val (.ref w)) := ty_kp p2 h0 (by omega) (by omega)
  have h3 : ls2[((3 : Fin 4) : Nat)]? = some (.val (.int r)) := p2.2.2.1
  refine gG_sp hx (i := .aload_n 0) (len := 1) (by decide +kernel) (sp_al h0) ?_
  refine gG_sp hx (i := .aload_n 0) (len := 1) (by decide +kernel) (sp_al h0) ?_
  refine (gR_getP (idx := 9) (ci := 1) (f := 1) hx rfl (by decide) uJx4a65c (kw_at 67 (by decide +kernel))) 33 ls2 w _ _ _ M' 0 0 (by decide +kernel) hat rfl ?_
  refine gG_sp hx (i := .iload_n 3) (len := 1) (by decide +kernel) (sp_il h3) ?_
  refine gX_cS (idx := 66) (C := (cN0 1 (N + max 1 (N / 2)))) hx hl hD (mx_copy2 hO hw hc ha er (by omega) (by omega) hel) (kw_at 354 (by decide +kernel)) (kw_at 8 (by decide +kernel)) (Or.inl (kw_at 352 (by decide +kernel))) (kw_at 353 (by decide +kernel)) (nA := 2) (by decide +kernel) rfl ⟨by rw [hR]; exact Nat.le_of_ble_eq_true rfl, by rw [hR]; exact Nat.le_of_ble_eq_true rfl⟩ (pc := 37) (by decide +kernel) p2.1 (by show 1 ≤ 8; omega) (by rw [hR]; show 0 + 0 + 1 ≤ 1; omega) (by rw [hR]; show 0 + 0 + (N + max 1 (N / 2)) ≤ (N + max 1 (N / 2)); omega) (fun v M2 hv => ?_)
  obtain ⟨q, hq, rfl, rfl⟩ := hv
  refine gG_sp hx (i := .dup_x1) (len := 1) (by decide +kernel) rfl ?_
  have hat2 : mh_at (mh_new M' q (qA cO (N + max 1 (N / 2)) (va_cpy f (fun _ => none) 0 0 N))) w (lE mc a c) := hat.new hq
  refine (gR_putP (idx := 9) (ci := 1) (f := 1) hx rfl (by decide) uJx4a65c tyJx4a65c tyJx4a65c_ok nmJx4a65c rfl (kw_at 67 (by decide +kernel)) rfl) 41 ls2 w [.int mc, .ref a, .int (nI c)] (.ref q) [.ref q] _ _ _ (by decide +kernel) hat2 (by show 1 < 3; omega) rfl rfl ?_
  exact hr 44 ls2 .areturn (some (.ref q)) _ _ _ (by decide +kernel) ⟨rfl, _, rfl⟩ ⟨q, hq, rfl, rfl⟩ (by show 0 + 0 + 1 ≤ 1; omega) (by show 0 + 0 + (N + max 1 (N / 2)) ≤ (N + max 1 (N / 2)); omega)
theorem mx_growF {l : Launch} {D : va_G} {tys : List (ClassId × FieldType)} {cO : ClassId} (hO : ty_tyO tys cO) {M : mh_M} {w : Nat} {mc m1 : Int32} (hat : mh_at M w (lE mc (kem D) 0)) (hm1 : m1.toInt = 1) : mh_Met vwCl tys l D yJx4a65c_grow_92f84 [Cond.code yJx4a65c_grow_92f84 cJx4a65c_grow_92f84 4 ((some (.array (.object "java/lang/Object"))))] (ty_rm 3 70 (cN0 1 10)) [.ref w, .int m1] M (fun v M' => ∃ q, q ∉ M.1 ∧ v = some (.ref q) ∧ M' = mh_set (mh_new M q (qA cO 10 (fun _ => none))) w (lE mc q 0)) := by
  refine ty_ofX (by decide +kernel) (show 2 ≤ 4 by omega) ?_
  intro x ls hx hl hnm hR hD hls hr
  have h0 : ls[((0 : Fin 4) : Nat)]? = some (.val (.ref w)) := hls.2.2 (0, .ref w) List.mem_cons_self
  have h1 : ls[((1 : Fin 4) : Nat)]? = some (.val (.int m1)) := hls.2.2 (1, .int m1) (List.mem_cons_of_mem _ List.mem_cons_self)
  have hat : mh_at M w (lE mc (kem (gx_D x)) 0) := by rw [show gx_D x = D from hD]; exact hat
  refine gG_sp hx (i := .aload_n 0) (len := 1) (by decide +kernel) (sp_al h0) ?_
  refine (gR_getP (idx := 9) (ci := 1) (f := 1) hx rfl (by decide) uJx4a65c (kw_at 67 (by decide +kernel))) 1 ls w _ _ _ M 0 0 (by decide +kernel) hat rfl ?_
  refine gG_emlen hx (by decide +kernel) ?_
  refine gG_istore hx hls.1 hls.2.1 (i := 2) (len := 1) (Or.inr ⟨2, by decide +kernel, rfl, rfl⟩) (by decide) (fun ls1 p1 => ?_)
  have h0 : ls1[((0 : Fin 4) : Nat)]? = some (.val (.ref w)) := ty_kp p1 h0 (by omega) (by omega)
  have h1 : ls1[((1 : Fin 4) : Nat)]? = some (.val (.int m1)) := ty_kp p1 h1 (by omega) (Or.inl rfl)
  have h2 : ls1[((2 : Fin 4) : Nat)]? = some (.val (.int (nI 0))) := p1.2.2.1
  refine gG_sp hx (i := .iload_n 2) (len := 1) (by decide +kernel) (sp_il h2) ?_
  refine gG_if hx (cn := .gt) (off := 13) (tgt := 20) (by decide +kernel) rfl (fun c => absurd (show (0 : Int) < (nI 0).toInt from c) (by decide)) (fun _ => ?_)
  refine gG_sp hx (i := .aload_n 0) (len := 1) (by decide +kernel) (sp_al h0) ?_
  refine (gR_getP (idx := 9) (ci := 1) (f := 1) hx rfl (by decide) uJx4a65c (kw_at 67 (by decide +kernel))) 11 ls1 w _ _ _ M 0 0 (by decide +kernel) hat rfl ?_
  refine gG_getem (idx := 39) hx (kw_at 65 (by decide +kernel)) (by decide +kernel) ?_
  refine gG_acmp_eq hx (off := 28) (tgt := 45) (by decide +kernel) rfl (fun _ => ?_) (fun c => absurd rfl c)
  refine gG_sp hx (i := .aload_n 0) (len := 1) (by decide +kernel) (sp_al h0) ?_
  refine gG_sp hx (i := .bipush 10) (len := 2) (by decide +kernel) rfl ?_
  refine gG_sp hx (i := .iload_n 1) (len := 1) (by decide +kernel) (sp_il h1) ?_
  have e10 : (Int8.ofInt 10).toInt32.toInt = 10 := ty_cb (by omega) (by omega)
  refine gG_max (idx := 79) hx (kw_at 377 (by decide +kernel)) (kw_at 346 (by decide +kernel)) (kw_at 2 (by decide +kernel)) (kw_at 347 (by decide +kernel)) ⟨by rw [hR]; exact Nat.le_of_ble_eq_true rfl, by rw [hR]; exact Nat.le_of_ble_eq_true rfl⟩ p1.1 (by show 1 ≤ 8; omega) (by rw [hR]; exact Nat.zero_le _) (by rw [hR]; exact Nat.zero_le _) (by decide +kernel) (fun r hrr => ?_)
  refine gG_newq (idx := 7) hx 4 (kw_at 378 (by decide +kernel)) (by decide +kernel) hO 10 (by decide +kernel) (by rw [hrr, e10, hm1]; decide) (by omega) (by rw [hR]; show 0 + 1 ≤ 1; omega) (by rw [hR]; show 0 + 10 ≤ 10; omega) (fun q hq => ?_)
  refine gG_sp hx (i := .dup_x1) (len := 1) (by decide +kernel) rfl ?_
  have hat2 : mh_at (mh_new M q (qA cO 10 (fun _ => none))) w (lE mc (kem (gx_D x)) 0) := hat.new hq
  refine (gR_putP (idx := 9) (ci := 1) (f := 1) hx rfl (by decide) uJx4a65c tyJx4a65c tyJx4a65c_ok nmJx4a65c rfl (kw_at 67 (by decide +kernel)) rfl) 56 ls1 w [.int mc, .ref (kem (gx_D x)), .int (nI 0)] (.ref q) [.ref q] _ _ _ (by decide +kernel) hat2 (by show 1 < 3; omega) rfl rfl ?_
  exact hr 59 ls1 .areturn (some (.ref q)) _ _ _ (by decide +kernel) ⟨rfl, _, rfl⟩ ⟨q, hq, rfl, rfl⟩ (by show 0 + 1 ≤ 1; omega) (by show 0 + 10 ≤ 10; omega)
/-- what add may stand on: room is there; the array is full; no array yet -/
def lRm (D : va_G) (cO : ClassId) (ci : Nat) (M : mh_M) (w c N : Nat) (f : Nat → Option Nat) (a nc ns : Nat) : Prop := ∃ mc : Int32, mh_at M w (lE mc a c) ∧ ((mh_at M a (qA cO N f) ∧ c < N ∧ N ≤ 100000 ∧ nc = 0 ∧ ns = 0) ∨ (mh_at M a (qA cO N f) ∧ c = N ∧ 1 ≤ N ∧ N ≤ 100000 ∧ (∀ i, i < N → ∀ y, f i = some y → ∃ vs, mh_at M y (.inr (ci, vs))) ∧ nc = 1 ∧ ns = N + max 1 (N / 2)) ∨ (a = kem D ∧ c = 0 ∧ N = 0 ∧ (∀ i, f i = none) ∧ nc = 1 ∧ ns = 10))
theorem mx_grow0 {l : Launch} {D : va_G} {tys : List (ClassId × FieldType)} {cO : ClassId} (hO : ty_tyO tys cO) {C : String} {T : u_T} {F ci : Nat} (hw : Cond.castable C "java/lang/Object" ∈ kSW) (hc : vwCl[ci]? = some (C, T, F)) {M : mh_M} {w a c N nc ns : Nat} {f : Nat → Option Nat} (hL : lRm D cO ci M w c N f a nc ns) (hnc : nc = 1) : mh_Met vwCl tys l D yJx4a65c_grow_d5877 [Cond.code yJx4a65c_grow_d5877 cJx4a65c_grow_d5877 1 ((some (.array (.object "java/lang/Object"))))] (ty_rm 4 93 (cN0 nc ns)) [.ref w] M (fun v M' => ∃ (q N' : Nat) (g : Nat → Option Nat) (mc : Int32), q ∉ M.1 ∧ v = some (.ref q) ∧ M' = mh_set (mh_new M q (qA cO N' g)) w (lE mc q c) ∧ c < N' ∧ N' = ns ∧ ∀ i, g i = f i ∨ (N ≤ i ∧ g i = none)) := by
  obtain ⟨mc, hat, hL⟩ := hL
  rcases hL with ⟨ha, hcN, hN, hn0, rfl⟩ | ⟨ha, hcN, hN1, hN, hel, rfl, rfl⟩ | ⟨rfl, rfl, rfl, hf, rfl, rfl⟩
  · omega
  · refine ty_ofX (by decide +kernel) (Nat.le_refl 1) ?_
    intro x ls hx hl hnm hR hD hls hr
    have h0 : ls[((0 : Fin 4) : Nat)]? = some (.val (.ref w)) := hls.2.2 (0, .ref w) List.mem_cons_self
    refine gG_sp hx (i := .aload_n 0) (len := 1) (by decide +kernel) (sp_al h0) ?_
    refine gG_sp hx (i := .aload_n 0) (len := 1) (by decide +kernel) (sp_al h0) ?_
    refine (gR_getP (idx := 48) (ci := 1) (f := 2) hx rfl (by decide) uJx4a65c (kw_at 68 (by decide +kernel))) 2 ls w _ _ _ M 0 0 (by decide +kernel) hat rfl ?_
    refine gG_sp hx (i := .iconst 1) (len := 1) (by decide +kernel) rfl ?_
    refine gG_sp hx (i := .iadd) (len := 1) (by decide +kernel) rfl ?_
    have e1 : (nI c + Int32.ofInt 1).toInt = (N : Int) + 1 := by rw [ty_addI (nI_tn (by omega)) (show (Int32.ofInt 1).toInt = 1 from rfl) (by omega) (by omega)]; omega
    refine gX_cV (idx := 69) (C := (cN0 1 (N + max 1 (N / 2)))) (ci := 1) (T := TJx4a65c) (N := 3) hx hl hD (mx_growG hO hw hc hat ha hN1 hN e1 hel) rfl (kw_at 341 (by decide +kernel)) (kw_at 7 (by decide +kernel)) (Or.inl (kw_at 338 (by decide +kernel))) (kw_at 340 (by decide +kernel)) (kw_sl 26 (by decide +kernel)) (nA := 1) (by decide +kernel) rfl ⟨by rw [hR]; exact Nat.le_of_ble_eq_true rfl, by rw [hR]; exact Nat.le_of_ble_eq_true rfl⟩ (pc := 7) (by decide +kernel) hat hls.1 (rest := []) (Nat.zero_le 8) (by rw [hR]; show 0 + 1 ≤ 1; omega) (by rw [hR]; show 0 + (N + max 1 (N / 2)) ≤ (N + max 1 (N / 2)); omega) rfl (fun v M2 hv => ?_)
    obtain ⟨q, hq, rfl, rfl⟩ := hv
    refine hr 10 ls .areturn (some (.ref q)) _ _ _ (by decide +kernel) ⟨rfl, _, rfl⟩ ⟨q, _, _, mc, hq, rfl, rfl, by omega, rfl, fun i => ?_⟩ (by show 0 + 1 ≤ 1; omega) (by show 0 + (N + max 1 (N / 2)) ≤ (N + max 1 (N / 2)); omega)
    unfold va_cpy
    by_cases hi : i < N
    · rw [if_pos ⟨Nat.zero_le _, by omega⟩, Nat.zero_add, Nat.sub_zero]; exact Or.inl rfl
    · rw [if_neg (fun q => hi (by omega))]; exact Or.inr ⟨by omega, rfl⟩
  · refine ty_ofX (by decide +kernel) (Nat.le_refl 1) ?_
    intro x ls hx hl hnm hR hD hls hr
    have h0 : ls[((0 : Fin 4) : Nat)]? = some (.val (.ref w)) := hls.2.2 (0, .ref w) List.mem_cons_self
    refine gG_sp hx (i := .aload_n 0) (len := 1) (by decide +kernel) (sp_al h0) ?_
    refine gG_sp hx (i := .aload_n 0) (len := 1) (by decide +kernel) (sp_al h0) ?_
    refine (gR_getP (idx := 48) (ci := 1) (f := 2) hx rfl (by decide) uJx4a65c (kw_at 68 (by decide +kernel))) 2 ls w _ _ _ M 0 0 (by decide +kernel) hat rfl ?_
    refine gG_sp hx (i := .iconst 1) (len := 1) (by decide +kernel) rfl ?_
    refine gG_sp hx (i := .iadd) (len := 1) (by decide +kernel) rfl ?_
    refine gX_cV (idx := 69) (C := (cN0 1 10)) (ci := 1) (T := TJx4a65c) (N := 3) hx hl hD (mx_growF (m1 := nI 0 + Int32.ofInt 1) hO hat (by decide)) rfl (kw_at 341 (by decide +kernel)) (kw_at 7 (by decide +kernel)) (Or.inl (kw_at 338 (by decide +kernel))) (kw_at 340 (by decide +kernel)) (kw_sl 26 (by decide +kernel)) (nA := 1) (by decide +kernel) rfl ⟨by rw [hR]; exact Nat.le_of_ble_eq_true rfl, by rw [hR]; exact Nat.le_of_ble_eq_true rfl⟩ (pc := 7) (by decide +kernel) hat hls.1 (rest := []) (Nat.zero_le 8) (by rw [hR]; show 0 + 1 ≤ 1; omega) (by rw [hR]; show 0 + 10 ≤ 10; omega) rfl (fun v M2 hv => ?_)
    obtain ⟨q, hq, rfl, rfl⟩ := hv
    exact hr 10 ls .areturn (some (.ref q)) _ _ _ (by decide +kernel) ⟨rfl, _, rfl⟩ ⟨q, 10, _, mc, hq, rfl, rfl, by omega, rfl, fun i => Or.inl (hf i).symm⟩ (by show 0 + 1 ≤ 1; omega) (by show 0 + 10 ≤ 10; omega)
/-- behind an add -/
def lAd (cO : ClassId) (M : mh_M) (w e a c N ns : Nat) (f : Nat → Option Nat) (M' : mh_M) : Prop := ∃ (q N' : Nat) (g : Nat → Option Nat) (mc : Int32), mh_at M' w (lE mc q (c + 1)) ∧ mh_at M' q (qA cO N' g) ∧ c < N' ∧ ((q = a ∧ N' = N) ∨ (q ∉ M.1 ∧ N' = ns)) ∧ g c = some e ∧ (∀ i, i ≠ c → g i = f i ∨ (N ≤ i ∧ g i = none)) ∧ (∀ b, b ∈ M.1 → b ∈ M'.1 ∧ (b ≠ w → b ≠ q → M'.2 b = M.2 b))
theorem mx_add3 {l : Launch} {D : va_G} {tys : List (ClassId × FieldType)} {cO : ClassId} (hO : ty_tyO tys cO) {C : String} {T : u_T} {F ci : Nat} (hw : Cond.castable C "java/lang/Object" ∈ kSW) (hc : vwCl[ci]? = some (C, T, F)) {M : mh_M} {w a c N nc ns e : Nat} {f : Nat → Option Nat} {vs : List Value} (hL : lRm D cO ci M w c N f a nc ns) (he : mh_at M e (.inr (ci, vs))) (hew : e ≠ w) (hci : ci ≠ 1) : mh_Met vwCl tys l D yJx4a65c_add_72be8 [Cond.code yJx4a65c_add_72be8 cJx4a65c_add_72be8 4 none] (ty_rm 5 113 (cN0 nc ns)) [.ref w, .ref e, .ref a, .int (nI c)] M (fun v M' => v = none ∧ lAd cO M w e a c N ns f M') := by
  refine ty_ofX (by decide +kernel) (Nat.le_refl 4) ?_
  intro x ls hx hl hnm hR hD hls hr
  have h0 : ls[((0 : Fin 4) : Nat)]? = some (.val (.ref w)) := hls.2.2 (0, .ref w) List.mem_cons_self
  have h1 : ls[((1 : Fin 4) : Nat)]? = some (.val (.ref e)) := hls.2.2 (1, .ref e) (List.mem_cons_of_mem _ List.mem_cons_self)
  have h2 : ls[((2 : Fin 4) : Nat)]? = some (.val (.ref a)) := hls.2.2 (2, .ref a) (List.mem_cons_of_mem _ (List.mem_cons_of_mem _ List.mem_cons_self))
  have h3 : ls[((3 : Fin 4) : Nat)]? = some (.val (.int (nI c))) := hls.2.2 (3, .int (nI c)) (List.mem_cons_of_mem _ (List.mem_cons_of_mem _ (List.mem_cons_of_mem _ List.mem_cons_self)))
  have fin : ∀ (q N' : Nat) (g : Nat → Option Nat) (mc : Int32) (M1 : mh_M) (ls1 : Array Slot) (n k : Nat), n ≤ nc → k ≤ ns → ls1[((0 : Fin 4) : Nat)]? = some (.val (.ref w)) → ls1[((1 : Fin 4) : Nat)]? = some (.val (.ref e)) → ls1[((2 : Fin 4) : Nat)]? = some (.val (.ref q)) → ls1[((3 : Fin 4) : Nat)]? = some (.val (.int (nI c))) → mh_at M1 w (lE mc q c) → mh_at M1 q (qA cO N' g) → mh_at M1 e (.inr (ci, vs)) → c < N' → N' ≤ 200000 → ((q = a ∧ N' = N) ∨ (q ∉ M.1 ∧ N' = ns)) → (∀ i, i ≠ c → g i = f i ∨ (N ≤ i ∧ g i = none)) → (∀ b, b ∈ M.1 → b ∈ M1.1 ∧ (b ≠ w → b ≠ q → M1.2 b = M.2 b)) → gG x vwCl 11 ls1 [] M1 n k := by
    intro q N' g mc M1 ls1 n k hn hk h0 h1 h2 h3 hat hq he hc1 hN' hq2 hg hold
    have ec : (nI c).toInt = (c : Int) := nI_tn (by omega)
    have hwq : w ≠ q := hat.ne hq (by intro z; cases z)
    refine gG_sp hx (i := .aload_n 2) (len := 1) (by decide +kernel) (sp_al h2) ?_
    refine gG_sp hx (i := .iload_n 3) (len := 1) (by decide +kernel) (sp_il h3) ?_
    refine gG_sp hx (i := .aload_n 1) (len := 1) (by decide +kernel) (sp_al h1) ?_
    refine gG_astq hx 4 hw hc (by decide +kernel) hq he hO (vp_in_iff.mpr ⟨by rw [ec]; omega, by rw [ec]; omega⟩) ?_
    rw [ty_clN ec]
    have hat2 := hat.set_ne (y := qA cO N' (va_up g c (some e))) hwq
    refine gG_sp hx (i := .aload_n 0) (len := 1) (by decide +kernel) (sp_al h0) ?_
    refine gG_sp hx (i := .iload_n 3) (len := 1) (by decide +kernel) (sp_il h3) ?_
    refine gG_sp hx (i := .iconst 1) (len := 1) (by decide +kernel) rfl ?_
    refine gG_sp hx (i := .iadd) (len := 1) (by decide +kernel) rfl ?_
    have ew : nI c + Int32.ofInt 1 = nI (c + 1) := by rw [lit1]; exact nI_1 c
    show gG x vwCl 19 ls1 [.int (nI c + Int32.ofInt 1), .ref w] _ n k
    rw [ew]
    refine (gR_putP (idx := 48) (ci := 1) (f := 2) hx rfl (by decide) uJx4a65c tyJx4a65c tyJx4a65c_ok nmJx4a65c rfl (kw_at 68 (by decide +kernel)) rfl) 19 ls1 w [.int mc, .ref q, .int (nI c)] (.int (nI (c + 1))) [] _ n k (by decide +kernel) hat2 (by show 2 < 3; omega) rfl rfl ?_
    refine hr 22 ls1 .return_ none _ n k (by decide +kernel) ⟨rfl, rfl⟩ ⟨rfl, q, N', va_up g c (some e), mc, hat2.set_self, (hq.set_self).set_ne (Ne.symm hwq), hc1, hq2, va_up_self _ _ _, fun i hi => ?_, fun b hb => ?_⟩ hn hk
    · rw [va_up_ne _ _ hi]; exact hg i hi
    · obtain ⟨b1, b2⟩ := hold b hb
      exact ⟨b1, fun n1 n2 => ((va_up_ne _ _ n1).trans (va_up_ne _ _ n2)).trans (b2 n1 n2)⟩
  by_cases hnc : nc = 0
  · obtain ⟨mc, hat, hL⟩ := hL
    rcases hL with ⟨ha, hcN, hN, rfl, rfl⟩ | ⟨ha, hcN, hN1, hN, hel, rfl, rfl⟩ | ⟨rfl, rfl, rfl, hf, rfl, rfl⟩
    rotate_left
    · cases hnc
    · cases hnc
    · skip
      refine gG_sp hx (i := .iload_n 3) (len := 1) (by decide +kernel) (sp_il h3) ?_
      refine gG_sp hx (i := .aload_n 2) (len := 1) (by decide +kernel) (sp_al h2) ?_
      refine gG_alen hx 4 (by decide +kernel) ha hO ?_
      refine gG_ic hx (cn := .ne) (off := 8) (tgt := 11) (by decide +kernel) rfl (fun _ => ?_) (fun c => absurd (show (nI _).toInt ≠ (Int32.ofNat N).toInt by rw [nI_tn (by omega), show (Int32.ofNat N).toInt = (N : Int) from nI_tn (by omega)]; omega) c)
      exact fin a N f mc M ls 0 0 (Nat.le_refl _) (Nat.le_refl _) h0 h1 h2 h3 hat ha he hcN (by omega) (Or.inl ⟨rfl, rfl⟩) (fun i _ => Or.inl rfl) (fun b hb => ⟨hb, fun _ _ => rfl⟩)
  · have hnc1 : nc = 1 := by
      obtain ⟨mc, hat, hL⟩ := hL
      rcases hL with ⟨ha, hcN, hN, q, -⟩ | ⟨ha, hcN, hN1, hN, hel, q, -⟩ | ⟨-, -, -, hf, q, -⟩
      · exact absurd q hnc
      · exact q
      · exact q
    have hen : gG x vwCl 6 ls [] M 0 0 := by
      obtain ⟨mc, hat, -⟩ := id hL
      refine gG_sp hx (i := .aload_n 0) (len := 1) (by decide +kernel) (sp_al (j := 0) h0) ?_
      refine gX_cV (idx := 129) (C := (cN0 nc ns)) (ci := 1) (T := TJx4a65c) (N := 3) hx hl hD (mx_grow0 hO hw hc hL hnc1) rfl (kw_at 337 (by decide +kernel)) (kw_at 7 (by decide +kernel)) (Or.inl (kw_at 334 (by decide +kernel))) (kw_at 336 (by decide +kernel)) (kw_sl 25 (by decide +kernel)) (nA := 0) (by decide +kernel) rfl ⟨by rw [hR]; exact Nat.le_of_ble_eq_true rfl, by rw [hR]; exact Nat.le_of_ble_eq_true rfl⟩ (pc := 7) (by decide +kernel) hat hls.1 (rest := []) (Nat.zero_le 8) (by rw [hR]; show 0 + nc ≤ nc; omega) (by rw [hR]; show 0 + ns ≤ ns; omega) rfl (fun v M2 hv => ?_)
      obtain ⟨q, N', g, mc', hq, rfl, rfl, hc1, hN', hg⟩ := hv
      refine gG_astore hx hls.1 hls.2.1 (i := 2) (len := 1) (Or.inr ⟨2, by decide +kernel, rfl, rfl⟩) (by decide) (fun ls1 p1 => ?_)
      have hqw : q ≠ w := fun e => hq (e ▸ hat.1)
      have hns : ns ≤ 200000 := by
        obtain ⟨mc, hat, hL⟩ := hL
        rcases hL with ⟨ha, hcN, hN, q, rfl⟩ | ⟨ha, hcN, hN1, hN, hel, q, rfl⟩ | ⟨-, -, -, hf, q, rfl⟩ <;> omega
      refine fin q N' g mc' _ ls1 _ _ (by show 0 + nc ≤ nc; omega) (by show 0 + ns ≤ ns; omega) (ty_kp p1 h0 (by omega) (by omega)) (ty_kp p1 h1 (by omega) (Or.inl rfl)) p1.2.2.1 (ty_kp p1 h3 (by omega) (by omega)) ((hat.new hq).set_self) ((mh_at.new_self).set_ne hqw) ((he.new hq).set_ne hew) hc1 (by omega) (Or.inr ⟨hq, hN'⟩) (fun i _ => hg i) (fun b hb => ⟨List.mem_append_left _ hb, fun n1 n2 => ?_⟩)
      exact (va_up_ne _ _ n1).trans (va_up_ne _ _ n2)
    obtain ⟨mc, hat, hL⟩ := hL
    rcases hL with ⟨ha, hcN, hN, q, -⟩ | ⟨ha, hcN, hN1, hN, hel, -, -⟩ | ⟨rfl, rfl, rfl, hf, -, -⟩
    · exact absurd q hnc
    · skip
      refine gG_sp hx (i := .iload_n 3) (len := 1) (by decide +kernel) (sp_il h3) ?_
      refine gG_sp hx (i := .aload_n 2) (len := 1) (by decide +kernel) (sp_al h2) ?_
      refine gG_alen hx 4 (by decide +kernel) ha hO ?_
      refine gG_ic hx (cn := .ne) (off := 8) (tgt := 11) (by decide +kernel) rfl (fun q => absurd (show (nI c).toInt = (Int32.ofNat N).toInt by rw [hcN]; rfl) q) (fun _ => hen)
    · have h2 : ls[((2 : Fin 4) : Nat)]? = some (.val (.ref (kem (gx_D x)))) := by rw [show gx_D x = D from hD]; exact h2
      refine gG_sp hx (i := .iload_n 3) (len := 1) (by decide +kernel) (sp_il h3) ?_
      refine gG_sp hx (i := .aload_n 2) (len := 1) (by decide +kernel) (sp_al h2) ?_
      refine gG_emlen hx (by decide +kernel) ?_
      refine gG_ic hx (cn := .ne) (off := 8) (tgt := 11) (by decide +kernel) rfl (fun q => absurd rfl q) (fun _ => hen)
