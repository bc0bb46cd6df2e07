/-! ARRAYLIST's methods, exactly -/
section PS
variable {x : gx_T} {cl : List vw_C} {cc : ByteArray} {nL : Nat} {tys : List (ClassId × FieldType)} {own : String} {idx ci f N : Nat} {ref C host : String} {T : u_T}
theorem gR_getPS (hx : gC x cl cc nL tys kwT own) (hc : cl[ci]? = some (C, T, N)) (hf : f < N) (hu : ∀ w ∈ u_ws C T N, w ∈ kwT) (hw : Cond.fieldLink own idx ref (T f).2.1 (T f).2.2.1 ∈ lw_tbl) (hsm : Cond.sameField ref (T f).1 (T f).2.1 (T f).2.2.1 ∈ lw_tbl) : gR_get x cl cc idx ci f := by
  obtain ⟨p, l, e, R, s, m, args, below, meth, c, Q, D, A, H0⟩ := x
  have hl := gx_word hx hw rfl
  have hs := gx_word hx hsm rfl
  obtain ⟨⟨he, hb, hml, ho, hts⟩, hK, -⟩ := hx
  intro pc ls a fs v st M n k hd hat hv kk H locs hm
  exact mh_get he hb hts hu ho hK hm hat hc f hf hl (fun x h => u_same hs x h) hv hd (kk H locs hm)
theorem gR_putPS (hx : gC x cl cc nL tys kwT own) (hc : cl[ci]? = some (C, T, N)) (hf : f < N) (hu : ∀ w ∈ u_ws C T N, w ∈ kwT) (ty0 : Nat → FieldType) (hty : ∀ k, k < N → parseFieldDescriptor (T k).2.2.1 = some (ty0 k)) (hnm : ∀ a, a < N → ∀ b, b < N → a ≠ b → (T a).2.1 ≠ (T b).2.1) (hfin : (T f).2.2.2 = false) (hw : Cond.fieldLink own idx ref (T f).2.1 (T f).2.2.1 ∈ lw_tbl) (hsm : Cond.sameField ref (T f).1 (T f).2.1 (T f).2.2.1 ∈ lw_tbl) {ty : FieldType} (ht : ty0 f = ty) : gR_put x cl cc idx ci f ty := by
  obtain ⟨p, l, e, R, s, m, args, below, meth, c, Q, D, A, H0⟩ := x
  have hl := gx_word hx hw rfl
  have hs := gx_word hx hsm rfl
  obtain ⟨⟨he, hb, hml, ho, hts⟩, hK, -⟩ := hx
  subst ht
  intro pc ls a fs v st M n k hd hat hlt hn hfit kk H locs hm
  exact mh_put he hb hts hu ty0 hty hnm ho hK hm hat hc f hf hl (fun x h => u_same hs x h) hfin (hty f hf) hn hfit hlt rfl hd (fun H1 l1 h1 => kk H1 l1 h1)
variable {y : MethodName} {bytes : ByteArray} {maxL : Nat} {fr lo : Nat} {K : ty_C} {l : Launch} {D : va_G} {M : mh_M} {post : Option Value → mh_M → Prop} {pc n k : Nat} {ls : Array Slot} {rest : List Value}
theorem gX_cI {b : Nat} {As : List Value} (hx : gC x cl cc nL tys kwT own) (hl : x.2.1 = l) (hD : x.2.2.2.2.2.2.2.2.2.2.2.1 = D) (hM : mh_Met cl tys l D y [Cond.code y bytes maxL none] (ty_rm fr lo K) (.ref b :: As) M post) (hnm : y.name = "<init>") (hcd : Cond.code y bytes maxL none ∈ lw_tbl) (hin : Cond.initialized y.cls ∈ lw_tbl) (hk : kw_lk own idx y) (hi1 : Cond.instanceMethod y ∈ lw_tbl) {nA : Nat} (hd : kw_ds y nA) (hlen : As.length = nA) (hR : fr + 1 ≤ (gx_R x).frames ∧ 8 + (maxL + 11) + lo ≤ (gx_R x).locals)
    (hdc : decode cc pc = .ok (.invokespecial idx, 3)) (hs : ls.size = nL) (h8 : (rest.map fun v => v.category).sum ≤ 8) (hn : n + K.2.2.2.2.1 ≤ (gx_R x).cells) (hk2 : k + K.2.2.2.2.2.1 ≤ (gx_R x).slots) {st0 : List Value} (hst : st0 = As.reverse ++ .ref b :: rest) (kk : ∀ (v : Option Value) (M' : mh_M), post v M' → gG x cl (pc + 3) ls (v.toList ++ rest) M' (n + K.2.2.2.2.1) (k + K.2.2.2.2.2.1)) : gG x cl pc ls st0 M n k := by
  obtain ⟨p, l', e, R, s, m, args, below, meth, c, Q, D', A, H0⟩ := x
  have hl : l' = l := hl
  have hD : D' = D := hD
  subst hl; subst hD
  have w1 := gx_word hx hi1 rfl
  intro H locs hm
  rcases hk with hk | ⟨host, hk⟩
  · have cw := gx_cb (C := K) hx hcd hin hk hd hR
    exact mh_cI hx.1 hM ⟨cw, hnm, w1⟩ hx.2 hm hlen hs hst h8 hdc ⟨hn, hk2⟩ (fun v M' H1 l1 hp h1 => kk v M' hp H1 l1 h1)
  · have cw := gx_cn (C := K) hx hcd hin hk hd hR
    exact mh_cIN hx.1 hM ⟨cw, hnm, w1⟩ hx.2 hm hlen hs hst h8 hdc ⟨hn, hk2⟩ (fun v M' H1 l1 hp h1 => kk v M' hp H1 l1 h1)
end PS
abbrev cN0 (nc ns : Nat) : ty_C := ([], none, [], [], nc, ns, ty_i0)
/-- a list: its count of changes, where its elements are, how many -/
abbrev lE (mc : Int32) (da : Nat) (c : Nat) : va_E := .inr (1, [.int mc, .ref da, .int (nI c)])
theorem mx_size {l : Launch} {D : va_G} {tys : List (ClassId × FieldType)} {M : mh_M} {w da c : Nat} {mc : Int32} (hat : mh_at M w (lE mc da c)) : mh_Met vwCl tys l D yJx4a65c_size_8abf5 [Cond.code yJx4a65c_size_8abf5 cJx4a65c_size_8abf5 1 ((some .int))] (ty_rm 0 0 cZ0) [.ref w] M (fun v M' => v = some (.int (nI c)) ∧ M' = M) := by
  refine ty_ofX (by decide +kernel) (Nat.le_refl 1) ?_
  intro x ls hx hl hnm hR hD hls hr
  have h0 : ls[((0 : Fin 4) : Nat)]? = some (.val (.ref w)) := hls.2.2 (0, .ref w) List.mem_cons_self
  refine gG_sp hx (i := .aload_n 0) (len := 1) (by decide +kernel) (sp_al h0) ?_
  refine (gR_getP (idx := 48) (ci := 1) (f := 2) hx rfl (by decide) uJx4a65c (kw_at 68 (by decide +kernel))) 1 ls w _ _ _ M 0 0 (by decide +kernel) hat rfl ?_
  exact hr 4 ls .ireturn (some (.int (nI c))) M 0 0 (by decide +kernel) ⟨rfl, _, rfl, rfl⟩ ⟨rfl, rfl⟩ (Nat.le_refl _) (Nat.le_refl _)
theorem mx_chk3 {l : Launch} {D : va_G} {tys : List (ClassId × FieldType)} {M : mh_M} {i n : Int32} (h0 : 0 ≤ i.toInt) (h1 : i.toInt < n.toInt) : mh_Met vwCl tys l D yJ3_checkIndex_8e157 [Cond.code yJ3_checkIndex_8e157 cJ3_checkIndex_8e157 3 ((some .int))] (ty_rm 0 0 cZ0) [.int i, .int n, .null] M (fun v M' => v = some (.int i) ∧ M' = M) := by
  refine ty_ofX (by decide +kernel) (Nat.le_refl 3) ?_
  intro x ls hx hl hnm hR hD hls hr
  have g0 : ls[((0 : Fin 4) : Nat)]? = some (.val (.int i)) := hls.2.2 (0, .int i) List.mem_cons_self
  have g1 : ls[((1 : Fin 4) : Nat)]? = some (.val (.int n)) := hls.2.2 (1, .int n) (List.mem_cons_of_mem _ List.mem_cons_self)
  refine gG_sp hx (i := .iload_n 0) (len := 1) (by decide +kernel) (sp_il g0) ?_
  refine gG_if hx (cn := .lt) (off := 8) (tgt := 9) (by decide +kernel) rfl (fun c => absurd (show i.toInt < 0 from c) (by omega)) (fun _ => ?_)
  refine gG_sp hx (i := .iload_n 0) (len := 1) (by decide +kernel) (sp_il g0) ?_
  refine gG_sp hx (i := .iload_n 1) (len := 1) (by decide +kernel) (sp_il g1) ?_
  refine gG_ic hx (cn := .lt) (off := 10) (tgt := 16) (by decide +kernel) rfl (fun _ => ?_) (fun c => absurd h1 (show ¬ i.toInt < n.toInt from c))
  refine gG_sp hx (i := .iload_n 0) (len := 1) (by decide +kernel) (sp_il g0) ?_
  exact hr 17 ls .ireturn (some (.int i)) M 0 0 (by decide +kernel) ⟨rfl, _, rfl, rfl⟩ ⟨rfl, rfl⟩ (Nat.le_refl _) (Nat.le_refl _)
theorem mx_chk2 {l : Launch} {D : va_G} {tys : List (ClassId × FieldType)} {M : mh_M} {i n : Int32} (h0 : 0 ≤ i.toInt) (h1 : i.toInt < n.toInt) : mh_Met vwCl tys l D yJ15_checkIndex_7cf53 [Cond.code yJ15_checkIndex_7cf53 cJ15_checkIndex_7cf53 2 ((some .int))] (ty_rm 1 22 cZ0) [.int i, .int n] M (fun v M' => v = some (.int i) ∧ M' = M) := by
  refine ty_ofX (by decide +kernel) (Nat.le_refl 2) ?_
  intro x ls hx hl hnm hR hD hls hr
  have g0 : ls[((0 : Fin 4) : Nat)]? = some (.val (.int i)) := hls.2.2 (0, .int i) List.mem_cons_self
  have g1 : ls[((1 : Fin 4) : Nat)]? = some (.val (.int n)) := hls.2.2 (1, .int n) (List.mem_cons_of_mem _ List.mem_cons_self)
  refine gG_sp hx (i := .iload_n 0) (len := 1) (by decide +kernel) (sp_il g0) ?_
  refine gG_sp hx (i := .iload_n 1) (len := 1) (by decide +kernel) (sp_il g1) ?_
  refine gG_null hx (by decide +kernel) ?_
  refine gX_cS (idx := 105) (C := cZ0) hx hl hD (mx_chk3 h0 h1) (kw_at 231 (by decide +kernel)) (kw_at 13 (by decide +kernel)) (Or.inl (kw_at 229 (by decide +kernel))) (kw_at 230 (by decide +kernel)) (nA := 3) (by decide +kernel) rfl ⟨by rw [hR]; exact Nat.le_of_ble_eq_true rfl, by rw [hR]; exact Nat.le_of_ble_eq_true rfl⟩ (pc := 3) (by decide +kernel) hls.1 (rest := []) (Nat.zero_le 8) (by rw [hR]; decide) (by rw [hR]; decide) (fun v M' hv => ?_)
  obtain ⟨rfl, rfl⟩ := hv
  exact hr 6 ls .ireturn (some (.int i)) M' 0 0 (by decide +kernel) ⟨rfl, _, rfl, rfl⟩ ⟨rfl, rfl⟩ (Nat.le_refl _) (Nat.le_refl _)
theorem mx_elem {l : Launch} {D : va_G} {tys : List (ClassId × FieldType)} {cO : ClassId} (hO : ty_tyO tys cO) {M : mh_M} {w a c N y : Nat} {mc i : Int32} {f : Nat → Option Nat} (hat : mh_at M w (lE mc a c)) (ha : mh_at M a (qA cO N f)) (hi : vp_in i N) (hy : f i.toNatClampNeg = some y) : mh_Met vwCl tys l D yJx4a65c_elementData_915e3 [Cond.code yJx4a65c_elementData_915e3 cJx4a65c_elementData_915e3 2 ((some (.object "java/lang/Object")))] (ty_rm 0 0 cZ0) [.ref w, .int i] M (fun v M' => v = some (.ref y) ∧ M' = M) := by
  refine ty_ofX (by decide +kernel) (Nat.le_refl 2) ?_
  intro x ls hx hl hnm hR hD hls hr
  have h0 : ls[((0 : Fin 4) : Nat)]? = some (.val (.ref w)) := hls.2.2 (0, .ref w) List.mem_cons_self
  have h1 : ls[((1 : Fin 4) : Nat)]? = some (.val (.int i)) := hls.2.2 (1, .int i) (List.mem_cons_of_mem _ List.mem_cons_self)
  refine gG_sp hx (i := .aload_n 0) (len := 1) (by decide +kernel) (sp_al h0) ?_
  refine (gR_getP (idx := 9) (ci := 1) (f := 1) hx rfl (by decide) uJx4a65c (kw_at 67 (by decide +kernel))) 1 ls w _ _ _ M 0 0 (by decide +kernel) hat rfl ?_
  refine gG_sp hx (i := .iload_n 1) (len := 1) (by decide +kernel) (sp_il h1) ?_
  refine gG_aldq hx 4 (by decide +kernel) ha hO hi ?_
  rw [hy]
  exact hr 6 ls .areturn (some (.ref y)) M 0 0 (by decide +kernel) ⟨rfl, _, rfl⟩ ⟨rfl, rfl⟩ (Nat.le_refl _) (Nat.le_refl _)
theorem mx_get {l : Launch} {D : va_G} {tys : List (ClassId × FieldType)} {cO : ClassId} (hO : ty_tyO tys cO) {M : mh_M} {w a c N y : Nat} {mc i : Int32} {f : Nat → Option Nat} (hat : mh_at M w (lE mc a c)) (ha : mh_at M a (qA cO N f)) (hi0 : 0 ≤ i.toInt) (hi1 : i.toInt < c) (hcN : c ≤ N) (hN : N < 2147483648) (hy : f i.toNatClampNeg = some y) : mh_Met vwCl tys l D yJx4a65c_get_915e3 [Cond.code yJx4a65c_get_915e3 cJx4a65c_get_915e3 2 ((some (.object "java/lang/Object")))] (ty_rm 2 43 cZ0) [.ref w, .int i] M (fun v M' => v = some (.ref y) ∧ M' = M) := by
  refine ty_ofX (by decide +kernel) (Nat.le_refl 2) ?_
  intro x ls hx hl hnm hR hD hls hr
  have h0 : ls[((0 : Fin 4) : Nat)]? = some (.val (.ref w)) := hls.2.2 (0, .ref w) List.mem_cons_self
  have h1 : ls[((1 : Fin 4) : Nat)]? = some (.val (.int i)) := hls.2.2 (1, .int i) (List.mem_cons_of_mem _ List.mem_cons_self)
  refine gG_sp hx (i := .iload_n 1) (len := 1) (by decide +kernel) (sp_il h1) ?_
  refine gG_sp hx (i := .aload_n 0) (len := 1) (by decide +kernel) (sp_al h0) ?_
  refine (gR_getP (idx := 48) (ci := 1) (f := 2) hx rfl (by decide) uJx4a65c (kw_at 68 (by decide +kernel))) 2 ls w _ _ _ M 0 0 (by decide +kernel) hat rfl ?_
  refine gX_cS (idx := 118) (C := cZ0) hx hl hD (mx_chk2 hi0 (by rw [nI_tn (by omega)]; exact hi1)) (kw_at 228 (by decide +kernel)) (kw_at 12 (by decide +kernel)) (Or.inl (kw_at 226 (by decide +kernel))) (kw_at 227 (by decide +kernel)) (nA := 2) (by decide +kernel) rfl ⟨by rw [hR]; exact Nat.le_of_ble_eq_true rfl, by rw [hR]; exact Nat.le_of_ble_eq_true rfl⟩ (pc := 5) (by decide +kernel) hls.1 (rest := []) (Nat.zero_le 8) (by rw [hR]; decide) (by rw [hR]; decide) (fun v M' hv => ?_)
  obtain ⟨rfl, rfl⟩ := hv
  refine gG_sp hx (i := .pop) (len := 1) (by decide +kernel) rfl ?_
  refine gG_sp hx (i := .aload_n 0) (len := 1) (by decide +kernel) (sp_al h0) ?_
  refine gG_sp hx (i := .iload_n 1) (len := 1) (by decide +kernel) (sp_il h1) ?_
  refine gX_cV (idx := 123) (C := cZ0) (ci := 1) (T := TJx4a65c) (N := 3) hx hl hD (mx_elem hO hat ha (vp_in_iff.mpr ⟨hi0, by omega⟩) hy) rfl (kw_at 235 (by decide +kernel)) (kw_at 7 (by decide +kernel)) (Or.inl (kw_at 232 (by decide +kernel))) (kw_at 233 (by decide +kernel)) (kw_at 234 (by decide +kernel)) (nA := 1) (by decide +kernel) rfl ⟨by rw [hR]; exact Nat.le_of_ble_eq_true rfl, by rw [hR]; exact Nat.le_of_ble_eq_true rfl⟩ (pc := 11) (by decide +kernel) hat hls.1 (rest := []) (Nat.zero_le 8) (by rw [hR]; decide) (by rw [hR]; decide) rfl (fun v M2 hv => ?_)
  obtain ⟨rfl, rfl⟩ := hv
  exact hr 14 ls .areturn (some (.ref y)) M2 0 0 (by decide +kernel) ⟨rfl, _, rfl⟩ ⟨rfl, rfl⟩ (Nat.le_refl _) (Nat.le_refl _)
theorem mx_newLen {l : Launch} {D : va_G} {tys : List (ClassId × FieldType)} {M : mh_M} {N : Nat} (hN : N ≤ 100000) {a b c : Int32} (ha : a.toInt = (N : Int)) (hb : b.toInt = 1) (hc : c.toInt = ((N / 2 : Nat) : Int)) : mh_Met vwCl tys l D yJ8_newLength_cabcc [Cond.code yJ8_newLength_cabcc cJ8_newLength_cabcc 4 ((some .int))] (ty_rm 1 21 cZ0) [.int a, .int b, .int c] M (fun v M' => M' = M ∧ ∃ r : Int32, v = some (.int r) ∧ r.toInt = ((N + max 1 (N / 2) : Nat) : Int)) := by
  refine ty_ofX (by decide +kernel) (show 3 ≤ 4 by omega) ?_
  intro x ls hx hl hnm hR hD hls hr
  have h0 : ls[((0 : Fin 4) : Nat)]? = some (.val (.int a)) := hls.2.2 (0, .int a) List.mem_cons_self
  have h1 : ls[((1 : Fin 4) : Nat)]? = some (.val (.int b)) := hls.2.2 (1, .int b) (List.mem_cons_of_mem _ List.mem_cons_self)
  have h2 : ls[((2 : Fin 4) : Nat)]? = some (.val (.int c)) := hls.2.2 (2, .int c) (List.mem_cons_of_mem _ (List.mem_cons_of_mem _ List.mem_cons_self))
  refine gG_sp hx (i := .iload_n 0) (len := 1) (by decide +kernel) (sp_il h0) ?_
  refine gG_sp hx (i := .iload_n 1) (len := 1) (by decide +kernel) (sp_il h1) ?_
  refine gG_sp hx (i := .iload_n 2) (len := 1) (by decide +kernel) (sp_il h2) ?_
  refine gG_max (idx := 194) hx (kw_at 345 (by decide +kernel)) (kw_at 346 (by decide +kernel)) (kw_at 2 (by decide +kernel)) (kw_at 347 (by decide +kernel)) ⟨by rw [hR]; exact Nat.le_of_ble_eq_true rfl, by rw [hR]; exact Nat.le_of_ble_eq_true rfl⟩ hls.1 (by show 1 ≤ 8; omega) (by rw [hR]; decide) (by rw [hR]; decide) (by decide +kernel) (fun r hrr => ?_)
  refine gG_sp hx (i := .iadd) (len := 1) (by decide +kernel) rfl ?_
  have es : (a + r).toInt = ((N + max 1 (N / 2) : Nat) : Int) := by rw [ty_addI ha rfl (by omega) (by omega)]; omega
  refine gG_istore hx hls.1 hls.2.1 (i := 3) (len := 1) (Or.inr ⟨3, by decide +kernel, rfl, rfl⟩) (by decide) (fun ls1 p1 => ?_)
  have h3 := p1.2.2.1
  refine gG_sp hx (i := .iconst 0) (len := 1) (by decide +kernel) rfl ?_
  refine gG_sp hx (i := .iload_n 3) (len := 1) (by decide +kernel) (sp_il (j := 3) h3) ?_
  refine gG_ic hx (cn := .ge) (off := 11) (tgt := 21) (by decide +kernel) rfl (fun c => absurd (show (a + r).toInt ≤ (Int32.ofInt 0).toInt from c) (by rw [es, show (Int32.ofInt 0).toInt = 0 from rfl]; omega)) (fun _ => ?_)
  refine gG_sp hx (i := .iload_n 3) (len := 1) (by decide +kernel) (sp_il (j := 3) h3) ?_
  refine ((gR_ldcP (idx := 200) (v := 2147483639) hx (kw_at 348 (by decide +kernel))) 14 ls1 _ M 0 0).1 (by decide +kernel) ?_
  refine gG_ic hx (cn := .gt) (off := 5) (tgt := 21) (by decide +kernel) rfl (fun c => absurd (show (2147483639 : Int32).toInt < (a + r).toInt from c) (by rw [es, show (2147483639 : Int32).toInt = 2147483639 from rfl]; omega)) (fun _ => ?_)
  refine gG_sp hx (i := .iload_n 3) (len := 1) (by decide +kernel) (sp_il (j := 3) h3) ?_
  exact hr 20 ls1 .ireturn (some (.int (a + r))) M 0 0 (by decide +kernel) ⟨rfl, _, rfl, rfl⟩ ⟨rfl, _, rfl, es⟩ (Nat.le_refl _) (Nat.le_refl _)
theorem mx_copy3 {l : Launch} {D : va_G} {tys : List (ClassId × FieldType)} {cO : ClassId} (hO : ty_tyO tys cO) {C : String} {T : u_T} {F ci : Nat} (hw : Cond.castable C "java/lang/Object" ∈ kSW) (hc : vwCl[ci]? = some (C, T, F)) {M : mh_M} {a N N' : Nat} {f : Nat → Option Nat} {r : Int32} (ha : mh_at M a (qA cO N f)) (hr0 : r.toInt = (N' : Int)) (hNN : N ≤ N') (hN : N' ≤ 200000) (hel : ∀ i, i < N → ∀ y, f i = some y → ∃ vs, mh_at M y (.inr (ci, vs))) : mh_Met vwCl tys l D yJ7_copyOf_6403c [Cond.code yJ7_copyOf_6403c cJ7_copyOf_6403c 4 ((some (.array (.object "java/lang/Object"))))] (ty_rm 1 26 (cN0 1 N')) [.ref a, .int r, .ref (kmi D)] M (fun v M' => ∃ q, q ∉ M.1 ∧ v = some (.ref q) ∧ M' = mh_new M q (qA cO N' (va_cpy f (fun _ => none) 0 0 N))) := by
  refine ty_ofX (by decide +kernel) (show 3 ≤ 4 by omega) ?_
  intro x ls hx hl hnm hR hD hls hr
  have h0 : ls[((0 : Fin 4) : Nat)]? = some (.val (.ref a)) := hls.2.2 (0, .ref a) List.mem_cons_self
  have h1 : ls[((1 : Fin 4) : Nat)]? = some (.val (.int r)) := hls.2.2 (1, .int r) (List.mem_cons_of_mem _ List.mem_cons_self)
  have h2 : ls[((2 : Fin 4) : Nat)]? = some (.val (.ref (kmi D))) := hls.2.2 (2, .ref _) (List.mem_cons_of_mem _ (List.mem_cons_of_mem _ List.mem_cons_self))
  refine gG_sp hx (i := .aload_n 2) (len := 1) (by decide +kernel) (sp_al (j := 2) h2) ?_
  refine gG_ldcM (idx := 110) hx (kw_at 370 (by decide +kernel)) (by decide +kernel) ?_
  refine gG_acmp_ne hx (off := 10) (tgt := 13) (by decide +kernel) rfl (fun q => absurd (show kmi D = kmi (gx_D x) by rw [show gx_D x = D from hD]) q) (fun _ => ?_)
  refine gG_sp hx (i := .iload_n 1) (len := 1) (by decide +kernel) (sp_il (j := 1) h1) ?_
  refine gG_newq (idx := 2) hx 4 (kw_at 372 (by decide +kernel)) (by decide +kernel) hO N' (by decide +kernel) hr0 (by omega) (by rw [hR]; show 0 + 1 ≤ 1; omega) (by rw [hR]; show 0 + N' ≤ N'; omega) (fun q hq => ?_)
  refine gG_goto hx (off := 14) (tgt := 24) (by decide +kernel) rfl ?_
  refine gG_astore hx hls.1 hls.2.1 (i := 3) (len := 1) (Or.inr ⟨3, by decide +kernel, rfl, rfl⟩) (by decide) (fun ls1 p1 => ?_)
  have h0 : ls1[((0 : Fin 4) : Nat)]? = some (.val (.ref a)) := ty_kp p1 h0 (by omega) (by omega)
  have h1 : ls1[((1 : Fin 4) : Nat)]? = some (.val (.int r)) := ty_kp p1 h1 (by omega) (by omega)
  have h3 : ls1[((3 : Fin 4) : Nat)]? = some (.val (.ref q)) := p1.2.2.1
  have hq' : mh_at (mh_new M q (qA cO N' (fun _ => none))) q (qA cO N' (fun _ => none)) := mh_at.new_self
  have ha' : mh_at (mh_new M q (qA cO N' (fun _ => none))) a (qA cO N f) := ha.new hq
  refine gG_sp hx (i := .aload_n 0) (len := 1) (by decide +kernel) (sp_al h0) ?_
  refine gG_sp hx (i := .iconst 0) (len := 1) (by decide +kernel) rfl ?_
  refine gG_sp hx (i := .aload_n 3) (len := 1) (by decide +kernel) (sp_al h3) ?_
  refine gG_sp hx (i := .iconst 0) (len := 1) (by decide +kernel) rfl ?_
  refine gG_sp hx (i := .aload_n 0) (len := 1) (by decide +kernel) (sp_al h0) ?_
  refine gG_alen hx 4 (by decide +kernel) ha' hO ?_
  refine gG_sp hx (i := .iload_n 1) (len := 1) (by decide +kernel) (sp_il h1) ?_
  have eN : (Int32.ofNat N).toInt = (N : Int) := nI_tn (by omega)
  refine gG_min (idx := 304) hx (kw_at 373 (by decide +kernel)) (kw_at 374 (by decide +kernel)) (kw_at 2 (by decide +kernel)) (kw_at 375 (by decide +kernel)) ⟨by rw [hR]; exact Nat.le_of_ble_eq_true rfl, by rw [hR]; exact Nat.le_of_ble_eq_true rfl⟩ p1.1 (by show 4 ≤ 8; omega) (by rw [hR]; show 0 + 1 ≤ 1; omega) (by rw [hR]; show 0 + N' ≤ N'; omega) (by decide +kernel) (fun z hz => ?_)
  have ez : z.toInt = (N : Int) := by rw [hz, eN, hr0]; omega
  refine gG_copyq (idx := 150) hx 4 (kw_at 376 (by decide +kernel)) (kw_at 308 (by decide +kernel)) (kw_at 307 (by decide +kernel)) (kw_at 16 (by decide +kernel)) hw hc hO ha' hq' (sp' := 0) (dp' := 0) (ln' := N) rfl rfl ez (by omega) (by omega) (fun i hi y hy => ?_) ⟨by rw [hR]; exact Nat.le_of_ble_eq_true rfl, by rw [hR]; show 8 + (nativeFrameWords "java/lang/System" "arraycopy" 5 + 11) ≤ 26; decide +kernel⟩ p1.1 (Nat.zero_le 8) (by decide +kernel) ?_
  · rw [Nat.zero_add] at hy
    obtain ⟨vs, hv⟩ := hel i hi y hy
    exact ⟨vs, hv.new hq⟩
  refine gG_sp hx (i := .aload_n 3) (len := 1) (by decide +kernel) (sp_al (j := 3) h3) ?_
  refine hr 39 ls1 .areturn (some (.ref q)) _ _ _ (by decide +kernel) ⟨rfl, _, rfl⟩ ⟨q, hq, rfl, ?_⟩ (by show 0 + 1 ≤ 1; omega) (by show 0 + N' ≤ N'; omega)
  unfold mh_set mh_new
  rw [bx_uu]
theorem mx_copy2 {l : Launch} {D : va_G} {tys : List (ClassId × FieldType)} {cO : ClassId} (hO : ty_tyO tys cO) {C : String} {T : u_T} {F ci : Nat} (hw : Cond.castable C "java/lang/Object" ∈ kSW) (hc : vwCl[ci]? = some (C, T, F)) {M : mh_M} {a N N' : Nat} {f : Nat → Option Nat} {r : Int32} (ha : mh_at M a (qA cO N f)) (hr0 : r.toInt = (N' : Int)) (hNN : N ≤ N') (hN : N' ≤ 200000) (hel : ∀ i, i < N → ∀ y, f i = some y → ∃ vs, mh_at M y (.inr (ci, vs))) : mh_Met vwCl tys l D yJ7_copyOf_1904c [Cond.code yJ7_copyOf_1904c cJ7_copyOf_1904c 2 ((some (.array (.object "java/lang/Object"))))] (ty_rm 2 49 (cN0 1 N')) [.ref a, .int r] M (fun v M' => ∃ q, q ∉ M.1 ∧ v = some (.ref q) ∧ M' = mh_new M q (qA cO N' (va_cpy f (fun _ => none) 0 0 N))) := by
  refine ty_ofX (by decide +kernel) (Nat.le_refl 2) ?_
  intro x ls hx hl hnm hR hD hls hr
  have h0 : ls[((0 : Fin 4) : Nat)]? = some (.val (.ref a)) := hls.2.2 (0, .ref a) List.mem_cons_self
  have h1 : ls[((1 : Fin 4) : Nat)]? = some (.val (.int r)) := hls.2.2 (1, .int r) (List.mem_cons_of_mem _ List.mem_cons_self)
  refine gG_sp hx (i := .aload_n 0) (len := 1) (by decide +kernel) (sp_al h0) ?_
  refine gG_sp hx (i := .iload_n 1) (len := 1) (by decide +kernel) (sp_il h1) ?_
  refine gG_sp hx (i := .aload_n 0) (len := 1) (by decide +kernel) (sp_al h0) ?_
  refine gG_getC (idx := 86) hx 4 (kw_at 355 (by decide +kernel)) (by decide +kernel) (kw_at 814 (by decide +kernel)) (kw_at 356 (by decide +kernel)) (kw_at 366 (by decide +kernel)) ha hO hls.1 ⟨by rw [hR]; exact Nat.le_of_ble_eq_true rfl, by rw [hR]; exact Nat.le_of_ble_eq_true rfl⟩ (by show 2 ≤ 8; omega) (by decide +kernel) ?_
  rw [show gx_D x = D from hD]
  refine gX_cS (idx := 300) (C := (cN0 1 N')) hx hl hD (mx_copy3 hO hw hc ha hr0 hNN hN hel) (kw_at 369 (by decide +kernel)) (kw_at 8 (by decide +kernel)) (Or.inl (kw_at 367 (by decide +kernel))) (kw_at 368 (by decide +kernel)) (nA := 3) (by decide +kernel) rfl ⟨by rw [hR]; exact Nat.le_of_ble_eq_true rfl, by rw [hR]; exact Nat.le_of_ble_eq_true rfl⟩ (pc := 6) (by decide +kernel) hls.1 (rest := []) (Nat.zero_le 8) (by rw [hR]; show 0 + 1 ≤ 1; omega) (by rw [hR]; show 0 + N' ≤ N'; omega) (fun v M' hv => ?_)
  obtain ⟨q, hq, rfl, rfl⟩ := hv
  exact hr 9 ls .areturn (some (.ref q)) _ _ _ (by decide +kernel) ⟨rfl, _, rfl⟩ ⟨q, hq, rfl, rfl⟩ (by show 0 + 1 ≤ 1; omega) (by show 0 + N' ≤ N'; omega)
