/-! REFERENCES: arrays of objects, the shared empty array, class objects, casts; Math.max and Math.min exactly -/
abbrev qA (cO : ClassId) (N : Nat) (f : Nat → Option Nat) : va_E := .inl (cO, N, .inr (.inr (.inr (.inr f))))
section GQ
variable {x : gx_T} {cl : List vw_C} {cc : ByteArray} {nL : Nat} {tys : List (ClassId × FieldType)} {own : String} {pc : Nat} {ls : Array Slot} {st : List Value} {M : mh_M} {n k idx : Nat}
/-- the globals that a walk has -/
abbrev gx_D (x : gx_T) : va_G := x.2.2.2.2.2.2.2.2.2.2.2.1
theorem gG_null (hx : gC x cl cc nL tys kwT own) (hd : decode cc pc = .ok (.aconst_null, 1)) (kk : gG x cl (pc + 1) ls (.null :: st) M n k) : gG x cl pc ls st M n k := by
  obtain ⟨p, l, e, R, s, m, args, below, meth, c, Q, D, A, H0⟩ := x
  obtain ⟨⟨he, hb, -⟩, -⟩ := hx
  exact fun H locs hm => lv_null he hb hd (kk H locs hm)
theorem gG_aldq (hx : gC x cl cc nL tys kwT own) (t0 : Nat) {a : Nat} {cA : ClassId} {C : String} {N : Nat} {f : Nat → Option Nat} {i : Int32} (hd : decode cc pc = .ok (.aaload, 1)) (ha : mh_at M a (qA cA N f)) (ht : tys[t0]? = some (cA, .object C)) (hi : vp_in i N) (kk : gG x cl (pc + 1) ls (va_rf (f i.toNatClampNeg) :: st) M n k) : gG x cl pc ls (.int i :: .ref a :: st) M n k := by
  obtain ⟨p, l, e, R, s, m, args, below, meth, c, Q, D, A, H0⟩ := x
  obtain ⟨⟨he, hb, -⟩, hK, -⟩ := hx
  intro H locs hm
  obtain ⟨q, hq⟩ := mh_get_ix ha
  exact va_aldq he hb hK hm.1 q t0 hq ht hi hd (kk H locs hm)
theorem gG_astq (hx : gC x cl cc nL tys kwT own) (t0 : Nat) {a v ci : Nat} {cA : ClassId} {C : String} {T : u_T} {F N : Nat} {f : Nat → Option Nat} {vs : List Value} {i : Int32} (hw : Cond.castable C "java/lang/Object" ∈ kSW) (hc : cl[ci]? = some (C, T, F)) (hd : decode cc pc = .ok (.aastore, 1)) (ha : mh_at M a (qA cA N f)) (hv : mh_at M v (.inr (ci, vs))) (ht : tys[t0]? = some (cA, .object "java/lang/Object")) (hi : vp_in i N) (kk : gG x cl (pc + 1) ls st (mh_set M a (qA cA N (va_up f i.toNatClampNeg (some v)))) n k) : gG x cl pc ls (.ref v :: .int i :: .ref a :: st) M n k := by
  obtain ⟨p, l, e, R, s, m, args, below, meth, c, Q, D, A, H0⟩ := x
  have w : va_Nw (.castable C "java/lang/Object") s := kS_now hx.2 hw #[]
  obtain ⟨⟨he, hb, -⟩, hK, -⟩ := hx
  intro H locs hm
  obtain ⟨q, hq⟩ := mh_get_ix ha
  obtain ⟨q2, hq2⟩ := mh_get_ix hv
  obtain ⟨hP, hD, hS, hA⟩ := hm
  refine va_astqO he hb hK hP hD hS q t0 q2 ci hq ht w hq2 hc hi hd (fun H1 locs1 hP1 hD1 hS1 => ?_)
  rw [mh_set_eq hD ha hq] at hP1 hD1
  exact kk H1 locs1 ⟨hP1, hD1, hS1, hA⟩
theorem gG_astN (hx : gC x cl cc nL tys kwT own) (t0 : Nat) {a : Nat} {cA : ClassId} {C : String} {N : Nat} {f : Nat → Option Nat} {i : Int32} (hd : decode cc pc = .ok (.aastore, 1)) (ha : mh_at M a (qA cA N f)) (ht : tys[t0]? = some (cA, .object C)) (hi : vp_in i N) (kk : gG x cl (pc + 1) ls st (mh_set M a (qA cA N (va_up f i.toNatClampNeg none))) n k) : gG x cl pc ls (.null :: .int i :: .ref a :: st) M n k := by
  obtain ⟨p, l, e, R, s, m, args, below, meth, c, Q, D, A, H0⟩ := x
  obtain ⟨⟨he, hb, -⟩, hK, -⟩ := hx
  intro H locs hm
  obtain ⟨q, hq⟩ := mh_get_ix ha
  obtain ⟨hP, hD, hS, hA⟩ := hm
  refine va_astqN he hb hK hP hD hS q t0 hq ht hi hd (fun H1 locs1 hP1 hD1 hS1 => ?_)
  rw [mh_set_eq hD ha hq] at hP1 hD1
  exact kk H1 locs1 ⟨hP1, hD1, hS1, hA⟩
theorem gG_newq (hx : gC x cl cc nL tys kwT own) (t0 : Nat) {cA : ClassId} (hcl : Cond.classLink own idx "java/lang/Object" ∈ lw_tbl) (hao : Cond.arrayOver (.object "java/lang/Object") ∈ kSW) (ht : tys[t0]? = some (cA, .object "java/lang/Object")) {v : Int32} (N : Nat) (hd : decode cc pc = .ok (.anewarray idx, 3)) (hv : v.toInt = (N : Int)) (hN : N ≤ 60000000) (h1 : n + 1 ≤ (gx_R x).cells) (h2 : k + N ≤ (gx_R x).slots) (kk : ∀ q, q ∉ M.1 → gG x cl (pc + 3) ls (.ref q :: st) (mh_new M q (qA cA N (fun _ => none))) (n + 1) (k + N)) : gG x cl pc ls (.int v :: st) M n k := by
  obtain ⟨p, l, e, R, s, m, args, below, meth, c, Q, D, A, H0⟩ := x
  have w1 := gx_word hx hcl rfl
  have w2 : va_AO "java/lang/Object" s := kS_now hx.2 hao #[]
  obtain ⟨⟨he, hb, hml, ho, hts⟩, hK, -⟩ := hx
  intro H locs hm
  obtain ⟨hP, hD, hS, hA⟩ := hm
  have h0 : ¬ v < 0 := fun q => by
    have := Int32.lt_iff_toInt_lt.mp q
    rw [show (0 : Int32).toInt = 0 from rfl] at this
    omega
  refine va_newq he hb ho w1 w2 hK hP hD hS hA h0 (ty_clN hv) (by omega) h1 h2 hd (fun q cA2 H1 hK1 hP1 hD1 hS1 => ?_)
  have e1 := va_nmO (hK.2 t0 _ ht).2 rfl
  have e2 := va_nmO (hK1.2 tys.length (cA2, .object "java/lang/Object") (by rw [List.getElem?_append_right (Nat.le_refl _), Nat.sub_self]; rfl)).2 rfl
  have e3 : cA2 = cA := Option.some.inj (e2.symm.trans e1)
  subst e3
  have hq := mh_fresh hD1
  rw [mh_new_eq hq] at hP1 hD1
  exact kk q hq H1 locs ⟨hP1, hD1, hS1, hA⟩
/-- arraycopy between arrays of objects, all of one class -/
theorem gG_copyq (hx : gC x cl cc nL tys kwT own) (t0 : Nat) {cA : ClassId} {C : String} {T : u_T} {F ci : Nat} (hk : Cond.methodLink own idx arraycopyName ∈ lw_tbl) (hnt : Cond.native arraycopyName ∈ lw_tbl) (hst : Cond.static arraycopyName ∈ lw_tbl) (hin : Cond.initialized "java/lang/System" ∈ lw_tbl) (hw : Cond.castable C "java/lang/Object" ∈ kSW) (hc : cl[ci]? = some (C, T, F)) (ht : tys[t0]? = some (cA, .object "java/lang/Object"))
    {a0 a1 n0 n1 : Nat} {f g : Nat → Option Nat} (h0 : mh_at M a0 (qA cA n0 f)) (h1 : mh_at M a1 (qA cA n1 g)) {sp dp ln : Int32} {sp' dp' ln' : Nat} (hsp : sp.toInt = (sp' : Int)) (hdp : dp.toInt = (dp' : Int)) (hln : ln.toInt = (ln' : Int)) (hb0 : sp' + ln' ≤ n0) (hb1 : dp' + ln' ≤ n1) (hel : ∀ i, i < ln' → ∀ y, f (sp' + i) = some y → ∃ vs, mh_at M y (.inr (ci, vs))) (hR : 1 ≤ (gx_R x).frames ∧ 8 + (nativeFrameWords "java/lang/System" "arraycopy" 5 + 11) ≤ (gx_R x).locals) (hs : ls.size = nL) (h8 : (st.map fun v => v.category).sum ≤ 8)
    (hd : decode cc pc = .ok (.invokestatic idx, 3)) (kk : gG x cl (pc + 3) ls st (mh_set M a1 (qA cA n1 (va_cpy f g sp' dp' ln'))) n k) : gG x cl pc ls (.int ln :: .int dp :: .ref a1 :: .int sp :: .ref a0 :: st) M n k := by
  obtain ⟨p, l, e, R, s, m, args, below, meth, c, Q, D, A, H0⟩ := x
  have w1 := gx_word hx hk rfl
  have w2 := gx_word hx hnt rfl
  have w3 := gx_word hx hst rfl
  have w4 := gx_word hx hin rfl
  have w5 : va_Nw (.castable C "java/lang/Object") s := kS_now hx.2 hw #[]
  obtain ⟨⟨he, hb, hml, ho, hts⟩, hK, -⟩ := hx
  intro H locs hm
  obtain ⟨q0, hq0⟩ := mh_get_ix h0
  obtain ⟨q1, hq1⟩ := mh_get_ix h1
  obtain ⟨hP, hD, hS, hA⟩ := hm
  have nn : ∀ {z : Int32} {z' : Nat}, z.toInt = (z' : Int) → ¬ z < 0 := fun hz q => by
    have := Int32.lt_iff_toInt_lt.mp q
    rw [show (0 : Int32).toInt = 0 from rfl] at this
    omega
  have c1 := ty_clN hsp
  have c2 := ty_clN hdp
  have c3 := ty_clN hln
  have hR1 : 1 ≤ R.frames := hR.1
  have hR2 : 8 + (nativeFrameWords "java/lang/System" "arraycopy" 5 + 11) ≤ R.locals := hR.2
  refine va_copyq (C := C) he hb (hml.trans hs.symm) ho w1 w2 w3 w4 hK hP hD hS q0 q1 t0 t0 hq0 hq1 ht ht (nn hsp) (nn hdp) (nn hln) (by rw [c1, c3]; exact hb0) (by rw [c2, c3]; exact hb1) (fun i hi y hy => ?_) (fun comp c0 f1 f2 => vb_asgC w5 comp c0 f1 f2) hR1 (by omega) hd (fun H1 locs1 hP1 hD1 hS1 => ?_)
  · rw [c3] at hi
    rw [c1] at hy
    obtain ⟨vs, hv⟩ := hel i hi y hy
    obtain ⟨qv, hqv⟩ := mh_get_ix hv
    exact va_recv hK hP hc hqv
  · rw [c1, c2, c3] at hP1 hD1
    rw [mh_set_eq hD h1 hq1] at hP1 hD1
    exact kk H1 locs1 ⟨hP1, hD1, hS1, hA⟩
/-- the shared empty array -/
theorem gG_getem (hx : gC x cl cc nL tys kwT own) (hk : Cond.fieldLink own idx "java/util/ArrayList" "DEFAULTCAPACITY_EMPTY_ELEMENTDATA" "[Ljava/lang/Object;" ∈ lw_tbl) (hd : decode cc pc = .ok (.getstatic idx, 3)) (kk : gG x cl (pc + 3) ls (.ref (kem (gx_D x)) :: st) M n k) : gG x cl pc ls st M n k := by
  obtain ⟨p, l, e, R, s, m, args, below, meth, c, Q, D, A, H0⟩ := x
  have w1 := gx_word hx hk rfl
  obtain ⟨⟨he, hb, hml, ho, hts⟩, hK, hW, hZ, hE⟩ := hx
  intro H locs hm
  obtain ⟨cf, kf, fi, f, a, cell, h1, h2, h3, h4, h5, h6, h7, h8⟩ := hZ.1.kept hm.2.2.1.2.1
  exact W.gets he hb ho w1 h1 h2 h3 h4 h5 (fun e => by rw [e] at h6; cases h6) h7 rfl hd (kk H locs hm)
theorem gG_emlen (hx : gC x cl cc nL tys kwT own) (hd : decode cc pc = .ok (.arraylength, 1)) (kk : gG x cl (pc + 1) ls (.int (nI 0) :: st) M n k) : gG x cl pc ls (.ref (kem (gx_D x)) :: st) M n k := by
  obtain ⟨p, l, e, R, s, m, args, below, meth, c, Q, D, A, H0⟩ := x
  obtain ⟨⟨he, hb, hml, ho, hts⟩, hK, hW, hZ, hE⟩ := hx
  intro H locs hm
  obtain ⟨cell, h1, h2, h3, h4, h5, h6, h7⟩ := hZ.2.1.kept hm.2.2.1.2.1
  exact W.alen (n := Int32.ofNat 0) he hb h1 h2 h5 rfl rfl hd (kk H locs hm)
/-- it is none of one's own cells -/
theorem gG_emne (hx : gC x cl cc nL tys kwT own) (kk : kem (gx_D x) ∉ M.1 → gG x cl pc ls st M n k) : gG x cl pc ls st M n k := by
  obtain ⟨p, l, e, R, s, m, args, below, meth, c, Q, D, A, H0⟩ := x
  obtain ⟨⟨he, hb, hml, ho, hts⟩, hK, hW, hZ, hE⟩ := hx
  intro H locs hm
  refine kk (fun hin => ?_) H locs hm
  obtain ⟨i, hi⟩ := mh_get_ix (M := M) (a := kem D) (e := M.2 (kem D)) ⟨hin, rfl⟩
  exact hZ.2.1.out (hm.2.1.2 i _ hi)
theorem gG_ldcM (hx : gC x cl cc nL tys kwT own) (hk : Cond.classLink own idx "[Ljava/lang/Object;" ∈ lw_tbl) (hd : decode cc pc = .ok (.ldc idx, 2)) (kk : gG x cl (pc + 2) ls (.ref (kmi (gx_D x)) :: st) M n k) : gG x cl pc ls st M n k := by
  obtain ⟨p, l, e, R, s, m, args, below, meth, c, Q, D, A, H0⟩ := x
  have w1 := gx_word hx hk rfl
  obtain ⟨⟨he, hb, hml, ho, hts⟩, hK, hW, hZ, hE⟩ := hx
  exact fun H locs hm => va_ldcM he hb ho w1 hZ.2.2.1 hd (kk H locs hm)
theorem gG_getC (hx : gC x cl cc nL tys kwT own) (t0 : Nat) {cA : ClassId} {a N : Nat} {f : Nat → Option Nat} (hk : Cond.methodLink own idx ⟨"java/lang/Object", "getClass", "()Ljava/lang/Class;"⟩ ∈ lw_tbl) (h2 : Cond.declares ⟨"java/lang/Object", "getClass", "()Ljava/lang/Class;"⟩ ∈ kSW) (h3 : Cond.selects "[Ljava/lang/Object;" ⟨"java/lang/Object", "getClass", "()Ljava/lang/Class;"⟩ ⟨"java/lang/Object", "getClass", "()Ljava/lang/Class;"⟩ ∈ lw_tbl) (h4 : Cond.instanceMethod ⟨"java/lang/Object", "getClass", "()Ljava/lang/Class;"⟩ ∈ lw_tbl) (h5 : Cond.native ⟨"java/lang/Object", "getClass", "()Ljava/lang/Class;"⟩ ∈ lw_tbl) (ha : mh_at M a (qA cA N f)) (ht : tys[t0]? = some (cA, .object "java/lang/Object")) (hs : ls.size = nL) (hR : 1 ≤ (gx_R x).frames ∧ 22 ≤ (gx_R x).locals) (h8 : (st.map fun v => v.category).sum ≤ 8) (hd : decode cc pc = .ok (.invokevirtual idx, 3)) (kk : gG x cl (pc + 3) ls (.ref (kmi (gx_D x)) :: st) M n k) : gG x cl pc ls (.ref a :: st) M n k := by
  obtain ⟨p, l, e, R, s, m, args, below, meth, c, Q, D, A, H0⟩ := x
  have w1 := gx_word hx hk rfl
  have w2 := kS_now hx.2 h2 args
  have w3 := gx_word hx h3 rfl
  have w4 := gx_word hx h4 rfl
  have w5 := gx_word hx h5 rfl
  obtain ⟨⟨he, hb, hml, ho, hts⟩, hK, hW, hZ, hE⟩ := hx
  intro H locs hm
  obtain ⟨q, hq⟩ := mh_get_ix ha
  have hR1 : 1 ≤ R.frames := hR.1
  have hR2 : 22 ≤ R.locals := hR.2
  exact va_getC he hb (hml.trans hs.symm) ho w1 w2 w3 w4 w5 hZ.2.2.1 ⟨_, hm.1 q _ hq, rfl, va_nmO (hK.2 t0 _ ht).2 rfl⟩ hR1 (by omega) hd (kk H locs hm)
theorem gG_acmp_ne (hx : gC x cl cc nL tys kwT own) {a b : Nat} {off : Int} {tgt : Nat} (hd : decode cc pc = .ok (.if_acmp .ne off, 3)) (ht : (pc : Int) + off = (tgt : Int)) (kt : ¬ a = b → gG x cl tgt ls st M n k) (kf : a = b → gG x cl (pc + 3) ls st M n k) : gG x cl pc ls (.ref b :: .ref a :: st) M n k := by
  obtain ⟨p, l, e, R, s, m, args, below, meth, c, Q, D, A, H0⟩ := x
  obtain ⟨⟨he, hb, -⟩, -⟩ := hx
  intro H locs hm
  exact lv_acmp_ne (rx := some a) (ry := some b) he hb hd ht (fun q => kt (fun e => q (by rw [e])) H locs hm) (fun q => kf (Option.some.inj q) H locs hm)
theorem gG_acmp_eq (hx : gC x cl cc nL tys kwT own) {a b : Nat} {off : Int} {tgt : Nat} (hd : decode cc pc = .ok (.if_acmp .eq off, 3)) (ht : (pc : Int) + off = (tgt : Int)) (kt : a = b → gG x cl tgt ls st M n k) (kf : ¬ a = b → gG x cl (pc + 3) ls st M n k) : gG x cl pc ls (.ref b :: .ref a :: st) M n k := by
  obtain ⟨p, l, e, R, s, m, args, below, meth, c, Q, D, A, H0⟩ := x
  obtain ⟨⟨he, hb, -⟩, -⟩ := hx
  intro H locs hm
  exact lv_acmp_eq (rx := some a) (ry := some b) he hb hd ht (fun q => kt (Option.some.inj q) H locs hm) (fun q => kf (fun e => q (by rw [e])) H locs hm)
theorem gG_cast (hx : gC x cl cc nL tys kwT own) {C : String} {T : u_T} {F ci a : Nat} {fs : List Value} (hk : Cond.classLink own idx C ∈ lw_tbl) (hw : Cond.castable C C ∈ kSW) (hc : cl[ci]? = some (C, T, F)) (ha : mh_at M a (.inr (ci, fs))) (hd : decode cc pc = .ok (.checkcast idx, 3)) (kk : gG x cl (pc + 3) ls (.ref a :: st) M n k) : gG x cl pc ls (.ref a :: st) M n k := by
  obtain ⟨p, l, e, R, s, m, args, below, meth, c, Q, D, A, H0⟩ := x
  have w1 := gx_word hx hk rfl
  have w5 : va_Nw (.castable C C) s := kS_now hx.2 hw #[]
  obtain ⟨⟨he, hb, hml, ho, hts⟩, hK, hW, hZ, hE⟩ := hx
  intro H locs hm
  obtain ⟨q, hq⟩ := mh_get_ix ha
  exact va_castY he hb ho w1 w5 (va_recv hK hm.1 hc hq) hd (kk H locs hm)
theorem gG_max (hx : gC x cl cc nL tys kwT own) {y z : Int32} (hk : Cond.methodLink own idx Lib.Math.max.name ∈ lw_tbl) (hst : Cond.static Lib.Math.max.name ∈ lw_tbl) (hin : Cond.initialized "java/lang/Math" ∈ lw_tbl) (hcd : Cond.code Lib.Math.max.name Lib.Math.max.code 2 (some .int) ∈ lw_tbl) (hR : 1 ≤ (gx_R x).frames ∧ 21 ≤ (gx_R x).locals) (hs : ls.size = nL) (h8 : (st.map fun v => v.category).sum ≤ 8) (hn : n ≤ (gx_R x).cells) (hk2 : k ≤ (gx_R x).slots) (hd : decode cc pc = .ok (.invokestatic idx, 3)) (kk : ∀ r : Int32, r.toInt = max y.toInt z.toInt → gG x cl (pc + 3) ls (.int r :: st) M n k) : gG x cl pc ls (.int z :: .int y :: st) M n k := by
  obtain ⟨p, l, e, R, s, m, args, below, meth, c, Q, D, A, H0⟩ := x
  have w1 := gx_word hx hk rfl
  have w2 := gx_word hx hst rfl
  have w3 := gx_word hx hin rfl
  have w4 := gx_word hx hcd rfl
  obtain ⟨⟨he, hb, hml, ho, hts⟩, hK, -⟩ := hx
  intro H locs hm
  have hR1 : 1 ≤ R.frames := hR.1
  have hR2 : 21 ≤ R.locals := hR.2
  refine va_mmax he hb (hml.trans hs.symm) ho w1 w2 w3 w4 hR1 (by omega) hn hk2 hd (kk (if y < z then z else y) ?_ H locs hm)
  split
  · rename_i q; have := Int32.lt_iff_toInt_lt.mp q; omega
  · rename_i q
    have : ¬ y.toInt < z.toInt := fun w => q (Int32.lt_iff_toInt_lt.mpr w)
    omega
theorem gG_min (hx : gC x cl cc nL tys kwT own) {y z : Int32} (hk : Cond.methodLink own idx Lib.Math.min.name ∈ lw_tbl) (hst : Cond.static Lib.Math.min.name ∈ lw_tbl) (hin : Cond.initialized "java/lang/Math" ∈ lw_tbl) (hcd : Cond.code Lib.Math.min.name Lib.Math.min.code 2 (some .int) ∈ lw_tbl) (hR : 1 ≤ (gx_R x).frames ∧ 21 ≤ (gx_R x).locals) (hs : ls.size = nL) (h8 : (st.map fun v => v.category).sum ≤ 8) (hn : n ≤ (gx_R x).cells) (hk2 : k ≤ (gx_R x).slots) (hd : decode cc pc = .ok (.invokestatic idx, 3)) (kk : ∀ r : Int32, r.toInt = min y.toInt z.toInt → gG x cl (pc + 3) ls (.int r :: st) M n k) : gG x cl pc ls (.int z :: .int y :: st) M n k := by
  obtain ⟨p, l, e, R, s, m, args, below, meth, c, Q, D, A, H0⟩ := x
  have w1 := gx_word hx hk rfl
  have w2 := gx_word hx hst rfl
  have w3 := gx_word hx hin rfl
  have w4 := gx_word hx hcd rfl
  obtain ⟨⟨he, hb, hml, ho, hts⟩, hK, -⟩ := hx
  intro H locs hm
  have hR1 : 1 ≤ R.frames := hR.1
  have hR2 : 21 ≤ R.locals := hR.2
  refine va_mmin he hb (hml.trans hs.symm) ho w1 w2 w3 w4 hR1 (by omega) hn hk2 hd (kk (if z < y then z else y) ?_ H locs hm)
  split
  · rename_i q; have := Int32.lt_iff_toInt_lt.mp q; omega
  · rename_i q
    have : ¬ z.toInt < y.toInt := fun w => q (Int32.lt_iff_toInt_lt.mpr w)
    omega
end GQ
/-- the class of arrays of objects is the fifth of the known ones -/
def ty_tyO (tys : List (ClassId × FieldType)) (cO : ClassId) : Prop := tys[4]? = some (cO, .object "java/lang/Object")
