/-! System.arraycopy over rows of bytes -/
theorem ty_fb {x : Int32} (h1 : -128 ≤ x.toInt) (h2 : x.toInt ≤ 127) : fits .byte (.int x) = true := by
  have e3 : x.toInt8.toInt32 = x := by
    apply Int32.toInt_inj.mp
    rw [Int8.toInt_toInt32, Int32.toInt_toInt8, Int.bmod_def]
    omega
  rw [← e3]
  exact pk_fb x
theorem gR_ac {x : gx_T} {cc : ByteArray} {nL : Nat} {tys : List (ClassId × FieldType)} {own : String} {idx : Nat} {INV : ty_K → mh_M → Prop} (hx : gC x vwCl cc nL tys kwT own) (hG : pG tys INV) {ks kd n0 n1 : Nat} {s0 s1 d0 d1 l0 l1 : Int} (hks : pKT[ks]? = some (1, n0, [(0, -128, 127)])) (hkd : pKT[kd]? = some (1, n1, [(0, -128, 127)])) (hs0 : 0 ≤ s0) (hd0 : 0 ≤ d0) (hl0 : 0 ≤ l0) (hs1 : s1 + l1 ≤ n0) (hd1 : d1 + l1 ≤ n1) (hps : (kd, 0) ∉ pPS) (hkp : kd ≠ 17)
    (hk : Cond.methodLink own idx arraycopyName ∈ lw_tbl) (hnt : Cond.native arraycopyName ∈ lw_tbl) (hst : Cond.static arraycopyName ∈ lw_tbl) (hin : Cond.initialized "java/lang/System" ∈ lw_tbl) (hR : 1 ≤ (gx_R x).frames ∧ 8 + (nativeFrameWords "java/lang/System" "arraycopy" 5 + 11) ≤ (gx_R x).locals) :
    gR_call x vwCl cc nL tys pKT INV INV pPG (3 * idx + 1) ([(2, ks, 0), (0, s0, s1), (2, kd, 0), (0, d0, d1), (0, l0, l1)], none, [(kd, 0)], [], 0, 0, ty_i0) := by
  obtain ⟨p, l, e, R, s, m, args, below, meth, c, Q, D, A, H0⟩ := x
  have w1 := gx_word hx hk rfl
  have w2 := gx_word hx hnt rfl
  have w3 := gx_word hx hst rfl
  have w4 := gx_word hx hin rfl
  obtain ⟨⟨he, hb, hml, ho, hts⟩, hK, -⟩ := hx
  obtain ⟨⟨cB, cI, cZ, cJ, r, rfl⟩, hsI, -, -⟩ := hG
  intro pc ls i av rest M σ n k hdc hi hs hav hH hI h8 hn hk2 kk H locs hm
  have hi := ky_S hi
  subst hi
  match av, hav with
  | [_, _, _, _, _], ⟨⟨a0, e0, hk0⟩, ⟨sp, e1, p1, p2⟩, ⟨a1, e2, hk1⟩, ⟨dp, e3, p3, p4⟩, ⟨ln, e4, p5, p6⟩, _⟩ =>
    subst e0; subst e1; subst e2; subst e3; subst e4
    have hk0 : σ a0 = some ks := hk0
    have hk1 : σ a1 = some kd := hk1
    have p1 : s0 ≤ sp.toInt := p1
    have p2 : sp.toInt ≤ s1 := p2
    have p3 : d0 ≤ dp.toInt := p3
    have p4 : dp.toInt ≤ d1 := p4
    have p5 : l0 ≤ ln.toInt := p5
    have p6 : ln.toInt ≤ l1 := p6
    obtain ⟨c0, ft0, f, t0, at0, el0⟩ := ty_arr (j := 0) hH hk0 hks (by omega)
    obtain ⟨c1, ft1, gg, t1, at1, el1⟩ := ty_arr (j := 0) hH hk1 hkd (by omega)
    cases t0
    cases t1
    obtain ⟨q0, hq0⟩ := mh_get_ix at0
    obtain ⟨q1, hq1⟩ := mh_get_ix at1
    obtain ⟨hP, hD, hS, hA⟩ := hm
    have nz : ∀ z : Int32, 0 ≤ z.toInt → ¬ z < 0 := fun z hz q => by
      have := Int32.lt_iff_toInt_lt.mp q
      rw [show (0 : Int32).toInt = 0 from rfl] at this
      omega
    have nc : ∀ z : Int32, z.toNatClampNeg = z.toInt.toNat := fun z => rfl
    show W p l e R s m args below meth c H locs n k Q (F0 m pc ls (.int ln :: .int dp :: .ref a1 :: .int sp :: .ref a0 :: rest))
    refine va_copyi he hb (hml.trans hs.symm) ho w1 w2 w3 w4 hK hP hD hS q0 q1 0 0 hq0 hq1 rfl rfl rfl (nz sp (by omega)) (nz dp (by omega)) (nz ln (by omega)) (by rw [nc, nc]; omega) (by rw [nc, nc]; omega) (fun i hi => ?_) hR.1 ?_ hdc (fun H1 l1 hP1 hD1 hS1 => ?_)
    · rw [nc] at hi ⊢
      obtain ⟨z, z0, z1, z2⟩ := el0 (sp.toInt.toNat + i) (by omega)
      cases z0
      exact ty_fb z1 z2
    · have h9 : 8 + (nativeFrameWords "java/lang/System" "arraycopy" 5 + 11) ≤ R.locals := hR.2
      omega
    · rw [mh_set_eq hD at1 hq1] at hP1 hD1
      have hok : ty_ok ((cB, .byte) :: (cI, .int) :: (cZ, .boolean) :: (cJ, .long) :: r) σ (1, n1, [(0, -128, 127)]) (.inl (cB, n1, .inl (va_cpy f gg sp.toNatClampNeg dp.toNatClampNeg ln.toNatClampNeg))) := ty_ok_ar (ft := .byte) rfl (by omega) rfl (fun j hj => by
        by_cases hin : dp.toNatClampNeg ≤ j ∧ j < dp.toNatClampNeg + ln.toNatClampNeg
        · rw [pk_cpy_in hin.1 hin.2]
          have h7 := hin.2
          rw [nc, nc] at h7
          have h8 := hin.1
          rw [nc] at h8
          refine el0 _ ?_
          rw [nc, nc]
          omega
        · rw [pk_cpy_out (by omega)]
          exact el1 j hj)
      have F1 : ty_FP pPS σ M σ (mh_set M a1 (.inl (cB, n1, .inl (va_cpy f gg sp.toNatClampNeg dp.toNatClampNeg ln.toNatClampNeg)))) := ty_F_set hk1 (fun i hi => ty_p_arr at1.2 i (fun q => hps (q ▸ hi)))
      have F2 : ty_FM [(kd, 0)] [] σ M σ (mh_set M a1 (.inl (cB, n1, .inl (va_cpy f gg sp.toNatClampNeg dp.toNatClampNeg ln.toNatClampNeg)))) := ty_F_set hk1 (fun i hi => ty_p_arr at1.2 i (fun q => hi (List.mem_singleton.mpr (by rw [q]))))
      exact kk none _ σ F2 (ty_H_set hH hk1 hkd hok) (hsI _ _ _ _ F1 hI) rfl trivial H1 l1 ⟨hP1, hD1, hS1, hA⟩
/-! Math.min and Math.max -/
theorem gR_mn {x : gx_T} {cc : ByteArray} {nL : Nat} {tys : List (ClassId × FieldType)} {own : String} {idx : Nat} {INV : ty_K → mh_M → Prop} (hx : gC x vwCl cc nL tys kwT own) {a0 a1 b0 b1 r0 r1 : Int} (h1 : r0 ≤ a0) (h2 : r0 ≤ b0) (h3 : min a1 b1 ≤ r1)
    (hk : Cond.methodLink own idx Lib.Math.min.name ∈ lw_tbl) (hst : Cond.static Lib.Math.min.name ∈ lw_tbl) (hin : Cond.initialized "java/lang/Math" ∈ lw_tbl) (hcd : Cond.code Lib.Math.min.name Lib.Math.min.code 2 (some .int) ∈ lw_tbl) (hR : 1 ≤ (gx_R x).frames ∧ 21 ≤ (gx_R x).locals) :
    gR_call x vwCl cc nL tys pKT INV INV pPG (3 * idx + 1) ([(0, a0, a1), (0, b0, b1)], some (0, r0, r1), [], [], 0, 0, ty_i0) := by
  obtain ⟨p, l, e, R, s, m, args, below, meth, c, Q, D, A, H0⟩ := x
  have w1 := gx_word hx hk rfl
  have w2 := gx_word hx hst rfl
  have w3 := gx_word hx hin rfl
  have w4 := gx_word hx hcd rfl
  obtain ⟨⟨he, hb, hml, ho, hts⟩, hK, -⟩ := hx
  intro pc ls i av rest M σ n k hdc hi hs hav hH hI h8 hn hk2 kk H locs hm
  have hi := ky_S hi
  subst hi
  match av, hav with
  | [_, _], ⟨⟨y, e0, p1, p2⟩, ⟨z, e1, p3, p4⟩, _⟩ =>
    subst e0; subst e1
    have p1 : a0 ≤ y.toInt := p1
    have p2 : y.toInt ≤ a1 := p2
    have p3 : b0 ≤ z.toInt := p3
    have p4 : z.toInt ≤ b1 := p4
    have hR1 : 1 ≤ R.frames := hR.1
    have hR2 : 21 ≤ R.locals := hR.2
    have h13 : (rest.map fun v => v.category).sum + 13 ≤ R.locals := by omega
    show W p l e R s m args below meth c H locs n k Q (F0 m pc ls (.int z :: .int y :: rest))
    refine va_mmin he hb (hml.trans hs.symm) ho w1 w2 w3 w4 hR1 h13 hn hk2 hdc (kk (some (.int (if z < y then z else y))) M σ ty_F.rf hH hI ⟨_, rfl, _, rfl, ?_, ?_⟩ trivial H locs hm)
    · show r0 ≤ _
      split <;> omega
    · show _ ≤ r1
      split
      · rename_i q; have := Int32.lt_iff_toInt_lt.mp q; omega
      · rename_i q
        have : ¬ z.toInt < y.toInt := fun w => q (Int32.lt_iff_toInt_lt.mpr w)
        omega
theorem gR_mx {x : gx_T} {cc : ByteArray} {nL : Nat} {tys : List (ClassId × FieldType)} {own : String} {idx : Nat} {INV : ty_K → mh_M → Prop} (hx : gC x vwCl cc nL tys kwT own) {a0 a1 b0 b1 r0 r1 : Int} (h1 : a1 ≤ r1) (h2 : b1 ≤ r1) (h3 : r0 ≤ max a0 b0)
    (hk : Cond.methodLink own idx Lib.Math.max.name ∈ lw_tbl) (hst : Cond.static Lib.Math.max.name ∈ lw_tbl) (hin : Cond.initialized "java/lang/Math" ∈ lw_tbl) (hcd : Cond.code Lib.Math.max.name Lib.Math.max.code 2 (some .int) ∈ lw_tbl) (hR : 1 ≤ (gx_R x).frames ∧ 21 ≤ (gx_R x).locals) :
    gR_call x vwCl cc nL tys pKT INV INV pPG (3 * idx + 1) ([(0, a0, a1), (0, b0, b1)], some (0, r0, r1), [], [], 0, 0, ty_i0) := by
  obtain ⟨p, l, e, R, s, m, args, below, meth, c, Q, D, A, H0⟩ := x
  have w1 := gx_word hx hk rfl
  have w2 := gx_word hx hst rfl
  have w3 := gx_word hx hin rfl
  have w4 := gx_word hx hcd rfl
  obtain ⟨⟨he, hb, hml, ho, hts⟩, hK, -⟩ := hx
  intro pc ls i av rest M σ n k hdc hi hs hav hH hI h8 hn hk2 kk H locs hm
  have hi := ky_S hi
  subst hi
  match av, hav with
  | [_, _], ⟨⟨y, e0, p1, p2⟩, ⟨z, e1, p3, p4⟩, _⟩ =>
    subst e0; subst e1
    have p1 : a0 ≤ y.toInt := p1
    have p2 : y.toInt ≤ a1 := p2
    have p3 : b0 ≤ z.toInt := p3
    have p4 : z.toInt ≤ b1 := p4
    have hR1 : 1 ≤ R.frames := hR.1
    have hR2 : 21 ≤ R.locals := hR.2
    have h13 : (rest.map fun v => v.category).sum + 13 ≤ R.locals := by omega
    show W p l e R s m args below meth c H locs n k Q (F0 m pc ls (.int z :: .int y :: rest))
    refine va_mmax he hb (hml.trans hs.symm) ho w1 w2 w3 w4 hR1 h13 hn hk2 hdc (kk (some (.int (if y < z then z else y))) M σ ty_F.rf hH hI ⟨_, rfl, _, rfl, ?_, ?_⟩ trivial H locs hm)
    · show r0 ≤ _
      split
      · rename_i q; have := Int32.lt_iff_toInt_lt.mp q; omega
      · rename_i q
        have : ¬ y.toInt < z.toInt := fun w => q (Int32.lt_iff_toInt_lt.mpr w)
        omega
    · show _ ≤ r1
      split <;> omega
