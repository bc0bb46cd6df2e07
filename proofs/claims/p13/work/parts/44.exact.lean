/-! EXACT contracts: what a call answers, and the heap behind it -/
abbrev cZ0 : ty_C := ([], none, [], [], 0, 0, ty_i0)
theorem ty_ofX {l : Launch} {D : va_G} {cl : List vw_C} {tys : List (ClassId × FieldType)} {y : MethodName} {cc : ByteArray} {maxL : Nat} {rF : Option FieldType} {fr lo : Nat} {C : ty_C} {av : List Value} {M : mh_M} {post : Option Value → mh_M → Prop} (hy : plainName y.cls = true) (hlen : (lg_sl av).length ≤ maxL)
    (hB : ∀ (x : gx_T) (ls : Array Slot), gC x cl cc maxL tys kwT y.cls → x.2.1 = l → x.2.2.2.2.2.2.2.2.1.name = y.name → gx_R x = ty_rm fr lo C → x.2.2.2.2.2.2.2.2.2.2.2.1 = D → lv_has ls maxL (lv_args 0 av) → gR_ret x cl cc rF post C.2.2.2.2.1 C.2.2.2.2.2.1 → gG x cl 0 ls [] M 0 0) : mh_Met cl tys l D y [Cond.code y cc maxL rF] (ty_rm fr lo C) av M post := by
  refine mh_of hy rfl hlen ?_
  intro p e s m args below meth c ls hx hb hr hlocks hml hts hown hnm hK hm hls
  refine hB (p, l, e, ty_rm fr lo C, s, m, args, below, meth, c, MQ below (mh_Q cl D M s.heap.size post) args s (ty_rm fr lo C).cells (ty_rm fr lo C).slots (va_A (mh_w M) s.heap.size), D, va_A (mh_w M) s.heap.size, s.heap) ls ⟨⟨hx, hb, hml, hown, kwT_hts hK.2.1⟩, hK⟩ rfl hnm rfl rfl hls ?_ s.heap [] hm
  intro pc ls' i v M' n k hd hrt hp hn hk H locs hm'
  cases rF with
  | none =>
    obtain ⟨rfl, rfl⟩ := hrt
    exact mh_vret hx hb hr hlocks hm' hd hn hk hp
  | some ft =>
    cases ft with
    | long => obtain ⟨rfl, z, rfl⟩ := hrt; exact mh_lret hx hb hr hlocks hm' hd hn hk hp
    | object nm => obtain ⟨rfl, a, rfl⟩ := hrt; exact mh_aret hx hb hr (Or.inl ⟨_, rfl⟩) (Or.inr ⟨a, rfl⟩) hlocks hm' hd hn hk hp
    | array t => obtain ⟨rfl, a, rfl⟩ := hrt; exact mh_aret hx hb hr (Or.inr ⟨_, rfl⟩) (Or.inr ⟨a, rfl⟩) hlocks hm' hd hn hk hp
    | float => exact hrt.elim
    | double => exact hrt.elim
    | int => obtain ⟨rfl, z, rfl, hnr⟩ := hrt; exact mh_zret hx hb hr hlocks hnr hm' hd hn hk hp
    | boolean => obtain ⟨rfl, z, rfl, hnr⟩ := hrt; exact mh_zret hx hb hr hlocks hnr hm' hd hn hk hp
    | byte => obtain ⟨rfl, z, rfl, hnr⟩ := hrt; exact mh_zret hx hb hr hlocks hnr hm' hd hn hk hp
    | short => obtain ⟨rfl, z, rfl, hnr⟩ := hrt; exact mh_zret hx hb hr hlocks hnr hm' hd hn hk hp
    | char => obtain ⟨rfl, z, rfl, hnr⟩ := hrt; exact mh_zret hx hb hr hlocks hnr hm' hd hn hk hp
section XC
variable {x : gx_T} {cl : List vw_C} {cc : ByteArray} {nL : Nat} {tys : List (ClassId × FieldType)} {own : String} {idx ci N : Nat} {CN host : String} {T : u_T} {y : MethodName} {bytes : ByteArray} {maxL : Nat} {rF : Option FieldType} {fr lo : Nat} {C : ty_C} {l : Launch} {D : va_G} {av : List Value} {M : mh_M} {post : Option Value → mh_M → Prop} {pc n k : Nat} {ls : Array Slot} {rest : List Value}
theorem gX_cS (hx : gC x cl cc nL tys kwT own) (hl : x.2.1 = l) (hD : x.2.2.2.2.2.2.2.2.2.2.2.1 = D) (hM : mh_Met cl tys l D y [Cond.code y bytes maxL rF] (ty_rm fr lo C) av M post) (hcd : Cond.code y bytes maxL rF ∈ lw_tbl) (hin : Cond.initialized y.cls ∈ lw_tbl) (hk : kw_lk own idx y) (hst : Cond.static y ∈ lw_tbl) {nA : Nat} (hd : kw_ds y nA) (hlen : av.length = nA) (hR : fr + 1 ≤ (gx_R x).frames ∧ 8 + (maxL + 11) + lo ≤ (gx_R x).locals)
    (hdc : decode cc pc = .ok (.invokestatic idx, 3)) (hs : ls.size = nL) (h8 : (rest.map fun v => v.category).sum ≤ 8) (hn : n + C.2.2.2.2.1 ≤ (gx_R x).cells) (hk2 : k + C.2.2.2.2.2.1 ≤ (gx_R x).slots) (kk : ∀ (v : Option Value) (M' : mh_M), post v M' → gG x cl (pc + 3) ls (v.toList ++ rest) M' (n + C.2.2.2.2.1) (k + C.2.2.2.2.2.1)) : gG x cl pc ls (av.reverse ++ rest) M n k := by
  obtain ⟨p, l', e, R, s, m, args, below, meth, c, Q, D', A, H0⟩ := x
  have hl : l' = l := hl
  have hD : D' = D := hD
  subst hl; subst hD
  have w1 := gx_word hx hst rfl
  intro H locs hm
  rcases hk with hk | ⟨host, hk⟩
  · have cw := gx_cb (C := C) hx hcd hin hk hd hR
    exact mh_cS hx.1 hM ⟨cw, w1⟩ hx.2 hm hlen hs rfl h8 hdc ⟨hn, hk2⟩ (fun v M' H1 l1 hp h1 => kk v M' hp H1 l1 h1)
  · have cw := gx_cn (C := C) hx hcd hin hk hd hR
    exact mh_cSN hx.1 hM ⟨cw, w1, trivial⟩ hx.2 hm hlen hs rfl h8 hdc ⟨hn, hk2⟩ (fun v M' H1 l1 hp h1 => kk v M' hp H1 l1 h1)
theorem gX_cV {b : Nat} {As : List Value} (hx : gC x cl cc nL tys kwT own) (hl : x.2.1 = l) (hD : x.2.2.2.2.2.2.2.2.2.2.2.1 = D) (hM : mh_Met cl tys l D y [Cond.code y bytes maxL rF] (ty_rm fr lo C) (.ref b :: As) M post) (hc : cl[ci]? = some (y.cls, T, N)) (hcd : Cond.code y bytes maxL rF ∈ lw_tbl) (hin : Cond.initialized y.cls ∈ lw_tbl) (hk : kw_lk own idx y) (hi1 : Cond.instanceMethod y ∈ lw_tbl) (hse : Cond.selects y.cls y y ∈ lw_tbl) {nA : Nat} (hd : kw_ds y nA) (hlen : As.length = nA) (hR : fr + 1 ≤ (gx_R x).frames ∧ 8 + (maxL + 11) + lo ≤ (gx_R x).locals)
    (hdc : decode cc pc = .ok (.invokevirtual idx, 3)) {fs : List Value} (hat : mh_at M b (.inr (ci, fs))) (hs : ls.size = nL) (h8 : (rest.map fun v => v.category).sum ≤ 8) (hn : n + C.2.2.2.2.1 ≤ (gx_R x).cells) (hk2 : k + C.2.2.2.2.2.1 ≤ (gx_R x).slots) {st0 : List Value} (hst : st0 = As.reverse ++ .ref b :: rest) (kk : ∀ (v : Option Value) (M' : mh_M), post v M' → gG x cl (pc + 3) ls (v.toList ++ rest) M' (n + C.2.2.2.2.1) (k + C.2.2.2.2.2.1)) : gG x cl pc ls st0 M n k := by
  obtain ⟨p, l', e, R, s, m, args, below, meth, c, Q, D', A, H0⟩ := x
  have hl : l' = l := hl
  have hD : D' = D := hD
  subst hl; subst hD
  have w1 := gx_word hx hi1 rfl
  have w2 := gx_word hx hse rfl
  intro H locs hm
  rcases hk with hk | ⟨host, hk⟩
  · have cw := gx_cb (C := C) hx hcd hin hk hd hR
    exact mh_cV hx.1 hM ⟨cw, w1, w2⟩ hx.2 hm hat hc hlen hs hst h8 hdc ⟨hn, hk2⟩ (fun v M' H1 l1 hp h1 => kk v M' hp H1 l1 h1)
  · have cw := gx_cn (C := C) hx hcd hin hk hd hR
    exact mh_cVN hx.1 hM ⟨cw, w1, w2⟩ hx.2 hm hat hc hlen hs hst h8 hdc ⟨hn, hk2⟩ (fun v M' H1 l1 hp h1 => kk v M' hp H1 l1 h1)
theorem gR_ldlX (hx : gC x cl cc nL tys kwT own) {v : Int64} (hw : Cond.constantLong own idx v ∈ lw_tbl) : gR_ldl x cl cc idx v := by
  obtain ⟨p, l, e, R, s, m, args, below, meth, c, Q, D, A, H0⟩ := x
  have hl := gx_word hx hw rfl
  obtain ⟨⟨he, hb, hml, ho, hts⟩, hK, -⟩ := hx
  intro pc ls st M n k hd kk H locs hm
  exact lv_ldc2 he hb ho hl hd (kk H locs hm)
end XC
/-! four bytes of a row as a number, eight as a long -/
def pNum (f : Nat → Int32) (a : Nat) : Int32 := ((f a <<< ((Int8.ofInt 24).toInt32 &&& 31) ||| f (a + 1) <<< ((Int8.ofInt 16).toInt32 &&& 31)) ||| f (a + 2) <<< ((Int8.ofInt 8).toInt32 &&& 31)) ||| f (a + 3)
def pWide (f : Nat → Int32) (a : Nat) : Int64 := ((pNum f a).toInt64 <<< ((Int8.ofInt 32).toInt32.toInt64 &&& 63)) ||| ((pNum f (a + 4)).toInt64 &&& 4294967295)
theorem ty_shl {x : Int32} {s n : Nat} (hs : s < 32) (h0 : 0 ≤ x.toInt) (h : x.toInt < (n : Int)) (hn : n * 2 ^ s ≤ 2147483648) : ((x <<< (Int32.ofNat s)).toBitVec.toNat) < 2147483648 := by
  obtain ⟨e1, e2⟩ := ty_nn h0
  rw [Int32.toBitVec_shiftLeft]
  have e3 : ((Int32.ofNat s).toBitVec.smod 32) = BitVec.ofNat 32 s := by
    have : ∀ s : Fin 32, ((Int32.ofNat s.val).toBitVec.smod 32) = BitVec.ofNat 32 s.val := by decide
    exact this ⟨s, hs⟩
  rw [e3, BitVec.shiftLeft_eq', BitVec.toNat_shiftLeft, BitVec.toNat_ofNat, Nat.mod_eq_of_lt (by omega : s < 2 ^ 32), Nat.shiftLeft_eq]
  have e4 : x.toBitVec.toNat < n := by omega
  have e5 : x.toBitVec.toNat * 2 ^ s < n * 2 ^ s := Nat.mul_lt_mul_of_pos_right e4 (Nat.two_pow_pos s)
  have e6 : x.toBitVec.toNat * 2 ^ s % 2 ^ 32 = x.toBitVec.toNat * 2 ^ s := Nat.mod_eq_of_lt (by omega)
  omega
theorem pNum_nn {f : Nat → Int32} {a : Nat} (h0 : 0 ≤ (f a).toInt) (h0' : (f a).toInt ≤ 127) (h1 : 0 ≤ (f (a + 1)).toInt) (h1' : (f (a + 1)).toInt ≤ 255) (h2 : 0 ≤ (f (a + 2)).toInt) (h2' : (f (a + 2)).toInt ≤ 255) (h3 : 0 ≤ (f (a + 3)).toInt) : 0 ≤ (pNum f a).toInt := by
  have q0 := ty_shl (x := f a) (s := 24) (n := 128) (by omega) h0 (by omega) (by omega)
  have q1 := ty_shl (x := f (a + 1)) (s := 16) (n := 256) (by omega) h1 (by omega) (by omega)
  have q2 := ty_shl (x := f (a + 2)) (s := 8) (n := 256) (by omega) h2 (by omega) (by omega)
  obtain ⟨q3, q3'⟩ := ty_nn h3
  have e0 : (Int8.ofInt 24).toInt32 &&& 31 = Int32.ofNat 24 := by decide
  have e1 : (Int8.ofInt 16).toInt32 &&& 31 = Int32.ofNat 16 := by decide
  have e2 : (Int8.ofInt 8).toInt32 &&& 31 = Int32.ofNat 8 := by decide
  unfold pNum
  rw [e0, e1, e2]
  have e4 : (((f a <<< Int32.ofNat 24 ||| f (a + 1) <<< Int32.ofNat 16) ||| f (a + 2) <<< Int32.ofNat 8) ||| f (a + 3)).toBitVec.toNat < 2 ^ 31 := by
    rw [Int32.toBitVec_or, Int32.toBitVec_or, Int32.toBitVec_or, BitVec.toNat_or, BitVec.toNat_or, BitVec.toNat_or]
    exact Nat.or_lt_two_pow (Nat.or_lt_two_pow (Nat.or_lt_two_pow (by omega) (by omega)) (by omega)) (by omega)
  have e5 := ty_nb (b := (((f a <<< Int32.ofNat 24 ||| f (a + 1) <<< Int32.ofNat 16) ||| f (a + 2) <<< Int32.ofNat 8) ||| f (a + 3)).toBitVec) (by omega)
  have e6 : ∀ z : Int32, z.toInt = z.toBitVec.toInt := fun _ => rfl
  rw [e6, e5]
  omega
theorem mx_number {l : Launch} {D : va_G} {tys : List (ClassId × FieldType)} (ht : ty_tys tys) {M : mh_M} {a : Nat} {cA : ClassId} {f : Nat → Int32} {i : Int32} (hcA : tys[1]? = some (cA, .int)) (hat : mh_at M a (.inl (cA, 2048, .inl f))) (hi0 : 0 ≤ i.toInt) (hi1 : i.toInt ≤ 2044) : mh_Met vwCl tys l D yX5_number [Cond.code yX5_number cX5_number 2 (some .int)] (ty_rm 0 0 cZ0) [.ref a, .int i] M (fun v M' => v = some (.int (pNum f i.toNatClampNeg)) ∧ M' = M) := by
  refine ty_ofX (by decide +kernel) (Nat.le_refl 2) ?_
  intro x ls hx hl hnm hR hD hls hr
  have h0 : ls[((0 : Fin 4) : Nat)]? = some (.val (.ref a)) := hls.2.2 (0, .ref a) List.mem_cons_self
  have h1 : ls[((1 : Fin 4) : Nat)]? = some (.val (.int i)) := hls.2.2 (1, .int i) (List.mem_cons_of_mem _ List.mem_cons_self)
  have ic : i.toNatClampNeg = i.toInt.toNat := rfl
  have i0 : vp_in i 2048 := vp_in_iff.mpr ⟨hi0, by omega⟩
  have j1 : (i + Int32.ofInt 1).toInt = i.toInt + 1 := ty_addI rfl rfl (by omega) (by omega)
  have j2 : (i + Int32.ofInt 2).toInt = i.toInt + 2 := ty_addI rfl rfl (by omega) (by omega)
  have j3 : (i + Int32.ofInt 3).toInt = i.toInt + 3 := ty_addI rfl rfl (by omega) (by omega)
  have i1 : vp_in (i + Int32.ofInt 1) 2048 := vp_in_iff.mpr ⟨by omega, by omega⟩
  have i2 : vp_in (i + Int32.ofInt 2) 2048 := vp_in_iff.mpr ⟨by omega, by omega⟩
  have i3 : vp_in (i + Int32.ofInt 3) 2048 := vp_in_iff.mpr ⟨by omega, by omega⟩
  have c1 : (i + Int32.ofInt 1).toNatClampNeg = i.toNatClampNeg + 1 := ty_clN (by rw [j1, ic]; omega)
  have c2 : (i + Int32.ofInt 2).toNatClampNeg = i.toNatClampNeg + 2 := ty_clN (by rw [j2, ic]; omega)
  have c3 : (i + Int32.ofInt 3).toNatClampNeg = i.toNatClampNeg + 3 := ty_clN (by rw [j3, ic]; omega)
  refine gG_sp hx (i := .aload_n 0) (len := 1) (by decide +kernel) (sp_al h0) ?_
  refine gG_sp hx (i := .iload_n 1) (len := 1) (by decide +kernel) (sp_il h1) ?_
  refine gG_iald hx 1 (by decide +kernel) hat hcA i0 ?_
  refine gG_sp hx (i := .bipush 24) (len := 2) (by decide +kernel) rfl ?_
  refine gG_sp hx (i := .ishl) (len := 1) (by decide +kernel) rfl ?_
  refine gG_sp hx (i := .aload_n 0) (len := 1) (by decide +kernel) (sp_al h0) ?_
  refine gG_sp hx (i := .iload_n 1) (len := 1) (by decide +kernel) (sp_il h1) ?_
  refine gG_sp hx (i := .iconst 1) (len := 1) (by decide +kernel) rfl ?_
  refine gG_sp hx (i := .iadd) (len := 1) (by decide +kernel) rfl ?_
  refine gG_iald hx 1 (by decide +kernel) hat hcA i1 ?_
  rw [c1]
  refine gG_sp hx (i := .bipush 16) (len := 2) (by decide +kernel) rfl ?_
  refine gG_sp hx (i := .ishl) (len := 1) (by decide +kernel) rfl ?_
  refine gG_sp hx (i := .ior) (len := 1) (by decide +kernel) rfl ?_
  refine gG_sp hx (i := .aload_n 0) (len := 1) (by decide +kernel) (sp_al h0) ?_
  refine gG_sp hx (i := .iload_n 1) (len := 1) (by decide +kernel) (sp_il h1) ?_
  refine gG_sp hx (i := .iconst 2) (len := 1) (by decide +kernel) rfl ?_
  refine gG_sp hx (i := .iadd) (len := 1) (by decide +kernel) rfl ?_
  refine gG_iald hx 1 (by decide +kernel) hat hcA i2 ?_
  rw [c2]
  refine gG_sp hx (i := .bipush 8) (len := 2) (by decide +kernel) rfl ?_
  refine gG_sp hx (i := .ishl) (len := 1) (by decide +kernel) rfl ?_
  refine gG_sp hx (i := .ior) (len := 1) (by decide +kernel) rfl ?_
  refine gG_sp hx (i := .aload_n 0) (len := 1) (by decide +kernel) (sp_al h0) ?_
  refine gG_sp hx (i := .iload_n 1) (len := 1) (by decide +kernel) (sp_il h1) ?_
  refine gG_sp hx (i := .iconst 3) (len := 1) (by decide +kernel) rfl ?_
  refine gG_sp hx (i := .iadd) (len := 1) (by decide +kernel) rfl ?_
  refine gG_iald hx 1 (by decide +kernel) hat hcA i3 ?_
  rw [c3]
  refine gG_sp hx (i := .ior) (len := 1) (by decide +kernel) rfl ?_
  exact hr 30 ls .ireturn (some (.int (pNum f i.toNatClampNeg))) M 0 0 (by decide +kernel) ⟨rfl, _, rfl, rfl⟩ ⟨rfl, rfl⟩ (Nat.le_refl _) (Nat.le_refl _)
theorem mx_wide {l : Launch} {D : va_G} {tys : List (ClassId × FieldType)} (ht : ty_tys tys) {M : mh_M} {a : Nat} {cA : ClassId} {f : Nat → Int32} {i : Int32} (hcA : tys[1]? = some (cA, .int)) (hat : mh_at M a (.inl (cA, 2048, .inl f))) (hi0 : 0 ≤ i.toInt) (hi1 : i.toInt ≤ 2040) : mh_Met vwCl tys l D yX5_wide [Cond.code yX5_wide cX5_wide 2 (some .long)] (ty_rm 1 21 cZ0) [.ref a, .int i] M (fun v M' => v = some (.long (pWide f i.toNatClampNeg)) ∧ M' = M) := by
  refine ty_ofX (by decide +kernel) (Nat.le_refl 2) ?_
  intro x ls hx hl hnm hR hD hls hr
  have h0 : ls[((0 : Fin 4) : Nat)]? = some (.val (.ref a)) := hls.2.2 (0, .ref a) List.mem_cons_self
  have h1 : ls[((1 : Fin 4) : Nat)]? = some (.val (.int i)) := hls.2.2 (1, .int i) (List.mem_cons_of_mem _ List.mem_cons_self)
  have ic : i.toNatClampNeg = i.toInt.toNat := rfl
  have j4 : (i + Int32.ofInt 4).toInt = i.toInt + 4 := ty_addI rfl rfl (by omega) (by omega)
  have c4 : (i + Int32.ofInt 4).toNatClampNeg = i.toNatClampNeg + 4 := ty_clN (by rw [j4, ic]; omega)
  refine gG_sp hx (i := .aload_n 0) (len := 1) (by decide +kernel) (sp_al h0) ?_
  refine gG_sp hx (i := .iload_n 1) (len := 1) (by decide +kernel) (sp_il h1) ?_
  refine gX_cS (idx := 88) (C := cZ0) hx hl hD (mx_number ht hcA hat hi0 (by omega)) (kw_at 699 (by decide +kernel)) (kw_at 10 (by decide +kernel)) (Or.inl (kw_at 697 (by decide +kernel))) (kw_at 698 (by decide +kernel)) (nA := 2) (by decide +kernel) rfl ⟨by rw [hR]; decide, by rw [hR]; decide⟩ (by decide +kernel) hls.1 (rest := []) (Nat.zero_le 8) (by rw [hR]; decide) (by rw [hR]; decide) (fun v M' hv => ?_)
  obtain ⟨rfl, rfl⟩ := hv
  refine gG_sp hx (i := .i2l) (len := 1) (by decide +kernel) rfl ?_
  refine gG_sp hx (i := .bipush 32) (len := 2) (by decide +kernel) rfl ?_
  refine gG_sp hx (i := .lshl) (len := 1) (by decide +kernel) rfl ?_
  refine gG_sp hx (i := .aload_n 0) (len := 1) (by decide +kernel) (sp_al h0) ?_
  refine gG_sp hx (i := .iload_n 1) (len := 1) (by decide +kernel) (sp_il h1) ?_
  refine gG_sp hx (i := .iconst 4) (len := 1) (by decide +kernel) rfl ?_
  refine gG_sp hx (i := .iadd) (len := 1) (by decide +kernel) rfl ?_
  refine gX_cS (idx := 88) (C := cZ0) hx hl hD (mx_number (i := i + Int32.ofInt 4) ht hcA hat (by rw [j4]; omega) (by rw [j4]; omega)) (kw_at 699 (by decide +kernel)) (kw_at 10 (by decide +kernel)) (Or.inl (kw_at 697 (by decide +kernel))) (kw_at 698 (by decide +kernel)) (nA := 2) (by decide +kernel) rfl ⟨by rw [hR]; decide, by rw [hR]; decide⟩ (by decide +kernel) hls.1 (by show 2 ≤ 8; omega) (by rw [hR]; decide) (by rw [hR]; decide) (fun v M' hv => ?_)
  obtain ⟨rfl, rfl⟩ := hv
  rw [c4]
  refine gG_sp hx (i := .i2l) (len := 1) (by decide +kernel) rfl ?_
  refine gR_ldlX (idx := 91) hx (v := 4294967295) (kw_at 700 (by decide +kernel)) 17 ls _ M' 0 0 (by decide +kernel) ?_
  refine gG_sp hx (i := .land) (len := 1) (by decide +kernel) rfl ?_
  refine gG_sp hx (i := .lor) (len := 1) (by decide +kernel) rfl ?_
  exact hr 22 ls .lreturn (some (.long (pWide f i.toNatClampNeg))) M' 0 0 (by decide +kernel) ⟨rfl, _, rfl⟩ ⟨rfl, rfl⟩ (Nat.le_refl _) (Nat.le_refl _)
