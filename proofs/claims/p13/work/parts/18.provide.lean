/-! RULES out of the tables' words -/
section PV
variable {x : gx_T} {cl : List vw_C} {cc : ByteArray} {nL : Nat} {tys : List (ClassId × FieldType)} {own : String} {idx ci f N : Nat} {ref C host : String} {T : u_T}
theorem gx_word {p : Program} {l : Launch} {e : Env} {R : Room} {s : State} {m : MethodId} {args : Array Value} {below : List Frame} {meth : Method} {c : Code} {Q : State → Prop} {D : va_G} {A : Nat → Prop} {H0 : Heap} (hx : gC (p, l, e, R, s, m, args, below, meth, c, Q, D, A, H0) cl cc nL tys kwT own) {w : Cond} (hw : w ∈ lw_tbl) (hk : kw_ok w = true) : w.before args s = true := hx.2.2.1 w hw hk args
theorem gR_getP (hx : gC x cl cc nL tys kwT own) (hc : cl[ci]? = some (C, T, N)) (hf : f < N) (hu : ∀ w ∈ u_ws C T N, w ∈ kwT) (hw : Cond.fieldLink own idx (T f).1 (T f).2.1 (T f).2.2.1 ∈ lw_tbl) : gR_get x cl cc idx ci f := by
  obtain ⟨p, l, e, R, s, m, args, below, meth, c, Q, D, A, H0⟩ := x
  have hl := gx_word hx hw rfl
  obtain ⟨⟨he, hb, hml, ho, hts⟩, hK, -⟩ := hx
  intro pc ls a fs v st M n k hd hat hv kk H locs hm
  exact mh_get he hb hts hu ho hK hm hat hc f hf hl (fun _ h => h) hv hd (kk H locs hm)
theorem gR_getN (hx : gC x cl cc nL tys kwT own) (hc : cl[ci]? = some (C, T, N)) (hf : f < N) (hu : ∀ w ∈ u_ws C T N, w ∈ kwT) (hw : Cond.fieldLinkNest own idx (T f).1 (T f).2.1 (T f).2.2.1 host ∈ lw_tbl) : gR_get x cl cc idx ci f := by
  obtain ⟨p, l, e, R, s, m, args, below, meth, c, Q, D, A, H0⟩ := x
  have hl := gx_word hx hw rfl
  obtain ⟨⟨he, hb, hml, ho, hts⟩, hK, -⟩ := hx
  intro pc ls a fs v st M n k hd hat hv kk H locs hm
  exact mh_getN he hb hts hu ho hK hm hat hc f hf hl (fun _ h => h) hv hd (kk H locs hm)
theorem gR_putP (hx : gC x cl cc nL tys kwT own) (hc : cl[ci]? = some (C, T, N)) (hf : f < N) (hu : ∀ w ∈ u_ws C T N, w ∈ kwT) (ty0 : Nat → FieldType) (hty : ∀ k, k < N → parseFieldDescriptor (T k).2.2.1 = some (ty0 k)) (hnm : ∀ a, a < N → ∀ b, b < N → a ≠ b → (T a).2.1 ≠ (T b).2.1) (hfin : (T f).2.2.2 = false) (hw : Cond.fieldLink own idx (T f).1 (T f).2.1 (T f).2.2.1 ∈ lw_tbl) {ty : FieldType} (ht : ty0 f = ty) : gR_put x cl cc idx ci f ty := by
  obtain ⟨p, l, e, R, s, m, args, below, meth, c, Q, D, A, H0⟩ := x
  have hl := gx_word hx hw rfl
  obtain ⟨⟨he, hb, hml, ho, hts⟩, hK, -⟩ := hx
  subst ht
  intro pc ls a fs v st M n k hd hat hlt hn hfit kk H locs hm
  exact mh_put he hb hts hu ty0 hty hnm ho hK hm hat hc f hf hl (fun _ h => h) hfin (hty f hf) hn hfit hlt rfl hd (fun H1 l1 h1 => kk H1 l1 h1)
theorem gR_putI (hx : gC x cl cc nL tys kwT own) (hi : x.2.2.2.2.2.2.2.2.1.name = "<init>") (hc : cl[ci]? = some (C, T, N)) (hf : f < N) (hu : ∀ w ∈ u_ws C T N, w ∈ kwT) (ty0 : Nat → FieldType) (hty : ∀ k, k < N → parseFieldDescriptor (T k).2.2.1 = some (ty0 k)) (hnm : ∀ a, a < N → ∀ b, b < N → a ≠ b → (T a).2.1 ≠ (T b).2.1) (hfin : (T f).2.2.2 = true) (hdc : (T f).1 = own) (hw : Cond.fieldLink own idx (T f).1 (T f).2.1 (T f).2.2.1 ∈ lw_tbl) {ty : FieldType} (ht : ty0 f = ty) : gR_put x cl cc idx ci f ty := by
  obtain ⟨p, l, e, R, s, m, args, below, meth, c, Q, D, A, H0⟩ := x
  have hl := gx_word hx hw rfl
  obtain ⟨⟨he, hb, hml, ho, hts⟩, hK, -⟩ := hx
  subst ht
  intro pc ls a fs v st M n k hd hat hlt hn hfit kk H locs hm
  exact mh_putF he hb hts hu ty0 hty hnm ho hK hm hat hc f hf hl (fun _ h => h) hfin hi hdc (hty f hf) hn hfit hlt rfl hd (fun H1 l1 h1 => kk H1 l1 h1)
theorem gR_ldcP (hx : gC x cl cc nL tys kwT own) {v : Int32} (hw : Cond.constant own idx v ∈ lw_tbl) : gR_ldc x cl cc idx v := by
  obtain ⟨p, l, e, R, s, m, args, below, meth, c, Q, D, A, H0⟩ := x
  have hl := gx_word hx hw rfl
  obtain ⟨⟨he, hb, hml, ho, hts⟩, hK, -⟩ := hx
  exact fun pc ls st M n k => ⟨fun hd kk H locs hm => lv_ldc he hb ho hl hd (kk H locs hm), fun hd kk H locs hm => lv_ldcw he hb ho hl hd (kk H locs hm)⟩
theorem gR_ldlP (hx : gC x cl cc nL tys kwT own) {v : Int64} (hw : Cond.constantLong own idx v ∈ lw_tbl) : ∃ v, gR_ldl x cl cc idx v := by
  refine ⟨v, ?_⟩
  obtain ⟨p, l, e, R, s, m, args, below, meth, c, Q, D, A, H0⟩ := x
  have hl := gx_word hx hw rfl
  obtain ⟨⟨he, hb, hml, ho, hts⟩, hK, -⟩ := hx
  intro pc ls st M n k hd kk H locs hm
  exact lv_ldc2 he hb ho hl hd (kk H locs hm)
theorem gR_newP (hx : gC x cl cc nL tys kwT own) (hc : cl[ci]? = some (C, T, N)) (hu : ∀ w ∈ u_ws C T N, w ∈ kwT) (ty0 : Nat → FieldType) (hty : ∀ k, k < N → parseFieldDescriptor (T k).2.2.1 = some (ty0 k)) {fs : List Value} (hfs : ∀ j, j < N → defaultValue (ty0 j) = vp_V fs j) (h1 : Cond.classLink own idx C ∈ lw_tbl) (h2 : Cond.instantiable C N ∈ lw_tbl) (h3 : Cond.initialized C ∈ lw_tbl) : gR_new x cl cc idx ci N fs := by
  obtain ⟨p, l, e, R, s, m, args, below, meth, c, Q, D, A, H0⟩ := x
  have w1 := gx_word hx h1 rfl
  have w2 := gx_word hx h2 rfl
  have w3 := gx_word hx h3 rfl
  obtain ⟨⟨he, hb, hml, ho, hts⟩, hK, -⟩ := hx
  intro pc ls st M n k hd hn hk kk H locs hm
  exact mh_newo he hb hts hu ty0 hty ho w1 w2 w3 hK hm hc hfs hn hk hd (fun q H1 hq h1 => kk q hq H1 locs h1)
theorem gR_naiP (hx : gC x cl cc nL tys kwT own) {at_ : ArrayType} {ty : FieldType} (t0 : Nat) {cA : ClassId} (ht : tys[t0]? = some (cA, ty)) (hat : newarray.typeOf at_ = ty) (hob : ∀ C, ty ≠ .object C) (hdv : defaultValue ty = .int 0) (hcb : componentBytes ty ≤ 8) (hw : Cond.arrayClass ty ∈ lw_tbl) : gR_nai x cl cc at_ cA := by
  obtain ⟨p, l, e, R, s, m, args, below, meth, c, Q, D, A, H0⟩ := x
  have w1 := gx_word hx hw rfl
  obtain ⟨⟨he, hb, hml, ho, hts⟩, hK, -⟩ := hx
  intro pc ls st M n k v N hd hv hN hn hk kk H locs hm
  have h0 : ¬ v < 0 := fun q => by
    have := Int32.lt_iff_toInt_lt.mp q
    rw [show (0 : Int32).toInt = 0 from rfl] at this
    omega
  have h1 : v.toNatClampNeg = N := by
    have e1 : v.toNatClampNeg = v.toInt.toNat := rfl
    rw [e1, hv]
    rfl
  subst hat
  refine mh_newa he hb w1 rfl hK hm (a0 := (N, .inl (fun _ => 0))) t0 ht hob (fun cA => ?_) h0 h1 ?_ hn hk hd (fun q H1 hq h1 => kk q hq H1 locs h1)
  · show arrV cA N (fun _ => Value.int 0) = _
    rw [hdv]
  · have := Nat.mul_le_mul_left N hcb
    omega
end PV
/-! calls -/
section PC
variable {x : gx_T} {cl : List vw_C} {cc : ByteArray} {nL : Nat} {tys : List (ClassId × FieldType)} {own : String} {idx ci N : Nat} {CN host : String} {T : u_T} {KT : List ty_D} {INV INV' : ty_K → mh_M → Prop} {pgf : ty_K → mh_M → Int32 → Prop} {y : MethodName} {bytes : ByteArray} {maxL : Nat} {rF : Option FieldType} {fr lo : Nat} {C : ty_C} {l : Launch} {D : va_G}
theorem ty_av_len {σ : ty_K} {pg : Int32 → Prop} {av : List Value} {ts : List ty_T} (h : ty_av σ pg av ts) : av.length = ts.length := by
  induction ts generalizing av with
  | nil => cases av with
    | nil => rfl
    | cons v vs => exact h.elim
  | cons t ts ih => cases av with
    | nil => exact h.elim
    | cons v vs => simp [ih h.2]
theorem gx_cb {p : Program} {l : Launch} {e : Env} {R : Room} {s : State} {m : MethodId} {args : Array Value} {below : List Frame} {meth : Method} {c : Code} {Q : State → Prop} {D : va_G} {A : Nat → Prop} {H0 : Heap} (hx : gC (p, l, e, R, s, m, args, below, meth, c, Q, D, A, H0) cl cc nL tys kwT own) {n : Nat}
    (hcd : Cond.code y bytes maxL rF ∈ lw_tbl) (hin : Cond.initialized y.cls ∈ lw_tbl) (hl : Cond.methodLink own idx y ∈ lw_tbl) (hd : y.cls ≠ "java/lang/invoke/MethodHandle" ∧ y.cls ≠ "java/lang/invoke/VarHandle" ∧ (parseMethodDescriptor y.desc).map (fun d => d.parameters.length) = some n) (hR : fr + 1 ≤ R.frames ∧ 8 + (maxL + 11) + lo ≤ R.locals) :
    CallB R s args own idx y bytes maxL rF [Cond.code y bytes maxL rF] (ty_rm fr lo C) (ty_rm fr lo C).cells (ty_rm fr lo C).slots n := by
  refine ⟨rfl, rfl, hR.1, hR.2, fun w hw a' U hW => ?_, List.mem_singleton.mpr rfl, gx_word hx hcd rfl, gx_word hx hin rfl, ⟨hd.1, hd.2.1⟩, fun sig h => ?_, gx_word hx hl rfl⟩
  · rw [List.mem_singleton.mp hw]
    exact kw_warm rfl hW (gx_word hx hcd rfl)
  · have h2 := hd.2.2
    rw [h] at h2
    exact (Option.some.inj h2).symm
theorem gx_cn {p : Program} {l : Launch} {e : Env} {R : Room} {s : State} {m : MethodId} {args : Array Value} {below : List Frame} {meth : Method} {c : Code} {Q : State → Prop} {D : va_G} {A : Nat → Prop} {H0 : Heap} (hx : gC (p, l, e, R, s, m, args, below, meth, c, Q, D, A, H0) cl cc nL tys kwT own) {n : Nat}
    (hcd : Cond.code y bytes maxL rF ∈ lw_tbl) (hin : Cond.initialized y.cls ∈ lw_tbl) (hl : Cond.methodLinkNest own idx y host ∈ lw_tbl) (hd : y.cls ≠ "java/lang/invoke/MethodHandle" ∧ y.cls ≠ "java/lang/invoke/VarHandle" ∧ (parseMethodDescriptor y.desc).map (fun d => d.parameters.length) = some n) (hR : fr + 1 ≤ R.frames ∧ 8 + (maxL + 11) + lo ≤ R.locals) :
    va_CN R s args own idx y host bytes maxL rF [Cond.code y bytes maxL rF] (ty_rm fr lo C) (ty_rm fr lo C).cells (ty_rm fr lo C).slots n := by
  refine ⟨⟨rfl, rfl, hR.1, hR.2, fun w hw a' U hW => ?_, List.mem_singleton.mpr rfl⟩, gx_word hx hcd rfl, gx_word hx hin rfl, ⟨hd.1, hd.2.1⟩, fun sig h => ?_, gx_word hx hl rfl⟩
  · rw [List.mem_singleton.mp hw]
    exact kw_warm rfl hW (gx_word hx hcd rfl)
  · have h2 := hd.2.2
    rw [h] at h2
    exact (Option.some.inj h2).symm
theorem ky_S {i : Instr} {j : Nat} (h : ty_ky i (3 * j + 1)) : i = .invokestatic j := by
  rcases h with ⟨k, h1, h2⟩ | ⟨k, h1, h2⟩ | ⟨k, h1, h2⟩
  · omega
  · rw [h1, show k = j by omega]
  · omega
theorem ky_V {i : Instr} {j : Nat} (h : ty_ky i (3 * j)) : i = .invokevirtual j := by
  rcases h with ⟨k, h1, h2⟩ | ⟨k, h1, h2⟩ | ⟨k, h1, h2⟩
  · rw [h1, show k = j by omega]
  · omega
  · omega
theorem ky_I {i : Instr} {j : Nat} (h : ty_ky i (3 * j + 2)) : i = .invokespecial j := by
  rcases h with ⟨k, h1, h2⟩ | ⟨k, h1, h2⟩ | ⟨k, h1, h2⟩
  · omega
  · omega
  · rw [h1, show k = j by omega]
/-- how the place idx of own is linked to y: plainly, or as a nest mate's -/
def kw_lk (own : String) (idx : Nat) (y : MethodName) : Prop := Cond.methodLink own idx y ∈ lw_tbl ∨ ∃ host, Cond.methodLinkNest own idx y host ∈ lw_tbl
abbrev kw_ds (y : MethodName) (n : Nat) : Prop := y.cls ≠ "java/lang/invoke/MethodHandle" ∧ y.cls ≠ "java/lang/invoke/VarHandle" ∧ (parseMethodDescriptor y.desc).map (fun d => d.parameters.length) = some n
/-- a static method -/
theorem gR_cS (hx : gC x cl cc nL tys kwT own) (hl : x.2.1 = l) (hD : x.2.2.2.2.2.2.2.2.2.2.2.1 = D) (hM : ty_Met l D cl tys KT INV INV' pgf y bytes maxL rF fr lo C) (hcd : Cond.code y bytes maxL rF ∈ lw_tbl) (hin : Cond.initialized y.cls ∈ lw_tbl) (hk : kw_lk own idx y) (hst : Cond.static y ∈ lw_tbl) (hd : kw_ds y C.1.length) (hR : fr + 1 ≤ (gx_R x).frames ∧ 8 + (maxL + 11) + lo ≤ (gx_R x).locals) : gR_call x cl cc nL tys KT INV INV' pgf (3 * idx + 1) C := by
  obtain ⟨p, l', e, R, s, m, args, below, meth, c, Q, D', A, H0⟩ := x
  have hl : l' = l := hl
  have hD : D' = D := hD
  subst hl; subst hD
  have w1 := gx_word hx hst rfl
  intro pc ls i av rest M σ n k hdc hi hs hav hH hI h8 hn hk2 kk H locs hm
  have hi := ky_S hi
  subst hi
  rcases hk with hk | ⟨host, hk⟩
  · have cw := gx_cb (C := C) hx hcd hin hk hd hR
    exact mh_cS hx.1 (hM av M σ hav hH hI) ⟨cw, w1⟩ hx.2 hm (ty_av_len hav) hs rfl h8 hdc ⟨hn, hk2⟩ (fun v M' H1 l1 hp h1 => by
      obtain ⟨σ', q1, q2, q3, q4, q5⟩ := hp
      exact kk v M' σ' q1 q2 q3 q4 q5 H1 l1 h1)
  · have cw := gx_cn (C := C) hx hcd hin hk hd hR
    exact mh_cSN hx.1 (hM av M σ hav hH hI) ⟨cw, w1, trivial⟩ hx.2 hm (ty_av_len hav) hs rfl h8 hdc ⟨hn, hk2⟩ (fun v M' H1 l1 hp h1 => by
      obtain ⟨σ', q1, q2, q3, q4, q5⟩ := hp
      exact kk v M' σ' q1 q2 q3 q4 q5 H1 l1 h1)
/-- a method of an object of kind kr -/
theorem gR_cV (hx : gC x cl cc nL tys kwT own) (hl : x.2.1 = l) (hD : x.2.2.2.2.2.2.2.2.2.2.2.1 = D) (hM : ty_Met l D cl tys KT INV INV' pgf y bytes maxL rF fr lo C) {kr : Int} {ts : List ty_T} (hts : C.1 = (2, kr, 0) :: ts) {fs : List ty_T} (hkr : KT[kr.toNat]? = some (0, ci, fs)) (hc : cl[ci]? = some (y.cls, T, N)) (hcd : Cond.code y bytes maxL rF ∈ lw_tbl) (hin : Cond.initialized y.cls ∈ lw_tbl) (hk : kw_lk own idx y) (hi1 : Cond.instanceMethod y ∈ lw_tbl) (hse : Cond.selects y.cls y y ∈ lw_tbl) (hd : kw_ds y ts.length) (hR : fr + 1 ≤ (gx_R x).frames ∧ 8 + (maxL + 11) + lo ≤ (gx_R x).locals) : gR_call x cl cc nL tys KT INV INV' pgf (3 * idx) C := by
  obtain ⟨p, l', e, R, s, m, args, below, meth, c, Q, D', A, H0⟩ := x
  have hl : l' = l := hl
  have hD : D' = D := hD
  subst hl; subst hD
  have w1 := gx_word hx hi1 rfl
  have w2 := gx_word hx hse rfl
  intro pc ls i av rest M σ n k hdc hi hs hav hH hI h8 hn hk2 kk H locs hm
  have hi := ky_V hi
  subst hi
  have hav0 := hav
  rw [hts] at hav
  cases av with
  | nil => exact hav.elim
  | cons v0 As =>
    obtain ⟨⟨b, rfl, hb⟩, hav⟩ := hav
    obtain ⟨gs, hat, -⟩ := ty_obj hH hb hkr
    have est : (Value.ref b :: As).reverse ++ rest = As.reverse ++ .ref b :: rest := by simp
    rcases hk with hk | ⟨host, hk⟩
    · have cw := gx_cb (C := C) hx hcd hin hk hd hR
      exact mh_cV hx.1 (hM _ M σ hav0 hH hI) ⟨cw, w1, w2⟩ hx.2 hm hat hc (ty_av_len hav) hs est h8 hdc ⟨hn, hk2⟩ (fun v M' H1 l1 hp h1 => by
        obtain ⟨σ', q1, q2, q3, q4, q5⟩ := hp
        exact kk v M' σ' q1 q2 q3 q4 q5 H1 l1 h1)
    · have cw := gx_cn (C := C) hx hcd hin hk hd hR
      exact mh_cVN hx.1 (hM _ M σ hav0 hH hI) ⟨cw, w1, w2⟩ hx.2 hm hat hc (ty_av_len hav) hs est h8 hdc ⟨hn, hk2⟩ (fun v M' H1 l1 hp h1 => by
        obtain ⟨σ', q1, q2, q3, q4, q5⟩ := hp
        exact kk v M' σ' q1 q2 q3 q4 q5 H1 l1 h1)
/-- a constructor -/
theorem gR_cI (hx : gC x cl cc nL tys kwT own) (hl : x.2.1 = l) (hD : x.2.2.2.2.2.2.2.2.2.2.2.1 = D) (hM : ty_Met l D cl tys KT INV INV' pgf y bytes maxL none fr lo C) (hnm : y.name = "<init>") {kr : Int} {ts : List ty_T} (hts : C.1 = (2, kr, 0) :: ts) (hcd : Cond.code y bytes maxL none ∈ lw_tbl) (hin : Cond.initialized y.cls ∈ lw_tbl) (hk : kw_lk own idx y) (hi1 : Cond.instanceMethod y ∈ lw_tbl) (hd : kw_ds y ts.length) (hR : fr + 1 ≤ (gx_R x).frames ∧ 8 + (maxL + 11) + lo ≤ (gx_R x).locals) : gR_call x cl cc nL tys KT INV INV' pgf (3 * idx + 2) C := by
  obtain ⟨p, l', e, R, s, m, args, below, meth, c, Q, D', A, H0⟩ := x
  have hl : l' = l := hl
  have hD : D' = D := hD
  subst hl; subst hD
  have w1 := gx_word hx hi1 rfl
  intro pc ls i av rest M σ n k hdc hi hs hav hH hI h8 hn hk2 kk H locs hm
  have hi := ky_I hi
  subst hi
  have hav0 := hav
  rw [hts] at hav
  cases av with
  | nil => exact hav.elim
  | cons v0 As =>
    obtain ⟨⟨b, rfl, hb⟩, hav⟩ := hav
    have est : (Value.ref b :: As).reverse ++ rest = As.reverse ++ .ref b :: rest := by simp
    rcases hk with hk | ⟨host, hk⟩
    · have cw := gx_cb (C := C) hx hcd hin hk hd hR
      exact mh_cI hx.1 (hM _ M σ hav0 hH hI) ⟨cw, hnm, w1⟩ hx.2 hm (ty_av_len hav) hs est h8 hdc ⟨hn, hk2⟩ (fun v M' H1 l1 hp h1 => by
        obtain ⟨σ', q1, q2, q3, q4, q5⟩ := hp
        exact kk v M' σ' q1 q2 q3 q4 q5 H1 l1 h1)
    · have cw := gx_cn (C := C) hx hcd hin hk hd hR
      exact mh_cIN hx.1 (hM _ M σ hav0 hH hI) ⟨cw, hnm, w1⟩ hx.2 hm (ty_av_len hav) hs est h8 hdc ⟨hn, hk2⟩ (fun v M' H1 l1 hp h1 => by
        obtain ⟨σ', q1, q2, q3, q4, q5⟩ := hp
        exact kk v M' σ' q1 q2 q3 q4 q5 H1 l1 h1)
/-- Object's own constructor -/
theorem gR_cO (hx : gC x cl cc nL tys kwT own) (hsp : ty_sP 0 pgf ∨ True) {kr : Int} (hk : Cond.methodLink own idx Lib.objectInit ∈ lw_tbl) (hi1 : Cond.instanceMethod Lib.objectInit ∈ lw_tbl) (hcd : Cond.code Lib.objectInit ⟨#[0xb1]⟩ 1 none ∈ lw_tbl) (hR : 1 ≤ (gx_R x).frames ∧ 20 ≤ (gx_R x).locals) : gR_call x cl cc nL tys KT INV INV pgf (3 * idx + 2) ([(2, kr, 0)], none, [], [], 0, 0, ty_i0) := by
  obtain ⟨p, l', e, R, s, m, args, below, meth, c, Q, D', A, H0⟩ := x
  have w1 := gx_word hx hk rfl
  have w2 := gx_word hx hi1 rfl
  have w3 := gx_word hx hcd rfl
  obtain ⟨⟨he, hb, hml, ho, hts⟩, hK⟩ := hx
  intro pc ls i av rest M σ n k hdc hi hs hav hH hI h8 hn hk2 kk H locs hm
  have hi := ky_I hi
  subst hi
  cases av with
  | nil => exact hav.elim
  | cons v0 As =>
    obtain ⟨⟨b, rfl, hb2⟩, hav⟩ := hav
    cases As with
    | cons v vs => exact hav.elim
    | nil =>
      have hR1 : 1 ≤ R.frames := hR.1
      have hR2 : 20 ≤ R.locals := hR.2
      refine W.objInit he hb ho w1 w2 w3 rfl (hs.trans hml.symm) rfl hdc hR1 ?_ (kk none M σ ty_F.rf hH hI rfl trivial H locs hm)
      show 2 * 0 + (rest.map fun v => v.category).sum + 12 ≤ R.locals
      omega
end PC
