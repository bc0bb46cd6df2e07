/-! A state of types: pc, locals, stack, cells, slots -/
abbrev ty_S : Type := Nat × ty_L × List ty_E × Nat × Nat
def ty_st1 (L : ty_L) (i : Nat) (t : ty_T) : ty_L := (i, t) :: L.filter (fun q => q.1 != i && (q.1 + 1 != i || ty_c1 q.2))
def ty_st2 (L : ty_L) (i : Nat) : ty_L := (i, (1, 0, 0)) :: L.filter (fun q => (q.1 != i && q.1 != i + 1) && (q.1 + 1 != i || ty_c1 q.2))
def ty_clr (st : List ty_E) : List ty_E := st.map (fun e => (e.1, ty_i0))
def ty_neg (c : ClassFile.Cond) : ClassFile.Cond := match c with
  | .eq => .ne
  | .ne => .eq
  | .lt => .ge
  | .ge => .lt
  | .gt => .le
  | .le => .gt
def ty_cut (c : ClassFile.Cond) (a b : Int × Int) : (Int × Int) × (Int × Int) := match c with
  | .eq => ((max a.1 b.1, min a.2 b.2), (max a.1 b.1, min a.2 b.2))
  | .ne => if b.1 = b.2 then ((if a.1 = b.1 then a.1 + 1 else a.1, if a.2 = b.1 then a.2 - 1 else a.2), b) else (a, b)
  | .lt => ((a.1, min a.2 (b.2 - 1)), (max b.1 (a.1 + 1), b.2))
  | .ge => ((max a.1 b.1, a.2), (b.1, min b.2 a.2))
  | .gt => ((max a.1 (b.1 + 1), a.2), (b.1, min b.2 (a.2 - 1)))
  | .le => ((a.1, min a.2 b.2), (max b.1 a.1, b.2))
def ty_at (L : ty_L) (j : Nat) (F : ty_T → ty_T) : ty_L := L.map (fun q => if q.1 = j then (q.1, F q.2) else q)
def ty_rf (L : ty_L) (i : ty_I) (r : Int × Int) : ty_L := if i.1 = 1 then ty_at L i.2.1 (fun t => ty_nr t r) else L
def ty_nz (L : ty_L) (i : ty_I) : ty_L := if i.1 = 2 then ty_at L i.2.1 (fun t => ty_nr t i.2.2) else if i.1 = 3 then ty_at L i.2.1 (fun t => ty_sp (ty_nr t i.2.2)) else L
def ty_nm (L : ty_L) (i : ty_I) : ty_L := if i.1 = 4 then ty_at L i.2.1 ty_sp else L
/-- the locals where 'a c b' holds; none: it can't -/
def ty_br (c : ClassFile.Cond) (L : ty_L) (ia ib : ty_I) (a b : Int × Int) : Option ty_L :=
  let r := ty_cut c a b
  if r.1.1 ≤ r.1.2 ∧ r.2.1 ≤ r.2.2 then
    let L1 := ty_rf (ty_rf L ia r.1) ib r.2
    some (if c = .ne ∧ b = (0, 0) then ty_nz L1 ia else if c = .ne ∧ b = (-1, -1) then ty_nm L1 ia else L1)
  else none
def ty_go (o : Option ty_L) (pc : Nat) (r : List ty_E) (n k : Nat) : List ty_S := match o with
  | some L => [(pc, L, r, n, k)]
  | none => []
/-- a kind that a reference has -/
def ty_kd (KT : List ty_D) (t : ty_T) : Option (Nat × ty_D) := if t.1 = 2 then (KT[t.2.1.toNat]?).map (fun d => (t.2.1.toNat, d)) else none
/-- what may go into a field of that type -/
def ty_ff (ft : FieldType) (t : ty_T) : Bool := match ft with
  | .int => (ty_rng t).isSome
  | .boolean => match ty_rng t with
    | some r => decide (0 ≤ r.1) && decide (r.2 ≤ 1)
    | none => false
  | .long => t.1 == 1
  | .object _ => t.1 == 2
  | .array _ => t.1 == 2
  | _ => false
def ty_in (t : ty_T) (n : Nat) : Bool := match ty_rng t with
  | some r => decide (0 ≤ r.1) && decide (r.2 < (n : Int))
  | none => false
/-- a contract: arguments, answer, what it writes, kinds that it makes, its cells and slots, a remark on the answer -/
abbrev ty_C : Type := List ty_T × Option ty_T × List (Nat × Nat) × List Nat × Nat × Nat × ty_I
def ty_args : List ty_E → List ty_T → Bool
  | [], [] => true
  | e :: es, t :: ts => ty_sub e.1 t && ty_args es ts
  | _, _ => false
def ty_cat (st : List ty_E) : Option Nat := match st with
  | [] => some 0
  | e :: r => match ty_cat r with
    | some n => if ty_c1 e.1 = true then some (n + 1) else if e.1.1 = 1 then some (n + 2) else none
    | none => none
def ty_ri (i : ty_I) (as_ : List ty_E) : ty_I := if i.1 = 2 ∨ i.1 = 3 then match as_[i.2.1]? with
    | some e => if e.2.1 = 1 then (i.1, e.2.2.1, i.2.2) else ty_i0
    | none => ty_i0
  else ty_i0
def ty_prt (rt : Option ty_T) : Bool := match rt with
  | some t => ty_plain t
  | none => true
def ty_psh (rt : Option ty_T) (i : ty_I) (r : List ty_E) : List ty_E := match rt with
  | some t => (t, i) :: r
  | none => r
def ty_wS (st : List ty_E) : List ty_E := st.map (fun e => (ty_wk e.1, if e.2.1 = 3 ∨ e.2.1 = 4 then ty_i0 else e.2))
def ty_wL (L : ty_L) : ty_L := L.map (fun q => (q.1, ty_wk q.2))
/-- a value that is the default of a field -/
def ty_dv (v : Value) (t : ty_T) : Bool := match v, t.1 with
  | .int z, 0 => decide (z = 0) && decide (t.2.1 ≤ 0) && decide (0 ≤ t.2.2)
  | .long _, 1 => true
  | .null, 3 => true
  | _, _ => false
def ty_dvs : List Value → List ty_T → Bool
  | v :: vs, t :: ts => ty_dv v t && ty_dvs vs ts
  | _, [] => true
  | _, _ => false
section STEP
variable (KT : List ty_D) (fT pT : List (Nat × Nat × Nat × FieldType)) (cT : List (Nat × ty_C)) (kT : List (Nat × Int)) (lT : List Nat) (nT : List (Nat × Nat × Nat × Nat × List Value)) (aT : List (Nat × Nat)) (mods PS : List (Nat × Nat)) (SW : List (Nat × Int × Int × Int × Int)) (news : List Nat) (kp nL nc ns RC RS : Nat) (rT : Option ty_T) (rF : Option FieldType)
def ty_fld (idx ci : Nat) : Option (Nat × FieldType) := (fT.find? (fun q => q.1 == idx && q.2.1 == ci)).map (fun q => q.2.2)
/-- may the place be written here? -/
def ty_wr (k f : Nat) : Bool := decide ((k, f) ∈ mods) && decide ((k, f) ∉ PS)
/-- a store that the invariant allows: the kind, the place in [i0, i1], the value in [v0, v1] -/
def ty_sw (k : Nat) (i v : ty_T) : Bool := decide ((k, 0) ∈ mods) && SW.any (fun q => q.1 == k && ty_sub i (0, q.2.1, q.2.2.1) && ty_sub v (0, q.2.2.2.1, q.2.2.2.2))
def ty_mk (k : Nat) : Bool := decide (k ∈ news) && PS.all (fun q => q.1 != k) && k != kp
def sh_get (idx : Nat) (s : ty_S) : Option (List ty_S) := match s with
  | (pc, L, e :: r, n, k) => match ty_kd KT e.1 with
    | some (_, (0, ci, ts)) => match ty_fld fT idx ci with
      | some (f, _) => match ts[f]? with
        | some t => if ty_plain t then some [(pc + 3, L, (t, ty_i0) :: r, n, k)] else none
        | none => none
      | none => none
    | _ => none
  | _ => none
def sh_put (idx : Nat) (s : ty_S) : Option (List ty_S) := match s with
  | (pc, L, v :: e :: r, n, k) => match ty_kd KT e.1 with
    | some (kk, (0, ci, ts)) => match ty_fld pT idx ci with
      | some (f, ft) => match ts[f]? with
        | some t => if ty_sub v.1 t && ty_plain t && ty_ff ft v.1 && ty_wr mods PS kk f && kk != kp then some [(pc + 3, L, r, n, k)] else none
        | none => none
      | none => none
    | _ => none
  | _ => none
def sh_ld (c1 c2 : Nat) (s : ty_S) : Option (List ty_S) := match s with
  | (pc, L, i :: e :: r, n, k) => match ty_kd KT e.1 with
    | some (kk, (c, N, [t])) => if (c = c1 ∨ c = c2) ∧ ty_in i.1 N = true ∧ ty_plain t = true then
        if kk = kp then
          if t.1 = 5 then some [(pc + 1, L, ((if i.1.1 = 4 ∨ i.1.1 = 8 then 0 else 5, t.2.1, t.2.2), if i.2.1 = 1 then (4, i.2.2.1, 0, 0) else ty_i0) :: r, n, k)] else none
        else some [(pc + 1, L, (t, ty_i0) :: r, n, k)]
      else none
    | _ => none
  | _ => none
def sh_ldl (s : ty_S) : Option (List ty_S) := match s with
  | (pc, L, i :: e :: r, n, k) => match ty_kd KT e.1 with
    | some (_, (23, N, _)) => if ty_in i.1 N = true then some [(pc + 1, L, ((1, 0, 0), ty_i0) :: r, n, k)] else none
    | _ => none
  | _ => none
def sh_ln (s : ty_S) : Option (List ty_S) := match s with
  | (pc, L, e :: r, n, k) => match ty_kd KT e.1 with
    | some (_, (c, N, _)) => if (c = 1 ∨ c = 2 ∨ c = 3 ∨ c = 23) ∧ N < 2147483648 then some [(pc + 1, L, ((0, (N : Int), (N : Int)), ty_i0) :: r, n, k)] else none
    | _ => none
  | _ => none
/-- a store into an array: its code, the type that is stored -/
def sh_st (c0 : Nat) (F : ty_T → Option ty_T) (s : ty_S) : Option (List ty_S) := match s with
  | (pc, L, v :: i :: e :: r, n, k) => match ty_kd KT e.1 with
    | some (kk, (c, N, [t])) => match F v.1 with
      | some u => if c = c0 ∧ ty_in i.1 N = true ∧ ty_sub u t = true ∧ ty_plain t = true ∧ (ty_wr mods PS kk 0 = true ∨ ty_sw mods SW kk i.1 u = true) then
          if kk = kp then some [(pc + 1, ty_wL L, ty_wS r, n, k)] else some [(pc + 1, L, r, n, k)]
        else none
      | none => none
    | _ => none
  | _ => none
def sh_stl (s : ty_S) : Option (List ty_S) := match s with
  | (pc, L, v :: i :: e :: r, n, k) => match ty_kd KT e.1 with
    | some (kk, (23, N, _)) => if v.1.1 = 1 ∧ ty_in i.1 N = true ∧ ty_wr mods PS kk 0 = true ∧ kk ≠ kp then some [(pc + 1, L, r, n, k)] else none
    | _ => none
  | _ => none
def sh_new (idx : Nat) (s : ty_S) : Option (List ty_S) := match s with
  | (pc, L, r, n, k) => match nT.find? (fun q => q.1 == idx) with
    | some (_, kk, ci, N, fs) => match KT[kk]? with
      | some (0, cj, ts) => if ci = cj ∧ ty_dvs fs ts = true ∧ ty_mk PS news kp kk = true ∧ n + 1 ≤ RC ∧ k + N ≤ RS then some [(pc + 3, L, ((2, (kk : Int), 0), ty_i0) :: r, n + 1, k + N)] else none
      | _ => none
    | none => none
def sh_nai (c0 : Nat) (s : ty_S) : Option (List ty_S) := match s with
  | (pc, L, e :: r, n, k) => match aT.find? (fun q => q.1 == pc) with
    | some (_, kk) => match KT[kk]? with
      | some (c, N, [t]) => if c = c0 ∧ ty_rng e.1 = some ((N : Int), (N : Int)) ∧ N ≤ 60000000 ∧ ty_sub (0, 0, 0) t = true ∧ ty_plain t = true ∧ ty_mk PS news kp kk = true ∧ n + 1 ≤ RC ∧ k + N ≤ RS then some [(pc + 2, L, ((2, (kk : Int), 0), ty_i0) :: r, n + 1, k + N)] else none
      | _ => none
    | none => none
  | _ => none
def sh_call (idx : Nat) (s : ty_S) : Option (List ty_S) := match s with
  | (pc, L, st, n, k) => match cT.find? (fun q => q.1 == idx && ty_args (st.take q.2.1.length).reverse q.2.1) with
    | some (_, (as_, rt, md, nw, mc, ms, inf)) =>
      let r := st.drop as_.length
      let a := (st.take as_.length).reverse
      match ty_cat r with
      | some w => if w ≤ 8 ∧ md.all (fun q => decide (q ∈ mods)) = true ∧ nw.all (fun q => decide (q ∈ news)) = true ∧ n + mc ≤ RC ∧ k + ms ≤ RS ∧ (nw.all (fun q => q != kp)) = true ∧ ty_prt rt = true then
          let pgk := md.all (fun q => q.1 != kp)
          let L1 := if pgk then L else ty_wL L
          let r1 := if pgk then r else ty_wS r
          some [(pc + 3, L1, ty_psh rt (ty_ri inf a) r1, n + mc, k + ms)]
        else none
      | none => none
    | none => none
def sh_ret (i : Instr) (s : ty_S) : Option (List ty_S) := match s with
  | (_, _, st, n, k) => if n ≤ nc ∧ k ≤ ns then match rT, rF, st with
      | none, none, [] => if i = .return_ then some [] else none
      | some t, some .long, [e] => if i = .lreturn ∧ e.1.1 = 1 ∧ t.1 = 1 then some [] else none
      | some t, some (.object _), [e] => if i = .areturn ∧ e.1.1 = 2 ∧ ty_sub e.1 t = true ∧ ty_plain t = true then some [] else none
      | some t, some (.array _), [e] => if i = .areturn ∧ e.1.1 = 2 ∧ ty_sub e.1 t = true ∧ ty_plain t = true then some [] else none
      | some t, some .int, [e] => if i = .ireturn ∧ (ty_rng e.1).isSome = true ∧ ty_sub e.1 t = true ∧ ty_plain t = true then some [] else none
      | some t, some .boolean, [e] => if i = .ireturn ∧ ty_sub e.1 (0, 0, 1) = true ∧ ty_sub e.1 t = true ∧ ty_plain t = true then some [] else none
      | some t, some .byte, [e] => if i = .ireturn ∧ ty_sub e.1 (0, -128, 127) = true ∧ ty_sub e.1 t = true ∧ ty_plain t = true then some [] else none
      | _, _, _ => none
    else none
def sh_if (c : ClassFile.Cond) (off : Int) (s : ty_S) : Option (List ty_S) := match s with
  | (pc, L, e :: r, n, k) => match ty_rng e.1 with
    | some a => if 0 ≤ (pc : Int) + off then some (ty_go (ty_br c L e.2 ty_i0 a (0, 0)) ((pc : Int) + off).toNat r n k ++ ty_go (ty_br (ty_neg c) L e.2 ty_i0 a (0, 0)) (pc + 3) r n k) else none
    | none => none
  | _ => none
def sh_ic (c : ClassFile.Cond) (off : Int) (s : ty_S) : Option (List ty_S) := match s with
  | (pc, L, f :: e :: r, n, k) => match ty_rng e.1, ty_rng f.1 with
    | some a, some b => if 0 ≤ (pc : Int) + off then some (ty_go (ty_br c L e.2 f.2 a b) ((pc : Int) + off).toNat r n k ++ ty_go (ty_br (ty_neg c) L e.2 f.2 a b) (pc + 3) r n k) else none
    | _, _ => none
  | _ => none
def sh_i1 (len i : Nat) (s : ty_S) : Option (List ty_S) := match s with
  | (pc, L, e :: r, n, k) => if (ty_rng e.1).isSome = true ∧ i < nL then some [(pc + len, ty_st1 L i e.1, ty_clr r, n, k)] else none
  | _ => none
def sh_a1 (len i : Nat) (s : ty_S) : Option (List ty_S) := match s with
  | (pc, L, e :: r, n, k) => if e.1.1 = 2 ∧ i < nL then some [(pc + len, ty_st1 L i e.1, ty_clr r, n, k)] else none
  | _ => none
def sh_l1 (len i : Nat) (s : ty_S) : Option (List ty_S) := match s with
  | (pc, L, e :: r, n, k) => if e.1.1 = 1 ∧ i + 1 < nL then some [(pc + len, ty_st2 L i, ty_clr r, n, k)] else none
  | _ => none
def sh_inc (i : Nat) (z : Int) (s : ty_S) : Option (List ty_S) := match s with
  | (pc, L, r, n, k) => match ty_get L i with
    | some t => match ty_rng t with
      | some q => if -128 ≤ z ∧ z ≤ 127 then
          some [(pc + 3, ty_st1 L i (if -2147483648 ≤ q.1 + z ∧ q.2 + z ≤ 2147483647 then (if (t.1 = 6 ∨ t.1 = 7 ∨ t.1 = 8) ∧ 0 < z then 7 else 0, q.1 + z, q.2 + z) else ty_f), ty_clr r, n, k)]
        else none
      | none => none
    | none => none
def sh_ts (d lo hi : Int) (offs : Array Int) (s : ty_S) : Option (List ty_S) := match s with
  | (pc, L, e :: r, n, k) => if (ty_rng e.1).isSome = true ∧ 0 ≤ (pc : Int) + d ∧ offs.toList.all (fun o => decide (0 ≤ (pc : Int) + o)) = true ∧ (offs.size : Int) = hi - lo + 1 then
      some ((((pc : Int) + d).toNat, L, r, n, k) :: offs.toList.map (fun o => (((pc : Int) + o).toNat, L, r, n, k)))
    else none
  | _ => none
/-- a step: the states behind it -/
def ty_step (i : Instr) (len : Nat) (s : ty_S) : Option (List ty_S) := match i with
  | .getfield idx => if len = 3 then sh_get KT fT idx s else none
  | .putfield idx => if len = 3 then sh_put KT pT mods PS kp idx s else none
  | .baload => if len = 1 then sh_ld KT kp 1 3 s else none
  | .iaload => if len = 1 then sh_ld KT kp 2 2 s else none
  | .laload => if len = 1 then sh_ldl KT s else none
  | .arraylength => if len = 1 then sh_ln KT s else none
  | .bastore => if len = 1 then (match sh_st KT mods PS SW kp 1 (fun t => if (ty_rng t).isSome then some (0, -128, 127) else none) s with
      | some l => some l
      | none => sh_st KT mods PS SW kp 3 (fun t => if ty_sub t (0, 0, 1) then some t else none) s) else none
  | .iastore => if len = 1 then sh_st KT mods PS SW kp 2 (fun t => if (ty_rng t).isSome then some t else none) s else none
  | .lastore => if len = 1 then sh_stl KT mods PS kp s else none
  | .new idx => if len = 3 then sh_new KT nT PS news kp RC RS idx s else none
  | .newarray .byte => if len = 2 then sh_nai KT aT PS news kp RC RS 1 s else none
  | .newarray .int => if len = 2 then sh_nai KT aT PS news kp RC RS 2 s else none
  | .newarray .boolean => if len = 2 then sh_nai KT aT PS news kp RC RS 3 s else none
  | .invokevirtual idx => if len = 3 then sh_call cT mods news kp RC RS (3 * idx) s else none
  | .invokestatic idx => if len = 3 then sh_call cT mods news kp RC RS (3 * idx + 1) s else none
  | .invokespecial idx => if len = 3 then sh_call cT mods news kp RC RS (3 * idx + 2) s else none
  | .ireturn => if len = 1 then sh_ret nc ns rT rF .ireturn s else none
  | .lreturn => if len = 1 then sh_ret nc ns rT rF .lreturn s else none
  | .areturn => if len = 1 then sh_ret nc ns rT rF .areturn s else none
  | .return_ => if len = 1 then sh_ret nc ns rT rF .return_ s else none
  | .goto off => if len = 3 ∧ 0 ≤ (s.1 : Int) + off then some [(((s.1 : Int) + off).toNat, s.2)] else none
  | .ifCond c off => if len = 3 then sh_if c off s else none
  | .if_icmp c off => if len = 3 then sh_ic c off s else none
  | .istore i => if len = 2 then sh_i1 nL 2 i s else none
  | .istore_n i => if len = 1 then sh_i1 nL 1 i s else none
  | .astore i => if len = 2 then sh_a1 nL 2 i s else none
  | .astore_n i => if len = 1 then sh_a1 nL 1 i s else none
  | .lstore i => if len = 2 then sh_l1 nL 2 i s else none
  | .lstore_n i => if len = 1 then sh_l1 nL 1 i s else none
  | .iinc i z => if len = 3 then sh_inc i z s else none
  | .ldc idx => if len = 2 then (match kT.find? (fun q => q.1 == idx) with
      | some q => if -2147483648 ≤ q.2 ∧ q.2 ≤ 2147483647 then some [(s.1 + 2, s.2.1, ((0, q.2, q.2), ty_i0) :: s.2.2.1, s.2.2.2)] else none
      | none => none) else none
  | .ldc_w idx => if len = 3 then (match kT.find? (fun q => q.1 == idx) with
      | some q => if -2147483648 ≤ q.2 ∧ q.2 ≤ 2147483647 then some [(s.1 + 3, s.2.1, ((0, q.2, q.2), ty_i0) :: s.2.2.1, s.2.2.2)] else none
      | none => none) else none
  | .tableswitch d lo hi offs => sh_ts d lo hi offs s
  | .ldc2_w idx => if len = 3 then (if idx ∈ lT then some [(s.1 + 3, s.2.1, ((1, 0, 0), ty_i0) :: s.2.2.1, s.2.2.2)] else none) else none
  | i => match sa i s.2.1 s.2.2.1 with
    | some (r, l) => if l = len then some [(s.1 + len, s.2.1, r, s.2.2.2)] else none
    | none => none
/-- a head of a loop: pc, locals, its counter and the counter's highest value, cells, slots -/
abbrev ty_Hd : Type := Nat × ty_L × Nat × Int × Nat × Nat
def ty_subL (L L' : ty_L) : Bool := L'.all (fun q => match ty_get L q.1 with
  | some t => ty_sub t q.2
  | none => false)
/-- a state that stands at a head whose run is known -/
def ty_hit (h : ty_Hd) (s : ty_S) : Bool := match h, s with
  | (pc, L, _, _, n, k), (pc', L', st, n', k') => pc == pc' && ty_subL L' L && st.isEmpty && decide (n' ≤ n) && decide (k' ≤ k)
/-- a state at which the check stops: pc, locals, stack, cells, slots -/
abbrev ty_Sp : Type := Nat × ty_L × List ty_T × Nat × Nat
/-- the same, and a type that is the very same, of the ghost too -/
def ty_subG (L L' : ty_L) : Bool := L'.all (fun q => match ty_get L q.1 with
  | some t => ty_sub t q.2 || decide (t = q.2)
  | none => false)
def ty_subS : List ty_E → List ty_T → Bool
  | [], [] => true
  | e :: es, t :: ts => (ty_sub e.1 t || decide (e.1 = t)) && ty_subS es ts
  | _, _ => false
def ty_stop (h : ty_Sp) (s : ty_S) : Bool := match h, s with
  | (pc, L, ts, n, k), (pc', L', es, n', k') => pc == pc' && ty_subG L' L && ty_subS es ts && decide (n' ≤ n) && decide (k' ≤ k)
/-- a state that comes back to the head with a higher counter -/
def ty_back (h : ty_Hd) (s : ty_S) : Bool := match h, s with
  | (pc, L, c, hi, n, k), (pc', L', st, n', k') => pc == pc' && ty_subL L' L && st.isEmpty && decide (n' ≤ n) && decide (k' ≤ k) && (match ty_get L' c with
    | some t => t.1 == 7 && decide (t.2.2 ≤ hi)
    | none => false)
def ty_cur (cur : Option ty_Hd) (s : ty_S) : Bool := match cur with
  | some h => ty_back h s
  | none => false
variable (prog : List (Nat × Instr × Nat)) (stops : List ty_Sp) (known : List ty_Hd) (cur : Option ty_Hd)
def ty_chk : Nat → ty_S → Bool
  | 0, _ => false
  | f + 1, s =>
    if known.any (fun h => ty_hit h s) then true
    else if stops.any (fun h => ty_stop h s) then true
    else if ty_cur cur s then true
    else match prog.find? (fun q => q.1 == s.1) with
      | some (_, i, len) => match ty_step KT fT pT cT kT lT nT aT mods PS SW news kp nL nc ns RC RS rT rF i len s with
        | some l => l.all (fun t => ty_chk f t)
        | none => false
      | none => false
/-- from a head: one step, then the rest -/
def ty_chk1 (f : Nat) (s : ty_S) : Bool := match prog.find? (fun q => q.1 == s.1) with
  | some (_, i, len) => match ty_step KT fT pT cT kT lT nT aT mods PS SW news kp nL nc ns RC RS rT rF i len s with
    | some l => l.all (fun t => ty_chk KT fT pT cT kT lT nT aT mods PS SW news kp nL nc ns RC RS rT rF prog stops known cur f t)
    | none => false
  | none => false
/-- the state at a head, its counter the ghost -/
def ty_hs (h : ty_Hd) : ty_S := match h with
  | (pc, L, c, _, n, k) => (pc, ty_at L c (fun t => (6, t.2.1, t.2.2)), [], n, k)
end STEP
/-- all heads, the last first -/
def ty_heads (chk1 : List ty_Hd → Option ty_Hd → ty_S → Bool) : List ty_Hd → Bool
  | [] => true
  | h :: r => ty_heads chk1 r && chk1 r (some h) (ty_hs h) && h.2.1.all (fun q => ty_plain q.2 && (q.1 != h.2.2.1 || q.2.1 == 0)) && (match ty_get h.2.1 h.2.2.1 with
    | some t => t.1 == 0
    | none => false)
