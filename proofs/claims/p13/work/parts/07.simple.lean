/-! THE CHECK: states of types. An entry of the stack has a type and a remark: 1 it is local i; 2 if it isn't 0 local i lies in [lo, hi]; 3 the same, and local i is a page; 4 if it isn't -1 local i is a page. -/
abbrev ty_I : Type := Nat × Nat × Int × Int
abbrev ty_E : Type := ty_T × ty_I
abbrev ty_L : Type := List (Nat × ty_T)
abbrev ty_i0 : ty_I := (0, 0, 0, 0)
def ty_inf (pg : Int32 → Prop) (ls : Array Slot) (v : Value) (i : ty_I) : Prop := match i.1 with
  | 1 => ls[i.2.1]? = some (.val v)
  | 2 => ∃ b z : Int32, v = .int b ∧ ls[i.2.1]? = some (.val (.int z)) ∧ (b ≠ 0 → i.2.2.1 ≤ z.toInt ∧ z.toInt ≤ i.2.2.2)
  | 3 => ∃ b z : Int32, v = .int b ∧ ls[i.2.1]? = some (.val (.int z)) ∧ (b ≠ 0 → i.2.2.1 ≤ z.toInt ∧ z.toInt ≤ i.2.2.2 ∧ pg z)
  | 4 => ∃ b z : Int32, v = .int b ∧ ls[i.2.1]? = some (.val (.int z)) ∧ (b ≠ -1 → pg z)
  | _ => True
def ty_ent (σ : ty_K) (g : Int) (pg : Int32 → Prop) (ls : Array Slot) (v : Value) (e : ty_E) : Prop := ty_has σ g pg v e.1 ∧ ty_inf pg ls v e.2
def ty_stk (σ : ty_K) (g : Int) (pg : Int32 → Prop) (ls : Array Slot) : List Value → List ty_E → Prop
  | [], [] => True
  | v :: vs, e :: es => ty_ent σ g pg ls v e ∧ ty_stk σ g pg ls vs es
  | _, _ => False
def ty_loc (σ : ty_K) (g : Int) (pg : Int32 → Prop) (ls : Array Slot) (L : ty_L) : Prop := ∀ q ∈ L, ∃ v, ls[q.1]? = some (.val v) ∧ ty_has σ g pg v q.2
theorem ty_stk_c {σ : ty_K} {g : Int} {pg : Int32 → Prop} {ls : Array Slot} {st : List Value} {e : ty_E} {es : List ty_E} (h : ty_stk σ g pg ls st (e :: es)) : ∃ v vs, st = v :: vs ∧ ty_ent σ g pg ls v e ∧ ty_stk σ g pg ls vs es := by
  cases st with
  | nil => exact h.elim
  | cons v vs => exact ⟨v, vs, rfl, h.1, h.2⟩
theorem ty_stk_n {σ : ty_K} {g : Int} {pg : Int32 → Prop} {ls : Array Slot} {st : List Value} (h : ty_stk σ g pg ls st []) : st = [] := by
  cases st with
  | nil => rfl
  | cons v vs => exact h.elim
def ty_get (L : ty_L) (j : Nat) : Option ty_T := (L.find? (fun q => q.1 == j)).map (·.2)
theorem ty_get_ok {σ : ty_K} {g : Int} {pg : Int32 → Prop} {ls : Array Slot} {L : ty_L} {j : Nat} {t : ty_T} (hl : ty_loc σ g pg ls L) (h : ty_get L j = some t) : ∃ v, ls[j]? = some (.val v) ∧ ty_has σ g pg v t := by
  unfold ty_get at h
  obtain ⟨q, h1, h2⟩ := Option.map_eq_some_iff.mp h
  have h3 := List.mem_of_find?_eq_some h1
  have h4 := List.find?_some h1
  simp only [beq_iff_eq] at h4
  obtain ⟨v, h5, h6⟩ := hl q h3
  subst h4; subst h2
  exact ⟨v, h5, h6⟩
/-! ranges of results -/
abbrev ty_f : ty_T := (0, -2147483648, 2147483647)
def fa_add (a b : Int × Int) : ty_T := ty_iv (a.1 + b.1) (a.2 + b.2)
def fa_sub (a b : Int × Int) : ty_T := ty_iv (a.1 - b.2) (a.2 - b.1)
def fa_mul (a b : Int × Int) : ty_T := if 0 ≤ a.1 ∧ 0 ≤ b.1 then ty_iv (a.1 * b.1) (a.2 * b.2) else ty_f
def fa_and (a b : Int × Int) : ty_T := if 0 ≤ a.1 ∧ a.2 ≤ 0 then (0, 0, 0) else if 0 ≤ b.1 then (0, 0, b.2) else if 0 ≤ a.1 then (0, 0, a.2) else ty_f
def fa_xor (a b : Int × Int) : ty_T := if 0 ≤ a.1 ∧ 0 ≤ b.1 ∧ a.2 ≤ 255 ∧ b.2 ≤ 255 then (0, 0, 255) else ty_f
def fa_any (_ _ : Int × Int) : ty_T := ty_f
/-- a shift by 24 of a number below 2^24 -/
def fa_shr (a b : Int × Int) : ty_T := if 0 ≤ a.1 ∧ a.2 < 16777216 ∧ b.1 = 24 ∧ b.2 = 24 then (0, 0, 0) else ty_f
def fa_rem (a b : Int × Int) : Option ty_T := if b.1 = b.2 ∧ 0 < b.1 then some (if 0 ≤ a.1 then (0, 0, b.1 - 1) else (0, -(b.1 - 1), b.1 - 1)) else none
theorem fa_add_ok {σ : ty_K} {g : Int} {pg : Int32 → Prop} {x y : Int32} {a b : Int × Int} (h1 : a.1 ≤ x.toInt) (h2 : x.toInt ≤ a.2) (h3 : b.1 ≤ y.toInt) (h4 : y.toInt ≤ b.2) : ty_has σ g pg (.int (x + y)) (fa_add a b) := by
  refine ty_iv_ok fun q1 q2 => ?_
  rw [Int32.toInt_add, ty_bm (by omega) (by omega)]
  omega
theorem fa_sub_ok {σ : ty_K} {g : Int} {pg : Int32 → Prop} {x y : Int32} {a b : Int × Int} (h1 : a.1 ≤ x.toInt) (h2 : x.toInt ≤ a.2) (h3 : b.1 ≤ y.toInt) (h4 : y.toInt ≤ b.2) : ty_has σ g pg (.int (x - y)) (fa_sub a b) := by
  refine ty_iv_ok fun q1 q2 => ?_
  rw [Int32.toInt_sub, ty_bm (by omega) (by omega)]
  omega
theorem fa_mul_ok {σ : ty_K} {g : Int} {pg : Int32 → Prop} {x y : Int32} {a b : Int × Int} (h1 : a.1 ≤ x.toInt) (h2 : x.toInt ≤ a.2) (h3 : b.1 ≤ y.toInt) (h4 : y.toInt ≤ b.2) : ty_has σ g pg (.int (x * y)) (fa_mul a b) := by
  unfold fa_mul
  split
  · rename_i q
    refine ty_iv_ok fun q1 q2 => ?_
    have m1 : a.1 * b.1 ≤ x.toInt * y.toInt := Int.mul_le_mul h1 h3 q.2 (Int.le_trans q.1 h1)
    have m2 : x.toInt * y.toInt ≤ a.2 * b.2 := Int.mul_le_mul h2 h4 (Int.le_trans q.2 h3) (Int.le_trans q.1 (Int.le_trans h1 h2))
    rw [Int32.toInt_mul, ty_bm (by omega) (by omega)]
    exact ⟨m1, m2⟩
  · exact ty_any _
theorem ty_nn {x : Int32} (h : 0 ≤ x.toInt) : x.toInt = (x.toBitVec.toNat : Int) ∧ x.toBitVec.toNat < 2147483648 := by
  have e : x.toInt = x.toBitVec.toInt := rfl
  rw [e] at h ⊢
  rw [BitVec.toInt_eq_toNat_cond] at h ⊢
  have := x.toBitVec.isLt
  split at h <;> split <;> omega
theorem ty_nb {b : BitVec 32} (h : b.toNat < 2147483648) : b.toInt = (b.toNat : Int) := by
  rw [BitVec.toInt_eq_toNat_cond]
  split <;> omega
theorem ty_and_r {x y : Int32} (h : 0 ≤ y.toInt) : 0 ≤ (x &&& y).toInt ∧ (x &&& y).toInt ≤ y.toInt := by
  obtain ⟨e1, e2⟩ := ty_nn h
  have e3 : (x &&& y).toBitVec.toNat ≤ y.toBitVec.toNat := by
    rw [Int32.toBitVec_and, BitVec.toNat_and]
    exact Nat.and_le_right
  have e4 : (x &&& y).toInt = ((x &&& y).toBitVec.toNat : Int) := ty_nb (by omega)
  omega
theorem ty_and_l {x y : Int32} (h : 0 ≤ x.toInt) : 0 ≤ (x &&& y).toInt ∧ (x &&& y).toInt ≤ x.toInt := by
  obtain ⟨e1, e2⟩ := ty_nn h
  have e3 : (x &&& y).toBitVec.toNat ≤ x.toBitVec.toNat := by
    rw [Int32.toBitVec_and, BitVec.toNat_and]
    exact Nat.and_le_left
  have e4 : (x &&& y).toInt = ((x &&& y).toBitVec.toNat : Int) := ty_nb (by omega)
  omega
theorem ty_xor_r {x y : Int32} (h1 : 0 ≤ x.toInt) (h2 : 0 ≤ y.toInt) (h3 : x.toInt ≤ 255) (h4 : y.toInt ≤ 255) : 0 ≤ (x ^^^ y).toInt ∧ (x ^^^ y).toInt ≤ 255 := by
  obtain ⟨e1, e2⟩ := ty_nn h1
  obtain ⟨e3, e4⟩ := ty_nn h2
  have e5 : (x ^^^ y).toBitVec.toNat < 2 ^ 8 := by
    rw [Int32.toBitVec_xor, BitVec.toNat_xor]
    exact Nat.xor_lt_two_pow (by omega) (by omega)
  have e6 : (x ^^^ y).toInt = ((x ^^^ y).toBitVec.toNat : Int) := ty_nb (by omega)
  omega
theorem fa_and_ok {σ : ty_K} {g : Int} {pg : Int32 → Prop} {x y : Int32} {a b : Int × Int} (h1 : a.1 ≤ x.toInt) (h2 : x.toInt ≤ a.2) (h3 : b.1 ≤ y.toInt) (h4 : y.toInt ≤ b.2) : ty_has σ g pg (.int (x &&& y)) (fa_and a b) := by
  unfold fa_and
  split
  · obtain ⟨q1, q2⟩ := ty_and_l (x := x) (y := y) (by omega)
    exact ⟨_, rfl, q1, by show _ ≤ (0 : Int); omega⟩
  split
  · obtain ⟨q1, q2⟩ := ty_and_r (x := x) (y := y) (by omega)
    exact ⟨_, rfl, q1, by show _ ≤ b.2; omega⟩
  · split
    · obtain ⟨q1, q2⟩ := ty_and_l (x := x) (y := y) (by omega)
      exact ⟨_, rfl, q1, by show _ ≤ a.2; omega⟩
    · exact ty_any _
theorem fa_shr_ok {σ : ty_K} {g : Int} {pg : Int32 → Prop} {x y : Int32} {a b : Int × Int} (h1 : a.1 ≤ x.toInt) (h2 : x.toInt ≤ a.2) (h3 : b.1 ≤ y.toInt) (h4 : y.toInt ≤ b.2) : ty_has σ g pg (.int (x >>> (y &&& 31))) (fa_shr a b) := by
  unfold fa_shr
  split
  · rename_i h
    have ey : y = 24 := Int32.toInt_inj.mp (by rw [show (24 : Int32).toInt = 24 from rfl]; omega)
    subst ey
    have e1 : (24 : Int32) &&& 31 = 24 := by decide
    rw [e1]
    have e2 : (x >>> (24 : Int32)).toInt = x.toInt / 16777216 := by
      rw [← Int32.toInt_toBitVec, Int32.toBitVec_shiftRight]
      have e3 : ((24 : Int32).toBitVec.smod 32) = 24#32 := by decide
      rw [e3, BitVec.sshiftRight_eq', BitVec.toInt_sshiftRight, Int32.toInt_toBitVec, Int.shiftRight_eq_div_pow]
      rfl
    have e4 : x.toInt / 16777216 = 0 := Int.ediv_eq_zero_of_lt (by omega) (by omega)
    exact ⟨_, rfl, by rw [e2, e4]; exact Int.le_refl _, by rw [e2, e4]; exact Int.le_refl _⟩
  · exact ty_any _
theorem fa_xor_ok {σ : ty_K} {g : Int} {pg : Int32 → Prop} {x y : Int32} {a b : Int × Int} (h1 : a.1 ≤ x.toInt) (h2 : x.toInt ≤ a.2) (h3 : b.1 ≤ y.toInt) (h4 : y.toInt ≤ b.2) : ty_has σ g pg (.int (x ^^^ y)) (fa_xor a b) := by
  unfold fa_xor
  split
  · rename_i q
    obtain ⟨q1, q2⟩ := ty_xor_r (x := x) (y := y) (by omega) (by omega) (by omega) (by omega)
    exact ⟨_, rfl, q1, q2⟩
  · exact ty_any _
theorem fa_rem_ok {σ : ty_K} {g : Int} {pg : Int32 → Prop} {x y : Int32} {a b : Int × Int} {t : ty_T} (h : fa_rem a b = some t) (h1 : a.1 ≤ x.toInt) (h2 : x.toInt ≤ a.2) (h3 : b.1 ≤ y.toInt) (h4 : y.toInt ≤ b.2) : ¬ y = 0 ∧ ty_has σ g pg (.int (x - x / y * y)) t := by
  unfold fa_rem at h
  split at h
  · rename_i q
    cases h
    have hy : y.toInt = b.1 := by omega
    refine ⟨fun e => by rw [e] at hy; have z : (0 : Int32).toInt = 0 := rfl; omega, ?_⟩
    have e := rem_toInt x y
    have t1 := tmod_bounds (a := x.toInt) (M := y.toInt) (by omega)
    split
    · refine ⟨_, rfl, ?_, ?_⟩
      · rw [e]; exact Int.tmod_nonneg _ (by omega)
      · show _ ≤ b.1 - 1
        rw [e]; omega
    · refine ⟨_, rfl, ?_, ?_⟩
      · show -(b.1 - 1) ≤ _
        rw [e]; omega
      · show _ ≤ b.1 - 1
        rw [e]; omega
  · cases h
/-! the simple instructions -/
def sa_ii (F : Int × Int → Int × Int → ty_T) (st : List ty_E) : Option (List ty_E) := match st with
  | b :: a :: r => match ty_rng a.1, ty_rng b.1 with
    | some ra, some rb => some ((F ra rb, ty_i0) :: r)
    | _, _ => none
  | _ => none
def sa_rm (st : List ty_E) : Option (List ty_E) := match st with
  | b :: a :: r => match ty_rng a.1, ty_rng b.1 with
    | some ra, some rb => (fa_rem ra rb).map (fun t => (t, ty_i0) :: r)
    | _, _ => none
  | _ => none
def sa_ll (t : ty_T) (st : List ty_E) : Option (List ty_E) := match st with
  | b :: a :: r => if a.1.1 = 1 ∧ b.1.1 = 1 then some ((t, ty_i0) :: r) else none
  | _ => none
def sa_li (st : List ty_E) : Option (List ty_E) := match st with
  | b :: a :: r => if a.1.1 = 1 ∧ (ty_rng b.1).isSome then some (((1, 0, 0), ty_i0) :: r) else none
  | _ => none
def sa_i (t : ty_T) (st : List ty_E) : Option (List ty_E) := match st with
  | a :: r => if (ty_rng a.1).isSome then some ((t, ty_i0) :: r) else none
  | _ => none
def sa_l (t : ty_T) (st : List ty_E) : Option (List ty_E) := match st with
  | a :: r => if a.1.1 = 1 then some ((t, ty_i0) :: r) else none
  | _ => none
def sa_ldi (L : ty_L) (j : Nat) (st : List ty_E) : Option (List ty_E) := match ty_get L j with
  | some t => if (ty_rng t).isSome then some ((t, (1, j, 0, 0)) :: st) else none
  | none => none
def sa_ldl (L : ty_L) (j : Nat) (st : List ty_E) : Option (List ty_E) := match ty_get L j with
  | some t => if t.1 = 1 then some ((t, (1, j, 0, 0)) :: st) else none
  | none => none
def sa_lda (L : ty_L) (j : Nat) (st : List ty_E) : Option (List ty_E) := match ty_get L j with
  | some t => if t.1 = 2 then some ((t, (1, j, 0, 0)) :: st) else none
  | none => none
def sa_d1 (st : List ty_E) : Option (List ty_E) := match st with
  | v :: r => if ty_c1 v.1 = true then some (v :: v :: r) else none
  | _ => none
def sa_d2 (st : List ty_E) : Option (List ty_E) := match st with
  | v :: r => if v.1.1 = 1 then some (v :: v :: r) else match r with
    | w :: r => if ty_c1 v.1 = true ∧ ty_c1 w.1 = true then some (v :: w :: v :: w :: r) else none
    | _ => none
  | _ => none
def sa_x1 (st : List ty_E) : Option (List ty_E) := match st with
  | v :: w :: r => if ty_c1 v.1 = true ∧ ty_c1 w.1 = true then some (v :: w :: v :: r) else none
  | _ => none
def sa_x2 (st : List ty_E) : Option (List ty_E) := match st with
  | v :: w :: z :: r => if ty_c1 v.1 = true ∧ ty_c1 w.1 = true ∧ ty_c1 z.1 = true then some (v :: w :: z :: v :: r) else none
  | _ => none
def sa_p1 (st : List ty_E) : Option (List ty_E) := match st with
  | v :: r => if ty_c1 v.1 = true then some r else none
  | _ => none
def sa_p2 (st : List ty_E) : Option (List ty_E) := match st with
  | v :: r => if v.1.1 = 1 then some r else none
  | _ => none
def sa (i : Instr) (L : ty_L) (st : List ty_E) : Option (List ty_E × Nat) := match i with
  | .iconst z => if -128 ≤ z ∧ z ≤ 127 then some (((0, z, z), ty_i0) :: st, 1) else none
  | .bipush z => if -128 ≤ z ∧ z ≤ 127 then some (((0, z, z), ty_i0) :: st, 2) else none
  | .sipush z => if -32768 ≤ z ∧ z ≤ 32767 then some (((0, z, z), ty_i0) :: st, 3) else none
  | .lconst _ => some (((1, 0, 0), ty_i0) :: st, 1)
  | .iload j => (sa_ldi L j st).map (·, 2)
  | .iload_n j => (sa_ldi L j st).map (·, 1)
  | .lload j => (sa_ldl L j st).map (·, 2)
  | .lload_n j => (sa_ldl L j st).map (·, 1)
  | .aload j => (sa_lda L j st).map (·, 2)
  | .aload_n j => (sa_lda L j st).map (·, 1)
  | .iadd => (sa_ii fa_add st).map (·, 1)
  | .isub => (sa_ii fa_sub st).map (·, 1)
  | .imul => (sa_ii fa_mul st).map (·, 1)
  | .iand => (sa_ii fa_and st).map (·, 1)
  | .ior => (sa_ii fa_any st).map (·, 1)
  | .ixor => (sa_ii fa_xor st).map (·, 1)
  | .ishl => (sa_ii fa_any st).map (·, 1)
  | .ishr => (sa_ii fa_shr st).map (·, 1)
  | .iushr => (sa_ii fa_any st).map (·, 1)
  | .irem => (sa_rm st).map (·, 1)
  | .ineg => (sa_i ty_f st).map (·, 1)
  | .ladd => (sa_ll (1, 0, 0) st).map (·, 1)
  | .lsub => (sa_ll (1, 0, 0) st).map (·, 1)
  | .land => (sa_ll (1, 0, 0) st).map (·, 1)
  | .lor => (sa_ll (1, 0, 0) st).map (·, 1)
  | .lxor => (sa_ll (1, 0, 0) st).map (·, 1)
  | .lshl => (sa_li st).map (·, 1)
  | .lshr => (sa_li st).map (·, 1)
  | .lushr => (sa_li st).map (·, 1)
  | .lcmp => (sa_ll (0, -1, 1) st).map (·, 1)
  | .i2l => (sa_i (1, 0, 0) st).map (·, 1)
  | .l2i => (sa_l ty_f st).map (·, 1)
  | .i2b => (sa_i (0, -128, 127) st).map (·, 1)
  | .dup => (sa_d1 st).map (·, 1)
  | .dup2 => (sa_d2 st).map (·, 1)
  | .dup_x1 => (sa_x1 st).map (·, 1)
  | .dup_x2 => (sa_x2 st).map (·, 1)
  | .pop => (sa_p1 st).map (·, 1)
  | .pop2 => (sa_p2 st).map (·, 1)
  | _ => none
