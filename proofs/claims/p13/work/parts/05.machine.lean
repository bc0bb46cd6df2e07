/-! THE MACHINE over a small heap: gG x cl pc ls st M n k: from the frame at pc with locals ls and operand stack st, the heap holding M, n cells and k slots spent, the run comes to its end. x: all that stays the same in a body. -/
abbrev gx_T : Type := Program × Launch × Env × Room × State × MethodId × Array Value × List Frame × Method × Code × (State → Prop) × va_G × (Nat → Prop) × Heap
abbrev gx_R (x : gx_T) : Room := x.2.2.2.1
def gG (x : gx_T) (cl : List vw_C) (pc : Nat) (ls : Array Slot) (st : List Value) (M : mh_M) (n k : Nat) : Prop := match x with
  | (p, l, e, R, s, m, args, below, meth, c, Q, D, A, H0) => ∀ (H : Heap) (locs : List Loc), mh cl D A H0 H locs M → W p l e R s m args below meth c H locs n k Q (F0 m pc ls st)
/-- what a body has at hand -/
abbrev gC (x : gx_T) (cl : List vw_C) (cc : ByteArray) (nL : Nat) (tys : List (ClassId × FieldType)) (Ts : List Cond) (own : String) : Prop := match x with
  | (p, _, _, _, s, m, args, _, _, c, _, D, A, H0) => (p.tables.exec = Jvm.exec ∧ c.code = cc ∧ c.maxLocals = nL ∧ s.vm.findClass own = some m.cls ∧ ∀ w ∈ Ts, w.before args s = true) ∧ kX cl D tys A H0 s
/-! instructions that touch operand stack and locals' values alone, as a function -/
def sp_ii (f : Int32 → Int32 → Int32) (st : List Value) : Option (List Value) := match st with
  | .int y :: .int x :: r => some (.int (f x y) :: r)
  | _ => none
def sp_ll (f : Int64 → Int64 → Int64) (st : List Value) : Option (List Value) := match st with
  | .long y :: .long x :: r => some (.long (f x y) :: r)
  | _ => none
def sp_li (f : Int64 → Int32 → Int64) (st : List Value) : Option (List Value) := match st with
  | .int y :: .long x :: r => some (.long (f x y) :: r)
  | _ => none
def sp_i (f : Int32 → Value) (st : List Value) : Option (List Value) := match st with
  | .int x :: r => some (f x :: r)
  | _ => none
def sp_l (f : Int64 → Value) (st : List Value) : Option (List Value) := match st with
  | .long x :: r => some (f x :: r)
  | _ => none
def sp_cm (st : List Value) : Option (List Value) := match st with
  | .long y :: .long x :: r => some (.int (lg_cmp x y) :: r)
  | _ => none
def sp_rm (st : List Value) : Option (List Value) := match st with
  | .int y :: .int x :: r => if y = 0 then none else some (.int (x - x / y * y) :: r)
  | _ => none
def sp_ldi (ls : Array Slot) (j : Nat) (st : List Value) : Option (List Value) := match ls[j]? with
  | some (.val (.int x)) => some (.int x :: st)
  | _ => none
def sp_ldl (ls : Array Slot) (j : Nat) (st : List Value) : Option (List Value) := match ls[j]? with
  | some (.val (.long x)) => some (.long x :: st)
  | _ => none
def sp_lda (ls : Array Slot) (j : Nat) (st : List Value) : Option (List Value) := match ls[j]? with
  | some (.val (.ref x)) => some (.ref x :: st)
  | _ => none
def sp_d1 (st : List Value) : Option (List Value) := match st with
  | v :: r => if v.category = 1 then some (v :: v :: r) else none
  | _ => none
def sp_d2 (st : List Value) : Option (List Value) := match st with
  | v :: r => if v.category = 2 then some (v :: v :: r) else match r with
    | w :: r => if v.category = 1 ∧ w.category = 1 then some (v :: w :: v :: w :: r) else none
    | _ => none
  | _ => none
def sp_x1 (st : List Value) : Option (List Value) := match st with
  | v :: w :: r => if v.category = 1 ∧ w.category = 1 then some (v :: w :: v :: r) else none
  | _ => none
def sp_x2 (st : List Value) : Option (List Value) := match st with
  | v :: w :: z :: r => if v.category = 1 ∧ w.category = 1 ∧ z.category = 1 then some (v :: w :: z :: v :: r) else none
  | _ => none
def sp_p1 (st : List Value) : Option (List Value) := match st with
  | v :: r => if v.category = 1 then some r else none
  | _ => none
def sp_p2 (st : List Value) : Option (List Value) := match st with
  | v :: r => if v.category = 2 then some r else none
  | _ => none
/-- the stack behind a simple instruction, its length -/
def sp (i : Instr) (ls : Array Slot) (st : List Value) : Option (List Value × Nat) := match i with
  | .iconst z => some (.int (Int32.ofInt z) :: st, 1)
  | .bipush z => some (.int (Int8.ofInt z).toInt32 :: st, 2)
  | .sipush z => some (.int (Int16.ofInt z).toInt32 :: st, 3)
  | .lconst z => some (.long (Int64.ofNat z) :: st, 1)
  | .iload j => (sp_ldi ls j st).map (·, 2)
  | .iload_n j => (sp_ldi ls j st).map (·, 1)
  | .lload j => (sp_ldl ls j st).map (·, 2)
  | .lload_n j => (sp_ldl ls j st).map (·, 1)
  | .aload j => (sp_lda ls j st).map (·, 2)
  | .aload_n j => (sp_lda ls j st).map (·, 1)
  | .iadd => (sp_ii (fun x y => x + y) st).map (·, 1)
  | .isub => (sp_ii (fun x y => x - y) st).map (·, 1)
  | .imul => (sp_ii (fun x y => x * y) st).map (·, 1)
  | .iand => (sp_ii (fun x y => x &&& y) st).map (·, 1)
  | .ior => (sp_ii (fun x y => x ||| y) st).map (·, 1)
  | .ixor => (sp_ii (fun x y => x ^^^ y) st).map (·, 1)
  | .ishl => (sp_ii (fun x y => x <<< (y &&& 31)) st).map (·, 1)
  | .ishr => (sp_ii (fun x y => x >>> (y &&& 31)) st).map (·, 1)
  | .iushr => (sp_ii (fun x y => (x.toUInt32 >>> (y.toUInt32 &&& Int32.toUInt32 31)).toInt32) st).map (·, 1)
  | .irem => (sp_rm st).map (·, 1)
  | .ineg => (sp_i (fun x => .int (-x)) st).map (·, 1)
  | .ladd => (sp_ll (fun x y => x + y) st).map (·, 1)
  | .lsub => (sp_ll (fun x y => x - y) st).map (·, 1)
  | .land => (sp_ll (fun x y => x &&& y) st).map (·, 1)
  | .lor => (sp_ll (fun x y => x ||| y) st).map (·, 1)
  | .lxor => (sp_ll (fun x y => x ^^^ y) st).map (·, 1)
  | .lshl => (sp_li (fun x y => x <<< (y.toInt64 &&& 63)) st).map (·, 1)
  | .lshr => (sp_li (fun x y => x >>> (y.toInt64 &&& 63)) st).map (·, 1)
  | .lushr => (sp_li (fun x y => (x.toUInt64 >>> (y.toInt64.toUInt64 &&& Int64.toUInt64 63)).toInt64) st).map (·, 1)
  | .lcmp => (sp_cm st).map (·, 1)
  | .i2l => (sp_i (fun x => .long x.toInt64) st).map (·, 1)
  | .l2i => (sp_l (fun x => .int x.toInt32) st).map (·, 1)
  | .i2b => (sp_i (fun x => .int x.toInt8.toInt32) st).map (·, 1)
  | .dup => (sp_d1 st).map (·, 1)
  | .dup2 => (sp_d2 st).map (·, 1)
  | .dup_x1 => (sp_x1 st).map (·, 1)
  | .dup_x2 => (sp_x2 st).map (·, 1)
  | .pop => (sp_p1 st).map (·, 1)
  | .pop2 => (sp_p2 st).map (·, 1)
  | _ => none
theorem sp_ii_e {f : Int32 → Int32 → Int32} {st r : List Value} (h : sp_ii f st = some r) : ∃ x y q, st = .int y :: .int x :: q ∧ r = .int (f x y) :: q := by
  unfold sp_ii at h
  split at h
  · cases h; exact ⟨_, _, _, rfl, rfl⟩
  · cases h
theorem sp_ll_e {f : Int64 → Int64 → Int64} {st r : List Value} (h : sp_ll f st = some r) : ∃ x y q, st = .long y :: .long x :: q ∧ r = .long (f x y) :: q := by
  unfold sp_ll at h
  split at h
  · cases h; exact ⟨_, _, _, rfl, rfl⟩
  · cases h
theorem sp_li_e {f : Int64 → Int32 → Int64} {st r : List Value} (h : sp_li f st = some r) : ∃ x y q, st = .int y :: .long x :: q ∧ r = .long (f x y) :: q := by
  unfold sp_li at h
  split at h
  · cases h; exact ⟨_, _, _, rfl, rfl⟩
  · cases h
theorem sp_i_e {f : Int32 → Value} {st r : List Value} (h : sp_i f st = some r) : ∃ x q, st = .int x :: q ∧ r = f x :: q := by
  unfold sp_i at h
  split at h
  · cases h; exact ⟨_, _, rfl, rfl⟩
  · cases h
theorem sp_l_e {f : Int64 → Value} {st r : List Value} (h : sp_l f st = some r) : ∃ x q, st = .long x :: q ∧ r = f x :: q := by
  unfold sp_l at h
  split at h
  · cases h; exact ⟨_, _, rfl, rfl⟩
  · cases h
theorem sp_cm_e {st r : List Value} (h : sp_cm st = some r) : ∃ x y q, st = .long y :: .long x :: q ∧ r = .int (lg_cmp x y) :: q := by
  unfold sp_cm at h
  split at h
  · cases h; exact ⟨_, _, _, rfl, rfl⟩
  · cases h
theorem sp_rm_e {st r : List Value} (h : sp_rm st = some r) : ∃ x y q, st = .int y :: .int x :: q ∧ ¬ y = 0 ∧ r = .int (x - x / y * y) :: q := by
  unfold sp_rm at h
  split at h
  · split at h
    · cases h
    · rename_i q; cases h; exact ⟨_, _, _, rfl, q, rfl⟩
  · cases h
theorem sp_ldi_e {ls : Array Slot} {j : Nat} {st r : List Value} (h : sp_ldi ls j st = some r) : ∃ x, ls[j]? = some (.val (.int x)) ∧ r = .int x :: st := by
  unfold sp_ldi at h
  split at h
  · rename_i q; cases h; exact ⟨_, q, rfl⟩
  · cases h
theorem sp_ldl_e {ls : Array Slot} {j : Nat} {st r : List Value} (h : sp_ldl ls j st = some r) : ∃ x, ls[j]? = some (.val (.long x)) ∧ r = .long x :: st := by
  unfold sp_ldl at h
  split at h
  · rename_i q; cases h; exact ⟨_, q, rfl⟩
  · cases h
theorem sp_lda_e {ls : Array Slot} {j : Nat} {st r : List Value} (h : sp_lda ls j st = some r) : ∃ x, ls[j]? = some (.val (.ref x)) ∧ r = .ref x :: st := by
  unfold sp_lda at h
  split at h
  · rename_i q; cases h; exact ⟨_, q, rfl⟩
  · cases h
section GG
variable {x : gx_T} {cl : List vw_C} {cc : ByteArray} {nL : Nat} {tys : List (ClassId × FieldType)} {Ts : List Cond} {own : String} {pc : Nat} {ls : Array Slot} {st : List Value} {M : mh_M} {n k : Nat}
theorem gG_sp (hx : gC x cl cc nL tys Ts own) {i : Instr} {len : Nat} {r : List Value} (hd : decode cc pc = .ok (i, len)) (h : sp i ls st = some (r, len)) (kk : gG x cl (pc + len) ls r M n k) : gG x cl pc ls st M n k := by
  obtain ⟨p, l, e, R, s, m, args, below, meth, c, Q, D, A, H0⟩ := x
  obtain ⟨⟨he, hb, -⟩, -⟩ := hx
  intro H locs hm
  have kk := kk H locs hm
  unfold sp at h
  split at h
  · cases h; exact lv_iconst he hb hd rfl kk
  · cases h; exact lv_bipush he hb hd rfl kk
  · cases h; exact lv_sipush he hb hd rfl kk
  · cases h; exact lv_lconst he hb hd rfl kk
  all_goals first | (cases h; done) | (obtain ⟨q, h1, h2⟩ := Option.map_eq_some_iff.mp h; cases h2)
  · obtain ⟨z, e1, rfl⟩ := sp_ldi_e h1; exact lv_iload he hb hd e1 kk
  · obtain ⟨z, e1, rfl⟩ := sp_ldi_e h1; exact lv_iload_n he hb hd rfl e1 kk
  · obtain ⟨z, e1, rfl⟩ := sp_ldl_e h1; exact lv_lload he hb hd e1 kk
  · obtain ⟨z, e1, rfl⟩ := sp_ldl_e h1; exact lv_lload_n he hb hd rfl e1 kk
  · obtain ⟨z, e1, rfl⟩ := sp_lda_e h1; exact lv_aload he hb hd e1 kk
  · obtain ⟨z, e1, rfl⟩ := sp_lda_e h1; exact lv_aload_n he hb hd rfl e1 kk
  · obtain ⟨a, b, q, rfl, rfl⟩ := sp_ii_e h1; exact lv_iadd he hb hd kk
  · obtain ⟨a, b, q, rfl, rfl⟩ := sp_ii_e h1; exact lv_isub he hb hd kk
  · obtain ⟨a, b, q, rfl, rfl⟩ := sp_ii_e h1; exact lv_imul he hb hd kk
  · obtain ⟨a, b, q, rfl, rfl⟩ := sp_ii_e h1; exact lv_iand he hb hd kk
  · obtain ⟨a, b, q, rfl, rfl⟩ := sp_ii_e h1; exact lv_ior he hb hd kk
  · obtain ⟨a, b, q, rfl, rfl⟩ := sp_ii_e h1; exact lv_ixor he hb hd kk
  · obtain ⟨a, b, q, rfl, rfl⟩ := sp_ii_e h1; exact lv_ishl he hb hd kk
  · obtain ⟨a, b, q, rfl, rfl⟩ := sp_ii_e h1; exact lv_ishr he hb hd kk
  · obtain ⟨a, b, q, rfl, rfl⟩ := sp_ii_e h1; exact lv_iushr he hb hd rfl kk
  · obtain ⟨a, b, q, rfl, hne, rfl⟩ := sp_rm_e h1; exact lv_irem he hb hd hne kk
  · obtain ⟨a, q, rfl, rfl⟩ := sp_i_e h1; exact lv_ineg he hb hd kk
  · obtain ⟨a, b, q, rfl, rfl⟩ := sp_ll_e h1; exact lv_ladd he hb hd kk
  · obtain ⟨a, b, q, rfl, rfl⟩ := sp_ll_e h1; exact lv_lsub he hb hd kk
  · obtain ⟨a, b, q, rfl, rfl⟩ := sp_ll_e h1; exact lv_land he hb hd kk
  · obtain ⟨a, b, q, rfl, rfl⟩ := sp_ll_e h1; exact lv_lor he hb hd kk
  · obtain ⟨a, b, q, rfl, rfl⟩ := sp_ll_e h1; exact lv_lxor he hb hd kk
  · obtain ⟨a, b, q, rfl, rfl⟩ := sp_li_e h1; exact lv_lshl he hb hd rfl kk
  · obtain ⟨a, b, q, rfl, rfl⟩ := sp_li_e h1; exact lv_lshr he hb hd rfl kk
  · obtain ⟨a, b, q, rfl, rfl⟩ := sp_li_e h1; exact lv_lushr he hb hd rfl kk
  · obtain ⟨a, b, q, rfl, rfl⟩ := sp_cm_e h1; exact W.lcmp he hb hd kk
  · obtain ⟨a, q, rfl, rfl⟩ := sp_i_e h1; exact lv_i2l he hb hd rfl kk
  · obtain ⟨a, q, rfl, rfl⟩ := sp_l_e h1; exact lv_l2i he hb hd rfl kk
  · obtain ⟨a, q, rfl, rfl⟩ := sp_i_e h1; exact lv_i2b he hb hd rfl kk
  · unfold sp_d1 at h1
    split at h1
    · split at h1
      · rename_i hc; cases h1; exact lv_dup he hb hd hc kk
      · cases h1
    · cases h1
  · unfold sp_d2 at h1
    split at h1
    · split at h1
      · rename_i hc; cases h1; exact lv_dup2_2 he hb hd hc kk
      · split at h1
        · split at h1
          · rename_i hc; cases h1; exact lv_dup2_11 he hb hd hc.1 hc.2 kk
          · cases h1
        · cases h1
    · cases h1
  · unfold sp_x1 at h1
    split at h1
    · split at h1
      · rename_i hc; cases h1; exact lv_dup_x1 he hb hd hc.1 hc.2 kk
      · cases h1
    · cases h1
  · unfold sp_x2 at h1
    split at h1
    · split at h1
      · rename_i hc; cases h1; exact lv_dup_x2 he hb hd hc.1 hc.2.1 hc.2.2 kk
      · cases h1
    · cases h1
  · unfold sp_p1 at h1
    split at h1
    · split at h1
      · rename_i hc; cases h1; exact lv_pop he hb hd hc kk
      · cases h1
    · cases h1
  · unfold sp_p2 at h1
    split at h1
    · split at h1
      · rename_i hc; cases h1; exact lv_pop2_2 he hb hd hc kk
      · cases h1
    · cases h1
/-! control -/
def ty_hI (c : ClassFile.Cond) (a b : Int) : Prop := match c with
  | .eq => a = b
  | .ne => a ≠ b
  | .lt => a < b
  | .ge => b ≤ a
  | .gt => b < a
  | .le => a ≤ b
theorem gG_if (hx : gC x cl cc nL tys Ts own) {cn : ClassFile.Cond} {off : Int} {tgt : Nat} {v : Int32} (hd : decode cc pc = .ok (.ifCond cn off, 3)) (ht : (pc : Int) + off = (tgt : Int))
    (kt : ty_hI cn v.toInt 0 → gG x cl tgt ls st M n k) (kf : ¬ ty_hI cn v.toInt 0 → gG x cl (pc + 3) ls st M n k) : gG x cl pc ls (.int v :: st) M n k := by
  obtain ⟨p, l, e, R, s, m, args, below, meth, c, Q, D, A, H0⟩ := x
  obtain ⟨⟨he, hb, -⟩, -⟩ := hx
  intro H locs hm
  have z : (0 : Int32).toInt = 0 := rfl
  cases cn
  · exact lv_if_eq he hb hd ht (fun q => kt (by subst q; rfl) H locs hm) (fun q => kf (fun r => q (Int32.toInt_inj.mp (by rw [z]; exact r))) H locs hm)
  · exact lv_if_ne he hb hd ht (fun q => kt (fun r => q (Int32.toInt_inj.mp (by rw [z]; exact r))) H locs hm) (fun q => kf (fun r => r (by subst q; rfl)) H locs hm)
  · exact lv_if_lt he hb hd ht (fun q => kt (by have := Int32.lt_iff_toInt_lt.mp q; rw [z] at this; exact this) H locs hm) (fun q => kf (fun r => q (Int32.lt_iff_toInt_lt.mpr (by rw [z]; exact r))) H locs hm)
  · exact lv_if_ge he hb hd ht (fun q => kt (by have := Int32.le_iff_toInt_le.mp q; rw [z] at this; exact this) H locs hm) (fun q => kf (fun r => q (Int32.le_iff_toInt_le.mpr (by rw [z]; exact r))) H locs hm)
  · exact lv_if_gt he hb hd ht (fun q => kt (by have := Int32.lt_iff_toInt_lt.mp q; rw [z] at this; exact this) H locs hm) (fun q => kf (fun r => q (Int32.lt_iff_toInt_lt.mpr (by rw [z]; exact r))) H locs hm)
  · exact lv_if_le he hb hd ht (fun q => kt (by have := Int32.le_iff_toInt_le.mp q; rw [z] at this; exact this) H locs hm) (fun q => kf (fun r => q (Int32.le_iff_toInt_le.mpr (by rw [z]; exact r))) H locs hm)
theorem gG_ic (hx : gC x cl cc nL tys Ts own) {cn : ClassFile.Cond} {off : Int} {tgt : Nat} {v w : Int32} (hd : decode cc pc = .ok (.if_icmp cn off, 3)) (ht : (pc : Int) + off = (tgt : Int))
    (kt : ty_hI cn v.toInt w.toInt → gG x cl tgt ls st M n k) (kf : ¬ ty_hI cn v.toInt w.toInt → gG x cl (pc + 3) ls st M n k) : gG x cl pc ls (.int w :: .int v :: st) M n k := by
  obtain ⟨p, l, e, R, s, m, args, below, meth, c, Q, D, A, H0⟩ := x
  obtain ⟨⟨he, hb, -⟩, -⟩ := hx
  intro H locs hm
  cases cn
  · exact lv_icmp_eq he hb hd ht (fun q => kt (by subst q; rfl) H locs hm) (fun q => kf (fun r => q (Int32.toInt_inj.mp r)) H locs hm)
  · exact lv_icmp_ne he hb hd ht (fun q => kt (fun r => q (Int32.toInt_inj.mp r)) H locs hm) (fun q => kf (fun r => r (by subst q; rfl)) H locs hm)
  · exact lv_icmp_lt he hb hd ht (fun q => kt (Int32.lt_iff_toInt_lt.mp q) H locs hm) (fun q => kf (fun r => q (Int32.lt_iff_toInt_lt.mpr r)) H locs hm)
  · exact lv_icmp_ge he hb hd ht (fun q => kt (Int32.le_iff_toInt_le.mp q) H locs hm) (fun q => kf (fun r => q (Int32.le_iff_toInt_le.mpr r)) H locs hm)
  · exact lv_icmp_gt he hb hd ht (fun q => kt (Int32.lt_iff_toInt_lt.mp q) H locs hm) (fun q => kf (fun r => q (Int32.lt_iff_toInt_lt.mpr r)) H locs hm)
  · exact lv_icmp_le he hb hd ht (fun q => kt (Int32.le_iff_toInt_le.mp q) H locs hm) (fun q => kf (fun r => q (Int32.le_iff_toInt_le.mpr r)) H locs hm)
theorem gG_goto (hx : gC x cl cc nL tys Ts own) {off : Int} {tgt : Nat} (hd : decode cc pc = .ok (.goto off, 3)) (ht : (pc : Int) + off = (tgt : Int)) (kk : gG x cl tgt ls st M n k) : gG x cl pc ls st M n k := by
  obtain ⟨p, l, e, R, s, m, args, below, meth, c, Q, D, A, H0⟩ := x
  obtain ⟨⟨he, hb, -⟩, -⟩ := hx
  intro H locs hm
  exact lv_goto he hb hd ht (kk H locs hm)
theorem gG_widen {n' k' : Nat} (h1 : n ≤ n') (h2 : k ≤ k') (kk : gG x cl pc ls st M n' k') : gG x cl pc ls st M n k := by
  obtain ⟨p, l, e, R, s, m, args, below, meth, c, Q, D, A, H0⟩ := x
  intro H locs hm
  exact W.widen h1 h2 (kk H locs hm)
/-! locals -/
def ty_all (ls : Array Slot) : List (Nat × Value) := (List.range ls.size).filterMap (fun (j : Nat) => match (ls[j]? : Option Slot) with
  | some (.val w) => some (j, w)
  | _ => none)
theorem ty_all_in {ls : Array Slot} {j : Nat} {w : Value} (h : ls[j]? = some (.val w)) : (j, w) ∈ ty_all ls := by
  unfold ty_all
  refine List.mem_filterMap.mpr ⟨j, List.mem_range.mpr (lv_lt h), ?_⟩
  rw [h]
theorem ty_all_of {ls : Array Slot} {q : Nat × Value} (h : q ∈ ty_all ls) : ls[q.1]? = some (.val q.2) := by
  unfold ty_all at h
  obtain ⟨j, h1, h2⟩ := List.mem_filterMap.mp h
  split at h2
  · rename_i w hw
    cases h2
    exact hw
  · cases h2
theorem ty_all_has {ls : Array Slot} (hs : ls.size = nL) (hw : lv_wf ls) : lv_has ls nL (ty_all ls) := ⟨hs, hw, fun _ h => ty_all_of h⟩
/-- ls' is ls with v at i; w: the words that v takes -/
def ty_put (nL : Nat) (ls : Array Slot) (i w : Nat) (v : Value) (ls' : Array Slot) : Prop :=
  ls'.size = nL ∧ lv_wf ls' ∧ ls'[i]? = some (.val v) ∧ ∀ (j : Nat) (z : Value), ls[j]? = some (.val z) → (j < i ∨ i + w ≤ j) → ¬ (j + 1 = i ∧ z.category = 2) → ls'[j]? = some (.val z)
theorem ty_put1 {ls ls' : Array Slot} {i : Nat} {v : Value} (h : lv_has ls' nL ((i, v) :: (ty_all ls).filter (fun q => !(q.1 == i) && !(q.1 + 1 == i && q.2.category == 2)))) : ty_put nL ls i 1 v ls' := by
  refine ⟨h.1, h.2.1, h.2.2 _ List.mem_cons_self, fun j z h1 h2 h3 => h.2.2 (j, z) (List.mem_cons_of_mem _ (List.mem_filter.mpr ⟨ty_all_in h1, ?_⟩))⟩
  have hj : ¬ j = i := by omega
  simp only [Bool.and_eq_true, Bool.not_eq_true', beq_eq_false_iff_ne, ne_eq, hj, not_false_eq_true, true_and]
  rw [← Bool.not_eq_true]
  intro q
  simp only [Bool.and_eq_true, beq_iff_eq] at q
  exact h3 q
theorem ty_put2 {ls ls' : Array Slot} {i : Nat} {v : Value} (h : lv_has ls' nL ((i, v) :: (ty_all ls).filter (fun q => !(q.1 == i) && (!(q.1 == i + 1) && !(q.1 + 1 == i && q.2.category == 2))))) : ty_put nL ls i 2 v ls' := by
  refine ⟨h.1, h.2.1, h.2.2 _ List.mem_cons_self, fun j z h1 h2 h3 => h.2.2 (j, z) (List.mem_cons_of_mem _ (List.mem_filter.mpr ⟨ty_all_in h1, ?_⟩))⟩
  have hj : ¬ j = i := by omega
  have hj2 : ¬ j = i + 1 := by omega
  simp only [Bool.and_eq_true, Bool.not_eq_true', beq_eq_false_iff_ne, ne_eq, hj, hj2, not_false_eq_true, true_and]
  rw [← Bool.not_eq_true]
  intro q
  simp only [Bool.and_eq_true, beq_iff_eq] at q
  exact h3 q
theorem gG_istore (hx : gC x cl cc nL tys Ts own) (hs : ls.size = nL) (hw : lv_wf ls) {i len : Nat} {v : Int32} (hd : decode cc pc = .ok (.istore i, len) ∧ len = 2 ∨ ∃ j : Fin 4, decode cc pc = .ok (.istore_n j, len) ∧ (j : Nat) = i ∧ len = 1) (hi : i < nL)
    (kk : ∀ ls', ty_put nL ls i 1 (.int v) ls' → gG x cl (pc + len) ls' st M n k) : gG x cl pc ls (.int v :: st) M n k := by
  obtain ⟨p, l, e, R, s, m, args, below, meth, c, Q, D, A, H0⟩ := x
  obtain ⟨⟨he, hb, -⟩, -⟩ := hx
  intro H locs hm
  rcases hd with ⟨hd, rfl⟩ | ⟨j, hd, hj, rfl⟩
  · exact lv_istore he hb hd (ty_all_has hs hw) hi rfl (fun ls' h => kk ls' (ty_put1 h) H locs hm)
  · exact lv_istore_n he hb hd hj (ty_all_has hs hw) hi rfl (fun ls' h => kk ls' (ty_put1 h) H locs hm)
theorem gG_astore (hx : gC x cl cc nL tys Ts own) (hs : ls.size = nL) (hw : lv_wf ls) {i len : Nat} {a : Nat} (hd : decode cc pc = .ok (.astore i, len) ∧ len = 2 ∨ ∃ j : Fin 4, decode cc pc = .ok (.astore_n j, len) ∧ (j : Nat) = i ∧ len = 1) (hi : i < nL)
    (kk : ∀ ls', ty_put nL ls i 1 (.ref a) ls' → gG x cl (pc + len) ls' st M n k) : gG x cl pc ls (.ref a :: st) M n k := by
  obtain ⟨p, l, e, R, s, m, args, below, meth, c, Q, D, A, H0⟩ := x
  obtain ⟨⟨he, hb, -⟩, -⟩ := hx
  intro H locs hm
  rcases hd with ⟨hd, rfl⟩ | ⟨j, hd, hj, rfl⟩
  · exact lv_astore he hb hd (ty_all_has hs hw) hi rfl (fun ls' h => kk ls' (ty_put1 h) H locs hm)
  · exact lv_astore_n he hb hd hj (ty_all_has hs hw) hi rfl (fun ls' h => kk ls' (ty_put1 h) H locs hm)
theorem gG_lstore (hx : gC x cl cc nL tys Ts own) (hs : ls.size = nL) (hw : lv_wf ls) {i len : Nat} {v : Int64} (hd : decode cc pc = .ok (.lstore i, len) ∧ len = 2 ∨ ∃ j : Fin 4, decode cc pc = .ok (.lstore_n j, len) ∧ (j : Nat) = i ∧ len = 1) (hi : i + 1 < nL)
    (kk : ∀ ls', ty_put nL ls i 2 (.long v) ls' → gG x cl (pc + len) ls' st M n k) : gG x cl pc ls (.long v :: st) M n k := by
  obtain ⟨p, l, e, R, s, m, args, below, meth, c, Q, D, A, H0⟩ := x
  obtain ⟨⟨he, hb, -⟩, -⟩ := hx
  intro H locs hm
  rcases hd with ⟨hd, rfl⟩ | ⟨j, hd, hj, rfl⟩
  · exact lv_lstore he hb hd (ty_all_has hs hw) hi rfl (fun ls' h => kk ls' (ty_put2 h) H locs hm)
  · exact lv_lstore_n he hb hd hj (ty_all_has hs hw) hi rfl (fun ls' h => kk ls' (ty_put2 h) H locs hm)
theorem gG_iinc (hx : gC x cl cc nL tys Ts own) (hs : ls.size = nL) (hw : lv_wf ls) {i : Nat} {z : Int} {v : Int32} (hd : decode cc pc = .ok (.iinc i z, 3)) (hl : ls[i]? = some (.val (.int v)))
    (kk : ∀ ls', ty_put nL ls i 1 (.int (v + Int32.ofInt z)) ls' → gG x cl (pc + 3) ls' st M n k) : gG x cl pc ls st M n k := by
  obtain ⟨p, l, e, R, s, m, args, below, meth, c, Q, D, A, H0⟩ := x
  obtain ⟨⟨he, hb, -⟩, -⟩ := hx
  intro H locs hm
  obtain ⟨j, hj⟩ := List.getElem?_of_mem (ty_all_in hl)
  exact lv_iinc he hb hd (ty_all_has hs hw) hj rfl (by rw [← hs]; exact lv_lt hl) rfl (fun ls' h => kk ls' (ty_put1 h) H locs hm)
end GG
