/-! RULES that a body offers, by place of its class's table -/
def gR_get (x : gx_T) (cl : List vw_C) (cc : ByteArray) (idx ci f : Nat) : Prop := ∀ (pc : Nat) (ls : Array Slot) (a : Nat) (fs : List Value) (v : Value) (st : List Value) (M : mh_M) (n k : Nat), decode cc pc = .ok (.getfield idx, 3) → mh_at M a (.inr (ci, fs)) → fs[f]? = some v → gG x cl (pc + 3) ls (v :: st) M n k → gG x cl pc ls (.ref a :: st) M n k
def gR_put (x : gx_T) (cl : List vw_C) (cc : ByteArray) (idx ci f : Nat) (ty : FieldType) : Prop := ∀ (pc : Nat) (ls : Array Slot) (a : Nat) (fs : List Value) (v : Value) (st : List Value) (M : mh_M) (n k : Nat), decode cc pc = .ok (.putfield idx, 3) → mh_at M a (.inr (ci, fs)) → f < fs.length → narrow ty v = v → fits ty v = true → gG x cl (pc + 3) ls st (mh_set M a (.inr (ci, fs.set f v))) n k → gG x cl pc ls (v :: .ref a :: st) M n k
def gR_ldc (x : gx_T) (cl : List vw_C) (cc : ByteArray) (idx : Nat) (v : Int32) : Prop := ∀ (pc : Nat) (ls : Array Slot) (st : List Value) (M : mh_M) (n k : Nat), (decode cc pc = .ok (.ldc idx, 2) → gG x cl (pc + 2) ls (.int v :: st) M n k → gG x cl pc ls st M n k) ∧ (decode cc pc = .ok (.ldc_w idx, 3) → gG x cl (pc + 3) ls (.int v :: st) M n k → gG x cl pc ls st M n k)
def gR_ldl (x : gx_T) (cl : List vw_C) (cc : ByteArray) (idx : Nat) (v : Int64) : Prop := ∀ (pc : Nat) (ls : Array Slot) (st : List Value) (M : mh_M) (n k : Nat), decode cc pc = .ok (.ldc2_w idx, 3) → gG x cl (pc + 3) ls (.long v :: st) M n k → gG x cl pc ls st M n k
def gR_new (x : gx_T) (cl : List vw_C) (cc : ByteArray) (idx ci N : Nat) (fs : List Value) : Prop := ∀ (pc : Nat) (ls : Array Slot) (st : List Value) (M : mh_M) (n k : Nat), decode cc pc = .ok (.new idx, 3) → n + 1 ≤ (gx_R x).cells → k + N ≤ (gx_R x).slots → (∀ q, q ∉ M.1 → gG x cl (pc + 3) ls (.ref q :: st) (mh_new M q (.inr (ci, fs))) (n + 1) (k + N)) → gG x cl pc ls st M n k
/-- a new array of ints (of the class at t0) -/
def gR_nai (x : gx_T) (cl : List vw_C) (cc : ByteArray) (at_ : ArrayType) (cA : ClassId) : Prop := ∀ (pc : Nat) (ls : Array Slot) (st : List Value) (M : mh_M) (n k : Nat) (v : Int32) (N : Nat), decode cc pc = .ok (.newarray at_, 2) → v.toInt = (N : Int) → N ≤ 60000000 → n + 1 ≤ (gx_R x).cells → k + N ≤ (gx_R x).slots → (∀ q, q ∉ M.1 → gG x cl (pc + 2) ls (.ref q :: st) (mh_new M q (.inl (cA, N, .inl (fun _ => 0)))) (n + 1) (k + N)) → gG x cl pc ls (.int v :: st) M n k
def gR_nal (x : gx_T) (cl : List vw_C) (cc : ByteArray) (cA : ClassId) : Prop := ∀ (pc : Nat) (ls : Array Slot) (st : List Value) (M : mh_M) (n k : Nat) (v : Int32) (N : Nat), decode cc pc = .ok (.newarray .long, 2) → v.toInt = (N : Int) → N ≤ 60000000 → n + 1 ≤ (gx_R x).cells → k + N ≤ (gx_R x).slots → (∀ q, q ∉ M.1 → gG x cl (pc + 2) ls (.ref q :: st) (mh_new M q (.inl (cA, N, .inr (.inl (fun _ => 0))))) (n + 1) (k + N)) → gG x cl pc ls (.int v :: st) M n k
def gR_rt (ret : Option FieldType) (i : Instr) (v : Option Value) : Prop := match ret with
  | none => i = .return_ ∧ v = none
  | some .long => i = .lreturn ∧ ∃ z, v = some (.long z)
  | some (.object _) => i = .areturn ∧ ∃ a, v = some (.ref a)
  | some (.array _) => i = .areturn ∧ ∃ a, v = some (.ref a)
  | some .float => False
  | some .double => False
  | some ty => i = .ireturn ∧ ∃ z, v = some (.int z) ∧ narrow ty (.int z) = .int z
def gR_ret (x : gx_T) (cl : List vw_C) (cc : ByteArray) (ret : Option FieldType) (post : Option Value → mh_M → Prop) (nc ns : Nat) : Prop := ∀ (pc : Nat) (ls : Array Slot) (i : Instr) (v : Option Value) (M : mh_M) (n k : Nat), decode cc pc = .ok (i, 1) → gR_rt ret i v → post v M → n ≤ nc → k ≤ ns → gG x cl pc ls v.toList M n k
section GH
variable {x : gx_T} {cl : List vw_C} {cc : ByteArray} {nL : Nat} {tys : List (ClassId × FieldType)} {Ts : List Cond} {own : String} {pc : Nat} {ls : Array Slot} {st : List Value} {M : mh_M} {n k : Nat}
theorem gG_iald (hx : gC x cl cc nL tys Ts own) (t0 : Nat) {a : Nat} {cA : ClassId} {N : Nat} {f : Nat → Int32} {i : Int32} (hd : decode cc pc = .ok (.iaload, 1)) (ha : mh_at M a (.inl (cA, N, .inl f))) (ht : tys[t0]? = some (cA, .int)) (hi : vp_in i N) (kk : gG x cl (pc + 1) ls (.int (f i.toNatClampNeg) :: st) M n k) : gG x cl pc ls (.int i :: .ref a :: st) M n k := by
  obtain ⟨p, l, e, R, s, m, args, below, meth, c, Q, D, A, H0⟩ := x
  obtain ⟨⟨he, hb, -⟩, hK, -⟩ := hx
  exact fun H locs hm => mh_iald he hb hK hm t0 ha ht hi hd (kk H locs hm)
theorem gG_bald (hx : gC x cl cc nL tys Ts own) (t0 : Nat) {a : Nat} {cA : ClassId} {N : Nat} {f : Nat → Int32} {i : Int32} (hd : decode cc pc = .ok (.baload, 1)) (ha : mh_at M a (.inl (cA, N, .inl f))) (ht : tys[t0]? = some (cA, .byte)) (hi : vp_in i N) (kk : gG x cl (pc + 1) ls (.int (f i.toNatClampNeg) :: st) M n k) : gG x cl pc ls (.int i :: .ref a :: st) M n k := by
  obtain ⟨p, l, e, R, s, m, args, below, meth, c, Q, D, A, H0⟩ := x
  obtain ⟨⟨he, hb, -⟩, hK, -⟩ := hx
  exact fun H locs hm => mh_bald he hb hK hm t0 ha ht hi hd (kk H locs hm)
theorem gG_zald (hx : gC x cl cc nL tys Ts own) (t0 : Nat) {a : Nat} {cA : ClassId} {N : Nat} {f : Nat → Int32} {i : Int32} (hd : decode cc pc = .ok (.baload, 1)) (ha : mh_at M a (.inl (cA, N, .inl f))) (ht : tys[t0]? = some (cA, .boolean)) (hi : vp_in i N) (kk : gG x cl (pc + 1) ls (.int (f i.toNatClampNeg) :: st) M n k) : gG x cl pc ls (.int i :: .ref a :: st) M n k := by
  obtain ⟨p, l, e, R, s, m, args, below, meth, c, Q, D, A, H0⟩ := x
  obtain ⟨⟨he, hb, -⟩, hK, -⟩ := hx
  exact fun H locs hm => mh_zald he hb hK hm t0 ha ht hi hd (kk H locs hm)
theorem gG_lald (hx : gC x cl cc nL tys Ts own) (t0 : Nat) {a : Nat} {cA : ClassId} {N : Nat} {f : Nat → Int64} {i : Int32} (hd : decode cc pc = .ok (.laload, 1)) (ha : mh_at M a (.inl (cA, N, .inr (.inl f)))) (ht : tys[t0]? = some (cA, .long)) (hi : vp_in i N) (kk : gG x cl (pc + 1) ls (.long (f i.toNatClampNeg) :: st) M n k) : gG x cl pc ls (.int i :: .ref a :: st) M n k := by
  obtain ⟨p, l, e, R, s, m, args, below, meth, c, Q, D, A, H0⟩ := x
  obtain ⟨⟨he, hb, -⟩, hK, -⟩ := hx
  exact fun H locs hm => mh_lald he hb hK hm t0 ha ht hi hd (kk H locs hm)
theorem gG_alen (hx : gC x cl cc nL tys Ts own) (t0 : Nat) {a : Nat} {cA : ClassId} {b : vp_A} {ty : FieldType} (hd : decode cc pc = .ok (.arraylength, 1)) (ha : mh_at M a (.inl (cA, b))) (ht : tys[t0]? = some (cA, ty)) (kk : gG x cl (pc + 1) ls (.int (Int32.ofNat b.1) :: st) M n k) : gG x cl pc ls (.ref a :: st) M n k := by
  obtain ⟨p, l, e, R, s, m, args, below, meth, c, Q, D, A, H0⟩ := x
  obtain ⟨⟨he, hb, -⟩, hK, -⟩ := hx
  exact fun H locs hm => mh_alen he hb hK hm t0 ha ht rfl hd (kk H locs hm)
theorem gG_iast (hx : gC x cl cc nL tys Ts own) (t0 : Nat) {a : Nat} {cA : ClassId} {N : Nat} {f : Nat → Int32} {i v : Int32} (hd : decode cc pc = .ok (.iastore, 1)) (ha : mh_at M a (.inl (cA, N, .inl f))) (ht : tys[t0]? = some (cA, .int)) (hi : vp_in i N) (kk : gG x cl (pc + 1) ls st (mh_set M a (.inl (cA, N, .inl (upd f i.toNatClampNeg v)))) n k) : gG x cl pc ls (.int v :: .int i :: .ref a :: st) M n k := by
  obtain ⟨p, l, e, R, s, m, args, below, meth, c, Q, D, A, H0⟩ := x
  obtain ⟨⟨he, hb, -⟩, hK, -⟩ := hx
  exact fun H locs hm => mh_iast he hb hK hm t0 ha ht hi hd (fun H1 l1 h1 => kk H1 l1 h1)
theorem gG_bast (hx : gC x cl cc nL tys Ts own) (t0 : Nat) {a : Nat} {cA : ClassId} {N : Nat} {f : Nat → Int32} {i v : Int32} (hd : decode cc pc = .ok (.bastore, 1)) (ha : mh_at M a (.inl (cA, N, .inl f))) (ht : tys[t0]? = some (cA, .byte)) (hi : vp_in i N) (kk : gG x cl (pc + 1) ls st (mh_set M a (.inl (cA, N, .inl (upd f i.toNatClampNeg (vp_nar .byte v))))) n k) : gG x cl pc ls (.int v :: .int i :: .ref a :: st) M n k := by
  obtain ⟨p, l, e, R, s, m, args, below, meth, c, Q, D, A, H0⟩ := x
  obtain ⟨⟨he, hb, -⟩, hK, -⟩ := hx
  exact fun H locs hm => mh_bast he hb hK hm t0 ha ht hi hd (fun H1 l1 h1 => kk H1 l1 h1)
theorem gG_zast (hx : gC x cl cc nL tys Ts own) (t0 : Nat) {a : Nat} {cA : ClassId} {N : Nat} {f : Nat → Int32} {i v : Int32} (hd : decode cc pc = .ok (.bastore, 1)) (ha : mh_at M a (.inl (cA, N, .inl f))) (ht : tys[t0]? = some (cA, .boolean)) (hi : vp_in i N) (kk : gG x cl (pc + 1) ls st (mh_set M a (.inl (cA, N, .inl (upd f i.toNatClampNeg (vp_nar .boolean v))))) n k) : gG x cl pc ls (.int v :: .int i :: .ref a :: st) M n k := by
  obtain ⟨p, l, e, R, s, m, args, below, meth, c, Q, D, A, H0⟩ := x
  obtain ⟨⟨he, hb, -⟩, hK, -⟩ := hx
  exact fun H locs hm => mh_zast he hb hK hm t0 ha ht hi hd (fun H1 l1 h1 => kk H1 l1 h1)
theorem gG_last (hx : gC x cl cc nL tys Ts own) (t0 : Nat) {a : Nat} {cA : ClassId} {N : Nat} {f : Nat → Int64} {i : Int32} {v : Int64} (hd : decode cc pc = .ok (.lastore, 1)) (ha : mh_at M a (.inl (cA, N, .inr (.inl f)))) (ht : tys[t0]? = some (cA, .long)) (hi : vp_in i N) (kk : gG x cl (pc + 1) ls st (mh_set M a (.inl (cA, N, .inr (.inl (vp_updL f i.toNatClampNeg v))))) n k) : gG x cl pc ls (.long v :: .int i :: .ref a :: st) M n k := by
  obtain ⟨p, l, e, R, s, m, args, below, meth, c, Q, D, A, H0⟩ := x
  obtain ⟨⟨he, hb, -⟩, hK, -⟩ := hx
  exact fun H locs hm => mh_last he hb hK hm t0 ha ht hi hd (fun H1 l1 h1 => kk H1 l1 h1)
theorem gG_ts (hx : gC x cl cc nL tys Ts own) {d lo hi : Int} {offs : Array Int} {len : Nat} {v : Int32} (hd : decode cc pc = .ok (.tableswitch d lo hi offs, len)) (h0 : 0 ≤ (pc : Int) + d) (h1 : ∀ o ∈ offs.toList, 0 ≤ (pc : Int) + o) (h2 : (offs.size : Int) = hi - lo + 1) (k0 : gG x cl ((pc : Int) + d).toNat ls st M n k) (k1 : ∀ o ∈ offs.toList, gG x cl ((pc : Int) + o).toNat ls st M n k) : gG x cl pc ls (.int v :: st) M n k := by
  obtain ⟨p, l, e, R, s, m, args, below, meth, c, Q, D, A, H0⟩ := x
  obtain ⟨⟨he, hb, -⟩, -⟩ := hx
  intro H locs hm
  by_cases h : v.toInt < lo ∨ hi < v.toInt
  · exact lv_tableOut he hb hd h (tgt := ((pc : Int) + d).toNat) (by omega) (k0 H locs hm)
  · have hlt : (v.toInt - lo).toNat < offs.size := by omega
    have ho : offs[(v.toInt - lo).toNat]? = some offs[(v.toInt - lo).toNat] := Array.getElem?_eq_getElem hlt
    have hmem : offs[(v.toInt - lo).toNat] ∈ offs.toList := Array.mem_toList_iff.mpr (Array.getElem_mem hlt)
    have h3 := h1 _ hmem
    exact lv_tableIn he hb hd (fun q => h (Or.inl q)) (fun q => h (Or.inr q)) ho (tgt := ((pc : Int) + offs[(v.toInt - lo).toNat]).toNat) (by omega) (k1 _ hmem H locs hm)
end GH
