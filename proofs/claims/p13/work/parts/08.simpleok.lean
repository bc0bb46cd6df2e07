section SA
variable {σ : ty_K} {g : Int} {pg : Int32 → Prop} {ls : Array Slot} {L : ty_L} {st : List Value} {sa' r' : List ty_E}
theorem ty_long {v : Value} {t : ty_T} (h : t.1 = 1) (hv : ty_has σ g pg v t) : ∃ x : Int64, v = .long x := by
  obtain ⟨n, lo, hi⟩ := t
  dsimp only at h
  subst h
  exact hv
theorem ty_refk {v : Value} {t : ty_T} (h : t.1 = 2) (hv : ty_has σ g pg v t) : ∃ a : Nat, v = .ref a ∧ σ a = some t.2.1.toNat := by
  obtain ⟨n, lo, hi⟩ := t
  dsimp only at h
  subst h
  exact hv
theorem ty_rs {v : Value} {t : ty_T} (h : (ty_rng t).isSome = true) (hv : ty_has σ g pg v t) : ∃ x : Int32, v = .int x := by
  obtain ⟨r, hr⟩ := Option.isSome_iff_exists.mp h
  obtain ⟨x, h1, -⟩ := ty_rng_ok hr hv
  exact ⟨x, h1⟩
theorem sa_ii_ok {F : Int × Int → Int × Int → ty_T} {f : Int32 → Int32 → Int32} (hF : ∀ (x y : Int32) (a b : Int × Int), a.1 ≤ x.toInt → x.toInt ≤ a.2 → b.1 ≤ y.toInt → y.toInt ≤ b.2 → ty_has σ g pg (.int (f x y)) (F a b)) (h : sa_ii F sa' = some r') (hs : ty_stk σ g pg ls st sa') : ∃ r, sp_ii f st = some r ∧ ty_stk σ g pg ls r r' := by
  unfold sa_ii at h
  split at h
  · split at h
    · rename_i ra rb h1 h2
      cases h
      obtain ⟨v, vs, rfl, h3, h4⟩ := ty_stk_c hs
      obtain ⟨w, ws, rfl, h5, h6⟩ := ty_stk_c h4
      obtain ⟨x, rfl, a1, a2⟩ := ty_rng_ok h1 h5.1
      obtain ⟨y, rfl, b1, b2⟩ := ty_rng_ok h2 h3.1
      exact ⟨_, rfl, ⟨hF x y _ _ a1 a2 b1 b2, trivial⟩, h6⟩
    · cases h
  · cases h
theorem sa_rm_ok (h : sa_rm sa' = some r') (hs : ty_stk σ g pg ls st sa') : ∃ r, sp_rm st = some r ∧ ty_stk σ g pg ls r r' := by
  unfold sa_rm at h
  split at h
  · split at h
    · rename_i ra rb h1 h2
      obtain ⟨t, e1, e2⟩ := Option.map_eq_some_iff.mp h
      cases e2
      obtain ⟨v, vs, rfl, h3, h4⟩ := ty_stk_c hs
      obtain ⟨w, ws, rfl, h5, h6⟩ := ty_stk_c h4
      obtain ⟨x, rfl, a1, a2⟩ := ty_rng_ok h1 h5.1
      obtain ⟨y, rfl, b1, b2⟩ := ty_rng_ok h2 h3.1
      obtain ⟨n1, n2⟩ := fa_rem_ok (σ := σ) (g := g) (pg := pg) e1 a1 a2 b1 b2
      refine ⟨.int (x - x / y * y) :: ws, ?_, ⟨n2, trivial⟩, h6⟩
      show (if y = 0 then none else _) = _
      rw [if_neg n1]
    · cases h
  · cases h
theorem sa_ll_ok {f : Int64 → Int64 → Int64} (h : sa_ll (1, 0, 0) sa' = some r') (hs : ty_stk σ g pg ls st sa') : ∃ r, sp_ll f st = some r ∧ ty_stk σ g pg ls r r' := by
  unfold sa_ll at h
  split at h
  · split at h
    · rename_i hc
      cases h
      obtain ⟨v, vs, rfl, h3, h4⟩ := ty_stk_c hs
      obtain ⟨w, ws, rfl, h5, h6⟩ := ty_stk_c h4
      obtain ⟨x, rfl⟩ := ty_long hc.1 h5.1
      obtain ⟨y, rfl⟩ := ty_long hc.2 h3.1
      exact ⟨_, rfl, ⟨⟨_, rfl⟩, trivial⟩, h6⟩
    · cases h
  · cases h
theorem ty_cmp_r (x y : Int64) : ty_has σ g pg (.int (lg_cmp x y)) (0, -1, 1) := by
  have h : lg_cmp x y = -1 ∨ lg_cmp x y = 0 ∨ lg_cmp x y = 1 := by
    unfold lg_cmp
    split
    · simp
    · split <;> simp
  rcases h with h | h | h <;> rw [h] <;> exact ⟨_, rfl, by decide, by decide⟩
theorem sa_cm_ok (h : sa_ll (0, -1, 1) sa' = some r') (hs : ty_stk σ g pg ls st sa') : ∃ r, sp_cm st = some r ∧ ty_stk σ g pg ls r r' := by
  unfold sa_ll at h
  split at h
  · split at h
    · rename_i hc
      cases h
      obtain ⟨v, vs, rfl, h3, h4⟩ := ty_stk_c hs
      obtain ⟨w, ws, rfl, h5, h6⟩ := ty_stk_c h4
      obtain ⟨x, rfl⟩ := ty_long hc.1 h5.1
      obtain ⟨y, rfl⟩ := ty_long hc.2 h3.1
      exact ⟨_, rfl, ⟨ty_cmp_r x y, trivial⟩, h6⟩
    · cases h
  · cases h
theorem sa_li_ok {f : Int64 → Int32 → Int64} (h : sa_li sa' = some r') (hs : ty_stk σ g pg ls st sa') : ∃ r, sp_li f st = some r ∧ ty_stk σ g pg ls r r' := by
  unfold sa_li at h
  split at h
  · split at h
    · rename_i hc
      cases h
      obtain ⟨v, vs, rfl, h3, h4⟩ := ty_stk_c hs
      obtain ⟨w, ws, rfl, h5, h6⟩ := ty_stk_c h4
      obtain ⟨x, rfl⟩ := ty_long hc.1 h5.1
      obtain ⟨y, rfl⟩ := ty_rs hc.2 h3.1
      exact ⟨_, rfl, ⟨⟨_, rfl⟩, trivial⟩, h6⟩
    · cases h
  · cases h
theorem sa_i_ok {t : ty_T} {f : Int32 → Value} (hf : ∀ x, ty_has σ g pg (f x) t) (h : sa_i t sa' = some r') (hs : ty_stk σ g pg ls st sa') : ∃ r, sp_i f st = some r ∧ ty_stk σ g pg ls r r' := by
  unfold sa_i at h
  split at h
  · split at h
    · rename_i hc
      cases h
      obtain ⟨v, vs, rfl, h3, h4⟩ := ty_stk_c hs
      obtain ⟨x, rfl⟩ := ty_rs hc h3.1
      exact ⟨_, rfl, ⟨hf x, trivial⟩, h4⟩
    · cases h
  · cases h
theorem sa_l_ok {t : ty_T} {f : Int64 → Value} (hf : ∀ x, ty_has σ g pg (f x) t) (h : sa_l t sa' = some r') (hs : ty_stk σ g pg ls st sa') : ∃ r, sp_l f st = some r ∧ ty_stk σ g pg ls r r' := by
  unfold sa_l at h
  split at h
  · split at h
    · rename_i hc
      cases h
      obtain ⟨v, vs, rfl, h3, h4⟩ := ty_stk_c hs
      obtain ⟨x, rfl⟩ := ty_long hc h3.1
      exact ⟨_, rfl, ⟨hf x, trivial⟩, h4⟩
    · cases h
  · cases h
theorem sa_ldi_ok {j : Nat} (hl : ty_loc σ g pg ls L) (h : sa_ldi L j sa' = some r') (hs : ty_stk σ g pg ls st sa') : ∃ r, sp_ldi ls j st = some r ∧ ty_stk σ g pg ls r r' := by
  unfold sa_ldi at h
  split at h
  · split at h
    · rename_i t ht hc
      cases h
      obtain ⟨v, h1, h2⟩ := ty_get_ok hl ht
      obtain ⟨x, rfl⟩ := ty_rs hc h2
      refine ⟨.int x :: st, ?_, ⟨h2, h1⟩, hs⟩
      unfold sp_ldi
      rw [h1]
    · cases h
  · cases h
theorem sa_ldl_ok {j : Nat} (hl : ty_loc σ g pg ls L) (h : sa_ldl L j sa' = some r') (hs : ty_stk σ g pg ls st sa') : ∃ r, sp_ldl ls j st = some r ∧ ty_stk σ g pg ls r r' := by
  unfold sa_ldl at h
  split at h
  · split at h
    · rename_i t ht hc
      cases h
      obtain ⟨v, h1, h2⟩ := ty_get_ok hl ht
      obtain ⟨x, rfl⟩ := ty_long hc h2
      refine ⟨.long x :: st, ?_, ⟨h2, h1⟩, hs⟩
      unfold sp_ldl
      rw [h1]
    · cases h
  · cases h
theorem sa_lda_ok {j : Nat} (hl : ty_loc σ g pg ls L) (h : sa_lda L j sa' = some r') (hs : ty_stk σ g pg ls st sa') : ∃ r, sp_lda ls j st = some r ∧ ty_stk σ g pg ls r r' := by
  unfold sa_lda at h
  split at h
  · split at h
    · rename_i t ht hc
      cases h
      obtain ⟨v, h1, h2⟩ := ty_get_ok hl ht
      obtain ⟨a, rfl, -⟩ := ty_refk hc h2
      refine ⟨.ref a :: st, ?_, ⟨h2, h1⟩, hs⟩
      unfold sp_lda
      rw [h1]
    · cases h
  · cases h
theorem ty_c2 {v : Value} {t : ty_T} (h : t.1 = 1) (hv : ty_has σ g pg v t) : v.category = 2 := by
  obtain ⟨x, rfl⟩ := ty_long h hv
  rfl
theorem sa_d1_ok (h : sa_d1 sa' = some r') (hs : ty_stk σ g pg ls st sa') : ∃ r, sp_d1 st = some r ∧ ty_stk σ g pg ls r r' := by
  unfold sa_d1 at h
  split at h
  · split at h
    · rename_i hc
      cases h
      obtain ⟨v, vs, rfl, h3, h4⟩ := ty_stk_c hs
      exact ⟨_, if_pos (ty_c1_ok hc h3.1), h3, h3, h4⟩
    · cases h
  · cases h
theorem sa_d2_ok (h : sa_d2 sa' = some r') (hs : ty_stk σ g pg ls st sa') : ∃ r, sp_d2 st = some r ∧ ty_stk σ g pg ls r r' := by
  unfold sa_d2 at h
  split at h
  · split at h
    · rename_i hc
      cases h
      obtain ⟨v, vs, rfl, h3, h4⟩ := ty_stk_c hs
      exact ⟨_, if_pos (ty_c2 hc h3.1), h3, h3, h4⟩
    · split at h
      · split at h
        · rename_i hc
          cases h
          obtain ⟨v, vs, rfl, h3, h4⟩ := ty_stk_c hs
          obtain ⟨w, ws, rfl, h5, h6⟩ := ty_stk_c h4
          have c1 := ty_c1_ok hc.1 h3.1
          have c2 := ty_c1_ok hc.2 h5.1
          exact ⟨_, (if_neg (by omega)).trans (if_pos ⟨c1, c2⟩), h3, h5, h3, h5, h6⟩
        · cases h
      · cases h
  · cases h
theorem sa_x1_ok (h : sa_x1 sa' = some r') (hs : ty_stk σ g pg ls st sa') : ∃ r, sp_x1 st = some r ∧ ty_stk σ g pg ls r r' := by
  unfold sa_x1 at h
  split at h
  · split at h
    · rename_i hc
      cases h
      obtain ⟨v, vs, rfl, h3, h4⟩ := ty_stk_c hs
      obtain ⟨w, ws, rfl, h5, h6⟩ := ty_stk_c h4
      exact ⟨_, if_pos ⟨ty_c1_ok hc.1 h3.1, ty_c1_ok hc.2 h5.1⟩, h3, h5, h3, h6⟩
    · cases h
  · cases h
theorem sa_x2_ok (h : sa_x2 sa' = some r') (hs : ty_stk σ g pg ls st sa') : ∃ r, sp_x2 st = some r ∧ ty_stk σ g pg ls r r' := by
  unfold sa_x2 at h
  split at h
  · split at h
    · rename_i hc
      cases h
      obtain ⟨v, vs, rfl, h3, h4⟩ := ty_stk_c hs
      obtain ⟨w, ws, rfl, h5, h6⟩ := ty_stk_c h4
      obtain ⟨z, zs, rfl, h7, h8⟩ := ty_stk_c h6
      exact ⟨_, if_pos ⟨ty_c1_ok hc.1 h3.1, ty_c1_ok hc.2.1 h5.1, ty_c1_ok hc.2.2 h7.1⟩, h3, h5, h7, h3, h8⟩
    · cases h
  · cases h
theorem sa_p1_ok (h : sa_p1 sa' = some r') (hs : ty_stk σ g pg ls st sa') : ∃ r, sp_p1 st = some r ∧ ty_stk σ g pg ls r r' := by
  unfold sa_p1 at h
  split at h
  · split at h
    · rename_i hc
      cases h
      obtain ⟨v, vs, rfl, h3, h4⟩ := ty_stk_c hs
      exact ⟨_, if_pos (ty_c1_ok hc h3.1), h4⟩
    · cases h
  · cases h
theorem sa_p2_ok (h : sa_p2 sa' = some r') (hs : ty_stk σ g pg ls st sa') : ∃ r, sp_p2 st = some r ∧ ty_stk σ g pg ls r r' := by
  unfold sa_p2 at h
  split at h
  · split at h
    · rename_i hc
      cases h
      obtain ⟨v, vs, rfl, h3, h4⟩ := ty_stk_c hs
      exact ⟨_, if_pos (ty_c2 hc h3.1), h4⟩
    · cases h
  · cases h
theorem ty_ci {z : Int} (h1 : -128 ≤ z) (h2 : z ≤ 127) : (Int32.ofInt z).toInt = z := by
  rw [Int32.toInt_ofInt]
  exact ty_bm (by omega) (by omega)
theorem ty_cb {z : Int} (h1 : -128 ≤ z) (h2 : z ≤ 127) : (Int8.ofInt z).toInt32.toInt = z := by
  rw [Int8.toInt_toInt32, Int8.toInt_ofInt, Int.bmod_def]
  simp only [Int8.size]
  omega
theorem ty_cs {z : Int} (h1 : -32768 ≤ z) (h2 : z ≤ 32767) : (Int16.ofInt z).toInt32.toInt = z := by
  rw [Int16.toInt_toInt32, Int16.toInt_ofInt, Int.bmod_def]
  simp only [Int16.size]
  omega
theorem ty_i8 (x : Int32) : ty_has σ g pg (.int x.toInt8.toInt32) (0, -128, 127) := by
  refine ⟨_, rfl, ?_, ?_⟩
  · rw [Int8.toInt_toInt32]; exact Int8.le_toInt _
  · rw [Int8.toInt_toInt32]; have := Int8.toInt_lt x.toInt8; show _ ≤ (127 : Int); omega
theorem sa_ok {i : Instr} {len : Nat} (hl : ty_loc σ g pg ls L) (hs : ty_stk σ g pg ls st sa') (h : sa i L sa' = some (r', len)) : ∃ r, sp i ls st = some (r, len) ∧ ty_stk σ g pg ls r r' := by
  unfold sa at h
  split at h
  · split at h
    · rename_i q; cases h; exact ⟨_, rfl, ⟨⟨_, rfl, by rw [ty_ci q.1 q.2]; exact Int.le_refl _, by rw [ty_ci q.1 q.2]; exact Int.le_refl _⟩, trivial⟩, hs⟩
    · cases h
  · split at h
    · rename_i q; cases h; exact ⟨_, rfl, ⟨⟨_, rfl, by rw [ty_cb q.1 q.2]; exact Int.le_refl _, by rw [ty_cb q.1 q.2]; exact Int.le_refl _⟩, trivial⟩, hs⟩
    · cases h
  · split at h
    · rename_i q; cases h; exact ⟨_, rfl, ⟨⟨_, rfl, by rw [ty_cs q.1 q.2]; exact Int.le_refl _, by rw [ty_cs q.1 q.2]; exact Int.le_refl _⟩, trivial⟩, hs⟩
    · cases h
  · cases h; exact ⟨_, rfl, ⟨⟨_, rfl⟩, trivial⟩, hs⟩
  all_goals first | (cases h; done) | (obtain ⟨q, h1, h2⟩ := Option.map_eq_some_iff.mp h; cases h2)
  · obtain ⟨r, e1, e2⟩ := sa_ldi_ok hl h1 hs; exact ⟨r, congrArg (Option.map (·, 2)) e1, e2⟩
  · obtain ⟨r, e1, e2⟩ := sa_ldi_ok hl h1 hs; exact ⟨r, congrArg (Option.map (·, 1)) e1, e2⟩
  · obtain ⟨r, e1, e2⟩ := sa_ldl_ok hl h1 hs; exact ⟨r, congrArg (Option.map (·, 2)) e1, e2⟩
  · obtain ⟨r, e1, e2⟩ := sa_ldl_ok hl h1 hs; exact ⟨r, congrArg (Option.map (·, 1)) e1, e2⟩
  · obtain ⟨r, e1, e2⟩ := sa_lda_ok hl h1 hs; exact ⟨r, congrArg (Option.map (·, 2)) e1, e2⟩
  · obtain ⟨r, e1, e2⟩ := sa_lda_ok hl h1 hs; exact ⟨r, congrArg (Option.map (·, 1)) e1, e2⟩
  · obtain ⟨r, e1, e2⟩ := sa_ii_ok (fun _ _ _ _ => fa_add_ok) h1 hs; exact ⟨r, congrArg (Option.map (·, 1)) e1, e2⟩
  · obtain ⟨r, e1, e2⟩ := sa_ii_ok (fun _ _ _ _ => fa_sub_ok) h1 hs; exact ⟨r, congrArg (Option.map (·, 1)) e1, e2⟩
  · obtain ⟨r, e1, e2⟩ := sa_ii_ok (fun _ _ _ _ => fa_mul_ok) h1 hs; exact ⟨r, congrArg (Option.map (·, 1)) e1, e2⟩
  · obtain ⟨r, e1, e2⟩ := sa_ii_ok (fun _ _ _ _ => fa_and_ok) h1 hs; exact ⟨r, congrArg (Option.map (·, 1)) e1, e2⟩
  · obtain ⟨r, e1, e2⟩ := sa_ii_ok (f := fun x y => x ||| y) (fun _ _ _ _ _ _ _ _ => ty_any _) h1 hs; exact ⟨r, congrArg (Option.map (·, 1)) e1, e2⟩
  · obtain ⟨r, e1, e2⟩ := sa_ii_ok (fun _ _ _ _ => fa_xor_ok) h1 hs; exact ⟨r, congrArg (Option.map (·, 1)) e1, e2⟩
  · obtain ⟨r, e1, e2⟩ := sa_ii_ok (f := fun x y => x <<< (y &&& 31)) (fun _ _ _ _ _ _ _ _ => ty_any _) h1 hs; exact ⟨r, congrArg (Option.map (·, 1)) e1, e2⟩
  · obtain ⟨r, e1, e2⟩ := sa_ii_ok (fun _ _ _ _ => fa_shr_ok) h1 hs; exact ⟨r, congrArg (Option.map (·, 1)) e1, e2⟩
  · obtain ⟨r, e1, e2⟩ := sa_ii_ok (f := fun x y => (x.toUInt32 >>> (y.toUInt32 &&& Int32.toUInt32 31)).toInt32) (fun _ _ _ _ _ _ _ _ => ty_any _) h1 hs; exact ⟨r, congrArg (Option.map (·, 1)) e1, e2⟩
  · obtain ⟨r, e1, e2⟩ := sa_rm_ok h1 hs; exact ⟨r, congrArg (Option.map (·, 1)) e1, e2⟩
  · obtain ⟨r, e1, e2⟩ := sa_i_ok (f := fun x => .int (-x)) (fun _ => ty_any _) h1 hs; exact ⟨r, congrArg (Option.map (·, 1)) e1, e2⟩
  · obtain ⟨r, e1, e2⟩ := sa_ll_ok (f := fun x y => x + y) h1 hs; exact ⟨r, congrArg (Option.map (·, 1)) e1, e2⟩
  · obtain ⟨r, e1, e2⟩ := sa_ll_ok (f := fun x y => x - y) h1 hs; exact ⟨r, congrArg (Option.map (·, 1)) e1, e2⟩
  · obtain ⟨r, e1, e2⟩ := sa_ll_ok (f := fun x y => x &&& y) h1 hs; exact ⟨r, congrArg (Option.map (·, 1)) e1, e2⟩
  · obtain ⟨r, e1, e2⟩ := sa_ll_ok (f := fun x y => x ||| y) h1 hs; exact ⟨r, congrArg (Option.map (·, 1)) e1, e2⟩
  · obtain ⟨r, e1, e2⟩ := sa_ll_ok (f := fun x y => x ^^^ y) h1 hs; exact ⟨r, congrArg (Option.map (·, 1)) e1, e2⟩
  · obtain ⟨r, e1, e2⟩ := sa_li_ok (f := fun x y => x <<< (y.toInt64 &&& 63)) h1 hs; exact ⟨r, congrArg (Option.map (·, 1)) e1, e2⟩
  · obtain ⟨r, e1, e2⟩ := sa_li_ok (f := fun x y => x >>> (y.toInt64 &&& 63)) h1 hs; exact ⟨r, congrArg (Option.map (·, 1)) e1, e2⟩
  · obtain ⟨r, e1, e2⟩ := sa_li_ok (f := fun x y => (x.toUInt64 >>> (y.toInt64.toUInt64 &&& Int64.toUInt64 63)).toInt64) h1 hs; exact ⟨r, congrArg (Option.map (·, 1)) e1, e2⟩
  · obtain ⟨r, e1, e2⟩ := sa_cm_ok h1 hs; exact ⟨r, congrArg (Option.map (·, 1)) e1, e2⟩
  · obtain ⟨r, e1, e2⟩ := sa_i_ok (t := (1, 0, 0)) (f := fun x => .long x.toInt64) (fun x => (⟨x.toInt64, rfl⟩ : ∃ z : Int64, Value.long x.toInt64 = .long z)) h1 hs; exact ⟨r, congrArg (Option.map (·, 1)) e1, e2⟩
  · obtain ⟨r, e1, e2⟩ := sa_l_ok (f := fun x => .int x.toInt32) (fun _ => ty_any _) h1 hs; exact ⟨r, congrArg (Option.map (·, 1)) e1, e2⟩
  · obtain ⟨r, e1, e2⟩ := sa_i_ok (f := fun x => .int x.toInt8.toInt32) (fun x => ty_i8 x) h1 hs; exact ⟨r, congrArg (Option.map (·, 1)) e1, e2⟩
  · obtain ⟨r, e1, e2⟩ := sa_d1_ok h1 hs; exact ⟨r, congrArg (Option.map (·, 1)) e1, e2⟩
  · obtain ⟨r, e1, e2⟩ := sa_d2_ok h1 hs; exact ⟨r, congrArg (Option.map (·, 1)) e1, e2⟩
  · obtain ⟨r, e1, e2⟩ := sa_x1_ok h1 hs; exact ⟨r, congrArg (Option.map (·, 1)) e1, e2⟩
  · obtain ⟨r, e1, e2⟩ := sa_x2_ok h1 hs; exact ⟨r, congrArg (Option.map (·, 1)) e1, e2⟩
  · obtain ⟨r, e1, e2⟩ := sa_p1_ok h1 hs; exact ⟨r, congrArg (Option.map (·, 1)) e1, e2⟩
  · obtain ⟨r, e1, e2⟩ := sa_p2_ok h1 hs; exact ⟨r, congrArg (Option.map (·, 1)) e1, e2⟩
end SA
