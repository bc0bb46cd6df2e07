/-! TYPES. A type is (tag, lo, hi): 0 an int in [lo, hi]; 1 a long; 2 a reference of kind lo; 3 the same or null; 4 an int in [lo, hi] that is a page now; 5 the int -1 or an int in [lo, hi]; 6 an int in [lo, hi] that is the ghost g; 7 an int in [lo, hi] above the ghost; 8 as 6 and a page now; else nothing is said. -/
abbrev ty_T : Type := Nat × Int × Int
abbrev ty_K : Type := Nat → Option Nat
def ty_has (σ : ty_K) (g : Int) (pg : Int32 → Prop) (v : Value) (t : ty_T) : Prop :=
  match t.1 with
  | 0 => ∃ x : Int32, v = .int x ∧ t.2.1 ≤ x.toInt ∧ x.toInt ≤ t.2.2
  | 1 => ∃ x : Int64, v = .long x
  | 2 => ∃ a : Nat, v = .ref a ∧ σ a = some t.2.1.toNat
  | 3 => v = .null ∨ ∃ a : Nat, v = .ref a ∧ σ a = some t.2.1.toNat
  | 4 => ∃ x : Int32, v = .int x ∧ t.2.1 ≤ x.toInt ∧ x.toInt ≤ t.2.2 ∧ pg x
  | 5 => ∃ x : Int32, v = .int x ∧ (x.toInt = -1 ∨ (t.2.1 ≤ x.toInt ∧ x.toInt ≤ t.2.2))
  | 6 => ∃ x : Int32, v = .int x ∧ t.2.1 ≤ x.toInt ∧ x.toInt ≤ t.2.2 ∧ x.toInt = g
  | 7 => ∃ x : Int32, v = .int x ∧ t.2.1 ≤ x.toInt ∧ x.toInt ≤ t.2.2 ∧ g < x.toInt
  | 8 => ∃ x : Int32, v = .int x ∧ t.2.1 ≤ x.toInt ∧ x.toInt ≤ t.2.2 ∧ x.toInt = g ∧ pg x
  | _ => True
def ty_rng (t : ty_T) : Option (Int × Int) := match t.1 with
  | 0 | 4 | 6 | 7 | 8 => some t.2
  | 5 => some (min (-1) t.2.1, max (-1) t.2.2)
  | _ => none
theorem ty_rng_ok {σ : ty_K} {g : Int} {pg : Int32 → Prop} {v : Value} {t : ty_T} {r : Int × Int} (h : ty_rng t = some r) (hv : ty_has σ g pg v t) : ∃ x : Int32, v = .int x ∧ r.1 ≤ x.toInt ∧ x.toInt ≤ r.2 := by
  obtain ⟨n, lo, hi⟩ := t
  unfold ty_rng at h
  dsimp only at h
  split at h
  · cases h; exact hv
  · cases h; obtain ⟨x, h1, h2, h3, -⟩ := hv; exact ⟨x, h1, h2, h3⟩
  · cases h; obtain ⟨x, h1, h2, h3, -⟩ := hv; exact ⟨x, h1, h2, h3⟩
  · cases h; obtain ⟨x, h1, h2, h3, -⟩ := hv; exact ⟨x, h1, h2, h3⟩
  · cases h; obtain ⟨x, h1, h2, h3, -⟩ := hv; exact ⟨x, h1, h2, h3⟩
  · cases h; obtain ⟨x, h1, h2⟩ := hv; exact ⟨x, h1, by dsimp only at h2 ⊢; omega, by dsimp only at h2 ⊢; omega⟩
  · cases h
def ty_c1 (t : ty_T) : Bool := match t.1 with
  | 0 | 2 | 3 | 4 | 5 | 6 | 7 | 8 => true
  | _ => false
theorem ty_c1_ok {σ : ty_K} {g : Int} {pg : Int32 → Prop} {v : Value} {t : ty_T} (h : ty_c1 t = true) (hv : ty_has σ g pg v t) : v.category = 1 := by
  obtain ⟨n, lo, hi⟩ := t
  unfold ty_c1 at h
  dsimp only at h
  split at h
  · obtain ⟨x, rfl, -⟩ := hv; rfl
  · obtain ⟨x, rfl, -⟩ := hv; rfl
  · rcases hv with rfl | ⟨x, rfl, -⟩ <;> rfl
  · obtain ⟨x, rfl, -⟩ := hv; rfl
  · obtain ⟨x, rfl, -⟩ := hv; rfl
  · obtain ⟨x, rfl, -⟩ := hv; rfl
  · obtain ⟨x, rfl, -⟩ := hv; rfl
  · obtain ⟨x, rfl, -⟩ := hv; rfl
  · cases h
/-- the first is at least as sharp as the second -/
def ty_sub (a b : ty_T) : Bool := match b.1 with
  | 0 => match ty_rng a with
    | some r => decide (b.2.1 ≤ r.1) && decide (r.2 ≤ b.2.2)
    | none => false
  | 1 => a.1 == 1
  | 2 => a.1 == 2 && a.2.1 == b.2.1
  | 3 => (a.1 == 2 || a.1 == 3) && a.2.1 == b.2.1
  | 4 => (a.1 == 4 || a.1 == 8) && decide (b.2.1 ≤ a.2.1) && decide (a.2.2 ≤ b.2.2)
  | 5 => (a.1 == 5 && decide (b.2.1 ≤ a.2.1) && decide (a.2.2 ≤ b.2.2)) || (match ty_rng a with
    | some r => (decide (-1 ≤ r.1) && decide (r.2 ≤ -1)) || (decide (b.2.1 ≤ r.1) && decide (r.2 ≤ b.2.2))
    | none => false)
  | 6 | 7 | 8 => false
  | _ => true
theorem ty_sub_ok {σ : ty_K} {g g' : Int} {pg : Int32 → Prop} {v : Value} {a b : ty_T} (h : ty_sub a b = true) (hv : ty_has σ g pg v a) : ty_has σ g' pg v b := by
  obtain ⟨n, lo, hi⟩ := b
  unfold ty_sub at h
  dsimp only at h
  split at h
  · split at h
    · rename_i r hr
      obtain ⟨x, h1, h2, h3⟩ := ty_rng_ok hr hv
      simp only [Bool.and_eq_true, decide_eq_true_eq] at h
      exact ⟨x, h1, Int.le_trans h.1 h2, Int.le_trans h3 h.2⟩
    · cases h
  · obtain ⟨m, l2, h2⟩ := a
    have e : m = 1 := by simpa using h
    subst e
    exact hv
  · obtain ⟨m, l2, h2⟩ := a
    simp only [Bool.and_eq_true, beq_iff_eq] at h
    obtain ⟨rfl, rfl⟩ := h
    exact hv
  · obtain ⟨m, l2, h2⟩ := a
    simp only [Bool.and_eq_true, Bool.or_eq_true, beq_iff_eq] at h
    obtain ⟨h1 | h1, rfl⟩ := h
    · subst h1; exact Or.inr hv
    · subst h1; exact hv
  · obtain ⟨m, l2, h2⟩ := a
    simp only [Bool.and_eq_true, Bool.or_eq_true, beq_iff_eq, decide_eq_true_eq] at h
    obtain ⟨⟨e | e, q1⟩, q2⟩ := h
    · subst e
      obtain ⟨x, h1, h2, h3, h4⟩ := hv
      exact ⟨x, h1, Int.le_trans q1 h2, Int.le_trans h3 q2, h4⟩
    · subst e
      obtain ⟨x, h1, h2, h3, -, h4⟩ := hv
      exact ⟨x, h1, Int.le_trans q1 h2, Int.le_trans h3 q2, h4⟩
  · obtain ⟨m, l2, h2⟩ := a
    simp only [Bool.or_eq_true, Bool.and_eq_true, beq_iff_eq, decide_eq_true_eq] at h
    rcases h with ⟨⟨e, q1⟩, q2⟩ | h
    · subst e
      obtain ⟨x, h1, h2⟩ := hv
      exact ⟨x, h1, h2.imp id (fun h => ⟨Int.le_trans q1 h.1, Int.le_trans h.2 q2⟩)⟩
    · split at h
      · rename_i r hr
        obtain ⟨x, h1, h2, h3⟩ := ty_rng_ok hr hv
        simp only [Bool.or_eq_true, Bool.and_eq_true, decide_eq_true_eq] at h
        rcases h with ⟨q1, q2⟩ | ⟨q1, q2⟩
        · exact ⟨x, h1, Or.inl (by omega)⟩
        · exact ⟨x, h1, Or.inr ⟨by show lo ≤ _; omega, by show _ ≤ hi; omega⟩⟩
      · cases h
  · cases h
  · cases h
  · cases h
  · rename_i q1 q2 q3 q4 q5 q6 q7 q8 q9
    unfold ty_has
    dsimp only
    split
    · exact absurd rfl q1
    · exact absurd rfl q2
    · exact absurd rfl q3
    · exact absurd rfl q4
    · exact absurd rfl q5
    · exact absurd rfl q6
    · exact absurd rfl q7
    · exact absurd rfl q8
    · exact absurd rfl q9
    · trivial
/-- a type that says nothing of the ghost or of pages -/
def ty_plain (t : ty_T) : Bool := match t.1 with
  | 4 | 6 | 7 | 8 => false
  | _ => true
theorem ty_plain_ok {σ : ty_K} {g g' : Int} {pg pg' : Int32 → Prop} {v : Value} {t : ty_T} (h : ty_plain t = true) (hv : ty_has σ g pg v t) : ty_has σ g' pg' v t := by
  obtain ⟨n, lo, hi⟩ := t
  unfold ty_plain at h
  dsimp only at h
  split at h
  · cases h
  · cases h
  · cases h
  · cases h
  · rename_i q1 q2 q3 q4
    unfold ty_has at hv ⊢
    dsimp only at hv ⊢
    split at hv <;> first | exact hv | exact absurd rfl q1 | exact absurd rfl q2 | exact absurd rfl q3 | exact absurd rfl q4
/-- kinds that grow -/
theorem ty_has_mono {σ σ' : ty_K} {g : Int} {pg : Int32 → Prop} {v : Value} {t : ty_T} (hs : ∀ a k, σ a = some k → σ' a = some k) (hv : ty_has σ g pg v t) : ty_has σ' g pg v t := by
  obtain ⟨n, lo, hi⟩ := t
  unfold ty_has at hv ⊢
  dsimp only at hv ⊢
  split at hv <;> try exact hv
  · obtain ⟨a, h1, h2⟩ := hv; exact ⟨a, h1, hs _ _ h2⟩
  · rcases hv with h | ⟨a, h1, h2⟩
    · exact Or.inl h
    · exact Or.inr ⟨a, h1, hs _ _ h2⟩
/-- what is forgotten when pages change -/
def ty_wk (t : ty_T) : ty_T := match t.1 with
  | 4 => (0, t.2.1, t.2.2)
  | 8 => (6, t.2.1, t.2.2)
  | _ => t
theorem ty_wk_ok {σ : ty_K} {g : Int} {pg pg' : Int32 → Prop} {v : Value} {t : ty_T} (hv : ty_has σ g pg v t) : ty_has σ g pg' v (ty_wk t) := by
  obtain ⟨n, lo, hi⟩ := t
  unfold ty_wk
  dsimp only
  split
  · obtain ⟨x, h1, h2, h3, -⟩ := hv; exact ⟨x, h1, h2, h3⟩
  · obtain ⟨x, h1, h2, h3, h4, -⟩ := hv; exact ⟨x, h1, h2, h3, h4⟩
  · rename_i q q'
    unfold ty_has at hv ⊢
    dsimp only at hv ⊢
    split at hv <;> first | exact hv | exact absurd rfl q | exact absurd rfl q'
theorem ty_has_pg {σ : ty_K} {g : Int} {pg pg' : Int32 → Prop} {v : Value} {t : ty_T} (hp : ∀ x, pg x → pg' x) (hv : ty_has σ g pg v t) : ty_has σ g pg' v t := by
  obtain ⟨n, lo, hi⟩ := t
  unfold ty_has at hv ⊢
  dsimp only at hv ⊢
  split at hv <;> try exact hv
  · obtain ⟨x, h1, h2, h3, h4⟩ := hv
    exact ⟨x, h1, h2, h3, hp x h4⟩
  · obtain ⟨x, h1, h2, h3, h4, h5⟩ := hv
    exact ⟨x, h1, h2, h3, h4, hp x h5⟩
/-- it is a page -/
def ty_sp (t : ty_T) : ty_T := match t.1 with
  | 0 | 7 => (4, t.2.1, t.2.2)
  | 6 => (8, t.2.1, t.2.2)
  | _ => t
theorem ty_sp_ok {σ : ty_K} {g : Int} {pg : Int32 → Prop} {z : Int32} {t : ty_T} (hp : pg z) (hv : ty_has σ g pg (.int z) t) : ty_has σ g pg (.int z) (ty_sp t) := by
  obtain ⟨n, lo, hi⟩ := t
  unfold ty_sp
  dsimp only
  split
  · obtain ⟨x, h1, h2, h3⟩ := hv; cases h1; exact ⟨z, rfl, h2, h3, hp⟩
  · obtain ⟨x, h1, h2, h3, -⟩ := hv; cases h1; exact ⟨z, rfl, h2, h3, hp⟩
  · obtain ⟨x, h1, h2, h3, h4⟩ := hv; cases h1; exact ⟨z, rfl, h2, h3, h4, hp⟩
  · exact hv
/-- its range is known better -/
def ty_nr (t : ty_T) (r : Int × Int) : ty_T := if t.1 = 5 then (if -1 < r.1 ∨ r.2 < -1 then (0, max t.2.1 r.1, min t.2.2 r.2) else t) else match ty_rng t with
  | some q => (t.1, max q.1 r.1, min q.2 r.2)
  | none => t
theorem ty_nr_ok {σ : ty_K} {g : Int} {pg : Int32 → Prop} {z : Int32} {t : ty_T} {r : Int × Int} (h1 : r.1 ≤ z.toInt) (h2 : z.toInt ≤ r.2) (hv : ty_has σ g pg (.int z) t) : ty_has σ g pg (.int z) (ty_nr t r) := by
  obtain ⟨n, lo, hi⟩ := t
  unfold ty_nr
  split
  · rename_i e5
    have e5 : n = 5 := e5
    subst e5
    split
    · rename_i hr
      obtain ⟨x, e, a⟩ := hv
      cases e
      dsimp only at a
      exact ⟨z, rfl, Int.max_le.mpr ⟨by dsimp only; omega, h1⟩, Int.le_min.mpr ⟨by dsimp only; omega, h2⟩⟩
    · exact hv
  rename_i e5
  split
  · rename_i q hq
    unfold ty_rng at hq
    dsimp only at hq
    split at hq
    · cases hq; obtain ⟨x, e, a, b⟩ := hv; cases e; exact ⟨z, rfl, Int.max_le.mpr ⟨a, h1⟩, Int.le_min.mpr ⟨b, h2⟩⟩
    · cases hq; obtain ⟨x, e, a, b, c⟩ := hv; cases e; exact ⟨z, rfl, Int.max_le.mpr ⟨a, h1⟩, Int.le_min.mpr ⟨b, h2⟩, c⟩
    · cases hq; obtain ⟨x, e, a, b, c⟩ := hv; cases e; exact ⟨z, rfl, Int.max_le.mpr ⟨a, h1⟩, Int.le_min.mpr ⟨b, h2⟩, c⟩
    · cases hq; obtain ⟨x, e, a, b, c⟩ := hv; cases e; exact ⟨z, rfl, Int.max_le.mpr ⟨a, h1⟩, Int.le_min.mpr ⟨b, h2⟩, c⟩
    · cases hq; obtain ⟨x, e, a, b, c⟩ := hv; cases e; exact ⟨z, rfl, Int.max_le.mpr ⟨a, h1⟩, Int.le_min.mpr ⟨b, h2⟩, c⟩
    · exact absurd rfl e5
    · cases hq
  · exact hv
/-! numbers -/
def ty_iv (lo hi : Int) : ty_T := if -2147483648 ≤ lo ∧ hi ≤ 2147483647 then (0, lo, hi) else (0, -2147483648, 2147483647)
theorem ty_any {σ : ty_K} {g : Int} {pg : Int32 → Prop} (x : Int32) : ty_has σ g pg (.int x) (0, -2147483648, 2147483647) :=
  ⟨x, rfl, by have := Int32.le_toInt x; simpa using this, by have := Int32.toInt_lt x; show x.toInt ≤ 2147483647; omega⟩
theorem ty_iv_ok {σ : ty_K} {g : Int} {pg : Int32 → Prop} {x : Int32} {lo hi : Int} (h : -2147483648 ≤ lo → hi ≤ 2147483647 → lo ≤ x.toInt ∧ x.toInt ≤ hi) : ty_has σ g pg (.int x) (ty_iv lo hi) := by
  unfold ty_iv
  split
  · rename_i q; exact ⟨x, rfl, (h q.1 q.2).1, (h q.1 q.2).2⟩
  · exact ty_any x
theorem ty_bm {z : Int} (h1 : -2147483648 ≤ z) (h2 : z ≤ 2147483647) : z.bmod (2 ^ 32) = z := by
  rw [Int.bmod_def]
  omega
