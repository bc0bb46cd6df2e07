/-! KINDS of cells: (0, ci, types of the fields): an object of class ci; (1 + j, n, [t]): an array of n ints of t, its class the j-th of tys; (20 + j, n, []): an array of n longs; else nothing is said. -/
abbrev ty_D : Type := Nat × Nat × List ty_T
abbrev ty_no : Int32 → Prop := fun _ => False
/-- a cell of a kind -/
def ty_ok (tys : List (ClassId × FieldType)) (σ : ty_K) (d : ty_D) (e : va_E) : Prop :=
  (d.1 = 0 → ∃ fs : List Value, e = .inr (d.2.1, fs) ∧ ∀ (i : Nat) (t : ty_T), d.2.2[i]? = some t → ∃ v : Value, fs[i]? = some v ∧ ty_has σ 0 ty_no v t) ∧
  (∀ j : Nat, d.1 = 1 + j → j < 10 → ∃ (cA : ClassId) (ft : FieldType) (f : Nat → Int32), tys[j]? = some (cA, ft) ∧ e = .inl (cA, d.2.1, .inl f) ∧ ∀ t, d.2.2 = [t] → ∀ i, i < d.2.1 → ty_has σ 0 ty_no (.int (f i)) t) ∧
  (∀ j : Nat, d.1 = 20 + j → ∃ (cA : ClassId) (ft : FieldType) (f : Nat → Int64), tys[j]? = some (cA, ft) ∧ e = .inl (cA, d.2.1, .inr (.inl f)))
/-- all cells that have a kind are of it -/
def ty_H (tys : List (ClassId × FieldType)) (KT : List ty_D) (σ : ty_K) (M : mh_M) : Prop := ∀ a k, σ a = some k → a ∈ M.1 ∧ ∃ d, KT[k]? = some d ∧ ty_ok tys σ d (M.2 a)
/-- a cell's i-th place -/
def ty_p (e : va_E) (i : Nat) : (ClassId × vp_A) ⊕ Option Value := match e with
  | .inl x => if i = 0 then .inl x else .inr none
  | .inr o => .inr (o.2[i]?)
/-- from (σ, M) to (σ', M'): kinds stay, the places in P stay, what is new is of a kind in B -/
def ty_F (P : Nat → Nat → Prop) (B : Nat → Prop) (σ : ty_K) (M : mh_M) (σ' : ty_K) (M' : mh_M) : Prop :=
  (∀ a, a ∈ M.1 → a ∈ M'.1) ∧ (∀ a k, σ a = some k → σ' a = some k ∧ ∀ i, P k i → ty_p (M'.2 a) i = ty_p (M.2 a) i) ∧ (∀ a k, σ a = none → σ' a = some k → B k)
theorem ty_F.rf {P : Nat → Nat → Prop} {B : Nat → Prop} {σ : ty_K} {M : mh_M} : ty_F P B σ M σ M := ⟨fun _ h => h, fun _ _ h => ⟨h, fun _ _ => rfl⟩, fun a k h1 h2 => by rw [h1] at h2; cases h2⟩
theorem ty_F.tr {P : Nat → Nat → Prop} {B : Nat → Prop} {σ σ' σ'' : ty_K} {M M' M'' : mh_M} (h : ty_F P B σ M σ' M') (h' : ty_F P B σ' M' σ'' M'') : ty_F P B σ M σ'' M'' := by
  refine ⟨fun a q => h'.1 a (h.1 a q), fun a k q => ?_, fun a k q1 q2 => ?_⟩
  · obtain ⟨r1, r2⟩ := h.2.1 a k q
    obtain ⟨r3, r4⟩ := h'.2.1 a k r1
    exact ⟨r3, fun i hi => (r4 i hi).trans (r2 i hi)⟩
  · cases hq : σ' a with
    | none => exact h'.2.2 a k hq q2
    | some k2 =>
      have r := (h'.2.1 a k2 hq).1
      rw [q2] at r
      cases r
      exact h.2.2 a k q1 hq
theorem ty_F.mono {P P' : Nat → Nat → Prop} {B B' : Nat → Prop} {σ σ' : ty_K} {M M' : mh_M} (hp : ∀ k i, P' k i → P k i) (hb : ∀ k, B k → B' k) (h : ty_F P B σ M σ' M') : ty_F P' B' σ M σ' M' :=
  ⟨h.1, fun a k q => ⟨(h.2.1 a k q).1, fun i hi => (h.2.1 a k q).2 i (hp k i hi)⟩, fun a k q1 q2 => hb k (h.2.2 a k q1 q2)⟩
/-- what a method that writes 'mods' and makes 'news' leaves -/
abbrev ty_FM (mods : List (Nat × Nat)) (news : List Nat) (σ : ty_K) (M : mh_M) (σ' : ty_K) (M' : mh_M) : Prop := ty_F (fun k i => (k, i) ∉ mods) (fun k => k ∈ news) σ M σ' M'
/-- what leaves the places PS alone -/
abbrev ty_FP (PS : List (Nat × Nat)) (σ : ty_K) (M : mh_M) (σ' : ty_K) (M' : mh_M) : Prop := ty_F (fun k i => (k, i) ∈ PS) (fun k => ∀ i, (k, i) ∉ PS) σ M σ' M'
/-- what leaves the kind kp alone -/
abbrev ty_FK (kp : Nat) (σ : ty_K) (M : mh_M) (σ' : ty_K) (M' : mh_M) : Prop := ty_F (fun k _ => k = kp) (fun k => k ≠ kp) σ M σ' M'
theorem ty_F.kinds {P : Nat → Nat → Prop} {B : Nat → Prop} {σ σ' : ty_K} {M M' : mh_M} (h : ty_F P B σ M σ' M') : ∀ a k, σ a = some k → σ' a = some k := fun a k q => (h.2.1 a k q).1
/-! one cell is written -/
theorem ty_ok_mono {tys : List (ClassId × FieldType)} {σ σ' : ty_K} {d : ty_D} {e : va_E} (hs : ∀ a k, σ a = some k → σ' a = some k) (h : ty_ok tys σ d e) : ty_ok tys σ' d e := by
  obtain ⟨h1, h2, h3⟩ := h
  refine ⟨fun q => ?_, fun j q qj => ?_, h3⟩
  · obtain ⟨fs, r1, r2⟩ := h1 q
    exact ⟨fs, r1, fun i t ht => by obtain ⟨v, s1, s2⟩ := r2 i t ht; exact ⟨v, s1, ty_has_mono hs s2⟩⟩
  · obtain ⟨cA, ft, f, r1, r2, r3⟩ := h2 j q qj
    exact ⟨cA, ft, f, r1, r2, fun t ht i hi => ty_has_mono hs (r3 t ht i hi)⟩
theorem ty_H_set {tys : List (ClassId × FieldType)} {KT : List ty_D} {σ : ty_K} {M : mh_M} {a k : Nat} {d : ty_D} {e : va_E} (h : ty_H tys KT σ M) (hk : σ a = some k) (hd : KT[k]? = some d) (he : ty_ok tys σ d e) : ty_H tys KT σ (mh_set M a e) := by
  intro b k2 hb
  obtain ⟨h1, d2, h2, h3⟩ := h b k2 hb
  refine ⟨h1, d2, h2, ?_⟩
  by_cases q : b = a
  · subst q
    rw [hk] at hb
    cases hb
    rw [hd] at h2
    cases h2
    show ty_ok tys σ d (va_up M.2 b e b)
    rw [va_up_self]
    exact he
  · show ty_ok tys σ d2 (va_up M.2 a e b)
    rw [va_up_ne _ _ q]
    exact h3
theorem ty_F_set {P : Nat → Nat → Prop} {B : Nat → Prop} {σ : ty_K} {M : mh_M} {a k : Nat} {e : va_E} (hk : σ a = some k) (hp : ∀ i, P k i → ty_p e i = ty_p (M.2 a) i) : ty_F P B σ M σ (mh_set M a e) := by
  refine ⟨fun _ h => h, fun b k2 hb => ⟨hb, fun i hi => ?_⟩, fun b k2 h1 h2 => by rw [h1] at h2; cases h2⟩
  by_cases q : b = a
  · subst q
    rw [hk] at hb
    cases hb
    show ty_p (va_up M.2 b e b) i = _
    rw [va_up_self]
    exact hp i hi
  · show ty_p (va_up M.2 a e b) i = _
    rw [va_up_ne _ _ q]
/-- a new cell gets a kind -/
def ty_new (σ : ty_K) (a k : Nat) : ty_K := fun b => if b = a then some k else σ b
theorem ty_new_le {tys : List (ClassId × FieldType)} {KT : List ty_D} {σ : ty_K} {M : mh_M} {a k : Nat} (h : ty_H tys KT σ M) (ha : a ∉ M.1) : ∀ b k2, σ b = some k2 → ty_new σ a k b = some k2 := by
  intro b k2 hb
  unfold ty_new
  rw [if_neg (show ¬ b = a from fun q => ha (q ▸ (h b k2 hb).1))]
  exact hb
theorem ty_H_new {tys : List (ClassId × FieldType)} {KT : List ty_D} {σ : ty_K} {M : mh_M} {a k : Nat} {d : ty_D} {e : va_E} (h : ty_H tys KT σ M) (ha : a ∉ M.1) (hd : KT[k]? = some d) (he : ty_ok tys (ty_new σ a k) d e) : ty_H tys KT (ty_new σ a k) (mh_new M a e) := by
  intro b k2 hb
  by_cases q : b = a
  · subst q
    unfold ty_new at hb
    rw [if_pos rfl] at hb
    cases hb
    refine ⟨List.mem_append_right _ (List.mem_singleton.mpr rfl), d, hd, ?_⟩
    show ty_ok tys _ d (va_up M.2 b e b)
    rw [va_up_self]
    exact he
  · have hb2 : σ b = some k2 := by unfold ty_new at hb; rw [if_neg q] at hb; exact hb
    obtain ⟨h1, d2, h2, h3⟩ := h b k2 hb2
    refine ⟨List.mem_append_left _ h1, d2, h2, ?_⟩
    show ty_ok tys _ d2 (va_up M.2 a e b)
    rw [va_up_ne _ _ q]
    exact ty_ok_mono (ty_new_le h ha) h3
theorem ty_F_new {tys : List (ClassId × FieldType)} {KT : List ty_D} {P : Nat → Nat → Prop} {B : Nat → Prop} {σ : ty_K} {M : mh_M} {a k : Nat} {e : va_E} (h : ty_H tys KT σ M) (ha : a ∉ M.1) (hb : B k) : ty_F P B σ M (ty_new σ a k) (mh_new M a e) := by
  refine ⟨fun _ h => List.mem_append_left _ h, fun b k2 hb => ⟨ty_new_le h ha b k2 hb, fun i hi => ?_⟩, fun b k2 h1 h2 => ?_⟩
  · show ty_p (va_up M.2 a e b) i = _
    rw [va_up_ne _ _ (show b ≠ a from fun q => ha (q ▸ (h b k2 hb).1))]
  · unfold ty_new at h2
    by_cases q : b = a
    · rw [if_pos q] at h2
      cases h2
      exact hb
    · rw [if_neg q, h1] at h2
      cases h2
