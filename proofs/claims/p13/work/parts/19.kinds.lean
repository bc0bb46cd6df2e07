/-! THE KINDS OF CELLS. The class: 0 KnowDisk, 1 Sectors, 2 Waiting, 3 State, 4 the list of writes, 5 the list of states, 6 places, 7 a disk's bytes, 8 a sector's bytes, 9 Write, 10 and 11 the lists' arrays. The reference: 12 KnowDiskModel, 13 disk, 14 later, 15 open, 16 laid, 17 places, 18 targets, 19 bytes, 20 numbers, 21 sectors, 22 keptNumbers, 23 keptSectors, 24 head. The law: 25 out. While they are made: 26 a Write, 27 a KnowDisk, 28 a Waiting, 29 a Sectors. -/
abbrev pB : ty_T := (0, 0, 1)
def pKT : List ty_D := [
  (0, 6, [(1, 0, 0), (2, 1, 0), (2, 1, 0), (2, 2, 0), (2, 5, 0), (2, 6, 0), pB, pB, pB, (1, 0, 0), (1, 0, 0), (2, 3, 0), (1, 0, 0)]),
  (0, 2, [(2, 7, 0)]),
  (0, 4, [(2, 4, 0), (1, 0, 0)]),
  (0, 3, [ty_f, (1, 0, 0)]),
  (0, 1, []),
  (0, 1, []),
  (2, 30, [ty_f]),
  (1, 2048, [(0, -128, 127)]),
  (1, 32, [(0, -128, 127)]),
  (0, 5, [ty_f, (2, 8, 0)]),
  (19, 0, []),
  (19, 0, []),
  (0, 7, [(0, 8, 64), pB, pB, (2, 13, 0), (2, 14, 0), (2, 15, 0), (2, 16, 0), (2, 17, 0), pB, (2, 18, 0), (2, 19, 0), (0, 0, 1199), (0, 0, 1199), (2, 20, 0), (2, 21, 0), (0, 0, 0), (0, 0, 1198), (2, 22, 0), (2, 23, 0), (0, 0, 4), pB, (2, 24, 0)]),
  (2, 2048, [(0, 0, 255)]),
  (2, 2048, [(0, 0, 255)]),
  (2, 2048, [(0, 0, 255)]),
  (3, 64, [pB]),
  (2, 30, [(5, 2, 63)]),
  (2, 1200, [(0, 0, 63)]),
  (2, 38400, [(0, 0, 255)]),
  (2, 1200, [(0, 0, 2147483647)]),
  (23, 1200, []),
  (2, 4, [ty_f]),
  (23, 4, []),
  (2, 32, [(0, 0, 255)]),
  (23, 1, []),
  (0, 5, []),
  (0, 6, []),
  (0, 4, []),
  (0, 2, [])]
/-- the places that only a few methods write: of them an invariant may speak -/
def pPS : List (Nat × Nat) := [(4, 0), (4, 1), (4, 2), (4, 3), (5, 0), (5, 1), (5, 2), (5, 3), (10, 0), (11, 0), (12, 11), (12, 12), (12, 16), (13, 0), (16, 0), (17, 0), (18, 0), (19, 0), (24, 0)]
/-- z is a page of the reference -/
def pPG (σ : ty_K) (M : mh_M) (z : Int32) : Prop := ∀ a, σ a = some 17 → ∃ (cA : ClassId) (f : Nat → Int32), M.2 a = .inl (cA, 30, .inl f) ∧ vp_in z 30 ∧ f z.toNatClampNeg ≠ -1
theorem pPG_s : ty_sP 17 pPG := by
  intro σ M σ' M' hF z hz a ha
  cases hq : σ a with
  | none => exact absurd rfl (hF.2.2 a 17 hq ha)
  | some k =>
    obtain ⟨h1, h2⟩ := hF.2.1 a k hq
    rw [ha] at h1
    cases h1
    obtain ⟨cA, f, e1, e2, e3⟩ := hz a hq
    have h3 := h2 0 rfl
    rw [e1] at h3
    cases hm : M'.2 a with
    | inl y =>
      rw [hm] at h3
      have h4 : (Sum.inl y : (ClassId × vp_A) ⊕ Option Value) = .inl (cA, 30, .inl f) := h3
      cases h4
      exact ⟨cA, f, rfl, e2, e3⟩
    | inr o =>
      rw [hm] at h3
      have h4 : (Sum.inr (o.2[0]?) : (ClassId × vp_A) ⊕ Option Value) = .inl (cA, 30, .inl f) := h3
      cases h4
/-- the stores that every invariant here allows: laid gets false, places get -1 or a sector from 2 on, the disk behind its heads, a head where its number's first byte stays below 128 -/
def pSW : List (Nat × Int × Int × Int × Int) := [(16, 0, 63, 0, 0), (17, 0, 29, -1, 63), (13, 64, 2047, 0, 255), (24, 0, 31, 0, 127), (24, 0, 15, 0, 255), (24, 17, 31, 0, 255)]
/-- what the typed methods rest on -/
abbrev pG (tys : List (ClassId × FieldType)) (INV : ty_K → mh_M → Prop) : Prop := ty_tys tys ∧ ty_sI pPS INV ∧ ty_pV tys pKT INV 17 pPG ∧ ty_sS tys pKT pSW INV
theorem pu {C : String} {T : u_T} {N : Nat} (is : List Nat) (h : (u_ws C T N) = is.filterMap (fun i => tables_1[i]?)) (hk : (u_ws C T N).all kw_ok = true) : ∀ w ∈ u_ws C T N, w ∈ kwT := by
  intro w hw
  refine kwT_in ?_ (List.all_eq_true.mp hk w hw)
  rw [h] at hw
  obtain ⟨i, -, hi⟩ := List.mem_filterMap.mp hw
  exact kw_at i hi
theorem pnil {α : Type} {P : α → Prop} : ∀ q ∈ ([] : List α), P q := fun _ h => absurd h List.not_mem_nil
theorem pcons {α : Type} {P : α → Prop} {a : α} {l : List α} (h1 : P a) (h2 : ∀ q ∈ l, P q) : ∀ q ∈ a :: l, P q := List.forall_mem_cons.mpr ⟨h1, h2⟩
theorem pNA {x : gx_T} {cc : ByteArray} {nL : Nat} {tys : List (ClassId × FieldType)} {own : String} (ht : ty_tys tys) (hx : gC x vwCl cc nL tys kwT own) : (∀ cA ft, tys[0]? = some (cA, ft) → gR_nai x vwCl cc .byte cA) ∧ (∀ cA ft, tys[1]? = some (cA, ft) → gR_nai x vwCl cc .int cA) ∧ (∀ cA ft, tys[2]? = some (cA, ft) → gR_nai x vwCl cc .boolean cA) := by
  obtain ⟨cB, cI, cZ, cJ, r, rfl⟩ := ht
  refine ⟨fun cA ft h => ?_, fun cA ft h => ?_, fun cA ft h => ?_⟩
  · cases h; exact gR_naiP hx 0 rfl rfl (fun _ q => by cases q) rfl (by decide) (kw_at 46 (by decide +kernel))
  · cases h; exact gR_naiP hx 1 rfl rfl (fun _ q => by cases q) rfl (by decide) (kw_at 106 (by decide +kernel))
  · cases h; exact gR_naiP hx 2 rfl rfl (fun _ q => by cases q) rfl (by decide) (kw_at 668 (by decide +kernel))
theorem uJx4a65c : ∀ w ∈ u_ws RJx4a65c TJx4a65c 3, w ∈ kwT := pu [76, 72, 74] (by decide +kernel) (by decide +kernel)
theorem uX0 : ∀ w ∈ u_ws RX0 TX0 1, w ∈ kwT := pu [43] (by decide +kernel) (by decide +kernel)
theorem uX1 : ∀ w ∈ u_ws RX1 TX1 2, w ∈ kwT := pu [101, 103] (by decide +kernel) (by decide +kernel)
theorem uX2 : ∀ w ∈ u_ws RX2 TX2 2, w ∈ kwT := pu [81, 83] (by decide +kernel) (by decide +kernel)
theorem uX3 : ∀ w ∈ u_ws RX3 TX3 2, w ∈ kwT := pu [317, 319] (by decide +kernel) (by decide +kernel)
theorem uX4 : ∀ w ∈ u_ws RX4 TX4 13, w ∈ kwT := pu [120, 122, 124, 126, 128, 130, 132, 134, 136, 138, 140, 142, 144] (by decide +kernel) (by decide +kernel)
theorem uX5 : ∀ w ∈ u_ws RX5 TX5 22, w ∈ kwT := pu [623, 625, 627, 629, 631, 633, 635, 637, 639, 641, 643, 645, 647, 649, 651, 653, 655, 657, 659, 661, 663, 665] (by decide +kernel) (by decide +kernel)
