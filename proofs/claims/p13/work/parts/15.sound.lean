section SD
variable (x : gx_T) (cl : List vw_C) (cc : ByteArray) (nL : Nat) (tys : List (ClassId × FieldType)) (Ts : List Cond) (own : String) (KT : List ty_D) (INV : ty_K → mh_M → Prop) (pgf : ty_K → mh_M → Int32 → Prop) (mods PS : List (Nat × Nat)) (SW : List (Nat × Int × Int × Int × Int)) (news : List Nat) (kp : Nat) (σ0 : ty_K) (M0 : mh_M)
variable (fT pT : List (Nat × Nat × Nat × FieldType)) (cT : List (Nat × ty_C)) (kT : List (Nat × Int)) (lT : List Nat) (nT : List (Nat × Nat × Nat × Nat × List Value)) (aT : List (Nat × Nat)) (nc ns RC RS : Nat) (rT : Option ty_T) (rF : Option FieldType) (post : Option Value → mh_M → Prop) (prog : List (Nat × Instr × Nat))
/-- all that a body's check rests on -/
def ty_Env : Prop :=
  gC x cl cc nL tys Ts own ∧ ty_tys tys ∧ ty_sI PS INV ∧ ty_sP kp pgf ∧ ty_pV tys KT INV kp pgf ∧ RC ≤ (gx_R x).cells ∧ RS ≤ (gx_R x).slots ∧
  (∀ q ∈ fT, gR_get x cl cc q.1 q.2.1 q.2.2.1) ∧ (∀ q ∈ pT, gR_put x cl cc q.1 q.2.1 q.2.2.1 q.2.2.2) ∧ (∀ q ∈ cT, gR_call x cl cc nL tys KT INV INV pgf q.1 q.2) ∧ (∀ q ∈ kT, gR_ldc x cl cc q.1 (Int32.ofInt q.2)) ∧ (∀ i ∈ lT, ∃ v, gR_ldl x cl cc i v) ∧ (∀ q ∈ nT, gR_new x cl cc q.1 q.2.2.1 q.2.2.2.1 q.2.2.2.2) ∧
  (∀ cA ft, tys[0]? = some (cA, ft) → gR_nai x cl cc .byte cA) ∧ (∀ cA ft, tys[1]? = some (cA, ft) → gR_nai x cl cc .int cA) ∧ (∀ cA ft, tys[2]? = some (cA, ft) → gR_nai x cl cc .boolean cA) ∧
  gR_ret x cl cc rF post nc ns ∧ ty_pst tys KT INV mods news σ0 M0 rT post ∧ (∀ q ∈ prog, decode cc q.1 = .ok (q.2.1, q.2.2)) ∧ ty_sS tys KT SW INV
end SD
section SE
variable {x : gx_T} {cl : List vw_C} {cc : ByteArray} {nL : Nat} {tys : List (ClassId × FieldType)} {Ts : List Cond} {own : String} {KT : List ty_D} {INV : ty_K → mh_M → Prop} {pgf : ty_K → mh_M → Int32 → Prop} {mods PS : List (Nat × Nat)} {SW : List (Nat × Int × Int × Int × Int)} {news : List Nat} {kp : Nat} {σ0 : ty_K} {M0 : mh_M} {g : Int}
variable {fT pT : List (Nat × Nat × Nat × FieldType)} {cT : List (Nat × ty_C)} {kT : List (Nat × Int)} {lT : List Nat} {nT : List (Nat × Nat × Nat × Nat × List Value)} {aT : List (Nat × Nat)} {nc ns RC RS : Nat} {rT : Option ty_T} {rF : Option FieldType} {post : Option Value → mh_M → Prop} {prog : List (Nat × Instr × Nat)}
variable {s : ty_S} {l : List ty_S}
theorem ty_ldi {σ : ty_K} {g : Int} {pg : Int32 → Prop} {z : Int} (h1 : -2147483648 ≤ z) (h2 : z ≤ 2147483647) : ty_has σ g pg (.int (Int32.ofInt z)) (0, z, z) := by
  have e : (Int32.ofInt z).toInt = z := by rw [Int32.toInt_ofInt]; exact ty_bm h1 h2
  exact ⟨_, rfl, by show z ≤ _; rw [e]; exact Int.le_refl _, by show _ ≤ z; rw [e]; exact Int.le_refl _⟩
theorem ty_sub0 {t : ty_T} {lo hi : Int} (h : ty_sub t (0, lo, hi) = true) : (ty_rng t).isSome = true := by
  cases hr : ty_rng t with
  | some r => rfl
  | none =>
    have e : ty_sub t (0, lo, hi) = false := by simp [ty_sub, hr]
    rw [e] at h
    cases h
set_option maxHeartbeats 2000000 in
theorem ty_step_ok (E : ty_Env x cl cc nL tys Ts own KT INV pgf mods PS SW news kp σ0 M0 fT pT cT kT lT nT nc ns RC RS rT rF post prog) {i : Instr} {len : Nat} (hd : decode cc s.1 = .ok (i, len)) (h : ty_step KT fT pT cT kT lT nT aT mods PS SW news kp nL nc ns RC RS rT rF i len s = some l) (hJ : ∀ t ∈ l, ty_J x cl nL tys KT INV pgf mods news σ0 M0 g t) : ty_J x cl nL tys KT INV pgf mods news σ0 M0 g s := by
  obtain ⟨hx, ht, hsI, hsP, hpV, hRC, hRS, hfT, hpT, hcT, hkT, hlT, hnT, hnB, hnI, hnZ, hrt, hps, -, hsS⟩ := E
  unfold ty_step at h
  split at h
  · split at h
    · rename_i e; subst e; exact sh_get_ok hfT hd h hJ
    · cases h
  · split at h
    · rename_i e; subst e; exact sh_put_ok hsI hsP hpT hd h hJ
    · cases h
  · split at h
    · rename_i e; subst e; exact sh_ld_ok hx ht hpV (Or.inl ⟨hd, rfl, rfl⟩) h hJ
    · cases h
  · split at h
    · rename_i e; subst e; exact sh_ld_ok hx ht hpV (Or.inr ⟨hd, rfl, rfl⟩) h hJ
    · cases h
  · split at h
    · rename_i e; subst e; exact sh_ldl_ok hx ht hd h hJ
    · cases h
  · split at h
    · rename_i e; subst e; exact sh_ln_ok hx ht hd h hJ
    · cases h
  · split at h
    · rename_i e
      subst e
      split at h
      · rename_i l' hl'
        cases h
        refine sh_st_ok hsS hx ht hsI hsP (c0 := 1) (Or.inl ⟨hd, Or.inl rfl⟩) (fun t u hu => ?_) (fun t u hc => absurd hc (by omega)) (fun t u _ hu => ?_) (fun t u hc => absurd rfl hc) hl' hJ
        · skip
          split at hu
          · assumption
          · cases hu
        · skip
          split at hu
          · cases hu; rfl
          · cases hu
      · refine sh_st_ok hsS hx ht hsI hsP (c0 := 3) (Or.inl ⟨hd, Or.inr rfl⟩) (fun t u hu => ?_) (fun t u _ hu => ?_) (fun t u hc => absurd hc (by omega)) (fun t u _ hu => ?_) h hJ
        · skip
          split at hu
          · rename_i q
            cases hu
            exact ty_sub0 q
          · cases hu
        · skip
          split at hu
          · assumption
          · cases hu
        · skip
          split at hu
          · cases hu; rfl
          · cases hu
    · cases h
  · split at h
    · rename_i e
      subst e
      refine sh_st_ok hsS hx ht hsI hsP (c0 := 2) (Or.inr ⟨hd, rfl⟩) (fun t u hu => ?_) (fun t u hc => absurd hc (by omega)) (fun t u hc => absurd hc (by omega)) (fun t u _ hu => ?_) h hJ
      · skip
        split at hu
        · assumption
        · cases hu
      · skip
        split at hu
        · cases hu; rfl
        · cases hu
    · cases h
  · split at h
    · rename_i e; subst e; exact sh_stl_ok hx ht hsI hsP hd h hJ
    · cases h
  · split at h
    · rename_i e; subst e; exact sh_new_ok hsI hsP hRC hRS hnT hd h hJ
    · cases h
  · split at h
    · rename_i e; subst e; exact sh_nai_ok hsI hsP ht hRC hRS (Or.inl rfl) hnB hd h hJ
    · cases h
  · split at h
    · rename_i e; subst e; exact sh_nai_ok hsI hsP ht hRC hRS (Or.inr (Or.inl rfl)) hnI hd h hJ
    · cases h
  · split at h
    · rename_i e; subst e; exact sh_nai_ok hsI hsP ht hRC hRS (Or.inr (Or.inr rfl)) hnZ hd h hJ
    · cases h
  · split at h
    · rename_i e; subst e; exact sh_call_ok hsP hRC hRS hcT (Or.inl ⟨_, rfl, rfl⟩) hd h hJ
    · cases h
  · split at h
    · rename_i e; subst e; exact sh_call_ok hsP hRC hRS hcT (Or.inr (Or.inl ⟨_, rfl, rfl⟩)) hd h hJ
    · cases h
  · split at h
    · rename_i e; subst e; exact sh_call_ok hsP hRC hRS hcT (Or.inr (Or.inr ⟨_, rfl, rfl⟩)) hd h hJ
    · cases h
  · split at h
    · rename_i e; subst e; exact sh_ret_ok hrt hps hd h
    · cases h
  · split at h
    · rename_i e; subst e; exact sh_ret_ok hrt hps hd h
    · cases h
  · split at h
    · rename_i e; subst e; exact sh_ret_ok hrt hps hd h
    · cases h
  · split at h
    · rename_i e; subst e; exact sh_ret_ok hrt hps hd h
    · cases h
  · split at h
    · rename_i e
      obtain ⟨rfl, e2⟩ := e
      cases h
      intro σ M ls st hs hw hH hI hF hL hS
      exact gG_goto hx (by exact hd) (by omega) (hJ _ (List.mem_singleton.mpr rfl) σ M ls st hs hw hH hI hF hL hS)
    · cases h
  · split at h
    · rename_i e; subst e; exact sh_if_ok hx hd h hJ
    · cases h
  · split at h
    · rename_i e; subst e; exact sh_ic_ok hx hd h hJ
    · cases h
  · split at h
    · rename_i e; subst e; exact sh_i1_ok hx (Or.inl ⟨hd, rfl⟩) h hJ
    · cases h
  · split at h
    · rename_i e; subst e; exact sh_i1_ok hx (Or.inr ⟨_, hd, rfl, rfl⟩) h hJ
    · cases h
  · split at h
    · rename_i e; subst e; exact sh_a1_ok hx (Or.inl ⟨hd, rfl⟩) h hJ
    · cases h
  · split at h
    · rename_i e; subst e; exact sh_a1_ok hx (Or.inr ⟨_, hd, rfl, rfl⟩) h hJ
    · cases h
  · split at h
    · rename_i e; subst e; exact sh_l1_ok hx (Or.inl ⟨hd, rfl⟩) h hJ
    · cases h
  · split at h
    · rename_i e; subst e; exact sh_l1_ok hx (Or.inr ⟨_, hd, rfl, rfl⟩) h hJ
    · cases h
  · split at h
    · rename_i e; subst e; exact sh_inc_ok hx hd h hJ
    · cases h
  · split at h
    · rename_i e
      subst e
      split at h
      · rename_i q hq
        split at h
        · rename_i hr
          cases h
          have h3 := List.mem_of_find?_eq_some hq
          have h4 := List.find?_some hq
          simp only [beq_iff_eq] at h4
          subst h4
          intro σ M ls st hs hw hH hI hF hL hS
          exact (hkT _ h3 _ ls st M _ _).1 hd (hJ _ (List.mem_singleton.mpr rfl) σ M ls (.int (Int32.ofInt q.2) :: st) hs hw hH hI hF hL ⟨⟨ty_ldi hr.1 hr.2, trivial⟩, hS⟩)
        · cases h
      · cases h
    · cases h
  · split at h
    · rename_i e
      subst e
      split at h
      · rename_i q hq
        split at h
        · rename_i hr
          cases h
          have h3 := List.mem_of_find?_eq_some hq
          have h4 := List.find?_some hq
          simp only [beq_iff_eq] at h4
          subst h4
          intro σ M ls st hs hw hH hI hF hL hS
          exact (hkT _ h3 _ ls st M _ _).2 hd (hJ _ (List.mem_singleton.mpr rfl) σ M ls (.int (Int32.ofInt q.2) :: st) hs hw hH hI hF hL ⟨⟨ty_ldi hr.1 hr.2, trivial⟩, hS⟩)
        · cases h
      · cases h
    · cases h
  · exact sh_ts_ok hx hd h hJ
  · split at h
    · rename_i e
      subst e
      split at h
      · rename_i hq
        cases h
        obtain ⟨v, hv⟩ := hlT _ hq
        intro σ M ls st hs hw hH hI hF hL hS
        exact hv _ ls st M _ _ hd (hJ _ (List.mem_singleton.mpr rfl) σ M ls (.long v :: st) hs hw hH hI hF hL ⟨⟨⟨v, rfl⟩, trivial⟩, hS⟩)
      · cases h
    · cases h
  · split at h
    · rename_i r len' hq
      split at h
      · rename_i e
        cases h
        intro σ M ls st hs hw hH hI hF hL hS
        obtain ⟨r1, e1, e2⟩ := sa_ok hL hS hq
        rw [e] at e1
        exact gG_sp hx hd e1 (hJ _ (List.mem_singleton.mpr rfl) σ M ls r1 hs hw hH hI hF hL e2)
      · cases h
    · cases h
end SE
