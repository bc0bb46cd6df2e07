/-! arrays: the first four of tys are byte, int, boolean, long -/
def ty_tys (tys : List (ClassId × FieldType)) : Prop := ∃ (cB cI cZ cJ : ClassId) (r : List (ClassId × FieldType)), tys = (cB, .byte) :: (cI, .int) :: (cZ, .boolean) :: (cJ, .long) :: r
theorem ty_pgd {t : ty_T} {σ : ty_K} {g : Int} {pg : Int32 → Prop} {v : Value} (h : t.1 = 4 ∨ t.1 = 8) (hv : ty_has σ g pg v t) : ∃ z : Int32, v = .int z ∧ pg z := by
  obtain ⟨n, lo, hi⟩ := t
  dsimp only at h
  rcases h with rfl | rfl
  · obtain ⟨z, h1, -, -, h2⟩ := hv; exact ⟨z, h1, h2⟩
  · obtain ⟨z, h1, -, -, -, h2⟩ := hv; exact ⟨z, h1, h2⟩
section AR
variable {x : gx_T} {cl : List vw_C} {cc : ByteArray} {nL : Nat} {tys : List (ClassId × FieldType)} {Ts : List Cond} {own : String} {KT : List ty_D} {INV : ty_K → mh_M → Prop} {pgf : ty_K → mh_M → Int32 → Prop} {mods PS : List (Nat × Nat)} {SW : List (Nat × Int × Int × Int × Int)} {news : List Nat} {kp : Nat} {σ0 : ty_K} {M0 : mh_M} {g : Int}
variable {s : ty_S} {l : List ty_S} {idx pc : Nat}
theorem gG_ald (hx : gC x cl cc nL tys Ts own) (ht : ty_tys tys) {σ : ty_K} {M : mh_M} {a k c N : Nat} {t : ty_T} (hH : ty_H tys KT σ M) (hk : σ a = some k) (hd : KT[k]? = some (c, N, [t])) (hdec : (decode cc pc = .ok (.baload, 1) ∧ (c = 1 ∨ c = 3)) ∨ (decode cc pc = .ok (.iaload, 1) ∧ c = 2)) :
    ∃ (cA : ClassId) (f : Nat → Int32), mh_at M a (.inl (cA, N, .inl f)) ∧ (∀ i, i < N → ty_has σ 0 ty_no (.int (f i)) t) ∧ ∀ (i : Int32) (ls : Array Slot) (st : List Value) (n k' : Nat), vp_in i N → gG x cl (pc + 1) ls (.int (f i.toNatClampNeg) :: st) M n k' → gG x cl pc ls (.int i :: .ref a :: st) M n k' := by
  obtain ⟨cB, cI, cZ, cJ, r, rfl⟩ := ht
  rcases hdec with ⟨h1, rfl | rfl⟩ | ⟨h1, rfl⟩
  · obtain ⟨cA, ft, f, h2, h3, h4⟩ := ty_arr (j := 0) hH hk hd (by omega)
    cases h2
    exact ⟨_, f, h3, h4, fun i ls st n k' hi kk => gG_bald hx 0 h1 h3 rfl hi kk⟩
  · obtain ⟨cA, ft, f, h2, h3, h4⟩ := ty_arr (j := 2) hH hk hd (by omega)
    cases h2
    exact ⟨_, f, h3, h4, fun i ls st n k' hi kk => gG_zald hx 2 h1 h3 rfl hi kk⟩
  · obtain ⟨cA, ft, f, h2, h3, h4⟩ := ty_arr (j := 1) hH hk hd (by omega)
    cases h2
    exact ⟨_, f, h3, h4, fun i ls st n k' hi kk => gG_iald hx 1 h1 h3 rfl hi kk⟩
theorem gG_ast (hx : gC x cl cc nL tys Ts own) (ht : ty_tys tys) {σ : ty_K} {M : mh_M} {a k c N : Nat} {t : ty_T} (hH : ty_H tys KT σ M) (hk : σ a = some k) (hd : KT[k]? = some (c, N, [t])) (hdec : (decode cc pc = .ok (.bastore, 1) ∧ (c = 1 ∨ c = 3)) ∨ (decode cc pc = .ok (.iastore, 1) ∧ c = 2)) :
    ∃ (cA : ClassId) (ft : FieldType) (f : Nat → Int32), c = 1 + (c - 1) ∧ c - 1 < 10 ∧ tys[c - 1]? = some (cA, ft) ∧ mh_at M a (.inl (cA, N, .inl f)) ∧ (∀ i, i < N → ty_has σ 0 ty_no (.int (f i)) t) ∧ ∀ v : Int32, (c = 3 → v.toInt = 0 ∨ v.toInt = 1) → ∃ w : Int32, (c = 1 → w = v.toInt8.toInt32) ∧ (c ≠ 1 → w = v) ∧ ∀ (i : Int32) (ls : Array Slot) (st : List Value) (n k' : Nat), vp_in i N → gG x cl (pc + 1) ls st (mh_set M a (.inl (cA, N, .inl (upd f i.toNatClampNeg w)))) n k' → gG x cl pc ls (.int v :: .int i :: .ref a :: st) M n k' := by
  obtain ⟨cB, cI, cZ, cJ, r, rfl⟩ := ht
  rcases hdec with ⟨h1, rfl | rfl⟩ | ⟨h1, rfl⟩
  · obtain ⟨cA, ft, f, h2, h3, h4⟩ := ty_arr (j := 0) hH hk hd (by omega)
    cases h2
    exact ⟨_, _, f, rfl, by omega, rfl, h3, h4, fun v _ => ⟨vp_nar .byte v, fun _ => vp_nar_byte v, fun q => absurd rfl q, fun i ls st n k' hi kk => gG_bast hx 0 h1 h3 rfl hi kk⟩⟩
  · obtain ⟨cA, ft, f, h2, h3, h4⟩ := ty_arr (j := 2) hH hk hd (by omega)
    cases h2
    refine ⟨_, _, f, rfl, by omega, rfl, h3, h4, fun v hv => ⟨vp_nar .boolean v, fun q => absurd q (by omega), fun _ => ?_, fun i ls st n k' hi kk => gG_zast hx 2 h1 h3 rfl hi kk⟩⟩
    rcases hv rfl with h | h
    · have e : v = 0 := Int32.toInt_inj.mp h
      subst e
      decide
    · have e : v = 1 := Int32.toInt_inj.mp h
      subst e
      decide
  · obtain ⟨cA, ft, f, h2, h3, h4⟩ := ty_arr (j := 1) hH hk hd (by omega)
    cases h2
    exact ⟨_, _, f, rfl, by omega, rfl, h3, h4, fun v _ => ⟨v, fun q => absurd q (by omega), fun _ => rfl, fun i ls st n k' hi kk => gG_iast hx 1 h1 h3 rfl hi kk⟩⟩
abbrev ty_pV (tys : List (ClassId × FieldType)) (KT : List ty_D) (INV : ty_K → mh_M → Prop) (kp : Nat) (pgf : ty_K → mh_M → Int32 → Prop) : Prop := ∀ (σ : ty_K) (M : mh_M) (a : Nat) (z : Int32) (cA : ClassId) (N : Nat) (f : Nat → Int32), ty_H tys KT σ M → INV σ M → σ a = some kp → mh_at M a (.inl (cA, N, .inl f)) → vp_in z N → (pgf σ M z → f z.toNatClampNeg ≠ -1) ∧ (f z.toNatClampNeg ≠ -1 → pgf σ M z)
theorem sh_ld_ok (hx : gC x cl cc nL tys Ts own) (ht : ty_tys tys) (hpV : ty_pV tys KT INV kp pgf) {c1 c2 : Nat} (hd : (decode cc s.1 = .ok (.baload, 1) ∧ c1 = 1 ∧ c2 = 3) ∨ (decode cc s.1 = .ok (.iaload, 1) ∧ c1 = 2 ∧ c2 = 2)) (h : sh_ld KT kp c1 c2 s = some l) (hJ : ∀ t ∈ l, ty_J x cl nL tys KT INV pgf mods news σ0 M0 g t) : ty_J x cl nL tys KT INV pgf mods news σ0 M0 g s := by
  unfold sh_ld at h
  split at h
  · split at h
    · rename_i pc L i e r n k _ kk c N t hkd
      split at h
      · rename_i hc
        have hdec : (decode cc pc = .ok (.baload, 1) ∧ (c = 1 ∨ c = 3)) ∨ (decode cc pc = .ok (.iaload, 1) ∧ c = 2) := by
          rcases hd with ⟨a1, a2, a3⟩ | ⟨a1, a2, a3⟩
          · left; refine ⟨a1, ?_⟩; rcases hc.1 with z | z <;> omega
          · right; refine ⟨a1, ?_⟩; rcases hc.1 with z | z <;> omega
        split at h
        · rename_i ek
          split at h
          · rename_i t5
            cases h
            intro σ M ls st hs hw hH hI hF hL hS
            obtain ⟨v, vs, rfl, hv, hvs⟩ := ty_stk_c hS
            obtain ⟨u, us, rfl, hu, hus⟩ := ty_stk_c hvs
            obtain ⟨a, rfl, hk, hd2⟩ := ty_kd_ok hkd hu.1
            obtain ⟨iv, rfl, hi1, hi2⟩ := ty_in_ok hc.2.1 hv.1
            obtain ⟨cA, f, hat, hel, hgo⟩ := gG_ald hx ht hH hk hd2 hdec
            obtain ⟨t0, t1, t2⟩ := t
            have t5 : t0 = 5 := t5
            subst t5
            obtain ⟨y, hy0, hy1⟩ := hel _ hi2
            cases hy0
            subst ek
            obtain ⟨p1, p2⟩ := hpV σ M a iv cA N f hH hI hk hat hi1
            refine hgo iv ls us _ _ hi1 (hJ _ (List.mem_singleton.mpr rfl) σ M ls (.int (f iv.toNatClampNeg) :: us) hs hw hH hI hF hL ⟨⟨?_, ?_⟩, hus⟩)
            · show ty_has _ _ _ _ (if i.1.1 = 4 ∨ i.1.1 = 8 then 0 else 5, t1, t2)
              split
              · rename_i hg
                obtain ⟨z, hz1, hz2⟩ := ty_pgd hg hv.1
                cases hz1
                have h9 := p1 hz2
                rcases hy1 with e | e
                · exact absurd (Int32.toInt_inj.mp (show (f iv.toNatClampNeg).toInt = (-1 : Int32).toInt from e)) h9
                · exact ⟨_, rfl, e⟩
              · exact ⟨_, rfl, hy1⟩
            · show ty_inf _ ls _ (if i.2.1 = 1 then (4, i.2.2.1, 0, 0) else ty_i0)
              split
              · rename_i hg
                have h9 := hv.2
                obtain ⟨it, i1, i2, i3, i4⟩ := i
                dsimp only at hg
                subst hg
                exact ⟨_, iv, rfl, h9, p2⟩
              · trivial
          · cases h
        · cases h
          intro σ M ls st hs hw hH hI hF hL hS
          obtain ⟨v, vs, rfl, hv, hvs⟩ := ty_stk_c hS
          obtain ⟨u, us, rfl, hu, hus⟩ := ty_stk_c hvs
          obtain ⟨a, rfl, hk, hd2⟩ := ty_kd_ok hkd hu.1
          obtain ⟨iv, rfl, hi1, hi2⟩ := ty_in_ok hc.2.1 hv.1
          obtain ⟨cA, f, hat, hel, hgo⟩ := gG_ald hx ht hH hk hd2 hdec
          exact hgo iv ls us _ _ hi1 (hJ _ (List.mem_singleton.mpr rfl) σ M ls (.int (f iv.toNatClampNeg) :: us) hs hw hH hI hF hL ⟨⟨ty_plain_ok hc.2.2 (hel _ hi2), trivial⟩, hus⟩)
      · cases h
    · cases h
  · cases h
theorem sh_ldl_ok (hx : gC x cl cc nL tys Ts own) (ht : ty_tys tys) (hd : decode cc s.1 = .ok (.laload, 1)) (h : sh_ldl KT s = some l) (hJ : ∀ t ∈ l, ty_J x cl nL tys KT INV pgf mods news σ0 M0 g t) : ty_J x cl nL tys KT INV pgf mods news σ0 M0 g s := by
  unfold sh_ldl at h
  split at h
  · split at h
    · rename_i pc L i e r n k _ kk N ts hkd
      split at h
      · rename_i hc
        cases h
        intro σ M ls st hs hw hH hI hF hL hS
        obtain ⟨v, vs, rfl, hv, hvs⟩ := ty_stk_c hS
        obtain ⟨u, us, rfl, hu, hus⟩ := ty_stk_c hvs
        obtain ⟨a, rfl, hk, hd2⟩ := ty_kd_ok hkd hu.1
        obtain ⟨iv, rfl, hi1, hi2⟩ := ty_in_ok hc hv.1
        obtain ⟨cA, ft, f, h2, h3⟩ := ty_arl (j := 3) hH hk hd2
        obtain ⟨cB, cI, cZ, cJ, rr, rfl⟩ := ht
        cases h2
        exact gG_lald hx 3 hd h3 rfl hi1 (hJ _ (List.mem_singleton.mpr rfl) σ M ls _ hs hw hH hI hF hL ⟨⟨⟨_, rfl⟩, trivial⟩, hus⟩)
      · cases h
    · cases h
  · cases h
theorem ty_nlen {N : Nat} {σ : ty_K} {g : Int} {pg : Int32 → Prop} (h : N < 2147483648) : ty_has σ g pg (.int (Int32.ofNat N)) (0, (N : Int), (N : Int)) := by
  have e : (Int32.ofNat N).toInt = (N : Int) := nI_toInt (by omega)
  exact ⟨_, rfl, by show (N : Int) ≤ _; rw [e]; exact Int.le_refl _, by show _ ≤ (N : Int); rw [e]; exact Int.le_refl _⟩
theorem sh_ln_ok (hx : gC x cl cc nL tys Ts own) (ht : ty_tys tys) (hd : decode cc s.1 = .ok (.arraylength, 1)) (h : sh_ln KT s = some l) (hJ : ∀ t ∈ l, ty_J x cl nL tys KT INV pgf mods news σ0 M0 g t) : ty_J x cl nL tys KT INV pgf mods news σ0 M0 g s := by
  unfold sh_ln at h
  split at h
  · split at h
    · rename_i pc L e r n k _ kk c N ts hkd
      split at h
      · rename_i hc
        cases h
        intro σ M ls st hs hw hH hI hF hL hS
        obtain ⟨u, us, rfl, hu, hus⟩ := ty_stk_c hS
        obtain ⟨a, rfl, hk, hd2⟩ := ty_kd_ok hkd hu.1
        have key : ∃ (t0 : Nat) (cA : ClassId) (b : vp_A) (ty : FieldType), mh_at M a (.inl (cA, b)) ∧ tys[t0]? = some (cA, ty) ∧ b.1 = N := by
          obtain ⟨h1, d, h2, -, h3, h4⟩ := hH a kk hk
          rw [hd2] at h2
          cases h2
          rcases hc.1 with rfl | rfl | rfl | rfl
          · obtain ⟨cA, ft, f, q1, q2, -⟩ := h3 0 rfl (by omega); exact ⟨0, cA, _, ft, ⟨h1, q2⟩, q1, rfl⟩
          · obtain ⟨cA, ft, f, q1, q2, -⟩ := h3 1 rfl (by omega); exact ⟨1, cA, _, ft, ⟨h1, q2⟩, q1, rfl⟩
          · obtain ⟨cA, ft, f, q1, q2, -⟩ := h3 2 rfl (by omega); exact ⟨2, cA, _, ft, ⟨h1, q2⟩, q1, rfl⟩
          · obtain ⟨cA, ft, f, q1, q2⟩ := h4 3 rfl; exact ⟨3, cA, _, ft, ⟨h1, q2⟩, q1, rfl⟩
        obtain ⟨t0, cA, b, ty, q1, q2, q3⟩ := key
        refine gG_alen hx t0 hd q1 q2 (hJ _ (List.mem_singleton.mpr rfl) σ M ls _ hs hw hH hI hF hL ⟨⟨?_, trivial⟩, hus⟩)
        rw [q3]
        exact ty_nlen hc.2
      · cases h
    · cases h
  · cases h
/-- what a store into an array of ints leaves -/
theorem ty_ok_ar {σ : ty_K} {c N : Nat} {t : ty_T} {cA : ClassId} {ft : FieldType} {f : Nat → Int32} (hc : c = 1 + (c - 1)) (hl : c - 1 < 10) (htc : tys[c - 1]? = some (cA, ft)) (hel : ∀ i, i < N → ty_has σ 0 ty_no (.int (f i)) t) : ty_ok tys σ (c, N, [t]) (.inl (cA, N, .inl f)) := by
  refine ⟨fun q => absurd q (by show ¬ c = 0; omega), fun j hj hlt => ?_, fun j hj => absurd hj (by show ¬ c = 20 + j; omega)⟩
  have hj : c = 1 + j := hj
  have e : c - 1 = j := by omega
  rw [e] at htc
  exact ⟨cA, ft, f, htc, rfl, fun t' h' i hi => by cases h'; exact hel i hi⟩
/-- the stores that the invariant allows -/
abbrev ty_sS (tys : List (ClassId × FieldType)) (KT : List ty_D) (SW : List (Nat × Int × Int × Int × Int)) (INV : ty_K → mh_M → Prop) : Prop := ∀ q ∈ SW, ∀ (σ : ty_K) (M : mh_M) (a : Nat) (cA : ClassId) (N : Nat) (f : Nat → Int32) (i w : Int32), ty_H tys KT σ M → INV σ M → σ a = some q.1 → mh_at M a (.inl (cA, N, .inl f)) → vp_in i N → q.2.1 ≤ i.toInt → i.toInt ≤ q.2.2.1 → q.2.2.2.1 ≤ w.toInt → w.toInt ≤ q.2.2.2.2 → INV σ (mh_set M a (.inl (cA, N, .inl (upd f i.toNatClampNeg w))))
theorem sh_st_ok (hsS : ty_sS tys KT SW INV) (hx : gC x cl cc nL tys Ts own) (ht : ty_tys tys) (hsI : ty_sI PS INV) (hsP : ty_sP kp pgf) {c0 : Nat} {F : ty_T → Option ty_T} (hd : (decode cc s.1 = .ok (.bastore, 1) ∧ (c0 = 1 ∨ c0 = 3)) ∨ (decode cc s.1 = .ok (.iastore, 1) ∧ c0 = 2)) (hr : ∀ t u, F t = some u → (ty_rng t).isSome = true)
    (h3 : ∀ t u, c0 = 3 → F t = some u → ty_sub t (0, 0, 1) = true) (h1 : ∀ t u, c0 = 1 → F t = some u → u = (0, -128, 127)) (h2 : ∀ t u, c0 ≠ 1 → F t = some u → u = t)
    (h : sh_st KT mods PS SW kp c0 F s = some l) (hJ : ∀ t ∈ l, ty_J x cl nL tys KT INV pgf mods news σ0 M0 g t) : ty_J x cl nL tys KT INV pgf mods news σ0 M0 g s := by
  unfold sh_st at h
  split at h
  · split at h
    · rename_i pc L v i e r n k _ kk c N t hkd
      split at h
      · rename_i u hu
        split at h
        · rename_i hc
          obtain ⟨rfl, hc1, hc2, hc3, hc4⟩ := hc
          have key : ∀ (σ : ty_K) (M : mh_M) (ls : Array Slot) (st : List Value), ls.size = nL → lv_wf ls → ty_H tys KT σ M → INV σ M → ty_FM mods news σ0 M0 σ M → ty_loc σ g (pgf σ M) ls L → ty_stk σ g (pgf σ M) ls st (v :: i :: e :: r) → (∀ (a : Nat) (w : va_E) (us : List Value), σ a = some kk → ty_H tys KT σ (mh_set M a w) → INV σ (mh_set M a w) → ty_FM mods news σ0 M0 σ (mh_set M a w) → ty_stk σ g (pgf σ M) ls us r → gG x cl (pc + 1) ls us (mh_set M a w) n k) → gG x cl pc ls st M n k := by
            intro σ M ls st hs hw hH hI hF hL hS kk2
            obtain ⟨v1, vs, rfl, hv, hvs⟩ := ty_stk_c hS
            obtain ⟨i1, is, rfl, hi, his⟩ := ty_stk_c hvs
            obtain ⟨e1, us, rfl, he, hus⟩ := ty_stk_c his
            obtain ⟨a, rfl, hk, hd2⟩ := ty_kd_ok hkd he.1
            obtain ⟨iv, rfl, hi1, hi2⟩ := ty_in_ok hc1 hi.1
            obtain ⟨y, rfl⟩ := ty_rs (hr _ _ hu) hv.1
            obtain ⟨cA, ft, f, q1, q2, q3, hat, hel, hgo⟩ := gG_ast hx ht hH hk hd2 hd
            obtain ⟨w, w1, w2, hgo⟩ := hgo y (fun e3 => by
              obtain ⟨z, z0, z1, z2⟩ := ty_sub_ok (g' := 0) (b := (0, 0, 1)) (h3 _ _ e3 hu) hv.1
              cases z0
              have z1 : (0 : Int) ≤ y.toInt := z1
              have z2 : y.toInt ≤ 1 := z2
              omega)
            have hwt : ty_has σ 0 ty_no (.int w) t := by
              refine ty_plain_ok (g := g) (pg := pgf σ M) hc3 (ty_sub_ok (g := g) hc2 ?_)
              by_cases e1 : c = 1
              · rw [h1 _ _ e1 hu, w1 e1]; exact ty_i8 y
              · rw [h2 _ _ e1 hu, w2 e1]; exact hv.1
            have hok : ty_ok tys σ (c, N, [t]) (.inl (cA, N, .inl (upd f iv.toNatClampNeg w))) := ty_ok_ar q1 q2 q3 (fun j hj => by
              by_cases ej : j = iv.toNatClampNeg
              · subst ej; rw [pk_us]; exact hwt
              · rw [pk_un ej]; exact hel j hj)
            have r : ty_H tys KT σ (mh_set M a (.inl (cA, N, .inl (upd f iv.toNatClampNeg w)))) ∧ INV σ (mh_set M a (.inl (cA, N, .inl (upd f iv.toNatClampNeg w)))) ∧ ty_FM mods news σ0 M0 σ (mh_set M a (.inl (cA, N, .inl (upd f iv.toNatClampNeg w)))) := by
              rcases hc4 with hc4 | hc4
              · exact ty_write (f := 0) hsI hH hI hF hk hd2 hok (ty_p_arr hat.2) hc4
              · unfold ty_sw at hc4
                simp only [Bool.and_eq_true, decide_eq_true_eq, List.any_eq_true, beq_iff_eq] at hc4
                obtain ⟨m1, q, hq, ⟨rfl, s1⟩, s2⟩ := hc4
                obtain ⟨z, z0, z1, z2⟩ := ty_sub_ok (g' := 0) s1 hi.1
                cases z0
                have hwu : ty_has σ g (pgf σ M) (.int w) u := by
                  by_cases e1 : c = 1
                  · rw [h1 _ _ e1 hu, w1 e1]; exact ty_i8 y
                  · rw [h2 _ _ e1 hu, w2 e1]; exact hv.1
                obtain ⟨y', y0, y1, y2⟩ := ty_sub_ok (g' := 0) s2 hwu
                cases y0
                exact ⟨ty_H_set hH hk hd2 hok, hsS q hq σ M a cA N f iv w hH hI hk hat hi1 z1 z2 y1 y2, hF.tr (ty_F_set hk fun i hi => ty_p_arr hat.2 i (fun e => hi (e ▸ m1)))⟩
            obtain ⟨r1, r2, r3⟩ := r
            exact hgo iv ls us n k hi1 (kk2 a _ us hk r1 r2 r3 hus)
          split at h
          · cases h
            intro σ M ls st hs hw hH hI hF hL hS
            exact key σ M ls st hs hw hH hI hF hL hS (fun a w us hk r1 r2 r3 hus => hJ _ (List.mem_singleton.mpr rfl) σ _ ls us hs hw r1 r2 r3 (ty_loc_wk (fun _ _ h => h) hL) (ty_stk_wk (fun _ _ h => h) hus))
          · rename_i hne
            cases h
            intro σ M ls st hs hw hH hI hF hL hS
            exact key σ M ls st hs hw hH hI hF hL hS (fun a w us hk r1 r2 r3 hus => hJ _ (List.mem_singleton.mpr rfl) σ _ ls us hs hw r1 r2 r3 (ty_loc_mv (fun _ _ h => h) (ty_wpg hsP hk hne) hL) (ty_stk_mv (fun _ _ h => h) (ty_wpg hsP hk hne) hus))
        · cases h
      · cases h
    · cases h
  · cases h
theorem sh_stl_ok (hx : gC x cl cc nL tys Ts own) (ht : ty_tys tys) (hsI : ty_sI PS INV) (hsP : ty_sP kp pgf) (hd : decode cc s.1 = .ok (.lastore, 1)) (h : sh_stl KT mods PS kp s = some l) (hJ : ∀ t ∈ l, ty_J x cl nL tys KT INV pgf mods news σ0 M0 g t) : ty_J x cl nL tys KT INV pgf mods news σ0 M0 g s := by
  unfold sh_stl at h
  split at h
  · split at h
    · rename_i pc L v i e r n k _ kk N ts hkd
      split at h
      · rename_i hc
        obtain ⟨hc0, hc1, hc2, hc3⟩ := hc
        cases h
        intro σ M ls st hs hw hH hI hF hL hS
        obtain ⟨v1, vs, rfl, hv, hvs⟩ := ty_stk_c hS
        obtain ⟨i1, is, rfl, hi, his⟩ := ty_stk_c hvs
        obtain ⟨e1, us, rfl, he, hus⟩ := ty_stk_c his
        obtain ⟨a, rfl, hk, hd2⟩ := ty_kd_ok hkd he.1
        obtain ⟨iv, rfl, hi1, hi2⟩ := ty_in_ok hc1 hi.1
        obtain ⟨y, rfl⟩ := ty_long hc0 hv.1
        obtain ⟨cA, ft, f, q1, hat⟩ := ty_arl (j := 3) hH hk hd2
        obtain ⟨cB, cI, cZ, cJ, rr, rfl⟩ := ht
        cases q1
        have hok : ty_ok ((cB, .byte) :: (cI, .int) :: (cZ, .boolean) :: (cA, .long) :: rr) σ (23, N, ts) (.inl (cA, N, .inr (.inl (vp_updL f iv.toNatClampNeg y)))) := by
          refine ⟨fun q => absurd q (by show ¬ 23 = 0; omega), fun j hj hlt => absurd hj (by show ¬ 23 = 1 + j; omega), fun j hj => ?_⟩
          have hj : 23 = 20 + j := hj
          have e : j = 3 := by omega
          subst e
          exact ⟨cA, .long, _, rfl, rfl⟩
        obtain ⟨r1, r2, r3⟩ := ty_write (f := 0) hsI hH hI hF hk hd2 hok (ty_p_arr hat.2) hc2
        exact gG_last hx 3 hd hat rfl hi1 (hJ _ (List.mem_singleton.mpr rfl) σ _ ls us hs hw r1 r2 r3 (ty_loc_mv (fun _ _ h => h) (ty_wpg hsP hk hc3) hL) (ty_stk_mv (fun _ _ h => h) (ty_wpg hsP hk hc3) hus))
      · cases h
    · cases h
  · cases h
end AR
