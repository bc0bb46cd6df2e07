/-! A STEP of types is a step of the machine -/
theorem ty_kd_ok {KT : List ty_D} {t : ty_T} {k : Nat} {d : ty_D} {σ : ty_K} {g : Int} {pg : Int32 → Prop} {v : Value} (h : ty_kd KT t = some (k, d)) (hv : ty_has σ g pg v t) : ∃ a : Nat, v = .ref a ∧ σ a = some k ∧ KT[k]? = some d := by
  unfold ty_kd at h
  split at h
  · rename_i e
    obtain ⟨d', h1, h2⟩ := Option.map_eq_some_iff.mp h
    cases h2
    obtain ⟨a, h3, h4⟩ := ty_refk e hv
    exact ⟨a, h3, h4, h1⟩
  · cases h
theorem ty_obj {tys : List (ClassId × FieldType)} {KT : List ty_D} {σ : ty_K} {M : mh_M} {a k ci : Nat} {ts : List ty_T} (hH : ty_H tys KT σ M) (hk : σ a = some k) (hd : KT[k]? = some (0, ci, ts)) : ∃ fs : List Value, mh_at M a (.inr (ci, fs)) ∧ ∀ (i : Nat) (t : ty_T), ts[i]? = some t → ∃ v : Value, fs[i]? = some v ∧ ty_has σ 0 ty_no v t := by
  obtain ⟨h1, d, h2, h3, -⟩ := hH a k hk
  rw [hd] at h2
  cases h2
  obtain ⟨fs, h4, h5⟩ := h3 rfl
  exact ⟨fs, ⟨h1, h4⟩, h5⟩
theorem ty_arr {tys : List (ClassId × FieldType)} {KT : List ty_D} {σ : ty_K} {M : mh_M} {a k j N : Nat} {t : ty_T} (hH : ty_H tys KT σ M) (hk : σ a = some k) (hd : KT[k]? = some (1 + j, N, [t])) (hj : j < 10) : ∃ (cA : ClassId) (ft : FieldType) (f : Nat → Int32), tys[j]? = some (cA, ft) ∧ mh_at M a (.inl (cA, N, .inl f)) ∧ ∀ i, i < N → ty_has σ 0 ty_no (.int (f i)) t := by
  obtain ⟨h1, d, h2, -, h3, -⟩ := hH a k hk
  rw [hd] at h2
  cases h2
  obtain ⟨cA, ft, f, h4, h5, h6⟩ := h3 j rfl hj
  exact ⟨cA, ft, f, h4, ⟨h1, h5⟩, h6 t rfl⟩
theorem ty_arl {tys : List (ClassId × FieldType)} {KT : List ty_D} {σ : ty_K} {M : mh_M} {a k j N : Nat} {ts : List ty_T} (hH : ty_H tys KT σ M) (hk : σ a = some k) (hd : KT[k]? = some (20 + j, N, ts)) : ∃ (cA : ClassId) (ft : FieldType) (f : Nat → Int64), tys[j]? = some (cA, ft) ∧ mh_at M a (.inl (cA, N, .inr (.inl f))) := by
  obtain ⟨h1, d, h2, -, -, h3⟩ := hH a k hk
  rw [hd] at h2
  cases h2
  obtain ⟨cA, ft, f, h4, h5⟩ := h3 j rfl
  exact ⟨cA, ft, f, h4, h1, h5⟩
theorem ty_in_ok {t : ty_T} {N : Nat} {σ : ty_K} {g : Int} {pg : Int32 → Prop} {v : Value} (h : ty_in t N = true) (hv : ty_has σ g pg v t) : ∃ i : Int32, v = .int i ∧ vp_in i N ∧ i.toNatClampNeg < N := by
  unfold ty_in at h
  split at h
  · rename_i r hr
    obtain ⟨i, h1, h2, h3⟩ := ty_rng_ok hr hv
    simp only [Bool.and_eq_true, decide_eq_true_eq] at h
    have h4 : vp_in i N := vp_in_iff.mpr ⟨by omega, by omega⟩
    refine ⟨i, h1, h4, ?_⟩
    unfold vp_in at h4
    omega
  · cases h
theorem ty_p_set {ci f : Nat} {fs : List Value} {v : Value} {e : va_E} (he : e = .inr (ci, fs)) : ∀ i, i ≠ f → ty_p (.inr (ci, fs.set f v)) i = ty_p e i := by
  intro i hi
  subst he
  show Sum.inr ((fs.set f v)[i]?) = Sum.inr (fs[i]?)
  rw [List.getElem?_set_ne (Ne.symm hi)]
theorem ty_p_arr {x y : ClassId × vp_A} {e : va_E} (he : e = .inl y) : ∀ i, i ≠ 0 → ty_p (.inl x) i = ty_p e i := by
  intro i hi
  subst he
  show (if i = 0 then _ else _) = (if i = 0 then _ else _)
  rw [if_neg hi, if_neg hi]
section OK
variable {x : gx_T} {cl : List vw_C} {cc : ByteArray} {nL : Nat} {tys : List (ClassId × FieldType)} {Ts : List Cond} {own : String} {KT : List ty_D} {INV : ty_K → mh_M → Prop} {pgf : ty_K → mh_M → Int32 → Prop} {mods PS : List (Nat × Nat)} {news : List Nat} {kp : Nat} {σ0 : ty_K} {M0 : mh_M} {g : Int}
variable {fT pT : List (Nat × Nat × Nat × FieldType)} {cT : List (Nat × ty_C)} {kT : List (Nat × Int)} {lT : List Nat} {nT : List (Nat × Nat × Nat × Nat × List Value)} {aT : List (Nat × Nat)} {nc ns RC RS : Nat} {rT : Option ty_T} {rF : Option FieldType} {post : Option Value → mh_M → Prop}
variable {s : ty_S} {l : List ty_S} {idx : Nat}
abbrev ty_sI (PS : List (Nat × Nat)) (INV : ty_K → mh_M → Prop) : Prop := ∀ (σ : ty_K) (M : mh_M) (σ' : ty_K) (M' : mh_M), ty_FP PS σ M σ' M' → INV σ M → INV σ' M'
abbrev ty_sP (kp : Nat) (pgf : ty_K → mh_M → Int32 → Prop) : Prop := ∀ (σ : ty_K) (M : mh_M) (σ' : ty_K) (M' : mh_M), ty_FK kp σ M σ' M' → ∀ z, pgf σ M z → pgf σ' M' z
theorem ty_write {σ : ty_K} {M : mh_M} {a k f : Nat} {d : ty_D} {e : va_E} (hsI : ty_sI PS INV) (hH : ty_H tys KT σ M) (hI : INV σ M) (hF : ty_FM mods news σ0 M0 σ M) (hk : σ a = some k) (hd : KT[k]? = some d) (he : ty_ok tys σ d e) (hne : ∀ i, i ≠ f → ty_p e i = ty_p (M.2 a) i) (hw : ty_wr mods PS k f = true) :
    ty_H tys KT σ (mh_set M a e) ∧ INV σ (mh_set M a e) ∧ ty_FM mods news σ0 M0 σ (mh_set M a e) := by
  unfold ty_wr at hw
  simp only [Bool.and_eq_true, decide_eq_true_eq] at hw
  refine ⟨ty_H_set hH hk hd he, hsI _ _ _ _ (ty_F_set hk fun i hi => hne i (fun q => hw.2 (q ▸ hi))) hI, hF.tr (ty_F_set hk fun i hi => hne i (fun q => hi (q ▸ hw.1)))⟩
theorem ty_wpg {σ : ty_K} {M : mh_M} {a k : Nat} {e : va_E} (hsP : ty_sP kp pgf) (hk : σ a = some k) (hn : k ≠ kp) : ∀ z, pgf σ M z → pgf σ (mh_set M a e) z := hsP _ _ _ _ (ty_F_set hk fun i hi => absurd hi hn)
theorem sh_get_ok (hf : ∀ q ∈ fT, gR_get x cl cc q.1 q.2.1 q.2.2.1) (hd : decode cc s.1 = .ok (.getfield idx, 3)) (h : sh_get KT fT idx s = some l) (hJ : ∀ t ∈ l, ty_J x cl nL tys KT INV pgf mods news σ0 M0 g t) : ty_J x cl nL tys KT INV pgf mods news σ0 M0 g s := by
  unfold sh_get at h
  split at h
  · split at h
    · rename_i hkd
      split at h
      · rename_i hfl
        split at h
        · rename_i ht
          split at h
          · rename_i hp
            cases h
            unfold ty_fld at hfl
            obtain ⟨q, h1, h2⟩ := Option.map_eq_some_iff.mp hfl
            have h3 := List.mem_of_find?_eq_some h1
            have h4 := List.find?_some h1
            simp only [Bool.and_eq_true, beq_iff_eq] at h4
            obtain ⟨q1, q2, q3, q4⟩ := q
            cases h2
            obtain ⟨rfl, rfl⟩ := h4
            intro σ M ls st hs hw hH hI hF hL hS
            obtain ⟨v, vs, rfl, hv, hvs⟩ := ty_stk_c hS
            obtain ⟨a, rfl, hk, hd2⟩ := ty_kd_ok hkd hv.1
            obtain ⟨fs, hat, hfs⟩ := ty_obj hH hk hd2
            obtain ⟨w, hw1, hw2⟩ := hfs _ _ ht
            exact hf _ h3 _ ls a fs w vs M _ _ hd hat hw1 (hJ _ (List.mem_singleton.mpr rfl) σ M ls (w :: vs) hs hw hH hI hF hL ⟨⟨ty_plain_ok hp hw2, trivial⟩, hvs⟩)
          · cases h
        · cases h
      · cases h
    · cases h
  · cases h
theorem ty_ff_ok {ft : FieldType} {t : ty_T} {σ : ty_K} {g : Int} {pg : Int32 → Prop} {v : Value} (h : ty_ff ft t = true) (hv : ty_has σ g pg v t) : narrow ft v = v ∧ fits ft v = true := by
  unfold ty_ff at h
  split at h
  · obtain ⟨z, rfl⟩ := ty_rs h hv
    exact ⟨rfl, rfl⟩
  · split at h
    · rename_i r hr
      obtain ⟨z, rfl, h1, h2⟩ := ty_rng_ok hr hv
      simp only [Bool.and_eq_true, decide_eq_true_eq] at h
      have h3 : z.toInt = 0 ∨ z.toInt = 1 := by omega
      rcases h3 with h3 | h3
      · have e : z = 0 := Int32.toInt_inj.mp h3
        subst e
        exact ⟨by decide, by decide⟩
      · have e : z = 1 := Int32.toInt_inj.mp h3
        subst e
        exact ⟨by decide, by decide⟩
    · cases h
  · obtain ⟨z, rfl⟩ := ty_long (by simpa using h) hv
    exact ⟨rfl, rfl⟩
  · obtain ⟨z, rfl, -⟩ := ty_refk (by simpa using h) hv
    exact ⟨rfl, rfl⟩
  · obtain ⟨z, rfl, -⟩ := ty_refk (by simpa using h) hv
    exact ⟨rfl, rfl⟩
  · cases h
theorem sh_put_ok (hsI : ty_sI PS INV) (hsP : ty_sP kp pgf) (hf : ∀ q ∈ pT, gR_put x cl cc q.1 q.2.1 q.2.2.1 q.2.2.2) (hd : decode cc s.1 = .ok (.putfield idx, 3)) (h : sh_put KT pT mods PS kp idx s = some l) (hJ : ∀ t ∈ l, ty_J x cl nL tys KT INV pgf mods news σ0 M0 g t) : ty_J x cl nL tys KT INV pgf mods news σ0 M0 g s := by
  unfold sh_put at h
  split at h
  · split at h
    · rename_i hkd
      split at h
      · rename_i f0 ft0 hfl
        split at h
        · rename_i ht
          split at h
          · rename_i hp
            cases h
            simp only [Bool.and_eq_true, bne_iff_ne, ne_eq] at hp
            obtain ⟨⟨⟨⟨hp1, hp2⟩, hp3⟩, hp4⟩, hp5⟩ := hp
            unfold ty_fld at hfl
            obtain ⟨q, h1, h2⟩ := Option.map_eq_some_iff.mp hfl
            have h3 := List.mem_of_find?_eq_some h1
            have h4 := List.find?_some h1
            simp only [Bool.and_eq_true, beq_iff_eq] at h4
            obtain ⟨q1, q2, q3, q4⟩ := q
            cases h2
            obtain ⟨rfl, rfl⟩ := h4
            intro σ M ls st hs hw hH hI hF hL hS
            obtain ⟨v, vs, rfl, hv, hvs⟩ := ty_stk_c hS
            obtain ⟨u, us, rfl, hu, hus⟩ := ty_stk_c hvs
            obtain ⟨a, rfl, hk, hd2⟩ := ty_kd_ok hkd hu.1
            obtain ⟨fs, hat, hfs⟩ := ty_obj hH hk hd2
            obtain ⟨w, hw1, hw2⟩ := hfs _ _ ht
            have hlt := (List.getElem?_eq_some_iff.mp hw1).1
            obtain ⟨n1, n2⟩ := ty_ff_ok hp3 hv.1
            have hok : ty_ok tys σ (0, q2, _) (.inr (q2, fs.set f0 v)) := ⟨fun _ => ⟨_, rfl, fun i t hi => by
              by_cases e : i = f0
              · subst e
                rw [ht] at hi
                cases hi
                exact ⟨v, by rw [List.getElem?_set_self hlt], ty_plain_ok hp2 (ty_sub_ok (g' := 0) hp1 hv.1)⟩
              · rw [List.getElem?_set_ne (Ne.symm e)]
                exact hfs i t hi⟩, fun j hj => absurd hj (by show ¬ (0 = 1 + j); omega), fun j hj => absurd hj (by show ¬ (0 = 20 + j); omega)⟩
            obtain ⟨r1, r2, r3⟩ := ty_write hsI hH hI hF hk hd2 hok (ty_p_set hat.2) hp4
            exact hf _ h3 _ ls a fs v us M _ _ hd hat hlt n1 n2 (hJ _ (List.mem_singleton.mpr rfl) σ _ ls us hs hw r1 r2 r3 (ty_loc_mv (fun _ _ h => h) (ty_wpg hsP hk hp5) hL) (ty_stk_mv (fun _ _ h => h) (ty_wpg hsP hk hp5) hus))
          · cases h
        · cases h
      · cases h
    · cases h
  · cases h
end OK
