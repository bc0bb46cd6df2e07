section CK
variable {x : gx_T} {cl : List vw_C} {cc : ByteArray} {nL : Nat} {tys : List (ClassId × FieldType)} {Ts : List Cond} {own : String} {KT : List ty_D} {INV : ty_K → mh_M → Prop} {pgf : ty_K → mh_M → Int32 → Prop} {mods PS : List (Nat × Nat)} {news : List Nat} {kp : Nat} {σ0 : ty_K} {M0 : mh_M} {g : Int}
variable {fT pT : List (Nat × Nat × Nat × FieldType)} {cT : List (Nat × ty_C)} {kT : List (Nat × Int)} {lT : List Nat} {nT : List (Nat × Nat × Nat × Nat × List Value)} {aT : List (Nat × Nat)} {nc ns RC RS : Nat} {rT : Option ty_T} {rF : Option FieldType} {post : Option Value → mh_M → Prop}
variable {s : ty_S} {l : List ty_S} {idx pc : Nat}
/-- what the end of a body asks for -/
abbrev ty_pst (tys : List (ClassId × FieldType)) (KT : List ty_D) (INV : ty_K → mh_M → Prop) (mods : List (Nat × Nat)) (news : List Nat) (σ0 : ty_K) (M0 : mh_M) (rT : Option ty_T) (post : Option Value → mh_M → Prop) : Prop := ∀ (v : Option Value) (M : mh_M) (σ : ty_K), ty_FM mods news σ0 M0 σ M → ty_H tys KT σ M → INV σ M → ty_rv σ v rT → post v M
theorem sh_ret_ok (hr : gR_ret x cl cc rF post nc ns) (hp : ty_pst tys KT INV mods news σ0 M0 rT post) {i : Instr} (hd : decode cc s.1 = .ok (i, 1)) (h : sh_ret nc ns rT rF i s = some l) : ty_J x cl nL tys KT INV pgf mods news σ0 M0 g s := by
  unfold sh_ret at h
  split at h
  rename_i pc L es n k
  split at h
  · rename_i hn
    intro σ M ls st hs hw hH hI hF hL hS
    split at h
    · split at h
      · rename_i e
        rw [ty_stk_n hS]
        exact hr pc ls i none M n k hd ⟨e, rfl⟩ (hp none M σ hF hH hI rfl) hn.1 hn.2
      · cases h
    · split at h
      · rename_i t e0 e
        obtain ⟨v, vs, rfl, hv, hvs⟩ := ty_stk_c hS
        rw [ty_stk_n hvs]
        obtain ⟨z, rfl⟩ := ty_long e.2.1 hv.1
        obtain ⟨t0, t1, t2⟩ := t
        have e2 : t0 = 1 := e.2.2
        subst e2
        exact hr pc ls i (some (.long z)) M n k hd ⟨e.1, z, rfl⟩ (hp _ M σ hF hH hI ⟨_, rfl, z, rfl⟩) hn.1 hn.2
      · cases h
    · split at h
      · rename_i e
        obtain ⟨v, vs, rfl, hv, hvs⟩ := ty_stk_c hS
        rw [ty_stk_n hvs]
        obtain ⟨a, rfl, -⟩ := ty_refk e.2.1 hv.1
        exact hr pc ls i (some (.ref a)) M n k hd ⟨e.1, a, rfl⟩ (hp _ M σ hF hH hI ⟨_, rfl, ty_plain_ok e.2.2.2 (ty_sub_ok (g' := 0) e.2.2.1 hv.1)⟩) hn.1 hn.2
      · cases h
    · split at h
      · rename_i e
        obtain ⟨v, vs, rfl, hv, hvs⟩ := ty_stk_c hS
        rw [ty_stk_n hvs]
        obtain ⟨a, rfl, -⟩ := ty_refk e.2.1 hv.1
        exact hr pc ls i (some (.ref a)) M n k hd ⟨e.1, a, rfl⟩ (hp _ M σ hF hH hI ⟨_, rfl, ty_plain_ok e.2.2.2 (ty_sub_ok (g' := 0) e.2.2.1 hv.1)⟩) hn.1 hn.2
      · cases h
    · split at h
      · rename_i e
        obtain ⟨v, vs, rfl, hv, hvs⟩ := ty_stk_c hS
        rw [ty_stk_n hvs]
        obtain ⟨z, rfl⟩ := ty_rs e.2.1 hv.1
        exact hr pc ls i (some (.int z)) M n k hd ⟨e.1, z, rfl, rfl⟩ (hp _ M σ hF hH hI ⟨_, rfl, ty_plain_ok e.2.2.2 (ty_sub_ok (g' := 0) e.2.2.1 hv.1)⟩) hn.1 hn.2
      · cases h
    · split at h
      · rename_i e
        obtain ⟨v, vs, rfl, hv, hvs⟩ := ty_stk_c hS
        rw [ty_stk_n hvs]
        obtain ⟨z, rfl, z1, z2⟩ := ty_sub_ok (g' := 0) (b := (0, 0, 1)) e.2.1 hv.1
        have z1 : (0 : Int) ≤ z.toInt := z1
        have z2 : z.toInt ≤ 1 := z2
        have hz : z = 0 ∨ z = 1 := by
          have h3 : z.toInt = 0 ∨ z.toInt = 1 := by omega
          rcases h3 with h3 | h3
          · exact Or.inl (Int32.toInt_inj.mp h3)
          · exact Or.inr (Int32.toInt_inj.mp h3)
        have hnr : narrow .boolean (.int z) = .int z := by rcases hz with rfl | rfl <;> decide
        exact hr pc ls i (some (.int z)) M n k hd ⟨e.1, z, rfl, hnr⟩ (hp _ M σ hF hH hI ⟨_, rfl, ty_plain_ok e.2.2.2 (ty_sub_ok (g' := 0) e.2.2.1 hv.1)⟩) hn.1 hn.2
      · cases h
    · split at h
      · rename_i e
        obtain ⟨v, vs, rfl, hv, hvs⟩ := ty_stk_c hS
        rw [ty_stk_n hvs]
        obtain ⟨z, rfl, z1, z2⟩ := ty_sub_ok (g' := 0) (b := (0, -128, 127)) e.2.1 hv.1
        have z1 : (-128 : Int) ≤ z.toInt := z1
        have z2 : z.toInt ≤ 127 := z2
        have hnr : narrow .byte (.int z) = .int z := by
          have e3 : z.toInt8.toInt32 = z := by
            apply Int32.toInt_inj.mp
            rw [Int8.toInt_toInt32, Int32.toInt_toInt8, Int.bmod_def]
            omega
          rw [← e3]
          exact pk_nb z
        exact hr pc ls i (some (.int z)) M n k hd ⟨e.1, z, rfl, hnr⟩ (hp _ M σ hF hH hI ⟨_, rfl, ty_plain_ok e.2.2.2 (ty_sub_ok (g' := 0) e.2.2.1 hv.1)⟩) hn.1 hn.2
      · cases h
    · cases h
  · cases h
theorem ty_go_in {o : Option ty_L} {L' : ty_L} {q n k : Nat} {r : List ty_E} (h : o = some L') : (q, L', r, n, k) ∈ ty_go o q r n k := by
  subst h
  exact List.mem_singleton.mpr rfl
theorem ty_0 : (0 : Int32).toInt = 0 := rfl
theorem sh_if_ok (hx : gC x cl cc nL tys Ts own) {c : ClassFile.Cond} {off : Int} (hd : decode cc s.1 = .ok (.ifCond c off, 3)) (h : sh_if c off s = some l) (hJ : ∀ t ∈ l, ty_J x cl nL tys KT INV pgf mods news σ0 M0 g t) : ty_J x cl nL tys KT INV pgf mods news σ0 M0 g s := by
  unfold sh_if at h
  split at h
  · split at h
    · split at h
      · rename_i pc L e r n k _ a ha ho
        cases h
        intro σ M ls st hs hw hH hI hF hL hS
        obtain ⟨v, vs, rfl, hv, hvs⟩ := ty_stk_c hS
        obtain ⟨z, rfl, z1, z2⟩ := ty_rng_ok ha hv.1
        refine gG_if hx (tgt := ((pc : Int) + off).toNat) hd (by dsimp only; omega) (fun q => ?_) (fun q => ?_)
        · obtain ⟨L', e1, e2⟩ := ty_br_ok (ib := ty_i0) (v := 0) (b := (0, 0)) (by rw [ty_0]; exact q) z1 z2 (by rw [ty_0]; exact Int.le_refl _) (by rw [ty_0]; exact Int.le_refl _) hv.2 trivial hL
          exact hJ _ (List.mem_append_left _ (ty_go_in e1)) σ M ls vs hs hw hH hI hF e2 hvs
        · obtain ⟨L', e1, e2⟩ := ty_br_ok (ib := ty_i0) (v := 0) (b := (0, 0)) (by rw [ty_0]; exact ty_neg_ok q) z1 z2 (by rw [ty_0]; exact Int.le_refl _) (by rw [ty_0]; exact Int.le_refl _) hv.2 trivial hL
          exact hJ _ (List.mem_append_right _ (ty_go_in e1)) σ M ls vs hs hw hH hI hF e2 hvs
      · cases h
    · cases h
  · cases h
theorem sh_ic_ok (hx : gC x cl cc nL tys Ts own) {c : ClassFile.Cond} {off : Int} (hd : decode cc s.1 = .ok (.if_icmp c off, 3)) (h : sh_ic c off s = some l) (hJ : ∀ t ∈ l, ty_J x cl nL tys KT INV pgf mods news σ0 M0 g t) : ty_J x cl nL tys KT INV pgf mods news σ0 M0 g s := by
  unfold sh_ic at h
  split at h
  · split at h
    · split at h
      · rename_i pc L f e r n k _ _ a b ha hb ho
        cases h
        intro σ M ls st hs hw hH hI hF hL hS
        obtain ⟨v, vs, rfl, hv, hvs⟩ := ty_stk_c hS
        obtain ⟨u, us, rfl, hu, hus⟩ := ty_stk_c hvs
        obtain ⟨z, rfl, z1, z2⟩ := ty_rng_ok ha hu.1
        obtain ⟨y, rfl, y1, y2⟩ := ty_rng_ok hb hv.1
        refine gG_ic hx (tgt := ((pc : Int) + off).toNat) hd (by dsimp only; omega) (fun q => ?_) (fun q => ?_)
        · obtain ⟨L', e1, e2⟩ := ty_br_ok q z1 z2 y1 y2 hu.2 hv.2 hL
          exact hJ _ (List.mem_append_left _ (ty_go_in e1)) σ M ls us hs hw hH hI hF e2 hus
        · obtain ⟨L', e1, e2⟩ := ty_br_ok (ty_neg_ok q) z1 z2 y1 y2 hu.2 hv.2 hL
          exact hJ _ (List.mem_append_right _ (ty_go_in e1)) σ M ls us hs hw hH hI hF e2 hus
      · cases h
    · cases h
  · cases h
theorem sh_i1_ok (hx : gC x cl cc nL tys Ts own) {i len : Nat} (hd : decode cc s.1 = .ok (.istore i, len) ∧ len = 2 ∨ ∃ j : Fin 4, decode cc s.1 = .ok (.istore_n j, len) ∧ (j : Nat) = i ∧ len = 1) (h : sh_i1 nL len i s = some l) (hJ : ∀ t ∈ l, ty_J x cl nL tys KT INV pgf mods news σ0 M0 g t) : ty_J x cl nL tys KT INV pgf mods news σ0 M0 g s := by
  unfold sh_i1 at h
  split at h
  · split at h
    · rename_i hc
      cases h
      intro σ M ls st hs hw hH hI hF hL hS
      obtain ⟨v, vs, rfl, hv, hvs⟩ := ty_stk_c hS
      obtain ⟨z, rfl⟩ := ty_rs hc.1 hv.1
      exact gG_istore hx hs hw hd hc.2 (fun ls' hp => hJ _ (List.mem_singleton.mpr rfl) σ M ls' vs hp.1 hp.2.1 hH hI hF (ty_loc_st1 hp hL hv.1) (ty_stk_clr hvs))
    · cases h
  · cases h
theorem sh_a1_ok (hx : gC x cl cc nL tys Ts own) {i len : Nat} (hd : decode cc s.1 = .ok (.astore i, len) ∧ len = 2 ∨ ∃ j : Fin 4, decode cc s.1 = .ok (.astore_n j, len) ∧ (j : Nat) = i ∧ len = 1) (h : sh_a1 nL len i s = some l) (hJ : ∀ t ∈ l, ty_J x cl nL tys KT INV pgf mods news σ0 M0 g t) : ty_J x cl nL tys KT INV pgf mods news σ0 M0 g s := by
  unfold sh_a1 at h
  split at h
  · split at h
    · rename_i hc
      cases h
      intro σ M ls st hs hw hH hI hF hL hS
      obtain ⟨v, vs, rfl, hv, hvs⟩ := ty_stk_c hS
      obtain ⟨a, rfl, -⟩ := ty_refk hc.1 hv.1
      exact gG_astore hx hs hw hd hc.2 (fun ls' hp => hJ _ (List.mem_singleton.mpr rfl) σ M ls' vs hp.1 hp.2.1 hH hI hF (ty_loc_st1 hp hL hv.1) (ty_stk_clr hvs))
    · cases h
  · cases h
theorem sh_l1_ok (hx : gC x cl cc nL tys Ts own) {i len : Nat} (hd : decode cc s.1 = .ok (.lstore i, len) ∧ len = 2 ∨ ∃ j : Fin 4, decode cc s.1 = .ok (.lstore_n j, len) ∧ (j : Nat) = i ∧ len = 1) (h : sh_l1 nL len i s = some l) (hJ : ∀ t ∈ l, ty_J x cl nL tys KT INV pgf mods news σ0 M0 g t) : ty_J x cl nL tys KT INV pgf mods news σ0 M0 g s := by
  unfold sh_l1 at h
  split at h
  · split at h
    · rename_i hc
      cases h
      intro σ M ls st hs hw hH hI hF hL hS
      obtain ⟨v, vs, rfl, hv, hvs⟩ := ty_stk_c hS
      obtain ⟨z, rfl⟩ := ty_long hc.1 hv.1
      exact gG_lstore hx hs hw hd hc.2 (fun ls' hp => hJ _ (List.mem_singleton.mpr rfl) σ M ls' vs hp.1 hp.2.1 hH hI hF (ty_loc_st2 hp hL) (ty_stk_clr hvs))
    · cases h
  · cases h
theorem sh_inc_ok (hx : gC x cl cc nL tys Ts own) {i : Nat} {z : Int} (hd : decode cc s.1 = .ok (.iinc i z, 3)) (h : sh_inc i z s = some l) (hJ : ∀ t ∈ l, ty_J x cl nL tys KT INV pgf mods news σ0 M0 g t) : ty_J x cl nL tys KT INV pgf mods news σ0 M0 g s := by
  unfold sh_inc at h
  split at h
  split at h
  · split at h
    · split at h
      · rename_i pc L r n k _ t ht _ q hq hc
        cases h
        intro σ M ls st hs hw hH hI hF hL hS
        obtain ⟨v, v1, v2⟩ := ty_get_ok hL ht
        obtain ⟨y, rfl, y1, y2⟩ := ty_rng_ok hq v2
        refine gG_iinc hx hs hw hd v1 (fun ls' hp => hJ _ (List.mem_singleton.mpr rfl) σ M ls' st hp.1 hp.2.1 hH hI hF (ty_loc_st1 hp hL ?_) (ty_stk_clr hS))
        split
        · rename_i hr
          have ey : (y + Int32.ofInt z).toInt = y.toInt + z := by
            rw [Int32.toInt_add, ty_ci hc.1 hc.2, ty_bm (by omega) (by omega)]
          split
          · rename_i hg
            have hgy : g ≤ y.toInt := by
              obtain ⟨t0, t1, t2⟩ := t
              rcases hg.1 with e | e | e
              · have e : t0 = 6 := e
                subst e
                obtain ⟨w, w0, -, -, w3⟩ := v2
                cases w0; omega
              · have e : t0 = 7 := e
                subst e
                obtain ⟨w, w0, -, -, w3⟩ := v2
                cases w0; omega
              · have e : t0 = 8 := e
                subst e
                obtain ⟨w, w0, -, -, w3, -⟩ := v2
                cases w0; omega
            exact ⟨_, rfl, by rw [ey]; show q.1 + z ≤ _; omega, by rw [ey]; show _ ≤ q.2 + z; omega, by rw [ey]; omega⟩
          · exact ⟨_, rfl, by rw [ey]; show q.1 + z ≤ _; omega, by rw [ey]; show _ ≤ q.2 + z; omega⟩
        · exact ty_any _
      · cases h
    · cases h
  · cases h
theorem sh_ts_ok (hx : gC x cl cc nL tys Ts own) {d lo hi : Int} {offs : Array Int} {len : Nat} (hd : decode cc s.1 = .ok (.tableswitch d lo hi offs, len)) (h : sh_ts d lo hi offs s = some l) (hJ : ∀ t ∈ l, ty_J x cl nL tys KT INV pgf mods news σ0 M0 g t) : ty_J x cl nL tys KT INV pgf mods news σ0 M0 g s := by
  unfold sh_ts at h
  split at h
  · split at h
    · rename_i hc
      cases h
      intro σ M ls st hs hw hH hI hF hL hS
      obtain ⟨v, vs, rfl, hv, hvs⟩ := ty_stk_c hS
      obtain ⟨z, rfl⟩ := ty_rs hc.1 hv.1
      exact gG_ts hx hd hc.2.1 (fun o ho => of_decide_eq_true (List.all_eq_true.mp hc.2.2.1 o ho)) hc.2.2.2 (hJ _ List.mem_cons_self σ M ls vs hs hw hH hI hF hL hvs) (fun o ho => hJ _ (List.mem_cons_of_mem _ (List.mem_map.mpr ⟨o, ho, rfl⟩)) σ M ls vs hs hw hH hI hF hL hvs)
    · cases h
  · cases h
end CK
