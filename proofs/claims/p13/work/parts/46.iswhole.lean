/-! KnowDiskModel.isWhole: where it says yes, the head's sectors hold pages with numbers below 30 -/
theorem lg_cm_eq {x y : Int64} (h : (lg_cmp x y).toInt = 0) : x = y := by
  unfold lg_cmp at h
  split at h
  · cases h
  · split at h
    · assumption
    · cases h
theorem lg_cm_ne {x y : Int64} (h : (lg_cmp x y).toInt ≠ 0) : x ≠ y := by
  intro e
  subst e
  apply h
  unfold lg_cmp
  rw [if_neg (by exact Int64.lt_irrefl), if_pos rfl]
  rfl
def pBt (st : Int64) (z : Int32) : Int64 := (st >>> (z.toInt64 &&& 63)) &&& Int64.ofNat 1
def pWf (dk : Nat → Int32) (st : Int64) (n : Int) : Prop := ∀ y : Int32, 0 ≤ y.toInt → y.toInt < n → pBt st y ≠ Int64.ofNat 0 → 2 ≤ y.toInt ∧ y.toInt < 64 ∧ (dk (32 * y.toInt.toNat + 5)).toInt ≤ 29
theorem pWf_s {dk : Nat → Int32} {st : Int64} {z : Int32} (h : pWf dk st z.toInt) (h2 : pBt st z ≠ Int64.ofNat 0 → 2 ≤ z.toInt ∧ z.toInt < 64 ∧ (dk (32 * z.toInt.toNat + 5)).toInt ≤ 29) : pWf dk st (z.toInt + 1) := by
  intro y y0 y1 y2
  by_cases e : y.toInt < z.toInt
  · exact h y y0 e y2
  · have e2 : y = z := Int32.toInt_inj.mp (by omega)
    subst e2
    exact h2 y2
theorem ty_kp {nL : Nat} {ls ls' : Array Slot} {i w j : Nat} {v z : Value} (hp : ty_put nL ls i w v ls') (h : ls[j]? = some (.val z)) (h1 : j < i ∨ i + w ≤ j) (h2 : z.category = 1 ∨ j + 1 ≠ i) : ls'[j]? = some (.val z) := hp.2.2.2 j z h h1 (fun q => by rcases h2 with e | e <;> omega)
set_option maxRecDepth 100000 in
set_option maxHeartbeats 4000000 in
theorem mx_isWhole {l : Launch} {D : va_G} {tys : List (ClassId × FieldType)} {K : ty_K → mh_M → Prop} (ht : ty_tys tys) (hK : ty_sI pPSC K) (e t : Nat) {σ0 : ty_K} {M0 : mh_M} {m : Nat} {k : Int32} {dk : Nat → Int32} (hm0 : σ0 m = some 12) (hk : k.toInt = 0 ∨ k.toInt = 1) (hH0 : ty_H tys pKT σ0 M0) (hI0 : pIK (pR e t) K σ0 M0) (hdk : pArr σ0 M0 13 2048 dk) :
    mh_Met vwCl tys l D yX5_isWhole [Cond.code yX5_isWhole cX5_isWhole 10 (some .boolean)] (ty_rm 2 45 ct_X5_isWhole) [.ref m, .int k] M0 (fun v M' => ∃ σ', ty_FM [] [] σ0 M0 σ' M' ∧ ty_H tys pKT σ' M' ∧ pIK (pR e t) K σ' M' ∧ ∃ z : Int32, v = some (.int z) ∧ 0 ≤ z.toInt ∧ z.toInt ≤ 1 ∧ (z.toInt ≠ 0 → pWf dk (pWide dk (32 * k.toInt.toNat + 8)) 64)) := by
  refine ty_ofX (by decide +kernel) (by show 2 ≤ 10; omega) ?_
  intro x ls0 hx hl hnm hR hD hls hr
  have hG := pI_G ht hK e t
  have P := pv_X5_isWhole hG hx hl hnm hR hD
  have hst : ∃ st : Int64, st = pWide dk (32 * k.toInt.toNat + 8) := ⟨_, rfl⟩
  obtain ⟨st, est⟩ := hst
  rw [← est] at hr
  have E0 := ty_env (C := ct_X5_isWhole) (σ0 := σ0) (M0 := M0) (rT := some (0, 0, 0)) hG hx hR hr (fun v M σ h1 h2 h3 h4 => by
    obtain ⟨u, rfl, z, rfl, z1, z2⟩ := h4
    have z1 : (0 : Int) ≤ z.toInt := z1
    have z2 : z.toInt ≤ 0 := z2
    exact ⟨σ, h1, h2, h3, z, rfl, z1, by omega, fun q => by omega⟩) pd_X5_isWhole P
  have E1 : pWf dk st 64 → _ := fun hf => ty_env (C := ct_X5_isWhole) (σ0 := σ0) (M0 := M0) (rT := some pB) hG hx hR hr (fun v M σ h1 h2 h3 h4 => by
    obtain ⟨u, rfl, z, rfl, z1, z2⟩ := h4
    exact ⟨σ, h1, h2, h3, z, rfl, z1, z2, fun q => hf⟩) pd_X5_isWhole P
  have J214z := ty_seg E0 [] [] pnil [] 40 (214, [(0, (2, 12, 0)), (2, (0, 0, 32)), (5, ty_f), (7, (0, 0, 0))], [], 0, 0) (by decide +kernel) (by decide +kernel)
  have J214 : pWf dk st 64 → ∀ g, ty_J x vwCl 10 tys pKT (pIK (pR e t) K) pPG [] [] σ0 M0 g (214, [(0, (2, 12, 0)), (2, (0, 0, 32)), (5, ty_f), (7, pB)], [], 0, 0) := fun hf => ty_seg (E1 hf) [] [] pnil [] 40 (214, [(0, (2, 12, 0)), (2, (0, 0, 32)), (5, ty_f), (7, pB)], [], 0, 0) (by decide +kernel) (by decide +kernel)
  have J174 := ty_seg E0 [] [] pnil [] 60 (174, [(0, (2, 12, 0)), (2, (0, 0, 32)), (5, ty_f), (6, ty_f), (8, (0, 0, 63)), (9, ty_f)], [], 0, 0) (by decide +kernel) (by decide +kernel)
  have ht2 := ht
  obtain ⟨cB, cI, cZ, cJ, rr, rfl⟩ := ht2
  have getD : ∀ (σ : ty_K) (M : mh_M), ty_H ((cB, .byte) :: (cI, .int) :: (cZ, .boolean) :: (cJ, .long) :: rr) pKT σ M → ty_FM [] [] σ0 M0 σ M → σ m = some 12 → ∃ (fs : List Value) (aD : Nat) (cn : Int32), mh_at M m (.inr (7, fs)) ∧ fs[3]? = some (.ref aD) ∧ σ aD = some 13 ∧ mh_at M aD (.inl (cI, 2048, .inl dk)) ∧ (∀ i, i < 2048 → 0 ≤ (dk i).toInt ∧ (dk i).toInt ≤ 255) ∧ fs[0]? = some (.int cn) ∧ cn.toInt ≤ 64 := by
    intro σ M hH hF hm
    obtain ⟨fs, hat, hfs⟩ := ty_obj hH hm (show pKT[12]? = some (0, 7, _) from rfl)
    obtain ⟨v3, f3, aD, rfl, hD3⟩ := hfs 3 (2, 13, 0) rfl
    obtain ⟨v0, f0, cn, rfl, c1, c2⟩ := hfs 0 (0, 8, 64) rfl
    obtain ⟨cA, ft, dk', t3, at3, el3⟩ := ty_arr (j := 1) hH hD3 (show pKT[13]? = some (1 + 1, 2048, [(0, 0, 255)]) from rfl) (by omega)
    cases t3
    obtain ⟨ea, -⟩ := pArr_eq (pArr_F hF (List.not_mem_nil) (List.not_mem_nil) hdk) hD3 at3.2
    subst ea
    exact ⟨fs, aD, cn, hat, f3, hD3, at3, fun i hi => by
      obtain ⟨z, z0, z1, z2⟩ := el3 i hi
      cases z0
      exact ⟨z1, z2⟩, f0, c2⟩
  have loop : ∀ (n : Nat) (z gd p5 p6 at_ : Int32) (σ : ty_K) (M : mh_M) (ls : Array Slot), (64 - z.toInt).toNat < n → 0 ≤ z.toInt → z.toInt ≤ 64 → 0 ≤ gd.toInt → gd.toInt ≤ 1 → 0 ≤ at_.toInt → at_.toInt ≤ 32 → (gd.toInt ≠ 0 → pWf dk st z.toInt) → ls.size = 10 → lv_wf ls → ls[((0 : Fin 4) : Nat)]? = some (.val (.ref m)) → ls[((2 : Fin 4) : Nat)]? = some (.val (.int at_)) → ls[((3 : Fin 4) : Nat)]? = some (.val (.long st)) → ls[5]? = some (.val (.int p5)) → ls[6]? = some (.val (.int p6)) → ls[7]? = some (.val (.int gd)) → ls[8]? = some (.val (.int z)) → σ m = some 12 → ty_H ((cB, .byte) :: (cI, .int) :: (cZ, .boolean) :: (cJ, .long) :: rr) pKT σ M → pIK (pR e t) K σ M → ty_FM [] [] σ0 M0 σ M → gG x vwCl 55 ls [] M 0 0 := by
    intro n
    induction n with
    | zero => intro z gd p5 p6 at_ σ M ls hn; omega
    | succ n ih =>
      intro z gd p5 p6 at_ σ M ls hn z0 z1 d0 d1 a0 a1 hW hs hw h0 h2 h3 h5 h6 h7 h8 hm hH hI hF
      have e64 : (Int8.ofInt 64).toInt32.toInt = 64 := ty_cb (by omega) (by omega)
      have out : gd.toInt = 0 ∨ 64 ≤ z.toInt → gG x vwCl 214 ls [] M 0 0 := by
        intro ho
        by_cases hg : gd.toInt = 0
        · refine J214z 0 σ M ls [] hs hw hH hI hF ?_ trivial
          intro q hq
          have hq : q ∈ ([(0, (2, 12, 0)), (2, (0, 0, 32)), (5, ty_f), (7, (0, 0, 0))] : ty_L) := hq
          simp only [List.mem_cons, List.not_mem_nil, or_false] at hq
          rcases hq with rfl | rfl | rfl | rfl
          · exact ⟨_, h0, m, rfl, hm⟩
          · exact ⟨_, h2, at_, rfl, a0, a1⟩
          · exact ⟨_, h5, ty_any p5⟩
          · exact ⟨_, h7, gd, rfl, d0, by show gd.toInt ≤ 0; omega⟩
        · have hz : 64 ≤ z.toInt := ho.resolve_left hg
          have hz2 : z.toInt = 64 := by omega
          refine J214 (hz2 ▸ hW hg) 0 σ M ls [] hs hw hH hI hF ?_ trivial
          intro q hq
          have hq : q ∈ ([(0, (2, 12, 0)), (2, (0, 0, 32)), (5, ty_f), (7, pB)] : ty_L) := hq
          simp only [List.mem_cons, List.not_mem_nil, or_false] at hq
          rcases hq with rfl | rfl | rfl | rfl
          · exact ⟨_, h0, m, rfl, hm⟩
          · exact ⟨_, h2, at_, rfl, a0, a1⟩
          · exact ⟨_, h5, ty_any p5⟩
          · exact ⟨_, h7, gd, rfl, d0, d1⟩
      refine gG_sp hx (i := .iload 8) (len := 2) (by decide +kernel) (sp_il2 h8) ?_
      refine gG_sp hx (i := .bipush 64) (len := 2) (by decide +kernel) rfl ?_
      refine gG_ic hx (cn := .ge) (off := 155) (tgt := 214) (by decide +kernel) rfl (fun cg => out (Or.inr (by have cg : (Int8.ofInt 64).toInt32.toInt ≤ z.toInt := cg; omega))) (fun cg => ?_)
      have cg : ¬ (Int8.ofInt 64).toInt32.toInt ≤ z.toInt := cg
      rw [e64] at cg
      refine gG_sp hx (i := .iload 7) (len := 2) (by decide +kernel) (sp_il2 h7) ?_
      refine gG_if hx (cn := .eq) (off := 150) (tgt := 214) (by decide +kernel) rfl (fun cd => out (Or.inl cd)) (fun cd => ?_)
      have cd : ¬ gd.toInt = 0 := cd
      refine gG_sp hx (i := .lload_n 3) (len := 1) (by decide +kernel) (sp_ll1 h3) ?_
      refine gG_sp hx (i := .iload 8) (len := 2) (by decide +kernel) (sp_il2 h8) ?_
      refine gG_sp hx (i := .lshr) (len := 1) (by decide +kernel) rfl ?_
      refine gG_sp hx (i := .lconst 1) (len := 1) (by decide +kernel) rfl ?_
      refine gG_sp hx (i := .land) (len := 1) (by decide +kernel) rfl ?_
      refine gG_sp hx (i := .lconst 0) (len := 1) (by decide +kernel) rfl ?_
      refine gG_sp hx (i := .lcmp) (len := 1) (by decide +kernel) rfl ?_
      refine gG_if hx (cn := .ne) (off := 6) (tgt := 81) (by decide +kernel) rfl (fun cb => ?_) (fun cb => ?_)
      rotate_left
      · have cb : ¬ (lg_cmp (pBt st z) (Int64.ofNat 0)).toInt ≠ 0 := cb
        refine gG_goto hx (off := 130) (tgt := 208) (by decide +kernel) rfl ?_
        refine gG_iinc hx hs hw (i := 8) (z := 1) (v := z) (by decide +kernel) h8 (fun ls' hp' => ?_)
        refine gG_goto hx (off := -156) (tgt := 55) (by decide +kernel) rfl ?_
        have ec : (z + Int32.ofInt 1).toInt = z.toInt + 1 := ty_addI rfl rfl (by omega) (by omega)
        exact ih (z + Int32.ofInt 1) gd p5 p6 at_ σ M ls' (by omega) (by omega) (by omega) d0 d1 a0 a1 (fun q => by
          rw [ec]
          exact pWf_s (hW q) (fun q2 => absurd (lg_cm_eq (Classical.not_not.mp cb)) q2)) hp'.1 hp'.2.1 (ty_kp hp' h0 (by omega) (by omega)) (ty_kp hp' h2 (by omega) (by omega)) (ty_kp hp' h3 (by omega) (by omega)) (ty_kp hp' h5 (by omega) (by omega)) (ty_kp hp' h6 (by omega) (by omega)) (ty_kp hp' h7 (by omega) (Or.inl rfl)) hp'.2.2.1 hm hH hI hF
      · have cb : (lg_cmp (pBt st z) (Int64.ofNat 0)).toInt ≠ 0 := cb
        obtain ⟨fs, aD, cn, hat, f3, hD3, at3, el, f0, hcn⟩ := getD σ M hH hF hm
        have e32 : (Int8.ofInt 32).toInt32.toInt = 32 := ty_cb (by omega) (by omega)
        have ix5 : ((Int8.ofInt 32).toInt32 * z + Int32.ofInt 5).toInt = 32 * z.toInt + 5 := ty_addI (ty_mulI e32 rfl (by omega) (by omega)) rfl (by omega) (by omega)
        have in5 : vp_in ((Int8.ofInt 32).toInt32 * z + Int32.ofInt 5) 2048 := vp_in_iff.mpr ⟨by omega, by omega⟩
        have c5 : ((Int8.ofInt 32).toInt32 * z + Int32.ofInt 5).toNatClampNeg = 32 * z.toInt.toNat + 5 := ty_clN (by rw [ix5]; omega)
        have ix4 : ((Int8.ofInt 32).toInt32 * z + Int32.ofInt 4).toInt = 32 * z.toInt + 4 := ty_addI (ty_mulI e32 rfl (by omega) (by omega)) rfl (by omega) (by omega)
        have in4 : vp_in ((Int8.ofInt 32).toInt32 * z + Int32.ofInt 4) 2048 := vp_in_iff.mpr ⟨by omega, by omega⟩
        have ix0 : ((Int8.ofInt 32).toInt32 * z).toInt = 32 * z.toInt := ty_mulI e32 rfl (by omega) (by omega)
        refine gG_sp hx (i := .aload_n 0) (len := 1) (by decide +kernel) (sp_al h0) ?_
        refine P.1 (13, 7, 3, .array .int) (by decide +kernel) 82 ls m fs _ _ M 0 0 (by decide +kernel) hat f3 ?_
        refine gG_sp hx (i := .bipush 32) (len := 2) (by decide +kernel) rfl ?_
        refine gG_sp hx (i := .iload 8) (len := 2) (by decide +kernel) (sp_il2 h8) ?_
        refine gG_sp hx (i := .imul) (len := 1) (by decide +kernel) rfl ?_
        refine gG_sp hx (i := .iconst 5) (len := 1) (by decide +kernel) rfl ?_
        refine gG_sp hx (i := .iadd) (len := 1) (by decide +kernel) rfl ?_
        refine gG_iald hx 1 (by decide +kernel) at3 rfl in5 ?_
        rw [c5]
        refine gG_istore hx hs hw (i := 9) (len := 2) (Or.inl ⟨by decide +kernel, rfl⟩) (by decide) (fun ls1 hp1 => ?_)
        obtain ⟨p0, p1⟩ := el (32 * z.toInt.toNat + 5) (by omega)
        have h9 := hp1.2.2.1
        have h0 := ty_kp hp1 h0 (by omega) (by omega)
        have h2 := ty_kp hp1 h2 (by omega) (by omega)
        have h3 := ty_kp hp1 h3 (by omega) (by omega)
        have h5 := ty_kp hp1 h5 (by omega) (by omega)
        have h6 := ty_kp hp1 h6 (by omega) (by omega)
        have h7 := ty_kp hp1 h7 (by omega) (by omega)
        have h8 := ty_kp hp1 h8 (by omega) (Or.inl rfl)
        have no : ∀ (σ' : ty_K) (M' : mh_M), σ' m = some 12 → ty_H ((cB, .byte) :: (cI, .int) :: (cZ, .boolean) :: (cJ, .long) :: rr) pKT σ' M' → pIK (pR e t) K σ' M' → ty_FM [] [] σ0 M0 σ' M' → gG x vwCl 174 ls1 [] M' 0 0 := by
          intro σ' M' hm' hH' hI' hF'
          refine J174 0 σ' M' ls1 [] hp1.1 hp1.2.1 hH' hI' hF' ?_ trivial
          intro q hq
          have hq : q ∈ ([(0, (2, 12, 0)), (2, (0, 0, 32)), (5, ty_f), (6, ty_f), (8, (0, 0, 63)), (9, ty_f)] : ty_L) := hq
          simp only [List.mem_cons, List.not_mem_nil, or_false] at hq
          rcases hq with rfl | rfl | rfl | rfl | rfl | rfl
          · exact ⟨_, h0, m, rfl, hm'⟩
          · exact ⟨_, h2, at_, rfl, a0, a1⟩
          · exact ⟨_, h5, ty_any p5⟩
          · exact ⟨_, h6, ty_any p6⟩
          · exact ⟨_, h8, z, rfl, z0, by show z.toInt ≤ 63; omega⟩
          · exact ⟨_, h9, ty_any _⟩
        refine gG_sp hx (i := .iload 8) (len := 2) (by decide +kernel) (sp_il2 h8) ?_
        refine gG_sp hx (i := .iconst 1) (len := 1) (by decide +kernel) rfl ?_
        refine gG_ic hx (cn := .le) (off := 76) (tgt := 174) (by decide +kernel) rfl (fun _ => no σ M hm hH hI hF) (fun c1 => ?_)
        have c1 : ¬ z.toInt ≤ (Int32.ofInt 1).toInt := c1
        rw [show (Int32.ofInt 1).toInt = 1 from rfl] at c1
        refine gG_sp hx (i := .iload 8) (len := 2) (by decide +kernel) (sp_il2 h8) ?_
        refine gG_sp hx (i := .aload_n 0) (len := 1) (by decide +kernel) (sp_al h0) ?_
        refine P.1 (53, 7, 0, .int) (by decide +kernel) 104 ls1 m fs _ _ M 0 0 (by decide +kernel) hat f0 ?_
        refine gG_ic hx (cn := .ge) (off := 67) (tgt := 174) (by decide +kernel) rfl (fun _ => no σ M hm hH hI hF) (fun _ => ?_)
        refine gG_sp hx (i := .aload_n 0) (len := 1) (by decide +kernel) (sp_al h0) ?_
        refine P.1 (13, 7, 3, .array .int) (by decide +kernel) 111 ls1 m fs _ _ M 0 0 (by decide +kernel) hat f3 ?_
        refine gG_sp hx (i := .iload 8) (len := 2) (by decide +kernel) (sp_il2 h8) ?_
        refine P.2.2.1 (451, ct_X5_isRight_d) List.mem_cons_self 116 ls1 (.invokestatic 150) [.ref aD, .int z] [] M σ 0 0 (by decide +kernel) (Or.inr (Or.inl ⟨150, rfl, rfl⟩)) hp1.1 ⟨⟨aD, rfl, hD3⟩, ⟨_, rfl, z0, by show z.toInt ≤ 63; omega⟩, trivial⟩ hH hI (Nat.zero_le 8) (by rw [hR]; decide) (by rw [hR]; decide) (fun v M' σ' q1 q2 q3 q4 q5 => ?_)
        obtain ⟨u, rfl, b, rfl, b0, b1⟩ := q4
        have hF' : ty_FM [] [] σ0 M0 σ' M' := hF.tr q1
        have hm' := q1.kinds m 12 hm
        obtain ⟨fs, aD, cn, hat, f3, hD3, at3, el, f0, hcn⟩ := getD σ' M' q2 hF' hm'
        refine gG_if hx (cn := .eq) (off := 55) (tgt := 174) (by decide +kernel) rfl (fun _ => no σ' M' hm' q2 q3 hF') (fun _ => ?_)
        refine gG_sp hx (i := .aload_n 0) (len := 1) (by decide +kernel) (sp_al h0) ?_
        refine P.1 (13, 7, 3, .array .int) (by decide +kernel) 123 ls1 m fs _ _ M' 0 0 (by decide +kernel) hat f3 ?_
        refine gG_sp hx (i := .bipush 32) (len := 2) (by decide +kernel) rfl ?_
        refine gG_sp hx (i := .iload 8) (len := 2) (by decide +kernel) (sp_il2 h8) ?_
        refine gG_sp hx (i := .imul) (len := 1) (by decide +kernel) rfl ?_
        refine gG_sp hx (i := .iconst 4) (len := 1) (by decide +kernel) rfl ?_
        refine gG_sp hx (i := .iadd) (len := 1) (by decide +kernel) rfl ?_
        refine gG_iald hx 1 (by decide +kernel) at3 rfl in4 ?_
        refine gG_if hx (cn := .le) (off := 40) (tgt := 174) (by decide +kernel) rfl (fun _ => no σ' M' hm' q2 q3 hF') (fun _ => ?_)
        refine gG_sp hx (i := .aload_n 0) (len := 1) (by decide +kernel) (sp_al h0) ?_
        refine P.1 (13, 7, 3, .array .int) (by decide +kernel) 138 ls1 m fs _ _ M' 0 0 (by decide +kernel) hat f3 ?_
        refine gG_sp hx (i := .bipush 32) (len := 2) (by decide +kernel) rfl ?_
        refine gG_sp hx (i := .iload 8) (len := 2) (by decide +kernel) (sp_il2 h8) ?_
        refine gG_sp hx (i := .imul) (len := 1) (by decide +kernel) rfl ?_
        refine gG_sp hx (i := .iconst 4) (len := 1) (by decide +kernel) rfl ?_
        refine gG_sp hx (i := .iadd) (len := 1) (by decide +kernel) rfl ?_
        refine gG_iald hx 1 (by decide +kernel) at3 rfl in4 ?_
        refine gG_sp hx (i := .iconst 4) (len := 1) (by decide +kernel) rfl ?_
        refine gG_ic hx (cn := .ge) (off := 24) (tgt := 174) (by decide +kernel) rfl (fun _ => no σ' M' hm' q2 q3 hF') (fun _ => ?_)
        refine gG_sp hx (i := .iload 9) (len := 2) (by decide +kernel) (sp_il2 h9) ?_
        refine gG_sp hx (i := .bipush 30) (len := 2) (by decide +kernel) rfl ?_
        refine gG_ic hx (cn := .ge) (off := 17) (tgt := 174) (by decide +kernel) rfl (fun _ => no σ' M' hm' q2 q3 hF') (fun c30 => ?_)
        have c30 : ¬ (Int8.ofInt 30).toInt32.toInt ≤ (dk (32 * z.toInt.toNat + 5)).toInt := c30
        rw [show (Int8.ofInt 30).toInt32.toInt = 30 from ty_cb (by omega) (by omega)] at c30
        refine gG_sp hx (i := .iload 6) (len := 2) (by decide +kernel) (sp_il2 h6) ?_
        refine gG_sp hx (i := .iload 9) (len := 2) (by decide +kernel) (sp_il2 h9) ?_
        refine gG_sp hx (i := .ishr) (len := 1) (by decide +kernel) rfl ?_
        refine gG_sp hx (i := .iconst 1) (len := 1) (by decide +kernel) rfl ?_
        refine gG_sp hx (i := .iand) (len := 1) (by decide +kernel) rfl ?_
        refine gG_if hx (cn := .ne) (off := 7) (tgt := 174) (by decide +kernel) rfl (fun _ => no σ' M' hm' q2 q3 hF') (fun _ => ?_)
        refine gG_sp hx (i := .iconst 1) (len := 1) (by decide +kernel) rfl ?_
        refine gG_goto hx (off := 4) (tgt := 175) (by decide +kernel) rfl ?_
        
        refine gG_istore hx hp1.1 hp1.2.1 (i := 7) (len := 2) (Or.inl ⟨by decide +kernel, rfl⟩) (by decide) (fun ls2 hp2 => ?_)
        have k0 := ty_kp hp2 h0 (by omega) (by omega)
        have k2 := ty_kp hp2 h2 (by omega) (by omega)
        have k3 := ty_kp hp2 h3 (by omega) (by omega)
        have k5 := ty_kp hp2 h5 (by omega) (by omega)
        have k6 := ty_kp hp2 h6 (by omega) (Or.inl rfl)
        have k8 := ty_kp hp2 h8 (by omega) (by omega)
        have k9 := ty_kp hp2 h9 (by omega) (by omega)
        have k7 := hp2.2.2.1
        refine gG_sp hx (i := .iload 7) (len := 2) (by decide +kernel) (sp_il2 k7) ?_
        refine gG_if hx (cn := .eq) (off := 12) (tgt := 191) (by decide +kernel) rfl (fun c => absurd c (by show ¬ (Int32.ofInt 1).toInt = 0; decide)) (fun _ => ?_)
        refine gG_sp hx (i := .iload 6) (len := 2) (by decide +kernel) (sp_il2 k6) ?_
        refine gG_sp hx (i := .iconst 1) (len := 1) (by decide +kernel) rfl ?_
        refine gG_sp hx (i := .iload 9) (len := 2) (by decide +kernel) (sp_il2 k9) ?_
        refine gG_sp hx (i := .ishl) (len := 1) (by decide +kernel) rfl ?_
        refine gG_sp hx (i := .ior) (len := 1) (by decide +kernel) rfl ?_
        refine gG_istore hx hp2.1 hp2.2.1 (i := 6) (len := 2) (Or.inl ⟨by decide +kernel, rfl⟩) (by decide) (fun ls3 hp3 => ?_)
        have k0 := ty_kp hp3 k0 (by omega) (by omega)
        have k2 := ty_kp hp3 k2 (by omega) (by omega)
        have k3 := ty_kp hp3 k3 (by omega) (by omega)
        have k5 := ty_kp hp3 k5 (by omega) (Or.inl rfl)
        have k7 := ty_kp hp3 k7 (by omega) (by omega)
        have k8 := ty_kp hp3 k8 (by omega) (by omega)
        have k6 := hp3.2.2.1
        refine gG_sp hx (i := .iload 5) (len := 2) (by decide +kernel) (sp_il2 k5) ?_
        refine gG_sp hx (i := .aload_n 0) (len := 1) (by decide +kernel) (sp_al k0) ?_
        refine P.1 (13, 7, 3, .array .int) (by decide +kernel) 194 ls3 m fs _ _ M' 0 0 (by decide +kernel) hat f3 ?_
        refine gG_sp hx (i := .bipush 32) (len := 2) (by decide +kernel) rfl ?_
        refine gG_sp hx (i := .iload 8) (len := 2) (by decide +kernel) (sp_il2 k8) ?_
        refine gG_sp hx (i := .imul) (len := 1) (by decide +kernel) rfl ?_
        refine P.2.2.1 (265, ct_X5_number_d) (List.mem_cons_of_mem _ List.mem_cons_self) 202 ls3 (.invokestatic 88) [.ref aD, .int ((Int8.ofInt 32).toInt32 * z)] [.int p5] M' σ' 0 0 (by decide +kernel) (Or.inr (Or.inl ⟨88, rfl, rfl⟩)) hp3.1 ⟨⟨aD, rfl, hD3⟩, ⟨_, rfl, by rw [ix0]; show (0 : Int) ≤ _; omega, by rw [ix0]; show _ ≤ (2044 : Int); omega⟩, trivial⟩ q2 q3 (by show 1 ≤ 8; omega) (by rw [hR]; decide) (by rw [hR]; decide) (fun v M2 σ2 s1 s2 s3 s4 s5 => ?_)
        obtain ⟨u, rfl, nn, rfl, n0, n1⟩ := s4
        refine gG_sp hx (i := .ixor) (len := 1) (by decide +kernel) rfl ?_
        refine gG_istore hx hp3.1 hp3.2.1 (i := 5) (len := 2) (Or.inl ⟨by decide +kernel, rfl⟩) (by decide) (fun ls4 hp4 => ?_)
        refine gG_iinc hx hp4.1 hp4.2.1 (i := 8) (z := 1) (v := z) (by decide +kernel) (ty_kp hp4 k8 (by omega) (by omega)) (fun ls5 hp5 => ?_)
        refine gG_goto hx (off := -156) (tgt := 55) (by decide +kernel) rfl ?_
        have ec : (z + Int32.ofInt 1).toInt = z.toInt + 1 := ty_addI rfl rfl (by omega) (by omega)
        exact ih (z + Int32.ofInt 1) (Int32.ofInt 1) _ _ at_ σ2 M2 ls5 (by omega) (by omega) (by omega) (by decide) (by decide) a0 a1 (fun _ => by
          rw [ec]
          exact pWf_s (hW cd) (fun _ => ⟨by omega, by omega, by omega⟩)) hp5.1 hp5.2.1 (ty_kp hp5 (ty_kp hp4 k0 (by omega) (by omega)) (by omega) (by omega)) (ty_kp hp5 (ty_kp hp4 k2 (by omega) (by omega)) (by omega) (by omega)) (ty_kp hp5 (ty_kp hp4 k3 (by omega) (by omega)) (by omega) (by omega)) (ty_kp hp5 hp4.2.2.1 (by omega) (by omega)) (ty_kp hp5 (ty_kp hp4 k6 (by omega) (by omega)) (by omega) (by omega)) (ty_kp hp5 (ty_kp hp4 k7 (by omega) (by omega)) (by omega) (Or.inl rfl)) hp5.2.2.1 (s1.kinds m 12 hm') s2 s3 (hF'.tr s1)
  have J31 : ∀ (a b : Int), (b = 32 * k.toInt ∧ (b = 0 ∨ b = 32)) → ∀ g, ty_J x vwCl 10 ((cB, .byte) :: (cI, .int) :: (cZ, .boolean) :: (cJ, .long) :: rr) pKT (pIK (pR e t) K) pPG [] [] σ0 M0 g (ty_s0 (31, [(0, (2, 12, 0)), (1, (0, a, a)), (2, (0, b, b))], [], 0, 0)) := by
    intro a b hb g σ M ls st' hs hw hH hI hF hL hS
    rw [ty_stk_n hS]
    obtain ⟨w0, h0, m', rfl, hm'⟩ := hL (0, (2, 12, 0)) List.mem_cons_self
    have hm' : σ m' = some 12 := hm'
    have hm := hF.kinds m 12 hm0
    have em : m' = m := by
      obtain ⟨fi, be, hX⟩ := hI.1
      exact hX.1 12 (by decide) m' m hm' hm
    subst em
    obtain ⟨w2, h2, at_, rfl, a0, a1⟩ := hL (2, (0, b, b)) (List.mem_cons_of_mem _ (List.mem_cons_of_mem _ List.mem_cons_self))
    have a0 : b ≤ at_.toInt := a0
    have a1 : at_.toInt ≤ b := a1
    obtain ⟨fs, aD, cn, hat, f3, hD3, at3, el, f0, hcn⟩ := getD σ M hH hF hm'
    have e8 : (Int8.ofInt 8).toInt32.toInt = 8 := ty_cb (by omega) (by omega)
    have ix8 : (at_ + (Int8.ofInt 8).toInt32).toInt = b + 8 := ty_addI (by omega) e8 (by omega) (by omega)
    have c8 : (at_ + (Int8.ofInt 8).toInt32).toNatClampNeg = 32 * k.toInt.toNat + 8 := ty_clN (by rw [ix8]; omega)
    show gG x vwCl 31 ls [] M 0 0
    refine gG_sp hx (i := .aload_n 0) (len := 1) (by decide +kernel) (sp_al (j := 0) h0) ?_
    refine P.1 (13, 7, 3, .array .int) (by decide +kernel) 32 ls m' fs _ _ M 0 0 (by decide +kernel) hat f3 ?_
    refine gG_sp hx (i := .iload_n 2) (len := 1) (by decide +kernel) (sp_il (j := 2) h2) ?_
    refine gG_sp hx (i := .bipush 8) (len := 2) (by decide +kernel) rfl ?_
    refine gG_sp hx (i := .iadd) (len := 1) (by decide +kernel) rfl ?_
    refine gX_cS (idx := 93) (C := cZ0) hx hl hD (mx_wide (i := at_ + (Int8.ofInt 8).toInt32) ht rfl at3 (by omega) (by omega)) (kw_at 696 (by decide +kernel)) (kw_at 10 (by decide +kernel)) (Or.inl (kw_at 694 (by decide +kernel))) (kw_at 695 (by decide +kernel)) (nA := 2) (by decide +kernel) rfl ⟨by rw [hR]; decide, by rw [hR]; decide⟩ (by decide +kernel) hs (rest := []) (Nat.zero_le 8) (by rw [hR]; decide) (by rw [hR]; decide) (fun v M2 hv => ?_)
    obtain ⟨rfl, rfl⟩ := hv
    rw [c8, ← est]
    refine gG_lstore hx hs hw (i := 3) (len := 1) (Or.inr ⟨3, by decide +kernel, rfl, rfl⟩) (by decide) (fun ls1 p1 => ?_)
    refine gG_sp hx (i := .iconst 0) (len := 1) (by decide +kernel) rfl ?_
    refine gG_istore hx p1.1 p1.2.1 (i := 5) (len := 2) (Or.inl ⟨by decide +kernel, rfl⟩) (by decide) (fun ls2 p2 => ?_)
    refine gG_sp hx (i := .iconst 0) (len := 1) (by decide +kernel) rfl ?_
    refine gG_istore hx p2.1 p2.2.1 (i := 6) (len := 2) (Or.inl ⟨by decide +kernel, rfl⟩) (by decide) (fun ls3 p3 => ?_)
    refine gG_sp hx (i := .iconst 1) (len := 1) (by decide +kernel) rfl ?_
    refine gG_istore hx p3.1 p3.2.1 (i := 7) (len := 2) (Or.inl ⟨by decide +kernel, rfl⟩) (by decide) (fun ls4 p4 => ?_)
    refine gG_sp hx (i := .iconst 0) (len := 1) (by decide +kernel) rfl ?_
    refine gG_istore hx p4.1 p4.2.1 (i := 8) (len := 2) (Or.inl ⟨by decide +kernel, rfl⟩) (by decide) (fun ls5 p5 => ?_)
    have all : ∀ (j : Nat) (v : Value), j < 3 → v.category = 1 → ls[j]? = some (.val v) → ls5[j]? = some (.val v) := fun j v hj hv hj2 => ty_kp p5 (ty_kp p4 (ty_kp p3 (ty_kp p2 (ty_kp p1 hj2 (by omega) (Or.inl hv)) (by omega) (Or.inl hv)) (by omega) (Or.inl hv)) (by omega) (Or.inl hv)) (by omega) (Or.inl hv)
    exact loop 65 (Int32.ofInt 0) (Int32.ofInt 1) (Int32.ofInt 0) (Int32.ofInt 0) at_ σ M2 ls5 (by decide) (by decide) (by decide) (by decide) (by decide) (by omega) (by omega) (fun _ y y0 y1 => by
      have : (Int32.ofInt 0).toInt = 0 := rfl
      omega) p5.1 p5.2.1 (all 0 _ (by omega) rfl h0) (all 2 _ (by omega) rfl h2) (ty_kp p5 (ty_kp p4 (ty_kp p3 (ty_kp p2 p1.2.2.1 (by omega) (by omega)) (by omega) (by omega)) (by omega) (by omega)) (by omega) (by omega)) (ty_kp p5 (ty_kp p4 (ty_kp p3 p2.2.2.1 (by omega) (Or.inl rfl)) (by omega) (by omega)) (by omega) (by omega)) (ty_kp p5 (ty_kp p4 p3.2.2.1 (by omega) (Or.inl rfl)) (by omega) (by omega)) (ty_kp p5 p4.2.2.1 (by omega) (Or.inl rfl)) p5.2.2.1 hm' hH hI hF
  have enter : ∀ (a : Int), k.toInt = a → (∀ g, ty_J x vwCl 10 ((cB, .byte) :: (cI, .int) :: (cZ, .boolean) :: (cJ, .long) :: rr) pKT (pIK (pR e t) K) pPG [] [] σ0 M0 g (0, [(0, (2, 12, 0)), (1, (0, a, a))], [], 0, 0)) → gG x vwCl 0 ls0 [] M0 0 0 := by
    intro a ha hJ
    refine hJ 0 σ0 M0 ls0 [] hls.1 hls.2.1 hH0 hI0 ty_F.rf ?_ trivial
    intro q hq
    have hq : q ∈ ([(0, (2, 12, 0)), (1, (0, a, a))] : ty_L) := hq
    simp only [List.mem_cons, List.not_mem_nil, or_false] at hq
    rcases hq with rfl | rfl
    · exact ⟨_, hls.2.2 (0, .ref m) List.mem_cons_self, m, rfl, hm0⟩
    · exact ⟨_, hls.2.2 (1, .int k) (List.mem_cons_of_mem _ List.mem_cons_self), k, rfl, by show a ≤ k.toInt; omega, by show k.toInt ≤ a; omega⟩
  rcases hk with hk | hk
  · exact enter 0 hk (ty_seg E0 [] _ (pcons (J31 0 0 ⟨by omega, by omega⟩) pnil) [] 40 (0, [(0, (2, 12, 0)), (1, (0, 0, 0))], [], 0, 0) (by decide +kernel) (by decide +kernel))
  · exact enter 1 hk (ty_seg E0 [] _ (pcons (J31 1 32 ⟨by omega, by omega⟩) pnil) [] 40 (0, [(0, (2, 12, 0)), (1, (0, 1, 1))], [], 0, 0) (by decide +kernel) (by decide +kernel))
