/-! the reference's isPage: its answer tells that the argument is a page -/
theorem sp_al {ls : Array Slot} {j : Fin 4} {a : Nat} {st : List Value} (h : ls[(j : Nat)]? = some (.val (.ref a))) : sp (.aload_n j) ls st = some (.ref a :: st, 1) := by
  show (sp_lda ls j st).map (·, 1) = _
  unfold sp_lda
  rw [h]
  rfl
def ct_X5_isPage : ty_C := ([(2, 12, 0), ty_f], some pB, [], [], 0, 0, (3, 1, 0, 29))
set_option maxRecDepth 100000 in
theorem bd_X5_isPage {l : Launch} {D : va_G} {tys : List (ClassId × FieldType)} {INV : ty_K → mh_M → Prop} (hG : pG tys INV) : ty_Bd l D vwCl tys pKT INV INV pPG yX5_isPage cX5_isPage 2 (some .boolean) 0 0 ct_X5_isPage := by
  intro x av M0 σ0 ls post hx hl hnm hR hD hav hH hI hls hp hr
  match av, hav with
  | [_, _], ⟨⟨b, e0, hb⟩, ⟨z, e1, _, _⟩, _⟩ =>
    subst e0; subst e1
    have hb : σ0 b = some 12 := hb
    have h0 : ls[((0 : Fin 4) : Nat)]? = some (.val (.ref b)) := hls.2.2 (0, .ref b) List.mem_cons_self
    have h1 : ls[((1 : Fin 4) : Nat)]? = some (.val (.int z)) := hls.2.2 (1, .int z) (List.mem_cons_of_mem _ List.mem_cons_self)
    have r1 : ∀ b' : Int32, (b' = 0 ∨ b' = 1) → (b' ≠ 0 → 0 ≤ z.toInt ∧ z.toInt ≤ 29 ∧ pPG σ0 M0 z) → post (some (.int b')) M0 := fun b' hb' hz => by
      refine hp (some (.int b')) M0 σ0 ty_F.rf hH hI ⟨_, rfl, b', rfl, ?_, ?_⟩ ⟨b', z, rfl, rfl, hz⟩
      · rcases hb' with rfl | rfl <;> decide
      · rcases hb' with rfl | rfl <;> decide
    have k0 : gG x vwCl 24 ls [] M0 0 0 := by
      refine gG_sp hx (i := .iconst 0) (len := 1) (by decide +kernel) (r := [.int (Int32.ofInt 0)]) rfl ?_
      exact hr 25 ls .ireturn (some (.int 0)) M0 0 0 (by decide +kernel) ⟨rfl, 0, rfl, by decide⟩ (r1 0 (Or.inl rfl) (fun q => absurd rfl q)) (Nat.le_refl _) (Nat.le_refl _)
    refine gG_sp hx (i := .iload_n 1) (len := 1) (by decide +kernel) (sp_il h1) ?_
    refine gG_if hx (cn := .lt) (off := 23) (tgt := 24) (by decide +kernel) rfl (fun _ => k0) (fun c1 => ?_)
    refine gG_sp hx (i := .iload_n 1) (len := 1) (by decide +kernel) (sp_il h1) ?_
    refine gG_sp hx (i := .bipush 30) (len := 2) (by decide +kernel) (r := [.int (Int8.ofInt 30).toInt32, .int z]) rfl ?_
    refine gG_ic hx (cn := .ge) (off := 17) (tgt := 24) (by decide +kernel) rfl (fun _ => k0) (fun c2 => ?_)
    have c1 : ¬ z.toInt < 0 := c1
    have c2 : ¬ (30 : Int) ≤ z.toInt := c2
    obtain ⟨fs, hat, hfs⟩ := ty_obj hH hb (show pKT[12]? = some (0, 7, _) from rfl)
    obtain ⟨w, w1, a, rfl, ha⟩ := hfs 7 (2, 17, 0) rfl
    have ha : σ0 a = some 17 := ha
    obtain ⟨htys, hsI, hpV, -⟩ := hG
    obtain ⟨cB, cI, cZ, cJ, rr, rfl⟩ := htys
    obtain ⟨cA, ft, f, q1, q2, q3⟩ := ty_arr (j := 1) hH ha (show pKT[17]? = some (1 + 1, 30, [(5, 2, 63)]) from rfl) (by omega)
    cases q1
    have hin : vp_in z 30 := vp_in_iff.mpr ⟨by omega, by omega⟩
    refine gG_sp hx (i := .aload_n 0) (len := 1) (by decide +kernel) (sp_al h0) ?_
    refine gR_getP hx (idx := 27) (ci := 7) (f := 7) rfl (by decide) uX5 (kw_at 608 (by decide +kernel)) 11 ls b fs (.ref a) [] M0 0 0 (by decide +kernel) hat w1 ?_
    refine gG_sp hx (i := .iload_n 1) (len := 1) (by decide +kernel) (sp_il h1) ?_
    refine gG_iald hx 1 (by decide +kernel) q2 rfl hin ?_
    refine gG_sp hx (i := .iconst (-1)) (len := 1) (by decide +kernel) (r := [.int (Int32.ofInt (-1)), .int (f z.toNatClampNeg)]) rfl ?_
    refine gG_ic hx (cn := .eq) (off := 7) (tgt := 24) (by decide +kernel) rfl (fun _ => k0) (fun c3 => ?_)
    have c3 : ¬ (f z.toNatClampNeg).toInt = (Int32.ofInt (-1)).toInt := c3
    refine gG_sp hx (i := .iconst 1) (len := 1) (by decide +kernel) (r := [.int (Int32.ofInt 1)]) rfl ?_
    refine gG_goto hx (off := 4) (tgt := 25) (by decide +kernel) rfl ?_
    exact hr 25 ls .ireturn (some (.int 1)) M0 0 0 (by decide +kernel) ⟨rfl, 1, rfl, by decide⟩ (r1 1 (Or.inr rfl) (fun _ => ⟨by omega, by omega, (hpV σ0 M0 a z _ 30 f hH hI ha q2 hin).2 (fun e => c3 (by rw [e]; rfl))⟩)) (Nat.le_refl _) (Nat.le_refl _)
theorem mt_X5_isPage {l : Launch} {D : va_G} {tys : List (ClassId × FieldType)} {INV : ty_K → mh_M → Prop} (hG : pG tys INV) : ty_Met l D vwCl tys pKT INV INV pPG yX5_isPage cX5_isPage 2 (some .boolean) 0 0 ct_X5_isPage :=
  ty_of (by decide +kernel) (by decide +kernel) (by decide +kernel) (bd_X5_isPage hG)
