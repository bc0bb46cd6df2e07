/-! CONSTRUCTORS of the class, exactly -/
theorem mh_ofF {cl : List vw_C} {tys : List (ClassId × FieldType)} {D : va_G} {y : MethodName} {rm : Room} {cc : ByteArray} {maxL : Nat} {ret : Option FieldType} {av : List Value} {M : mh_M} {post : Option Value → mh_M → Prop} {l : Launch}
    (hy : plainFor y = true) (hle : (lg_sl av).length ≤ maxL) (body : mh_Body cl tys D y [Cond.code y cc maxL ret] rm cc maxL ret av M post l) : mh_Met cl tys l D y [Cond.code y cc maxL ret] rm av M post := by
  intro sz
  refine MetFree.of_bodySF (code := cc) (maxLocals := maxL) (ret := ret) hy (fun args s m h hn => ?_) (fun p e s m args below meth c s₁ B hml hv _ => ?_)
  · obtain ⟨meth, c, h1, h2, h3, h4, h5, h6, -, -⟩ := Cond.code_spec hn (atoms_spec (ws := [Cond.code y cc maxL ret]) h _ List.mem_cons_self)
    exact ⟨meth, c, h1, h2, h3, h4, h5, h6⟩
  · obtain ⟨rfl, hsz, hP, hK, hD0⟩ := hv
    subst hsz
    have hD := hD0.self (sz := s.heap.size)
    have hl := lv_entry av (n := maxL) hle
    have hW := body p e s m _ below meth c _ B.exec B.bytes B.returns B.notSynchronized hml (atoms_spec (ws := [Cond.code y cc maxL ret]) B.pre) (findClass_of_methodNamed B.named) (name_of_methodNamed B.named B.method).1 hK ⟨hP, hD, va_S.rf, fun q h => Or.inr h⟩ hl
    rw [← lg_entry_eq] at hW
    obtain ⟨t, a1, o, b1, b2, b3⟩ := hW s₁ (by rw [B.state]; rfl) (Stand.of_body B)
    exact ⟨t, o, a1, b1, b2, ⟨b3.1, b3.2⟩⟩
theorem ty_ofXF {l : Launch} {D : va_G} {tys : List (ClassId × FieldType)} {cl : List vw_C} {y : MethodName} {cc : ByteArray} {maxL : Nat} {fr lo : Nat} {C : ty_C} {av : List Value} {M : mh_M} {post : Option Value → mh_M → Prop} (hy : plainFor y = true) (hlen : (lg_sl av).length ≤ maxL)
    (hB : ∀ (x : gx_T) (ls : Array Slot), gC x cl cc maxL tys kwT y.cls → x.2.1 = l → x.2.2.2.2.2.2.2.2.1.name = y.name → gx_R x = ty_rm fr lo C → x.2.2.2.2.2.2.2.2.2.2.2.1 = D → lv_has ls maxL (lv_args 0 av) → gR_ret x cl cc (some .int) post C.2.2.2.2.1 C.2.2.2.2.2.1 → gG x cl 0 ls [] M 0 0) : mh_Met cl tys l D y [Cond.code y cc maxL (some .int)] (ty_rm fr lo C) av M post := by
  refine mh_ofF hy hlen ?_
  intro p e s m args below meth c ls hx hb hr hlocks hml hts hown hnm hK hm hls
  refine hB (p, l, e, ty_rm fr lo C, s, m, args, below, meth, c, MQ below (mh_Q cl D M s.heap.size post) args s (ty_rm fr lo C).cells (ty_rm fr lo C).slots (va_A (mh_w M) s.heap.size), D, va_A (mh_w M) s.heap.size, s.heap) ls ⟨⟨hx, hb, hml, hown, kwT_hts hK.2.1⟩, hK⟩ rfl hnm rfl rfl hls ?_ s.heap [] hm
  intro pc ls' i v M' n k hd hrt hp hn hk H locs hm'
  obtain ⟨rfl, z, rfl, hnr⟩ := hrt
  exact mh_zret hx hb hr hlocks hnr hm' hd hn hk hp
theorem mx_floorMod {l : Launch} {D : va_G} {tys : List (ClassId × FieldType)} {M : mh_M} {a b : Int32} (hb : ¬ b = 0) : mh_Met vwCl tys l D yJ9_floorMod_7cf53 [Cond.code yJ9_floorMod_7cf53 cJ9_floorMod_7cf53 3 (some .int)] (ty_rm 0 0 cZ0) [.int a, .int b] M (fun v M' => (∃ r, v = some (.int r)) ∧ M' = M) := by
  refine ty_ofXF (by decide +kernel) (show 2 ≤ 3 by omega) ?_
  intro x ls hx hl hnm hR hD hls hr
  have h0 : ls[((0 : Fin 4) : Nat)]? = some (.val (.int a)) := hls.2.2 (0, .int a) List.mem_cons_self
  have h1 : ls[((1 : Fin 4) : Nat)]? = some (.val (.int b)) := hls.2.2 (1, .int b) (List.mem_cons_of_mem _ List.mem_cons_self)
  refine gG_sp hx (i := .iload_n 0) (len := 1) (by decide +kernel) (sp_il h0) ?_
  refine gG_sp hx (i := .iload_n 1) (len := 1) (by decide +kernel) (sp_il h1) ?_
  refine gG_sp hx (i := .irem) (len := 1) (by decide +kernel) (r := [.int (a - a / b * b)]) (by simp [sp, sp_rm, hb]) ?_
  refine gG_istore hx hls.1 hls.2.1 (i := 2) (len := 1) (Or.inr ⟨2, by decide +kernel, rfl, rfl⟩) (by decide) (fun ls1 p1 => ?_)
  have h0 : ls1[((0 : Fin 4) : Nat)]? = some (.val (.int a)) := ty_kp p1 h0 (by omega) (Or.inl rfl)
  have h1 : ls1[((1 : Fin 4) : Nat)]? = some (.val (.int b)) := ty_kp p1 h1 (by omega) (Or.inl rfl)
  have h2 : ls1[((2 : Fin 4) : Nat)]? = some (.val (.int (a - a / b * b))) := p1.2.2.1
  have fin18 : gG x vwCl 18 ls1 [] M 0 0 := by
    refine gG_sp hx (i := .iload_n 2) (len := 1) (by decide +kernel) (sp_il h2) ?_
    exact hr 19 ls1 .ireturn (some (.int _)) M 0 0 (by decide +kernel) ⟨rfl, _, rfl, rfl⟩ ⟨⟨_, rfl⟩, rfl⟩ (Nat.le_refl _) (Nat.le_refl _)
  refine gG_sp hx (i := .iload_n 0) (len := 1) (by decide +kernel) (sp_il h0) ?_
  refine gG_sp hx (i := .iload_n 1) (len := 1) (by decide +kernel) (sp_il h1) ?_
  refine gG_sp hx (i := .ixor) (len := 1) (by decide +kernel) rfl ?_
  refine gG_if hx (cn := .ge) (off := 11) (tgt := 18) (by decide +kernel) rfl (fun _ => fin18) (fun _ => ?_)
  refine gG_sp hx (i := .iload_n 2) (len := 1) (by decide +kernel) (sp_il h2) ?_
  refine gG_if hx (cn := .eq) (off := 7) (tgt := 18) (by decide +kernel) rfl (fun _ => fin18) (fun _ => ?_)
  refine gG_sp hx (i := .iload_n 2) (len := 1) (by decide +kernel) (sp_il h2) ?_
  refine gG_sp hx (i := .iload_n 1) (len := 1) (by decide +kernel) (sp_il h1) ?_
  refine gG_sp hx (i := .iadd) (len := 1) (by decide +kernel) rfl ?_
  exact hr 17 ls1 .ireturn (some (.int _)) M 0 0 (by decide +kernel) ⟨rfl, _, rfl, rfl⟩ ⟨⟨_, rfl⟩, rfl⟩ (Nat.le_refl _) (Nat.le_refl _)
theorem mx_fill {l : Launch} {D : va_G} {tys : List (ClassId × FieldType)} {cI : ClassId} (ht : tys[1]? = some (cI, .int)) {M : mh_M} {p N : Nat} {f : Nat → Int32} {z : Int32} (hat : mh_at M p (.inl (cI, N, .inl f))) (hN : N ≤ 100000) : mh_Met vwCl tys l D yJ7_fill_53178 [Cond.code yJ7_fill_53178 cJ7_fill_53178 4 none] (ty_rm 0 0 cZ0) [.ref p, .int z] M (fun v M' => v = none ∧ ∃ g, M' = mh_set M p (.inl (cI, N, .inl g))) := by
  refine ty_ofX (by decide +kernel) (show 2 ≤ 4 by omega) ?_
  intro x ls hx hl hnm hR hD hls hr
  have h0 : ls[((0 : Fin 4) : Nat)]? = some (.val (.ref p)) := hls.2.2 (0, .ref p) List.mem_cons_self
  have h1 : ls[((1 : Fin 4) : Nat)]? = some (.val (.int z)) := hls.2.2 (1, .int z) (List.mem_cons_of_mem _ List.mem_cons_self)
  have eN : (nI N).toInt = (N : Int) := nI_tn (by omega)
  have loop : ∀ (fuel i : Nat) (g : Nat → Int32) (ls : Array Slot), N - i < fuel → i ≤ N → ls.size = 4 → lv_wf ls → ls[((0 : Fin 4) : Nat)]? = some (.val (.ref p)) → ls[((1 : Fin 4) : Nat)]? = some (.val (.int z)) → ls[((2 : Fin 4) : Nat)]? = some (.val (.int (nI i))) → ls[((3 : Fin 4) : Nat)]? = some (.val (.int (nI N))) → gG x vwCl 5 ls [] (mh_set M p (.inl (cI, N, .inl g))) 0 0 := by
    intro fuel
    induction fuel with
    | zero => intro i g ls h; omega
    | succ fuel ih =>
      intro i g ls hf hi hs hw h0 h1 h2 h3
      have ei : (nI i).toInt = (i : Int) := nI_tn (by omega)
      refine gG_sp hx (i := .iload_n 2) (len := 1) (by decide +kernel) (sp_il h2) ?_
      refine gG_sp hx (i := .iload_n 3) (len := 1) (by decide +kernel) (sp_il h3) ?_
      refine gG_ic hx (cn := .ge) (off := 13) (tgt := 20) (by decide +kernel) rfl (fun _ => hr 20 ls .return_ none _ 0 0 (by decide +kernel) ⟨rfl, rfl⟩ ⟨rfl, g, rfl⟩ (Nat.le_refl _) (Nat.le_refl _)) (fun q => ?_)
      have q : ¬ (nI N).toInt ≤ (nI i).toInt := q
      rw [eN, ei] at q
      refine gG_sp hx (i := .aload_n 0) (len := 1) (by decide +kernel) (sp_al h0) ?_
      refine gG_sp hx (i := .iload_n 2) (len := 1) (by decide +kernel) (sp_il h2) ?_
      refine gG_sp hx (i := .iload_n 1) (len := 1) (by decide +kernel) (sp_il h1) ?_
      refine gG_iast hx 1 (by decide +kernel) (hat.set_self) ht (vp_in_iff.mpr ⟨by rw [ei]; omega, by rw [ei]; omega⟩) ?_
      rw [mh_set_set]
      refine gG_iinc hx hs hw (i := 2) (z := 1) (v := nI i) (by decide +kernel) h2 (fun ls2 p2 => ?_)
      refine gG_goto hx (off := -12) (tgt := 5) (by decide +kernel) rfl ?_
      have ew : nI i + Int32.ofInt 1 = nI (i + 1) := by rw [lit1]; exact nI_1 i
      exact ih (i + 1) _ ls2 (by omega) (by omega) p2.1 p2.2.1 (ty_kp p2 h0 (by omega) (Or.inl rfl)) (ty_kp p2 h1 (by omega) (Or.inl rfl)) (by rw [← ew]; exact p2.2.2.1) (ty_kp p2 h3 (by omega) (by omega))
  refine gG_sp hx (i := .iconst 0) (len := 1) (by decide +kernel) (r := [.int (nI 0)]) rfl ?_
  refine gG_istore hx hls.1 hls.2.1 (i := 2) (len := 1) (Or.inr ⟨2, by decide +kernel, rfl, rfl⟩) (by decide) (fun ls1 p1 => ?_)
  have k0 : ls1[((0 : Fin 4) : Nat)]? = some (.val (.ref p)) := ty_kp p1 h0 (by omega) (Or.inl rfl)
  have k1 : ls1[((1 : Fin 4) : Nat)]? = some (.val (.int z)) := ty_kp p1 h1 (by omega) (Or.inl rfl)
  have k2 : ls1[((2 : Fin 4) : Nat)]? = some (.val (.int (nI 0))) := p1.2.2.1
  refine gG_sp hx (i := .aload_n 0) (len := 1) (by decide +kernel) (sp_al k0) ?_
  refine gG_alen hx 1 (by decide +kernel) hat ht ?_
  refine gG_istore hx p1.1 p1.2.1 (i := 3) (len := 1) (Or.inr ⟨3, by decide +kernel, rfl, rfl⟩) (by decide) (fun ls2 p2 => ?_)
  have hg := loop (N + 1) 0 f ls2 (by omega) (by omega) p2.1 p2.2.1 (ty_kp p2 k0 (by omega) (Or.inl rfl)) (ty_kp p2 k1 (by omega) (Or.inl rfl)) (ty_kp p2 k2 (by omega) (Or.inl rfl)) p2.2.2.1
  rw [mh_set_same hat] at hg
  exact hg
theorem mx_X1_init {l : Launch} {D : va_G} {tys : List (ClassId × FieldType)} {M : mh_M} {q : Nat} {z : Int32} {y : Int64} {v0 v1 : Value} (hat : mh_at M q (.inr (3, [v0, v1]))) : mh_Met vwCl tys l D yX1_init [Cond.code yX1_init cX1_init 4 none] (ty_rm 1 20 cZ0) [.ref q, .int z, .long y] M (fun v M' => v = none ∧ M' = mh_set M q (.inr (3, [.int z, .long y]))) := by
  refine ty_ofX (by decide +kernel) (Nat.le_refl 4) ?_
  intro x ls hx hl hnm hR hD hls hr
  have h0 : ls[((0 : Fin 4) : Nat)]? = some (.val (.ref q)) := hls.2.2 (0, .ref q) List.mem_cons_self
  have h1 : ls[((1 : Fin 4) : Nat)]? = some (.val (.int z)) := hls.2.2 (1, .int z) (List.mem_cons_of_mem _ List.mem_cons_self)
  have h2 : ls[((2 : Fin 4) : Nat)]? = some (.val (.long y)) := hls.2.2 (2, .long y) (List.mem_cons_of_mem _ (List.mem_cons_of_mem _ List.mem_cons_self))
  refine gG_sp hx (i := .aload_n 0) (len := 1) (by decide +kernel) (sp_al h0) ?_
  refine gK_obj (idx := 1) hx (kw_at 96 (by decide +kernel)) (kw_at 29 (by decide +kernel)) (kw_at 30 (by decide +kernel)) ⟨by rw [hR]; exact Nat.le_of_ble_eq_true rfl, by rw [hR]; exact Nat.le_of_ble_eq_true rfl⟩ (by decide +kernel) hls.1 (Nat.zero_le 8) (by rw [hR]; decide) (by rw [hR]; decide) ?_
  refine gG_sp hx (i := .aload_n 0) (len := 1) (by decide +kernel) (sp_al h0) ?_
  refine gG_sp hx (i := .iload_n 1) (len := 1) (by decide +kernel) (sp_il h1) ?_
  refine (gR_putI (idx := 7) (ci := 3) (f := 0) hx hnm rfl (by decide) uX1 tyX1 tyX1_ok nmX1 rfl rfl (kw_at 97 (by decide +kernel)) rfl) 6 ls q [v0, v1] (.int z) [] M 0 0 (by decide +kernel) hat (by show 0 < 2; omega) rfl rfl ?_
  have hat1 : mh_at (mh_set M q (.inr (3, [.int z, v1]))) q (.inr (3, [.int z, v1])) := hat.set_self
  refine gG_sp hx (i := .aload_n 0) (len := 1) (by decide +kernel) (sp_al h0) ?_
  refine gG_sp hx (i := .lload_n 2) (len := 1) (by decide +kernel) (sp_ll1 h2) ?_
  refine (gR_putI (idx := 13) (ci := 3) (f := 1) hx hnm rfl (by decide) uX1 tyX1 tyX1_ok nmX1 rfl rfl (kw_at 99 (by decide +kernel)) rfl) 11 ls q [.int z, v1] (.long y) [] _ 0 0 (by decide +kernel) hat1 (by show 1 < 2; omega) rfl rfl ?_
  refine hr 14 ls .return_ none _ 0 0 (by decide +kernel) ⟨rfl, rfl⟩ ⟨rfl, ?_⟩ (Nat.le_refl _) (Nat.le_refl _)
  show mh_set (mh_set M q (.inr (3, [.int z, v1]))) q (.inr (3, [.int z, .long y])) = _
  rw [mh_set_set]
theorem mx_X0_init {l : Launch} {D : va_G} {tys : List (ClassId × FieldType)} (ht : ty_tys tys) {M : mh_M} {q : Nat} {v0 : Value} (hat : mh_at M q (.inr (2, [v0]))) : mh_Met vwCl tys l D yX0_init [Cond.code yX0_init cX0_init 1 none] (ty_rm 1 20 (cN0 1 2048)) [.ref q] M (fun v M' => v = none ∧ ∃ (r : Nat) (cB : ClassId), tys[0]? = some (cB, .byte) ∧ r ∉ M.1 ∧ M' = mh_set (mh_new M r (.inl (cB, 2048, .inl (fun _ => 0)))) q (.inr (2, [.ref r]))) := by
  refine ty_ofX (by decide +kernel) (Nat.le_refl 1) ?_
  intro x ls hx hl hnm hR hD hls hr
  obtain ⟨nb, -, -⟩ := pNA ht hx
  obtain ⟨cB, cI, cZ, cJ, rr, rfl⟩ := ht
  have h0 : ls[((0 : Fin 4) : Nat)]? = some (.val (.ref q)) := hls.2.2 (0, .ref q) List.mem_cons_self
  refine gG_sp hx (i := .aload_n 0) (len := 1) (by decide +kernel) (sp_al h0) ?_
  refine gK_obj (idx := 3) hx (kw_at 41 (by decide +kernel)) (kw_at 29 (by decide +kernel)) (kw_at 30 (by decide +kernel)) ⟨by rw [hR]; exact Nat.le_of_ble_eq_true rfl, by rw [hR]; exact Nat.le_of_ble_eq_true rfl⟩ (by decide +kernel) hls.1 (Nat.zero_le 8) (by rw [hR]; decide) (by rw [hR]; decide) ?_
  refine gG_sp hx (i := .aload_n 0) (len := 1) (by decide +kernel) (sp_al h0) ?_
  refine gG_sp hx (i := .sipush 2048) (len := 3) (by decide +kernel) rfl ?_
  refine nb _ _ rfl 8 ls [.ref q] M 0 0 _ 2048 (by decide +kernel) (ty_cs (by omega) (by omega)) (by omega) (by rw [hR]; decide) (by rw [hR]; decide) (fun r hr0 => ?_)
  refine (gR_putI (idx := 9) (ci := 2) (f := 0) hx hnm rfl (by decide) uX0 tyX0 tyX0_ok nmX0 rfl rfl (kw_at 42 (by decide +kernel)) rfl) 10 ls q [v0] (.ref r) [] _ _ _ (by decide +kernel) (hat.new hr0) (by show 0 < 1; omega) rfl rfl ?_
  exact hr 13 ls .return_ none _ _ _ (by decide +kernel) ⟨rfl, rfl⟩ ⟨rfl, r, cB, rfl, hr0, rfl⟩ (Nat.le_refl _) (Nat.le_refl _)
theorem mx_X2_init {l : Launch} {D : va_G} {tys : List (ClassId × FieldType)} {M : mh_M} {q : Nat} {v0 v1 : Value} (hat : mh_at M q (.inr (4, [v0, v1]))) : mh_Met vwCl tys l D yX2_init [Cond.code yX2_init cX2_init 1 none] (ty_rm 4 80 (cN0 1 3)) [.ref q] M (fun v M' => v = none ∧ ∃ w : Nat, w ∉ M.1 ∧ M' = mh_set (mh_new M w (lE (nI 0) (kem D) 0)) q (.inr (4, [.ref w, v1]))) := by
  refine ty_ofX (by decide +kernel) (Nat.le_refl 1) ?_
  intro x ls hx hl hnm hR hD hls hr
  have h0 : ls[((0 : Fin 4) : Nat)]? = some (.val (.ref q)) := hls.2.2 (0, .ref q) List.mem_cons_self
  refine gG_sp hx (i := .aload_n 0) (len := 1) (by decide +kernel) (sp_al h0) ?_
  refine gK_obj (idx := 3) hx (kw_at 52 (by decide +kernel)) (kw_at 29 (by decide +kernel)) (kw_at 30 (by decide +kernel)) ⟨by rw [hR]; exact Nat.le_of_ble_eq_true rfl, by rw [hR]; exact Nat.le_of_ble_eq_true rfl⟩ (by decide +kernel) hls.1 (Nat.zero_le 8) (by rw [hR]; decide) (by rw [hR]; decide) ?_
  refine gG_sp hx (i := .aload_n 0) (len := 1) (by decide +kernel) (sp_al h0) ?_
  refine (gR_newP (idx := 9) (ci := 1) (N := 3) (fs := [.int 0, .null, .int 0]) hx rfl uJx4a65c tyJx4a65c tyJx4a65c_ok (by decide) (kw_at 53 (by decide +kernel)) (kw_at 54 (by decide +kernel)) (kw_at 7 (by decide +kernel))) 5 ls [.ref q] M 0 0 (by decide +kernel) (by rw [hR]; decide) (by rw [hR]; decide) (fun w hw => ?_)
  refine gG_sp hx (i := .dup) (len := 1) (by decide +kernel) rfl ?_
  refine gX_cI (idx := 11) (K := cZ0) hx hl hD (mx_Li mh_at.new_self) rfl (kw_at 57 (by decide +kernel)) (kw_at 7 (by decide +kernel)) (Or.inl (kw_at 55 (by decide +kernel))) (kw_at 56 (by decide +kernel)) (nA := 0) (by decide +kernel) rfl ⟨by rw [hR]; exact Nat.le_of_ble_eq_true rfl, by rw [hR]; exact Nat.le_of_ble_eq_true rfl⟩ (pc := 9) (by decide +kernel) hls.1 (rest := [.ref w, .ref q]) (by show 2 ≤ 8; omega) (by rw [hR]; decide) (by rw [hR]; decide) rfl (fun v M' hv => ?_)
  obtain ⟨rfl, rfl⟩ := hv
  have em : mh_set (mh_new M w (.inr (1, [.int 0, .null, .int 0]))) w (lE (nI 0) (kem D) 0) = mh_new M w (lE (nI 0) (kem D) 0) := by
    unfold mh_set mh_new
    rw [bx_uu]
  rw [em]
  refine (gR_putI (idx := 12) (ci := 4) (f := 0) hx hnm rfl (by decide) uX2 tyX2 tyX2_ok nmX2 rfl rfl (kw_at 79 (by decide +kernel)) rfl) 12 ls q [v0, v1] (.ref w) [] _ _ _ (by decide +kernel) (hat.new hw) (by show 0 < 2; omega) rfl rfl ?_
  exact hr 15 ls .return_ none _ _ _ (by decide +kernel) ⟨rfl, rfl⟩ ⟨rfl, w, hw, rfl⟩ (Nat.le_refl _) (Nat.le_refl _)
