/-! KnowDiskModel.begin in the constructor, the constructor -/
def xsR (cI cZ cJ : ClassId) (q : Nat) (cn : Int32) (aD aLt aO aL aP aT aB aN aS aKN aKS aH : Nat) (fl fL fP fN : Nat → Int32) (fS : Nat → Int64) : List (Nat × va_E) :=
  [(aH, .inl (cI, 32, .inl (fun _ => 0))), (aKS, .inl (cJ, 4, .inr (.inl (fun _ => 0)))), (aKN, .inl (cI, 4, .inl (fun _ => 0))), (aS, .inl (cJ, 1200, .inr (.inl fS))), (aN, .inl (cI, 1200, .inl fN)), (aB, .inl (cI, 38400, .inl (fun _ => 0))), (aT, .inl (cI, 1200, .inl (fun _ => 0))), (aP, .inl (cI, 30, .inl fP)), (aL, .inl (cZ, 64, .inl fL)), (aO, .inl (cI, 2048, .inl (fun _ => 0))), (aLt, .inl (cI, 2048, .inl fl)), (aD, .inl (cI, 2048, .inl (fun _ => 0))),
   (q, .inr (7, [.int cn, .int 1, .int 0, .ref aD, .ref aLt, .ref aO, .ref aL, .ref aP, .int 0, .ref aT, .ref aB, .int 0, .int 0, .ref aN, .ref aS, .int 0, .int 0, .ref aKN, .ref aKS, .int 0, .int 0, .ref aH]))]
set_option maxRecDepth 100000 in
set_option maxHeartbeats 4000000 in
theorem mx_begin0 {l : Launch} {D : va_G} {INV : ty_K → mh_M → Prop} {cB cI cZ cJ : ClassId} {rr : List (ClassId × FieldType)} (hG : pG ((cB, .byte) :: (cI, .int) :: (cZ, .boolean) :: (cJ, .long) :: rr) INV) {M0 M : mh_M} {q : Nat} {cn : Int32} {aD aLt aO aL aP aT aB aN aS aKN aKS aH : Nat} (hX : mx_has M0 q M (xsR cI cZ cJ q cn aD aLt aO aL aP aT aB aN aS aKN aKS aH (fun _ => 0) (fun _ => 0) (fun _ => 0) (fun _ => 0) (fun _ => 0))) :
    mh_Met vwCl ((cB, .byte) :: (cI, .int) :: (cZ, .boolean) :: (cJ, .long) :: rr) l D yX5_begin [Cond.code yX5_begin cX5_begin 5 none] (ty_rm 0 0 ct_X5_begin) [.ref q, .int (Int32.ofInt 0), .long (Int64.ofNat 0)] M (fun v M' => v = none ∧ ∃ (fl fL fP fN : Nat → Int32) (fS : Nat → Int64), mx_has M0 q M' (xsR cI cZ cJ q cn aD aLt aO aL aP aT aB aN aS aKN aKS aH fl fL fP fN fS) ∧ (∀ j, j < 30 → fP j = -1) ∧ (∀ j, j < 64 → 0 ≤ (fL j).toInt ∧ (fL j).toInt ≤ 1) ∧ (∀ j, j < 2048 → 0 ≤ (fl j).toInt ∧ (fl j).toInt ≤ 255) ∧ ∀ j, j < 1200 → 0 ≤ (fN j).toInt) := by
  refine ty_ofX (by decide +kernel) (by show 4 ≤ 5; omega) ?_
  intro x ls hx hl hnm hR hD hls hr
  have P := pv_X5_begin hG hx hl hnm hR hD
  have e30 : (Int8.ofInt 30).toInt32.toInt = 30 := ty_cb (by omega) (by omega)
  have e64 : (Int8.ofInt 64).toInt32.toInt = 64 := ty_cb (by omega) (by omega)
  have e2k : (Int16.ofInt 2048).toInt32.toInt = 2048 := ty_cs (by omega) (by omega)
  have loop3 : ∀ (n c : Nat) (ci : Int32) (fl fL fP fN : Nat → Int32) (fS : Nat → Int64) (M : mh_M) (ls : Array Slot), 2048 - c < n → ci.toInt = (c : Int) → c ≤ 2048 → ls.size = 5 → lv_wf ls → ls[((0 : Fin 4) : Nat)]? = some (.val (.ref q)) → ls[4]? = some (.val (.int ci)) → mx_has M0 q M (xsR cI cZ cJ q cn aD aLt aO aL aP aT aB aN aS aKN aKS aH fl fL fP fN fS) → (∀ j, j < 30 → fP j = -1) → (∀ j, j < 64 → 0 ≤ (fL j).toInt ∧ (fL j).toInt ≤ 1) → (∀ j, j < 2048 → 0 ≤ (fl j).toInt ∧ (fl j).toInt ≤ 255) → (∀ j, j < 1200 → 0 ≤ (fN j).toInt) → gG x vwCl 95 ls [] M 0 0 := by
    intro n
    induction n with
    | zero => intro c ci fl fL fP fN fS M ls hn; omega
    | succ n ih =>
      intro c ci fl fL fP fN fS M ls hn hci hc hs hw h0 h4 hX hP hL hl2 hN
      refine gG_sp hx (i := .iload 4) (len := 2) (by decide +kernel) (sp_il2 h4) ?_
      refine gG_sp hx (i := .sipush 2048) (len := 3) (by decide +kernel) rfl ?_
      refine gG_ic hx (cn := .ge) (off := 23) (tgt := 123) (by decide +kernel) rfl (fun _ => hr 123 ls .return_ none M 0 0 (by decide +kernel) ⟨rfl, rfl⟩ ⟨rfl, fl, fL, fP, fN, fS, hX, hP, hL, hl2, hN⟩ (Nat.le_refl _) (Nat.le_refl _)) (fun cg => ?_)
      have cg : ¬ (Int16.ofInt 2048).toInt32.toInt ≤ ci.toInt := cg
      rw [e2k, hci] at cg
      have inC : vp_in ci 2048 := vp_in_iff.mpr ⟨by omega, by omega⟩
      refine gG_sp hx (i := .aload_n 0) (len := 1) (by decide +kernel) (sp_al h0) ?_
      refine gK_get (P.1 (17, 7, 4, .array .int) (by decide +kernel)) (by decide +kernel) 12 hX rfl rfl ?_
      refine gG_sp hx (i := .iload 4) (len := 2) (by decide +kernel) (sp_il2 h4) ?_
      refine gG_sp hx (i := .aload_n 0) (len := 1) (by decide +kernel) (sp_al h0) ?_
      refine gK_get (P.1 (13, 7, 3, .array .int) (by decide +kernel)) (by decide +kernel) 12 hX rfl rfl ?_
      refine gG_sp hx (i := .iload 4) (len := 2) (by decide +kernel) (sp_il2 h4) ?_
      refine gK_iald hx 1 11 (by decide +kernel) hX rfl rfl inC ?_
      refine gK_iast hx 1 10 (by decide +kernel) hX rfl rfl inC (fun M hX => ?_)
      refine gG_iinc hx hs hw (i := 4) (z := 1) (v := ci) (by decide +kernel) h4 (fun ls' hp' => ?_)
      refine gG_goto hx (off := -25) (tgt := 95) (by decide +kernel) rfl ?_
      have ec : (ci + Int32.ofInt 1).toInt = ((c + 1 : Nat) : Int) := by rw [ty_addI hci (show (Int32.ofInt 1).toInt = 1 from rfl) (by omega) (by omega)]; omega
      exact ih (c + 1) (ci + Int32.ofInt 1) (upd fl ci.toNatClampNeg 0) fL fP fN fS M ls' (by omega) ec (by omega) hp'.1 hp'.2.1 (ty_kp hp' h0 (by omega) (by omega)) hp'.2.2.1 hX hP hL (fun j hj => by
        by_cases ej : j = ci.toNatClampNeg
        · rw [ej, pk_us]; decide
        · rw [pk_un ej]; exact hl2 j hj) hN
  have loop2 : ∀ (n c : Nat) (ci : Int32) (fl fL fP fN : Nat → Int32) (fS : Nat → Int64) (M : mh_M) (ls : Array Slot), 64 - c < n → ci.toInt = (c : Int) → c ≤ 64 → ls.size = 5 → lv_wf ls → ls[((0 : Fin 4) : Nat)]? = some (.val (.ref q)) → ls[4]? = some (.val (.int ci)) → mx_has M0 q M (xsR cI cZ cJ q cn aD aLt aO aL aP aT aB aN aS aKN aKS aH fl fL fP fN fS) → (∀ j, j < 30 → fP j = -1) → (∀ j, j < 64 → 0 ≤ (fL j).toInt ∧ (fL j).toInt ≤ 1) → (∀ j, j < 2048 → 0 ≤ (fl j).toInt ∧ (fl j).toInt ≤ 255) → (∀ j, j < 1200 → 0 ≤ (fN j).toInt) → gG x vwCl 71 ls [] M 0 0 := by
    intro n
    induction n with
    | zero => intro c ci fl fL fP fN fS M ls hn; omega
    | succ n ih =>
      intro c ci fl fL fP fN fS M ls hn hci hc hs hw h0 h4 hX hP hL hl2 hN
      refine gG_sp hx (i := .iload 4) (len := 2) (by decide +kernel) (sp_il2 h4) ?_
      refine gG_sp hx (i := .bipush 64) (len := 2) (by decide +kernel) rfl ?_
      refine gG_ic hx (cn := .ge) (off := 17) (tgt := 92) (by decide +kernel) rfl (fun _ => ?_) (fun cg => ?_)
      · refine gG_sp hx (i := .iconst 0) (len := 1) (by decide +kernel) rfl ?_
        refine gG_istore hx hs hw (i := 4) (len := 2) (Or.inl ⟨by decide +kernel, rfl⟩) (by decide) (fun ls' hp' => ?_)
        exact loop3 2049 0 (Int32.ofInt 0) fl fL fP fN fS M ls' (by omega) rfl (by omega) hp'.1 hp'.2.1 (ty_kp hp' h0 (by omega) (by omega)) hp'.2.2.1 hX hP hL hl2 hN
      have cg : ¬ (Int8.ofInt 64).toInt32.toInt ≤ ci.toInt := cg
      rw [e64, hci] at cg
      have inC : vp_in ci 64 := vp_in_iff.mpr ⟨by omega, by omega⟩
      refine gG_sp hx (i := .aload_n 0) (len := 1) (by decide +kernel) (sp_al h0) ?_
      refine gK_get (P.1 (23, 7, 6, .array .boolean) (by decide +kernel)) (by decide +kernel) 12 hX rfl rfl ?_
      refine gG_sp hx (i := .iload 4) (len := 2) (by decide +kernel) (sp_il2 h4) ?_
      refine gG_sp hx (i := .iconst 0) (len := 1) (by decide +kernel) rfl ?_
      refine gK_zast hx 2 8 (by decide +kernel) hX rfl rfl inC (fun M hX => ?_)
      refine gG_iinc hx hs hw (i := 4) (z := 1) (v := ci) (by decide +kernel) h4 (fun ls' hp' => ?_)
      refine gG_goto hx (off := -18) (tgt := 71) (by decide +kernel) rfl ?_
      have ec : (ci + Int32.ofInt 1).toInt = ((c + 1 : Nat) : Int) := by rw [ty_addI hci (show (Int32.ofInt 1).toInt = 1 from rfl) (by omega) (by omega)]; omega
      exact ih (c + 1) (ci + Int32.ofInt 1) fl (upd fL ci.toNatClampNeg (vp_nar .boolean (Int32.ofInt 0))) fP fN fS M ls' (by omega) ec (by omega) hp'.1 hp'.2.1 (ty_kp hp' h0 (by omega) (by omega)) hp'.2.2.1 hX hP (fun j hj => by
        by_cases ej : j = ci.toNatClampNeg
        · rw [ej, pk_us]; decide
        · rw [pk_un ej]; exact hL j hj) hl2 hN
  have loop1 : ∀ (n c : Nat) (ci : Int32) (fl fL fP fN : Nat → Int32) (fS : Nat → Int64) (M : mh_M) (ls : Array Slot), 30 - c < n → ci.toInt = (c : Int) → c ≤ 30 → ls.size = 5 → lv_wf ls → ls[((0 : Fin 4) : Nat)]? = some (.val (.ref q)) → ls[4]? = some (.val (.int ci)) → mx_has M0 q M (xsR cI cZ cJ q cn aD aLt aO aL aP aT aB aN aS aKN aKS aH fl fL fP fN fS) → (∀ j, j < c → fP j = -1) → (∀ j, j < 64 → 0 ≤ (fL j).toInt ∧ (fL j).toInt ≤ 1) → (∀ j, j < 2048 → 0 ≤ (fl j).toInt ∧ (fl j).toInt ≤ 255) → (∀ j, j < 1200 → 0 ≤ (fN j).toInt) → gG x vwCl 47 ls [] M 0 0 := by
    intro n
    induction n with
    | zero => intro c ci fl fL fP fN fS M ls hn; omega
    | succ n ih =>
      intro c ci fl fL fP fN fS M ls hn hci hc hs hw h0 h4 hX hP hL hl2 hN
      refine gG_sp hx (i := .iload 4) (len := 2) (by decide +kernel) (sp_il2 h4) ?_
      refine gG_sp hx (i := .bipush 30) (len := 2) (by decide +kernel) rfl ?_
      refine gG_ic hx (cn := .ge) (off := 17) (tgt := 68) (by decide +kernel) rfl (fun cg => ?_) (fun cg => ?_)
      · have cg : (Int8.ofInt 30).toInt32.toInt ≤ ci.toInt := cg
        rw [e30, hci] at cg
        refine gG_sp hx (i := .iconst 0) (len := 1) (by decide +kernel) rfl ?_
        refine gG_istore hx hs hw (i := 4) (len := 2) (Or.inl ⟨by decide +kernel, rfl⟩) (by decide) (fun ls' hp' => ?_)
        exact loop2 65 0 (Int32.ofInt 0) fl fL fP fN fS M ls' (by omega) rfl (by omega) hp'.1 hp'.2.1 (ty_kp hp' h0 (by omega) (by omega)) hp'.2.2.1 hX (fun j hj => hP j (by omega)) hL hl2 hN
      have cg : ¬ (Int8.ofInt 30).toInt32.toInt ≤ ci.toInt := cg
      rw [e30, hci] at cg
      have inC : vp_in ci 30 := vp_in_iff.mpr ⟨by omega, by omega⟩
      have cc : ci.toNatClampNeg = c := ty_clN hci
      refine gG_sp hx (i := .aload_n 0) (len := 1) (by decide +kernel) (sp_al h0) ?_
      refine gK_get (P.1 (27, 7, 7, .array .int) (by decide +kernel)) (by decide +kernel) 12 hX rfl rfl ?_
      refine gG_sp hx (i := .iload 4) (len := 2) (by decide +kernel) (sp_il2 h4) ?_
      refine gG_sp hx (i := .iconst (-1)) (len := 1) (by decide +kernel) rfl ?_
      refine gK_iast hx 1 7 (by decide +kernel) hX rfl rfl inC (fun M hX => ?_)
      refine gG_iinc hx hs hw (i := 4) (z := 1) (v := ci) (by decide +kernel) h4 (fun ls' hp' => ?_)
      refine gG_goto hx (off := -18) (tgt := 47) (by decide +kernel) rfl ?_
      have ec : (ci + Int32.ofInt 1).toInt = ((c + 1 : Nat) : Int) := by rw [ty_addI hci (show (Int32.ofInt 1).toInt = 1 from rfl) (by omega) (by omega)]; omega
      exact ih (c + 1) (ci + Int32.ofInt 1) fl fL (upd fP ci.toNatClampNeg (Int32.ofInt (-1))) fN fS M ls' (by omega) ec (by omega) hp'.1 hp'.2.1 (ty_kp hp' h0 (by omega) (by omega)) hp'.2.2.1 hX (fun j hj => by
        by_cases ej : j = ci.toNatClampNeg
        · rw [ej, pk_us]; rfl
        · rw [pk_un ej]; exact hP j (by omega)) hL hl2 hN
  have h0 : ls[((0 : Fin 4) : Nat)]? = some (.val (.ref q)) := hls.2.2 (0, .ref q) List.mem_cons_self
  have h1 : ls[((1 : Fin 4) : Nat)]? = some (.val (.int (Int32.ofInt 0))) := hls.2.2 (1, .int _) (List.mem_cons_of_mem _ List.mem_cons_self)
  have h2 : ls[((2 : Fin 4) : Nat)]? = some (.val (.long (Int64.ofNat 0))) := hls.2.2 (2, .long _) (List.mem_cons_of_mem _ (List.mem_cons_of_mem _ List.mem_cons_self))
  refine gG_sp hx (i := .aload_n 0) (len := 1) (by decide +kernel) (sp_al h0) ?_
  refine gG_sp hx (i := .iconst 0) (len := 1) (by decide +kernel) rfl ?_
  refine gK_put (P.2.1 (61, 7, 15, .int) (by decide +kernel)) (by decide +kernel) 12 hX rfl (by show 15 < 22; omega) rfl rfl (fun M hX => ?_)
  refine gG_sp hx (i := .aload_n 0) (len := 1) (by decide +kernel) (sp_al h0) ?_
  refine gG_sp hx (i := .iconst 0) (len := 1) (by decide +kernel) rfl ?_
  refine gK_put (P.2.1 (64, 7, 16, .int) (by decide +kernel)) (by decide +kernel) 12 hX rfl (by show 16 < 22; omega) rfl rfl (fun M hX => ?_)
  refine gG_sp hx (i := .aload_n 0) (len := 1) (by decide +kernel) (sp_al h0) ?_
  refine gK_get (P.1 (37, 7, 13, .array .int) (by decide +kernel)) (by decide +kernel) 12 hX rfl rfl ?_
  refine gG_sp hx (i := .iconst 0) (len := 1) (by decide +kernel) rfl ?_
  refine gG_sp hx (i := .iload_n 1) (len := 1) (by decide +kernel) (sp_il h1) ?_
  refine gK_iast hx 1 4 (by decide +kernel) hX rfl rfl (vp_in_iff.mpr ⟨by decide, by decide⟩) (fun M hX => ?_)
  refine gG_sp hx (i := .aload_n 0) (len := 1) (by decide +kernel) (sp_al h0) ?_
  refine gK_get (P.1 (40, 7, 14, .array .long) (by decide +kernel)) (by decide +kernel) 12 hX rfl rfl ?_
  refine gG_sp hx (i := .iconst 0) (len := 1) (by decide +kernel) rfl ?_
  refine gG_sp hx (i := .lload_n 2) (len := 1) (by decide +kernel) (sp_ll1 h2) ?_
  refine gK_last hx 3 3 (by decide +kernel) hX rfl rfl (vp_in_iff.mpr ⟨by decide, by decide⟩) (fun M hX => ?_)
  refine gG_sp hx (i := .aload_n 0) (len := 1) (by decide +kernel) (sp_al h0) ?_
  refine gG_sp hx (i := .iconst 0) (len := 1) (by decide +kernel) rfl ?_
  refine gK_put (P.2.1 (67, 7, 19, .int) (by decide +kernel)) (by decide +kernel) 12 hX rfl (by show 19 < 22; omega) rfl rfl (fun M hX => ?_)
  refine gG_sp hx (i := .aload_n 0) (len := 1) (by decide +kernel) (sp_al h0) ?_
  refine gG_sp hx (i := .iconst 0) (len := 1) (by decide +kernel) rfl ?_
  refine gK_put (P.2.1 (70, 7, 11, .int) (by decide +kernel)) (by decide +kernel) 12 hX rfl (by show 11 < 22; omega) rfl rfl (fun M hX => ?_)
  refine gG_sp hx (i := .aload_n 0) (len := 1) (by decide +kernel) (sp_al h0) ?_
  refine gG_sp hx (i := .iconst 0) (len := 1) (by decide +kernel) rfl ?_
  refine gK_put (P.2.1 (73, 7, 12, .int) (by decide +kernel)) (by decide +kernel) 12 hX rfl (by show 12 < 22; omega) rfl rfl (fun M hX => ?_)
  refine gG_sp hx (i := .aload_n 0) (len := 1) (by decide +kernel) (sp_al h0) ?_
  refine gG_sp hx (i := .iconst 0) (len := 1) (by decide +kernel) rfl ?_
  refine gK_put (P.2.1 (76, 7, 8, .boolean) (by decide +kernel)) (by decide +kernel) 12 hX rfl (by show 8 < 22; omega) rfl rfl (fun M hX => ?_)
  refine gG_sp hx (i := .iconst 0) (len := 1) (by decide +kernel) rfl ?_
  refine gG_istore hx hls.1 hls.2.1 (i := 4) (len := 2) (Or.inl ⟨by decide +kernel, rfl⟩) (by decide) (fun ls' hp' => ?_)
  exact loop1 31 0 (Int32.ofInt 0) (fun _ => 0) (fun _ => 0) (fun _ => 0) (upd (fun _ => 0) (Int32.ofInt 0).toNatClampNeg (Int32.ofInt 0)) (vp_updL (fun _ => 0) (Int32.ofInt 0).toNatClampNeg (Int64.ofNat 0)) M ls' (by omega) rfl (by omega) hp'.1 hp'.2.1 (ty_kp hp' h0 (by omega) (by omega)) hp'.2.2.1 hX (fun j hj => by omega) (fun j _ => by decide) (fun j _ => by decide) (fun j hj => by
    by_cases ej : j = (Int32.ofInt 0).toNatClampNeg
    · rw [ej, pk_us]; decide
    · rw [pk_un ej]; decide)
