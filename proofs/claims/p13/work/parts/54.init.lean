/-! kinds for new cells -/
def ty_add (σ : ty_K) (L : List (Nat × Nat)) : ty_K := fun b => match L.find? (fun p => p.1 == b) with
  | some p => some p.2
  | none => σ b
theorem ty_add_in {σ : ty_K} {L : List (Nat × Nat)} (hn : (L.map Prod.fst).Nodup) {a k : Nat} (h : (a, k) ∈ L) : ty_add σ L a = some k := by
  have e : L.find? (fun p => p.1 == a) = some (a, k) := by
    induction L with
    | nil => cases h
    | cons p r ih =>
      rw [List.map_cons, List.nodup_cons] at hn
      rw [List.find?_cons]
      rcases List.mem_cons.mp h with rfl | h
      · simp
      · have hne : ¬ p.1 = a := fun e => hn.1 (e ▸ List.mem_map.mpr ⟨(a, k), h, rfl⟩)
        have hb : (p.1 == a) = false := by simpa using hne
        rw [hb]
        exact ih hn.2 h
  unfold ty_add
  rw [e]
theorem ty_add_of {σ : ty_K} {L : List (Nat × Nat)} {a k : Nat} (h : ty_add σ L a = some k) : (a, k) ∈ L ∨ σ a = some k := by
  unfold ty_add at h
  split at h
  · rename_i p hp
    have h1 := List.mem_of_find?_eq_some hp
    have h2 := List.find?_some hp
    simp only [beq_iff_eq] at h2
    cases h
    obtain ⟨p1, p2⟩ := p
    have h2 : p1 = a := h2
    subst h2
    exact Or.inl h1
  · exact Or.inr h
theorem ty_add_old {σ : ty_K} {L : List (Nat × Nat)} {a : Nat} (h : ∀ p ∈ L, p.1 ≠ a) : ty_add σ L a = σ a := by
  have e : L.find? (fun p => p.1 == a) = none := List.find?_eq_none.mpr (fun p hp => by simpa using h p hp)
  unfold ty_add
  rw [e]
/-- the old cells keep their kinds, the known ones get theirs -/
theorem ty_H_add {tys : List (ClassId × FieldType)} {σ : ty_K} {M0 M : mh_M} {q : Nat} {xs : List (Nat × va_E)} {L : List (Nat × Nat)} (hH : ty_H tys pKT σ M0) (hX : mx_has M0 q M xs) (hq : σ q = none) (hn : (L.map Prod.fst).Nodup) (hc : ∀ p ∈ L, ∃ e, (p.1, e) ∈ xs ∧ ∃ d, pKT[p.2]? = some d ∧ ty_ok tys (ty_add σ L) d e) : ty_H tys pKT (ty_add σ L) M ∧ ty_FM [] (L.map Prod.snd) σ M0 (ty_add σ L) M := by
  have old : ∀ b k, σ b = some k → ty_add σ L b = σ b := by
    intro b k hb
    refine ty_add_old (fun p hp e => ?_)
    obtain ⟨e1, he, -⟩ := hc p hp
    rcases hX.2.2.2 _ he with r | r
    · have r : p.1 = q := r
      rw [← e, r, hq] at hb
      cases hb
    · exact r (by show p.1 ∈ M0.1; rw [e]; exact (hH b k hb).1)
  have oldM : ∀ b k, σ b = some k → b ∈ M.1 ∧ M.2 b = M0.2 b := by
    intro b k hb
    obtain ⟨b1, b2⟩ := hX.2.2.1 b (hH b k hb).1
    exact ⟨b1, b2 (fun e => by rw [e, hq] at hb; cases hb)⟩
  have mono : ∀ b k, σ b = some k → ty_add σ L b = some k := fun b k hb => (old b k hb).trans hb
  refine ⟨fun b k hb => ?_, fun b hb => (hX.2.2.1 b hb).1, fun b k hb => ⟨mono b k hb, fun i _ => by rw [(oldM b k hb).2]⟩, fun b k h1 h2 => ?_⟩
  · rcases ty_add_of hb with h | h
    · obtain ⟨e, he, d, hd, hok⟩ := hc _ h
      have hat := hX.1 _ he
      exact ⟨hat.1, d, hd, by rw [show M.2 b = e from hat.2]; exact hok⟩
    · obtain ⟨d1, d, hd, hok⟩ := hH b k h
      obtain ⟨m1, m2⟩ := oldM b k h
      exact ⟨m1, d, hd, by rw [m2]; exact ty_ok_mono mono hok⟩
  · rcases ty_add_of h2 with h | h
    · exact List.mem_map.mpr ⟨_, h, rfl⟩
    · rw [h1] at h; cases h
set_option maxRecDepth 100000 in
set_option maxHeartbeats 4000000 in
theorem mx_X5_init {l : Launch} {D : va_G} {tys : List (ClassId × FieldType)} {K : ty_K → mh_M → Prop} (ht : ty_tys tys) (hK : ty_sI pPSC K) {M0 : mh_M} {σ : ty_K} {q : Nat} {nn : Int32} (hq : mh_at M0 q (.inr (7, [.int 0, .int 0, .int 0, .null, .null, .null, .null, .null, .int 0, .null, .null, .int 0, .int 0, .null, .null, .int 0, .int 0, .null, .null, .int 0, .int 0, .null]))) (hσq : σ q = none) (hH0 : ty_H tys pKT σ M0) (hK0 : K σ M0) (hno : ∀ a k, σ a = some k → k < 12 ∨ k = 25) :
    mh_Met vwCl tys l D yX5_init [Cond.code yX5_init cX5_init 3 none] (ty_rm 1 24 ct_X5_init) [.ref q, .int nn] M0 (fun v M' => v = none ∧ ∃ σ', ty_FM ct_X5_init.2.2.1 ct_X5_init.2.2.2.1 σ M0 σ' M' ∧ ty_H tys pKT σ' M' ∧ pIK (pR 64 0) K σ' M' ∧ σ' q = some 12 ∧ ty_p (M'.2 q) 2 = .inr (some (.int 0))) := by
  refine ty_ofX (by decide +kernel) (by show 2 ≤ 3; omega) ?_
  intro x ls hx hl hnm hR hD hls hr
  have hG := pI_G ht hK 64 0
  have P := pv_X5_init hG hx hl hnm hR hD
  obtain ⟨nb, ni, nz⟩ := pNA ht hx
  have ht2 := ht
  obtain ⟨cB, cI, cZ, cJ, rr, rfl⟩ := ht2
  have h0 : ls[((0 : Fin 4) : Nat)]? = some (.val (.ref q)) := hls.2.2 (0, .ref q) List.mem_cons_self
  have h1 : ls[((1 : Fin 4) : Nat)]? = some (.val (.int nn)) := hls.2.2 (1, .int nn) (List.mem_cons_of_mem _ List.mem_cons_self)
  have e8 : (Int8.ofInt 8).toInt32.toInt = 8 := ty_cb (by omega) (by omega)
  have e57 : (Int8.ofInt 57).toInt32.toInt = 57 := ty_cb (by omega) (by omega)
  have hX : mx_has M0 q M0 [(q, .inr (7, [.int 0, .int 0, .int 0, .null, .null, .null, .null, .null, .int 0, .null, .null, .int 0, .int 0, .null, .null, .int 0, .int 0, .null, .null, .int 0, .int 0, .null]))] := ⟨fun p hp => by rw [List.mem_singleton.mp hp]; exact hq, by simp, fun b hb => ⟨hb, fun _ => rfl⟩, fun p hp => by rw [List.mem_singleton.mp hp]; exact Or.inl rfl⟩
  refine gG_sp hx (i := .aload_n 0) (len := 1) (by decide +kernel) (sp_al h0) ?_
  refine gK_obj (idx := 1) hx (kw_at 595 (by decide +kernel)) (kw_at 29 (by decide +kernel)) (kw_at 30 (by decide +kernel)) ⟨by rw [hR]; decide, by rw [hR]; decide⟩ (by decide +kernel) hls.1 (Nat.zero_le 8) (by rw [hR]; decide) (by rw [hR]; decide) ?_
  refine gG_sp hx (i := .aload_n 0) (len := 1) (by decide +kernel) (sp_al h0) ?_
  refine gG_sp hx (i := .iconst 1) (len := 1) (by decide +kernel) rfl ?_
  refine gK_put (P.2.1 (7, 7, 1, .boolean) (by decide +kernel)) (by decide +kernel) 0 hX rfl (by show 1 < 22; omega) rfl rfl (fun M hX => ?_)
  refine gG_sp hx (i := .aload_n 0) (len := 1) (by decide +kernel) (sp_al h0) ?_
  refine gG_sp hx (i := .sipush 2048) (len := 3) (by decide +kernel) rfl ?_
  refine gK_nai (ni _ _ rfl) (by decide +kernel) hX 2048 (ty_cs (by omega) (by omega)) (by omega) (by rw [hR]; decide) (by rw [hR]; decide) (fun aD M hX => ?_)
  refine gK_put (P.2.1 (13, 7, 3, .array .int) (by decide +kernel)) (by decide +kernel) 1 hX rfl (by show 3 < 22; omega) rfl rfl (fun M hX => ?_)
  refine gG_sp hx (i := .aload_n 0) (len := 1) (by decide +kernel) (sp_al h0) ?_
  refine gG_sp hx (i := .sipush 2048) (len := 3) (by decide +kernel) rfl ?_
  refine gK_nai (ni _ _ rfl) (by decide +kernel) hX 2048 (ty_cs (by omega) (by omega)) (by omega) (by rw [hR]; decide) (by rw [hR]; decide) (fun aLt M hX => ?_)
  refine gK_put (P.2.1 (17, 7, 4, .array .int) (by decide +kernel)) (by decide +kernel) 2 hX rfl (by show 4 < 22; omega) rfl rfl (fun M hX => ?_)
  refine gG_sp hx (i := .aload_n 0) (len := 1) (by decide +kernel) (sp_al h0) ?_
  refine gG_sp hx (i := .sipush 2048) (len := 3) (by decide +kernel) rfl ?_
  refine gK_nai (ni _ _ rfl) (by decide +kernel) hX 2048 (ty_cs (by omega) (by omega)) (by omega) (by rw [hR]; decide) (by rw [hR]; decide) (fun aO M hX => ?_)
  refine gK_put (P.2.1 (20, 7, 5, .array .int) (by decide +kernel)) (by decide +kernel) 3 hX rfl (by show 5 < 22; omega) rfl rfl (fun M hX => ?_)
  refine gG_sp hx (i := .aload_n 0) (len := 1) (by decide +kernel) (sp_al h0) ?_
  refine gG_sp hx (i := .bipush 64) (len := 2) (by decide +kernel) rfl ?_
  refine gK_nai (nz _ _ rfl) (by decide +kernel) hX 64 (ty_cb (by omega) (by omega)) (by omega) (by rw [hR]; decide) (by rw [hR]; decide) (fun aL M hX => ?_)
  refine gK_put (P.2.1 (23, 7, 6, .array .boolean) (by decide +kernel)) (by decide +kernel) 4 hX rfl (by show 6 < 22; omega) rfl rfl (fun M hX => ?_)
  refine gG_sp hx (i := .aload_n 0) (len := 1) (by decide +kernel) (sp_al h0) ?_
  refine gG_sp hx (i := .bipush 30) (len := 2) (by decide +kernel) rfl ?_
  refine gK_nai (ni _ _ rfl) (by decide +kernel) hX 30 (ty_cb (by omega) (by omega)) (by omega) (by rw [hR]; decide) (by rw [hR]; decide) (fun aP M hX => ?_)
  refine gK_put (P.2.1 (27, 7, 7, .array .int) (by decide +kernel)) (by decide +kernel) 5 hX rfl (by show 7 < 22; omega) rfl rfl (fun M hX => ?_)
  refine gG_sp hx (i := .aload_n 0) (len := 1) (by decide +kernel) (sp_al h0) ?_
  refine gG_sp hx (i := .sipush 1200) (len := 3) (by decide +kernel) rfl ?_
  refine gK_nai (ni _ _ rfl) (by decide +kernel) hX 1200 (ty_cs (by omega) (by omega)) (by omega) (by rw [hR]; decide) (by rw [hR]; decide) (fun aT M hX => ?_)
  refine gK_put (P.2.1 (30, 7, 9, .array .int) (by decide +kernel)) (by decide +kernel) 6 hX rfl (by show 9 < 22; omega) rfl rfl (fun M hX => ?_)
  refine gG_sp hx (i := .aload_n 0) (len := 1) (by decide +kernel) (sp_al h0) ?_
  refine ((P.2.2.2.1 (33, 38400) (by decide +kernel)) 62 ls _ M _ _).1 (by decide +kernel) ?_
  refine gK_nai (ni _ _ rfl) (by decide +kernel) hX 38400 (rfl) (by omega) (by rw [hR]; decide) (by rw [hR]; decide) (fun aB M hX => ?_)
  refine gK_put (P.2.1 (34, 7, 10, .array .int) (by decide +kernel)) (by decide +kernel) 7 hX rfl (by show 10 < 22; omega) rfl rfl (fun M hX => ?_)
  refine gG_sp hx (i := .aload_n 0) (len := 1) (by decide +kernel) (sp_al h0) ?_
  refine gG_sp hx (i := .sipush 1200) (len := 3) (by decide +kernel) rfl ?_
  refine gK_nai (ni _ _ rfl) (by decide +kernel) hX 1200 (ty_cs (by omega) (by omega)) (by omega) (by rw [hR]; decide) (by rw [hR]; decide) (fun aN M hX => ?_)
  refine gK_put (P.2.1 (37, 7, 13, .array .int) (by decide +kernel)) (by decide +kernel) 8 hX rfl (by show 13 < 22; omega) rfl rfl (fun M hX => ?_)
  refine gG_sp hx (i := .aload_n 0) (len := 1) (by decide +kernel) (sp_al h0) ?_
  refine gG_sp hx (i := .sipush 1200) (len := 3) (by decide +kernel) rfl ?_
  refine gK_nal hx 3 rfl (kw_at 669 (by decide +kernel)) (by decide +kernel) hX 1200 (ty_cs (by omega) (by omega)) (by omega) (by rw [hR]; decide) (by rw [hR]; decide) (fun aS M hX => ?_)
  refine gK_put (P.2.1 (40, 7, 14, .array .long) (by decide +kernel)) (by decide +kernel) 9 hX rfl (by show 14 < 22; omega) rfl rfl (fun M hX => ?_)
  refine gG_sp hx (i := .aload_n 0) (len := 1) (by decide +kernel) (sp_al h0) ?_
  refine gG_sp hx (i := .iconst 4) (len := 1) (by decide +kernel) rfl ?_
  refine gK_nai (ni _ _ rfl) (by decide +kernel) hX 4 (rfl) (by omega) (by rw [hR]; decide) (by rw [hR]; decide) (fun aKN M hX => ?_)
  refine gK_put (P.2.1 (44, 7, 17, .array .int) (by decide +kernel)) (by decide +kernel) 10 hX rfl (by show 17 < 22; omega) rfl rfl (fun M hX => ?_)
  refine gG_sp hx (i := .aload_n 0) (len := 1) (by decide +kernel) (sp_al h0) ?_
  refine gG_sp hx (i := .iconst 4) (len := 1) (by decide +kernel) rfl ?_
  refine gK_nal hx 3 rfl (kw_at 669 (by decide +kernel)) (by decide +kernel) hX 4 (rfl) (by omega) (by rw [hR]; decide) (by rw [hR]; decide) (fun aKS M hX => ?_)
  refine gK_put (P.2.1 (47, 7, 18, .array .long) (by decide +kernel)) (by decide +kernel) 11 hX rfl (by show 18 < 22; omega) rfl rfl (fun M hX => ?_)
  refine gG_sp hx (i := .aload_n 0) (len := 1) (by decide +kernel) (sp_al h0) ?_
  refine gG_sp hx (i := .bipush 32) (len := 2) (by decide +kernel) rfl ?_
  refine gK_nai (ni _ _ rfl) (by decide +kernel) hX 32 (ty_cb (by omega) (by omega)) (by omega) (by rw [hR]; decide) (by rw [hR]; decide) (fun aH M hX => ?_)
  refine gK_put (P.2.1 (50, 7, 21, .array .int) (by decide +kernel)) (by decide +kernel) 12 hX rfl (by show 21 < 22; omega) rfl rfl (fun M hX => ?_)
  have fin : ∀ (cn : Int32) (ls : Array Slot), 8 ≤ cn.toInt → cn.toInt ≤ 64 → ls.size = 3 → ls[((0 : Fin 4) : Nat)]? = some (.val (.ref q)) → gG x vwCl 130 ls [.int cn, .ref q] M 12 48278 := by
    intro cn ls c0 c1 hs h0
    refine gK_put (P.2.1 (53, 7, 0, .int) (by decide +kernel)) (by decide +kernel) 12 hX rfl (by show 0 < 22; omega) rfl rfl (fun M hX => ?_)
    refine gG_sp hx (i := .aload_n 0) (len := 1) (by decide +kernel) (sp_al (j := 0) h0) ?_
    refine gG_sp hx (i := .iconst 0) (len := 1) (by decide +kernel) rfl ?_
    refine gG_sp hx (i := .lconst 0) (len := 1) (by decide +kernel) rfl ?_
    refine gX_cV (idx := 57) (C := ct_X5_begin) (ci := 7) (T := TX5) (N := 22) hx hl hD (mx_begin0 (cn := cn) (aD := aD) (aLt := aLt) (aO := aO) (aL := aL) (aP := aP) (aT := aT) (aB := aB) (aN := aN) (aS := aS) (aKN := aKN) (aKS := aKS) (aH := aH) hG hX) rfl (kw_at 600 (by decide +kernel)) (kw_at 10 (by decide +kernel)) (Or.inl (kw_at 597 (by decide +kernel))) (kw_at 599 (by decide +kernel)) (kw_sl 46 (by decide +kernel)) (nA := 2) (by decide +kernel) rfl ⟨by rw [hR]; decide, by rw [hR]; decide⟩ (pc := 136) (by decide +kernel) (mx_at 12 hX rfl) hs (rest := []) (Nat.zero_le 8) (by rw [hR]; decide) (by rw [hR]; decide) rfl (fun v M1 hv => ?_)
    obtain ⟨rfl, fl, fL, fP, fN, fS, hX, hP, hL, hl2, hN⟩ := hv
    have hnd := hX.2.1
    have hin : ∀ a k, (a, k) ∈ ([(aH, 24), (aKS, 23), (aKN, 22), (aS, 21), (aN, 20), (aB, 19), (aT, 18), (aP, 17), (aL, 16), (aO, 15), (aLt, 14), (aD, 13), (q, 12)] : List (Nat × Nat)) → ty_add σ [(aH, 24), (aKS, 23), (aKN, 22), (aS, 21), (aN, 20), (aB, 19), (aT, 18), (aP, 17), (aL, 16), (aO, 15), (aLt, 14), (aD, 13), (q, 12)] a = some k := fun a k h => ty_add_in (L := [(aH, 24), (aKS, 23), (aKN, 22), (aS, 21), (aN, 20), (aB, 19), (aT, 18), (aP, 17), (aL, 16), (aO, 15), (aLt, 14), (aD, 13), (q, 12)]) hnd h
    have hq : ty_ok ((cB, .byte) :: (cI, .int) :: (cZ, .boolean) :: (cJ, .long) :: rr) (ty_add σ [(aH, 24), (aKS, 23), (aKN, 22), (aS, 21), (aN, 20), (aB, 19), (aT, 18), (aP, 17), (aL, 16), (aO, 15), (aLt, 14), (aD, 13), (q, 12)]) (0, 7, [(0, 8, 64), pB, pB, (2, 13, 0), (2, 14, 0), (2, 15, 0), (2, 16, 0), (2, 17, 0), pB, (2, 18, 0), (2, 19, 0), (0, 0, 1199), (0, 0, 1199), (2, 20, 0), (2, 21, 0), (0, 0, 0), (0, 0, 1198), (2, 22, 0), (2, 23, 0), (0, 0, 4), pB, (2, 24, 0)]) (.inr (7, [.int cn, .int 1, .int 0, .ref aD, .ref aLt, .ref aO, .ref aL, .ref aP, .int 0, .ref aT, .ref aB, .int 0, .int 0, .ref aN, .ref aS, .int 0, .int 0, .ref aKN, .ref aKS, .int 0, .int 0, .ref aH])) := by
      refine ⟨fun _ => ⟨_, rfl, fun i t hi => ?_⟩, fun j hj => absurd hj (by show ¬ (0 = 1 + j); omega), fun j hj => absurd hj (by show ¬ (0 = 20 + j); omega)⟩
      match i, hi with
      | 0, hi => cases hi; exact ⟨_, rfl, cn, rfl, c0, c1⟩
      | 1, hi => cases hi; exact ⟨_, rfl, 1, rfl, by decide, by decide⟩
      | 2, hi => cases hi; exact ⟨_, rfl, 0, rfl, by decide, by decide⟩
      | 3, hi => cases hi; exact ⟨_, rfl, aD, rfl, hin aD 13 (List.mem_of_getElem? (i := 11) rfl)⟩
      | 4, hi => cases hi; exact ⟨_, rfl, aLt, rfl, hin aLt 14 (List.mem_of_getElem? (i := 10) rfl)⟩
      | 5, hi => cases hi; exact ⟨_, rfl, aO, rfl, hin aO 15 (List.mem_of_getElem? (i := 9) rfl)⟩
      | 6, hi => cases hi; exact ⟨_, rfl, aL, rfl, hin aL 16 (List.mem_of_getElem? (i := 8) rfl)⟩
      | 7, hi => cases hi; exact ⟨_, rfl, aP, rfl, hin aP 17 (List.mem_of_getElem? (i := 7) rfl)⟩
      | 8, hi => cases hi; exact ⟨_, rfl, 0, rfl, by decide, by decide⟩
      | 9, hi => cases hi; exact ⟨_, rfl, aT, rfl, hin aT 18 (List.mem_of_getElem? (i := 6) rfl)⟩
      | 10, hi => cases hi; exact ⟨_, rfl, aB, rfl, hin aB 19 (List.mem_of_getElem? (i := 5) rfl)⟩
      | 11, hi => cases hi; exact ⟨_, rfl, 0, rfl, by decide, by decide⟩
      | 12, hi => cases hi; exact ⟨_, rfl, 0, rfl, by decide, by decide⟩
      | 13, hi => cases hi; exact ⟨_, rfl, aN, rfl, hin aN 20 (List.mem_of_getElem? (i := 4) rfl)⟩
      | 14, hi => cases hi; exact ⟨_, rfl, aS, rfl, hin aS 21 (List.mem_of_getElem? (i := 3) rfl)⟩
      | 15, hi => cases hi; exact ⟨_, rfl, 0, rfl, by decide, by decide⟩
      | 16, hi => cases hi; exact ⟨_, rfl, 0, rfl, by decide, by decide⟩
      | 17, hi => cases hi; exact ⟨_, rfl, aKN, rfl, hin aKN 22 (List.mem_of_getElem? (i := 2) rfl)⟩
      | 18, hi => cases hi; exact ⟨_, rfl, aKS, rfl, hin aKS 23 (List.mem_of_getElem? (i := 1) rfl)⟩
      | 19, hi => cases hi; exact ⟨_, rfl, 0, rfl, by decide, by decide⟩
      | 20, hi => cases hi; exact ⟨_, rfl, 0, rfl, by decide, by decide⟩
      | 21, hi => cases hi; exact ⟨_, rfl, aH, rfl, hin aH 24 (List.mem_of_getElem? (i := 0) rfl)⟩
      | n + 22, hi => cases hi
    obtain ⟨hH1, hF1⟩ := ty_H_add (L := [(aH, 24), (aKS, 23), (aKN, 22), (aS, 21), (aN, 20), (aB, 19), (aT, 18), (aP, 17), (aL, 16), (aO, 15), (aLt, 14), (aD, 13), (q, 12)]) hH0 hX hσq hnd (pcons ⟨_, List.mem_of_getElem? (i := 0) rfl, _, rfl, ty_ok_ar (ft := .int) rfl (by omega) rfl (fun j hj => ⟨0, rfl, by decide, by decide⟩)⟩ (pcons ⟨_, List.mem_of_getElem? (i := 1) rfl, _, rfl, ty_ok_al (ft := .long) rfl⟩ (pcons ⟨_, List.mem_of_getElem? (i := 2) rfl, _, rfl, ty_ok_ar (ft := .int) rfl (by omega) rfl (fun j hj => ty_any _)⟩ (pcons ⟨_, List.mem_of_getElem? (i := 3) rfl, _, rfl, ty_ok_al (ft := .long) rfl⟩ (pcons ⟨_, List.mem_of_getElem? (i := 4) rfl, _, rfl, ty_ok_ar (ft := .int) rfl (by omega) rfl (fun j hj => ⟨_, rfl, hN j hj, by show (fN j).toInt ≤ 2147483647; have := Int32.toInt_lt (fN j); omega⟩)⟩ (pcons ⟨_, List.mem_of_getElem? (i := 5) rfl, _, rfl, ty_ok_ar (ft := .int) rfl (by omega) rfl (fun j hj => ⟨0, rfl, by decide, by decide⟩)⟩ (pcons ⟨_, List.mem_of_getElem? (i := 6) rfl, _, rfl, ty_ok_ar (ft := .int) rfl (by omega) rfl (fun j hj => ⟨0, rfl, by decide, by decide⟩)⟩ (pcons ⟨_, List.mem_of_getElem? (i := 7) rfl, _, rfl, ty_ok_ar (ft := .int) rfl (by omega) rfl (fun j hj => by rw [hP j hj]; exact ⟨_, rfl, Or.inl (by decide)⟩)⟩ (pcons ⟨_, List.mem_of_getElem? (i := 8) rfl, _, rfl, ty_ok_ar (ft := .boolean) rfl (by omega) rfl (fun j hj => ⟨_, rfl, (hL j hj).1, (hL j hj).2⟩)⟩ (pcons ⟨_, List.mem_of_getElem? (i := 9) rfl, _, rfl, ty_ok_ar (ft := .int) rfl (by omega) rfl (fun j hj => ⟨0, rfl, by decide, by decide⟩)⟩ (pcons ⟨_, List.mem_of_getElem? (i := 10) rfl, _, rfl, ty_ok_ar (ft := .int) rfl (by omega) rfl (fun j hj => ⟨_, rfl, (hl2 j hj).1, (hl2 j hj).2⟩)⟩ (pcons ⟨_, List.mem_of_getElem? (i := 11) rfl, _, rfl, ty_ok_ar (ft := .int) rfl (by omega) rfl (fun j hj => ⟨0, rfl, by decide, by decide⟩)⟩ (pcons ⟨_, List.mem_of_getElem? (i := 12) rfl, _, rfl, hq⟩ pnil)))))))))))))
    have inL : ∀ a k, ty_add σ [(aH, 24), (aKS, 23), (aKN, 22), (aS, 21), (aN, 20), (aB, 19), (aT, 18), (aP, 17), (aL, 16), (aO, 15), (aLt, 14), (aD, 13), (q, 12)] a = some k → 12 ≤ k → k ≤ 24 → (a, k) ∈ ([(aH, 24), (aKS, 23), (aKN, 22), (aS, 21), (aN, 20), (aB, 19), (aT, 18), (aP, 17), (aL, 16), (aO, 15), (aLt, 14), (aD, 13), (q, 12)] : List (Nat × Nat)) := fun a k h k0 k1 => by
      rcases ty_add_of h with r | r
      · exact r
      · rcases hno a k r with r2 | r2 <;> omega
    have one : ∀ a k, ty_add σ [(aH, 24), (aKS, 23), (aKN, 22), (aS, 21), (aN, 20), (aB, 19), (aT, 18), (aP, 17), (aL, 16), (aO, 15), (aLt, 14), (aD, 13), (q, 12)] a = some k → (k = 24 → a = aH) ∧ (k = 23 → a = aKS) ∧ (k = 22 → a = aKN) ∧ (k = 21 → a = aS) ∧ (k = 20 → a = aN) ∧ (k = 19 → a = aB) ∧ (k = 18 → a = aT) ∧ (k = 17 → a = aP) ∧ (k = 16 → a = aL) ∧ (k = 15 → a = aO) ∧ (k = 14 → a = aLt) ∧ (k = 13 → a = aD) ∧ (k = 12 → a = q) := by
      intro a k h
      refine ⟨?_, ?_, ?_, ?_, ?_, ?_, ?_, ?_, ?_, ?_, ?_, ?_, ?_⟩
      · intro e; subst e; have := inL a 24 h (by omega) (by omega); simpa using this
      · intro e; subst e; have := inL a 23 h (by omega) (by omega); simpa using this
      · intro e; subst e; have := inL a 22 h (by omega) (by omega); simpa using this
      · intro e; subst e; have := inL a 21 h (by omega) (by omega); simpa using this
      · intro e; subst e; have := inL a 20 h (by omega) (by omega); simpa using this
      · intro e; subst e; have := inL a 19 h (by omega) (by omega); simpa using this
      · intro e; subst e; have := inL a 18 h (by omega) (by omega); simpa using this
      · intro e; subst e; have := inL a 17 h (by omega) (by omega); simpa using this
      · intro e; subst e; have := inL a 16 h (by omega) (by omega); simpa using this
      · intro e; subst e; have := inL a 15 h (by omega) (by omega); simpa using this
      · intro e; subst e; have := inL a 14 h (by omega) (by omega); simpa using this
      · intro e; subst e; have := inL a 13 h (by omega) (by omega); simpa using this
      · intro e; subst e; have := inL a 12 h (by omega) (by omega); simpa using this
    have fD := mx_at 11 hX rfl
    have fQ := mx_at 12 hX rfl
    have hpR : pR 64 0 (ty_add σ [(aH, 24), (aKS, 23), (aKN, 22), (aS, 21), (aN, 20), (aB, 19), (aT, 18), (aP, 17), (aL, 16), (aO, 15), (aLt, 14), (aD, 13), (q, 12)]) M1 := by
      refine ⟨0, 0, ?_, 0, fun _ => 0, fL, fun _ => 0, fun _ => 0, ⟨?_, ?_⟩, ?_, ?_, ?_, ?_, Nat.le_refl _, by have := cntL_le fL 64; omega, Nat.le_refl _, by decide, by decide, fun w q1 q2 => by omega⟩
      · intro k hk a b ha hb
        have oa := one a k ha
        have ob := one b k hb
        simp only [List.mem_cons, List.not_mem_nil, or_false] at hk
        rcases hk with rfl | rfl | rfl | rfl | rfl | rfl
        · rw [oa.2.2.2.2.2.2.2.2.2.2.2.2 rfl, ob.2.2.2.2.2.2.2.2.2.2.2.2 rfl]
        · rw [oa.2.2.2.2.2.2.2.2.2.2.2.1 rfl, ob.2.2.2.2.2.2.2.2.2.2.2.1 rfl]
        · rw [oa.2.2.2.2.2.2.2.2.1 rfl, ob.2.2.2.2.2.2.2.2.1 rfl]
        · rw [oa.2.2.2.2.2.2.2.1 rfl, ob.2.2.2.2.2.2.2.1 rfl]
        · rw [oa.2.2.2.2.2.2.1 rfl, ob.2.2.2.2.2.2.1 rfl]
        · rw [oa.2.2.2.2.2.1 rfl, ob.2.2.2.2.2.1 rfl]
      · intro a ha
        rw [(one a 12 ha).2.2.2.2.2.2.2.2.2.2.2.2 rfl, (mx_at 12 hX rfl).2]
        exact ⟨rfl, rfl, rfl⟩
      · intro a ha
        rw [(one a 24 ha).1 rfl]
        exact ⟨_, _, (mx_at 0 hX rfl).2, by decide⟩
      · intro a ha
        rw [(one a 13 ha).2.2.2.2.2.2.2.2.2.2.2.1 rfl]
        exact ⟨_, (mx_at 11 hX rfl).2⟩
      · intro a ha
        rw [(one a 16 ha).2.2.2.2.2.2.2.2.1 rfl]
        exact ⟨_, (mx_at 8 hX rfl).2⟩
      · intro a ha
        rw [(one a 18 ha).2.2.2.2.2.2.1 rfl]
        exact ⟨_, (mx_at 6 hX rfl).2⟩
      · intro a ha
        rw [(one a 19 ha).2.2.2.2.2.1 rfl]
        exact ⟨_, (mx_at 5 hX rfl).2⟩
    have hK1 : K (ty_add σ [(aH, 24), (aKS, 23), (aKN, 22), (aS, 21), (aN, 20), (aB, 19), (aT, 18), (aP, 17), (aL, 16), (aO, 15), (aLt, 14), (aD, 13), (q, 12)]) M1 := hK σ M0 _ M1 (hF1.mono (fun k i _ => List.not_mem_nil) (fun k hk i hi => by
      have hk : k ∈ [24, 23, 22, 21, 20, 19, 18, 17, 16, 15, 14, 13, 12] := hk
      have z : ∀ k ∈ [24, 23, 22, 21, 20, 19, 18, 17, 16, 15, 14, 13, 12], ∀ q ∈ pPSC, q.1 ≠ k := by decide
      exact z k hk _ hi rfl)) hK0
    exact hr 139 ls .return_ none M1 _ _ (by decide +kernel) ⟨rfl, rfl⟩ ⟨rfl, _, ty_FMw (fun q hq => absurd hq List.not_mem_nil) (by show ∀ q ∈ [24, 23, 22, 21, 20, 19, 18, 17, 16, 15, 14, 13, 12], q ∈ ct_X5_init.2.2.2.1; decide) hF1, hH1, ⟨hpR, hK1⟩, hin q 12 (List.mem_of_getElem? (i := 12) rfl), by rw [(mx_at 12 hX rfl).2]; rfl⟩ (by decide) (by decide)
  obtain ⟨hny, hrem⟩ := fa_rem_ok (σ := σ) (g := 0) (pg := ty_no) (x := nn) (y := (Int8.ofInt 57).toInt32) (a := (-2147483648, 2147483647)) (b := (57, 57)) (t := (0, -56, 56)) (by decide) (Int32.le_toInt nn) (by have := Int32.toInt_lt nn; show nn.toInt ≤ 2147483647; omega) (by rw [e57]; exact Int.le_refl _) (by rw [e57]; exact Int.le_refl _)
  obtain ⟨kz, hkz, k0, k1⟩ := hrem
  have k0 : (-56 : Int) ≤ kz.toInt := k0
  have k1 : kz.toInt ≤ 56 := k1
  have hkz := Value.int.inj hkz
  refine gG_sp hx (i := .iload_n 1) (len := 1) (by decide +kernel) (sp_il (j := 1) h1) ?_
  refine gG_sp hx (i := .bipush 57) (len := 2) (by decide +kernel) rfl ?_
  refine gG_sp hx (i := .irem) (len := 1) (r := [.int kz]) (by decide +kernel) (by rw [← hkz]; rfl) ?_
  refine gG_istore hx hls.1 hls.2.1 (i := 2) (len := 1) (Or.inr ⟨2, by decide +kernel, rfl, rfl⟩) (by decide) (fun ls1 p1 => ?_)
  have g0 := ty_kp p1 h0 (by omega) (by omega)
  have g2 := p1.2.2.1
  refine gG_sp hx (i := .aload_n 0) (len := 1) (by decide +kernel) (sp_al (j := 0) g0) ?_
  refine gG_sp hx (i := .bipush 8) (len := 2) (by decide +kernel) rfl ?_
  refine gG_sp hx (i := .iload_n 2) (len := 1) (by decide +kernel) (sp_il (j := 2) g2) ?_
  refine gG_if hx (cn := .ge) (off := 10) (tgt := 128) (by decide +kernel) rfl (fun cg => ?_) (fun cg => ?_)
  · have cg : 0 ≤ kz.toInt := cg
    refine gG_sp hx (i := .iload_n 2) (len := 1) (by decide +kernel) (sp_il (j := 2) g2) ?_
    refine gG_sp hx (i := .iadd) (len := 1) (by decide +kernel) rfl ?_
    have ec : ((Int8.ofInt 8).toInt32 + kz).toInt = 8 + kz.toInt := ty_addI e8 rfl (by omega) (by omega)
    exact fin ((Int8.ofInt 8).toInt32 + kz) ls1 (by omega) (by omega) p1.1 g0
  · have cg : ¬ 0 ≤ kz.toInt := cg
    refine gG_sp hx (i := .iload_n 2) (len := 1) (by decide +kernel) (sp_il (j := 2) g2) ?_
    refine gG_sp hx (i := .bipush 57) (len := 2) (by decide +kernel) rfl ?_
    refine gG_sp hx (i := .iadd) (len := 1) (by decide +kernel) rfl ?_
    refine gG_goto hx (off := 4) (tgt := 129) (by decide +kernel) rfl ?_
    refine gG_sp hx (i := .iadd) (len := 1) (by decide +kernel) rfl ?_
    have ec : ((Int8.ofInt 8).toInt32 + (kz + (Int8.ofInt 57).toInt32)).toInt = 8 + (kz.toInt + 57) := ty_addI e8 (ty_addI rfl e57 (by omega) (by omega)) (by omega) (by omega)
    exact fin ((Int8.ofInt 8).toInt32 + (kz + (Int8.ofInt 57).toInt32)) ls1 (by omega) (by omega) p1.1 g0
