/-! METHODS by types -/
def kwT : List Cond := lw_tbl.filter kw_ok
theorem kwT_in {w : Cond} (h : w ∈ lw_tbl) (hk : kw_ok w = true) : w ∈ kwT := List.mem_filter.mpr ⟨h, hk⟩
theorem kwT_hts {s : State} {args : Array Value} (h : kW s) : ∀ w ∈ kwT, w.before args s = true := fun w hw => h w (List.mem_filter.mp hw).1 (List.mem_filter.mp hw).2 args
theorem kw_at {w : Cond} (i : Nat) (h : tables_1[i]? = some w) : w ∈ lw_tbl := List.mem_append_right _ (List.mem_of_getElem? h)
theorem kw_sl {w : Cond} (i : Nat) (h : (k2_sels lw_privs)[i]? = some w) : w ∈ lw_tbl := List.mem_append_left _ (List.mem_of_getElem? h)
abbrev ty_cc (C : ty_C) : List ty_T := C.1
/-- the room of a method -/
abbrev ty_rm (fr lo : Nat) (C : ty_C) : Room := { frames := fr, cells := C.2.2.2.2.1, slots := C.2.2.2.2.2.1, locals := lo }
/-- what holds behind a method -/
def ty_po (tys : List (ClassId × FieldType)) (KT : List ty_D) (INV' : ty_K → mh_M → Prop) (pgf : ty_K → mh_M → Int32 → Prop) (C : ty_C) (av : List Value) (M : mh_M) (σ : ty_K) : Option Value → mh_M → Prop := fun v M' => ∃ σ' : ty_K, ty_FM C.2.2.1 C.2.2.2.1 σ M σ' M' ∧ ty_H tys KT σ' M' ∧ INV' σ' M' ∧ ty_rv σ' v C.2.1 ∧ ty_rr (pgf σ' M') av v C.2.2.2.2.2.2
/-- a method's contract by types -/
def ty_Met (l : Launch) (D : va_G) (cl : List vw_C) (tys : List (ClassId × FieldType)) (KT : List ty_D) (INV INV' : ty_K → mh_M → Prop) (pgf : ty_K → mh_M → Int32 → Prop) (y : MethodName) (cc : ByteArray) (maxL : Nat) (rF : Option FieldType) (fr lo : Nat) (C : ty_C) : Prop :=
  ∀ (av : List Value) (M : mh_M) (σ : ty_K), ty_av σ (pgf σ M) av C.1 → ty_H tys KT σ M → INV σ M → mh_Met cl tys l D y [Cond.code y cc maxL rF] (ty_rm fr lo C) av M (ty_po tys KT INV' pgf C av M σ)
/-- the locals at the entry, and how many words the arguments take -/
def ty_L0 : Nat → List ty_T → ty_L
  | _, [] => []
  | i, t :: ts => (i, t) :: ty_L0 (if t.1 = 1 then i + 2 else i + 1) ts
def ty_w0 : List ty_T → Nat
  | [] => 0
  | t :: ts => (if t.1 = 1 then 2 else 1) + ty_w0 ts
def ty_t0 (ts : List ty_T) : Bool := ts.all (fun t => t.1 == 1 || ty_c1 t)
theorem ty_c0 {σ : ty_K} {g : Int} {pg : Int32 → Prop} {v : Value} {t : ty_T} (h : (t.1 == 1 || ty_c1 t) = true) (hv : ty_has σ g pg v t) : (t.1 = 1 ∧ v.category = 2) ∨ (¬ t.1 = 1 ∧ v.category = 1) := by
  by_cases e : t.1 = 1
  · exact Or.inl ⟨e, ty_c2 e hv⟩
  · simp only [Bool.or_eq_true, beq_iff_eq] at h
    exact Or.inr ⟨e, ty_c1_ok (h.resolve_left e) hv⟩
theorem ty_w0_ok {σ : ty_K} {pg : Int32 → Prop} {av : List Value} {ts : List ty_T} (h : ty_t0 ts = true) (ha : ty_av σ pg av ts) : (lg_sl av).length = ty_w0 ts := by
  induction ts generalizing av with
  | nil => cases av with
    | nil => rfl
    | cons v vs => exact ha.elim
  | cons t ts ih => cases av with
    | nil => exact ha.elim
    | cons v vs =>
      simp only [ty_t0, List.all_cons, Bool.and_eq_true] at h
      have h2 := ih h.2 ha.2
      show (List.flatMap _ (v :: vs)).length = _
      rw [List.flatMap_cons, List.length_append]
      have h3 : (List.flatMap (fun v : Value => if v.category = 2 then [Slot.val v, .second] else [.val v]) vs).length = ty_w0 ts := h2
      rw [h3]
      rcases ty_c0 h.1 ha.1 with ⟨e1, e2⟩ | ⟨e1, e2⟩
      · simp [ty_w0, e1, e2]
      · simp [ty_w0, e1, e2]
theorem ty_L0_in {σ : ty_K} {pg : Int32 → Prop} {av : List Value} {ts : List ty_T} (h : ty_t0 ts = true) (ha : ty_av σ pg av ts) : ∀ (i : Nat), ∀ q ∈ ty_L0 i ts, ∃ v, (q.1, v) ∈ lv_args i av ∧ ty_has σ 0 pg v q.2 := by
  induction ts generalizing av with
  | nil => intro i q hq; cases hq
  | cons t ts ih => cases av with
    | nil => exact ha.elim
    | cons v vs =>
      simp only [ty_t0, List.all_cons, Bool.and_eq_true] at h
      intro i q hq
      rcases List.mem_cons.mp hq with rfl | hq
      · exact ⟨v, List.mem_cons_self, ha.1⟩
      · rcases ty_c0 h.1 ha.1 with ⟨e1, e2⟩ | ⟨e1, e2⟩
        · rw [if_pos e1] at hq
          obtain ⟨w, w1, w2⟩ := ih h.2 ha.2 (i + 2) q hq
          refine ⟨w, List.mem_cons_of_mem _ ?_, w2⟩
          rw [if_pos e2]
          exact w1
        · rw [if_neg e1] at hq
          obtain ⟨w, w1, w2⟩ := ih h.2 ha.2 (i + 1) q hq
          refine ⟨w, List.mem_cons_of_mem _ ?_, w2⟩
          rw [if_neg (by omega)]
          exact w1
/-- a body: what it is proved from -/
def ty_Bd (l : Launch) (D : va_G) (cl : List vw_C) (tys : List (ClassId × FieldType)) (KT : List ty_D) (INV INV' : ty_K → mh_M → Prop) (pgf : ty_K → mh_M → Int32 → Prop) (y : MethodName) (cc : ByteArray) (maxL : Nat) (rF : Option FieldType) (fr lo : Nat) (C : ty_C) : Prop :=
  ∀ (x : gx_T) (av : List Value) (M0 : mh_M) (σ0 : ty_K) (ls : Array Slot) (post : Option Value → mh_M → Prop), gC x cl cc maxL tys kwT y.cls → x.2.1 = l → x.2.2.2.2.2.2.2.2.1.name = y.name → gx_R x = ty_rm fr lo C → x.2.2.2.2.2.2.2.2.2.2.2.1 = D → ty_av σ0 (pgf σ0 M0) av C.1 → ty_H tys KT σ0 M0 → INV σ0 M0 → lv_has ls maxL (lv_args 0 av) →
    (∀ (v : Option Value) (M' : mh_M) (σ' : ty_K), ty_FM C.2.2.1 C.2.2.2.1 σ0 M0 σ' M' → ty_H tys KT σ' M' → INV' σ' M' → ty_rv σ' v C.2.1 → ty_rr (pgf σ' M') av v C.2.2.2.2.2.2 → post v M') → gR_ret x cl cc rF post C.2.2.2.2.1 C.2.2.2.2.2.1 → gG x cl 0 ls [] M0 0 0
theorem ty_of {l : Launch} {D : va_G} {cl : List vw_C} {tys : List (ClassId × FieldType)} {KT : List ty_D} {INV INV' : ty_K → mh_M → Prop} {pgf : ty_K → mh_M → Int32 → Prop} {y : MethodName} {cc : ByteArray} {maxL : Nat} {rF : Option FieldType} {fr lo : Nat} {C : ty_C} (hy : plainName y.cls = true) (ht : ty_t0 C.1 = true) (hl : ty_w0 C.1 ≤ maxL) (hB : ty_Bd l D cl tys KT INV INV' pgf y cc maxL rF fr lo C) : ty_Met l D cl tys KT INV INV' pgf y cc maxL rF fr lo C := by
  intro av M σ hav hH hI
  refine mh_of hy rfl (by rw [ty_w0_ok ht hav]; exact hl) ?_
  intro p e s m args below meth c ls hx hb hr hlocks hml hts hown hnm hK hm hls
  refine hB (p, l, e, ty_rm fr lo C, s, m, args, below, meth, c, MQ below (mh_Q cl D M s.heap.size (ty_po tys KT INV' pgf C av M σ)) args s (ty_rm fr lo C).cells (ty_rm fr lo C).slots (va_A (mh_w M) s.heap.size), D, va_A (mh_w M) s.heap.size, s.heap) av M σ ls (ty_po tys KT INV' pgf C av M σ) ⟨⟨hx, hb, hml, hown, kwT_hts hK.2.1⟩, hK⟩ rfl hnm rfl rfl hav hH hI hls (fun v M' σ' h1 h2 h3 h4 h5 => ⟨σ', h1, h2, h3, h4, h5⟩) ?_ s.heap [] hm
  intro pc ls' i v M' n k hd hrt hp hn hk H locs hm'
  cases rF with
  | none =>
    obtain ⟨rfl, rfl⟩ := hrt
    exact mh_vret hx hb hr hlocks hm' hd hn hk hp
  | some ft =>
    cases ft with
    | long => obtain ⟨rfl, z, rfl⟩ := hrt; exact mh_lret hx hb hr hlocks hm' hd hn hk hp
    | object nm => obtain ⟨rfl, a, rfl⟩ := hrt; exact mh_aret hx hb hr (Or.inl ⟨_, rfl⟩) (Or.inr ⟨a, rfl⟩) hlocks hm' hd hn hk hp
    | array t => obtain ⟨rfl, a, rfl⟩ := hrt; exact mh_aret hx hb hr (Or.inr ⟨_, rfl⟩) (Or.inr ⟨a, rfl⟩) hlocks hm' hd hn hk hp
    | float => exact hrt.elim
    | double => exact hrt.elim
    | int => obtain ⟨rfl, z, rfl, hnr⟩ := hrt; exact mh_zret hx hb hr hlocks hnr hm' hd hn hk hp
    | boolean => obtain ⟨rfl, z, rfl, hnr⟩ := hrt; exact mh_zret hx hb hr hlocks hnr hm' hd hn hk hp
    | byte => obtain ⟨rfl, z, rfl, hnr⟩ := hrt; exact mh_zret hx hb hr hlocks hnr hm' hd hn hk hp
    | short => obtain ⟨rfl, z, rfl, hnr⟩ := hrt; exact mh_zret hx hb hr hlocks hnr hm' hd hn hk hp
    | char => obtain ⟨rfl, z, rfl, hnr⟩ := hrt; exact mh_zret hx hb hr hlocks hnr hm' hd hn hk hp
/-- a body that the check passes -/
theorem ty_by {l : Launch} {D : va_G} {cl : List vw_C} {tys : List (ClassId × FieldType)} {KT : List ty_D} {INV : ty_K → mh_M → Prop} {pgf : ty_K → mh_M → Int32 → Prop} {y : MethodName} {cc : ByteArray} {maxL : Nat} {rF : Option FieldType} {fr lo : Nat} {C : ty_C} {PS : List (Nat × Nat)} {SW : List (Nat × Int × Int × Int × Int)} {kp : Nat}
    {fT pT : List (Nat × Nat × Nat × FieldType)} {cT : List (Nat × ty_C)} {kT : List (Nat × Int)} {lT : List Nat} {nT : List (Nat × Nat × Nat × Nat × List Value)} (aT : List (Nat × Nat)) {prog : List (Nat × Instr × Nat)} (heads : List ty_Hd) (fuel : Nat)
    (htys : ty_tys tys) (hsI : ty_sI PS INV) (hsP : ty_sP kp pgf) (hpV : ty_pV tys KT INV kp pgf) (hsS : ty_sS tys KT SW INV) (hprog : ∀ q ∈ prog, decode cc q.1 = .ok (q.2.1, q.2.2)) (hinf : C.2.2.2.2.2.2.1 = 0) (ht : ty_t0 C.1 = true)
    (hpr : ∀ x : gx_T, gC x cl cc maxL tys kwT y.cls → x.2.1 = l → x.2.2.2.2.2.2.2.2.1.name = y.name → gx_R x = ty_rm fr lo C → x.2.2.2.2.2.2.2.2.2.2.2.1 = D → (∀ q ∈ fT, gR_get x cl cc q.1 q.2.1 q.2.2.1) ∧ (∀ q ∈ pT, gR_put x cl cc q.1 q.2.1 q.2.2.1 q.2.2.2) ∧ (∀ q ∈ cT, gR_call x cl cc maxL tys KT INV INV pgf q.1 q.2) ∧ (∀ q ∈ kT, gR_ldc x cl cc q.1 (Int32.ofInt q.2)) ∧ (∀ i ∈ lT, ∃ v, gR_ldl x cl cc i v) ∧ (∀ q ∈ nT, gR_new x cl cc q.1 q.2.2.1 q.2.2.2.1 q.2.2.2.2))
    (hna : ∀ x : gx_T, gC x cl cc maxL tys kwT y.cls → (∀ cA ft, tys[0]? = some (cA, ft) → gR_nai x cl cc .byte cA) ∧ (∀ cA ft, tys[1]? = some (cA, ft) → gR_nai x cl cc .int cA) ∧ (∀ cA ft, tys[2]? = some (cA, ft) → gR_nai x cl cc .boolean cA))
    (hck : ty_heads (fun known cur s => ty_chk1 KT fT pT cT kT lT nT aT C.2.2.1 PS SW C.2.2.2.1 kp maxL C.2.2.2.2.1 C.2.2.2.2.2.1 C.2.2.2.2.1 C.2.2.2.2.2.1 C.2.1 rF prog [] known cur fuel s) heads = true)
    (hce : ty_chk KT fT pT cT kT lT nT aT C.2.2.1 PS SW C.2.2.2.1 kp maxL C.2.2.2.2.1 C.2.2.2.2.2.1 C.2.2.2.2.1 C.2.2.2.2.2.1 C.2.1 rF prog [] heads none fuel (0, ty_L0 0 C.1, [], 0, 0) = true) : ty_Bd l D cl tys KT INV INV pgf y cc maxL rF fr lo C := by
  intro x av M0 σ0 ls post hx hl hnm hR hD hav hH hI hls hp hr
  obtain ⟨p1, p2, p3, p4, p5, p6⟩ := hpr x hx hl hnm hR hD
  obtain ⟨n1, n2, n3⟩ := hna x hx
  have E : ty_Env x cl cc maxL tys kwT y.cls KT INV pgf C.2.2.1 PS SW C.2.2.2.1 kp σ0 M0 fT pT cT kT lT nT C.2.2.2.2.1 C.2.2.2.2.2.1 C.2.2.2.2.1 C.2.2.2.2.2.1 C.2.1 rF post prog :=
    ⟨hx, htys, hsI, hsP, hpV, by rw [hR]; exact Nat.le_refl _, by rw [hR]; exact Nat.le_refl _, p1, p2, p3, p4, p5, p6, n1, n2, n3, hr, fun v M σ h1 h2 h3 h4 => hp v M σ h1 h2 h3 h4 (by
      show (match C.2.2.2.2.2.2.1 with | 2 => _ | 3 => _ | _ => True)
      rw [hinf]
      trivial), hprog, hsS⟩
  have hJ := ty_chk_ok (g := 0) E (fun h hh => absurd hh List.not_mem_nil) (fun h hh => ty_heads_ok E (fun h hh => absurd hh List.not_mem_nil) heads hck h hh 0) (fun h e => by cases e) fuel _ hce
  refine hJ σ0 M0 ls [] hls.1 hls.2.1 hH hI ty_F.rf (fun q hq => ?_) trivial
  obtain ⟨v, v1, v2⟩ := ty_L0_in ht hav 0 q hq
  exact ⟨v, hls.2.2 _ v1, v2⟩
