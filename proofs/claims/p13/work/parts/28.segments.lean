/-! A body in segments: the check runs from a state to stops, heads or ends; between segments a step is made by hand -/
abbrev ty_Pv (x : gx_T) (cc : ByteArray) (maxL : Nat) (tys : List (ClassId × FieldType)) (INV : ty_K → mh_M → Prop) (fT pT : List (Nat × Nat × Nat × FieldType)) (cT : List (Nat × ty_C)) (kT : List (Nat × Int)) (lT : List Nat) (nT : List (Nat × Nat × Nat × Nat × List Value)) : Prop :=
  (∀ q ∈ fT, gR_get x vwCl cc q.1 q.2.1 q.2.2.1) ∧ (∀ q ∈ pT, gR_put x vwCl cc q.1 q.2.1 q.2.2.1 q.2.2.2) ∧ (∀ q ∈ cT, gR_call x vwCl cc maxL tys pKT INV INV pPG q.1 q.2) ∧ (∀ q ∈ kT, gR_ldc x vwCl cc q.1 (Int32.ofInt q.2)) ∧ (∀ i ∈ lT, ∃ v, gR_ldl x vwCl cc i v) ∧ (∀ q ∈ nT, gR_new x vwCl cc q.1 q.2.2.1 q.2.2.2.1 q.2.2.2.2)
theorem ty_env {tys : List (ClassId × FieldType)} {INV : ty_K → mh_M → Prop} (hG : pG tys INV) {own : String} {cc : ByteArray} {maxL : Nat} {rF : Option FieldType} {fr lo : Nat} {C : ty_C} {rT : Option ty_T} {σ0 : ty_K} {M0 : mh_M} {post : Option Value → mh_M → Prop} {x : gx_T}
    {fT pT : List (Nat × Nat × Nat × FieldType)} {cT : List (Nat × ty_C)} {kT : List (Nat × Int)} {lT : List Nat} {nT : List (Nat × Nat × Nat × Nat × List Value)} {prog : List (Nat × Instr × Nat)}
    (hx : gC x vwCl cc maxL tys kwT own) (hR : gx_R x = ty_rm fr lo C) (hr : gR_ret x vwCl cc rF post C.2.2.2.2.1 C.2.2.2.2.2.1) (hps : ty_pst tys pKT INV C.2.2.1 C.2.2.2.1 σ0 M0 rT post) (hprog : ∀ q ∈ prog, decode cc q.1 = .ok (q.2.1, q.2.2)) (P : ty_Pv x cc maxL tys INV fT pT cT kT lT nT) :
    ty_Env x vwCl cc maxL tys kwT own pKT INV pPG C.2.2.1 pPS pSW C.2.2.2.1 17 σ0 M0 fT pT cT kT lT nT C.2.2.2.2.1 C.2.2.2.2.2.1 C.2.2.2.2.1 C.2.2.2.2.2.1 rT rF post prog := by
  obtain ⟨p1, p2, p3, p4, p5, p6⟩ := P
  obtain ⟨n1, n2, n3⟩ := pNA hG.1 hx
  exact ⟨hx, hG.1, hG.2.1, pPG_s, hG.2.2.1, by rw [hR]; exact Nat.le_refl _, by rw [hR]; exact Nat.le_refl _, p1, p2, p3, p4, p5, p6, n1, n2, n3, hr, hps, hprog, hG.2.2.2⟩
/-- a segment that doesn't come to the method's end: its end may say anything -/
abbrev ty_rN : Option ty_T := some (2, 999, 0)
theorem ty_pN {tys : List (ClassId × FieldType)} {INV : ty_K → mh_M → Prop} {mods : List (Nat × Nat)} {news : List Nat} {σ0 : ty_K} {M0 : mh_M} {post : Option Value → mh_M → Prop} : ty_pst tys pKT INV mods news σ0 M0 ty_rN post := by
  intro v M σ _ hH _ hv
  obtain ⟨w, -, a, -, ha⟩ := hv
  obtain ⟨-, d, hd, -⟩ := hH a 999 ha
  cases hd
section SG
variable {x : gx_T} {cl : List vw_C} {cc : ByteArray} {nL : Nat} {tys : List (ClassId × FieldType)} {Ts : List Cond} {own : String} {KT : List ty_D} {INV : ty_K → mh_M → Prop} {pgf : ty_K → mh_M → Int32 → Prop} {mods PS : List (Nat × Nat)} {SW : List (Nat × Int × Int × Int × Int)} {news : List Nat} {kp : Nat} {σ0 : ty_K} {M0 : mh_M}
variable {fT pT : List (Nat × Nat × Nat × FieldType)} {cT : List (Nat × ty_C)} {kT : List (Nat × Int)} {lT : List Nat} {nT : List (Nat × Nat × Nat × Nat × List Value)} {nc ns RC RS : Nat} {rT : Option ty_T} {rF : Option FieldType} {post : Option Value → mh_M → Prop} {prog : List (Nat × Instr × Nat)}
theorem ty_seg (E : ty_Env x cl cc nL tys Ts own KT INV pgf mods PS SW news kp σ0 M0 fT pT cT kT lT nT nc ns RC RS rT rF post prog) (aT : List (Nat × Nat)) (stops : List ty_Sp) (hsp : ∀ h ∈ stops, ∀ g : Int, ty_J x cl nL tys KT INV pgf mods news σ0 M0 g (ty_s0 h)) (heads : List ty_Hd) (fuel : Nat) (s : ty_S)
    (hck : ty_heads (fun known cur s => ty_chk1 KT fT pT cT kT lT nT aT mods PS SW news kp nL nc ns RC RS rT rF prog stops known cur fuel s) heads = true) (hce : ty_chk KT fT pT cT kT lT nT aT mods PS SW news kp nL nc ns RC RS rT rF prog stops heads none fuel s = true) : ∀ g : Int, ty_J x cl nL tys KT INV pgf mods news σ0 M0 g s :=
  fun g => ty_chk_ok E (fun h hh => hsp h hh g) (fun h hh => ty_heads_ok E hsp heads hck h hh g) (fun h e => by cases e) fuel s hce
end SG
/-- the entry of a body -/
theorem ty_enter {x : gx_T} {cl : List vw_C} {nL : Nat} {tys : List (ClassId × FieldType)} {KT : List ty_D} {INV : ty_K → mh_M → Prop} {pgf : ty_K → mh_M → Int32 → Prop} {mods : List (Nat × Nat)} {news : List Nat} {σ0 : ty_K} {M0 : mh_M} {ts : List ty_T} {av : List Value} {ls : Array Slot} (hJ : ty_J x cl nL tys KT INV pgf mods news σ0 M0 0 (0, ty_L0 0 ts, [], 0, 0)) (ht : ty_t0 ts = true) (hav : ty_av σ0 (pgf σ0 M0) av ts) (hH : ty_H tys KT σ0 M0) (hI : INV σ0 M0) (hls : lv_has ls nL (lv_args 0 av)) : gG x cl 0 ls [] M0 0 0 := by
  refine hJ σ0 M0 ls [] hls.1 hls.2.1 hH hI ty_F.rf (fun q hq => ?_) trivial
  obtain ⟨v, v1, v2⟩ := ty_L0_in ht hav 0 q hq
  exact ⟨v, hls.2.2 _ v1, v2⟩
theorem ty_1 {α : Type} {P : α → Prop} {a : α} (h : P a) : ∀ q ∈ [a], P q := fun _ hq => (List.mem_singleton.mp hq) ▸ h
theorem pRx_mono {e e' t t' fi be : Nat} (he : e ≤ e') (h : t ≤ t') {σ : ty_K} {M : mh_M} (hI : pRx e t fi be σ M) : pRx e' t' fi be σ M := by
  obtain ⟨h0, ne, dk, la, ta, by_, h1, h2, h3, h4, h5, h6⟩ := hI
  exact ⟨h0, ne, dk, la, ta, by_, h1, h2, h3, h4, h5, h6.1, by have := h6.2.1; omega, by have := h6.2.2.1; omega, h6.2.2.2⟩
/-- one more sector is laid -/
theorem pR_mono {e e' t t' : Nat} (he : e ≤ e') (h : t ≤ t') {σ : ty_K} {M : mh_M} (hI : pR e t σ M) : pR e' t' σ M := by
  obtain ⟨fi, be, hI⟩ := hI
  exact ⟨fi, be, pRx_mono he h hI⟩
theorem pR_lay {e t : Nat} {σ : ty_K} {M : mh_M} {a : Nat} {cA : ClassId} {f : Nat → Int32} {i w : Int32} (hI : pR e t σ M) (hk : σ a = some 16) (hat : M.2 a = .inl (cA, 64, .inl f)) (hin : vp_in i 64) : pR (e + 1) t σ (mh_set M a (.inl (cA, 64, .inl (upd f i.toNatClampNeg w)))) := by
  obtain ⟨fi, be, h0, ne, dk, la, ta, by_, h1, h2, h3, h4, h5, h6⟩ := hI
  obtain ⟨e1, -⟩ := pArr_eq h3 hk hat
  subst e1
  refine ⟨fi, be, h0, ne, dk, upd f i.toNatClampNeg w, ta, by_, pRs_set hk (by decide) h1, pArr_set hk (by decide) h2, pArr_upd (fun b hb => h0 16 (by decide) b a hb hk), pArr_set hk (by decide) h4, pArr_set hk (by decide) h5, h6.1, ?_, by have := h6.2.2.1; omega, h6.2.2.2⟩
  have h64 : i.toNatClampNeg < 64 := by unfold vp_in at hin; omega
  have hc := cntL_on (f := f) (k := i.toNatClampNeg) (w := w) 64 h64
  have := h6.2.1
  split at hc <;> split at hc <;> omega
