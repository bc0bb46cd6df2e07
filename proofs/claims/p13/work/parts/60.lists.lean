/-! THE CLASS'S LISTS: the writes (kind 4, its array 10, its elements 9) and the kept states (5, 11, 3) -/
theorem mh_Met.mono {cl : List vw_C} {tys : List (ClassId × FieldType)} {l : Launch} {D : va_G} {y : MethodName} {ws : List Cond} {rm : Room} {av : List Value} {M : mh_M} {post post' : Option Value → mh_M → Prop} (h : mh_Met cl tys l D y ws rm av M post) (hp : ∀ v M', post v M' → post' v M') : mh_Met cl tys l D y ws rm av M post' :=
  fun sz => MetFree.mono (h sz) (fun _ _ q => q) (fun _ _ _ _ _ q => q) (fun _ _ _ _ _ q => by
    obtain ⟨⟨⟨v, M', e1, e2, e3⟩, e4⟩, e5⟩ := q
    exact ⟨⟨⟨v, M', e1, hp v M' e2, e3⟩, e4⟩, e5⟩)
theorem ty_av_c {σ : ty_K} {pg : Int32 → Prop} {av : List Value} {t : ty_T} {ts : List ty_T} (h : ty_av σ pg av (t :: ts)) : ∃ v vs, av = v :: vs ∧ ty_has σ 0 pg v t ∧ ty_av σ pg vs ts := by
  cases av with
  | nil => exact h.elim
  | cons v vs => exact ⟨v, vs, rfl, h.1, h.2⟩
theorem ty_av_n {σ : ty_K} {pg : Int32 → Prop} {av : List Value} (h : ty_av σ pg av []) : av = [] := by
  cases av with
  | nil => rfl
  | cons v vs => exact h.elim
theorem ty_F.back {P : Nat → Nat → Prop} {B : Nat → Prop} {σ σ' : ty_K} {M M' : mh_M} (hF : ty_F P B σ M σ' M') {k a : Nat} (hb : ¬ B k) (h : σ' a = some k) : σ a = some k := by
  cases hq : σ a with
  | none => exact absurd (hF.2.2 a k hq h) hb
  | some k2 =>
    have e := (hF.2.1 a k2 hq).1
    rw [h] at e
    exact e.symm ▸ rfl
theorem ty_p_inl {e : va_E} {x : ClassId × vp_A} (h : ty_p e 0 = .inl x) : e = .inl x := by
  cases e with
  | inl y =>
    have h : (Sum.inl y : (ClassId × vp_A) ⊕ Option Value) = .inl x := h
    cases h
    rfl
  | inr o =>
    have h : (Sum.inr (o.2[0]?) : (ClassId × vp_A) ⊕ Option Value) = .inl x := h
    cases h
/-- where a list's elements are -/
def pLf (D : va_G) (cO : ClassId) (ka ke : Nat) (σ : ty_K) (M : mh_M) (a c N : Nat) (f : Nat → Option Nat) : Prop :=
  ((a = kem D ∧ c = 0 ∧ N = 0 ∧ ∀ i, f i = none) ∨ (σ a = some ka ∧ M.2 a = qA cO N f ∧ c ≤ N ∧ 1 ≤ N)) ∧ (∀ i, i < c → ∃ y, f i = some y) ∧ ∀ i y, f i = some y → σ y = some ke
/-- the one list of kind kl: of c elements, of room N -/
def pL (D : va_G) (cO : ClassId) (kl ka ke : Nat) (Φ : Nat → Nat → Prop) (σ : ty_K) (M : mh_M) : Prop :=
  (∀ v w, σ v = some kl → σ w = some kl → v = w) ∧ ∀ w, σ w = some kl → ∃ (mc : Int32) (a c N : Nat) (f : Nat → Option Nat), Φ c N ∧ ty_p (M.2 w) 0 = .inr (some (.int mc)) ∧ ty_p (M.2 w) 1 = .inr (some (.ref a)) ∧ ty_p (M.2 w) 2 = .inr (some (.int (nI c))) ∧ ty_p (M.2 w) 3 = .inr none ∧ pLf D cO ka ke σ M a c N f
abbrev pEx (c N : Nat) : Nat → Nat → Prop := fun c' N' => c' = c ∧ N' = N
section PL
variable {D : va_G} {cO : ClassId} {kl ka ke : Nat} {Φ Ψ : Nat → Nat → Prop} {σ σ' : ty_K} {M M' : mh_M} {tys : List (ClassId × FieldType)}
theorem pL_F {P : Nat → Nat → Prop} {B : Nat → Prop} (hF : ty_F P B σ M σ' M') (h0 : P kl 0) (h1 : P kl 1) (h2 : P kl 2) (h3 : P kl 3) (hb : ¬ B kl) (ha : P ka 0) (h : pL D cO kl ka ke Φ σ M) : pL D cO kl ka ke Φ σ' M' := by
  refine ⟨fun v w hv hw => h.1 v w (hF.back hb hv) (hF.back hb hw), fun w hw => ?_⟩
  have hw0 := hF.back hb hw
  obtain ⟨mc, a, c, N, f, p0, p1, p2, p3, p4, q1, q2, q3⟩ := h.2 w hw0
  have hk := (hF.2.1 w kl hw0).2
  refine ⟨mc, a, c, N, f, p0, (hk 0 h0).trans p1, (hk 1 h1).trans p2, (hk 2 h2).trans p3, (hk 3 h3).trans p4, ?_, q2, fun i y hy => hF.kinds y ke (q3 i y hy)⟩
  rcases q1 with q1 | ⟨r1, r2, r3⟩
  · exact Or.inl q1
  · exact Or.inr ⟨hF.kinds a ka r1, ty_p_inl (((hF.2.1 a ka r1).2 0 ha).trans (by rw [r2]; rfl)), r3⟩
theorem pL_mono (hm : ∀ c N, Φ c N → Ψ c N) (h : pL D cO kl ka ke Φ σ M) : pL D cO kl ka ke Ψ σ M := ⟨h.1, fun w hw => by
  obtain ⟨mc, a, c, N, f, p0, p⟩ := h.2 w hw
  exact ⟨mc, a, c, N, f, hm c N p0, p⟩⟩
theorem pL_get {w : Nat} (h : pL D cO kl ka ke Φ σ M) (hw : σ w = some kl) : ∃ c N, Φ c N ∧ pL D cO kl ka ke (pEx c N) σ M := by
  obtain ⟨mc, a, c, N, f, p0, p⟩ := h.2 w hw
  refine ⟨c, N, p0, h.1, fun v hv => ?_⟩
  rw [h.1 v w hv hw]
  exact ⟨mc, a, c, N, f, ⟨rfl, rfl⟩, p⟩
theorem ls3 {fs : List Value} {x y z : Value} (h0 : fs[0]? = some x) (h1 : fs[1]? = some y) (h2 : fs[2]? = some z) (h3 : fs[3]? = none) : fs = [x, y, z] := by
  rcases fs with _ | ⟨p, _ | ⟨q, _ | ⟨r, _ | ⟨s, t⟩⟩⟩⟩
  · cases h0
  · cases h1
  · cases h2
  · cases h0; cases h1; cases h2; rfl
  · cases h3
theorem pL_open {w : Nat} (hH : ty_H tys pKT σ M) (hd : pKT[kl]? = some (0, 1, [])) (h : pL D cO kl ka ke Φ σ M) (hw : σ w = some kl) : ∃ (mc : Int32) (a c N : Nat) (f : Nat → Option Nat), Φ c N ∧ mh_at M w (lE mc a c) ∧ pLf D cO ka ke σ M a c N f := by
  obtain ⟨mc, a, c, N, f, p0, p1, p2, p3, p4, p5⟩ := h.2 w hw
  obtain ⟨fs, hat, -⟩ := ty_obj hH hw hd
  have e : ∀ i, ty_p (M.2 w) i = .inr (fs[i]?) := fun i => by rw [hat.2]; rfl
  rw [e] at p1 p2 p3 p4
  have e3 := ls3 (Sum.inr.inj p1) (Sum.inr.inj p2) (Sum.inr.inj p3) (Sum.inr.inj p4)
  subst e3
  exact ⟨mc, a, c, N, f, p0, hat, p5⟩
theorem pL_mk {w a c N : Nat} {mc : Int32} {f : Nat → Option Nat} (hu : ∀ v, σ v = some kl → v = w) (hat : M.2 w = lE mc a c) (hf : pLf D cO ka ke σ M a c N f) (hΦ : Φ c N) : pL D cO kl ka ke Φ σ M := by
  refine ⟨fun v v' hv hv' => (hu v hv).trans (hu v' hv').symm, fun v hv => ?_⟩
  rw [hu v hv, hat]
  exact ⟨mc, a, c, N, f, hΦ, rfl, rfl, rfl, rfl, hf⟩
/-- the elements are cells of their class -/
theorem pLf_el {a c N ci : Nat} {f : Nat → Option Nat} {ts : List ty_T} (hH : ty_H tys pKT σ M) (hd : pKT[ke]? = some (0, ci, ts)) (h : pLf D cO ka ke σ M a c N f) : ∀ i, i < N → ∀ y, f i = some y → ∃ vs, mh_at M y (.inr (ci, vs)) := fun i hi y hy => by
  obtain ⟨fs, hat, -⟩ := ty_obj hH (h.2.2 i y hy) hd
  exact ⟨fs, hat⟩
theorem ok19 {d : ty_D} {e : va_E} (hd : d = (19, 0, [])) : ty_ok tys σ d e := by
  subst hd
  exact ⟨fun q => by have q : (19 : Nat) = 0 := q; omega, fun j q hj => by have q : 19 = 1 + j := q; omega, fun j q => by have q : 19 = 20 + j := q; omega⟩
/-- a list and its array are written -/
theorem ls_H {w a c a' c' : Nat} {mc mc' : Int32} {news : List Nat} (hH : ty_H tys pKT σ M) (hw : σ w = some kl) (hdl : pKT[kl]? = some (0, 1, [])) (hda : pKT[ka]? = some (19, 0, [])) (hat : M.2 w = lE mc a c) (hat' : mh_at M' w (lE mc' a' c')) (hM : ∀ b, b ∈ M.1 → b ∈ M'.1) (hb : ∀ b k, σ b = some k → b ≠ w → M'.2 b = M.2 b ∨ (k = ka ∧ ∃ x y, M.2 b = .inl x ∧ M'.2 b = .inl y)) :
    ty_H tys pKT σ M' ∧ ty_FM [(kl, 0), (kl, 1), (kl, 2), (ka, 0)] news σ M σ M' := by
  refine ⟨fun b k hk => ?_, hM, fun b k hk => ⟨hk, fun i hi => ?_⟩, fun b k h1 h2 => by rw [h1] at h2; cases h2⟩
  · obtain ⟨h1, d, h2, h3⟩ := hH b k hk
    refine ⟨hM b h1, d, h2, ?_⟩
    by_cases ew : b = w
    · subst ew
      rw [hw] at hk
      cases hk
      rw [hdl] at h2
      cases h2
      rw [hat'.2]
      exact ⟨fun _ => ⟨_, rfl, fun i t ht => by cases ht⟩, fun j q hj => by have q : 0 = 1 + j := q; omega, fun j q => by have q : 0 = 20 + j := q; omega⟩
    · rcases hb b k hk ew with e | ⟨rfl, x, y, e1, e2⟩
      · rw [e]; exact h3
      · rw [hda] at h2
        cases h2
        exact ok19 rfl
  · by_cases ew : b = w
    · subst ew
      rw [hw] at hk
      cases hk
      rw [hat'.2, hat]
      have h0 : i ≠ 0 := fun q => hi (by rw [q]; exact List.mem_cons_self)
      have h1 : i ≠ 1 := fun q => hi (by rw [q]; exact List.mem_cons_of_mem _ List.mem_cons_self)
      have h2 : i ≠ 2 := fun q => hi (by rw [q]; exact List.mem_cons_of_mem _ (List.mem_cons_of_mem _ List.mem_cons_self))
      obtain ⟨j, rfl⟩ : ∃ j, i = j + 3 := ⟨i - 3, by omega⟩
      rfl
    · rcases hb b k hk ew with e | ⟨rfl, x, y, e1, e2⟩
      · rw [e]
      · rw [e2]
        exact ty_p_arr e1 i (fun q => hi (by rw [q]; exact List.mem_cons_of_mem _ (List.mem_cons_of_mem _ (List.mem_cons_of_mem _ List.mem_cons_self))))
/-- an add -/
theorem ls_add {w e a c N ns : Nat} {f : Nat → Option Nat} {mc : Int32} (hH : ty_H tys pKT σ M) (hw : σ w = some kl) (hdl : pKT[kl]? = some (0, 1, [])) (hda : pKT[ka]? = some (19, 0, [])) (hlk : kl ≠ ka) (hu : ∀ v, σ v = some kl → v = w) (hat : mh_at M w (lE mc a c)) (pf : pLf D cO ka ke σ M a c N f) (he : σ e = some ke) (h : lAd cO M w e a c N ns f M') :
    ∃ (σ' : ty_K) (N' : Nat), ty_H tys pKT σ' M' ∧ ty_FM [(kl, 0), (kl, 1), (kl, 2), (ka, 0)] [ka] σ M σ' M' ∧ pL D cO kl ka ke (pEx (c + 1) N') σ' M' ∧ ((N' = N ∧ c < N) ∨ (N' = ns ∧ ns ≠ 0)) := by
  obtain ⟨q, N', g, mc', w1, w2, w3, w4, w5, w6, w7⟩ := h
  have hcN : c ≤ N := by
    rcases pf.1 with ⟨-, e2, e3, -⟩ | ⟨-, -, e3, -⟩
    · omega
    · exact e3
  have el : ∀ {τ : ty_K}, (∀ b k, σ b = some k → τ b = some k) → (∀ i, i < c + 1 → ∃ y, g i = some y) ∧ ∀ i y, g i = some y → τ y = some ke := by
    intro τ hτ
    refine ⟨fun i hi => ?_, fun i y hy => ?_⟩
    · by_cases ei : i = c
      · rw [ei]; exact ⟨e, w5⟩
      · rcases w6 i ei with r | ⟨r, -⟩
        · rw [r]; exact pf.2.1 i (by omega)
        · omega
    · by_cases ei : i = c
      · rw [ei, w5] at hy; cases hy; exact hτ _ _ he
      · rcases w6 i ei with r | ⟨-, r⟩
        · rw [r] at hy; exact hτ _ _ (pf.2.2 i y hy)
        · rw [r] at hy; cases hy
  rcases w4 with ⟨rfl, rfl⟩ | ⟨hq, rfl⟩
  · rcases pf.1 with ⟨-, -, e3, -⟩ | ⟨r1, r2, r3, r4⟩
    · omega
    have hb : ∀ b k, σ b = some k → b ≠ w → M'.2 b = M.2 b ∨ (k = ka ∧ ∃ x y, M.2 b = .inl x ∧ M'.2 b = .inl y) := by
      intro b k hk hn
      by_cases ea : b = q
      · subst ea
        rw [r1] at hk
        cases hk
        exact Or.inr ⟨rfl, _, _, r2, w2.2⟩
      · exact Or.inl ((w7 b (hH b k hk).1).2 hn ea)
    obtain ⟨hH', hF⟩ := ls_H (news := [ka]) hH hw hdl hda hat.2 w1 (fun b hb => (w7 b hb).1) hb
    exact ⟨σ, _, hH', hF, pL_mk hu w1.2 ⟨Or.inr ⟨r1, w2.2, w3, r4⟩, el (fun _ _ h => h)⟩ ⟨rfl, rfl⟩, Or.inl ⟨rfl, w3⟩⟩
  · have hH1 : ty_H tys pKT (ty_new σ q ka) (mh_new M q (M'.2 q)) := ty_H_new hH hq hda (ok19 rfl)
    have hF1 : ty_FM [(kl, 0), (kl, 1), (kl, 2), (ka, 0)] [ka] σ M (ty_new σ q ka) (mh_new M q (M'.2 q)) := ty_F_new hH hq List.mem_cons_self
    have hwM := (hH w kl hw).1
    have hwq : w ≠ q := fun z => hq (z ▸ hwM)
    have hnq : ∀ b, b ≠ q → ty_new σ q ka b = σ b := fun b hb => if_neg hb
    have hw1 : ty_new σ q ka w = some kl := (hnq w hwq).trans hw
    have hb : ∀ b k, ty_new σ q ka b = some k → b ≠ w → M'.2 b = (mh_new M q (M'.2 q)).2 b ∨ (k = ka ∧ ∃ x y, (mh_new M q (M'.2 q)).2 b = .inl x ∧ M'.2 b = .inl y) := by
      intro b k hk hn
      by_cases ea : b = q
      · subst ea
        exact Or.inl (va_up_self _ _ _).symm
      · rw [hnq b ea] at hk
        exact Or.inl (((w7 b (hH b k hk).1).2 hn ea).trans (va_up_ne _ _ ea).symm)
    obtain ⟨hH', hF⟩ := ls_H (M := mh_new M q (M'.2 q)) (news := [ka]) hH1 hw1 hdl hda ((va_up_ne _ _ hwq).trans hat.2) w1 (fun b hb => by
      rcases List.mem_append.mp hb with h | h
      · exact (w7 b h).1
      · rw [List.mem_singleton.mp h]; exact w2.1) hb
    refine ⟨_, _, hH', hF1.tr hF, pL_mk (fun v hv => ?_) w1.2 ⟨Or.inr ⟨if_pos rfl, w2.2, w3, by omega⟩, el hF1.kinds⟩ ⟨rfl, rfl⟩, Or.inr ⟨rfl, by omega⟩⟩
    by_cases ev : v = q
    · rw [ev] at hv
      have : ty_new σ q ka q = some ka := if_pos rfl
      rw [this] at hv
      exact absurd (Option.some.inj hv).symm hlk
    · rw [hnq v ev] at hv; exact hu v hv
/-- a remove -/
theorem ls_rem {w a c N : Nat} {f : Nat → Option Nat} {mc : Int32} (hH : ty_H tys pKT σ M) (hw : σ w = some kl) (hdl : pKT[kl]? = some (0, 1, [])) (hda : pKT[ka]? = some (19, 0, [])) (hu : ∀ v, σ v = some kl → v = w) (hat : mh_at M w (lE mc a c)) (pf : pLf D cO ka ke σ M a c N f) (hc : 0 < c) (h : lRe cO M w a c N f M') :
    ty_H tys pKT σ M' ∧ ty_FM [(kl, 0), (kl, 1), (kl, 2), (ka, 0)] [] σ M σ M' ∧ pL D cO kl ka ke (pEx (c - 1) N) σ M' := by
  obtain ⟨w0, mc', g, w1, w2, w3, w4, w5⟩ := h
  rcases pf.1 with ⟨-, e2, -⟩ | ⟨r1, r2, r3, r4⟩
  · omega
  have hb : ∀ b k, σ b = some k → b ≠ w → M'.2 b = M.2 b ∨ (k = ka ∧ ∃ x y, M.2 b = .inl x ∧ M'.2 b = .inl y) := by
    intro b k hk hn
    by_cases ea : b = a
    · subst ea
      rw [r1] at hk
      cases hk
      exact Or.inr ⟨rfl, _, _, r2, w2.2⟩
    · exact Or.inl (w3 b hn ea)
  obtain ⟨hH', hF⟩ := ls_H (news := []) hH hw hdl hda hat.2 w1 (fun b hb => by rw [w0]; exact hb) hb
  refine ⟨hH', hF, pL_mk hu w1.2 ⟨Or.inr ⟨r1, w2.2, by omega, r4⟩, fun i hi => ?_, fun i y hy => ?_⟩ ⟨rfl, rfl⟩⟩
  · obtain ⟨k, k1, k2⟩ := w4 i hi
    rw [k2]; exact pf.2.1 k k1
  · rcases w5 i with r | ⟨k, r⟩
    · rw [r] at hy; cases hy
    · rw [r] at hy; exact pf.2.2 k y hy
/-- the room that an add wants -/
theorem pLf_rm {w a c N ci : Nat} {f : Nat → Option Nat} {mc : Int32} {ts : List ty_T} (hH : ty_H tys pKT σ M) (hd : pKT[ke]? = some (0, ci, ts)) (hat : mh_at M w (lE mc a c)) (hN : N ≤ 100000) (pf : pLf D cO ka ke σ M a c N f) :
    lRm D cO ci M w c N f a (if c < N then 0 else 1) (if c < N then 0 else if N = 0 then 10 else N + max 1 (N / 2)) := by
  refine ⟨mc, hat, ?_⟩
  rcases pf.1 with ⟨e1, e2, e3, e4⟩ | ⟨r1, r2, r3, r4⟩
  · refine Or.inr (Or.inr ⟨e1, e2, e3, e4, ?_, ?_⟩)
    · rw [if_neg (by omega)]
    · rw [if_neg (by omega), if_pos e3]
  · by_cases h : c < N
    · exact Or.inl ⟨⟨(hH a ka r1).1, r2⟩, h, hN, if_pos h, if_pos h⟩
    · refine Or.inr (Or.inl ⟨⟨(hH a ka r1).1, r2⟩, by omega, r4, hN, pLf_el hH hd pf, if_neg h, ?_⟩)
      rw [if_neg h, if_neg (by omega)]
end PL
/-! the class's invariant: at most 1086 writes wait, at most 4 states are kept -/
def pKw (c N : Nat) : Prop := c ≤ 1086 ∧ N ≤ 1627
def pKk (c N : Nat) : Prop := c ≤ 4 ∧ N ≤ 10
def pKK (D : va_G) (cO : ClassId) (Φ Ψ : Nat → Nat → Prop) (σ : ty_K) (M : mh_M) : Prop := pL D cO 4 10 9 Φ σ M ∧ pL D cO 5 11 3 Ψ σ M
theorem pKK_s {D : va_G} {cO : ClassId} {Φ Ψ : Nat → Nat → Prop} : ty_sI pPSC (pKK D cO Φ Ψ) := fun σ M σ' M' hF h =>
  ⟨pL_F hF (by decide) (by decide) (by decide) (by decide) (fun q => q 0 (by decide)) (by decide) h.1, pL_F hF (by decide) (by decide) (by decide) (by decide) (fun q => q 0 (by decide)) (by decide) h.2⟩
/-- the places that the reference's invariant speaks of -/
def pPSR : List (Nat × Nat) := [(12, 11), (12, 12), (12, 16), (13, 0), (16, 0), (17, 0), (18, 0), (19, 0), (24, 0)]
theorem pRx_sR (e t fi be : Nat) : ty_sI pPSR (pRx e t fi be) := by
  intro σ M σ' M' hF h
  obtain ⟨h0, ne, dk, la, ta, by_, h1, h2, h3, h4, h5, h6⟩ := h
  have hB : ∀ k, k ∈ [12, 13, 16, 17, 18, 19] → ¬ (∀ i, (k, i) ∉ pPSR) := by
    intro k hk q
    simp only [List.mem_cons, List.not_mem_nil, or_false] at hk
    rcases hk with rfl | rfl | rfl | rfl | rfl | rfl
    · exact q 11 (by decide)
    · exact q 0 (by decide)
    · exact q 0 (by decide)
    · exact q 0 (by decide)
    · exact q 0 (by decide)
    · exact q 0 (by decide)
  exact ⟨pUq_F hF hB h0, ne, dk, la, ta, by_, pRs_F hF (by decide) (by decide) (by decide) (hB 12 (by decide)) (by decide) (fun q => q 0 (by decide)) h1, pArr_F hF (by decide) (hB 13 (by decide)) h2, pArr_F hF (by decide) (hB 16 (by decide)) h3, pArr_F hF (by decide) (hB 18 (by decide)) h4, pArr_F hF (by decide) (hB 19 (by decide)) h5, h6⟩
theorem pR_sR (e t : Nat) : ty_sI pPSR (pR e t) := fun σ M σ' M' hF ⟨fi, be, h⟩ => ⟨fi, be, pRx_sR e t fi be σ M σ' M' hF h⟩
/-- both invariants -/
def pJ (e t : Nat) (D : va_G) (cO : ClassId) (Φ Ψ : Nat → Nat → Prop) : ty_K → mh_M → Prop := pIK (pR e t) (pKK D cO Φ Ψ)
def pGL (cO : ClassId) (tys : List (ClassId × FieldType)) (Φ Ψ : Nat → Nat → Prop) : Prop := ty_tys tys ∧ ty_tyO tys cO ∧ (∀ c N, Φ c N → pKw c N) ∧ ∀ c N, Ψ c N → pKk c N
section PJ
variable {e t : Nat} {D : va_G} {cO : ClassId} {tys : List (ClassId × FieldType)} {Φ Ψ Φ' Ψ' : Nat → Nat → Prop} {σ σ' : ty_K} {M M' : mh_M} {l : Launch}
theorem pGL_G (hL : pGL cO tys Φ Ψ) : pG tys (pJ e t D cO Φ Ψ) := pI_G hL.1 pKK_s e t
theorem pJ_mono (h1 : ∀ c N, Φ c N → Φ' c N) (h2 : ∀ c N, Ψ c N → Ψ' c N) (h : pJ e t D cO Φ Ψ σ M) : pJ e t D cO Φ' Ψ' σ M := ⟨h.1, pL_mono h1 h.2.1, pL_mono h2 h.2.2⟩
/-- the list of writes changes -/
theorem pJ_w {news : List Nat} (hn : ∀ k ∈ news, k = 10) (hF : ty_FM [(4, 0), (4, 1), (4, 2), (10, 0)] news σ M σ' M') (hL : pL D cO 4 10 9 Φ' σ' M') (h : pJ e t D cO Φ Ψ σ M) : pJ e t D cO Φ' Ψ σ' M' := by
  refine ⟨pR_sR e t σ M σ' M' (hF.mono (fun k i hi hm => ?_) (fun k hk i hi => ?_)) h.1, hL, pL_F hF (by decide) (by decide) (by decide) (by decide) (fun q => by have := hn _ q; omega) (by decide) h.2.2⟩
  · have : ∀ q ∈ pPSR, q ∉ [(4, 0), (4, 1), (4, 2), (10, 0)] := by decide
    exact this _ hi hm
  · rw [hn k hk] at hi
    have : ∀ q ∈ pPSR, q.1 ≠ 10 := by decide
    exact this _ hi rfl
theorem pJ_k {news : List Nat} (hn : ∀ k ∈ news, k = 11) (hF : ty_FM [(5, 0), (5, 1), (5, 2), (11, 0)] news σ M σ' M') (hL : pL D cO 5 11 3 Ψ' σ' M') (h : pJ e t D cO Φ Ψ σ M) : pJ e t D cO Φ Ψ' σ' M' := by
  refine ⟨pR_sR e t σ M σ' M' (hF.mono (fun k i hi hm => ?_) (fun k hk i hi => ?_)) h.1, pL_F hF (by decide) (by decide) (by decide) (by decide) (fun q => by have := hn _ q; omega) (by decide) h.2.1, hL⟩
  · have : ∀ q ∈ pPSR, q ∉ [(5, 0), (5, 1), (5, 2), (11, 0)] := by decide
    exact this _ hi hm
  · rw [hn k hk] at hi
    have : ∀ q ∈ pPSR, q.1 ≠ 11 := by decide
    exact this _ hi rfl
def ct_L4_size : ty_C := ([(2, 4, 0)], some (0, 0, 1086), [], [], 0, 0, ty_i0)
theorem mt_L4_size (hL : pGL cO tys Φ Ψ) : ty_Met l D vwCl tys pKT (pJ e t D cO Φ Ψ) (pJ e t D cO Φ Ψ) pPG yJx4a65c_size_8abf5 cJx4a65c_size_8abf5 1 (some .int) 0 0 ct_L4_size := by
  intro av M σ hav hH hI
  obtain ⟨v, vs, rfl, ⟨w, rfl, hw⟩, h2⟩ := ty_av_c hav
  rw [ty_av_n h2]
  obtain ⟨mc, a, c, N, f, p0, hat, -⟩ := pL_open hH rfl hI.2.1 hw
  have hc := (hL.2.2.1 c N p0).1
  refine (mx_size hat).mono (fun v M' q => ?_)
  obtain ⟨rfl, rfl⟩ := q
  exact ⟨σ, ty_F.rf, hH, hI, ⟨_, rfl, _, rfl, by rw [nI_tn (by omega)]; show (0 : Int) ≤ _; omega, by rw [nI_tn (by omega)]; show _ ≤ (1086 : Int); omega⟩, trivial⟩
def ct_L4_clear : ty_C := ([(2, 4, 0)], none, [(4, 0), (4, 1), (4, 2), (10, 0)], [], 0, 0, ty_i0)
theorem mt_L4_clear (hL : pGL cO tys pKw Ψ) : ty_Met l D vwCl tys pKT (pJ e t D cO pKw Ψ) (pJ e t D cO pKw Ψ) pPG yJx4a65c_clear_da8c8 cJx4a65c_clear_da8c8 4 none 0 0 ct_L4_clear := by
  intro av M σ hav hH hI
  obtain ⟨v, vs, rfl, ⟨w, rfl, hw⟩, h2⟩ := ty_av_c hav
  have hw : σ w = some 4 := hw
  rw [ty_av_n h2]
  obtain ⟨mc, a, c, N, f, p0, hat, pf⟩ := pL_open hH rfl hI.2.1 hw
  have hc := hL.2.2.1 c N p0
  have hpre : c = 0 ∨ (mh_at M a (qA cO N f) ∧ c ≤ N ∧ N ≤ 100000) := by
    rcases pf.1 with ⟨-, h, -⟩ | ⟨h1, h2, h3, -⟩
    · exact Or.inl h
    · exact Or.inr ⟨⟨(hH a 10 h1).1, h2⟩, h3, by have := hc.2; omega⟩
  refine (mx_clear hL.2.1 hat hpre).mono (fun v M' q => ?_)
  obtain ⟨rfl, q1, ⟨mc', q2⟩, q3, q4⟩ := q
  have hb : ∀ b k, σ b = some k → b ≠ w → M'.2 b = M.2 b ∨ (k = 10 ∧ ∃ x y, M.2 b = .inl x ∧ M'.2 b = .inl y) := by
    intro b k hk hn
    by_cases ea : b = a
    · subst ea
      rcases q4 with ⟨-, q⟩ | ⟨q0, g, q, -⟩
      · exact Or.inl (q b hn)
      · rcases pf.1 with ⟨-, e2, -⟩ | ⟨h1, h2, -⟩
        · omega
        · rw [h1] at hk
          cases hk
          exact Or.inr ⟨rfl, _, _, h2, q.2⟩
    · exact Or.inl (q3 b hn ea)
  obtain ⟨hH', hF⟩ := ls_H (news := []) hH hw rfl rfl hat.2 q2 (fun b hb => by rw [q1]; exact hb) hb
  refine ⟨σ, hF, hH', pJ_w (fun k hk => absurd hk List.not_mem_nil) hF ?_ hI, rfl, trivial⟩
  have hu : ∀ v, σ v = some 4 → v = w := fun v hv => hI.2.1.1 v w hv hw
  rcases pf.1 with ⟨e1, e2, e3, e4⟩ | ⟨h1, h2, h3, h4⟩
  · exact pL_mk hu q2.2 (f := f) (N := N) ⟨Or.inl ⟨e1, rfl, e3, e4⟩, fun i hi => by omega, fun i y hy => by rw [e4 i] at hy; cases hy⟩ ⟨Nat.zero_le _, hc.2⟩
  · have haw : a ≠ w := fun q => by rw [q, hw] at h1; cases h1
    rcases q4 with ⟨-, q⟩ | ⟨q0, g, q, q5⟩
    · exact pL_mk hu q2.2 (f := f) (N := N) ⟨Or.inr ⟨h1, (q a haw).trans h2, Nat.zero_le _, h4⟩, fun i hi => by omega, pf.2.2⟩ ⟨Nat.zero_le _, hc.2⟩
    · refine pL_mk hu q2.2 (f := g) (N := N) ⟨Or.inr ⟨h1, q.2, Nat.zero_le _, h4⟩, fun i hi => by omega, fun i y hy => ?_⟩ ⟨Nat.zero_le _, hc.2⟩
      rcases q5 i with e | e
      · rw [e] at hy; cases hy
      · rw [e] at hy; exact pf.2.2 i y hy
def ct_L5_size : ty_C := ([(2, 5, 0)], some (0, 0, 4), [], [], 0, 0, ty_i0)
theorem mt_L5_size (hL : pGL cO tys Φ Ψ) : ty_Met l D vwCl tys pKT (pJ e t D cO Φ Ψ) (pJ e t D cO Φ Ψ) pPG yJx4a65c_size_8abf5 cJx4a65c_size_8abf5 1 (some .int) 0 0 ct_L5_size := by
  intro av M σ hav hH hI
  obtain ⟨v, vs, rfl, ⟨w, rfl, hw⟩, h2⟩ := ty_av_c hav
  rw [ty_av_n h2]
  obtain ⟨mc, a, c, N, f, p0, hat, -⟩ := pL_open hH rfl hI.2.2 hw
  have hc := (hL.2.2.2 c N p0).1
  refine (mx_size hat).mono (fun v M' q => ?_)
  obtain ⟨rfl, rfl⟩ := q
  exact ⟨σ, ty_F.rf, hH, hI, ⟨_, rfl, _, rfl, by rw [nI_tn (by omega)]; show (0 : Int) ≤ _; omega, by rw [nI_tn (by omega)]; show _ ≤ (4 : Int); omega⟩, trivial⟩
def ct_L5_clear : ty_C := ([(2, 5, 0)], none, [(5, 0), (5, 1), (5, 2), (11, 0)], [], 0, 0, ty_i0)
theorem mt_L5_clear (hL : pGL cO tys Φ pKk) : ty_Met l D vwCl tys pKT (pJ e t D cO Φ pKk) (pJ e t D cO Φ pKk) pPG yJx4a65c_clear_da8c8 cJx4a65c_clear_da8c8 4 none 0 0 ct_L5_clear := by
  intro av M σ hav hH hI
  obtain ⟨v, vs, rfl, ⟨w, rfl, hw⟩, h2⟩ := ty_av_c hav
  have hw : σ w = some 5 := hw
  rw [ty_av_n h2]
  obtain ⟨mc, a, c, N, f, p0, hat, pf⟩ := pL_open hH rfl hI.2.2 hw
  have hc := hL.2.2.2 c N p0
  have hpre : c = 0 ∨ (mh_at M a (qA cO N f) ∧ c ≤ N ∧ N ≤ 100000) := by
    rcases pf.1 with ⟨-, h, -⟩ | ⟨h1, h2, h3, -⟩
    · exact Or.inl h
    · exact Or.inr ⟨⟨(hH a 11 h1).1, h2⟩, h3, by have := hc.2; omega⟩
  refine (mx_clear hL.2.1 hat hpre).mono (fun v M' q => ?_)
  obtain ⟨rfl, q1, ⟨mc', q2⟩, q3, q4⟩ := q
  have hb : ∀ b k, σ b = some k → b ≠ w → M'.2 b = M.2 b ∨ (k = 11 ∧ ∃ x y, M.2 b = .inl x ∧ M'.2 b = .inl y) := by
    intro b k hk hn
    by_cases ea : b = a
    · subst ea
      rcases q4 with ⟨-, q⟩ | ⟨q0, g, q, -⟩
      · exact Or.inl (q b hn)
      · rcases pf.1 with ⟨-, e2, -⟩ | ⟨h1, h2, -⟩
        · omega
        · rw [h1] at hk
          cases hk
          exact Or.inr ⟨rfl, _, _, h2, q.2⟩
    · exact Or.inl (q3 b hn ea)
  obtain ⟨hH', hF⟩ := ls_H (news := []) hH hw rfl rfl hat.2 q2 (fun b hb => by rw [q1]; exact hb) hb
  refine ⟨σ, hF, hH', pJ_k (fun k hk => absurd hk List.not_mem_nil) hF ?_ hI, rfl, trivial⟩
  have hu : ∀ v, σ v = some 5 → v = w := fun v hv => hI.2.2.1 v w hv hw
  rcases pf.1 with ⟨e1, e2, e3, e4⟩ | ⟨h1, h2, h3, h4⟩
  · exact pL_mk hu q2.2 (f := f) (N := N) ⟨Or.inl ⟨e1, rfl, e3, e4⟩, fun i hi => by omega, fun i y hy => by rw [e4 i] at hy; cases hy⟩ ⟨Nat.zero_le _, hc.2⟩
  · have haw : a ≠ w := fun q => by rw [q, hw] at h1; cases h1
    rcases q4 with ⟨-, q⟩ | ⟨q0, g, q, q5⟩
    · exact pL_mk hu q2.2 (f := f) (N := N) ⟨Or.inr ⟨h1, (q a haw).trans h2, Nat.zero_le _, h4⟩, fun i hi => by omega, pf.2.2⟩ ⟨Nat.zero_le _, hc.2⟩
    · refine pL_mk hu q2.2 (f := g) (N := N) ⟨Or.inr ⟨h1, q.2, Nat.zero_le _, h4⟩, fun i hi => by omega, fun i y hy => ?_⟩ ⟨Nat.zero_le _, hc.2⟩
      rcases q5 i with e | e
      · rw [e] at hy; cases hy
      · rw [e] at hy; exact pf.2.2 i y hy
end PJ
