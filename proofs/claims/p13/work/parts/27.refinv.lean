/-! THE REFERENCE'S INVARIANT: its cells are one of a kind; first = fi ≤ behind = be; what waits and what is laid are at most e; newest ≤ t; the heads' numbers, on the disk and where they wait, have a top byte below 128 -/
def cntL (f : Nat → Int32) : Nat → Nat
  | 0 => 0
  | n + 1 => cntL f n + (if f n = 0 then 0 else 1)
theorem cntL_le (f : Nat → Int32) : ∀ n, cntL f n ≤ n
  | 0 => Nat.le_refl _
  | n + 1 => by
    have := cntL_le f n
    simp only [cntL]
    split <;> omega
theorem cntL_off {f : Nat → Int32} {k : Nat} {w : Int32} : ∀ n, n ≤ k → cntL (upd f k w) n = cntL f n
  | 0, _ => rfl
  | n + 1, h => by
    simp only [cntL]
    rw [cntL_off n (by omega), pk_un (by omega)]
theorem cntL_on {f : Nat → Int32} {k : Nat} {w : Int32} : ∀ n, k < n → cntL (upd f k w) n + (if f k = 0 then 0 else 1) = cntL f n + (if w = 0 then 0 else 1)
  | 0, h => by omega
  | n + 1, h => by
    simp only [cntL]
    by_cases e : k = n
    · subst e
      rw [cntL_off k (Nat.le_refl _), pk_us]
      omega
    · rw [pk_un (fun q => e q.symm)]
      have := cntL_on (f := f) (k := k) (w := w) n (by omega)
      omega
def pHd (σ : ty_K) (M : mh_M) : Prop := ∀ a, σ a = some 24 → ∃ (c : ClassId) (f : Nat → Int32), M.2 a = .inl (c, 32, .inl f) ∧ (f 16).toInt ≤ 127
def pRs (σ : ty_K) (M : mh_M) (fi be ne : Nat) : Prop := (∀ m, σ m = some 12 → ty_p (M.2 m) 11 = .inr (some (.int (nI fi))) ∧ ty_p (M.2 m) 12 = .inr (some (.int (nI be))) ∧ ty_p (M.2 m) 16 = .inr (some (.int (nI ne)))) ∧ pHd σ M
def pArr (σ : ty_K) (M : mh_M) (k N : Nat) (f : Nat → Int32) : Prop := ∀ a, σ a = some k → ∃ c : ClassId, M.2 a = .inl (c, N, .inl f)
def pUq (σ : ty_K) : Prop := ∀ k, k ∈ [12, 13, 16, 17, 18, 19] → ∀ a b, σ a = some k → σ b = some k → a = b
/-- what the numbers say -/
def pRn (e t fi be ne : Nat) (dk la ta by_ : Nat → Int32) : Prop := fi ≤ be ∧ be + cntL la 64 ≤ e ∧ ne ≤ t ∧ (dk 16).toInt ≤ 127 ∧ (dk 48).toInt ≤ 127 ∧ ∀ w, fi ≤ w → w < be → (ta w).toInt < 2 → (by_ (32 * w + 16)).toInt ≤ 127
def pRx (e t fi be : Nat) (σ : ty_K) (M : mh_M) : Prop := pUq σ ∧ ∃ (ne : Nat) (dk la ta by_ : Nat → Int32), pRs σ M fi be ne ∧ pArr σ M 13 2048 dk ∧ pArr σ M 16 64 la ∧ pArr σ M 18 1200 ta ∧ pArr σ M 19 38400 by_ ∧ pRn e t fi be ne dk la ta by_
def pR (e t : Nat) (σ : ty_K) (M : mh_M) : Prop := ∃ fi be, pRx e t fi be σ M
theorem pArr_F {P : Nat → Nat → Prop} {B : Nat → Prop} {σ σ' : ty_K} {M M' : mh_M} {k N : Nat} {f : Nat → Int32} (hF : ty_F P B σ M σ' M') (hp : P k 0) (hb : ¬ B k) (h : pArr σ M k N f) : pArr σ' M' k N f := by
  intro a ha
  cases hq : σ a with
  | none => exact absurd (hF.2.2 a k hq ha) hb
  | some k2 =>
    obtain ⟨h1, h2⟩ := hF.2.1 a k2 hq
    rw [ha] at h1
    cases h1
    obtain ⟨c, hc⟩ := h a hq
    have h3 := h2 0 hp
    rw [hc] at h3
    cases hm : M'.2 a with
    | inl y =>
      rw [hm] at h3
      have h4 : (Sum.inl y : (ClassId × vp_A) ⊕ Option Value) = .inl (c, N, .inl f) := h3
      cases h4
      exact ⟨c, rfl⟩
    | inr o =>
      rw [hm] at h3
      have h4 : (Sum.inr (o.2[0]?) : (ClassId × vp_A) ⊕ Option Value) = .inl (c, N, .inl f) := h3
      cases h4
theorem pHd_F {P : Nat → Nat → Prop} {B : Nat → Prop} {σ σ' : ty_K} {M M' : mh_M} (hF : ty_F P B σ M σ' M') (hp : P 24 0) (hb : ¬ B 24) (h : pHd σ M) : pHd σ' M' := by
  intro a ha
  cases hq : σ a with
  | none => exact absurd (hF.2.2 a 24 hq ha) hb
  | some k2 =>
    obtain ⟨h1, h2⟩ := hF.2.1 a k2 hq
    rw [ha] at h1
    cases h1
    obtain ⟨c, f, hc, h16⟩ := h a hq
    have h3 := h2 0 hp
    rw [hc] at h3
    cases hm : M'.2 a with
    | inl y =>
      rw [hm] at h3
      have h4 : (Sum.inl y : (ClassId × vp_A) ⊕ Option Value) = .inl (c, 32, .inl f) := h3
      cases h4
      exact ⟨c, f, rfl, h16⟩
    | inr o =>
      rw [hm] at h3
      have h4 : (Sum.inr (o.2[0]?) : (ClassId × vp_A) ⊕ Option Value) = .inl (c, 32, .inl f) := h3
      cases h4
theorem pHd_set {σ : ty_K} {M : mh_M} {a k0 : Nat} {e : va_E} (hk : σ a = some k0) (hn : k0 ≠ 24) (h : pHd σ M) : pHd σ (mh_set M a e) := by
  intro b hb
  have hba : b ≠ a := fun q => hn (by rw [q, hk] at hb; exact Option.some.inj hb)
  have e1 : (mh_set M a e).2 b = M.2 b := va_up_ne _ _ hba
  rw [e1]
  exact h b hb
theorem pRs_F {P : Nat → Nat → Prop} {B : Nat → Prop} {σ σ' : ty_K} {M M' : mh_M} {fi be ne : Nat} (hF : ty_F P B σ M σ' M') (h1 : P 12 11) (h2 : P 12 12) (h3 : P 12 16) (hb : ¬ B 12) (h4 : P 24 0) (hb2 : ¬ B 24) (h : pRs σ M fi be ne) : pRs σ' M' fi be ne := by
  refine ⟨?_, pHd_F hF h4 hb2 h.2⟩
  intro m hm
  cases hq : σ m with
  | none => exact absurd (hF.2.2 m 12 hq hm) hb
  | some k2 =>
    obtain ⟨e1, e2⟩ := hF.2.1 m k2 hq
    rw [hm] at e1
    cases e1
    obtain ⟨r1, r2, r3⟩ := h.1 m hq
    exact ⟨(e2 11 h1).trans r1, (e2 12 h2).trans r2, (e2 16 h3).trans r3⟩
theorem pUq_F {P : Nat → Nat → Prop} {B : Nat → Prop} {σ σ' : ty_K} {M M' : mh_M} (hF : ty_F P B σ M σ' M') (hb : ∀ k, k ∈ [12, 13, 16, 17, 18, 19] → ¬ B k) (h : pUq σ) : pUq σ' := by
  have key : ∀ k, k ∈ [12, 13, 16, 17, 18, 19] → ∀ a, σ' a = some k → σ a = some k := by
    intro k hk a ha
    cases hq : σ a with
    | none => exact absurd (hF.2.2 a k hq ha) (hb k hk)
    | some k2 =>
      have := (hF.2.1 a k2 hq).1
      rw [ha] at this
      exact this.symm ▸ rfl
  exact fun k hk a b ha hb => h k hk a b (key k hk a ha) (key k hk b hb)
theorem pRx_s (e t fi be : Nat) : ty_sI pPS (pRx e t fi be) := by
  intro σ M σ' M' hF h
  obtain ⟨h0, ne, dk, la, ta, by_, h1, h2, h3, h4, h5, h6⟩ := h
  have hB : ∀ k, k ∈ [12, 13, 16, 17, 18, 19] → ¬ (∀ i, (k, i) ∉ pPS) := by
    intro k hk q
    simp only [List.mem_cons, List.not_mem_nil, or_false] at hk
    rcases hk with rfl | rfl | rfl | rfl | rfl | rfl
    · exact q 11 (by decide)
    · exact q 0 (by decide)
    · exact q 0 (by decide)
    · exact q 0 (by decide)
    · exact q 0 (by decide)
    · exact q 0 (by decide)
  exact ⟨pUq_F hF hB h0, ne, dk, la, ta, by_, pRs_F hF (by decide) (by decide) (by decide) (hB 12 (by decide)) (by decide) (fun q => q 0 (by decide)) h1, pArr_F hF (by decide) (hB 13 (by decide)) h2, pArr_F hF (by decide) (hB 16 (by decide)) h3, pArr_F hF (by decide) (hB 18 (by decide)) h4, pArr_F hF (by decide) (hB 19 (by decide)) h5, h6⟩
/-- a cell of kind k0 is written: the others stay -/
theorem pArr_set {σ : ty_K} {M : mh_M} {a k k0 N : Nat} {e : va_E} {f : Nat → Int32} (hk : σ a = some k0) (hn : k ≠ k0) (h : pArr σ M k N f) : pArr σ (mh_set M a e) k N f := by
  intro b hb
  have hba : b ≠ a := fun q => hn (by rw [q, hk] at hb; exact (Option.some.inj hb).symm)
  obtain ⟨c, hc⟩ := h b hb
  exact ⟨c, by show va_up M.2 a e b = _; rw [va_up_ne _ _ hba]; exact hc⟩
theorem pArr_upd {σ : ty_K} {M : mh_M} {a k N : Nat} {c : ClassId} {f : Nat → Int32} (hu : ∀ b, σ b = some k → b = a) : pArr σ (mh_set M a (.inl (c, N, .inl f))) k N f := by
  intro b hb
  rw [hu b hb]
  exact ⟨c, va_up_self _ _ _⟩
theorem pRs_set {σ : ty_K} {M : mh_M} {a k0 : Nat} {e : va_E} {fi be ne : Nat} (hk : σ a = some k0) (hn : k0 ≠ 12 ∧ k0 ≠ 24) (h : pRs σ M fi be ne) : pRs σ (mh_set M a e) fi be ne := by
  refine ⟨?_, pHd_set hk hn.2 h.2⟩
  intro b hb
  have hba : b ≠ a := fun q => hn.1 (by rw [q, hk] at hb; exact Option.some.inj hb)
  have e1 : (mh_set M a e).2 b = M.2 b := va_up_ne _ _ hba
  rw [e1]
  exact h.1 b hb
theorem pArr_eq {σ : ty_K} {M : mh_M} {a k N N' : Nat} {c : ClassId} {f f' : Nat → Int32} (h : pArr σ M k N f) (hk : σ a = some k) (hat : M.2 a = .inl (c, N', .inl f')) : f' = f ∧ N' = N := by
  obtain ⟨c', hc⟩ := h a hk
  rw [hat] at hc
  cases hc
  exact ⟨rfl, rfl⟩
theorem pR_s (e t : Nat) : ty_sI pPS (pR e t) := fun σ M σ' M' hF ⟨fi, be, h⟩ => ⟨fi, be, pRx_s e t fi be σ M σ' M' hF h⟩
theorem pRx_hd {e t fi be ne : Nat} {dk la ta by_ : Nat → Int32} {σ : ty_K} {M : mh_M} {a N : Nat} {cA : ClassId} {f : Nat → Int32} {i w : Int32} (hk : σ a = some 24) (hat : mh_at M a (.inl (cA, N, .inl f))) (h0 : pUq σ) (h1 : pRs σ M fi be ne) (h2 : pArr σ M 13 2048 dk) (h3 : pArr σ M 16 64 la) (h4 : pArr σ M 18 1200 ta) (h5 : pArr σ M 19 38400 by_) (h6 : pRn e t fi be ne dk la ta by_) (hw : i.toNatClampNeg = 16 → w.toInt ≤ 127) : pRx e t fi be σ (mh_set M a (.inl (cA, N, .inl (upd f i.toNatClampNeg w)))) := by
  refine ⟨h0, ne, dk, la, ta, by_, ⟨?_, ?_⟩, pArr_set hk (by decide) h2, pArr_set hk (by decide) h3, pArr_set hk (by decide) h4, pArr_set hk (by decide) h5, h6⟩
  · intro b hb
    have hba : b ≠ a := fun q => by rw [q, hk] at hb; cases hb
    have e1 : (mh_set M a (.inl (cA, N, .inl (upd f i.toNatClampNeg w)))).2 b = M.2 b := va_up_ne _ _ hba
    rw [e1]
    exact h1.1 b hb
  · intro b hb
    by_cases e : b = a
    · subst e
      obtain ⟨c, f', e1, e2⟩ := h1.2 b hb
      rw [hat.2] at e1
      cases e1
      refine ⟨cA, upd f i.toNatClampNeg w, va_up_self _ _ _, ?_⟩
      by_cases e16 : 16 = i.toNatClampNeg
      · rw [← e16, pk_us]; exact hw e16.symm
      · rw [pk_un e16]; exact e2
    · obtain ⟨c, f', e1, e2⟩ := h1.2 b hb
      exact ⟨c, f', (va_up_ne _ _ e).trans e1, e2⟩
theorem pRx_S (e t fi be : Nat) (tys : List (ClassId × FieldType)) : ty_sS tys pKT pSW (pRx e t fi be) := by
  intro q hq σ M a cA N f i w hH hI hk hat hin i1 i2 w1 w2
  obtain ⟨h0, ne, dk, la, ta, by_, h1, h2, h3, h4, h5, h6⟩ := hI
  unfold pSW at hq
  simp only [List.mem_cons, List.not_mem_nil, or_false] at hq
  rcases hq with rfl | rfl | rfl | rfl | rfl | rfl
  · have hk : σ a = some 16 := hk
    obtain ⟨e1, e2⟩ := pArr_eq h3 hk hat.2
    subst e1; subst e2
    refine ⟨h0, ne, dk, upd f i.toNatClampNeg w, ta, by_, pRs_set hk (by decide) h1, pArr_set hk (by decide) h2, pArr_upd (fun b hb => h0 16 (by decide) b a hb hk), pArr_set hk (by decide) h4, pArr_set hk (by decide) h5, h6.1, ?_, h6.2.2⟩
    have h64 : i.toNatClampNeg < 64 := by unfold vp_in at hin; omega
    have hc := cntL_on (f := f) (k := i.toNatClampNeg) (w := w) 64 h64
    have w0 : w = 0 := Int32.toInt_inj.mp (by have : (0 : Int) ≤ w.toInt := w1; have : w.toInt ≤ 0 := w2; rw [show (0 : Int32).toInt = 0 from rfl]; omega)
    rw [if_pos w0] at hc
    have := h6.2.1
    split at hc <;> omega
  · have hk : σ a = some 17 := hk
    exact ⟨h0, ne, dk, la, ta, by_, pRs_set hk (by decide) h1, pArr_set hk (by decide) h2, pArr_set hk (by decide) h3, pArr_set hk (by decide) h4, pArr_set hk (by decide) h5, h6⟩
  · have hk : σ a = some 13 := hk
    obtain ⟨e1, e2⟩ := pArr_eq h2 hk hat.2
    subst e1; subst e2
    have i1 : (64 : Int) ≤ i.toInt := i1
    have ic : i.toNatClampNeg = i.toInt.toNat := rfl
    refine ⟨h0, ne, upd f i.toNatClampNeg w, la, ta, by_, pRs_set hk (by decide) h1, pArr_upd (fun b hb => h0 13 (by decide) b a hb hk), pArr_set hk (by decide) h3, pArr_set hk (by decide) h4, pArr_set hk (by decide) h5, h6.1, h6.2.1, h6.2.2.1, ?_, ?_, h6.2.2.2.2.2⟩
    · rw [pk_un (by omega)]; exact h6.2.2.2.1
    · rw [pk_un (by omega)]; exact h6.2.2.2.2.1
  · exact pRx_hd hk hat h0 h1 h2 h3 h4 h5 h6 (fun _ => w2)
  · exact pRx_hd hk hat h0 h1 h2 h3 h4 h5 h6 (fun e => absurd i2 (by show ¬ i.toInt ≤ 15; have ic : i.toNatClampNeg = i.toInt.toNat := rfl; omega))
  · exact pRx_hd hk hat h0 h1 h2 h3 h4 h5 h6 (fun e => absurd i1 (by show ¬ (17 : Int) ≤ i.toInt; have ic : i.toNatClampNeg = i.toInt.toNat := rfl; omega))
/-- with it what another part of the heap says, that speaks of the lists' places alone -/
def pPSC : List (Nat × Nat) := [(4, 0), (4, 1), (4, 2), (4, 3), (5, 0), (5, 1), (5, 2), (5, 3), (10, 0), (11, 0)]
theorem pR_S (e t : Nat) (tys : List (ClassId × FieldType)) : ty_sS tys pKT pSW (pR e t) := fun q hq σ M a cA N f i w hH ⟨fi, be, h⟩ hk hat hin i1 i2 w1 w2 => ⟨fi, be, pRx_S e t fi be tys q hq σ M a cA N f i w hH h hk hat hin i1 i2 w1 w2⟩
def pIK (R K : ty_K → mh_M → Prop) : ty_K → mh_M → Prop := fun σ M => R σ M ∧ K σ M
theorem pK_s {K : ty_K → mh_M → Prop} (hK : ty_sI pPSC K) : ty_sI pPS K := fun σ M σ' M' hF h => hK σ M σ' M' (hF.mono (fun k i hi => by
    have : ∀ q ∈ pPSC, q ∈ pPS := by decide
    exact this _ hi) (fun k hk i hi => by
    have : ∀ q ∈ pPSC, q ∈ pPS := by decide
    exact hk i (this _ hi))) h
theorem pK_set {K : ty_K → mh_M → Prop} (hK : ty_sI pPSC K) {σ : ty_K} {M : mh_M} {a k : Nat} {e : va_E} (hk : σ a = some k) (hn : ∀ i, (k, i) ∉ pPSC) (h : K σ M) : K σ (mh_set M a e) := hK σ M σ _ (ty_F_set hk (fun i hi => absurd hi (hn i))) h
theorem pK_no {k : Nat} (h : pPSC.all (fun q => q.1 != k) = true) : ∀ i, (k, i) ∉ pPSC := fun i hi => by
  have := List.all_eq_true.mp h _ hi
  simp at this
theorem pIK_G {tys : List (ClassId × FieldType)} {R K : ty_K → mh_M → Prop} (ht : ty_tys tys) (hK : ty_sI pPSC K) (hRs : ty_sI pPS R) (hRS : ty_sS tys pKT pSW R) (hRu : ∀ σ M, R σ M → pUq σ) : pG tys (pIK R K) := by
  refine ⟨ht, fun σ M σ' M' hF h => ⟨hRs σ M σ' M' hF h.1, pK_s hK σ M σ' M' hF h.2⟩, ?_, ?_⟩
  · intro σ M a z cA N f hH hI ha hat hin
    have hN : N = 30 := by
      obtain ⟨-, d, h2, -, h3, -⟩ := hH a 17 ha
      have e : d = (2, 30, [(5, 2, 63)]) := by
        have : pKT[17]? = some ((2, 30, [(5, 2, 63)]) : ty_D) := rfl
        rw [this] at h2
        exact (Option.some.inj h2).symm
      subst e
      obtain ⟨c, ft, f', -, h4, -⟩ := h3 1 rfl (by omega)
      rw [hat.2] at h4
      cases h4
      rfl
    subst hN
    constructor
    · intro h
      obtain ⟨c, f', e1, -, e3⟩ := h a ha
      rw [hat.2] at e1
      cases e1
      exact e3
    · intro h b hb
      rw [hRu σ M hI.1 17 (by decide) b a hb ha]
      exact ⟨cA, f, hat.2, hin, h⟩
  · intro q hq σ M a cA N f i w hH hI hk hat hin i1 i2 w1 w2
    refine ⟨hRS q hq σ M a cA N f i w hH hI.1 hk hat hin i1 i2 w1 w2, pK_set hK hk ?_ hI.2⟩
    unfold pSW at hq
    simp only [List.mem_cons, List.not_mem_nil, or_false] at hq
    rcases hq with rfl | rfl | rfl | rfl | rfl | rfl <;> exact pK_no (by decide)
theorem pR_u {e t : Nat} : ∀ σ M, pR e t σ M → pUq σ := fun _ _ ⟨_, _, h⟩ => h.1
theorem pI_G {tys : List (ClassId × FieldType)} {K : ty_K → mh_M → Prop} (ht : ty_tys tys) (hK : ty_sI pPSC K) (e t : Nat) : pG tys (pIK (pR e t) K) := pIK_G ht hK (pR_s e t) (pR_S e t tys) pR_u
theorem pX_G {tys : List (ClassId × FieldType)} {K : ty_K → mh_M → Prop} (ht : ty_tys tys) (hK : ty_sI pPSC K) (e t fi be : Nat) : pG tys (pIK (pRx e t fi be) K) := pIK_G ht hK (pRx_s e t fi be) (pRx_S e t fi be tys) (fun _ _ h => h.1)
