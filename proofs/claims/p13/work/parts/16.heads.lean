section HD
variable {x : gx_T} {cl : List vw_C} {cc : ByteArray} {nL : Nat} {tys : List (ClassId × FieldType)} {Ts : List Cond} {own : String} {KT : List ty_D} {INV : ty_K → mh_M → Prop} {pgf : ty_K → mh_M → Int32 → Prop} {mods PS : List (Nat × Nat)} {SW : List (Nat × Int × Int × Int × Int)} {news : List Nat} {kp : Nat} {σ0 : ty_K} {M0 : mh_M} {g : Int}
variable {fT pT : List (Nat × Nat × Nat × FieldType)} {cT : List (Nat × ty_C)} {kT : List (Nat × Int)} {lT : List Nat} {nT : List (Nat × Nat × Nat × Nat × List Value)} {aT : List (Nat × Nat)} {nc ns RC RS : Nat} {rT : Option ty_T} {rF : Option FieldType} {post : Option Value → mh_M → Prop} {prog : List (Nat × Instr × Nat)}
/-- the state at a head, nothing said of the ghost -/
def ty_h0 (h : ty_Hd) : ty_S := (h.1, h.2.1, [], h.2.2.2.2.1, h.2.2.2.2.2)
theorem ty_subL_ok {σ : ty_K} {g g' : Int} {pg : Int32 → Prop} {ls : Array Slot} {L L' : ty_L} (h : ty_subL L L' = true) (hl : ty_loc σ g pg ls L) : ty_loc σ g' pg ls L' := by
  intro q hq
  have h1 := List.all_eq_true.mp h q hq
  split at h1
  · rename_i t ht
    obtain ⟨v, h2, h3⟩ := ty_get_ok hl ht
    exact ⟨v, h2, ty_sub_ok h1 h3⟩
  · cases h1
theorem ty_subG_ok {σ : ty_K} {g : Int} {pg : Int32 → Prop} {ls : Array Slot} {L L' : ty_L} (h : ty_subG L L' = true) (hl : ty_loc σ g pg ls L) : ty_loc σ g pg ls L' := by
  intro q hq
  have h1 := List.all_eq_true.mp h q hq
  split at h1
  · rename_i t ht
    obtain ⟨v, h2, h3⟩ := ty_get_ok hl ht
    rcases Bool.or_eq_true _ _ ▸ h1 with h1 | h1
    · exact ⟨v, h2, ty_sub_ok h1 h3⟩
    · exact ⟨v, h2, of_decide_eq_true h1 ▸ h3⟩
  · cases h1
theorem ty_hit_ok {h : ty_Hd} {s : ty_S} (hh : ty_hit h s = true) (hJ : ty_J x cl nL tys KT INV pgf mods news σ0 M0 g (ty_h0 h)) : ty_J x cl nL tys KT INV pgf mods news σ0 M0 g s := by
  obtain ⟨pc, L, c, hi, n, k⟩ := h
  obtain ⟨pc', L', es, n', k'⟩ := s
  unfold ty_hit at hh
  simp only [Bool.and_eq_true, beq_iff_eq, List.isEmpty_iff, decide_eq_true_eq] at hh
  obtain ⟨⟨⟨⟨rfl, h2⟩, rfl⟩, h4⟩, h5⟩ := hh
  intro σ M ls st hs hw hH hI hF hL hS
  exact gG_widen h4 h5 (hJ σ M ls st hs hw hH hI hF (ty_subL_ok h2 hL) hS)
theorem ty_at_get {σ : ty_K} {g : Int} {pg : Int32 → Prop} {ls : Array Slot} {L : ty_L} {c : Nat} {z : Int32} (hz : ls[c]? = some (.val (.int z))) (hg : z.toInt = g) (hp : ∀ q ∈ L, q.1 = c → q.2.1 = 0) (hl : ty_loc σ g pg ls L) : ty_loc σ g pg ls (ty_at L c (fun t => (6, t.2.1, t.2.2))) := by
  intro q hq
  obtain ⟨r, h1, h2⟩ := List.mem_map.mp hq
  obtain ⟨w, h3, h4⟩ := hl r h1
  split at h2
  · rename_i e
    subst h2
    rw [e, hz] at h3
    cases h3
    have e0 := hp r h1 e
    obtain ⟨r1, r2, r3, r4⟩ := r
    have e0 : r2 = 0 := e0
    subst e0
    obtain ⟨y, y0, y1, y2⟩ := h4
    cases y0
    exact ⟨_, by show ls[r1]? = _; rw [show r1 = c from e]; exact hz, z, rfl, y1, y2, hg⟩
  · subst h2; exact ⟨w, h3, h4⟩
/-- the state at a stop -/
def ty_s0 (h : ty_Sp) : ty_S := (h.1, h.2.1, h.2.2.1.map (fun t => (t, ty_i0)), h.2.2.2.1, h.2.2.2.2)
theorem ty_subS_ok {σ : ty_K} {g : Int} {pg : Int32 → Prop} {ls : Array Slot} {st : List Value} {es : List ty_E} {ts : List ty_T} (h : ty_subS es ts = true) (hs : ty_stk σ g pg ls st es) : ty_stk σ g pg ls st (ts.map (fun t => (t, ty_i0))) := by
  induction es generalizing st ts with
  | nil => cases ts with
    | nil => exact hs
    | cons t ts => cases h
  | cons e es ih => cases ts with
    | nil => cases h
    | cons t ts =>
      obtain ⟨v, vs, rfl, h1, h2⟩ := ty_stk_c hs
      simp only [ty_subS, Bool.and_eq_true] at h
      simp only [Bool.or_eq_true, decide_eq_true_eq] at h
      rcases h.1 with q | q
      · exact ⟨⟨ty_sub_ok q h1.1, trivial⟩, ih h.2 h2⟩
      · exact ⟨⟨q ▸ h1.1, trivial⟩, ih h.2 h2⟩
theorem ty_stop_ok {h : ty_Sp} {s : ty_S} (hh : ty_stop h s = true) (hJ : ty_J x cl nL tys KT INV pgf mods news σ0 M0 g (ty_s0 h)) : ty_J x cl nL tys KT INV pgf mods news σ0 M0 g s := by
  obtain ⟨pc, L, ts, n, k⟩ := h
  obtain ⟨pc', L', es, n', k'⟩ := s
  unfold ty_stop at hh
  simp only [Bool.and_eq_true, beq_iff_eq, decide_eq_true_eq] at hh
  obtain ⟨⟨⟨⟨rfl, h2⟩, h3⟩, h4⟩, h5⟩ := hh
  intro σ M ls st hs hw hH hI hF hL hS
  exact gG_widen h4 h5 (hJ σ M ls st hs hw hH hI hF (ty_subG_ok h2 hL) (ty_subS_ok h3 hS))
theorem ty_back_ok {h : ty_Hd} {s : ty_S} (hp : ∀ q ∈ h.2.1, q.1 = h.2.2.1 → q.2.1 = 0) (hh : ty_back h s = true) (hJ : ∀ g', g < g' → g' ≤ h.2.2.2.1 → ty_J x cl nL tys KT INV pgf mods news σ0 M0 g' (ty_hs h)) : ty_J x cl nL tys KT INV pgf mods news σ0 M0 g s := by
  obtain ⟨pc, L, c, hi, n, k⟩ := h
  obtain ⟨pc', L', es, n', k'⟩ := s
  unfold ty_back at hh
  simp only [Bool.and_eq_true, beq_iff_eq, List.isEmpty_iff, decide_eq_true_eq] at hh
  obtain ⟨⟨⟨⟨⟨rfl, h2⟩, rfl⟩, h4⟩, h5⟩, h6⟩ := hh
  intro σ M ls st hs hw hH hI hF hL hS
  split at h6
  · rename_i t ht
    obtain ⟨v, v1, v2⟩ := ty_get_ok hL ht
    simp only [Bool.and_eq_true, beq_iff_eq, decide_eq_true_eq] at h6
    obtain ⟨t0, t1, t2⟩ := t
    obtain ⟨e0, e1⟩ := h6
    have e0 : t0 = 7 := e0
    have e1 : t2 ≤ hi := e1
    subst e0
    obtain ⟨z, rfl, z1, z2, z3⟩ := v2
    have z2 : z.toInt ≤ t2 := z2
    rw [ty_stk_n hS]
    exact gG_widen h4 h5 (hJ z.toInt z3 (by show z.toInt ≤ hi; omega) σ M ls [] hs hw hH hI hF (ty_at_get v1 rfl hp (ty_subL_ok h2 hL)) trivial)
  · cases h6
theorem ty_chk_ok (E : ty_Env x cl cc nL tys Ts own KT INV pgf mods PS SW news kp σ0 M0 fT pT cT kT lT nT nc ns RC RS rT rF post prog) {stops : List ty_Sp} {known : List ty_Hd} {cur : Option ty_Hd} (hsp : ∀ h ∈ stops, ty_J x cl nL tys KT INV pgf mods news σ0 M0 g (ty_s0 h)) (hk : ∀ h ∈ known, ty_J x cl nL tys KT INV pgf mods news σ0 M0 g (ty_h0 h)) (hc : ∀ h, cur = some h → (∀ q ∈ h.2.1, q.1 = h.2.2.1 → q.2.1 = 0) ∧ ∀ g', g < g' → g' ≤ h.2.2.2.1 → ty_J x cl nL tys KT INV pgf mods news σ0 M0 g' (ty_hs h)) :
    ∀ (f : Nat) (s : ty_S), ty_chk KT fT pT cT kT lT nT aT mods PS SW news kp nL nc ns RC RS rT rF prog stops known cur f s = true → ty_J x cl nL tys KT INV pgf mods news σ0 M0 g s := by
  intro f
  induction f with
  | zero => intro s h; cases h
  | succ f ih =>
    intro s h
    unfold ty_chk at h
    split at h
    · rename_i ha
      obtain ⟨hd, h1, h2⟩ := List.any_eq_true.mp ha
      exact ty_hit_ok h2 (hk hd h1)
    split at h
    · rename_i ha
      obtain ⟨hd, h1, h2⟩ := List.any_eq_true.mp ha
      exact ty_stop_ok h2 (hsp hd h1)
    · split at h
      · rename_i hb
        cases cur with
        | none => cases hb
        | some hd => exact ty_back_ok (hc hd rfl).1 hb (hc hd rfl).2
      · split at h
        · rename_i q i len hq
          split at h
          · rename_i l hl
            have h3 := List.mem_of_find?_eq_some hq
            have h4 := List.find?_some hq
            simp only [beq_iff_eq] at h4
            have hdec := E.2.2.2.2.2.2.2.2.2.2.2.2.2.2.2.2.2.2.1 _ h3
            dsimp only at hdec
            rw [h4] at hdec
            exact ty_step_ok E hdec hl (fun t ht => ih t (List.all_eq_true.mp h t ht))
          · cases h
        · cases h
theorem ty_chk1_ok (E : ty_Env x cl cc nL tys Ts own KT INV pgf mods PS SW news kp σ0 M0 fT pT cT kT lT nT nc ns RC RS rT rF post prog) {stops : List ty_Sp} {known : List ty_Hd} {cur : Option ty_Hd} (hsp : ∀ h ∈ stops, ty_J x cl nL tys KT INV pgf mods news σ0 M0 g (ty_s0 h)) (hk : ∀ h ∈ known, ty_J x cl nL tys KT INV pgf mods news σ0 M0 g (ty_h0 h)) (hc : ∀ h, cur = some h → (∀ q ∈ h.2.1, q.1 = h.2.2.1 → q.2.1 = 0) ∧ ∀ g', g < g' → g' ≤ h.2.2.2.1 → ty_J x cl nL tys KT INV pgf mods news σ0 M0 g' (ty_hs h)) {f : Nat} {s : ty_S}
    (h : ty_chk1 KT fT pT cT kT lT nT aT mods PS SW news kp nL nc ns RC RS rT rF prog stops known cur f s = true) : ty_J x cl nL tys KT INV pgf mods news σ0 M0 g s := by
  unfold ty_chk1 at h
  split at h
  · rename_i q i len hq
    split at h
    · rename_i l hl
      have h3 := List.mem_of_find?_eq_some hq
      have h4 := List.find?_some hq
      simp only [beq_iff_eq] at h4
      have hdec := E.2.2.2.2.2.2.2.2.2.2.2.2.2.2.2.2.2.2.1 _ h3
      dsimp only at hdec
      rw [h4] at hdec
      exact ty_step_ok E hdec hl (fun t ht => ty_chk_ok E hsp hk hc f t (List.all_eq_true.mp h t ht))
    · cases h
  · cases h
/-- a head's locals: all plain, its counter an int -/
theorem ty_heads_ok (E : ty_Env x cl cc nL tys Ts own KT INV pgf mods PS SW news kp σ0 M0 fT pT cT kT lT nT nc ns RC RS rT rF post prog) {stops : List ty_Sp} (hsp : ∀ h ∈ stops, ∀ g : Int, ty_J x cl nL tys KT INV pgf mods news σ0 M0 g (ty_s0 h)) {f : Nat} : ∀ hs : List ty_Hd, ty_heads (fun known cur s => ty_chk1 KT fT pT cT kT lT nT aT mods PS SW news kp nL nc ns RC RS rT rF prog stops known cur f s) hs = true → ∀ h ∈ hs, ∀ g : Int, ty_J x cl nL tys KT INV pgf mods news σ0 M0 g (ty_h0 h) := by
  intro hs
  induction hs with
  | nil => intro _ h hh; cases hh
  | cons h r ih =>
    intro hc
    unfold ty_heads at hc
    simp only [Bool.and_eq_true] at hc
    obtain ⟨⟨⟨c1, c2⟩, c3⟩, c4⟩ := hc
    have ih := ih c1
    intro h' hh
    rcases List.mem_cons.mp hh with rfl | hh
    · split at c4
      · rename_i t ht
        have e0 : t.1 = 0 := by simpa using c4
        have c5 : ∀ q ∈ h'.2.1, ty_plain q.2 = true ∧ (q.1 = h'.2.2.1 → q.2.1 = 0) := fun q hq => by
          have := List.all_eq_true.mp c3 q hq
          simp only [Bool.and_eq_true, Bool.or_eq_true, bne_iff_ne, ne_eq, beq_iff_eq] at this
          exact ⟨this.1, fun e => this.2.resolve_left (fun n => n e)⟩
        have hp : ∀ q ∈ h'.2.1, q.1 = h'.2.2.1 → q.2.1 = 0 := fun q hq => (c5 q hq).2
        have key : ∀ (n : Nat) (g : Int), (h'.2.2.2.1 - g).toNat < n → ty_J x cl nL tys KT INV pgf mods news σ0 M0 g (ty_hs h') := by
          intro n
          induction n with
          | zero => intro g hg; omega
          | succ n ihn =>
            intro g hg
            exact ty_chk1_ok E (fun h1 hh1 => hsp h1 hh1 g) (fun h1 hh1 => ih h1 hh1 g) (fun hd e => by cases e; exact ⟨hp, fun g' h1 h2 => ihn g' (by omega)⟩) c2
        intro g σ M ls st hs hw hH hI hF hL hS
        obtain ⟨v, v1, v2⟩ := ty_get_ok hL ht
        obtain ⟨t0, t1, t2⟩ := t
        have e0 : t0 = 0 := e0
        subst e0
        obtain ⟨z, rfl, z1, z2⟩ := v2
        have hL' : ty_loc σ z.toInt (pgf σ M) ls h'.2.1 := fun q hq => by
          obtain ⟨w, w1, w2⟩ := hL q hq
          exact ⟨w, w1, ty_plain_ok (c5 q hq).1 w2⟩
        rw [ty_stk_n hS]
        exact key _ z.toInt (Nat.lt_succ_self _) σ M ls [] hs hw hH hI hF (ty_at_get v1 rfl hp hL') trivial
      · cases c4
    · exact ih h' hh
end HD
