/-! tests of a range: hasSector, isInSector -/
theorem sp_il {ls : Array Slot} {j : Fin 4} {z : Int32} {st : List Value} (h : ls[(j : Nat)]? = some (.val (.int z))) : sp (.iload_n j) ls st = some (.int z :: st, 1) := by
  show (sp_ldi ls j st).map (·, 1) = _
  unfold sp_ldi
  rw [h]
  rfl
theorem bd_rng {l : Launch} {D : va_G} {tys : List (ClassId × FieldType)} {INV : ty_K → mh_M → Prop} {y : MethodName} {cc : ByteArray} {B : Int} {C : ty_C} (hC : C = ([ty_f], some pB, [], [], 0, 0, (2, 0, 0, B - 1))) (hB1 : 0 < B) (hB2 : B ≤ 127)
    (d0 : decode cc 0 = .ok (.iload_n 0, 1)) (d1 : decode cc 1 = .ok (.ifCond .lt 13, 3)) (d4 : decode cc 4 = .ok (.iload_n 0, 1)) (d5 : decode cc 5 = .ok (.bipush B, 2)) (d7 : decode cc 7 = .ok (.if_icmp .ge 7, 3)) (d10 : decode cc 10 = .ok (.iconst 1, 1)) (d11 : decode cc 11 = .ok (.goto 4, 3)) (d14 : decode cc 14 = .ok (.iconst 0, 1)) (d15 : decode cc 15 = .ok (.ireturn, 1)) :
    ty_Bd l D vwCl tys pKT INV INV pPG y cc 1 (some .boolean) 0 0 C := by
  subst hC
  intro x av M0 σ0 ls post hx hl hnm hR hD hav hH hI hls hp hr
  cases av with
  | nil => exact hav.elim
  | cons v vs =>
    obtain ⟨⟨z, rfl, z1, z2⟩, hav⟩ := hav
    cases vs with
    | cons w ws => exact hav.elim
    | nil =>
      have h0 : ls[((0 : Fin 4) : Nat)]? = some (.val (.int z)) := hls.2.2 (0, .int z) List.mem_cons_self
      have r1 : ∀ b : Int32, (b = 0 ∨ b = 1) → (b ≠ 0 → 0 ≤ z.toInt ∧ z.toInt ≤ B - 1) → post (some (.int b)) M0 := fun b hb hz => by
        refine hp (some (.int b)) M0 σ0 ty_F.rf hH hI ⟨_, rfl, b, rfl, ?_, ?_⟩ ⟨b, z, rfl, rfl, hz⟩
        · rcases hb with rfl | rfl <;> decide
        · rcases hb with rfl | rfl <;> decide
      have k0 : gG x vwCl 14 ls [] M0 0 0 := by
        refine gG_sp hx d14 (r := [.int (Int32.ofInt 0)]) rfl ?_
        exact hr 15 ls .ireturn (some (.int 0)) M0 0 0 d15 ⟨rfl, 0, rfl, by decide⟩ (r1 0 (Or.inl rfl) (fun q => absurd rfl q)) (Nat.le_refl _) (Nat.le_refl _)
      refine gG_sp hx d0 (sp_il h0) ?_
      refine gG_if hx (tgt := 14) d1 rfl (fun _ => k0) (fun c1 => ?_)
      refine gG_sp hx d4 (sp_il h0) ?_
      refine gG_sp hx d5 (r := [.int (Int8.ofInt B).toInt32, .int z]) rfl ?_
      refine gG_ic hx (tgt := 14) d7 rfl (fun _ => k0) (fun c2 => ?_)
      refine gG_sp hx d10 (r := [.int (Int32.ofInt 1)]) rfl ?_
      refine gG_goto hx (tgt := 15) d11 rfl ?_
      have c1 : ¬ z.toInt < 0 := c1
      have c2 : ¬ (Int8.ofInt B).toInt32.toInt ≤ z.toInt := c2
      rw [ty_cb (by omega) (by omega)] at c2
      exact hr 15 ls .ireturn (some (.int 1)) M0 0 0 d15 ⟨rfl, 1, rfl, by decide⟩ (r1 1 (Or.inr rfl) (fun _ => ⟨by omega, by omega⟩)) (Nat.le_refl _) (Nat.le_refl _)
def ct_X0_hasSector : ty_C := ([ty_f], some pB, [], [], 0, 0, (2, 0, 0, 63))
theorem mt_X0_hasSector {l : Launch} {D : va_G} {tys : List (ClassId × FieldType)} {INV : ty_K → mh_M → Prop} (_ : pG tys INV) : ty_Met l D vwCl tys pKT INV INV pPG yX0_hasSector cX0_hasSector 1 (some .boolean) 0 0 ct_X0_hasSector :=
  ty_of (by decide +kernel) (by decide +kernel) (by decide +kernel) (bd_rng (B := 64) rfl (by decide) (by decide) (by decide +kernel) (by decide +kernel) (by decide +kernel) (by decide +kernel) (by decide +kernel) (by decide +kernel) (by decide +kernel) (by decide +kernel) (by decide +kernel))
def ct_X4_isInSector : ty_C := ([ty_f], some pB, [], [], 0, 0, (2, 0, 0, 31))
theorem mt_X4_isInSector {l : Launch} {D : va_G} {tys : List (ClassId × FieldType)} {INV : ty_K → mh_M → Prop} (_ : pG tys INV) : ty_Met l D vwCl tys pKT INV INV pPG yX4_isInSector cX4_isInSector 1 (some .boolean) 0 0 ct_X4_isInSector :=
  ty_of (by decide +kernel) (by decide +kernel) (by decide +kernel) (bd_rng (B := 32) rfl (by decide) (by decide) (by decide +kernel) (by decide +kernel) (by decide +kernel) (by decide +kernel) (by decide +kernel) (by decide +kernel) (by decide +kernel) (by decide +kernel) (by decide +kernel))
