/-! PURE, FLOATS: differences and their bits -/
theorem fits_neg {d : Nat} {r : Int} (h : FP.Core.fits FP.Core.b32 (.fin false d r)) : FP.Core.fits FP.Core.b32 (.fin true d r) := h
theorem fsub_res {x y : UInt32} (hx : x.toNat < 2139095040) (hy : y.toNat < 2139095040) : ∃ (sg : Bool) (n : Nat) (e : Int), FP.Core.val32 (FP.fsub x y) = FP.Core.roundRatio FP.Core.b32 sg n 1 e ∧ FP.Core.b32.qmin ≤ e ∧ FP.Core.signed sg (FP.Core.inUnits n e FP.Core.b32.qmin) = (FP.Core.unitsOf FP.Core.b32 x.toNat : Int) - (FP.Core.unitsOf FP.Core.b32 y.toNat : Int) := by
  obtain ⟨c, q, a1, a2, a3⟩ := f_data hx
  obtain ⟨d, r, b1, b2, b3⟩ := f_data hy
  obtain ⟨sg, n, e, p1, p2, p3⟩ := FP.Core.sum_units a2 (fits_neg b2)
  refine ⟨sg, n, e, ?_, p2, ?_⟩
  · rw [show FP.fsub x y = FP.Core.fsub x y from rfl, FP.Core.val32_fsub, a1, b1]
    show FP.Core.round FP.Core.b32 (FP.Core.exactSum (.fin false c q) (.fin true d r)) = _
    rw [p1]
    rfl
  · rw [p3]
    have e1 : FP.Core.zval FP.Core.b32 (.fin false c q) = (FP.Core.unitsOf FP.Core.b32 x.toNat : Int) := by
      unfold FP.Core.zval
      rw [a3]; rfl
    have e2 : FP.Core.zval FP.Core.b32 (.fin true d r) = -(FP.Core.unitsOf FP.Core.b32 y.toNat : Int) := by
      unfold FP.Core.zval
      rw [show FP.Core.zmag FP.Core.b32 (.fin true d r) = FP.Core.zmag FP.Core.b32 (.fin false d r) from rfl, b3]; rfl
    rw [e1, e2]; omega
theorem f_sg {z : UInt32} {sg : Bool} {A B : Nat} {e : Int} (h : FP.Core.val32 z = FP.Core.roundRatio FP.Core.b32 sg A B e) : decide (2 ^ 31 ≤ z.toNat) = sg := by
  have hs := FP.Core.sgn_bits32 (a := z) (by rw [h]; exact FP.Core.roundRatio_ne_nan _ _ _ _ _)
  rw [h, FP.Core.sgn_roundRatio] at hs
  exact hs.symm
/-- not negative -/
theorem fsub_pos {x y : UInt32} (hx : x.toNat < 2139095040) (hy : y.toNat ≤ x.toNat) : (FP.fsub x y).toNat ≤ x.toNat := by
  by_cases e : y.toNat = x.toNat
  · have e2 : y = x := UInt32.toNat_inj.mp e
    obtain ⟨c, q, a1, -, -⟩ := f_data hx
    rw [e2, show FP.fsub x x = FP.Core.fsub x x from rfl, FP.Core.fsub_self a1]
    exact Nat.zero_le _
  · obtain ⟨sg, n, ee, p1, p2, p3⟩ := fsub_res hx (show y.toNat < 2139095040 by omega)
    have hlt : FP.Core.unitsOf FP.Core.b32 y.toNat < FP.Core.unitsOf FP.Core.b32 x.toNat := FP.Core.unitsOf_lt_iff.mpr (by omega)
    have hsg : sg = false := by
      cases sg with
      | false => rfl
      | true =>
        have p3 : -(FP.Core.inUnits n ee FP.Core.b32.qmin : Int) = _ := p3
        omega
    subst hsg
    have p3 : (FP.Core.inUnits n ee FP.Core.b32.qmin : Int) = _ := p3
    have h1 := FP.Core.mag_le (m := x.toNat) FP.Core.good_b32 (n := (FP.fsub x y).toNat) p1 (by decide) (e0 := FP.Core.b32.qmin) (Int.le_refl _) p2 (by
      rw [Int.sub_self, Int.toNat_zero, Nat.pow_zero, Nat.mul_one, Nat.mul_one]
      omega)
    rwa [(f_pos p1).2] at h1
/-- negative -/
theorem fsub_neg {x y : UInt32} (hy : y.toNat < 2139095040) (hx : x.toNat < y.toNat) : ∃ m, 1 ≤ m ∧ m ≤ y.toNat ∧ (FP.fsub x y).toNat = 2147483648 + m := by
  obtain ⟨sg, n, ee, p1, p2, p3⟩ := fsub_res (show x.toNat < 2139095040 by omega) hy
  have hlt : FP.Core.unitsOf FP.Core.b32 x.toNat < FP.Core.unitsOf FP.Core.b32 y.toNat := FP.Core.unitsOf_lt_iff.mpr hx
  have hsg : sg = true := by
    cases sg with
    | true => rfl
    | false =>
      have p3 : (FP.Core.inUnits n ee FP.Core.b32.qmin : Int) = _ := p3
      omega
  subst hsg
  have p3 : -(FP.Core.inUnits n ee FP.Core.b32.qmin : Int) = _ := p3
  have h1 := FP.Core.mag_le (m := y.toNat) FP.Core.good_b32 (n := (FP.fsub x y).toNat) p1 (by decide) (e0 := FP.Core.b32.qmin) (Int.le_refl _) p2 (by
    rw [Int.sub_self, Int.toNat_zero, Nat.pow_zero, Nat.mul_one, Nat.mul_one]
    omega)
  have h2 := FP.Core.mag_ge (m := 1) FP.Core.good_b32 (n := (FP.fsub x y).toNat) p1 (by decide) (e0 := FP.Core.b32.qmin) (Int.le_refl _) p2 (by decide) (by
    rw [Int.sub_self, Int.toNat_zero, Nat.pow_zero, Nat.mul_one, Nat.mul_one, u_def, if_pos (by decide)]
    omega)
  have h3 := of_decide_eq_true (f_sg p1)
  rw [FP.Core.mag_toNat32] at h1 h2
  have := (FP.fsub x y).toNat_lt
  exact ⟨(FP.fsub x y).toNat % 2 ^ 31, h2, h1, by omega⟩
theorem or_sign {m : Nat} (h : m < 2147483648) : (-2147483648 : Int32) ||| nI m = nI (2147483648 + m) := by
  refine Int32.toBitVec_inj.mp ?_
  refine BitVec.eq_of_toNat_eq ?_
  have e1 : ((-2147483648 : Int32) ||| nI m).toBitVec.toNat = (-2147483648 : Int32).toBitVec.toNat ||| (nI m).toBitVec.toNat := by
    rw [Int32.toBitVec_or, BitVec.toNat_or]
  rw [e1, pk_tn (by omega), pk_tn (by omega), show (-2147483648 : Int32).toBitVec.toNat = 2 ^ 31 * 1 by decide, ← Nat.two_pow_add_eq_or_of_lt h]
theorem C_bits_n {z : UInt32} {m : Nat} (h1 : 1 ≤ m) (h2 : m < 2139095040) (hz : z.toNat = 2147483648 + m) (M : Mm) : C_bitsOfFloat z M = some (nI z.toNat) := by
  have hw : (UInt32.ofNat m).toNat = m := by rw [UInt32.toNat_ofNat']; omega
  have hv : FP.Core.val32 z = FP.Core.negate (FP.Core.val32 (UInt32.ofNat m)) := by
    show FP.Core.decode FP.Core.b32 z.toNat = FP.Core.negate (FP.Core.decode FP.Core.b32 (UInt32.ofNat m).toNat)
    rw [hz, hw, Nat.add_comm]
    exact FP.Core.decode_half (f := FP.Core.b32) (n := m) (Nat.lt_of_lt_of_le (show m < 2147483648 by omega) (by decide))
  have hnn : FP.Core.val32 z ≠ .nan := by
    rw [FP.Core.ne_nan32, hz]
    omega
  have hcmp : ¬ 0 ≤ Op.cmpValue (FP.fcmp z FP.fconst0) .g := by
    have h := FP.Core.fcmp_key hnn (f_nn (x := FP.fconst0) (m := 0) (by rw [c0_n]; omega) (by decide))
    have kz : FP.Core.fkey z = -(m : Int) := by unfold FP.Core.fkey; rw [if_pos (by omega), hz]; omega
    have k0 : FP.Core.fkey FP.fconst0 = 0 := by decide
    rw [kz, k0, (FP.Core.compare_lt_iff _ _).mpr (by omega)] at h
    rw [show FP.fcmp z FP.fconst0 = FP.Core.fcmp z FP.fconst0 from rfl, h]
    decide
  have hs : (FP.fsub FP.fconst0 z).toNat = m := by
    obtain ⟨n, e, p1, p2, p3⟩ := fadd_res (x := FP.fconst0) (y := UInt32.ofNat m) (by rw [c0_n]; decide) (by omega)
    have ev : FP.Core.val32 (FP.fsub FP.fconst0 z) = FP.Core.roundRatio FP.Core.b32 false n 1 e := by
      rw [← p1, show FP.fsub FP.fconst0 z = FP.Core.fsub FP.fconst0 z from rfl, FP.Core.val32_fsub, hv, show FP.fadd FP.fconst0 (UInt32.ofNat m) = FP.Core.fadd FP.fconst0 (UInt32.ofNat m) from rfl, FP.Core.val32_fadd]
      obtain ⟨c, q, a1, -, -⟩ := f_data (x := UInt32.ofNat m) (by omega)
      rw [a1]
      rfl
    rw [c0_n, hw, FP.Core.unitsOf_zero, Nat.zero_add] at p3
    have l1 := FP.Core.mag_le (m := m) FP.Core.good_b32 (n := (FP.fsub FP.fconst0 z).toNat) ev (by decide) (e0 := FP.Core.b32.qmin) (Int.le_refl _) p2 (by
      rw [p3, Int.sub_self, Int.toNat_zero, Nat.pow_zero, Nat.mul_one, Nat.mul_one]
      exact Nat.le_refl _)
    have l2 := FP.Core.mag_ge (m := m) FP.Core.good_b32 (n := (FP.fsub FP.fconst0 z).toNat) ev (by decide) (e0 := FP.Core.b32.qmin) (Int.le_refl _) p2 (by rw [FP.Core.infBits_b32]; omega) (by
      rw [p3, Int.sub_self, Int.toNat_zero, Nat.pow_zero, Nat.mul_one, Nat.mul_one]
      exact Nat.le_refl _)
    rw [(f_pos ev).2] at l1 l2
    omega
  unfold C_bitsOfFloat
  rw [if_neg hcmp, grd_t (f_ok (m := 2139095040) (by omega) (Nat.le_refl _)), C_pos_m (by omega), bnd_s, hs, or_sign (by omega), hz]
/-- a difference's bits, in both -/
theorem sub_bits {x y : UInt32} (hx : x.toNat < 2139095040) (hy : y.toNat < 2139095040) (M M' : Mm) : (FP.fsub x y) &&& 0x7fffffff ≤ 0x7f800000 ∧ ∃ v, C_bitsOfFloat (FP.fsub x y) M = some v ∧ R_floatToIntBits_5c35a (FP.fsub x y) M' = some v := by
  by_cases h : y.toNat ≤ x.toNat
  · have h1 := fsub_pos hx h
    exact ⟨f_ok h1 (by omega), _, C_bits_m (by omega) M, R_bits_m (f_nn h1 (by omega)) M'⟩
  · obtain ⟨m, m1, m2, m3⟩ := fsub_neg (x := x) hy (by omega)
    have hn : FP.Core.val32 (FP.fsub x y) ≠ .nan := by
      rw [FP.Core.ne_nan32, m3]; omega
    refine ⟨?_, _, C_bits_n m1 (by omega) m3 M, R_bits_m hn M'⟩
    rw [UInt32.le_iff_toNat_le, FP.Core.mask_toNat32, m3]
    show _ ≤ 2139095040
    omega
