/-! PURE, FLOATS: bounds of what comes of floats that are not negative -/
theorem f_data {x : UInt32} (h : x.toNat < 2139095040) : ∃ (c : Nat) (q : Int), FP.Core.val32 x = .fin false c q ∧ FP.Core.fits FP.Core.b32 (.fin false c q) ∧ FP.Core.zmag FP.Core.b32 (.fin false c q) = FP.Core.unitsOf FP.Core.b32 x.toNat := by
  have hm : FP.Core.mag FP.Core.b32 x.toNat = x.toNat := by rw [FP.Core.mag_toNat32]; omega
  obtain ⟨s, c, q, h1, h2, h3⟩ := FP.Core.fin_of_mag FP.Core.good_b32 (n := x.toNat) (by rw [hm, FP.Core.infBits_b32]; exact h)
  have h1' : FP.Core.val32 x = .fin s c q := h1
  have hs := FP.Core.sgn_bits32 (a := x) (by rw [h1']; exact FP.Core.Datum.noConfusion)
  rw [h1'] at hs
  have hs2 : s = false := by
    have hs3 : s = decide (2 ^ 31 ≤ x.toNat) := hs
    rw [hs3]
    exact decide_eq_false (by omega)
  subst hs2
  rw [hm] at h3
  exact ⟨c, q, h1', h2, h3⟩
theorem f_pos {z : UInt32} {A B : Nat} {e : Int} (h : FP.Core.val32 z = FP.Core.roundRatio FP.Core.b32 false A B e) : z.toNat < 2 ^ 31 ∧ FP.Core.mag FP.Core.b32 z.toNat = z.toNat := by
  have hs := FP.Core.sgn_bits32 (a := z) (by rw [h]; exact FP.Core.roundRatio_ne_nan _ _ _ _ _)
  rw [h, FP.Core.sgn_roundRatio] at hs
  have h1 : z.toNat < 2 ^ 31 := by
    have := of_decide_eq_false hs.symm
    omega
  refine ⟨h1, ?_⟩
  rw [FP.Core.mag_toNat32]
  omega
theorem fadd_res {x y : UInt32} (hx : x.toNat < 2139095040) (hy : y.toNat < 2139095040) : ∃ (n : Nat) (e : Int), FP.Core.val32 (FP.fadd x y) = FP.Core.roundRatio FP.Core.b32 false n 1 e ∧ FP.Core.b32.qmin ≤ e ∧ FP.Core.inUnits n e FP.Core.b32.qmin = FP.Core.unitsOf FP.Core.b32 x.toNat + FP.Core.unitsOf FP.Core.b32 y.toNat := by
  obtain ⟨c, q, a1, a2, a3⟩ := f_data hx
  obtain ⟨d, r, b1, b2, b3⟩ := f_data hy
  obtain ⟨sg, n, e, p1, p2, p3⟩ := FP.Core.sum_units a2 b2
  have hz : FP.Core.zval FP.Core.b32 (.fin false c q) + FP.Core.zval FP.Core.b32 (.fin false d r) = ((FP.Core.unitsOf FP.Core.b32 x.toNat + FP.Core.unitsOf FP.Core.b32 y.toNat : Nat) : Int) := by
    unfold FP.Core.zval
    rw [a3, b3]
    show ((FP.Core.unitsOf FP.Core.b32 x.toNat : Nat) : Int) + ((FP.Core.unitsOf FP.Core.b32 y.toNat : Nat) : Int) = _
    omega
  rw [hz] at p3
  have hsg : sg = false := by
    have h1 : FP.Core.Datum.fin (FP.Core.sumSign false false (FP.Core.sumUnits false c q false d r (min q r))) (FP.Core.sumUnits false c q false d r (min q r)).natAbs (min q r) = .fin sg n e := p1
    injection h1 with h2 h3 h4
    rw [← h2]
    unfold FP.Core.sumSign
    split
    · rfl
    · refine decide_eq_false ?_
      unfold FP.Core.sumUnits FP.Core.signed
      simp only [Bool.false_eq_true, if_false]
      omega
  subst hsg
  refine ⟨n, e, ?_, p2, ?_⟩
  · rw [show FP.fadd x y = FP.Core.fadd x y from rfl, FP.Core.val32_fadd, a1, b1, p1]
    rfl
  · have h5 : ((FP.Core.inUnits n e FP.Core.b32.qmin : Nat) : Int) = _ := p3
    omega
theorem u_le {a b : Nat} (h : a ≤ b) : FP.Core.unitsOf FP.Core.b32 a ≤ FP.Core.unitsOf FP.Core.b32 b := FP.Core.unitsOf_le_iff.mpr h
