/-! PURE, FLOATS: bounds of sums, products, quotients -/
/-- a sum is at most what the sum of bounds is at most -/
theorem fadd_le {x y : UInt32} {a b m : Nat} (hx : x.toNat ≤ a) (hy : y.toNat ≤ b) (ha : a < 2139095040) (hb : b < 2139095040) (h : FP.Core.unitsOf FP.Core.b32 a + FP.Core.unitsOf FP.Core.b32 b ≤ FP.Core.unitsOf FP.Core.b32 m) : (FP.fadd x y).toNat ≤ m := by
  obtain ⟨n, e, p1, p2, p3⟩ := fadd_res (x := x) (y := y) (by omega) (by omega)
  have h1 := FP.Core.mag_le (m := m) FP.Core.good_b32 (n := (FP.fadd x y).toNat) p1 (by decide) (e0 := FP.Core.b32.qmin) (Int.le_refl _) p2 (by
    rw [p3, Int.sub_self, Int.toNat_zero, Nat.pow_zero, Nat.mul_one, Nat.mul_one]
    have := u_le hx
    have := u_le hy
    omega)
  rwa [(f_pos p1).2] at h1
/-- a bound that small sums do not pass -/
theorem fadd_st {x y : UInt32} {b m : Nat} (hx : x.toNat ≤ m) (hy : y.toNat ≤ b) (hm : m + 1 < 2139095040) (hb : b < 2139095040) (h : 2 * FP.Core.unitsOf FP.Core.b32 b + FP.Core.unitsOf FP.Core.b32 m < FP.Core.unitsOf FP.Core.b32 (m + 1)) : (FP.fadd x y).toNat ≤ m := by
  obtain ⟨n, e, p1, p2, p3⟩ := fadd_res (x := x) (y := y) (by omega) (by omega)
  have hxm := u_le hx
  have hyb := u_le hy
  by_cases hc : FP.Core.inUnits n e FP.Core.b32.qmin ≤ FP.Core.unitsOf FP.Core.b32 m
  · have h1 := FP.Core.mag_le (m := m) FP.Core.good_b32 (n := (FP.fadd x y).toNat) p1 (by decide) (e0 := FP.Core.b32.qmin) (Int.le_refl _) p2 (by
      rw [Int.sub_self, Int.toNat_zero, Nat.pow_zero, Nat.mul_one, Nat.mul_one]
      exact hc)
    rwa [(f_pos p1).2] at h1
  · have h1 := FP.Core.mag_le (m := m + 1) FP.Core.good_b32 (n := (FP.fadd x y).toNat) p1 (by decide) (e0 := FP.Core.b32.qmin) (Int.le_refl _) p2 (by
      rw [p3, Int.sub_self, Int.toNat_zero, Nat.pow_zero, Nat.mul_one, Nat.mul_one]
      omega)
    rw [(f_pos p1).2] at h1
    by_cases h2 : (FP.fadd x y).toNat ≤ m
    · exact h2
    · have h3 : (FP.fadd x y).toNat = m + 1 := by omega
      obtain ⟨c, q, a1, a2, a3⟩ := f_data (x := FP.fadd x y) (by omega)
      have hmn : (UInt32.ofNat m).toNat = m := by
        rw [UInt32.toNat_ofNat']
        omega
      obtain ⟨c2, q2, b1, b2, b3⟩ := f_data (x := UInt32.ofNat m) (by omega)
      rw [hmn] at b3
      rw [h3] at a3
      rw [a1] at p1
      have h4 := FP.Core.roundRatio_nearest FP.Core.good_b32 (by decide) p1.symm b2.1 b2.2.1 (e0 := FP.Core.b32.qmin) (Int.le_refl _) p2
      unfold FP.Core.distance at h4
      have a4 : FP.Core.inUnits c q FP.Core.b32.qmin = FP.Core.unitsOf FP.Core.b32 (m + 1) := a3
      have b4 : FP.Core.inUnits c2 q2 FP.Core.b32.qmin = FP.Core.unitsOf FP.Core.b32 m := b3
      rw [a4, b4] at h4
      omega
theorem fmul_le {x y : UInt32} {a b m : Nat} (hx : x.toNat ≤ a) (hy : y.toNat ≤ b) (ha : a < 2139095040) (hb : b < 2139095040) (h : FP.Core.unitsOf FP.Core.b32 a * FP.Core.unitsOf FP.Core.b32 b ≤ FP.Core.unitsOf FP.Core.b32 m * 2 ^ 149) : (FP.fmul x y).toNat ≤ m := by
  obtain ⟨c, q, a1, a2, a3⟩ := f_data (x := x) (by omega)
  obtain ⟨d, r, b1, b2, b3⟩ := f_data (x := y) (by omega)
  obtain ⟨p1, p2, p3⟩ := FP.Core.product_units a2 b2
  have hd : FP.Core.val32 (FP.fmul x y) = FP.Core.roundRatio FP.Core.b32 false (c * d) 1 (q + r) := by
    rw [show FP.fmul x y = FP.Core.fmul x y from rfl, FP.Core.val32_fmul, a1, b1, p1]
    rfl
  have h1 := FP.Core.mag_le (m := m) FP.Core.good_b32 (n := (FP.fmul x y).toNat) hd (by decide) (e0 := 2 * FP.Core.b32.qmin) (by decide) p2 (by
    rw [p3, a3, b3, Nat.mul_one]
    refine Nat.le_trans (Nat.mul_le_mul (u_le hx) (u_le hy)) (Nat.le_trans h (Nat.le_of_eq ?_))
    congr 1)
  rwa [(f_pos hd).2] at h1
theorem fdiv_le {x y : UInt32} {m : Nat} (hx : x.toNat < 2139095040) (hy : y.toNat < 2139095040) (h0 : 0 < y.toNat) (h : FP.Core.unitsOf FP.Core.b32 x.toNat * 2 ^ 149 ≤ FP.Core.unitsOf FP.Core.b32 m * FP.Core.unitsOf FP.Core.b32 y.toNat) : (FP.fdiv x y).toNat ≤ m := by
  obtain ⟨c, q, a1, a2, a3⟩ := f_data (x := x) (by omega)
  obtain ⟨d, r, b1, b2, b3⟩ := f_data (x := y) (by omega)
  have hd0 : d ≠ 0 := by
    rintro rfl
    have h1 : FP.Core.zmag FP.Core.b32 (.fin false 0 r) = 0 := Nat.zero_mul _
    rw [h1] at b3
    have := FP.Core.unitsOf_eq_zero.mp b3.symm
    omega
  have hd : FP.Core.val32 (FP.fdiv x y) = FP.Core.roundRatio FP.Core.b32 false c d (q - r) := by
    rw [show FP.fdiv x y = FP.Core.fdiv x y from rfl, FP.Core.val32_fdiv, a1, b1]
    simp only [FP.Core.quotient, if_neg hd0]
    rfl
  have hx1 := a2.2.1
  have hy1 := b2.2.1
  have hq : FP.Core.b32.qmin = -149 := by decide
  have h1 := FP.Core.mag_le (m := m) FP.Core.good_b32 (n := (FP.fdiv x y).toNat) hd (by omega) (e0 := 2 * FP.Core.b32.qmin - r) (by omega) (by omega) (by
    have e1 : FP.Core.inUnits c (q - r) (2 * FP.Core.b32.qmin - r) = FP.Core.zmag FP.Core.b32 (.fin false c q) * 2 ^ 149 := by
      show c * _ = c * _ * _
      rw [Nat.mul_assoc, ← Nat.pow_add]; congr 2; omega
    have e2 : 2 ^ (FP.Core.b32.qmin - (2 * FP.Core.b32.qmin - r)).toNat * d = FP.Core.zmag FP.Core.b32 (.fin false d r) := by
      show _ = d * _
      rw [Nat.mul_comm]; congr 2; omega
    rw [e1, Nat.mul_assoc, e2, a3, b3]
    exact h)
  rwa [(f_pos hd).2] at h1
theorem i2f_res {a : Nat} (h : a < 2 ^ 31) : FP.Core.val32 (FP.i2f (nI a)) = FP.Core.roundRatio FP.Core.b32 false a 1 0 := by
  rw [show FP.i2f (nI a) = FP.Core.i2f (nI a) from rfl, FP.Core.val32_i2f, nI_toInt h]
  unfold FP.Core.ofInt
  rw [decide_eq_false (by omega), Int.natAbs_natCast]
  rfl
theorem i2f_le {a m : Nat} (h : a < 2 ^ 31) (hm : a * 2 ^ 149 ≤ FP.Core.unitsOf FP.Core.b32 m) : (FP.i2f (nI a)).toNat ≤ m := by
  have h1 := FP.Core.mag_le (m := m) FP.Core.good_b32 (n := (FP.i2f (nI a)).toNat) (i2f_res h) (by decide) (e0 := FP.Core.b32.qmin) (Int.le_refl _) (by decide) (by
    rw [Int.sub_self, Int.toNat_zero, Nat.pow_zero, Nat.mul_one, Nat.mul_one]
    exact hm)
  rwa [(f_pos (i2f_res h)).2] at h1
theorem i2f_ge {a m : Nat} (h : a < 2 ^ 31) (h0 : m ≤ 2139095040) (hm : FP.Core.unitsOf FP.Core.b32 m ≤ a * 2 ^ 149) : m ≤ (FP.i2f (nI a)).toNat := by
  have h1 := FP.Core.mag_ge (m := m) FP.Core.good_b32 (n := (FP.i2f (nI a)).toNat) (i2f_res h) (by decide) (e0 := FP.Core.b32.qmin) (Int.le_refl _) (by decide) h0 (by
    rw [Int.sub_self, Int.toNat_zero, Nat.pow_zero, Nat.mul_one, Nat.mul_one]
    exact hm)
  rwa [(f_pos (i2f_res h)).2] at h1
theorem u_one : FP.Core.unitsOf FP.Core.b32 1065353216 = 2 ^ 149 := by decide +kernel
/-- whole numbers divided: at most what the upper one is at most -/
theorem fdivI_le {a w m : Nat} (ha : a < 2 ^ 31) (hw : w < 2 ^ 31) (h0 : 0 < w) (hi : m < 2139095040) (hm : a * 2 ^ 149 ≤ FP.Core.unitsOf FP.Core.b32 m) : (FP.fdiv (FP.i2f (nI a)) (FP.i2f (nI w))).toNat ≤ m := by
  have h1 := i2f_le ha hm
  have h2 := i2f_ge (m := 1065353216) hw (by decide) (by rw [u_one]; exact Nat.le_mul_of_pos_left _ h0)
  have h3 := i2f_le (m := 1325400064) hw (Nat.le_trans (Nat.mul_le_mul_right _ (Nat.le_of_lt hw)) (by decide +kernel))
  refine fdiv_le (by omega) (by omega) (by omega) ?_
  exact Nat.mul_le_mul (u_le h1) (by rw [← u_one]; exact u_le h2)
/-- no NaN -/
theorem f_ok {x : UInt32} {m : Nat} (h : x.toNat ≤ m) (hm : m ≤ 2139095040) : x &&& 0x7fffffff ≤ 0x7f800000 := by
  rw [UInt32.le_iff_toNat_le, FP.Core.mask_toNat32]
  show _ ≤ 2139095040
  omega
theorem f_nn {x : UInt32} {m : Nat} (h : x.toNat ≤ m) (hm : m ≤ 2139095040) : FP.Core.val32 x ≠ .nan := by
  rw [FP.Core.ne_nan32]
  omega
