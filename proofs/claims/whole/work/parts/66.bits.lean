/-! PURE, FLOATS: the bits, found by halving and doubling -/
theorem u_def (m : Nat) : FP.Core.unitsOf FP.Core.b32 m = if m < 8388608 then m else (8388608 + m % 8388608) * 2 ^ (m / 8388608 - 1) := rfl
theorem u_dbl {n : Nat} (h : 8388608 ≤ n) : FP.Core.unitsOf FP.Core.b32 (n + 8388608) = 2 * FP.Core.unitsOf FP.Core.b32 n := by
  rw [u_def, u_def, if_neg (by omega), if_neg (by omega), show (n + 8388608) % 8388608 = n % 8388608 by omega, show (n + 8388608) / 8388608 - 1 = (n / 8388608 - 1) + 1 by omega, Nat.pow_succ, ← Nat.mul_assoc, Nat.mul_comm]
theorem u_dbs {n : Nat} (h : n < 8388608) : FP.Core.unitsOf FP.Core.b32 (2 * n) = 2 * FP.Core.unitsOf FP.Core.b32 n := by
  rw [u_def, u_def, if_pos h]
  by_cases h2 : 2 * n < 8388608
  · rw [if_pos h2]
  · rw [if_neg h2, show 2 * n / 8388608 - 1 = 0 by omega, Nat.pow_zero]
    omega
theorem u_pow {n : Nat} (h : 8388608 ≤ n) (k : Nat) : FP.Core.unitsOf FP.Core.b32 (n + 8388608 * k) = FP.Core.unitsOf FP.Core.b32 n * 2 ^ k := by
  induction k with
  | zero => rw [Nat.mul_zero, Nat.add_zero, Nat.pow_zero, Nat.mul_one]
  | succ k ih => rw [show n + 8388608 * (k + 1) = n + 8388608 * k + 8388608 by omega, u_dbl (by omega), ih, Nat.pow_succ, Nat.mul_comm 2, Nat.mul_assoc]
theorem fmul_ge {x y : UInt32} {m : Nat} (hx : x.toNat < 2139095040) (hy : y.toNat < 2139095040) (hm : m ≤ 2139095040) (h : FP.Core.unitsOf FP.Core.b32 m * 2 ^ 149 ≤ FP.Core.unitsOf FP.Core.b32 x.toNat * FP.Core.unitsOf FP.Core.b32 y.toNat) : m ≤ (FP.fmul x y).toNat := by
  obtain ⟨c, q, a1, a2, a3⟩ := f_data hx
  obtain ⟨d, r, b1, b2, b3⟩ := f_data hy
  obtain ⟨p1, p2, p3⟩ := FP.Core.product_units a2 b2
  have hd : FP.Core.val32 (FP.fmul x y) = FP.Core.roundRatio FP.Core.b32 false (c * d) 1 (q + r) := by
    rw [show FP.fmul x y = FP.Core.fmul x y from rfl, FP.Core.val32_fmul, a1, b1, p1]
    rfl
  have h1 := FP.Core.mag_ge (m := m) FP.Core.good_b32 (n := (FP.fmul x y).toNat) hd (by decide) (e0 := 2 * FP.Core.b32.qmin) (by decide) p2 hm (by
    rw [p3, a3, b3, Nat.mul_one]
    refine Nat.le_trans (Nat.le_of_eq ?_) h
    congr 1)
  rwa [(f_pos hd).2] at h1
theorem fmul_eq {x y : UInt32} {m : Nat} (hx : x.toNat < 2139095040) (hy : y.toNat < 2139095040) (hm : m ≤ 2139095040) (h : FP.Core.unitsOf FP.Core.b32 x.toNat * FP.Core.unitsOf FP.Core.b32 y.toNat = FP.Core.unitsOf FP.Core.b32 m * 2 ^ 149) : (FP.fmul x y).toNat = m := Nat.le_antisymm (fmul_le (Nat.le_refl _) (Nat.le_refl _) hx hy (Nat.le_of_eq h)) (fmul_ge hx hy hm (Nat.le_of_eq h.symm))
theorem fdiv_ge {x y : UInt32} {m : Nat} (hx : x.toNat < 2139095040) (hy : y.toNat < 2139095040) (h0 : 0 < y.toNat) (hm : m ≤ 2139095040) (h : FP.Core.unitsOf FP.Core.b32 m * FP.Core.unitsOf FP.Core.b32 y.toNat ≤ FP.Core.unitsOf FP.Core.b32 x.toNat * 2 ^ 149) : m ≤ (FP.fdiv x y).toNat := by
  obtain ⟨c, q, a1, a2, a3⟩ := f_data (x := x) (by omega)
  obtain ⟨d, r, b1, b2, b3⟩ := f_data (x := y) (by omega)
  have hd0 : d ≠ 0 := by
    rintro rfl
    have h1 : FP.Core.zmag FP.Core.b32 (.fin false 0 r) = 0 := Nat.zero_mul _
    rw [h1] at b3
    have := FP.Core.unitsOf_eq_zero.mp b3.symm
    omega
  have hd : FP.Core.val32 (FP.fdiv x y) = FP.Core.roundRatio FP.Core.b32 false c d (q - r) := by
    rw [show FP.fdiv x y = FP.Core.fdiv x y from rfl, FP.Core.val32_fdiv, a1, b1]
    simp only [FP.Core.quotient, if_neg hd0]
    rfl
  have hx1 := a2.2.1
  have hy1 := b2.2.1
  have hq : FP.Core.b32.qmin = -149 := by decide
  have h1 := FP.Core.mag_ge (m := m) FP.Core.good_b32 (n := (FP.fdiv x y).toNat) hd (by omega) (e0 := 2 * FP.Core.b32.qmin - r) (by omega) (by omega) hm (by
    have e1 : FP.Core.inUnits c (q - r) (2 * FP.Core.b32.qmin - r) = FP.Core.zmag FP.Core.b32 (.fin false c q) * 2 ^ 149 := by
      show c * _ = c * _ * _
      rw [Nat.mul_assoc, ← Nat.pow_add]; congr 2; omega
    have e2 : 2 ^ (FP.Core.b32.qmin - (2 * FP.Core.b32.qmin - r)).toNat * d = FP.Core.zmag FP.Core.b32 (.fin false d r) := by
      show _ = d * _
      rw [Nat.mul_comm]; congr 2; omega
    rw [e1, Nat.mul_assoc, e2, a3, b3]
    exact h)
  rwa [(f_pos hd).2] at h1
theorem fdiv_eq {x y : UInt32} {m : Nat} (hx : x.toNat < 2139095040) (hy : y.toNat < 2139095040) (h0 : 0 < y.toNat) (hm : m ≤ 2139095040) (h : FP.Core.unitsOf FP.Core.b32 x.toNat * 2 ^ 149 = FP.Core.unitsOf FP.Core.b32 m * FP.Core.unitsOf FP.Core.b32 y.toNat) : (FP.fdiv x y).toNat = m := Nat.le_antisymm (fdiv_le hx hy h0 (Nat.le_of_eq h)) (fdiv_ge hx hy h0 hm (Nat.le_of_eq h.symm))
theorem c2_n : FP.fconst2.toNat = 1073741824 := by decide
theorem c1_n : FP.fconst1.toNat = 1065353216 := by decide
theorem c0_n : FP.fconst0.toNat = 0 := by decide
theorem u_two : FP.Core.unitsOf FP.Core.b32 1073741824 = 2 ^ 150 := by decide +kernel
theorem u_23 : FP.Core.unitsOf FP.Core.b32 1258291200 = 2 ^ 172 := by decide +kernel
theorem half_f {z : UInt32} (h1 : 16777216 ≤ z.toNat) (h2 : z.toNat < 2139095040) : (FP.fdiv z FP.fconst2).toNat = z.toNat - 8388608 := by
  refine fdiv_eq h2 (by rw [c2_n]; decide) (by rw [c2_n]; decide) (by omega) ?_
  rw [c2_n, u_two]
  have := u_dbl (n := z.toNat - 8388608) (by omega)
  rw [show z.toNat - 8388608 + 8388608 = z.toNat by omega] at this
  rw [this, Nat.mul_comm 2, Nat.mul_assoc]
def dN (m : Nat) : Nat → Nat
  | 0 => m
  | i + 1 => if dN m i < 8388608 then 2 * dN m i else dN m i + 8388608
theorem dN_s (m i : Nat) : dN m (i + 1) = if dN m i < 8388608 then 2 * dN m i else dN m i + 8388608 := rfl
theorem dN_u (m i : Nat) : FP.Core.unitsOf FP.Core.b32 (dN m i) = FP.Core.unitsOf FP.Core.b32 m * 2 ^ i := by
  induction i with
  | zero => rw [Nat.pow_zero, Nat.mul_one]; rfl
  | succ i ih =>
    rw [dN_s, Nat.pow_succ, ← Nat.mul_assoc, ← ih]
    split
    · rw [u_dbs (by assumption), Nat.mul_comm]
    · rw [u_dbl (by omega), Nat.mul_comm]
theorem dN_n {m : Nat} (h : 8388608 ≤ m) (i : Nat) : dN m i = m + 8388608 * i := by
  induction i with
  | zero => rfl
  | succ i ih => rw [dN_s, ih, if_neg (by omega)]; omega
theorem dbl_f {z : UInt32} (h : z.toNat < 2130706432) : (FP.fmul z FP.fconst2).toNat = if z.toNat < 8388608 then 2 * z.toNat else z.toNat + 8388608 := by
  refine fmul_eq (by omega) (by rw [c2_n]; decide) (by split <;> omega) ?_
  rw [c2_n, u_two]
  split
  · rw [u_dbs (by assumption), Nat.mul_comm 2, Nat.mul_assoc]
  · rw [u_dbl (by omega), Nat.mul_comm 2, Nat.mul_assoc]
theorem one32_e : FP.Core.one32 = 2 ^ 149 := by decide +kernel
/-- what is cut from a float that is not negative, in units -/
theorem f2i_n {z : UInt32} {k : Nat} (h : z.toNat < 2139095040) (hk : FP.Core.unitsOf FP.Core.b32 z.toNat / 2 ^ 149 = k) (hk2 : k < 2 ^ 31) : FP.f2i z = nI k := by
  have hn := f_nn (x := z) (m := 2139095040) (by omega) (Nat.le_refl _)
  have h1 := FP.Core.f2i_val hn
  have hs := FP.Core.sgn_bits32 hn
  rw [hs, FP.Core.zmag_bits32 hn, Nat.mod_eq_of_lt (by omega), one32_e, hk, decide_eq_false (by omega)] at h1
  refine Int32.toInt_inj.mp ?_
  rw [show FP.f2i z = FP.Core.f2i z from rfl, h1, nI_toInt hk2]
  unfold FP.Core.signed
  simp only [Bool.false_eq_true, if_false]
  omega
theorem toInt32_n (x : UInt32) : x.toInt32 = nI x.toNat := by
  refine Int32.toBitVec_inj.mp ?_
  show x.toBitVec = BitVec.ofNat 32 x.toBitVec.toNat
  rw [BitVec.ofNat_toNat, BitVec.setWidth_eq]
theorem scale_f {z : UInt32} (h1 : 8388608 ≤ z.toNat) (h2 : z.toNat < 1946157056) : (FP.fmul z 1258291200).toNat = z.toNat + 192937984 := by
  have e : (1258291200 : UInt32).toNat = 1258291200 := by decide
  refine fmul_eq (by omega) (by rw [e]; decide) (by omega) ?_
  rw [e, u_23, show z.toNat + 192937984 = z.toNat + 8388608 * 23 by omega, u_pow h1, Nat.mul_assoc]
theorem bits_end {u : UInt32} {e : Nat} (h1 : 1065353216 ≤ u.toNat) (h2 : u.toNat < 1073741824) (he : 1 ≤ e) (he2 : e ≤ 254) : grd ((FP.fmul u (1258291200 : UInt32)) &&& 0x7fffffff ≤ 0x7f800000) (lett (FP.f2i (FP.fmul u (1258291200 : UInt32))) fun v6 => if 0 ≤ (Op.cmpValue (FP.fcmp u FP.fconst1) .g) then (some (((nI e <<< ((23 : Int32) &&& 31)) + v6) - (8388608 : Int32))) else (some v6)) = some (nI (e * 8388608 + (u.toNat - 1065353216))) := by
  have hs := scale_f (z := u) (by omega) (by omega)
  rw [grd_t (f_ok (m := 2139095040) (by omega) (Nat.le_refl _)), lett_e, if_pos ((fc_ge (by omega) (by rw [c1_n]; decide) _).mpr (by rw [c1_n]; omega))]
  have hd : FP.f2i (FP.fmul u 1258291200) = nI (8388608 + (u.toNat - 1065353216)) := by
    refine f2i_n (by omega) ?_ (by omega)
    rw [hs, u_def, if_neg (by omega), show (u.toNat + 192937984) / 8388608 - 1 = 149 by omega, Nat.mul_div_cancel _ (Nat.two_pow_pos 149)]
    omega
  rw [hd, pk_shlN (n := e) ((23 : Int32) &&& 31) 23 (by decide) (by omega), nI_add, show (8388608 : Int32) = nI 8388608 from rfl, pk_sub (by omega)]
  refine congrArg (fun k => some (nI k)) ?_
  omega
theorem C_pos_m {x : UInt32} (hx : x.toNat < 2139095040) (M : Mm) : C_bitsOfPositive x M = some (nI x.toNat) := by
  unfold C_bitsOfPositive
  by_cases h0 : x.toNat = 0
  · rcases fc_v (x := x) (y := FP.fconst0) (by omega) (by rw [c0_n]; omega) .l with ⟨a, -⟩ | ⟨-, a⟩ | ⟨a, -⟩
    · rw [c0_n] at a; omega
    · rw [if_pos a, h0]; rfl
    · rw [c0_n] at a; omega
  · have hne : ¬ (Op.cmpValue (FP.fcmp x FP.fconst0) .l) = 0 := by
      rcases fc_v (x := x) (y := FP.fconst0) (by omega) (by rw [c0_n]; omega) .l with ⟨a, -⟩ | ⟨a, -⟩ | ⟨-, a⟩
      · rw [c0_n] at a; omega
      · rw [c0_n] at a; omega
      · rw [a]; decide
    rw [if_neg hne, lett_e, lett_e]
    have ofn : ∀ a, a < 4294967296 → (UInt32.ofNat a).toNat = a := fun a ha => by rw [UInt32.toNat_ofNat']; omega
    by_cases hA : 1065353216 ≤ x.toNat
    · have hk : ∃ k, k = x.toNat / 8388608 - 127 := ⟨_, rfl⟩
      obtain ⟨k, hk⟩ := hk
      have e0 : (x, (127 : Int32)) = (UInt32.ofNat (x.toNat - 8388608 * 0), nI (127 + 0)) := by
        rw [Nat.mul_zero, Nat.sub_zero, UInt32.ofNat_toNat]; rfl
      rw [e0]
      refine loopR_seq (fun i => (UInt32.ofNat (x.toNat - 8388608 * i), nI (127 + i))) k (fun i hi rec => ?_) (fun rec => ?_) 1000000 (by omega)
      · dsimp only
        have hz := ofn (x.toNat - 8388608 * i) (by omega)
        rw [lett_e, if_neg (fun h => absurd ((fc_lt (by omega) (by rw [c2_n]; decide) _).mp h) (by rw [c2_n]; omega)), if_neg (show ¬ (254 : Int32) ≤ nI (127 + i) from nI_ge (b := 254) (by omega) (by decide))]
        have hh := half_f (z := UInt32.ofNat (x.toNat - 8388608 * i)) (by omega) (by omega)
        rw [grd_t (f_ok (m := 2139095040) (by omega) (Nat.le_refl _)), lett_e, lett_e, nA_1]
        have : FP.fdiv (UInt32.ofNat (x.toNat - 8388608 * i)) FP.fconst2 = UInt32.ofNat (x.toNat - 8388608 * (i + 1)) := UInt32.toNat_inj.mp (by rw [hh, hz, ofn _ (by omega)]; omega)
        rw [this]
        rfl
      · dsimp only
        have hz := ofn (x.toNat - 8388608 * k) (by omega)
        rw [lett_e, if_pos ((fc_lt (by omega) (by rw [c2_n]; decide) _).mpr (by rw [c2_n]; omega)), lett_e]
        refine loopR_seq (fun _ => (UInt32.ofNat (x.toNat - 8388608 * k), nI (127 + k))) 0 (fun i hi rec => by omega) (fun rec => ?_) 1000000 (by decide)
        dsimp only
        rw [if_pos ((fc_ge (by omega) (by rw [c1_n]; decide) _).mpr (by rw [c1_n]; omega)), bits_end (by omega) (by omega) (by omega) (by omega)]
        refine congrArg (fun k => some (nI k)) ?_
        omega
    · refine loopR_seq (fun _ => (x, (127 : Int32))) 0 (fun i hi rec => by omega) (fun rec => ?_) 1000000 (by decide)
      dsimp only
      rw [lett_e, if_pos ((fc_lt (by omega) (by rw [c2_n]; decide) _).mpr (by rw [c2_n]; omega)), lett_e]
      have hum : ∀ i, i ≤ 126 → x.toNat < 8388608 → dN x.toNat i < 1065353216 := fun i hi hs => by
        refine (FP.Core.unitsOf_lt_iff (f := FP.Core.b32)).mp ?_
        rw [dN_u, u_one, u_def, if_pos hs]
        have h2 : 2 ^ i ≤ 2 ^ 126 := Nat.pow_le_pow_right (by decide) hi
        exact Nat.lt_of_le_of_lt (Nat.mul_le_mul_left _ h2) (Nat.lt_of_lt_of_le (Nat.mul_lt_mul_of_pos_right hs (Nat.two_pow_pos 126)) (by decide))
      have hk : ∃ k, k = (if x.toNat < 8388608 then 126 else 127 - x.toNat / 8388608) := ⟨_, rfl⟩
      obtain ⟨k, hk⟩ := hk
      have hlt : ∀ i, i < k → dN x.toNat i < 1065353216 := fun i hi => by
        by_cases hs : x.toNat < 8388608
        · rw [if_pos hs] at hk; exact hum i (by omega) hs
        · rw [if_neg hs] at hk; rw [dN_n (by omega)]; omega
      have hk126 : k ≤ 126 := by rw [hk]; split <;> omega
      have hek : ∀ i, i < k → ¬ (127 - i ≤ 1) := fun i hi => by omega
      have hend : dN x.toNat k < 1073741824 := by
        by_cases hs : x.toNat < 8388608
        · rw [if_pos hs] at hk; have := hum k (by omega) hs; omega
        · rw [if_neg hs] at hk; rw [dN_n (by omega)]; omega
      have e0 : (x, (127 : Int32)) = (UInt32.ofNat (dN x.toNat 0), nI (127 - 0)) := by
        rw [show dN x.toNat 0 = x.toNat from rfl, UInt32.ofNat_toNat]; rfl
      rw [e0]
      refine loopR_seq (fun i => (UInt32.ofNat (dN x.toNat i), nI (127 - i))) k (fun i hi rec => ?_) (fun rec => ?_) 1000000 (by omega)
      · dsimp only
        have h1 := hlt i hi
        have hz := ofn (dN x.toNat i) (by omega)
        rw [if_neg (fun h => absurd ((fc_ge (by omega) (by rw [c1_n]; decide) _).mp h) (by rw [c1_n]; omega)), if_neg (show ¬ nI (127 - i) ≤ 1 from nI_ge (a := 1) (by omega) (by omega))]
        have hh := dbl_f (z := UInt32.ofNat (dN x.toNat i)) (by omega)
        rw [hz, ← dN_s] at hh
        have hb : dN x.toNat (i + 1) < 2139095040 := by rw [dN_s]; split <;> omega
        rw [grd_t (f_ok (m := 2139095040) (by omega) (Nat.le_refl _)), lett_e, lett_e]
        have e1 : FP.fmul (UInt32.ofNat (dN x.toNat i)) FP.fconst2 = UInt32.ofNat (dN x.toNat (i + 1)) := UInt32.toNat_inj.mp (by rw [hh, ofn _ (by omega)])
        rw [e1, sb_m1 (by omega), show 127 - i - 1 = 127 - (i + 1) by omega]
      · dsimp only
        have hz := ofn (dN x.toNat k) (by omega)
        by_cases hs : x.toNat < 8388608
        · have hk' := hk
          rw [if_pos hs] at hk'
          have h1 := hum k (by omega) hs
          have hge : 8388608 ≤ dN x.toNat k := by
            refine (FP.Core.unitsOf_le_iff (f := FP.Core.b32)).mp ?_
            rw [dN_u, u_def, if_neg (by decide), u_def, if_pos hs, hk']
            exact Nat.le_trans (by decide) (Nat.mul_le_mul_right (2 ^ 126) (show 1 ≤ x.toNat by omega))
          have hsc := scale_f (z := UInt32.ofNat (dN x.toNat k)) (by omega) (by omega)
          rw [if_neg (fun h => absurd ((fc_ge (by omega) (by rw [c1_n]; decide) _).mp h) (by rw [c1_n]; omega)), if_pos (show nI (127 - k) ≤ 1 by rw [hk']; decide), grd_t (f_ok (m := 2139095040) (by omega) (Nat.le_refl _)), lett_e, if_neg (fun h => absurd ((fc_ge (by omega) (by rw [c1_n]; decide) _).mp h) (by rw [c1_n]; omega))]
          refine congrArg some (f2i_n (by omega) ?_ (by omega))
          rw [hsc, hz, show dN x.toNat k + 192937984 = dN x.toNat k + 8388608 * 23 by omega, u_pow hge, dN_u, hk', u_def, if_pos hs, Nat.mul_assoc, ← Nat.pow_add, Nat.mul_div_cancel _ (Nat.two_pow_pos _)]
        · have hk' := hk
          rw [if_neg hs] at hk'
          have hdn := dN_n (m := x.toNat) (by omega) k
          rw [if_pos ((fc_ge (by omega) (by rw [c1_n]; decide) _).mpr (by rw [c1_n]; omega)), bits_end (by omega) (by omega) (by omega) (by omega)]
          refine congrArg (fun k => some (nI k)) ?_
          omega
/-- not negative -/
theorem C_bits_m {x : UInt32} (hx : x.toNat < 2139095040) (M : Mm) : C_bitsOfFloat x M = some (nI x.toNat) := by
  unfold C_bitsOfFloat
  rw [if_pos ((fc_ge (by omega) (by rw [c0_n]; omega) _).mpr (by rw [c0_n]; omega)), C_pos_m hx, bnd_s]
theorem R_bits_m {x : UInt32} (hx : FP.Core.val32 x ≠ .nan) (M : Mm) : R_floatToIntBits_5c35a x M = some (nI x.toNat) := by
  unfold R_floatToIntBits_5c35a R_isNaN_12338
  rw [show FP.fcmp x x = FP.Core.fcmp x x from rfl, FP.Core.fcmp_self hx, if_pos (by decide), bnd_s, if_pos rfl, toInt32_n]
