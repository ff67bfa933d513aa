/-! PURE, DOUBLES: the bits of a mean -/
theorem d_data {x : UInt64} (h : x.toNat < 9218868437227405312) : ∃ (c : Nat) (q : Int), FP.Core.val64 x = .fin false c q ∧ FP.Core.fits FP.Core.b64 (.fin false c q) ∧ FP.Core.zmag FP.Core.b64 (.fin false c q) = FP.Core.unitsOf FP.Core.b64 x.toNat := by
  have hm : FP.Core.mag FP.Core.b64 x.toNat = x.toNat := by rw [FP.Core.mag_toNat64]; omega
  obtain ⟨s, c, q, h1, h2, h3⟩ := FP.Core.fin_of_mag FP.Core.good_b64 (n := x.toNat) (by rw [hm, FP.Core.infBits_b64]; exact h)
  have h1' : FP.Core.val64 x = .fin s c q := h1
  have hs := FP.Core.sgn_bits (a := x) (by rw [h1']; exact FP.Core.Datum.noConfusion)
  rw [h1'] at hs
  have hs2 : s = false := by
    have hs3 : s = decide (2 ^ 63 ≤ x.toNat) := hs
    rw [hs3]
    exact decide_eq_false (by omega)
  subst hs2
  rw [hm] at h3
  exact ⟨c, q, h1', h2, h3⟩
theorem d_pos {z : UInt64} {A B : Nat} {e : Int} (h : FP.Core.val64 z = FP.Core.roundRatio FP.Core.b64 false A B e) : z.toNat < 2 ^ 63 ∧ FP.Core.mag FP.Core.b64 z.toNat = z.toNat := by
  have hs := FP.Core.sgn_bits (a := z) (by rw [h]; exact FP.Core.roundRatio_ne_nan _ _ _ _ _)
  rw [h, FP.Core.sgn_roundRatio] at hs
  have h1 : z.toNat < 2 ^ 63 := by
    have := of_decide_eq_false hs.symm
    omega
  refine ⟨h1, ?_⟩
  rw [FP.Core.mag_toNat64]
  omega
theorem qmin64 : FP.Core.b64.qmin = -1074 := by decide
theorem pow64 : 2 ^ (1074 : Nat) = FP.Core.one64 := rfl
theorem dmul_eq {x y : UInt64} {m : Nat} (hx : x.toNat < 9218868437227405312) (hy : y.toNat < 9218868437227405312) (hm : m ≤ 9218868437227405312) (h : FP.Core.unitsOf FP.Core.b64 x.toNat * FP.Core.unitsOf FP.Core.b64 y.toNat = FP.Core.unitsOf FP.Core.b64 m * FP.Core.one64) : (FP.dmul x y).toNat = m := by
  obtain ⟨c, q, a1, a2, a3⟩ := d_data hx
  obtain ⟨d, r, b1, b2, b3⟩ := d_data hy
  obtain ⟨p1, p2, p3⟩ := FP.Core.product_units a2 b2
  have hd : FP.Core.val64 (FP.dmul x y) = FP.Core.roundRatio FP.Core.b64 false (c * d) 1 (q + r) := by
    rw [show FP.dmul x y = FP.Core.dmul x y from rfl, FP.Core.val64_dmul, a1, b1, p1]
    rfl
  have e : FP.Core.inUnits (c * d) (q + r) (2 * FP.Core.b64.qmin) = FP.Core.unitsOf FP.Core.b64 m * 2 ^ (FP.Core.b64.qmin - 2 * FP.Core.b64.qmin).toNat * 1 := by
    rw [p3, a3, b3, h, Nat.mul_one, show (FP.Core.b64.qmin - 2 * FP.Core.b64.qmin).toNat = 1074 by rw [qmin64]; decide, pow64]
  have h1 := FP.Core.mag_le (m := m) FP.Core.good_b64 (n := (FP.dmul x y).toNat) hd (by decide) (e0 := 2 * FP.Core.b64.qmin) (by rw [qmin64]; omega) p2 (Nat.le_of_eq e)
  have h2 := FP.Core.mag_ge (m := m) FP.Core.good_b64 (n := (FP.dmul x y).toNat) hd (by decide) (e0 := 2 * FP.Core.b64.qmin) (by rw [qmin64]; omega) p2 (by rw [FP.Core.infBits_b64]; exact hm) (Nat.le_of_eq e.symm)
  rw [(d_pos hd).2] at h1 h2
  omega
theorem ddiv_res {x y : UInt64} (hx : x.toNat < 9218868437227405312) (hy : y.toNat < 9218868437227405312) (h0 : 0 < y.toNat) : ∃ (c d : Nat) (e e0 : Int), FP.Core.val64 (FP.ddiv x y) = FP.Core.roundRatio FP.Core.b64 false c d e ∧ 0 < d ∧ e0 ≤ FP.Core.b64.qmin ∧ e0 ≤ e ∧ FP.Core.inUnits c e e0 = FP.Core.unitsOf FP.Core.b64 x.toNat * FP.Core.one64 ∧ ∀ m, FP.Core.unitsOf FP.Core.b64 m * 2 ^ (FP.Core.b64.qmin - e0).toNat * d = FP.Core.unitsOf FP.Core.b64 m * FP.Core.unitsOf FP.Core.b64 y.toNat := by
  obtain ⟨c, q, a1, a2, a3⟩ := d_data hx
  obtain ⟨d, r, b1, b2, b3⟩ := d_data hy
  have hd0 : d ≠ 0 := by
    rintro rfl
    have h1 : FP.Core.zmag FP.Core.b64 (.fin false 0 r) = 0 := Nat.zero_mul _
    rw [h1] at b3
    have := FP.Core.unitsOf_eq_zero.mp b3.symm
    omega
  have hx1 := a2.2.1
  have hy1 := b2.2.1
  have hq := qmin64
  refine ⟨c, d, q - r, 2 * FP.Core.b64.qmin - r, ?_, by omega, by omega, by omega, ?_, fun m => ?_⟩
  · rw [show FP.ddiv x y = FP.Core.ddiv x y from rfl, FP.Core.val64_ddiv, a1, b1]
    simp only [FP.Core.quotient, if_neg hd0]
    rfl
  · rw [← a3, ← pow64]
    show c * _ = c * _ * _
    rw [Nat.mul_assoc, ← Nat.pow_add]; congr 2; omega
  · rw [← b3, Nat.mul_assoc]
    congr 1
    show _ = d * _
    rw [Nat.mul_comm]; congr 2; omega
theorem ddiv_ge {x y : UInt64} {m : Nat} (hx : x.toNat < 9218868437227405312) (hy : y.toNat < 9218868437227405312) (h0 : 0 < y.toNat) (hm : m ≤ 9218868437227405312) (h : FP.Core.unitsOf FP.Core.b64 m * FP.Core.unitsOf FP.Core.b64 y.toNat ≤ FP.Core.unitsOf FP.Core.b64 x.toNat * FP.Core.one64) : m ≤ (FP.ddiv x y).toNat := by
  obtain ⟨c, d, e, e0, p1, p2, p3, p4, p5, p6⟩ := ddiv_res hx hy h0
  have h2 := FP.Core.mag_ge (m := m) FP.Core.good_b64 (n := (FP.ddiv x y).toNat) p1 p2 p3 p4 (by rw [FP.Core.infBits_b64]; exact hm) (by rw [p6, p5]; exact h)
  rwa [(d_pos p1).2] at h2
theorem ddiv_le {x y : UInt64} {m : Nat} (hx : x.toNat < 9218868437227405312) (hy : y.toNat < 9218868437227405312) (h0 : 0 < y.toNat) (h : FP.Core.unitsOf FP.Core.b64 x.toNat * FP.Core.one64 ≤ FP.Core.unitsOf FP.Core.b64 m * FP.Core.unitsOf FP.Core.b64 y.toNat) : (FP.ddiv x y).toNat ≤ m := by
  obtain ⟨c, d, e, e0, p1, p2, p3, p4, p5, p6⟩ := ddiv_res hx hy h0
  have h2 := FP.Core.mag_le (m := m) FP.Core.good_b64 (n := (FP.ddiv x y).toNat) p1 p2 p3 p4 (by rw [p6, p5]; exact h)
  rwa [(d_pos p1).2] at h2
theorem v_def (m : Nat) : FP.Core.unitsOf FP.Core.b64 m = if m < 4503599627370496 then m else (4503599627370496 + m % 4503599627370496) * 2 ^ (m / 4503599627370496 - 1) := rfl
theorem v_dbl {n : Nat} (h : 4503599627370496 ≤ n) : FP.Core.unitsOf FP.Core.b64 (n + 4503599627370496) = 2 * FP.Core.unitsOf FP.Core.b64 n := by
  rw [v_def, v_def, if_neg (by omega), if_neg (by omega), show (n + 4503599627370496) % 4503599627370496 = n % 4503599627370496 by omega, show (n + 4503599627370496) / 4503599627370496 - 1 = (n / 4503599627370496 - 1) + 1 by omega, Nat.pow_succ, ← Nat.mul_assoc, Nat.mul_comm]
theorem v_pow {n : Nat} (h : 4503599627370496 ≤ n) (k : Nat) : FP.Core.unitsOf FP.Core.b64 (n + 4503599627370496 * k) = FP.Core.unitsOf FP.Core.b64 n * 2 ^ k := by
  induction k with
  | zero => rw [Nat.mul_zero, Nat.add_zero, Nat.pow_zero, Nat.mul_one]
  | succ k ih => rw [show n + 4503599627370496 * (k + 1) = n + 4503599627370496 * k + 4503599627370496 by omega, v_dbl (by omega), ih, Nat.pow_succ, Nat.mul_comm 2, Nat.mul_assoc]
theorem v_one : FP.Core.unitsOf FP.Core.b64 4607182418800017408 = FP.Core.one64 := by decide +kernel
theorem v_two : FP.Core.unitsOf FP.Core.b64 4611686018427387904 = 2 * FP.Core.one64 := by decide +kernel
theorem v_31 : FP.Core.unitsOf FP.Core.b64 4746794007248502784 = 2147483648 * FP.Core.one64 := by decide +kernel
theorem v_52 : FP.Core.unitsOf FP.Core.b64 4841369599423283200 = 2 ^ 52 * FP.Core.one64 := by decide +kernel
theorem i2d_n {a : Nat} (h : 1 ≤ a) (h2 : a < 2147483648) : FP.Core.unitsOf FP.Core.b64 (FP.i2d (nI a)).toNat = a * FP.Core.one64 ∧ (FP.i2d (nI a)).toNat < 4746794007248502784 := by
  have hd := FP.Core.i2d_int (nI a)
  have hz := FP.Core.DInt_zval hd
  have hn := FP.Core.DInt_ne_nan hd
  rw [nI_toInt (by omega)] at hz
  have hs := FP.Core.sgn_bits hn
  have hm := FP.Core.zmag_bits hn
  have hpos := FP.Core.one64_pos
  have hcast : ((a : Int) * (FP.Core.one64 : Int)) = ((a * FP.Core.one64 : Nat) : Int) := by rw [Int.natCast_mul]
  rw [hcast] at hz
  have hap : 0 < a * FP.Core.one64 := Nat.mul_pos (by omega) hpos
  have hsf : FP.Core.sgn (FP.Core.val64 (FP.Core.i2d (nI a))) = false := by
    cases hc : FP.Core.sgn (FP.Core.val64 (FP.Core.i2d (nI a))) with
    | false => rfl
    | true =>
      unfold FP.Core.zval at hz
      rw [hc] at hz
      have hz : -(FP.Core.zmag FP.Core.b64 (FP.Core.val64 (FP.Core.i2d (nI a))) : Int) = _ := hz
      omega
  rw [hsf] at hs
  have hlt := of_decide_eq_false hs.symm
  unfold FP.Core.zval at hz
  rw [hsf] at hz
  have hz : (FP.Core.zmag FP.Core.b64 (FP.Core.val64 (FP.Core.i2d (nI a))) : Int) = _ := hz
  have hu : FP.Core.unitsOf FP.Core.b64 (FP.i2d (nI a)).toNat = a * FP.Core.one64 := by
    rw [hm, Nat.mod_eq_of_lt (by omega)] at hz
    exact Int.ofNat.inj hz
  refine ⟨hu, (FP.Core.unitsOf_lt_iff (f := FP.Core.b64)).mp ?_⟩
  rw [hu, v_31]
  exact Nat.mul_lt_mul_of_pos_right h2 hpos
theorem dc_v {x y : UInt64} (hx : x.toNat ≤ 9218868437227405312) (hy : y.toNat ≤ 9218868437227405312) (op : CmpOp) : (x.toNat < y.toNat ∧ Op.cmpValue (FP.dcmp x y) op = -1) ∨ (x.toNat = y.toNat ∧ Op.cmpValue (FP.dcmp x y) op = 0) ∨ (y.toNat < x.toNat ∧ Op.cmpValue (FP.dcmp x y) op = 1) := by
  have h := FP.Core.dcmp_key ((FP.Core.ne_nan x).mpr (by omega)) ((FP.Core.ne_nan y).mpr (by omega))
  have kx : FP.Core.dkey x = (x.toNat : Int) := by unfold FP.Core.dkey; rw [if_neg (by omega)]
  have ky : FP.Core.dkey y = (y.toNat : Int) := by unfold FP.Core.dkey; rw [if_neg (by omega)]
  rw [kx, ky] at h
  rw [show FP.dcmp x y = FP.Core.dcmp x y from rfl, h]
  rcases Nat.lt_trichotomy x.toNat y.toNat with h1 | h1 | h1
  · left
    rw [(FP.Core.compare_lt_iff _ _).mpr (by omega)]
    exact ⟨h1, rfl⟩
  · right; left
    rw [(FP.Core.compare_eq_iff _ _).mpr (by omega)]
    exact ⟨h1, rfl⟩
  · right; right
    rw [(FP.Core.compare_gt_iff _ _).mpr (by omega)]
    exact ⟨h1, rfl⟩
theorem dc_lt {x y : UInt64} (hx : x.toNat ≤ 9218868437227405312) (hy : y.toNat ≤ 9218868437227405312) (op : CmpOp) : Op.cmpValue (FP.dcmp x y) op < 0 ↔ x.toNat < y.toNat := by
  rcases dc_v hx hy op with ⟨h1, h2⟩ | ⟨h1, h2⟩ | ⟨h1, h2⟩ <;> rw [h2]
  · exact ⟨fun _ => by omega, fun _ => by decide⟩
  · exact ⟨fun h => absurd h (by decide), fun h => by omega⟩
  · exact ⟨fun h => absurd h (by decide), fun h => by omega⟩
theorem d_ok {x : UInt64} (h : x.toNat ≤ 9218868437227405312) : x &&& 0x7fffffffffffffff ≤ 0x7ff0000000000000 := by
  rw [UInt64.le_iff_toNat_le, UInt64.toNat_and]
  show x.toNat &&& (2 ^ 63 - 1) ≤ 9218868437227405312
  rw [Nat.and_two_pow_sub_one_eq_mod]
  omega
theorem half_d {z : UInt64} (h1 : 9007199254740992 ≤ z.toNat) (h2 : z.toNat < 9218868437227405312) : (FP.ddiv z (4611686018427387904 : UInt64)).toNat = z.toNat - 4503599627370496 := by
  have e : (4611686018427387904 : UInt64).toNat = 4611686018427387904 := by decide
  have := v_dbl (n := z.toNat - 4503599627370496) (by omega)
  rw [show z.toNat - 4503599627370496 + 4503599627370496 = z.toNat by omega] at this
  have key : FP.Core.unitsOf FP.Core.b64 z.toNat * FP.Core.one64 = FP.Core.unitsOf FP.Core.b64 (z.toNat - 4503599627370496) * (2 * FP.Core.one64) := by
    rw [this]
    generalize FP.Core.one64 = o
    rw [Nat.mul_comm 2, Nat.mul_assoc]
  refine Nat.le_antisymm (ddiv_le h2 (by rw [e]; decide) (by rw [e]; decide) ?_) (ddiv_ge h2 (by rw [e]; decide) (by rw [e]; decide) (by omega) ?_)
  · rw [e, v_two]; exact Nat.le_of_eq key
  · rw [e, v_two]; exact Nat.le_of_eq key.symm
theorem d2l_n {z : UInt64} {k : Nat} (h : z.toNat < 9218868437227405312) (hk : FP.Core.unitsOf FP.Core.b64 z.toNat / FP.Core.one64 = k) (hk2 : k < 2 ^ 63) : FP.d2l z = lN k := by
  have hn := (FP.Core.ne_nan z).mpr (by omega)
  have h1 := FP.Core.d2l_val hn
  have hs := FP.Core.sgn_bits hn
  rw [hs, FP.Core.zmag_bits hn, Nat.mod_eq_of_lt (by omega), hk, decide_eq_false (by omega)] at h1
  refine Int64.toInt_inj.mp ?_
  rw [show FP.d2l z = FP.Core.d2l z from rfl, h1]
  have e2 : (lN k).toInt = (k : Int) := Int64.toInt_ofNat_of_lt hk2
  rw [e2]
  unfold FP.Core.signed
  simp only [Bool.false_eq_true, if_false]
  omega
theorem toInt64_n (x : UInt64) : x.toInt64 = lN x.toNat := by
  refine Int64.toBitVec_inj.mp ?_
  show x.toBitVec = BitVec.ofNat 64 x.toBitVec.toNat
  rw [BitVec.ofNat_toNat, BitVec.setWidth_eq]
theorem scale_d {z : UInt64} (h1 : 4503599627370496 ≤ z.toNat) (h2 : z.toNat < 8984681256603942912) : (FP.dmul z (4841369599423283200 : UInt64)).toNat = z.toNat + 234187180623265792 := by
  have e : (4841369599423283200 : UInt64).toNat = 4841369599423283200 := by decide
  refine dmul_eq (by omega) (by rw [e]; decide) (by omega) ?_
  rw [e, v_52, show z.toNat + 234187180623265792 = z.toNat + 4503599627370496 * 52 by omega, v_pow h1]
  generalize FP.Core.one64 = o
  rw [Nat.mul_assoc]
theorem one64_p : FP.Core.one64 = 2 ^ 1074 := rfl
theorem shl52 {e : Nat} (he : e < 2047) : lN e <<< ((52 : Int32).toInt64 &&& 63) = lN (e * 4503599627370496) := by
  have h : ((List.range 2047).all fun e => decide (lN e <<< ((52 : Int32).toInt64 &&& 63) = lN (e * 4503599627370496))) = true := by decide +kernel
  exact of_decide_eq_true (List.all_eq_true.mp h e (List.mem_range.mpr he))
theorem bitsD_end {u : UInt64} {e : Nat} (h1 : 4607182418800017408 ≤ u.toNat) (h2 : u.toNat < 4611686018427387904) (he : 1 ≤ e) (he2 : e ≤ 2046) : grd ((FP.dmul u (4841369599423283200 : UInt64)) &&& 0x7fffffffffffffff ≤ 0x7ff0000000000000) (lett (FP.d2l (FP.dmul u (4841369599423283200 : UInt64))) fun v5 => some (((lN e <<< ((52 : Int32).toInt64 &&& 63)) + v5) - (4503599627370496 : Int64))) = some (lN (e * 4503599627370496 + (u.toNat - 4607182418800017408))) := by
  have hs := scale_d (z := u) (by omega) (by omega)
  have hd : FP.d2l (FP.dmul u (4841369599423283200 : UInt64)) = lN (4503599627370496 + (u.toNat - 4607182418800017408)) := by
    refine d2l_n (by omega) ?_ (by omega)
    rw [hs, v_def, if_neg (by omega), show (u.toNat + 234187180623265792) / 4503599627370496 - 1 = 1074 by omega, ← one64_p, Nat.mul_div_cancel _ FP.Core.one64_pos]
    omega
  rw [grd_t (d_ok (by omega)), lett_e, hd, shl52 (by omega), lN_add, show (4503599627370496 : Int64) = lN 4503599627370496 from rfl, lN_sub (by omega)]
  refine congrArg (fun k => some (lN k)) ?_
  omega
theorem C_dbl_m {x : UInt64} (h1 : 4607182418800017408 ≤ x.toNat) (hx : x.toNat < 9218868437227405312) (M : Mm) : C_bitsOfDouble x M = some (lN x.toNat) := by
  have ofn : ∀ a, a < 18446744073709551616 → (UInt64.ofNat a).toNat = a := fun a ha => by rw [UInt64.toNat_ofNat']; omega
  have c2 : (4611686018427387904 : UInt64).toNat = 4611686018427387904 := by decide
  unfold C_bitsOfDouble
  rw [lett_e, lett_e, lett_e]
  obtain ⟨k, hk⟩ : ∃ k, k = x.toNat / 4503599627370496 - 1023 := ⟨_, rfl⟩
  have e0 : (x, (1023 : Int64)) = (UInt64.ofNat (x.toNat - 4503599627370496 * 0), lN (1023 + 0)) := by
    rw [Nat.mul_zero, Nat.sub_zero, UInt64.ofNat_toNat]; rfl
  rw [e0]
  refine loopR_seq (fun i => (UInt64.ofNat (x.toNat - 4503599627370496 * i), lN (1023 + i))) k (fun i hi rec => ?_) (fun rec => ?_) 1000000 (by omega)
  · dsimp only
    have hz := ofn (x.toNat - 4503599627370496 * i) (by omega)
    have hh := half_d (z := UInt64.ofNat (x.toNat - 4503599627370496 * i)) (by omega) (by omega)
    rw [if_neg (fun h => absurd ((dc_lt (by omega) (by rw [c2]; decide) _).mp h) (by rw [c2]; omega)), if_neg (show ¬ 0 ≤ lg_cmp (lN (1023 + i)) 2046 from fun h => absurd ((pk_lLE (a := 2046) (b := 1023 + i) (by decide) (by omega)).mp ((lg_cmp_ge _ _).mp h)) (by omega)), grd_t (d_ok (by omega)), lett_e, lett_e, lN_1]
    have : FP.ddiv (UInt64.ofNat (x.toNat - 4503599627370496 * i)) (4611686018427387904 : UInt64) = UInt64.ofNat (x.toNat - 4503599627370496 * (i + 1)) := UInt64.toNat_inj.mp (by rw [hh, hz, ofn _ (by omega)]; omega)
    rw [this]
    rfl
  · dsimp only
    have hz := ofn (x.toNat - 4503599627370496 * k) (by omega)
    rw [if_pos ((dc_lt (by omega) (by rw [c2]; decide) _).mpr (by rw [c2]; omega)), bitsD_end (by omega) (by omega) (by omega) (by omega)]
    refine congrArg (fun k => some (lN k)) ?_
    omega
theorem R_dbl_m {x : UInt64} (hx : x.toNat < 9218868437227405312) (M : Mm) : R_doubleToLongBits_ccdee x M = some (lN x.toNat) := by
  unfold R_doubleToLongBits_ccdee R_isNaN_b9ae7
  rw [show FP.dcmp x x = FP.Core.dcmp x x from rfl, FP.Core.dcmp_self ((FP.Core.ne_nan x).mpr (by omega)), if_pos (by decide), bnd_s, if_pos rfl, toInt64_n]
/-- a mean's bits, in both -/
theorem mean_bits {l d : Nat} (h1 : 1 ≤ d) (h2 : d ≤ l) (h3 : l < 2147483648) (M M' : Mm) : (FP.ddiv (FP.i2d (nI l)) (FP.i2d (nI d))) &&& 0x7fffffffffffffff ≤ 0x7ff0000000000000 ∧ ∃ v, C_bitsOfDouble (FP.ddiv (FP.i2d (nI l)) (FP.i2d (nI d))) M = some v ∧ R_doubleToLongBits_ccdee (FP.ddiv (FP.i2d (nI l)) (FP.i2d (nI d))) M' = some v := by
  obtain ⟨a1, a2⟩ := i2d_n (a := l) (by omega) h3
  obtain ⟨b1, b2⟩ := i2d_n (a := d) h1 (by omega)
  have hb0 : 0 < (FP.i2d (nI d)).toNat := by
    refine Nat.pos_of_ne_zero (fun h => ?_)
    rw [h, FP.Core.unitsOf_zero] at b1
    have := Nat.mul_pos (show 0 < d by omega) FP.Core.one64_pos
    omega
  have g1 : 4607182418800017408 ≤ (FP.ddiv (FP.i2d (nI l)) (FP.i2d (nI d))).toNat := by
    refine ddiv_ge (by omega) (by omega) hb0 (by decide) ?_
    rw [v_one, a1, b1, Nat.mul_comm]
    exact Nat.mul_le_mul_right _ (Nat.mul_le_mul_right _ h2)
  have g2 : (FP.ddiv (FP.i2d (nI l)) (FP.i2d (nI d))).toNat ≤ 4746794007248502784 := by
    refine ddiv_le (by omega) (by omega) hb0 ?_
    rw [v_31, a1, b1]
    generalize FP.Core.one64 = o
    exact Nat.mul_le_mul (Nat.mul_le_mul_right _ (by omega)) (Nat.le_mul_of_pos_left _ h1)
  exact ⟨d_ok (by omega), _, C_dbl_m g1 (by omega) M, R_dbl_m (by omega) M'⟩
