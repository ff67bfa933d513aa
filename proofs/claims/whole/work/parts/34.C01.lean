def C_bitsOfDouble (p1 : UInt64) (M : Mm) : Option Int64 :=
 lett p1 fun v1 =>
 lett (1023 : Int64) fun v2 =>
 lett (fun (u_2 : UInt64) (u_3 : Int64) =>
 grd ((FP.dmul u_2 (4841369599423283200 : UInt64)) &&& 0x7fffffffffffffff ≤ 0x7ff0000000000000) (lett (FP.d2l (FP.dmul u_2 (4841369599423283200 : UInt64))) fun v5 =>
 some (((u_3 <<< ((52 : Int32).toInt64 &&& 63)) + v5) - (4503599627370496 : Int64)))) fun j39 =>
 loopR (fun (rec7 : (UInt64 × Int64) → Option Int64) (x6 : UInt64 × Int64) =>
 if (Op.cmpValue (FP.dcmp x6.1 (4611686018427387904 : UInt64)) .l) < 0 then
 (j39 x6.1 x6.2)
 else
 (if 0 ≤ (lg_cmp x6.2 (2046 : Int64)) then
 (j39 x6.1 x6.2)
 else
 (grd ((FP.ddiv x6.1 (4611686018427387904 : UInt64)) &&& 0x7fffffffffffffff ≤ 0x7ff0000000000000) (lett (FP.ddiv x6.1 (4611686018427387904 : UInt64)) fun v7 =>
 lett (x6.2 + (1 : Int64)) fun v8 =>
 rec7 (v7, v8))))) 1000000 (v1, v2)
abbrev rmC_bitsOfDouble : Room := { frames := 0, cells := 0, slots := 0, locals := 0 }
set_option maxHeartbeats 4000000 in
set_option maxRecDepth 100000 in
theorem tC_bitsOfDouble (E : Cx) (hE : CxOk E cX11_bitsOfDouble RX11 shC (some .long) rmC_bitsOfDouble 8) (p1 : UInt64)  (M : Mm) : Ok E 0 [(0, .double p1)] [] M (C_bitsOfDouble p1 M) (KLp E M) := by
  unfold C_bitsOfDouble
  refine ok_dload_n hE 0 rfl dX11_bitsOfDouble_0 ?_
  refine ok_dstore_n hE (fun v1 => [(2, .double v1), (0, .double p1)]) (fun _ => rfl) rfl dX11_bitsOfDouble_1 (fun v1 => ?_)
  refine ok_ldc2 hE ct_X11_443 dX11_bitsOfDouble_2 ?_
  refine ok_lstore hE (fun v2 => [(4, .long v2), (2, .double v1), (0, .double p1)]) (fun _ => rfl) rfl dX11_bitsOfDouble_5 (fun v2 => ?_)
  refine ok_fun (fun j => ∀ (u_2 : UInt64) (u_3 : Int64), Ok E 39 [(2, .double u_2), (4, .long u_3)] [] M (j u_2 u_3) (KLp E M)) (fun u_2 u_3 => ?_) (fun j39 hj39 => ?_)
  · refine ok_dload_n hE 0 rfl dX11_bitsOfDouble_39 ?_
    refine ok_ldc2d hE ct_X11_449 dX11_bitsOfDouble_40 ?_
    refine ok_dmul hE dX11_bitsOfDouble_43 ?_
    refine ok_d2l hE dX11_bitsOfDouble_44 ?_
    refine ok_lstore hE (fun v5 => [(6, .long v5), (2, .double u_2), (4, .long u_3)]) (fun _ => rfl) rfl dX11_bitsOfDouble_45 (fun v5 => ?_)
    refine ok_lload hE 2 rfl dX11_bitsOfDouble_47 ?_
    refine ok_bipush hE (52 : Int32) kb_52 dX11_bitsOfDouble_49 ?_
    refine ok_lshl hE dX11_bitsOfDouble_51 ?_
    refine ok_lload hE 0 rfl dX11_bitsOfDouble_52 ?_
    refine ok_ladd hE dX11_bitsOfDouble_54 ?_
    refine ok_ldc2 hE ct_X11_451 dX11_bitsOfDouble_55 ?_
    refine ok_lsub hE dX11_bitsOfDouble_58 ?_
    exact ok_lreturnP hE dX11_bitsOfDouble_59
  refine ok_sub [1, 0] rfl (ok_loop (σ := UInt64 × Int64) 7 (fun x6 => [(2, .double x6.1), (4, .long x6.2)]) (fun x6 => M) (fun rec7 hrec7 x6 => ?_) 1000000 (v1, v2))
  refine ok_dload_n hE 0 rfl dX11_bitsOfDouble_7 ?_
  refine ok_ldc2d hE ct_X11_445 dX11_bitsOfDouble_8 ?_
  refine ok_dcmp hE dX11_bitsOfDouble_11 ?_
  refine ok_if_lt hE 39 rfl dX11_bitsOfDouble_12 ?_ ?_
  · exact ok_sub [0, 1] rfl (hj39 x6.1 x6.2)
  · refine ok_lload hE 1 rfl dX11_bitsOfDouble_15 ?_
    refine ok_ldc2 hE ct_X11_447 dX11_bitsOfDouble_17 ?_
    refine ok_lcmp hE dX11_bitsOfDouble_20 ?_
    refine ok_if_ge hE 39 rfl dX11_bitsOfDouble_21 ?_ ?_
    · exact ok_sub [0, 1] rfl (hj39 x6.1 x6.2)
    · refine ok_dload_n hE 0 rfl dX11_bitsOfDouble_24 ?_
      refine ok_ldc2d hE ct_X11_445 dX11_bitsOfDouble_25 ?_
      refine ok_ddiv hE dX11_bitsOfDouble_28 ?_
      refine ok_dstore_n hE (fun v7 => [(2, .double v7), (4, .long x6.2)]) (fun _ => rfl) rfl dX11_bitsOfDouble_29 (fun v7 => ?_)
      refine ok_lload hE 1 rfl dX11_bitsOfDouble_30 ?_
      refine ok_lconst hE (1 : Int64) (by decide) dX11_bitsOfDouble_32 ?_
      refine ok_ladd hE dX11_bitsOfDouble_33 ?_
      refine ok_lstore hE (fun v8 => [(4, .long v8), (2, .double v7)]) (fun _ => rfl) rfl dX11_bitsOfDouble_34 (fun v8 => ?_)
      refine ok_goto hE 7 rfl dX11_bitsOfDouble_36 ?_
      exact ok_sub [1, 0] rfl (hrec7 (v7, v8))
theorem mC_bitsOfDouble {l : Launch} {Y : Sys} {t : Nat} (hY : SysOk Y t shC) (p1 : UInt64)  (M : Mm) (r : Int64) (h : C_bitsOfDouble p1 M = some r) : Cm l Y t yX11_bitsOfDouble (WS yX11_bitsOfDouble cX11_bitsOfDouble 8 (some .long)) rmC_bitsOfDouble [.double p1] M ((some (.long r), M)) := by
  refine cm_of (own := RX11) hY rfl rfl (Nat.le_of_ble_eq_true rfl) (fun E hE e1 e2 e3 e4 => ?_)
  subst e1
  exact tC_bitsOfDouble E hE p1  M r h e4.symm
def C_mean (p1 : Int32) (M : Mm) : Option Int64 :=
 bnd (C_isProcess p1 M) fun r1 =>
 if r1 = 0 then
 (some (-1 : Int64))
 else
 (ald p1 6 (if 0 < (gI M (34 + 2 * ix p1) 9) then
 (grd ((FP.ddiv (FP.i2d (gI M (34 + 2 * ix p1) 11)) (FP.i2d (gI M (34 + 2 * ix p1) 9))) &&& 0x7fffffffffffffff ≤ 0x7ff0000000000000) (bnd (C_bitsOfDouble (FP.ddiv (FP.i2d (gI M (34 + 2 * ix p1) 11)) (FP.i2d (gI M (34 + 2 * ix p1) 9))) M) fun r3 =>
 some r3))
 else
 (some (-1 : Int64))))
abbrev rmC_mean : Room := { frames := 1, cells := 0, slots := 0, locals := 27 }
set_option maxHeartbeats 4000000 in
set_option maxRecDepth 100000 in
theorem tC_mean (E : Cx) (hE : CxOk E cX11_mean RX11 shC (some .long) rmC_mean 3) (p1 : Int32)  (M : Mm) : Ok E 0 [(0, .ref (E.Y.ad 0)), (1, .int p1)] [] M (C_mean p1 M) (KLp E M) := by
  unfold C_mean
  refine ok_aload_n hE 0 rfl dX11_mean_0 ?_
  refine ok_iload_n hE 1 rfl dX11_mean_1 ?_
  refine ok_cvIp hE rmC_isProcess [.int p1] [] rfl ca_X11_164 shC_0 rfl (fun _ hx => mC_isProcess hE.sys _  _ _ hx) ⟨rfl, rfl, rfl, rfl⟩ rfl rfl dX11_mean_2 (fun r1 => ?_)
  refine ok_if_ne hE 12 rfl dX11_mean_5 ?_ ?_
  · refine ok_aload_n hE 0 rfl dX11_mean_12 ?_
    refine ok_getA hE fl_X11_40 shC_0 rfl dX11_mean_13 ?_
    refine ok_getC hE fl_X11_171 shC_26 rfl dX11_mean_16 ?_
    refine ok_iload_n hE 1 rfl dX11_mean_19 ?_
    refine ok_aaloadH hE shC_27 rfl dX11_mean_20 (fun hi2 => ?_)
    refine ok_astore_n hE [(2, .ref (E.Y.ad (34 + 2 * ix p1))), (0, .ref (E.Y.ad 0)), (1, .int p1)] rfl rfl dX11_mean_21 ?_
    refine ok_aload_n hE 0 rfl dX11_mean_22 ?_
    refine ok_getI hE fl_X11_203 (shC_e_27 hi2) rfl dX11_mean_23 ?_
    refine ok_if_gt hE 33 rfl dX11_mean_26 ?_ ?_
    · refine ok_aload_n hE 0 rfl dX11_mean_33 ?_
      refine ok_getI hE fl_X11_207 (shC_e_27 hi2) rfl dX11_mean_34 ?_
      refine ok_i2d hE dX11_mean_37 ?_
      refine ok_aload_n hE 0 rfl dX11_mean_38 ?_
      refine ok_getI hE fl_X11_203 (shC_e_27 hi2) rfl dX11_mean_39 ?_
      refine ok_i2d hE dX11_mean_42 ?_
      refine ok_ddiv hE dX11_mean_43 ?_
      refine ok_csLp hE rmC_bitsOfDouble [.double (FP.ddiv (FP.i2d (gI M (34 + 2 * ix p1) 11)) (FP.i2d (gI M (34 + 2 * ix p1) 9)))] [] rfl ca_X11_215 (fun _ hx => mC_bitsOfDouble hE.sys _  _ _ hx) ⟨rfl, rfl, rfl, rfl⟩ rfl rfl dX11_mean_44 (fun r3 => ?_)
      exact ok_lreturnP hE dX11_mean_47
    · refine ok_ldc2 hE ct_X11_213 dX11_mean_29 ?_
      exact ok_lreturnP hE dX11_mean_32
  · refine ok_ldc2 hE ct_X11_213 dX11_mean_8 ?_
    exact ok_lreturnP hE dX11_mean_11
theorem mC_mean {l : Launch} {Y : Sys} {t : Nat} (hY : SysOk Y t shC) (p1 : Int32)  (M : Mm) (r : Int64) (h : C_mean p1 M = some r) : Cm l Y t yX11_mean (WS yX11_mean cX11_mean 3 (some .long)) rmC_mean [.ref (Y.ad 0), .int p1] M ((some (.long r), M)) := by
  refine cm_of (own := RX11) hY rfl rfl (Nat.le_of_ble_eq_true rfl) (fun E hE e1 e2 e3 e4 => ?_)
  subst e1
  exact tC_mean E hE p1  M r h e4.symm
def C_bitsOfPositive (p1 : UInt32) (M : Mm) : Option Int32 :=
 if (Op.cmpValue (FP.fcmp p1 FP.fconst0) .l) = 0 then
 (some (0 : Int32))
 else
 (lett p1 fun v1 =>
 lett (127 : Int32) fun v2 =>
 loopR (fun (rec13 : (UInt32 × Int32) → Option Int32) (x3 : UInt32 × Int32) =>
 lett (fun (_ : Unit) =>
 lett (fun (u_3 : UInt32) (u_4 : Int32) =>
 grd ((FP.fmul u_3 (1258291200 : UInt32)) &&& 0x7fffffff ≤ 0x7f800000) (lett (FP.f2i (FP.fmul u_3 (1258291200 : UInt32))) fun v6 =>
 if 0 ≤ (Op.cmpValue (FP.fcmp u_3 FP.fconst1) .g) then
 (some (((u_4 <<< ((23 : Int32) &&& 31)) + v6) - (8388608 : Int32)))
 else
 (some v6))) fun j57 =>
 loopR (fun (rec36 : (UInt32 × Int32) → Option Int32) (x7 : UInt32 × Int32) =>
 if 0 ≤ (Op.cmpValue (FP.fcmp x7.1 FP.fconst1) .g) then
 (j57 x7.1 x7.2)
 else
 (if x7.2 ≤ (1 : Int32) then
 (j57 x7.1 x7.2)
 else
 (grd ((FP.fmul x7.1 FP.fconst2) &&& 0x7fffffff ≤ 0x7f800000) (lett (FP.fmul x7.1 FP.fconst2) fun v8 =>
 lett (x7.2 + (-1 : Int32)) fun v9 =>
 rec36 (v8, v9))))) 1000000 (x3.1, x3.2)) fun j36 =>
 if (Op.cmpValue (FP.fcmp x3.1 FP.fconst2) .l) < 0 then
 (j36 ())
 else
 (if (254 : Int32) ≤ x3.2 then
 (j36 ())
 else
 (grd ((FP.fdiv x3.1 FP.fconst2) &&& 0x7fffffff ≤ 0x7f800000) (lett (FP.fdiv x3.1 FP.fconst2) fun v10 =>
 lett (x3.2 + (1 : Int32)) fun v11 =>
 rec13 (v10, v11))))) 1000000 (v1, v2))
abbrev rmC_bitsOfPositive : Room := { frames := 0, cells := 0, slots := 0, locals := 0 }
set_option maxHeartbeats 4000000 in
set_option maxRecDepth 100000 in
theorem tC_bitsOfPositive (E : Cx) (hE : CxOk E cX11_bitsOfPositive RX11 shC (some .int) rmC_bitsOfPositive 4) (p1 : UInt32)  (M : Mm) : Ok E 0 [(0, .float p1)] [] M (C_bitsOfPositive p1 M) (KIp E M) := by
  unfold C_bitsOfPositive
  refine ok_fload_n hE 0 rfl dX11_bitsOfPositive_0 ?_
  refine ok_fconst0 hE dX11_bitsOfPositive_1 ?_
  refine ok_fcmp hE dX11_bitsOfPositive_2 ?_
  refine ok_if_ne hE 8 rfl dX11_bitsOfPositive_3 ?_ ?_
  · refine ok_fload_n hE 0 rfl dX11_bitsOfPositive_8 ?_
    refine ok_fstore_n hE (fun v1 => [(1, .float v1), (0, .float p1)]) (fun _ => rfl) rfl dX11_bitsOfPositive_9 (fun v1 => ?_)
    refine ok_bipush hE (127 : Int32) kb_127 dX11_bitsOfPositive_10 ?_
    refine ok_istore_n hE (fun v2 => [(2, .int v2), (1, .float v1), (0, .float p1)]) (fun _ => rfl) rfl dX11_bitsOfPositive_12 (fun v2 => ?_)
    refine ok_sub [1, 0] rfl (ok_loop (σ := UInt32 × Int32) 13 (fun x3 => [(1, .float x3.1), (2, .int x3.2)]) (fun x3 => M) (fun rec13 hrec13 x3 => ?_) 1000000 (v1, v2))
    refine ok_fload_n hE 0 rfl dX11_bitsOfPositive_13 ?_
    refine ok_fconst2 hE dX11_bitsOfPositive_14 ?_
    refine ok_fcmp hE dX11_bitsOfPositive_15 ?_
    refine ok_fun (fun j => ∀ (_ : Unit), Ok E 36 [(1, .float x3.1), (2, .int x3.2)] [] M (j ()) (KIp E M)) (fun _ => ?_) (fun j36 hj36 => ?_)
    · refine ok_fun (fun j => ∀ (u_3 : UInt32) (u_4 : Int32), Ok E 57 [(1, .float u_3), (2, .int u_4)] [] M (j u_3 u_4) (KIp E M)) (fun u_3 u_4 => ?_) (fun j57 hj57 => ?_)
      · refine ok_fload_n hE 0 rfl dX11_bitsOfPositive_57 ?_
        refine ok_ldcwf hE ct_X11_441 dX11_bitsOfPositive_58 ?_
        refine ok_fmul hE dX11_bitsOfPositive_61 ?_
        refine ok_f2i hE dX11_bitsOfPositive_62 ?_
        refine ok_istore_n hE (fun v6 => [(3, .int v6), (1, .float u_3), (2, .int u_4)]) (fun _ => rfl) rfl dX11_bitsOfPositive_63 (fun v6 => ?_)
        refine ok_fload_n hE 1 rfl dX11_bitsOfPositive_64 ?_
        refine ok_fconst1 hE dX11_bitsOfPositive_65 ?_
        refine ok_fcmp hE dX11_bitsOfPositive_66 ?_
        refine ok_if_ge hE 74 rfl dX11_bitsOfPositive_67 ?_ ?_
        · refine ok_iload_n hE 2 rfl dX11_bitsOfPositive_74 ?_
          refine ok_bipush hE (23 : Int32) kb_23 dX11_bitsOfPositive_75 ?_
          refine ok_ishl hE dX11_bitsOfPositive_77 ?_
          refine ok_iload_n hE 0 rfl dX11_bitsOfPositive_78 ?_
          refine ok_iadd hE dX11_bitsOfPositive_79 ?_
          refine ok_ldcw hE ct_X11_442 dX11_bitsOfPositive_80 ?_
          refine ok_isub hE dX11_bitsOfPositive_83 ?_
          exact ok_ireturnP hE dX11_bitsOfPositive_84
        · refine ok_iload_n hE 0 rfl dX11_bitsOfPositive_70 ?_
          refine ok_goto hE 84 rfl dX11_bitsOfPositive_71 ?_
          exact ok_ireturnP hE dX11_bitsOfPositive_84
      refine ok_sub [0, 1] rfl (ok_loop (σ := UInt32 × Int32) 36 (fun x7 => [(1, .float x7.1), (2, .int x7.2)]) (fun x7 => M) (fun rec36 hrec36 x7 => ?_) 1000000 (x3.1, x3.2))
      refine ok_fload_n hE 0 rfl dX11_bitsOfPositive_36 ?_
      refine ok_fconst1 hE dX11_bitsOfPositive_37 ?_
      refine ok_fcmp hE dX11_bitsOfPositive_38 ?_
      refine ok_if_ge hE 57 rfl dX11_bitsOfPositive_39 ?_ ?_
      · exact ok_sub [0, 1] rfl (hj57 x7.1 x7.2)
      · refine ok_iload_n hE 1 rfl dX11_bitsOfPositive_42 ?_
        refine ok_iconst hE (1 : Int32) ki_1 dX11_bitsOfPositive_43 ?_
        refine ok_icmp_le hE 57 rfl dX11_bitsOfPositive_44 ?_ ?_
        · exact ok_sub [0, 1] rfl (hj57 x7.1 x7.2)
        · refine ok_fload_n hE 0 rfl dX11_bitsOfPositive_47 ?_
          refine ok_fconst2 hE dX11_bitsOfPositive_48 ?_
          refine ok_fmul hE dX11_bitsOfPositive_49 ?_
          refine ok_fstore_n hE (fun v8 => [(1, .float v8), (2, .int x7.2)]) (fun _ => rfl) rfl dX11_bitsOfPositive_50 (fun v8 => ?_)
          refine ok_iinc hE 1 (x7.2 + (-1 : Int32)) (by rw [ko_m1]) (fun v9 => [(2, .int v9), (1, .float v8)]) rfl (fun _ => rfl) rfl dX11_bitsOfPositive_51 (fun v9 => ?_)
          refine ok_goto hE 36 rfl dX11_bitsOfPositive_54 ?_
          exact ok_sub [1, 0] rfl (hrec36 (v8, v9))
    refine ok_if_lt hE 36 rfl dX11_bitsOfPositive_16 ?_ ?_
    · exact ok_sub [0, 1] rfl (hj36 ())
    · refine ok_iload_n hE 1 rfl dX11_bitsOfPositive_19 ?_
      refine ok_sipush hE (254 : Int32) ks_254 dX11_bitsOfPositive_20 ?_
      refine ok_icmp_ge hE 36 rfl dX11_bitsOfPositive_23 ?_ ?_
      · exact ok_sub [0, 1] rfl (hj36 ())
      · refine ok_fload_n hE 0 rfl dX11_bitsOfPositive_26 ?_
        refine ok_fconst2 hE dX11_bitsOfPositive_27 ?_
        refine ok_fdiv hE dX11_bitsOfPositive_28 ?_
        refine ok_fstore_n hE (fun v10 => [(1, .float v10), (2, .int x3.2)]) (fun _ => rfl) rfl dX11_bitsOfPositive_29 (fun v10 => ?_)
        refine ok_iinc hE 1 (x3.2 + (1 : Int32)) (by rw [ko_1]) (fun v11 => [(2, .int v11), (1, .float v10)]) rfl (fun _ => rfl) rfl dX11_bitsOfPositive_30 (fun v11 => ?_)
        refine ok_goto hE 13 rfl dX11_bitsOfPositive_33 ?_
        exact ok_sub [1, 0] rfl (hrec13 (v10, v11))
  · refine ok_iconst hE (0 : Int32) ki_0 dX11_bitsOfPositive_6 ?_
    exact ok_ireturnP hE dX11_bitsOfPositive_7
theorem mC_bitsOfPositive {l : Launch} {Y : Sys} {t : Nat} (hY : SysOk Y t shC) (p1 : UInt32)  (M : Mm) (r : Int32) (h : C_bitsOfPositive p1 M = some r) : Cm l Y t yX11_bitsOfPositive (WS yX11_bitsOfPositive cX11_bitsOfPositive 4 (some .int)) rmC_bitsOfPositive [.float p1] M ((some (.int r), M)) := by
  refine cm_of (own := RX11) hY rfl rfl (Nat.le_of_ble_eq_true rfl) (fun E hE e1 e2 e3 e4 => ?_)
  subst e1
  exact tC_bitsOfPositive E hE p1  M r h e4.symm
def C_bitsOfFloat (p1 : UInt32) (M : Mm) : Option Int32 :=
 if 0 ≤ (Op.cmpValue (FP.fcmp p1 FP.fconst0) .g) then
 (bnd (C_bitsOfPositive p1 M) fun r1 =>
 some r1)
 else
 (grd ((FP.fsub FP.fconst0 p1) &&& 0x7fffffff ≤ 0x7f800000) (bnd (C_bitsOfPositive (FP.fsub FP.fconst0 p1) M) fun r2 =>
 some ((-2147483648 : Int32) ||| r2)))
abbrev rmC_bitsOfFloat : Room := { frames := 1, cells := 0, slots := 0, locals := 23 }
set_option maxHeartbeats 4000000 in
set_option maxRecDepth 100000 in
theorem tC_bitsOfFloat (E : Cx) (hE : CxOk E cX11_bitsOfFloat RX11 shC (some .int) rmC_bitsOfFloat 1) (p1 : UInt32)  (M : Mm) : Ok E 0 [(0, .float p1)] [] M (C_bitsOfFloat p1 M) (KIp E M) := by
  unfold C_bitsOfFloat
  refine ok_fload_n hE 0 rfl dX11_bitsOfFloat_0 ?_
  refine ok_fconst0 hE dX11_bitsOfFloat_1 ?_
  refine ok_fcmp hE dX11_bitsOfFloat_2 ?_
  refine ok_if_ge hE 19 rfl dX11_bitsOfFloat_3 ?_ ?_
  · refine ok_fload_n hE 0 rfl dX11_bitsOfFloat_19 ?_
    refine ok_csIp hE rmC_bitsOfPositive [.float p1] [] rfl ca_X11_438 (fun _ hx => mC_bitsOfPositive hE.sys _  _ _ hx) ⟨rfl, rfl, rfl, rfl⟩ rfl rfl dX11_bitsOfFloat_20 (fun r1 => ?_)
    exact ok_ireturnP hE dX11_bitsOfFloat_23
  · refine ok_ldcw hE ct_X11_437 dX11_bitsOfFloat_6 ?_
    refine ok_fconst0 hE dX11_bitsOfFloat_9 ?_
    refine ok_fload_n hE 0 rfl dX11_bitsOfFloat_10 ?_
    refine ok_fsub hE dX11_bitsOfFloat_11 ?_
    refine ok_csIp hE rmC_bitsOfPositive [.float (FP.fsub FP.fconst0 p1)] [.int (-2147483648 : Int32)] rfl ca_X11_438 (fun _ hx => mC_bitsOfPositive hE.sys _  _ _ hx) ⟨rfl, rfl, rfl, rfl⟩ rfl rfl dX11_bitsOfFloat_12 (fun r2 => ?_)
    refine ok_ior hE dX11_bitsOfFloat_15 ?_
    refine ok_goto hE 23 rfl dX11_bitsOfFloat_16 ?_
    exact ok_ireturnP hE dX11_bitsOfFloat_23
theorem mC_bitsOfFloat {l : Launch} {Y : Sys} {t : Nat} (hY : SysOk Y t shC) (p1 : UInt32)  (M : Mm) (r : Int32) (h : C_bitsOfFloat p1 M = some r) : Cm l Y t yX11_bitsOfFloat (WS yX11_bitsOfFloat cX11_bitsOfFloat 1 (some .int)) rmC_bitsOfFloat [.float p1] M ((some (.int r), M)) := by
  refine cm_of (own := RX11) hY rfl rfl (Nat.le_of_ble_eq_true rfl) (fun E hE e1 e2 e3 e4 => ?_)
  subst e1
  exact tC_bitsOfFloat E hE p1  M r h e4.symm
def C_queue (p1 : Int32) (p2 : Int32) (M : Mm) : Option Int32 :=
 bnd (C_isProcess p1 M) fun r1 =>
 if r1 = 0 then
 (some (-1 : Int32))
 else
 (ald p1 6 (if p2 = (0 : Int32) then
 (some (gI M (35 + 2 * ix p1) 8))
 else
 (if p2 = (1 : Int32) then
 (some (gI M (35 + 2 * ix p1) 3))
 else
 (if p2 = (2 : Int32) then
 (if (gI M 26 11) = p1 then
 (some (gI M 26 13))
 else
 (some (0 : Int32)))
 else
 (if p2 = (3 : Int32) then
 (some (gI M (35 + 2 * ix p1) 4))
 else
 (if p2 = (4 : Int32) then
 (plnS M 26 fun q32 =>
 bnd (S_QFarJumps (9 + 2 * ix p1) (sbM (emS 26 q32) M)) fun r31 =>
 some r31)
 else
 (if p2 = (5 : Int32) then
 (plnS M 26 fun q28 =>
 bnd (S_QIsSeeky (9 + 2 * ix p1) (sbM (emS 26 q28) M)) fun r27 =>
 if r27 = 0 then
 (some (0 : Int32))
 else
 (some (1 : Int32)))
 else
 (if p2 = (6 : Int32) then
 (some (gI M (35 + 2 * ix p1) 6))
 else
 (if p2 = (7 : Int32) then
 (some (gI M (35 + 2 * ix p1) 7))
 else
 (if p2 = (8 : Int32) then
 (plnS M 26 fun q24 =>
 bnd (S_weightOf p1 (sbM (emS 26 q24) M)) fun r23 =>
 some r23)
 else
 (if p2 = (9 : Int32) then
 (plnS M 26 fun q20 =>
 bnd (S_isBacklogged p1 (sbM (emS 26 q20) M)) fun r19 =>
 if r19 = 0 then
 (some (0 : Int32))
 else
 (some (1 : Int32)))
 else
 (if p2 = (10 : Int32) then
 (bnd (C_bitsOfFloat (gF M (35 + 2 * ix p1) 0) M) fun r18 =>
 some r18)
 else
 (if p2 = (11 : Int32) then
 (bnd (C_bitsOfFloat (gF M (35 + 2 * ix p1) 1) M) fun r17 =>
 some r17)
 else
 (if p2 = (12 : Int32) then
 (bnd (C_bitsOfFloat (gF M (35 + 2 * ix p1) 2) M) fun r16 =>
 some r16)
 else
 (some (-1 : Int32))))))))))))))))
abbrev rmC_queue : Room := { frames := 3, cells := 0, slots := 0, locals := 60 }
set_option maxHeartbeats 4000000 in
set_option maxRecDepth 100000 in
theorem tC_queue (E : Cx) (hE : CxOk E cX11_queue RX11 shC (some .int) rmC_queue 4) (p1 : Int32) (p2 : Int32)  (M : Mm) : Ok E 0 [(0, .ref (E.Y.ad 0)), (1, .int p1), (2, .int p2)] [] M (C_queue p1 p2 M) (KIp E M) := by
  unfold C_queue
  refine ok_aload_n hE 0 rfl dX11_queue_0 ?_
  refine ok_iload_n hE 1 rfl dX11_queue_1 ?_
  refine ok_cvIp hE rmC_isProcess [.int p1] [] rfl ca_X11_164 shC_0 rfl (fun _ hx => mC_isProcess hE.sys _  _ _ hx) ⟨rfl, rfl, rfl, rfl⟩ rfl rfl dX11_queue_2 (fun r1 => ?_)
  refine ok_if_ne hE 10 rfl dX11_queue_5 ?_ ?_
  · refine ok_aload_n hE 0 rfl dX11_queue_10 ?_
    refine ok_getA hE fl_X11_40 shC_0 rfl dX11_queue_11 ?_
    refine ok_getC hE fl_X11_219 shC_26 rfl dX11_queue_14 ?_
    refine ok_iload_n hE 1 rfl dX11_queue_17 ?_
    refine ok_aaloadH hE shC_28 rfl dX11_queue_18 (fun hi2 => ?_)
    refine ok_astore_n hE [(3, .ref (E.Y.ad (35 + 2 * ix p1))), (0, .ref (E.Y.ad 0)), (1, .int p1), (2, .int p2)] rfl rfl dX11_queue_19 ?_
    refine ok_iload_n hE 3 rfl dX11_queue_20 ?_
    refine ok_ite (fun hc3 => ?_) (fun hc3 => ?_)
    · refine ok_tableIn hE (off := 67) (0 : Int32) 88 hc3 dX11_queue_21 (by decide) rfl ?_
      refine ok_aload_n hE 0 rfl dX11_queue_88 ?_
      refine ok_getI hE fl_X11_223 (shC_e_28 hi2) rfl dX11_queue_89 ?_
      exact ok_ireturnP hE dX11_queue_92
    · refine ok_ite (fun hc4 => ?_) (fun hc4 => ?_)
      · refine ok_tableIn hE (off := 72) (1 : Int32) 93 hc4 dX11_queue_21 (by decide) rfl ?_
        refine ok_aload_n hE 0 rfl dX11_queue_93 ?_
        refine ok_getI hE fl_X11_228 (shC_e_28 hi2) rfl dX11_queue_94 ?_
        exact ok_ireturnP hE dX11_queue_97
      · refine ok_ite (fun hc5 => ?_) (fun hc5 => ?_)
        · refine ok_tableIn hE (off := 77) (2 : Int32) 98 hc5 dX11_queue_21 (by decide) rfl ?_
          refine ok_aload_n hE 1 rfl dX11_queue_98 ?_
          refine ok_getA hE fl_X11_40 shC_0 rfl dX11_queue_99 ?_
          refine ok_getI hE fl_X11_119 shC_26 rfl dX11_queue_102 ?_
          refine ok_iload_n hE 2 rfl dX11_queue_105 ?_
          refine ok_icmp_ne hE 119 rfl dX11_queue_106 ?_ ?_
          · refine ok_iconst hE (0 : Int32) ki_0 dX11_queue_119 ?_
            exact ok_ireturnP hE dX11_queue_120
          · refine ok_aload_n hE 1 rfl dX11_queue_109 ?_
            refine ok_getA hE fl_X11_40 shC_0 rfl dX11_queue_110 ?_
            refine ok_getI hE fl_X11_231 shC_26 rfl dX11_queue_113 ?_
            refine ok_goto hE 120 rfl dX11_queue_116 ?_
            exact ok_ireturnP hE dX11_queue_120
        · refine ok_ite (fun hc6 => ?_) (fun hc6 => ?_)
          · refine ok_tableIn hE (off := 100) (3 : Int32) 121 hc6 dX11_queue_21 (by decide) rfl ?_
            refine ok_aload_n hE 0 rfl dX11_queue_121 ?_
            refine ok_getI hE fl_X11_234 (shC_e_28 hi2) rfl dX11_queue_122 ?_
            exact ok_ireturnP hE dX11_queue_125
          · refine ok_ite (fun hc7 => ?_) (fun hc7 => ?_)
            · refine ok_tableIn hE (off := 105) (4 : Int32) 126 hc7 dX11_queue_21 (by decide) rfl ?_
              refine ok_aload_n hE 0 rfl dX11_queue_126 ?_
              refine ok_plnS hE (fun q32 hq33 => ?_)
              refine ok_xIp hE rmS_QFarJumps [] [] rfl ca_X11_237 (shC_e_28 hi2) rfl hq33 (adS_e hi2) (fun hs _ hx => mS_QFarJumps hs _ (shS_e_2 hi2) _ _ hx) ⟨rfl, rfl, rfl, rfl⟩ rfl rfl dX11_queue_127 (fun r31 => ?_)
              exact ok_ireturnP hE dX11_queue_130
            · refine ok_ite (fun hc8 => ?_) (fun hc8 => ?_)
              · refine ok_tableIn hE (off := 110) (5 : Int32) 131 hc8 dX11_queue_21 (by decide) rfl ?_
                refine ok_aload_n hE 0 rfl dX11_queue_131 ?_
                refine ok_plnS hE (fun q28 hq29 => ?_)
                refine ok_xIp hE rmS_QIsSeeky [] [] rfl ca_X11_240 (shC_e_28 hi2) rfl hq29 (adS_e hi2) (fun hs _ hx => mS_QIsSeeky hs _ (shS_e_2 hi2) _ _ hx) ⟨rfl, rfl, rfl, rfl⟩ rfl rfl dX11_queue_132 (fun r27 => ?_)
                refine ok_if_eq hE 142 rfl dX11_queue_135 ?_ ?_
                · refine ok_iconst hE (0 : Int32) ki_0 dX11_queue_142 ?_
                  exact ok_ireturnP hE dX11_queue_143
                · refine ok_iconst hE (1 : Int32) ki_1 dX11_queue_138 ?_
                  refine ok_goto hE 143 rfl dX11_queue_139 ?_
                  exact ok_ireturnP hE dX11_queue_143
              · refine ok_ite (fun hc9 => ?_) (fun hc9 => ?_)
                · refine ok_tableIn hE (off := 123) (6 : Int32) 144 hc9 dX11_queue_21 (by decide) rfl ?_
                  refine ok_aload_n hE 0 rfl dX11_queue_144 ?_
                  refine ok_getI hE fl_X11_243 (shC_e_28 hi2) rfl dX11_queue_145 ?_
                  exact ok_ireturnP hE dX11_queue_148
                · refine ok_ite (fun hc10 => ?_) (fun hc10 => ?_)
                  · refine ok_tableIn hE (off := 128) (7 : Int32) 149 hc10 dX11_queue_21 (by decide) rfl ?_
                    refine ok_aload_n hE 0 rfl dX11_queue_149 ?_
                    refine ok_getI hE fl_X11_246 (shC_e_28 hi2) rfl dX11_queue_150 ?_
                    exact ok_ireturnP hE dX11_queue_153
                  · refine ok_ite (fun hc11 => ?_) (fun hc11 => ?_)
                    · refine ok_tableIn hE (off := 133) (8 : Int32) 154 hc11 dX11_queue_21 (by decide) rfl ?_
                      refine ok_aload_n hE 1 rfl dX11_queue_154 ?_
                      refine ok_getA hE fl_X11_40 shC_0 rfl dX11_queue_155 ?_
                      refine ok_iload_n hE 2 rfl dX11_queue_158 ?_
                      refine ok_plnS hE (fun q24 hq25 => ?_)
                      refine ok_xIp hE rmS_weightOf [.int p1] [] rfl ca_X11_249 shC_26 rfl hq25 rfl (fun hs _ hx => mS_weightOf hs _  _ _ hx) ⟨rfl, rfl, rfl, rfl⟩ rfl rfl dX11_queue_159 (fun r23 => ?_)
                      exact ok_ireturnP hE dX11_queue_162
                    · refine ok_ite (fun hc12 => ?_) (fun hc12 => ?_)
                      · refine ok_tableIn hE (off := 142) (9 : Int32) 163 hc12 dX11_queue_21 (by decide) rfl ?_
                        refine ok_aload_n hE 1 rfl dX11_queue_163 ?_
                        refine ok_getA hE fl_X11_40 shC_0 rfl dX11_queue_164 ?_
                        refine ok_iload_n hE 2 rfl dX11_queue_167 ?_
                        refine ok_plnS hE (fun q20 hq21 => ?_)
                        refine ok_xIp hE rmS_isBacklogged [.int p1] [] rfl ca_X11_252 shC_26 rfl hq21 rfl (fun hs _ hx => mS_isBacklogged hs _  _ _ hx) ⟨rfl, rfl, rfl, rfl⟩ rfl rfl dX11_queue_168 (fun r19 => ?_)
                        refine ok_if_eq hE 178 rfl dX11_queue_171 ?_ ?_
                        · refine ok_iconst hE (0 : Int32) ki_0 dX11_queue_178 ?_
                          exact ok_ireturnP hE dX11_queue_179
                        · refine ok_iconst hE (1 : Int32) ki_1 dX11_queue_174 ?_
                          refine ok_goto hE 179 rfl dX11_queue_175 ?_
                          exact ok_ireturnP hE dX11_queue_179
                      · refine ok_ite (fun hc13 => ?_) (fun hc13 => ?_)
                        · refine ok_tableIn hE (off := 159) (10 : Int32) 180 hc13 dX11_queue_21 (by decide) rfl ?_
                          refine ok_aload_n hE 0 rfl dX11_queue_180 ?_
                          refine ok_getF hE fl_X11_255 (shC_e_28 hi2) rfl dX11_queue_181 ?_
                          refine ok_csIp hE rmC_bitsOfFloat [.float (gF M (35 + 2 * ix p1) 0)] [] rfl ca_X11_259 (fun _ hx => mC_bitsOfFloat hE.sys _  _ _ hx) ⟨rfl, rfl, rfl, rfl⟩ rfl rfl dX11_queue_184 (fun r18 => ?_)
                          exact ok_ireturnP hE dX11_queue_187
                        · refine ok_ite (fun hc14 => ?_) (fun hc14 => ?_)
                          · refine ok_tableIn hE (off := 167) (11 : Int32) 188 hc14 dX11_queue_21 (by decide) rfl ?_
                            refine ok_aload_n hE 0 rfl dX11_queue_188 ?_
                            refine ok_getF hE fl_X11_263 (shC_e_28 hi2) rfl dX11_queue_189 ?_
                            refine ok_csIp hE rmC_bitsOfFloat [.float (gF M (35 + 2 * ix p1) 1)] [] rfl ca_X11_259 (fun _ hx => mC_bitsOfFloat hE.sys _  _ _ hx) ⟨rfl, rfl, rfl, rfl⟩ rfl rfl dX11_queue_192 (fun r17 => ?_)
                            exact ok_ireturnP hE dX11_queue_195
                          · refine ok_ite (fun hc15 => ?_) (fun hc15 => ?_)
                            · refine ok_tableIn hE (off := 175) (12 : Int32) 196 hc15 dX11_queue_21 (by decide) rfl ?_
                              refine ok_aload_n hE 0 rfl dX11_queue_196 ?_
                              refine ok_getF hE fl_X11_266 (shC_e_28 hi2) rfl dX11_queue_197 ?_
                              refine ok_csIp hE rmC_bitsOfFloat [.float (gF M (35 + 2 * ix p1) 2)] [] rfl ca_X11_259 (fun _ hx => mC_bitsOfFloat hE.sys _  _ _ hx) ⟨rfl, rfl, rfl, rfl⟩ rfl rfl dX11_queue_200 (fun r16 => ?_)
                              exact ok_ireturnP hE dX11_queue_203
                            · refine ok_tableOut hE 204 (by have e0 := lv_neT hc3 (a := 0) rfl; have e1 := lv_neT hc4 (a := 1) rfl; have e2 := lv_neT hc5 (a := 2) rfl; have e3 := lv_neT hc6 (a := 3) rfl; have e4 := lv_neT hc7 (a := 4) rfl; have e5 := lv_neT hc8 (a := 5) rfl; have e6 := lv_neT hc9 (a := 6) rfl; have e7 := lv_neT hc10 (a := 7) rfl; have e8 := lv_neT hc11 (a := 8) rfl; have e9 := lv_neT hc12 (a := 9) rfl; have e10 := lv_neT hc13 (a := 10) rfl; have e11 := lv_neT hc14 (a := 11) rfl; have e12 := lv_neT hc15 (a := 12) rfl; omega) dX11_queue_21 rfl ?_
                              refine ok_iconst hE (-1 : Int32) ki_m1 dX11_queue_204 ?_
                              exact ok_ireturnP hE dX11_queue_205
  · refine ok_iconst hE (-1 : Int32) ki_m1 dX11_queue_8 ?_
    exact ok_ireturnP hE dX11_queue_9
theorem mC_queue {l : Launch} {Y : Sys} {t : Nat} (hY : SysOk Y t shC) (p1 : Int32) (p2 : Int32)  (M : Mm) (r : Int32) (h : C_queue p1 p2 M = some r) : Cm l Y t yX11_queue (WS yX11_queue cX11_queue 4 (some .int)) rmC_queue [.ref (Y.ad 0), .int p1, .int p2] M ((some (.int r), M)) := by
  refine cm_of (own := RX11) hY rfl rfl (Nat.le_of_ble_eq_true rfl) (fun E hE e1 e2 e3 e4 => ?_)
  subst e1
  exact tC_queue E hE p1 p2  M r h e4.symm
def C_hasDisk  (M : Mm) : Option Int32 :=
 lett (gR M 0 0) fun y1 =>
 nn y1 fun c2 => grd (shC c2 = shCX2) (if (gI M c2 0) ≤ 0 then
 (some (0 : Int32))
 else
 (some (1 : Int32)))
abbrev rmC_hasDisk : Room := { frames := 0, cells := 0, slots := 0, locals := 0 }
set_option maxHeartbeats 4000000 in
set_option maxRecDepth 100000 in
theorem tC_hasDisk (E : Cx) (hE : CxOk E cX11_hasDisk RX11 shC (some .boolean) rmC_hasDisk 1)   (M : Mm) : Ok E 0 [(0, .ref (E.Y.ad 0))] [] M (C_hasDisk  M) (KIp E M) := by
  unfold C_hasDisk
  refine ok_aload_n hE 0 rfl dX11_hasDisk_0 ?_
  refine ok_getRL hE fl_X11_10 shC_0 rfl dX11_hasDisk_1 (fun y1 => ?_)
  rcases y1 with _ | c2
  · exact fun r hr => by cases hr
  dsimp only [nn]
  refine ok_grd (fun hc3 => ?_)
  refine ok_getI hE fl_X11_122 hc3 rfl dX11_hasDisk_4 ?_
  refine ok_if_le hE 14 rfl dX11_hasDisk_7 ?_ ?_
  · refine ok_iconst hE (0 : Int32) ki_0 dX11_hasDisk_14 ?_
    exact ok_zreturnP hE (Or.inl rfl) dX11_hasDisk_15
  · refine ok_iconst hE (1 : Int32) ki_1 dX11_hasDisk_10 ?_
    refine ok_goto hE 15 rfl dX11_hasDisk_11 ?_
    exact ok_zreturnP hE (Or.inr rfl) dX11_hasDisk_15
theorem mC_hasDisk {l : Launch} {Y : Sys} {t : Nat} (hY : SysOk Y t shC)   (M : Mm) (r : Int32) (h : C_hasDisk  M = some r) : Cm l Y t yX11_hasDisk (WS yX11_hasDisk cX11_hasDisk 1 (some .boolean)) rmC_hasDisk [.ref (Y.ad 0)] M ((some (.int r), M)) := by
  refine cm_of (own := RX11) hY rfl rfl (Nat.le_of_ble_eq_true rfl) (fun E hE e1 e2 e3 e4 => ?_)
  subst e1
  exact tC_hasDisk E hE   M r h e4.symm
def C_bits (p1 : Int32) (M : Mm) : Option Int32 :=
 bnd (C_hasDisk M) fun r1 =>
 if r1 = 0 then
 (some (-1 : Int32))
 else
 (if p1 = (0 : Int32) then
 (bnd (C_bitsOfFloat (gF M 26 8) M) fun r5 =>
 some r5)
 else
 (if p1 = (1 : Int32) then
 (bnd (C_bitsOfFloat (gF M 26 9) M) fun r4 =>
 some r4)
 else
 (some (-1 : Int32))))
abbrev rmC_bits : Room := { frames := 2, cells := 0, slots := 0, locals := 43 }
set_option maxHeartbeats 4000000 in
set_option maxRecDepth 100000 in
theorem tC_bits (E : Cx) (hE : CxOk E cX11_bits RX11 shC (some .int) rmC_bits 2) (p1 : Int32)  (M : Mm) : Ok E 0 [(0, .ref (E.Y.ad 0)), (1, .int p1)] [] M (C_bits p1 M) (KIp E M) := by
  unfold C_bits
  refine ok_aload_n hE 0 rfl dX11_bits_0 ?_
  refine ok_cvIp hE rmC_hasDisk [] [] rfl ca_X11_269 shC_0 rfl (fun _ hx => mC_hasDisk hE.sys   _ _ hx) ⟨rfl, rfl, rfl, rfl⟩ rfl rfl dX11_bits_1 (fun r1 => ?_)
  refine ok_if_ne hE 9 rfl dX11_bits_4 ?_ ?_
  · refine ok_iload_n hE 1 rfl dX11_bits_9 ?_
    refine ok_ite (fun hc2 => ?_) (fun hc2 => ?_)
    · refine ok_lookup hE (off := 26) 36 dX11_bits_10 (by decide) (by rw [hc2]; decide) rfl ?_
      refine ok_aload_n hE 0 rfl dX11_bits_36 ?_
      refine ok_getA hE fl_X11_40 shC_0 rfl dX11_bits_37 ?_
      refine ok_getF hE fl_X11_272 shC_26 rfl dX11_bits_40 ?_
      refine ok_csIp hE rmC_bitsOfFloat [.float (gF M 26 8)] [] rfl ca_X11_259 (fun _ hx => mC_bitsOfFloat hE.sys _  _ _ hx) ⟨rfl, rfl, rfl, rfl⟩ rfl rfl dX11_bits_43 (fun r5 => ?_)
      exact ok_ireturnP hE dX11_bits_46
    · refine ok_ite (fun hc3 => ?_) (fun hc3 => ?_)
      · refine ok_lookup hE (off := 37) 47 dX11_bits_10 (by decide) (by rw [hc3]; decide) rfl ?_
        refine ok_aload_n hE 0 rfl dX11_bits_47 ?_
        refine ok_getA hE fl_X11_40 shC_0 rfl dX11_bits_48 ?_
        refine ok_getF hE fl_X11_275 shC_26 rfl dX11_bits_51 ?_
        refine ok_csIp hE rmC_bitsOfFloat [.float (gF M 26 9)] [] rfl ca_X11_259 (fun _ hx => mC_bitsOfFloat hE.sys _  _ _ hx) ⟨rfl, rfl, rfl, rfl⟩ rfl rfl dX11_bits_54 (fun r4 => ?_)
        exact ok_ireturnP hE dX11_bits_57
      · refine ok_lookup hE (off := 48) 58 dX11_bits_10 (by decide) (by show Op.lookupswitch.offset ([(0, 26), (1, 37)] : List (Int × Int)) _ _ = _; rw [lv_osw (a := 0) hc2 (by decide), lv_osw (a := 1) hc3 (by decide)]; rfl) rfl ?_
        refine ok_iconst hE (-1 : Int32) ki_m1 dX11_bits_58 ?_
        exact ok_ireturnP hE dX11_bits_59
  · refine ok_iconst hE (-1 : Int32) ki_m1 dX11_bits_7 ?_
    exact ok_ireturnP hE dX11_bits_8
theorem mC_bits {l : Launch} {Y : Sys} {t : Nat} (hY : SysOk Y t shC) (p1 : Int32)  (M : Mm) (r : Int32) (h : C_bits p1 M = some r) : Cm l Y t yX11_bits (WS yX11_bits cX11_bits 2 (some .int)) rmC_bits [.ref (Y.ad 0), .int p1] M ((some (.int r), M)) := by
  refine cm_of (own := RX11) hY rfl rfl (Nat.le_of_ble_eq_true rfl) (fun E hE e1 e2 e3 e4 => ?_)
  subst e1
  exact tC_bits E hE p1  M r h e4.symm
def C_request (p1 : Int32) (p2 : Int32) (p3 : Int32) (M : Mm) : Option Int32 :=
 if p1 = (-1 : Int32) then
 (if p2 = 0 then
 (if 0 < (gI M 26 6) then
 (bnd (C_RTell 31 6 (0 : Int32) p3 M) fun r8 =>
 some r8)
 else
 (some (-1 : Int32)))
 else
 (some (-1 : Int32)))
 else
 (bnd (C_isProcess p1 M) fun r1 =>
 if r1 = 0 then
 (some (-1 : Int32))
 else
 (if 0 ≤ p2 then
 (plnS M 26 fun q3 =>
 bnd (S_RPlaceOf p1 p2 (sbM (emS 26 q3) M)) fun r2 =>
 lett r2 fun v6 =>
 if 0 ≤ v6 then
 (bnd (C_RTell 30 324 v6 p3 M) fun r7 =>
 some r7)
 else
 (some (-1 : Int32)))
 else
 (some (-1 : Int32))))
abbrev rmC_request : Room := { frames := 1, cells := 0, slots := 0, locals := 24 }
set_option maxHeartbeats 4000000 in
set_option maxRecDepth 100000 in
theorem tC_request (E : Cx) (hE : CxOk E cX11_request RX11 shC (some .int) rmC_request 5) (p1 : Int32) (p2 : Int32) (p3 : Int32)  (M : Mm) : Ok E 0 [(0, .ref (E.Y.ad 0)), (1, .int p1), (2, .int p2), (3, .int p3)] [] M (C_request p1 p2 p3 M) (KIp E M) := by
  unfold C_request
  refine ok_iload_n hE 1 rfl dX11_request_0 ?_
  refine ok_iconst hE (-1 : Int32) ki_m1 dX11_request_1 ?_
  refine ok_icmp_ne hE 34 rfl dX11_request_2 ?_ ?_
  · refine ok_aload_n hE 0 rfl dX11_request_34 ?_
    refine ok_iload_n hE 1 rfl dX11_request_35 ?_
    refine ok_cvIp hE rmC_isProcess [.int p1] [] rfl ca_X11_164 shC_0 rfl (fun _ hx => mC_isProcess hE.sys _  _ _ hx) ⟨rfl, rfl, rfl, rfl⟩ rfl rfl dX11_request_36 (fun r1 => ?_)
    refine ok_if_eq hE 46 rfl dX11_request_39 ?_ ?_
    · refine ok_iconst hE (-1 : Int32) ki_m1 dX11_request_46 ?_
      exact ok_ireturnP hE dX11_request_47
    · refine ok_iload_n hE 2 rfl dX11_request_42 ?_
      refine ok_if_ge hE 48 rfl dX11_request_43 ?_ ?_
      · refine ok_aload_n hE 0 rfl dX11_request_48 ?_
        refine ok_getA hE fl_X11_40 shC_0 rfl dX11_request_49 ?_
        refine ok_getC hE fl_X11_287 shC_26 rfl dX11_request_52 ?_
        refine ok_iload_n hE 1 rfl dX11_request_55 ?_
        refine ok_iload_n hE 2 rfl dX11_request_56 ?_
        refine ok_plnS hE (fun q3 hq4 => ?_)
        refine ok_xIp hE rmS_RPlaceOf [.int p1, .int p2] [] rfl ca_X11_291 shC_29 rfl hq4 rfl (fun hs _ hx => mS_RPlaceOf hs _ _  _ _ hx) ⟨rfl, rfl, rfl, rfl⟩ rfl rfl dX11_request_57 (fun r2 => ?_)
        refine ok_istore hE (fun v6 => [(4, .int v6), (0, .ref (E.Y.ad 0)), (1, .int p1), (2, .int p2), (3, .int p3)]) (fun _ => rfl) rfl dX11_request_60 (fun v6 => ?_)
        refine ok_iload hE 0 rfl dX11_request_62 ?_
        refine ok_if_ge hE 71 rfl dX11_request_64 ?_ ?_
        · refine ok_aload_n hE 1 rfl dX11_request_71 ?_
          refine ok_getA hE fl_X11_40 shC_0 rfl dX11_request_72 ?_
          refine ok_getC hE fl_X11_287 shC_26 rfl dX11_request_75 ?_
          refine ok_getC hE fl_X11_295 shC_29 rfl dX11_request_78 ?_
          refine ok_iload hE 0 rfl dX11_request_81 ?_
          refine ok_iload_n hE 4 rfl dX11_request_83 ?_
          refine ok_csIp hE rmC_RTell [.ref (E.Y.ad 30), .int v6, .int p3] [] rfl ca_X11_281 (fun _ hx => mC_RTell hE.sys _ _ _ _ shC_30 _ _ hx) ⟨rfl, rfl, rfl, rfl⟩ rfl rfl dX11_request_84 (fun r7 => ?_)
          exact ok_ireturnP hE dX11_request_87
        · refine ok_iconst hE (-1 : Int32) ki_m1 dX11_request_67 ?_
          refine ok_goto hE 87 rfl dX11_request_68 ?_
          exact ok_ireturnP hE dX11_request_87
      · refine ok_iconst hE (-1 : Int32) ki_m1 dX11_request_46 ?_
        exact ok_ireturnP hE dX11_request_47
  · refine ok_iload_n hE 2 rfl dX11_request_5 ?_
    refine ok_if_ne hE 19 rfl dX11_request_6 ?_ ?_
    · refine ok_iconst hE (-1 : Int32) ki_m1 dX11_request_19 ?_
      exact ok_ireturnP hE dX11_request_20
    · refine ok_aload_n hE 0 rfl dX11_request_9 ?_
      refine ok_getA hE fl_X11_40 shC_0 rfl dX11_request_10 ?_
      refine ok_getI hE fl_X11_132 shC_26 rfl dX11_request_13 ?_
      refine ok_if_gt hE 21 rfl dX11_request_16 ?_ ?_
      · refine ok_aload_n hE 0 rfl dX11_request_21 ?_
        refine ok_getA hE fl_X11_40 shC_0 rfl dX11_request_22 ?_
        refine ok_getC hE fl_X11_278 shC_26 rfl dX11_request_25 ?_
        refine ok_iconst hE (0 : Int32) ki_0 dX11_request_28 ?_
        refine ok_iload_n hE 3 rfl dX11_request_29 ?_
        refine ok_csIp hE rmC_RTell [.ref (E.Y.ad 31), .int (0 : Int32), .int p3] [] rfl ca_X11_281 (fun _ hx => mC_RTell hE.sys _ _ _ _ shC_31 _ _ hx) ⟨rfl, rfl, rfl, rfl⟩ rfl rfl dX11_request_30 (fun r8 => ?_)
        exact ok_ireturnP hE dX11_request_33
      · refine ok_iconst hE (-1 : Int32) ki_m1 dX11_request_19 ?_
        exact ok_ireturnP hE dX11_request_20
theorem mC_request {l : Launch} {Y : Sys} {t : Nat} (hY : SysOk Y t shC) (p1 : Int32) (p2 : Int32) (p3 : Int32)  (M : Mm) (r : Int32) (h : C_request p1 p2 p3 M = some r) : Cm l Y t yX11_request (WS yX11_request cX11_request 5 (some .int)) rmC_request [.ref (Y.ad 0), .int p1, .int p2, .int p3] M ((some (.int r), M)) := by
  refine cm_of (own := RX11) hY rfl rfl (Nat.le_of_ble_eq_true rfl) (fun E hE e1 e2 e3 e4 => ?_)
  subst e1
  exact tC_request E hE p1 p2 p3  M r h e4.symm
def C_next (p1 : Int32) (M : Mm) : Option Int32 :=
 bnd (C_isProcess p1 M) fun r1 =>
 if r1 = 0 then
 (some (-1 : Int32))
 else
 (plnS M 26 fun q3 =>
 bnd (S_RNextOf p1 (gI M 26 7) (sbM (emS 26 q3) M)) fun r2 =>
 lett r2 fun v6 =>
 if 0 ≤ v6 then
 (plnS M 26 fun q8 =>
 bnd (S_RRankOf v6 (sbM (emS 26 q8) M)) fun r7 =>
 some r7)
 else
 (some (-1 : Int32)))
abbrev rmC_next : Room := { frames := 1, cells := 0, slots := 0, locals := 26 }
set_option maxHeartbeats 4000000 in
set_option maxRecDepth 100000 in
theorem tC_next (E : Cx) (hE : CxOk E cX11_next RX11 shC (some .int) rmC_next 3) (p1 : Int32)  (M : Mm) : Ok E 0 [(0, .ref (E.Y.ad 0)), (1, .int p1)] [] M (C_next p1 M) (KIp E M) := by
  unfold C_next
  refine ok_aload_n hE 0 rfl dX11_next_0 ?_
  refine ok_iload_n hE 1 rfl dX11_next_1 ?_
  refine ok_cvIp hE rmC_isProcess [.int p1] [] rfl ca_X11_164 shC_0 rfl (fun _ hx => mC_isProcess hE.sys _  _ _ hx) ⟨rfl, rfl, rfl, rfl⟩ rfl rfl dX11_next_2 (fun r1 => ?_)
  refine ok_if_ne hE 10 rfl dX11_next_5 ?_ ?_
  · refine ok_aload_n hE 0 rfl dX11_next_10 ?_
    refine ok_getA hE fl_X11_40 shC_0 rfl dX11_next_11 ?_
    refine ok_getC hE fl_X11_287 shC_26 rfl dX11_next_14 ?_
    refine ok_iload_n hE 1 rfl dX11_next_17 ?_
    refine ok_aload_n hE 0 rfl dX11_next_18 ?_
    refine ok_getA hE fl_X11_40 shC_0 rfl dX11_next_19 ?_
    refine ok_getI hE fl_X11_129 shC_26 rfl dX11_next_22 ?_
    refine ok_plnS hE (fun q3 hq4 => ?_)
    refine ok_xIp hE rmS_RNextOf [.int p1, .int (gI M 26 7)] [] rfl ca_X11_298 shC_29 rfl hq4 rfl (fun hs _ hx => mS_RNextOf hs _ _  _ _ hx) ⟨rfl, rfl, rfl, rfl⟩ rfl rfl dX11_next_25 (fun r2 => ?_)
    refine ok_istore_n hE (fun v6 => [(2, .int v6), (0, .ref (E.Y.ad 0)), (1, .int p1)]) (fun _ => rfl) rfl dX11_next_28 (fun v6 => ?_)
    refine ok_iload_n hE 0 rfl dX11_next_29 ?_
    refine ok_if_ge hE 37 rfl dX11_next_30 ?_ ?_
    · refine ok_aload_n hE 1 rfl dX11_next_37 ?_
      refine ok_getA hE fl_X11_40 shC_0 rfl dX11_next_38 ?_
      refine ok_getC hE fl_X11_287 shC_26 rfl dX11_next_41 ?_
      refine ok_iload_n hE 0 rfl dX11_next_44 ?_
      refine ok_plnS hE (fun q8 hq9 => ?_)
      refine ok_xIp hE rmS_RRankOf [.int v6] [] rfl ca_X11_301 shC_29 rfl hq9 rfl (fun hs _ hx => mS_RRankOf hs _  _ _ hx) ⟨rfl, rfl, rfl, rfl⟩ rfl rfl dX11_next_45 (fun r7 => ?_)
      exact ok_ireturnP hE dX11_next_48
    · refine ok_iconst hE (-1 : Int32) ki_m1 dX11_next_33 ?_
      refine ok_goto hE 48 rfl dX11_next_34 ?_
      exact ok_ireturnP hE dX11_next_48
  · refine ok_iconst hE (-1 : Int32) ki_m1 dX11_next_8 ?_
    exact ok_ireturnP hE dX11_next_9
theorem mC_next {l : Launch} {Y : Sys} {t : Nat} (hY : SysOk Y t shC) (p1 : Int32)  (M : Mm) (r : Int32) (h : C_next p1 M = some r) : Cm l Y t yX11_next (WS yX11_next cX11_next 3 (some .int)) rmC_next [.ref (Y.ad 0), .int p1] M ((some (.int r), M)) := by
  refine cm_of (own := RX11) hY rfl rfl (Nat.le_of_ble_eq_true rfl) (fun E hE e1 e2 e3 e4 => ?_)
  subst e1
  exact tC_next E hE p1  M r h e4.symm
def C_kept (p1 : Int32) (p2 : Int32) (M : Mm) : Option Int32 :=
 if p1 < 0 then
 (some (-1 : Int32))
 else
 (plnS M 26 fun q2 =>
 bnd (S_KTold (sbM (emS 26 q2) M)) fun r1 =>
 if p1 < r1 then
 (plnS M 26 fun q6 =>
 bnd (S_KTell p1 p2 (sbM (emS 26 q6) M)) fun r5 =>
 some r5)
 else
 (some (-1 : Int32)))
abbrev rmC_kept : Room := { frames := 3, cells := 0, slots := 0, locals := 64 }
set_option maxHeartbeats 4000000 in
set_option maxRecDepth 100000 in
theorem tC_kept (E : Cx) (hE : CxOk E cX11_kept RX11 shC (some .int) rmC_kept 3) (p1 : Int32) (p2 : Int32)  (M : Mm) : Ok E 0 [(0, .ref (E.Y.ad 0)), (1, .int p1), (2, .int p2)] [] M (C_kept p1 p2 M) (KIp E M) := by
  unfold C_kept
  refine ok_iload_n hE 1 rfl dX11_kept_0 ?_
  refine ok_if_lt hE 18 rfl dX11_kept_1 ?_ ?_
  · refine ok_iconst hE (-1 : Int32) ki_m1 dX11_kept_18 ?_
    exact ok_ireturnP hE dX11_kept_19
  · refine ok_iload_n hE 1 rfl dX11_kept_4 ?_
    refine ok_aload_n hE 0 rfl dX11_kept_5 ?_
    refine ok_getA hE fl_X11_40 shC_0 rfl dX11_kept_6 ?_
    refine ok_getC hE fl_X11_154 shC_26 rfl dX11_kept_9 ?_
    refine ok_plnS hE (fun q2 hq3 => ?_)
    refine ok_xIp hE rmS_KTold [] [.int p1] rfl ca_X11_158 shC_32 rfl hq3 rfl (fun hs _ hx => mS_KTold hs   _ _ hx) ⟨rfl, rfl, rfl, rfl⟩ rfl rfl dX11_kept_12 (fun r1 => ?_)
    refine ok_icmp_lt hE 20 rfl dX11_kept_15 ?_ ?_
    · refine ok_aload_n hE 0 rfl dX11_kept_20 ?_
      refine ok_getA hE fl_X11_40 shC_0 rfl dX11_kept_21 ?_
      refine ok_getC hE fl_X11_154 shC_26 rfl dX11_kept_24 ?_
      refine ok_iload_n hE 1 rfl dX11_kept_27 ?_
      refine ok_iload_n hE 2 rfl dX11_kept_28 ?_
      refine ok_plnS hE (fun q6 hq7 => ?_)
      refine ok_xIp hE rmS_KTell [.int p1, .int p2] [] rfl ca_X11_304 shC_32 rfl hq7 rfl (fun hs _ hx => mS_KTell hs _ _  _ _ hx) ⟨rfl, rfl, rfl, rfl⟩ rfl rfl dX11_kept_29 (fun r5 => ?_)
      exact ok_ireturnP hE dX11_kept_32
    · refine ok_iconst hE (-1 : Int32) ki_m1 dX11_kept_18 ?_
      exact ok_ireturnP hE dX11_kept_19
theorem mC_kept {l : Launch} {Y : Sys} {t : Nat} (hY : SysOk Y t shC) (p1 : Int32) (p2 : Int32)  (M : Mm) (r : Int32) (h : C_kept p1 p2 M = some r) : Cm l Y t yX11_kept (WS yX11_kept cX11_kept 3 (some .int)) rmC_kept [.ref (Y.ad 0), .int p1, .int p2] M ((some (.int r), M)) := by
  refine cm_of (own := RX11) hY rfl rfl (Nat.le_of_ble_eq_true rfl) (fun E hE e1 e2 e3 e4 => ?_)
  subst e1
  exact tC_kept E hE p1 p2  M r h e4.symm
def C_RCopy (th : Nat) (p1 : Nat) (M : Mm) : Option Mm :=
 lett (sI M th 1 (gI M p1 1)) fun M1 =>
 acp (0 : Int32) (0 : Int32) ((gI M1 th 1) * (6 : Int32)) 324 324 (lett (cpI M1 (p1 + 1) (ix (0 : Int32)) (th + 1) (ix (0 : Int32)) (ix ((gI M1 th 1) * (6 : Int32)))) fun M2 =>
 some M2)
abbrev rmC_RCopy : Room := { frames := 1, cells := 0, slots := 0, locals := 48 }
set_option maxHeartbeats 4000000 in
set_option maxRecDepth 100000 in
theorem tC_RCopy (E : Cx) (hE : CxOk E cX6_copy RX6 shC none rmC_RCopy 2) (th : Nat) (p1 : Nat) (hth : shC th = shCX6) (hp1 : shC p1 = shCX6) (M : Mm) : Ok E 0 [(0, .ref (E.Y.ad th)), (1, .ref (E.Y.ad p1))] [] M (C_RCopy th p1 M) (KV E) := by
  unfold C_RCopy
  refine ok_aload_n hE 0 rfl dX6_copy_0 ?_
  refine ok_aload_n hE 1 rfl dX6_copy_1 ?_
  refine ok_getI hE fl_X6_15 hp1 rfl dX6_copy_2 ?_
  refine ok_putI hE fl_X6_15 hth rfl dX6_copy_5 (fun M1 => ?_)
  refine ok_aload_n hE 1 rfl dX6_copy_8 ?_
  refine ok_getC hE fl_X6_11 hp1 rfl dX6_copy_9 ?_
  refine ok_iconst hE (0 : Int32) ki_0 dX6_copy_12 ?_
  refine ok_aload_n hE 0 rfl dX6_copy_13 ?_
  refine ok_getC hE fl_X6_11 hth rfl dX6_copy_14 ?_
  refine ok_iconst hE (0 : Int32) ki_0 dX6_copy_17 ?_
  refine ok_aload_n hE 0 rfl dX6_copy_18 ?_
  refine ok_getI hE fl_X6_15 hth rfl dX6_copy_19 ?_
  refine ok_bipush hE (6 : Int32) kb_6 dX6_copy_22 ?_
  refine ok_imul hE dX6_copy_24 ?_
  refine ok_acopy hE ac_X6_19 (shC_f_6_0 hp1) (shC_f_6_0 hth) ⟨rfl, rfl⟩ dX6_copy_25 (fun M2 => ?_)
  exact ok_return hE dX6_copy_28
theorem mC_RCopy {l : Launch} {Y : Sys} {t : Nat} (hY : SysOk Y t shC) (th : Nat) (p1 : Nat) (hth : shC th = shCX6) (hp1 : shC p1 = shCX6) (M : Mm) (r : Mm) (h : C_RCopy th p1 M = some r) : Cm l Y t yX6_copy (WS yX6_copy cX6_copy 2 none) rmC_RCopy [.ref (Y.ad th), .ref (Y.ad p1)] M (enV r) := by
  refine cm_of (own := RX6) hY rfl rfl (Nat.le_of_ble_eq_true rfl) (fun E hE e1 e2 e3 e4 => ?_)
  subst e1
  exact tC_RCopy E hE th p1 hth hp1 M r h e4.symm
def C_PCopyStanding (th : Nat) (p1 : Nat) (M : Mm) : Option Mm :=
 lett (sI M th 0 (gI M p1 0)) fun M1 =>
 grd ((gI M1 p1 1) = 0 ∨ (gI M1 p1 1) = 1) (lett (sI M1 th 1 (gI M1 p1 1)) fun M2 =>
 lett (sI M2 th 2 (gI M2 p1 2)) fun M3 =>
 grd ((gI M3 p1 3) = 0 ∨ (gI M3 p1 3) = 1) (lett (sI M3 th 3 (gI M3 p1 3)) fun M4 =>
 lett (sI M4 th 4 (gI M4 p1 4)) fun M5 =>
 lett (sI M5 th 5 (gI M5 p1 5)) fun M6 =>
 lett (sI M6 th 6 (gI M6 p1 6)) fun M7 =>
 lett (sI M7 th 7 (gI M7 p1 7)) fun M8 =>
 lett (sI M8 th 8 (gI M8 p1 8)) fun M9 =>
 some M9))
abbrev rmC_PCopyStanding : Room := { frames := 0, cells := 0, slots := 0, locals := 0 }
set_option maxHeartbeats 4000000 in
set_option maxRecDepth 100000 in
theorem tC_PCopyStanding (E : Cx) (hE : CxOk E cX3_copyStanding RX3 shC none rmC_PCopyStanding 2) (th : Nat) (p1 : Nat) (hth : shC th = shCX3) (hp1 : shC p1 = shCX3) (M : Mm) : Ok E 0 [(0, .ref (E.Y.ad th)), (1, .ref (E.Y.ad p1))] [] M (C_PCopyStanding th p1 M) (KV E) := by
  unfold C_PCopyStanding
  refine ok_aload_n hE 0 rfl dX3_copyStanding_0 ?_
  refine ok_aload_n hE 1 rfl dX3_copyStanding_1 ?_
  refine ok_getI hE fl_X3_7 hp1 rfl dX3_copyStanding_2 ?_
  refine ok_putI hE fl_X3_7 hth rfl dX3_copyStanding_5 (fun M1 => ?_)
  refine ok_aload_n hE 0 rfl dX3_copyStanding_8 ?_
  refine ok_aload_n hE 1 rfl dX3_copyStanding_9 ?_
  refine ok_getI hE fl_X3_13 hp1 rfl dX3_copyStanding_10 ?_
  refine ok_putZG hE fl_X3_13 hth rfl dX3_copyStanding_13 (fun M2 => ?_)
  refine ok_aload_n hE 0 rfl dX3_copyStanding_16 ?_
  refine ok_aload_n hE 1 rfl dX3_copyStanding_17 ?_
  refine ok_getI hE fl_X3_17 hp1 rfl dX3_copyStanding_18 ?_
  refine ok_putI hE fl_X3_17 hth rfl dX3_copyStanding_21 (fun M3 => ?_)
  refine ok_aload_n hE 0 rfl dX3_copyStanding_24 ?_
  refine ok_aload_n hE 1 rfl dX3_copyStanding_25 ?_
  refine ok_getI hE fl_X3_20 hp1 rfl dX3_copyStanding_26 ?_
  refine ok_putZG hE fl_X3_20 hth rfl dX3_copyStanding_29 (fun M4 => ?_)
  refine ok_aload_n hE 0 rfl dX3_copyStanding_32 ?_
  refine ok_aload_n hE 1 rfl dX3_copyStanding_33 ?_
  refine ok_getI hE fl_X3_23 hp1 rfl dX3_copyStanding_34 ?_
  refine ok_putI hE fl_X3_23 hth rfl dX3_copyStanding_37 (fun M5 => ?_)
  refine ok_aload_n hE 0 rfl dX3_copyStanding_40 ?_
  refine ok_aload_n hE 1 rfl dX3_copyStanding_41 ?_
  refine ok_getI hE fl_X3_26 hp1 rfl dX3_copyStanding_42 ?_
  refine ok_putI hE fl_X3_26 hth rfl dX3_copyStanding_45 (fun M6 => ?_)
  refine ok_aload_n hE 0 rfl dX3_copyStanding_48 ?_
  refine ok_aload_n hE 1 rfl dX3_copyStanding_49 ?_
  refine ok_getI hE fl_X3_29 hp1 rfl dX3_copyStanding_50 ?_
  refine ok_putI hE fl_X3_29 hth rfl dX3_copyStanding_53 (fun M7 => ?_)
  refine ok_aload_n hE 0 rfl dX3_copyStanding_56 ?_
  refine ok_aload_n hE 1 rfl dX3_copyStanding_57 ?_
  refine ok_getI hE fl_X3_32 hp1 rfl dX3_copyStanding_58 ?_
  refine ok_putI hE fl_X3_32 hth rfl dX3_copyStanding_61 (fun M8 => ?_)
  refine ok_aload_n hE 0 rfl dX3_copyStanding_64 ?_
  refine ok_aload_n hE 1 rfl dX3_copyStanding_65 ?_
  refine ok_getI hE fl_X3_35 hp1 rfl dX3_copyStanding_66 ?_
  refine ok_putI hE fl_X3_35 hth rfl dX3_copyStanding_69 (fun M9 => ?_)
  exact ok_return hE dX3_copyStanding_72
theorem mC_PCopyStanding {l : Launch} {Y : Sys} {t : Nat} (hY : SysOk Y t shC) (th : Nat) (p1 : Nat) (hth : shC th = shCX3) (hp1 : shC p1 = shCX3) (M : Mm) (r : Mm) (h : C_PCopyStanding th p1 M = some r) : Cm l Y t yX3_copyStanding (WS yX3_copyStanding cX3_copyStanding 2 none) rmC_PCopyStanding [.ref (Y.ad th), .ref (Y.ad p1)] M (enV r) := by
  refine cm_of (own := RX3) hY rfl rfl (Nat.le_of_ble_eq_true rfl) (fun E hE e1 e2 e3 e4 => ?_)
  subst e1
  exact tC_PCopyStanding E hE th p1 hth hp1 M r h e4.symm
def C_QCopy (th : Nat) (p1 : Nat) (M : Mm) : Option Mm :=
 lett (sF M th 0 (gF M p1 0)) fun M1 =>
 lett (sF M1 th 1 (gF M1 p1 1)) fun M2 =>
 lett (sF M2 th 2 (gF M2 p1 2)) fun M3 =>
 lett (sI M3 th 3 (gI M3 p1 3)) fun M4 =>
 lett (sI M4 th 4 (gI M4 p1 4)) fun M5 =>
 lett (sI M5 th 5 (gI M5 p1 5)) fun M6 =>
 lett (sI M6 th 6 (gI M6 p1 6)) fun M7 =>
 lett (sI M7 th 7 (gI M7 p1 7)) fun M8 =>
 lett (sI M8 th 8 (gI M8 p1 8)) fun M9 =>
 some M9
abbrev rmC_QCopy : Room := { frames := 0, cells := 0, slots := 0, locals := 0 }
set_option maxHeartbeats 4000000 in
set_option maxRecDepth 100000 in
theorem tC_QCopy (E : Cx) (hE : CxOk E cX4_copy RX4 shC none rmC_QCopy 2) (th : Nat) (p1 : Nat) (hth : shC th = shCX4) (hp1 : shC p1 = shCX4) (M : Mm) : Ok E 0 [(0, .ref (E.Y.ad th)), (1, .ref (E.Y.ad p1))] [] M (C_QCopy th p1 M) (KV E) := by
  unfold C_QCopy
  refine ok_aload_n hE 0 rfl dX4_copy_0 ?_
  refine ok_aload_n hE 1 rfl dX4_copy_1 ?_
  refine ok_getF hE fl_X4_7 hp1 rfl dX4_copy_2 ?_
  refine ok_putF hE fl_X4_7 hth rfl dX4_copy_5 (fun M1 => ?_)
  refine ok_aload_n hE 0 rfl dX4_copy_8 ?_
  refine ok_aload_n hE 1 rfl dX4_copy_9 ?_
  refine ok_getF hE fl_X4_13 hp1 rfl dX4_copy_10 ?_
  refine ok_putF hE fl_X4_13 hth rfl dX4_copy_13 (fun M2 => ?_)
  refine ok_aload_n hE 0 rfl dX4_copy_16 ?_
  refine ok_aload_n hE 1 rfl dX4_copy_17 ?_
  refine ok_getF hE fl_X4_16 hp1 rfl dX4_copy_18 ?_
  refine ok_putF hE fl_X4_16 hth rfl dX4_copy_21 (fun M3 => ?_)
  refine ok_aload_n hE 0 rfl dX4_copy_24 ?_
  refine ok_aload_n hE 1 rfl dX4_copy_25 ?_
  refine ok_getI hE fl_X4_19 hp1 rfl dX4_copy_26 ?_
  refine ok_putI hE fl_X4_19 hth rfl dX4_copy_29 (fun M4 => ?_)
  refine ok_aload_n hE 0 rfl dX4_copy_32 ?_
  refine ok_aload_n hE 1 rfl dX4_copy_33 ?_
  refine ok_getI hE fl_X4_23 hp1 rfl dX4_copy_34 ?_
  refine ok_putI hE fl_X4_23 hth rfl dX4_copy_37 (fun M5 => ?_)
  refine ok_aload_n hE 0 rfl dX4_copy_40 ?_
  refine ok_aload_n hE 1 rfl dX4_copy_41 ?_
  refine ok_getI hE fl_X4_26 hp1 rfl dX4_copy_42 ?_
  refine ok_putI hE fl_X4_26 hth rfl dX4_copy_45 (fun M6 => ?_)
  refine ok_aload_n hE 0 rfl dX4_copy_48 ?_
  refine ok_aload_n hE 1 rfl dX4_copy_49 ?_
  refine ok_getI hE fl_X4_29 hp1 rfl dX4_copy_50 ?_
  refine ok_putI hE fl_X4_29 hth rfl dX4_copy_53 (fun M7 => ?_)
  refine ok_aload_n hE 0 rfl dX4_copy_56 ?_
  refine ok_aload_n hE 1 rfl dX4_copy_57 ?_
  refine ok_getI hE fl_X4_32 hp1 rfl dX4_copy_58 ?_
  refine ok_putI hE fl_X4_32 hth rfl dX4_copy_61 (fun M8 => ?_)
  refine ok_aload_n hE 0 rfl dX4_copy_64 ?_
  refine ok_aload_n hE 1 rfl dX4_copy_65 ?_
  refine ok_getI hE fl_X4_35 hp1 rfl dX4_copy_66 ?_
  refine ok_putI hE fl_X4_35 hth rfl dX4_copy_69 (fun M9 => ?_)
  exact ok_return hE dX4_copy_72
theorem mC_QCopy {l : Launch} {Y : Sys} {t : Nat} (hY : SysOk Y t shC) (th : Nat) (p1 : Nat) (hth : shC th = shCX4) (hp1 : shC p1 = shCX4) (M : Mm) (r : Mm) (h : C_QCopy th p1 M = some r) : Cm l Y t yX4_copy (WS yX4_copy cX4_copy 2 none) rmC_QCopy [.ref (Y.ad th), .ref (Y.ad p1)] M (enV r) := by
  refine cm_of (own := RX4) hY rfl rfl (Nat.le_of_ble_eq_true rfl) (fun E hE e1 e2 e3 e4 => ?_)
  subst e1
  exact tC_QCopy E hE th p1 hth hp1 M r h e4.symm
def C_copyMoving (th : Nat) (p1 : Nat) (M : Mm) : Option Mm :=
 lett (gR M p1 0) fun y1 =>
 lett (sR M th 0 y1) fun M2 =>
 lett (0 : Int32) fun v3 =>
 lett (fun (M_3 : Mm) =>
 bnd (C_RCopy (th + 3) (p1 + 3) M_3) fun M5 =>
 acp (0 : Int32) (0 : Int32) (6 : Int32) 6 6 (lett (cpI M5 (p1 + 5) (ix (0 : Int32)) (th + 5) (ix (0 : Int32)) (ix (6 : Int32))) fun M6 =>
 lett (sI M6 th 6 (gI M6 p1 6)) fun M7 =>
 lett (sI M7 th 7 (gI M7 p1 7)) fun M8 =>
 lett (sF M8 th 8 (gF M8 p1 8)) fun M9 =>
 lett (sF M9 th 9 (gF M9 p1 9)) fun M10 =>
 lett (sI M10 th 10 (gI M10 p1 10)) fun M11 =>
 lett (sI M11 th 11 (gI M11 p1 11)) fun M12 =>
 lett (sI M12 th 12 (gI M12 p1 12)) fun M13 =>
 lett (sI M13 th 13 (gI M13 p1 13)) fun M14 =>
 lett (sI M14 th 14 (gI M14 p1 14)) fun M15 =>
 lett (sI M15 th 15 (gI M15 p1 15)) fun M16 =>
 lett (sI M16 th 16 (gI M16 p1 16)) fun M17 =>
 lett (sI M17 th 17 (gI M17 p1 17)) fun M18 =>
 lett (sI M18 th 19 (gI M18 p1 19)) fun M19 =>
 some M19)) fun j57 =>
 loopR (fun (rec10 : (Int32 × Mm) → Option Mm) (x20 : Int32 × Mm) =>
 lett (gR x20.2 th 0) fun y21 =>
 nn y21 fun c22 => grd (shC c22 = shCX2) (if (gI x20.2 c22 11) ≤ x20.1 then
 (j57 x20.2)
 else
 (ald x20.1 6 (ald x20.1 6 (bnd (C_PCopyStanding ((th + 1) + 7 + 2 * ix x20.1) ((p1 + 1) + 7 + 2 * ix x20.1) x20.2) fun M26 =>
 ald x20.1 6 (ald x20.1 6 (bnd (C_QCopy ((th + 2) + 7 + 2 * ix x20.1) ((p1 + 2) + 7 + 2 * ix x20.1) M26) fun M29 =>
 lett (x20.1 + (1 : Int32)) fun v30 =>
 rec10 (v30, M29)))))))) 1000000 (v3, M2)
abbrev rmC_copyMoving : Room := { frames := 2, cells := 0, slots := 0, locals := 69 }
set_option maxHeartbeats 4000000 in
set_option maxRecDepth 100000 in
theorem tC_copyMoving (E : Cx) (hE : CxOk E cX8_copyMoving RX8 shC none rmC_copyMoving 3) (th : Nat) (p1 : Nat) (hth : shC th = shCX8) (hp1 : shC p1 = shCX8) (M : Mm) : Ok E 0 [(0, .ref (E.Y.ad th)), (1, .ref (E.Y.ad p1))] [] M (C_copyMoving th p1 M) (KV E) := by
  unfold C_copyMoving
  refine ok_aload_n hE 0 rfl dX8_copyMoving_0 ?_
  refine ok_aload_n hE 1 rfl dX8_copyMoving_1 ?_
  refine ok_getRL hE fl_X8_85 hp1 rfl dX8_copyMoving_2 (fun y1 => ?_)
  refine ok_putRN hE fl_X8_85 hth rfl dX8_copyMoving_5 (fun M2 => ?_)
  refine ok_iconst hE (0 : Int32) ki_0 dX8_copyMoving_8 ?_
  refine ok_istore_n hE (fun v3 => [(2, .int v3), (0, .ref (E.Y.ad th)), (1, .ref (E.Y.ad p1))]) (fun _ => rfl) rfl dX8_copyMoving_9 (fun v3 => ?_)
  refine ok_fun (fun j => ∀ (M_3 : Mm), Ok E 57 [(0, .ref (E.Y.ad th)), (1, .ref (E.Y.ad p1))] [] M_3 (j M_3) (KV E)) (fun M_3 => ?_) (fun j57 hj57 => ?_)
  · refine ok_aload_n hE 0 rfl dX8_copyMoving_57 ?_
    refine ok_getC hE fl_X8_26 hth rfl dX8_copyMoving_58 ?_
    refine ok_aload_n hE 1 rfl dX8_copyMoving_61 ?_
    refine ok_getC hE fl_X8_26 hp1 rfl dX8_copyMoving_62 ?_
    refine ok_cvV hE rmC_RCopy [.ref (E.Y.ad (p1 + 3))] [] rfl ca_X8_144 (shC_f_8_3 hth) rfl (fun _ hx => mC_RCopy hE.sys _ _ (shC_f_8_3 hth) (shC_f_8_3 hp1) _ _ hx) ⟨rfl, rfl, rfl, rfl⟩ rfl rfl dX8_copyMoving_65 (fun M5 => ?_)
    refine ok_aload_n hE 1 rfl dX8_copyMoving_68 ?_
    refine ok_getC hE fl_X8_30 hp1 rfl dX8_copyMoving_69 ?_
    refine ok_iconst hE (0 : Int32) ki_0 dX8_copyMoving_72 ?_
    refine ok_aload_n hE 0 rfl dX8_copyMoving_73 ?_
    refine ok_getC hE fl_X8_30 hth rfl dX8_copyMoving_74 ?_
    refine ok_iconst hE (0 : Int32) ki_0 dX8_copyMoving_77 ?_
    refine ok_aload_n hE 0 rfl dX8_copyMoving_78 ?_
    refine ok_getC hE fl_X8_30 hth rfl dX8_copyMoving_79 ?_
    refine ok_alen hE (6 : Int32) (by decide) (shC_f_8_4 hth) dX8_copyMoving_82 ?_
    refine ok_acopy hE ac_X8_147 (shC_f_8_4 hp1) (shC_f_8_4 hth) ⟨rfl, rfl⟩ dX8_copyMoving_83 (fun M6 => ?_)
    refine ok_aload_n hE 0 rfl dX8_copyMoving_86 ?_
    refine ok_aload_n hE 1 rfl dX8_copyMoving_87 ?_
    refine ok_getI hE fl_X8_41 hp1 rfl dX8_copyMoving_88 ?_
    refine ok_putI hE fl_X8_41 hth rfl dX8_copyMoving_91 (fun M7 => ?_)
    refine ok_aload_n hE 0 rfl dX8_copyMoving_94 ?_
    refine ok_aload_n hE 1 rfl dX8_copyMoving_95 ?_
    refine ok_getI hE fl_X8_45 hp1 rfl dX8_copyMoving_96 ?_
    refine ok_putI hE fl_X8_45 hth rfl dX8_copyMoving_99 (fun M8 => ?_)
    refine ok_aload_n hE 0 rfl dX8_copyMoving_102 ?_
    refine ok_aload_n hE 1 rfl dX8_copyMoving_103 ?_
    refine ok_getF hE fl_X8_48 hp1 rfl dX8_copyMoving_104 ?_
    refine ok_putF hE fl_X8_48 hth rfl dX8_copyMoving_107 (fun M9 => ?_)
    refine ok_aload_n hE 0 rfl dX8_copyMoving_110 ?_
    refine ok_aload_n hE 1 rfl dX8_copyMoving_111 ?_
    refine ok_getF hE fl_X8_52 hp1 rfl dX8_copyMoving_112 ?_
    refine ok_putF hE fl_X8_52 hth rfl dX8_copyMoving_115 (fun M10 => ?_)
    refine ok_aload_n hE 0 rfl dX8_copyMoving_118 ?_
    refine ok_aload_n hE 1 rfl dX8_copyMoving_119 ?_
    refine ok_getI hE fl_X8_55 hp1 rfl dX8_copyMoving_120 ?_
    refine ok_putI hE fl_X8_55 hth rfl dX8_copyMoving_123 (fun M11 => ?_)
    refine ok_aload_n hE 0 rfl dX8_copyMoving_126 ?_
    refine ok_aload_n hE 1 rfl dX8_copyMoving_127 ?_
    refine ok_getI hE fl_X8_58 hp1 rfl dX8_copyMoving_128 ?_
    refine ok_putI hE fl_X8_58 hth rfl dX8_copyMoving_131 (fun M12 => ?_)
    refine ok_aload_n hE 0 rfl dX8_copyMoving_134 ?_
    refine ok_aload_n hE 1 rfl dX8_copyMoving_135 ?_
    refine ok_getI hE fl_X8_61 hp1 rfl dX8_copyMoving_136 ?_
    refine ok_putI hE fl_X8_61 hth rfl dX8_copyMoving_139 (fun M13 => ?_)
    refine ok_aload_n hE 0 rfl dX8_copyMoving_142 ?_
    refine ok_aload_n hE 1 rfl dX8_copyMoving_143 ?_
    refine ok_getI hE fl_X8_64 hp1 rfl dX8_copyMoving_144 ?_
    refine ok_putI hE fl_X8_64 hth rfl dX8_copyMoving_147 (fun M14 => ?_)
    refine ok_aload_n hE 0 rfl dX8_copyMoving_150 ?_
    refine ok_aload_n hE 1 rfl dX8_copyMoving_151 ?_
    refine ok_getI hE fl_X8_67 hp1 rfl dX8_copyMoving_152 ?_
    refine ok_putI hE fl_X8_67 hth rfl dX8_copyMoving_155 (fun M15 => ?_)
    refine ok_aload_n hE 0 rfl dX8_copyMoving_158 ?_
    refine ok_aload_n hE 1 rfl dX8_copyMoving_159 ?_
    refine ok_getI hE fl_X8_70 hp1 rfl dX8_copyMoving_160 ?_
    refine ok_putI hE fl_X8_70 hth rfl dX8_copyMoving_163 (fun M16 => ?_)
    refine ok_aload_n hE 0 rfl dX8_copyMoving_166 ?_
    refine ok_aload_n hE 1 rfl dX8_copyMoving_167 ?_
    refine ok_getI hE fl_X8_73 hp1 rfl dX8_copyMoving_168 ?_
    refine ok_putI hE fl_X8_73 hth rfl dX8_copyMoving_171 (fun M17 => ?_)
    refine ok_aload_n hE 0 rfl dX8_copyMoving_174 ?_
    refine ok_aload_n hE 1 rfl dX8_copyMoving_175 ?_
    refine ok_getI hE fl_X8_76 hp1 rfl dX8_copyMoving_176 ?_
    refine ok_putI hE fl_X8_76 hth rfl dX8_copyMoving_179 (fun M18 => ?_)
    refine ok_aload_n hE 0 rfl dX8_copyMoving_182 ?_
    refine ok_aload_n hE 1 rfl dX8_copyMoving_183 ?_
    refine ok_getI hE fl_X8_82 hp1 rfl dX8_copyMoving_184 ?_
    refine ok_putI hE fl_X8_82 hth rfl dX8_copyMoving_187 (fun M19 => ?_)
    exact ok_return hE dX8_copyMoving_190
  refine ok_sub [1, 2, 0] rfl (ok_loop (σ := Int32 × Mm) 10 (fun x20 => [(0, .ref (E.Y.ad th)), (1, .ref (E.Y.ad p1)), (2, .int x20.1)]) (fun x20 => x20.2) (fun rec10 hrec10 x20 => ?_) 1000000 (v3, M2))
  refine ok_iload_n hE 2 rfl dX8_copyMoving_10 ?_
  refine ok_aload_n hE 0 rfl dX8_copyMoving_11 ?_
  refine ok_getRL hE fl_X8_85 hth rfl dX8_copyMoving_12 (fun y21 => ?_)
  rcases y21 with _ | c22
  · exact fun r hr => by cases hr
  dsimp only [nn]
  refine ok_grd (fun hc23 => ?_)
  refine ok_getI hE fl_X8_130 hc23 rfl dX8_copyMoving_15 ?_
  refine ok_icmp_ge hE 57 rfl dX8_copyMoving_18 ?_ ?_
  · exact ok_sub [0, 1] rfl (hj57 x20.2)
  · refine ok_aload_n hE 0 rfl dX8_copyMoving_21 ?_
    refine ok_getC hE fl_X8_11 hth rfl dX8_copyMoving_22 ?_
    refine ok_iload_n hE 2 rfl dX8_copyMoving_25 ?_
    refine ok_aaloadH hE (shC_f_8_1 hth) rfl dX8_copyMoving_26 (fun hi24 => ?_)
    refine ok_aload_n hE 1 rfl dX8_copyMoving_27 ?_
    refine ok_getC hE fl_X8_11 hp1 rfl dX8_copyMoving_28 ?_
    refine ok_iload_n hE 2 rfl dX8_copyMoving_31 ?_
    refine ok_aaloadH hE (shC_f_8_1 hp1) rfl dX8_copyMoving_32 (fun hi25 => ?_)
    refine ok_cvV hE rmC_PCopyStanding [.ref (E.Y.ad ((p1 + 1) + 7 + 2 * ix x20.1))] [] rfl ca_X8_138 (shC_el_3 (shC_f_8_1 hth) hi24) rfl (fun _ hx => mC_PCopyStanding hE.sys _ _ (shC_el_3 (shC_f_8_1 hth) hi24) (shC_el_3 (shC_f_8_1 hp1) hi25) _ _ hx) ⟨rfl, rfl, rfl, rfl⟩ rfl rfl dX8_copyMoving_33 (fun M26 => ?_)
    refine ok_aload_n hE 0 rfl dX8_copyMoving_36 ?_
    refine ok_getC hE fl_X8_19 hth rfl dX8_copyMoving_37 ?_
    refine ok_iload_n hE 2 rfl dX8_copyMoving_40 ?_
    refine ok_aaloadH hE (shC_f_8_2 hth) rfl dX8_copyMoving_41 (fun hi27 => ?_)
    refine ok_aload_n hE 1 rfl dX8_copyMoving_42 ?_
    refine ok_getC hE fl_X8_19 hp1 rfl dX8_copyMoving_43 ?_
    refine ok_iload_n hE 2 rfl dX8_copyMoving_46 ?_
    refine ok_aaloadH hE (shC_f_8_2 hp1) rfl dX8_copyMoving_47 (fun hi28 => ?_)
    refine ok_cvV hE rmC_QCopy [.ref (E.Y.ad ((p1 + 2) + 7 + 2 * ix x20.1))] [] rfl ca_X8_141 (shC_el_4 (shC_f_8_2 hth) hi27) rfl (fun _ hx => mC_QCopy hE.sys _ _ (shC_el_4 (shC_f_8_2 hth) hi27) (shC_el_4 (shC_f_8_2 hp1) hi28) _ _ hx) ⟨rfl, rfl, rfl, rfl⟩ rfl rfl dX8_copyMoving_48 (fun M29 => ?_)
    refine ok_iinc hE 2 (x20.1 + (1 : Int32)) (by rw [ko_1]) (fun v30 => [(2, .int v30), (0, .ref (E.Y.ad th)), (1, .ref (E.Y.ad p1))]) rfl (fun _ => rfl) rfl dX8_copyMoving_51 (fun v30 => ?_)
    refine ok_goto hE 10 rfl dX8_copyMoving_54 ?_
    exact ok_sub [1, 2, 0] rfl (hrec10 (v30, M29))
theorem mC_copyMoving {l : Launch} {Y : Sys} {t : Nat} (hY : SysOk Y t shC) (th : Nat) (p1 : Nat) (hth : shC th = shCX8) (hp1 : shC p1 = shCX8) (M : Mm) (r : Mm) (h : C_copyMoving th p1 M = some r) : Cm l Y t yX8_copyMoving (WS yX8_copyMoving cX8_copyMoving 3 none) rmC_copyMoving [.ref (Y.ad th), .ref (Y.ad p1)] M (enV r) := by
  refine cm_of (own := RX8) hY rfl rfl (Nat.le_of_ble_eq_true rfl) (fun E hE e1 e2 e3 e4 => ?_)
  subst e1
  exact tC_copyMoving E hE th p1 hth hp1 M r h e4.symm
def C_copyForAhead (th : Nat) (p1 : Nat) (M : Mm) : Option Mm :=
 bnd (C_copyMoving th p1 M) fun M1 =>
 lett (sI M1 (th + 6) 1 (0 : Int32)) fun M2 =>
 lett (sI M2 th 18 (0 : Int32)) fun M3 =>
 lett (0 : Int32) fun v4 =>
 loopR (fun (rec20 : (Int32 × Mm) → Option Mm) (x5 : Int32 × Mm) =>
 lett (gR x5.2 th 0) fun y6 =>
 nn y6 fun c7 => grd (shC c7 = shCX2) (if (gI x5.2 c7 11) ≤ x5.1 then
 (some x5.2)
 else
 (ald x5.1 6 (bnd (C_PClearCounts ((th + 1) + 7 + 2 * ix x5.1) x5.2) fun M10 =>
 lett (x5.1 + (1 : Int32)) fun v11 =>
 rec20 (v11, M10))))) 1000000 (v4, M3)
abbrev rmC_copyForAhead : Room := { frames := 3, cells := 0, slots := 0, locals := 91 }
set_option maxHeartbeats 4000000 in
set_option maxRecDepth 100000 in
theorem tC_copyForAhead (E : Cx) (hE : CxOk E cX8_copyForAhead RX8 shC none rmC_copyForAhead 3) (th : Nat) (p1 : Nat) (hth : shC th = shCX8) (hp1 : shC p1 = shCX8) (M : Mm) : Ok E 0 [(0, .ref (E.Y.ad th)), (1, .ref (E.Y.ad p1))] [] M (C_copyForAhead th p1 M) (KV E) := by
  unfold C_copyForAhead
  refine ok_aload_n hE 0 rfl dX8_copyForAhead_0 ?_
  refine ok_aload_n hE 1 rfl dX8_copyForAhead_1 ?_
  refine ok_cvV hE rmC_copyMoving [.ref (E.Y.ad p1)] [] rfl ca_X8_122 hth rfl (fun _ hx => mC_copyMoving hE.sys _ _ hth hp1 _ _ hx) ⟨rfl, rfl, rfl, rfl⟩ rfl rfl dX8_copyForAhead_2 (fun M1 => ?_)
  refine ok_aload_n hE 0 rfl dX8_copyForAhead_5 ?_
  refine ok_getC hE fl_X8_37 hth rfl dX8_copyForAhead_6 ?_
  refine ok_iconst hE (0 : Int32) ki_0 dX8_copyForAhead_9 ?_
  refine ok_putI hE fl_X8_115 (shC_f_8_5 hth) rfl dX8_copyForAhead_10 (fun M2 => ?_)
  refine ok_aload_n hE 0 rfl dX8_copyForAhead_13 ?_
  refine ok_iconst hE (0 : Int32) ki_0 dX8_copyForAhead_14 ?_
  refine ok_putI hE fl_X8_79 hth rfl dX8_copyForAhead_15 (fun M3 => ?_)
  refine ok_iconst hE (0 : Int32) ki_0 dX8_copyForAhead_18 ?_
  refine ok_istore_n hE (fun v4 => [(2, .int v4), (0, .ref (E.Y.ad th)), (1, .ref (E.Y.ad p1))]) (fun _ => rfl) rfl dX8_copyForAhead_19 (fun v4 => ?_)
  refine ok_sub [1, 0] rfl (ok_loop (σ := Int32 × Mm) 20 (fun x5 => [(0, .ref (E.Y.ad th)), (2, .int x5.1)]) (fun x5 => x5.2) (fun rec20 hrec20 x5 => ?_) 1000000 (v4, M3))
  refine ok_iload_n hE 1 rfl dX8_copyForAhead_20 ?_
  refine ok_aload_n hE 0 rfl dX8_copyForAhead_21 ?_
  refine ok_getRL hE fl_X8_85 hth rfl dX8_copyForAhead_22 (fun y6 => ?_)
  rcases y6 with _ | c7
  · exact fun r hr => by cases hr
  dsimp only [nn]
  refine ok_grd (fun hc8 => ?_)
  refine ok_getI hE fl_X8_130 hc8 rfl dX8_copyForAhead_25 ?_
  refine ok_icmp_ge hE 46 rfl dX8_copyForAhead_28 ?_ ?_
  · exact ok_return hE dX8_copyForAhead_46
  · refine ok_aload_n hE 0 rfl dX8_copyForAhead_31 ?_
    refine ok_getC hE fl_X8_11 hth rfl dX8_copyForAhead_32 ?_
    refine ok_iload_n hE 1 rfl dX8_copyForAhead_35 ?_
    refine ok_aaloadH hE (shC_f_8_1 hth) rfl dX8_copyForAhead_36 (fun hi9 => ?_)
    refine ok_cvV hE rmC_PClearCounts [] [] rfl ca_X8_135 (shC_el_3 (shC_f_8_1 hth) hi9) rfl (fun _ hx => mC_PClearCounts hE.sys _ (shC_el_3 (shC_f_8_1 hth) hi9) _ _ hx) ⟨rfl, rfl, rfl, rfl⟩ rfl rfl dX8_copyForAhead_37 (fun M10 => ?_)
    refine ok_iinc hE 1 (x5.1 + (1 : Int32)) (by rw [ko_1]) (fun v11 => [(2, .int v11), (0, .ref (E.Y.ad th))]) rfl (fun _ => rfl) rfl dX8_copyForAhead_40 (fun v11 => ?_)
    refine ok_goto hE 20 rfl dX8_copyForAhead_43 ?_
    exact ok_sub [1, 0] rfl (hrec20 (v11, M10))
theorem mC_copyForAhead {l : Launch} {Y : Sys} {t : Nat} (hY : SysOk Y t shC) (th : Nat) (p1 : Nat) (hth : shC th = shCX8) (hp1 : shC p1 = shCX8) (M : Mm) (r : Mm) (h : C_copyForAhead th p1 M = some r) : Cm l Y t yX8_copyForAhead (WS yX8_copyForAhead cX8_copyForAhead 3 none) rmC_copyForAhead [.ref (Y.ad th), .ref (Y.ad p1)] M (enV r) := by
  refine cm_of (own := RX8) hY rfl rfl (Nat.le_of_ble_eq_true rfl) (fun E hE e1 e2 e3 e4 => ?_)
  subst e1
  exact tC_copyForAhead E hE th p1 hth hp1 M r h e4.symm
def C_startAhead  (M : Mm) : Option (Nat × Mm) :=
 bnd (C_copyForAhead 46 26 M) fun M1 =>
 some (46, M1)
abbrev rmC_startAhead : Room := { frames := 4, cells := 0, slots := 0, locals := 113 }
set_option maxHeartbeats 4000000 in
set_option maxRecDepth 100000 in
theorem tC_startAhead (E : Cx) (hE : CxOk E cX11_startAhead RX11 shC (some (.object "DiskBudgets$State")) rmC_startAhead 1)   (M : Mm) : Ok E 0 [(0, .ref (E.Y.ad 0))] [] M (C_startAhead  M) (KA E) := by
  unfold C_startAhead
  refine ok_aload_n hE 0 rfl dX11_startAhead_0 ?_
  refine ok_getA hE fl_X11_44 shC_0 rfl dX11_startAhead_1 ?_
  refine ok_aload_n hE 0 rfl dX11_startAhead_4 ?_
  refine ok_getA hE fl_X11_40 shC_0 rfl dX11_startAhead_5 ?_
  refine ok_cvV hE rmC_copyForAhead [.ref (E.Y.ad 26)] [] rfl ca_X11_409 shC_46 rfl (fun _ hx => mC_copyForAhead hE.sys _ _ shC_46 shC_26 _ _ hx) ⟨rfl, rfl, rfl, rfl⟩ rfl rfl dX11_startAhead_8 (fun M1 => ?_)
  refine ok_aload_n hE 0 rfl dX11_startAhead_11 ?_
  refine ok_getA hE fl_X11_44 shC_0 rfl dX11_startAhead_12 ?_
  exact ok_areturn hE dX11_startAhead_15
theorem mC_startAhead {l : Launch} {Y : Sys} {t : Nat} (hY : SysOk Y t shC)   (M : Mm) (r : (Nat × Mm)) (h : C_startAhead  M = some r) : Cm l Y t yX11_startAhead (WS yX11_startAhead cX11_startAhead 1 (some (.object "DiskBudgets$State"))) rmC_startAhead [.ref (Y.ad 0)] M (enA Y.ad r) := by
  refine cm_of (own := RX11) hY rfl rfl (Nat.le_of_ble_eq_true rfl) (fun E hE e1 e2 e3 e4 => ?_)
  subst e1
  exact tC_startAhead E hE   M r h e4.symm
def C_runAhead (p1 : Int32) (M : Mm) : Option (Nat × Mm) :=
 bnd (C_startAhead M) fun r1 =>
 grd (r1.1 = 46) (plnS r1.2 46 fun q3 =>
 bnd (S_run p1 (sbM (emS 46 q3) r1.2)) fun x2 =>
 lett (inM (dmS 46 q3) kpS r1.2 x2) fun M5 =>
 some (46, M5))
abbrev rmC_runAhead : Room := { frames := 6, cells := 0, slots := 0, locals := 162 }
set_option maxHeartbeats 4000000 in
set_option maxRecDepth 100000 in
theorem tC_runAhead (E : Cx) (hE : CxOk E cX11_runAhead RX11 shC (some (.object "DiskBudgets$State")) rmC_runAhead 3) (p1 : Int32)  (M : Mm) : Ok E 0 [(0, .ref (E.Y.ad 0)), (1, .int p1)] [] M (C_runAhead p1 M) (KA E) := by
  unfold C_runAhead
  refine ok_aload_n hE 0 rfl dX11_runAhead_0 ?_
  refine ok_cvA hE rmC_startAhead [] [] rfl ca_X11_317 shC_0 rfl (fun _ hx => mC_startAhead hE.sys   _ _ hx) ⟨rfl, rfl, rfl, rfl⟩ rfl rfl dX11_runAhead_1 (fun r1 => ?_)
  refine ok_grd (fun hg1 => ?_)
  refine ok_code hg1 ?_
  refine ok_astore_n hE [(2, .ref (E.Y.ad 46)), (0, .ref (E.Y.ad 0)), (1, .int p1)] rfl rfl dX11_runAhead_4 ?_
  refine ok_aload_n hE 0 rfl dX11_runAhead_5 ?_
  refine ok_iload_n hE 2 rfl dX11_runAhead_6 ?_
  refine ok_plnS hE (fun q3 hq4 => ?_)
  refine ok_xV hE rmS_run [.int p1] [] rfl ca_X11_321 shC_46 rfl hq4 rfl (fun hs _ hx => mS_run hs _  _ _ hx) ⟨rfl, rfl, rfl, rfl⟩ rfl rfl dX11_runAhead_7 (fun x2 M5 => ?_)
  refine ok_aload_n hE 0 rfl dX11_runAhead_10 ?_
  exact ok_areturn hE dX11_runAhead_11
theorem mC_runAhead {l : Launch} {Y : Sys} {t : Nat} (hY : SysOk Y t shC) (p1 : Int32)  (M : Mm) (r : (Nat × Mm)) (h : C_runAhead p1 M = some r) : Cm l Y t yX11_runAhead (WS yX11_runAhead cX11_runAhead 3 (some (.object "DiskBudgets$State"))) rmC_runAhead [.ref (Y.ad 0), .int p1] M (enA Y.ad r) := by
  refine cm_of (own := RX11) hY rfl rfl (Nat.le_of_ble_eq_true rfl) (fun E hE e1 e2 e3 e4 => ?_)
  subst e1
  exact tC_runAhead E hE p1  M r h e4.symm
def C_later (p1 : Int32) (p2 : Int32) (p3 : Int32) (M : Mm) : Option (Int32 × Mm) :=
 bnd (C_isProcess p2 M) fun r1 =>
 if r1 = 0 then
 (some ((-1 : Int32), M))
 else
 (bnd (C_isWithin p1 (0 : Int32) (400 : Int32) M) fun r2 =>
 if r2 = 0 then
 (some ((-1 : Int32), M))
 else
 (bnd (C_isWithin p3 (0 : Int32) (3 : Int32) M) fun r3 =>
 if r3 = 0 then
 (some ((-1 : Int32), M))
 else
 (bnd (C_runAhead p1 M) fun r4 =>
 grd (r4.1 = 46) (ald p2 6 (if p3 = (0 : Int32) then
 (some ((gI r4.2 (54 + 2 * ix p2) 9), r4.2))
 else
 (if p3 = (1 : Int32) then
 (some ((gI r4.2 (54 + 2 * ix p2) 10), r4.2))
 else
 (if p3 = (2 : Int32) then
 (some ((gI r4.2 (54 + 2 * ix p2) 11), r4.2))
 else
 (some ((gI r4.2 (54 + 2 * ix p2) 12), r4.2)))))))))
abbrev rmC_later : Room := { frames := 7, cells := 0, slots := 0, locals := 184 }
set_option maxHeartbeats 4000000 in
set_option maxRecDepth 100000 in
theorem tC_later (E : Cx) (hE : CxOk E cX11_later RX11 shC (some .int) rmC_later 5) (p1 : Int32) (p2 : Int32) (p3 : Int32)  (M : Mm) : Ok E 0 [(0, .ref (E.Y.ad 0)), (1, .int p1), (2, .int p2), (3, .int p3)] [] M (C_later p1 p2 p3 M) (KI E) := by
  unfold C_later
  refine ok_aload_n hE 0 rfl dX11_later_0 ?_
  refine ok_iload_n hE 2 rfl dX11_later_1 ?_
  refine ok_cvIp hE rmC_isProcess [.int p2] [] rfl ca_X11_164 shC_0 rfl (fun _ hx => mC_isProcess hE.sys _  _ _ hx) ⟨rfl, rfl, rfl, rfl⟩ rfl rfl dX11_later_2 (fun r1 => ?_)
  refine ok_if_eq hE 28 rfl dX11_later_5 ?_ ?_
  · refine ok_iconst hE (-1 : Int32) ki_m1 dX11_later_28 ?_
    exact ok_ireturn hE dX11_later_29
  · refine ok_iload_n hE 1 rfl dX11_later_8 ?_
    refine ok_iconst hE (0 : Int32) ki_0 dX11_later_9 ?_
    refine ok_sipush hE (400 : Int32) ks_400 dX11_later_10 ?_
    refine ok_csIp hE rmC_isWithin [.int p1, .int (0 : Int32), .int (400 : Int32)] [] rfl ca_X11_306 (fun _ hx => mC_isWithin hE.sys _ _ _  _ _ hx) ⟨rfl, rfl, rfl, rfl⟩ rfl rfl dX11_later_13 (fun r2 => ?_)
    refine ok_if_eq hE 28 rfl dX11_later_16 ?_ ?_
    · refine ok_iconst hE (-1 : Int32) ki_m1 dX11_later_28 ?_
      exact ok_ireturn hE dX11_later_29
    · refine ok_iload_n hE 3 rfl dX11_later_19 ?_
      refine ok_iconst hE (0 : Int32) ki_0 dX11_later_20 ?_
      refine ok_iconst hE (3 : Int32) ki_3 dX11_later_21 ?_
      refine ok_csIp hE rmC_isWithin [.int p3, .int (0 : Int32), .int (3 : Int32)] [] rfl ca_X11_306 (fun _ hx => mC_isWithin hE.sys _ _ _  _ _ hx) ⟨rfl, rfl, rfl, rfl⟩ rfl rfl dX11_later_22 (fun r3 => ?_)
      refine ok_if_ne hE 30 rfl dX11_later_25 ?_ ?_
      · refine ok_aload_n hE 0 rfl dX11_later_30 ?_
        refine ok_iload_n hE 1 rfl dX11_later_31 ?_
        refine ok_cvA hE rmC_runAhead [.int p1] [] rfl ca_X11_310 shC_0 rfl (fun _ hx => mC_runAhead hE.sys _  _ _ hx) ⟨rfl, rfl, rfl, rfl⟩ rfl rfl dX11_later_32 (fun r4 => ?_)
        refine ok_grd (fun hg2 => ?_)
        refine ok_code hg2 ?_
        refine ok_getC hE fl_X11_171 shC_46 rfl dX11_later_35 ?_
        refine ok_iload_n hE 2 rfl dX11_later_38 ?_
        refine ok_aaloadH hE shC_47 rfl dX11_later_39 (fun hi5 => ?_)
        refine ok_astore hE [(4, .ref (E.Y.ad (54 + 2 * ix p2))), (0, .ref (E.Y.ad 0)), (1, .int p1), (2, .int p2), (3, .int p3)] rfl rfl dX11_later_40 ?_
        refine ok_iload_n hE 4 rfl dX11_later_42 ?_
        refine ok_ite (fun hc6 => ?_) (fun hc6 => ?_)
        · refine ok_tableIn hE (off := 25) (0 : Int32) 68 hc6 dX11_later_43 (by decide) rfl ?_
          refine ok_aload hE 0 rfl dX11_later_68 ?_
          refine ok_getI hE fl_X11_203 (shC_e_47 hi5) rfl dX11_later_70 ?_
          exact ok_ireturn hE dX11_later_73
        · refine ok_ite (fun hc7 => ?_) (fun hc7 => ?_)
          · refine ok_tableIn hE (off := 31) (1 : Int32) 74 hc7 dX11_later_43 (by decide) rfl ?_
            refine ok_aload hE 0 rfl dX11_later_74 ?_
            refine ok_getI hE fl_X11_206 (shC_e_47 hi5) rfl dX11_later_76 ?_
            exact ok_ireturn hE dX11_later_79
          · refine ok_ite (fun hc8 => ?_) (fun hc8 => ?_)
            · refine ok_tableIn hE (off := 37) (2 : Int32) 80 hc8 dX11_later_43 (by decide) rfl ?_
              refine ok_aload hE 0 rfl dX11_later_80 ?_
              refine ok_getI hE fl_X11_207 (shC_e_47 hi5) rfl dX11_later_82 ?_
              exact ok_ireturn hE dX11_later_85
            · refine ok_tableOut hE 86 (by have e0 := lv_neT hc6 (a := 0) rfl; have e1 := lv_neT hc7 (a := 1) rfl; have e2 := lv_neT hc8 (a := 2) rfl; omega) dX11_later_43 rfl ?_
              refine ok_aload hE 0 rfl dX11_later_86 ?_
              refine ok_getI hE fl_X11_210 (shC_e_47 hi5) rfl dX11_later_88 ?_
              exact ok_ireturn hE dX11_later_91
      · refine ok_iconst hE (-1 : Int32) ki_m1 dX11_later_28 ?_
        exact ok_ireturn hE dX11_later_29
theorem mC_later {l : Launch} {Y : Sys} {t : Nat} (hY : SysOk Y t shC) (p1 : Int32) (p2 : Int32) (p3 : Int32)  (M : Mm) (r : (Int32 × Mm)) (h : C_later p1 p2 p3 M = some r) : Cm l Y t yX11_later (WS yX11_later cX11_later 5 (some .int)) rmC_later [.ref (Y.ad 0), .int p1, .int p2, .int p3] M (enI r) := by
  refine cm_of (own := RX11) hY rfl rfl (Nat.le_of_ble_eq_true rfl) (fun E hE e1 e2 e3 e4 => ?_)
  subst e1
  exact tC_later E hE p1 p2 p3  M r h e4.symm
def C_share (p1 : Int32) (p2 : Int32) (M : Mm) : Option (Int32 × Mm) :=
 bnd (C_isProcess p2 M) fun r1 =>
 if r1 = 0 then
 (some ((-1 : Int32), M))
 else
 (bnd (C_isWithin p1 (1 : Int32) (400 : Int32) M) fun r2 =>
 if r2 = 0 then
 (some ((-1 : Int32), M))
 else
 (bnd (C_runAhead p1 M) fun r3 =>
 grd (r3.1 = 46) (plnS r3.2 46 fun q5 =>
 bnd (S_sectorsDone (sbM (emS 46 q5) r3.2)) fun r4 =>
 lett r4 fun v8 =>
 if 0 < v8 then
 (ald p2 6 (grd (¬ v8 = 0) (some ((((gI r3.2 (54 + 2 * ix p2) 10) * (100 : Int32)) / v8), r3.2))))
 else
 (some ((-1 : Int32), r3.2)))))
abbrev rmC_share : Room := { frames := 7, cells := 0, slots := 0, locals := 184 }
set_option maxHeartbeats 4000000 in
set_option maxRecDepth 100000 in
theorem tC_share (E : Cx) (hE : CxOk E cX11_share RX11 shC (some .int) rmC_share 5) (p1 : Int32) (p2 : Int32)  (M : Mm) : Ok E 0 [(0, .ref (E.Y.ad 0)), (1, .int p1), (2, .int p2)] [] M (C_share p1 p2 M) (KI E) := by
  unfold C_share
  refine ok_aload_n hE 0 rfl dX11_share_0 ?_
  refine ok_iload_n hE 2 rfl dX11_share_1 ?_
  refine ok_cvIp hE rmC_isProcess [.int p2] [] rfl ca_X11_164 shC_0 rfl (fun _ hx => mC_isProcess hE.sys _  _ _ hx) ⟨rfl, rfl, rfl, rfl⟩ rfl rfl dX11_share_2 (fun r1 => ?_)
  refine ok_if_eq hE 19 rfl dX11_share_5 ?_ ?_
  · refine ok_iconst hE (-1 : Int32) ki_m1 dX11_share_19 ?_
    exact ok_ireturn hE dX11_share_20
  · refine ok_iload_n hE 1 rfl dX11_share_8 ?_
    refine ok_iconst hE (1 : Int32) ki_1 dX11_share_9 ?_
    refine ok_sipush hE (400 : Int32) ks_400 dX11_share_10 ?_
    refine ok_csIp hE rmC_isWithin [.int p1, .int (1 : Int32), .int (400 : Int32)] [] rfl ca_X11_306 (fun _ hx => mC_isWithin hE.sys _ _ _  _ _ hx) ⟨rfl, rfl, rfl, rfl⟩ rfl rfl dX11_share_13 (fun r2 => ?_)
    refine ok_if_ne hE 21 rfl dX11_share_16 ?_ ?_
    · refine ok_aload_n hE 0 rfl dX11_share_21 ?_
      refine ok_iload_n hE 1 rfl dX11_share_22 ?_
      refine ok_cvA hE rmC_runAhead [.int p1] [] rfl ca_X11_310 shC_0 rfl (fun _ hx => mC_runAhead hE.sys _  _ _ hx) ⟨rfl, rfl, rfl, rfl⟩ rfl rfl dX11_share_23 (fun r3 => ?_)
      refine ok_grd (fun hg3 => ?_)
      refine ok_code hg3 ?_
      refine ok_astore_n hE [(3, .ref (E.Y.ad 46)), (0, .ref (E.Y.ad 0)), (1, .int p1), (2, .int p2)] rfl rfl dX11_share_26 ?_
      refine ok_aload_n hE 0 rfl dX11_share_27 ?_
      refine ok_plnS hE (fun q5 hq6 => ?_)
      refine ok_xIp hE rmS_sectorsDone [] [] rfl ca_X11_314 shC_46 rfl hq6 rfl (fun hs _ hx => mS_sectorsDone hs   _ _ hx) ⟨rfl, rfl, rfl, rfl⟩ rfl rfl dX11_share_28 (fun r4 => ?_)
      refine ok_istore hE (fun v8 => [(4, .int v8), (3, .ref (E.Y.ad 46)), (0, .ref (E.Y.ad 0)), (1, .int p1), (2, .int p2)]) (fun _ => rfl) rfl dX11_share_31 (fun v8 => ?_)
      refine ok_iload hE 0 rfl dX11_share_33 ?_
      refine ok_if_gt hE 42 rfl dX11_share_35 ?_ ?_
      · refine ok_aload_n hE 1 rfl dX11_share_42 ?_
        refine ok_getC hE fl_X11_171 shC_46 rfl dX11_share_43 ?_
        refine ok_iload_n hE 4 rfl dX11_share_46 ?_
        refine ok_aaloadH hE shC_47 rfl dX11_share_47 (fun hi9 => ?_)
        refine ok_getI hE fl_X11_206 (shC_e_47 hi9) rfl dX11_share_48 ?_
        refine ok_bipush hE (100 : Int32) kb_100 dX11_share_51 ?_
        refine ok_imul hE dX11_share_53 ?_
        refine ok_iload hE 0 rfl dX11_share_54 ?_
        refine ok_idiv hE dX11_share_56 ?_
        exact ok_ireturn hE dX11_share_57
      · refine ok_iconst hE (-1 : Int32) ki_m1 dX11_share_38 ?_
        refine ok_goto hE 57 rfl dX11_share_39 ?_
        exact ok_ireturn hE dX11_share_57
    · refine ok_iconst hE (-1 : Int32) ki_m1 dX11_share_19 ?_
      exact ok_ireturn hE dX11_share_20
theorem mC_share {l : Launch} {Y : Sys} {t : Nat} (hY : SysOk Y t shC) (p1 : Int32) (p2 : Int32)  (M : Mm) (r : (Int32 × Mm)) (h : C_share p1 p2 M = some r) : Cm l Y t yX11_share (WS yX11_share cX11_share 5 (some .int)) rmC_share [.ref (Y.ad 0), .int p1, .int p2] M (enI r) := by
  refine cm_of (own := RX11) hY rfl rfl (Nat.le_of_ble_eq_true rfl) (fun E hE e1 e2 e3 e4 => ?_)
  subst e1
  exact tC_share E hE p1 p2  M r h e4.symm
def C_when (p1 : Int32) (p2 : Int32) (M : Mm) : Option (Int32 × Mm) :=
 bnd (C_isProcess p1 M) fun r1 =>
 if r1 = 0 then
 (some ((-1 : Int32), M))
 else
 (bnd (C_isWithin p2 (1 : Int32) (40 : Int32) M) fun r2 =>
 if r2 = 0 then
 (some ((-1 : Int32), M))
 else
 (bnd (C_startAhead M) fun r3 =>
 grd (r3.1 = 46) (ald p1 6 (lett (1 : Int32) fun v5 =>
 loopR (fun (rec36 : (Int32 × Mm) → Option (Int32 × Mm)) (x6 : Int32 × Mm) =>
 if (400 : Int32) < x6.1 then
 (some ((-1 : Int32), x6.2))
 else
 (plnS x6.2 46 fun q8 =>
 bnd (S_run (1 : Int32) (sbM (emS 46 q8) x6.2)) fun x7 =>
 lett (inM (dmS 46 q8) kpS x6.2 x7) fun M10 =>
 if (gI M10 (54 + 2 * ix p1) 9) < p2 then
 (lett (x6.1 + (1 : Int32)) fun v11 =>
 rec36 (v11, M10))
 else
 (some (x6.1, M10)))) 1000000 (v5, r3.2)))))
abbrev rmC_when : Room := { frames := 6, cells := 0, slots := 0, locals := 162 }
set_option maxHeartbeats 4000000 in
set_option maxRecDepth 100000 in
theorem tC_when (E : Cx) (hE : CxOk E cX11_when RX11 shC (some .int) rmC_when 6) (p1 : Int32) (p2 : Int32)  (M : Mm) : Ok E 0 [(0, .ref (E.Y.ad 0)), (1, .int p1), (2, .int p2)] [] M (C_when p1 p2 M) (KI E) := by
  unfold C_when
  refine ok_aload_n hE 0 rfl dX11_when_0 ?_
  refine ok_iload_n hE 1 rfl dX11_when_1 ?_
  refine ok_cvIp hE rmC_isProcess [.int p1] [] rfl ca_X11_164 shC_0 rfl (fun _ hx => mC_isProcess hE.sys _  _ _ hx) ⟨rfl, rfl, rfl, rfl⟩ rfl rfl dX11_when_2 (fun r1 => ?_)
  refine ok_if_eq hE 18 rfl dX11_when_5 ?_ ?_
  · refine ok_iconst hE (-1 : Int32) ki_m1 dX11_when_18 ?_
    exact ok_ireturn hE dX11_when_19
  · refine ok_iload_n hE 2 rfl dX11_when_8 ?_
    refine ok_iconst hE (1 : Int32) ki_1 dX11_when_9 ?_
    refine ok_bipush hE (40 : Int32) kb_40 dX11_when_10 ?_
    refine ok_csIp hE rmC_isWithin [.int p2, .int (1 : Int32), .int (40 : Int32)] [] rfl ca_X11_306 (fun _ hx => mC_isWithin hE.sys _ _ _  _ _ hx) ⟨rfl, rfl, rfl, rfl⟩ rfl rfl dX11_when_12 (fun r2 => ?_)
    refine ok_if_ne hE 20 rfl dX11_when_15 ?_ ?_
    · refine ok_aload_n hE 0 rfl dX11_when_20 ?_
      refine ok_cvA hE rmC_startAhead [] [] rfl ca_X11_317 shC_0 rfl (fun _ hx => mC_startAhead hE.sys   _ _ hx) ⟨rfl, rfl, rfl, rfl⟩ rfl rfl dX11_when_21 (fun r3 => ?_)
      refine ok_grd (fun hg4 => ?_)
      refine ok_code hg4 ?_
      refine ok_astore_n hE [(3, .ref (E.Y.ad 46)), (0, .ref (E.Y.ad 0)), (1, .int p1), (2, .int p2)] rfl rfl dX11_when_24 ?_
      refine ok_aload_n hE 0 rfl dX11_when_25 ?_
      refine ok_getC hE fl_X11_171 shC_46 rfl dX11_when_26 ?_
      refine ok_iload_n hE 2 rfl dX11_when_29 ?_
      refine ok_aaloadH hE shC_47 rfl dX11_when_30 (fun hi4 => ?_)
      refine ok_astore hE [(4, .ref (E.Y.ad (54 + 2 * ix p1))), (3, .ref (E.Y.ad 46)), (0, .ref (E.Y.ad 0)), (1, .int p1), (2, .int p2)] rfl rfl dX11_when_31 ?_
      refine ok_iconst hE (1 : Int32) ki_1 dX11_when_33 ?_
      refine ok_istore hE (fun v5 => [(5, .int v5), (4, .ref (E.Y.ad (54 + 2 * ix p1))), (3, .ref (E.Y.ad 46)), (0, .ref (E.Y.ad 0)), (1, .int p1), (2, .int p2)]) (fun _ => rfl) rfl dX11_when_34 (fun v5 => ?_)
      refine ok_sub [5, 2, 1, 0] rfl (ok_loop (σ := Int32 × Mm) 36 (fun x6 => [(2, .int p2), (3, .ref (E.Y.ad 46)), (4, .ref (E.Y.ad (54 + 2 * ix p1))), (5, .int x6.1)]) (fun x6 => x6.2) (fun rec36 hrec36 x6 => ?_) 1000000 (v5, r3.2))
      refine ok_iload hE 3 rfl dX11_when_36 ?_
      refine ok_sipush hE (400 : Int32) ks_400 dX11_when_38 ?_
      refine ok_icmp_gt hE 67 rfl dX11_when_41 ?_ ?_
      · refine ok_iconst hE (-1 : Int32) ki_m1 dX11_when_67 ?_
        exact ok_ireturn hE dX11_when_68
      · refine ok_aload_n hE 1 rfl dX11_when_44 ?_
        refine ok_iconst hE (1 : Int32) ki_1 dX11_when_45 ?_
        refine ok_plnS hE (fun q8 hq9 => ?_)
        refine ok_xV hE rmS_run [.int (1 : Int32)] [] rfl ca_X11_321 shC_46 rfl hq9 rfl (fun hs _ hx => mS_run hs _  _ _ hx) ⟨rfl, rfl, rfl, rfl⟩ rfl rfl dX11_when_46 (fun x7 M10 => ?_)
        refine ok_aload hE 2 rfl dX11_when_49 ?_
        refine ok_getI hE fl_X11_203 (shC_e_47 hi4) rfl dX11_when_51 ?_
        refine ok_iload_n hE 0 rfl dX11_when_54 ?_
        refine ok_icmp_lt hE 61 rfl dX11_when_55 ?_ ?_
        · refine ok_iinc hE 3 (x6.1 + (1 : Int32)) (by rw [ko_1]) (fun v11 => [(5, .int v11), (2, .int p2), (3, .ref (E.Y.ad 46)), (4, .ref (E.Y.ad (54 + 2 * ix p1)))]) rfl (fun _ => rfl) rfl dX11_when_61 (fun v11 => ?_)
          refine ok_goto hE 36 rfl dX11_when_64 ?_
          exact ok_sub [1, 2, 3, 0] rfl (hrec36 (v11, M10))
        · refine ok_iload hE 3 rfl dX11_when_58 ?_
          exact ok_ireturn hE dX11_when_60
    · refine ok_iconst hE (-1 : Int32) ki_m1 dX11_when_18 ?_
      exact ok_ireturn hE dX11_when_19
theorem mC_when {l : Launch} {Y : Sys} {t : Nat} (hY : SysOk Y t shC) (p1 : Int32) (p2 : Int32)  (M : Mm) (r : (Int32 × Mm)) (h : C_when p1 p2 M = some r) : Cm l Y t yX11_when (WS yX11_when cX11_when 6 (some .int)) rmC_when [.ref (Y.ad 0), .int p1, .int p2] M (enI r) := by
  refine cm_of (own := RX11) hY rfl rfl (Nat.le_of_ble_eq_true rfl) (fun E hE e1 e2 e3 e4 => ?_)
  subst e1
  exact tC_when E hE p1 p2  M r h e4.symm
def C_runAboveAhead (p1 : Int32) (p2 : Int32) (M : Mm) : Option (Nat × Mm) :=
 bnd (C_startAhead M) fun r1 =>
 grd (r1.1 = 46) (lett (sI r1.2 46 19 p2) fun M2 =>
 plnS M2 46 fun q4 =>
 bnd (S_run p1 (sbM (emS 46 q4) M2)) fun x3 =>
 lett (inM (dmS 46 q4) kpS M2 x3) fun M6 =>
 some (46, M6))
abbrev rmC_runAboveAhead : Room := { frames := 6, cells := 0, slots := 0, locals := 162 }
set_option maxHeartbeats 4000000 in
set_option maxRecDepth 100000 in
theorem tC_runAboveAhead (E : Cx) (hE : CxOk E cX11_runAboveAhead RX11 shC (some (.object "DiskBudgets$State")) rmC_runAboveAhead 4) (p1 : Int32) (p2 : Int32)  (M : Mm) : Ok E 0 [(0, .ref (E.Y.ad 0)), (1, .int p1), (2, .int p2)] [] M (C_runAboveAhead p1 p2 M) (KA E) := by
  unfold C_runAboveAhead
  refine ok_aload_n hE 0 rfl dX11_runAboveAhead_0 ?_
  refine ok_cvA hE rmC_startAhead [] [] rfl ca_X11_317 shC_0 rfl (fun _ hx => mC_startAhead hE.sys   _ _ hx) ⟨rfl, rfl, rfl, rfl⟩ rfl rfl dX11_runAboveAhead_1 (fun r1 => ?_)
  refine ok_grd (fun hg5 => ?_)
  refine ok_code hg5 ?_
  refine ok_astore_n hE [(3, .ref (E.Y.ad 46)), (0, .ref (E.Y.ad 0)), (1, .int p1), (2, .int p2)] rfl rfl dX11_runAboveAhead_4 ?_
  refine ok_aload_n hE 0 rfl dX11_runAboveAhead_5 ?_
  refine ok_iload_n hE 3 rfl dX11_runAboveAhead_6 ?_
  refine ok_putI hE fl_X11_412 shC_46 rfl dX11_runAboveAhead_7 (fun M2 => ?_)
  refine ok_aload_n hE 0 rfl dX11_runAboveAhead_10 ?_
  refine ok_iload_n hE 2 rfl dX11_runAboveAhead_11 ?_
  refine ok_plnS hE (fun q4 hq5 => ?_)
  refine ok_xV hE rmS_run [.int p1] [] rfl ca_X11_321 shC_46 rfl hq5 rfl (fun hs _ hx => mS_run hs _  _ _ hx) ⟨rfl, rfl, rfl, rfl⟩ rfl rfl dX11_runAboveAhead_12 (fun x3 M6 => ?_)
  refine ok_aload_n hE 0 rfl dX11_runAboveAhead_15 ?_
  exact ok_areturn hE dX11_runAboveAhead_16
theorem mC_runAboveAhead {l : Launch} {Y : Sys} {t : Nat} (hY : SysOk Y t shC) (p1 : Int32) (p2 : Int32)  (M : Mm) (r : (Nat × Mm)) (h : C_runAboveAhead p1 p2 M = some r) : Cm l Y t yX11_runAboveAhead (WS yX11_runAboveAhead cX11_runAboveAhead 4 (some (.object "DiskBudgets$State"))) rmC_runAboveAhead [.ref (Y.ad 0), .int p1, .int p2] M (enA Y.ad r) := by
  refine cm_of (own := RX11) hY rfl rfl (Nat.le_of_ble_eq_true rfl) (fun E hE e1 e2 e3 e4 => ?_)
  subst e1
  exact tC_runAboveAhead E hE p1 p2  M r h e4.symm
def C_late (p1 : Int32) (p2 : Int32) (p3 : Int32) (M : Mm) : Option (Int32 × Mm) :=
 bnd (C_isProcess p2 M) fun r1 =>
 if r1 = 0 then
 (some ((-1 : Int32), M))
 else
 (bnd (C_isWithin p1 (0 : Int32) (400 : Int32) M) fun r2 =>
 if r2 = 0 then
 (some ((-1 : Int32), M))
 else
 (if 0 ≤ p3 then
 (bnd (C_runAboveAhead p1 p3 M) fun r3 =>
 grd (r3.1 = 46) (ald p2 6 (some ((gI r3.2 (54 + 2 * ix p2) 13), r3.2))))
 else
 (some ((-1 : Int32), M))))
abbrev rmC_late : Room := { frames := 7, cells := 0, slots := 0, locals := 185 }
set_option maxHeartbeats 4000000 in
set_option maxRecDepth 100000 in
theorem tC_late (E : Cx) (hE : CxOk E cX11_late RX11 shC (some .int) rmC_late 4) (p1 : Int32) (p2 : Int32) (p3 : Int32)  (M : Mm) : Ok E 0 [(0, .ref (E.Y.ad 0)), (1, .int p1), (2, .int p2), (3, .int p3)] [] M (C_late p1 p2 p3 M) (KI E) := by
  unfold C_late
  refine ok_aload_n hE 0 rfl dX11_late_0 ?_
  refine ok_iload_n hE 2 rfl dX11_late_1 ?_
  refine ok_cvIp hE rmC_isProcess [.int p2] [] rfl ca_X11_164 shC_0 rfl (fun _ hx => mC_isProcess hE.sys _  _ _ hx) ⟨rfl, rfl, rfl, rfl⟩ rfl rfl dX11_late_2 (fun r1 => ?_)
  refine ok_if_eq hE 23 rfl dX11_late_5 ?_ ?_
  · refine ok_iconst hE (-1 : Int32) ki_m1 dX11_late_23 ?_
    exact ok_ireturn hE dX11_late_24
  · refine ok_iload_n hE 1 rfl dX11_late_8 ?_
    refine ok_iconst hE (0 : Int32) ki_0 dX11_late_9 ?_
    refine ok_sipush hE (400 : Int32) ks_400 dX11_late_10 ?_
    refine ok_csIp hE rmC_isWithin [.int p1, .int (0 : Int32), .int (400 : Int32)] [] rfl ca_X11_306 (fun _ hx => mC_isWithin hE.sys _ _ _  _ _ hx) ⟨rfl, rfl, rfl, rfl⟩ rfl rfl dX11_late_13 (fun r2 => ?_)
    refine ok_if_eq hE 23 rfl dX11_late_16 ?_ ?_
    · refine ok_iconst hE (-1 : Int32) ki_m1 dX11_late_23 ?_
      exact ok_ireturn hE dX11_late_24
    · refine ok_iload_n hE 3 rfl dX11_late_19 ?_
      refine ok_if_ge hE 25 rfl dX11_late_20 ?_ ?_
      · refine ok_aload_n hE 0 rfl dX11_late_25 ?_
        refine ok_iload_n hE 1 rfl dX11_late_26 ?_
        refine ok_iload_n hE 3 rfl dX11_late_27 ?_
        refine ok_cvA hE rmC_runAboveAhead [.int p1, .int p3] [] rfl ca_X11_324 shC_0 rfl (fun _ hx => mC_runAboveAhead hE.sys _ _  _ _ hx) ⟨rfl, rfl, rfl, rfl⟩ rfl rfl dX11_late_28 (fun r3 => ?_)
        refine ok_grd (fun hg6 => ?_)
        refine ok_code hg6 ?_
        refine ok_getC hE fl_X11_171 shC_46 rfl dX11_late_31 ?_
        refine ok_iload_n hE 2 rfl dX11_late_34 ?_
        refine ok_aaloadH hE shC_47 rfl dX11_late_35 (fun hi4 => ?_)
        refine ok_getI hE fl_X11_328 (shC_e_47 hi4) rfl dX11_late_36 ?_
        exact ok_ireturn hE dX11_late_39
      · refine ok_iconst hE (-1 : Int32) ki_m1 dX11_late_23 ?_
        exact ok_ireturn hE dX11_late_24
theorem mC_late {l : Launch} {Y : Sys} {t : Nat} (hY : SysOk Y t shC) (p1 : Int32) (p2 : Int32) (p3 : Int32)  (M : Mm) (r : (Int32 × Mm)) (h : C_late p1 p2 p3 M = some r) : Cm l Y t yX11_late (WS yX11_late cX11_late 4 (some .int)) rmC_late [.ref (Y.ad 0), .int p1, .int p2, .int p3] M (enI r) := by
  refine cm_of (own := RX11) hY rfl rfl (Nat.le_of_ble_eq_true rfl) (fun E hE e1 e2 e3 e4 => ?_)
  subst e1
  exact tC_late E hE p1 p2 p3  M r h e4.symm
def C_alone (p1 : Int32) (p2 : Int32) (M : Mm) : Option (Int32 × Mm) :=
 bnd (C_isProcess p2 M) fun r1 =>
 if r1 = 0 then
 (some ((-1 : Int32), M))
 else
 (bnd (C_isWithin p1 (0 : Int32) (400 : Int32) M) fun r2 =>
 if r2 = 0 then
 (some ((-1 : Int32), M))
 else
 (bnd (C_startAhead M) fun r3 =>
 grd (r3.1 = 46) (lett (0 : Int32) fun v4 =>
 lett (fun (M_4 : Mm) =>
 plnS M_4 46 fun q7 =>
 bnd (S_run p1 (sbM (emS 46 q7) M_4)) fun x6 =>
 lett (inM (dmS 46 q7) kpS M_4 x6) fun M9 =>
 ald p2 6 (some ((gI M9 (54 + 2 * ix p2) 10), M9))) fun j68 =>
 loopR (fun (rec29 : (Int32 × Mm) → Option (Int32 × Mm)) (x11 : Int32 × Mm) =>
 lett (gR x11.2 0 0) fun y12 =>
 nn y12 fun c13 => grd (shC c13 = shCX2) (if (gI x11.2 c13 11) ≤ x11.1 then
 (j68 x11.2)
 else
 (ald x11.1 6 (lett (fun (w_15 : Int32) =>
 grd (w_15 = 0 ∨ w_15 = 1) (lett (sI x11.2 (54 + 2 * ix x11.1) 1 w_15) fun M17 =>
 lett (x11.1 + (1 : Int32)) fun v18 =>
 rec29 (v18, M17))) fun j59 =>
 if x11.1 = p2 then
 (j59 (1 : Int32))
 else
 (j59 (0 : Int32)))))) 1000000 (v4, r3.2))))
abbrev rmC_alone : Room := { frames := 6, cells := 0, slots := 0, locals := 162 }
set_option maxHeartbeats 4000000 in
set_option maxRecDepth 100000 in
theorem tC_alone (E : Cx) (hE : CxOk E cX11_alone RX11 shC (some .int) rmC_alone 5) (p1 : Int32) (p2 : Int32)  (M : Mm) : Ok E 0 [(0, .ref (E.Y.ad 0)), (1, .int p1), (2, .int p2)] [] M (C_alone p1 p2 M) (KI E) := by
  unfold C_alone
  refine ok_aload_n hE 0 rfl dX11_alone_0 ?_
  refine ok_iload_n hE 2 rfl dX11_alone_1 ?_
  refine ok_cvIp hE rmC_isProcess [.int p2] [] rfl ca_X11_164 shC_0 rfl (fun _ hx => mC_isProcess hE.sys _  _ _ hx) ⟨rfl, rfl, rfl, rfl⟩ rfl rfl dX11_alone_2 (fun r1 => ?_)
  refine ok_if_eq hE 19 rfl dX11_alone_5 ?_ ?_
  · refine ok_iconst hE (-1 : Int32) ki_m1 dX11_alone_19 ?_
    exact ok_ireturn hE dX11_alone_20
  · refine ok_iload_n hE 1 rfl dX11_alone_8 ?_
    refine ok_iconst hE (0 : Int32) ki_0 dX11_alone_9 ?_
    refine ok_sipush hE (400 : Int32) ks_400 dX11_alone_10 ?_
    refine ok_csIp hE rmC_isWithin [.int p1, .int (0 : Int32), .int (400 : Int32)] [] rfl ca_X11_306 (fun _ hx => mC_isWithin hE.sys _ _ _  _ _ hx) ⟨rfl, rfl, rfl, rfl⟩ rfl rfl dX11_alone_13 (fun r2 => ?_)
    refine ok_if_ne hE 21 rfl dX11_alone_16 ?_ ?_
    · refine ok_aload_n hE 0 rfl dX11_alone_21 ?_
      refine ok_cvA hE rmC_startAhead [] [] rfl ca_X11_317 shC_0 rfl (fun _ hx => mC_startAhead hE.sys   _ _ hx) ⟨rfl, rfl, rfl, rfl⟩ rfl rfl dX11_alone_22 (fun r3 => ?_)
      refine ok_grd (fun hg7 => ?_)
      refine ok_code hg7 ?_
      refine ok_astore_n hE [(3, .ref (E.Y.ad 46)), (0, .ref (E.Y.ad 0)), (1, .int p1), (2, .int p2)] rfl rfl dX11_alone_25 ?_
      refine ok_iconst hE (0 : Int32) ki_0 dX11_alone_26 ?_
      refine ok_istore hE (fun v4 => [(4, .int v4), (3, .ref (E.Y.ad 46)), (0, .ref (E.Y.ad 0)), (1, .int p1), (2, .int p2)]) (fun _ => rfl) rfl dX11_alone_27 (fun v4 => ?_)
      refine ok_fun (fun j => ∀ (M_4 : Mm), Ok E 68 [(1, .int p1), (2, .int p2), (3, .ref (E.Y.ad 46))] [] M_4 (j M_4) (KI E)) (fun M_4 => ?_) (fun j68 hj68 => ?_)
      · refine ok_aload_n hE 2 rfl dX11_alone_68 ?_
        refine ok_iload_n hE 0 rfl dX11_alone_69 ?_
        refine ok_plnS hE (fun q7 hq8 => ?_)
        refine ok_xV hE rmS_run [.int p1] [] rfl ca_X11_321 shC_46 rfl hq8 rfl (fun hs _ hx => mS_run hs _  _ _ hx) ⟨rfl, rfl, rfl, rfl⟩ rfl rfl dX11_alone_70 (fun x6 M9 => ?_)
        refine ok_aload_n hE 2 rfl dX11_alone_73 ?_
        refine ok_getC hE fl_X11_171 shC_46 rfl dX11_alone_74 ?_
        refine ok_iload_n hE 1 rfl dX11_alone_77 ?_
        refine ok_aaloadH hE shC_47 rfl dX11_alone_78 (fun hi10 => ?_)
        refine ok_getI hE fl_X11_206 (shC_e_47 hi10) rfl dX11_alone_79 ?_
        exact ok_ireturn hE dX11_alone_82
      refine ok_sub [2, 3, 4, 1, 0] rfl (ok_loop (σ := Int32 × Mm) 29 (fun x11 => [(0, .ref (E.Y.ad 0)), (1, .int p1), (2, .int p2), (3, .ref (E.Y.ad 46)), (4, .int x11.1)]) (fun x11 => x11.2) (fun rec29 hrec29 x11 => ?_) 1000000 (v4, r3.2))
      refine ok_iload hE 4 rfl dX11_alone_29 ?_
      refine ok_aload_n hE 0 rfl dX11_alone_31 ?_
      refine ok_getRL hE fl_X11_10 shC_0 rfl dX11_alone_32 (fun y12 => ?_)
      rcases y12 with _ | c13
      · exact fun r hr => by cases hr
      dsimp only [nn]
      refine ok_grd (fun hc14 => ?_)
      refine ok_getI hE fl_X11_125 hc14 rfl dX11_alone_35 ?_
      refine ok_icmp_ge hE 68 rfl dX11_alone_38 ?_ ?_
      · exact ok_sub [1, 2, 3] rfl (hj68 x11.2)
      · refine ok_aload_n hE 3 rfl dX11_alone_41 ?_
        refine ok_getC hE fl_X11_171 shC_46 rfl dX11_alone_42 ?_
        refine ok_iload hE 4 rfl dX11_alone_45 ?_
        refine ok_aaloadH hE shC_47 rfl dX11_alone_47 (fun hi15 => ?_)
        refine ok_iload hE 4 rfl dX11_alone_48 ?_
        refine ok_iload_n hE 2 rfl dX11_alone_50 ?_
        refine ok_fun (fun j => ∀ (w_15 : Int32), Ok E 59 [(0, .ref (E.Y.ad 0)), (1, .int p1), (2, .int p2), (3, .ref (E.Y.ad 46)), (4, .int x11.1)] [.int w_15, .ref (E.Y.ad (54 + 2 * ix x11.1))] x11.2 (j w_15) (KI E)) (fun w_15 => ?_) (fun j59 hj59 => ?_)
        · refine ok_putZG hE fl_X11_200 (shC_e_47 hi15) rfl dX11_alone_59 (fun M17 => ?_)
          refine ok_iinc hE 4 (x11.1 + (1 : Int32)) (by rw [ko_1]) (fun v18 => [(4, .int v18), (0, .ref (E.Y.ad 0)), (1, .int p1), (2, .int p2), (3, .ref (E.Y.ad 46))]) rfl (fun _ => rfl) rfl dX11_alone_62 (fun v18 => ?_)
          refine ok_goto hE 29 rfl dX11_alone_65 ?_
          exact ok_sub [1, 2, 3, 4, 0] rfl (hrec29 (v18, M17))
        refine ok_icmp_ne hE 58 rfl dX11_alone_51 ?_ ?_
        · refine ok_iconst hE (0 : Int32) ki_0 dX11_alone_58 ?_
          exact ok_sub [0, 1, 2, 3, 4] rfl (hj59 (0 : Int32))
        · refine ok_iconst hE (1 : Int32) ki_1 dX11_alone_54 ?_
          refine ok_goto hE 59 rfl dX11_alone_55 ?_
          exact ok_sub [0, 1, 2, 3, 4] rfl (hj59 (1 : Int32))
    · refine ok_iconst hE (-1 : Int32) ki_m1 dX11_alone_19 ?_
      exact ok_ireturn hE dX11_alone_20
theorem mC_alone {l : Launch} {Y : Sys} {t : Nat} (hY : SysOk Y t shC) (p1 : Int32) (p2 : Int32)  (M : Mm) (r : (Int32 × Mm)) (h : C_alone p1 p2 M = some r) : Cm l Y t yX11_alone (WS yX11_alone cX11_alone 5 (some .int)) rmC_alone [.ref (Y.ad 0), .int p1, .int p2] M (enI r) := by
  refine cm_of (own := RX11) hY rfl rfl (Nat.le_of_ble_eq_true rfl) (fun E hE e1 e2 e3 e4 => ?_)
  subst e1
  exact tC_alone E hE p1 p2  M r h e4.symm
def C_sectorsByIdle (p1 : Int32) (p2 : Int32) (M : Mm) : Option (Int32 × Mm) :=
 bnd (C_startAhead M) fun r1 =>
 grd (r1.1 = 46) (lett (sI r1.2 46 16 p2) fun M2 =>
 plnS M2 46 fun q4 =>
 bnd (S_run p1 (sbM (emS 46 q4) M2)) fun x3 =>
 lett (inM (dmS 46 q4) kpS M2 x3) fun M6 =>
 plnS M6 46 fun q8 =>
 bnd (S_sectorsDone (sbM (emS 46 q8) M6)) fun r7 =>
 some (r7, M6))
abbrev rmC_sectorsByIdle : Room := { frames := 6, cells := 0, slots := 0, locals := 162 }
set_option maxHeartbeats 4000000 in
set_option maxRecDepth 100000 in
theorem tC_sectorsByIdle (E : Cx) (hE : CxOk E cX11_sectorsByIdle RX11 shC (some .int) rmC_sectorsByIdle 4) (p1 : Int32) (p2 : Int32)  (M : Mm) : Ok E 0 [(0, .ref (E.Y.ad 0)), (1, .int p1), (2, .int p2)] [] M (C_sectorsByIdle p1 p2 M) (KI E) := by
  unfold C_sectorsByIdle
  refine ok_aload_n hE 0 rfl dX11_sectorsByIdle_0 ?_
  refine ok_cvA hE rmC_startAhead [] [] rfl ca_X11_317 shC_0 rfl (fun _ hx => mC_startAhead hE.sys   _ _ hx) ⟨rfl, rfl, rfl, rfl⟩ rfl rfl dX11_sectorsByIdle_1 (fun r1 => ?_)
  refine ok_grd (fun hg8 => ?_)
  refine ok_code hg8 ?_
  refine ok_astore_n hE [(3, .ref (E.Y.ad 46)), (0, .ref (E.Y.ad 0)), (1, .int p1), (2, .int p2)] rfl rfl dX11_sectorsByIdle_4 ?_
  refine ok_aload_n hE 0 rfl dX11_sectorsByIdle_5 ?_
  refine ok_iload_n hE 3 rfl dX11_sectorsByIdle_6 ?_
  refine ok_putI hE fl_X11_145 shC_46 rfl dX11_sectorsByIdle_7 (fun M2 => ?_)
  refine ok_aload_n hE 0 rfl dX11_sectorsByIdle_10 ?_
  refine ok_iload_n hE 2 rfl dX11_sectorsByIdle_11 ?_
  refine ok_plnS hE (fun q4 hq5 => ?_)
  refine ok_xV hE rmS_run [.int p1] [] rfl ca_X11_321 shC_46 rfl hq5 rfl (fun hs _ hx => mS_run hs _  _ _ hx) ⟨rfl, rfl, rfl, rfl⟩ rfl rfl dX11_sectorsByIdle_12 (fun x3 M6 => ?_)
  refine ok_aload_n hE 0 rfl dX11_sectorsByIdle_15 ?_
  refine ok_plnS hE (fun q8 hq9 => ?_)
  refine ok_xIp hE rmS_sectorsDone [] [] rfl ca_X11_314 shC_46 rfl hq9 rfl (fun hs _ hx => mS_sectorsDone hs   _ _ hx) ⟨rfl, rfl, rfl, rfl⟩ rfl rfl dX11_sectorsByIdle_16 (fun r7 => ?_)
  exact ok_ireturn hE dX11_sectorsByIdle_19
theorem mC_sectorsByIdle {l : Launch} {Y : Sys} {t : Nat} (hY : SysOk Y t shC) (p1 : Int32) (p2 : Int32)  (M : Mm) (r : (Int32 × Mm)) (h : C_sectorsByIdle p1 p2 M = some r) : Cm l Y t yX11_sectorsByIdle (WS yX11_sectorsByIdle cX11_sectorsByIdle 4 (some .int)) rmC_sectorsByIdle [.ref (Y.ad 0), .int p1, .int p2] M (enI r) := by
  refine cm_of (own := RX11) hY rfl rfl (Nat.le_of_ble_eq_true rfl) (fun E hE e1 e2 e3 e4 => ?_)
  subst e1
  exact tC_sectorsByIdle E hE p1 p2  M r h e4.symm
def C_idling (p1 : Int32) (p2 : Int32) (M : Mm) : Option (Int32 × Mm) :=
 lett (gR M 0 0) fun y1 =>
 nn y1 fun c2 => grd (shC c2 = shCX2) (if (gI M c2 11) = 0 then
 (some ((-1 : Int32), M))
 else
 (bnd (C_isWithin p1 (1 : Int32) (200 : Int32) M) fun r4 =>
 if r4 = 0 then
 (some ((-1 : Int32), M))
 else
 (bnd (C_isWithin p2 (0 : Int32) (1 : Int32) M) fun r5 =>
 if r5 = 0 then
 (some ((-1 : Int32), M))
 else
 (lett (0 : Int32) fun v6 =>
 lett (-1 : Int32) fun v7 =>
 lett (0 : Int32) fun v8 =>
 lett (fun (u_8 : Int32) (u_9 : Int32) (M_10 : Mm) =>
 if p2 = 0 then
 (some (u_8, M_10))
 else
 (some (u_9, M_10))) fun j76 =>
 loopR (fun (rec40 : (Int32 × Int32 × Int32 × Mm) → Option (Int32 × Mm)) (x12 : Int32 × Int32 × Int32 × Mm) =>
 if (20 : Int32) < x12.2.2.1 then
 (j76 x12.1 x12.2.1 x12.2.2.2)
 else
 (bnd (C_sectorsByIdle p1 x12.2.2.1 x12.2.2.2) fun r13 =>
 lett r13.1 fun v14 =>
 lett (fun (u_14 : Int32) (u_15 : Int32) =>
 lett (x12.2.2.1 + (1 : Int32)) fun v17 =>
 rec40 (u_14, u_15, v17, r13.2)) fun j70 =>
 if v14 ≤ x12.2.1 then
 (j70 x12.1 x12.2.1)
 else
 (lett v14 fun v18 =>
 lett x12.2.2.1 fun v19 =>
 j70 v19 v18))) 1000000 (v6, v7, v8, M)))))
abbrev rmC_idling : Room := { frames := 7, cells := 0, slots := 0, locals := 185 }
set_option maxHeartbeats 4000000 in
set_option maxRecDepth 100000 in
theorem tC_idling (E : Cx) (hE : CxOk E cX11_idling RX11 shC (some .int) rmC_idling 7) (p1 : Int32) (p2 : Int32)  (M : Mm) : Ok E 0 [(0, .ref (E.Y.ad 0)), (1, .int p1), (2, .int p2)] [] M (C_idling p1 p2 M) (KI E) := by
  unfold C_idling
  refine ok_aload_n hE 0 rfl dX11_idling_0 ?_
  refine ok_getRL hE fl_X11_10 shC_0 rfl dX11_idling_1 (fun y1 => ?_)
  rcases y1 with _ | c2
  · exact fun r hr => by cases hr
  dsimp only [nn]
  refine ok_grd (fun hc3 => ?_)
  refine ok_getI hE fl_X11_125 hc3 rfl dX11_idling_4 ?_
  refine ok_if_eq hE 30 rfl dX11_idling_7 ?_ ?_
  · refine ok_iconst hE (-1 : Int32) ki_m1 dX11_idling_30 ?_
    exact ok_ireturn hE dX11_idling_31
  · refine ok_iload_n hE 1 rfl dX11_idling_10 ?_
    refine ok_iconst hE (1 : Int32) ki_1 dX11_idling_11 ?_
    refine ok_sipush hE (200 : Int32) ks_200 dX11_idling_12 ?_
    refine ok_csIp hE rmC_isWithin [.int p1, .int (1 : Int32), .int (200 : Int32)] [] rfl ca_X11_306 (fun _ hx => mC_isWithin hE.sys _ _ _  _ _ hx) ⟨rfl, rfl, rfl, rfl⟩ rfl rfl dX11_idling_15 (fun r4 => ?_)
    refine ok_if_eq hE 30 rfl dX11_idling_18 ?_ ?_
    · refine ok_iconst hE (-1 : Int32) ki_m1 dX11_idling_30 ?_
      exact ok_ireturn hE dX11_idling_31
    · refine ok_iload_n hE 2 rfl dX11_idling_21 ?_
      refine ok_iconst hE (0 : Int32) ki_0 dX11_idling_22 ?_
      refine ok_iconst hE (1 : Int32) ki_1 dX11_idling_23 ?_
      refine ok_csIp hE rmC_isWithin [.int p2, .int (0 : Int32), .int (1 : Int32)] [] rfl ca_X11_306 (fun _ hx => mC_isWithin hE.sys _ _ _  _ _ hx) ⟨rfl, rfl, rfl, rfl⟩ rfl rfl dX11_idling_24 (fun r5 => ?_)
      refine ok_if_ne hE 32 rfl dX11_idling_27 ?_ ?_
      · refine ok_iconst hE (0 : Int32) ki_0 dX11_idling_32 ?_
        refine ok_istore_n hE (fun v6 => [(3, .int v6), (0, .ref (E.Y.ad 0)), (1, .int p1), (2, .int p2)]) (fun _ => rfl) rfl dX11_idling_33 (fun v6 => ?_)
        refine ok_iconst hE (-1 : Int32) ki_m1 dX11_idling_34 ?_
        refine ok_istore hE (fun v7 => [(4, .int v7), (3, .int v6), (0, .ref (E.Y.ad 0)), (1, .int p1), (2, .int p2)]) (fun _ => rfl) rfl dX11_idling_35 (fun v7 => ?_)
        refine ok_iconst hE (0 : Int32) ki_0 dX11_idling_37 ?_
        refine ok_istore hE (fun v8 => [(5, .int v8), (4, .int v7), (3, .int v6), (0, .ref (E.Y.ad 0)), (1, .int p1), (2, .int p2)]) (fun _ => rfl) rfl dX11_idling_38 (fun v8 => ?_)
        refine ok_fun (fun j => ∀ (u_8 : Int32) (u_9 : Int32) (M_10 : Mm), Ok E 76 [(2, .int p2), (3, .int u_8), (4, .int u_9)] [] M_10 (j u_8 u_9 M_10) (KI E)) (fun u_8 u_9 M_10 => ?_) (fun j76 hj76 => ?_)
        · refine ok_iload_n hE 0 rfl dX11_idling_76 ?_
          refine ok_if_ne hE 84 rfl dX11_idling_77 ?_ ?_
          · refine ok_iload hE 2 rfl dX11_idling_84 ?_
            exact ok_ireturn hE dX11_idling_86
          · refine ok_iload_n hE 1 rfl dX11_idling_80 ?_
            refine ok_goto hE 86 rfl dX11_idling_81 ?_
            exact ok_ireturn hE dX11_idling_86
        refine ok_sub [3, 4, 5, 2, 1, 0] rfl (ok_loop (σ := Int32 × Int32 × Int32 × Mm) 40 (fun x12 => [(0, .ref (E.Y.ad 0)), (1, .int p1), (2, .int p2), (3, .int x12.1), (4, .int x12.2.1), (5, .int x12.2.2.1)]) (fun x12 => x12.2.2.2) (fun rec40 hrec40 x12 => ?_) 1000000 (v6, v7, v8, M))
        refine ok_iload hE 5 rfl dX11_idling_40 ?_
        refine ok_bipush hE (20 : Int32) kb_20 dX11_idling_42 ?_
        refine ok_icmp_gt hE 76 rfl dX11_idling_44 ?_ ?_
        · exact ok_sub [2, 3, 4] rfl (hj76 x12.1 x12.2.1 x12.2.2.2)
        · refine ok_aload_n hE 0 rfl dX11_idling_47 ?_
          refine ok_iload_n hE 1 rfl dX11_idling_48 ?_
          refine ok_iload hE 5 rfl dX11_idling_49 ?_
          refine ok_cvI hE rmC_sectorsByIdle [.int p1, .int x12.2.2.1] [] rfl ca_X11_331 shC_0 rfl (fun _ hx => mC_sectorsByIdle hE.sys _ _  _ _ hx) ⟨rfl, rfl, rfl, rfl⟩ rfl rfl dX11_idling_51 (fun r13 => ?_)
          refine ok_istore hE (fun v14 => [(6, .int v14), (0, .ref (E.Y.ad 0)), (1, .int p1), (2, .int p2), (3, .int x12.1), (4, .int x12.2.1), (5, .int x12.2.2.1)]) (fun _ => rfl) rfl dX11_idling_54 (fun v14 => ?_)
          refine ok_iload hE 0 rfl dX11_idling_56 ?_
          refine ok_iload hE 5 rfl dX11_idling_58 ?_
          refine ok_fun (fun j => ∀ (u_14 : Int32) (u_15 : Int32), Ok E 70 [(0, .ref (E.Y.ad 0)), (1, .int p1), (2, .int p2), (3, .int u_14), (4, .int u_15), (5, .int x12.2.2.1)] [] r13.2 (j u_14 u_15) (KI E)) (fun u_14 u_15 => ?_) (fun j70 hj70 => ?_)
          · refine ok_iinc hE 5 (x12.2.2.1 + (1 : Int32)) (by rw [ko_1]) (fun v17 => [(5, .int v17), (0, .ref (E.Y.ad 0)), (1, .int p1), (2, .int p2), (3, .int u_14), (4, .int u_15)]) rfl (fun _ => rfl) rfl dX11_idling_70 (fun v17 => ?_)
            refine ok_goto hE 40 rfl dX11_idling_73 ?_
            exact ok_sub [1, 2, 3, 4, 5, 0] rfl (hrec40 (u_14, u_15, v17, r13.2))
          refine ok_icmp_le hE 70 rfl dX11_idling_60 ?_ ?_
          · exact ok_sub [1, 2, 3, 4, 5, 6] rfl (hj70 x12.1 x12.2.1)
          · refine ok_iload hE 0 rfl dX11_idling_63 ?_
            refine ok_istore hE (fun v18 => [(4, .int v18), (6, .int v14), (0, .ref (E.Y.ad 0)), (1, .int p1), (2, .int p2), (3, .int x12.1), (5, .int x12.2.2.1)]) (fun _ => rfl) rfl dX11_idling_65 (fun v18 => ?_)
            refine ok_iload hE 6 rfl dX11_idling_67 ?_
            refine ok_istore_n hE (fun v19 => [(3, .int v19), (4, .int v18), (6, .int v14), (0, .ref (E.Y.ad 0)), (1, .int p1), (2, .int p2), (5, .int x12.2.2.1)]) (fun _ => rfl) rfl dX11_idling_69 (fun v19 => ?_)
            exact ok_sub [3, 4, 5, 0, 1, 6] rfl (hj70 v19 v18)
      · refine ok_iconst hE (-1 : Int32) ki_m1 dX11_idling_30 ?_
        exact ok_ireturn hE dX11_idling_31
theorem mC_idling {l : Launch} {Y : Sys} {t : Nat} (hY : SysOk Y t shC) (p1 : Int32) (p2 : Int32)  (M : Mm) (r : (Int32 × Mm)) (h : C_idling p1 p2 M = some r) : Cm l Y t yX11_idling (WS yX11_idling cX11_idling 7 (some .int)) rmC_idling [.ref (Y.ad 0), .int p1, .int p2] M (enI r) := by
  refine cm_of (own := RX11) hY rfl rfl (Nat.le_of_ble_eq_true rfl) (fun E hE e1 e2 e3 e4 => ?_)
  subst e1
  exact tC_idling E hE p1 p2  M r h e4.symm
def C_gain (p1 : Int32) (p2 : Int32) (M : Mm) : Option (Int32 × Mm) :=
 bnd (C_hasDisk M) fun r1 =>
 if r1 = 0 then
 (some ((-1 : Int32), M))
 else
 (bnd (C_isWithin p1 (1 : Int32) (200 : Int32) M) fun r2 =>
 if r2 = 0 then
 (some ((-1 : Int32), M))
 else
 (bnd (C_isWithin p2 (0 : Int32) (1 : Int32) M) fun r3 =>
 if r3 = 0 then
 (some ((-1 : Int32), M))
 else
 (lett (fun (w_3 : Int32) =>
 bnd (C_sectorsByIdle p1 w_3 M) fun r5 =>
 some (r5.1, r5.2)) fun j46 =>
 if p2 = 0 then
 (j46 (gI M 26 16))
 else
 (j46 (0 : Int32)))))
abbrev rmC_gain : Room := { frames := 7, cells := 0, slots := 0, locals := 185 }
set_option maxHeartbeats 4000000 in
set_option maxRecDepth 100000 in
theorem tC_gain (E : Cx) (hE : CxOk E cX11_gain RX11 shC (some .int) rmC_gain 3) (p1 : Int32) (p2 : Int32)  (M : Mm) : Ok E 0 [(0, .ref (E.Y.ad 0)), (1, .int p1), (2, .int p2)] [] M (C_gain p1 p2 M) (KI E) := by
  unfold C_gain
  refine ok_aload_n hE 0 rfl dX11_gain_0 ?_
  refine ok_cvIp hE rmC_hasDisk [] [] rfl ca_X11_269 shC_0 rfl (fun _ hx => mC_hasDisk hE.sys   _ _ hx) ⟨rfl, rfl, rfl, rfl⟩ rfl rfl dX11_gain_1 (fun r1 => ?_)
  refine ok_if_eq hE 27 rfl dX11_gain_4 ?_ ?_
  · refine ok_iconst hE (-1 : Int32) ki_m1 dX11_gain_27 ?_
    exact ok_ireturn hE dX11_gain_28
  · refine ok_iload_n hE 1 rfl dX11_gain_7 ?_
    refine ok_iconst hE (1 : Int32) ki_1 dX11_gain_8 ?_
    refine ok_sipush hE (200 : Int32) ks_200 dX11_gain_9 ?_
    refine ok_csIp hE rmC_isWithin [.int p1, .int (1 : Int32), .int (200 : Int32)] [] rfl ca_X11_306 (fun _ hx => mC_isWithin hE.sys _ _ _  _ _ hx) ⟨rfl, rfl, rfl, rfl⟩ rfl rfl dX11_gain_12 (fun r2 => ?_)
    refine ok_if_eq hE 27 rfl dX11_gain_15 ?_ ?_
    · refine ok_iconst hE (-1 : Int32) ki_m1 dX11_gain_27 ?_
      exact ok_ireturn hE dX11_gain_28
    · refine ok_iload_n hE 2 rfl dX11_gain_18 ?_
      refine ok_iconst hE (0 : Int32) ki_0 dX11_gain_19 ?_
      refine ok_iconst hE (1 : Int32) ki_1 dX11_gain_20 ?_
      refine ok_csIp hE rmC_isWithin [.int p2, .int (0 : Int32), .int (1 : Int32)] [] rfl ca_X11_306 (fun _ hx => mC_isWithin hE.sys _ _ _  _ _ hx) ⟨rfl, rfl, rfl, rfl⟩ rfl rfl dX11_gain_21 (fun r3 => ?_)
      refine ok_if_ne hE 29 rfl dX11_gain_24 ?_ ?_
      · refine ok_aload_n hE 0 rfl dX11_gain_29 ?_
        refine ok_iload_n hE 1 rfl dX11_gain_30 ?_
        refine ok_iload_n hE 2 rfl dX11_gain_31 ?_
        refine ok_fun (fun j => ∀ (w_3 : Int32), Ok E 46 [] [.int w_3, .int p1, .ref (E.Y.ad 0)] M (j w_3) (KI E)) (fun w_3 => ?_) (fun j46 hj46 => ?_)
        · refine ok_cvI hE rmC_sectorsByIdle [.int p1, .int w_3] [] rfl ca_X11_331 shC_0 rfl (fun _ hx => mC_sectorsByIdle hE.sys _ _  _ _ hx) ⟨rfl, rfl, rfl, rfl⟩ rfl rfl dX11_gain_46 (fun r5 => ?_)
          exact ok_ireturn hE dX11_gain_49
        refine ok_if_ne hE 45 rfl dX11_gain_32 ?_ ?_
        · refine ok_iconst hE (0 : Int32) ki_0 dX11_gain_45 ?_
          exact ok_sub [] rfl (hj46 (0 : Int32))
        · refine ok_aload_n hE 0 rfl dX11_gain_35 ?_
          refine ok_getA hE fl_X11_40 shC_0 rfl dX11_gain_36 ?_
          refine ok_getI hE fl_X11_145 shC_26 rfl dX11_gain_39 ?_
          refine ok_goto hE 46 rfl dX11_gain_42 ?_
          exact ok_sub [] rfl (hj46 (gI M 26 16))
      · refine ok_iconst hE (-1 : Int32) ki_m1 dX11_gain_27 ?_
        exact ok_ireturn hE dX11_gain_28
theorem mC_gain {l : Launch} {Y : Sys} {t : Nat} (hY : SysOk Y t shC) (p1 : Int32) (p2 : Int32)  (M : Mm) (r : (Int32 × Mm)) (h : C_gain p1 p2 M = some r) : Cm l Y t yX11_gain (WS yX11_gain cX11_gain 3 (some .int)) rmC_gain [.ref (Y.ad 0), .int p1, .int p2] M (enI r) := by
  refine cm_of (own := RX11) hY rfl rfl (Nat.le_of_ble_eq_true rfl) (fun E hE e1 e2 e3 e4 => ?_)
  subst e1
  exact tC_gain E hE p1 p2  M r h e4.symm
def C_apart (p1 : Int32) (M : Mm) : Option (Int32 × Mm) :=
 lett (gR M 0 0) fun y1 =>
 nn y1 fun c2 => grd (shC c2 = shCX2) (if (gI M c2 11) = 0 then
 (some ((-1 : Int32), M))
 else
 (bnd (C_isWithin p1 (1 : Int32) (400 : Int32) M) fun r4 =>
 if r4 = 0 then
 (some ((-1 : Int32), M))
 else
 (bnd (C_runAhead p1 M) fun r5 =>
 grd (r5.1 = 46) (plnS r5.2 46 fun q7 =>
 bnd (S_sectorsByWeight (0 : Int32) (sbM (emS 46 q7) r5.2)) fun r6 =>
 lett r6 fun v10 =>
 lett v10 fun v11 =>
 lett (1 : Int32) fun v12 =>
 lett (fun (u_12 : UInt32) (u_13 : UInt32) =>
 grd ((FP.fsub u_12 u_13) &&& 0x7fffffff ≤ 0x7f800000) (bnd (C_bitsOfFloat (FP.fsub u_12 u_13) r5.2) fun r15 =>
 some (r15, r5.2))) fun j98 =>
 loopR (fun (rec41 : (UInt32 × UInt32 × Int32) → Option (Int32 × Mm)) (x16 : UInt32 × UInt32 × Int32) =>
 lett (gR r5.2 0 0) fun y17 =>
 nn y17 fun c18 => grd (shC c18 = shCX2) (if (gI r5.2 c18 11) ≤ x16.2.2 then
 (j98 x16.1 x16.2.1)
 else
 (plnS r5.2 46 fun q21 =>
 bnd (S_sectorsByWeight x16.2.2 (sbM (emS 46 q21) r5.2)) fun r20 =>
 lett r20 fun v24 =>
 lett (fun (w_24 : UInt32) =>
 lett w_24 fun v26 =>
 lett (fun (w_26 : UInt32) =>
 lett w_26 fun v28 =>
 lett (x16.2.2 + (1 : Int32)) fun v29 =>
 rec41 (v26, v28, v29)) fun j90 =>
 if 0 ≤ (Op.cmpValue (FP.fcmp v24 x16.2.1) .g) then
 (j90 x16.2.1)
 else
 (j90 v24)) fun j74 =>
 if (Op.cmpValue (FP.fcmp v24 x16.1) .l) ≤ 0 then
 (j74 x16.1)
 else
 (j74 v24)))) 1000000 (v10, v11, v12)))))
abbrev rmC_apart : Room := { frames := 7, cells := 0, slots := 0, locals := 184 }
set_option maxHeartbeats 4000000 in
set_option maxRecDepth 100000 in
theorem tC_apart (E : Cx) (hE : CxOk E cX11_apart RX11 shC (some .int) rmC_apart 7) (p1 : Int32)  (M : Mm) : Ok E 0 [(0, .ref (E.Y.ad 0)), (1, .int p1)] [] M (C_apart p1 M) (KI E) := by
  unfold C_apart
  refine ok_aload_n hE 0 rfl dX11_apart_0 ?_
  refine ok_getRL hE fl_X11_10 shC_0 rfl dX11_apart_1 (fun y1 => ?_)
  rcases y1 with _ | c2
  · exact fun r hr => by cases hr
  dsimp only [nn]
  refine ok_grd (fun hc3 => ?_)
  refine ok_getI hE fl_X11_125 hc3 rfl dX11_apart_4 ?_
  refine ok_if_eq hE 21 rfl dX11_apart_7 ?_ ?_
  · refine ok_iconst hE (-1 : Int32) ki_m1 dX11_apart_21 ?_
    exact ok_ireturn hE dX11_apart_22
  · refine ok_iload_n hE 1 rfl dX11_apart_10 ?_
    refine ok_iconst hE (1 : Int32) ki_1 dX11_apart_11 ?_
    refine ok_sipush hE (400 : Int32) ks_400 dX11_apart_12 ?_
    refine ok_csIp hE rmC_isWithin [.int p1, .int (1 : Int32), .int (400 : Int32)] [] rfl ca_X11_306 (fun _ hx => mC_isWithin hE.sys _ _ _  _ _ hx) ⟨rfl, rfl, rfl, rfl⟩ rfl rfl dX11_apart_15 (fun r4 => ?_)
    refine ok_if_ne hE 23 rfl dX11_apart_18 ?_ ?_
    · refine ok_aload_n hE 0 rfl dX11_apart_23 ?_
      refine ok_iload_n hE 1 rfl dX11_apart_24 ?_
      refine ok_cvA hE rmC_runAhead [.int p1] [] rfl ca_X11_310 shC_0 rfl (fun _ hx => mC_runAhead hE.sys _  _ _ hx) ⟨rfl, rfl, rfl, rfl⟩ rfl rfl dX11_apart_25 (fun r5 => ?_)
      refine ok_grd (fun hg9 => ?_)
      refine ok_code hg9 ?_
      refine ok_astore_n hE [(2, .ref (E.Y.ad 46)), (0, .ref (E.Y.ad 0)), (1, .int p1)] rfl rfl dX11_apart_28 ?_
      refine ok_aload_n hE 0 rfl dX11_apart_29 ?_
      refine ok_iconst hE (0 : Int32) ki_0 dX11_apart_30 ?_
      refine ok_plnS hE (fun q7 hq8 => ?_)
      refine ok_xFp hE rmS_sectorsByWeight [.int (0 : Int32)] [] rfl ca_X11_334 shC_46 rfl hq8 rfl (fun hs _ hx => mS_sectorsByWeight hs _  _ _ hx) ⟨rfl, rfl, rfl, rfl⟩ rfl rfl dX11_apart_31 (fun r6 => ?_)
      refine ok_fstore_n hE (fun v10 => [(3, .float v10), (2, .ref (E.Y.ad 46)), (0, .ref (E.Y.ad 0)), (1, .int p1)]) (fun _ => rfl) rfl dX11_apart_34 (fun v10 => ?_)
      refine ok_fload_n hE 0 rfl dX11_apart_35 ?_
      refine ok_fstore hE (fun v11 => [(4, .float v11), (3, .float v10), (2, .ref (E.Y.ad 46)), (0, .ref (E.Y.ad 0)), (1, .int p1)]) (fun _ => rfl) rfl dX11_apart_36 (fun v11 => ?_)
      refine ok_iconst hE (1 : Int32) ki_1 dX11_apart_38 ?_
      refine ok_istore hE (fun v12 => [(5, .int v12), (4, .float v11), (3, .float v10), (2, .ref (E.Y.ad 46)), (0, .ref (E.Y.ad 0)), (1, .int p1)]) (fun _ => rfl) rfl dX11_apart_39 (fun v12 => ?_)
      refine ok_fun (fun j => ∀ (u_12 : UInt32) (u_13 : UInt32), Ok E 98 [(3, .float u_12), (4, .float u_13)] [] r5.2 (j u_12 u_13) (KI E)) (fun u_12 u_13 => ?_) (fun j98 hj98 => ?_)
      · refine ok_fload_n hE 0 rfl dX11_apart_98 ?_
        refine ok_fload hE 1 rfl dX11_apart_99 ?_
        refine ok_fsub hE dX11_apart_101 ?_
        refine ok_csIp hE rmC_bitsOfFloat [.float (FP.fsub u_12 u_13)] [] rfl ca_X11_259 (fun _ hx => mC_bitsOfFloat hE.sys _  _ _ hx) ⟨rfl, rfl, rfl, rfl⟩ rfl rfl dX11_apart_102 (fun r15 => ?_)
        exact ok_ireturn hE dX11_apart_105
      refine ok_sub [4, 3, 2, 1, 0] rfl (ok_loop (σ := UInt32 × UInt32 × Int32) 41 (fun x16 => [(0, .ref (E.Y.ad 0)), (2, .ref (E.Y.ad 46)), (3, .float x16.1), (4, .float x16.2.1), (5, .int x16.2.2)]) (fun x16 => r5.2) (fun rec41 hrec41 x16 => ?_) 1000000 (v10, v11, v12))
      refine ok_iload hE 4 rfl dX11_apart_41 ?_
      refine ok_aload_n hE 0 rfl dX11_apart_43 ?_
      refine ok_getRL hE fl_X11_10 shC_0 rfl dX11_apart_44 (fun y17 => ?_)
      rcases y17 with _ | c18
      · exact fun r hr => by cases hr
      dsimp only [nn]
      refine ok_grd (fun hc19 => ?_)
      refine ok_getI hE fl_X11_125 hc19 rfl dX11_apart_47 ?_
      refine ok_icmp_ge hE 98 rfl dX11_apart_50 ?_ ?_
      · exact ok_sub [2, 3] rfl (hj98 x16.1 x16.2.1)
      · refine ok_aload_n hE 1 rfl dX11_apart_53 ?_
        refine ok_iload hE 4 rfl dX11_apart_54 ?_
        refine ok_plnS hE (fun q21 hq22 => ?_)
        refine ok_xFp hE rmS_sectorsByWeight [.int x16.2.2] [] rfl ca_X11_334 shC_46 rfl hq22 rfl (fun hs _ hx => mS_sectorsByWeight hs _  _ _ hx) ⟨rfl, rfl, rfl, rfl⟩ rfl rfl dX11_apart_56 (fun r20 => ?_)
        refine ok_fstore hE (fun v24 => [(6, .float v24), (0, .ref (E.Y.ad 0)), (2, .ref (E.Y.ad 46)), (3, .float x16.1), (4, .float x16.2.1), (5, .int x16.2.2)]) (fun _ => rfl) rfl dX11_apart_59 (fun v24 => ?_)
        refine ok_fload hE 0 rfl dX11_apart_61 ?_
        refine ok_fload_n hE 3 rfl dX11_apart_63 ?_
        refine ok_fcmp hE dX11_apart_64 ?_
        refine ok_fun (fun j => ∀ (w_24 : UInt32), Ok E 74 [(0, .ref (E.Y.ad 0)), (2, .ref (E.Y.ad 46)), (4, .float x16.2.1), (5, .int x16.2.2), (6, .float v24)] [.float w_24] r5.2 (j w_24) (KI E)) (fun w_24 => ?_) (fun j74 hj74 => ?_)
        · refine ok_fstore_n hE (fun v26 => [(3, .float v26), (0, .ref (E.Y.ad 0)), (2, .ref (E.Y.ad 46)), (4, .float x16.2.1), (5, .int x16.2.2), (6, .float v24)]) (fun _ => rfl) rfl dX11_apart_74 (fun v26 => ?_)
          refine ok_fload hE 5 rfl dX11_apart_75 ?_
          refine ok_fload hE 3 rfl dX11_apart_77 ?_
          refine ok_fcmp hE dX11_apart_79 ?_
          refine ok_fun (fun j => ∀ (w_26 : UInt32), Ok E 90 [(0, .ref (E.Y.ad 0)), (2, .ref (E.Y.ad 46)), (3, .float v26), (5, .int x16.2.2)] [.float w_26] r5.2 (j w_26) (KI E)) (fun w_26 => ?_) (fun j90 hj90 => ?_)
          · refine ok_fstore hE (fun v28 => [(4, .float v28), (0, .ref (E.Y.ad 0)), (2, .ref (E.Y.ad 46)), (3, .float v26), (5, .int x16.2.2)]) (fun _ => rfl) rfl dX11_apart_90 (fun v28 => ?_)
            refine ok_iinc hE 4 (x16.2.2 + (1 : Int32)) (by rw [ko_1]) (fun v29 => [(5, .int v29), (4, .float v28), (0, .ref (E.Y.ad 0)), (2, .ref (E.Y.ad 46)), (3, .float v26)]) rfl (fun _ => rfl) rfl dX11_apart_92 (fun v29 => ?_)
            refine ok_goto hE 41 rfl dX11_apart_95 ?_
            exact ok_sub [2, 3, 4, 1, 0] rfl (hrec41 (v26, v28, v29))
          refine ok_if_ge hE 88 rfl dX11_apart_80 ?_ ?_
          · refine ok_fload hE 3 rfl dX11_apart_88 ?_
            exact ok_sub [1, 2, 0, 4] rfl (hj90 x16.2.1)
          · refine ok_fload hE 5 rfl dX11_apart_83 ?_
            refine ok_goto hE 90 rfl dX11_apart_85 ?_
            exact ok_sub [1, 2, 0, 4] rfl (hj90 v24)
        refine ok_if_le hE 73 rfl dX11_apart_65 ?_ ?_
        · refine ok_fload_n hE 3 rfl dX11_apart_73 ?_
          exact ok_sub [1, 2, 4, 5, 0] rfl (hj74 x16.1)
        · refine ok_fload hE 0 rfl dX11_apart_68 ?_
          refine ok_goto hE 74 rfl dX11_apart_70 ?_
          exact ok_sub [1, 2, 4, 5, 0] rfl (hj74 v24)
    · refine ok_iconst hE (-1 : Int32) ki_m1 dX11_apart_21 ?_
      exact ok_ireturn hE dX11_apart_22
theorem mC_apart {l : Launch} {Y : Sys} {t : Nat} (hY : SysOk Y t shC) (p1 : Int32)  (M : Mm) (r : (Int32 × Mm)) (h : C_apart p1 M = some r) : Cm l Y t yX11_apart (WS yX11_apart cX11_apart 7 (some .int)) rmC_apart [.ref (Y.ad 0), .int p1] M (enI r) := by
  refine cm_of (own := RX11) hY rfl rfl (Nat.le_of_ble_eq_true rfl) (fun E hE e1 e2 e3 e4 => ?_)
  subst e1
  exact tC_apart E hE p1  M r h e4.symm
def C_latest (p1 : Int32) (p2 : Int32) (p3 : Int32) (M : Mm) : Option (Int32 × Mm) :=
 bnd (C_isWithin p1 (1 : Int32) (400 : Int32) M) fun r1 =>
 if r1 = 0 then
 (some ((-1 : Int32), M))
 else
 (if p2 < 0 then
 (some ((-1 : Int32), M))
 else
 (bnd (C_isWithin p3 (0 : Int32) (1 : Int32) M) fun r2 =>
 if r2 = 0 then
 (some ((-1 : Int32), M))
 else
 (lett (gR M 0 0) fun y3 =>
 nn y3 fun c4 => grd (shC c4 = shCX2) (if (gI M c4 11) = 0 then
 (some ((-1 : Int32), M))
 else
 (bnd (C_runAboveAhead p1 p2 M) fun r6 =>
 grd (r6.1 = 46) (lett (-1 : Int32) fun v7 =>
 lett (0 : Int32) fun v8 =>
 lett (0 : Int32) fun v9 =>
 lett (fun (u_9 : Int32) (u_10 : Int32) =>
 if 0 ≤ u_9 then
 (if p3 = 0 then
 (some (u_9, r6.2))
 else
 (some (u_10, r6.2)))
 else
 (some ((-1 : Int32), r6.2))) fun j104 =>
 loopR (fun (rec53 : (Int32 × Int32 × Int32) → Option (Int32 × Mm)) (x12 : Int32 × Int32 × Int32) =>
 lett (gR r6.2 0 0) fun y13 =>
 nn y13 fun c14 => grd (shC c14 = shCX2) (if (gI r6.2 c14 11) ≤ x12.2.2 then
 (j104 x12.1 x12.2.1)
 else
 (ald x12.2.2 6 (lett (fun (u_16 : Int32) (u_17 : Int32) =>
 lett (x12.2.2 + (1 : Int32)) fun v19 =>
 rec53 (u_16, u_17, v19)) fun j98 =>
 if (gI r6.2 (54 + 2 * ix x12.2.2) 13) ≤ x12.2.1 then
 (j98 x12.1 x12.2.1)
 else
 (ald x12.2.2 6 (lett (gI r6.2 (54 + 2 * ix x12.2.2) 13) fun v21 =>
 lett x12.2.2 fun v22 =>
 j98 v22 v21)))))) 1000000 (v7, v8, v9)))))))
abbrev rmC_latest : Room := { frames := 7, cells := 0, slots := 0, locals := 185 }
set_option maxHeartbeats 4000000 in
set_option maxRecDepth 100000 in
theorem tC_latest (E : Cx) (hE : CxOk E cX11_latest RX11 shC (some .int) rmC_latest 8) (p1 : Int32) (p2 : Int32) (p3 : Int32)  (M : Mm) : Ok E 0 [(0, .ref (E.Y.ad 0)), (1, .int p1), (2, .int p2), (3, .int p3)] [] M (C_latest p1 p2 p3 M) (KI E) := by
  unfold C_latest
  refine ok_iload_n hE 1 rfl dX11_latest_0 ?_
  refine ok_iconst hE (1 : Int32) ki_1 dX11_latest_1 ?_
  refine ok_sipush hE (400 : Int32) ks_400 dX11_latest_2 ?_
  refine ok_csIp hE rmC_isWithin [.int p1, .int (1 : Int32), .int (400 : Int32)] [] rfl ca_X11_306 (fun _ hx => mC_isWithin hE.sys _ _ _  _ _ hx) ⟨rfl, rfl, rfl, rfl⟩ rfl rfl dX11_latest_5 (fun r1 => ?_)
  refine ok_if_eq hE 34 rfl dX11_latest_8 ?_ ?_
  · refine ok_iconst hE (-1 : Int32) ki_m1 dX11_latest_34 ?_
    exact ok_ireturn hE dX11_latest_35
  · refine ok_iload_n hE 2 rfl dX11_latest_11 ?_
    refine ok_if_lt hE 34 rfl dX11_latest_12 ?_ ?_
    · refine ok_iconst hE (-1 : Int32) ki_m1 dX11_latest_34 ?_
      exact ok_ireturn hE dX11_latest_35
    · refine ok_iload_n hE 3 rfl dX11_latest_15 ?_
      refine ok_iconst hE (0 : Int32) ki_0 dX11_latest_16 ?_
      refine ok_iconst hE (1 : Int32) ki_1 dX11_latest_17 ?_
      refine ok_csIp hE rmC_isWithin [.int p3, .int (0 : Int32), .int (1 : Int32)] [] rfl ca_X11_306 (fun _ hx => mC_isWithin hE.sys _ _ _  _ _ hx) ⟨rfl, rfl, rfl, rfl⟩ rfl rfl dX11_latest_18 (fun r2 => ?_)
      refine ok_if_eq hE 34 rfl dX11_latest_21 ?_ ?_
      · refine ok_iconst hE (-1 : Int32) ki_m1 dX11_latest_34 ?_
        exact ok_ireturn hE dX11_latest_35
      · refine ok_aload_n hE 0 rfl dX11_latest_24 ?_
        refine ok_getRL hE fl_X11_10 shC_0 rfl dX11_latest_25 (fun y3 => ?_)
        rcases y3 with _ | c4
        · exact fun r hr => by cases hr
        dsimp only [nn]
        refine ok_grd (fun hc5 => ?_)
        refine ok_getI hE fl_X11_125 hc5 rfl dX11_latest_28 ?_
        refine ok_if_ne hE 36 rfl dX11_latest_31 ?_ ?_
        · refine ok_aload_n hE 0 rfl dX11_latest_36 ?_
          refine ok_iload_n hE 1 rfl dX11_latest_37 ?_
          refine ok_iload_n hE 2 rfl dX11_latest_38 ?_
          refine ok_cvA hE rmC_runAboveAhead [.int p1, .int p2] [] rfl ca_X11_324 shC_0 rfl (fun _ hx => mC_runAboveAhead hE.sys _ _  _ _ hx) ⟨rfl, rfl, rfl, rfl⟩ rfl rfl dX11_latest_39 (fun r6 => ?_)
          refine ok_grd (fun hg10 => ?_)
          refine ok_code hg10 ?_
          refine ok_astore hE [(4, .ref (E.Y.ad 46)), (0, .ref (E.Y.ad 0)), (1, .int p1), (2, .int p2), (3, .int p3)] rfl rfl dX11_latest_42 ?_
          refine ok_iconst hE (-1 : Int32) ki_m1 dX11_latest_44 ?_
          refine ok_istore hE (fun v7 => [(5, .int v7), (4, .ref (E.Y.ad 46)), (0, .ref (E.Y.ad 0)), (1, .int p1), (2, .int p2), (3, .int p3)]) (fun _ => rfl) rfl dX11_latest_45 (fun v7 => ?_)
          refine ok_iconst hE (0 : Int32) ki_0 dX11_latest_47 ?_
          refine ok_istore hE (fun v8 => [(6, .int v8), (5, .int v7), (4, .ref (E.Y.ad 46)), (0, .ref (E.Y.ad 0)), (1, .int p1), (2, .int p2), (3, .int p3)]) (fun _ => rfl) rfl dX11_latest_48 (fun v8 => ?_)
          refine ok_iconst hE (0 : Int32) ki_0 dX11_latest_50 ?_
          refine ok_istore hE (fun v9 => [(7, .int v9), (6, .int v8), (5, .int v7), (4, .ref (E.Y.ad 46)), (0, .ref (E.Y.ad 0)), (1, .int p1), (2, .int p2), (3, .int p3)]) (fun _ => rfl) rfl dX11_latest_51 (fun v9 => ?_)
          refine ok_fun (fun j => ∀ (u_9 : Int32) (u_10 : Int32), Ok E 104 [(3, .int p3), (5, .int u_9), (6, .int u_10)] [] r6.2 (j u_9 u_10) (KI E)) (fun u_9 u_10 => ?_) (fun j104 hj104 => ?_)
          · refine ok_iload hE 1 rfl dX11_latest_104 ?_
            refine ok_if_ge hE 111 rfl dX11_latest_106 ?_ ?_
            · refine ok_iload_n hE 0 rfl dX11_latest_111 ?_
              refine ok_if_ne hE 120 rfl dX11_latest_112 ?_ ?_
              · refine ok_iload hE 2 rfl dX11_latest_120 ?_
                exact ok_ireturn hE dX11_latest_122
              · refine ok_iload hE 1 rfl dX11_latest_115 ?_
                refine ok_goto hE 122 rfl dX11_latest_117 ?_
                exact ok_ireturn hE dX11_latest_122
            · refine ok_iconst hE (-1 : Int32) ki_m1 dX11_latest_109 ?_
              exact ok_ireturn hE dX11_latest_110
          refine ok_sub [4, 7, 3, 2, 1, 0] rfl (ok_loop (σ := Int32 × Int32 × Int32) 53 (fun x12 => [(0, .ref (E.Y.ad 0)), (3, .int p3), (4, .ref (E.Y.ad 46)), (5, .int x12.1), (6, .int x12.2.1), (7, .int x12.2.2)]) (fun x12 => r6.2) (fun rec53 hrec53 x12 => ?_) 1000000 (v7, v8, v9))
          refine ok_iload hE 5 rfl dX11_latest_53 ?_
          refine ok_aload_n hE 0 rfl dX11_latest_55 ?_
          refine ok_getRL hE fl_X11_10 shC_0 rfl dX11_latest_56 (fun y13 => ?_)
          rcases y13 with _ | c14
          · exact fun r hr => by cases hr
          dsimp only [nn]
          refine ok_grd (fun hc15 => ?_)
          refine ok_getI hE fl_X11_125 hc15 rfl dX11_latest_59 ?_
          refine ok_icmp_ge hE 104 rfl dX11_latest_62 ?_ ?_
          · exact ok_sub [1, 3, 4] rfl (hj104 x12.1 x12.2.1)
          · refine ok_aload hE 2 rfl dX11_latest_65 ?_
            refine ok_getC hE fl_X11_171 shC_46 rfl dX11_latest_67 ?_
            refine ok_iload hE 5 rfl dX11_latest_70 ?_
            refine ok_aaloadH hE shC_47 rfl dX11_latest_72 (fun hi16 => ?_)
            refine ok_getI hE fl_X11_328 (shC_e_47 hi16) rfl dX11_latest_73 ?_
            refine ok_iload hE 4 rfl dX11_latest_76 ?_
            refine ok_fun (fun j => ∀ (u_16 : Int32) (u_17 : Int32), Ok E 98 [(0, .ref (E.Y.ad 0)), (3, .int p3), (4, .ref (E.Y.ad 46)), (5, .int u_16), (6, .int u_17), (7, .int x12.2.2)] [] r6.2 (j u_16 u_17) (KI E)) (fun u_16 u_17 => ?_) (fun j98 hj98 => ?_)
            · refine ok_iinc hE 5 (x12.2.2 + (1 : Int32)) (by rw [ko_1]) (fun v19 => [(7, .int v19), (0, .ref (E.Y.ad 0)), (3, .int p3), (4, .ref (E.Y.ad 46)), (5, .int u_16), (6, .int u_17)]) rfl (fun _ => rfl) rfl dX11_latest_98 (fun v19 => ?_)
              refine ok_goto hE 53 rfl dX11_latest_101 ?_
              exact ok_sub [1, 2, 3, 4, 5, 0] rfl (hrec53 (u_16, u_17, v19))
            refine ok_icmp_le hE 98 rfl dX11_latest_78 ?_ ?_
            · exact ok_sub [0, 1, 2, 3, 4, 5] rfl (hj98 x12.1 x12.2.1)
            · refine ok_aload hE 2 rfl dX11_latest_81 ?_
              refine ok_getC hE fl_X11_171 shC_46 rfl dX11_latest_83 ?_
              refine ok_iload hE 5 rfl dX11_latest_86 ?_
              refine ok_aaloadH hE shC_47 rfl dX11_latest_88 (fun hi20 => ?_)
              refine ok_getI hE fl_X11_328 (shC_e_47 hi20) rfl dX11_latest_89 ?_
              refine ok_istore hE (fun v21 => [(6, .int v21), (0, .ref (E.Y.ad 0)), (3, .int p3), (4, .ref (E.Y.ad 46)), (5, .int x12.1), (7, .int x12.2.2)]) (fun _ => rfl) rfl dX11_latest_92 (fun v21 => ?_)
              refine ok_iload hE 5 rfl dX11_latest_94 ?_
              refine ok_istore hE (fun v22 => [(5, .int v22), (6, .int v21), (0, .ref (E.Y.ad 0)), (3, .int p3), (4, .ref (E.Y.ad 46)), (7, .int x12.2.2)]) (fun _ => rfl) rfl dX11_latest_96 (fun v22 => ?_)
              exact ok_sub [2, 3, 4, 0, 1, 5] rfl (hj98 v22 v21)
        · refine ok_iconst hE (-1 : Int32) ki_m1 dX11_latest_34 ?_
          exact ok_ireturn hE dX11_latest_35
theorem mC_latest {l : Launch} {Y : Sys} {t : Nat} (hY : SysOk Y t shC) (p1 : Int32) (p2 : Int32) (p3 : Int32)  (M : Mm) (r : (Int32 × Mm)) (h : C_latest p1 p2 p3 M = some r) : Cm l Y t yX11_latest (WS yX11_latest cX11_latest 8 (some .int)) rmC_latest [.ref (Y.ad 0), .int p1, .int p2, .int p3] M (enI r) := by
  refine cm_of (own := RX11) hY rfl rfl (Nat.le_of_ble_eq_true rfl) (fun E hE e1 e2 e3 e4 => ?_)
  subst e1
  exact tC_latest E hE p1 p2 p3  M r h e4.symm
def C_reaches (p2 : Int32) (p3 : Int32) (p4 : Int32) (M : Mm) : Option (Int32 × Mm) :=
 ald p3 6 (lett (0 : Int32) fun v2 =>
 lett (fun (M_2 : Mm) =>
 if (gI M_2 (54 + 2 * ix p3) 10) < p4 then
 (some ((0 : Int32), M_2))
 else
 (some ((1 : Int32), M_2))) fun j37 =>
 loopR (fun (rec11 : (Int32 × Mm) → Option (Int32 × Mm)) (x4 : Int32 × Mm) =>
 if p2 ≤ x4.1 then
 (j37 x4.2)
 else
 (if p4 ≤ (gI x4.2 (54 + 2 * ix p3) 10) then
 (j37 x4.2)
 else
 (plnS x4.2 46 fun q6 =>
 bnd (S_run (1 : Int32) (sbM (emS 46 q6) x4.2)) fun x5 =>
 lett (inM (dmS 46 q6) kpS x4.2 x5) fun M8 =>
 lett (x4.1 + (1 : Int32)) fun v9 =>
 rec11 (v9, M8)))) 1000000 (v2, M))
abbrev rmC_reaches : Room := { frames := 6, cells := 0, slots := 0, locals := 162 }
set_option maxHeartbeats 4000000 in
set_option maxRecDepth 100000 in
theorem tC_reaches (E : Cx) (hE : CxOk E cX11_reaches RX11 shC (some .boolean) rmC_reaches 6) (p2 : Int32) (p3 : Int32) (p4 : Int32)  (M : Mm) : Ok E 0 [(0, .ref (E.Y.ad 46)), (1, .int p2), (2, .int p3), (3, .int p4)] [] M (C_reaches p2 p3 p4 M) (KI E) := by
  unfold C_reaches
  refine ok_aload_n hE 0 rfl dX11_reaches_0 ?_
  refine ok_getC hE fl_X11_171 shC_46 rfl dX11_reaches_1 ?_
  refine ok_iload_n hE 2 rfl dX11_reaches_4 ?_
  refine ok_aaloadH hE shC_47 rfl dX11_reaches_5 (fun hi1 => ?_)
  refine ok_astore hE [(4, .ref (E.Y.ad (54 + 2 * ix p3))), (0, .ref (E.Y.ad 46)), (1, .int p2), (2, .int p3), (3, .int p4)] rfl rfl dX11_reaches_6 ?_
  refine ok_iconst hE (0 : Int32) ki_0 dX11_reaches_8 ?_
  refine ok_istore hE (fun v2 => [(5, .int v2), (4, .ref (E.Y.ad (54 + 2 * ix p3))), (0, .ref (E.Y.ad 46)), (1, .int p2), (2, .int p3), (3, .int p4)]) (fun _ => rfl) rfl dX11_reaches_9 (fun v2 => ?_)
  refine ok_fun (fun j => ∀ (M_2 : Mm), Ok E 37 [(3, .int p4), (4, .ref (E.Y.ad (54 + 2 * ix p3)))] [] M_2 (j M_2) (KI E)) (fun M_2 => ?_) (fun j37 hj37 => ?_)
  · refine ok_aload hE 1 rfl dX11_reaches_37 ?_
    refine ok_getI hE fl_X11_206 (shC_e_47 hi1) rfl dX11_reaches_39 ?_
    refine ok_iload_n hE 0 rfl dX11_reaches_42 ?_
    refine ok_icmp_lt hE 50 rfl dX11_reaches_43 ?_ ?_
    · refine ok_iconst hE (0 : Int32) ki_0 dX11_reaches_50 ?_
      exact ok_zreturn hE (Or.inl rfl) dX11_reaches_51
    · refine ok_iconst hE (1 : Int32) ki_1 dX11_reaches_46 ?_
      refine ok_goto hE 51 rfl dX11_reaches_47 ?_
      exact ok_zreturn hE (Or.inr rfl) dX11_reaches_51
  refine ok_sub [2, 3, 5, 1, 0] rfl (ok_loop (σ := Int32 × Mm) 11 (fun x4 => [(0, .ref (E.Y.ad 46)), (1, .int p2), (3, .int p4), (4, .ref (E.Y.ad (54 + 2 * ix p3))), (5, .int x4.1)]) (fun x4 => x4.2) (fun rec11 hrec11 x4 => ?_) 1000000 (v2, M))
  refine ok_iload hE 4 rfl dX11_reaches_11 ?_
  refine ok_iload_n hE 1 rfl dX11_reaches_13 ?_
  refine ok_icmp_ge hE 37 rfl dX11_reaches_14 ?_ ?_
  · exact ok_sub [2, 3] rfl (hj37 x4.2)
  · refine ok_aload hE 3 rfl dX11_reaches_17 ?_
    refine ok_getI hE fl_X11_206 (shC_e_47 hi1) rfl dX11_reaches_19 ?_
    refine ok_iload_n hE 2 rfl dX11_reaches_22 ?_
    refine ok_icmp_ge hE 37 rfl dX11_reaches_23 ?_ ?_
    · exact ok_sub [2, 3] rfl (hj37 x4.2)
    · refine ok_aload_n hE 0 rfl dX11_reaches_26 ?_
      refine ok_iconst hE (1 : Int32) ki_1 dX11_reaches_27 ?_
      refine ok_plnS hE (fun q6 hq7 => ?_)
      refine ok_xV hE rmS_run [.int (1 : Int32)] [] rfl ca_X11_321 shC_46 rfl hq7 rfl (fun hs _ hx => mS_run hs _  _ _ hx) ⟨rfl, rfl, rfl, rfl⟩ rfl rfl dX11_reaches_28 (fun x5 M8 => ?_)
      refine ok_iinc hE 4 (x4.1 + (1 : Int32)) (by rw [ko_1]) (fun v9 => [(5, .int v9), (0, .ref (E.Y.ad 46)), (1, .int p2), (3, .int p4), (4, .ref (E.Y.ad (54 + 2 * ix p3)))]) rfl (fun _ => rfl) rfl dX11_reaches_31 (fun v9 => ?_)
      refine ok_goto hE 11 rfl dX11_reaches_34 ?_
      exact ok_sub [1, 2, 3, 4, 0] rfl (hrec11 (v9, M8))
theorem mC_reaches {l : Launch} {Y : Sys} {t : Nat} (hY : SysOk Y t shC) (p2 : Int32) (p3 : Int32) (p4 : Int32)  (M : Mm) (r : (Int32 × Mm)) (h : C_reaches p2 p3 p4 M = some r) : Cm l Y t yX11_reaches (WS yX11_reaches cX11_reaches 6 (some .boolean)) rmC_reaches [.ref (Y.ad 46), .int p2, .int p3, .int p4] M (enI r) := by
  refine cm_of (own := RX11) hY rfl rfl (Nat.le_of_ble_eq_true rfl) (fun E hE e1 e2 e3 e4 => ?_)
  subst e1
  exact tC_reaches E hE p2 p3 p4  M r h e4.symm
def C_least (p1 : Int32) (p2 : Int32) (p3 : Int32) (M : Mm) : Option (Int32 × Mm) :=
 bnd (C_isProcess p2 M) fun r1 =>
 if r1 = 0 then
 (some ((-1 : Int32), M))
 else
 (bnd (C_isWithin p1 (1 : Int32) (100 : Int32) M) fun r2 =>
 if r2 = 0 then
 (some ((-1 : Int32), M))
 else
 (if (1 : Int32) ≤ p3 then
 (lett (1 : Int32) fun v3 =>
 loopR (fun (rec28 : (Int32 × Mm) → Option (Int32 × Mm)) (x4 : Int32 × Mm) =>
 if (100 : Int32) < x4.1 then
 (some ((-1 : Int32), x4.2))
 else
 (bnd (C_startAhead x4.2) fun r5 =>
 grd (r5.1 = 46) (ald p2 6 (lett (sI r5.2 (54 + 2 * ix p2) 0 x4.1) fun M7 =>
 bnd (C_reaches p1 p2 p3 M7) fun r8 =>
 if r8.1 = 0 then
 (lett (x4.1 + (1 : Int32)) fun v9 =>
 rec28 (v9, r8.2))
 else
 (some (x4.1, r8.2)))))) 1000000 (v3, M))
 else
 (some ((-1 : Int32), M))))
abbrev rmC_least : Room := { frames := 7, cells := 0, slots := 0, locals := 187 }
set_option maxHeartbeats 4000000 in
set_option maxRecDepth 100000 in
theorem tC_least (E : Cx) (hE : CxOk E cX11_least RX11 shC (some .int) rmC_least 6) (p1 : Int32) (p2 : Int32) (p3 : Int32)  (M : Mm) : Ok E 0 [(0, .ref (E.Y.ad 0)), (1, .int p1), (2, .int p2), (3, .int p3)] [] M (C_least p1 p2 p3 M) (KI E) := by
  unfold C_least
  refine ok_aload_n hE 0 rfl dX11_least_0 ?_
  refine ok_iload_n hE 2 rfl dX11_least_1 ?_
  refine ok_cvIp hE rmC_isProcess [.int p2] [] rfl ca_X11_164 shC_0 rfl (fun _ hx => mC_isProcess hE.sys _  _ _ hx) ⟨rfl, rfl, rfl, rfl⟩ rfl rfl dX11_least_2 (fun r1 => ?_)
  refine ok_if_eq hE 23 rfl dX11_least_5 ?_ ?_
  · refine ok_iconst hE (-1 : Int32) ki_m1 dX11_least_23 ?_
    exact ok_ireturn hE dX11_least_24
  · refine ok_iload_n hE 1 rfl dX11_least_8 ?_
    refine ok_iconst hE (1 : Int32) ki_1 dX11_least_9 ?_
    refine ok_bipush hE (100 : Int32) kb_100 dX11_least_10 ?_
    refine ok_csIp hE rmC_isWithin [.int p1, .int (1 : Int32), .int (100 : Int32)] [] rfl ca_X11_306 (fun _ hx => mC_isWithin hE.sys _ _ _  _ _ hx) ⟨rfl, rfl, rfl, rfl⟩ rfl rfl dX11_least_12 (fun r2 => ?_)
    refine ok_if_eq hE 23 rfl dX11_least_15 ?_ ?_
    · refine ok_iconst hE (-1 : Int32) ki_m1 dX11_least_23 ?_
      exact ok_ireturn hE dX11_least_24
    · refine ok_iload_n hE 3 rfl dX11_least_18 ?_
      refine ok_iconst hE (1 : Int32) ki_1 dX11_least_19 ?_
      refine ok_icmp_ge hE 25 rfl dX11_least_20 ?_ ?_
      · refine ok_iconst hE (1 : Int32) ki_1 dX11_least_25 ?_
        refine ok_istore hE (fun v3 => [(4, .int v3), (0, .ref (E.Y.ad 0)), (1, .int p1), (2, .int p2), (3, .int p3)]) (fun _ => rfl) rfl dX11_least_26 (fun v3 => ?_)
        refine ok_sub [1, 2, 3, 4, 0] rfl (ok_loop (σ := Int32 × Mm) 28 (fun x4 => [(0, .ref (E.Y.ad 0)), (1, .int p1), (2, .int p2), (3, .int p3), (4, .int x4.1)]) (fun x4 => x4.2) (fun rec28 hrec28 x4 => ?_) 1000000 (v3, M))
        refine ok_iload hE 4 rfl dX11_least_28 ?_
        refine ok_bipush hE (100 : Int32) kb_100 dX11_least_30 ?_
        refine ok_icmp_gt hE 73 rfl dX11_least_32 ?_ ?_
        · refine ok_iconst hE (-1 : Int32) ki_m1 dX11_least_73 ?_
          exact ok_ireturn hE dX11_least_74
        · refine ok_aload_n hE 0 rfl dX11_least_35 ?_
          refine ok_cvA hE rmC_startAhead [] [] rfl ca_X11_317 shC_0 rfl (fun _ hx => mC_startAhead hE.sys   _ _ hx) ⟨rfl, rfl, rfl, rfl⟩ rfl rfl dX11_least_36 (fun r5 => ?_)
          refine ok_grd (fun hg11 => ?_)
          refine ok_code hg11 ?_
          refine ok_astore hE [(5, .ref (E.Y.ad 46)), (0, .ref (E.Y.ad 0)), (1, .int p1), (2, .int p2), (3, .int p3), (4, .int x4.1)] rfl rfl dX11_least_39 ?_
          refine ok_aload hE 0 rfl dX11_least_41 ?_
          refine ok_getC hE fl_X11_171 shC_46 rfl dX11_least_43 ?_
          refine ok_iload_n hE 3 rfl dX11_least_46 ?_
          refine ok_aaloadH hE shC_47 rfl dX11_least_47 (fun hi6 => ?_)
          refine ok_iload hE 5 rfl dX11_least_48 ?_
          refine ok_putI hE fl_X11_175 (shC_e_47 hi6) rfl dX11_least_50 (fun M7 => ?_)
          refine ok_aload hE 0 rfl dX11_least_53 ?_
          refine ok_iload_n hE 2 rfl dX11_least_55 ?_
          refine ok_iload_n hE 3 rfl dX11_least_56 ?_
          refine ok_iload_n hE 4 rfl dX11_least_57 ?_
          refine ok_csI hE rmC_reaches [.ref (E.Y.ad 46), .int p1, .int p2, .int p3] [] rfl ca_X11_338 (fun _ hx => mC_reaches hE.sys _ _ _  _ _ hx) ⟨rfl, rfl, rfl, rfl⟩ rfl rfl dX11_least_58 (fun r8 => ?_)
          refine ok_if_eq hE 67 rfl dX11_least_61 ?_ ?_
          · refine ok_iinc hE 5 (x4.1 + (1 : Int32)) (by rw [ko_1]) (fun v9 => [(4, .int v9), (5, .ref (E.Y.ad 46)), (0, .ref (E.Y.ad 0)), (1, .int p1), (2, .int p2), (3, .int p3)]) rfl (fun _ => rfl) rfl dX11_least_67 (fun v9 => ?_)
            refine ok_goto hE 28 rfl dX11_least_70 ?_
            exact ok_sub [2, 3, 4, 5, 0] rfl (hrec28 (v9, r8.2))
          · refine ok_iload hE 5 rfl dX11_least_64 ?_
            exact ok_ireturn hE dX11_least_66
      · refine ok_iconst hE (-1 : Int32) ki_m1 dX11_least_23 ?_
        exact ok_ireturn hE dX11_least_24
theorem mC_least {l : Launch} {Y : Sys} {t : Nat} (hY : SysOk Y t shC) (p1 : Int32) (p2 : Int32) (p3 : Int32)  (M : Mm) (r : (Int32 × Mm)) (h : C_least p1 p2 p3 M = some r) : Cm l Y t yX11_least (WS yX11_least cX11_least 6 (some .int)) rmC_least [.ref (Y.ad 0), .int p1, .int p2, .int p3] M (enI r) := by
  refine cm_of (own := RX11) hY rfl rfl (Nat.le_of_ble_eq_true rfl) (fun E hE e1 e2 e3 e4 => ?_)
  subst e1
  exact tC_least E hE p1 p2 p3  M r h e4.symm
def C_expiry (p1 : Int32) (p2 : Int32) (M : Mm) : Option (Int32 × Mm) :=
 bnd (C_hasDisk M) fun r1 =>
 if r1 = 0 then
 (some ((-1 : Int32), M))
 else
 (bnd (C_isWithin p1 (0 : Int32) (400 : Int32) M) fun r2 =>
 if r2 = 0 then
 (some ((-1 : Int32), M))
 else
 (bnd (C_isWithin p2 (0 : Int32) (3 : Int32) M) fun r3 =>
 if r3 = 0 then
 (some ((-1 : Int32), M))
 else
 (bnd (C_startAhead M) fun r4 =>
 grd (r4.1 = 46) (lett (1 : Int32) fun v5 =>
 lett (fun (u_5 : Int32) (M_6 : Mm) =>
 if p2 = 0 then
 (some (u_5, M_6))
 else
 (plnS M_6 46 fun q9 =>
 bnd (S_KTold (sbM (emS 46 q9) M_6)) fun r8 =>
 plnS M_6 46 fun q13 =>
 bnd (S_KTell (r8 - (1 : Int32)) p2 (sbM (emS 46 q13) M_6)) fun r12 =>
 some (r12, M_6))) fun j61 =>
 loopR (fun (rec37 : (Int32 × Mm) → Option (Int32 × Mm)) (x16 : Int32 × Mm) =>
 if (400 : Int32) < x16.1 then
 (some ((-1 : Int32), x16.2))
 else
 (plnS x16.2 46 fun q18 =>
 bnd (S_run (1 : Int32) (sbM (emS 46 q18) x16.2)) fun x17 =>
 lett (inM (dmS 46 q18) kpS x16.2 x17) fun M20 =>
 if (gI M20 52 1) ≤ p1 then
 (lett (x16.1 + (1 : Int32)) fun v21 =>
 rec37 (v21, M20))
 else
 (j61 x16.1 M20))) 1000000 (v5, r4.2)))))
abbrev rmC_expiry : Room := { frames := 6, cells := 0, slots := 0, locals := 162 }
set_option maxHeartbeats 4000000 in
set_option maxRecDepth 100000 in
theorem tC_expiry (E : Cx) (hE : CxOk E cX11_expiry RX11 shC (some .int) rmC_expiry 5) (p1 : Int32) (p2 : Int32)  (M : Mm) : Ok E 0 [(0, .ref (E.Y.ad 0)), (1, .int p1), (2, .int p2)] [] M (C_expiry p1 p2 M) (KI E) := by
  unfold C_expiry
  refine ok_aload_n hE 0 rfl dX11_expiry_0 ?_
  refine ok_cvIp hE rmC_hasDisk [] [] rfl ca_X11_269 shC_0 rfl (fun _ hx => mC_hasDisk hE.sys   _ _ hx) ⟨rfl, rfl, rfl, rfl⟩ rfl rfl dX11_expiry_1 (fun r1 => ?_)
  refine ok_if_eq hE 27 rfl dX11_expiry_4 ?_ ?_
  · refine ok_iconst hE (-1 : Int32) ki_m1 dX11_expiry_27 ?_
    exact ok_ireturn hE dX11_expiry_28
  · refine ok_iload_n hE 1 rfl dX11_expiry_7 ?_
    refine ok_iconst hE (0 : Int32) ki_0 dX11_expiry_8 ?_
    refine ok_sipush hE (400 : Int32) ks_400 dX11_expiry_9 ?_
    refine ok_csIp hE rmC_isWithin [.int p1, .int (0 : Int32), .int (400 : Int32)] [] rfl ca_X11_306 (fun _ hx => mC_isWithin hE.sys _ _ _  _ _ hx) ⟨rfl, rfl, rfl, rfl⟩ rfl rfl dX11_expiry_12 (fun r2 => ?_)
    refine ok_if_eq hE 27 rfl dX11_expiry_15 ?_ ?_
    · refine ok_iconst hE (-1 : Int32) ki_m1 dX11_expiry_27 ?_
      exact ok_ireturn hE dX11_expiry_28
    · refine ok_iload_n hE 2 rfl dX11_expiry_18 ?_
      refine ok_iconst hE (0 : Int32) ki_0 dX11_expiry_19 ?_
      refine ok_iconst hE (3 : Int32) ki_3 dX11_expiry_20 ?_
      refine ok_csIp hE rmC_isWithin [.int p2, .int (0 : Int32), .int (3 : Int32)] [] rfl ca_X11_306 (fun _ hx => mC_isWithin hE.sys _ _ _  _ _ hx) ⟨rfl, rfl, rfl, rfl⟩ rfl rfl dX11_expiry_21 (fun r3 => ?_)
      refine ok_if_ne hE 29 rfl dX11_expiry_24 ?_ ?_
      · refine ok_aload_n hE 0 rfl dX11_expiry_29 ?_
        refine ok_cvA hE rmC_startAhead [] [] rfl ca_X11_317 shC_0 rfl (fun _ hx => mC_startAhead hE.sys   _ _ hx) ⟨rfl, rfl, rfl, rfl⟩ rfl rfl dX11_expiry_30 (fun r4 => ?_)
        refine ok_grd (fun hg12 => ?_)
        refine ok_code hg12 ?_
        refine ok_astore_n hE [(3, .ref (E.Y.ad 46)), (0, .ref (E.Y.ad 0)), (1, .int p1), (2, .int p2)] rfl rfl dX11_expiry_33 ?_
        refine ok_iconst hE (1 : Int32) ki_1 dX11_expiry_34 ?_
        refine ok_istore hE (fun v5 => [(4, .int v5), (3, .ref (E.Y.ad 46)), (0, .ref (E.Y.ad 0)), (1, .int p1), (2, .int p2)]) (fun _ => rfl) rfl dX11_expiry_35 (fun v5 => ?_)
        refine ok_fun (fun j => ∀ (u_5 : Int32) (M_6 : Mm), Ok E 61 [(2, .int p2), (3, .ref (E.Y.ad 46)), (4, .int u_5)] [] M_6 (j u_5 M_6) (KI E)) (fun u_5 M_6 => ?_) (fun j61 hj61 => ?_)
        · refine ok_iload_n hE 0 rfl dX11_expiry_61 ?_
          refine ok_if_ne hE 70 rfl dX11_expiry_62 ?_ ?_
          · refine ok_aload_n hE 1 rfl dX11_expiry_70 ?_
            refine ok_getC hE fl_X11_154 shC_46 rfl dX11_expiry_71 ?_
            refine ok_aload_n hE 1 rfl dX11_expiry_74 ?_
            refine ok_getC hE fl_X11_154 shC_46 rfl dX11_expiry_75 ?_
            refine ok_plnS hE (fun q9 hq10 => ?_)
            refine ok_xIp hE rmS_KTold [] [.ref (E.Y.ad 52)] rfl ca_X11_158 shC_52 rfl hq10 rfl (fun hs _ hx => mS_KTold hs   _ _ hx) ⟨rfl, rfl, rfl, rfl⟩ rfl rfl dX11_expiry_78 (fun r8 => ?_)
            refine ok_iconst hE (1 : Int32) ki_1 dX11_expiry_81 ?_
            refine ok_isub hE dX11_expiry_82 ?_
            refine ok_iload_n hE 0 rfl dX11_expiry_83 ?_
            refine ok_plnS hE (fun q13 hq14 => ?_)
            refine ok_xIp hE rmS_KTell [.int (r8 - (1 : Int32)), .int p2] [] rfl ca_X11_304 shC_52 rfl hq14 rfl (fun hs _ hx => mS_KTell hs _ _  _ _ hx) ⟨rfl, rfl, rfl, rfl⟩ rfl rfl dX11_expiry_84 (fun r12 => ?_)
            exact ok_ireturn hE dX11_expiry_87
          · refine ok_iload hE 2 rfl dX11_expiry_65 ?_
            refine ok_goto hE 87 rfl dX11_expiry_67 ?_
            exact ok_ireturn hE dX11_expiry_87
        refine ok_sub [3, 4, 1, 0] rfl (ok_loop (σ := Int32 × Mm) 37 (fun x16 => [(1, .int p1), (2, .int p2), (3, .ref (E.Y.ad 46)), (4, .int x16.1)]) (fun x16 => x16.2) (fun rec37 hrec37 x16 => ?_) 1000000 (v5, r4.2))
        refine ok_iload hE 3 rfl dX11_expiry_37 ?_
        refine ok_sipush hE (400 : Int32) ks_400 dX11_expiry_39 ?_
        refine ok_icmp_gt hE 94 rfl dX11_expiry_42 ?_ ?_
        · refine ok_iconst hE (-1 : Int32) ki_m1 dX11_expiry_94 ?_
          exact ok_ireturn hE dX11_expiry_95
        · refine ok_aload_n hE 2 rfl dX11_expiry_45 ?_
          refine ok_iconst hE (1 : Int32) ki_1 dX11_expiry_46 ?_
          refine ok_plnS hE (fun q18 hq19 => ?_)
          refine ok_xV hE rmS_run [.int (1 : Int32)] [] rfl ca_X11_321 shC_46 rfl hq19 rfl (fun hs _ hx => mS_run hs _  _ _ hx) ⟨rfl, rfl, rfl, rfl⟩ rfl rfl dX11_expiry_47 (fun x17 M20 => ?_)
          refine ok_aload_n hE 2 rfl dX11_expiry_50 ?_
          refine ok_getC hE fl_X11_154 shC_46 rfl dX11_expiry_51 ?_
          refine ok_getI hE fl_X11_342 shC_52 rfl dX11_expiry_54 ?_
          refine ok_iload_n hE 0 rfl dX11_expiry_57 ?_
          refine ok_icmp_le hE 88 rfl dX11_expiry_58 ?_ ?_
          · refine ok_iinc hE 3 (x16.1 + (1 : Int32)) (by rw [ko_1]) (fun v21 => [(4, .int v21), (1, .int p1), (2, .int p2), (3, .ref (E.Y.ad 46))]) rfl (fun _ => rfl) rfl dX11_expiry_88 (fun v21 => ?_)
            refine ok_goto hE 37 rfl dX11_expiry_91 ?_
            exact ok_sub [1, 2, 3, 0] rfl (hrec37 (v21, M20))
          · exact ok_sub [1, 2, 3] rfl (hj61 x16.1 M20)
      · refine ok_iconst hE (-1 : Int32) ki_m1 dX11_expiry_27 ?_
        exact ok_ireturn hE dX11_expiry_28
theorem mC_expiry {l : Launch} {Y : Sys} {t : Nat} (hY : SysOk Y t shC) (p1 : Int32) (p2 : Int32)  (M : Mm) (r : (Int32 × Mm)) (h : C_expiry p1 p2 M = some r) : Cm l Y t yX11_expiry (WS yX11_expiry cX11_expiry 5 (some .int)) rmC_expiry [.ref (Y.ad 0), .int p1, .int p2] M (enI r) := by
  refine cm_of (own := RX11) hY rfl rfl (Nat.le_of_ble_eq_true rfl) (fun E hE e1 e2 e3 e4 => ?_)
  subst e1
  exact tC_expiry E hE p1 p2  M r h e4.symm
