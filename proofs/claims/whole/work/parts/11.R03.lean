def R_process (p1 : Int32) (p2 : Int32) (M : Mm) : Option (Int32 × Mm) :=
 bnd (R_isNow M) fun M1 =>
 bnd (R_isProcess p1 M1) fun r2 =>
 if r2 = 0 then
 (some ((-1 : Int32), M1))
 else
 (bnd (R_isIn p2 (0 : Int32) (12 : Int32) M1) fun r3 =>
 if r3 = 0 then
 (some ((-1 : Int32), M1))
 else
 (lett (fun (_ : Unit) =>
 bnd (R_of p1 p2 M1) fun r4 =>
 some (r4, M1)) fun j43 =>
 if p2 = (1 : Int32) then
 (bnd (R_of p1 (2 : Int32) M1) fun r5 =>
 if r5 = (1 : Int32) then
 (some ((0 : Int32), M1))
 else
 (j43 ()))
 else
 (j43 ())))
abbrev rmR_process : Room := { frames := 2, cells := 0, slots := 0, locals := 43 }
set_option maxHeartbeats 4000000 in
set_option maxRecDepth 100000 in
theorem tR_process (E : Cx) (hE : CxOk E cX12_process RX12 shR (some .int) rmR_process 3) (p1 : Int32) (p2 : Int32)  (M : Mm) : Ok E 0 [(0, .ref (E.Y.ad 0)), (1, .int p1), (2, .int p2)] [] M (R_process p1 p2 M) (KI E) := by
  unfold R_process
  refine ok_aload_n hE 0 rfl dX12_process_0 ?_
  refine ok_cvV hE rmR_isNow [] [] rfl ca_X12_324 shR_0 rfl (fun _ hx => mR_isNow hE.sys  _ _ hx) ⟨rfl, rfl, rfl, rfl⟩ rfl rfl dX12_process_1 (fun M1 => ?_)
  refine ok_aload_n hE 0 rfl dX12_process_4 ?_
  refine ok_iload_n hE 1 rfl dX12_process_5 ?_
  refine ok_cvIp hE rmR_isProcess [.int p1] [] rfl ca_X12_405 shR_0 rfl (fun _ hx => mR_isProcess hE.sys _ _ _ hx) ⟨rfl, rfl, rfl, rfl⟩ rfl rfl dX12_process_6 (fun r2 => ?_)
  refine ok_if_eq hE 22 rfl dX12_process_9 ?_ ?_
  · refine ok_iconst hE (-1 : Int32) ki_m1 dX12_process_22 ?_
    exact ok_ireturn hE dX12_process_23
  · refine ok_iload_n hE 2 rfl dX12_process_12 ?_
    refine ok_iconst hE (0 : Int32) ki_0 dX12_process_13 ?_
    refine ok_bipush hE (12 : Int32) kb_12 dX12_process_14 ?_
    refine ok_csIp hE rmR_isIn [.int p2, .int (0 : Int32), .int (12 : Int32)] [] rfl ca_X12_262 (fun _ hx => mR_isIn hE.sys _ _ _ _ _ hx) ⟨rfl, rfl, rfl, rfl⟩ rfl rfl dX12_process_16 (fun r3 => ?_)
    refine ok_if_ne hE 24 rfl dX12_process_19 ?_ ?_
    · refine ok_iload_n hE 2 rfl dX12_process_24 ?_
      refine ok_iconst hE (1 : Int32) ki_1 dX12_process_25 ?_
      refine ok_fun (fun j => ∀ (_ : Unit), Ok E 43 [(0, .ref (E.Y.ad 0)), (1, .int p1), (2, .int p2)] [] M1 (j ()) (KI E)) (fun _ => ?_) (fun j43 hj43 => ?_)
      · refine ok_aload_n hE 0 rfl dX12_process_43 ?_
        refine ok_iload_n hE 1 rfl dX12_process_44 ?_
        refine ok_iload_n hE 2 rfl dX12_process_45 ?_
        refine ok_cvIp hE rmR_of [.int p1, .int p2] [] rfl ca_X12_337 shR_0 rfl (fun _ hx => mR_of hE.sys _ _ _ _ hx) ⟨rfl, rfl, rfl, rfl⟩ rfl rfl dX12_process_46 (fun r4 => ?_)
        exact ok_ireturn hE dX12_process_49
      refine ok_icmp_ne hE 43 rfl dX12_process_26 ?_ ?_
      · exact ok_sub [0, 1, 2] rfl (hj43 ())
      · refine ok_aload_n hE 0 rfl dX12_process_29 ?_
        refine ok_iload_n hE 1 rfl dX12_process_30 ?_
        refine ok_iconst hE (2 : Int32) ki_2 dX12_process_31 ?_
        refine ok_cvIp hE rmR_of [.int p1, .int (2 : Int32)] [] rfl ca_X12_337 shR_0 rfl (fun _ hx => mR_of hE.sys _ _ _ _ hx) ⟨rfl, rfl, rfl, rfl⟩ rfl rfl dX12_process_32 (fun r5 => ?_)
        refine ok_iconst hE (1 : Int32) ki_1 dX12_process_35 ?_
        refine ok_icmp_ne hE 43 rfl dX12_process_36 ?_ ?_
        · exact ok_sub [0, 1, 2] rfl (hj43 ())
        · refine ok_iconst hE (0 : Int32) ki_0 dX12_process_39 ?_
          refine ok_goto hE 49 rfl dX12_process_40 ?_
          exact ok_ireturn hE dX12_process_49
    · refine ok_iconst hE (-1 : Int32) ki_m1 dX12_process_22 ?_
      exact ok_ireturn hE dX12_process_23
theorem mR_process {l : Launch} {Y : Sys} {t : Nat} (hY : SysOk Y t shR) (p1 : Int32) (p2 : Int32)  (M : Mm) (r : (Int32 × Mm)) (h : R_process p1 p2 M = some r) : Cm l Y t yX12_process (WS yX12_process cX12_process 3 (some .int)) rmR_process [.ref (Y.ad 0), .int p1, .int p2] M (enI r) := by
  refine cm_of (own := RX12) hY rfl rfl (Nat.le_of_ble_eq_true rfl) (fun E hE e1 e2 e3 e4 => ?_)
  subst e1
  exact tR_process E hE p1 p2  M r h e4.symm
def R_isNaN_b9ae7 (p1 : UInt64) (M : Mm) : Option Int32 :=
 if (Op.cmpValue (FP.dcmp p1 p1) .l) = 0 then
 (some (0 : Int32))
 else
 (some (1 : Int32))
abbrev rmR_isNaN_b9ae7 : Room := { frames := 0, cells := 0, slots := 0, locals := 0 }
set_option maxHeartbeats 4000000 in
set_option maxRecDepth 100000 in
theorem tR_isNaN_b9ae7 (E : Cx) (hE : CxOk E cJxe99ae_isNaN_b9ae7 RJxe99ae shR (some .boolean) rmR_isNaN_b9ae7 2) (p1 : UInt64)  (M : Mm) : Ok E 0 [(0, .double p1)] [] M (R_isNaN_b9ae7 p1 M) (KIp E M) := by
  unfold R_isNaN_b9ae7
  refine ok_dload_n hE 0 rfl dJxe99ae_isNaN_b9ae7_0 ?_
  refine ok_dload_n hE 0 rfl dJxe99ae_isNaN_b9ae7_1 ?_
  refine ok_dcmp hE dJxe99ae_isNaN_b9ae7_2 ?_
  refine ok_if_eq hE 10 rfl dJxe99ae_isNaN_b9ae7_3 ?_ ?_
  · refine ok_iconst hE (0 : Int32) ki_0 dJxe99ae_isNaN_b9ae7_10 ?_
    exact ok_zreturnP hE (Or.inl rfl) dJxe99ae_isNaN_b9ae7_11
  · refine ok_iconst hE (1 : Int32) ki_1 dJxe99ae_isNaN_b9ae7_6 ?_
    refine ok_goto hE 11 rfl dJxe99ae_isNaN_b9ae7_7 ?_
    exact ok_zreturnP hE (Or.inr rfl) dJxe99ae_isNaN_b9ae7_11
theorem mR_isNaN_b9ae7 {l : Launch} {Y : Sys} {t : Nat} (hY : SysOk Y t shR) (p1 : UInt64)  (M : Mm) (r : Int32) (h : R_isNaN_b9ae7 p1 M = some r) : Cm l Y t yJxe99ae_isNaN_b9ae7 (WS yJxe99ae_isNaN_b9ae7 cJxe99ae_isNaN_b9ae7 2 (some .boolean)) rmR_isNaN_b9ae7 [.double p1] M ((some (.int r), M)) := by
  refine cm_ofF (own := RJxe99ae) hY (by decide +kernel) rfl (Nat.le_of_ble_eq_true rfl) (fun E hE e1 e2 e3 e4 => ?_)
  subst e1
  exact tR_isNaN_b9ae7 E hE p1  M r h e4.symm
def R_doubleToLongBits_ccdee (p1 : UInt64) (M : Mm) : Option Int64 :=
 bnd (R_isNaN_b9ae7 p1 M) fun r1 =>
 if r1 = 0 then
 (some p1.toInt64)
 else
 (some (9221120237041090560 : Int64))
abbrev rmR_doubleToLongBits_ccdee : Room := { frames := 1, cells := 0, slots := 0, locals := 23 }
set_option maxHeartbeats 4000000 in
set_option maxRecDepth 100000 in
theorem tR_doubleToLongBits_ccdee (E : Cx) (hE : CxOk E cJxe99ae_doubleToLongBits_ccdee RJxe99ae shR (some .long) rmR_doubleToLongBits_ccdee 2) (p1 : UInt64)  (M : Mm) : Ok E 0 [(0, .double p1)] [] M (R_doubleToLongBits_ccdee p1 M) (KLp E M) := by
  unfold R_doubleToLongBits_ccdee
  refine ok_dload_n hE 0 rfl dJxe99ae_doubleToLongBits_ccdee_0 ?_
  refine ok_csIp hE rmR_isNaN_b9ae7 [.double p1] [] rfl ca_Jxe99ae_122 (fun _ hx => mR_isNaN_b9ae7 hE.sys _ _ _ hx) ⟨rfl, rfl, rfl, rfl⟩ rfl rfl dJxe99ae_doubleToLongBits_ccdee_1 (fun r1 => ?_)
  refine ok_if_ne hE 12 rfl dJxe99ae_doubleToLongBits_ccdee_4 ?_ ?_
  · refine ok_ldc2 hE ct_Jxe99ae_137 dJxe99ae_doubleToLongBits_ccdee_12 ?_
    exact ok_lreturnP hE dJxe99ae_doubleToLongBits_ccdee_15
  · refine ok_dload_n hE 0 rfl dJxe99ae_doubleToLongBits_ccdee_7 ?_
    refine ok_d2raw hE rw_Jxe99ae_134 ⟨rfl, rfl⟩ dJxe99ae_doubleToLongBits_ccdee_8 ?_
    exact ok_lreturnP hE dJxe99ae_doubleToLongBits_ccdee_11
theorem mR_doubleToLongBits_ccdee {l : Launch} {Y : Sys} {t : Nat} (hY : SysOk Y t shR) (p1 : UInt64)  (M : Mm) (r : Int64) (h : R_doubleToLongBits_ccdee p1 M = some r) : Cm l Y t yJxe99ae_doubleToLongBits_ccdee (WS yJxe99ae_doubleToLongBits_ccdee cJxe99ae_doubleToLongBits_ccdee 2 (some .long)) rmR_doubleToLongBits_ccdee [.double p1] M ((some (.long r), M)) := by
  refine cm_ofF (own := RJxe99ae) hY (by decide +kernel) rfl (Nat.le_of_ble_eq_true rfl) (fun E hE e1 e2 e3 e4 => ?_)
  subst e1
  exact tR_doubleToLongBits_ccdee E hE p1  M r h e4.symm
def R_mean (p1 : Int32) (M : Mm) : Option (Int64 × Mm) :=
 bnd (R_isNow M) fun M1 =>
 bnd (R_isProcess p1 M1) fun r2 =>
 if r2 = 0 then
 (some ((-1 : Int64), M1))
 else
 (bnd (R_of p1 (9 : Int32) M1) fun r3 =>
 if r3 = 0 then
 (some ((-1 : Int64), M1))
 else
 (bnd (R_of p1 (11 : Int32) M1) fun r4 =>
 bnd (R_of p1 (9 : Int32) M1) fun r5 =>
 grd ((FP.ddiv (FP.i2d r4) (FP.i2d r5)) &&& 0x7fffffffffffffff ≤ 0x7ff0000000000000) (bnd (R_doubleToLongBits_ccdee (FP.ddiv (FP.i2d r4) (FP.i2d r5)) M1) fun r6 =>
 some (r6, M1))))
abbrev rmR_mean : Room := { frames := 2, cells := 0, slots := 0, locals := 44 }
set_option maxHeartbeats 4000000 in
set_option maxRecDepth 100000 in
theorem tR_mean (E : Cx) (hE : CxOk E cX12_mean RX12 shR (some .long) rmR_mean 2) (p1 : Int32)  (M : Mm) : Ok E 0 [(0, .ref (E.Y.ad 0)), (1, .int p1)] [] M (R_mean p1 M) (KL E) := by
  unfold R_mean
  refine ok_aload_n hE 0 rfl dX12_mean_0 ?_
  refine ok_cvV hE rmR_isNow [] [] rfl ca_X12_324 shR_0 rfl (fun _ hx => mR_isNow hE.sys  _ _ hx) ⟨rfl, rfl, rfl, rfl⟩ rfl rfl dX12_mean_1 (fun M1 => ?_)
  refine ok_aload_n hE 0 rfl dX12_mean_4 ?_
  refine ok_iload_n hE 1 rfl dX12_mean_5 ?_
  refine ok_cvIp hE rmR_isProcess [.int p1] [] rfl ca_X12_405 shR_0 rfl (fun _ hx => mR_isProcess hE.sys _ _ _ hx) ⟨rfl, rfl, rfl, rfl⟩ rfl rfl dX12_mean_6 (fun r2 => ?_)
  refine ok_if_eq hE 22 rfl dX12_mean_9 ?_ ?_
  · refine ok_ldc2 hE ct_X12_408 dX12_mean_22 ?_
    exact ok_lreturn hE dX12_mean_25
  · refine ok_aload_n hE 0 rfl dX12_mean_12 ?_
    refine ok_iload_n hE 1 rfl dX12_mean_13 ?_
    refine ok_bipush hE (9 : Int32) kb_9 dX12_mean_14 ?_
    refine ok_cvIp hE rmR_of [.int p1, .int (9 : Int32)] [] rfl ca_X12_337 shR_0 rfl (fun _ hx => mR_of hE.sys _ _ _ _ hx) ⟨rfl, rfl, rfl, rfl⟩ rfl rfl dX12_mean_16 (fun r3 => ?_)
    refine ok_if_ne hE 26 rfl dX12_mean_19 ?_ ?_
    · refine ok_aload_n hE 0 rfl dX12_mean_26 ?_
      refine ok_iload_n hE 1 rfl dX12_mean_27 ?_
      refine ok_bipush hE (11 : Int32) kb_11 dX12_mean_28 ?_
      refine ok_cvIp hE rmR_of [.int p1, .int (11 : Int32)] [] rfl ca_X12_337 shR_0 rfl (fun _ hx => mR_of hE.sys _ _ _ _ hx) ⟨rfl, rfl, rfl, rfl⟩ rfl rfl dX12_mean_30 (fun r4 => ?_)
      refine ok_i2d hE dX12_mean_33 ?_
      refine ok_aload_n hE 0 rfl dX12_mean_34 ?_
      refine ok_iload_n hE 1 rfl dX12_mean_35 ?_
      refine ok_bipush hE (9 : Int32) kb_9 dX12_mean_36 ?_
      refine ok_cvIp hE rmR_of [.int p1, .int (9 : Int32)] [.double (FP.i2d r4)] rfl ca_X12_337 shR_0 rfl (fun _ hx => mR_of hE.sys _ _ _ _ hx) ⟨rfl, rfl, rfl, rfl⟩ rfl rfl dX12_mean_38 (fun r5 => ?_)
      refine ok_i2d hE dX12_mean_41 ?_
      refine ok_ddiv hE dX12_mean_42 ?_
      refine ok_csLp hE rmR_doubleToLongBits_ccdee [.double (FP.ddiv (FP.i2d r4) (FP.i2d r5))] [] rfl ca_X12_410 (fun _ hx => mR_doubleToLongBits_ccdee hE.sys _ _ _ hx) ⟨rfl, rfl, rfl, rfl⟩ rfl rfl dX12_mean_43 (fun r6 => ?_)
      exact ok_lreturn hE dX12_mean_46
    · refine ok_ldc2 hE ct_X12_408 dX12_mean_22 ?_
      exact ok_lreturn hE dX12_mean_25
theorem mR_mean {l : Launch} {Y : Sys} {t : Nat} (hY : SysOk Y t shR) (p1 : Int32)  (M : Mm) (r : (Int64 × Mm)) (h : R_mean p1 M = some r) : Cm l Y t yX12_mean (WS yX12_mean cX12_mean 2 (some .long)) rmR_mean [.ref (Y.ad 0), .int p1] M (enL r) := by
  refine cm_of (own := RX12) hY rfl rfl (Nat.le_of_ble_eq_true rfl) (fun E hE e1 e2 e3 e4 => ?_)
  subst e1
  exact tR_mean E hE p1  M r h e4.symm
def R_isNaN_12338 (p1 : UInt32) (M : Mm) : Option Int32 :=
 if (Op.cmpValue (FP.fcmp p1 p1) .l) = 0 then
 (some (0 : Int32))
 else
 (some (1 : Int32))
abbrev rmR_isNaN_12338 : Room := { frames := 0, cells := 0, slots := 0, locals := 0 }
set_option maxHeartbeats 4000000 in
set_option maxRecDepth 100000 in
theorem tR_isNaN_12338 (E : Cx) (hE : CxOk E cJxf58ca_isNaN_12338 RJxf58ca shR (some .boolean) rmR_isNaN_12338 1) (p1 : UInt32)  (M : Mm) : Ok E 0 [(0, .float p1)] [] M (R_isNaN_12338 p1 M) (KIp E M) := by
  unfold R_isNaN_12338
  refine ok_fload_n hE 0 rfl dJxf58ca_isNaN_12338_0 ?_
  refine ok_fload_n hE 0 rfl dJxf58ca_isNaN_12338_1 ?_
  refine ok_fcmp hE dJxf58ca_isNaN_12338_2 ?_
  refine ok_if_eq hE 10 rfl dJxf58ca_isNaN_12338_3 ?_ ?_
  · refine ok_iconst hE (0 : Int32) ki_0 dJxf58ca_isNaN_12338_10 ?_
    exact ok_zreturnP hE (Or.inl rfl) dJxf58ca_isNaN_12338_11
  · refine ok_iconst hE (1 : Int32) ki_1 dJxf58ca_isNaN_12338_6 ?_
    refine ok_goto hE 11 rfl dJxf58ca_isNaN_12338_7 ?_
    exact ok_zreturnP hE (Or.inr rfl) dJxf58ca_isNaN_12338_11
theorem mR_isNaN_12338 {l : Launch} {Y : Sys} {t : Nat} (hY : SysOk Y t shR) (p1 : UInt32)  (M : Mm) (r : Int32) (h : R_isNaN_12338 p1 M = some r) : Cm l Y t yJxf58ca_isNaN_12338 (WS yJxf58ca_isNaN_12338 cJxf58ca_isNaN_12338 1 (some .boolean)) rmR_isNaN_12338 [.float p1] M ((some (.int r), M)) := by
  refine cm_ofF (own := RJxf58ca) hY (by decide +kernel) rfl (Nat.le_of_ble_eq_true rfl) (fun E hE e1 e2 e3 e4 => ?_)
  subst e1
  exact tR_isNaN_12338 E hE p1  M r h e4.symm
def R_floatToIntBits_5c35a (p1 : UInt32) (M : Mm) : Option Int32 :=
 bnd (R_isNaN_12338 p1 M) fun r1 =>
 if r1 = 0 then
 (some p1.toInt32)
 else
 (some (2143289344 : Int32))
abbrev rmR_floatToIntBits_5c35a : Room := { frames := 1, cells := 0, slots := 0, locals := 23 }
set_option maxHeartbeats 4000000 in
set_option maxRecDepth 100000 in
theorem tR_floatToIntBits_5c35a (E : Cx) (hE : CxOk E cJxf58ca_floatToIntBits_5c35a RJxf58ca shR (some .int) rmR_floatToIntBits_5c35a 1) (p1 : UInt32)  (M : Mm) : Ok E 0 [(0, .float p1)] [] M (R_floatToIntBits_5c35a p1 M) (KIp E M) := by
  unfold R_floatToIntBits_5c35a
  refine ok_fload_n hE 0 rfl dJxf58ca_floatToIntBits_5c35a_0 ?_
  refine ok_csIp hE rmR_isNaN_12338 [.float p1] [] rfl ca_Jxf58ca_59 (fun _ hx => mR_isNaN_12338 hE.sys _ _ _ hx) ⟨rfl, rfl, rfl, rfl⟩ rfl rfl dJxf58ca_floatToIntBits_5c35a_1 (fun r1 => ?_)
  refine ok_if_ne hE 12 rfl dJxf58ca_floatToIntBits_5c35a_4 ?_ ?_
  · refine ok_ldc hE ct_Jxf58ca_77 dJxf58ca_floatToIntBits_5c35a_12 ?_
    exact ok_ireturnP hE dJxf58ca_floatToIntBits_5c35a_14
  · refine ok_fload_n hE 0 rfl dJxf58ca_floatToIntBits_5c35a_7 ?_
    refine ok_f2raw hE rw_Jxf58ca_74 ⟨rfl, rfl⟩ dJxf58ca_floatToIntBits_5c35a_8 ?_
    exact ok_ireturnP hE dJxf58ca_floatToIntBits_5c35a_11
theorem mR_floatToIntBits_5c35a {l : Launch} {Y : Sys} {t : Nat} (hY : SysOk Y t shR) (p1 : UInt32)  (M : Mm) (r : Int32) (h : R_floatToIntBits_5c35a p1 M = some r) : Cm l Y t yJxf58ca_floatToIntBits_5c35a (WS yJxf58ca_floatToIntBits_5c35a cJxf58ca_floatToIntBits_5c35a 1 (some .int)) rmR_floatToIntBits_5c35a [.float p1] M ((some (.int r), M)) := by
  refine cm_ofF (own := RJxf58ca) hY (by decide +kernel) rfl (Nat.le_of_ble_eq_true rfl) (fun E hE e1 e2 e3 e4 => ?_)
  subst e1
  exact tR_floatToIntBits_5c35a E hE p1  M r h e4.symm
def R_queue (p1 : Int32) (p2 : Int32) (M : Mm) : Option (Int32 × Mm) :=
 bnd (R_isNow M) fun M1 =>
 bnd (R_isProcess p1 M1) fun r2 =>
 if r2 = 0 then
 (some ((-1 : Int32), M1))
 else
 (if p2 = (0 : Int32) then
 (bnd (R_lying p1 M1) fun r33 =>
 some (r33, M1))
 else
 (if p2 = (1 : Int32) then
 (bnd (R_ofQueue p1 (0 : Int32) M1) fun r32 =>
 some (r32, M1))
 else
 (if p2 = (2 : Int32) then
 (bnd (R_its (2 : Int32) M1) fun r30 =>
 if r30 = p1 then
 (bnd (R_ofQueue p1 (1 : Int32) M1) fun r31 =>
 some (r31, M1))
 else
 (some ((0 : Int32), M1)))
 else
 (if p2 = (3 : Int32) then
 (bnd (R_ofQueue p1 (2 : Int32) M1) fun r29 =>
 some (r29, M1))
 else
 (if p2 = (4 : Int32) then
 (bnd (R_far p1 M1) fun r28 =>
 some (r28, M1))
 else
 (if p2 = (5 : Int32) then
 (bnd (R_far p1 M1) fun r27 =>
 if r27 < (5 : Int32) then
 (some ((0 : Int32), M1))
 else
 (some ((1 : Int32), M1)))
 else
 (if p2 = (6 : Int32) then
 (bnd (R_ofQueue p1 (4 : Int32) M1) fun r26 =>
 some (r26, M1))
 else
 (if p2 = (7 : Int32) then
 (bnd (R_ofQueue p1 (5 : Int32) M1) fun r25 =>
 some (r25, M1))
 else
 (if p2 = (8 : Int32) then
 (bnd (R_weightOf p1 M1) fun r24 =>
 some (r24, M1))
 else
 (if p2 = (9 : Int32) then
 (bnd (R_its (2 : Int32) M1) fun r22 =>
 if r22 = p1 then
 (some ((0 : Int32), M1))
 else
 (bnd (R_lying p1 M1) fun r23 =>
 if r23 ≤ 0 then
 (some ((0 : Int32), M1))
 else
 (some ((1 : Int32), M1))))
 else
 (if p2 = (10 : Int32) then
 (bnd (R_part ((0 : Int32) + p1) M1) fun r20 =>
 bnd (R_floatToIntBits_5c35a r20 M1) fun r21 =>
 some (r21, M1))
 else
 (if p2 = (11 : Int32) then
 (bnd (R_part ((6 : Int32) + p1) M1) fun r18 =>
 bnd (R_floatToIntBits_5c35a r18 M1) fun r19 =>
 some (r19, M1))
 else
 (if p2 = (12 : Int32) then
 (bnd (R_part ((12 : Int32) + p1) M1) fun r16 =>
 bnd (R_floatToIntBits_5c35a r16 M1) fun r17 =>
 some (r17, M1))
 else
 (some ((-1 : Int32), M1)))))))))))))))
abbrev rmR_queue : Room := { frames := 3, cells := 0, slots := 0, locals := 66 }
set_option maxHeartbeats 4000000 in
set_option maxRecDepth 100000 in
theorem tR_queue (E : Cx) (hE : CxOk E cX12_queue RX12 shR (some .int) rmR_queue 3) (p1 : Int32) (p2 : Int32)  (M : Mm) : Ok E 0 [(0, .ref (E.Y.ad 0)), (1, .int p1), (2, .int p2)] [] M (R_queue p1 p2 M) (KI E) := by
  unfold R_queue
  refine ok_aload_n hE 0 rfl dX12_queue_0 ?_
  refine ok_cvV hE rmR_isNow [] [] rfl ca_X12_324 shR_0 rfl (fun _ hx => mR_isNow hE.sys  _ _ hx) ⟨rfl, rfl, rfl, rfl⟩ rfl rfl dX12_queue_1 (fun M1 => ?_)
  refine ok_aload_n hE 0 rfl dX12_queue_4 ?_
  refine ok_iload_n hE 1 rfl dX12_queue_5 ?_
  refine ok_cvIp hE rmR_isProcess [.int p1] [] rfl ca_X12_405 shR_0 rfl (fun _ hx => mR_isProcess hE.sys _ _ _ hx) ⟨rfl, rfl, rfl, rfl⟩ rfl rfl dX12_queue_6 (fun r2 => ?_)
  refine ok_if_ne hE 14 rfl dX12_queue_9 ?_ ?_
  · refine ok_iload_n hE 2 rfl dX12_queue_14 ?_
    refine ok_ite (fun hc3 => ?_) (fun hc3 => ?_)
    · refine ok_tableIn hE (off := 65) (0 : Int32) 80 hc3 dX12_queue_15 (by decide) rfl ?_
      refine ok_aload_n hE 0 rfl dX12_queue_80 ?_
      refine ok_iload_n hE 1 rfl dX12_queue_81 ?_
      refine ok_cvIp hE rmR_lying [.int p1] [] rfl ca_X12_349 shR_0 rfl (fun _ hx => mR_lying hE.sys _ _ _ hx) ⟨rfl, rfl, rfl, rfl⟩ rfl rfl dX12_queue_82 (fun r33 => ?_)
      exact ok_ireturn hE dX12_queue_85
    · refine ok_ite (fun hc4 => ?_) (fun hc4 => ?_)
      · refine ok_tableIn hE (off := 71) (1 : Int32) 86 hc4 dX12_queue_15 (by decide) rfl ?_
        refine ok_aload_n hE 0 rfl dX12_queue_86 ?_
        refine ok_iload_n hE 1 rfl dX12_queue_87 ?_
        refine ok_iconst hE (0 : Int32) ki_0 dX12_queue_88 ?_
        refine ok_cvIp hE rmR_ofQueue [.int p1, .int (0 : Int32)] [] rfl ca_X12_340 shR_0 rfl (fun _ hx => mR_ofQueue hE.sys _ _ _ _ hx) ⟨rfl, rfl, rfl, rfl⟩ rfl rfl dX12_queue_89 (fun r32 => ?_)
        exact ok_ireturn hE dX12_queue_92
      · refine ok_ite (fun hc5 => ?_) (fun hc5 => ?_)
        · refine ok_tableIn hE (off := 78) (2 : Int32) 93 hc5 dX12_queue_15 (by decide) rfl ?_
          refine ok_aload_n hE 0 rfl dX12_queue_93 ?_
          refine ok_iconst hE (2 : Int32) ki_2 dX12_queue_94 ?_
          refine ok_cvIp hE rmR_its [.int (2 : Int32)] [] rfl ca_X12_321 shR_0 rfl (fun _ hx => mR_its hE.sys _ _ _ hx) ⟨rfl, rfl, rfl, rfl⟩ rfl rfl dX12_queue_95 (fun r30 => ?_)
          refine ok_iload_n hE 1 rfl dX12_queue_98 ?_
          refine ok_icmp_ne hE 111 rfl dX12_queue_99 ?_ ?_
          · refine ok_iconst hE (0 : Int32) ki_0 dX12_queue_111 ?_
            exact ok_ireturn hE dX12_queue_112
          · refine ok_aload_n hE 0 rfl dX12_queue_102 ?_
            refine ok_iload_n hE 1 rfl dX12_queue_103 ?_
            refine ok_iconst hE (1 : Int32) ki_1 dX12_queue_104 ?_
            refine ok_cvIp hE rmR_ofQueue [.int p1, .int (1 : Int32)] [] rfl ca_X12_340 shR_0 rfl (fun _ hx => mR_ofQueue hE.sys _ _ _ _ hx) ⟨rfl, rfl, rfl, rfl⟩ rfl rfl dX12_queue_105 (fun r31 => ?_)
            refine ok_goto hE 112 rfl dX12_queue_108 ?_
            exact ok_ireturn hE dX12_queue_112
        · refine ok_ite (fun hc6 => ?_) (fun hc6 => ?_)
          · refine ok_tableIn hE (off := 98) (3 : Int32) 113 hc6 dX12_queue_15 (by decide) rfl ?_
            refine ok_aload_n hE 0 rfl dX12_queue_113 ?_
            refine ok_iload_n hE 1 rfl dX12_queue_114 ?_
            refine ok_iconst hE (2 : Int32) ki_2 dX12_queue_115 ?_
            refine ok_cvIp hE rmR_ofQueue [.int p1, .int (2 : Int32)] [] rfl ca_X12_340 shR_0 rfl (fun _ hx => mR_ofQueue hE.sys _ _ _ _ hx) ⟨rfl, rfl, rfl, rfl⟩ rfl rfl dX12_queue_116 (fun r29 => ?_)
            exact ok_ireturn hE dX12_queue_119
          · refine ok_ite (fun hc7 => ?_) (fun hc7 => ?_)
            · refine ok_tableIn hE (off := 105) (4 : Int32) 120 hc7 dX12_queue_15 (by decide) rfl ?_
              refine ok_aload_n hE 0 rfl dX12_queue_120 ?_
              refine ok_iload_n hE 1 rfl dX12_queue_121 ?_
              refine ok_cvIp hE rmR_far [.int p1] [] rfl ca_X12_387 shR_0 rfl (fun _ hx => mR_far hE.sys _ _ _ hx) ⟨rfl, rfl, rfl, rfl⟩ rfl rfl dX12_queue_122 (fun r28 => ?_)
              exact ok_ireturn hE dX12_queue_125
            · refine ok_ite (fun hc8 => ?_) (fun hc8 => ?_)
              · refine ok_tableIn hE (off := 111) (5 : Int32) 126 hc8 dX12_queue_15 (by decide) rfl ?_
                refine ok_aload_n hE 0 rfl dX12_queue_126 ?_
                refine ok_iload_n hE 1 rfl dX12_queue_127 ?_
                refine ok_cvIp hE rmR_far [.int p1] [] rfl ca_X12_387 shR_0 rfl (fun _ hx => mR_far hE.sys _ _ _ hx) ⟨rfl, rfl, rfl, rfl⟩ rfl rfl dX12_queue_128 (fun r27 => ?_)
                refine ok_iconst hE (5 : Int32) ki_5 dX12_queue_131 ?_
                refine ok_icmp_lt hE 139 rfl dX12_queue_132 ?_ ?_
                · refine ok_iconst hE (0 : Int32) ki_0 dX12_queue_139 ?_
                  exact ok_ireturn hE dX12_queue_140
                · refine ok_iconst hE (1 : Int32) ki_1 dX12_queue_135 ?_
                  refine ok_goto hE 140 rfl dX12_queue_136 ?_
                  exact ok_ireturn hE dX12_queue_140
              · refine ok_ite (fun hc9 => ?_) (fun hc9 => ?_)
                · refine ok_tableIn hE (off := 126) (6 : Int32) 141 hc9 dX12_queue_15 (by decide) rfl ?_
                  refine ok_aload_n hE 0 rfl dX12_queue_141 ?_
                  refine ok_iload_n hE 1 rfl dX12_queue_142 ?_
                  refine ok_iconst hE (4 : Int32) ki_4 dX12_queue_143 ?_
                  refine ok_cvIp hE rmR_ofQueue [.int p1, .int (4 : Int32)] [] rfl ca_X12_340 shR_0 rfl (fun _ hx => mR_ofQueue hE.sys _ _ _ _ hx) ⟨rfl, rfl, rfl, rfl⟩ rfl rfl dX12_queue_144 (fun r26 => ?_)
                  exact ok_ireturn hE dX12_queue_147
                · refine ok_ite (fun hc10 => ?_) (fun hc10 => ?_)
                  · refine ok_tableIn hE (off := 133) (7 : Int32) 148 hc10 dX12_queue_15 (by decide) rfl ?_
                    refine ok_aload_n hE 0 rfl dX12_queue_148 ?_
                    refine ok_iload_n hE 1 rfl dX12_queue_149 ?_
                    refine ok_iconst hE (5 : Int32) ki_5 dX12_queue_150 ?_
                    refine ok_cvIp hE rmR_ofQueue [.int p1, .int (5 : Int32)] [] rfl ca_X12_340 shR_0 rfl (fun _ hx => mR_ofQueue hE.sys _ _ _ _ hx) ⟨rfl, rfl, rfl, rfl⟩ rfl rfl dX12_queue_151 (fun r25 => ?_)
                    exact ok_ireturn hE dX12_queue_154
                  · refine ok_ite (fun hc11 => ?_) (fun hc11 => ?_)
                    · refine ok_tableIn hE (off := 140) (8 : Int32) 155 hc11 dX12_queue_15 (by decide) rfl ?_
                      refine ok_aload_n hE 0 rfl dX12_queue_155 ?_
                      refine ok_iload_n hE 1 rfl dX12_queue_156 ?_
                      refine ok_cvIp hE rmR_weightOf [.int p1] [] rfl ca_X12_358 shR_0 rfl (fun _ hx => mR_weightOf hE.sys _ _ _ hx) ⟨rfl, rfl, rfl, rfl⟩ rfl rfl dX12_queue_157 (fun r24 => ?_)
                      exact ok_ireturn hE dX12_queue_160
                    · refine ok_ite (fun hc12 => ?_) (fun hc12 => ?_)
                      · refine ok_tableIn hE (off := 146) (9 : Int32) 161 hc12 dX12_queue_15 (by decide) rfl ?_
                        refine ok_aload_n hE 0 rfl dX12_queue_161 ?_
                        refine ok_iconst hE (2 : Int32) ki_2 dX12_queue_162 ?_
                        refine ok_cvIp hE rmR_its [.int (2 : Int32)] [] rfl ca_X12_321 shR_0 rfl (fun _ hx => mR_its hE.sys _ _ _ hx) ⟨rfl, rfl, rfl, rfl⟩ rfl rfl dX12_queue_163 (fun r22 => ?_)
                        refine ok_iload_n hE 1 rfl dX12_queue_166 ?_
                        refine ok_icmp_eq hE 182 rfl dX12_queue_167 ?_ ?_
                        · refine ok_iconst hE (0 : Int32) ki_0 dX12_queue_182 ?_
                          exact ok_ireturn hE dX12_queue_183
                        · refine ok_aload_n hE 0 rfl dX12_queue_170 ?_
                          refine ok_iload_n hE 1 rfl dX12_queue_171 ?_
                          refine ok_cvIp hE rmR_lying [.int p1] [] rfl ca_X12_349 shR_0 rfl (fun _ hx => mR_lying hE.sys _ _ _ hx) ⟨rfl, rfl, rfl, rfl⟩ rfl rfl dX12_queue_172 (fun r23 => ?_)
                          refine ok_if_le hE 182 rfl dX12_queue_175 ?_ ?_
                          · refine ok_iconst hE (0 : Int32) ki_0 dX12_queue_182 ?_
                            exact ok_ireturn hE dX12_queue_183
                          · refine ok_iconst hE (1 : Int32) ki_1 dX12_queue_178 ?_
                            refine ok_goto hE 183 rfl dX12_queue_179 ?_
                            exact ok_ireturn hE dX12_queue_183
                      · refine ok_ite (fun hc13 => ?_) (fun hc13 => ?_)
                        · refine ok_tableIn hE (off := 169) (10 : Int32) 184 hc13 dX12_queue_15 (by decide) rfl ?_
                          refine ok_aload_n hE 0 rfl dX12_queue_184 ?_
                          refine ok_iconst hE (0 : Int32) ki_0 dX12_queue_185 ?_
                          refine ok_iload_n hE 1 rfl dX12_queue_186 ?_
                          refine ok_iadd hE dX12_queue_187 ?_
                          refine ok_cvFp hE rmR_part [.int ((0 : Int32) + p1)] [] rfl ca_X12_352 shR_0 rfl (fun _ hx => mR_part hE.sys _ _ _ hx) ⟨rfl, rfl, rfl, rfl⟩ rfl rfl dX12_queue_188 (fun r20 => ?_)
                          refine ok_csIp hE rmR_floatToIntBits_5c35a [.float r20] [] rfl ca_X12_416 (fun _ hx => mR_floatToIntBits_5c35a hE.sys _ _ _ hx) ⟨rfl, rfl, rfl, rfl⟩ rfl rfl dX12_queue_191 (fun r21 => ?_)
                          exact ok_ireturn hE dX12_queue_194
                        · refine ok_ite (fun hc14 => ?_) (fun hc14 => ?_)
                          · refine ok_tableIn hE (off := 180) (11 : Int32) 195 hc14 dX12_queue_15 (by decide) rfl ?_
                            refine ok_aload_n hE 0 rfl dX12_queue_195 ?_
                            refine ok_bipush hE (6 : Int32) kb_6 dX12_queue_196 ?_
                            refine ok_iload_n hE 1 rfl dX12_queue_198 ?_
                            refine ok_iadd hE dX12_queue_199 ?_
                            refine ok_cvFp hE rmR_part [.int ((6 : Int32) + p1)] [] rfl ca_X12_352 shR_0 rfl (fun _ hx => mR_part hE.sys _ _ _ hx) ⟨rfl, rfl, rfl, rfl⟩ rfl rfl dX12_queue_200 (fun r18 => ?_)
                            refine ok_csIp hE rmR_floatToIntBits_5c35a [.float r18] [] rfl ca_X12_416 (fun _ hx => mR_floatToIntBits_5c35a hE.sys _ _ _ hx) ⟨rfl, rfl, rfl, rfl⟩ rfl rfl dX12_queue_203 (fun r19 => ?_)
                            exact ok_ireturn hE dX12_queue_206
                          · refine ok_ite (fun hc15 => ?_) (fun hc15 => ?_)
                            · refine ok_tableIn hE (off := 192) (12 : Int32) 207 hc15 dX12_queue_15 (by decide) rfl ?_
                              refine ok_aload_n hE 0 rfl dX12_queue_207 ?_
                              refine ok_bipush hE (12 : Int32) kb_12 dX12_queue_208 ?_
                              refine ok_iload_n hE 1 rfl dX12_queue_210 ?_
                              refine ok_iadd hE dX12_queue_211 ?_
                              refine ok_cvFp hE rmR_part [.int ((12 : Int32) + p1)] [] rfl ca_X12_352 shR_0 rfl (fun _ hx => mR_part hE.sys _ _ _ hx) ⟨rfl, rfl, rfl, rfl⟩ rfl rfl dX12_queue_212 (fun r16 => ?_)
                              refine ok_csIp hE rmR_floatToIntBits_5c35a [.float r16] [] rfl ca_X12_416 (fun _ hx => mR_floatToIntBits_5c35a hE.sys _ _ _ hx) ⟨rfl, rfl, rfl, rfl⟩ rfl rfl dX12_queue_215 (fun r17 => ?_)
                              exact ok_ireturn hE dX12_queue_218
                            · refine ok_tableOut hE 219 (by have e0 := lv_neT hc3 (a := 0) rfl; have e1 := lv_neT hc4 (a := 1) rfl; have e2 := lv_neT hc5 (a := 2) rfl; have e3 := lv_neT hc6 (a := 3) rfl; have e4 := lv_neT hc7 (a := 4) rfl; have e5 := lv_neT hc8 (a := 5) rfl; have e6 := lv_neT hc9 (a := 6) rfl; have e7 := lv_neT hc10 (a := 7) rfl; have e8 := lv_neT hc11 (a := 8) rfl; have e9 := lv_neT hc12 (a := 9) rfl; have e10 := lv_neT hc13 (a := 10) rfl; have e11 := lv_neT hc14 (a := 11) rfl; have e12 := lv_neT hc15 (a := 12) rfl; omega) dX12_queue_15 rfl ?_
                              refine ok_iconst hE (-1 : Int32) ki_m1 dX12_queue_219 ?_
                              exact ok_ireturn hE dX12_queue_220
  · refine ok_iconst hE (-1 : Int32) ki_m1 dX12_queue_12 ?_
    exact ok_ireturn hE dX12_queue_13
theorem mR_queue {l : Launch} {Y : Sys} {t : Nat} (hY : SysOk Y t shR) (p1 : Int32) (p2 : Int32)  (M : Mm) (r : (Int32 × Mm)) (h : R_queue p1 p2 M = some r) : Cm l Y t yX12_queue (WS yX12_queue cX12_queue 3 (some .int)) rmR_queue [.ref (Y.ad 0), .int p1, .int p2] M (enI r) := by
  refine cm_of (own := RX12) hY rfl rfl (Nat.le_of_ble_eq_true rfl) (fun E hE e1 e2 e3 e4 => ?_)
  subst e1
  exact tR_queue E hE p1 p2  M r h e4.symm
def R_bits (p1 : Int32) (M : Mm) : Option (Int32 × Mm) :=
 bnd (R_isNow M) fun M1 =>
 if (gI M1 0 0) = 0 then
 (some ((-1 : Int32), M1))
 else
 (bnd (R_isIn p1 (0 : Int32) (1 : Int32) M1) fun r2 =>
 if r2 = 0 then
 (some ((-1 : Int32), M1))
 else
 (bnd (R_part ((18 : Int32) + p1) M1) fun r3 =>
 bnd (R_floatToIntBits_5c35a r3 M1) fun r4 =>
 some (r4, M1)))
abbrev rmR_bits : Room := { frames := 2, cells := 0, slots := 0, locals := 43 }
set_option maxHeartbeats 4000000 in
set_option maxRecDepth 100000 in
theorem tR_bits (E : Cx) (hE : CxOk E cX12_bits RX12 shR (some .int) rmR_bits 2) (p1 : Int32)  (M : Mm) : Ok E 0 [(0, .ref (E.Y.ad 0)), (1, .int p1)] [] M (R_bits p1 M) (KI E) := by
  unfold R_bits
  refine ok_aload_n hE 0 rfl dX12_bits_0 ?_
  refine ok_cvV hE rmR_isNow [] [] rfl ca_X12_324 shR_0 rfl (fun _ hx => mR_isNow hE.sys  _ _ hx) ⟨rfl, rfl, rfl, rfl⟩ rfl rfl dX12_bits_1 (fun M1 => ?_)
  refine ok_aload_n hE 0 rfl dX12_bits_4 ?_
  refine ok_getI hE fl_X12_7 shR_0 rfl dX12_bits_5 ?_
  refine ok_if_eq hE 34 rfl dX12_bits_8 ?_ ?_
  · refine ok_iconst hE (-1 : Int32) ki_m1 dX12_bits_34 ?_
    exact ok_ireturn hE dX12_bits_35
  · refine ok_iload_n hE 1 rfl dX12_bits_11 ?_
    refine ok_iconst hE (0 : Int32) ki_0 dX12_bits_12 ?_
    refine ok_iconst hE (1 : Int32) ki_1 dX12_bits_13 ?_
    refine ok_csIp hE rmR_isIn [.int p1, .int (0 : Int32), .int (1 : Int32)] [] rfl ca_X12_262 (fun _ hx => mR_isIn hE.sys _ _ _ _ _ hx) ⟨rfl, rfl, rfl, rfl⟩ rfl rfl dX12_bits_14 (fun r2 => ?_)
    refine ok_if_eq hE 34 rfl dX12_bits_17 ?_ ?_
    · refine ok_iconst hE (-1 : Int32) ki_m1 dX12_bits_34 ?_
      exact ok_ireturn hE dX12_bits_35
    · refine ok_aload_n hE 0 rfl dX12_bits_20 ?_
      refine ok_bipush hE (18 : Int32) kb_18 dX12_bits_21 ?_
      refine ok_iload_n hE 1 rfl dX12_bits_23 ?_
      refine ok_iadd hE dX12_bits_24 ?_
      refine ok_cvFp hE rmR_part [.int ((18 : Int32) + p1)] [] rfl ca_X12_352 shR_0 rfl (fun _ hx => mR_part hE.sys _ _ _ hx) ⟨rfl, rfl, rfl, rfl⟩ rfl rfl dX12_bits_25 (fun r3 => ?_)
      refine ok_csIp hE rmR_floatToIntBits_5c35a [.float r3] [] rfl ca_X12_416 (fun _ hx => mR_floatToIntBits_5c35a hE.sys _ _ _ hx) ⟨rfl, rfl, rfl, rfl⟩ rfl rfl dX12_bits_28 (fun r4 => ?_)
      refine ok_goto hE 35 rfl dX12_bits_31 ?_
      exact ok_ireturn hE dX12_bits_35
theorem mR_bits {l : Launch} {Y : Sys} {t : Nat} (hY : SysOk Y t shR) (p1 : Int32)  (M : Mm) (r : (Int32 × Mm)) (h : R_bits p1 M = some r) : Cm l Y t yX12_bits (WS yX12_bits cX12_bits 2 (some .int)) rmR_bits [.ref (Y.ad 0), .int p1] M (enI r) := by
  refine cm_of (own := RX12) hY rfl rfl (Nat.le_of_ble_eq_true rfl) (fun E hE e1 e2 e3 e4 => ?_)
  subst e1
  exact tR_bits E hE p1  M r h e4.symm
def R_place (p1 : Int32) (p2 : Int32) (M : Mm) : Option Int32 :=
 lett (0 : Int32) fun v1 =>
 lett (0 : Int32) fun v2 =>
 lett (fun (u_2 : Int32) =>
 some ((150 : Int32) + ((7 : Int32) * u_2))) fun j35 =>
 loopR (fun (rec5 : (Int32 × Int32) → Option Int32) (x4 : Int32 × Int32) =>
 bnd (R_its (10 : Int32) M) fun r5 =>
 if r5 ≤ x4.2 then
 (some (-1 : Int32))
 else
 (bnd (R_ofRequest x4.2 (0 : Int32) M) fun r6 =>
 lett (fun (u_6 : Int32) =>
 lett (x4.2 + (1 : Int32)) fun v8 =>
 rec5 (u_6, v8)) fun j48 =>
 if r6 = p1 then
 (if x4.1 = p2 then
 (j35 x4.2)
 else
 (lett (x4.1 + (1 : Int32)) fun v9 =>
 j48 v9))
 else
 (j48 x4.1))) 1000000 (v1, v2)
abbrev rmR_place : Room := { frames := 2, cells := 0, slots := 0, locals := 43 }
set_option maxHeartbeats 4000000 in
set_option maxRecDepth 100000 in
theorem tR_place (E : Cx) (hE : CxOk E cX12_place RX12 shR (some .int) rmR_place 5) (p1 : Int32) (p2 : Int32)  (M : Mm) : Ok E 0 [(0, .ref (E.Y.ad 0)), (1, .int p1), (2, .int p2)] [] M (R_place p1 p2 M) (KIp E M) := by
  unfold R_place
  refine ok_iconst hE (0 : Int32) ki_0 dX12_place_0 ?_
  refine ok_istore_n hE (fun v1 => [(3, .int v1), (0, .ref (E.Y.ad 0)), (1, .int p1), (2, .int p2)]) (fun _ => rfl) rfl dX12_place_1 (fun v1 => ?_)
  refine ok_iconst hE (0 : Int32) ki_0 dX12_place_2 ?_
  refine ok_istore hE (fun v2 => [(4, .int v2), (3, .int v1), (0, .ref (E.Y.ad 0)), (1, .int p1), (2, .int p2)]) (fun _ => rfl) rfl dX12_place_3 (fun v2 => ?_)
  refine ok_fun (fun j => ∀ (u_2 : Int32), Ok E 35 [(4, .int u_2)] [] M (j u_2) (KIp E M)) (fun u_2 => ?_) (fun j35 hj35 => ?_)
  · refine ok_sipush hE (150 : Int32) ks_150 dX12_place_35 ?_
    refine ok_bipush hE (7 : Int32) kb_7 dX12_place_38 ?_
    refine ok_iload hE 0 rfl dX12_place_40 ?_
    refine ok_imul hE dX12_place_42 ?_
    refine ok_iadd hE dX12_place_43 ?_
    exact ok_ireturnP hE dX12_place_44
  refine ok_sub [2, 3, 4, 1, 0] rfl (ok_loop (σ := Int32 × Int32) 5 (fun x4 => [(0, .ref (E.Y.ad 0)), (1, .int p1), (2, .int p2), (3, .int x4.1), (4, .int x4.2)]) (fun x4 => M) (fun rec5 hrec5 x4 => ?_) 1000000 (v1, v2))
  refine ok_iload hE 4 rfl dX12_place_5 ?_
  refine ok_aload_n hE 0 rfl dX12_place_7 ?_
  refine ok_bipush hE (10 : Int32) kb_10 dX12_place_8 ?_
  refine ok_cvIp hE rmR_its [.int (10 : Int32)] [.int x4.2] rfl ca_X12_321 shR_0 rfl (fun _ hx => mR_its hE.sys _ _ _ hx) ⟨rfl, rfl, rfl, rfl⟩ rfl rfl dX12_place_10 (fun r5 => ?_)
  refine ok_icmp_ge hE 54 rfl dX12_place_13 ?_ ?_
  · refine ok_iconst hE (-1 : Int32) ki_m1 dX12_place_54 ?_
    exact ok_ireturnP hE dX12_place_55
  · refine ok_aload_n hE 0 rfl dX12_place_16 ?_
    refine ok_iload hE 4 rfl dX12_place_17 ?_
    refine ok_iconst hE (0 : Int32) ki_0 dX12_place_19 ?_
    refine ok_cvIp hE rmR_ofRequest [.int x4.2, .int (0 : Int32)] [] rfl ca_X12_334 shR_0 rfl (fun _ hx => mR_ofRequest hE.sys _ _ _ _ hx) ⟨rfl, rfl, rfl, rfl⟩ rfl rfl dX12_place_20 (fun r6 => ?_)
    refine ok_iload_n hE 1 rfl dX12_place_23 ?_
    refine ok_fun (fun j => ∀ (u_6 : Int32), Ok E 48 [(0, .ref (E.Y.ad 0)), (1, .int p1), (2, .int p2), (3, .int u_6), (4, .int x4.2)] [] M (j u_6) (KIp E M)) (fun u_6 => ?_) (fun j48 hj48 => ?_)
    · refine ok_iinc hE 4 (x4.2 + (1 : Int32)) (by rw [ko_1]) (fun v8 => [(4, .int v8), (0, .ref (E.Y.ad 0)), (1, .int p1), (2, .int p2), (3, .int u_6)]) rfl (fun _ => rfl) rfl dX12_place_48 (fun v8 => ?_)
      refine ok_goto hE 5 rfl dX12_place_51 ?_
      exact ok_sub [1, 2, 3, 4, 0] rfl (hrec5 (u_6, v8))
    refine ok_icmp_eq hE 30 rfl dX12_place_24 ?_ ?_
    · refine ok_iload_n hE 3 rfl dX12_place_30 ?_
      refine ok_iload_n hE 2 rfl dX12_place_31 ?_
      refine ok_icmp_ne hE 45 rfl dX12_place_32 ?_ ?_
      · refine ok_iinc hE 3 (x4.1 + (1 : Int32)) (by rw [ko_1]) (fun v9 => [(3, .int v9), (0, .ref (E.Y.ad 0)), (1, .int p1), (2, .int p2), (4, .int x4.2)]) rfl (fun _ => rfl) rfl dX12_place_45 (fun v9 => ?_)
        exact ok_sub [1, 2, 3, 0, 4] rfl (hj48 v9)
      · exact ok_sub [4] rfl (hj35 x4.2)
    · refine ok_goto hE 48 rfl dX12_place_27 ?_
      exact ok_sub [0, 1, 2, 3, 4] rfl (hj48 x4.1)
theorem mR_place {l : Launch} {Y : Sys} {t : Nat} (hY : SysOk Y t shR) (p1 : Int32) (p2 : Int32)  (M : Mm) (r : Int32) (h : R_place p1 p2 M = some r) : Cm l Y t yX12_place (WS yX12_place cX12_place 5 (some .int)) rmR_place [.ref (Y.ad 0), .int p1, .int p2] M ((some (.int r), M)) := by
  refine cm_of (own := RX12) hY rfl rfl (Nat.le_of_ble_eq_true rfl) (fun E hE e1 e2 e3 e4 => ?_)
  subst e1
  exact tR_place E hE p1 p2  M r h e4.symm
def R_request (p1 : Int32) (p2 : Int32) (p3 : Int32) (M : Mm) : Option (Int32 × Mm) :=
 bnd (R_isNow M) fun M1 =>
 if (gI M1 0 0) = 0 then
 (some ((-1 : Int32), M1))
 else
 (bnd (R_isIn p3 (0 : Int32) (4 : Int32) M1) fun r2 =>
 if r2 = 0 then
 (some ((-1 : Int32), M1))
 else
 (lett (fun (w_2 : Int32) =>
 lett w_2 fun v4 =>
 if v4 = (-1 : Int32) then
 (some ((-1 : Int32), M1))
 else
 (bnd (R_its ((v4 + (1 : Int32)) + p3) M1) fun r5 =>
 some (r5, M1))) fun j66 =>
 if p1 = (-1 : Int32) then
 (lett (fun (_ : Unit) =>
 j66 (-1 : Int32)) fun j44 =>
 if p2 = 0 then
 (bnd (R_its (5 : Int32) M1) fun r8 =>
 if r8 ≤ 0 then
 (j44 ())
 else
 (j66 (11 : Int32)))
 else
 (j44 ()))
 else
 (bnd (R_isProcess p1 M1) fun r6 =>
 if r6 = 0 then
 (j66 (-1 : Int32))
 else
 (bnd (R_place p1 p2 M1) fun r7 =>
 j66 r7))))
abbrev rmR_request : Room := { frames := 3, cells := 0, slots := 0, locals := 67 }
set_option maxHeartbeats 4000000 in
set_option maxRecDepth 100000 in
theorem tR_request (E : Cx) (hE : CxOk E cX12_request RX12 shR (some .int) rmR_request 5) (p1 : Int32) (p2 : Int32) (p3 : Int32)  (M : Mm) : Ok E 0 [(0, .ref (E.Y.ad 0)), (1, .int p1), (2, .int p2), (3, .int p3)] [] M (R_request p1 p2 p3 M) (KI E) := by
  unfold R_request
  refine ok_aload_n hE 0 rfl dX12_request_0 ?_
  refine ok_cvV hE rmR_isNow [] [] rfl ca_X12_324 shR_0 rfl (fun _ hx => mR_isNow hE.sys  _ _ hx) ⟨rfl, rfl, rfl, rfl⟩ rfl rfl dX12_request_1 (fun M1 => ?_)
  refine ok_aload_n hE 0 rfl dX12_request_4 ?_
  refine ok_getI hE fl_X12_7 shR_0 rfl dX12_request_5 ?_
  refine ok_if_eq hE 20 rfl dX12_request_8 ?_ ?_
  · refine ok_iconst hE (-1 : Int32) ki_m1 dX12_request_20 ?_
    exact ok_ireturn hE dX12_request_21
  · refine ok_iload_n hE 3 rfl dX12_request_11 ?_
    refine ok_iconst hE (0 : Int32) ki_0 dX12_request_12 ?_
    refine ok_iconst hE (4 : Int32) ki_4 dX12_request_13 ?_
    refine ok_csIp hE rmR_isIn [.int p3, .int (0 : Int32), .int (4 : Int32)] [] rfl ca_X12_262 (fun _ hx => mR_isIn hE.sys _ _ _ _ _ hx) ⟨rfl, rfl, rfl, rfl⟩ rfl rfl dX12_request_14 (fun r2 => ?_)
    refine ok_if_ne hE 22 rfl dX12_request_17 ?_ ?_
    · refine ok_iload_n hE 1 rfl dX12_request_22 ?_
      refine ok_iconst hE (-1 : Int32) ki_m1 dX12_request_23 ?_
      refine ok_fun (fun j => ∀ (w_2 : Int32), Ok E 66 [(0, .ref (E.Y.ad 0)), (3, .int p3)] [.int w_2] M1 (j w_2) (KI E)) (fun w_2 => ?_) (fun j66 hj66 => ?_)
      · refine ok_istore hE (fun v4 => [(4, .int v4), (0, .ref (E.Y.ad 0)), (3, .int p3)]) (fun _ => rfl) rfl dX12_request_66 (fun v4 => ?_)
        refine ok_iload hE 0 rfl dX12_request_68 ?_
        refine ok_iconst hE (-1 : Int32) ki_m1 dX12_request_70 ?_
        refine ok_icmp_ne hE 78 rfl dX12_request_71 ?_ ?_
        · refine ok_aload_n hE 1 rfl dX12_request_78 ?_
          refine ok_iload hE 0 rfl dX12_request_79 ?_
          refine ok_iconst hE (1 : Int32) ki_1 dX12_request_81 ?_
          refine ok_iadd hE dX12_request_82 ?_
          refine ok_iload_n hE 2 rfl dX12_request_83 ?_
          refine ok_iadd hE dX12_request_84 ?_
          refine ok_cvIp hE rmR_its [.int ((v4 + (1 : Int32)) + p3)] [] rfl ca_X12_321 shR_0 rfl (fun _ hx => mR_its hE.sys _ _ _ hx) ⟨rfl, rfl, rfl, rfl⟩ rfl rfl dX12_request_85 (fun r5 => ?_)
          exact ok_ireturn hE dX12_request_88
        · refine ok_iconst hE (-1 : Int32) ki_m1 dX12_request_74 ?_
          refine ok_goto hE 88 rfl dX12_request_75 ?_
          exact ok_ireturn hE dX12_request_88
      refine ok_icmp_ne hE 48 rfl dX12_request_24 ?_ ?_
      · refine ok_aload_n hE 0 rfl dX12_request_48 ?_
        refine ok_iload_n hE 1 rfl dX12_request_49 ?_
        refine ok_cvIp hE rmR_isProcess [.int p1] [] rfl ca_X12_405 shR_0 rfl (fun _ hx => mR_isProcess hE.sys _ _ _ hx) ⟨rfl, rfl, rfl, rfl⟩ rfl rfl dX12_request_50 (fun r6 => ?_)
        refine ok_if_eq hE 65 rfl dX12_request_53 ?_ ?_
        · refine ok_iconst hE (-1 : Int32) ki_m1 dX12_request_65 ?_
          exact ok_sub [0, 3] rfl (hj66 (-1 : Int32))
        · refine ok_aload_n hE 0 rfl dX12_request_56 ?_
          refine ok_iload_n hE 1 rfl dX12_request_57 ?_
          refine ok_iload_n hE 2 rfl dX12_request_58 ?_
          refine ok_cvIp hE rmR_place [.int p1, .int p2] [] rfl ca_X12_422 shR_0 rfl (fun _ hx => mR_place hE.sys _ _ _ _ hx) ⟨rfl, rfl, rfl, rfl⟩ rfl rfl dX12_request_59 (fun r7 => ?_)
          refine ok_goto hE 66 rfl dX12_request_62 ?_
          exact ok_sub [0, 3] rfl (hj66 r7)
      · refine ok_iload_n hE 2 rfl dX12_request_27 ?_
        refine ok_fun (fun j => ∀ (_ : Unit), Ok E 44 [(0, .ref (E.Y.ad 0)), (3, .int p3)] [] M1 (j ()) (KI E)) (fun _ => ?_) (fun j44 hj44 => ?_)
        · refine ok_iconst hE (-1 : Int32) ki_m1 dX12_request_44 ?_
          refine ok_goto hE 66 rfl dX12_request_45 ?_
          exact ok_sub [0, 1] rfl (hj66 (-1 : Int32))
        refine ok_if_ne hE 44 rfl dX12_request_28 ?_ ?_
        · exact ok_sub [0, 3] rfl (hj44 ())
        · refine ok_aload_n hE 0 rfl dX12_request_31 ?_
          refine ok_iconst hE (5 : Int32) ki_5 dX12_request_32 ?_
          refine ok_cvIp hE rmR_its [.int (5 : Int32)] [] rfl ca_X12_321 shR_0 rfl (fun _ hx => mR_its hE.sys _ _ _ hx) ⟨rfl, rfl, rfl, rfl⟩ rfl rfl dX12_request_33 (fun r8 => ?_)
          refine ok_if_le hE 44 rfl dX12_request_36 ?_ ?_
          · exact ok_sub [0, 3] rfl (hj44 ())
          · refine ok_bipush hE (11 : Int32) kb_11 dX12_request_39 ?_
            refine ok_goto hE 66 rfl dX12_request_41 ?_
            exact ok_sub [0, 3] rfl (hj66 (11 : Int32))
    · refine ok_iconst hE (-1 : Int32) ki_m1 dX12_request_20 ?_
      exact ok_ireturn hE dX12_request_21
theorem mR_request {l : Launch} {Y : Sys} {t : Nat} (hY : SysOk Y t shR) (p1 : Int32) (p2 : Int32) (p3 : Int32)  (M : Mm) (r : (Int32 × Mm)) (h : R_request p1 p2 p3 M = some r) : Cm l Y t yX12_request (WS yX12_request cX12_request 5 (some .int)) rmR_request [.ref (Y.ad 0), .int p1, .int p2, .int p3] M (enI r) := by
  refine cm_of (own := RX12) hY rfl rfl (Nat.le_of_ble_eq_true rfl) (fun E hE e1 e2 e3 e4 => ?_)
  subst e1
  exact tR_request E hE p1 p2 p3  M r h e4.symm
def R_next (p1 : Int32) (M : Mm) : Option (Int32 × Mm) :=
 bnd (R_isNow M) fun M1 =>
 bnd (R_isProcess p1 M1) fun r2 =>
 if r2 = 0 then
 (some ((-1 : Int32), M1))
 else
 (bnd (R_nextOf p1 M1) fun r3 =>
 lett r3 fun v4 =>
 if v4 = (-1 : Int32) then
 (some ((-1 : Int32), M1))
 else
 (lett (0 : Int32) fun v5 =>
 lett (0 : Int32) fun v6 =>
 loopR (fun (rec32 : (Int32 × Int32) → Option (Int32 × Mm)) (x7 : Int32 × Int32) =>
 if v4 ≤ x7.2 then
 (some (x7.1, M1))
 else
 (bnd (R_ofRequest x7.2 (0 : Int32) M1) fun r8 =>
 lett (fun (w_8 : Int32) =>
 lett (x7.1 + w_8) fun v10 =>
 lett (x7.2 + (1 : Int32)) fun v11 =>
 rec32 (v10, v11)) fun j55 =>
 if r8 = p1 then
 (j55 (1 : Int32))
 else
 (j55 (0 : Int32)))) 1000000 (v5, v6)))
abbrev rmR_next : Room := { frames := 4, cells := 0, slots := 0, locals := 88 }
set_option maxHeartbeats 4000000 in
set_option maxRecDepth 100000 in
theorem tR_next (E : Cx) (hE : CxOk E cX12_next RX12 shR (some .int) rmR_next 5) (p1 : Int32)  (M : Mm) : Ok E 0 [(0, .ref (E.Y.ad 0)), (1, .int p1)] [] M (R_next p1 M) (KI E) := by
  unfold R_next
  refine ok_aload_n hE 0 rfl dX12_next_0 ?_
  refine ok_cvV hE rmR_isNow [] [] rfl ca_X12_324 shR_0 rfl (fun _ hx => mR_isNow hE.sys  _ _ hx) ⟨rfl, rfl, rfl, rfl⟩ rfl rfl dX12_next_1 (fun M1 => ?_)
  refine ok_aload_n hE 0 rfl dX12_next_4 ?_
  refine ok_iload_n hE 1 rfl dX12_next_5 ?_
  refine ok_cvIp hE rmR_isProcess [.int p1] [] rfl ca_X12_405 shR_0 rfl (fun _ hx => mR_isProcess hE.sys _ _ _ hx) ⟨rfl, rfl, rfl, rfl⟩ rfl rfl dX12_next_6 (fun r2 => ?_)
  refine ok_if_ne hE 14 rfl dX12_next_9 ?_ ?_
  · refine ok_aload_n hE 0 rfl dX12_next_14 ?_
    refine ok_iload_n hE 1 rfl dX12_next_15 ?_
    refine ok_cvIp hE rmR_nextOf [.int p1] [] rfl ca_X12_372 shR_0 rfl (fun _ hx => mR_nextOf hE.sys _ _ _ hx) ⟨rfl, rfl, rfl, rfl⟩ rfl rfl dX12_next_16 (fun r3 => ?_)
    refine ok_istore_n hE (fun v4 => [(2, .int v4), (0, .ref (E.Y.ad 0)), (1, .int p1)]) (fun _ => rfl) rfl dX12_next_19 (fun v4 => ?_)
    refine ok_iload_n hE 0 rfl dX12_next_20 ?_
    refine ok_iconst hE (-1 : Int32) ki_m1 dX12_next_21 ?_
    refine ok_icmp_ne hE 27 rfl dX12_next_22 ?_ ?_
    · refine ok_iconst hE (0 : Int32) ki_0 dX12_next_27 ?_
      refine ok_istore_n hE (fun v5 => [(3, .int v5), (2, .int v4), (0, .ref (E.Y.ad 0)), (1, .int p1)]) (fun _ => rfl) rfl dX12_next_28 (fun v5 => ?_)
      refine ok_iconst hE (0 : Int32) ki_0 dX12_next_29 ?_
      refine ok_istore hE (fun v6 => [(4, .int v6), (3, .int v5), (2, .int v4), (0, .ref (E.Y.ad 0)), (1, .int p1)]) (fun _ => rfl) rfl dX12_next_30 (fun v6 => ?_)
      refine ok_sub [3, 4, 2, 1, 0] rfl (ok_loop (σ := Int32 × Int32) 32 (fun x7 => [(0, .ref (E.Y.ad 0)), (1, .int p1), (2, .int v4), (3, .int x7.1), (4, .int x7.2)]) (fun x7 => M1) (fun rec32 hrec32 x7 => ?_) 1000000 (v5, v6))
      refine ok_iload hE 4 rfl dX12_next_32 ?_
      refine ok_iload_n hE 2 rfl dX12_next_34 ?_
      refine ok_icmp_ge hE 63 rfl dX12_next_35 ?_ ?_
      · refine ok_iload_n hE 3 rfl dX12_next_63 ?_
        exact ok_ireturn hE dX12_next_64
      · refine ok_iload_n hE 3 rfl dX12_next_38 ?_
        refine ok_aload_n hE 0 rfl dX12_next_39 ?_
        refine ok_iload hE 4 rfl dX12_next_40 ?_
        refine ok_iconst hE (0 : Int32) ki_0 dX12_next_42 ?_
        refine ok_cvIp hE rmR_ofRequest [.int x7.2, .int (0 : Int32)] [.int x7.1] rfl ca_X12_334 shR_0 rfl (fun _ hx => mR_ofRequest hE.sys _ _ _ _ hx) ⟨rfl, rfl, rfl, rfl⟩ rfl rfl dX12_next_43 (fun r8 => ?_)
        refine ok_iload_n hE 1 rfl dX12_next_46 ?_
        refine ok_fun (fun j => ∀ (w_8 : Int32), Ok E 55 [(0, .ref (E.Y.ad 0)), (1, .int p1), (2, .int v4), (4, .int x7.2)] [.int w_8, .int x7.1] M1 (j w_8) (KI E)) (fun w_8 => ?_) (fun j55 hj55 => ?_)
        · refine ok_iadd hE dX12_next_55 ?_
          refine ok_istore_n hE (fun v10 => [(3, .int v10), (0, .ref (E.Y.ad 0)), (1, .int p1), (2, .int v4), (4, .int x7.2)]) (fun _ => rfl) rfl dX12_next_56 (fun v10 => ?_)
          refine ok_iinc hE 4 (x7.2 + (1 : Int32)) (by rw [ko_1]) (fun v11 => [(4, .int v11), (3, .int v10), (0, .ref (E.Y.ad 0)), (1, .int p1), (2, .int v4)]) rfl (fun _ => rfl) rfl dX12_next_57 (fun v11 => ?_)
          refine ok_goto hE 32 rfl dX12_next_60 ?_
          exact ok_sub [2, 3, 4, 1, 0] rfl (hrec32 (v10, v11))
        refine ok_icmp_ne hE 54 rfl dX12_next_47 ?_ ?_
        · refine ok_iconst hE (0 : Int32) ki_0 dX12_next_54 ?_
          exact ok_sub [0, 1, 2, 4] rfl (hj55 (0 : Int32))
        · refine ok_iconst hE (1 : Int32) ki_1 dX12_next_50 ?_
          refine ok_goto hE 55 rfl dX12_next_51 ?_
          exact ok_sub [0, 1, 2, 4] rfl (hj55 (1 : Int32))
    · refine ok_iconst hE (-1 : Int32) ki_m1 dX12_next_25 ?_
      exact ok_ireturn hE dX12_next_26
  · refine ok_iconst hE (-1 : Int32) ki_m1 dX12_next_12 ?_
    exact ok_ireturn hE dX12_next_13
theorem mR_next {l : Launch} {Y : Sys} {t : Nat} (hY : SysOk Y t shR) (p1 : Int32)  (M : Mm) (r : (Int32 × Mm)) (h : R_next p1 M = some r) : Cm l Y t yX12_next (WS yX12_next cX12_next 5 (some .int)) rmR_next [.ref (Y.ad 0), .int p1] M (enI r) := by
  refine cm_of (own := RX12) hY rfl rfl (Nat.le_of_ble_eq_true rfl) (fun E hE e1 e2 e3 e4 => ?_)
  subst e1
  exact tR_next E hE p1  M r h e4.symm
def R_kept (p1 : Int32) (p2 : Int32) (M : Mm) : Option (Int32 × Mm) :=
 bnd (R_isNow M) fun M1 =>
 bnd (R_its (9 : Int32) M1) fun r2 =>
 bnd (R_isIn p1 (0 : Int32) (r2 - (1 : Int32)) M1) fun r3 =>
 if r3 = 0 then
 (some ((-1 : Int32), M1))
 else
 (bnd (R_isIn p2 (0 : Int32) (3 : Int32) M1) fun r4 =>
 if r4 = 0 then
 (some ((-1 : Int32), M1))
 else
 (bnd (R_its (((598 : Int32) + ((4 : Int32) * p1)) + p2) M1) fun r5 =>
 some (r5, M1)))
abbrev rmR_kept : Room := { frames := 1, cells := 0, slots := 0, locals := 22 }
set_option maxHeartbeats 4000000 in
set_option maxRecDepth 100000 in
theorem tR_kept (E : Cx) (hE : CxOk E cX12_kept RX12 shR (some .int) rmR_kept 3) (p1 : Int32) (p2 : Int32)  (M : Mm) : Ok E 0 [(0, .ref (E.Y.ad 0)), (1, .int p1), (2, .int p2)] [] M (R_kept p1 p2 M) (KI E) := by
  unfold R_kept
  refine ok_aload_n hE 0 rfl dX12_kept_0 ?_
  refine ok_cvV hE rmR_isNow [] [] rfl ca_X12_324 shR_0 rfl (fun _ hx => mR_isNow hE.sys  _ _ hx) ⟨rfl, rfl, rfl, rfl⟩ rfl rfl dX12_kept_1 (fun M1 => ?_)
  refine ok_iload_n hE 1 rfl dX12_kept_4 ?_
  refine ok_iconst hE (0 : Int32) ki_0 dX12_kept_5 ?_
  refine ok_aload_n hE 0 rfl dX12_kept_6 ?_
  refine ok_bipush hE (9 : Int32) kb_9 dX12_kept_7 ?_
  refine ok_cvIp hE rmR_its [.int (9 : Int32)] [.int (0 : Int32), .int p1] rfl ca_X12_321 shR_0 rfl (fun _ hx => mR_its hE.sys _ _ _ hx) ⟨rfl, rfl, rfl, rfl⟩ rfl rfl dX12_kept_9 (fun r2 => ?_)
  refine ok_iconst hE (1 : Int32) ki_1 dX12_kept_12 ?_
  refine ok_isub hE dX12_kept_13 ?_
  refine ok_csIp hE rmR_isIn [.int p1, .int (0 : Int32), .int (r2 - (1 : Int32))] [] rfl ca_X12_262 (fun _ hx => mR_isIn hE.sys _ _ _ _ _ hx) ⟨rfl, rfl, rfl, rfl⟩ rfl rfl dX12_kept_14 (fun r3 => ?_)
  refine ok_if_eq hE 45 rfl dX12_kept_17 ?_ ?_
  · refine ok_iconst hE (-1 : Int32) ki_m1 dX12_kept_45 ?_
    exact ok_ireturn hE dX12_kept_46
  · refine ok_iload_n hE 2 rfl dX12_kept_20 ?_
    refine ok_iconst hE (0 : Int32) ki_0 dX12_kept_21 ?_
    refine ok_iconst hE (3 : Int32) ki_3 dX12_kept_22 ?_
    refine ok_csIp hE rmR_isIn [.int p2, .int (0 : Int32), .int (3 : Int32)] [] rfl ca_X12_262 (fun _ hx => mR_isIn hE.sys _ _ _ _ _ hx) ⟨rfl, rfl, rfl, rfl⟩ rfl rfl dX12_kept_23 (fun r4 => ?_)
    refine ok_if_eq hE 45 rfl dX12_kept_26 ?_ ?_
    · refine ok_iconst hE (-1 : Int32) ki_m1 dX12_kept_45 ?_
      exact ok_ireturn hE dX12_kept_46
    · refine ok_aload_n hE 0 rfl dX12_kept_29 ?_
      refine ok_sipush hE (598 : Int32) ks_598 dX12_kept_30 ?_
      refine ok_iconst hE (4 : Int32) ki_4 dX12_kept_33 ?_
      refine ok_iload_n hE 1 rfl dX12_kept_34 ?_
      refine ok_imul hE dX12_kept_35 ?_
      refine ok_iadd hE dX12_kept_36 ?_
      refine ok_iload_n hE 2 rfl dX12_kept_37 ?_
      refine ok_iadd hE dX12_kept_38 ?_
      refine ok_cvIp hE rmR_its [.int (((598 : Int32) + ((4 : Int32) * p1)) + p2)] [] rfl ca_X12_321 shR_0 rfl (fun _ hx => mR_its hE.sys _ _ _ hx) ⟨rfl, rfl, rfl, rfl⟩ rfl rfl dX12_kept_39 (fun r5 => ?_)
      refine ok_goto hE 46 rfl dX12_kept_42 ?_
      exact ok_ireturn hE dX12_kept_46
theorem mR_kept {l : Launch} {Y : Sys} {t : Nat} (hY : SysOk Y t shR) (p1 : Int32) (p2 : Int32)  (M : Mm) (r : (Int32 × Mm)) (h : R_kept p1 p2 M = some r) : Cm l Y t yX12_kept (WS yX12_kept cX12_kept 3 (some .int)) rmR_kept [.ref (Y.ad 0), .int p1, .int p2] M (enI r) := by
  refine cm_of (own := RX12) hY rfl rfl (Nat.le_of_ble_eq_true rfl) (fun E hE e1 e2 e3 e4 => ?_)
  subst e1
  exact tR_kept E hE p1 p2  M r h e4.symm
def R_ofEvents (p1 : Int32) (p2 : Int32) (M : Mm) : Option Int32 :=
 lett (0 : Int32) fun v1 =>
 lett (0 : Int32) fun v2 =>
 loopR (fun (rec5 : (Int32 × Int32) → Option Int32) (x3 : Int32 × Int32) =>
 if (gI M 0 57) ≤ x3.2 then
 (some x3.1)
 else
 (lett (fun (u_3 : Int32) =>
 lett (x3.2 + (1 : Int32)) fun v5 =>
 rec5 (u_3, v5)) fun j102 =>
 lett (fun (_ : Unit) =>
 if p2 = (3 : Int32) then
 (ald (((4 : Int32) * x3.2) + (2 : Int32)) 1604 (bnd (R_greatest x3.1 (gI M 20 (ix (((4 : Int32) * x3.2) + (2 : Int32)))) M) fun r8 =>
 lett r8 fun v9 =>
 j102 v9))
 else
 (lett (fun (w_5 : Int32) =>
 lett (x3.1 + w_5) fun v7 =>
 j102 v7) fun j100 =>
 if p2 = 0 then
 (j100 (1 : Int32))
 else
 (if p2 = (1 : Int32) then
 (ald (((4 : Int32) * x3.2) + (3 : Int32)) 1604 (j100 (gI M 20 (ix (((4 : Int32) * x3.2) + (3 : Int32))))))
 else
 (ald (((4 : Int32) * x3.2) + (2 : Int32)) 1604 (j100 (gI M 20 (ix (((4 : Int32) * x3.2) + (2 : Int32))))))))) fun j37 =>
 if p1 = (-1 : Int32) then
 (j37 ())
 else
 (ald (((4 : Int32) * x3.2) + (1 : Int32)) 1604 (if (gI M 20 (ix (((4 : Int32) * x3.2) + (1 : Int32)))) = p1 then
 (j37 ())
 else
 (j102 x3.1))))) 1000000 (v1, v2)
abbrev rmR_ofEvents : Room := { frames := 1, cells := 0, slots := 0, locals := 21 }
set_option maxHeartbeats 4000000 in
set_option maxRecDepth 100000 in
theorem tR_ofEvents (E : Cx) (hE : CxOk E cX12_ofEvents RX12 shR (some .int) rmR_ofEvents 5) (p1 : Int32) (p2 : Int32)  (M : Mm) : Ok E 0 [(0, .ref (E.Y.ad 0)), (1, .int p1), (2, .int p2)] [] M (R_ofEvents p1 p2 M) (KIp E M) := by
  unfold R_ofEvents
  refine ok_iconst hE (0 : Int32) ki_0 dX12_ofEvents_0 ?_
  refine ok_istore_n hE (fun v1 => [(3, .int v1), (0, .ref (E.Y.ad 0)), (1, .int p1), (2, .int p2)]) (fun _ => rfl) rfl dX12_ofEvents_1 (fun v1 => ?_)
  refine ok_iconst hE (0 : Int32) ki_0 dX12_ofEvents_2 ?_
  refine ok_istore hE (fun v2 => [(4, .int v2), (3, .int v1), (0, .ref (E.Y.ad 0)), (1, .int p1), (2, .int p2)]) (fun _ => rfl) rfl dX12_ofEvents_3 (fun v2 => ?_)
  refine ok_sub [2, 3, 4, 1, 0] rfl (ok_loop (σ := Int32 × Int32) 5 (fun x3 => [(0, .ref (E.Y.ad 0)), (1, .int p1), (2, .int p2), (3, .int x3.1), (4, .int x3.2)]) (fun x3 => M) (fun rec5 hrec5 x3 => ?_) 1000000 (v1, v2))
  refine ok_iload hE 4 rfl dX12_ofEvents_5 ?_
  refine ok_aload_n hE 0 rfl dX12_ofEvents_7 ?_
  refine ok_getI hE fl_X12_184 shR_0 rfl dX12_ofEvents_8 ?_
  refine ok_icmp_ge hE 108 rfl dX12_ofEvents_11 ?_ ?_
  · refine ok_iload_n hE 3 rfl dX12_ofEvents_108 ?_
    exact ok_ireturnP hE dX12_ofEvents_109
  · refine ok_iload_n hE 1 rfl dX12_ofEvents_14 ?_
    refine ok_iconst hE (-1 : Int32) ki_m1 dX12_ofEvents_15 ?_
    refine ok_fun (fun j => ∀ (u_3 : Int32), Ok E 102 [(0, .ref (E.Y.ad 0)), (1, .int p1), (2, .int p2), (3, .int u_3), (4, .int x3.2)] [] M (j u_3) (KIp E M)) (fun u_3 => ?_) (fun j102 hj102 => ?_)
    · refine ok_iinc hE 4 (x3.2 + (1 : Int32)) (by rw [ko_1]) (fun v5 => [(4, .int v5), (0, .ref (E.Y.ad 0)), (1, .int p1), (2, .int p2), (3, .int u_3)]) rfl (fun _ => rfl) rfl dX12_ofEvents_102 (fun v5 => ?_)
      refine ok_goto hE 5 rfl dX12_ofEvents_105 ?_
      exact ok_sub [1, 2, 3, 4, 0] rfl (hrec5 (u_3, v5))
    refine ok_fun (fun j => ∀ (_ : Unit), Ok E 37 [(0, .ref (E.Y.ad 0)), (1, .int p1), (2, .int p2), (3, .int x3.1), (4, .int x3.2)] [] M (j ()) (KIp E M)) (fun _ => ?_) (fun j37 hj37 => ?_)
    · refine ok_iload_n hE 2 rfl dX12_ofEvents_37 ?_
      refine ok_iconst hE (3 : Int32) ki_3 dX12_ofEvents_38 ?_
      refine ok_icmp_ne hE 61 rfl dX12_ofEvents_39 ?_ ?_
      · refine ok_iload_n hE 3 rfl dX12_ofEvents_61 ?_
        refine ok_iload_n hE 2 rfl dX12_ofEvents_62 ?_
        refine ok_fun (fun j => ∀ (w_5 : Int32), Ok E 100 [(0, .ref (E.Y.ad 0)), (1, .int p1), (2, .int p2), (4, .int x3.2)] [.int w_5, .int x3.1] M (j w_5) (KIp E M)) (fun w_5 => ?_) (fun j100 hj100 => ?_)
        · refine ok_iadd hE dX12_ofEvents_100 ?_
          refine ok_istore_n hE (fun v7 => [(3, .int v7), (0, .ref (E.Y.ad 0)), (1, .int p1), (2, .int p2), (4, .int x3.2)]) (fun _ => rfl) rfl dX12_ofEvents_101 (fun v7 => ?_)
          exact ok_sub [1, 2, 3, 0, 4] rfl (hj102 v7)
        refine ok_if_ne hE 70 rfl dX12_ofEvents_63 ?_ ?_
        · refine ok_iload_n hE 2 rfl dX12_ofEvents_70 ?_
          refine ok_iconst hE (1 : Int32) ki_1 dX12_ofEvents_71 ?_
          refine ok_icmp_ne hE 89 rfl dX12_ofEvents_72 ?_ ?_
          · refine ok_aload_n hE 0 rfl dX12_ofEvents_89 ?_
            refine ok_getA hE fl_X12_190 shR_0 rfl dX12_ofEvents_90 ?_
            refine ok_iconst hE (4 : Int32) ki_4 dX12_ofEvents_93 ?_
            refine ok_iload hE 4 rfl dX12_ofEvents_94 ?_
            refine ok_imul hE dX12_ofEvents_96 ?_
            refine ok_iconst hE (2 : Int32) ki_2 dX12_ofEvents_97 ?_
            refine ok_iadd hE dX12_ofEvents_98 ?_
            refine ok_iaload hE shR_20 dX12_ofEvents_99 ?_
            exact ok_sub [0, 1, 2, 4] rfl (hj100 (gI M 20 (ix (((4 : Int32) * x3.2) + (2 : Int32)))))
          · refine ok_aload_n hE 0 rfl dX12_ofEvents_75 ?_
            refine ok_getA hE fl_X12_190 shR_0 rfl dX12_ofEvents_76 ?_
            refine ok_iconst hE (4 : Int32) ki_4 dX12_ofEvents_79 ?_
            refine ok_iload hE 4 rfl dX12_ofEvents_80 ?_
            refine ok_imul hE dX12_ofEvents_82 ?_
            refine ok_iconst hE (3 : Int32) ki_3 dX12_ofEvents_83 ?_
            refine ok_iadd hE dX12_ofEvents_84 ?_
            refine ok_iaload hE shR_20 dX12_ofEvents_85 ?_
            refine ok_goto hE 100 rfl dX12_ofEvents_86 ?_
            exact ok_sub [0, 1, 2, 4] rfl (hj100 (gI M 20 (ix (((4 : Int32) * x3.2) + (3 : Int32)))))
        · refine ok_iconst hE (1 : Int32) ki_1 dX12_ofEvents_66 ?_
          refine ok_goto hE 100 rfl dX12_ofEvents_67 ?_
          exact ok_sub [0, 1, 2, 4] rfl (hj100 (1 : Int32))
      · refine ok_iload_n hE 3 rfl dX12_ofEvents_42 ?_
        refine ok_aload_n hE 0 rfl dX12_ofEvents_43 ?_
        refine ok_getA hE fl_X12_190 shR_0 rfl dX12_ofEvents_44 ?_
        refine ok_iconst hE (4 : Int32) ki_4 dX12_ofEvents_47 ?_
        refine ok_iload hE 4 rfl dX12_ofEvents_48 ?_
        refine ok_imul hE dX12_ofEvents_50 ?_
        refine ok_iconst hE (2 : Int32) ki_2 dX12_ofEvents_51 ?_
        refine ok_iadd hE dX12_ofEvents_52 ?_
        refine ok_iaload hE shR_20 dX12_ofEvents_53 ?_
        refine ok_csIp hE rmR_greatest [.int x3.1, .int (gI M 20 (ix (((4 : Int32) * x3.2) + (2 : Int32))))] [] rfl ca_X12_384 (fun _ hx => mR_greatest hE.sys _ _ _ _ hx) ⟨rfl, rfl, rfl, rfl⟩ rfl rfl dX12_ofEvents_54 (fun r8 => ?_)
        refine ok_istore_n hE (fun v9 => [(3, .int v9), (0, .ref (E.Y.ad 0)), (1, .int p1), (2, .int p2), (4, .int x3.2)]) (fun _ => rfl) rfl dX12_ofEvents_57 (fun v9 => ?_)
        refine ok_goto hE 102 rfl dX12_ofEvents_58 ?_
        exact ok_sub [1, 2, 3, 0, 4] rfl (hj102 v9)
    refine ok_icmp_eq hE 37 rfl dX12_ofEvents_16 ?_ ?_
    · exact ok_sub [0, 1, 2, 3, 4] rfl (hj37 ())
    · refine ok_aload_n hE 0 rfl dX12_ofEvents_19 ?_
      refine ok_getA hE fl_X12_190 shR_0 rfl dX12_ofEvents_20 ?_
      refine ok_iconst hE (4 : Int32) ki_4 dX12_ofEvents_23 ?_
      refine ok_iload hE 4 rfl dX12_ofEvents_24 ?_
      refine ok_imul hE dX12_ofEvents_26 ?_
      refine ok_iconst hE (1 : Int32) ki_1 dX12_ofEvents_27 ?_
      refine ok_iadd hE dX12_ofEvents_28 ?_
      refine ok_iaload hE shR_20 dX12_ofEvents_29 ?_
      refine ok_iload_n hE 1 rfl dX12_ofEvents_30 ?_
      refine ok_icmp_eq hE 37 rfl dX12_ofEvents_31 ?_ ?_
      · exact ok_sub [0, 1, 2, 3, 4] rfl (hj37 ())
      · refine ok_goto hE 102 rfl dX12_ofEvents_34 ?_
        exact ok_sub [0, 1, 2, 3, 4] rfl (hj102 x3.1)
theorem mR_ofEvents {l : Launch} {Y : Sys} {t : Nat} (hY : SysOk Y t shR) (p1 : Int32) (p2 : Int32)  (M : Mm) (r : Int32) (h : R_ofEvents p1 p2 M = some r) : Cm l Y t yX12_ofEvents (WS yX12_ofEvents cX12_ofEvents 5 (some .int)) rmR_ofEvents [.ref (Y.ad 0), .int p1, .int p2] M ((some (.int r), M)) := by
  refine cm_of (own := RX12) hY rfl rfl (Nat.le_of_ble_eq_true rfl) (fun E hE e1 e2 e3 e4 => ?_)
  subst e1
  exact tR_ofEvents E hE p1 p2  M r h e4.symm
def R_later (p1 : Int32) (p2 : Int32) (p3 : Int32) (M : Mm) : Option (Int32 × Mm) :=
 bnd (R_isIn p1 (0 : Int32) (400 : Int32) M) fun r1 =>
 if r1 = 0 then
 (some ((-1 : Int32), M))
 else
 (bnd (R_isProcess p2 M) fun r2 =>
 if r2 = 0 then
 (some ((-1 : Int32), M))
 else
 (bnd (R_isIn p3 (0 : Int32) (3 : Int32) M) fun r3 =>
 if r3 = 0 then
 (some ((-1 : Int32), M))
 else
 (bnd (R_tries M) fun M4 =>
 bnd (R_goesOnFor p1 M4) fun M5 =>
 bnd (R_ofEvents p2 p3 M5) fun r6 =>
 some (r6, M5))))
abbrev rmR_later : Room := { frames := 8, cells := 0, slots := 0, locals := 181 }
set_option maxHeartbeats 4000000 in
set_option maxRecDepth 100000 in
theorem tR_later (E : Cx) (hE : CxOk E cX12_later RX12 shR (some .int) rmR_later 4) (p1 : Int32) (p2 : Int32) (p3 : Int32)  (M : Mm) : Ok E 0 [(0, .ref (E.Y.ad 0)), (1, .int p1), (2, .int p2), (3, .int p3)] [] M (R_later p1 p2 p3 M) (KI E) := by
  unfold R_later
  refine ok_iload_n hE 1 rfl dX12_later_0 ?_
  refine ok_iconst hE (0 : Int32) ki_0 dX12_later_1 ?_
  refine ok_sipush hE (400 : Int32) ks_400 dX12_later_2 ?_
  refine ok_csIp hE rmR_isIn [.int p1, .int (0 : Int32), .int (400 : Int32)] [] rfl ca_X12_262 (fun _ hx => mR_isIn hE.sys _ _ _ _ _ hx) ⟨rfl, rfl, rfl, rfl⟩ rfl rfl dX12_later_5 (fun r1 => ?_)
  refine ok_if_eq hE 28 rfl dX12_later_8 ?_ ?_
  · refine ok_iconst hE (-1 : Int32) ki_m1 dX12_later_28 ?_
    exact ok_ireturn hE dX12_later_29
  · refine ok_aload_n hE 0 rfl dX12_later_11 ?_
    refine ok_iload_n hE 2 rfl dX12_later_12 ?_
    refine ok_cvIp hE rmR_isProcess [.int p2] [] rfl ca_X12_405 shR_0 rfl (fun _ hx => mR_isProcess hE.sys _ _ _ hx) ⟨rfl, rfl, rfl, rfl⟩ rfl rfl dX12_later_13 (fun r2 => ?_)
    refine ok_if_eq hE 28 rfl dX12_later_16 ?_ ?_
    · refine ok_iconst hE (-1 : Int32) ki_m1 dX12_later_28 ?_
      exact ok_ireturn hE dX12_later_29
    · refine ok_iload_n hE 3 rfl dX12_later_19 ?_
      refine ok_iconst hE (0 : Int32) ki_0 dX12_later_20 ?_
      refine ok_iconst hE (3 : Int32) ki_3 dX12_later_21 ?_
      refine ok_csIp hE rmR_isIn [.int p3, .int (0 : Int32), .int (3 : Int32)] [] rfl ca_X12_262 (fun _ hx => mR_isIn hE.sys _ _ _ _ _ hx) ⟨rfl, rfl, rfl, rfl⟩ rfl rfl dX12_later_22 (fun r3 => ?_)
      refine ok_if_ne hE 30 rfl dX12_later_25 ?_ ?_
      · refine ok_aload_n hE 0 rfl dX12_later_30 ?_
        refine ok_cvV hE rmR_tries [] [] rfl ca_X12_425 shR_0 rfl (fun _ hx => mR_tries hE.sys  _ _ hx) ⟨rfl, rfl, rfl, rfl⟩ rfl rfl dX12_later_31 (fun M4 => ?_)
        refine ok_aload_n hE 0 rfl dX12_later_34 ?_
        refine ok_iload_n hE 1 rfl dX12_later_35 ?_
        refine ok_cvV hE rmR_goesOnFor [.int p1] [] rfl ca_X12_428 shR_0 rfl (fun _ hx => mR_goesOnFor hE.sys _ _ _ hx) ⟨rfl, rfl, rfl, rfl⟩ rfl rfl dX12_later_36 (fun M5 => ?_)
        refine ok_aload_n hE 0 rfl dX12_later_39 ?_
        refine ok_iload_n hE 2 rfl dX12_later_40 ?_
        refine ok_iload_n hE 3 rfl dX12_later_41 ?_
        refine ok_cvIp hE rmR_ofEvents [.int p2, .int p3] [] rfl ca_X12_431 shR_0 rfl (fun _ hx => mR_ofEvents hE.sys _ _ _ _ hx) ⟨rfl, rfl, rfl, rfl⟩ rfl rfl dX12_later_42 (fun r6 => ?_)
        exact ok_ireturn hE dX12_later_45
      · refine ok_iconst hE (-1 : Int32) ki_m1 dX12_later_28 ?_
        exact ok_ireturn hE dX12_later_29
theorem mR_later {l : Launch} {Y : Sys} {t : Nat} (hY : SysOk Y t shR) (p1 : Int32) (p2 : Int32) (p3 : Int32)  (M : Mm) (r : (Int32 × Mm)) (h : R_later p1 p2 p3 M = some r) : Cm l Y t yX12_later (WS yX12_later cX12_later 4 (some .int)) rmR_later [.ref (Y.ad 0), .int p1, .int p2, .int p3] M (enI r) := by
  refine cm_of (own := RX12) hY rfl rfl (Nat.le_of_ble_eq_true rfl) (fun E hE e1 e2 e3 e4 => ?_)
  subst e1
  exact tR_later E hE p1 p2 p3  M r h e4.symm
def R_share (p1 : Int32) (p2 : Int32) (M : Mm) : Option (Int32 × Mm) :=
 bnd (R_isIn p1 (1 : Int32) (400 : Int32) M) fun r1 =>
 if r1 = 0 then
 (some ((-1 : Int32), M))
 else
 (bnd (R_isProcess p2 M) fun r2 =>
 if r2 = 0 then
 (some ((-1 : Int32), M))
 else
 (bnd (R_tries M) fun M3 =>
 bnd (R_goesOnFor p1 M3) fun M4 =>
 bnd (R_ofEvents (-1 : Int32) (1 : Int32) M4) fun r5 =>
 lett r5 fun v6 =>
 if v6 = 0 then
 (some ((-1 : Int32), M4))
 else
 (bnd (R_ofEvents p2 (1 : Int32) M4) fun r7 =>
 grd (¬ v6 = 0) (some ((((100 : Int32) * r7) / v6), M4)))))
abbrev rmR_share : Room := { frames := 8, cells := 0, slots := 0, locals := 181 }
set_option maxHeartbeats 4000000 in
set_option maxRecDepth 100000 in
theorem tR_share (E : Cx) (hE : CxOk E cX12_share RX12 shR (some .int) rmR_share 4) (p1 : Int32) (p2 : Int32)  (M : Mm) : Ok E 0 [(0, .ref (E.Y.ad 0)), (1, .int p1), (2, .int p2)] [] M (R_share p1 p2 M) (KI E) := by
  unfold R_share
  refine ok_iload_n hE 1 rfl dX12_share_0 ?_
  refine ok_iconst hE (1 : Int32) ki_1 dX12_share_1 ?_
  refine ok_sipush hE (400 : Int32) ks_400 dX12_share_2 ?_
  refine ok_csIp hE rmR_isIn [.int p1, .int (1 : Int32), .int (400 : Int32)] [] rfl ca_X12_262 (fun _ hx => mR_isIn hE.sys _ _ _ _ _ hx) ⟨rfl, rfl, rfl, rfl⟩ rfl rfl dX12_share_5 (fun r1 => ?_)
  refine ok_if_eq hE 19 rfl dX12_share_8 ?_ ?_
  · refine ok_iconst hE (-1 : Int32) ki_m1 dX12_share_19 ?_
    exact ok_ireturn hE dX12_share_20
  · refine ok_aload_n hE 0 rfl dX12_share_11 ?_
    refine ok_iload_n hE 2 rfl dX12_share_12 ?_
    refine ok_cvIp hE rmR_isProcess [.int p2] [] rfl ca_X12_405 shR_0 rfl (fun _ hx => mR_isProcess hE.sys _ _ _ hx) ⟨rfl, rfl, rfl, rfl⟩ rfl rfl dX12_share_13 (fun r2 => ?_)
    refine ok_if_ne hE 21 rfl dX12_share_16 ?_ ?_
    · refine ok_aload_n hE 0 rfl dX12_share_21 ?_
      refine ok_cvV hE rmR_tries [] [] rfl ca_X12_425 shR_0 rfl (fun _ hx => mR_tries hE.sys  _ _ hx) ⟨rfl, rfl, rfl, rfl⟩ rfl rfl dX12_share_22 (fun M3 => ?_)
      refine ok_aload_n hE 0 rfl dX12_share_25 ?_
      refine ok_iload_n hE 1 rfl dX12_share_26 ?_
      refine ok_cvV hE rmR_goesOnFor [.int p1] [] rfl ca_X12_428 shR_0 rfl (fun _ hx => mR_goesOnFor hE.sys _ _ _ hx) ⟨rfl, rfl, rfl, rfl⟩ rfl rfl dX12_share_27 (fun M4 => ?_)
      refine ok_aload_n hE 0 rfl dX12_share_30 ?_
      refine ok_iconst hE (-1 : Int32) ki_m1 dX12_share_31 ?_
      refine ok_iconst hE (1 : Int32) ki_1 dX12_share_32 ?_
      refine ok_cvIp hE rmR_ofEvents [.int (-1 : Int32), .int (1 : Int32)] [] rfl ca_X12_431 shR_0 rfl (fun _ hx => mR_ofEvents hE.sys _ _ _ _ hx) ⟨rfl, rfl, rfl, rfl⟩ rfl rfl dX12_share_33 (fun r5 => ?_)
      refine ok_istore_n hE (fun v6 => [(3, .int v6), (0, .ref (E.Y.ad 0)), (1, .int p1), (2, .int p2)]) (fun _ => rfl) rfl dX12_share_36 (fun v6 => ?_)
      refine ok_iload_n hE 0 rfl dX12_share_37 ?_
      refine ok_if_ne hE 45 rfl dX12_share_38 ?_ ?_
      · refine ok_bipush hE (100 : Int32) kb_100 dX12_share_45 ?_
        refine ok_aload_n hE 1 rfl dX12_share_47 ?_
        refine ok_iload_n hE 3 rfl dX12_share_48 ?_
        refine ok_iconst hE (1 : Int32) ki_1 dX12_share_49 ?_
        refine ok_cvIp hE rmR_ofEvents [.int p2, .int (1 : Int32)] [.int (100 : Int32)] rfl ca_X12_431 shR_0 rfl (fun _ hx => mR_ofEvents hE.sys _ _ _ _ hx) ⟨rfl, rfl, rfl, rfl⟩ rfl rfl dX12_share_50 (fun r7 => ?_)
        refine ok_imul hE dX12_share_53 ?_
        refine ok_iload_n hE 0 rfl dX12_share_54 ?_
        refine ok_idiv hE dX12_share_55 ?_
        exact ok_ireturn hE dX12_share_56
      · refine ok_iconst hE (-1 : Int32) ki_m1 dX12_share_41 ?_
        refine ok_goto hE 56 rfl dX12_share_42 ?_
        exact ok_ireturn hE dX12_share_56
    · refine ok_iconst hE (-1 : Int32) ki_m1 dX12_share_19 ?_
      exact ok_ireturn hE dX12_share_20
theorem mR_share {l : Launch} {Y : Sys} {t : Nat} (hY : SysOk Y t shR) (p1 : Int32) (p2 : Int32)  (M : Mm) (r : (Int32 × Mm)) (h : R_share p1 p2 M = some r) : Cm l Y t yX12_share (WS yX12_share cX12_share 4 (some .int)) rmR_share [.ref (Y.ad 0), .int p1, .int p2] M (enI r) := by
  refine cm_of (own := RX12) hY rfl rfl (Nat.le_of_ble_eq_true rfl) (fun E hE e1 e2 e3 e4 => ?_)
  subst e1
  exact tR_share E hE p1 p2  M r h e4.symm
def R_when (p1 : Int32) (p2 : Int32) (M : Mm) : Option (Int32 × Mm) :=
 bnd (R_isIn p2 (1 : Int32) (40 : Int32) M) fun r1 =>
 if r1 = 0 then
 (some ((-1 : Int32), M))
 else
 (bnd (R_isProcess p1 M) fun r2 =>
 if r2 = 0 then
 (some ((-1 : Int32), M))
 else
 (bnd (R_tries M) fun M3 =>
 bnd (R_goesOnFor (400 : Int32) M3) fun M4 =>
 lett (0 : Int32) fun v5 =>
 lett (0 : Int32) fun v6 =>
 lett (fun (u_6 : Int32) =>
 ald ((4 : Int32) * u_6) 1604 (some ((gI M4 20 (ix ((4 : Int32) * u_6))), M4))) fun j73 =>
 loopR (fun (rec36 : (Int32 × Int32) → Option (Int32 × Mm)) (x8 : Int32 × Int32) =>
 if (gI M4 0 57) ≤ x8.2 then
 (some ((-1 : Int32), M4))
 else
 (ald (((4 : Int32) * x8.2) + (1 : Int32)) 1604 (lett (fun (w_8 : Int32) =>
 lett (x8.1 + w_8) fun v10 =>
 if v10 = p2 then
 (j73 x8.2)
 else
 (lett (x8.2 + (1 : Int32)) fun v11 =>
 rec36 (v10, v11))) fun j66 =>
 if (gI M4 20 (ix (((4 : Int32) * x8.2) + (1 : Int32)))) = p1 then
 (j66 (1 : Int32))
 else
 (j66 (0 : Int32))))) 1000000 (v5, v6)))
abbrev rmR_when : Room := { frames := 8, cells := 0, slots := 0, locals := 181 }
set_option maxHeartbeats 4000000 in
set_option maxRecDepth 100000 in
theorem tR_when (E : Cx) (hE : CxOk E cX12_when RX12 shR (some .int) rmR_when 5) (p1 : Int32) (p2 : Int32)  (M : Mm) : Ok E 0 [(0, .ref (E.Y.ad 0)), (1, .int p1), (2, .int p2)] [] M (R_when p1 p2 M) (KI E) := by
  unfold R_when
  refine ok_iload_n hE 2 rfl dX12_when_0 ?_
  refine ok_iconst hE (1 : Int32) ki_1 dX12_when_1 ?_
  refine ok_bipush hE (40 : Int32) kb_40 dX12_when_2 ?_
  refine ok_csIp hE rmR_isIn [.int p2, .int (1 : Int32), .int (40 : Int32)] [] rfl ca_X12_262 (fun _ hx => mR_isIn hE.sys _ _ _ _ _ hx) ⟨rfl, rfl, rfl, rfl⟩ rfl rfl dX12_when_4 (fun r1 => ?_)
  refine ok_if_eq hE 18 rfl dX12_when_7 ?_ ?_
  · refine ok_iconst hE (-1 : Int32) ki_m1 dX12_when_18 ?_
    exact ok_ireturn hE dX12_when_19
  · refine ok_aload_n hE 0 rfl dX12_when_10 ?_
    refine ok_iload_n hE 1 rfl dX12_when_11 ?_
    refine ok_cvIp hE rmR_isProcess [.int p1] [] rfl ca_X12_405 shR_0 rfl (fun _ hx => mR_isProcess hE.sys _ _ _ hx) ⟨rfl, rfl, rfl, rfl⟩ rfl rfl dX12_when_12 (fun r2 => ?_)
    refine ok_if_ne hE 20 rfl dX12_when_15 ?_ ?_
    · refine ok_aload_n hE 0 rfl dX12_when_20 ?_
      refine ok_cvV hE rmR_tries [] [] rfl ca_X12_425 shR_0 rfl (fun _ hx => mR_tries hE.sys  _ _ hx) ⟨rfl, rfl, rfl, rfl⟩ rfl rfl dX12_when_21 (fun M3 => ?_)
      refine ok_aload_n hE 0 rfl dX12_when_24 ?_
      refine ok_sipush hE (400 : Int32) ks_400 dX12_when_25 ?_
      refine ok_cvV hE rmR_goesOnFor [.int (400 : Int32)] [] rfl ca_X12_428 shR_0 rfl (fun _ hx => mR_goesOnFor hE.sys _ _ _ hx) ⟨rfl, rfl, rfl, rfl⟩ rfl rfl dX12_when_28 (fun M4 => ?_)
      refine ok_iconst hE (0 : Int32) ki_0 dX12_when_31 ?_
      refine ok_istore_n hE (fun v5 => [(3, .int v5), (0, .ref (E.Y.ad 0)), (1, .int p1), (2, .int p2)]) (fun _ => rfl) rfl dX12_when_32 (fun v5 => ?_)
      refine ok_iconst hE (0 : Int32) ki_0 dX12_when_33 ?_
      refine ok_istore hE (fun v6 => [(4, .int v6), (3, .int v5), (0, .ref (E.Y.ad 0)), (1, .int p1), (2, .int p2)]) (fun _ => rfl) rfl dX12_when_34 (fun v6 => ?_)
      refine ok_fun (fun j => ∀ (u_6 : Int32), Ok E 73 [(0, .ref (E.Y.ad 0)), (4, .int u_6)] [] M4 (j u_6) (KI E)) (fun u_6 => ?_) (fun j73 hj73 => ?_)
      · refine ok_aload_n hE 0 rfl dX12_when_73 ?_
        refine ok_getA hE fl_X12_190 shR_0 rfl dX12_when_74 ?_
        refine ok_iconst hE (4 : Int32) ki_4 dX12_when_77 ?_
        refine ok_iload hE 1 rfl dX12_when_78 ?_
        refine ok_imul hE dX12_when_80 ?_
        refine ok_iaload hE shR_20 dX12_when_81 ?_
        exact ok_ireturn hE dX12_when_82
      refine ok_sub [2, 3, 4, 1, 0] rfl (ok_loop (σ := Int32 × Int32) 36 (fun x8 => [(0, .ref (E.Y.ad 0)), (1, .int p1), (2, .int p2), (3, .int x8.1), (4, .int x8.2)]) (fun x8 => M4) (fun rec36 hrec36 x8 => ?_) 1000000 (v5, v6))
      refine ok_iload hE 4 rfl dX12_when_36 ?_
      refine ok_aload_n hE 0 rfl dX12_when_38 ?_
      refine ok_getI hE fl_X12_184 shR_0 rfl dX12_when_39 ?_
      refine ok_icmp_ge hE 89 rfl dX12_when_42 ?_ ?_
      · refine ok_iconst hE (-1 : Int32) ki_m1 dX12_when_89 ?_
        exact ok_ireturn hE dX12_when_90
      · refine ok_iload_n hE 3 rfl dX12_when_45 ?_
        refine ok_aload_n hE 0 rfl dX12_when_46 ?_
        refine ok_getA hE fl_X12_190 shR_0 rfl dX12_when_47 ?_
        refine ok_iconst hE (4 : Int32) ki_4 dX12_when_50 ?_
        refine ok_iload hE 4 rfl dX12_when_51 ?_
        refine ok_imul hE dX12_when_53 ?_
        refine ok_iconst hE (1 : Int32) ki_1 dX12_when_54 ?_
        refine ok_iadd hE dX12_when_55 ?_
        refine ok_iaload hE shR_20 dX12_when_56 ?_
        refine ok_iload_n hE 1 rfl dX12_when_57 ?_
        refine ok_fun (fun j => ∀ (w_8 : Int32), Ok E 66 [(0, .ref (E.Y.ad 0)), (1, .int p1), (2, .int p2), (4, .int x8.2)] [.int w_8, .int x8.1] M4 (j w_8) (KI E)) (fun w_8 => ?_) (fun j66 hj66 => ?_)
        · refine ok_iadd hE dX12_when_66 ?_
          refine ok_istore_n hE (fun v10 => [(3, .int v10), (0, .ref (E.Y.ad 0)), (1, .int p1), (2, .int p2), (4, .int x8.2)]) (fun _ => rfl) rfl dX12_when_67 (fun v10 => ?_)
          refine ok_iload_n hE 0 rfl dX12_when_68 ?_
          refine ok_iload_n hE 3 rfl dX12_when_69 ?_
          refine ok_icmp_ne hE 83 rfl dX12_when_70 ?_ ?_
          · refine ok_iinc hE 4 (x8.2 + (1 : Int32)) (by rw [ko_1]) (fun v11 => [(4, .int v11), (3, .int v10), (0, .ref (E.Y.ad 0)), (1, .int p1), (2, .int p2)]) rfl (fun _ => rfl) rfl dX12_when_83 (fun v11 => ?_)
            refine ok_goto hE 36 rfl dX12_when_86 ?_
            exact ok_sub [2, 3, 4, 1, 0] rfl (hrec36 (v10, v11))
          · exact ok_sub [1, 4] rfl (hj73 x8.2)
        refine ok_icmp_ne hE 65 rfl dX12_when_58 ?_ ?_
        · refine ok_iconst hE (0 : Int32) ki_0 dX12_when_65 ?_
          exact ok_sub [0, 1, 2, 4] rfl (hj66 (0 : Int32))
        · refine ok_iconst hE (1 : Int32) ki_1 dX12_when_61 ?_
          refine ok_goto hE 66 rfl dX12_when_62 ?_
          exact ok_sub [0, 1, 2, 4] rfl (hj66 (1 : Int32))
    · refine ok_iconst hE (-1 : Int32) ki_m1 dX12_when_18 ?_
      exact ok_ireturn hE dX12_when_19
theorem mR_when {l : Launch} {Y : Sys} {t : Nat} (hY : SysOk Y t shR) (p1 : Int32) (p2 : Int32)  (M : Mm) (r : (Int32 × Mm)) (h : R_when p1 p2 M = some r) : Cm l Y t yX12_when (WS yX12_when cX12_when 5 (some .int)) rmR_when [.ref (Y.ad 0), .int p1, .int p2] M (enI r) := by
  refine cm_of (own := RX12) hY rfl rfl (Nat.le_of_ble_eq_true rfl) (fun E hE e1 e2 e3 e4 => ?_)
  subst e1
  exact tR_when E hE p1 p2  M r h e4.symm
def R_late (p1 : Int32) (p2 : Int32) (p3 : Int32) (M : Mm) : Option (Int32 × Mm) :=
 bnd (R_isIn p1 (0 : Int32) (400 : Int32) M) fun r1 =>
 if r1 = 0 then
 (some ((-1 : Int32), M))
 else
 (bnd (R_isProcess p2 M) fun r2 =>
 if r2 = 0 then
 (some ((-1 : Int32), M))
 else
 (if 0 ≤ p3 then
 (bnd (R_tries M) fun M3 =>
 bnd (R_goesOnFor p1 M3) fun M4 =>
 lett (0 : Int32) fun v5 =>
 lett (0 : Int32) fun v6 =>
 loopR (fun (rec40 : (Int32 × Int32) → Option (Int32 × Mm)) (x7 : Int32 × Int32) =>
 if (gI M4 0 57) ≤ x7.2 then
 (some (x7.1, M4))
 else
 (ald (((4 : Int32) * x7.2) + (1 : Int32)) 1604 (lett (fun (w_7 : Int32) =>
 lett (x7.1 + w_7) fun v9 =>
 lett (x7.2 + (1 : Int32)) fun v10 =>
 rec40 (v9, v10)) fun j86 =>
 lett (fun (_ : Unit) =>
 j86 (0 : Int32)) fun j85 =>
 if (gI M4 20 (ix (((4 : Int32) * x7.2) + (1 : Int32)))) = p2 then
 (ald (((4 : Int32) * x7.2) + (2 : Int32)) 1604 (if (gI M4 20 (ix (((4 : Int32) * x7.2) + (2 : Int32)))) ≤ p3 then
 (j85 ())
 else
 (j86 (1 : Int32))))
 else
 (j85 ())))) 1000000 (v5, v6))
 else
 (some ((-1 : Int32), M))))
abbrev rmR_late : Room := { frames := 8, cells := 0, slots := 0, locals := 181 }
set_option maxHeartbeats 4000000 in
set_option maxRecDepth 100000 in
theorem tR_late (E : Cx) (hE : CxOk E cX12_late RX12 shR (some .int) rmR_late 6) (p1 : Int32) (p2 : Int32) (p3 : Int32)  (M : Mm) : Ok E 0 [(0, .ref (E.Y.ad 0)), (1, .int p1), (2, .int p2), (3, .int p3)] [] M (R_late p1 p2 p3 M) (KI E) := by
  unfold R_late
  refine ok_iload_n hE 1 rfl dX12_late_0 ?_
  refine ok_iconst hE (0 : Int32) ki_0 dX12_late_1 ?_
  refine ok_sipush hE (400 : Int32) ks_400 dX12_late_2 ?_
  refine ok_csIp hE rmR_isIn [.int p1, .int (0 : Int32), .int (400 : Int32)] [] rfl ca_X12_262 (fun _ hx => mR_isIn hE.sys _ _ _ _ _ hx) ⟨rfl, rfl, rfl, rfl⟩ rfl rfl dX12_late_5 (fun r1 => ?_)
  refine ok_if_eq hE 23 rfl dX12_late_8 ?_ ?_
  · refine ok_iconst hE (-1 : Int32) ki_m1 dX12_late_23 ?_
    exact ok_ireturn hE dX12_late_24
  · refine ok_aload_n hE 0 rfl dX12_late_11 ?_
    refine ok_iload_n hE 2 rfl dX12_late_12 ?_
    refine ok_cvIp hE rmR_isProcess [.int p2] [] rfl ca_X12_405 shR_0 rfl (fun _ hx => mR_isProcess hE.sys _ _ _ hx) ⟨rfl, rfl, rfl, rfl⟩ rfl rfl dX12_late_13 (fun r2 => ?_)
    refine ok_if_eq hE 23 rfl dX12_late_16 ?_ ?_
    · refine ok_iconst hE (-1 : Int32) ki_m1 dX12_late_23 ?_
      exact ok_ireturn hE dX12_late_24
    · refine ok_iload_n hE 3 rfl dX12_late_19 ?_
      refine ok_if_ge hE 25 rfl dX12_late_20 ?_ ?_
      · refine ok_aload_n hE 0 rfl dX12_late_25 ?_
        refine ok_cvV hE rmR_tries [] [] rfl ca_X12_425 shR_0 rfl (fun _ hx => mR_tries hE.sys  _ _ hx) ⟨rfl, rfl, rfl, rfl⟩ rfl rfl dX12_late_26 (fun M3 => ?_)
        refine ok_aload_n hE 0 rfl dX12_late_29 ?_
        refine ok_iload_n hE 1 rfl dX12_late_30 ?_
        refine ok_cvV hE rmR_goesOnFor [.int p1] [] rfl ca_X12_428 shR_0 rfl (fun _ hx => mR_goesOnFor hE.sys _ _ _ hx) ⟨rfl, rfl, rfl, rfl⟩ rfl rfl dX12_late_31 (fun M4 => ?_)
        refine ok_iconst hE (0 : Int32) ki_0 dX12_late_34 ?_
        refine ok_istore hE (fun v5 => [(4, .int v5), (0, .ref (E.Y.ad 0)), (1, .int p1), (2, .int p2), (3, .int p3)]) (fun _ => rfl) rfl dX12_late_35 (fun v5 => ?_)
        refine ok_iconst hE (0 : Int32) ki_0 dX12_late_37 ?_
        refine ok_istore hE (fun v6 => [(5, .int v6), (4, .int v5), (0, .ref (E.Y.ad 0)), (1, .int p1), (2, .int p2), (3, .int p3)]) (fun _ => rfl) rfl dX12_late_38 (fun v6 => ?_)
        refine ok_sub [2, 4, 5, 1, 0] rfl (ok_loop (σ := Int32 × Int32) 40 (fun x7 => [(0, .ref (E.Y.ad 0)), (2, .int p2), (3, .int p3), (4, .int x7.1), (5, .int x7.2)]) (fun x7 => M4) (fun rec40 hrec40 x7 => ?_) 1000000 (v5, v6))
        refine ok_iload hE 4 rfl dX12_late_40 ?_
        refine ok_aload_n hE 0 rfl dX12_late_42 ?_
        refine ok_getI hE fl_X12_184 shR_0 rfl dX12_late_43 ?_
        refine ok_icmp_ge hE 95 rfl dX12_late_46 ?_ ?_
        · refine ok_iload hE 3 rfl dX12_late_95 ?_
          exact ok_ireturn hE dX12_late_97
        · refine ok_iload hE 3 rfl dX12_late_49 ?_
          refine ok_aload_n hE 0 rfl dX12_late_51 ?_
          refine ok_getA hE fl_X12_190 shR_0 rfl dX12_late_52 ?_
          refine ok_iconst hE (4 : Int32) ki_4 dX12_late_55 ?_
          refine ok_iload hE 4 rfl dX12_late_56 ?_
          refine ok_imul hE dX12_late_58 ?_
          refine ok_iconst hE (1 : Int32) ki_1 dX12_late_59 ?_
          refine ok_iadd hE dX12_late_60 ?_
          refine ok_iaload hE shR_20 dX12_late_61 ?_
          refine ok_iload_n hE 1 rfl dX12_late_62 ?_
          refine ok_fun (fun j => ∀ (w_7 : Int32), Ok E 86 [(0, .ref (E.Y.ad 0)), (2, .int p2), (3, .int p3), (5, .int x7.2)] [.int w_7, .int x7.1] M4 (j w_7) (KI E)) (fun w_7 => ?_) (fun j86 hj86 => ?_)
          · refine ok_iadd hE dX12_late_86 ?_
            refine ok_istore hE (fun v9 => [(4, .int v9), (0, .ref (E.Y.ad 0)), (2, .int p2), (3, .int p3), (5, .int x7.2)]) (fun _ => rfl) rfl dX12_late_87 (fun v9 => ?_)
            refine ok_iinc hE 4 (x7.2 + (1 : Int32)) (by rw [ko_1]) (fun v10 => [(5, .int v10), (4, .int v9), (0, .ref (E.Y.ad 0)), (2, .int p2), (3, .int p3)]) rfl (fun _ => rfl) rfl dX12_late_89 (fun v10 => ?_)
            refine ok_goto hE 40 rfl dX12_late_92 ?_
            exact ok_sub [2, 3, 4, 1, 0] rfl (hrec40 (v9, v10))
          refine ok_fun (fun j => ∀ (_ : Unit), Ok E 85 [(0, .ref (E.Y.ad 0)), (2, .int p2), (3, .int p3), (5, .int x7.2)] [.int x7.1] M4 (j ()) (KI E)) (fun _ => ?_) (fun j85 hj85 => ?_)
          · refine ok_iconst hE (0 : Int32) ki_0 dX12_late_85 ?_
            exact ok_sub [0, 1, 2, 3] rfl (hj86 (0 : Int32))
          refine ok_icmp_ne hE 85 rfl dX12_late_63 ?_ ?_
          · exact ok_sub [0, 1, 2, 4] rfl (hj85 ())
          · refine ok_aload_n hE 0 rfl dX12_late_66 ?_
            refine ok_getA hE fl_X12_190 shR_0 rfl dX12_late_67 ?_
            refine ok_iconst hE (4 : Int32) ki_4 dX12_late_70 ?_
            refine ok_iload hE 4 rfl dX12_late_71 ?_
            refine ok_imul hE dX12_late_73 ?_
            refine ok_iconst hE (2 : Int32) ki_2 dX12_late_74 ?_
            refine ok_iadd hE dX12_late_75 ?_
            refine ok_iaload hE shR_20 dX12_late_76 ?_
            refine ok_iload_n hE 2 rfl dX12_late_77 ?_
            refine ok_icmp_le hE 85 rfl dX12_late_78 ?_ ?_
            · exact ok_sub [0, 1, 2, 4] rfl (hj85 ())
            · refine ok_iconst hE (1 : Int32) ki_1 dX12_late_81 ?_
              refine ok_goto hE 86 rfl dX12_late_82 ?_
              exact ok_sub [0, 1, 2, 4] rfl (hj86 (1 : Int32))
      · refine ok_iconst hE (-1 : Int32) ki_m1 dX12_late_23 ?_
        exact ok_ireturn hE dX12_late_24
theorem mR_late {l : Launch} {Y : Sys} {t : Nat} (hY : SysOk Y t shR) (p1 : Int32) (p2 : Int32) (p3 : Int32)  (M : Mm) (r : (Int32 × Mm)) (h : R_late p1 p2 p3 M = some r) : Cm l Y t yX12_late (WS yX12_late cX12_late 6 (some .int)) rmR_late [.ref (Y.ad 0), .int p1, .int p2, .int p3] M (enI r) := by
  refine cm_of (own := RX12) hY rfl rfl (Nat.le_of_ble_eq_true rfl) (fun E hE e1 e2 e3 e4 => ?_)
  subst e1
  exact tR_late E hE p1 p2 p3  M r h e4.symm
def R_alone (p1 : Int32) (p2 : Int32) (M : Mm) : Option (Int32 × Mm) :=
 bnd (R_isIn p1 (0 : Int32) (400 : Int32) M) fun r1 =>
 if r1 = 0 then
 (some ((-1 : Int32), M))
 else
 (bnd (R_isProcess p2 M) fun r2 =>
 if r2 = 0 then
 (some ((-1 : Int32), M))
 else
 (bnd (R_tries M) fun M3 =>
 lett (0 : Int32) fun v4 =>
 lett (fun (M_4 : Mm) =>
 bnd (R_goesOnFor p1 M_4) fun M6 =>
 bnd (R_ofEvents p2 (1 : Int32) M6) fun r7 =>
 some (r7, M6)) fun j58 =>
 loopR (fun (rec27 : (Int32 × Mm) → Option (Int32 × Mm)) (x8 : Int32 × Mm) =>
 if (gI x8.2 0 1) ≤ x8.1 then
 (j58 x8.2)
 else
 (lett (fun (w_8 : Int32) =>
 bnd (R_sets x8.1 (8 : Int32) w_8 x8.2) fun M10 =>
 lett (x8.1 + (1 : Int32)) fun v11 =>
 rec27 (v11, M10)) fun j49 =>
 if x8.1 = p2 then
 (j49 (1 : Int32))
 else
 (j49 (0 : Int32)))) 1000000 (v4, M3)))
abbrev rmR_alone : Room := { frames := 8, cells := 0, slots := 0, locals := 181 }
set_option maxHeartbeats 4000000 in
set_option maxRecDepth 100000 in
theorem tR_alone (E : Cx) (hE : CxOk E cX12_alone RX12 shR (some .int) rmR_alone 4) (p1 : Int32) (p2 : Int32)  (M : Mm) : Ok E 0 [(0, .ref (E.Y.ad 0)), (1, .int p1), (2, .int p2)] [] M (R_alone p1 p2 M) (KI E) := by
  unfold R_alone
  refine ok_iload_n hE 1 rfl dX12_alone_0 ?_
  refine ok_iconst hE (0 : Int32) ki_0 dX12_alone_1 ?_
  refine ok_sipush hE (400 : Int32) ks_400 dX12_alone_2 ?_
  refine ok_csIp hE rmR_isIn [.int p1, .int (0 : Int32), .int (400 : Int32)] [] rfl ca_X12_262 (fun _ hx => mR_isIn hE.sys _ _ _ _ _ hx) ⟨rfl, rfl, rfl, rfl⟩ rfl rfl dX12_alone_5 (fun r1 => ?_)
  refine ok_if_eq hE 19 rfl dX12_alone_8 ?_ ?_
  · refine ok_iconst hE (-1 : Int32) ki_m1 dX12_alone_19 ?_
    exact ok_ireturn hE dX12_alone_20
  · refine ok_aload_n hE 0 rfl dX12_alone_11 ?_
    refine ok_iload_n hE 2 rfl dX12_alone_12 ?_
    refine ok_cvIp hE rmR_isProcess [.int p2] [] rfl ca_X12_405 shR_0 rfl (fun _ hx => mR_isProcess hE.sys _ _ _ hx) ⟨rfl, rfl, rfl, rfl⟩ rfl rfl dX12_alone_13 (fun r2 => ?_)
    refine ok_if_ne hE 21 rfl dX12_alone_16 ?_ ?_
    · refine ok_aload_n hE 0 rfl dX12_alone_21 ?_
      refine ok_cvV hE rmR_tries [] [] rfl ca_X12_425 shR_0 rfl (fun _ hx => mR_tries hE.sys  _ _ hx) ⟨rfl, rfl, rfl, rfl⟩ rfl rfl dX12_alone_22 (fun M3 => ?_)
      refine ok_iconst hE (0 : Int32) ki_0 dX12_alone_25 ?_
      refine ok_istore_n hE (fun v4 => [(3, .int v4), (0, .ref (E.Y.ad 0)), (1, .int p1), (2, .int p2)]) (fun _ => rfl) rfl dX12_alone_26 (fun v4 => ?_)
      refine ok_fun (fun j => ∀ (M_4 : Mm), Ok E 58 [(0, .ref (E.Y.ad 0)), (1, .int p1), (2, .int p2)] [] M_4 (j M_4) (KI E)) (fun M_4 => ?_) (fun j58 hj58 => ?_)
      · refine ok_aload_n hE 0 rfl dX12_alone_58 ?_
        refine ok_iload_n hE 1 rfl dX12_alone_59 ?_
        refine ok_cvV hE rmR_goesOnFor [.int p1] [] rfl ca_X12_428 shR_0 rfl (fun _ hx => mR_goesOnFor hE.sys _ _ _ hx) ⟨rfl, rfl, rfl, rfl⟩ rfl rfl dX12_alone_60 (fun M6 => ?_)
        refine ok_aload_n hE 0 rfl dX12_alone_63 ?_
        refine ok_iload_n hE 2 rfl dX12_alone_64 ?_
        refine ok_iconst hE (1 : Int32) ki_1 dX12_alone_65 ?_
        refine ok_cvIp hE rmR_ofEvents [.int p2, .int (1 : Int32)] [] rfl ca_X12_431 shR_0 rfl (fun _ hx => mR_ofEvents hE.sys _ _ _ _ hx) ⟨rfl, rfl, rfl, rfl⟩ rfl rfl dX12_alone_66 (fun r7 => ?_)
        exact ok_ireturn hE dX12_alone_69
      refine ok_sub [1, 2, 3, 0] rfl (ok_loop (σ := Int32 × Mm) 27 (fun x8 => [(0, .ref (E.Y.ad 0)), (1, .int p1), (2, .int p2), (3, .int x8.1)]) (fun x8 => x8.2) (fun rec27 hrec27 x8 => ?_) 1000000 (v4, M3))
      refine ok_iload_n hE 3 rfl dX12_alone_27 ?_
      refine ok_aload_n hE 0 rfl dX12_alone_28 ?_
      refine ok_getI hE fl_X12_13 shR_0 rfl dX12_alone_29 ?_
      refine ok_icmp_ge hE 58 rfl dX12_alone_32 ?_ ?_
      · exact ok_sub [0, 1, 2] rfl (hj58 x8.2)
      · refine ok_aload_n hE 0 rfl dX12_alone_35 ?_
        refine ok_iload_n hE 3 rfl dX12_alone_36 ?_
        refine ok_bipush hE (8 : Int32) kb_8 dX12_alone_37 ?_
        refine ok_iload_n hE 3 rfl dX12_alone_39 ?_
        refine ok_iload_n hE 2 rfl dX12_alone_40 ?_
        refine ok_fun (fun j => ∀ (w_8 : Int32), Ok E 49 [(0, .ref (E.Y.ad 0)), (1, .int p1), (2, .int p2), (3, .int x8.1)] [.int w_8, .int (8 : Int32), .int x8.1, .ref (E.Y.ad 0)] x8.2 (j w_8) (KI E)) (fun w_8 => ?_) (fun j49 hj49 => ?_)
        · refine ok_cvV hE rmR_sets [.int x8.1, .int (8 : Int32), .int w_8] [] rfl ca_X12_314 shR_0 rfl (fun _ hx => mR_sets hE.sys _ _ _ _ _ hx) ⟨rfl, rfl, rfl, rfl⟩ rfl rfl dX12_alone_49 (fun M10 => ?_)
          refine ok_iinc hE 3 (x8.1 + (1 : Int32)) (by rw [ko_1]) (fun v11 => [(3, .int v11), (0, .ref (E.Y.ad 0)), (1, .int p1), (2, .int p2)]) rfl (fun _ => rfl) rfl dX12_alone_52 (fun v11 => ?_)
          refine ok_goto hE 27 rfl dX12_alone_55 ?_
          exact ok_sub [1, 2, 3, 0] rfl (hrec27 (v11, M10))
        refine ok_icmp_ne hE 48 rfl dX12_alone_41 ?_ ?_
        · refine ok_iconst hE (0 : Int32) ki_0 dX12_alone_48 ?_
          exact ok_sub [0, 1, 2, 3] rfl (hj49 (0 : Int32))
        · refine ok_iconst hE (1 : Int32) ki_1 dX12_alone_44 ?_
          refine ok_goto hE 49 rfl dX12_alone_45 ?_
          exact ok_sub [0, 1, 2, 3] rfl (hj49 (1 : Int32))
    · refine ok_iconst hE (-1 : Int32) ki_m1 dX12_alone_19 ?_
      exact ok_ireturn hE dX12_alone_20
theorem mR_alone {l : Launch} {Y : Sys} {t : Nat} (hY : SysOk Y t shR) (p1 : Int32) (p2 : Int32)  (M : Mm) (r : (Int32 × Mm)) (h : R_alone p1 p2 M = some r) : Cm l Y t yX12_alone (WS yX12_alone cX12_alone 4 (some .int)) rmR_alone [.ref (Y.ad 0), .int p1, .int p2] M (enI r) := by
  refine cm_of (own := RX12) hY rfl rfl (Nat.le_of_ble_eq_true rfl) (fun E hE e1 e2 e3 e4 => ?_)
  subst e1
  exact tR_alone E hE p1 p2  M r h e4.symm
def R_idling (p1 : Int32) (p2 : Int32) (M : Mm) : Option (Int32 × Mm) :=
 bnd (R_isIn p1 (1 : Int32) (200 : Int32) M) fun r1 =>
 if r1 = 0 then
 (some ((-1 : Int32), M))
 else
 (if (gI M 0 1) = 0 then
 (some ((-1 : Int32), M))
 else
 (bnd (R_isIn p2 (0 : Int32) (1 : Int32) M) fun r2 =>
 if r2 = 0 then
 (some ((-1 : Int32), M))
 else
 (lett (-1 : Int32) fun v3 =>
 lett (-1 : Int32) fun v4 =>
 lett (0 : Int32) fun v5 =>
 lett (fun (u_5 : Int32) (u_6 : Int32) (M_7 : Mm) =>
 if p2 = 0 then
 (some (u_5, M_7))
 else
 (some (u_6, M_7))) fun j92 =>
 loopR (fun (rec37 : (Int32 × Int32 × Int32 × Mm) → Option (Int32 × Mm)) (x9 : Int32 × Int32 × Int32 × Mm) =>
 if (20 : Int32) < x9.2.2.1 then
 (j92 x9.1 x9.2.1 x9.2.2.2)
 else
 (bnd (R_tries x9.2.2.2) fun M10 =>
 bnd (R_puts (6 : Int32) x9.2.2.1 M10) fun M11 =>
 bnd (R_goesOnFor p1 M11) fun M12 =>
 bnd (R_ofEvents (-1 : Int32) (1 : Int32) M12) fun r13 =>
 lett r13 fun v14 =>
 lett (fun (u_14 : Int32) (u_15 : Int32) =>
 lett (x9.2.2.1 + (1 : Int32)) fun v17 =>
 rec37 (u_14, u_15, v17, M12)) fun j86 =>
 if x9.2.1 < v14 then
 (lett x9.2.2.1 fun v18 =>
 lett v14 fun v19 =>
 j86 v18 v19)
 else
 (j86 x9.1 x9.2.1))) 1000000 (v3, v4, v5, M))))
abbrev rmR_idling : Room := { frames := 8, cells := 0, slots := 0, locals := 181 }
set_option maxHeartbeats 4000000 in
set_option maxRecDepth 100000 in
theorem tR_idling (E : Cx) (hE : CxOk E cX12_idling RX12 shR (some .int) rmR_idling 7) (p1 : Int32) (p2 : Int32)  (M : Mm) : Ok E 0 [(0, .ref (E.Y.ad 0)), (1, .int p1), (2, .int p2)] [] M (R_idling p1 p2 M) (KI E) := by
  unfold R_idling
  refine ok_iload_n hE 1 rfl dX12_idling_0 ?_
  refine ok_iconst hE (1 : Int32) ki_1 dX12_idling_1 ?_
  refine ok_sipush hE (200 : Int32) ks_200 dX12_idling_2 ?_
  refine ok_csIp hE rmR_isIn [.int p1, .int (1 : Int32), .int (200 : Int32)] [] rfl ca_X12_262 (fun _ hx => mR_isIn hE.sys _ _ _ _ _ hx) ⟨rfl, rfl, rfl, rfl⟩ rfl rfl dX12_idling_5 (fun r1 => ?_)
  refine ok_if_eq hE 27 rfl dX12_idling_8 ?_ ?_
  · refine ok_iconst hE (-1 : Int32) ki_m1 dX12_idling_27 ?_
    exact ok_ireturn hE dX12_idling_28
  · refine ok_aload_n hE 0 rfl dX12_idling_11 ?_
    refine ok_getI hE fl_X12_13 shR_0 rfl dX12_idling_12 ?_
    refine ok_if_eq hE 27 rfl dX12_idling_15 ?_ ?_
    · refine ok_iconst hE (-1 : Int32) ki_m1 dX12_idling_27 ?_
      exact ok_ireturn hE dX12_idling_28
    · refine ok_iload_n hE 2 rfl dX12_idling_18 ?_
      refine ok_iconst hE (0 : Int32) ki_0 dX12_idling_19 ?_
      refine ok_iconst hE (1 : Int32) ki_1 dX12_idling_20 ?_
      refine ok_csIp hE rmR_isIn [.int p2, .int (0 : Int32), .int (1 : Int32)] [] rfl ca_X12_262 (fun _ hx => mR_isIn hE.sys _ _ _ _ _ hx) ⟨rfl, rfl, rfl, rfl⟩ rfl rfl dX12_idling_21 (fun r2 => ?_)
      refine ok_if_ne hE 29 rfl dX12_idling_24 ?_ ?_
      · refine ok_iconst hE (-1 : Int32) ki_m1 dX12_idling_29 ?_
        refine ok_istore_n hE (fun v3 => [(3, .int v3), (0, .ref (E.Y.ad 0)), (1, .int p1), (2, .int p2)]) (fun _ => rfl) rfl dX12_idling_30 (fun v3 => ?_)
        refine ok_iconst hE (-1 : Int32) ki_m1 dX12_idling_31 ?_
        refine ok_istore hE (fun v4 => [(4, .int v4), (3, .int v3), (0, .ref (E.Y.ad 0)), (1, .int p1), (2, .int p2)]) (fun _ => rfl) rfl dX12_idling_32 (fun v4 => ?_)
        refine ok_iconst hE (0 : Int32) ki_0 dX12_idling_34 ?_
        refine ok_istore hE (fun v5 => [(5, .int v5), (4, .int v4), (3, .int v3), (0, .ref (E.Y.ad 0)), (1, .int p1), (2, .int p2)]) (fun _ => rfl) rfl dX12_idling_35 (fun v5 => ?_)
        refine ok_fun (fun j => ∀ (u_5 : Int32) (u_6 : Int32) (M_7 : Mm), Ok E 92 [(2, .int p2), (3, .int u_5), (4, .int u_6)] [] M_7 (j u_5 u_6 M_7) (KI E)) (fun u_5 u_6 M_7 => ?_) (fun j92 hj92 => ?_)
        · refine ok_iload_n hE 0 rfl dX12_idling_92 ?_
          refine ok_if_ne hE 100 rfl dX12_idling_93 ?_ ?_
          · refine ok_iload hE 2 rfl dX12_idling_100 ?_
            exact ok_ireturn hE dX12_idling_102
          · refine ok_iload_n hE 1 rfl dX12_idling_96 ?_
            refine ok_goto hE 102 rfl dX12_idling_97 ?_
            exact ok_ireturn hE dX12_idling_102
        refine ok_sub [3, 4, 5, 2, 1, 0] rfl (ok_loop (σ := Int32 × Int32 × Int32 × Mm) 37 (fun x9 => [(0, .ref (E.Y.ad 0)), (1, .int p1), (2, .int p2), (3, .int x9.1), (4, .int x9.2.1), (5, .int x9.2.2.1)]) (fun x9 => x9.2.2.2) (fun rec37 hrec37 x9 => ?_) 1000000 (v3, v4, v5, M))
        refine ok_iload hE 5 rfl dX12_idling_37 ?_
        refine ok_bipush hE (20 : Int32) kb_20 dX12_idling_39 ?_
        refine ok_icmp_gt hE 92 rfl dX12_idling_41 ?_ ?_
        · exact ok_sub [2, 3, 4] rfl (hj92 x9.1 x9.2.1 x9.2.2.2)
        · refine ok_aload_n hE 0 rfl dX12_idling_44 ?_
          refine ok_cvV hE rmR_tries [] [] rfl ca_X12_425 shR_0 rfl (fun _ hx => mR_tries hE.sys  _ _ hx) ⟨rfl, rfl, rfl, rfl⟩ rfl rfl dX12_idling_45 (fun M10 => ?_)
          refine ok_aload_n hE 0 rfl dX12_idling_48 ?_
          refine ok_bipush hE (6 : Int32) kb_6 dX12_idling_49 ?_
          refine ok_iload hE 5 rfl dX12_idling_51 ?_
          refine ok_cvV hE rmR_puts [.int (6 : Int32), .int x9.2.2.1] [] rfl ca_X12_318 shR_0 rfl (fun _ hx => mR_puts hE.sys _ _ _ _ hx) ⟨rfl, rfl, rfl, rfl⟩ rfl rfl dX12_idling_53 (fun M11 => ?_)
          refine ok_aload_n hE 0 rfl dX12_idling_56 ?_
          refine ok_iload_n hE 1 rfl dX12_idling_57 ?_
          refine ok_cvV hE rmR_goesOnFor [.int p1] [] rfl ca_X12_428 shR_0 rfl (fun _ hx => mR_goesOnFor hE.sys _ _ _ hx) ⟨rfl, rfl, rfl, rfl⟩ rfl rfl dX12_idling_58 (fun M12 => ?_)
          refine ok_aload_n hE 0 rfl dX12_idling_61 ?_
          refine ok_iconst hE (-1 : Int32) ki_m1 dX12_idling_62 ?_
          refine ok_iconst hE (1 : Int32) ki_1 dX12_idling_63 ?_
          refine ok_cvIp hE rmR_ofEvents [.int (-1 : Int32), .int (1 : Int32)] [] rfl ca_X12_431 shR_0 rfl (fun _ hx => mR_ofEvents hE.sys _ _ _ _ hx) ⟨rfl, rfl, rfl, rfl⟩ rfl rfl dX12_idling_64 (fun r13 => ?_)
          refine ok_istore hE (fun v14 => [(6, .int v14), (0, .ref (E.Y.ad 0)), (1, .int p1), (2, .int p2), (3, .int x9.1), (4, .int x9.2.1), (5, .int x9.2.2.1)]) (fun _ => rfl) rfl dX12_idling_67 (fun v14 => ?_)
          refine ok_iload hE 0 rfl dX12_idling_69 ?_
          refine ok_iload hE 5 rfl dX12_idling_71 ?_
          refine ok_fun (fun j => ∀ (u_14 : Int32) (u_15 : Int32), Ok E 86 [(0, .ref (E.Y.ad 0)), (1, .int p1), (2, .int p2), (3, .int u_14), (4, .int u_15), (5, .int x9.2.2.1)] [] M12 (j u_14 u_15) (KI E)) (fun u_14 u_15 => ?_) (fun j86 hj86 => ?_)
          · refine ok_iinc hE 5 (x9.2.2.1 + (1 : Int32)) (by rw [ko_1]) (fun v17 => [(5, .int v17), (0, .ref (E.Y.ad 0)), (1, .int p1), (2, .int p2), (3, .int u_14), (4, .int u_15)]) rfl (fun _ => rfl) rfl dX12_idling_86 (fun v17 => ?_)
            refine ok_goto hE 37 rfl dX12_idling_89 ?_
            exact ok_sub [1, 2, 3, 4, 5, 0] rfl (hrec37 (u_14, u_15, v17, M12))
          refine ok_icmp_gt hE 79 rfl dX12_idling_73 ?_ ?_
          · refine ok_iload hE 6 rfl dX12_idling_79 ?_
            refine ok_istore_n hE (fun v18 => [(3, .int v18), (6, .int v14), (0, .ref (E.Y.ad 0)), (1, .int p1), (2, .int p2), (4, .int x9.2.1), (5, .int x9.2.2.1)]) (fun _ => rfl) rfl dX12_idling_81 (fun v18 => ?_)
            refine ok_iload hE 1 rfl dX12_idling_82 ?_
            refine ok_istore hE (fun v19 => [(4, .int v19), (3, .int v18), (6, .int v14), (0, .ref (E.Y.ad 0)), (1, .int p1), (2, .int p2), (5, .int x9.2.2.1)]) (fun _ => rfl) rfl dX12_idling_84 (fun v19 => ?_)
            exact ok_sub [3, 4, 5, 1, 0, 6] rfl (hj86 v18 v19)
          · refine ok_goto hE 86 rfl dX12_idling_76 ?_
            exact ok_sub [1, 2, 3, 4, 5, 6] rfl (hj86 x9.1 x9.2.1)
      · refine ok_iconst hE (-1 : Int32) ki_m1 dX12_idling_27 ?_
        exact ok_ireturn hE dX12_idling_28
theorem mR_idling {l : Launch} {Y : Sys} {t : Nat} (hY : SysOk Y t shR) (p1 : Int32) (p2 : Int32)  (M : Mm) (r : (Int32 × Mm)) (h : R_idling p1 p2 M = some r) : Cm l Y t yX12_idling (WS yX12_idling cX12_idling 7 (some .int)) rmR_idling [.ref (Y.ad 0), .int p1, .int p2] M (enI r) := by
  refine cm_of (own := RX12) hY rfl rfl (Nat.le_of_ble_eq_true rfl) (fun E hE e1 e2 e3 e4 => ?_)
  subst e1
  exact tR_idling E hE p1 p2  M r h e4.symm
def R_least (p1 : Int32) (p2 : Int32) (p3 : Int32) (M : Mm) : Option (Int32 × Mm) :=
 bnd (R_isIn p1 (1 : Int32) (100 : Int32) M) fun r1 =>
 if r1 = 0 then
 (some ((-1 : Int32), M))
 else
 (bnd (R_isProcess p2 M) fun r2 =>
 if r2 = 0 then
 (some ((-1 : Int32), M))
 else
 (if (1 : Int32) ≤ p3 then
 (lett (1 : Int32) fun v3 =>
 loopR (fun (rec28 : (Int32 × Mm) → Option (Int32 × Mm)) (x4 : Int32 × Mm) =>
 if (100 : Int32) < x4.1 then
 (some ((-1 : Int32), x4.2))
 else
 (bnd (R_tries x4.2) fun M5 =>
 bnd (R_sets p2 (0 : Int32) x4.1 M5) fun M6 =>
 bnd (R_goesOnFor p1 M6) fun M7 =>
 bnd (R_ofEvents p2 (1 : Int32) M7) fun r8 =>
 if r8 < p3 then
 (lett (x4.1 + (1 : Int32)) fun v9 =>
 rec28 (v9, M7))
 else
 (some (x4.1, M7)))) 1000000 (v3, M))
 else
 (some ((-1 : Int32), M))))
abbrev rmR_least : Room := { frames := 8, cells := 0, slots := 0, locals := 181 }
set_option maxHeartbeats 4000000 in
set_option maxRecDepth 100000 in
theorem tR_least (E : Cx) (hE : CxOk E cX12_least RX12 shR (some .int) rmR_least 5) (p1 : Int32) (p2 : Int32) (p3 : Int32)  (M : Mm) : Ok E 0 [(0, .ref (E.Y.ad 0)), (1, .int p1), (2, .int p2), (3, .int p3)] [] M (R_least p1 p2 p3 M) (KI E) := by
  unfold R_least
  refine ok_iload_n hE 1 rfl dX12_least_0 ?_
  refine ok_iconst hE (1 : Int32) ki_1 dX12_least_1 ?_
  refine ok_bipush hE (100 : Int32) kb_100 dX12_least_2 ?_
  refine ok_csIp hE rmR_isIn [.int p1, .int (1 : Int32), .int (100 : Int32)] [] rfl ca_X12_262 (fun _ hx => mR_isIn hE.sys _ _ _ _ _ hx) ⟨rfl, rfl, rfl, rfl⟩ rfl rfl dX12_least_4 (fun r1 => ?_)
  refine ok_if_eq hE 23 rfl dX12_least_7 ?_ ?_
  · refine ok_iconst hE (-1 : Int32) ki_m1 dX12_least_23 ?_
    exact ok_ireturn hE dX12_least_24
  · refine ok_aload_n hE 0 rfl dX12_least_10 ?_
    refine ok_iload_n hE 2 rfl dX12_least_11 ?_
    refine ok_cvIp hE rmR_isProcess [.int p2] [] rfl ca_X12_405 shR_0 rfl (fun _ hx => mR_isProcess hE.sys _ _ _ hx) ⟨rfl, rfl, rfl, rfl⟩ rfl rfl dX12_least_12 (fun r2 => ?_)
    refine ok_if_eq hE 23 rfl dX12_least_15 ?_ ?_
    · refine ok_iconst hE (-1 : Int32) ki_m1 dX12_least_23 ?_
      exact ok_ireturn hE dX12_least_24
    · refine ok_iload_n hE 3 rfl dX12_least_18 ?_
      refine ok_iconst hE (1 : Int32) ki_1 dX12_least_19 ?_
      refine ok_icmp_ge hE 25 rfl dX12_least_20 ?_ ?_
      · refine ok_iconst hE (1 : Int32) ki_1 dX12_least_25 ?_
        refine ok_istore hE (fun v3 => [(4, .int v3), (0, .ref (E.Y.ad 0)), (1, .int p1), (2, .int p2), (3, .int p3)]) (fun _ => rfl) rfl dX12_least_26 (fun v3 => ?_)
        refine ok_sub [1, 2, 3, 4, 0] rfl (ok_loop (σ := Int32 × Mm) 28 (fun x4 => [(0, .ref (E.Y.ad 0)), (1, .int p1), (2, .int p2), (3, .int p3), (4, .int x4.1)]) (fun x4 => x4.2) (fun rec28 hrec28 x4 => ?_) 1000000 (v3, M))
        refine ok_iload hE 4 rfl dX12_least_28 ?_
        refine ok_bipush hE (100 : Int32) kb_100 dX12_least_30 ?_
        refine ok_icmp_gt hE 71 rfl dX12_least_32 ?_ ?_
        · refine ok_iconst hE (-1 : Int32) ki_m1 dX12_least_71 ?_
          exact ok_ireturn hE dX12_least_72
        · refine ok_aload_n hE 0 rfl dX12_least_35 ?_
          refine ok_cvV hE rmR_tries [] [] rfl ca_X12_425 shR_0 rfl (fun _ hx => mR_tries hE.sys  _ _ hx) ⟨rfl, rfl, rfl, rfl⟩ rfl rfl dX12_least_36 (fun M5 => ?_)
          refine ok_aload_n hE 0 rfl dX12_least_39 ?_
          refine ok_iload_n hE 2 rfl dX12_least_40 ?_
          refine ok_iconst hE (0 : Int32) ki_0 dX12_least_41 ?_
          refine ok_iload hE 4 rfl dX12_least_42 ?_
          refine ok_cvV hE rmR_sets [.int p2, .int (0 : Int32), .int x4.1] [] rfl ca_X12_314 shR_0 rfl (fun _ hx => mR_sets hE.sys _ _ _ _ _ hx) ⟨rfl, rfl, rfl, rfl⟩ rfl rfl dX12_least_44 (fun M6 => ?_)
          refine ok_aload_n hE 0 rfl dX12_least_47 ?_
          refine ok_iload_n hE 1 rfl dX12_least_48 ?_
          refine ok_cvV hE rmR_goesOnFor [.int p1] [] rfl ca_X12_428 shR_0 rfl (fun _ hx => mR_goesOnFor hE.sys _ _ _ hx) ⟨rfl, rfl, rfl, rfl⟩ rfl rfl dX12_least_49 (fun M7 => ?_)
          refine ok_aload_n hE 0 rfl dX12_least_52 ?_
          refine ok_iload_n hE 2 rfl dX12_least_53 ?_
          refine ok_iconst hE (1 : Int32) ki_1 dX12_least_54 ?_
          refine ok_cvIp hE rmR_ofEvents [.int p2, .int (1 : Int32)] [] rfl ca_X12_431 shR_0 rfl (fun _ hx => mR_ofEvents hE.sys _ _ _ _ hx) ⟨rfl, rfl, rfl, rfl⟩ rfl rfl dX12_least_55 (fun r8 => ?_)
          refine ok_iload_n hE 3 rfl dX12_least_58 ?_
          refine ok_icmp_lt hE 65 rfl dX12_least_59 ?_ ?_
          · refine ok_iinc hE 4 (x4.1 + (1 : Int32)) (by rw [ko_1]) (fun v9 => [(4, .int v9), (0, .ref (E.Y.ad 0)), (1, .int p1), (2, .int p2), (3, .int p3)]) rfl (fun _ => rfl) rfl dX12_least_65 (fun v9 => ?_)
            refine ok_goto hE 28 rfl dX12_least_68 ?_
            exact ok_sub [1, 2, 3, 4, 0] rfl (hrec28 (v9, M7))
          · refine ok_iload hE 4 rfl dX12_least_62 ?_
            exact ok_ireturn hE dX12_least_64
      · refine ok_iconst hE (-1 : Int32) ki_m1 dX12_least_23 ?_
        exact ok_ireturn hE dX12_least_24
theorem mR_least {l : Launch} {Y : Sys} {t : Nat} (hY : SysOk Y t shR) (p1 : Int32) (p2 : Int32) (p3 : Int32)  (M : Mm) (r : (Int32 × Mm)) (h : R_least p1 p2 p3 M = some r) : Cm l Y t yX12_least (WS yX12_least cX12_least 5 (some .int)) rmR_least [.ref (Y.ad 0), .int p1, .int p2, .int p3] M (enI r) := by
  refine cm_of (own := RX12) hY rfl rfl (Nat.le_of_ble_eq_true rfl) (fun E hE e1 e2 e3 e4 => ?_)
  subst e1
  exact tR_least E hE p1 p2 p3  M r h e4.symm
def R_expiry (p1 : Int32) (p2 : Int32) (M : Mm) : Option (Int32 × Mm) :=
 if (gI M 0 0) = 0 then
 (some ((-1 : Int32), M))
 else
 (bnd (R_isIn p2 (0 : Int32) (3 : Int32) M) fun r1 =>
 if r1 = 0 then
 (some ((-1 : Int32), M))
 else
 (if 0 ≤ p1 then
 (bnd (R_tries M) fun M2 =>
 bnd (R_goesOnFor (400 : Int32) M2) fun M3 =>
 if (gI M3 0 58) ≤ p1 then
 (some ((-1 : Int32), M3))
 else
 (ald (((4 : Int32) * p1) + p2) 1604 (some ((gI M3 21 (ix (((4 : Int32) * p1) + p2))), M3))))
 else
 (some ((-1 : Int32), M))))
abbrev rmR_expiry : Room := { frames := 8, cells := 0, slots := 0, locals := 181 }
set_option maxHeartbeats 4000000 in
set_option maxRecDepth 100000 in
theorem tR_expiry (E : Cx) (hE : CxOk E cX12_expiry RX12 shR (some .int) rmR_expiry 3) (p1 : Int32) (p2 : Int32)  (M : Mm) : Ok E 0 [(0, .ref (E.Y.ad 0)), (1, .int p1), (2, .int p2)] [] M (R_expiry p1 p2 M) (KI E) := by
  unfold R_expiry
  refine ok_aload_n hE 0 rfl dX12_expiry_0 ?_
  refine ok_getI hE fl_X12_7 shR_0 rfl dX12_expiry_1 ?_
  refine ok_if_eq hE 20 rfl dX12_expiry_4 ?_ ?_
  · refine ok_iconst hE (-1 : Int32) ki_m1 dX12_expiry_20 ?_
    exact ok_ireturn hE dX12_expiry_21
  · refine ok_iload_n hE 2 rfl dX12_expiry_7 ?_
    refine ok_iconst hE (0 : Int32) ki_0 dX12_expiry_8 ?_
    refine ok_iconst hE (3 : Int32) ki_3 dX12_expiry_9 ?_
    refine ok_csIp hE rmR_isIn [.int p2, .int (0 : Int32), .int (3 : Int32)] [] rfl ca_X12_262 (fun _ hx => mR_isIn hE.sys _ _ _ _ _ hx) ⟨rfl, rfl, rfl, rfl⟩ rfl rfl dX12_expiry_10 (fun r1 => ?_)
    refine ok_if_eq hE 20 rfl dX12_expiry_13 ?_ ?_
    · refine ok_iconst hE (-1 : Int32) ki_m1 dX12_expiry_20 ?_
      exact ok_ireturn hE dX12_expiry_21
    · refine ok_iload_n hE 1 rfl dX12_expiry_16 ?_
      refine ok_if_ge hE 22 rfl dX12_expiry_17 ?_ ?_
      · refine ok_aload_n hE 0 rfl dX12_expiry_22 ?_
        refine ok_cvV hE rmR_tries [] [] rfl ca_X12_425 shR_0 rfl (fun _ hx => mR_tries hE.sys  _ _ hx) ⟨rfl, rfl, rfl, rfl⟩ rfl rfl dX12_expiry_23 (fun M2 => ?_)
        refine ok_aload_n hE 0 rfl dX12_expiry_26 ?_
        refine ok_sipush hE (400 : Int32) ks_400 dX12_expiry_27 ?_
        refine ok_cvV hE rmR_goesOnFor [.int (400 : Int32)] [] rfl ca_X12_428 shR_0 rfl (fun _ hx => mR_goesOnFor hE.sys _ _ _ hx) ⟨rfl, rfl, rfl, rfl⟩ rfl rfl dX12_expiry_30 (fun M3 => ?_)
        refine ok_iload_n hE 1 rfl dX12_expiry_33 ?_
        refine ok_aload_n hE 0 rfl dX12_expiry_34 ?_
        refine ok_getI hE fl_X12_187 shR_0 rfl dX12_expiry_35 ?_
        refine ok_icmp_ge hE 54 rfl dX12_expiry_38 ?_ ?_
        · refine ok_iconst hE (-1 : Int32) ki_m1 dX12_expiry_54 ?_
          exact ok_ireturn hE dX12_expiry_55
        · refine ok_aload_n hE 0 rfl dX12_expiry_41 ?_
          refine ok_getA hE fl_X12_193 shR_0 rfl dX12_expiry_42 ?_
          refine ok_iconst hE (4 : Int32) ki_4 dX12_expiry_45 ?_
          refine ok_iload_n hE 1 rfl dX12_expiry_46 ?_
          refine ok_imul hE dX12_expiry_47 ?_
          refine ok_iload_n hE 2 rfl dX12_expiry_48 ?_
          refine ok_iadd hE dX12_expiry_49 ?_
          refine ok_iaload hE shR_21 dX12_expiry_50 ?_
          refine ok_goto hE 55 rfl dX12_expiry_51 ?_
          exact ok_ireturn hE dX12_expiry_55
      · refine ok_iconst hE (-1 : Int32) ki_m1 dX12_expiry_20 ?_
        exact ok_ireturn hE dX12_expiry_21
theorem mR_expiry {l : Launch} {Y : Sys} {t : Nat} (hY : SysOk Y t shR) (p1 : Int32) (p2 : Int32)  (M : Mm) (r : (Int32 × Mm)) (h : R_expiry p1 p2 M = some r) : Cm l Y t yX12_expiry (WS yX12_expiry cX12_expiry 3 (some .int)) rmR_expiry [.ref (Y.ad 0), .int p1, .int p2] M (enI r) := by
  refine cm_of (own := RX12) hY rfl rfl (Nat.le_of_ble_eq_true rfl) (fun E hE e1 e2 e3 e4 => ?_)
  subst e1
  exact tR_expiry E hE p1 p2  M r h e4.symm
def R_worst (p1 : Int32) (p2 : Int32) (M : Mm) : Option (Int32 × Mm) :=
 if (gI M 0 0) = 0 then
 (some ((-1 : Int32), M))
 else
 (bnd (R_isIn p1 (1 : Int32) (400 : Int32) M) fun r1 =>
 if r1 = 0 then
 (some ((-1 : Int32), M))
 else
 (bnd (R_isIn p2 (0 : Int32) (1 : Int32) M) fun r2 =>
 if r2 = 0 then
 (some ((-1 : Int32), M))
 else
 (bnd (R_tries M) fun M3 =>
 bnd (R_goesOnFor p1 M3) fun M4 =>
 if (gI M4 0 57) = 0 then
 (some ((-1 : Int32), M4))
 else
 (bnd (R_ofEvents (-1 : Int32) (3 : Int32) M4) fun r5 =>
 lett r5 fun v6 =>
 if p2 = (1 : Int32) then
 (some (v6, M4))
 else
 (lett (6 : Int32) fun v7 =>
 lett (0 : Int32) fun v8 =>
 loopR (fun (rec68 : (Int32 × Int32) → Option (Int32 × Mm)) (x9 : Int32 × Int32) =>
 if (gI M4 0 57) ≤ x9.2 then
 (some (x9.1, M4))
 else
 (ald (((4 : Int32) * x9.2) + (2 : Int32)) 1604 (lett (fun (w_9 : Int32) =>
 lett w_9 fun v11 =>
 lett (x9.2 + (1 : Int32)) fun v12 =>
 rec68 (v11, v12)) fun j113 =>
 if (gI M4 20 (ix (((4 : Int32) * x9.2) + (2 : Int32)))) = v6 then
 (ald (((4 : Int32) * x9.2) + (1 : Int32)) 1604 (bnd (R_lesser x9.1 (gI M4 20 (ix (((4 : Int32) * x9.2) + (1 : Int32)))) M4) fun r13 =>
 j113 r13))
 else
 (j113 x9.1)))) 1000000 (v7, v8))))))
abbrev rmR_worst : Room := { frames := 8, cells := 0, slots := 0, locals := 181 }
set_option maxHeartbeats 4000000 in
set_option maxRecDepth 100000 in
theorem tR_worst (E : Cx) (hE : CxOk E cX12_worst RX12 shR (some .int) rmR_worst 6) (p1 : Int32) (p2 : Int32)  (M : Mm) : Ok E 0 [(0, .ref (E.Y.ad 0)), (1, .int p1), (2, .int p2)] [] M (R_worst p1 p2 M) (KI E) := by
  unfold R_worst
  refine ok_aload_n hE 0 rfl dX12_worst_0 ?_
  refine ok_getI hE fl_X12_7 shR_0 rfl dX12_worst_1 ?_
  refine ok_if_eq hE 27 rfl dX12_worst_4 ?_ ?_
  · refine ok_iconst hE (-1 : Int32) ki_m1 dX12_worst_27 ?_
    exact ok_ireturn hE dX12_worst_28
  · refine ok_iload_n hE 1 rfl dX12_worst_7 ?_
    refine ok_iconst hE (1 : Int32) ki_1 dX12_worst_8 ?_
    refine ok_sipush hE (400 : Int32) ks_400 dX12_worst_9 ?_
    refine ok_csIp hE rmR_isIn [.int p1, .int (1 : Int32), .int (400 : Int32)] [] rfl ca_X12_262 (fun _ hx => mR_isIn hE.sys _ _ _ _ _ hx) ⟨rfl, rfl, rfl, rfl⟩ rfl rfl dX12_worst_12 (fun r1 => ?_)
    refine ok_if_eq hE 27 rfl dX12_worst_15 ?_ ?_
    · refine ok_iconst hE (-1 : Int32) ki_m1 dX12_worst_27 ?_
      exact ok_ireturn hE dX12_worst_28
    · refine ok_iload_n hE 2 rfl dX12_worst_18 ?_
      refine ok_iconst hE (0 : Int32) ki_0 dX12_worst_19 ?_
      refine ok_iconst hE (1 : Int32) ki_1 dX12_worst_20 ?_
      refine ok_csIp hE rmR_isIn [.int p2, .int (0 : Int32), .int (1 : Int32)] [] rfl ca_X12_262 (fun _ hx => mR_isIn hE.sys _ _ _ _ _ hx) ⟨rfl, rfl, rfl, rfl⟩ rfl rfl dX12_worst_21 (fun r2 => ?_)
      refine ok_if_ne hE 29 rfl dX12_worst_24 ?_ ?_
      · refine ok_aload_n hE 0 rfl dX12_worst_29 ?_
        refine ok_cvV hE rmR_tries [] [] rfl ca_X12_425 shR_0 rfl (fun _ hx => mR_tries hE.sys  _ _ hx) ⟨rfl, rfl, rfl, rfl⟩ rfl rfl dX12_worst_30 (fun M3 => ?_)
        refine ok_aload_n hE 0 rfl dX12_worst_33 ?_
        refine ok_iload_n hE 1 rfl dX12_worst_34 ?_
        refine ok_cvV hE rmR_goesOnFor [.int p1] [] rfl ca_X12_428 shR_0 rfl (fun _ hx => mR_goesOnFor hE.sys _ _ _ hx) ⟨rfl, rfl, rfl, rfl⟩ rfl rfl dX12_worst_35 (fun M4 => ?_)
        refine ok_aload_n hE 0 rfl dX12_worst_38 ?_
        refine ok_getI hE fl_X12_184 shR_0 rfl dX12_worst_39 ?_
        refine ok_if_ne hE 47 rfl dX12_worst_42 ?_ ?_
        · refine ok_aload_n hE 0 rfl dX12_worst_47 ?_
          refine ok_iconst hE (-1 : Int32) ki_m1 dX12_worst_48 ?_
          refine ok_iconst hE (3 : Int32) ki_3 dX12_worst_49 ?_
          refine ok_cvIp hE rmR_ofEvents [.int (-1 : Int32), .int (3 : Int32)] [] rfl ca_X12_431 shR_0 rfl (fun _ hx => mR_ofEvents hE.sys _ _ _ _ hx) ⟨rfl, rfl, rfl, rfl⟩ rfl rfl dX12_worst_50 (fun r5 => ?_)
          refine ok_istore_n hE (fun v6 => [(3, .int v6), (0, .ref (E.Y.ad 0)), (1, .int p1), (2, .int p2)]) (fun _ => rfl) rfl dX12_worst_53 (fun v6 => ?_)
          refine ok_iload_n hE 3 rfl dX12_worst_54 ?_
          refine ok_iconst hE (1 : Int32) ki_1 dX12_worst_55 ?_
          refine ok_icmp_ne hE 61 rfl dX12_worst_56 ?_ ?_
          · refine ok_bipush hE (6 : Int32) kb_6 dX12_worst_61 ?_
            refine ok_istore hE (fun v7 => [(4, .int v7), (3, .int v6), (0, .ref (E.Y.ad 0)), (1, .int p1), (2, .int p2)]) (fun _ => rfl) rfl dX12_worst_63 (fun v7 => ?_)
            refine ok_iconst hE (0 : Int32) ki_0 dX12_worst_65 ?_
            refine ok_istore hE (fun v8 => [(5, .int v8), (4, .int v7), (3, .int v6), (0, .ref (E.Y.ad 0)), (1, .int p1), (2, .int p2)]) (fun _ => rfl) rfl dX12_worst_66 (fun v8 => ?_)
            refine ok_sub [3, 2, 1, 0] rfl (ok_loop (σ := Int32 × Int32) 68 (fun x9 => [(0, .ref (E.Y.ad 0)), (3, .int v6), (4, .int x9.1), (5, .int x9.2)]) (fun x9 => M4) (fun rec68 hrec68 x9 => ?_) 1000000 (v7, v8))
            refine ok_iload hE 3 rfl dX12_worst_68 ?_
            refine ok_aload_n hE 0 rfl dX12_worst_70 ?_
            refine ok_getI hE fl_X12_184 shR_0 rfl dX12_worst_71 ?_
            refine ok_icmp_ge hE 121 rfl dX12_worst_74 ?_ ?_
            · refine ok_iload hE 2 rfl dX12_worst_121 ?_
              exact ok_ireturn hE dX12_worst_123
            · refine ok_aload_n hE 0 rfl dX12_worst_77 ?_
              refine ok_getA hE fl_X12_190 shR_0 rfl dX12_worst_78 ?_
              refine ok_iconst hE (4 : Int32) ki_4 dX12_worst_81 ?_
              refine ok_iload hE 3 rfl dX12_worst_82 ?_
              refine ok_imul hE dX12_worst_84 ?_
              refine ok_iconst hE (2 : Int32) ki_2 dX12_worst_85 ?_
              refine ok_iadd hE dX12_worst_86 ?_
              refine ok_iaload hE shR_20 dX12_worst_87 ?_
              refine ok_iload_n hE 1 rfl dX12_worst_88 ?_
              refine ok_fun (fun j => ∀ (w_9 : Int32), Ok E 113 [(0, .ref (E.Y.ad 0)), (3, .int v6), (5, .int x9.2)] [.int w_9] M4 (j w_9) (KI E)) (fun w_9 => ?_) (fun j113 hj113 => ?_)
              · refine ok_istore hE (fun v11 => [(4, .int v11), (0, .ref (E.Y.ad 0)), (3, .int v6), (5, .int x9.2)]) (fun _ => rfl) rfl dX12_worst_113 (fun v11 => ?_)
                refine ok_iinc hE 3 (x9.2 + (1 : Int32)) (by rw [ko_1]) (fun v12 => [(5, .int v12), (4, .int v11), (0, .ref (E.Y.ad 0)), (3, .int v6)]) rfl (fun _ => rfl) rfl dX12_worst_115 (fun v12 => ?_)
                refine ok_goto hE 68 rfl dX12_worst_118 ?_
                exact ok_sub [2, 3, 1, 0] rfl (hrec68 (v11, v12))
              refine ok_icmp_ne hE 111 rfl dX12_worst_89 ?_ ?_
              · refine ok_iload hE 2 rfl dX12_worst_111 ?_
                exact ok_sub [0, 1, 3] rfl (hj113 x9.1)
              · refine ok_iload hE 2 rfl dX12_worst_92 ?_
                refine ok_aload_n hE 0 rfl dX12_worst_94 ?_
                refine ok_getA hE fl_X12_190 shR_0 rfl dX12_worst_95 ?_
                refine ok_iconst hE (4 : Int32) ki_4 dX12_worst_98 ?_
                refine ok_iload hE 3 rfl dX12_worst_99 ?_
                refine ok_imul hE dX12_worst_101 ?_
                refine ok_iconst hE (1 : Int32) ki_1 dX12_worst_102 ?_
                refine ok_iadd hE dX12_worst_103 ?_
                refine ok_iaload hE shR_20 dX12_worst_104 ?_
                refine ok_csIp hE rmR_lesser [.int x9.1, .int (gI M4 20 (ix (((4 : Int32) * x9.2) + (1 : Int32))))] [] rfl ca_X12_276 (fun _ hx => mR_lesser hE.sys _ _ _ _ hx) ⟨rfl, rfl, rfl, rfl⟩ rfl rfl dX12_worst_105 (fun r13 => ?_)
                refine ok_goto hE 113 rfl dX12_worst_108 ?_
                exact ok_sub [0, 1, 3] rfl (hj113 r13)
          · refine ok_iload_n hE 0 rfl dX12_worst_59 ?_
            exact ok_ireturn hE dX12_worst_60
        · refine ok_iconst hE (-1 : Int32) ki_m1 dX12_worst_45 ?_
          exact ok_ireturn hE dX12_worst_46
      · refine ok_iconst hE (-1 : Int32) ki_m1 dX12_worst_27 ?_
        exact ok_ireturn hE dX12_worst_28
theorem mR_worst {l : Launch} {Y : Sys} {t : Nat} (hY : SysOk Y t shR) (p1 : Int32) (p2 : Int32)  (M : Mm) (r : (Int32 × Mm)) (h : R_worst p1 p2 M = some r) : Cm l Y t yX12_worst (WS yX12_worst cX12_worst 6 (some .int)) rmR_worst [.ref (Y.ad 0), .int p1, .int p2] M (enI r) := by
  refine cm_of (own := RX12) hY rfl rfl (Nat.le_of_ble_eq_true rfl) (fun E hE e1 e2 e3 e4 => ?_)
  subst e1
  exact tR_worst E hE p1 p2  M r h e4.symm
def R_slicing (p1 : Int32) (p2 : Int32) (M : Mm) : Option (Int32 × Mm) :=
 bnd (R_isIn p1 (1 : Int32) (100 : Int32) M) fun r1 =>
 if r1 = 0 then
 (some ((-1 : Int32), M))
 else
 (if (gI M 0 1) = 0 then
 (some ((-1 : Int32), M))
 else
 (bnd (R_isIn p2 (0 : Int32) (1 : Int32) M) fun r2 =>
 if r2 = 0 then
 (some ((-1 : Int32), M))
 else
 (lett (-1 : Int32) fun v3 =>
 lett (1000000000 : Int32) fun v4 =>
 lett (1 : Int32) fun v5 =>
 lett (fun (u_5 : Int32) (u_6 : Int32) (M_7 : Mm) =>
 if p2 = 0 then
 (some (u_5, M_7))
 else
 (some (u_6, M_7))) fun j94 =>
 loopR (fun (rec38 : (Int32 × Int32 × Int32 × Mm) → Option (Int32 × Mm)) (x9 : Int32 × Int32 × Int32 × Mm) =>
 if (200 : Int32) < x9.2.2.1 then
 (j94 x9.1 x9.2.1 x9.2.2.2)
 else
 (bnd (R_tries x9.2.2.2) fun M10 =>
 bnd (R_puts (7 : Int32) x9.2.2.1 M10) fun M11 =>
 bnd (R_goesOnFor p1 M11) fun M12 =>
 bnd (R_ofEvents (-1 : Int32) (3 : Int32) M12) fun r13 =>
 lett r13 fun v14 =>
 lett (fun (u_14 : Int32) (u_15 : Int32) =>
 lett (x9.2.2.1 + (1 : Int32)) fun v17 =>
 rec38 (u_14, u_15, v17, M12)) fun j88 =>
 if v14 ≤ x9.2.1 then
 (lett x9.2.2.1 fun v18 =>
 lett v14 fun v19 =>
 j88 v18 v19)
 else
 (j88 x9.1 x9.2.1))) 1000000 (v3, v4, v5, M))))
abbrev rmR_slicing : Room := { frames := 8, cells := 0, slots := 0, locals := 181 }
set_option maxHeartbeats 4000000 in
set_option maxRecDepth 100000 in
theorem tR_slicing (E : Cx) (hE : CxOk E cX12_slicing RX12 shR (some .int) rmR_slicing 7) (p1 : Int32) (p2 : Int32)  (M : Mm) : Ok E 0 [(0, .ref (E.Y.ad 0)), (1, .int p1), (2, .int p2)] [] M (R_slicing p1 p2 M) (KI E) := by
  unfold R_slicing
  refine ok_iload_n hE 1 rfl dX12_slicing_0 ?_
  refine ok_iconst hE (1 : Int32) ki_1 dX12_slicing_1 ?_
  refine ok_bipush hE (100 : Int32) kb_100 dX12_slicing_2 ?_
  refine ok_csIp hE rmR_isIn [.int p1, .int (1 : Int32), .int (100 : Int32)] [] rfl ca_X12_262 (fun _ hx => mR_isIn hE.sys _ _ _ _ _ hx) ⟨rfl, rfl, rfl, rfl⟩ rfl rfl dX12_slicing_4 (fun r1 => ?_)
  refine ok_if_eq hE 26 rfl dX12_slicing_7 ?_ ?_
  · refine ok_iconst hE (-1 : Int32) ki_m1 dX12_slicing_26 ?_
    exact ok_ireturn hE dX12_slicing_27
  · refine ok_aload_n hE 0 rfl dX12_slicing_10 ?_
    refine ok_getI hE fl_X12_13 shR_0 rfl dX12_slicing_11 ?_
    refine ok_if_eq hE 26 rfl dX12_slicing_14 ?_ ?_
    · refine ok_iconst hE (-1 : Int32) ki_m1 dX12_slicing_26 ?_
      exact ok_ireturn hE dX12_slicing_27
    · refine ok_iload_n hE 2 rfl dX12_slicing_17 ?_
      refine ok_iconst hE (0 : Int32) ki_0 dX12_slicing_18 ?_
      refine ok_iconst hE (1 : Int32) ki_1 dX12_slicing_19 ?_
      refine ok_csIp hE rmR_isIn [.int p2, .int (0 : Int32), .int (1 : Int32)] [] rfl ca_X12_262 (fun _ hx => mR_isIn hE.sys _ _ _ _ _ hx) ⟨rfl, rfl, rfl, rfl⟩ rfl rfl dX12_slicing_20 (fun r2 => ?_)
      refine ok_if_ne hE 28 rfl dX12_slicing_23 ?_ ?_
      · refine ok_iconst hE (-1 : Int32) ki_m1 dX12_slicing_28 ?_
        refine ok_istore_n hE (fun v3 => [(3, .int v3), (0, .ref (E.Y.ad 0)), (1, .int p1), (2, .int p2)]) (fun _ => rfl) rfl dX12_slicing_29 (fun v3 => ?_)
        refine ok_ldcw hE ct_X12_434 dX12_slicing_30 ?_
        refine ok_istore hE (fun v4 => [(4, .int v4), (3, .int v3), (0, .ref (E.Y.ad 0)), (1, .int p1), (2, .int p2)]) (fun _ => rfl) rfl dX12_slicing_33 (fun v4 => ?_)
        refine ok_iconst hE (1 : Int32) ki_1 dX12_slicing_35 ?_
        refine ok_istore hE (fun v5 => [(5, .int v5), (4, .int v4), (3, .int v3), (0, .ref (E.Y.ad 0)), (1, .int p1), (2, .int p2)]) (fun _ => rfl) rfl dX12_slicing_36 (fun v5 => ?_)
        refine ok_fun (fun j => ∀ (u_5 : Int32) (u_6 : Int32) (M_7 : Mm), Ok E 94 [(2, .int p2), (3, .int u_5), (4, .int u_6)] [] M_7 (j u_5 u_6 M_7) (KI E)) (fun u_5 u_6 M_7 => ?_) (fun j94 hj94 => ?_)
        · refine ok_iload_n hE 0 rfl dX12_slicing_94 ?_
          refine ok_if_ne hE 102 rfl dX12_slicing_95 ?_ ?_
          · refine ok_iload hE 2 rfl dX12_slicing_102 ?_
            exact ok_ireturn hE dX12_slicing_104
          · refine ok_iload_n hE 1 rfl dX12_slicing_98 ?_
            refine ok_goto hE 104 rfl dX12_slicing_99 ?_
            exact ok_ireturn hE dX12_slicing_104
        refine ok_sub [3, 4, 5, 2, 1, 0] rfl (ok_loop (σ := Int32 × Int32 × Int32 × Mm) 38 (fun x9 => [(0, .ref (E.Y.ad 0)), (1, .int p1), (2, .int p2), (3, .int x9.1), (4, .int x9.2.1), (5, .int x9.2.2.1)]) (fun x9 => x9.2.2.2) (fun rec38 hrec38 x9 => ?_) 1000000 (v3, v4, v5, M))
        refine ok_iload hE 5 rfl dX12_slicing_38 ?_
        refine ok_sipush hE (200 : Int32) ks_200 dX12_slicing_40 ?_
        refine ok_icmp_gt hE 94 rfl dX12_slicing_43 ?_ ?_
        · exact ok_sub [2, 3, 4] rfl (hj94 x9.1 x9.2.1 x9.2.2.2)
        · refine ok_aload_n hE 0 rfl dX12_slicing_46 ?_
          refine ok_cvV hE rmR_tries [] [] rfl ca_X12_425 shR_0 rfl (fun _ hx => mR_tries hE.sys  _ _ hx) ⟨rfl, rfl, rfl, rfl⟩ rfl rfl dX12_slicing_47 (fun M10 => ?_)
          refine ok_aload_n hE 0 rfl dX12_slicing_50 ?_
          refine ok_bipush hE (7 : Int32) kb_7 dX12_slicing_51 ?_
          refine ok_iload hE 5 rfl dX12_slicing_53 ?_
          refine ok_cvV hE rmR_puts [.int (7 : Int32), .int x9.2.2.1] [] rfl ca_X12_318 shR_0 rfl (fun _ hx => mR_puts hE.sys _ _ _ _ hx) ⟨rfl, rfl, rfl, rfl⟩ rfl rfl dX12_slicing_55 (fun M11 => ?_)
          refine ok_aload_n hE 0 rfl dX12_slicing_58 ?_
          refine ok_iload_n hE 1 rfl dX12_slicing_59 ?_
          refine ok_cvV hE rmR_goesOnFor [.int p1] [] rfl ca_X12_428 shR_0 rfl (fun _ hx => mR_goesOnFor hE.sys _ _ _ hx) ⟨rfl, rfl, rfl, rfl⟩ rfl rfl dX12_slicing_60 (fun M12 => ?_)
          refine ok_aload_n hE 0 rfl dX12_slicing_63 ?_
          refine ok_iconst hE (-1 : Int32) ki_m1 dX12_slicing_64 ?_
          refine ok_iconst hE (3 : Int32) ki_3 dX12_slicing_65 ?_
          refine ok_cvIp hE rmR_ofEvents [.int (-1 : Int32), .int (3 : Int32)] [] rfl ca_X12_431 shR_0 rfl (fun _ hx => mR_ofEvents hE.sys _ _ _ _ hx) ⟨rfl, rfl, rfl, rfl⟩ rfl rfl dX12_slicing_66 (fun r13 => ?_)
          refine ok_istore hE (fun v14 => [(6, .int v14), (0, .ref (E.Y.ad 0)), (1, .int p1), (2, .int p2), (3, .int x9.1), (4, .int x9.2.1), (5, .int x9.2.2.1)]) (fun _ => rfl) rfl dX12_slicing_69 (fun v14 => ?_)
          refine ok_iload hE 0 rfl dX12_slicing_71 ?_
          refine ok_iload hE 5 rfl dX12_slicing_73 ?_
          refine ok_fun (fun j => ∀ (u_14 : Int32) (u_15 : Int32), Ok E 88 [(0, .ref (E.Y.ad 0)), (1, .int p1), (2, .int p2), (3, .int u_14), (4, .int u_15), (5, .int x9.2.2.1)] [] M12 (j u_14 u_15) (KI E)) (fun u_14 u_15 => ?_) (fun j88 hj88 => ?_)
          · refine ok_iinc hE 5 (x9.2.2.1 + (1 : Int32)) (by rw [ko_1]) (fun v17 => [(5, .int v17), (0, .ref (E.Y.ad 0)), (1, .int p1), (2, .int p2), (3, .int u_14), (4, .int u_15)]) rfl (fun _ => rfl) rfl dX12_slicing_88 (fun v17 => ?_)
            refine ok_goto hE 38 rfl dX12_slicing_91 ?_
            exact ok_sub [1, 2, 3, 4, 5, 0] rfl (hrec38 (u_14, u_15, v17, M12))
          refine ok_icmp_le hE 81 rfl dX12_slicing_75 ?_ ?_
          · refine ok_iload hE 6 rfl dX12_slicing_81 ?_
            refine ok_istore_n hE (fun v18 => [(3, .int v18), (6, .int v14), (0, .ref (E.Y.ad 0)), (1, .int p1), (2, .int p2), (4, .int x9.2.1), (5, .int x9.2.2.1)]) (fun _ => rfl) rfl dX12_slicing_83 (fun v18 => ?_)
            refine ok_iload hE 1 rfl dX12_slicing_84 ?_
            refine ok_istore hE (fun v19 => [(4, .int v19), (3, .int v18), (6, .int v14), (0, .ref (E.Y.ad 0)), (1, .int p1), (2, .int p2), (5, .int x9.2.2.1)]) (fun _ => rfl) rfl dX12_slicing_86 (fun v19 => ?_)
            exact ok_sub [3, 4, 5, 1, 0, 6] rfl (hj88 v18 v19)
          · refine ok_goto hE 88 rfl dX12_slicing_78 ?_
            exact ok_sub [1, 2, 3, 4, 5, 6] rfl (hj88 x9.1 x9.2.1)
      · refine ok_iconst hE (-1 : Int32) ki_m1 dX12_slicing_26 ?_
        exact ok_ireturn hE dX12_slicing_27
theorem mR_slicing {l : Launch} {Y : Sys} {t : Nat} (hY : SysOk Y t shR) (p1 : Int32) (p2 : Int32)  (M : Mm) (r : (Int32 × Mm)) (h : R_slicing p1 p2 M = some r) : Cm l Y t yX12_slicing (WS yX12_slicing cX12_slicing 7 (some .int)) rmR_slicing [.ref (Y.ad 0), .int p1, .int p2] M (enI r) := by
  refine cm_of (own := RX12) hY rfl rfl (Nat.le_of_ble_eq_true rfl) (fun E hE e1 e2 e3 e4 => ?_)
  subst e1
  exact tR_slicing E hE p1 p2  M r h e4.symm
def R_gain (p1 : Int32) (p2 : Int32) (M : Mm) : Option (Int32 × Mm) :=
 if (gI M 0 0) = 0 then
 (some ((-1 : Int32), M))
 else
 (bnd (R_isIn p1 (1 : Int32) (200 : Int32) M) fun r1 =>
 if r1 = 0 then
 (some ((-1 : Int32), M))
 else
 (bnd (R_isIn p2 (0 : Int32) (1 : Int32) M) fun r2 =>
 if r2 = 0 then
 (some ((-1 : Int32), M))
 else
 (bnd (R_tries M) fun M3 =>
 lett (fun (M_3 : Mm) =>
 bnd (R_goesOnFor p1 M_3) fun M5 =>
 bnd (R_ofEvents (-1 : Int32) (1 : Int32) M5) fun r6 =>
 some (r6, M5)) fun j45 =>
 if p2 = (1 : Int32) then
 (bnd (R_puts (6 : Int32) (0 : Int32) M3) fun M7 =>
 j45 M7)
 else
 (j45 M3))))
abbrev rmR_gain : Room := { frames := 8, cells := 0, slots := 0, locals := 181 }
set_option maxHeartbeats 4000000 in
set_option maxRecDepth 100000 in
theorem tR_gain (E : Cx) (hE : CxOk E cX12_gain RX12 shR (some .int) rmR_gain 3) (p1 : Int32) (p2 : Int32)  (M : Mm) : Ok E 0 [(0, .ref (E.Y.ad 0)), (1, .int p1), (2, .int p2)] [] M (R_gain p1 p2 M) (KI E) := by
  unfold R_gain
  refine ok_aload_n hE 0 rfl dX12_gain_0 ?_
  refine ok_getI hE fl_X12_7 shR_0 rfl dX12_gain_1 ?_
  refine ok_if_eq hE 27 rfl dX12_gain_4 ?_ ?_
  · refine ok_iconst hE (-1 : Int32) ki_m1 dX12_gain_27 ?_
    exact ok_ireturn hE dX12_gain_28
  · refine ok_iload_n hE 1 rfl dX12_gain_7 ?_
    refine ok_iconst hE (1 : Int32) ki_1 dX12_gain_8 ?_
    refine ok_sipush hE (200 : Int32) ks_200 dX12_gain_9 ?_
    refine ok_csIp hE rmR_isIn [.int p1, .int (1 : Int32), .int (200 : Int32)] [] rfl ca_X12_262 (fun _ hx => mR_isIn hE.sys _ _ _ _ _ hx) ⟨rfl, rfl, rfl, rfl⟩ rfl rfl dX12_gain_12 (fun r1 => ?_)
    refine ok_if_eq hE 27 rfl dX12_gain_15 ?_ ?_
    · refine ok_iconst hE (-1 : Int32) ki_m1 dX12_gain_27 ?_
      exact ok_ireturn hE dX12_gain_28
    · refine ok_iload_n hE 2 rfl dX12_gain_18 ?_
      refine ok_iconst hE (0 : Int32) ki_0 dX12_gain_19 ?_
      refine ok_iconst hE (1 : Int32) ki_1 dX12_gain_20 ?_
      refine ok_csIp hE rmR_isIn [.int p2, .int (0 : Int32), .int (1 : Int32)] [] rfl ca_X12_262 (fun _ hx => mR_isIn hE.sys _ _ _ _ _ hx) ⟨rfl, rfl, rfl, rfl⟩ rfl rfl dX12_gain_21 (fun r2 => ?_)
      refine ok_if_ne hE 29 rfl dX12_gain_24 ?_ ?_
      · refine ok_aload_n hE 0 rfl dX12_gain_29 ?_
        refine ok_cvV hE rmR_tries [] [] rfl ca_X12_425 shR_0 rfl (fun _ hx => mR_tries hE.sys  _ _ hx) ⟨rfl, rfl, rfl, rfl⟩ rfl rfl dX12_gain_30 (fun M3 => ?_)
        refine ok_iload_n hE 2 rfl dX12_gain_33 ?_
        refine ok_iconst hE (1 : Int32) ki_1 dX12_gain_34 ?_
        refine ok_fun (fun j => ∀ (M_3 : Mm), Ok E 45 [(0, .ref (E.Y.ad 0)), (1, .int p1)] [] M_3 (j M_3) (KI E)) (fun M_3 => ?_) (fun j45 hj45 => ?_)
        · refine ok_aload_n hE 0 rfl dX12_gain_45 ?_
          refine ok_iload_n hE 1 rfl dX12_gain_46 ?_
          refine ok_cvV hE rmR_goesOnFor [.int p1] [] rfl ca_X12_428 shR_0 rfl (fun _ hx => mR_goesOnFor hE.sys _ _ _ hx) ⟨rfl, rfl, rfl, rfl⟩ rfl rfl dX12_gain_47 (fun M5 => ?_)
          refine ok_aload_n hE 0 rfl dX12_gain_50 ?_
          refine ok_iconst hE (-1 : Int32) ki_m1 dX12_gain_51 ?_
          refine ok_iconst hE (1 : Int32) ki_1 dX12_gain_52 ?_
          refine ok_cvIp hE rmR_ofEvents [.int (-1 : Int32), .int (1 : Int32)] [] rfl ca_X12_431 shR_0 rfl (fun _ hx => mR_ofEvents hE.sys _ _ _ _ hx) ⟨rfl, rfl, rfl, rfl⟩ rfl rfl dX12_gain_53 (fun r6 => ?_)
          exact ok_ireturn hE dX12_gain_56
        refine ok_icmp_ne hE 45 rfl dX12_gain_35 ?_ ?_
        · exact ok_sub [0, 1] rfl (hj45 M3)
        · refine ok_aload_n hE 0 rfl dX12_gain_38 ?_
          refine ok_bipush hE (6 : Int32) kb_6 dX12_gain_39 ?_
          refine ok_iconst hE (0 : Int32) ki_0 dX12_gain_41 ?_
          refine ok_cvV hE rmR_puts [.int (6 : Int32), .int (0 : Int32)] [] rfl ca_X12_318 shR_0 rfl (fun _ hx => mR_puts hE.sys _ _ _ _ hx) ⟨rfl, rfl, rfl, rfl⟩ rfl rfl dX12_gain_42 (fun M7 => ?_)
          exact ok_sub [0, 1] rfl (hj45 M7)
      · refine ok_iconst hE (-1 : Int32) ki_m1 dX12_gain_27 ?_
        exact ok_ireturn hE dX12_gain_28
theorem mR_gain {l : Launch} {Y : Sys} {t : Nat} (hY : SysOk Y t shR) (p1 : Int32) (p2 : Int32)  (M : Mm) (r : (Int32 × Mm)) (h : R_gain p1 p2 M = some r) : Cm l Y t yX12_gain (WS yX12_gain cX12_gain 3 (some .int)) rmR_gain [.ref (Y.ad 0), .int p1, .int p2] M (enI r) := by
  refine cm_of (own := RX12) hY rfl rfl (Nat.le_of_ble_eq_true rfl) (fun E hE e1 e2 e3 e4 => ?_)
  subst e1
  exact tR_gain E hE p1 p2  M r h e4.symm
def R_apart (p1 : Int32) (M : Mm) : Option (Int32 × Mm) :=
 bnd (R_isIn p1 (1 : Int32) (400 : Int32) M) fun r1 =>
 if r1 = 0 then
 (some ((-1 : Int32), M))
 else
 (if (gI M 0 1) = 0 then
 (some ((-1 : Int32), M))
 else
 (bnd (R_tries M) fun M2 =>
 bnd (R_goesOnFor p1 M2) fun M3 =>
 lett FP.fconst0 fun v4 =>
 lett FP.fconst0 fun v5 =>
 lett (0 : Int32) fun v6 =>
 lett (fun (u_6 : UInt32) (u_7 : UInt32) =>
 grd ((FP.fsub u_6 u_7) &&& 0x7fffffff ≤ 0x7f800000) (bnd (R_floatToIntBits_5c35a (FP.fsub u_6 u_7) M3) fun r9 =>
 some (r9, M3))) fun j100 =>
 loopR (fun (rec36 : (UInt32 × UInt32 × Int32) → Option (Int32 × Mm)) (x10 : UInt32 × UInt32 × Int32) =>
 if (gI M3 0 1) ≤ x10.2.2 then
 (j100 x10.1 x10.2.1)
 else
 (bnd (R_ofEvents x10.2.2 (1 : Int32) M3) fun r11 =>
 bnd (R_of x10.2.2 (0 : Int32) M3) fun r12 =>
 grd ((FP.fdiv (FP.i2f r11) (FP.i2f r12)) &&& 0x7fffffff ≤ 0x7f800000) (lett (FP.fdiv (FP.i2f r11) (FP.i2f r12)) fun v13 =>
 lett (fun (u_13 : UInt32) =>
 lett (fun (u_14 : UInt32) =>
 lett (x10.2.2 + (1 : Int32)) fun v16 =>
 rec36 (u_13, u_14, v16)) fun j94 =>
 lett (fun (_ : Unit) =>
 lett v13 fun v17 =>
 j94 v17) fun j91 =>
 if x10.2.2 = 0 then
 (j91 ())
 else
 (if 0 ≤ (Op.cmpValue (FP.fcmp v13 x10.2.1) .g) then
 (j94 x10.2.1)
 else
 (j91 ()))) fun j79 =>
 lett (fun (_ : Unit) =>
 lett v13 fun v18 =>
 j79 v18) fun j76 =>
 if x10.2.2 = 0 then
 (j76 ())
 else
 (if (Op.cmpValue (FP.fcmp v13 x10.1) .l) ≤ 0 then
 (j79 x10.1)
 else
 (j76 ()))))) 1000000 (v4, v5, v6)))
abbrev rmR_apart : Room := { frames := 8, cells := 0, slots := 0, locals := 181 }
set_option maxHeartbeats 4000000 in
set_option maxRecDepth 100000 in
theorem tR_apart (E : Cx) (hE : CxOk E cX12_apart RX12 shR (some .int) rmR_apart 6) (p1 : Int32)  (M : Mm) : Ok E 0 [(0, .ref (E.Y.ad 0)), (1, .int p1)] [] M (R_apart p1 M) (KI E) := by
  unfold R_apart
  refine ok_iload_n hE 1 rfl dX12_apart_0 ?_
  refine ok_iconst hE (1 : Int32) ki_1 dX12_apart_1 ?_
  refine ok_sipush hE (400 : Int32) ks_400 dX12_apart_2 ?_
  refine ok_csIp hE rmR_isIn [.int p1, .int (1 : Int32), .int (400 : Int32)] [] rfl ca_X12_262 (fun _ hx => mR_isIn hE.sys _ _ _ _ _ hx) ⟨rfl, rfl, rfl, rfl⟩ rfl rfl dX12_apart_5 (fun r1 => ?_)
  refine ok_if_eq hE 18 rfl dX12_apart_8 ?_ ?_
  · refine ok_iconst hE (-1 : Int32) ki_m1 dX12_apart_18 ?_
    exact ok_ireturn hE dX12_apart_19
  · refine ok_aload_n hE 0 rfl dX12_apart_11 ?_
    refine ok_getI hE fl_X12_13 shR_0 rfl dX12_apart_12 ?_
    refine ok_if_ne hE 20 rfl dX12_apart_15 ?_ ?_
    · refine ok_aload_n hE 0 rfl dX12_apart_20 ?_
      refine ok_cvV hE rmR_tries [] [] rfl ca_X12_425 shR_0 rfl (fun _ hx => mR_tries hE.sys  _ _ hx) ⟨rfl, rfl, rfl, rfl⟩ rfl rfl dX12_apart_21 (fun M2 => ?_)
      refine ok_aload_n hE 0 rfl dX12_apart_24 ?_
      refine ok_iload_n hE 1 rfl dX12_apart_25 ?_
      refine ok_cvV hE rmR_goesOnFor [.int p1] [] rfl ca_X12_428 shR_0 rfl (fun _ hx => mR_goesOnFor hE.sys _ _ _ hx) ⟨rfl, rfl, rfl, rfl⟩ rfl rfl dX12_apart_26 (fun M3 => ?_)
      refine ok_fconst0 hE dX12_apart_29 ?_
      refine ok_fstore_n hE (fun v4 => [(2, .float v4), (0, .ref (E.Y.ad 0)), (1, .int p1)]) (fun _ => rfl) rfl dX12_apart_30 (fun v4 => ?_)
      refine ok_fconst0 hE dX12_apart_31 ?_
      refine ok_fstore_n hE (fun v5 => [(3, .float v5), (2, .float v4), (0, .ref (E.Y.ad 0)), (1, .int p1)]) (fun _ => rfl) rfl dX12_apart_32 (fun v5 => ?_)
      refine ok_iconst hE (0 : Int32) ki_0 dX12_apart_33 ?_
      refine ok_istore hE (fun v6 => [(4, .int v6), (3, .float v5), (2, .float v4), (0, .ref (E.Y.ad 0)), (1, .int p1)]) (fun _ => rfl) rfl dX12_apart_34 (fun v6 => ?_)
      refine ok_fun (fun j => ∀ (u_6 : UInt32) (u_7 : UInt32), Ok E 100 [(2, .float u_6), (3, .float u_7)] [] M3 (j u_6 u_7) (KI E)) (fun u_6 u_7 => ?_) (fun j100 hj100 => ?_)
      · refine ok_fload_n hE 0 rfl dX12_apart_100 ?_
        refine ok_fload_n hE 1 rfl dX12_apart_101 ?_
        refine ok_fsub hE dX12_apart_102 ?_
        refine ok_csIp hE rmR_floatToIntBits_5c35a [.float (FP.fsub u_6 u_7)] [] rfl ca_X12_416 (fun _ hx => mR_floatToIntBits_5c35a hE.sys _ _ _ hx) ⟨rfl, rfl, rfl, rfl⟩ rfl rfl dX12_apart_103 (fun r9 => ?_)
        exact ok_ireturn hE dX12_apart_106
      refine ok_sub [3, 2, 1, 0] rfl (ok_loop (σ := UInt32 × UInt32 × Int32) 36 (fun x10 => [(0, .ref (E.Y.ad 0)), (2, .float x10.1), (3, .float x10.2.1), (4, .int x10.2.2)]) (fun x10 => M3) (fun rec36 hrec36 x10 => ?_) 1000000 (v4, v5, v6))
      refine ok_iload hE 3 rfl dX12_apart_36 ?_
      refine ok_aload_n hE 0 rfl dX12_apart_38 ?_
      refine ok_getI hE fl_X12_13 shR_0 rfl dX12_apart_39 ?_
      refine ok_icmp_ge hE 100 rfl dX12_apart_42 ?_ ?_
      · exact ok_sub [1, 2] rfl (hj100 x10.1 x10.2.1)
      · refine ok_aload_n hE 0 rfl dX12_apart_45 ?_
        refine ok_iload hE 3 rfl dX12_apart_46 ?_
        refine ok_iconst hE (1 : Int32) ki_1 dX12_apart_48 ?_
        refine ok_cvIp hE rmR_ofEvents [.int x10.2.2, .int (1 : Int32)] [] rfl ca_X12_431 shR_0 rfl (fun _ hx => mR_ofEvents hE.sys _ _ _ _ hx) ⟨rfl, rfl, rfl, rfl⟩ rfl rfl dX12_apart_49 (fun r11 => ?_)
        refine ok_i2f hE dX12_apart_52 ?_
        refine ok_aload_n hE 0 rfl dX12_apart_53 ?_
        refine ok_iload hE 3 rfl dX12_apart_54 ?_
        refine ok_iconst hE (0 : Int32) ki_0 dX12_apart_56 ?_
        refine ok_cvIp hE rmR_of [.int x10.2.2, .int (0 : Int32)] [.float (FP.i2f r11)] rfl ca_X12_337 shR_0 rfl (fun _ hx => mR_of hE.sys _ _ _ _ hx) ⟨rfl, rfl, rfl, rfl⟩ rfl rfl dX12_apart_57 (fun r12 => ?_)
        refine ok_i2f hE dX12_apart_60 ?_
        refine ok_fdiv hE dX12_apart_61 ?_
        refine ok_fstore hE (fun v13 => [(5, .float v13), (0, .ref (E.Y.ad 0)), (2, .float x10.1), (3, .float x10.2.1), (4, .int x10.2.2)]) (fun _ => rfl) rfl dX12_apart_62 (fun v13 => ?_)
        refine ok_iload hE 4 rfl dX12_apart_64 ?_
        refine ok_fun (fun j => ∀ (u_13 : UInt32), Ok E 79 [(0, .ref (E.Y.ad 0)), (2, .float u_13), (3, .float x10.2.1), (4, .int x10.2.2), (5, .float v13)] [] M3 (j u_13) (KI E)) (fun u_13 => ?_) (fun j79 hj79 => ?_)
        · refine ok_iload hE 3 rfl dX12_apart_79 ?_
          refine ok_fun (fun j => ∀ (u_14 : UInt32), Ok E 94 [(0, .ref (E.Y.ad 0)), (2, .float u_13), (3, .float u_14), (4, .int x10.2.2)] [] M3 (j u_14) (KI E)) (fun u_14 => ?_) (fun j94 hj94 => ?_)
          · refine ok_iinc hE 3 (x10.2.2 + (1 : Int32)) (by rw [ko_1]) (fun v16 => [(4, .int v16), (0, .ref (E.Y.ad 0)), (2, .float u_13), (3, .float u_14)]) rfl (fun _ => rfl) rfl dX12_apart_94 (fun v16 => ?_)
            refine ok_goto hE 36 rfl dX12_apart_97 ?_
            exact ok_sub [1, 2, 3, 0] rfl (hrec36 (u_13, u_14, v16))
          refine ok_fun (fun j => ∀ (_ : Unit), Ok E 91 [(0, .ref (E.Y.ad 0)), (2, .float u_13), (4, .int x10.2.2), (5, .float v13)] [] M3 (j ()) (KI E)) (fun _ => ?_) (fun j91 hj91 => ?_)
          · refine ok_fload hE 3 rfl dX12_apart_91 ?_
            refine ok_fstore_n hE (fun v17 => [(3, .float v17), (0, .ref (E.Y.ad 0)), (2, .float u_13), (4, .int x10.2.2), (5, .float v13)]) (fun _ => rfl) rfl dX12_apart_93 (fun v17 => ?_)
            exact ok_sub [1, 2, 0, 3] rfl (hj94 v17)
          refine ok_if_eq hE 91 rfl dX12_apart_81 ?_ ?_
          · exact ok_sub [0, 1, 3, 4] rfl (hj91 ())
          · refine ok_fload hE 4 rfl dX12_apart_84 ?_
            refine ok_fload_n hE 2 rfl dX12_apart_86 ?_
            refine ok_fcmp hE dX12_apart_87 ?_
            refine ok_if_ge hE 94 rfl dX12_apart_88 ?_ ?_
            · exact ok_sub [0, 1, 2, 3] rfl (hj94 x10.2.1)
            · exact ok_sub [0, 1, 3, 4] rfl (hj91 ())
        refine ok_fun (fun j => ∀ (_ : Unit), Ok E 76 [(0, .ref (E.Y.ad 0)), (3, .float x10.2.1), (4, .int x10.2.2), (5, .float v13)] [] M3 (j ()) (KI E)) (fun _ => ?_) (fun j76 hj76 => ?_)
        · refine ok_fload hE 3 rfl dX12_apart_76 ?_
          refine ok_fstore_n hE (fun v18 => [(2, .float v18), (0, .ref (E.Y.ad 0)), (3, .float x10.2.1), (4, .int x10.2.2), (5, .float v13)]) (fun _ => rfl) rfl dX12_apart_78 (fun v18 => ?_)
          exact ok_sub [1, 0, 2, 3, 4] rfl (hj79 v18)
        refine ok_if_eq hE 76 rfl dX12_apart_66 ?_ ?_
        · exact ok_sub [1, 3, 4, 0] rfl (hj76 ())
        · refine ok_fload hE 0 rfl dX12_apart_69 ?_
          refine ok_fload_n hE 2 rfl dX12_apart_71 ?_
          refine ok_fcmp hE dX12_apart_72 ?_
          refine ok_if_le hE 79 rfl dX12_apart_73 ?_ ?_
          · exact ok_sub [1, 2, 3, 4, 0] rfl (hj79 x10.1)
          · exact ok_sub [1, 3, 4, 0] rfl (hj76 ())
    · refine ok_iconst hE (-1 : Int32) ki_m1 dX12_apart_18 ?_
      exact ok_ireturn hE dX12_apart_19
theorem mR_apart {l : Launch} {Y : Sys} {t : Nat} (hY : SysOk Y t shR) (p1 : Int32)  (M : Mm) (r : (Int32 × Mm)) (h : R_apart p1 M = some r) : Cm l Y t yX12_apart (WS yX12_apart cX12_apart 6 (some .int)) rmR_apart [.ref (Y.ad 0), .int p1] M (enI r) := by
  refine cm_of (own := RX12) hY rfl rfl (Nat.le_of_ble_eq_true rfl) (fun E hE e1 e2 e3 e4 => ?_)
  subst e1
  exact tR_apart E hE p1  M r h e4.symm
def R_latest (p1 : Int32) (p2 : Int32) (p3 : Int32) (M : Mm) : Option (Int32 × Mm) :=
 if (gI M 0 0) = 0 then
 (some ((-1 : Int32), M))
 else
 (bnd (R_isIn p1 (1 : Int32) (400 : Int32) M) fun r1 =>
 if r1 = 0 then
 (some ((-1 : Int32), M))
 else
 (if p2 < 0 then
 (some ((-1 : Int32), M))
 else
 (bnd (R_isIn p3 (0 : Int32) (1 : Int32) M) fun r2 =>
 if r2 = 0 then
 (some ((-1 : Int32), M))
 else
 (bnd (R_tries M) fun M3 =>
 bnd (R_goesOnFor p1 M3) fun M4 =>
 lett (-1 : Int32) fun v5 =>
 lett (0 : Int32) fun v6 =>
 lett (0 : Int32) fun v7 =>
 lett (fun (u_7 : Int32) (u_8 : Int32) =>
 lett (fun (_ : Unit) =>
 some (u_7, M4)) fun j156 =>
 if u_7 = (-1 : Int32) then
 (j156 ())
 else
 (if p3 = 0 then
 (j156 ())
 else
 (some (u_8, M4)))) fun j146 =>
 loopR (fun (rec51 : (Int32 × Int32 × Int32) → Option (Int32 × Mm)) (x10 : Int32 × Int32 × Int32) =>
 if (gI M4 0 1) ≤ x10.2.2 then
 (j146 x10.1 x10.2.1)
 else
 (lett (0 : Int32) fun v11 =>
 lett (0 : Int32) fun v12 =>
 lett (fun (u_12 : Int32) =>
 lett (fun (u_13 : Int32) (u_14 : Int32) =>
 lett (x10.2.2 + (1 : Int32)) fun v16 =>
 rec51 (u_13, u_14, v16)) fun j140 =>
 if x10.2.1 < u_12 then
 (lett x10.2.2 fun v17 =>
 lett u_12 fun v18 =>
 j140 v17 v18)
 else
 (j140 x10.1 x10.2.1)) fun j122 =>
 loopR (fun (rec66 : (Int32 × Int32) → Option (Int32 × Mm)) (x19 : Int32 × Int32) =>
 if (gI M4 0 57) ≤ x19.2 then
 (j122 x19.1)
 else
 (ald (((4 : Int32) * x19.2) + (1 : Int32)) 1604 (lett (fun (w_19 : Int32) =>
 lett (x19.1 + w_19) fun v21 =>
 lett (x19.2 + (1 : Int32)) fun v22 =>
 rec66 (v21, v22)) fun j113 =>
 lett (fun (_ : Unit) =>
 j113 (0 : Int32)) fun j112 =>
 if (gI M4 20 (ix (((4 : Int32) * x19.2) + (1 : Int32)))) = x10.2.2 then
 (ald (((4 : Int32) * x19.2) + (2 : Int32)) 1604 (if (gI M4 20 (ix (((4 : Int32) * x19.2) + (2 : Int32)))) ≤ p2 then
 (j112 ())
 else
 (j113 (1 : Int32))))
 else
 (j112 ())))) 1000000 (v11, v12))) 1000000 (v5, v6, v7)))))
abbrev rmR_latest : Room := { frames := 8, cells := 0, slots := 0, locals := 181 }
set_option maxHeartbeats 4000000 in
set_option maxRecDepth 100000 in
theorem tR_latest (E : Cx) (hE : CxOk E cX12_latest RX12 shR (some .int) rmR_latest 9) (p1 : Int32) (p2 : Int32) (p3 : Int32)  (M : Mm) : Ok E 0 [(0, .ref (E.Y.ad 0)), (1, .int p1), (2, .int p2), (3, .int p3)] [] M (R_latest p1 p2 p3 M) (KI E) := by
  unfold R_latest
  refine ok_aload_n hE 0 rfl dX12_latest_0 ?_
  refine ok_getI hE fl_X12_7 shR_0 rfl dX12_latest_1 ?_
  refine ok_if_eq hE 31 rfl dX12_latest_4 ?_ ?_
  · refine ok_iconst hE (-1 : Int32) ki_m1 dX12_latest_31 ?_
    exact ok_ireturn hE dX12_latest_32
  · refine ok_iload_n hE 1 rfl dX12_latest_7 ?_
    refine ok_iconst hE (1 : Int32) ki_1 dX12_latest_8 ?_
    refine ok_sipush hE (400 : Int32) ks_400 dX12_latest_9 ?_
    refine ok_csIp hE rmR_isIn [.int p1, .int (1 : Int32), .int (400 : Int32)] [] rfl ca_X12_262 (fun _ hx => mR_isIn hE.sys _ _ _ _ _ hx) ⟨rfl, rfl, rfl, rfl⟩ rfl rfl dX12_latest_12 (fun r1 => ?_)
    refine ok_if_eq hE 31 rfl dX12_latest_15 ?_ ?_
    · refine ok_iconst hE (-1 : Int32) ki_m1 dX12_latest_31 ?_
      exact ok_ireturn hE dX12_latest_32
    · refine ok_iload_n hE 2 rfl dX12_latest_18 ?_
      refine ok_if_lt hE 31 rfl dX12_latest_19 ?_ ?_
      · refine ok_iconst hE (-1 : Int32) ki_m1 dX12_latest_31 ?_
        exact ok_ireturn hE dX12_latest_32
      · refine ok_iload_n hE 3 rfl dX12_latest_22 ?_
        refine ok_iconst hE (0 : Int32) ki_0 dX12_latest_23 ?_
        refine ok_iconst hE (1 : Int32) ki_1 dX12_latest_24 ?_
        refine ok_csIp hE rmR_isIn [.int p3, .int (0 : Int32), .int (1 : Int32)] [] rfl ca_X12_262 (fun _ hx => mR_isIn hE.sys _ _ _ _ _ hx) ⟨rfl, rfl, rfl, rfl⟩ rfl rfl dX12_latest_25 (fun r2 => ?_)
        refine ok_if_ne hE 33 rfl dX12_latest_28 ?_ ?_
        · refine ok_aload_n hE 0 rfl dX12_latest_33 ?_
          refine ok_cvV hE rmR_tries [] [] rfl ca_X12_425 shR_0 rfl (fun _ hx => mR_tries hE.sys  _ _ hx) ⟨rfl, rfl, rfl, rfl⟩ rfl rfl dX12_latest_34 (fun M3 => ?_)
          refine ok_aload_n hE 0 rfl dX12_latest_37 ?_
          refine ok_iload_n hE 1 rfl dX12_latest_38 ?_
          refine ok_cvV hE rmR_goesOnFor [.int p1] [] rfl ca_X12_428 shR_0 rfl (fun _ hx => mR_goesOnFor hE.sys _ _ _ hx) ⟨rfl, rfl, rfl, rfl⟩ rfl rfl dX12_latest_39 (fun M4 => ?_)
          refine ok_iconst hE (-1 : Int32) ki_m1 dX12_latest_42 ?_
          refine ok_istore hE (fun v5 => [(4, .int v5), (0, .ref (E.Y.ad 0)), (1, .int p1), (2, .int p2), (3, .int p3)]) (fun _ => rfl) rfl dX12_latest_43 (fun v5 => ?_)
          refine ok_iconst hE (0 : Int32) ki_0 dX12_latest_45 ?_
          refine ok_istore hE (fun v6 => [(5, .int v6), (4, .int v5), (0, .ref (E.Y.ad 0)), (1, .int p1), (2, .int p2), (3, .int p3)]) (fun _ => rfl) rfl dX12_latest_46 (fun v6 => ?_)
          refine ok_iconst hE (0 : Int32) ki_0 dX12_latest_48 ?_
          refine ok_istore hE (fun v7 => [(6, .int v7), (5, .int v6), (4, .int v5), (0, .ref (E.Y.ad 0)), (1, .int p1), (2, .int p2), (3, .int p3)]) (fun _ => rfl) rfl dX12_latest_49 (fun v7 => ?_)
          refine ok_fun (fun j => ∀ (u_7 : Int32) (u_8 : Int32), Ok E 146 [(3, .int p3), (4, .int u_7), (5, .int u_8)] [] M4 (j u_7 u_8) (KI E)) (fun u_7 u_8 => ?_) (fun j146 hj146 => ?_)
          · refine ok_iload hE 1 rfl dX12_latest_146 ?_
            refine ok_iconst hE (-1 : Int32) ki_m1 dX12_latest_148 ?_
            refine ok_fun (fun j => ∀ (_ : Unit), Ok E 156 [(4, .int u_7)] [] M4 (j ()) (KI E)) (fun _ => ?_) (fun j156 hj156 => ?_)
            · refine ok_iload hE 0 rfl dX12_latest_156 ?_
              refine ok_goto hE 163 rfl dX12_latest_158 ?_
              exact ok_ireturn hE dX12_latest_163
            refine ok_icmp_eq hE 156 rfl dX12_latest_149 ?_ ?_
            · exact ok_sub [1] rfl (hj156 ())
            · refine ok_iload_n hE 0 rfl dX12_latest_152 ?_
              refine ok_if_ne hE 161 rfl dX12_latest_153 ?_ ?_
              · refine ok_iload hE 2 rfl dX12_latest_161 ?_
                exact ok_ireturn hE dX12_latest_163
              · exact ok_sub [1] rfl (hj156 ())
          refine ok_sub [3, 5, 6, 2, 1, 0] rfl (ok_loop (σ := Int32 × Int32 × Int32) 51 (fun x10 => [(0, .ref (E.Y.ad 0)), (2, .int p2), (3, .int p3), (4, .int x10.1), (5, .int x10.2.1), (6, .int x10.2.2)]) (fun x10 => M4) (fun rec51 hrec51 x10 => ?_) 1000000 (v5, v6, v7))
          refine ok_iload hE 5 rfl dX12_latest_51 ?_
          refine ok_aload_n hE 0 rfl dX12_latest_53 ?_
          refine ok_getI hE fl_X12_13 shR_0 rfl dX12_latest_54 ?_
          refine ok_icmp_ge hE 146 rfl dX12_latest_57 ?_ ?_
          · exact ok_sub [2, 3, 4] rfl (hj146 x10.1 x10.2.1)
          · refine ok_iconst hE (0 : Int32) ki_0 dX12_latest_60 ?_
            refine ok_istore hE (fun v11 => [(7, .int v11), (0, .ref (E.Y.ad 0)), (2, .int p2), (3, .int p3), (4, .int x10.1), (5, .int x10.2.1), (6, .int x10.2.2)]) (fun _ => rfl) rfl dX12_latest_61 (fun v11 => ?_)
            refine ok_iconst hE (0 : Int32) ki_0 dX12_latest_63 ?_
            refine ok_istore hE (fun v12 => [(8, .int v12), (7, .int v11), (0, .ref (E.Y.ad 0)), (2, .int p2), (3, .int p3), (4, .int x10.1), (5, .int x10.2.1), (6, .int x10.2.2)]) (fun _ => rfl) rfl dX12_latest_64 (fun v12 => ?_)
            refine ok_fun (fun j => ∀ (u_12 : Int32), Ok E 122 [(0, .ref (E.Y.ad 0)), (2, .int p2), (3, .int p3), (4, .int x10.1), (5, .int x10.2.1), (6, .int x10.2.2), (7, .int u_12)] [] M4 (j u_12) (KI E)) (fun u_12 => ?_) (fun j122 hj122 => ?_)
            · refine ok_iload hE 6 rfl dX12_latest_122 ?_
              refine ok_iload hE 4 rfl dX12_latest_124 ?_
              refine ok_fun (fun j => ∀ (u_13 : Int32) (u_14 : Int32), Ok E 140 [(0, .ref (E.Y.ad 0)), (2, .int p2), (3, .int p3), (4, .int u_13), (5, .int u_14), (6, .int x10.2.2)] [] M4 (j u_13 u_14) (KI E)) (fun u_13 u_14 => ?_) (fun j140 hj140 => ?_)
              · refine ok_iinc hE 5 (x10.2.2 + (1 : Int32)) (by rw [ko_1]) (fun v16 => [(6, .int v16), (0, .ref (E.Y.ad 0)), (2, .int p2), (3, .int p3), (4, .int u_13), (5, .int u_14)]) rfl (fun _ => rfl) rfl dX12_latest_140 (fun v16 => ?_)
                refine ok_goto hE 51 rfl dX12_latest_143 ?_
                exact ok_sub [1, 2, 3, 4, 5, 0] rfl (hrec51 (u_13, u_14, v16))
              refine ok_icmp_gt hE 132 rfl dX12_latest_126 ?_ ?_
              · refine ok_iload hE 5 rfl dX12_latest_132 ?_
                refine ok_istore hE (fun v17 => [(4, .int v17), (0, .ref (E.Y.ad 0)), (2, .int p2), (3, .int p3), (5, .int x10.2.1), (6, .int x10.2.2), (7, .int u_12)]) (fun _ => rfl) rfl dX12_latest_134 (fun v17 => ?_)
                refine ok_iload hE 6 rfl dX12_latest_136 ?_
                refine ok_istore hE (fun v18 => [(5, .int v18), (4, .int v17), (0, .ref (E.Y.ad 0)), (2, .int p2), (3, .int p3), (6, .int x10.2.2), (7, .int u_12)]) (fun _ => rfl) rfl dX12_latest_138 (fun v18 => ?_)
                exact ok_sub [2, 3, 4, 1, 0, 5] rfl (hj140 v17 v18)
              · refine ok_goto hE 140 rfl dX12_latest_129 ?_
                exact ok_sub [0, 1, 2, 3, 4, 5] rfl (hj140 x10.1 x10.2.1)
            refine ok_sub [2, 3, 4, 5, 6, 7, 1, 0] rfl (ok_loop (σ := Int32 × Int32) 66 (fun x19 => [(0, .ref (E.Y.ad 0)), (2, .int p2), (3, .int p3), (4, .int x10.1), (5, .int x10.2.1), (6, .int x10.2.2), (7, .int x19.1), (8, .int x19.2)]) (fun x19 => M4) (fun rec66 hrec66 x19 => ?_) 1000000 (v11, v12))
            refine ok_iload hE 7 rfl dX12_latest_66 ?_
            refine ok_aload_n hE 0 rfl dX12_latest_68 ?_
            refine ok_getI hE fl_X12_184 shR_0 rfl dX12_latest_69 ?_
            refine ok_icmp_ge hE 122 rfl dX12_latest_72 ?_ ?_
            · exact ok_sub [0, 1, 2, 3, 4, 5, 6] rfl (hj122 x19.1)
            · refine ok_iload hE 6 rfl dX12_latest_75 ?_
              refine ok_aload_n hE 0 rfl dX12_latest_77 ?_
              refine ok_getA hE fl_X12_190 shR_0 rfl dX12_latest_78 ?_
              refine ok_iconst hE (4 : Int32) ki_4 dX12_latest_81 ?_
              refine ok_iload hE 7 rfl dX12_latest_82 ?_
              refine ok_imul hE dX12_latest_84 ?_
              refine ok_iconst hE (1 : Int32) ki_1 dX12_latest_85 ?_
              refine ok_iadd hE dX12_latest_86 ?_
              refine ok_iaload hE shR_20 dX12_latest_87 ?_
              refine ok_iload hE 5 rfl dX12_latest_88 ?_
              refine ok_fun (fun j => ∀ (w_19 : Int32), Ok E 113 [(0, .ref (E.Y.ad 0)), (2, .int p2), (3, .int p3), (4, .int x10.1), (5, .int x10.2.1), (6, .int x10.2.2), (8, .int x19.2)] [.int w_19, .int x19.1] M4 (j w_19) (KI E)) (fun w_19 => ?_) (fun j113 hj113 => ?_)
              · refine ok_iadd hE dX12_latest_113 ?_
                refine ok_istore hE (fun v21 => [(7, .int v21), (0, .ref (E.Y.ad 0)), (2, .int p2), (3, .int p3), (4, .int x10.1), (5, .int x10.2.1), (6, .int x10.2.2), (8, .int x19.2)]) (fun _ => rfl) rfl dX12_latest_114 (fun v21 => ?_)
                refine ok_iinc hE 7 (x19.2 + (1 : Int32)) (by rw [ko_1]) (fun v22 => [(8, .int v22), (7, .int v21), (0, .ref (E.Y.ad 0)), (2, .int p2), (3, .int p3), (4, .int x10.1), (5, .int x10.2.1), (6, .int x10.2.2)]) rfl (fun _ => rfl) rfl dX12_latest_116 (fun v22 => ?_)
                refine ok_goto hE 66 rfl dX12_latest_119 ?_
                exact ok_sub [2, 3, 4, 5, 6, 7, 1, 0] rfl (hrec66 (v21, v22))
              refine ok_fun (fun j => ∀ (_ : Unit), Ok E 112 [(0, .ref (E.Y.ad 0)), (2, .int p2), (3, .int p3), (4, .int x10.1), (5, .int x10.2.1), (6, .int x10.2.2), (8, .int x19.2)] [.int x19.1] M4 (j ()) (KI E)) (fun _ => ?_) (fun j112 hj112 => ?_)
              · refine ok_iconst hE (0 : Int32) ki_0 dX12_latest_112 ?_
                exact ok_sub [0, 1, 2, 3, 4, 5, 6] rfl (hj113 (0 : Int32))
              refine ok_icmp_ne hE 112 rfl dX12_latest_90 ?_ ?_
              · exact ok_sub [0, 1, 2, 3, 4, 5, 7] rfl (hj112 ())
              · refine ok_aload_n hE 0 rfl dX12_latest_93 ?_
                refine ok_getA hE fl_X12_190 shR_0 rfl dX12_latest_94 ?_
                refine ok_iconst hE (4 : Int32) ki_4 dX12_latest_97 ?_
                refine ok_iload hE 7 rfl dX12_latest_98 ?_
                refine ok_imul hE dX12_latest_100 ?_
                refine ok_iconst hE (2 : Int32) ki_2 dX12_latest_101 ?_
                refine ok_iadd hE dX12_latest_102 ?_
                refine ok_iaload hE shR_20 dX12_latest_103 ?_
                refine ok_iload_n hE 1 rfl dX12_latest_104 ?_
                refine ok_icmp_le hE 112 rfl dX12_latest_105 ?_ ?_
                · exact ok_sub [0, 1, 2, 3, 4, 5, 7] rfl (hj112 ())
                · refine ok_iconst hE (1 : Int32) ki_1 dX12_latest_108 ?_
                  refine ok_goto hE 113 rfl dX12_latest_109 ?_
                  exact ok_sub [0, 1, 2, 3, 4, 5, 7] rfl (hj113 (1 : Int32))
        · refine ok_iconst hE (-1 : Int32) ki_m1 dX12_latest_31 ?_
          exact ok_ireturn hE dX12_latest_32
theorem mR_latest {l : Launch} {Y : Sys} {t : Nat} (hY : SysOk Y t shR) (p1 : Int32) (p2 : Int32) (p3 : Int32)  (M : Mm) (r : (Int32 × Mm)) (h : R_latest p1 p2 p3 M = some r) : Cm l Y t yX12_latest (WS yX12_latest cX12_latest 9 (some .int)) rmR_latest [.ref (Y.ad 0), .int p1, .int p2, .int p3] M (enI r) := by
  refine cm_of (own := RX12) hY rfl rfl (Nat.le_of_ble_eq_true rfl) (fun E hE e1 e2 e3 e4 => ?_)
  subst e1
  exact tR_latest E hE p1 p2 p3  M r h e4.symm
