def R_lag (p1 : Int32) (M : Mm) : Option (Int32 × Mm) :=
 bnd (R_isNow M) fun M1 =>
 bnd (R_isProcess p1 M1) fun r2 =>
 if r2 = 0 then
 (some ((-1 : Int32), M1))
 else
 (bnd (R_part ((0 : Int32) + p1) M1) fun r3 =>
 bnd (R_part (18 : Int32) M1) fun r4 =>
 grd ((FP.fsub r3 r4) &&& 0x7fffffff ≤ 0x7f800000) (bnd (R_floatToIntBits_5c35a (FP.fsub r3 r4) M1) fun r5 =>
 some (r5, M1)))
abbrev rmR_lag : Room := { frames := 2, cells := 0, slots := 0, locals := 43 }
set_option maxHeartbeats 4000000 in
set_option maxRecDepth 100000 in
theorem tR_lag (E : Cx) (hE : CxOk E cX12_lag RX12 shR (some .int) rmR_lag 2) (p1 : Int32)  (M : Mm) : Ok E 0 [(0, .ref (E.Y.ad 0)), (1, .int p1)] [] M (R_lag p1 M) (KI E) := by
  unfold R_lag
  refine ok_aload_n hE 0 rfl dX12_lag_0 ?_
  refine ok_cvV hE rmR_isNow [] [] rfl ca_X12_324 shR_0 rfl (fun _ hx => mR_isNow hE.sys  _ _ hx) ⟨rfl, rfl, rfl, rfl⟩ rfl rfl dX12_lag_1 (fun M1 => ?_)
  refine ok_aload_n hE 0 rfl dX12_lag_4 ?_
  refine ok_iload_n hE 1 rfl dX12_lag_5 ?_
  refine ok_cvIp hE rmR_isProcess [.int p1] [] rfl ca_X12_405 shR_0 rfl (fun _ hx => mR_isProcess hE.sys _ _ _ hx) ⟨rfl, rfl, rfl, rfl⟩ rfl rfl dX12_lag_6 (fun r2 => ?_)
  refine ok_if_eq hE 32 rfl dX12_lag_9 ?_ ?_
  · refine ok_iconst hE (-1 : Int32) ki_m1 dX12_lag_32 ?_
    exact ok_ireturn hE dX12_lag_33
  · refine ok_aload_n hE 0 rfl dX12_lag_12 ?_
    refine ok_iconst hE (0 : Int32) ki_0 dX12_lag_13 ?_
    refine ok_iload_n hE 1 rfl dX12_lag_14 ?_
    refine ok_iadd hE dX12_lag_15 ?_
    refine ok_cvFp hE rmR_part [.int ((0 : Int32) + p1)] [] rfl ca_X12_352 shR_0 rfl (fun _ hx => mR_part hE.sys _ _ _ hx) ⟨rfl, rfl, rfl, rfl⟩ rfl rfl dX12_lag_16 (fun r3 => ?_)
    refine ok_aload_n hE 0 rfl dX12_lag_19 ?_
    refine ok_bipush hE (18 : Int32) kb_18 dX12_lag_20 ?_
    refine ok_cvFp hE rmR_part [.int (18 : Int32)] [.float r3] rfl ca_X12_352 shR_0 rfl (fun _ hx => mR_part hE.sys _ _ _ hx) ⟨rfl, rfl, rfl, rfl⟩ rfl rfl dX12_lag_22 (fun r4 => ?_)
    refine ok_fsub hE dX12_lag_25 ?_
    refine ok_csIp hE rmR_floatToIntBits_5c35a [.float (FP.fsub r3 r4)] [] rfl ca_X12_416 (fun _ hx => mR_floatToIntBits_5c35a hE.sys _ _ _ hx) ⟨rfl, rfl, rfl, rfl⟩ rfl rfl dX12_lag_26 (fun r5 => ?_)
    refine ok_goto hE 33 rfl dX12_lag_29 ?_
    exact ok_ireturn hE dX12_lag_33
theorem mR_lag {l : Launch} {Y : Sys} {t : Nat} (hY : SysOk Y t shR) (p1 : Int32)  (M : Mm) (r : (Int32 × Mm)) (h : R_lag p1 M = some r) : Cm l Y t yX12_lag (WS yX12_lag cX12_lag 2 (some .int)) rmR_lag [.ref (Y.ad 0), .int p1] M (enI r) := by
  refine cm_of (own := RX12) hY rfl rfl (Nat.le_of_ble_eq_true rfl) (fun E hE e1 e2 e3 e4 => ?_)
  subst e1
  exact tR_lag E hE p1  M r h e4.symm
def R_see  (M : Mm) : Option (Int32 × Mm) :=
 bnd (R_taken M) fun r1 =>
 lett r1.1 fun v2 =>
 lett (fun (w_2 : Int32) =>
 lett w_2 fun v4 =>
 lett (0 : Int32) fun v5 =>
 lett (fun (u_5 : Int32) =>
 if u_5 = 0 then
 (bnd (R_refuses (5 : Int32) r1.2) fun r13 =>
 some (r13.1, r13.2))
 else
 (lett (sI r1.2 0 61 (v2 / (2 : Int32))) fun M7 =>
 lett (0 : Int32) fun v8 =>
 loopR (fun (rec119 : (Int32 × Mm) → Option (Int32 × Mm)) (x9 : Int32 × Mm) =>
 if (gI x9.2 0 61) ≤ x9.1 then
 (some ((gI x9.2 0 61), x9.2))
 else
 (ald ((2 : Int32) * x9.1) 1600 (ald x9.1 16 (lett (sI x9.2 22 (ix x9.1) (gI x9.2 13 (ix ((2 : Int32) * x9.1)))) fun M10 =>
 ald (((2 : Int32) * x9.1) + (1 : Int32)) 1600 (ald x9.1 16 (lett (sI M10 23 (ix x9.1) (gI M10 13 (ix (((2 : Int32) * x9.1) + (1 : Int32))))) fun M11 =>
 lett (x9.1 + (1 : Int32)) fun v12 =>
 rec119 (v12, M11))))))) 1000000 (v8, M7))) fun j100 =>
 loopR (fun (rec36 : (Int32 × Int32) → Option (Int32 × Mm)) (x14 : Int32 × Int32) =>
 if x14.1 = 0 then
 (j100 x14.1)
 else
 (if v2 ≤ x14.2 then
 (j100 x14.1)
 else
 (ald x14.2 1600 (bnd (R_isIn (gI r1.2 13 (ix x14.2)) (1 : Int32) (60 : Int32) r1.2) fun r15 =>
 lett (fun (w_15 : Int32) =>
 lett w_15 fun v17 =>
 lett (x14.2 + (2 : Int32)) fun v18 =>
 rec36 (v17, v18)) fun j93 =>
 lett (fun (_ : Unit) =>
 j93 (0 : Int32)) fun j92 =>
 if r15 = 0 then
 (j92 ())
 else
 (ald (x14.2 + (1 : Int32)) 1600 (lett (fun (_ : Unit) =>
 j93 (1 : Int32)) fun j88 =>
 if (gI r1.2 13 (ix (x14.2 + (1 : Int32)))) = (6 : Int32) then
 (j88 ())
 else
 (ald (x14.2 + (1 : Int32)) 1600 (bnd (R_isProcess (gI r1.2 13 (ix (x14.2 + (1 : Int32)))) r1.2) fun r19 =>
 if r19 = 0 then
 (j92 ())
 else
 (j88 ()))))))))) 1000000 (v4, v5)) fun j33 =>
 lett (fun (_ : Unit) =>
 j33 (0 : Int32)) fun j32 =>
 if (gI r1.2 0 0) = 0 then
 (j32 ())
 else
 (if v2 ≤ 0 then
 (j32 ())
 else
 (if (v2 - v2 / (2 : Int32) * (2 : Int32)) = 0 then
 (if (32 : Int32) < v2 then
 (j32 ())
 else
 (j33 (1 : Int32)))
 else
 (j32 ())))
abbrev rmR_see : Room := { frames := 2, cells := 0, slots := 0, locals := 43 }
set_option maxHeartbeats 4000000 in
set_option maxRecDepth 100000 in
theorem tR_see (E : Cx) (hE : CxOk E cX12_see RX12 shR (some .int) rmR_see 4)   (M : Mm) : Ok E 0 [(0, .ref (E.Y.ad 0))] [] M (R_see  M) (KI E) := by
  unfold R_see
  refine ok_aload_n hE 0 rfl dX12_see_0 ?_
  refine ok_cvI hE rmR_taken [] [] rfl ca_X12_302 shR_0 rfl (fun _ hx => mR_taken hE.sys  _ _ hx) ⟨rfl, rfl, rfl, rfl⟩ rfl rfl dX12_see_1 (fun r1 => ?_)
  refine ok_istore_n hE (fun v2 => [(1, .int v2), (0, .ref (E.Y.ad 0))]) (fun _ => rfl) rfl dX12_see_4 (fun v2 => ?_)
  refine ok_aload_n hE 1 rfl dX12_see_5 ?_
  refine ok_getI hE fl_X12_7 shR_0 rfl dX12_see_6 ?_
  refine ok_fun (fun j => ∀ (w_2 : Int32), Ok E 33 [(0, .ref (E.Y.ad 0)), (1, .int v2)] [.int w_2] r1.2 (j w_2) (KI E)) (fun w_2 => ?_) (fun j33 hj33 => ?_)
  · refine ok_istore_n hE (fun v4 => [(2, .int v4), (0, .ref (E.Y.ad 0)), (1, .int v2)]) (fun _ => rfl) rfl dX12_see_33 (fun v4 => ?_)
    refine ok_iconst hE (0 : Int32) ki_0 dX12_see_34 ?_
    refine ok_istore_n hE (fun v5 => [(3, .int v5), (2, .int v4), (0, .ref (E.Y.ad 0)), (1, .int v2)]) (fun _ => rfl) rfl dX12_see_35 (fun v5 => ?_)
    refine ok_fun (fun j => ∀ (u_5 : Int32), Ok E 100 [(0, .ref (E.Y.ad 0)), (1, .int v2), (2, .int u_5)] [] r1.2 (j u_5) (KI E)) (fun u_5 => ?_) (fun j100 hj100 => ?_)
    · refine ok_iload_n hE 2 rfl dX12_see_100 ?_
      refine ok_if_ne hE 110 rfl dX12_see_101 ?_ ?_
      · refine ok_aload_n hE 0 rfl dX12_see_110 ?_
        refine ok_iload_n hE 1 rfl dX12_see_111 ?_
        refine ok_iconst hE (2 : Int32) ki_2 dX12_see_112 ?_
        refine ok_idivC hE (by decide) dX12_see_113 ?_
        refine ok_putI hE fl_X12_196 shR_0 rfl dX12_see_114 (fun M7 => ?_)
        refine ok_iconst hE (0 : Int32) ki_0 dX12_see_117 ?_
        refine ok_istore_n hE (fun v8 => [(3, .int v8), (0, .ref (E.Y.ad 0)), (1, .int v2), (2, .int u_5)]) (fun _ => rfl) rfl dX12_see_118 (fun v8 => ?_)
        refine ok_sub [1, 0] rfl (ok_loop (σ := Int32 × Mm) 119 (fun x9 => [(0, .ref (E.Y.ad 0)), (3, .int x9.1)]) (fun x9 => x9.2) (fun rec119 hrec119 x9 => ?_) 1000000 (v8, M7))
        refine ok_iload_n hE 1 rfl dX12_see_119 ?_
        refine ok_aload_n hE 0 rfl dX12_see_120 ?_
        refine ok_getI hE fl_X12_196 shR_0 rfl dX12_see_121 ?_
        refine ok_icmp_ge hE 163 rfl dX12_see_124 ?_ ?_
        · refine ok_aload_n hE 0 rfl dX12_see_163 ?_
          refine ok_getI hE fl_X12_196 shR_0 rfl dX12_see_164 ?_
          exact ok_ireturn hE dX12_see_167
        · refine ok_aload_n hE 0 rfl dX12_see_127 ?_
          refine ok_getA hE fl_X12_199 shR_0 rfl dX12_see_128 ?_
          refine ok_iload_n hE 1 rfl dX12_see_131 ?_
          refine ok_aload_n hE 0 rfl dX12_see_132 ?_
          refine ok_getA hE fl_X12_126 shR_0 rfl dX12_see_133 ?_
          refine ok_iconst hE (2 : Int32) ki_2 dX12_see_136 ?_
          refine ok_iload_n hE 1 rfl dX12_see_137 ?_
          refine ok_imul hE dX12_see_138 ?_
          refine ok_iaload hE shR_13 dX12_see_139 ?_
          refine ok_iastore hE shR_22 dX12_see_140 (fun M10 => ?_)
          refine ok_aload_n hE 0 rfl dX12_see_141 ?_
          refine ok_getA hE fl_X12_202 shR_0 rfl dX12_see_142 ?_
          refine ok_iload_n hE 1 rfl dX12_see_145 ?_
          refine ok_aload_n hE 0 rfl dX12_see_146 ?_
          refine ok_getA hE fl_X12_126 shR_0 rfl dX12_see_147 ?_
          refine ok_iconst hE (2 : Int32) ki_2 dX12_see_150 ?_
          refine ok_iload_n hE 1 rfl dX12_see_151 ?_
          refine ok_imul hE dX12_see_152 ?_
          refine ok_iconst hE (1 : Int32) ki_1 dX12_see_153 ?_
          refine ok_iadd hE dX12_see_154 ?_
          refine ok_iaload hE shR_13 dX12_see_155 ?_
          refine ok_iastore hE shR_23 dX12_see_156 (fun M11 => ?_)
          refine ok_iinc hE 1 (x9.1 + (1 : Int32)) (by rw [ko_1]) (fun v12 => [(3, .int v12), (0, .ref (E.Y.ad 0))]) rfl (fun _ => rfl) rfl dX12_see_157 (fun v12 => ?_)
          refine ok_goto hE 119 rfl dX12_see_160 ?_
          exact ok_sub [1, 0] rfl (hrec119 (v12, M11))
      · refine ok_aload_n hE 0 rfl dX12_see_104 ?_
        refine ok_iconst hE (5 : Int32) ki_5 dX12_see_105 ?_
        refine ok_cvI hE rmR_refuses [.int (5 : Int32)] [] rfl ca_X12_220 shR_0 rfl (fun _ hx => mR_refuses hE.sys _ _ _ hx) ⟨rfl, rfl, rfl, rfl⟩ rfl rfl dX12_see_106 (fun r13 => ?_)
        exact ok_ireturn hE dX12_see_109
    refine ok_sub [2, 3, 1, 0] rfl (ok_loop (σ := Int32 × Int32) 36 (fun x14 => [(0, .ref (E.Y.ad 0)), (1, .int v2), (2, .int x14.1), (3, .int x14.2)]) (fun x14 => r1.2) (fun rec36 hrec36 x14 => ?_) 1000000 (v4, v5))
    refine ok_iload_n hE 2 rfl dX12_see_36 ?_
    refine ok_if_eq hE 100 rfl dX12_see_37 ?_ ?_
    · exact ok_sub [0, 1, 2] rfl (hj100 x14.1)
    · refine ok_iload_n hE 3 rfl dX12_see_40 ?_
      refine ok_iload_n hE 1 rfl dX12_see_41 ?_
      refine ok_icmp_ge hE 100 rfl dX12_see_42 ?_ ?_
      · exact ok_sub [0, 1, 2] rfl (hj100 x14.1)
      · refine ok_aload_n hE 0 rfl dX12_see_45 ?_
        refine ok_getA hE fl_X12_126 shR_0 rfl dX12_see_46 ?_
        refine ok_iload_n hE 3 rfl dX12_see_49 ?_
        refine ok_iaload hE shR_13 dX12_see_50 ?_
        refine ok_iconst hE (1 : Int32) ki_1 dX12_see_51 ?_
        refine ok_bipush hE (60 : Int32) kb_60 dX12_see_52 ?_
        refine ok_csIp hE rmR_isIn [.int (gI r1.2 13 (ix x14.2)), .int (1 : Int32), .int (60 : Int32)] [] rfl ca_X12_262 (fun _ hx => mR_isIn hE.sys _ _ _ _ _ hx) ⟨rfl, rfl, rfl, rfl⟩ rfl rfl dX12_see_54 (fun r15 => ?_)
        refine ok_fun (fun j => ∀ (w_15 : Int32), Ok E 93 [(0, .ref (E.Y.ad 0)), (1, .int v2), (3, .int x14.2)] [.int w_15] r1.2 (j w_15) (KI E)) (fun w_15 => ?_) (fun j93 hj93 => ?_)
        · refine ok_istore_n hE (fun v17 => [(2, .int v17), (0, .ref (E.Y.ad 0)), (1, .int v2), (3, .int x14.2)]) (fun _ => rfl) rfl dX12_see_93 (fun v17 => ?_)
          refine ok_iinc hE 3 (x14.2 + (2 : Int32)) (by rw [ko_2]) (fun v18 => [(3, .int v18), (2, .int v17), (0, .ref (E.Y.ad 0)), (1, .int v2)]) rfl (fun _ => rfl) rfl dX12_see_94 (fun v18 => ?_)
          refine ok_goto hE 36 rfl dX12_see_97 ?_
          exact ok_sub [2, 3, 1, 0] rfl (hrec36 (v17, v18))
        refine ok_fun (fun j => ∀ (_ : Unit), Ok E 92 [(0, .ref (E.Y.ad 0)), (1, .int v2), (3, .int x14.2)] [] r1.2 (j ()) (KI E)) (fun _ => ?_) (fun j92 hj92 => ?_)
        · refine ok_iconst hE (0 : Int32) ki_0 dX12_see_92 ?_
          exact ok_sub [0, 1, 2] rfl (hj93 (0 : Int32))
        refine ok_if_eq hE 92 rfl dX12_see_57 ?_ ?_
        · exact ok_sub [0, 1, 3] rfl (hj92 ())
        · refine ok_aload_n hE 0 rfl dX12_see_60 ?_
          refine ok_getA hE fl_X12_126 shR_0 rfl dX12_see_61 ?_
          refine ok_iload_n hE 3 rfl dX12_see_64 ?_
          refine ok_iconst hE (1 : Int32) ki_1 dX12_see_65 ?_
          refine ok_iadd hE dX12_see_66 ?_
          refine ok_iaload hE shR_13 dX12_see_67 ?_
          refine ok_bipush hE (6 : Int32) kb_6 dX12_see_68 ?_
          refine ok_fun (fun j => ∀ (_ : Unit), Ok E 88 [(0, .ref (E.Y.ad 0)), (1, .int v2), (3, .int x14.2)] [] r1.2 (j ()) (KI E)) (fun _ => ?_) (fun j88 hj88 => ?_)
          · refine ok_iconst hE (1 : Int32) ki_1 dX12_see_88 ?_
            refine ok_goto hE 93 rfl dX12_see_89 ?_
            exact ok_sub [0, 1, 2] rfl (hj93 (1 : Int32))
          refine ok_icmp_eq hE 88 rfl dX12_see_70 ?_ ?_
          · exact ok_sub [0, 1, 3] rfl (hj88 ())
          · refine ok_aload_n hE 0 rfl dX12_see_73 ?_
            refine ok_aload_n hE 0 rfl dX12_see_74 ?_
            refine ok_getA hE fl_X12_126 shR_0 rfl dX12_see_75 ?_
            refine ok_iload_n hE 3 rfl dX12_see_78 ?_
            refine ok_iconst hE (1 : Int32) ki_1 dX12_see_79 ?_
            refine ok_iadd hE dX12_see_80 ?_
            refine ok_iaload hE shR_13 dX12_see_81 ?_
            refine ok_cvIp hE rmR_isProcess [.int (gI r1.2 13 (ix (x14.2 + (1 : Int32))))] [] rfl ca_X12_405 shR_0 rfl (fun _ hx => mR_isProcess hE.sys _ _ _ hx) ⟨rfl, rfl, rfl, rfl⟩ rfl rfl dX12_see_82 (fun r19 => ?_)
            refine ok_if_eq hE 92 rfl dX12_see_85 ?_ ?_
            · exact ok_sub [0, 1, 3] rfl (hj92 ())
            · exact ok_sub [0, 1, 3] rfl (hj88 ())
  refine ok_fun (fun j => ∀ (_ : Unit), Ok E 32 [(0, .ref (E.Y.ad 0)), (1, .int v2)] [] r1.2 (j ()) (KI E)) (fun _ => ?_) (fun j32 hj32 => ?_)
  · refine ok_iconst hE (0 : Int32) ki_0 dX12_see_32 ?_
    exact ok_sub [0, 1] rfl (hj33 (0 : Int32))
  refine ok_if_eq hE 32 rfl dX12_see_9 ?_ ?_
  · exact ok_sub [1, 0] rfl (hj32 ())
  · refine ok_iload_n hE 0 rfl dX12_see_12 ?_
    refine ok_if_le hE 32 rfl dX12_see_13 ?_ ?_
    · exact ok_sub [1, 0] rfl (hj32 ())
    · refine ok_iload_n hE 0 rfl dX12_see_16 ?_
      refine ok_iconst hE (2 : Int32) ki_2 dX12_see_17 ?_
      refine ok_iremC hE (by decide) dX12_see_18 ?_
      refine ok_if_ne hE 32 rfl dX12_see_19 ?_ ?_
      · exact ok_sub [1, 0] rfl (hj32 ())
      · refine ok_iload_n hE 0 rfl dX12_see_22 ?_
        refine ok_bipush hE (32 : Int32) kb_32 dX12_see_23 ?_
        refine ok_icmp_gt hE 32 rfl dX12_see_25 ?_ ?_
        · exact ok_sub [1, 0] rfl (hj32 ())
        · refine ok_iconst hE (1 : Int32) ki_1 dX12_see_28 ?_
          refine ok_goto hE 33 rfl dX12_see_29 ?_
          exact ok_sub [1, 0] rfl (hj33 (1 : Int32))
theorem mR_see {l : Launch} {Y : Sys} {t : Nat} (hY : SysOk Y t shR)   (M : Mm) (r : (Int32 × Mm)) (h : R_see  M = some r) : Cm l Y t yX12_see (WS yX12_see cX12_see 4 (some .int)) rmR_see [.ref (Y.ad 0)] M (enI r) := by
  refine cm_of (own := RX12) hY rfl rfl (Nat.le_of_ble_eq_true rfl) (fun E hE e1 e2 e3 e4 => ?_)
  subst e1
  exact tR_see E hE   M r h e4.symm
def R_laysFits  (M : Mm) : Option (Int32 × Mm) :=
 lett (0 : Int32) fun v1 =>
 lett (0 : Int32) fun v2 =>
 loopR (fun (rec4 : (Int32 × Int32 × Mm) → Option (Int32 × Mm)) (x3 : Int32 × Int32 × Mm) =>
 if (20 : Int32) < x3.2.1 then
 (some (x3.1, x3.2.2))
 else
 (bnd (R_tries x3.2.2) fun M4 =>
 bnd (R_puts (6 : Int32) x3.2.1 M4) fun M5 =>
 lett (1 : Int32) fun v6 =>
 lett (fun (M_6 : Mm) =>
 ald x3.2.1 21 (lett (sI M_6 25 (ix x3.2.1) (1 : Int32)) fun M8 =>
 lett (0 : Int32) fun v9 =>
 lett (fun (M_9 : Mm) =>
 ald x3.2.1 21 (lett (x3.1 + (gI M_9 25 (ix x3.2.1))) fun v11 =>
 lett (x3.2.1 + (1 : Int32)) fun v12 =>
 rec4 (v11, v12, M_9))) fun j133 =>
 loopR (fun (rec78 : (Int32 × Mm) → Option (Int32 × Mm)) (x13 : Int32 × Mm) =>
 if (gI x13.2 0 61) ≤ x13.1 then
 (j133 x13.2)
 else
 (ald x13.1 16 (ald (((61 : Int32) * x3.2.1) + (gI x13.2 22 (ix x13.1))) 1281 (ald x13.1 16 (lett (fun (w_13 : Int32) =>
 ald x3.2.1 21 (lett (sI x13.2 25 (ix x3.2.1) w_13) fun M15 =>
 lett (x13.1 + (1 : Int32)) fun v16 =>
 rec78 (v16, M15))) fun j126 =>
 if (gI x13.2 24 (ix (((61 : Int32) * x3.2.1) + (gI x13.2 22 (ix x13.1))))) = (gI x13.2 23 (ix x13.1)) then
 (ald x3.2.1 21 (j126 (gI x13.2 25 (ix x3.2.1))))
 else
 (j126 (0 : Int32))))))) 1000000 (v9, M8))) fun j69 =>
 loopR (fun (rec23 : (Int32 × Mm) → Option (Int32 × Mm)) (x17 : Int32 × Mm) =>
 if (60 : Int32) < x17.1 then
 (j69 x17.2)
 else
 (bnd (R_goesOn x17.2) fun M18 =>
 bnd (R_its (2 : Int32) M18) fun r19 =>
 lett (fun (w_19 : Int32) =>
 ald (((61 : Int32) * x3.2.1) + x17.1) 1281 (lett (sI M18 24 (ix (((61 : Int32) * x3.2.1) + x17.1)) w_19) fun M21 =>
 lett (x17.1 + (1 : Int32)) fun v22 =>
 rec23 (v22, M21))) fun j62 =>
 if r19 = (-1 : Int32) then
 (j62 (6 : Int32))
 else
 (bnd (R_its (2 : Int32) M18) fun r23 =>
 j62 r23))) 1000000 (v6, M5))) 1000000 (v1, v2, M)
abbrev rmR_laysFits : Room := { frames := 7, cells := 0, slots := 0, locals := 159 }
set_option maxHeartbeats 4000000 in
set_option maxRecDepth 100000 in
theorem tR_laysFits (E : Cx) (hE : CxOk E cX12_laysFits RX12 shR (some .int) rmR_laysFits 4)   (M : Mm) : Ok E 0 [(0, .ref (E.Y.ad 0))] [] M (R_laysFits  M) (KI E) := by
  unfold R_laysFits
  refine ok_iconst hE (0 : Int32) ki_0 dX12_laysFits_0 ?_
  refine ok_istore_n hE (fun v1 => [(1, .int v1), (0, .ref (E.Y.ad 0))]) (fun _ => rfl) rfl dX12_laysFits_1 (fun v1 => ?_)
  refine ok_iconst hE (0 : Int32) ki_0 dX12_laysFits_2 ?_
  refine ok_istore_n hE (fun v2 => [(2, .int v2), (1, .int v1), (0, .ref (E.Y.ad 0))]) (fun _ => rfl) rfl dX12_laysFits_3 (fun v2 => ?_)
  refine ok_sub [2, 1, 0] rfl (ok_loop (σ := Int32 × Int32 × Mm) 4 (fun x3 => [(0, .ref (E.Y.ad 0)), (1, .int x3.1), (2, .int x3.2.1)]) (fun x3 => x3.2.2) (fun rec4 hrec4 x3 => ?_) 1000000 (v1, v2, M))
  refine ok_iload_n hE 2 rfl dX12_laysFits_4 ?_
  refine ok_bipush hE (20 : Int32) kb_20 dX12_laysFits_5 ?_
  refine ok_icmp_gt hE 148 rfl dX12_laysFits_7 ?_ ?_
  · refine ok_iload_n hE 1 rfl dX12_laysFits_148 ?_
    exact ok_ireturn hE dX12_laysFits_149
  · refine ok_aload_n hE 0 rfl dX12_laysFits_10 ?_
    refine ok_cvV hE rmR_tries [] [] rfl ca_X12_425 shR_0 rfl (fun _ hx => mR_tries hE.sys  _ _ hx) ⟨rfl, rfl, rfl, rfl⟩ rfl rfl dX12_laysFits_11 (fun M4 => ?_)
    refine ok_aload_n hE 0 rfl dX12_laysFits_14 ?_
    refine ok_bipush hE (6 : Int32) kb_6 dX12_laysFits_15 ?_
    refine ok_iload_n hE 2 rfl dX12_laysFits_17 ?_
    refine ok_cvV hE rmR_puts [.int (6 : Int32), .int x3.2.1] [] rfl ca_X12_318 shR_0 rfl (fun _ hx => mR_puts hE.sys _ _ _ _ hx) ⟨rfl, rfl, rfl, rfl⟩ rfl rfl dX12_laysFits_18 (fun M5 => ?_)
    refine ok_iconst hE (1 : Int32) ki_1 dX12_laysFits_21 ?_
    refine ok_istore_n hE (fun v6 => [(3, .int v6), (0, .ref (E.Y.ad 0)), (1, .int x3.1), (2, .int x3.2.1)]) (fun _ => rfl) rfl dX12_laysFits_22 (fun v6 => ?_)
    refine ok_fun (fun j => ∀ (M_6 : Mm), Ok E 69 [(0, .ref (E.Y.ad 0)), (1, .int x3.1), (2, .int x3.2.1)] [] M_6 (j M_6) (KI E)) (fun M_6 => ?_) (fun j69 hj69 => ?_)
    · refine ok_aload_n hE 0 rfl dX12_laysFits_69 ?_
      refine ok_getA hE fl_X12_208 shR_0 rfl dX12_laysFits_70 ?_
      refine ok_iload_n hE 2 rfl dX12_laysFits_73 ?_
      refine ok_iconst hE (1 : Int32) ki_1 dX12_laysFits_74 ?_
      refine ok_iastore hE shR_25 dX12_laysFits_75 (fun M8 => ?_)
      refine ok_iconst hE (0 : Int32) ki_0 dX12_laysFits_76 ?_
      refine ok_istore_n hE (fun v9 => [(3, .int v9), (0, .ref (E.Y.ad 0)), (1, .int x3.1), (2, .int x3.2.1)]) (fun _ => rfl) rfl dX12_laysFits_77 (fun v9 => ?_)
      refine ok_fun (fun j => ∀ (M_9 : Mm), Ok E 133 [(0, .ref (E.Y.ad 0)), (1, .int x3.1), (2, .int x3.2.1)] [] M_9 (j M_9) (KI E)) (fun M_9 => ?_) (fun j133 hj133 => ?_)
      · refine ok_iload_n hE 1 rfl dX12_laysFits_133 ?_
        refine ok_aload_n hE 0 rfl dX12_laysFits_134 ?_
        refine ok_getA hE fl_X12_208 shR_0 rfl dX12_laysFits_135 ?_
        refine ok_iload_n hE 2 rfl dX12_laysFits_138 ?_
        refine ok_iaload hE shR_25 dX12_laysFits_139 ?_
        refine ok_iadd hE dX12_laysFits_140 ?_
        refine ok_istore_n hE (fun v11 => [(1, .int v11), (0, .ref (E.Y.ad 0)), (2, .int x3.2.1)]) (fun _ => rfl) rfl dX12_laysFits_141 (fun v11 => ?_)
        refine ok_iinc hE 2 (x3.2.1 + (1 : Int32)) (by rw [ko_1]) (fun v12 => [(2, .int v12), (1, .int v11), (0, .ref (E.Y.ad 0))]) rfl (fun _ => rfl) rfl dX12_laysFits_142 (fun v12 => ?_)
        refine ok_goto hE 4 rfl dX12_laysFits_145 ?_
        exact ok_sub [2, 1, 0] rfl (hrec4 (v11, v12, M_9))
      refine ok_sub [1, 2, 3, 0] rfl (ok_loop (σ := Int32 × Mm) 78 (fun x13 => [(0, .ref (E.Y.ad 0)), (1, .int x3.1), (2, .int x3.2.1), (3, .int x13.1)]) (fun x13 => x13.2) (fun rec78 hrec78 x13 => ?_) 1000000 (v9, M8))
      refine ok_iload_n hE 3 rfl dX12_laysFits_78 ?_
      refine ok_aload_n hE 0 rfl dX12_laysFits_79 ?_
      refine ok_getI hE fl_X12_196 shR_0 rfl dX12_laysFits_80 ?_
      refine ok_icmp_ge hE 133 rfl dX12_laysFits_83 ?_ ?_
      · exact ok_sub [0, 1, 2] rfl (hj133 x13.2)
      · refine ok_aload_n hE 0 rfl dX12_laysFits_86 ?_
        refine ok_getA hE fl_X12_208 shR_0 rfl dX12_laysFits_87 ?_
        refine ok_iload_n hE 2 rfl dX12_laysFits_90 ?_
        refine ok_aload_n hE 0 rfl dX12_laysFits_91 ?_
        refine ok_getA hE fl_X12_205 shR_0 rfl dX12_laysFits_92 ?_
        refine ok_bipush hE (61 : Int32) kb_61 dX12_laysFits_95 ?_
        refine ok_iload_n hE 2 rfl dX12_laysFits_97 ?_
        refine ok_imul hE dX12_laysFits_98 ?_
        refine ok_aload_n hE 0 rfl dX12_laysFits_99 ?_
        refine ok_getA hE fl_X12_199 shR_0 rfl dX12_laysFits_100 ?_
        refine ok_iload_n hE 3 rfl dX12_laysFits_103 ?_
        refine ok_iaload hE shR_22 dX12_laysFits_104 ?_
        refine ok_iadd hE dX12_laysFits_105 ?_
        refine ok_iaload hE shR_24 dX12_laysFits_106 ?_
        refine ok_aload_n hE 0 rfl dX12_laysFits_107 ?_
        refine ok_getA hE fl_X12_202 shR_0 rfl dX12_laysFits_108 ?_
        refine ok_iload_n hE 3 rfl dX12_laysFits_111 ?_
        refine ok_iaload hE shR_23 dX12_laysFits_112 ?_
        refine ok_fun (fun j => ∀ (w_13 : Int32), Ok E 126 [(0, .ref (E.Y.ad 0)), (1, .int x3.1), (2, .int x3.2.1), (3, .int x13.1)] [.int w_13, .int x3.2.1, .ref (E.Y.ad 25)] x13.2 (j w_13) (KI E)) (fun w_13 => ?_) (fun j126 hj126 => ?_)
        · refine ok_iastore hE shR_25 dX12_laysFits_126 (fun M15 => ?_)
          refine ok_iinc hE 3 (x13.1 + (1 : Int32)) (by rw [ko_1]) (fun v16 => [(3, .int v16), (0, .ref (E.Y.ad 0)), (1, .int x3.1), (2, .int x3.2.1)]) rfl (fun _ => rfl) rfl dX12_laysFits_127 (fun v16 => ?_)
          refine ok_goto hE 78 rfl dX12_laysFits_130 ?_
          exact ok_sub [1, 2, 3, 0] rfl (hrec78 (v16, M15))
        refine ok_icmp_ne hE 125 rfl dX12_laysFits_113 ?_ ?_
        · refine ok_iconst hE (0 : Int32) ki_0 dX12_laysFits_125 ?_
          exact ok_sub [0, 1, 2, 3] rfl (hj126 (0 : Int32))
        · refine ok_aload_n hE 0 rfl dX12_laysFits_116 ?_
          refine ok_getA hE fl_X12_208 shR_0 rfl dX12_laysFits_117 ?_
          refine ok_iload_n hE 2 rfl dX12_laysFits_120 ?_
          refine ok_iaload hE shR_25 dX12_laysFits_121 ?_
          refine ok_goto hE 126 rfl dX12_laysFits_122 ?_
          exact ok_sub [0, 1, 2, 3] rfl (hj126 (gI x13.2 25 (ix x3.2.1)))
    refine ok_sub [1, 2, 3, 0] rfl (ok_loop (σ := Int32 × Mm) 23 (fun x17 => [(0, .ref (E.Y.ad 0)), (1, .int x3.1), (2, .int x3.2.1), (3, .int x17.1)]) (fun x17 => x17.2) (fun rec23 hrec23 x17 => ?_) 1000000 (v6, M5))
    refine ok_iload_n hE 3 rfl dX12_laysFits_23 ?_
    refine ok_bipush hE (60 : Int32) kb_60 dX12_laysFits_24 ?_
    refine ok_icmp_gt hE 69 rfl dX12_laysFits_26 ?_ ?_
    · exact ok_sub [0, 1, 2] rfl (hj69 x17.2)
    · refine ok_aload_n hE 0 rfl dX12_laysFits_29 ?_
      refine ok_cvV hE rmR_goesOn [] [] rfl ca_X12_402 shR_0 rfl (fun _ hx => mR_goesOn hE.sys  _ _ hx) ⟨rfl, rfl, rfl, rfl⟩ rfl rfl dX12_laysFits_30 (fun M18 => ?_)
      refine ok_aload_n hE 0 rfl dX12_laysFits_33 ?_
      refine ok_getA hE fl_X12_205 shR_0 rfl dX12_laysFits_34 ?_
      refine ok_bipush hE (61 : Int32) kb_61 dX12_laysFits_37 ?_
      refine ok_iload_n hE 2 rfl dX12_laysFits_39 ?_
      refine ok_imul hE dX12_laysFits_40 ?_
      refine ok_iload_n hE 3 rfl dX12_laysFits_41 ?_
      refine ok_iadd hE dX12_laysFits_42 ?_
      refine ok_aload_n hE 0 rfl dX12_laysFits_43 ?_
      refine ok_iconst hE (2 : Int32) ki_2 dX12_laysFits_44 ?_
      refine ok_cvIp hE rmR_its [.int (2 : Int32)] [.int (((61 : Int32) * x3.2.1) + x17.1), .ref (E.Y.ad 24)] rfl ca_X12_321 shR_0 rfl (fun _ hx => mR_its hE.sys _ _ _ hx) ⟨rfl, rfl, rfl, rfl⟩ rfl rfl dX12_laysFits_45 (fun r19 => ?_)
      refine ok_iconst hE (-1 : Int32) ki_m1 dX12_laysFits_48 ?_
      refine ok_fun (fun j => ∀ (w_19 : Int32), Ok E 62 [(0, .ref (E.Y.ad 0)), (1, .int x3.1), (2, .int x3.2.1), (3, .int x17.1)] [.int w_19, .int (((61 : Int32) * x3.2.1) + x17.1), .ref (E.Y.ad 24)] M18 (j w_19) (KI E)) (fun w_19 => ?_) (fun j62 hj62 => ?_)
      · refine ok_iastore hE shR_24 dX12_laysFits_62 (fun M21 => ?_)
        refine ok_iinc hE 3 (x17.1 + (1 : Int32)) (by rw [ko_1]) (fun v22 => [(3, .int v22), (0, .ref (E.Y.ad 0)), (1, .int x3.1), (2, .int x3.2.1)]) rfl (fun _ => rfl) rfl dX12_laysFits_63 (fun v22 => ?_)
        refine ok_goto hE 23 rfl dX12_laysFits_66 ?_
        exact ok_sub [1, 2, 3, 0] rfl (hrec23 (v22, M21))
      refine ok_icmp_ne hE 57 rfl dX12_laysFits_49 ?_ ?_
      · refine ok_aload_n hE 0 rfl dX12_laysFits_57 ?_
        refine ok_iconst hE (2 : Int32) ki_2 dX12_laysFits_58 ?_
        refine ok_cvIp hE rmR_its [.int (2 : Int32)] [.int (((61 : Int32) * x3.2.1) + x17.1), .ref (E.Y.ad 24)] rfl ca_X12_321 shR_0 rfl (fun _ hx => mR_its hE.sys _ _ _ hx) ⟨rfl, rfl, rfl, rfl⟩ rfl rfl dX12_laysFits_59 (fun r23 => ?_)
        exact ok_sub [0, 1, 2, 3] rfl (hj62 r23)
      · refine ok_bipush hE (6 : Int32) kb_6 dX12_laysFits_52 ?_
        refine ok_goto hE 62 rfl dX12_laysFits_54 ?_
        exact ok_sub [0, 1, 2, 3] rfl (hj62 (6 : Int32))
theorem mR_laysFits {l : Launch} {Y : Sys} {t : Nat} (hY : SysOk Y t shR)   (M : Mm) (r : (Int32 × Mm)) (h : R_laysFits  M = some r) : Cm l Y t yX12_laysFits (WS yX12_laysFits cX12_laysFits 4 (some .int)) rmR_laysFits [.ref (Y.ad 0)] M (enI r) := by
  refine cm_of (own := RX12) hY rfl rfl (Nat.le_of_ble_eq_true rfl) (fun E hE e1 e2 e3 e4 => ?_)
  subst e1
  exact tR_laysFits E hE   M r h e4.symm
def R_fits  (M : Mm) : Option (Int32 × Mm) :=
 if (gI M 0 0) = 0 then
 (some ((-1 : Int32), M))
 else
 (bnd (R_laysFits M) fun r1 =>
 lett (0 : Int32) fun v2 =>
 lett (0 : Int32) fun v3 =>
 loopR (fun (rec18 : (Int32 × Int32) → Option (Int32 × Mm)) (x4 : Int32 × Int32) =>
 if (20 : Int32) < x4.2 then
 (some (x4.1, r1.2))
 else
 (ald x4.2 21 (lett (x4.1 ||| ((gI r1.2 25 (ix x4.2)) <<< (x4.2 &&& 31))) fun v5 =>
 lett (x4.2 + (1 : Int32)) fun v6 =>
 rec18 (v5, v6)))) 1000000 (v2, v3))
abbrev rmR_fits : Room := { frames := 8, cells := 0, slots := 0, locals := 182 }
set_option maxHeartbeats 4000000 in
set_option maxRecDepth 100000 in
theorem tR_fits (E : Cx) (hE : CxOk E cX12_fits RX12 shR (some .int) rmR_fits 3)   (M : Mm) : Ok E 0 [(0, .ref (E.Y.ad 0))] [] M (R_fits  M) (KI E) := by
  unfold R_fits
  refine ok_aload_n hE 0 rfl dX12_fits_0 ?_
  refine ok_getI hE fl_X12_7 shR_0 rfl dX12_fits_1 ?_
  refine ok_if_ne hE 9 rfl dX12_fits_4 ?_ ?_
  · refine ok_aload_n hE 0 rfl dX12_fits_9 ?_
    refine ok_cvI hE rmR_laysFits [] [] rfl ca_X12_435 shR_0 rfl (fun _ hx => mR_laysFits hE.sys  _ _ hx) ⟨rfl, rfl, rfl, rfl⟩ rfl rfl dX12_fits_10 (fun r1 => ?_)
    refine ok_pop hE rfl dX12_fits_13 ?_
    refine ok_iconst hE (0 : Int32) ki_0 dX12_fits_14 ?_
    refine ok_istore_n hE (fun v2 => [(1, .int v2), (0, .ref (E.Y.ad 0))]) (fun _ => rfl) rfl dX12_fits_15 (fun v2 => ?_)
    refine ok_iconst hE (0 : Int32) ki_0 dX12_fits_16 ?_
    refine ok_istore_n hE (fun v3 => [(2, .int v3), (1, .int v2), (0, .ref (E.Y.ad 0))]) (fun _ => rfl) rfl dX12_fits_17 (fun v3 => ?_)
    refine ok_sub [2, 1, 0] rfl (ok_loop (σ := Int32 × Int32) 18 (fun x4 => [(0, .ref (E.Y.ad 0)), (1, .int x4.1), (2, .int x4.2)]) (fun x4 => r1.2) (fun rec18 hrec18 x4 => ?_) 1000000 (v2, v3))
    refine ok_iload_n hE 2 rfl dX12_fits_18 ?_
    refine ok_bipush hE (20 : Int32) kb_20 dX12_fits_19 ?_
    refine ok_icmp_gt hE 41 rfl dX12_fits_21 ?_ ?_
    · refine ok_iload_n hE 1 rfl dX12_fits_41 ?_
      exact ok_ireturn hE dX12_fits_42
    · refine ok_iload_n hE 1 rfl dX12_fits_24 ?_
      refine ok_aload_n hE 0 rfl dX12_fits_25 ?_
      refine ok_getA hE fl_X12_208 shR_0 rfl dX12_fits_26 ?_
      refine ok_iload_n hE 2 rfl dX12_fits_29 ?_
      refine ok_iaload hE shR_25 dX12_fits_30 ?_
      refine ok_iload_n hE 2 rfl dX12_fits_31 ?_
      refine ok_ishl hE dX12_fits_32 ?_
      refine ok_ior hE dX12_fits_33 ?_
      refine ok_istore_n hE (fun v5 => [(1, .int v5), (0, .ref (E.Y.ad 0)), (2, .int x4.2)]) (fun _ => rfl) rfl dX12_fits_34 (fun v5 => ?_)
      refine ok_iinc hE 2 (x4.2 + (1 : Int32)) (by rw [ko_1]) (fun v6 => [(2, .int v6), (1, .int v5), (0, .ref (E.Y.ad 0))]) rfl (fun _ => rfl) rfl dX12_fits_35 (fun v6 => ?_)
      refine ok_goto hE 18 rfl dX12_fits_38 ?_
      exact ok_sub [2, 1, 0] rfl (hrec18 (v5, v6))
  · refine ok_iconst hE (-1 : Int32) ki_m1 dX12_fits_7 ?_
    exact ok_ireturn hE dX12_fits_8
theorem mR_fits {l : Launch} {Y : Sys} {t : Nat} (hY : SysOk Y t shR)   (M : Mm) (r : (Int32 × Mm)) (h : R_fits  M = some r) : Cm l Y t yX12_fits (WS yX12_fits cX12_fits 3 (some .int)) rmR_fits [.ref (Y.ad 0)] M (enI r) := by
  refine cm_of (own := RX12) hY rfl rfl (Nat.le_of_ble_eq_true rfl) (fun E hE e1 e2 e3 e4 => ?_)
  subst e1
  exact tR_fits E hE   M r h e4.symm
def R_mostBy (p1 : Int32) (M : Mm) : Option Int32 :=
 lett (0 : Int32) fun v1 =>
 lett (0 : Int32) fun v2 =>
 loopR (fun (rec4 : (Int32 × Int32) → Option Int32) (x3 : Int32 × Int32) =>
 if (6 : Int32) < x3.2 then
 (some x3.1)
 else
 (lett (0 : Int32) fun v4 =>
 lett (0 : Int32) fun v5 =>
 lett (fun (u_5 : Int32) =>
 bnd (R_greatest x3.1 u_5 M) fun r7 =>
 lett r7 fun v8 =>
 lett (x3.2 + (1 : Int32)) fun v9 =>
 rec4 (v8, v9)) fun j66 =>
 loopR (fun (rec16 : (Int32 × Int32) → Option Int32) (x10 : Int32 × Int32) =>
 if (20 : Int32) < x10.2 then
 (j66 x10.1)
 else
 (ald x10.2 21 (lett (fun (w_10 : Int32) =>
 lett (x10.1 + w_10) fun v12 =>
 lett (x10.2 + (1 : Int32)) fun v13 =>
 rec16 (v12, v13)) fun j57 =>
 lett (fun (_ : Unit) =>
 j57 (0 : Int32)) fun j56 =>
 if (gI M 25 (ix x10.2)) = (1 : Int32) then
 (ald (((61 : Int32) * x10.2) + p1) 1281 (if (gI M 24 (ix (((61 : Int32) * x10.2) + p1))) = x3.2 then
 (j57 (1 : Int32))
 else
 (j56 ())))
 else
 (j56 ())))) 1000000 (v4, v5))) 1000000 (v1, v2)
abbrev rmR_mostBy : Room := { frames := 1, cells := 0, slots := 0, locals := 21 }
set_option maxHeartbeats 4000000 in
set_option maxRecDepth 100000 in
theorem tR_mostBy (E : Cx) (hE : CxOk E cX12_mostBy RX12 shR (some .int) rmR_mostBy 6) (p1 : Int32)  (M : Mm) : Ok E 0 [(0, .ref (E.Y.ad 0)), (1, .int p1)] [] M (R_mostBy p1 M) (KIp E M) := by
  unfold R_mostBy
  refine ok_iconst hE (0 : Int32) ki_0 dX12_mostBy_0 ?_
  refine ok_istore_n hE (fun v1 => [(2, .int v1), (0, .ref (E.Y.ad 0)), (1, .int p1)]) (fun _ => rfl) rfl dX12_mostBy_1 (fun v1 => ?_)
  refine ok_iconst hE (0 : Int32) ki_0 dX12_mostBy_2 ?_
  refine ok_istore_n hE (fun v2 => [(3, .int v2), (2, .int v1), (0, .ref (E.Y.ad 0)), (1, .int p1)]) (fun _ => rfl) rfl dX12_mostBy_3 (fun v2 => ?_)
  refine ok_sub [2, 3, 1, 0] rfl (ok_loop (σ := Int32 × Int32) 4 (fun x3 => [(0, .ref (E.Y.ad 0)), (1, .int p1), (2, .int x3.1), (3, .int x3.2)]) (fun x3 => M) (fun rec4 hrec4 x3 => ?_) 1000000 (v1, v2))
  refine ok_iload_n hE 3 rfl dX12_mostBy_4 ?_
  refine ok_bipush hE (6 : Int32) kb_6 dX12_mostBy_5 ?_
  refine ok_icmp_gt hE 79 rfl dX12_mostBy_7 ?_ ?_
  · refine ok_iload_n hE 2 rfl dX12_mostBy_79 ?_
    exact ok_ireturnP hE dX12_mostBy_80
  · refine ok_iconst hE (0 : Int32) ki_0 dX12_mostBy_10 ?_
    refine ok_istore hE (fun v4 => [(4, .int v4), (0, .ref (E.Y.ad 0)), (1, .int p1), (2, .int x3.1), (3, .int x3.2)]) (fun _ => rfl) rfl dX12_mostBy_11 (fun v4 => ?_)
    refine ok_iconst hE (0 : Int32) ki_0 dX12_mostBy_13 ?_
    refine ok_istore hE (fun v5 => [(5, .int v5), (4, .int v4), (0, .ref (E.Y.ad 0)), (1, .int p1), (2, .int x3.1), (3, .int x3.2)]) (fun _ => rfl) rfl dX12_mostBy_14 (fun v5 => ?_)
    refine ok_fun (fun j => ∀ (u_5 : Int32), Ok E 66 [(0, .ref (E.Y.ad 0)), (1, .int p1), (2, .int x3.1), (3, .int x3.2), (4, .int u_5)] [] M (j u_5) (KIp E M)) (fun u_5 => ?_) (fun j66 hj66 => ?_)
    · refine ok_iload_n hE 2 rfl dX12_mostBy_66 ?_
      refine ok_iload hE 4 rfl dX12_mostBy_67 ?_
      refine ok_csIp hE rmR_greatest [.int x3.1, .int u_5] [] rfl ca_X12_384 (fun _ hx => mR_greatest hE.sys _ _ _ _ hx) ⟨rfl, rfl, rfl, rfl⟩ rfl rfl dX12_mostBy_69 (fun r7 => ?_)
      refine ok_istore_n hE (fun v8 => [(2, .int v8), (0, .ref (E.Y.ad 0)), (1, .int p1), (3, .int x3.2), (4, .int u_5)]) (fun _ => rfl) rfl dX12_mostBy_72 (fun v8 => ?_)
      refine ok_iinc hE 3 (x3.2 + (1 : Int32)) (by rw [ko_1]) (fun v9 => [(3, .int v9), (2, .int v8), (0, .ref (E.Y.ad 0)), (1, .int p1), (4, .int u_5)]) rfl (fun _ => rfl) rfl dX12_mostBy_73 (fun v9 => ?_)
      refine ok_goto hE 4 rfl dX12_mostBy_76 ?_
      exact ok_sub [2, 3, 1, 0] rfl (hrec4 (v8, v9))
    refine ok_sub [2, 3, 4, 5, 1, 0] rfl (ok_loop (σ := Int32 × Int32) 16 (fun x10 => [(0, .ref (E.Y.ad 0)), (1, .int p1), (2, .int x3.1), (3, .int x3.2), (4, .int x10.1), (5, .int x10.2)]) (fun x10 => M) (fun rec16 hrec16 x10 => ?_) 1000000 (v4, v5))
    refine ok_iload hE 5 rfl dX12_mostBy_16 ?_
    refine ok_bipush hE (20 : Int32) kb_20 dX12_mostBy_18 ?_
    refine ok_icmp_gt hE 66 rfl dX12_mostBy_20 ?_ ?_
    · exact ok_sub [0, 1, 2, 3, 4] rfl (hj66 x10.1)
    · refine ok_iload hE 4 rfl dX12_mostBy_23 ?_
      refine ok_aload_n hE 0 rfl dX12_mostBy_25 ?_
      refine ok_getA hE fl_X12_208 shR_0 rfl dX12_mostBy_26 ?_
      refine ok_iload hE 5 rfl dX12_mostBy_29 ?_
      refine ok_iaload hE shR_25 dX12_mostBy_31 ?_
      refine ok_iconst hE (1 : Int32) ki_1 dX12_mostBy_32 ?_
      refine ok_fun (fun j => ∀ (w_10 : Int32), Ok E 57 [(0, .ref (E.Y.ad 0)), (1, .int p1), (2, .int x3.1), (3, .int x3.2), (5, .int x10.2)] [.int w_10, .int x10.1] M (j w_10) (KIp E M)) (fun w_10 => ?_) (fun j57 hj57 => ?_)
      · refine ok_iadd hE dX12_mostBy_57 ?_
        refine ok_istore hE (fun v12 => [(4, .int v12), (0, .ref (E.Y.ad 0)), (1, .int p1), (2, .int x3.1), (3, .int x3.2), (5, .int x10.2)]) (fun _ => rfl) rfl dX12_mostBy_58 (fun v12 => ?_)
        refine ok_iinc hE 5 (x10.2 + (1 : Int32)) (by rw [ko_1]) (fun v13 => [(5, .int v13), (4, .int v12), (0, .ref (E.Y.ad 0)), (1, .int p1), (2, .int x3.1), (3, .int x3.2)]) rfl (fun _ => rfl) rfl dX12_mostBy_60 (fun v13 => ?_)
        refine ok_goto hE 16 rfl dX12_mostBy_63 ?_
        exact ok_sub [2, 3, 4, 5, 1, 0] rfl (hrec16 (v12, v13))
      refine ok_fun (fun j => ∀ (_ : Unit), Ok E 56 [(0, .ref (E.Y.ad 0)), (1, .int p1), (2, .int x3.1), (3, .int x3.2), (5, .int x10.2)] [.int x10.1] M (j ()) (KIp E M)) (fun _ => ?_) (fun j56 hj56 => ?_)
      · refine ok_iconst hE (0 : Int32) ki_0 dX12_mostBy_56 ?_
        exact ok_sub [0, 1, 2, 3, 4] rfl (hj57 (0 : Int32))
      refine ok_icmp_ne hE 56 rfl dX12_mostBy_33 ?_ ?_
      · exact ok_sub [0, 1, 2, 3, 5] rfl (hj56 ())
      · refine ok_aload_n hE 0 rfl dX12_mostBy_36 ?_
        refine ok_getA hE fl_X12_205 shR_0 rfl dX12_mostBy_37 ?_
        refine ok_bipush hE (61 : Int32) kb_61 dX12_mostBy_40 ?_
        refine ok_iload hE 5 rfl dX12_mostBy_42 ?_
        refine ok_imul hE dX12_mostBy_44 ?_
        refine ok_iload_n hE 1 rfl dX12_mostBy_45 ?_
        refine ok_iadd hE dX12_mostBy_46 ?_
        refine ok_iaload hE shR_24 dX12_mostBy_47 ?_
        refine ok_iload_n hE 3 rfl dX12_mostBy_48 ?_
        refine ok_icmp_ne hE 56 rfl dX12_mostBy_49 ?_ ?_
        · exact ok_sub [0, 1, 2, 3, 5] rfl (hj56 ())
        · refine ok_iconst hE (1 : Int32) ki_1 dX12_mostBy_52 ?_
          refine ok_goto hE 57 rfl dX12_mostBy_53 ?_
          exact ok_sub [0, 1, 2, 3, 5] rfl (hj57 (1 : Int32))
theorem mR_mostBy {l : Launch} {Y : Sys} {t : Nat} (hY : SysOk Y t shR) (p1 : Int32)  (M : Mm) (r : Int32) (h : R_mostBy p1 M = some r) : Cm l Y t yX12_mostBy (WS yX12_mostBy cX12_mostBy 6 (some .int)) rmR_mostBy [.ref (Y.ad 0), .int p1] M ((some (.int r), M)) := by
  refine cm_of (own := RX12) hY rfl rfl (Nat.le_of_ble_eq_true rfl) (fun E hE e1 e2 e3 e4 => ?_)
  subst e1
  exact tR_mostBy E hE p1  M r h e4.symm
def R_tells (p1 : Int32) (M : Mm) : Option (Int32 × Mm) :=
 if (gI M 0 0) = 0 then
 (some ((-1 : Int32), M))
 else
 (bnd (R_isIn p1 (0 : Int32) (1 : Int32) M) fun r1 =>
 if r1 = 0 then
 (some ((-1 : Int32), M))
 else
 (bnd (R_laysFits M) fun r2 =>
 if r2.1 = 0 then
 (some ((-1 : Int32), r2.2))
 else
 (lett (-1 : Int32) fun v3 =>
 lett (1000000000 : Int32) fun v4 =>
 lett (1 : Int32) fun v5 =>
 lett (fun (u_5 : Int32) (u_6 : Int32) =>
 if p1 = 0 then
 (some (u_5, r2.2))
 else
 (some (u_6, r2.2))) fun j70 =>
 loopR (fun (rec34 : (Int32 × Int32 × Int32) → Option (Int32 × Mm)) (x8 : Int32 × Int32 × Int32) =>
 if (60 : Int32) < x8.2.2 then
 (j70 x8.1 x8.2.1)
 else
 (bnd (R_mostBy x8.2.2 r2.2) fun r9 =>
 lett r9 fun v10 =>
 lett (fun (u_10 : Int32) (u_11 : Int32) =>
 lett (x8.2.2 + (1 : Int32)) fun v13 =>
 rec34 (u_10, u_11, v13)) fun j64 =>
 if v10 < x8.2.1 then
 (lett x8.2.2 fun v14 =>
 lett v10 fun v15 =>
 j64 v14 v15)
 else
 (j64 x8.1 x8.2.1))) 1000000 (v3, v4, v5))))
abbrev rmR_tells : Room := { frames := 8, cells := 0, slots := 0, locals := 182 }
set_option maxHeartbeats 4000000 in
set_option maxRecDepth 100000 in
theorem tR_tells (E : Cx) (hE : CxOk E cX12_tells RX12 shR (some .int) rmR_tells 6) (p1 : Int32)  (M : Mm) : Ok E 0 [(0, .ref (E.Y.ad 0)), (1, .int p1)] [] M (R_tells p1 M) (KI E) := by
  unfold R_tells
  refine ok_aload_n hE 0 rfl dX12_tells_0 ?_
  refine ok_getI hE fl_X12_7 shR_0 rfl dX12_tells_1 ?_
  refine ok_if_eq hE 23 rfl dX12_tells_4 ?_ ?_
  · refine ok_iconst hE (-1 : Int32) ki_m1 dX12_tells_23 ?_
    exact ok_ireturn hE dX12_tells_24
  · refine ok_iload_n hE 1 rfl dX12_tells_7 ?_
    refine ok_iconst hE (0 : Int32) ki_0 dX12_tells_8 ?_
    refine ok_iconst hE (1 : Int32) ki_1 dX12_tells_9 ?_
    refine ok_csIp hE rmR_isIn [.int p1, .int (0 : Int32), .int (1 : Int32)] [] rfl ca_X12_262 (fun _ hx => mR_isIn hE.sys _ _ _ _ _ hx) ⟨rfl, rfl, rfl, rfl⟩ rfl rfl dX12_tells_10 (fun r1 => ?_)
    refine ok_if_eq hE 23 rfl dX12_tells_13 ?_ ?_
    · refine ok_iconst hE (-1 : Int32) ki_m1 dX12_tells_23 ?_
      exact ok_ireturn hE dX12_tells_24
    · refine ok_aload_n hE 0 rfl dX12_tells_16 ?_
      refine ok_cvI hE rmR_laysFits [] [] rfl ca_X12_435 shR_0 rfl (fun _ hx => mR_laysFits hE.sys  _ _ hx) ⟨rfl, rfl, rfl, rfl⟩ rfl rfl dX12_tells_17 (fun r2 => ?_)
      refine ok_if_ne hE 25 rfl dX12_tells_20 ?_ ?_
      · refine ok_iconst hE (-1 : Int32) ki_m1 dX12_tells_25 ?_
        refine ok_istore_n hE (fun v3 => [(2, .int v3), (0, .ref (E.Y.ad 0)), (1, .int p1)]) (fun _ => rfl) rfl dX12_tells_26 (fun v3 => ?_)
        refine ok_ldcw hE ct_X12_434 dX12_tells_27 ?_
        refine ok_istore_n hE (fun v4 => [(3, .int v4), (2, .int v3), (0, .ref (E.Y.ad 0)), (1, .int p1)]) (fun _ => rfl) rfl dX12_tells_30 (fun v4 => ?_)
        refine ok_iconst hE (1 : Int32) ki_1 dX12_tells_31 ?_
        refine ok_istore hE (fun v5 => [(4, .int v5), (3, .int v4), (2, .int v3), (0, .ref (E.Y.ad 0)), (1, .int p1)]) (fun _ => rfl) rfl dX12_tells_32 (fun v5 => ?_)
        refine ok_fun (fun j => ∀ (u_5 : Int32) (u_6 : Int32), Ok E 70 [(1, .int p1), (2, .int u_5), (3, .int u_6)] [] r2.2 (j u_5 u_6) (KI E)) (fun u_5 u_6 => ?_) (fun j70 hj70 => ?_)
        · refine ok_iload_n hE 0 rfl dX12_tells_70 ?_
          refine ok_if_ne hE 78 rfl dX12_tells_71 ?_ ?_
          · refine ok_iload_n hE 2 rfl dX12_tells_78 ?_
            exact ok_ireturn hE dX12_tells_79
          · refine ok_iload_n hE 1 rfl dX12_tells_74 ?_
            refine ok_goto hE 79 rfl dX12_tells_75 ?_
            exact ok_ireturn hE dX12_tells_79
        refine ok_sub [3, 4, 2, 1, 0] rfl (ok_loop (σ := Int32 × Int32 × Int32) 34 (fun x8 => [(0, .ref (E.Y.ad 0)), (1, .int p1), (2, .int x8.1), (3, .int x8.2.1), (4, .int x8.2.2)]) (fun x8 => r2.2) (fun rec34 hrec34 x8 => ?_) 1000000 (v3, v4, v5))
        refine ok_iload hE 4 rfl dX12_tells_34 ?_
        refine ok_bipush hE (60 : Int32) kb_60 dX12_tells_36 ?_
        refine ok_icmp_gt hE 70 rfl dX12_tells_38 ?_ ?_
        · exact ok_sub [1, 2, 3] rfl (hj70 x8.1 x8.2.1)
        · refine ok_aload_n hE 0 rfl dX12_tells_41 ?_
          refine ok_iload hE 4 rfl dX12_tells_42 ?_
          refine ok_cvIp hE rmR_mostBy [.int x8.2.2] [] rfl ca_X12_438 shR_0 rfl (fun _ hx => mR_mostBy hE.sys _ _ _ hx) ⟨rfl, rfl, rfl, rfl⟩ rfl rfl dX12_tells_44 (fun r9 => ?_)
          refine ok_istore hE (fun v10 => [(5, .int v10), (0, .ref (E.Y.ad 0)), (1, .int p1), (2, .int x8.1), (3, .int x8.2.1), (4, .int x8.2.2)]) (fun _ => rfl) rfl dX12_tells_47 (fun v10 => ?_)
          refine ok_iload hE 0 rfl dX12_tells_49 ?_
          refine ok_iload_n hE 4 rfl dX12_tells_51 ?_
          refine ok_fun (fun j => ∀ (u_10 : Int32) (u_11 : Int32), Ok E 64 [(0, .ref (E.Y.ad 0)), (1, .int p1), (2, .int u_10), (3, .int u_11), (4, .int x8.2.2)] [] r2.2 (j u_10 u_11) (KI E)) (fun u_10 u_11 => ?_) (fun j64 hj64 => ?_)
          · refine ok_iinc hE 4 (x8.2.2 + (1 : Int32)) (by rw [ko_1]) (fun v13 => [(4, .int v13), (0, .ref (E.Y.ad 0)), (1, .int p1), (2, .int u_10), (3, .int u_11)]) rfl (fun _ => rfl) rfl dX12_tells_64 (fun v13 => ?_)
            refine ok_goto hE 34 rfl dX12_tells_67 ?_
            exact ok_sub [1, 2, 3, 4, 0] rfl (hrec34 (u_10, u_11, v13))
          refine ok_icmp_lt hE 58 rfl dX12_tells_52 ?_ ?_
          · refine ok_iload hE 5 rfl dX12_tells_58 ?_
            refine ok_istore_n hE (fun v14 => [(2, .int v14), (5, .int v10), (0, .ref (E.Y.ad 0)), (1, .int p1), (3, .int x8.2.1), (4, .int x8.2.2)]) (fun _ => rfl) rfl dX12_tells_60 (fun v14 => ?_)
            refine ok_iload hE 1 rfl dX12_tells_61 ?_
            refine ok_istore_n hE (fun v15 => [(3, .int v15), (2, .int v14), (5, .int v10), (0, .ref (E.Y.ad 0)), (1, .int p1), (4, .int x8.2.2)]) (fun _ => rfl) rfl dX12_tells_63 (fun v15 => ?_)
            exact ok_sub [3, 4, 1, 0, 5] rfl (hj64 v14 v15)
          · refine ok_goto hE 64 rfl dX12_tells_55 ?_
            exact ok_sub [1, 2, 3, 4, 5] rfl (hj64 x8.1 x8.2.1)
      · refine ok_iconst hE (-1 : Int32) ki_m1 dX12_tells_23 ?_
        exact ok_ireturn hE dX12_tells_24
theorem mR_tells {l : Launch} {Y : Sys} {t : Nat} (hY : SysOk Y t shR) (p1 : Int32)  (M : Mm) (r : (Int32 × Mm)) (h : R_tells p1 M = some r) : Cm l Y t yX12_tells (WS yX12_tells cX12_tells 6 (some .int)) rmR_tells [.ref (Y.ad 0), .int p1] M (enI r) := by
  refine cm_of (own := RX12) hY rfl rfl (Nat.le_of_ble_eq_true rfl) (fun E hE e1 e2 e3 e4 => ?_)
  subst e1
  exact tR_tells E hE p1  M r h e4.symm
def R_remembers  (M : Mm) : Option Mm :=
 bnd (R_isNow M) fun M1 =>
 lett (fun (M_1 : Mm) =>
 lett (0 : Int32) fun v3 =>
 lett (fun (M_3 : Mm) =>
 lett (0 : Int32) fun v5 =>
 lett (fun (M_5 : Mm) =>
 lett (sI M_5 0 55 ((gI M_5 0 55) + (1 : Int32))) fun M7 =>
 some M7) fun j154 =>
 loopR (fun (rec122 : (Int32 × Mm) → Option Mm) (x8 : Int32 × Mm) =>
 if (20 : Int32) ≤ x8.1 then
 (j154 x8.2)
 else
 (ald x8.1 40 (ald (((20 : Int32) * (gI x8.2 0 55)) + x8.1) 400 (lett (sF x8.2 19 (ix (((20 : Int32) * (gI x8.2 0 55)) + x8.1)) (gF x8.2 17 (ix x8.1))) fun M9 =>
 lett (x8.1 + (1 : Int32)) fun v10 =>
 rec122 (v10, M9))))) 1000000 (v5, M_3)) fun j120 =>
 loopR (fun (rec86 : (Int32 × Mm) → Option Mm) (x11 : Int32 × Mm) =>
 if (758 : Int32) ≤ x11.1 then
 (j120 x11.2)
 else
 (ald x11.1 1516 (ald (((758 : Int32) * (gI x11.2 0 55)) + x11.1) 15160 (lett (sI x11.2 18 (ix (((758 : Int32) * (gI x11.2 0 55)) + x11.1)) (gI x11.2 16 (ix x11.1))) fun M12 =>
 lett (x11.1 + (1 : Int32)) fun v13 =>
 rec86 (v13, M12))))) 1000000 (v3, M_1)) fun j84 =>
 if (gI M1 0 55) = (20 : Int32) then
 (lett (0 : Int32) fun v14 =>
 lett (fun (M_14 : Mm) =>
 lett (0 : Int32) fun v16 =>
 lett (fun (M_16 : Mm) =>
 lett (sI M_16 0 55 ((gI M_16 0 55) - (1 : Int32))) fun M18 =>
 j84 M18) fun j74 =>
 loopR (fun (rec46 : (Int32 × Mm) → Option Mm) (x19 : Int32 × Mm) =>
 if (380 : Int32) ≤ x19.1 then
 (j74 x19.2)
 else
 (ald (x19.1 + (20 : Int32)) 400 (ald x19.1 400 (lett (sF x19.2 19 (ix x19.1) (gF x19.2 19 (ix (x19.1 + (20 : Int32))))) fun M20 =>
 lett (x19.1 + (1 : Int32)) fun v21 =>
 rec46 (v21, M20))))) 1000000 (v16, M_14)) fun j44 =>
 loopR (fun (rec15 : (Int32 × Mm) → Option Mm) (x22 : Int32 × Mm) =>
 if (14402 : Int32) ≤ x22.1 then
 (j44 x22.2)
 else
 (ald (x22.1 + (758 : Int32)) 15160 (ald x22.1 15160 (lett (sI x22.2 18 (ix x22.1) (gI x22.2 18 (ix (x22.1 + (758 : Int32))))) fun M23 =>
 lett (x22.1 + (1 : Int32)) fun v24 =>
 rec15 (v24, M23))))) 1000000 (v14, M1))
 else
 (j84 M1)
abbrev rmR_remembers : Room := { frames := 1, cells := 0, slots := 0, locals := 20 }
set_option maxHeartbeats 4000000 in
set_option maxRecDepth 100000 in
theorem tR_remembers (E : Cx) (hE : CxOk E cX12_remembers RX12 shR none rmR_remembers 2)   (M : Mm) : Ok E 0 [(0, .ref (E.Y.ad 0))] [] M (R_remembers  M) (KV E) := by
  unfold R_remembers
  refine ok_aload_n hE 0 rfl dX12_remembers_0 ?_
  refine ok_cvV hE rmR_isNow [] [] rfl ca_X12_324 shR_0 rfl (fun _ hx => mR_isNow hE.sys  _ _ hx) ⟨rfl, rfl, rfl, rfl⟩ rfl rfl dX12_remembers_1 (fun M1 => ?_)
  refine ok_aload_n hE 0 rfl dX12_remembers_4 ?_
  refine ok_getI hE fl_X12_178 shR_0 rfl dX12_remembers_5 ?_
  refine ok_bipush hE (20 : Int32) kb_20 dX12_remembers_8 ?_
  refine ok_fun (fun j => ∀ (M_1 : Mm), Ok E 84 [(0, .ref (E.Y.ad 0))] [] M_1 (j M_1) (KV E)) (fun M_1 => ?_) (fun j84 hj84 => ?_)
  · refine ok_iconst hE (0 : Int32) ki_0 dX12_remembers_84 ?_
    refine ok_istore_n hE (fun v3 => [(1, .int v3), (0, .ref (E.Y.ad 0))]) (fun _ => rfl) rfl dX12_remembers_85 (fun v3 => ?_)
    refine ok_fun (fun j => ∀ (M_3 : Mm), Ok E 120 [(0, .ref (E.Y.ad 0))] [] M_3 (j M_3) (KV E)) (fun M_3 => ?_) (fun j120 hj120 => ?_)
    · refine ok_iconst hE (0 : Int32) ki_0 dX12_remembers_120 ?_
      refine ok_istore_n hE (fun v5 => [(1, .int v5), (0, .ref (E.Y.ad 0))]) (fun _ => rfl) rfl dX12_remembers_121 (fun v5 => ?_)
      refine ok_fun (fun j => ∀ (M_5 : Mm), Ok E 154 [(0, .ref (E.Y.ad 0))] [] M_5 (j M_5) (KV E)) (fun M_5 => ?_) (fun j154 hj154 => ?_)
      · refine ok_aload_n hE 0 rfl dX12_remembers_154 ?_
        refine ok_dup hE rfl dX12_remembers_155 ?_
        refine ok_getI hE fl_X12_178 shR_0 rfl dX12_remembers_156 ?_
        refine ok_iconst hE (1 : Int32) ki_1 dX12_remembers_159 ?_
        refine ok_iadd hE dX12_remembers_160 ?_
        refine ok_putI hE fl_X12_178 shR_0 rfl dX12_remembers_161 (fun M7 => ?_)
        exact ok_return hE dX12_remembers_164
      refine ok_sub [1, 0] rfl (ok_loop (σ := Int32 × Mm) 122 (fun x8 => [(0, .ref (E.Y.ad 0)), (1, .int x8.1)]) (fun x8 => x8.2) (fun rec122 hrec122 x8 => ?_) 1000000 (v5, M_3))
      refine ok_iload_n hE 1 rfl dX12_remembers_122 ?_
      refine ok_bipush hE (20 : Int32) kb_20 dX12_remembers_123 ?_
      refine ok_icmp_ge hE 154 rfl dX12_remembers_125 ?_ ?_
      · exact ok_sub [0] rfl (hj154 x8.2)
      · refine ok_aload_n hE 0 rfl dX12_remembers_128 ?_
        refine ok_getA hE fl_X12_169 shR_0 rfl dX12_remembers_129 ?_
        refine ok_bipush hE (20 : Int32) kb_20 dX12_remembers_132 ?_
        refine ok_aload_n hE 0 rfl dX12_remembers_134 ?_
        refine ok_getI hE fl_X12_178 shR_0 rfl dX12_remembers_135 ?_
        refine ok_imul hE dX12_remembers_138 ?_
        refine ok_iload_n hE 1 rfl dX12_remembers_139 ?_
        refine ok_iadd hE dX12_remembers_140 ?_
        refine ok_aload_n hE 0 rfl dX12_remembers_141 ?_
        refine ok_getA hE fl_X12_162 shR_0 rfl dX12_remembers_142 ?_
        refine ok_iload_n hE 1 rfl dX12_remembers_145 ?_
        refine ok_faload hE shR_17 dX12_remembers_146 ?_
        refine ok_fastore hE shR_19 dX12_remembers_147 (fun M9 => ?_)
        refine ok_iinc hE 1 (x8.1 + (1 : Int32)) (by rw [ko_1]) (fun v10 => [(1, .int v10), (0, .ref (E.Y.ad 0))]) rfl (fun _ => rfl) rfl dX12_remembers_148 (fun v10 => ?_)
        refine ok_goto hE 122 rfl dX12_remembers_151 ?_
        exact ok_sub [1, 0] rfl (hrec122 (v10, M9))
    refine ok_sub [1, 0] rfl (ok_loop (σ := Int32 × Mm) 86 (fun x11 => [(0, .ref (E.Y.ad 0)), (1, .int x11.1)]) (fun x11 => x11.2) (fun rec86 hrec86 x11 => ?_) 1000000 (v3, M_1))
    refine ok_iload_n hE 1 rfl dX12_remembers_86 ?_
    refine ok_sipush hE (758 : Int32) ks_758 dX12_remembers_87 ?_
    refine ok_icmp_ge hE 120 rfl dX12_remembers_90 ?_ ?_
    · exact ok_sub [0] rfl (hj120 x11.2)
    · refine ok_aload_n hE 0 rfl dX12_remembers_93 ?_
      refine ok_getA hE fl_X12_166 shR_0 rfl dX12_remembers_94 ?_
      refine ok_sipush hE (758 : Int32) ks_758 dX12_remembers_97 ?_
      refine ok_aload_n hE 0 rfl dX12_remembers_100 ?_
      refine ok_getI hE fl_X12_178 shR_0 rfl dX12_remembers_101 ?_
      refine ok_imul hE dX12_remembers_104 ?_
      refine ok_iload_n hE 1 rfl dX12_remembers_105 ?_
      refine ok_iadd hE dX12_remembers_106 ?_
      refine ok_aload_n hE 0 rfl dX12_remembers_107 ?_
      refine ok_getA hE fl_X12_159 shR_0 rfl dX12_remembers_108 ?_
      refine ok_iload_n hE 1 rfl dX12_remembers_111 ?_
      refine ok_iaload hE shR_16 dX12_remembers_112 ?_
      refine ok_iastore hE shR_18 dX12_remembers_113 (fun M12 => ?_)
      refine ok_iinc hE 1 (x11.1 + (1 : Int32)) (by rw [ko_1]) (fun v13 => [(1, .int v13), (0, .ref (E.Y.ad 0))]) rfl (fun _ => rfl) rfl dX12_remembers_114 (fun v13 => ?_)
      refine ok_goto hE 86 rfl dX12_remembers_117 ?_
      exact ok_sub [1, 0] rfl (hrec86 (v13, M12))
  refine ok_icmp_ne hE 84 rfl dX12_remembers_10 ?_ ?_
  · exact ok_sub [0] rfl (hj84 M1)
  · refine ok_iconst hE (0 : Int32) ki_0 dX12_remembers_13 ?_
    refine ok_istore_n hE (fun v14 => [(1, .int v14), (0, .ref (E.Y.ad 0))]) (fun _ => rfl) rfl dX12_remembers_14 (fun v14 => ?_)
    refine ok_fun (fun j => ∀ (M_14 : Mm), Ok E 44 [(0, .ref (E.Y.ad 0))] [] M_14 (j M_14) (KV E)) (fun M_14 => ?_) (fun j44 hj44 => ?_)
    · refine ok_iconst hE (0 : Int32) ki_0 dX12_remembers_44 ?_
      refine ok_istore_n hE (fun v16 => [(1, .int v16), (0, .ref (E.Y.ad 0))]) (fun _ => rfl) rfl dX12_remembers_45 (fun v16 => ?_)
      refine ok_fun (fun j => ∀ (M_16 : Mm), Ok E 74 [(0, .ref (E.Y.ad 0))] [] M_16 (j M_16) (KV E)) (fun M_16 => ?_) (fun j74 hj74 => ?_)
      · refine ok_aload_n hE 0 rfl dX12_remembers_74 ?_
        refine ok_dup hE rfl dX12_remembers_75 ?_
        refine ok_getI hE fl_X12_178 shR_0 rfl dX12_remembers_76 ?_
        refine ok_iconst hE (1 : Int32) ki_1 dX12_remembers_79 ?_
        refine ok_isub hE dX12_remembers_80 ?_
        refine ok_putI hE fl_X12_178 shR_0 rfl dX12_remembers_81 (fun M18 => ?_)
        exact ok_sub [0] rfl (hj84 M18)
      refine ok_sub [1, 0] rfl (ok_loop (σ := Int32 × Mm) 46 (fun x19 => [(0, .ref (E.Y.ad 0)), (1, .int x19.1)]) (fun x19 => x19.2) (fun rec46 hrec46 x19 => ?_) 1000000 (v16, M_14))
      refine ok_iload_n hE 1 rfl dX12_remembers_46 ?_
      refine ok_sipush hE (380 : Int32) ks_380 dX12_remembers_47 ?_
      refine ok_icmp_ge hE 74 rfl dX12_remembers_50 ?_ ?_
      · exact ok_sub [0] rfl (hj74 x19.2)
      · refine ok_aload_n hE 0 rfl dX12_remembers_53 ?_
        refine ok_getA hE fl_X12_169 shR_0 rfl dX12_remembers_54 ?_
        refine ok_iload_n hE 1 rfl dX12_remembers_57 ?_
        refine ok_aload_n hE 0 rfl dX12_remembers_58 ?_
        refine ok_getA hE fl_X12_169 shR_0 rfl dX12_remembers_59 ?_
        refine ok_iload_n hE 1 rfl dX12_remembers_62 ?_
        refine ok_bipush hE (20 : Int32) kb_20 dX12_remembers_63 ?_
        refine ok_iadd hE dX12_remembers_65 ?_
        refine ok_faload hE shR_19 dX12_remembers_66 ?_
        refine ok_fastore hE shR_19 dX12_remembers_67 (fun M20 => ?_)
        refine ok_iinc hE 1 (x19.1 + (1 : Int32)) (by rw [ko_1]) (fun v21 => [(1, .int v21), (0, .ref (E.Y.ad 0))]) rfl (fun _ => rfl) rfl dX12_remembers_68 (fun v21 => ?_)
        refine ok_goto hE 46 rfl dX12_remembers_71 ?_
        exact ok_sub [1, 0] rfl (hrec46 (v21, M20))
    refine ok_sub [1, 0] rfl (ok_loop (σ := Int32 × Mm) 15 (fun x22 => [(0, .ref (E.Y.ad 0)), (1, .int x22.1)]) (fun x22 => x22.2) (fun rec15 hrec15 x22 => ?_) 1000000 (v14, M1))
    refine ok_iload_n hE 1 rfl dX12_remembers_15 ?_
    refine ok_sipush hE (14402 : Int32) ks_14402 dX12_remembers_16 ?_
    refine ok_icmp_ge hE 44 rfl dX12_remembers_19 ?_ ?_
    · exact ok_sub [0] rfl (hj44 x22.2)
    · refine ok_aload_n hE 0 rfl dX12_remembers_22 ?_
      refine ok_getA hE fl_X12_166 shR_0 rfl dX12_remembers_23 ?_
      refine ok_iload_n hE 1 rfl dX12_remembers_26 ?_
      refine ok_aload_n hE 0 rfl dX12_remembers_27 ?_
      refine ok_getA hE fl_X12_166 shR_0 rfl dX12_remembers_28 ?_
      refine ok_iload_n hE 1 rfl dX12_remembers_31 ?_
      refine ok_sipush hE (758 : Int32) ks_758 dX12_remembers_32 ?_
      refine ok_iadd hE dX12_remembers_35 ?_
      refine ok_iaload hE shR_18 dX12_remembers_36 ?_
      refine ok_iastore hE shR_18 dX12_remembers_37 (fun M23 => ?_)
      refine ok_iinc hE 1 (x22.1 + (1 : Int32)) (by rw [ko_1]) (fun v24 => [(1, .int v24), (0, .ref (E.Y.ad 0))]) rfl (fun _ => rfl) rfl dX12_remembers_38 (fun v24 => ?_)
      refine ok_goto hE 15 rfl dX12_remembers_41 ?_
      exact ok_sub [1, 0] rfl (hrec15 (v24, M23))
theorem mR_remembers {l : Launch} {Y : Sys} {t : Nat} (hY : SysOk Y t shR)   (M : Mm) (r : Mm) (h : R_remembers  M = some r) : Cm l Y t yX12_remembers (WS yX12_remembers cX12_remembers 2 none) rmR_remembers [.ref (Y.ad 0)] M (enV r) := by
  refine cm_of (own := RX12) hY rfl rfl (Nat.le_of_ble_eq_true rfl) (fun E hE e1 e2 e3 e4 => ?_)
  subst e1
  exact tR_remembers E hE   M r h e4.symm
def R_ticks (p1 : Int32) (M : Mm) : Option (Int32 × Mm) :=
 bnd (R_isNow M) fun M1 =>
 lett (fun (_ : Unit) =>
 bnd (R_refuses (2 : Int32) M1) fun r2 =>
 some (r2.1, r2.2)) fun j35 =>
 if (gI M1 0 0) = 0 then
 (j35 ())
 else
 (bnd (R_isIn p1 (1 : Int32) (200 : Int32) M1) fun r3 =>
 if r3 = 0 then
 (j35 ())
 else
 (bnd (R_its (0 : Int32) M1) fun r4 =>
 if (r4 + p1) ≤ (9999 : Int32) then
 (bnd (R_remembers M1) fun M5 =>
 bnd (R_goesOnFor p1 M5) fun M6 =>
 bnd (R_its (0 : Int32) M6) fun r7 =>
 some (r7, M6))
 else
 (j35 ())))
abbrev rmR_ticks : Room := { frames := 8, cells := 0, slots := 0, locals := 181 }
set_option maxHeartbeats 4000000 in
set_option maxRecDepth 100000 in
theorem tR_ticks (E : Cx) (hE : CxOk E cX12_ticks RX12 shR (some .int) rmR_ticks 2) (p1 : Int32)  (M : Mm) : Ok E 0 [(0, .ref (E.Y.ad 0)), (1, .int p1)] [] M (R_ticks p1 M) (KI E) := by
  unfold R_ticks
  refine ok_aload_n hE 0 rfl dX12_ticks_0 ?_
  refine ok_cvV hE rmR_isNow [] [] rfl ca_X12_324 shR_0 rfl (fun _ hx => mR_isNow hE.sys  _ _ hx) ⟨rfl, rfl, rfl, rfl⟩ rfl rfl dX12_ticks_1 (fun M1 => ?_)
  refine ok_aload_n hE 0 rfl dX12_ticks_4 ?_
  refine ok_getI hE fl_X12_7 shR_0 rfl dX12_ticks_5 ?_
  refine ok_fun (fun j => ∀ (_ : Unit), Ok E 35 [(0, .ref (E.Y.ad 0))] [] M1 (j ()) (KI E)) (fun _ => ?_) (fun j35 hj35 => ?_)
  · refine ok_aload_n hE 0 rfl dX12_ticks_35 ?_
    refine ok_iconst hE (2 : Int32) ki_2 dX12_ticks_36 ?_
    refine ok_cvI hE rmR_refuses [.int (2 : Int32)] [] rfl ca_X12_220 shR_0 rfl (fun _ hx => mR_refuses hE.sys _ _ _ hx) ⟨rfl, rfl, rfl, rfl⟩ rfl rfl dX12_ticks_37 (fun r2 => ?_)
    exact ok_ireturn hE dX12_ticks_40
  refine ok_if_eq hE 35 rfl dX12_ticks_8 ?_ ?_
  · exact ok_sub [0] rfl (hj35 ())
  · refine ok_iload_n hE 1 rfl dX12_ticks_11 ?_
    refine ok_iconst hE (1 : Int32) ki_1 dX12_ticks_12 ?_
    refine ok_sipush hE (200 : Int32) ks_200 dX12_ticks_13 ?_
    refine ok_csIp hE rmR_isIn [.int p1, .int (1 : Int32), .int (200 : Int32)] [] rfl ca_X12_262 (fun _ hx => mR_isIn hE.sys _ _ _ _ _ hx) ⟨rfl, rfl, rfl, rfl⟩ rfl rfl dX12_ticks_16 (fun r3 => ?_)
    refine ok_if_eq hE 35 rfl dX12_ticks_19 ?_ ?_
    · exact ok_sub [0] rfl (hj35 ())
    · refine ok_aload_n hE 0 rfl dX12_ticks_22 ?_
      refine ok_iconst hE (0 : Int32) ki_0 dX12_ticks_23 ?_
      refine ok_cvIp hE rmR_its [.int (0 : Int32)] [] rfl ca_X12_321 shR_0 rfl (fun _ hx => mR_its hE.sys _ _ _ hx) ⟨rfl, rfl, rfl, rfl⟩ rfl rfl dX12_ticks_24 (fun r4 => ?_)
      refine ok_iload_n hE 1 rfl dX12_ticks_27 ?_
      refine ok_iadd hE dX12_ticks_28 ?_
      refine ok_sipush hE (9999 : Int32) ks_9999 dX12_ticks_29 ?_
      refine ok_icmp_le hE 41 rfl dX12_ticks_32 ?_ ?_
      · refine ok_aload_n hE 0 rfl dX12_ticks_41 ?_
        refine ok_cvV hE rmR_remembers [] [] rfl ca_X12_441 shR_0 rfl (fun _ hx => mR_remembers hE.sys  _ _ hx) ⟨rfl, rfl, rfl, rfl⟩ rfl rfl dX12_ticks_42 (fun M5 => ?_)
        refine ok_aload_n hE 0 rfl dX12_ticks_45 ?_
        refine ok_iload_n hE 1 rfl dX12_ticks_46 ?_
        refine ok_cvV hE rmR_goesOnFor [.int p1] [] rfl ca_X12_428 shR_0 rfl (fun _ hx => mR_goesOnFor hE.sys _ _ _ hx) ⟨rfl, rfl, rfl, rfl⟩ rfl rfl dX12_ticks_47 (fun M6 => ?_)
        refine ok_aload_n hE 0 rfl dX12_ticks_50 ?_
        refine ok_iconst hE (0 : Int32) ki_0 dX12_ticks_51 ?_
        refine ok_cvIp hE rmR_its [.int (0 : Int32)] [] rfl ca_X12_321 shR_0 rfl (fun _ hx => mR_its hE.sys _ _ _ hx) ⟨rfl, rfl, rfl, rfl⟩ rfl rfl dX12_ticks_52 (fun r7 => ?_)
        exact ok_ireturn hE dX12_ticks_55
      · exact ok_sub [0] rfl (hj35 ())
theorem mR_ticks {l : Launch} {Y : Sys} {t : Nat} (hY : SysOk Y t shR) (p1 : Int32)  (M : Mm) (r : (Int32 × Mm)) (h : R_ticks p1 M = some r) : Cm l Y t yX12_ticks (WS yX12_ticks cX12_ticks 2 (some .int)) rmR_ticks [.ref (Y.ad 0), .int p1] M (enI r) := by
  refine cm_of (own := RX12) hY rfl rfl (Nat.le_of_ble_eq_true rfl) (fun E hE e1 e2 e3 e4 => ?_)
  subst e1
  exact tR_ticks E hE p1  M r h e4.symm
def R_canAsk (p1 : Int32) (p2 : Int32) (p3 : Int32) (M : Mm) : Option Int32 :=
 bnd (R_of p1 (5 : Int32) M) fun r1 =>
 if (8 : Int32) ≤ r1 then
 (some (0 : Int32))
 else
 (bnd (R_isIn p3 (1 : Int32) (64 : Int32) M) fun r2 =>
 if r2 = 0 then
 (some (0 : Int32))
 else
 (bnd (R_isIn p2 (0 : Int32) ((gI M 0 2) - p3) M) fun r3 =>
 if r3 = 0 then
 (some (0 : Int32))
 else
 (some (1 : Int32))))
abbrev rmR_canAsk : Room := { frames := 2, cells := 0, slots := 0, locals := 43 }
set_option maxHeartbeats 4000000 in
set_option maxRecDepth 100000 in
theorem tR_canAsk (E : Cx) (hE : CxOk E cX12_canAsk RX12 shR (some .boolean) rmR_canAsk 4) (p1 : Int32) (p2 : Int32) (p3 : Int32)  (M : Mm) : Ok E 0 [(0, .ref (E.Y.ad 0)), (1, .int p1), (2, .int p2), (3, .int p3)] [] M (R_canAsk p1 p2 p3 M) (KIp E M) := by
  unfold R_canAsk
  refine ok_aload_n hE 0 rfl dX12_canAsk_0 ?_
  refine ok_iload_n hE 1 rfl dX12_canAsk_1 ?_
  refine ok_iconst hE (5 : Int32) ki_5 dX12_canAsk_2 ?_
  refine ok_cvIp hE rmR_of [.int p1, .int (5 : Int32)] [] rfl ca_X12_337 shR_0 rfl (fun _ hx => mR_of hE.sys _ _ _ _ hx) ⟨rfl, rfl, rfl, rfl⟩ rfl rfl dX12_canAsk_3 (fun r1 => ?_)
  refine ok_bipush hE (8 : Int32) kb_8 dX12_canAsk_6 ?_
  refine ok_icmp_ge hE 39 rfl dX12_canAsk_8 ?_ ?_
  · refine ok_iconst hE (0 : Int32) ki_0 dX12_canAsk_39 ?_
    exact ok_zreturnP hE (Or.inl rfl) dX12_canAsk_40
  · refine ok_iload_n hE 3 rfl dX12_canAsk_11 ?_
    refine ok_iconst hE (1 : Int32) ki_1 dX12_canAsk_12 ?_
    refine ok_bipush hE (64 : Int32) kb_64 dX12_canAsk_13 ?_
    refine ok_csIp hE rmR_isIn [.int p3, .int (1 : Int32), .int (64 : Int32)] [] rfl ca_X12_262 (fun _ hx => mR_isIn hE.sys _ _ _ _ _ hx) ⟨rfl, rfl, rfl, rfl⟩ rfl rfl dX12_canAsk_15 (fun r2 => ?_)
    refine ok_if_eq hE 39 rfl dX12_canAsk_18 ?_ ?_
    · refine ok_iconst hE (0 : Int32) ki_0 dX12_canAsk_39 ?_
      exact ok_zreturnP hE (Or.inl rfl) dX12_canAsk_40
    · refine ok_iload_n hE 2 rfl dX12_canAsk_21 ?_
      refine ok_iconst hE (0 : Int32) ki_0 dX12_canAsk_22 ?_
      refine ok_aload_n hE 0 rfl dX12_canAsk_23 ?_
      refine ok_getI hE fl_X12_17 shR_0 rfl dX12_canAsk_24 ?_
      refine ok_iload_n hE 3 rfl dX12_canAsk_27 ?_
      refine ok_isub hE dX12_canAsk_28 ?_
      refine ok_csIp hE rmR_isIn [.int p2, .int (0 : Int32), .int ((gI M 0 2) - p3)] [] rfl ca_X12_262 (fun _ hx => mR_isIn hE.sys _ _ _ _ _ hx) ⟨rfl, rfl, rfl, rfl⟩ rfl rfl dX12_canAsk_29 (fun r3 => ?_)
      refine ok_if_eq hE 39 rfl dX12_canAsk_32 ?_ ?_
      · refine ok_iconst hE (0 : Int32) ki_0 dX12_canAsk_39 ?_
        exact ok_zreturnP hE (Or.inl rfl) dX12_canAsk_40
      · refine ok_iconst hE (1 : Int32) ki_1 dX12_canAsk_35 ?_
        refine ok_goto hE 40 rfl dX12_canAsk_36 ?_
        exact ok_zreturnP hE (Or.inr rfl) dX12_canAsk_40
theorem mR_canAsk {l : Launch} {Y : Sys} {t : Nat} (hY : SysOk Y t shR) (p1 : Int32) (p2 : Int32) (p3 : Int32)  (M : Mm) (r : Int32) (h : R_canAsk p1 p2 p3 M = some r) : Cm l Y t yX12_canAsk (WS yX12_canAsk cX12_canAsk 4 (some .boolean)) rmR_canAsk [.ref (Y.ad 0), .int p1, .int p2, .int p3] M ((some (.int r), M)) := by
  refine cm_of (own := RX12) hY rfl rfl (Nat.le_of_ble_eq_true rfl) (fun E hE e1 e2 e3 e4 => ?_)
  subst e1
  exact tR_canAsk E hE p1 p2 p3  M r h e4.symm
def R_ask (p1 : Int32) (p2 : Int32) (p3 : Int32) (M : Mm) : Option (Int32 × Mm) :=
 bnd (R_isNow M) fun M1 =>
 bnd (R_isProcess p1 M1) fun r2 =>
 lett (fun (_ : Unit) =>
 bnd (R_refuses (3 : Int32) M1) fun r3 =>
 some (r3.1, r3.2)) fun j22 =>
 if r2 = 0 then
 (j22 ())
 else
 (bnd (R_canAsk p1 p2 p3 M1) fun r4 =>
 if r4 = 0 then
 (j22 ())
 else
 (bnd (R_remembers M1) fun M5 =>
 bnd (R_asks p1 p2 p3 (1 : Int32) (0 : Int32) M5) fun M6 =>
 bnd (R_of p1 (6 : Int32) M6) fun r7 =>
 some (r7, M6)))
abbrev rmR_ask : Room := { frames := 4, cells := 0, slots := 0, locals := 99 }
set_option maxHeartbeats 4000000 in
set_option maxRecDepth 100000 in
theorem tR_ask (E : Cx) (hE : CxOk E cX12_ask RX12 shR (some .int) rmR_ask 4) (p1 : Int32) (p2 : Int32) (p3 : Int32)  (M : Mm) : Ok E 0 [(0, .ref (E.Y.ad 0)), (1, .int p1), (2, .int p2), (3, .int p3)] [] M (R_ask p1 p2 p3 M) (KI E) := by
  unfold R_ask
  refine ok_aload_n hE 0 rfl dX12_ask_0 ?_
  refine ok_cvV hE rmR_isNow [] [] rfl ca_X12_324 shR_0 rfl (fun _ hx => mR_isNow hE.sys  _ _ hx) ⟨rfl, rfl, rfl, rfl⟩ rfl rfl dX12_ask_1 (fun M1 => ?_)
  refine ok_aload_n hE 0 rfl dX12_ask_4 ?_
  refine ok_iload_n hE 1 rfl dX12_ask_5 ?_
  refine ok_cvIp hE rmR_isProcess [.int p1] [] rfl ca_X12_405 shR_0 rfl (fun _ hx => mR_isProcess hE.sys _ _ _ hx) ⟨rfl, rfl, rfl, rfl⟩ rfl rfl dX12_ask_6 (fun r2 => ?_)
  refine ok_fun (fun j => ∀ (_ : Unit), Ok E 22 [(0, .ref (E.Y.ad 0))] [] M1 (j ()) (KI E)) (fun _ => ?_) (fun j22 hj22 => ?_)
  · refine ok_aload_n hE 0 rfl dX12_ask_22 ?_
    refine ok_iconst hE (3 : Int32) ki_3 dX12_ask_23 ?_
    refine ok_cvI hE rmR_refuses [.int (3 : Int32)] [] rfl ca_X12_220 shR_0 rfl (fun _ hx => mR_refuses hE.sys _ _ _ hx) ⟨rfl, rfl, rfl, rfl⟩ rfl rfl dX12_ask_24 (fun r3 => ?_)
    exact ok_ireturn hE dX12_ask_27
  refine ok_if_eq hE 22 rfl dX12_ask_9 ?_ ?_
  · exact ok_sub [0] rfl (hj22 ())
  · refine ok_aload_n hE 0 rfl dX12_ask_12 ?_
    refine ok_iload_n hE 1 rfl dX12_ask_13 ?_
    refine ok_iload_n hE 2 rfl dX12_ask_14 ?_
    refine ok_iload_n hE 3 rfl dX12_ask_15 ?_
    refine ok_cvIp hE rmR_canAsk [.int p1, .int p2, .int p3] [] rfl ca_X12_444 shR_0 rfl (fun _ hx => mR_canAsk hE.sys _ _ _ _ _ hx) ⟨rfl, rfl, rfl, rfl⟩ rfl rfl dX12_ask_16 (fun r4 => ?_)
    refine ok_if_ne hE 28 rfl dX12_ask_19 ?_ ?_
    · refine ok_aload_n hE 0 rfl dX12_ask_28 ?_
      refine ok_cvV hE rmR_remembers [] [] rfl ca_X12_441 shR_0 rfl (fun _ hx => mR_remembers hE.sys  _ _ hx) ⟨rfl, rfl, rfl, rfl⟩ rfl rfl dX12_ask_29 (fun M5 => ?_)
      refine ok_aload_n hE 0 rfl dX12_ask_32 ?_
      refine ok_iload_n hE 1 rfl dX12_ask_33 ?_
      refine ok_iload_n hE 2 rfl dX12_ask_34 ?_
      refine ok_iload_n hE 3 rfl dX12_ask_35 ?_
      refine ok_iconst hE (1 : Int32) ki_1 dX12_ask_36 ?_
      refine ok_iconst hE (0 : Int32) ki_0 dX12_ask_37 ?_
      refine ok_cvV hE rmR_asks [.int p1, .int p2, .int p3, .int (1 : Int32), .int (0 : Int32)] [] rfl ca_X12_361 shR_0 rfl (fun _ hx => mR_asks hE.sys _ _ _ _ _ _ _ hx) ⟨rfl, rfl, rfl, rfl⟩ rfl rfl dX12_ask_38 (fun M6 => ?_)
      refine ok_aload_n hE 0 rfl dX12_ask_41 ?_
      refine ok_iload_n hE 1 rfl dX12_ask_42 ?_
      refine ok_bipush hE (6 : Int32) kb_6 dX12_ask_43 ?_
      refine ok_cvIp hE rmR_of [.int p1, .int (6 : Int32)] [] rfl ca_X12_337 shR_0 rfl (fun _ hx => mR_of hE.sys _ _ _ _ hx) ⟨rfl, rfl, rfl, rfl⟩ rfl rfl dX12_ask_45 (fun r7 => ?_)
      exact ok_ireturn hE dX12_ask_48
    · exact ok_sub [0] rfl (hj22 ())
theorem mR_ask {l : Launch} {Y : Sys} {t : Nat} (hY : SysOk Y t shR) (p1 : Int32) (p2 : Int32) (p3 : Int32)  (M : Mm) (r : (Int32 × Mm)) (h : R_ask p1 p2 p3 M = some r) : Cm l Y t yX12_ask (WS yX12_ask cX12_ask 4 (some .int)) rmR_ask [.ref (Y.ad 0), .int p1, .int p2, .int p3] M (enI r) := by
  refine cm_of (own := RX12) hY rfl rfl (Nat.le_of_ble_eq_true rfl) (fun E hE e1 e2 e3 e4 => ?_)
  subst e1
  exact tR_ask E hE p1 p2 p3  M r h e4.symm
def R_weight (p1 : Int32) (p2 : Int32) (M : Mm) : Option (Int32 × Mm) :=
 bnd (R_isNow M) fun M1 =>
 bnd (R_isProcess p1 M1) fun r2 =>
 lett (fun (_ : Unit) =>
 bnd (R_isRefused (3 : Int32) M1) fun r3 =>
 grd (r3.1 = 0 ∨ r3.1 = 1) (some (r3.1, r3.2))) fun j32 =>
 if r2 = 0 then
 (j32 ())
 else
 (bnd (R_isIn p2 (1 : Int32) (100 : Int32) M1) fun r4 =>
 if r4 = 0 then
 (j32 ())
 else
 (bnd (R_of p1 (0 : Int32) M1) fun r5 =>
 if r5 = p2 then
 (j32 ())
 else
 (bnd (R_remembers M1) fun M6 =>
 bnd (R_sets p1 (0 : Int32) p2 M6) fun M7 =>
 some ((1 : Int32), M7))))
abbrev rmR_weight : Room := { frames := 2, cells := 0, slots := 0, locals := 45 }
set_option maxHeartbeats 4000000 in
set_option maxRecDepth 100000 in
theorem tR_weight (E : Cx) (hE : CxOk E cX12_weight RX12 shR (some .boolean) rmR_weight 3) (p1 : Int32) (p2 : Int32)  (M : Mm) : Ok E 0 [(0, .ref (E.Y.ad 0)), (1, .int p1), (2, .int p2)] [] M (R_weight p1 p2 M) (KI E) := by
  unfold R_weight
  refine ok_aload_n hE 0 rfl dX12_weight_0 ?_
  refine ok_cvV hE rmR_isNow [] [] rfl ca_X12_324 shR_0 rfl (fun _ hx => mR_isNow hE.sys  _ _ hx) ⟨rfl, rfl, rfl, rfl⟩ rfl rfl dX12_weight_1 (fun M1 => ?_)
  refine ok_aload_n hE 0 rfl dX12_weight_4 ?_
  refine ok_iload_n hE 1 rfl dX12_weight_5 ?_
  refine ok_cvIp hE rmR_isProcess [.int p1] [] rfl ca_X12_405 shR_0 rfl (fun _ hx => mR_isProcess hE.sys _ _ _ hx) ⟨rfl, rfl, rfl, rfl⟩ rfl rfl dX12_weight_6 (fun r2 => ?_)
  refine ok_fun (fun j => ∀ (_ : Unit), Ok E 32 [(0, .ref (E.Y.ad 0))] [] M1 (j ()) (KI E)) (fun _ => ?_) (fun j32 hj32 => ?_)
  · refine ok_aload_n hE 0 rfl dX12_weight_32 ?_
    refine ok_iconst hE (3 : Int32) ki_3 dX12_weight_33 ?_
    refine ok_cvI hE rmR_isRefused [.int (3 : Int32)] [] rfl ca_X12_228 shR_0 rfl (fun _ hx => mR_isRefused hE.sys _ _ _ hx) ⟨rfl, rfl, rfl, rfl⟩ rfl rfl dX12_weight_34 (fun r3 => ?_)
    exact ok_zreturnG hE dX12_weight_37
  refine ok_if_eq hE 32 rfl dX12_weight_9 ?_ ?_
  · exact ok_sub [0] rfl (hj32 ())
  · refine ok_iload_n hE 2 rfl dX12_weight_12 ?_
    refine ok_iconst hE (1 : Int32) ki_1 dX12_weight_13 ?_
    refine ok_bipush hE (100 : Int32) kb_100 dX12_weight_14 ?_
    refine ok_csIp hE rmR_isIn [.int p2, .int (1 : Int32), .int (100 : Int32)] [] rfl ca_X12_262 (fun _ hx => mR_isIn hE.sys _ _ _ _ _ hx) ⟨rfl, rfl, rfl, rfl⟩ rfl rfl dX12_weight_16 (fun r4 => ?_)
    refine ok_if_eq hE 32 rfl dX12_weight_19 ?_ ?_
    · exact ok_sub [0] rfl (hj32 ())
    · refine ok_aload_n hE 0 rfl dX12_weight_22 ?_
      refine ok_iload_n hE 1 rfl dX12_weight_23 ?_
      refine ok_iconst hE (0 : Int32) ki_0 dX12_weight_24 ?_
      refine ok_cvIp hE rmR_of [.int p1, .int (0 : Int32)] [] rfl ca_X12_337 shR_0 rfl (fun _ hx => mR_of hE.sys _ _ _ _ hx) ⟨rfl, rfl, rfl, rfl⟩ rfl rfl dX12_weight_25 (fun r5 => ?_)
      refine ok_iload_n hE 2 rfl dX12_weight_28 ?_
      refine ok_icmp_ne hE 38 rfl dX12_weight_29 ?_ ?_
      · refine ok_aload_n hE 0 rfl dX12_weight_38 ?_
        refine ok_cvV hE rmR_remembers [] [] rfl ca_X12_441 shR_0 rfl (fun _ hx => mR_remembers hE.sys  _ _ hx) ⟨rfl, rfl, rfl, rfl⟩ rfl rfl dX12_weight_39 (fun M6 => ?_)
        refine ok_aload_n hE 0 rfl dX12_weight_42 ?_
        refine ok_iload_n hE 1 rfl dX12_weight_43 ?_
        refine ok_iconst hE (0 : Int32) ki_0 dX12_weight_44 ?_
        refine ok_iload_n hE 2 rfl dX12_weight_45 ?_
        refine ok_cvV hE rmR_sets [.int p1, .int (0 : Int32), .int p2] [] rfl ca_X12_314 shR_0 rfl (fun _ hx => mR_sets hE.sys _ _ _ _ _ hx) ⟨rfl, rfl, rfl, rfl⟩ rfl rfl dX12_weight_46 (fun M7 => ?_)
        refine ok_iconst hE (1 : Int32) ki_1 dX12_weight_49 ?_
        exact ok_zreturn hE (Or.inr rfl) dX12_weight_50
      · exact ok_sub [0] rfl (hj32 ())
theorem mR_weight {l : Launch} {Y : Sys} {t : Nat} (hY : SysOk Y t shR) (p1 : Int32) (p2 : Int32)  (M : Mm) (r : (Int32 × Mm)) (h : R_weight p1 p2 M = some r) : Cm l Y t yX12_weight (WS yX12_weight cX12_weight 3 (some .boolean)) rmR_weight [.ref (Y.ad 0), .int p1, .int p2] M (enI r) := by
  refine cm_of (own := RX12) hY rfl rfl (Nat.le_of_ble_eq_true rfl) (fun E hE e1 e2 e3 e4 => ?_)
  subst e1
  exact tR_weight E hE p1 p2  M r h e4.symm
def R_idle (p1 : Int32) (M : Mm) : Option (Int32 × Mm) :=
 bnd (R_isNow M) fun M1 =>
 lett (fun (_ : Unit) =>
 bnd (R_isRefused (3 : Int32) M1) fun r2 =>
 grd (r2.1 = 0 ∨ r2.1 = 1) (some (r2.1, r2.2))) fun j31 =>
 if (gI M1 0 0) = 0 then
 (j31 ())
 else
 (bnd (R_isIn p1 (0 : Int32) (20 : Int32) M1) fun r3 =>
 if r3 = 0 then
 (j31 ())
 else
 (bnd (R_its (6 : Int32) M1) fun r4 =>
 if r4 = p1 then
 (j31 ())
 else
 (bnd (R_remembers M1) fun M5 =>
 bnd (R_puts (6 : Int32) p1 M5) fun M6 =>
 some ((1 : Int32), M6))))
abbrev rmR_idle : Room := { frames := 2, cells := 0, slots := 0, locals := 41 }
set_option maxHeartbeats 4000000 in
set_option maxRecDepth 100000 in
theorem tR_idle (E : Cx) (hE : CxOk E cX12_idle RX12 shR (some .boolean) rmR_idle 2) (p1 : Int32)  (M : Mm) : Ok E 0 [(0, .ref (E.Y.ad 0)), (1, .int p1)] [] M (R_idle p1 M) (KI E) := by
  unfold R_idle
  refine ok_aload_n hE 0 rfl dX12_idle_0 ?_
  refine ok_cvV hE rmR_isNow [] [] rfl ca_X12_324 shR_0 rfl (fun _ hx => mR_isNow hE.sys  _ _ hx) ⟨rfl, rfl, rfl, rfl⟩ rfl rfl dX12_idle_1 (fun M1 => ?_)
  refine ok_aload_n hE 0 rfl dX12_idle_4 ?_
  refine ok_getI hE fl_X12_7 shR_0 rfl dX12_idle_5 ?_
  refine ok_fun (fun j => ∀ (_ : Unit), Ok E 31 [(0, .ref (E.Y.ad 0))] [] M1 (j ()) (KI E)) (fun _ => ?_) (fun j31 hj31 => ?_)
  · refine ok_aload_n hE 0 rfl dX12_idle_31 ?_
    refine ok_iconst hE (3 : Int32) ki_3 dX12_idle_32 ?_
    refine ok_cvI hE rmR_isRefused [.int (3 : Int32)] [] rfl ca_X12_228 shR_0 rfl (fun _ hx => mR_isRefused hE.sys _ _ _ hx) ⟨rfl, rfl, rfl, rfl⟩ rfl rfl dX12_idle_33 (fun r2 => ?_)
    exact ok_zreturnG hE dX12_idle_36
  refine ok_if_eq hE 31 rfl dX12_idle_8 ?_ ?_
  · exact ok_sub [0] rfl (hj31 ())
  · refine ok_iload_n hE 1 rfl dX12_idle_11 ?_
    refine ok_iconst hE (0 : Int32) ki_0 dX12_idle_12 ?_
    refine ok_bipush hE (20 : Int32) kb_20 dX12_idle_13 ?_
    refine ok_csIp hE rmR_isIn [.int p1, .int (0 : Int32), .int (20 : Int32)] [] rfl ca_X12_262 (fun _ hx => mR_isIn hE.sys _ _ _ _ _ hx) ⟨rfl, rfl, rfl, rfl⟩ rfl rfl dX12_idle_15 (fun r3 => ?_)
    refine ok_if_eq hE 31 rfl dX12_idle_18 ?_ ?_
    · exact ok_sub [0] rfl (hj31 ())
    · refine ok_aload_n hE 0 rfl dX12_idle_21 ?_
      refine ok_bipush hE (6 : Int32) kb_6 dX12_idle_22 ?_
      refine ok_cvIp hE rmR_its [.int (6 : Int32)] [] rfl ca_X12_321 shR_0 rfl (fun _ hx => mR_its hE.sys _ _ _ hx) ⟨rfl, rfl, rfl, rfl⟩ rfl rfl dX12_idle_24 (fun r4 => ?_)
      refine ok_iload_n hE 1 rfl dX12_idle_27 ?_
      refine ok_icmp_ne hE 37 rfl dX12_idle_28 ?_ ?_
      · refine ok_aload_n hE 0 rfl dX12_idle_37 ?_
        refine ok_cvV hE rmR_remembers [] [] rfl ca_X12_441 shR_0 rfl (fun _ hx => mR_remembers hE.sys  _ _ hx) ⟨rfl, rfl, rfl, rfl⟩ rfl rfl dX12_idle_38 (fun M5 => ?_)
        refine ok_aload_n hE 0 rfl dX12_idle_41 ?_
        refine ok_bipush hE (6 : Int32) kb_6 dX12_idle_42 ?_
        refine ok_iload_n hE 1 rfl dX12_idle_44 ?_
        refine ok_cvV hE rmR_puts [.int (6 : Int32), .int p1] [] rfl ca_X12_318 shR_0 rfl (fun _ hx => mR_puts hE.sys _ _ _ _ hx) ⟨rfl, rfl, rfl, rfl⟩ rfl rfl dX12_idle_45 (fun M6 => ?_)
        refine ok_iconst hE (1 : Int32) ki_1 dX12_idle_48 ?_
        exact ok_zreturn hE (Or.inr rfl) dX12_idle_49
      · exact ok_sub [0] rfl (hj31 ())
theorem mR_idle {l : Launch} {Y : Sys} {t : Nat} (hY : SysOk Y t shR) (p1 : Int32)  (M : Mm) (r : (Int32 × Mm)) (h : R_idle p1 M = some r) : Cm l Y t yX12_idle (WS yX12_idle cX12_idle 2 (some .boolean)) rmR_idle [.ref (Y.ad 0), .int p1] M (enI r) := by
  refine cm_of (own := RX12) hY rfl rfl (Nat.le_of_ble_eq_true rfl) (fun E hE e1 e2 e3 e4 => ?_)
  subst e1
  exact tR_idle E hE p1  M r h e4.symm
def R_slice (p1 : Int32) (M : Mm) : Option (Int32 × Mm) :=
 bnd (R_isNow M) fun M1 =>
 lett (fun (_ : Unit) =>
 bnd (R_isRefused (3 : Int32) M1) fun r2 =>
 grd (r2.1 = 0 ∨ r2.1 = 1) (some (r2.1, r2.2))) fun j32 =>
 if (gI M1 0 0) = 0 then
 (j32 ())
 else
 (bnd (R_isIn p1 (1 : Int32) (200 : Int32) M1) fun r3 =>
 if r3 = 0 then
 (j32 ())
 else
 (bnd (R_its (7 : Int32) M1) fun r4 =>
 if r4 = p1 then
 (j32 ())
 else
 (bnd (R_remembers M1) fun M5 =>
 bnd (R_puts (7 : Int32) p1 M5) fun M6 =>
 some ((1 : Int32), M6))))
abbrev rmR_slice : Room := { frames := 2, cells := 0, slots := 0, locals := 41 }
set_option maxHeartbeats 4000000 in
set_option maxRecDepth 100000 in
theorem tR_slice (E : Cx) (hE : CxOk E cX12_slice RX12 shR (some .boolean) rmR_slice 2) (p1 : Int32)  (M : Mm) : Ok E 0 [(0, .ref (E.Y.ad 0)), (1, .int p1)] [] M (R_slice p1 M) (KI E) := by
  unfold R_slice
  refine ok_aload_n hE 0 rfl dX12_slice_0 ?_
  refine ok_cvV hE rmR_isNow [] [] rfl ca_X12_324 shR_0 rfl (fun _ hx => mR_isNow hE.sys  _ _ hx) ⟨rfl, rfl, rfl, rfl⟩ rfl rfl dX12_slice_1 (fun M1 => ?_)
  refine ok_aload_n hE 0 rfl dX12_slice_4 ?_
  refine ok_getI hE fl_X12_7 shR_0 rfl dX12_slice_5 ?_
  refine ok_fun (fun j => ∀ (_ : Unit), Ok E 32 [(0, .ref (E.Y.ad 0))] [] M1 (j ()) (KI E)) (fun _ => ?_) (fun j32 hj32 => ?_)
  · refine ok_aload_n hE 0 rfl dX12_slice_32 ?_
    refine ok_iconst hE (3 : Int32) ki_3 dX12_slice_33 ?_
    refine ok_cvI hE rmR_isRefused [.int (3 : Int32)] [] rfl ca_X12_228 shR_0 rfl (fun _ hx => mR_isRefused hE.sys _ _ _ hx) ⟨rfl, rfl, rfl, rfl⟩ rfl rfl dX12_slice_34 (fun r2 => ?_)
    exact ok_zreturnG hE dX12_slice_37
  refine ok_if_eq hE 32 rfl dX12_slice_8 ?_ ?_
  · exact ok_sub [0] rfl (hj32 ())
  · refine ok_iload_n hE 1 rfl dX12_slice_11 ?_
    refine ok_iconst hE (1 : Int32) ki_1 dX12_slice_12 ?_
    refine ok_sipush hE (200 : Int32) ks_200 dX12_slice_13 ?_
    refine ok_csIp hE rmR_isIn [.int p1, .int (1 : Int32), .int (200 : Int32)] [] rfl ca_X12_262 (fun _ hx => mR_isIn hE.sys _ _ _ _ _ hx) ⟨rfl, rfl, rfl, rfl⟩ rfl rfl dX12_slice_16 (fun r3 => ?_)
    refine ok_if_eq hE 32 rfl dX12_slice_19 ?_ ?_
    · exact ok_sub [0] rfl (hj32 ())
    · refine ok_aload_n hE 0 rfl dX12_slice_22 ?_
      refine ok_bipush hE (7 : Int32) kb_7 dX12_slice_23 ?_
      refine ok_cvIp hE rmR_its [.int (7 : Int32)] [] rfl ca_X12_321 shR_0 rfl (fun _ hx => mR_its hE.sys _ _ _ hx) ⟨rfl, rfl, rfl, rfl⟩ rfl rfl dX12_slice_25 (fun r4 => ?_)
      refine ok_iload_n hE 1 rfl dX12_slice_28 ?_
      refine ok_icmp_ne hE 38 rfl dX12_slice_29 ?_ ?_
      · refine ok_aload_n hE 0 rfl dX12_slice_38 ?_
        refine ok_cvV hE rmR_remembers [] [] rfl ca_X12_441 shR_0 rfl (fun _ hx => mR_remembers hE.sys  _ _ hx) ⟨rfl, rfl, rfl, rfl⟩ rfl rfl dX12_slice_39 (fun M5 => ?_)
        refine ok_aload_n hE 0 rfl dX12_slice_42 ?_
        refine ok_bipush hE (7 : Int32) kb_7 dX12_slice_43 ?_
        refine ok_iload_n hE 1 rfl dX12_slice_45 ?_
        refine ok_cvV hE rmR_puts [.int (7 : Int32), .int p1] [] rfl ca_X12_318 shR_0 rfl (fun _ hx => mR_puts hE.sys _ _ _ _ hx) ⟨rfl, rfl, rfl, rfl⟩ rfl rfl dX12_slice_46 (fun M6 => ?_)
        refine ok_iconst hE (1 : Int32) ki_1 dX12_slice_49 ?_
        exact ok_zreturn hE (Or.inr rfl) dX12_slice_50
      · exact ok_sub [0] rfl (hj32 ())
theorem mR_slice {l : Launch} {Y : Sys} {t : Nat} (hY : SysOk Y t shR) (p1 : Int32)  (M : Mm) (r : (Int32 × Mm)) (h : R_slice p1 M = some r) : Cm l Y t yX12_slice (WS yX12_slice cX12_slice 2 (some .boolean)) rmR_slice [.ref (Y.ad 0), .int p1] M (enI r) := by
  refine cm_of (own := RX12) hY rfl rfl (Nat.le_of_ble_eq_true rfl) (fun E hE e1 e2 e3 e4 => ?_)
  subst e1
  exact tR_slice E hE p1  M r h e4.symm
def R_on (p1 : Int32) (p2 : Int32) (M : Mm) : Option (Int32 × Mm) :=
 bnd (R_isNow M) fun M1 =>
 lett (fun (w_1 : Int32) =>
 lett w_1 fun v3 =>
 bnd (R_isProcess p1 M1) fun r4 =>
 lett (fun (_ : Unit) =>
 bnd (R_isRefused (3 : Int32) M1) fun r5 =>
 grd (r5.1 = 0 ∨ r5.1 = 1) (some (r5.1, r5.2))) fun j33 =>
 if r4 = 0 then
 (j33 ())
 else
 (bnd (R_of p1 (8 : Int32) M1) fun r6 =>
 if r6 = v3 then
 (j33 ())
 else
 (bnd (R_remembers M1) fun M7 =>
 bnd (R_sets p1 (8 : Int32) v3 M7) fun M8 =>
 some ((1 : Int32), M8)))) fun j13 =>
 if p2 = 0 then
 (j13 (0 : Int32))
 else
 (j13 (1 : Int32))
abbrev rmR_on : Room := { frames := 2, cells := 0, slots := 0, locals := 45 }
set_option maxHeartbeats 4000000 in
set_option maxRecDepth 100000 in
theorem tR_on (E : Cx) (hE : CxOk E cX12_on RX12 shR (some .boolean) rmR_on 4) (p1 : Int32) (p2 : Int32)  (M : Mm) : Ok E 0 [(0, .ref (E.Y.ad 0)), (1, .int p1), (2, .int p2)] [] M (R_on p1 p2 M) (KI E) := by
  unfold R_on
  refine ok_aload_n hE 0 rfl dX12_on_0 ?_
  refine ok_cvV hE rmR_isNow [] [] rfl ca_X12_324 shR_0 rfl (fun _ hx => mR_isNow hE.sys  _ _ hx) ⟨rfl, rfl, rfl, rfl⟩ rfl rfl dX12_on_1 (fun M1 => ?_)
  refine ok_iload_n hE 2 rfl dX12_on_4 ?_
  refine ok_fun (fun j => ∀ (w_1 : Int32), Ok E 13 [(0, .ref (E.Y.ad 0)), (1, .int p1)] [.int w_1] M1 (j w_1) (KI E)) (fun w_1 => ?_) (fun j13 hj13 => ?_)
  · refine ok_istore_n hE (fun v3 => [(3, .int v3), (0, .ref (E.Y.ad 0)), (1, .int p1)]) (fun _ => rfl) rfl dX12_on_13 (fun v3 => ?_)
    refine ok_aload_n hE 1 rfl dX12_on_14 ?_
    refine ok_iload_n hE 2 rfl dX12_on_15 ?_
    refine ok_cvIp hE rmR_isProcess [.int p1] [] rfl ca_X12_405 shR_0 rfl (fun _ hx => mR_isProcess hE.sys _ _ _ hx) ⟨rfl, rfl, rfl, rfl⟩ rfl rfl dX12_on_16 (fun r4 => ?_)
    refine ok_fun (fun j => ∀ (_ : Unit), Ok E 33 [(0, .ref (E.Y.ad 0))] [] M1 (j ()) (KI E)) (fun _ => ?_) (fun j33 hj33 => ?_)
    · refine ok_aload_n hE 0 rfl dX12_on_33 ?_
      refine ok_iconst hE (3 : Int32) ki_3 dX12_on_34 ?_
      refine ok_cvI hE rmR_isRefused [.int (3 : Int32)] [] rfl ca_X12_228 shR_0 rfl (fun _ hx => mR_isRefused hE.sys _ _ _ hx) ⟨rfl, rfl, rfl, rfl⟩ rfl rfl dX12_on_35 (fun r5 => ?_)
      exact ok_zreturnG hE dX12_on_38
    refine ok_if_eq hE 33 rfl dX12_on_19 ?_ ?_
    · exact ok_sub [1] rfl (hj33 ())
    · refine ok_aload_n hE 1 rfl dX12_on_22 ?_
      refine ok_iload_n hE 2 rfl dX12_on_23 ?_
      refine ok_bipush hE (8 : Int32) kb_8 dX12_on_24 ?_
      refine ok_cvIp hE rmR_of [.int p1, .int (8 : Int32)] [] rfl ca_X12_337 shR_0 rfl (fun _ hx => mR_of hE.sys _ _ _ _ hx) ⟨rfl, rfl, rfl, rfl⟩ rfl rfl dX12_on_26 (fun r6 => ?_)
      refine ok_iload_n hE 0 rfl dX12_on_29 ?_
      refine ok_icmp_ne hE 39 rfl dX12_on_30 ?_ ?_
      · refine ok_aload_n hE 1 rfl dX12_on_39 ?_
        refine ok_cvV hE rmR_remembers [] [] rfl ca_X12_441 shR_0 rfl (fun _ hx => mR_remembers hE.sys  _ _ hx) ⟨rfl, rfl, rfl, rfl⟩ rfl rfl dX12_on_40 (fun M7 => ?_)
        refine ok_aload_n hE 1 rfl dX12_on_43 ?_
        refine ok_iload_n hE 2 rfl dX12_on_44 ?_
        refine ok_bipush hE (8 : Int32) kb_8 dX12_on_45 ?_
        refine ok_iload_n hE 0 rfl dX12_on_47 ?_
        refine ok_cvV hE rmR_sets [.int p1, .int (8 : Int32), .int v3] [] rfl ca_X12_314 shR_0 rfl (fun _ hx => mR_sets hE.sys _ _ _ _ _ hx) ⟨rfl, rfl, rfl, rfl⟩ rfl rfl dX12_on_48 (fun M8 => ?_)
        refine ok_iconst hE (1 : Int32) ki_1 dX12_on_51 ?_
        exact ok_zreturn hE (Or.inr rfl) dX12_on_52
      · exact ok_sub [1] rfl (hj33 ())
  refine ok_if_eq hE 12 rfl dX12_on_5 ?_ ?_
  · refine ok_iconst hE (0 : Int32) ki_0 dX12_on_12 ?_
    exact ok_sub [0, 1] rfl (hj13 (0 : Int32))
  · refine ok_iconst hE (1 : Int32) ki_1 dX12_on_8 ?_
    refine ok_goto hE 13 rfl dX12_on_9 ?_
    exact ok_sub [0, 1] rfl (hj13 (1 : Int32))
theorem mR_on {l : Launch} {Y : Sys} {t : Nat} (hY : SysOk Y t shR) (p1 : Int32) (p2 : Int32)  (M : Mm) (r : (Int32 × Mm)) (h : R_on p1 p2 M = some r) : Cm l Y t yX12_on (WS yX12_on cX12_on 4 (some .boolean)) rmR_on [.ref (Y.ad 0), .int p1, .int p2] M (enI r) := by
  refine cm_of (own := RX12) hY rfl rfl (Nat.le_of_ble_eq_true rfl) (fun E hE e1 e2 e3 e4 => ?_)
  subst e1
  exact tR_on E hE p1 p2  M r h e4.symm
def R_draw (p1 : Int32) (M : Mm) : Option (Int32 × Mm) :=
 lett (sI M 0 66 (((((1103515245 : Int64) * ((gI M 0 66).toInt64)) + (12345 : Int64)) - (((1103515245 : Int64) * ((gI M 0 66).toInt64)) + (12345 : Int64)) / (2147483648 : Int64) * (2147483648 : Int64)).toInt32)) fun M1 =>
 grd (¬ p1 = 0) (some ((((gI M1 0 66) / (64 : Int32)) - ((gI M1 0 66) / (64 : Int32)) / p1 * p1), M1))
abbrev rmR_draw : Room := { frames := 0, cells := 0, slots := 0, locals := 0 }
set_option maxHeartbeats 4000000 in
set_option maxRecDepth 100000 in
theorem tR_draw (E : Cx) (hE : CxOk E cX12_draw RX12 shR (some .int) rmR_draw 2) (p1 : Int32)  (M : Mm) : Ok E 0 [(0, .ref (E.Y.ad 0)), (1, .int p1)] [] M (R_draw p1 M) (KI E) := by
  unfold R_draw
  refine ok_aload_n hE 0 rfl dX12_draw_0 ?_
  refine ok_ldc2 hE ct_X12_447 dX12_draw_1 ?_
  refine ok_aload_n hE 0 rfl dX12_draw_4 ?_
  refine ok_getI hE fl_X12_211 shR_0 rfl dX12_draw_5 ?_
  refine ok_i2l hE dX12_draw_8 ?_
  refine ok_lmul hE dX12_draw_9 ?_
  refine ok_ldc2 hE ct_X12_449 dX12_draw_10 ?_
  refine ok_ladd hE dX12_draw_13 ?_
  refine ok_ldc2 hE ct_X12_451 dX12_draw_14 ?_
  refine ok_lremC hE (by decide) dX12_draw_17 ?_
  refine ok_l2i hE dX12_draw_18 ?_
  refine ok_putI hE fl_X12_211 shR_0 rfl dX12_draw_19 (fun M1 => ?_)
  refine ok_aload_n hE 0 rfl dX12_draw_22 ?_
  refine ok_getI hE fl_X12_211 shR_0 rfl dX12_draw_23 ?_
  refine ok_bipush hE (64 : Int32) kb_64 dX12_draw_26 ?_
  refine ok_idivC hE (by decide) dX12_draw_28 ?_
  refine ok_iload_n hE 1 rfl dX12_draw_29 ?_
  refine ok_irem hE dX12_draw_30 ?_
  exact ok_ireturn hE dX12_draw_31
theorem mR_draw {l : Launch} {Y : Sys} {t : Nat} (hY : SysOk Y t shR) (p1 : Int32)  (M : Mm) (r : (Int32 × Mm)) (h : R_draw p1 M = some r) : Cm l Y t yX12_draw (WS yX12_draw cX12_draw 2 (some .int)) rmR_draw [.ref (Y.ad 0), .int p1] M (enI r) := by
  refine cm_of (own := RX12) hY rfl rfl (Nat.le_of_ble_eq_true rfl) (fun E hE e1 e2 e3 e4 => ?_)
  subst e1
  exact tR_draw E hE p1  M r h e4.symm
def R_chance (p1 : Int32) (M : Mm) : Option (Int32 × Mm) :=
 bnd (R_isNow M) fun M1 =>
 lett (fun (_ : Unit) =>
 bnd (R_refuses (2 : Int32) M1) fun r2 =>
 some (r2.1, r2.2)) fun j37 =>
 if (gI M1 0 1) = 0 then
 (j37 ())
 else
 (bnd (R_isIn p1 (1 : Int32) (40 : Int32) M1) fun r3 =>
 if r3 = 0 then
 (j37 ())
 else
 (bnd (R_its (0 : Int32) M1) fun r4 =>
 if (r4 + ((7 : Int32) * p1)) ≤ (9999 : Int32) then
 (bnd (R_remembers M1) fun M5 =>
 lett (0 : Int32) fun v6 =>
 lett (fun (M_6 : Mm) =>
 bnd (R_its (0 : Int32) M_6) fun r8 =>
 some (r8, M_6)) fun j122 =>
 loopR (fun (rec49 : (Int32 × Mm) → Option (Int32 × Mm)) (x9 : Int32 × Mm) =>
 if p1 ≤ x9.1 then
 (j122 x9.2)
 else
 (bnd (R_draw (gI x9.2 0 1) x9.2) fun r10 =>
 lett r10.1 fun v11 =>
 bnd (R_draw (gI r10.2 0 2) r10.2) fun r12 =>
 lett r12.1 fun v13 =>
 bnd (R_draw (16 : Int32) r12.2) fun r14 =>
 lett (r14.1 + (1 : Int32)) fun v15 =>
 bnd (R_canAsk v11 v13 v15 r14.2) fun r16 =>
 lett (fun (M_16 : Mm) =>
 bnd (R_draw (8 : Int32) M_16) fun r18 =>
 bnd (R_goesOnFor r18.1 r18.2) fun M19 =>
 lett (x9.1 + (1 : Int32)) fun v20 =>
 rec49 (v20, M19)) fun j106 =>
 if r16 = 0 then
 (j106 r14.2)
 else
 (bnd (R_asks v11 v13 v15 (1 : Int32) (0 : Int32) r14.2) fun M21 =>
 j106 M21))) 1000000 (v6, M5))
 else
 (j37 ())))
abbrev rmR_chance : Room := { frames := 8, cells := 0, slots := 0, locals := 181 }
set_option maxHeartbeats 4000000 in
set_option maxRecDepth 100000 in
theorem tR_chance (E : Cx) (hE : CxOk E cX12_chance RX12 shR (some .int) rmR_chance 6) (p1 : Int32)  (M : Mm) : Ok E 0 [(0, .ref (E.Y.ad 0)), (1, .int p1)] [] M (R_chance p1 M) (KI E) := by
  unfold R_chance
  refine ok_aload_n hE 0 rfl dX12_chance_0 ?_
  refine ok_cvV hE rmR_isNow [] [] rfl ca_X12_324 shR_0 rfl (fun _ hx => mR_isNow hE.sys  _ _ hx) ⟨rfl, rfl, rfl, rfl⟩ rfl rfl dX12_chance_1 (fun M1 => ?_)
  refine ok_aload_n hE 0 rfl dX12_chance_4 ?_
  refine ok_getI hE fl_X12_13 shR_0 rfl dX12_chance_5 ?_
  refine ok_fun (fun j => ∀ (_ : Unit), Ok E 37 [(0, .ref (E.Y.ad 0))] [] M1 (j ()) (KI E)) (fun _ => ?_) (fun j37 hj37 => ?_)
  · refine ok_aload_n hE 0 rfl dX12_chance_37 ?_
    refine ok_iconst hE (2 : Int32) ki_2 dX12_chance_38 ?_
    refine ok_cvI hE rmR_refuses [.int (2 : Int32)] [] rfl ca_X12_220 shR_0 rfl (fun _ hx => mR_refuses hE.sys _ _ _ hx) ⟨rfl, rfl, rfl, rfl⟩ rfl rfl dX12_chance_39 (fun r2 => ?_)
    exact ok_ireturn hE dX12_chance_42
  refine ok_if_eq hE 37 rfl dX12_chance_8 ?_ ?_
  · exact ok_sub [0] rfl (hj37 ())
  · refine ok_iload_n hE 1 rfl dX12_chance_11 ?_
    refine ok_iconst hE (1 : Int32) ki_1 dX12_chance_12 ?_
    refine ok_bipush hE (40 : Int32) kb_40 dX12_chance_13 ?_
    refine ok_csIp hE rmR_isIn [.int p1, .int (1 : Int32), .int (40 : Int32)] [] rfl ca_X12_262 (fun _ hx => mR_isIn hE.sys _ _ _ _ _ hx) ⟨rfl, rfl, rfl, rfl⟩ rfl rfl dX12_chance_15 (fun r3 => ?_)
    refine ok_if_eq hE 37 rfl dX12_chance_18 ?_ ?_
    · exact ok_sub [0] rfl (hj37 ())
    · refine ok_aload_n hE 0 rfl dX12_chance_21 ?_
      refine ok_iconst hE (0 : Int32) ki_0 dX12_chance_22 ?_
      refine ok_cvIp hE rmR_its [.int (0 : Int32)] [] rfl ca_X12_321 shR_0 rfl (fun _ hx => mR_its hE.sys _ _ _ hx) ⟨rfl, rfl, rfl, rfl⟩ rfl rfl dX12_chance_23 (fun r4 => ?_)
      refine ok_bipush hE (7 : Int32) kb_7 dX12_chance_26 ?_
      refine ok_iload_n hE 1 rfl dX12_chance_28 ?_
      refine ok_imul hE dX12_chance_29 ?_
      refine ok_iadd hE dX12_chance_30 ?_
      refine ok_sipush hE (9999 : Int32) ks_9999 dX12_chance_31 ?_
      refine ok_icmp_le hE 43 rfl dX12_chance_34 ?_ ?_
      · refine ok_aload_n hE 0 rfl dX12_chance_43 ?_
        refine ok_cvV hE rmR_remembers [] [] rfl ca_X12_441 shR_0 rfl (fun _ hx => mR_remembers hE.sys  _ _ hx) ⟨rfl, rfl, rfl, rfl⟩ rfl rfl dX12_chance_44 (fun M5 => ?_)
        refine ok_iconst hE (0 : Int32) ki_0 dX12_chance_47 ?_
        refine ok_istore_n hE (fun v6 => [(2, .int v6), (0, .ref (E.Y.ad 0)), (1, .int p1)]) (fun _ => rfl) rfl dX12_chance_48 (fun v6 => ?_)
        refine ok_fun (fun j => ∀ (M_6 : Mm), Ok E 122 [(0, .ref (E.Y.ad 0))] [] M_6 (j M_6) (KI E)) (fun M_6 => ?_) (fun j122 hj122 => ?_)
        · refine ok_aload_n hE 0 rfl dX12_chance_122 ?_
          refine ok_iconst hE (0 : Int32) ki_0 dX12_chance_123 ?_
          refine ok_cvIp hE rmR_its [.int (0 : Int32)] [] rfl ca_X12_321 shR_0 rfl (fun _ hx => mR_its hE.sys _ _ _ hx) ⟨rfl, rfl, rfl, rfl⟩ rfl rfl dX12_chance_124 (fun r8 => ?_)
          exact ok_ireturn hE dX12_chance_127
        refine ok_sub [1, 2, 0] rfl (ok_loop (σ := Int32 × Mm) 49 (fun x9 => [(0, .ref (E.Y.ad 0)), (1, .int p1), (2, .int x9.1)]) (fun x9 => x9.2) (fun rec49 hrec49 x9 => ?_) 1000000 (v6, M5))
        refine ok_iload_n hE 2 rfl dX12_chance_49 ?_
        refine ok_iload_n hE 1 rfl dX12_chance_50 ?_
        refine ok_icmp_ge hE 122 rfl dX12_chance_51 ?_ ?_
        · exact ok_sub [0] rfl (hj122 x9.2)
        · refine ok_aload_n hE 0 rfl dX12_chance_54 ?_
          refine ok_aload_n hE 0 rfl dX12_chance_55 ?_
          refine ok_getI hE fl_X12_13 shR_0 rfl dX12_chance_56 ?_
          refine ok_cvI hE rmR_draw [.int (gI x9.2 0 1)] [] rfl ca_X12_453 shR_0 rfl (fun _ hx => mR_draw hE.sys _ _ _ hx) ⟨rfl, rfl, rfl, rfl⟩ rfl rfl dX12_chance_59 (fun r10 => ?_)
          refine ok_istore_n hE (fun v11 => [(3, .int v11), (0, .ref (E.Y.ad 0)), (1, .int p1), (2, .int x9.1)]) (fun _ => rfl) rfl dX12_chance_62 (fun v11 => ?_)
          refine ok_aload_n hE 1 rfl dX12_chance_63 ?_
          refine ok_aload_n hE 1 rfl dX12_chance_64 ?_
          refine ok_getI hE fl_X12_17 shR_0 rfl dX12_chance_65 ?_
          refine ok_cvI hE rmR_draw [.int (gI r10.2 0 2)] [] rfl ca_X12_453 shR_0 rfl (fun _ hx => mR_draw hE.sys _ _ _ hx) ⟨rfl, rfl, rfl, rfl⟩ rfl rfl dX12_chance_68 (fun r12 => ?_)
          refine ok_istore hE (fun v13 => [(4, .int v13), (3, .int v11), (0, .ref (E.Y.ad 0)), (1, .int p1), (2, .int x9.1)]) (fun _ => rfl) rfl dX12_chance_71 (fun v13 => ?_)
          refine ok_aload_n hE 2 rfl dX12_chance_73 ?_
          refine ok_bipush hE (16 : Int32) kb_16 dX12_chance_74 ?_
          refine ok_cvI hE rmR_draw [.int (16 : Int32)] [] rfl ca_X12_453 shR_0 rfl (fun _ hx => mR_draw hE.sys _ _ _ hx) ⟨rfl, rfl, rfl, rfl⟩ rfl rfl dX12_chance_76 (fun r14 => ?_)
          refine ok_iconst hE (1 : Int32) ki_1 dX12_chance_79 ?_
          refine ok_iadd hE dX12_chance_80 ?_
          refine ok_istore hE (fun v15 => [(5, .int v15), (4, .int v13), (3, .int v11), (0, .ref (E.Y.ad 0)), (1, .int p1), (2, .int x9.1)]) (fun _ => rfl) rfl dX12_chance_81 (fun v15 => ?_)
          refine ok_aload_n hE 3 rfl dX12_chance_83 ?_
          refine ok_iload_n hE 2 rfl dX12_chance_84 ?_
          refine ok_iload hE 1 rfl dX12_chance_85 ?_
          refine ok_iload hE 0 rfl dX12_chance_87 ?_
          refine ok_cvIp hE rmR_canAsk [.int v11, .int v13, .int v15] [] rfl ca_X12_444 shR_0 rfl (fun _ hx => mR_canAsk hE.sys _ _ _ _ _ hx) ⟨rfl, rfl, rfl, rfl⟩ rfl rfl dX12_chance_89 (fun r16 => ?_)
          refine ok_fun (fun j => ∀ (M_16 : Mm), Ok E 106 [(0, .ref (E.Y.ad 0)), (1, .int p1), (2, .int x9.1)] [] M_16 (j M_16) (KI E)) (fun M_16 => ?_) (fun j106 hj106 => ?_)
          · refine ok_aload_n hE 0 rfl dX12_chance_106 ?_
            refine ok_aload_n hE 0 rfl dX12_chance_107 ?_
            refine ok_bipush hE (8 : Int32) kb_8 dX12_chance_108 ?_
            refine ok_cvI hE rmR_draw [.int (8 : Int32)] [.ref (E.Y.ad 0)] rfl ca_X12_453 shR_0 rfl (fun _ hx => mR_draw hE.sys _ _ _ hx) ⟨rfl, rfl, rfl, rfl⟩ rfl rfl dX12_chance_110 (fun r18 => ?_)
            refine ok_cvV hE rmR_goesOnFor [.int r18.1] [] rfl ca_X12_428 shR_0 rfl (fun _ hx => mR_goesOnFor hE.sys _ _ _ hx) ⟨rfl, rfl, rfl, rfl⟩ rfl rfl dX12_chance_113 (fun M19 => ?_)
            refine ok_iinc hE 2 (x9.1 + (1 : Int32)) (by rw [ko_1]) (fun v20 => [(2, .int v20), (0, .ref (E.Y.ad 0)), (1, .int p1)]) rfl (fun _ => rfl) rfl dX12_chance_116 (fun v20 => ?_)
            refine ok_goto hE 49 rfl dX12_chance_119 ?_
            exact ok_sub [1, 2, 0] rfl (hrec49 (v20, M19))
          refine ok_if_eq hE 106 rfl dX12_chance_92 ?_ ?_
          · exact ok_sub [3, 4, 5] rfl (hj106 r14.2)
          · refine ok_aload_n hE 3 rfl dX12_chance_95 ?_
            refine ok_iload_n hE 2 rfl dX12_chance_96 ?_
            refine ok_iload hE 1 rfl dX12_chance_97 ?_
            refine ok_iload hE 0 rfl dX12_chance_99 ?_
            refine ok_iconst hE (1 : Int32) ki_1 dX12_chance_101 ?_
            refine ok_iconst hE (0 : Int32) ki_0 dX12_chance_102 ?_
            refine ok_cvV hE rmR_asks [.int v11, .int v13, .int v15, .int (1 : Int32), .int (0 : Int32)] [] rfl ca_X12_361 shR_0 rfl (fun _ hx => mR_asks hE.sys _ _ _ _ _ _ _ hx) ⟨rfl, rfl, rfl, rfl⟩ rfl rfl dX12_chance_103 (fun M21 => ?_)
            exact ok_sub [3, 4, 5] rfl (hj106 M21)
      · exact ok_sub [0] rfl (hj37 ())
theorem mR_chance {l : Launch} {Y : Sys} {t : Nat} (hY : SysOk Y t shR) (p1 : Int32)  (M : Mm) (r : (Int32 × Mm)) (h : R_chance p1 M = some r) : Cm l Y t yX12_chance (WS yX12_chance cX12_chance 6 (some .int)) rmR_chance [.ref (Y.ad 0), .int p1] M (enI r) := by
  refine cm_of (own := RX12) hY rfl rfl (Nat.le_of_ble_eq_true rfl) (fun E hE e1 e2 e3 e4 => ?_)
  subst e1
  exact tR_chance E hE p1  M r h e4.symm
def R_undo  (M : Mm) : Option (Int32 × Mm) :=
 if (gI M 0 55) = 0 then
 (bnd (R_isRefused (4 : Int32) M) fun r11 =>
 grd (r11.1 = 0 ∨ r11.1 = 1) (some (r11.1, r11.2)))
 else
 (lett (sI M 0 55 ((gI M 0 55) - (1 : Int32))) fun M1 =>
 lett (0 : Int32) fun v2 =>
 lett (fun (M_2 : Mm) =>
 lett (0 : Int32) fun v4 =>
 loopR (fun (rec61 : (Int32 × Mm) → Option (Int32 × Mm)) (x5 : Int32 × Mm) =>
 if (20 : Int32) ≤ x5.1 then
 (some ((1 : Int32), x5.2))
 else
 (ald (((20 : Int32) * (gI x5.2 0 55)) + x5.1) 400 (ald x5.1 40 (lett (sF x5.2 17 (ix x5.1) (gF x5.2 19 (ix (((20 : Int32) * (gI x5.2 0 55)) + x5.1)))) fun M6 =>
 lett (x5.1 + (1 : Int32)) fun v7 =>
 rec61 (v7, M6))))) 1000000 (v4, M_2)) fun j59 =>
 loopR (fun (rec25 : (Int32 × Mm) → Option (Int32 × Mm)) (x8 : Int32 × Mm) =>
 if (758 : Int32) ≤ x8.1 then
 (j59 x8.2)
 else
 (ald (((758 : Int32) * (gI x8.2 0 55)) + x8.1) 15160 (ald x8.1 1516 (lett (sI x8.2 16 (ix x8.1) (gI x8.2 18 (ix (((758 : Int32) * (gI x8.2 0 55)) + x8.1)))) fun M9 =>
 lett (x8.1 + (1 : Int32)) fun v10 =>
 rec25 (v10, M9))))) 1000000 (v2, M1))
abbrev rmR_undo : Room := { frames := 1, cells := 0, slots := 0, locals := 21 }
set_option maxHeartbeats 4000000 in
set_option maxRecDepth 100000 in
theorem tR_undo (E : Cx) (hE : CxOk E cX12_undo RX12 shR (some .boolean) rmR_undo 2)   (M : Mm) : Ok E 0 [(0, .ref (E.Y.ad 0))] [] M (R_undo  M) (KI E) := by
  unfold R_undo
  refine ok_aload_n hE 0 rfl dX12_undo_0 ?_
  refine ok_getI hE fl_X12_178 shR_0 rfl dX12_undo_1 ?_
  refine ok_if_ne hE 13 rfl dX12_undo_4 ?_ ?_
  · refine ok_aload_n hE 0 rfl dX12_undo_13 ?_
    refine ok_dup hE rfl dX12_undo_14 ?_
    refine ok_getI hE fl_X12_178 shR_0 rfl dX12_undo_15 ?_
    refine ok_iconst hE (1 : Int32) ki_1 dX12_undo_18 ?_
    refine ok_isub hE dX12_undo_19 ?_
    refine ok_putI hE fl_X12_178 shR_0 rfl dX12_undo_20 (fun M1 => ?_)
    refine ok_iconst hE (0 : Int32) ki_0 dX12_undo_23 ?_
    refine ok_istore_n hE (fun v2 => [(1, .int v2), (0, .ref (E.Y.ad 0))]) (fun _ => rfl) rfl dX12_undo_24 (fun v2 => ?_)
    refine ok_fun (fun j => ∀ (M_2 : Mm), Ok E 59 [(0, .ref (E.Y.ad 0))] [] M_2 (j M_2) (KI E)) (fun M_2 => ?_) (fun j59 hj59 => ?_)
    · refine ok_iconst hE (0 : Int32) ki_0 dX12_undo_59 ?_
      refine ok_istore_n hE (fun v4 => [(1, .int v4), (0, .ref (E.Y.ad 0))]) (fun _ => rfl) rfl dX12_undo_60 (fun v4 => ?_)
      refine ok_sub [1, 0] rfl (ok_loop (σ := Int32 × Mm) 61 (fun x5 => [(0, .ref (E.Y.ad 0)), (1, .int x5.1)]) (fun x5 => x5.2) (fun rec61 hrec61 x5 => ?_) 1000000 (v4, M_2))
      refine ok_iload_n hE 1 rfl dX12_undo_61 ?_
      refine ok_bipush hE (20 : Int32) kb_20 dX12_undo_62 ?_
      refine ok_icmp_ge hE 93 rfl dX12_undo_64 ?_ ?_
      · refine ok_iconst hE (1 : Int32) ki_1 dX12_undo_93 ?_
        exact ok_zreturn hE (Or.inr rfl) dX12_undo_94
      · refine ok_aload_n hE 0 rfl dX12_undo_67 ?_
        refine ok_getA hE fl_X12_162 shR_0 rfl dX12_undo_68 ?_
        refine ok_iload_n hE 1 rfl dX12_undo_71 ?_
        refine ok_aload_n hE 0 rfl dX12_undo_72 ?_
        refine ok_getA hE fl_X12_169 shR_0 rfl dX12_undo_73 ?_
        refine ok_bipush hE (20 : Int32) kb_20 dX12_undo_76 ?_
        refine ok_aload_n hE 0 rfl dX12_undo_78 ?_
        refine ok_getI hE fl_X12_178 shR_0 rfl dX12_undo_79 ?_
        refine ok_imul hE dX12_undo_82 ?_
        refine ok_iload_n hE 1 rfl dX12_undo_83 ?_
        refine ok_iadd hE dX12_undo_84 ?_
        refine ok_faload hE shR_19 dX12_undo_85 ?_
        refine ok_fastore hE shR_17 dX12_undo_86 (fun M6 => ?_)
        refine ok_iinc hE 1 (x5.1 + (1 : Int32)) (by rw [ko_1]) (fun v7 => [(1, .int v7), (0, .ref (E.Y.ad 0))]) rfl (fun _ => rfl) rfl dX12_undo_87 (fun v7 => ?_)
        refine ok_goto hE 61 rfl dX12_undo_90 ?_
        exact ok_sub [1, 0] rfl (hrec61 (v7, M6))
    refine ok_sub [1, 0] rfl (ok_loop (σ := Int32 × Mm) 25 (fun x8 => [(0, .ref (E.Y.ad 0)), (1, .int x8.1)]) (fun x8 => x8.2) (fun rec25 hrec25 x8 => ?_) 1000000 (v2, M1))
    refine ok_iload_n hE 1 rfl dX12_undo_25 ?_
    refine ok_sipush hE (758 : Int32) ks_758 dX12_undo_26 ?_
    refine ok_icmp_ge hE 59 rfl dX12_undo_29 ?_ ?_
    · exact ok_sub [0] rfl (hj59 x8.2)
    · refine ok_aload_n hE 0 rfl dX12_undo_32 ?_
      refine ok_getA hE fl_X12_159 shR_0 rfl dX12_undo_33 ?_
      refine ok_iload_n hE 1 rfl dX12_undo_36 ?_
      refine ok_aload_n hE 0 rfl dX12_undo_37 ?_
      refine ok_getA hE fl_X12_166 shR_0 rfl dX12_undo_38 ?_
      refine ok_sipush hE (758 : Int32) ks_758 dX12_undo_41 ?_
      refine ok_aload_n hE 0 rfl dX12_undo_44 ?_
      refine ok_getI hE fl_X12_178 shR_0 rfl dX12_undo_45 ?_
      refine ok_imul hE dX12_undo_48 ?_
      refine ok_iload_n hE 1 rfl dX12_undo_49 ?_
      refine ok_iadd hE dX12_undo_50 ?_
      refine ok_iaload hE shR_18 dX12_undo_51 ?_
      refine ok_iastore hE shR_16 dX12_undo_52 (fun M9 => ?_)
      refine ok_iinc hE 1 (x8.1 + (1 : Int32)) (by rw [ko_1]) (fun v10 => [(1, .int v10), (0, .ref (E.Y.ad 0))]) rfl (fun _ => rfl) rfl dX12_undo_53 (fun v10 => ?_)
      refine ok_goto hE 25 rfl dX12_undo_56 ?_
      exact ok_sub [1, 0] rfl (hrec25 (v10, M9))
  · refine ok_aload_n hE 0 rfl dX12_undo_7 ?_
    refine ok_iconst hE (4 : Int32) ki_4 dX12_undo_8 ?_
    refine ok_cvI hE rmR_isRefused [.int (4 : Int32)] [] rfl ca_X12_228 shR_0 rfl (fun _ hx => mR_isRefused hE.sys _ _ _ hx) ⟨rfl, rfl, rfl, rfl⟩ rfl rfl dX12_undo_9 (fun r11 => ?_)
    exact ok_zreturnG hE dX12_undo_12
theorem mR_undo {l : Launch} {Y : Sys} {t : Nat} (hY : SysOk Y t shR)   (M : Mm) (r : (Int32 × Mm)) (h : R_undo  M = some r) : Cm l Y t yX12_undo (WS yX12_undo cX12_undo 2 (some .boolean)) rmR_undo [.ref (Y.ad 0)] M (enI r) := by
  refine cm_of (own := RX12) hY rfl rfl (Nat.le_of_ble_eq_true rfl) (fun E hE e1 e2 e3 e4 => ?_)
  subst e1
  exact tR_undo E hE   M r h e4.symm
def R_seed (p1 : Int32) (M : Mm) : Option (Int32 × Mm) :=
 if 0 ≤ p1 then
 (lett (sI M 0 66 p1) fun M1 =>
 some ((1 : Int32), M1))
 else
 (bnd (R_isRefused (5 : Int32) M) fun r2 =>
 grd (r2.1 = 0 ∨ r2.1 = 1) (some (r2.1, r2.2)))
abbrev rmR_seed : Room := { frames := 1, cells := 0, slots := 0, locals := 21 }
set_option maxHeartbeats 4000000 in
set_option maxRecDepth 100000 in
theorem tR_seed (E : Cx) (hE : CxOk E cX12_seed RX12 shR (some .boolean) rmR_seed 2) (p1 : Int32)  (M : Mm) : Ok E 0 [(0, .ref (E.Y.ad 0)), (1, .int p1)] [] M (R_seed p1 M) (KI E) := by
  unfold R_seed
  refine ok_iload_n hE 1 rfl dX12_seed_0 ?_
  refine ok_if_ge hE 10 rfl dX12_seed_1 ?_ ?_
  · refine ok_aload_n hE 0 rfl dX12_seed_10 ?_
    refine ok_iload_n hE 1 rfl dX12_seed_11 ?_
    refine ok_putI hE fl_X12_211 shR_0 rfl dX12_seed_12 (fun M1 => ?_)
    refine ok_iconst hE (1 : Int32) ki_1 dX12_seed_15 ?_
    exact ok_zreturn hE (Or.inr rfl) dX12_seed_16
  · refine ok_aload_n hE 0 rfl dX12_seed_4 ?_
    refine ok_iconst hE (5 : Int32) ki_5 dX12_seed_5 ?_
    refine ok_cvI hE rmR_isRefused [.int (5 : Int32)] [] rfl ca_X12_228 shR_0 rfl (fun _ hx => mR_isRefused hE.sys _ _ _ hx) ⟨rfl, rfl, rfl, rfl⟩ rfl rfl dX12_seed_6 (fun r2 => ?_)
    exact ok_zreturnG hE dX12_seed_9
theorem mR_seed {l : Launch} {Y : Sys} {t : Nat} (hY : SysOk Y t shR) (p1 : Int32)  (M : Mm) (r : (Int32 × Mm)) (h : R_seed p1 M = some r) : Cm l Y t yX12_seed (WS yX12_seed cX12_seed 2 (some .boolean)) rmR_seed [.ref (Y.ad 0), .int p1] M (enI r) := by
  refine cm_of (own := RX12) hY rfl rfl (Nat.le_of_ble_eq_true rfl) (fun E hE e1 e2 e3 e4 => ?_)
  subst e1
  exact tR_seed E hE p1  M r h e4.symm
def R_says (p1 : Int32) (M : Mm) : Option Mm :=
 ald (gI M 0 68) 15 (lett (sI M 26 (ix (gI M 0 68)) p1) fun M1 =>
 lett (sI M1 0 68 ((gI M1 0 68) + (1 : Int32))) fun M2 =>
 some M2)
abbrev rmR_says : Room := { frames := 0, cells := 0, slots := 0, locals := 0 }
set_option maxHeartbeats 4000000 in
set_option maxRecDepth 100000 in
theorem tR_says (E : Cx) (hE : CxOk E cX12_says RX12 shR none rmR_says 2) (p1 : Int32)  (M : Mm) : Ok E 0 [(0, .ref (E.Y.ad 0)), (1, .int p1)] [] M (R_says p1 M) (KV E) := by
  unfold R_says
  refine ok_aload_n hE 0 rfl dX12_says_0 ?_
  refine ok_getA hE fl_X12_214 shR_0 rfl dX12_says_1 ?_
  refine ok_aload_n hE 0 rfl dX12_says_4 ?_
  refine ok_getI hE fl_X12_217 shR_0 rfl dX12_says_5 ?_
  refine ok_iload_n hE 1 rfl dX12_says_8 ?_
  refine ok_iastore hE shR_26 dX12_says_9 (fun M1 => ?_)
  refine ok_aload_n hE 0 rfl dX12_says_10 ?_
  refine ok_dup hE rfl dX12_says_11 ?_
  refine ok_getI hE fl_X12_217 shR_0 rfl dX12_says_12 ?_
  refine ok_iconst hE (1 : Int32) ki_1 dX12_says_15 ?_
  refine ok_iadd hE dX12_says_16 ?_
  refine ok_putI hE fl_X12_217 shR_0 rfl dX12_says_17 (fun M2 => ?_)
  exact ok_return hE dX12_says_20
theorem mR_says {l : Launch} {Y : Sys} {t : Nat} (hY : SysOk Y t shR) (p1 : Int32)  (M : Mm) (r : Mm) (h : R_says p1 M = some r) : Cm l Y t yX12_says (WS yX12_says cX12_says 2 none) rmR_says [.ref (Y.ad 0), .int p1] M (enV r) := by
  refine cm_of (own := RX12) hY rfl rfl (Nat.le_of_ble_eq_true rfl) (fun E hE e1 e2 e3 e4 => ?_)
  subst e1
  exact tR_says E hE p1  M r h e4.symm
def R_image  (M : Mm) : Option (Int32 × Mm) :=
 bnd (R_isNow M) fun M1 =>
 lett (sI M1 0 68 (0 : Int32)) fun M2 =>
 bnd (R_its (6 : Int32) M2) fun r3 =>
 bnd (R_says r3 M2) fun M4 =>
 bnd (R_its (7 : Int32) M4) fun r5 =>
 bnd (R_says r5 M4) fun M6 =>
 lett (0 : Int32) fun v7 =>
 lett (fun (M_7 : Mm) =>
 lett (163 : Int32) fun v9 =>
 lett (0 : Int32) fun v10 =>
 lett (fun (u_10 : Int32) =>
 bnd (R_says u_10 M_7) fun M12 =>
 some ((gI M12 0 68), M12)) fun j101 =>
 loopR (fun (rec72 : (Int32 × Int32) → Option (Int32 × Mm)) (x13 : Int32 × Int32) =>
 if (gI M_7 0 68) ≤ x13.2 then
 (j101 x13.1)
 else
 (ald x13.2 15 (lett ((((3 : Int32) * x13.1) + (gI M_7 26 (ix x13.2))) - (((3 : Int32) * x13.1) + (gI M_7 26 (ix x13.2))) / (251 : Int32) * (251 : Int32)) fun v14 =>
 lett (x13.2 + (1 : Int32)) fun v15 =>
 rec72 (v14, v15)))) 1000000 (v9, v10)) fun j66 =>
 loopR (fun (rec31 : (Int32 × Mm) → Option (Int32 × Mm)) (x16 : Int32 × Mm) =>
 if (gI x16.2 0 1) ≤ x16.1 then
 (j66 x16.2)
 else
 (bnd (R_of x16.1 (0 : Int32) x16.2) fun r17 =>
 bnd (R_says r17 x16.2) fun M18 =>
 bnd (R_of x16.1 (8 : Int32) M18) fun r19 =>
 bnd (R_says r19 M18) fun M20 =>
 lett (x16.1 + (1 : Int32)) fun v21 =>
 rec31 (v21, M20))) 1000000 (v7, M6)
abbrev rmR_image : Room := { frames := 2, cells := 0, slots := 0, locals := 43 }
set_option maxHeartbeats 4000000 in
set_option maxRecDepth 100000 in
theorem tR_image (E : Cx) (hE : CxOk E cX12_image RX12 shR (some .int) rmR_image 3)   (M : Mm) : Ok E 0 [(0, .ref (E.Y.ad 0))] [] M (R_image  M) (KI E) := by
  unfold R_image
  refine ok_aload_n hE 0 rfl dX12_image_0 ?_
  refine ok_cvV hE rmR_isNow [] [] rfl ca_X12_324 shR_0 rfl (fun _ hx => mR_isNow hE.sys  _ _ hx) ⟨rfl, rfl, rfl, rfl⟩ rfl rfl dX12_image_1 (fun M1 => ?_)
  refine ok_aload_n hE 0 rfl dX12_image_4 ?_
  refine ok_iconst hE (0 : Int32) ki_0 dX12_image_5 ?_
  refine ok_putI hE fl_X12_217 shR_0 rfl dX12_image_6 (fun M2 => ?_)
  refine ok_aload_n hE 0 rfl dX12_image_9 ?_
  refine ok_aload_n hE 0 rfl dX12_image_10 ?_
  refine ok_bipush hE (6 : Int32) kb_6 dX12_image_11 ?_
  refine ok_cvIp hE rmR_its [.int (6 : Int32)] [.ref (E.Y.ad 0)] rfl ca_X12_321 shR_0 rfl (fun _ hx => mR_its hE.sys _ _ _ hx) ⟨rfl, rfl, rfl, rfl⟩ rfl rfl dX12_image_13 (fun r3 => ?_)
  refine ok_cvV hE rmR_says [.int r3] [] rfl ca_X12_456 shR_0 rfl (fun _ hx => mR_says hE.sys _ _ _ hx) ⟨rfl, rfl, rfl, rfl⟩ rfl rfl dX12_image_16 (fun M4 => ?_)
  refine ok_aload_n hE 0 rfl dX12_image_19 ?_
  refine ok_aload_n hE 0 rfl dX12_image_20 ?_
  refine ok_bipush hE (7 : Int32) kb_7 dX12_image_21 ?_
  refine ok_cvIp hE rmR_its [.int (7 : Int32)] [.ref (E.Y.ad 0)] rfl ca_X12_321 shR_0 rfl (fun _ hx => mR_its hE.sys _ _ _ hx) ⟨rfl, rfl, rfl, rfl⟩ rfl rfl dX12_image_23 (fun r5 => ?_)
  refine ok_cvV hE rmR_says [.int r5] [] rfl ca_X12_456 shR_0 rfl (fun _ hx => mR_says hE.sys _ _ _ hx) ⟨rfl, rfl, rfl, rfl⟩ rfl rfl dX12_image_26 (fun M6 => ?_)
  refine ok_iconst hE (0 : Int32) ki_0 dX12_image_29 ?_
  refine ok_istore_n hE (fun v7 => [(1, .int v7), (0, .ref (E.Y.ad 0))]) (fun _ => rfl) rfl dX12_image_30 (fun v7 => ?_)
  refine ok_fun (fun j => ∀ (M_7 : Mm), Ok E 66 [(0, .ref (E.Y.ad 0))] [] M_7 (j M_7) (KI E)) (fun M_7 => ?_) (fun j66 hj66 => ?_)
  · refine ok_sipush hE (163 : Int32) ks_163 dX12_image_66 ?_
    refine ok_istore_n hE (fun v9 => [(1, .int v9), (0, .ref (E.Y.ad 0))]) (fun _ => rfl) rfl dX12_image_69 (fun v9 => ?_)
    refine ok_iconst hE (0 : Int32) ki_0 dX12_image_70 ?_
    refine ok_istore_n hE (fun v10 => [(2, .int v10), (1, .int v9), (0, .ref (E.Y.ad 0))]) (fun _ => rfl) rfl dX12_image_71 (fun v10 => ?_)
    refine ok_fun (fun j => ∀ (u_10 : Int32), Ok E 101 [(0, .ref (E.Y.ad 0)), (1, .int u_10)] [] M_7 (j u_10) (KI E)) (fun u_10 => ?_) (fun j101 hj101 => ?_)
    · refine ok_aload_n hE 0 rfl dX12_image_101 ?_
      refine ok_iload_n hE 1 rfl dX12_image_102 ?_
      refine ok_cvV hE rmR_says [.int u_10] [] rfl ca_X12_456 shR_0 rfl (fun _ hx => mR_says hE.sys _ _ _ hx) ⟨rfl, rfl, rfl, rfl⟩ rfl rfl dX12_image_103 (fun M12 => ?_)
      refine ok_aload_n hE 0 rfl dX12_image_106 ?_
      refine ok_getI hE fl_X12_217 shR_0 rfl dX12_image_107 ?_
      exact ok_ireturn hE dX12_image_110
    refine ok_sub [2, 1, 0] rfl (ok_loop (σ := Int32 × Int32) 72 (fun x13 => [(0, .ref (E.Y.ad 0)), (1, .int x13.1), (2, .int x13.2)]) (fun x13 => M_7) (fun rec72 hrec72 x13 => ?_) 1000000 (v9, v10))
    refine ok_iload_n hE 2 rfl dX12_image_72 ?_
    refine ok_aload_n hE 0 rfl dX12_image_73 ?_
    refine ok_getI hE fl_X12_217 shR_0 rfl dX12_image_74 ?_
    refine ok_icmp_ge hE 101 rfl dX12_image_77 ?_ ?_
    · exact ok_sub [0, 1] rfl (hj101 x13.1)
    · refine ok_iconst hE (3 : Int32) ki_3 dX12_image_80 ?_
      refine ok_iload_n hE 1 rfl dX12_image_81 ?_
      refine ok_imul hE dX12_image_82 ?_
      refine ok_aload_n hE 0 rfl dX12_image_83 ?_
      refine ok_getA hE fl_X12_214 shR_0 rfl dX12_image_84 ?_
      refine ok_iload_n hE 2 rfl dX12_image_87 ?_
      refine ok_iaload hE shR_26 dX12_image_88 ?_
      refine ok_iadd hE dX12_image_89 ?_
      refine ok_sipush hE (251 : Int32) ks_251 dX12_image_90 ?_
      refine ok_iremC hE (by decide) dX12_image_93 ?_
      refine ok_istore_n hE (fun v14 => [(1, .int v14), (0, .ref (E.Y.ad 0)), (2, .int x13.2)]) (fun _ => rfl) rfl dX12_image_94 (fun v14 => ?_)
      refine ok_iinc hE 2 (x13.2 + (1 : Int32)) (by rw [ko_1]) (fun v15 => [(2, .int v15), (1, .int v14), (0, .ref (E.Y.ad 0))]) rfl (fun _ => rfl) rfl dX12_image_95 (fun v15 => ?_)
      refine ok_goto hE 72 rfl dX12_image_98 ?_
      exact ok_sub [2, 1, 0] rfl (hrec72 (v14, v15))
  refine ok_sub [1, 0] rfl (ok_loop (σ := Int32 × Mm) 31 (fun x16 => [(0, .ref (E.Y.ad 0)), (1, .int x16.1)]) (fun x16 => x16.2) (fun rec31 hrec31 x16 => ?_) 1000000 (v7, M6))
  refine ok_iload_n hE 1 rfl dX12_image_31 ?_
  refine ok_aload_n hE 0 rfl dX12_image_32 ?_
  refine ok_getI hE fl_X12_13 shR_0 rfl dX12_image_33 ?_
  refine ok_icmp_ge hE 66 rfl dX12_image_36 ?_ ?_
  · exact ok_sub [0] rfl (hj66 x16.2)
  · refine ok_aload_n hE 0 rfl dX12_image_39 ?_
    refine ok_aload_n hE 0 rfl dX12_image_40 ?_
    refine ok_iload_n hE 1 rfl dX12_image_41 ?_
    refine ok_iconst hE (0 : Int32) ki_0 dX12_image_42 ?_
    refine ok_cvIp hE rmR_of [.int x16.1, .int (0 : Int32)] [.ref (E.Y.ad 0)] rfl ca_X12_337 shR_0 rfl (fun _ hx => mR_of hE.sys _ _ _ _ hx) ⟨rfl, rfl, rfl, rfl⟩ rfl rfl dX12_image_43 (fun r17 => ?_)
    refine ok_cvV hE rmR_says [.int r17] [] rfl ca_X12_456 shR_0 rfl (fun _ hx => mR_says hE.sys _ _ _ hx) ⟨rfl, rfl, rfl, rfl⟩ rfl rfl dX12_image_46 (fun M18 => ?_)
    refine ok_aload_n hE 0 rfl dX12_image_49 ?_
    refine ok_aload_n hE 0 rfl dX12_image_50 ?_
    refine ok_iload_n hE 1 rfl dX12_image_51 ?_
    refine ok_bipush hE (8 : Int32) kb_8 dX12_image_52 ?_
    refine ok_cvIp hE rmR_of [.int x16.1, .int (8 : Int32)] [.ref (E.Y.ad 0)] rfl ca_X12_337 shR_0 rfl (fun _ hx => mR_of hE.sys _ _ _ _ hx) ⟨rfl, rfl, rfl, rfl⟩ rfl rfl dX12_image_54 (fun r19 => ?_)
    refine ok_cvV hE rmR_says [.int r19] [] rfl ca_X12_456 shR_0 rfl (fun _ hx => mR_says hE.sys _ _ _ hx) ⟨rfl, rfl, rfl, rfl⟩ rfl rfl dX12_image_57 (fun M20 => ?_)
    refine ok_iinc hE 1 (x16.1 + (1 : Int32)) (by rw [ko_1]) (fun v21 => [(1, .int v21), (0, .ref (E.Y.ad 0))]) rfl (fun _ => rfl) rfl dX12_image_60 (fun v21 => ?_)
    refine ok_goto hE 31 rfl dX12_image_63 ?_
    exact ok_sub [1, 0] rfl (hrec31 (v21, M20))
theorem mR_image {l : Launch} {Y : Sys} {t : Nat} (hY : SysOk Y t shR)   (M : Mm) (r : (Int32 × Mm)) (h : R_image  M = some r) : Cm l Y t yX12_image (WS yX12_image cX12_image 3 (some .int)) rmR_image [.ref (Y.ad 0)] M (enI r) := by
  refine cm_of (own := RX12) hY rfl rfl (Nat.le_of_ble_eq_true rfl) (fun E hE e1 e2 e3 e4 => ?_)
  subst e1
  exact tR_image E hE   M r h e4.symm
def R_octet (p1 : Int32) (M : Mm) : Option Int32 :=
 bnd (R_isIn p1 (0 : Int32) ((gI M 0 68) - (1 : Int32)) M) fun r1 =>
 if r1 = 0 then
 (some (-1 : Int32))
 else
 (ald p1 15 (some (gI M 26 (ix p1))))
abbrev rmR_octet : Room := { frames := 1, cells := 0, slots := 0, locals := 22 }
set_option maxHeartbeats 4000000 in
set_option maxRecDepth 100000 in
theorem tR_octet (E : Cx) (hE : CxOk E cX12_octet RX12 shR (some .int) rmR_octet 2) (p1 : Int32)  (M : Mm) : Ok E 0 [(0, .ref (E.Y.ad 0)), (1, .int p1)] [] M (R_octet p1 M) (KIp E M) := by
  unfold R_octet
  refine ok_iload_n hE 1 rfl dX12_octet_0 ?_
  refine ok_iconst hE (0 : Int32) ki_0 dX12_octet_1 ?_
  refine ok_aload_n hE 0 rfl dX12_octet_2 ?_
  refine ok_getI hE fl_X12_217 shR_0 rfl dX12_octet_3 ?_
  refine ok_iconst hE (1 : Int32) ki_1 dX12_octet_6 ?_
  refine ok_isub hE dX12_octet_7 ?_
  refine ok_csIp hE rmR_isIn [.int p1, .int (0 : Int32), .int ((gI M 0 68) - (1 : Int32))] [] rfl ca_X12_262 (fun _ hx => mR_isIn hE.sys _ _ _ _ _ hx) ⟨rfl, rfl, rfl, rfl⟩ rfl rfl dX12_octet_8 (fun r1 => ?_)
  refine ok_if_eq hE 23 rfl dX12_octet_11 ?_ ?_
  · refine ok_iconst hE (-1 : Int32) ki_m1 dX12_octet_23 ?_
    exact ok_ireturnP hE dX12_octet_24
  · refine ok_aload_n hE 0 rfl dX12_octet_14 ?_
    refine ok_getA hE fl_X12_214 shR_0 rfl dX12_octet_15 ?_
    refine ok_iload_n hE 1 rfl dX12_octet_18 ?_
    refine ok_iaload hE shR_26 dX12_octet_19 ?_
    refine ok_goto hE 24 rfl dX12_octet_20 ?_
    exact ok_ireturnP hE dX12_octet_24
theorem mR_octet {l : Launch} {Y : Sys} {t : Nat} (hY : SysOk Y t shR) (p1 : Int32)  (M : Mm) (r : Int32) (h : R_octet p1 M = some r) : Cm l Y t yX12_octet (WS yX12_octet cX12_octet 2 (some .int)) rmR_octet [.ref (Y.ad 0), .int p1] M ((some (.int r), M)) := by
  refine cm_of (own := RX12) hY rfl rfl (Nat.le_of_ble_eq_true rfl) (fun E hE e1 e2 e3 e4 => ?_)
  subst e1
  exact tR_octet E hE p1  M r h e4.symm
def R_isImage (p1 : Int32) (M : Mm) : Option Int32 :=
 if (gI M 0 0) = 0 then
 (some (0 : Int32))
 else
 (if p1 = ((3 : Int32) + ((2 : Int32) * (gI M 0 1))) then
 (lett (163 : Int32) fun v1 =>
 lett (0 : Int32) fun v2 =>
 lett (fun (u_2 : Int32) =>
 ald (p1 - (1 : Int32)) 1600 (lett (fun (w_3 : Int32) =>
 lett w_3 fun v5 =>
 lett (0 : Int32) fun v6 =>
 loopR (fun (rec103 : (Int32 × Int32) → Option Int32) (x7 : Int32 × Int32) =>
 if x7.1 = 0 then
 (grd (x7.1 = 0 ∨ x7.1 = 1) (some x7.1))
 else
 (if (gI M 0 1) ≤ x7.2 then
 (grd (x7.1 = 0 ∨ x7.1 = 1) (some x7.1))
 else
 (ald ((2 : Int32) + ((2 : Int32) * x7.2)) 1600 (bnd (R_isIn (gI M 13 (ix ((2 : Int32) + ((2 : Int32) * x7.2)))) (1 : Int32) (100 : Int32) M) fun r8 =>
 lett (fun (w_8 : Int32) =>
 lett w_8 fun v10 =>
 lett (x7.2 + (1 : Int32)) fun v11 =>
 rec103 (v10, v11)) fun j156 =>
 lett (fun (_ : Unit) =>
 j156 (0 : Int32)) fun j155 =>
 if r8 = 0 then
 (j155 ())
 else
 (ald ((3 : Int32) + ((2 : Int32) * x7.2)) 1600 (if (1 : Int32) < (gI M 13 (ix ((3 : Int32) + ((2 : Int32) * x7.2)))) then
 (j155 ())
 else
 (j156 (1 : Int32)))))))) 1000000 (v5, v6)) fun j99 =>
 lett (fun (_ : Unit) =>
 j99 (0 : Int32)) fun j98 =>
 if (gI M 13 (ix (p1 - (1 : Int32)))) = u_2 then
 (ald (0 : Int32) 1600 (if (20 : Int32) < (gI M 13 (ix (0 : Int32))) then
 (j98 ())
 else
 (ald (1 : Int32) 1600 (bnd (R_isIn (gI M 13 (ix (1 : Int32))) (1 : Int32) (200 : Int32) M) fun r12 =>
 if r12 = 0 then
 (j98 ())
 else
 (j99 (1 : Int32))))))
 else
 (j98 ()))) fun j55 =>
 loopR (fun (rec27 : (Int32 × Int32) → Option Int32) (x13 : Int32 × Int32) =>
 if (p1 - (1 : Int32)) ≤ x13.2 then
 (j55 x13.1)
 else
 (ald x13.2 1600 (lett ((((3 : Int32) * x13.1) + (gI M 13 (ix x13.2))) - (((3 : Int32) * x13.1) + (gI M 13 (ix x13.2))) / (251 : Int32) * (251 : Int32)) fun v14 =>
 lett (x13.2 + (1 : Int32)) fun v15 =>
 rec27 (v14, v15)))) 1000000 (v1, v2))
 else
 (some (0 : Int32)))
abbrev rmR_isImage : Room := { frames := 1, cells := 0, slots := 0, locals := 22 }
set_option maxHeartbeats 4000000 in
set_option maxRecDepth 100000 in
theorem tR_isImage (E : Cx) (hE : CxOk E cX12_isImage RX12 shR (some .boolean) rmR_isImage 5) (p1 : Int32)  (M : Mm) : Ok E 0 [(0, .ref (E.Y.ad 0)), (1, .int p1)] [] M (R_isImage p1 M) (KIp E M) := by
  unfold R_isImage
  refine ok_aload_n hE 0 rfl dX12_isImage_0 ?_
  refine ok_getI hE fl_X12_7 shR_0 rfl dX12_isImage_1 ?_
  refine ok_if_eq hE 19 rfl dX12_isImage_4 ?_ ?_
  · refine ok_iconst hE (0 : Int32) ki_0 dX12_isImage_19 ?_
    exact ok_zreturnP hE (Or.inl rfl) dX12_isImage_20
  · refine ok_iload_n hE 1 rfl dX12_isImage_7 ?_
    refine ok_iconst hE (3 : Int32) ki_3 dX12_isImage_8 ?_
    refine ok_iconst hE (2 : Int32) ki_2 dX12_isImage_9 ?_
    refine ok_aload_n hE 0 rfl dX12_isImage_10 ?_
    refine ok_getI hE fl_X12_13 shR_0 rfl dX12_isImage_11 ?_
    refine ok_imul hE dX12_isImage_14 ?_
    refine ok_iadd hE dX12_isImage_15 ?_
    refine ok_icmp_eq hE 21 rfl dX12_isImage_16 ?_ ?_
    · refine ok_sipush hE (163 : Int32) ks_163 dX12_isImage_21 ?_
      refine ok_istore_n hE (fun v1 => [(2, .int v1), (0, .ref (E.Y.ad 0)), (1, .int p1)]) (fun _ => rfl) rfl dX12_isImage_24 (fun v1 => ?_)
      refine ok_iconst hE (0 : Int32) ki_0 dX12_isImage_25 ?_
      refine ok_istore_n hE (fun v2 => [(3, .int v2), (2, .int v1), (0, .ref (E.Y.ad 0)), (1, .int p1)]) (fun _ => rfl) rfl dX12_isImage_26 (fun v2 => ?_)
      refine ok_fun (fun j => ∀ (u_2 : Int32), Ok E 55 [(0, .ref (E.Y.ad 0)), (1, .int p1), (2, .int u_2)] [] M (j u_2) (KIp E M)) (fun u_2 => ?_) (fun j55 hj55 => ?_)
      · refine ok_aload_n hE 0 rfl dX12_isImage_55 ?_
        refine ok_getA hE fl_X12_126 shR_0 rfl dX12_isImage_56 ?_
        refine ok_iload_n hE 1 rfl dX12_isImage_59 ?_
        refine ok_iconst hE (1 : Int32) ki_1 dX12_isImage_60 ?_
        refine ok_isub hE dX12_isImage_61 ?_
        refine ok_iaload hE shR_13 dX12_isImage_62 ?_
        refine ok_iload_n hE 2 rfl dX12_isImage_63 ?_
        refine ok_fun (fun j => ∀ (w_3 : Int32), Ok E 99 [(0, .ref (E.Y.ad 0))] [.int w_3] M (j w_3) (KIp E M)) (fun w_3 => ?_) (fun j99 hj99 => ?_)
        · refine ok_istore_n hE (fun v5 => [(3, .int v5), (0, .ref (E.Y.ad 0))]) (fun _ => rfl) rfl dX12_isImage_99 (fun v5 => ?_)
          refine ok_iconst hE (0 : Int32) ki_0 dX12_isImage_100 ?_
          refine ok_istore hE (fun v6 => [(4, .int v6), (3, .int v5), (0, .ref (E.Y.ad 0))]) (fun _ => rfl) rfl dX12_isImage_101 (fun v6 => ?_)
          refine ok_sub [2, 1, 0] rfl (ok_loop (σ := Int32 × Int32) 103 (fun x7 => [(0, .ref (E.Y.ad 0)), (3, .int x7.1), (4, .int x7.2)]) (fun x7 => M) (fun rec103 hrec103 x7 => ?_) 1000000 (v5, v6))
          refine ok_iload_n hE 1 rfl dX12_isImage_103 ?_
          refine ok_if_eq hE 163 rfl dX12_isImage_104 ?_ ?_
          · refine ok_iload_n hE 1 rfl dX12_isImage_163 ?_
            exact ok_zreturnPG hE dX12_isImage_164
          · refine ok_iload hE 2 rfl dX12_isImage_107 ?_
            refine ok_aload_n hE 0 rfl dX12_isImage_109 ?_
            refine ok_getI hE fl_X12_13 shR_0 rfl dX12_isImage_110 ?_
            refine ok_icmp_ge hE 163 rfl dX12_isImage_113 ?_ ?_
            · refine ok_iload_n hE 1 rfl dX12_isImage_163 ?_
              exact ok_zreturnPG hE dX12_isImage_164
            · refine ok_aload_n hE 0 rfl dX12_isImage_116 ?_
              refine ok_getA hE fl_X12_126 shR_0 rfl dX12_isImage_117 ?_
              refine ok_iconst hE (2 : Int32) ki_2 dX12_isImage_120 ?_
              refine ok_iconst hE (2 : Int32) ki_2 dX12_isImage_121 ?_
              refine ok_iload hE 2 rfl dX12_isImage_122 ?_
              refine ok_imul hE dX12_isImage_124 ?_
              refine ok_iadd hE dX12_isImage_125 ?_
              refine ok_iaload hE shR_13 dX12_isImage_126 ?_
              refine ok_iconst hE (1 : Int32) ki_1 dX12_isImage_127 ?_
              refine ok_bipush hE (100 : Int32) kb_100 dX12_isImage_128 ?_
              refine ok_csIp hE rmR_isIn [.int (gI M 13 (ix ((2 : Int32) + ((2 : Int32) * x7.2)))), .int (1 : Int32), .int (100 : Int32)] [] rfl ca_X12_262 (fun _ hx => mR_isIn hE.sys _ _ _ _ _ hx) ⟨rfl, rfl, rfl, rfl⟩ rfl rfl dX12_isImage_130 (fun r8 => ?_)
              refine ok_fun (fun j => ∀ (w_8 : Int32), Ok E 156 [(0, .ref (E.Y.ad 0)), (4, .int x7.2)] [.int w_8] M (j w_8) (KIp E M)) (fun w_8 => ?_) (fun j156 hj156 => ?_)
              · refine ok_istore_n hE (fun v10 => [(3, .int v10), (0, .ref (E.Y.ad 0)), (4, .int x7.2)]) (fun _ => rfl) rfl dX12_isImage_156 (fun v10 => ?_)
                refine ok_iinc hE 2 (x7.2 + (1 : Int32)) (by rw [ko_1]) (fun v11 => [(4, .int v11), (3, .int v10), (0, .ref (E.Y.ad 0))]) rfl (fun _ => rfl) rfl dX12_isImage_157 (fun v11 => ?_)
                refine ok_goto hE 103 rfl dX12_isImage_160 ?_
                exact ok_sub [2, 1, 0] rfl (hrec103 (v10, v11))
              refine ok_fun (fun j => ∀ (_ : Unit), Ok E 155 [(0, .ref (E.Y.ad 0)), (4, .int x7.2)] [] M (j ()) (KIp E M)) (fun _ => ?_) (fun j155 hj155 => ?_)
              · refine ok_iconst hE (0 : Int32) ki_0 dX12_isImage_155 ?_
                exact ok_sub [0, 1] rfl (hj156 (0 : Int32))
              refine ok_if_eq hE 155 rfl dX12_isImage_133 ?_ ?_
              · exact ok_sub [0, 2] rfl (hj155 ())
              · refine ok_aload_n hE 0 rfl dX12_isImage_136 ?_
                refine ok_getA hE fl_X12_126 shR_0 rfl dX12_isImage_137 ?_
                refine ok_iconst hE (3 : Int32) ki_3 dX12_isImage_140 ?_
                refine ok_iconst hE (2 : Int32) ki_2 dX12_isImage_141 ?_
                refine ok_iload hE 2 rfl dX12_isImage_142 ?_
                refine ok_imul hE dX12_isImage_144 ?_
                refine ok_iadd hE dX12_isImage_145 ?_
                refine ok_iaload hE shR_13 dX12_isImage_146 ?_
                refine ok_iconst hE (1 : Int32) ki_1 dX12_isImage_147 ?_
                refine ok_icmp_gt hE 155 rfl dX12_isImage_148 ?_ ?_
                · exact ok_sub [0, 2] rfl (hj155 ())
                · refine ok_iconst hE (1 : Int32) ki_1 dX12_isImage_151 ?_
                  refine ok_goto hE 156 rfl dX12_isImage_152 ?_
                  exact ok_sub [0, 2] rfl (hj156 (1 : Int32))
        refine ok_fun (fun j => ∀ (_ : Unit), Ok E 98 [(0, .ref (E.Y.ad 0))] [] M (j ()) (KIp E M)) (fun _ => ?_) (fun j98 hj98 => ?_)
        · refine ok_iconst hE (0 : Int32) ki_0 dX12_isImage_98 ?_
          exact ok_sub [0] rfl (hj99 (0 : Int32))
        refine ok_icmp_ne hE 98 rfl dX12_isImage_64 ?_ ?_
        · exact ok_sub [0] rfl (hj98 ())
        · refine ok_aload_n hE 0 rfl dX12_isImage_67 ?_
          refine ok_getA hE fl_X12_126 shR_0 rfl dX12_isImage_68 ?_
          refine ok_iconst hE (0 : Int32) ki_0 dX12_isImage_71 ?_
          refine ok_iaload hE shR_13 dX12_isImage_72 ?_
          refine ok_bipush hE (20 : Int32) kb_20 dX12_isImage_73 ?_
          refine ok_icmp_gt hE 98 rfl dX12_isImage_75 ?_ ?_
          · exact ok_sub [0] rfl (hj98 ())
          · refine ok_aload_n hE 0 rfl dX12_isImage_78 ?_
            refine ok_getA hE fl_X12_126 shR_0 rfl dX12_isImage_79 ?_
            refine ok_iconst hE (1 : Int32) ki_1 dX12_isImage_82 ?_
            refine ok_iaload hE shR_13 dX12_isImage_83 ?_
            refine ok_iconst hE (1 : Int32) ki_1 dX12_isImage_84 ?_
            refine ok_sipush hE (200 : Int32) ks_200 dX12_isImage_85 ?_
            refine ok_csIp hE rmR_isIn [.int (gI M 13 (ix (1 : Int32))), .int (1 : Int32), .int (200 : Int32)] [] rfl ca_X12_262 (fun _ hx => mR_isIn hE.sys _ _ _ _ _ hx) ⟨rfl, rfl, rfl, rfl⟩ rfl rfl dX12_isImage_88 (fun r12 => ?_)
            refine ok_if_eq hE 98 rfl dX12_isImage_91 ?_ ?_
            · exact ok_sub [0] rfl (hj98 ())
            · refine ok_iconst hE (1 : Int32) ki_1 dX12_isImage_94 ?_
              refine ok_goto hE 99 rfl dX12_isImage_95 ?_
              exact ok_sub [0] rfl (hj99 (1 : Int32))
      refine ok_sub [2, 3, 1, 0] rfl (ok_loop (σ := Int32 × Int32) 27 (fun x13 => [(0, .ref (E.Y.ad 0)), (1, .int p1), (2, .int x13.1), (3, .int x13.2)]) (fun x13 => M) (fun rec27 hrec27 x13 => ?_) 1000000 (v1, v2))
      refine ok_iload_n hE 3 rfl dX12_isImage_27 ?_
      refine ok_iload_n hE 1 rfl dX12_isImage_28 ?_
      refine ok_iconst hE (1 : Int32) ki_1 dX12_isImage_29 ?_
      refine ok_isub hE dX12_isImage_30 ?_
      refine ok_icmp_ge hE 55 rfl dX12_isImage_31 ?_ ?_
      · exact ok_sub [0, 1, 2] rfl (hj55 x13.1)
      · refine ok_iconst hE (3 : Int32) ki_3 dX12_isImage_34 ?_
        refine ok_iload_n hE 2 rfl dX12_isImage_35 ?_
        refine ok_imul hE dX12_isImage_36 ?_
        refine ok_aload_n hE 0 rfl dX12_isImage_37 ?_
        refine ok_getA hE fl_X12_126 shR_0 rfl dX12_isImage_38 ?_
        refine ok_iload_n hE 3 rfl dX12_isImage_41 ?_
        refine ok_iaload hE shR_13 dX12_isImage_42 ?_
        refine ok_iadd hE dX12_isImage_43 ?_
        refine ok_sipush hE (251 : Int32) ks_251 dX12_isImage_44 ?_
        refine ok_iremC hE (by decide) dX12_isImage_47 ?_
        refine ok_istore_n hE (fun v14 => [(2, .int v14), (0, .ref (E.Y.ad 0)), (1, .int p1), (3, .int x13.2)]) (fun _ => rfl) rfl dX12_isImage_48 (fun v14 => ?_)
        refine ok_iinc hE 3 (x13.2 + (1 : Int32)) (by rw [ko_1]) (fun v15 => [(3, .int v15), (2, .int v14), (0, .ref (E.Y.ad 0)), (1, .int p1)]) rfl (fun _ => rfl) rfl dX12_isImage_49 (fun v15 => ?_)
        refine ok_goto hE 27 rfl dX12_isImage_52 ?_
        exact ok_sub [2, 3, 1, 0] rfl (hrec27 (v14, v15))
    · refine ok_iconst hE (0 : Int32) ki_0 dX12_isImage_19 ?_
      exact ok_zreturnP hE (Or.inl rfl) dX12_isImage_20
theorem mR_isImage {l : Launch} {Y : Sys} {t : Nat} (hY : SysOk Y t shR) (p1 : Int32)  (M : Mm) (r : Int32) (h : R_isImage p1 M = some r) : Cm l Y t yX12_isImage (WS yX12_isImage cX12_isImage 5 (some .boolean)) rmR_isImage [.ref (Y.ad 0), .int p1] M ((some (.int r), M)) := by
  refine cm_of (own := RX12) hY rfl rfl (Nat.le_of_ble_eq_true rfl) (fun E hE e1 e2 e3 e4 => ?_)
  subst e1
  exact tR_isImage E hE p1  M r h e4.symm
def R_take  (M : Mm) : Option (Int32 × Mm) :=
 bnd (R_taken M) fun r1 =>
 lett r1.1 fun v2 =>
 bnd (R_isImage v2 r1.2) fun r3 =>
 if r3 = 0 then
 (bnd (R_isRefused (5 : Int32) r1.2) fun r14 =>
 grd (r14.1 = 0 ∨ r14.1 = 1) (some (r14.1, r14.2)))
 else
 (bnd (R_begins r1.2) fun M4 =>
 ald (0 : Int32) 1600 (bnd (R_puts (6 : Int32) (gI M4 13 (ix (0 : Int32))) M4) fun M5 =>
 ald (1 : Int32) 1600 (bnd (R_puts (7 : Int32) (gI M5 13 (ix (1 : Int32))) M5) fun M6 =>
 lett (0 : Int32) fun v7 =>
 lett (fun (M_7 : Mm) =>
 lett (sI M_7 0 55 (0 : Int32)) fun M9 =>
 some ((1 : Int32), M9)) fun j96 =>
 loopR (fun (rec49 : (Int32 × Mm) → Option (Int32 × Mm)) (x10 : Int32 × Mm) =>
 if (gI x10.2 0 1) ≤ x10.1 then
 (j96 x10.2)
 else
 (ald ((2 : Int32) + ((2 : Int32) * x10.1)) 1600 (bnd (R_sets x10.1 (0 : Int32) (gI x10.2 13 (ix ((2 : Int32) + ((2 : Int32) * x10.1)))) x10.2) fun M11 =>
 ald ((3 : Int32) + ((2 : Int32) * x10.1)) 1600 (bnd (R_sets x10.1 (8 : Int32) (gI M11 13 (ix ((3 : Int32) + ((2 : Int32) * x10.1)))) M11) fun M12 =>
 lett (x10.1 + (1 : Int32)) fun v13 =>
 rec49 (v13, M12))))) 1000000 (v7, M6))))
abbrev rmR_take : Room := { frames := 3, cells := 0, slots := 0, locals := 66 }
set_option maxHeartbeats 4000000 in
set_option maxRecDepth 100000 in
theorem tR_take (E : Cx) (hE : CxOk E cX12_take RX12 shR (some .boolean) rmR_take 3)   (M : Mm) : Ok E 0 [(0, .ref (E.Y.ad 0))] [] M (R_take  M) (KI E) := by
  unfold R_take
  refine ok_aload_n hE 0 rfl dX12_take_0 ?_
  refine ok_cvI hE rmR_taken [] [] rfl ca_X12_302 shR_0 rfl (fun _ hx => mR_taken hE.sys  _ _ hx) ⟨rfl, rfl, rfl, rfl⟩ rfl rfl dX12_take_1 (fun r1 => ?_)
  refine ok_istore_n hE (fun v2 => [(1, .int v2), (0, .ref (E.Y.ad 0))]) (fun _ => rfl) rfl dX12_take_4 (fun v2 => ?_)
  refine ok_aload_n hE 1 rfl dX12_take_5 ?_
  refine ok_iload_n hE 0 rfl dX12_take_6 ?_
  refine ok_cvIp hE rmR_isImage [.int v2] [] rfl ca_X12_459 shR_0 rfl (fun _ hx => mR_isImage hE.sys _ _ _ hx) ⟨rfl, rfl, rfl, rfl⟩ rfl rfl dX12_take_7 (fun r3 => ?_)
  refine ok_if_ne hE 19 rfl dX12_take_10 ?_ ?_
  · refine ok_aload_n hE 1 rfl dX12_take_19 ?_
    refine ok_cvV hE rmR_begins [] [] rfl ca_X12_311 shR_0 rfl (fun _ hx => mR_begins hE.sys  _ _ hx) ⟨rfl, rfl, rfl, rfl⟩ rfl rfl dX12_take_20 (fun M4 => ?_)
    refine ok_aload_n hE 1 rfl dX12_take_23 ?_
    refine ok_bipush hE (6 : Int32) kb_6 dX12_take_24 ?_
    refine ok_aload_n hE 1 rfl dX12_take_26 ?_
    refine ok_getA hE fl_X12_126 shR_0 rfl dX12_take_27 ?_
    refine ok_iconst hE (0 : Int32) ki_0 dX12_take_30 ?_
    refine ok_iaload hE shR_13 dX12_take_31 ?_
    refine ok_cvV hE rmR_puts [.int (6 : Int32), .int (gI M4 13 (ix (0 : Int32)))] [] rfl ca_X12_318 shR_0 rfl (fun _ hx => mR_puts hE.sys _ _ _ _ hx) ⟨rfl, rfl, rfl, rfl⟩ rfl rfl dX12_take_32 (fun M5 => ?_)
    refine ok_aload_n hE 1 rfl dX12_take_35 ?_
    refine ok_bipush hE (7 : Int32) kb_7 dX12_take_36 ?_
    refine ok_aload_n hE 1 rfl dX12_take_38 ?_
    refine ok_getA hE fl_X12_126 shR_0 rfl dX12_take_39 ?_
    refine ok_iconst hE (1 : Int32) ki_1 dX12_take_42 ?_
    refine ok_iaload hE shR_13 dX12_take_43 ?_
    refine ok_cvV hE rmR_puts [.int (7 : Int32), .int (gI M5 13 (ix (1 : Int32)))] [] rfl ca_X12_318 shR_0 rfl (fun _ hx => mR_puts hE.sys _ _ _ _ hx) ⟨rfl, rfl, rfl, rfl⟩ rfl rfl dX12_take_44 (fun M6 => ?_)
    refine ok_iconst hE (0 : Int32) ki_0 dX12_take_47 ?_
    refine ok_istore_n hE (fun v7 => [(2, .int v7), (1, .int v2), (0, .ref (E.Y.ad 0))]) (fun _ => rfl) rfl dX12_take_48 (fun v7 => ?_)
    refine ok_fun (fun j => ∀ (M_7 : Mm), Ok E 96 [(0, .ref (E.Y.ad 0))] [] M_7 (j M_7) (KI E)) (fun M_7 => ?_) (fun j96 hj96 => ?_)
    · refine ok_aload_n hE 0 rfl dX12_take_96 ?_
      refine ok_iconst hE (0 : Int32) ki_0 dX12_take_97 ?_
      refine ok_putI hE fl_X12_178 shR_0 rfl dX12_take_98 (fun M9 => ?_)
      refine ok_iconst hE (1 : Int32) ki_1 dX12_take_101 ?_
      exact ok_zreturn hE (Or.inr rfl) dX12_take_102
    refine ok_sub [2, 0] rfl (ok_loop (σ := Int32 × Mm) 49 (fun x10 => [(0, .ref (E.Y.ad 0)), (2, .int x10.1)]) (fun x10 => x10.2) (fun rec49 hrec49 x10 => ?_) 1000000 (v7, M6))
    refine ok_iload_n hE 1 rfl dX12_take_49 ?_
    refine ok_aload_n hE 0 rfl dX12_take_50 ?_
    refine ok_getI hE fl_X12_13 shR_0 rfl dX12_take_51 ?_
    refine ok_icmp_ge hE 96 rfl dX12_take_54 ?_ ?_
    · exact ok_sub [0] rfl (hj96 x10.2)
    · refine ok_aload_n hE 0 rfl dX12_take_57 ?_
      refine ok_iload_n hE 1 rfl dX12_take_58 ?_
      refine ok_iconst hE (0 : Int32) ki_0 dX12_take_59 ?_
      refine ok_aload_n hE 0 rfl dX12_take_60 ?_
      refine ok_getA hE fl_X12_126 shR_0 rfl dX12_take_61 ?_
      refine ok_iconst hE (2 : Int32) ki_2 dX12_take_64 ?_
      refine ok_iconst hE (2 : Int32) ki_2 dX12_take_65 ?_
      refine ok_iload_n hE 1 rfl dX12_take_66 ?_
      refine ok_imul hE dX12_take_67 ?_
      refine ok_iadd hE dX12_take_68 ?_
      refine ok_iaload hE shR_13 dX12_take_69 ?_
      refine ok_cvV hE rmR_sets [.int x10.1, .int (0 : Int32), .int (gI x10.2 13 (ix ((2 : Int32) + ((2 : Int32) * x10.1))))] [] rfl ca_X12_314 shR_0 rfl (fun _ hx => mR_sets hE.sys _ _ _ _ _ hx) ⟨rfl, rfl, rfl, rfl⟩ rfl rfl dX12_take_70 (fun M11 => ?_)
      refine ok_aload_n hE 0 rfl dX12_take_73 ?_
      refine ok_iload_n hE 1 rfl dX12_take_74 ?_
      refine ok_bipush hE (8 : Int32) kb_8 dX12_take_75 ?_
      refine ok_aload_n hE 0 rfl dX12_take_77 ?_
      refine ok_getA hE fl_X12_126 shR_0 rfl dX12_take_78 ?_
      refine ok_iconst hE (3 : Int32) ki_3 dX12_take_81 ?_
      refine ok_iconst hE (2 : Int32) ki_2 dX12_take_82 ?_
      refine ok_iload_n hE 1 rfl dX12_take_83 ?_
      refine ok_imul hE dX12_take_84 ?_
      refine ok_iadd hE dX12_take_85 ?_
      refine ok_iaload hE shR_13 dX12_take_86 ?_
      refine ok_cvV hE rmR_sets [.int x10.1, .int (8 : Int32), .int (gI M11 13 (ix ((3 : Int32) + ((2 : Int32) * x10.1))))] [] rfl ca_X12_314 shR_0 rfl (fun _ hx => mR_sets hE.sys _ _ _ _ _ hx) ⟨rfl, rfl, rfl, rfl⟩ rfl rfl dX12_take_87 (fun M12 => ?_)
      refine ok_iinc hE 1 (x10.1 + (1 : Int32)) (by rw [ko_1]) (fun v13 => [(2, .int v13), (0, .ref (E.Y.ad 0))]) rfl (fun _ => rfl) rfl dX12_take_90 (fun v13 => ?_)
      refine ok_goto hE 49 rfl dX12_take_93 ?_
      exact ok_sub [1, 0] rfl (hrec49 (v13, M12))
  · refine ok_aload_n hE 1 rfl dX12_take_13 ?_
    refine ok_iconst hE (5 : Int32) ki_5 dX12_take_14 ?_
    refine ok_cvI hE rmR_isRefused [.int (5 : Int32)] [] rfl ca_X12_228 shR_0 rfl (fun _ hx => mR_isRefused hE.sys _ _ _ hx) ⟨rfl, rfl, rfl, rfl⟩ rfl rfl dX12_take_15 (fun r14 => ?_)
    exact ok_zreturnG hE dX12_take_18
theorem mR_take {l : Launch} {Y : Sys} {t : Nat} (hY : SysOk Y t shR)   (M : Mm) (r : (Int32 × Mm)) (h : R_take  M = some r) : Cm l Y t yX12_take (WS yX12_take cX12_take 3 (some .boolean)) rmR_take [.ref (Y.ad 0)] M (enI r) := by
  refine cm_of (own := RX12) hY rfl rfl (Nat.le_of_ble_eq_true rfl) (fun E hE e1 e2 e3 e4 => ?_)
  subst e1
  exact tR_take E hE   M r h e4.symm
