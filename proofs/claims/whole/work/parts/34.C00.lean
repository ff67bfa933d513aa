def C_IWrite (p2 : Int32) (M : Mm) : Option Mm :=
 ald (0 : Int32) 15 (lett (sI M 71 (ix (0 : Int32)) (gI M 26 16)) fun M1 =>
 ald (1 : Int32) 15 (lett (sI M1 71 (ix (1 : Int32)) (gI M1 26 17)) fun M2 =>
 lett (0 : Int32) fun v3 =>
 lett (fun (M_3 : Mm) =>
 lett (sI M_3 70 1 ((3 : Int32) + ((2 : Int32) * p2))) fun M5 =>
 lett (163 : Int32) fun v6 =>
 lett (0 : Int32) fun v7 =>
 lett (fun (u_7 : Int32) =>
 ald ((gI M5 70 1) - (1 : Int32)) 15 (lett (sI M5 71 (ix ((gI M5 70 1) - (1 : Int32))) u_7) fun M9 =>
 some M9)) fun j128 =>
 loopR (fun (rec95 : (Int32 × Int32) → Option Mm) (x10 : Int32 × Int32) =>
 if ((gI M5 70 1) - (1 : Int32)) ≤ x10.2 then
 (j128 x10.1)
 else
 (ald x10.2 15 (lett ((((3 : Int32) * x10.1) + (gI M5 71 (ix x10.2))) - (((3 : Int32) * x10.1) + (gI M5 71 (ix x10.2))) / (251 : Int32) * (251 : Int32)) fun v11 =>
 lett (x10.2 + (1 : Int32)) fun v12 =>
 rec95 (v11, v12)))) 1000000 (v6, v7)) fun j79 =>
 loopR (fun (rec22 : (Int32 × Mm) → Option Mm) (x13 : Int32 × Mm) =>
 if p2 ≤ x13.1 then
 (j79 x13.2)
 else
 (ald x13.1 6 (ald ((2 : Int32) + ((2 : Int32) * x13.1)) 15 (lett (sI x13.2 71 (ix ((2 : Int32) + ((2 : Int32) * x13.1))) (gI x13.2 (34 + 2 * ix x13.1) 0)) fun M15 =>
 ald x13.1 6 (lett (fun (w_16 : Int32) =>
 ald ((3 : Int32) + ((2 : Int32) * x13.1)) 15 (lett (sI M15 71 (ix ((3 : Int32) + ((2 : Int32) * x13.1))) w_16) fun M18 =>
 lett (x13.1 + (1 : Int32)) fun v19 =>
 rec22 (v19, M18))) fun j72 =>
 if (gI M15 (34 + 2 * ix x13.1) 1) = 0 then
 (j72 (0 : Int32))
 else
 (j72 (1 : Int32))))))) 1000000 (v3, M2)))
abbrev rmC_IWrite : Room := { frames := 0, cells := 0, slots := 0, locals := 0 }
set_option maxHeartbeats 4000000 in
set_option maxRecDepth 100000 in
theorem tC_IWrite (E : Cx) (hE : CxOk E cX0_write RX0 shC none rmC_IWrite 5) (p2 : Int32)  (M : Mm) : Ok E 0 [(0, .ref (E.Y.ad 70)), (1, .ref (E.Y.ad 26)), (2, .int p2)] [] M (C_IWrite p2 M) (KV E) := by
  unfold C_IWrite
  refine ok_aload_n hE 0 rfl dX0_write_0 ?_
  refine ok_getC hE fl_X0_11 shC_70 rfl dX0_write_1 ?_
  refine ok_iconst hE (0 : Int32) ki_0 dX0_write_4 ?_
  refine ok_aload_n hE 1 rfl dX0_write_5 ?_
  refine ok_getI hE fl_X0_19 shC_26 rfl dX0_write_6 ?_
  refine ok_iastore hE shC_71 dX0_write_9 (fun M1 => ?_)
  refine ok_aload_n hE 0 rfl dX0_write_10 ?_
  refine ok_getC hE fl_X0_11 shC_70 rfl dX0_write_11 ?_
  refine ok_iconst hE (1 : Int32) ki_1 dX0_write_14 ?_
  refine ok_aload_n hE 1 rfl dX0_write_15 ?_
  refine ok_getI hE fl_X0_24 shC_26 rfl dX0_write_16 ?_
  refine ok_iastore hE shC_71 dX0_write_19 (fun M2 => ?_)
  refine ok_iconst hE (0 : Int32) ki_0 dX0_write_20 ?_
  refine ok_istore_n hE (fun v3 => [(3, .int v3), (0, .ref (E.Y.ad 70)), (1, .ref (E.Y.ad 26)), (2, .int p2)]) (fun _ => rfl) rfl dX0_write_21 (fun v3 => ?_)
  refine ok_fun (fun j => ∀ (M_3 : Mm), Ok E 79 [(0, .ref (E.Y.ad 70)), (2, .int p2)] [] M_3 (j M_3) (KV E)) (fun M_3 => ?_) (fun j79 hj79 => ?_)
  · refine ok_aload_n hE 0 rfl dX0_write_79 ?_
    refine ok_iconst hE (3 : Int32) ki_3 dX0_write_80 ?_
    refine ok_iconst hE (2 : Int32) ki_2 dX0_write_81 ?_
    refine ok_iload_n hE 1 rfl dX0_write_82 ?_
    refine ok_imul hE dX0_write_83 ?_
    refine ok_iadd hE dX0_write_84 ?_
    refine ok_putI hE fl_X0_15 shC_70 rfl dX0_write_85 (fun M5 => ?_)
    refine ok_sipush hE (163 : Int32) ks_163 dX0_write_88 ?_
    refine ok_istore_n hE (fun v6 => [(3, .int v6), (0, .ref (E.Y.ad 70)), (2, .int p2)]) (fun _ => rfl) rfl dX0_write_91 (fun v6 => ?_)
    refine ok_iconst hE (0 : Int32) ki_0 dX0_write_92 ?_
    refine ok_istore hE (fun v7 => [(4, .int v7), (3, .int v6), (0, .ref (E.Y.ad 70)), (2, .int p2)]) (fun _ => rfl) rfl dX0_write_93 (fun v7 => ?_)
    refine ok_fun (fun j => ∀ (u_7 : Int32), Ok E 128 [(0, .ref (E.Y.ad 70)), (3, .int u_7)] [] M5 (j u_7) (KV E)) (fun u_7 => ?_) (fun j128 hj128 => ?_)
    · refine ok_aload_n hE 0 rfl dX0_write_128 ?_
      refine ok_getC hE fl_X0_11 shC_70 rfl dX0_write_129 ?_
      refine ok_aload_n hE 0 rfl dX0_write_132 ?_
      refine ok_getI hE fl_X0_15 shC_70 rfl dX0_write_133 ?_
      refine ok_iconst hE (1 : Int32) ki_1 dX0_write_136 ?_
      refine ok_isub hE dX0_write_137 ?_
      refine ok_iload_n hE 1 rfl dX0_write_138 ?_
      refine ok_iastore hE shC_71 dX0_write_139 (fun M9 => ?_)
      exact ok_return hE dX0_write_140
    refine ok_sub [2, 1, 0] rfl (ok_loop (σ := Int32 × Int32) 95 (fun x10 => [(0, .ref (E.Y.ad 70)), (3, .int x10.1), (4, .int x10.2)]) (fun x10 => M5) (fun rec95 hrec95 x10 => ?_) 1000000 (v6, v7))
    refine ok_iload hE 2 rfl dX0_write_95 ?_
    refine ok_aload_n hE 0 rfl dX0_write_97 ?_
    refine ok_getI hE fl_X0_15 shC_70 rfl dX0_write_98 ?_
    refine ok_iconst hE (1 : Int32) ki_1 dX0_write_101 ?_
    refine ok_isub hE dX0_write_102 ?_
    refine ok_icmp_ge hE 128 rfl dX0_write_103 ?_ ?_
    · exact ok_sub [0, 1] rfl (hj128 x10.1)
    · refine ok_iconst hE (3 : Int32) ki_3 dX0_write_106 ?_
      refine ok_iload_n hE 1 rfl dX0_write_107 ?_
      refine ok_imul hE dX0_write_108 ?_
      refine ok_aload_n hE 0 rfl dX0_write_109 ?_
      refine ok_getC hE fl_X0_11 shC_70 rfl dX0_write_110 ?_
      refine ok_iload hE 2 rfl dX0_write_113 ?_
      refine ok_iaload hE shC_71 dX0_write_115 ?_
      refine ok_iadd hE dX0_write_116 ?_
      refine ok_sipush hE (251 : Int32) ks_251 dX0_write_117 ?_
      refine ok_iremC hE (by decide) dX0_write_120 ?_
      refine ok_istore_n hE (fun v11 => [(3, .int v11), (0, .ref (E.Y.ad 70)), (4, .int x10.2)]) (fun _ => rfl) rfl dX0_write_121 (fun v11 => ?_)
      refine ok_iinc hE 2 (x10.2 + (1 : Int32)) (by rw [ko_1]) (fun v12 => [(4, .int v12), (3, .int v11), (0, .ref (E.Y.ad 70))]) rfl (fun _ => rfl) rfl dX0_write_122 (fun v12 => ?_)
      refine ok_goto hE 95 rfl dX0_write_125 ?_
      exact ok_sub [2, 1, 0] rfl (hrec95 (v11, v12))
  refine ok_sub [1, 2, 3, 0] rfl (ok_loop (σ := Int32 × Mm) 22 (fun x13 => [(0, .ref (E.Y.ad 70)), (1, .ref (E.Y.ad 26)), (2, .int p2), (3, .int x13.1)]) (fun x13 => x13.2) (fun rec22 hrec22 x13 => ?_) 1000000 (v3, M2))
  refine ok_iload_n hE 3 rfl dX0_write_22 ?_
  refine ok_iload_n hE 2 rfl dX0_write_23 ?_
  refine ok_icmp_ge hE 79 rfl dX0_write_24 ?_ ?_
  · exact ok_sub [0, 2] rfl (hj79 x13.2)
  · refine ok_aload_n hE 0 rfl dX0_write_27 ?_
    refine ok_getC hE fl_X0_11 shC_70 rfl dX0_write_28 ?_
    refine ok_iconst hE (2 : Int32) ki_2 dX0_write_31 ?_
    refine ok_iconst hE (2 : Int32) ki_2 dX0_write_32 ?_
    refine ok_iload_n hE 3 rfl dX0_write_33 ?_
    refine ok_imul hE dX0_write_34 ?_
    refine ok_iadd hE dX0_write_35 ?_
    refine ok_aload_n hE 1 rfl dX0_write_36 ?_
    refine ok_getC hE fl_X0_27 shC_26 rfl dX0_write_37 ?_
    refine ok_iload_n hE 3 rfl dX0_write_40 ?_
    refine ok_aaloadH hE shC_27 rfl dX0_write_41 (fun hi14 => ?_)
    refine ok_getI hE fl_X0_31 (shC_e_27 hi14) rfl dX0_write_42 ?_
    refine ok_iastore hE shC_71 dX0_write_45 (fun M15 => ?_)
    refine ok_aload_n hE 0 rfl dX0_write_46 ?_
    refine ok_getC hE fl_X0_11 shC_70 rfl dX0_write_47 ?_
    refine ok_iconst hE (3 : Int32) ki_3 dX0_write_50 ?_
    refine ok_iconst hE (2 : Int32) ki_2 dX0_write_51 ?_
    refine ok_iload_n hE 3 rfl dX0_write_52 ?_
    refine ok_imul hE dX0_write_53 ?_
    refine ok_iadd hE dX0_write_54 ?_
    refine ok_aload_n hE 1 rfl dX0_write_55 ?_
    refine ok_getC hE fl_X0_27 shC_26 rfl dX0_write_56 ?_
    refine ok_iload_n hE 3 rfl dX0_write_59 ?_
    refine ok_aaloadH hE shC_27 rfl dX0_write_60 (fun hi16 => ?_)
    refine ok_getI hE fl_X0_36 (shC_e_27 hi16) rfl dX0_write_61 ?_
    refine ok_fun (fun j => ∀ (w_16 : Int32), Ok E 72 [(0, .ref (E.Y.ad 70)), (1, .ref (E.Y.ad 26)), (2, .int p2), (3, .int x13.1)] [.int w_16, .int ((3 : Int32) + ((2 : Int32) * x13.1)), .ref (E.Y.ad 71)] M15 (j w_16) (KV E)) (fun w_16 => ?_) (fun j72 hj72 => ?_)
    · refine ok_iastore hE shC_71 dX0_write_72 (fun M18 => ?_)
      refine ok_iinc hE 3 (x13.1 + (1 : Int32)) (by rw [ko_1]) (fun v19 => [(3, .int v19), (0, .ref (E.Y.ad 70)), (1, .ref (E.Y.ad 26)), (2, .int p2)]) rfl (fun _ => rfl) rfl dX0_write_73 (fun v19 => ?_)
      refine ok_goto hE 22 rfl dX0_write_76 ?_
      exact ok_sub [1, 2, 3, 0] rfl (hrec22 (v19, M18))
    refine ok_if_eq hE 71 rfl dX0_write_64 ?_ ?_
    · refine ok_iconst hE (0 : Int32) ki_0 dX0_write_71 ?_
      exact ok_sub [0, 1, 2, 3] rfl (hj72 (0 : Int32))
    · refine ok_iconst hE (1 : Int32) ki_1 dX0_write_67 ?_
      refine ok_goto hE 72 rfl dX0_write_68 ?_
      exact ok_sub [0, 1, 2, 3] rfl (hj72 (1 : Int32))
theorem mC_IWrite {l : Launch} {Y : Sys} {t : Nat} (hY : SysOk Y t shC) (p2 : Int32)  (M : Mm) (r : Mm) (h : C_IWrite p2 M = some r) : Cm l Y t yX0_write (WS yX0_write cX0_write 5 none) rmC_IWrite [.ref (Y.ad 70), .ref (Y.ad 26), .int p2] M (enV r) := by
  refine cm_of (own := RX0) hY rfl rfl (Nat.le_of_ble_eq_true rfl) (fun E hE e1 e2 e3 e4 => ?_)
  subst e1
  exact tC_IWrite E hE p2  M r h e4.symm
def C_TByteAt (p1 : Int32) (M : Mm) : Option Int32 :=
 lett (fun (_ : Unit) =>
 some (-1 : Int32)) fun j12 =>
 if p1 < 0 then
 (j12 ())
 else
 (if p1 < (gI M 19 1) then
 (ald p1 1600 (some (gI M 20 (ix p1))))
 else
 (j12 ()))
abbrev rmC_TByteAt : Room := { frames := 0, cells := 0, slots := 0, locals := 0 }
set_option maxHeartbeats 4000000 in
set_option maxRecDepth 100000 in
theorem tC_TByteAt (E : Cx) (hE : CxOk E cX9_byteAt RX9 shC (some .int) rmC_TByteAt 2) (p1 : Int32)  (M : Mm) : Ok E 0 [(0, .ref (E.Y.ad 19)), (1, .int p1)] [] M (C_TByteAt p1 M) (KIp E M) := by
  unfold C_TByteAt
  refine ok_iload_n hE 1 rfl dX9_byteAt_0 ?_
  refine ok_fun (fun j => ∀ (_ : Unit), Ok E 12 [] [] M (j ()) (KIp E M)) (fun _ => ?_) (fun j12 hj12 => ?_)
  · refine ok_iconst hE (-1 : Int32) ki_m1 dX9_byteAt_12 ?_
    refine ok_goto hE 22 rfl dX9_byteAt_13 ?_
    exact ok_ireturnP hE dX9_byteAt_22
  refine ok_if_lt hE 12 rfl dX9_byteAt_1 ?_ ?_
  · exact ok_sub [] rfl (hj12 ())
  · refine ok_iload_n hE 1 rfl dX9_byteAt_4 ?_
    refine ok_aload_n hE 0 rfl dX9_byteAt_5 ?_
    refine ok_getI hE fl_X9_15 shC_19 rfl dX9_byteAt_6 ?_
    refine ok_icmp_lt hE 16 rfl dX9_byteAt_9 ?_ ?_
    · refine ok_aload_n hE 0 rfl dX9_byteAt_16 ?_
      refine ok_getC hE fl_X9_9 shC_19 rfl dX9_byteAt_17 ?_
      refine ok_iload_n hE 1 rfl dX9_byteAt_20 ?_
      refine ok_iaload hE shC_20 dX9_byteAt_21 ?_
      exact ok_ireturnP hE dX9_byteAt_22
    · exact ok_sub [] rfl (hj12 ())
theorem mC_TByteAt {l : Launch} {Y : Sys} {t : Nat} (hY : SysOk Y t shC) (p1 : Int32)  (M : Mm) (r : Int32) (h : C_TByteAt p1 M = some r) : Cm l Y t yX9_byteAt (WS yX9_byteAt cX9_byteAt 2 (some .int)) rmC_TByteAt [.ref (Y.ad 19), .int p1] M ((some (.int r), M)) := by
  refine cm_of (own := RX9) hY rfl rfl (Nat.le_of_ble_eq_true rfl) (fun E hE e1 e2 e3 e4 => ?_)
  subst e1
  exact tC_TByteAt E hE p1  M r h e4.symm
def C_isWithin (p1 : Int32) (p2 : Int32) (p3 : Int32) (M : Mm) : Option Int32 :=
 if p1 < p2 then
 (some (0 : Int32))
 else
 (if p3 < p1 then
 (some (0 : Int32))
 else
 (some (1 : Int32)))
abbrev rmC_isWithin : Room := { frames := 0, cells := 0, slots := 0, locals := 0 }
set_option maxHeartbeats 4000000 in
set_option maxRecDepth 100000 in
theorem tC_isWithin (E : Cx) (hE : CxOk E cX11_isWithin RX11 shC (some .boolean) rmC_isWithin 3) (p1 : Int32) (p2 : Int32) (p3 : Int32)  (M : Mm) : Ok E 0 [(0, .int p1), (1, .int p2), (2, .int p3)] [] M (C_isWithin p1 p2 p3 M) (KIp E M) := by
  unfold C_isWithin
  refine ok_iload_n hE 0 rfl dX11_isWithin_0 ?_
  refine ok_iload_n hE 1 rfl dX11_isWithin_1 ?_
  refine ok_icmp_lt hE 14 rfl dX11_isWithin_2 ?_ ?_
  · refine ok_iconst hE (0 : Int32) ki_0 dX11_isWithin_14 ?_
    exact ok_zreturnP hE (Or.inl rfl) dX11_isWithin_15
  · refine ok_iload_n hE 0 rfl dX11_isWithin_5 ?_
    refine ok_iload_n hE 2 rfl dX11_isWithin_6 ?_
    refine ok_icmp_gt hE 14 rfl dX11_isWithin_7 ?_ ?_
    · refine ok_iconst hE (0 : Int32) ki_0 dX11_isWithin_14 ?_
      exact ok_zreturnP hE (Or.inl rfl) dX11_isWithin_15
    · refine ok_iconst hE (1 : Int32) ki_1 dX11_isWithin_10 ?_
      refine ok_goto hE 15 rfl dX11_isWithin_11 ?_
      exact ok_zreturnP hE (Or.inr rfl) dX11_isWithin_15
theorem mC_isWithin {l : Launch} {Y : Sys} {t : Nat} (hY : SysOk Y t shC) (p1 : Int32) (p2 : Int32) (p3 : Int32)  (M : Mm) (r : Int32) (h : C_isWithin p1 p2 p3 M = some r) : Cm l Y t yX11_isWithin (WS yX11_isWithin cX11_isWithin 3 (some .boolean)) rmC_isWithin [.int p1, .int p2, .int p3] M ((some (.int r), M)) := by
  refine cm_of (own := RX11) hY rfl rfl (Nat.le_of_ble_eq_true rfl) (fun E hE e1 e2 e3 e4 => ?_)
  subst e1
  exact tC_isWithin E hE p1 p2 p3  M r h e4.symm
def C_IAreSettings (p2 : Int32) (M : Mm) : Option Int32 :=
 bnd (C_TByteAt (0 : Int32) M) fun r1 =>
 bnd (C_isWithin r1 (0 : Int32) (20 : Int32) M) fun r2 =>
 if r2 = 0 then
 (some (0 : Int32))
 else
 (bnd (C_TByteAt (1 : Int32) M) fun r3 =>
 bnd (C_isWithin r3 (1 : Int32) (200 : Int32) M) fun r4 =>
 if r4 = 0 then
 (some (0 : Int32))
 else
 (lett (0 : Int32) fun v5 =>
 loopR (fun (rec33 : Int32 → Option Int32) (x6 : Int32) =>
 if p2 ≤ x6 then
 (some (1 : Int32))
 else
 (bnd (C_TByteAt ((2 : Int32) + ((2 : Int32) * x6)) M) fun r7 =>
 bnd (C_isWithin r7 (1 : Int32) (100 : Int32) M) fun r8 =>
 if r8 = 0 then
 (some (0 : Int32))
 else
 (bnd (C_TByteAt ((3 : Int32) + ((2 : Int32) * x6)) M) fun r9 =>
 bnd (C_isWithin r9 (0 : Int32) (1 : Int32) M) fun r10 =>
 if r10 = 0 then
 (some (0 : Int32))
 else
 (lett (x6 + (1 : Int32)) fun v11 =>
 rec33 v11)))) 1000000 v5))
abbrev rmC_IAreSettings : Room := { frames := 1, cells := 0, slots := 0, locals := 22 }
set_option maxHeartbeats 4000000 in
set_option maxRecDepth 100000 in
theorem tC_IAreSettings (E : Cx) (hE : CxOk E cX0_areSettings RX0 shC (some .boolean) rmC_IAreSettings 3) (p2 : Int32)  (M : Mm) : Ok E 0 [(0, .ref (E.Y.ad 19)), (1, .int p2)] [] M (C_IAreSettings p2 M) (KIp E M) := by
  unfold C_IAreSettings
  refine ok_aload_n hE 0 rfl dX0_areSettings_0 ?_
  refine ok_iconst hE (0 : Int32) ki_0 dX0_areSettings_1 ?_
  refine ok_cvIp hE rmC_TByteAt [.int (0 : Int32)] [] rfl ca_X0_43 shC_19 rfl (fun _ hx => mC_TByteAt hE.sys _  _ _ hx) ⟨rfl, rfl, rfl, rfl⟩ rfl rfl dX0_areSettings_2 (fun r1 => ?_)
  refine ok_iconst hE (0 : Int32) ki_0 dX0_areSettings_5 ?_
  refine ok_bipush hE (20 : Int32) kb_20 dX0_areSettings_6 ?_
  refine ok_csIp hE rmC_isWithin [.int r1, .int (0 : Int32), .int (20 : Int32)] [] rfl ca_X0_51 (fun _ hx => mC_isWithin hE.sys _ _ _  _ _ hx) ⟨rfl, rfl, rfl, rfl⟩ rfl rfl dX0_areSettings_8 (fun r2 => ?_)
  refine ok_if_eq hE 29 rfl dX0_areSettings_11 ?_ ?_
  · refine ok_iconst hE (0 : Int32) ki_0 dX0_areSettings_29 ?_
    exact ok_zreturnP hE (Or.inl rfl) dX0_areSettings_30
  · refine ok_aload_n hE 0 rfl dX0_areSettings_14 ?_
    refine ok_iconst hE (1 : Int32) ki_1 dX0_areSettings_15 ?_
    refine ok_cvIp hE rmC_TByteAt [.int (1 : Int32)] [] rfl ca_X0_43 shC_19 rfl (fun _ hx => mC_TByteAt hE.sys _  _ _ hx) ⟨rfl, rfl, rfl, rfl⟩ rfl rfl dX0_areSettings_16 (fun r3 => ?_)
    refine ok_iconst hE (1 : Int32) ki_1 dX0_areSettings_19 ?_
    refine ok_sipush hE (200 : Int32) ks_200 dX0_areSettings_20 ?_
    refine ok_csIp hE rmC_isWithin [.int r3, .int (1 : Int32), .int (200 : Int32)] [] rfl ca_X0_51 (fun _ hx => mC_isWithin hE.sys _ _ _  _ _ hx) ⟨rfl, rfl, rfl, rfl⟩ rfl rfl dX0_areSettings_23 (fun r4 => ?_)
    refine ok_if_ne hE 31 rfl dX0_areSettings_26 ?_ ?_
    · refine ok_iconst hE (0 : Int32) ki_0 dX0_areSettings_31 ?_
      refine ok_istore_n hE (fun v5 => [(2, .int v5), (0, .ref (E.Y.ad 19)), (1, .int p2)]) (fun _ => rfl) rfl dX0_areSettings_32 (fun v5 => ?_)
      refine ok_sub [1, 2, 0] rfl (ok_loop (σ := Int32) 33 (fun x6 => [(0, .ref (E.Y.ad 19)), (1, .int p2), (2, .int x6)]) (fun x6 => M) (fun rec33 hrec33 x6 => ?_) 1000000 v5)
      refine ok_iload_n hE 2 rfl dX0_areSettings_33 ?_
      refine ok_iload_n hE 1 rfl dX0_areSettings_34 ?_
      refine ok_icmp_ge hE 81 rfl dX0_areSettings_35 ?_ ?_
      · refine ok_iconst hE (1 : Int32) ki_1 dX0_areSettings_81 ?_
        exact ok_zreturnP hE (Or.inr rfl) dX0_areSettings_82
      · refine ok_aload_n hE 0 rfl dX0_areSettings_38 ?_
        refine ok_iconst hE (2 : Int32) ki_2 dX0_areSettings_39 ?_
        refine ok_iconst hE (2 : Int32) ki_2 dX0_areSettings_40 ?_
        refine ok_iload_n hE 2 rfl dX0_areSettings_41 ?_
        refine ok_imul hE dX0_areSettings_42 ?_
        refine ok_iadd hE dX0_areSettings_43 ?_
        refine ok_cvIp hE rmC_TByteAt [.int ((2 : Int32) + ((2 : Int32) * x6))] [] rfl ca_X0_43 shC_19 rfl (fun _ hx => mC_TByteAt hE.sys _  _ _ hx) ⟨rfl, rfl, rfl, rfl⟩ rfl rfl dX0_areSettings_44 (fun r7 => ?_)
        refine ok_iconst hE (1 : Int32) ki_1 dX0_areSettings_47 ?_
        refine ok_bipush hE (100 : Int32) kb_100 dX0_areSettings_48 ?_
        refine ok_csIp hE rmC_isWithin [.int r7, .int (1 : Int32), .int (100 : Int32)] [] rfl ca_X0_51 (fun _ hx => mC_isWithin hE.sys _ _ _  _ _ hx) ⟨rfl, rfl, rfl, rfl⟩ rfl rfl dX0_areSettings_50 (fun r8 => ?_)
        refine ok_if_eq hE 73 rfl dX0_areSettings_53 ?_ ?_
        · refine ok_iconst hE (0 : Int32) ki_0 dX0_areSettings_73 ?_
          exact ok_zreturnP hE (Or.inl rfl) dX0_areSettings_74
        · refine ok_aload_n hE 0 rfl dX0_areSettings_56 ?_
          refine ok_iconst hE (3 : Int32) ki_3 dX0_areSettings_57 ?_
          refine ok_iconst hE (2 : Int32) ki_2 dX0_areSettings_58 ?_
          refine ok_iload_n hE 2 rfl dX0_areSettings_59 ?_
          refine ok_imul hE dX0_areSettings_60 ?_
          refine ok_iadd hE dX0_areSettings_61 ?_
          refine ok_cvIp hE rmC_TByteAt [.int ((3 : Int32) + ((2 : Int32) * x6))] [] rfl ca_X0_43 shC_19 rfl (fun _ hx => mC_TByteAt hE.sys _  _ _ hx) ⟨rfl, rfl, rfl, rfl⟩ rfl rfl dX0_areSettings_62 (fun r9 => ?_)
          refine ok_iconst hE (0 : Int32) ki_0 dX0_areSettings_65 ?_
          refine ok_iconst hE (1 : Int32) ki_1 dX0_areSettings_66 ?_
          refine ok_csIp hE rmC_isWithin [.int r9, .int (0 : Int32), .int (1 : Int32)] [] rfl ca_X0_51 (fun _ hx => mC_isWithin hE.sys _ _ _  _ _ hx) ⟨rfl, rfl, rfl, rfl⟩ rfl rfl dX0_areSettings_67 (fun r10 => ?_)
          refine ok_if_ne hE 75 rfl dX0_areSettings_70 ?_ ?_
          · refine ok_iinc hE 2 (x6 + (1 : Int32)) (by rw [ko_1]) (fun v11 => [(2, .int v11), (0, .ref (E.Y.ad 19)), (1, .int p2)]) rfl (fun _ => rfl) rfl dX0_areSettings_75 (fun v11 => ?_)
            refine ok_goto hE 33 rfl dX0_areSettings_78 ?_
            exact ok_sub [1, 2, 0] rfl (hrec33 v11)
          · refine ok_iconst hE (0 : Int32) ki_0 dX0_areSettings_73 ?_
            exact ok_zreturnP hE (Or.inl rfl) dX0_areSettings_74
    · refine ok_iconst hE (0 : Int32) ki_0 dX0_areSettings_29 ?_
      exact ok_zreturnP hE (Or.inl rfl) dX0_areSettings_30
theorem mC_IAreSettings {l : Launch} {Y : Sys} {t : Nat} (hY : SysOk Y t shC) (p2 : Int32)  (M : Mm) (r : Int32) (h : C_IAreSettings p2 M = some r) : Cm l Y t yX0_areSettings (WS yX0_areSettings cX0_areSettings 3 (some .boolean)) rmC_IAreSettings [.ref (Y.ad 19), .int p2] M ((some (.int r), M)) := by
  refine cm_of (own := RX0) hY rfl rfl (Nat.le_of_ble_eq_true rfl) (fun E hE e1 e2 e3 e4 => ?_)
  subst e1
  exact tC_IAreSettings E hE p2  M r h e4.symm
def C_IIsOne (p2 : Int32) (M : Mm) : Option Int32 :=
 if (gI M 19 1) = ((3 : Int32) + ((2 : Int32) * p2)) then
 (lett (163 : Int32) fun v1 =>
 lett (0 : Int32) fun v2 =>
 lett (fun (u_2 : Int32) =>
 bnd (C_TByteAt ((gI M 19 1) - (1 : Int32)) M) fun r4 =>
 if u_2 = r4 then
 (bnd (C_IAreSettings p2 M) fun r5 =>
 if r5 = 0 then
 (some (0 : Int32))
 else
 (some (1 : Int32)))
 else
 (some (0 : Int32))) fun j50 =>
 loopR (fun (rec20 : (Int32 × Int32) → Option Int32) (x6 : Int32 × Int32) =>
 if ((gI M 19 1) - (1 : Int32)) ≤ x6.2 then
 (j50 x6.1)
 else
 (bnd (C_TByteAt x6.2 M) fun r7 =>
 lett ((((3 : Int32) * x6.1) + r7) - (((3 : Int32) * x6.1) + r7) / (251 : Int32) * (251 : Int32)) fun v8 =>
 lett (x6.2 + (1 : Int32)) fun v9 =>
 rec20 (v8, v9))) 1000000 (v1, v2))
 else
 (some (0 : Int32))
abbrev rmC_IIsOne : Room := { frames := 2, cells := 0, slots := 0, locals := 44 }
set_option maxHeartbeats 4000000 in
set_option maxRecDepth 100000 in
theorem tC_IIsOne (E : Cx) (hE : CxOk E cX0_isOne RX0 shC (some .boolean) rmC_IIsOne 4) (p2 : Int32)  (M : Mm) : Ok E 0 [(0, .ref (E.Y.ad 19)), (1, .int p2)] [] M (C_IIsOne p2 M) (KIp E M) := by
  unfold C_IIsOne
  refine ok_aload_n hE 0 rfl dX0_isOne_0 ?_
  refine ok_getI hE fl_X0_40 shC_19 rfl dX0_isOne_1 ?_
  refine ok_iconst hE (3 : Int32) ki_3 dX0_isOne_4 ?_
  refine ok_iconst hE (2 : Int32) ki_2 dX0_isOne_5 ?_
  refine ok_iload_n hE 1 rfl dX0_isOne_6 ?_
  refine ok_imul hE dX0_isOne_7 ?_
  refine ok_iadd hE dX0_isOne_8 ?_
  refine ok_icmp_eq hE 14 rfl dX0_isOne_9 ?_ ?_
  · refine ok_sipush hE (163 : Int32) ks_163 dX0_isOne_14 ?_
    refine ok_istore_n hE (fun v1 => [(2, .int v1), (0, .ref (E.Y.ad 19)), (1, .int p2)]) (fun _ => rfl) rfl dX0_isOne_17 (fun v1 => ?_)
    refine ok_iconst hE (0 : Int32) ki_0 dX0_isOne_18 ?_
    refine ok_istore_n hE (fun v2 => [(3, .int v2), (2, .int v1), (0, .ref (E.Y.ad 19)), (1, .int p2)]) (fun _ => rfl) rfl dX0_isOne_19 (fun v2 => ?_)
    refine ok_fun (fun j => ∀ (u_2 : Int32), Ok E 50 [(0, .ref (E.Y.ad 19)), (1, .int p2), (2, .int u_2)] [] M (j u_2) (KIp E M)) (fun u_2 => ?_) (fun j50 hj50 => ?_)
    · refine ok_iload_n hE 2 rfl dX0_isOne_50 ?_
      refine ok_aload_n hE 0 rfl dX0_isOne_51 ?_
      refine ok_aload_n hE 0 rfl dX0_isOne_52 ?_
      refine ok_getI hE fl_X0_40 shC_19 rfl dX0_isOne_53 ?_
      refine ok_iconst hE (1 : Int32) ki_1 dX0_isOne_56 ?_
      refine ok_isub hE dX0_isOne_57 ?_
      refine ok_cvIp hE rmC_TByteAt [.int ((gI M 19 1) - (1 : Int32))] [.int u_2] rfl ca_X0_43 shC_19 rfl (fun _ hx => mC_TByteAt hE.sys _  _ _ hx) ⟨rfl, rfl, rfl, rfl⟩ rfl rfl dX0_isOne_58 (fun r4 => ?_)
      refine ok_icmp_ne hE 76 rfl dX0_isOne_61 ?_ ?_
      · refine ok_iconst hE (0 : Int32) ki_0 dX0_isOne_76 ?_
        exact ok_zreturnP hE (Or.inl rfl) dX0_isOne_77
      · refine ok_aload_n hE 0 rfl dX0_isOne_64 ?_
        refine ok_iload_n hE 1 rfl dX0_isOne_65 ?_
        refine ok_csIp hE rmC_IAreSettings [.ref (E.Y.ad 19), .int p2] [] rfl ca_X0_47 (fun _ hx => mC_IAreSettings hE.sys _  _ _ hx) ⟨rfl, rfl, rfl, rfl⟩ rfl rfl dX0_isOne_66 (fun r5 => ?_)
        refine ok_if_eq hE 76 rfl dX0_isOne_69 ?_ ?_
        · refine ok_iconst hE (0 : Int32) ki_0 dX0_isOne_76 ?_
          exact ok_zreturnP hE (Or.inl rfl) dX0_isOne_77
        · refine ok_iconst hE (1 : Int32) ki_1 dX0_isOne_72 ?_
          refine ok_goto hE 77 rfl dX0_isOne_73 ?_
          exact ok_zreturnP hE (Or.inr rfl) dX0_isOne_77
    refine ok_sub [2, 3, 1, 0] rfl (ok_loop (σ := Int32 × Int32) 20 (fun x6 => [(0, .ref (E.Y.ad 19)), (1, .int p2), (2, .int x6.1), (3, .int x6.2)]) (fun x6 => M) (fun rec20 hrec20 x6 => ?_) 1000000 (v1, v2))
    refine ok_iload_n hE 3 rfl dX0_isOne_20 ?_
    refine ok_aload_n hE 0 rfl dX0_isOne_21 ?_
    refine ok_getI hE fl_X0_40 shC_19 rfl dX0_isOne_22 ?_
    refine ok_iconst hE (1 : Int32) ki_1 dX0_isOne_25 ?_
    refine ok_isub hE dX0_isOne_26 ?_
    refine ok_icmp_ge hE 50 rfl dX0_isOne_27 ?_ ?_
    · exact ok_sub [0, 1, 2] rfl (hj50 x6.1)
    · refine ok_iconst hE (3 : Int32) ki_3 dX0_isOne_30 ?_
      refine ok_iload_n hE 2 rfl dX0_isOne_31 ?_
      refine ok_imul hE dX0_isOne_32 ?_
      refine ok_aload_n hE 0 rfl dX0_isOne_33 ?_
      refine ok_iload_n hE 3 rfl dX0_isOne_34 ?_
      refine ok_cvIp hE rmC_TByteAt [.int x6.2] [.int ((3 : Int32) * x6.1)] rfl ca_X0_43 shC_19 rfl (fun _ hx => mC_TByteAt hE.sys _  _ _ hx) ⟨rfl, rfl, rfl, rfl⟩ rfl rfl dX0_isOne_35 (fun r7 => ?_)
      refine ok_iadd hE dX0_isOne_38 ?_
      refine ok_sipush hE (251 : Int32) ks_251 dX0_isOne_39 ?_
      refine ok_iremC hE (by decide) dX0_isOne_42 ?_
      refine ok_istore_n hE (fun v8 => [(2, .int v8), (0, .ref (E.Y.ad 19)), (1, .int p2), (3, .int x6.2)]) (fun _ => rfl) rfl dX0_isOne_43 (fun v8 => ?_)
      refine ok_iinc hE 3 (x6.2 + (1 : Int32)) (by rw [ko_1]) (fun v9 => [(3, .int v9), (2, .int v8), (0, .ref (E.Y.ad 19)), (1, .int p2)]) rfl (fun _ => rfl) rfl dX0_isOne_44 (fun v9 => ?_)
      refine ok_goto hE 20 rfl dX0_isOne_47 ?_
      exact ok_sub [2, 3, 1, 0] rfl (hrec20 (v8, v9))
  · refine ok_iconst hE (0 : Int32) ki_0 dX0_isOne_12 ?_
    exact ok_zreturnP hE (Or.inl rfl) dX0_isOne_13
theorem mC_IIsOne {l : Launch} {Y : Sys} {t : Nat} (hY : SysOk Y t shC) (p2 : Int32)  (M : Mm) (r : Int32) (h : C_IIsOne p2 M = some r) : Cm l Y t yX0_isOne (WS yX0_isOne cX0_isOne 4 (some .boolean)) rmC_IIsOne [.ref (Y.ad 19), .int p2] M ((some (.int r), M)) := by
  refine cm_of (own := RX0) hY rfl rfl (Nat.le_of_ble_eq_true rfl) (fun E hE e1 e2 e3 e4 => ?_)
  subst e1
  exact tC_IIsOne E hE p2  M r h e4.symm
def C_IApply (p3 : Int32) (M : Mm) : Option Mm :=
 bnd (C_TByteAt (0 : Int32) M) fun r1 =>
 lett (sI M 26 16 r1) fun M2 =>
 bnd (C_TByteAt (1 : Int32) M2) fun r3 =>
 lett (sI M2 26 17 r3) fun M4 =>
 lett (0 : Int32) fun v5 =>
 loopR (fun (rec20 : (Int32 × Mm) → Option Mm) (x6 : Int32 × Mm) =>
 if p3 ≤ x6.1 then
 (some x6.2)
 else
 (ald x6.1 6 (bnd (C_TByteAt ((2 : Int32) + ((2 : Int32) * x6.1)) x6.2) fun r8 =>
 lett (sI x6.2 (34 + 2 * ix x6.1) 0 r8) fun M9 =>
 ald x6.1 6 (bnd (C_TByteAt ((3 : Int32) + ((2 : Int32) * x6.1)) M9) fun r11 =>
 lett (fun (w_11 : Int32) =>
 grd (w_11 = 0 ∨ w_11 = 1) (lett (sI M9 (34 + 2 * ix x6.1) 1 w_11) fun M13 =>
 lett (x6.1 + (1 : Int32)) fun v14 =>
 rec20 (v14, M13))) fun j67 =>
 if r11 = (1 : Int32) then
 (j67 (1 : Int32))
 else
 (j67 (0 : Int32)))))) 1000000 (v5, M4)
abbrev rmC_IApply : Room := { frames := 1, cells := 0, slots := 0, locals := 21 }
set_option maxHeartbeats 4000000 in
set_option maxRecDepth 100000 in
theorem tC_IApply (E : Cx) (hE : CxOk E cX0_apply RX0 shC none rmC_IApply 4) (p3 : Int32)  (M : Mm) : Ok E 0 [(0, .ref (E.Y.ad 19)), (1, .ref (E.Y.ad 26)), (2, .int p3)] [] M (C_IApply p3 M) (KV E) := by
  unfold C_IApply
  refine ok_aload_n hE 1 rfl dX0_apply_0 ?_
  refine ok_aload_n hE 0 rfl dX0_apply_1 ?_
  refine ok_iconst hE (0 : Int32) ki_0 dX0_apply_2 ?_
  refine ok_cvIp hE rmC_TByteAt [.int (0 : Int32)] [.ref (E.Y.ad 26)] rfl ca_X0_43 shC_19 rfl (fun _ hx => mC_TByteAt hE.sys _  _ _ hx) ⟨rfl, rfl, rfl, rfl⟩ rfl rfl dX0_apply_3 (fun r1 => ?_)
  refine ok_putI hE fl_X0_19 shC_26 rfl dX0_apply_6 (fun M2 => ?_)
  refine ok_aload_n hE 1 rfl dX0_apply_9 ?_
  refine ok_aload_n hE 0 rfl dX0_apply_10 ?_
  refine ok_iconst hE (1 : Int32) ki_1 dX0_apply_11 ?_
  refine ok_cvIp hE rmC_TByteAt [.int (1 : Int32)] [.ref (E.Y.ad 26)] rfl ca_X0_43 shC_19 rfl (fun _ hx => mC_TByteAt hE.sys _  _ _ hx) ⟨rfl, rfl, rfl, rfl⟩ rfl rfl dX0_apply_12 (fun r3 => ?_)
  refine ok_putI hE fl_X0_24 shC_26 rfl dX0_apply_15 (fun M4 => ?_)
  refine ok_iconst hE (0 : Int32) ki_0 dX0_apply_18 ?_
  refine ok_istore_n hE (fun v5 => [(3, .int v5), (0, .ref (E.Y.ad 19)), (1, .ref (E.Y.ad 26)), (2, .int p3)]) (fun _ => rfl) rfl dX0_apply_19 (fun v5 => ?_)
  refine ok_sub [1, 2, 3, 0] rfl (ok_loop (σ := Int32 × Mm) 20 (fun x6 => [(0, .ref (E.Y.ad 19)), (1, .ref (E.Y.ad 26)), (2, .int p3), (3, .int x6.1)]) (fun x6 => x6.2) (fun rec20 hrec20 x6 => ?_) 1000000 (v5, M4))
  refine ok_iload_n hE 3 rfl dX0_apply_20 ?_
  refine ok_iload_n hE 2 rfl dX0_apply_21 ?_
  refine ok_icmp_ge hE 76 rfl dX0_apply_22 ?_ ?_
  · exact ok_return hE dX0_apply_76
  · refine ok_aload_n hE 1 rfl dX0_apply_25 ?_
    refine ok_getC hE fl_X0_27 shC_26 rfl dX0_apply_26 ?_
    refine ok_iload_n hE 3 rfl dX0_apply_29 ?_
    refine ok_aaloadH hE shC_27 rfl dX0_apply_30 (fun hi7 => ?_)
    refine ok_aload_n hE 0 rfl dX0_apply_31 ?_
    refine ok_iconst hE (2 : Int32) ki_2 dX0_apply_32 ?_
    refine ok_iconst hE (2 : Int32) ki_2 dX0_apply_33 ?_
    refine ok_iload_n hE 3 rfl dX0_apply_34 ?_
    refine ok_imul hE dX0_apply_35 ?_
    refine ok_iadd hE dX0_apply_36 ?_
    refine ok_cvIp hE rmC_TByteAt [.int ((2 : Int32) + ((2 : Int32) * x6.1))] [.ref (E.Y.ad (34 + 2 * ix x6.1))] rfl ca_X0_43 shC_19 rfl (fun _ hx => mC_TByteAt hE.sys _  _ _ hx) ⟨rfl, rfl, rfl, rfl⟩ rfl rfl dX0_apply_37 (fun r8 => ?_)
    refine ok_putI hE fl_X0_31 (shC_e_27 hi7) rfl dX0_apply_40 (fun M9 => ?_)
    refine ok_aload_n hE 1 rfl dX0_apply_43 ?_
    refine ok_getC hE fl_X0_27 shC_26 rfl dX0_apply_44 ?_
    refine ok_iload_n hE 3 rfl dX0_apply_47 ?_
    refine ok_aaloadH hE shC_27 rfl dX0_apply_48 (fun hi10 => ?_)
    refine ok_aload_n hE 0 rfl dX0_apply_49 ?_
    refine ok_iconst hE (3 : Int32) ki_3 dX0_apply_50 ?_
    refine ok_iconst hE (2 : Int32) ki_2 dX0_apply_51 ?_
    refine ok_iload_n hE 3 rfl dX0_apply_52 ?_
    refine ok_imul hE dX0_apply_53 ?_
    refine ok_iadd hE dX0_apply_54 ?_
    refine ok_cvIp hE rmC_TByteAt [.int ((3 : Int32) + ((2 : Int32) * x6.1))] [.ref (E.Y.ad (34 + 2 * ix x6.1))] rfl ca_X0_43 shC_19 rfl (fun _ hx => mC_TByteAt hE.sys _  _ _ hx) ⟨rfl, rfl, rfl, rfl⟩ rfl rfl dX0_apply_55 (fun r11 => ?_)
    refine ok_iconst hE (1 : Int32) ki_1 dX0_apply_58 ?_
    refine ok_fun (fun j => ∀ (w_11 : Int32), Ok E 67 [(0, .ref (E.Y.ad 19)), (1, .ref (E.Y.ad 26)), (2, .int p3), (3, .int x6.1)] [.int w_11, .ref (E.Y.ad (34 + 2 * ix x6.1))] M9 (j w_11) (KV E)) (fun w_11 => ?_) (fun j67 hj67 => ?_)
    · refine ok_putZG hE fl_X0_36 (shC_e_27 hi10) rfl dX0_apply_67 (fun M13 => ?_)
      refine ok_iinc hE 3 (x6.1 + (1 : Int32)) (by rw [ko_1]) (fun v14 => [(3, .int v14), (0, .ref (E.Y.ad 19)), (1, .ref (E.Y.ad 26)), (2, .int p3)]) rfl (fun _ => rfl) rfl dX0_apply_70 (fun v14 => ?_)
      refine ok_goto hE 20 rfl dX0_apply_73 ?_
      exact ok_sub [1, 2, 3, 0] rfl (hrec20 (v14, M13))
    refine ok_icmp_ne hE 66 rfl dX0_apply_59 ?_ ?_
    · refine ok_iconst hE (0 : Int32) ki_0 dX0_apply_66 ?_
      exact ok_sub [0, 1, 2, 3] rfl (hj67 (0 : Int32))
    · refine ok_iconst hE (1 : Int32) ki_1 dX0_apply_62 ?_
      refine ok_goto hE 67 rfl dX0_apply_63 ?_
      exact ok_sub [0, 1, 2, 3] rfl (hj67 (1 : Int32))
theorem mC_IApply {l : Launch} {Y : Sys} {t : Nat} (hY : SysOk Y t shC) (p3 : Int32)  (M : Mm) (r : Mm) (h : C_IApply p3 M = some r) : Cm l Y t yX0_apply (WS yX0_apply cX0_apply 4 none) rmC_IApply [.ref (Y.ad 19), .ref (Y.ad 26), .int p3] M (enV r) := by
  refine cm_of (own := RX0) hY rfl rfl (Nat.le_of_ble_eq_true rfl) (fun E hE e1 e2 e3 e4 => ?_)
  subst e1
  exact tC_IApply E hE p3  M r h e4.symm
def C_LClear (th : Nat) (M : Mm) : Option Mm :=
 lett (sI M th 0 (0 : Int32)) fun M1 =>
 lett (sI M1 th 3 (8 : Int32)) fun M2 =>
 lett (sI M2 th 4 (64 : Int32)) fun M3 =>
 lett (sI M3 th 5 (4 : Int32)) fun M4 =>
 lett (sI M4 th 6 (40 : Int32)) fun M5 =>
 lett (sI M5 th 7 (16 : Int32)) fun M6 =>
 lett (sI M6 th 8 (1 : Int32)) fun M7 =>
 lett (sI M7 th 9 (0 : Int32)) fun M8 =>
 lett (sI M8 th 10 (999 : Int32)) fun M9 =>
 lett (sI M9 th 11 (0 : Int32)) fun M10 =>
 lett (0 : Int32) fun v11 =>
 loopR (fun (rec58 : (Int32 × Mm) → Option Mm) (x12 : Int32 × Mm) =>
 if (36 : Int32) ≤ x12.1 then
 (some x12.2)
 else
 (ald x12.1 36 (lett (sI x12.2 (th + 1) (ix x12.1) (0 : Int32)) fun M13 =>
 lett (x12.1 + (1 : Int32)) fun v14 =>
 rec58 (v14, M13)))) 1000000 (v11, M10)
abbrev rmC_LClear : Room := { frames := 0, cells := 0, slots := 0, locals := 0 }
set_option maxHeartbeats 4000000 in
set_option maxRecDepth 100000 in
theorem tC_LClear (E : Cx) (hE : CxOk E cX2_clear RX2 shC none rmC_LClear 2) (th : Nat) (hth : shC th = shCX2) (M : Mm) : Ok E 0 [(0, .ref (E.Y.ad th))] [] M (C_LClear th M) (KV E) := by
  unfold C_LClear
  refine ok_aload_n hE 0 rfl dX2_clear_0 ?_
  refine ok_iconst hE (0 : Int32) ki_0 dX2_clear_1 ?_
  refine ok_putI hE fl_X2_37 hth rfl dX2_clear_2 (fun M1 => ?_)
  refine ok_aload_n hE 0 rfl dX2_clear_5 ?_
  refine ok_bipush hE (8 : Int32) kb_8 dX2_clear_6 ?_
  refine ok_putI hE fl_X2_41 hth rfl dX2_clear_8 (fun M2 => ?_)
  refine ok_aload_n hE 0 rfl dX2_clear_11 ?_
  refine ok_bipush hE (64 : Int32) kb_64 dX2_clear_12 ?_
  refine ok_putI hE fl_X2_44 hth rfl dX2_clear_14 (fun M3 => ?_)
  refine ok_aload_n hE 0 rfl dX2_clear_17 ?_
  refine ok_iconst hE (4 : Int32) ki_4 dX2_clear_18 ?_
  refine ok_putI hE fl_X2_47 hth rfl dX2_clear_19 (fun M4 => ?_)
  refine ok_aload_n hE 0 rfl dX2_clear_22 ?_
  refine ok_bipush hE (40 : Int32) kb_40 dX2_clear_23 ?_
  refine ok_putI hE fl_X2_50 hth rfl dX2_clear_25 (fun M5 => ?_)
  refine ok_aload_n hE 0 rfl dX2_clear_28 ?_
  refine ok_bipush hE (16 : Int32) kb_16 dX2_clear_29 ?_
  refine ok_putI hE fl_X2_53 hth rfl dX2_clear_31 (fun M6 => ?_)
  refine ok_aload_n hE 0 rfl dX2_clear_34 ?_
  refine ok_iconst hE (1 : Int32) ki_1 dX2_clear_35 ?_
  refine ok_putI hE fl_X2_56 hth rfl dX2_clear_36 (fun M7 => ?_)
  refine ok_aload_n hE 0 rfl dX2_clear_39 ?_
  refine ok_iconst hE (0 : Int32) ki_0 dX2_clear_40 ?_
  refine ok_putI hE fl_X2_59 hth rfl dX2_clear_41 (fun M8 => ?_)
  refine ok_aload_n hE 0 rfl dX2_clear_44 ?_
  refine ok_sipush hE (999 : Int32) ks_999 dX2_clear_45 ?_
  refine ok_putI hE fl_X2_62 hth rfl dX2_clear_48 (fun M9 => ?_)
  refine ok_aload_n hE 0 rfl dX2_clear_51 ?_
  refine ok_iconst hE (0 : Int32) ki_0 dX2_clear_52 ?_
  refine ok_putI hE fl_X2_65 hth rfl dX2_clear_53 (fun M10 => ?_)
  refine ok_iconst hE (0 : Int32) ki_0 dX2_clear_56 ?_
  refine ok_istore_n hE (fun v11 => [(1, .int v11), (0, .ref (E.Y.ad th))]) (fun _ => rfl) rfl dX2_clear_57 (fun v11 => ?_)
  refine ok_sub [1, 0] rfl (ok_loop (σ := Int32 × Mm) 58 (fun x12 => [(0, .ref (E.Y.ad th)), (1, .int x12.1)]) (fun x12 => x12.2) (fun rec58 hrec58 x12 => ?_) 1000000 (v11, M10))
  refine ok_iload_n hE 1 rfl dX2_clear_58 ?_
  refine ok_aload_n hE 0 rfl dX2_clear_59 ?_
  refine ok_getC hE fl_X2_9 hth rfl dX2_clear_60 ?_
  refine ok_alen hE (36 : Int32) (by decide) (shC_f_2_12 hth) dX2_clear_63 ?_
  refine ok_icmp_ge hE 80 rfl dX2_clear_64 ?_ ?_
  · exact ok_return hE dX2_clear_80
  · refine ok_aload_n hE 0 rfl dX2_clear_67 ?_
    refine ok_getC hE fl_X2_9 hth rfl dX2_clear_68 ?_
    refine ok_iload_n hE 1 rfl dX2_clear_71 ?_
    refine ok_iconst hE (0 : Int32) ki_0 dX2_clear_72 ?_
    refine ok_iastore hE (shC_f_2_12 hth) dX2_clear_73 (fun M13 => ?_)
    refine ok_iinc hE 1 (x12.1 + (1 : Int32)) (by rw [ko_1]) (fun v14 => [(1, .int v14), (0, .ref (E.Y.ad th))]) rfl (fun _ => rfl) rfl dX2_clear_74 (fun v14 => ?_)
    refine ok_goto hE 58 rfl dX2_clear_77 ?_
    exact ok_sub [1, 0] rfl (hrec58 (v14, M13))
theorem mC_LClear {l : Launch} {Y : Sys} {t : Nat} (hY : SysOk Y t shC) (th : Nat) (hth : shC th = shCX2) (M : Mm) (r : Mm) (h : C_LClear th M = some r) : Cm l Y t yX2_clear (WS yX2_clear cX2_clear 2 none) rmC_LClear [.ref (Y.ad th)] M (enV r) := by
  refine cm_of (own := RX2) hY rfl rfl (Nat.le_of_ble_eq_true rfl) (fun E hE e1 e2 e3 e4 => ?_)
  subst e1
  exact tC_LClear E hE th hth M r h e4.symm
def C_DReadText (p1 : Nat) (M : Mm) : Option (Int32 × Mm) :=
 lett (sR M 21 5 (some p1)) fun M1 =>
 lett (sI M1 21 6 (0 : Int32)) fun M2 =>
 lett (sI M2 21 7 (0 : Int32)) fun M3 =>
 lett (sI M3 21 8 (0 : Int32)) fun M4 =>
 lett (sI M4 21 9 (-1 : Int32)) fun M5 =>
 plnP M5 21 fun q7 =>
 bnd (P_DSplitText (sbM (emP 21 q7) M5)) fun x6 =>
 grd (gdW 4 x6 = true) (lett (inM (dmP 21 q7) kpP M5 x6) fun M9 =>
 plnP M9 21 fun q11 =>
 bnd (P_DReadDisk (sbM (emP 21 q11) M9)) fun x10 =>
 grd (gdW 4 x10 = true) (lett (inM (dmP 21 q11) kpP M9 x10) fun M13 =>
 lett (1 : Int32) fun v14 =>
 loopR (fun (rec35 : (Int32 × Mm) → Option (Int32 × Mm)) (x15 : Int32 × Mm) =>
 if (gI x15.2 21 8) = 0 then
 (ald (gI x15.2 21 6) 1601 (if (gI x15.2 22 (ix (gI x15.2 21 6))) = 0 then
 (some (x15.1, x15.2))
 else
 (if (1600 : Int32) ≤ x15.1 then
 (some (x15.1, x15.2))
 else
 (plnP x15.2 21 fun q17 =>
 bnd (P_DReadStatement (sbM (emP 21 q17) x15.2)) fun x16 =>
 grd (gdW 4 x16 = true) (lett (inM (dmP 21 q17) kpP x15.2 x16) fun M19 =>
 lett (x15.1 + (1 : Int32)) fun v20 =>
 rec35 (v20, M19))))))
 else
 (some (x15.1, x15.2))) 1000000 (v14, M13)))
abbrev rmC_DReadText : Room := { frames := 9, cells := 0, slots := 0, locals := 208 }
set_option maxHeartbeats 4000000 in
set_option maxRecDepth 100000 in
theorem tC_DReadText (E : Cx) (hE : CxOk E cX5_readText RX5 shC (some .int) rmC_DReadText 3) (p1 : Nat) (hp1 : shC p1 = shCX2) (M : Mm) : Ok E 0 [(0, .ref (E.Y.ad 21)), (1, .ref (E.Y.ad p1))] [] M (C_DReadText p1 M) (KI E) := by
  unfold C_DReadText
  refine ok_aload_n hE 0 rfl dX5_readText_0 ?_
  refine ok_aload_n hE 1 rfl dX5_readText_1 ?_
  refine ok_putR hE fl_X5_31 shC_21 rfl dX5_readText_2 (fun M1 => ?_)
  refine ok_aload_n hE 0 rfl dX5_readText_5 ?_
  refine ok_iconst hE (0 : Int32) ki_0 dX5_readText_6 ?_
  refine ok_putI hE fl_X5_35 shC_21 rfl dX5_readText_7 (fun M2 => ?_)
  refine ok_aload_n hE 0 rfl dX5_readText_10 ?_
  refine ok_iconst hE (0 : Int32) ki_0 dX5_readText_11 ?_
  refine ok_putI hE fl_X5_39 shC_21 rfl dX5_readText_12 (fun M3 => ?_)
  refine ok_aload_n hE 0 rfl dX5_readText_15 ?_
  refine ok_iconst hE (0 : Int32) ki_0 dX5_readText_16 ?_
  refine ok_putI hE fl_X5_42 shC_21 rfl dX5_readText_17 (fun M4 => ?_)
  refine ok_aload_n hE 0 rfl dX5_readText_20 ?_
  refine ok_iconst hE (-1 : Int32) ki_m1 dX5_readText_21 ?_
  refine ok_putI hE fl_X5_45 shC_21 rfl dX5_readText_22 (fun M5 => ?_)
  refine ok_aload_n hE 0 rfl dX5_readText_25 ?_
  refine ok_plnP hE (fun q7 hq8 => ?_)
  refine ok_yV hE rmP_DSplitText [] [] rfl ca_X5_48 shC_21 rfl hq8 rfl (fun hs _ hx => mP_DSplitText hs   _ _ hx) ⟨rfl, rfl, rfl, rfl⟩ rfl rfl dX5_readText_26 (fun x6 M9 => ?_)
  refine ok_aload_n hE 0 rfl dX5_readText_29 ?_
  refine ok_plnP hE (fun q11 hq12 => ?_)
  refine ok_yV hE rmP_DReadDisk [] [] rfl ca_X5_51 shC_21 rfl hq12 rfl (fun hs _ hx => mP_DReadDisk hs   _ _ hx) ⟨rfl, rfl, rfl, rfl⟩ rfl rfl dX5_readText_30 (fun x10 M13 => ?_)
  refine ok_iconst hE (1 : Int32) ki_1 dX5_readText_33 ?_
  refine ok_istore_n hE (fun v14 => [(2, .int v14), (0, .ref (E.Y.ad 21)), (1, .ref (E.Y.ad p1))]) (fun _ => rfl) rfl dX5_readText_34 (fun v14 => ?_)
  refine ok_sub [1, 0] rfl (ok_loop (σ := Int32 × Mm) 35 (fun x15 => [(0, .ref (E.Y.ad 21)), (2, .int x15.1)]) (fun x15 => x15.2) (fun rec35 hrec35 x15 => ?_) 1000000 (v14, M13))
  refine ok_aload_n hE 0 rfl dX5_readText_35 ?_
  refine ok_getI hE fl_X5_42 shC_21 rfl dX5_readText_36 ?_
  refine ok_if_ne hE 71 rfl dX5_readText_39 ?_ ?_
  · refine ok_iload_n hE 1 rfl dX5_readText_71 ?_
    exact ok_ireturn hE dX5_readText_72
  · refine ok_aload_n hE 0 rfl dX5_readText_42 ?_
    refine ok_getC hE fl_X5_9 shC_21 rfl dX5_readText_43 ?_
    refine ok_aload_n hE 0 rfl dX5_readText_46 ?_
    refine ok_getI hE fl_X5_35 shC_21 rfl dX5_readText_47 ?_
    refine ok_iaload hE shC_22 dX5_readText_50 ?_
    refine ok_if_eq hE 71 rfl dX5_readText_51 ?_ ?_
    · refine ok_iload_n hE 1 rfl dX5_readText_71 ?_
      exact ok_ireturn hE dX5_readText_72
    · refine ok_iload_n hE 1 rfl dX5_readText_54 ?_
      refine ok_sipush hE (1600 : Int32) ks_1600 dX5_readText_55 ?_
      refine ok_icmp_ge hE 71 rfl dX5_readText_58 ?_ ?_
      · refine ok_iload_n hE 1 rfl dX5_readText_71 ?_
        exact ok_ireturn hE dX5_readText_72
      · refine ok_aload_n hE 0 rfl dX5_readText_61 ?_
        refine ok_plnP hE (fun q17 hq18 => ?_)
        refine ok_yV hE rmP_DReadStatement [] [] rfl ca_X5_54 shC_21 rfl hq18 rfl (fun hs _ hx => mP_DReadStatement hs   _ _ hx) ⟨rfl, rfl, rfl, rfl⟩ rfl rfl dX5_readText_62 (fun x16 M19 => ?_)
        refine ok_iinc hE 1 (x15.1 + (1 : Int32)) (by rw [ko_1]) (fun v20 => [(2, .int v20), (0, .ref (E.Y.ad 21))]) rfl (fun _ => rfl) rfl dX5_readText_65 (fun v20 => ?_)
        refine ok_goto hE 35 rfl dX5_readText_68 ?_
        exact ok_sub [1, 0] rfl (hrec35 (v20, M19))
theorem mC_DReadText {l : Launch} {Y : Sys} {t : Nat} (hY : SysOk Y t shC) (p1 : Nat) (hp1 : shC p1 = shCX2) (M : Mm) (r : (Int32 × Mm)) (h : C_DReadText p1 M = some r) : Cm l Y t yX5_readText (WS yX5_readText cX5_readText 3 (some .int)) rmC_DReadText [.ref (Y.ad 21), .ref (Y.ad p1)] M (enI r) := by
  refine cm_of (own := RX5) hY rfl rfl (Nat.le_of_ble_eq_true rfl) (fun E hE e1 e2 e3 e4 => ?_)
  subst e1
  exact tC_DReadText E hE p1 hp1 M r h e4.symm
def C_RTell (p1 : Nat) (n1 : Nat) (p2 : Int32) (p3 : Int32) (M : Mm) : Option Int32 :=
 if p3 = (0 : Int32) then
 (ald (p2 + (0 : Int32)) n1 (some (gI M p1 (ix (p2 + (0 : Int32))))))
 else
 (if p3 = (1 : Int32) then
 (ald (p2 + (1 : Int32)) n1 (some (gI M p1 (ix (p2 + (1 : Int32))))))
 else
 (if p3 = (2 : Int32) then
 (ald (p2 + (2 : Int32)) n1 (some (gI M p1 (ix (p2 + (2 : Int32))))))
 else
 (if p3 = (3 : Int32) then
 (ald (p2 + (3 : Int32)) n1 (some (gI M p1 (ix (p2 + (3 : Int32))))))
 else
 (if p3 = (4 : Int32) then
 (ald (p2 + (4 : Int32)) n1 (if (gI M p1 (ix (p2 + (4 : Int32)))) = (-1 : Int32) then
 (some (1 : Int32))
 else
 (some (0 : Int32))))
 else
 (some (-1 : Int32))))))
abbrev rmC_RTell : Room := { frames := 0, cells := 0, slots := 0, locals := 0 }
set_option maxHeartbeats 4000000 in
set_option maxRecDepth 100000 in
theorem tC_RTell (E : Cx) (hE : CxOk E cX6_tell RX6 shC (some .int) rmC_RTell 3) (p1 : Nat) (n1 : Nat) (p2 : Int32) (p3 : Int32) (hp1 : shC p1 = (1, 0, n1, [])) (M : Mm) : Ok E 0 [(0, .ref (E.Y.ad p1)), (1, .int p2), (2, .int p3)] [] M (C_RTell p1 n1 p2 p3 M) (KIp E M) := by
  unfold C_RTell
  refine ok_iload_n hE 2 rfl dX6_tell_0 ?_
  refine ok_ite (fun hc1 => ?_) (fun hc1 => ?_)
  · refine ok_tableIn hE (off := 35) (0 : Int32) 36 hc1 dX6_tell_1 (by decide) rfl ?_
    refine ok_aload_n hE 0 rfl dX6_tell_36 ?_
    refine ok_iload_n hE 1 rfl dX6_tell_37 ?_
    refine ok_iconst hE (0 : Int32) ki_0 dX6_tell_38 ?_
    refine ok_iadd hE dX6_tell_39 ?_
    refine ok_iaload hE hp1 dX6_tell_40 ?_
    exact ok_ireturnP hE dX6_tell_41
  · refine ok_ite (fun hc2 => ?_) (fun hc2 => ?_)
    · refine ok_tableIn hE (off := 41) (1 : Int32) 42 hc2 dX6_tell_1 (by decide) rfl ?_
      refine ok_aload_n hE 0 rfl dX6_tell_42 ?_
      refine ok_iload_n hE 1 rfl dX6_tell_43 ?_
      refine ok_iconst hE (1 : Int32) ki_1 dX6_tell_44 ?_
      refine ok_iadd hE dX6_tell_45 ?_
      refine ok_iaload hE hp1 dX6_tell_46 ?_
      exact ok_ireturnP hE dX6_tell_47
    · refine ok_ite (fun hc3 => ?_) (fun hc3 => ?_)
      · refine ok_tableIn hE (off := 47) (2 : Int32) 48 hc3 dX6_tell_1 (by decide) rfl ?_
        refine ok_aload_n hE 0 rfl dX6_tell_48 ?_
        refine ok_iload_n hE 1 rfl dX6_tell_49 ?_
        refine ok_iconst hE (2 : Int32) ki_2 dX6_tell_50 ?_
        refine ok_iadd hE dX6_tell_51 ?_
        refine ok_iaload hE hp1 dX6_tell_52 ?_
        exact ok_ireturnP hE dX6_tell_53
      · refine ok_ite (fun hc4 => ?_) (fun hc4 => ?_)
        · refine ok_tableIn hE (off := 53) (3 : Int32) 54 hc4 dX6_tell_1 (by decide) rfl ?_
          refine ok_aload_n hE 0 rfl dX6_tell_54 ?_
          refine ok_iload_n hE 1 rfl dX6_tell_55 ?_
          refine ok_iconst hE (3 : Int32) ki_3 dX6_tell_56 ?_
          refine ok_iadd hE dX6_tell_57 ?_
          refine ok_iaload hE hp1 dX6_tell_58 ?_
          exact ok_ireturnP hE dX6_tell_59
        · refine ok_ite (fun hc5 => ?_) (fun hc5 => ?_)
          · refine ok_tableIn hE (off := 59) (4 : Int32) 60 hc5 dX6_tell_1 (by decide) rfl ?_
            refine ok_aload_n hE 0 rfl dX6_tell_60 ?_
            refine ok_iload_n hE 1 rfl dX6_tell_61 ?_
            refine ok_iconst hE (4 : Int32) ki_4 dX6_tell_62 ?_
            refine ok_iadd hE dX6_tell_63 ?_
            refine ok_iaload hE hp1 dX6_tell_64 ?_
            refine ok_iconst hE (-1 : Int32) ki_m1 dX6_tell_65 ?_
            refine ok_icmp_ne hE 73 rfl dX6_tell_66 ?_ ?_
            · refine ok_iconst hE (0 : Int32) ki_0 dX6_tell_73 ?_
              exact ok_ireturnP hE dX6_tell_74
            · refine ok_iconst hE (1 : Int32) ki_1 dX6_tell_69 ?_
              refine ok_goto hE 74 rfl dX6_tell_70 ?_
              exact ok_ireturnP hE dX6_tell_74
          · refine ok_tableOut hE 75 (by have e0 := lv_neT hc1 (a := 0) rfl; have e1 := lv_neT hc2 (a := 1) rfl; have e2 := lv_neT hc3 (a := 2) rfl; have e3 := lv_neT hc4 (a := 3) rfl; have e4 := lv_neT hc5 (a := 4) rfl; omega) dX6_tell_1 rfl ?_
            refine ok_iconst hE (-1 : Int32) ki_m1 dX6_tell_75 ?_
            exact ok_ireturnP hE dX6_tell_76
theorem mC_RTell {l : Launch} {Y : Sys} {t : Nat} (hY : SysOk Y t shC) (p1 : Nat) (n1 : Nat) (p2 : Int32) (p3 : Int32) (hp1 : shC p1 = (1, 0, n1, [])) (M : Mm) (r : Int32) (h : C_RTell p1 n1 p2 p3 M = some r) : Cm l Y t yX6_tell (WS yX6_tell cX6_tell 3 (some .int)) rmC_RTell [.ref (Y.ad p1), .int p2, .int p3] M ((some (.int r), M)) := by
  refine cm_of (own := RX6) hY rfl rfl (Nat.le_of_ble_eq_true rfl) (fun E hE e1 e2 e3 e4 => ?_)
  subst e1
  exact tC_RTell E hE p1 n1 p2 p3 hp1 M r h e4.symm
def C_NAreRows (p2 : Int32) (M : Mm) : Option Int32 :=
 if (gI M 19 1) < (2 : Int32) then
 (some (0 : Int32))
 else
 (if (32 : Int32) < (gI M 19 1) then
 (some (0 : Int32))
 else
 (if ((gI M 19 1) - (gI M 19 1) / (2 : Int32) * (2 : Int32)) = 0 then
 (lett (0 : Int32) fun v1 =>
 loopR (fun (rec30 : Int32 → Option Int32) (x2 : Int32) =>
 if (gI M 19 1) ≤ x2 then
 (some (1 : Int32))
 else
 (bnd (C_TByteAt x2 M) fun r3 =>
 lett r3 fun v4 =>
 bnd (C_TByteAt (x2 + (1 : Int32)) M) fun r5 =>
 lett r5 fun v6 =>
 if v4 < (1 : Int32) then
 (some (0 : Int32))
 else
 (if (60 : Int32) < v4 then
 (some (0 : Int32))
 else
 (lett (fun (_ : Unit) =>
 lett (x2 + (2 : Int32)) fun v7 =>
 rec30 v7) fun j79 =>
 if v6 < p2 then
 (j79 ())
 else
 (if v6 = (6 : Int32) then
 (j79 ())
 else
 (some (0 : Int32))))))) 1000000 v1)
 else
 (some (0 : Int32))))
abbrev rmC_NAreRows : Room := { frames := 1, cells := 0, slots := 0, locals := 21 }
set_option maxHeartbeats 4000000 in
set_option maxRecDepth 100000 in
theorem tC_NAreRows (E : Cx) (hE : CxOk E cX7_areRows RX7 shC (some .boolean) rmC_NAreRows 5) (p2 : Int32)  (M : Mm) : Ok E 0 [(0, .ref (E.Y.ad 19)), (1, .int p2)] [] M (C_NAreRows p2 M) (KIp E M) := by
  unfold C_NAreRows
  refine ok_aload_n hE 0 rfl dX7_areRows_0 ?_
  refine ok_getI hE fl_X7_26 shC_19 rfl dX7_areRows_1 ?_
  refine ok_iconst hE (2 : Int32) ki_2 dX7_areRows_4 ?_
  refine ok_icmp_lt hE 26 rfl dX7_areRows_5 ?_ ?_
  · refine ok_iconst hE (0 : Int32) ki_0 dX7_areRows_26 ?_
    exact ok_zreturnP hE (Or.inl rfl) dX7_areRows_27
  · refine ok_aload_n hE 0 rfl dX7_areRows_8 ?_
    refine ok_getI hE fl_X7_26 shC_19 rfl dX7_areRows_9 ?_
    refine ok_bipush hE (32 : Int32) kb_32 dX7_areRows_12 ?_
    refine ok_icmp_gt hE 26 rfl dX7_areRows_14 ?_ ?_
    · refine ok_iconst hE (0 : Int32) ki_0 dX7_areRows_26 ?_
      exact ok_zreturnP hE (Or.inl rfl) dX7_areRows_27
    · refine ok_aload_n hE 0 rfl dX7_areRows_17 ?_
      refine ok_getI hE fl_X7_26 shC_19 rfl dX7_areRows_18 ?_
      refine ok_iconst hE (2 : Int32) ki_2 dX7_areRows_21 ?_
      refine ok_iremC hE (by decide) dX7_areRows_22 ?_
      refine ok_if_eq hE 28 rfl dX7_areRows_23 ?_ ?_
      · refine ok_iconst hE (0 : Int32) ki_0 dX7_areRows_28 ?_
        refine ok_istore_n hE (fun v1 => [(2, .int v1), (0, .ref (E.Y.ad 19)), (1, .int p2)]) (fun _ => rfl) rfl dX7_areRows_29 (fun v1 => ?_)
        refine ok_sub [1, 2, 0] rfl (ok_loop (σ := Int32) 30 (fun x2 => [(0, .ref (E.Y.ad 19)), (1, .int p2), (2, .int x2)]) (fun x2 => M) (fun rec30 hrec30 x2 => ?_) 1000000 v1)
        refine ok_iload_n hE 2 rfl dX7_areRows_30 ?_
        refine ok_aload_n hE 0 rfl dX7_areRows_31 ?_
        refine ok_getI hE fl_X7_26 shC_19 rfl dX7_areRows_32 ?_
        refine ok_icmp_ge hE 85 rfl dX7_areRows_35 ?_ ?_
        · refine ok_iconst hE (1 : Int32) ki_1 dX7_areRows_85 ?_
          exact ok_zreturnP hE (Or.inr rfl) dX7_areRows_86
        · refine ok_aload_n hE 0 rfl dX7_areRows_38 ?_
          refine ok_iload_n hE 2 rfl dX7_areRows_39 ?_
          refine ok_cvIp hE rmC_TByteAt [.int x2] [] rfl ca_X7_31 shC_19 rfl (fun _ hx => mC_TByteAt hE.sys _  _ _ hx) ⟨rfl, rfl, rfl, rfl⟩ rfl rfl dX7_areRows_40 (fun r3 => ?_)
          refine ok_istore_n hE (fun v4 => [(3, .int v4), (0, .ref (E.Y.ad 19)), (1, .int p2), (2, .int x2)]) (fun _ => rfl) rfl dX7_areRows_43 (fun v4 => ?_)
          refine ok_aload_n hE 1 rfl dX7_areRows_44 ?_
          refine ok_iload_n hE 3 rfl dX7_areRows_45 ?_
          refine ok_iconst hE (1 : Int32) ki_1 dX7_areRows_46 ?_
          refine ok_iadd hE dX7_areRows_47 ?_
          refine ok_cvIp hE rmC_TByteAt [.int (x2 + (1 : Int32))] [] rfl ca_X7_31 shC_19 rfl (fun _ hx => mC_TByteAt hE.sys _  _ _ hx) ⟨rfl, rfl, rfl, rfl⟩ rfl rfl dX7_areRows_48 (fun r5 => ?_)
          refine ok_istore hE (fun v6 => [(4, .int v6), (3, .int v4), (0, .ref (E.Y.ad 19)), (1, .int p2), (2, .int x2)]) (fun _ => rfl) rfl dX7_areRows_51 (fun v6 => ?_)
          refine ok_iload_n hE 1 rfl dX7_areRows_53 ?_
          refine ok_iconst hE (1 : Int32) ki_1 dX7_areRows_54 ?_
          refine ok_icmp_lt hE 77 rfl dX7_areRows_55 ?_ ?_
          · refine ok_iconst hE (0 : Int32) ki_0 dX7_areRows_77 ?_
            exact ok_zreturnP hE (Or.inl rfl) dX7_areRows_78
          · refine ok_iload_n hE 1 rfl dX7_areRows_58 ?_
            refine ok_bipush hE (60 : Int32) kb_60 dX7_areRows_59 ?_
            refine ok_icmp_gt hE 77 rfl dX7_areRows_61 ?_ ?_
            · refine ok_iconst hE (0 : Int32) ki_0 dX7_areRows_77 ?_
              exact ok_zreturnP hE (Or.inl rfl) dX7_areRows_78
            · refine ok_iload hE 0 rfl dX7_areRows_64 ?_
              refine ok_iload_n hE 3 rfl dX7_areRows_66 ?_
              refine ok_fun (fun j => ∀ (_ : Unit), Ok E 79 [(0, .ref (E.Y.ad 19)), (1, .int p2), (2, .int x2)] [] M (j ()) (KIp E M)) (fun _ => ?_) (fun j79 hj79 => ?_)
              · refine ok_iinc hE 2 (x2 + (2 : Int32)) (by rw [ko_2]) (fun v7 => [(2, .int v7), (0, .ref (E.Y.ad 19)), (1, .int p2)]) rfl (fun _ => rfl) rfl dX7_areRows_79 (fun v7 => ?_)
                refine ok_goto hE 30 rfl dX7_areRows_82 ?_
                exact ok_sub [1, 2, 0] rfl (hrec30 v7)
              refine ok_icmp_lt hE 79 rfl dX7_areRows_67 ?_ ?_
              · exact ok_sub [2, 3, 4] rfl (hj79 ())
              · refine ok_iload hE 0 rfl dX7_areRows_70 ?_
                refine ok_bipush hE (6 : Int32) kb_6 dX7_areRows_72 ?_
                refine ok_icmp_eq hE 79 rfl dX7_areRows_74 ?_ ?_
                · exact ok_sub [2, 3, 4] rfl (hj79 ())
                · refine ok_iconst hE (0 : Int32) ki_0 dX7_areRows_77 ?_
                  exact ok_zreturnP hE (Or.inl rfl) dX7_areRows_78
      · refine ok_iconst hE (0 : Int32) ki_0 dX7_areRows_26 ?_
        exact ok_zreturnP hE (Or.inl rfl) dX7_areRows_27
theorem mC_NAreRows {l : Launch} {Y : Sys} {t : Nat} (hY : SysOk Y t shC) (p2 : Int32)  (M : Mm) (r : Int32) (h : C_NAreRows p2 M = some r) : Cm l Y t yX7_areRows (WS yX7_areRows cX7_areRows 5 (some .boolean)) rmC_NAreRows [.ref (Y.ad 19), .int p2] M ((some (.int r), M)) := by
  refine cm_of (own := RX7) hY rfl rfl (Nat.le_of_ble_eq_true rfl) (fun E hE e1 e2 e3 e4 => ?_)
  subst e1
  exact tC_NAreRows E hE p2  M r h e4.symm
def C_NReadRows (p2 : Int32) (M : Mm) : Option (Int32 × Mm) :=
 bnd (C_NAreRows p2 M) fun r1 =>
 if r1 = 0 then
 (some ((0 : Int32), M))
 else
 (lett (sI M 67 2 ((gI M 19 1) / (2 : Int32))) fun M2 =>
 lett (0 : Int32) fun v3 =>
 loopR (fun (rec22 : (Int32 × Mm) → Option (Int32 × Mm)) (x4 : Int32 × Mm) =>
 if (gI x4.2 67 2) ≤ x4.1 then
 (some ((1 : Int32), x4.2))
 else
 (bnd (C_TByteAt ((2 : Int32) * x4.1) x4.2) fun r5 =>
 ald x4.1 16 (lett (sI x4.2 68 (ix x4.1) r5) fun M6 =>
 bnd (C_TByteAt (((2 : Int32) * x4.1) + (1 : Int32)) M6) fun r7 =>
 ald x4.1 16 (lett (sI M6 69 (ix x4.1) r7) fun M8 =>
 lett (x4.1 + (1 : Int32)) fun v9 =>
 rec22 (v9, M8))))) 1000000 (v3, M2))
abbrev rmC_NReadRows : Room := { frames := 2, cells := 0, slots := 0, locals := 45 }
set_option maxHeartbeats 4000000 in
set_option maxRecDepth 100000 in
theorem tC_NReadRows (E : Cx) (hE : CxOk E cX7_readRows RX7 shC (some .boolean) rmC_NReadRows 4) (p2 : Int32)  (M : Mm) : Ok E 0 [(0, .ref (E.Y.ad 67)), (1, .ref (E.Y.ad 19)), (2, .int p2)] [] M (C_NReadRows p2 M) (KI E) := by
  unfold C_NReadRows
  refine ok_aload_n hE 1 rfl dX7_readRows_0 ?_
  refine ok_iload_n hE 2 rfl dX7_readRows_1 ?_
  refine ok_csIp hE rmC_NAreRows [.ref (E.Y.ad 19), .int p2] [] rfl ca_X7_22 (fun _ hx => mC_NAreRows hE.sys _  _ _ hx) ⟨rfl, rfl, rfl, rfl⟩ rfl rfl dX7_readRows_2 (fun r1 => ?_)
  refine ok_if_ne hE 10 rfl dX7_readRows_5 ?_ ?_
  · refine ok_aload_n hE 0 rfl dX7_readRows_10 ?_
    refine ok_aload_n hE 1 rfl dX7_readRows_11 ?_
    refine ok_getI hE fl_X7_26 shC_19 rfl dX7_readRows_12 ?_
    refine ok_iconst hE (2 : Int32) ki_2 dX7_readRows_15 ?_
    refine ok_idivC hE (by decide) dX7_readRows_16 ?_
    refine ok_putI hE fl_X7_18 shC_67 rfl dX7_readRows_17 (fun M2 => ?_)
    refine ok_iconst hE (0 : Int32) ki_0 dX7_readRows_20 ?_
    refine ok_istore_n hE (fun v3 => [(3, .int v3), (0, .ref (E.Y.ad 67)), (1, .ref (E.Y.ad 19)), (2, .int p2)]) (fun _ => rfl) rfl dX7_readRows_21 (fun v3 => ?_)
    refine ok_sub [1, 2, 0] rfl (ok_loop (σ := Int32 × Mm) 22 (fun x4 => [(0, .ref (E.Y.ad 67)), (1, .ref (E.Y.ad 19)), (3, .int x4.1)]) (fun x4 => x4.2) (fun rec22 hrec22 x4 => ?_) 1000000 (v3, M2))
    refine ok_iload_n hE 2 rfl dX7_readRows_22 ?_
    refine ok_aload_n hE 0 rfl dX7_readRows_23 ?_
    refine ok_getI hE fl_X7_18 shC_67 rfl dX7_readRows_24 ?_
    refine ok_icmp_ge hE 64 rfl dX7_readRows_27 ?_ ?_
    · refine ok_iconst hE (1 : Int32) ki_1 dX7_readRows_64 ?_
      exact ok_zreturn hE (Or.inr rfl) dX7_readRows_65
    · refine ok_aload_n hE 0 rfl dX7_readRows_30 ?_
      refine ok_getC hE fl_X7_11 shC_67 rfl dX7_readRows_31 ?_
      refine ok_iload_n hE 2 rfl dX7_readRows_34 ?_
      refine ok_aload_n hE 1 rfl dX7_readRows_35 ?_
      refine ok_iconst hE (2 : Int32) ki_2 dX7_readRows_36 ?_
      refine ok_iload_n hE 2 rfl dX7_readRows_37 ?_
      refine ok_imul hE dX7_readRows_38 ?_
      refine ok_cvIp hE rmC_TByteAt [.int ((2 : Int32) * x4.1)] [.int x4.1, .ref (E.Y.ad 68)] rfl ca_X7_31 shC_19 rfl (fun _ hx => mC_TByteAt hE.sys _  _ _ hx) ⟨rfl, rfl, rfl, rfl⟩ rfl rfl dX7_readRows_39 (fun r5 => ?_)
      refine ok_iastore hE shC_68 dX7_readRows_42 (fun M6 => ?_)
      refine ok_aload_n hE 0 rfl dX7_readRows_43 ?_
      refine ok_getC hE fl_X7_15 shC_67 rfl dX7_readRows_44 ?_
      refine ok_iload_n hE 2 rfl dX7_readRows_47 ?_
      refine ok_aload_n hE 1 rfl dX7_readRows_48 ?_
      refine ok_iconst hE (2 : Int32) ki_2 dX7_readRows_49 ?_
      refine ok_iload_n hE 2 rfl dX7_readRows_50 ?_
      refine ok_imul hE dX7_readRows_51 ?_
      refine ok_iconst hE (1 : Int32) ki_1 dX7_readRows_52 ?_
      refine ok_iadd hE dX7_readRows_53 ?_
      refine ok_cvIp hE rmC_TByteAt [.int (((2 : Int32) * x4.1) + (1 : Int32))] [.int x4.1, .ref (E.Y.ad 69)] rfl ca_X7_31 shC_19 rfl (fun _ hx => mC_TByteAt hE.sys _  _ _ hx) ⟨rfl, rfl, rfl, rfl⟩ rfl rfl dX7_readRows_54 (fun r7 => ?_)
      refine ok_iastore hE shC_69 dX7_readRows_57 (fun M8 => ?_)
      refine ok_iinc hE 2 (x4.1 + (1 : Int32)) (by rw [ko_1]) (fun v9 => [(3, .int v9), (0, .ref (E.Y.ad 67)), (1, .ref (E.Y.ad 19))]) rfl (fun _ => rfl) rfl dX7_readRows_58 (fun v9 => ?_)
      refine ok_goto hE 22 rfl dX7_readRows_61 ?_
      exact ok_sub [1, 2, 0] rfl (hrec22 (v9, M8))
  · refine ok_iconst hE (0 : Int32) ki_0 dX7_readRows_8 ?_
    exact ok_zreturn hE (Or.inl rfl) dX7_readRows_9
theorem mC_NReadRows {l : Launch} {Y : Sys} {t : Nat} (hY : SysOk Y t shC) (p2 : Int32)  (M : Mm) (r : (Int32 × Mm)) (h : C_NReadRows p2 M = some r) : Cm l Y t yX7_readRows (WS yX7_readRows cX7_readRows 4 (some .boolean)) rmC_NReadRows [.ref (Y.ad 67), .ref (Y.ad 19), .int p2] M (enI r) := by
  refine cm_of (own := RX7) hY rfl rfl (Nat.le_of_ble_eq_true rfl) (fun E hE e1 e2 e3 e4 => ?_)
  subst e1
  exact tC_NReadRows E hE p2  M r h e4.symm
def C_NLastTick  (M : Mm) : Option Int32 :=
 lett (0 : Int32) fun v1 =>
 lett (0 : Int32) fun v2 =>
 loopR (fun (rec4 : (Int32 × Int32) → Option Int32) (x3 : Int32 × Int32) =>
 if (gI M 67 2) ≤ x3.2 then
 (some x3.1)
 else
 (ald x3.2 16 (lett (mmaxI x3.1 (gI M 68 (ix x3.2))) fun v4 =>
 lett (x3.2 + (1 : Int32)) fun v5 =>
 rec4 (v4, v5)))) 1000000 (v1, v2)
abbrev rmC_NLastTick : Room := { frames := 1, cells := 0, slots := 0, locals := 21 }
set_option maxHeartbeats 4000000 in
set_option maxRecDepth 100000 in
theorem tC_NLastTick (E : Cx) (hE : CxOk E cX7_lastTick RX7 shC (some .int) rmC_NLastTick 3)   (M : Mm) : Ok E 0 [(0, .ref (E.Y.ad 67))] [] M (C_NLastTick  M) (KIp E M) := by
  unfold C_NLastTick
  refine ok_iconst hE (0 : Int32) ki_0 dX7_lastTick_0 ?_
  refine ok_istore_n hE (fun v1 => [(1, .int v1), (0, .ref (E.Y.ad 67))]) (fun _ => rfl) rfl dX7_lastTick_1 (fun v1 => ?_)
  refine ok_iconst hE (0 : Int32) ki_0 dX7_lastTick_2 ?_
  refine ok_istore_n hE (fun v2 => [(2, .int v2), (1, .int v1), (0, .ref (E.Y.ad 67))]) (fun _ => rfl) rfl dX7_lastTick_3 (fun v2 => ?_)
  refine ok_sub [2, 1, 0] rfl (ok_loop (σ := Int32 × Int32) 4 (fun x3 => [(0, .ref (E.Y.ad 67)), (1, .int x3.1), (2, .int x3.2)]) (fun x3 => M) (fun rec4 hrec4 x3 => ?_) 1000000 (v1, v2))
  refine ok_iload_n hE 2 rfl dX7_lastTick_4 ?_
  refine ok_aload_n hE 0 rfl dX7_lastTick_5 ?_
  refine ok_getI hE fl_X7_18 shC_67 rfl dX7_lastTick_6 ?_
  refine ok_icmp_ge hE 29 rfl dX7_lastTick_9 ?_ ?_
  · refine ok_iload_n hE 1 rfl dX7_lastTick_29 ?_
    exact ok_ireturnP hE dX7_lastTick_30
  · refine ok_iload_n hE 1 rfl dX7_lastTick_12 ?_
    refine ok_aload_n hE 0 rfl dX7_lastTick_13 ?_
    refine ok_getC hE fl_X7_11 shC_67 rfl dX7_lastTick_14 ?_
    refine ok_iload_n hE 2 rfl dX7_lastTick_17 ?_
    refine ok_iaload hE shC_68 dX7_lastTick_18 ?_
    refine ok_mmax hE mt_X7_35 ⟨rfl, rfl⟩ dX7_lastTick_19 ?_
    refine ok_istore_n hE (fun v4 => [(1, .int v4), (0, .ref (E.Y.ad 67)), (2, .int x3.2)]) (fun _ => rfl) rfl dX7_lastTick_22 (fun v4 => ?_)
    refine ok_iinc hE 2 (x3.2 + (1 : Int32)) (by rw [ko_1]) (fun v5 => [(2, .int v5), (1, .int v4), (0, .ref (E.Y.ad 67))]) rfl (fun _ => rfl) rfl dX7_lastTick_23 (fun v5 => ?_)
    refine ok_goto hE 4 rfl dX7_lastTick_26 ?_
    exact ok_sub [2, 1, 0] rfl (hrec4 (v4, v5))
theorem mC_NLastTick {l : Launch} {Y : Sys} {t : Nat} (hY : SysOk Y t shC)   (M : Mm) (r : Int32) (h : C_NLastTick  M = some r) : Cm l Y t yX7_lastTick (WS yX7_lastTick cX7_lastTick 3 (some .int)) rmC_NLastTick [.ref (Y.ad 67)] M ((some (.int r), M)) := by
  refine cm_of (own := RX7) hY rfl rfl (Nat.le_of_ble_eq_true rfl) (fun E hE e1 e2 e3 e4 => ?_)
  subst e1
  exact tC_NLastTick E hE   M r h e4.symm
def C_NAllows (p1 : Int32) (p2 : Int32) (M : Mm) : Option Int32 :=
 lett (0 : Int32) fun v1 =>
 loopR (fun (rec2 : Int32 → Option Int32) (x2 : Int32) =>
 if (gI M 67 2) ≤ x2 then
 (some (1 : Int32))
 else
 (ald x2 16 (lett (fun (_ : Unit) =>
 lett (x2 + (1 : Int32)) fun v3 =>
 rec2 v3) fun j32 =>
 if (gI M 68 (ix x2)) = p1 then
 (ald x2 16 (if (gI M 69 (ix x2)) = p2 then
 (j32 ())
 else
 (some (0 : Int32))))
 else
 (j32 ())))) 1000000 v1
abbrev rmC_NAllows : Room := { frames := 0, cells := 0, slots := 0, locals := 0 }
set_option maxHeartbeats 4000000 in
set_option maxRecDepth 100000 in
theorem tC_NAllows (E : Cx) (hE : CxOk E cX7_allows RX7 shC (some .boolean) rmC_NAllows 4) (p1 : Int32) (p2 : Int32)  (M : Mm) : Ok E 0 [(0, .ref (E.Y.ad 67)), (1, .int p1), (2, .int p2)] [] M (C_NAllows p1 p2 M) (KIp E M) := by
  unfold C_NAllows
  refine ok_iconst hE (0 : Int32) ki_0 dX7_allows_0 ?_
  refine ok_istore_n hE (fun v1 => [(3, .int v1), (0, .ref (E.Y.ad 67)), (1, .int p1), (2, .int p2)]) (fun _ => rfl) rfl dX7_allows_1 (fun v1 => ?_)
  refine ok_sub [1, 2, 3, 0] rfl (ok_loop (σ := Int32) 2 (fun x2 => [(0, .ref (E.Y.ad 67)), (1, .int p1), (2, .int p2), (3, .int x2)]) (fun x2 => M) (fun rec2 hrec2 x2 => ?_) 1000000 v1)
  refine ok_iload_n hE 3 rfl dX7_allows_2 ?_
  refine ok_aload_n hE 0 rfl dX7_allows_3 ?_
  refine ok_getI hE fl_X7_18 shC_67 rfl dX7_allows_4 ?_
  refine ok_icmp_ge hE 38 rfl dX7_allows_7 ?_ ?_
  · refine ok_iconst hE (1 : Int32) ki_1 dX7_allows_38 ?_
    exact ok_zreturnP hE (Or.inr rfl) dX7_allows_39
  · refine ok_aload_n hE 0 rfl dX7_allows_10 ?_
    refine ok_getC hE fl_X7_11 shC_67 rfl dX7_allows_11 ?_
    refine ok_iload_n hE 3 rfl dX7_allows_14 ?_
    refine ok_iaload hE shC_68 dX7_allows_15 ?_
    refine ok_iload_n hE 1 rfl dX7_allows_16 ?_
    refine ok_fun (fun j => ∀ (_ : Unit), Ok E 32 [(0, .ref (E.Y.ad 67)), (1, .int p1), (2, .int p2), (3, .int x2)] [] M (j ()) (KIp E M)) (fun _ => ?_) (fun j32 hj32 => ?_)
    · refine ok_iinc hE 3 (x2 + (1 : Int32)) (by rw [ko_1]) (fun v3 => [(3, .int v3), (0, .ref (E.Y.ad 67)), (1, .int p1), (2, .int p2)]) rfl (fun _ => rfl) rfl dX7_allows_32 (fun v3 => ?_)
      refine ok_goto hE 2 rfl dX7_allows_35 ?_
      exact ok_sub [1, 2, 3, 0] rfl (hrec2 v3)
    refine ok_icmp_ne hE 32 rfl dX7_allows_17 ?_ ?_
    · exact ok_sub [0, 1, 2, 3] rfl (hj32 ())
    · refine ok_aload_n hE 0 rfl dX7_allows_20 ?_
      refine ok_getC hE fl_X7_15 shC_67 rfl dX7_allows_21 ?_
      refine ok_iload_n hE 3 rfl dX7_allows_24 ?_
      refine ok_iaload hE shC_69 dX7_allows_25 ?_
      refine ok_iload_n hE 2 rfl dX7_allows_26 ?_
      refine ok_icmp_eq hE 32 rfl dX7_allows_27 ?_ ?_
      · exact ok_sub [0, 1, 2, 3] rfl (hj32 ())
      · refine ok_iconst hE (0 : Int32) ki_0 dX7_allows_30 ?_
        exact ok_zreturnP hE (Or.inl rfl) dX7_allows_31
theorem mC_NAllows {l : Launch} {Y : Sys} {t : Nat} (hY : SysOk Y t shC) (p1 : Int32) (p2 : Int32)  (M : Mm) (r : Int32) (h : C_NAllows p1 p2 M = some r) : Cm l Y t yX7_allows (WS yX7_allows cX7_allows 4 (some .boolean)) rmC_NAllows [.ref (Y.ad 67), .int p1, .int p2] M ((some (.int r), M)) := by
  refine cm_of (own := RX7) hY rfl rfl (Nat.le_of_ble_eq_true rfl) (fun E hE e1 e2 e3 e4 => ?_)
  subst e1
  exact tC_NAllows E hE p1 p2  M r h e4.symm
def C_TAddNumber (p1 : Int32) (M : Mm) : Option Mm :=
 lett (24 : Int32) fun v1 =>
 loopR (fun (rec3 : (Int32 × Mm) → Option Mm) (x2 : Int32 × Mm) =>
 if x2.1 < 0 then
 (some x2.2)
 else
 (lett (fun (M_2 : Mm) =>
 lett (x2.1 + (-8 : Int32)) fun v4 =>
 rec3 (v4, M_2)) fun j43 =>
 if (1600 : Int32) ≤ (gI x2.2 19 1) then
 (j43 x2.2)
 else
 (ald (gI x2.2 19 1) 1600 (lett (sI x2.2 20 (ix (gI x2.2 19 1)) (((p1.toUInt32 >>> (x2.1.toUInt32 &&& Int32.toUInt32 31)).toInt32) &&& (255 : Int32))) fun M5 =>
 lett (sI M5 19 1 ((gI M5 19 1) + (1 : Int32))) fun M6 =>
 j43 M6)))) 1000000 (v1, M)
abbrev rmC_TAddNumber : Room := { frames := 0, cells := 0, slots := 0, locals := 0 }
set_option maxHeartbeats 4000000 in
set_option maxRecDepth 100000 in
theorem tC_TAddNumber (E : Cx) (hE : CxOk E cX9_addNumber RX9 shC none rmC_TAddNumber 3) (p1 : Int32)  (M : Mm) : Ok E 0 [(0, .ref (E.Y.ad 19)), (1, .int p1)] [] M (C_TAddNumber p1 M) (KV E) := by
  unfold C_TAddNumber
  refine ok_bipush hE (24 : Int32) kb_24 dX9_addNumber_0 ?_
  refine ok_istore_n hE (fun v1 => [(2, .int v1), (0, .ref (E.Y.ad 19)), (1, .int p1)]) (fun _ => rfl) rfl dX9_addNumber_2 (fun v1 => ?_)
  refine ok_sub [1, 2, 0] rfl (ok_loop (σ := Int32 × Mm) 3 (fun x2 => [(0, .ref (E.Y.ad 19)), (1, .int p1), (2, .int x2.1)]) (fun x2 => x2.2) (fun rec3 hrec3 x2 => ?_) 1000000 (v1, M))
  refine ok_iload_n hE 2 rfl dX9_addNumber_3 ?_
  refine ok_if_lt hE 49 rfl dX9_addNumber_4 ?_ ?_
  · exact ok_return hE dX9_addNumber_49
  · refine ok_aload_n hE 0 rfl dX9_addNumber_7 ?_
    refine ok_getI hE fl_X9_15 shC_19 rfl dX9_addNumber_8 ?_
    refine ok_sipush hE (1600 : Int32) ks_1600 dX9_addNumber_11 ?_
    refine ok_fun (fun j => ∀ (M_2 : Mm), Ok E 43 [(0, .ref (E.Y.ad 19)), (1, .int p1), (2, .int x2.1)] [] M_2 (j M_2) (KV E)) (fun M_2 => ?_) (fun j43 hj43 => ?_)
    · refine ok_iinc hE 2 (x2.1 + (-8 : Int32)) (by rw [ko_m8]) (fun v4 => [(2, .int v4), (0, .ref (E.Y.ad 19)), (1, .int p1)]) rfl (fun _ => rfl) rfl dX9_addNumber_43 (fun v4 => ?_)
      refine ok_goto hE 3 rfl dX9_addNumber_46 ?_
      exact ok_sub [1, 2, 0] rfl (hrec3 (v4, M_2))
    refine ok_icmp_ge hE 43 rfl dX9_addNumber_14 ?_ ?_
    · exact ok_sub [0, 1, 2] rfl (hj43 x2.2)
    · refine ok_aload_n hE 0 rfl dX9_addNumber_17 ?_
      refine ok_getC hE fl_X9_9 shC_19 rfl dX9_addNumber_18 ?_
      refine ok_aload_n hE 0 rfl dX9_addNumber_21 ?_
      refine ok_getI hE fl_X9_15 shC_19 rfl dX9_addNumber_22 ?_
      refine ok_iload_n hE 1 rfl dX9_addNumber_25 ?_
      refine ok_iload_n hE 2 rfl dX9_addNumber_26 ?_
      refine ok_iushr hE dX9_addNumber_27 ?_
      refine ok_sipush hE (255 : Int32) ks_255 dX9_addNumber_28 ?_
      refine ok_iand hE dX9_addNumber_31 ?_
      refine ok_iastore hE shC_20 dX9_addNumber_32 (fun M5 => ?_)
      refine ok_aload_n hE 0 rfl dX9_addNumber_33 ?_
      refine ok_dup hE rfl dX9_addNumber_34 ?_
      refine ok_getI hE fl_X9_15 shC_19 rfl dX9_addNumber_35 ?_
      refine ok_iconst hE (1 : Int32) ki_1 dX9_addNumber_38 ?_
      refine ok_iadd hE dX9_addNumber_39 ?_
      refine ok_putI hE fl_X9_15 shC_19 rfl dX9_addNumber_40 (fun M6 => ?_)
      exact ok_sub [0, 1, 2] rfl (hj43 M6)
theorem mC_TAddNumber {l : Launch} {Y : Sys} {t : Nat} (hY : SysOk Y t shC) (p1 : Int32)  (M : Mm) (r : Mm) (h : C_TAddNumber p1 M = some r) : Cm l Y t yX9_addNumber (WS yX9_addNumber cX9_addNumber 3 none) rmC_TAddNumber [.ref (Y.ad 19), .int p1] M (enV r) := by
  refine cm_of (own := RX9) hY rfl rfl (Nat.le_of_ble_eq_true rfl) (fun E hE e1 e2 e3 e4 => ?_)
  subst e1
  exact tC_TAddNumber E hE p1  M r h e4.symm
def C_refuse (p1 : Int32) (M : Mm) : Option (Int32 × Mm) :=
 ald p1 6 (ald p1 6 (lett (sI M 72 (ix p1) ((gI M 72 (ix p1)) + (1 : Int32))) fun M1 =>
 some ((-1 : Int32), M1)))
abbrev rmC_refuse : Room := { frames := 0, cells := 0, slots := 0, locals := 0 }
set_option maxHeartbeats 4000000 in
set_option maxRecDepth 100000 in
theorem tC_refuse (E : Cx) (hE : CxOk E cX11_refuse RX11 shC (some .int) rmC_refuse 2) (p1 : Int32)  (M : Mm) : Ok E 0 [(0, .ref (E.Y.ad 0)), (1, .int p1)] [] M (C_refuse p1 M) (KI E) := by
  unfold C_refuse
  refine ok_aload_n hE 0 rfl dX11_refuse_0 ?_
  refine ok_getA hE fl_X11_72 shC_0 rfl dX11_refuse_1 ?_
  refine ok_iload_n hE 1 rfl dX11_refuse_4 ?_
  refine ok_dup2 hE rfl rfl dX11_refuse_5 ?_
  refine ok_iaload hE shC_72 dX11_refuse_6 ?_
  refine ok_iconst hE (1 : Int32) ki_1 dX11_refuse_7 ?_
  refine ok_iadd hE dX11_refuse_8 ?_
  refine ok_iastore hE shC_72 dX11_refuse_9 (fun M1 => ?_)
  refine ok_iconst hE (-1 : Int32) ki_m1 dX11_refuse_10 ?_
  exact ok_ireturn hE dX11_refuse_11
theorem mC_refuse {l : Launch} {Y : Sys} {t : Nat} (hY : SysOk Y t shC) (p1 : Int32)  (M : Mm) (r : (Int32 × Mm)) (h : C_refuse p1 M = some r) : Cm l Y t yX11_refuse (WS yX11_refuse cX11_refuse 2 (some .int)) rmC_refuse [.ref (Y.ad 0), .int p1] M (enI r) := by
  refine cm_of (own := RX11) hY rfl rfl (Nat.le_of_ble_eq_true rfl) (fun E hE e1 e2 e3 e4 => ?_)
  subst e1
  exact tC_refuse E hE p1  M r h e4.symm
def C_feed (p1 : Int32) (p2 : Int32) (p3 : Int32) (p4 : Int32) (p5 : Int32) (M : Mm) : Option (Int32 × Mm) :=
 if ((gI M 19 1) + (20 : Int32)) ≤ (1600 : Int32) then
 (bnd (C_TAddNumber p1 M) fun M1 =>
 bnd (C_TAddNumber p2 M1) fun M2 =>
 bnd (C_TAddNumber p3 M2) fun M3 =>
 bnd (C_TAddNumber p4 M3) fun M4 =>
 bnd (C_TAddNumber p5 M4) fun M5 =>
 some ((gI M5 19 1), M5))
 else
 (bnd (C_refuse (0 : Int32) M) fun r6 =>
 some (r6.1, r6.2))
abbrev rmC_feed : Room := { frames := 1, cells := 0, slots := 0, locals := 22 }
set_option maxHeartbeats 4000000 in
set_option maxRecDepth 100000 in
theorem tC_feed (E : Cx) (hE : CxOk E cX11_feed RX11 shC (some .int) rmC_feed 6) (p1 : Int32) (p2 : Int32) (p3 : Int32) (p4 : Int32) (p5 : Int32)  (M : Mm) : Ok E 0 [(0, .ref (E.Y.ad 0)), (1, .int p1), (2, .int p2), (3, .int p3), (4, .int p4), (5, .int p5)] [] M (C_feed p1 p2 p3 p4 p5 M) (KI E) := by
  unfold C_feed
  refine ok_aload_n hE 0 rfl dX11_feed_0 ?_
  refine ok_getA hE fl_X11_22 shC_0 rfl dX11_feed_1 ?_
  refine ok_getI hE fl_X11_89 shC_19 rfl dX11_feed_4 ?_
  refine ok_bipush hE (20 : Int32) kb_20 dX11_feed_7 ?_
  refine ok_iadd hE dX11_feed_9 ?_
  refine ok_sipush hE (1600 : Int32) ks_1600 dX11_feed_10 ?_
  refine ok_icmp_le hE 22 rfl dX11_feed_13 ?_ ?_
  · refine ok_aload_n hE 0 rfl dX11_feed_22 ?_
    refine ok_getA hE fl_X11_22 shC_0 rfl dX11_feed_23 ?_
    refine ok_iload_n hE 1 rfl dX11_feed_26 ?_
    refine ok_cvV hE rmC_TAddNumber [.int p1] [] rfl ca_X11_96 shC_19 rfl (fun _ hx => mC_TAddNumber hE.sys _  _ _ hx) ⟨rfl, rfl, rfl, rfl⟩ rfl rfl dX11_feed_27 (fun M1 => ?_)
    refine ok_aload_n hE 0 rfl dX11_feed_30 ?_
    refine ok_getA hE fl_X11_22 shC_0 rfl dX11_feed_31 ?_
    refine ok_iload_n hE 2 rfl dX11_feed_34 ?_
    refine ok_cvV hE rmC_TAddNumber [.int p2] [] rfl ca_X11_96 shC_19 rfl (fun _ hx => mC_TAddNumber hE.sys _  _ _ hx) ⟨rfl, rfl, rfl, rfl⟩ rfl rfl dX11_feed_35 (fun M2 => ?_)
    refine ok_aload_n hE 0 rfl dX11_feed_38 ?_
    refine ok_getA hE fl_X11_22 shC_0 rfl dX11_feed_39 ?_
    refine ok_iload_n hE 3 rfl dX11_feed_42 ?_
    refine ok_cvV hE rmC_TAddNumber [.int p3] [] rfl ca_X11_96 shC_19 rfl (fun _ hx => mC_TAddNumber hE.sys _  _ _ hx) ⟨rfl, rfl, rfl, rfl⟩ rfl rfl dX11_feed_43 (fun M3 => ?_)
    refine ok_aload_n hE 0 rfl dX11_feed_46 ?_
    refine ok_getA hE fl_X11_22 shC_0 rfl dX11_feed_47 ?_
    refine ok_iload hE 4 rfl dX11_feed_50 ?_
    refine ok_cvV hE rmC_TAddNumber [.int p4] [] rfl ca_X11_96 shC_19 rfl (fun _ hx => mC_TAddNumber hE.sys _  _ _ hx) ⟨rfl, rfl, rfl, rfl⟩ rfl rfl dX11_feed_52 (fun M4 => ?_)
    refine ok_aload_n hE 0 rfl dX11_feed_55 ?_
    refine ok_getA hE fl_X11_22 shC_0 rfl dX11_feed_56 ?_
    refine ok_iload hE 5 rfl dX11_feed_59 ?_
    refine ok_cvV hE rmC_TAddNumber [.int p5] [] rfl ca_X11_96 shC_19 rfl (fun _ hx => mC_TAddNumber hE.sys _  _ _ hx) ⟨rfl, rfl, rfl, rfl⟩ rfl rfl dX11_feed_61 (fun M5 => ?_)
    refine ok_aload_n hE 0 rfl dX11_feed_64 ?_
    refine ok_getA hE fl_X11_22 shC_0 rfl dX11_feed_65 ?_
    refine ok_getI hE fl_X11_89 shC_19 rfl dX11_feed_68 ?_
    exact ok_ireturn hE dX11_feed_71
  · refine ok_aload_n hE 0 rfl dX11_feed_16 ?_
    refine ok_iconst hE (0 : Int32) ki_0 dX11_feed_17 ?_
    refine ok_cvI hE rmC_refuse [.int (0 : Int32)] [] rfl ca_X11_92 shC_0 rfl (fun _ hx => mC_refuse hE.sys _  _ _ hx) ⟨rfl, rfl, rfl, rfl⟩ rfl rfl dX11_feed_18 (fun r6 => ?_)
    exact ok_ireturn hE dX11_feed_21
theorem mC_feed {l : Launch} {Y : Sys} {t : Nat} (hY : SysOk Y t shC) (p1 : Int32) (p2 : Int32) (p3 : Int32) (p4 : Int32) (p5 : Int32)  (M : Mm) (r : (Int32 × Mm)) (h : C_feed p1 p2 p3 p4 p5 M = some r) : Cm l Y t yX11_feed (WS yX11_feed cX11_feed 6 (some .int)) rmC_feed [.ref (Y.ad 0), .int p1, .int p2, .int p3, .int p4, .int p5] M (enI r) := by
  refine cm_of (own := RX11) hY rfl rfl (Nat.le_of_ble_eq_true rfl) (fun E hE e1 e2 e3 e4 => ?_)
  subst e1
  exact tC_feed E hE p1 p2 p3 p4 p5  M r h e4.symm
def C_end (p1 : Int32) (M : Mm) : Option (Int32 × Mm) :=
 lett (fun (_ : Unit) =>
 bnd (C_refuse (0 : Int32) M) fun r1 =>
 some ((0 : Int32), r1.2)) fun j15 =>
 if p1 < 0 then
 (j15 ())
 else
 (if p1 ≤ (gI M 19 1) then
 (lett (sI M 19 1 p1) fun M2 =>
 some ((1 : Int32), M2))
 else
 (j15 ()))
abbrev rmC_end : Room := { frames := 1, cells := 0, slots := 0, locals := 21 }
set_option maxHeartbeats 4000000 in
set_option maxRecDepth 100000 in
theorem tC_end (E : Cx) (hE : CxOk E cX11_end RX11 shC (some .boolean) rmC_end 2) (p1 : Int32)  (M : Mm) : Ok E 0 [(0, .ref (E.Y.ad 0)), (1, .int p1)] [] M (C_end p1 M) (KI E) := by
  unfold C_end
  refine ok_iload_n hE 1 rfl dX11_end_0 ?_
  refine ok_fun (fun j => ∀ (_ : Unit), Ok E 15 [(0, .ref (E.Y.ad 0))] [] M (j ()) (KI E)) (fun _ => ?_) (fun j15 hj15 => ?_)
  · refine ok_aload_n hE 0 rfl dX11_end_15 ?_
    refine ok_iconst hE (0 : Int32) ki_0 dX11_end_16 ?_
    refine ok_cvI hE rmC_refuse [.int (0 : Int32)] [] rfl ca_X11_92 shC_0 rfl (fun _ hx => mC_refuse hE.sys _  _ _ hx) ⟨rfl, rfl, rfl, rfl⟩ rfl rfl dX11_end_17 (fun r1 => ?_)
    refine ok_pop hE rfl dX11_end_20 ?_
    refine ok_iconst hE (0 : Int32) ki_0 dX11_end_21 ?_
    exact ok_zreturn hE (Or.inl rfl) dX11_end_22
  refine ok_if_lt hE 15 rfl dX11_end_1 ?_ ?_
  · exact ok_sub [0] rfl (hj15 ())
  · refine ok_iload_n hE 1 rfl dX11_end_4 ?_
    refine ok_aload_n hE 0 rfl dX11_end_5 ?_
    refine ok_getA hE fl_X11_22 shC_0 rfl dX11_end_6 ?_
    refine ok_getI hE fl_X11_89 shC_19 rfl dX11_end_9 ?_
    refine ok_icmp_le hE 23 rfl dX11_end_12 ?_ ?_
    · refine ok_aload_n hE 0 rfl dX11_end_23 ?_
      refine ok_getA hE fl_X11_22 shC_0 rfl dX11_end_24 ?_
      refine ok_iload_n hE 1 rfl dX11_end_27 ?_
      refine ok_putI hE fl_X11_89 shC_19 rfl dX11_end_28 (fun M2 => ?_)
      refine ok_iconst hE (1 : Int32) ki_1 dX11_end_31 ?_
      exact ok_zreturn hE (Or.inr rfl) dX11_end_32
    · exact ok_sub [0] rfl (hj15 ())
theorem mC_end {l : Launch} {Y : Sys} {t : Nat} (hY : SysOk Y t shC) (p1 : Int32)  (M : Mm) (r : (Int32 × Mm)) (h : C_end p1 M = some r) : Cm l Y t yX11_end (WS yX11_end cX11_end 2 (some .boolean)) rmC_end [.ref (Y.ad 0), .int p1] M (enI r) := by
  refine cm_of (own := RX11) hY rfl rfl (Nat.le_of_ble_eq_true rfl) (fun E hE e1 e2 e3 e4 => ?_)
  subst e1
  exact tC_end E hE p1  M r h e4.symm
def C_PClearCounts (th : Nat) (M : Mm) : Option Mm :=
 lett (sI M th 9 (0 : Int32)) fun M1 =>
 lett (sI M1 th 10 (0 : Int32)) fun M2 =>
 lett (sI M2 th 11 (0 : Int32)) fun M3 =>
 lett (sI M3 th 12 (0 : Int32)) fun M4 =>
 lett (sI M4 th 13 (0 : Int32)) fun M5 =>
 some M5
abbrev rmC_PClearCounts : Room := { frames := 0, cells := 0, slots := 0, locals := 0 }
set_option maxHeartbeats 4000000 in
set_option maxRecDepth 100000 in
theorem tC_PClearCounts (E : Cx) (hE : CxOk E cX3_clearCounts RX3 shC none rmC_PClearCounts 1) (th : Nat) (hth : shC th = shCX3) (M : Mm) : Ok E 0 [(0, .ref (E.Y.ad th))] [] M (C_PClearCounts th M) (KV E) := by
  unfold C_PClearCounts
  refine ok_aload_n hE 0 rfl dX3_clearCounts_0 ?_
  refine ok_iconst hE (0 : Int32) ki_0 dX3_clearCounts_1 ?_
  refine ok_putI hE fl_X3_41 hth rfl dX3_clearCounts_2 (fun M1 => ?_)
  refine ok_aload_n hE 0 rfl dX3_clearCounts_5 ?_
  refine ok_iconst hE (0 : Int32) ki_0 dX3_clearCounts_6 ?_
  refine ok_putI hE fl_X3_44 hth rfl dX3_clearCounts_7 (fun M2 => ?_)
  refine ok_aload_n hE 0 rfl dX3_clearCounts_10 ?_
  refine ok_iconst hE (0 : Int32) ki_0 dX3_clearCounts_11 ?_
  refine ok_putI hE fl_X3_47 hth rfl dX3_clearCounts_12 (fun M3 => ?_)
  refine ok_aload_n hE 0 rfl dX3_clearCounts_15 ?_
  refine ok_iconst hE (0 : Int32) ki_0 dX3_clearCounts_16 ?_
  refine ok_putI hE fl_X3_50 hth rfl dX3_clearCounts_17 (fun M4 => ?_)
  refine ok_aload_n hE 0 rfl dX3_clearCounts_20 ?_
  refine ok_iconst hE (0 : Int32) ki_0 dX3_clearCounts_21 ?_
  refine ok_putI hE fl_X3_53 hth rfl dX3_clearCounts_22 (fun M5 => ?_)
  exact ok_return hE dX3_clearCounts_25
theorem mC_PClearCounts {l : Launch} {Y : Sys} {t : Nat} (hY : SysOk Y t shC) (th : Nat) (hth : shC th = shCX3) (M : Mm) (r : Mm) (h : C_PClearCounts th M = some r) : Cm l Y t yX3_clearCounts (WS yX3_clearCounts cX3_clearCounts 1 none) rmC_PClearCounts [.ref (Y.ad th)] M (enV r) := by
  refine cm_of (own := RX3) hY rfl rfl (Nat.le_of_ble_eq_true rfl) (fun E hE e1 e2 e3 e4 => ?_)
  subst e1
  exact tC_PClearCounts E hE th hth M r h e4.symm
def C_PBegin (th : Nat) (p1 : Int32) (p2 : Int32) (p3 : Int32) (M : Mm) : Option Mm :=
 lett (sI M th 0 p2) fun M1 =>
 lett (sI M1 th 1 (1 : Int32)) fun M2 =>
 lett (sI M2 th 2 p3) fun M3 =>
 lett (sI M3 th 3 (0 : Int32)) fun M4 =>
 lett (sI M4 th 4 (0 : Int32)) fun M5 =>
 lett (sI M5 th 5 (0 : Int32)) fun M6 =>
 lett (sI M6 th 6 (0 : Int32)) fun M7 =>
 lett (sI M7 th 7 p1) fun M8 =>
 lett (sI M8 th 8 (0 : Int32)) fun M9 =>
 bnd (C_PClearCounts th M9) fun M10 =>
 some M10
abbrev rmC_PBegin : Room := { frames := 1, cells := 0, slots := 0, locals := 20 }
set_option maxHeartbeats 4000000 in
set_option maxRecDepth 100000 in
theorem tC_PBegin (E : Cx) (hE : CxOk E cX3_begin RX3 shC none rmC_PBegin 4) (th : Nat) (p1 : Int32) (p2 : Int32) (p3 : Int32) (hth : shC th = shCX3) (M : Mm) : Ok E 0 [(0, .ref (E.Y.ad th)), (1, .int p1), (2, .int p2), (3, .int p3)] [] M (C_PBegin th p1 p2 p3 M) (KV E) := by
  unfold C_PBegin
  refine ok_aload_n hE 0 rfl dX3_begin_0 ?_
  refine ok_iload_n hE 2 rfl dX3_begin_1 ?_
  refine ok_putI hE fl_X3_7 hth rfl dX3_begin_2 (fun M1 => ?_)
  refine ok_aload_n hE 0 rfl dX3_begin_5 ?_
  refine ok_iconst hE (1 : Int32) ki_1 dX3_begin_6 ?_
  refine ok_putZ hE (Or.inr rfl) fl_X3_13 hth rfl dX3_begin_7 (fun M2 => ?_)
  refine ok_aload_n hE 0 rfl dX3_begin_10 ?_
  refine ok_iload_n hE 3 rfl dX3_begin_11 ?_
  refine ok_putI hE fl_X3_17 hth rfl dX3_begin_12 (fun M3 => ?_)
  refine ok_aload_n hE 0 rfl dX3_begin_15 ?_
  refine ok_iconst hE (0 : Int32) ki_0 dX3_begin_16 ?_
  refine ok_putZ hE (Or.inl rfl) fl_X3_20 hth rfl dX3_begin_17 (fun M4 => ?_)
  refine ok_aload_n hE 0 rfl dX3_begin_20 ?_
  refine ok_iconst hE (0 : Int32) ki_0 dX3_begin_21 ?_
  refine ok_putI hE fl_X3_23 hth rfl dX3_begin_22 (fun M5 => ?_)
  refine ok_aload_n hE 0 rfl dX3_begin_25 ?_
  refine ok_iconst hE (0 : Int32) ki_0 dX3_begin_26 ?_
  refine ok_putI hE fl_X3_26 hth rfl dX3_begin_27 (fun M6 => ?_)
  refine ok_aload_n hE 0 rfl dX3_begin_30 ?_
  refine ok_iconst hE (0 : Int32) ki_0 dX3_begin_31 ?_
  refine ok_putI hE fl_X3_29 hth rfl dX3_begin_32 (fun M7 => ?_)
  refine ok_aload_n hE 0 rfl dX3_begin_35 ?_
  refine ok_iload_n hE 1 rfl dX3_begin_36 ?_
  refine ok_putI hE fl_X3_32 hth rfl dX3_begin_37 (fun M8 => ?_)
  refine ok_aload_n hE 0 rfl dX3_begin_40 ?_
  refine ok_iconst hE (0 : Int32) ki_0 dX3_begin_41 ?_
  refine ok_putI hE fl_X3_35 hth rfl dX3_begin_42 (fun M9 => ?_)
  refine ok_aload_n hE 0 rfl dX3_begin_45 ?_
  refine ok_cvV hE rmC_PClearCounts [] [] rfl ca_X3_38 hth rfl (fun _ hx => mC_PClearCounts hE.sys _ hth _ _ hx) ⟨rfl, rfl, rfl, rfl⟩ rfl rfl dX3_begin_46 (fun M10 => ?_)
  exact ok_return hE dX3_begin_49
theorem mC_PBegin {l : Launch} {Y : Sys} {t : Nat} (hY : SysOk Y t shC) (th : Nat) (p1 : Int32) (p2 : Int32) (p3 : Int32) (hth : shC th = shCX3) (M : Mm) (r : Mm) (h : C_PBegin th p1 p2 p3 M = some r) : Cm l Y t yX3_begin (WS yX3_begin cX3_begin 4 none) rmC_PBegin [.ref (Y.ad th), .int p1, .int p2, .int p3] M (enV r) := by
  refine cm_of (own := RX3) hY rfl rfl (Nat.le_of_ble_eq_true rfl) (fun E hE e1 e2 e3 e4 => ?_)
  subst e1
  exact tC_PBegin E hE th p1 p2 p3 hth M r h e4.symm
def C_QBegin (th : Nat) (p1 : Int32) (M : Mm) : Option Mm :=
 lett (sF M th 0 FP.fconst0) fun M1 =>
 lett (sF M1 th 1 FP.fconst0) fun M2 =>
 lett (sF M2 th 2 FP.fconst0) fun M3 =>
 lett (sI M3 th 3 p1) fun M4 =>
 lett (sI M4 th 4 (0 : Int32)) fun M5 =>
 lett (sI M5 th 5 (0 : Int32)) fun M6 =>
 lett (sI M6 th 6 (0 : Int32)) fun M7 =>
 lett (sI M7 th 7 (0 : Int32)) fun M8 =>
 lett (sI M8 th 8 (0 : Int32)) fun M9 =>
 some M9
abbrev rmC_QBegin : Room := { frames := 0, cells := 0, slots := 0, locals := 0 }
set_option maxHeartbeats 4000000 in
set_option maxRecDepth 100000 in
theorem tC_QBegin (E : Cx) (hE : CxOk E cX4_begin RX4 shC none rmC_QBegin 2) (th : Nat) (p1 : Int32) (hth : shC th = shCX4) (M : Mm) : Ok E 0 [(0, .ref (E.Y.ad th)), (1, .int p1)] [] M (C_QBegin th p1 M) (KV E) := by
  unfold C_QBegin
  refine ok_aload_n hE 0 rfl dX4_begin_0 ?_
  refine ok_fconst0 hE dX4_begin_1 ?_
  refine ok_putF hE fl_X4_7 hth rfl dX4_begin_2 (fun M1 => ?_)
  refine ok_aload_n hE 0 rfl dX4_begin_5 ?_
  refine ok_fconst0 hE dX4_begin_6 ?_
  refine ok_putF hE fl_X4_13 hth rfl dX4_begin_7 (fun M2 => ?_)
  refine ok_aload_n hE 0 rfl dX4_begin_10 ?_
  refine ok_fconst0 hE dX4_begin_11 ?_
  refine ok_putF hE fl_X4_16 hth rfl dX4_begin_12 (fun M3 => ?_)
  refine ok_aload_n hE 0 rfl dX4_begin_15 ?_
  refine ok_iload_n hE 1 rfl dX4_begin_16 ?_
  refine ok_putI hE fl_X4_19 hth rfl dX4_begin_17 (fun M4 => ?_)
  refine ok_aload_n hE 0 rfl dX4_begin_20 ?_
  refine ok_iconst hE (0 : Int32) ki_0 dX4_begin_21 ?_
  refine ok_putI hE fl_X4_23 hth rfl dX4_begin_22 (fun M5 => ?_)
  refine ok_aload_n hE 0 rfl dX4_begin_25 ?_
  refine ok_iconst hE (0 : Int32) ki_0 dX4_begin_26 ?_
  refine ok_putI hE fl_X4_26 hth rfl dX4_begin_27 (fun M6 => ?_)
  refine ok_aload_n hE 0 rfl dX4_begin_30 ?_
  refine ok_iconst hE (0 : Int32) ki_0 dX4_begin_31 ?_
  refine ok_putI hE fl_X4_29 hth rfl dX4_begin_32 (fun M7 => ?_)
  refine ok_aload_n hE 0 rfl dX4_begin_35 ?_
  refine ok_iconst hE (0 : Int32) ki_0 dX4_begin_36 ?_
  refine ok_putI hE fl_X4_32 hth rfl dX4_begin_37 (fun M8 => ?_)
  refine ok_aload_n hE 0 rfl dX4_begin_40 ?_
  refine ok_iconst hE (0 : Int32) ki_0 dX4_begin_41 ?_
  refine ok_putI hE fl_X4_35 hth rfl dX4_begin_42 (fun M9 => ?_)
  exact ok_return hE dX4_begin_45
theorem mC_QBegin {l : Launch} {Y : Sys} {t : Nat} (hY : SysOk Y t shC) (th : Nat) (p1 : Int32) (hth : shC th = shCX4) (M : Mm) (r : Mm) (h : C_QBegin th p1 M = some r) : Cm l Y t yX4_begin (WS yX4_begin cX4_begin 2 none) rmC_QBegin [.ref (Y.ad th), .int p1] M (enV r) := by
  refine cm_of (own := RX4) hY rfl rfl (Nat.le_of_ble_eq_true rfl) (fun E hE e1 e2 e3 e4 => ?_)
  subst e1
  exact tC_QBegin E hE th p1 hth M r h e4.symm
def C_begin (p1 : Nat) (M : Mm) : Option Mm :=
 lett (sR M 26 0 (some p1)) fun M1 =>
 lett (0 : Int32) fun v2 =>
 lett (fun (M_2 : Mm) =>
 lett (sI M_2 29 1 (0 : Int32)) fun M4 =>
 lett (sI M4 32 1 (0 : Int32)) fun M5 =>
 lett (sI M5 26 6 (0 : Int32)) fun M6 =>
 lett (sI M6 26 7 (0 : Int32)) fun M7 =>
 lett (sF M7 26 8 FP.fconst0) fun M8 =>
 lett (gR M8 26 0) fun y9 =>
 nn y9 fun c10 => grd (shC c10 = shCX2) (lett (sF M8 26 9 (FP.i2f (gI M8 c10 2))) fun M12 =>
 lett (sI M12 26 10 (0 : Int32)) fun M13 =>
 lett (sI M13 26 11 (-1 : Int32)) fun M14 =>
 lett (sI M14 26 12 (0 : Int32)) fun M15 =>
 lett (sI M15 26 13 (0 : Int32)) fun M16 =>
 lett (sI M16 26 14 (0 : Int32)) fun M17 =>
 lett (gR M17 26 0) fun y18 =>
 nn y18 fun c19 => grd (shC c19 = shCX2) (lett (sI M17 26 15 (gI M17 c19 4)) fun M21 =>
 lett (gR M21 26 0) fun y22 =>
 nn y22 fun c23 => grd (shC c23 = shCX2) (lett (sI M21 26 16 (gI M21 c23 5)) fun M25 =>
 lett (gR M25 26 0) fun y26 =>
 nn y26 fun c27 => grd (shC c27 = shCX2) (lett (sI M25 26 17 (gI M25 c27 6)) fun M29 =>
 lett (sI M29 26 18 (0 : Int32)) fun M30 =>
 lett (sI M30 26 19 (0 : Int32)) fun M31 =>
 some M31))))) fun j73 =>
 loopR (fun (rec7 : (Int32 × Mm) → Option Mm) (x32 : Int32 × Mm) =>
 if (6 : Int32) ≤ x32.1 then
 (j73 x32.2)
 else
 (ald x32.1 6 (lett (gR x32.2 26 0) fun y34 =>
 nn y34 fun c35 => grd (shC c35 = shCX2) (ald x32.1 6 (lett (gR x32.2 26 0) fun y37 =>
 nn y37 fun c38 => grd (shC c38 = shCX2) (ald x32.1 6 (bnd (C_PBegin (34 + 2 * ix x32.1) x32.1 (gI x32.2 (c35 + 3) (ix x32.1)) (gI x32.2 (c38 + 4) (ix x32.1)) x32.2) fun M40 =>
 ald x32.1 6 (lett (gR M40 26 0) fun y42 =>
 nn y42 fun c43 => grd (shC c43 = shCX2) (lett (gR M40 26 0) fun y45 =>
 nn y45 fun c46 => grd (shC c46 = shCX2) (bnd (C_QBegin (35 + 2 * ix x32.1) (((gI M40 c43 3) + (gI M40 c46 4)) / (2 : Int32)) M40) fun M48 =>
 lett (x32.1 + (1 : Int32)) fun v49 =>
 rec7 (v49, M48))))))))))) 1000000 (v2, M1)
abbrev rmC_begin : Room := { frames := 2, cells := 0, slots := 0, locals := 43 }
set_option maxHeartbeats 4000000 in
set_option maxRecDepth 100000 in
theorem tC_begin (E : Cx) (hE : CxOk E cX8_begin RX8 shC none rmC_begin 3) (p1 : Nat) (hp1 : shC p1 = shCX2) (M : Mm) : Ok E 0 [(0, .ref (E.Y.ad 26)), (1, .ref (E.Y.ad p1))] [] M (C_begin p1 M) (KV E) := by
  unfold C_begin
  refine ok_aload_n hE 0 rfl dX8_begin_0 ?_
  refine ok_aload_n hE 1 rfl dX8_begin_1 ?_
  refine ok_putR hE fl_X8_85 shC_26 rfl dX8_begin_2 (fun M1 => ?_)
  refine ok_iconst hE (0 : Int32) ki_0 dX8_begin_5 ?_
  refine ok_istore_n hE (fun v2 => [(2, .int v2), (0, .ref (E.Y.ad 26)), (1, .ref (E.Y.ad p1))]) (fun _ => rfl) rfl dX8_begin_6 (fun v2 => ?_)
  refine ok_fun (fun j => ∀ (M_2 : Mm), Ok E 73 [(0, .ref (E.Y.ad 26))] [] M_2 (j M_2) (KV E)) (fun M_2 => ?_) (fun j73 hj73 => ?_)
  · refine ok_aload_n hE 0 rfl dX8_begin_73 ?_
    refine ok_getC hE fl_X8_26 shC_26 rfl dX8_begin_74 ?_
    refine ok_iconst hE (0 : Int32) ki_0 dX8_begin_77 ?_
    refine ok_putI hE fl_X8_112 shC_29 rfl dX8_begin_78 (fun M4 => ?_)
    refine ok_aload_n hE 0 rfl dX8_begin_81 ?_
    refine ok_getC hE fl_X8_37 shC_26 rfl dX8_begin_82 ?_
    refine ok_iconst hE (0 : Int32) ki_0 dX8_begin_85 ?_
    refine ok_putI hE fl_X8_115 shC_32 rfl dX8_begin_86 (fun M5 => ?_)
    refine ok_aload_n hE 0 rfl dX8_begin_89 ?_
    refine ok_iconst hE (0 : Int32) ki_0 dX8_begin_90 ?_
    refine ok_putI hE fl_X8_41 shC_26 rfl dX8_begin_91 (fun M6 => ?_)
    refine ok_aload_n hE 0 rfl dX8_begin_94 ?_
    refine ok_iconst hE (0 : Int32) ki_0 dX8_begin_95 ?_
    refine ok_putI hE fl_X8_45 shC_26 rfl dX8_begin_96 (fun M7 => ?_)
    refine ok_aload_n hE 0 rfl dX8_begin_99 ?_
    refine ok_fconst0 hE dX8_begin_100 ?_
    refine ok_putF hE fl_X8_48 shC_26 rfl dX8_begin_101 (fun M8 => ?_)
    refine ok_aload_n hE 0 rfl dX8_begin_104 ?_
    refine ok_aload_n hE 0 rfl dX8_begin_105 ?_
    refine ok_getRL hE fl_X8_85 shC_26 rfl dX8_begin_106 (fun y9 => ?_)
    rcases y9 with _ | c10
    · exact fun r hr => by cases hr
    dsimp only [nn]
    refine ok_grd (fun hc11 => ?_)
    refine ok_getI hE fl_X8_118 hc11 rfl dX8_begin_109 ?_
    refine ok_i2f hE dX8_begin_112 ?_
    refine ok_putF hE fl_X8_52 shC_26 rfl dX8_begin_113 (fun M12 => ?_)
    refine ok_aload_n hE 0 rfl dX8_begin_116 ?_
    refine ok_iconst hE (0 : Int32) ki_0 dX8_begin_117 ?_
    refine ok_putI hE fl_X8_55 shC_26 rfl dX8_begin_118 (fun M13 => ?_)
    refine ok_aload_n hE 0 rfl dX8_begin_121 ?_
    refine ok_iconst hE (-1 : Int32) ki_m1 dX8_begin_122 ?_
    refine ok_putI hE fl_X8_58 shC_26 rfl dX8_begin_123 (fun M14 => ?_)
    refine ok_aload_n hE 0 rfl dX8_begin_126 ?_
    refine ok_iconst hE (0 : Int32) ki_0 dX8_begin_127 ?_
    refine ok_putI hE fl_X8_61 shC_26 rfl dX8_begin_128 (fun M15 => ?_)
    refine ok_aload_n hE 0 rfl dX8_begin_131 ?_
    refine ok_iconst hE (0 : Int32) ki_0 dX8_begin_132 ?_
    refine ok_putI hE fl_X8_64 shC_26 rfl dX8_begin_133 (fun M16 => ?_)
    refine ok_aload_n hE 0 rfl dX8_begin_136 ?_
    refine ok_iconst hE (0 : Int32) ki_0 dX8_begin_137 ?_
    refine ok_putI hE fl_X8_67 shC_26 rfl dX8_begin_138 (fun M17 => ?_)
    refine ok_aload_n hE 0 rfl dX8_begin_141 ?_
    refine ok_aload_n hE 0 rfl dX8_begin_142 ?_
    refine ok_getRL hE fl_X8_85 shC_26 rfl dX8_begin_143 (fun y18 => ?_)
    rcases y18 with _ | c19
    · exact fun r hr => by cases hr
    dsimp only [nn]
    refine ok_grd (fun hc20 => ?_)
    refine ok_getI hE fl_X8_106 hc20 rfl dX8_begin_146 ?_
    refine ok_putI hE fl_X8_70 shC_26 rfl dX8_begin_149 (fun M21 => ?_)
    refine ok_aload_n hE 0 rfl dX8_begin_152 ?_
    refine ok_aload_n hE 0 rfl dX8_begin_153 ?_
    refine ok_getRL hE fl_X8_85 shC_26 rfl dX8_begin_154 (fun y22 => ?_)
    rcases y22 with _ | c23
    · exact fun r hr => by cases hr
    dsimp only [nn]
    refine ok_grd (fun hc24 => ?_)
    refine ok_getI hE fl_X8_120 hc24 rfl dX8_begin_157 ?_
    refine ok_putI hE fl_X8_73 shC_26 rfl dX8_begin_160 (fun M25 => ?_)
    refine ok_aload_n hE 0 rfl dX8_begin_163 ?_
    refine ok_aload_n hE 0 rfl dX8_begin_164 ?_
    refine ok_getRL hE fl_X8_85 shC_26 rfl dX8_begin_165 (fun y26 => ?_)
    rcases y26 with _ | c27
    · exact fun r hr => by cases hr
    dsimp only [nn]
    refine ok_grd (fun hc28 => ?_)
    refine ok_getI hE fl_X8_121 hc28 rfl dX8_begin_168 ?_
    refine ok_putI hE fl_X8_76 shC_26 rfl dX8_begin_171 (fun M29 => ?_)
    refine ok_aload_n hE 0 rfl dX8_begin_174 ?_
    refine ok_iconst hE (0 : Int32) ki_0 dX8_begin_175 ?_
    refine ok_putI hE fl_X8_79 shC_26 rfl dX8_begin_176 (fun M30 => ?_)
    refine ok_aload_n hE 0 rfl dX8_begin_179 ?_
    refine ok_iconst hE (0 : Int32) ki_0 dX8_begin_180 ?_
    refine ok_putI hE fl_X8_82 shC_26 rfl dX8_begin_181 (fun M31 => ?_)
    exact ok_return hE dX8_begin_184
  refine ok_sub [1, 0] rfl (ok_loop (σ := Int32 × Mm) 7 (fun x32 => [(0, .ref (E.Y.ad 26)), (2, .int x32.1)]) (fun x32 => x32.2) (fun rec7 hrec7 x32 => ?_) 1000000 (v2, M1))
  refine ok_iload_n hE 1 rfl dX8_begin_7 ?_
  refine ok_bipush hE (6 : Int32) kb_6 dX8_begin_8 ?_
  refine ok_icmp_ge hE 73 rfl dX8_begin_10 ?_ ?_
  · exact ok_sub [0] rfl (hj73 x32.2)
  · refine ok_aload_n hE 0 rfl dX8_begin_13 ?_
    refine ok_getC hE fl_X8_11 shC_26 rfl dX8_begin_14 ?_
    refine ok_iload_n hE 1 rfl dX8_begin_17 ?_
    refine ok_aaloadH hE shC_27 rfl dX8_begin_18 (fun hi33 => ?_)
    refine ok_iload_n hE 1 rfl dX8_begin_19 ?_
    refine ok_aload_n hE 0 rfl dX8_begin_20 ?_
    refine ok_getRL hE fl_X8_85 shC_26 rfl dX8_begin_21 (fun y34 => ?_)
    rcases y34 with _ | c35
    · exact fun r hr => by cases hr
    dsimp only [nn]
    refine ok_grd (fun hc36 => ?_)
    refine ok_getC hE fl_X8_91 hc36 rfl dX8_begin_24 ?_
    refine ok_iload_n hE 1 rfl dX8_begin_27 ?_
    refine ok_iaload hE (shC_f_2_14 hc36) dX8_begin_28 ?_
    refine ok_aload_n hE 0 rfl dX8_begin_29 ?_
    refine ok_getRL hE fl_X8_85 shC_26 rfl dX8_begin_30 (fun y37 => ?_)
    rcases y37 with _ | c38
    · exact fun r hr => by cases hr
    dsimp only [nn]
    refine ok_grd (fun hc39 => ?_)
    refine ok_getC hE fl_X8_96 hc39 rfl dX8_begin_33 ?_
    refine ok_iload_n hE 1 rfl dX8_begin_36 ?_
    refine ok_iaload hE (shC_f_2_15 hc39) dX8_begin_37 ?_
    refine ok_cvV hE rmC_PBegin [.int x32.1, .int (gI x32.2 (c35 + 3) (ix x32.1)), .int (gI x32.2 (c38 + 4) (ix x32.1))] [] rfl ca_X8_99 (shC_e_27 hi33) rfl (fun _ hx => mC_PBegin hE.sys _ _ _ _ (shC_e_27 hi33) _ _ hx) ⟨rfl, rfl, rfl, rfl⟩ rfl rfl dX8_begin_38 (fun M40 => ?_)
    refine ok_aload_n hE 0 rfl dX8_begin_41 ?_
    refine ok_getC hE fl_X8_19 shC_26 rfl dX8_begin_42 ?_
    refine ok_iload_n hE 1 rfl dX8_begin_45 ?_
    refine ok_aaloadH hE shC_28 rfl dX8_begin_46 (fun hi41 => ?_)
    refine ok_aload_n hE 0 rfl dX8_begin_47 ?_
    refine ok_getRL hE fl_X8_85 shC_26 rfl dX8_begin_48 (fun y42 => ?_)
    rcases y42 with _ | c43
    · exact fun r hr => by cases hr
    dsimp only [nn]
    refine ok_grd (fun hc44 => ?_)
    refine ok_getI hE fl_X8_103 hc44 rfl dX8_begin_51 ?_
    refine ok_aload_n hE 0 rfl dX8_begin_54 ?_
    refine ok_getRL hE fl_X8_85 shC_26 rfl dX8_begin_55 (fun y45 => ?_)
    rcases y45 with _ | c46
    · exact fun r hr => by cases hr
    dsimp only [nn]
    refine ok_grd (fun hc47 => ?_)
    refine ok_getI hE fl_X8_106 hc47 rfl dX8_begin_58 ?_
    refine ok_iadd hE dX8_begin_61 ?_
    refine ok_iconst hE (2 : Int32) ki_2 dX8_begin_62 ?_
    refine ok_idivC hE (by decide) dX8_begin_63 ?_
    refine ok_cvV hE rmC_QBegin [.int (((gI M40 c43 3) + (gI M40 c46 4)) / (2 : Int32))] [] rfl ca_X8_109 (shC_e_28 hi41) rfl (fun _ hx => mC_QBegin hE.sys _ _ (shC_e_28 hi41) _ _ hx) ⟨rfl, rfl, rfl, rfl⟩ rfl rfl dX8_begin_64 (fun M48 => ?_)
    refine ok_iinc hE 1 (x32.1 + (1 : Int32)) (by rw [ko_1]) (fun v49 => [(2, .int v49), (0, .ref (E.Y.ad 26))]) rfl (fun _ => rfl) rfl dX8_begin_67 (fun v49 => ?_)
    refine ok_goto hE 7 rfl dX8_begin_70 ?_
    exact ok_sub [1, 0] rfl (hrec7 (v49, M48))
theorem mC_begin {l : Launch} {Y : Sys} {t : Nat} (hY : SysOk Y t shC) (p1 : Nat) (hp1 : shC p1 = shCX2) (M : Mm) (r : Mm) (h : C_begin p1 M = some r) : Cm l Y t yX8_begin (WS yX8_begin cX8_begin 3 none) rmC_begin [.ref (Y.ad 26), .ref (Y.ad p1)] M (enV r) := by
  refine cm_of (own := RX8) hY rfl rfl (Nat.le_of_ble_eq_true rfl) (fun E hE e1 e2 e3 e4 => ?_)
  subst e1
  exact tC_begin E hE p1 hp1 M r h e4.symm
def C_disk  (M : Mm) : Option (Int32 × Mm) :=
 lett (gR M 0 1) fun y1 =>
 nn y1 fun c2 => grd (shC c2 = shCX2) (bnd (C_LClear c2 M) fun M4 =>
 lett (gR M4 0 1) fun y5 =>
 nn y5 fun c6 => grd (shC c6 = shCX2) (bnd (C_DReadText c6 M4) fun r8 =>
 lett r8.1 fun v9 =>
 lett (sI r8.2 19 1 (0 : Int32)) fun M10 =>
 lett (sI M10 0 13 (gI M10 21 8)) fun M11 =>
 lett (sI M11 0 14 (gI M11 21 9)) fun M12 =>
 if (gI M12 0 13) = 0 then
 (lett (gR M12 0 0) fun y13 =>
 lett (gR M12 0 1) fun y14 =>
 lett (sR M12 0 0 y14) fun M15 =>
 lett (sR M15 0 1 y13) fun M16 =>
 lett (gR M16 0 0) fun y17 =>
 nn y17 fun c18 => grd (shC c18 = shCX2) (bnd (C_begin c18 M16) fun M20 =>
 lett (sI M20 0 8 (0 : Int32)) fun M21 =>
 lett (sI M21 67 2 (0 : Int32)) fun M22 =>
 some (v9, M22)))
 else
 (bnd (C_refuse (1 : Int32) M12) fun r23 =>
 some (r23.1, r23.2))))
abbrev rmC_disk : Room := { frames := 10, cells := 0, slots := 0, locals := 230 }
set_option maxHeartbeats 4000000 in
set_option maxRecDepth 100000 in
theorem tC_disk (E : Cx) (hE : CxOk E cX11_disk RX11 shC (some .int) rmC_disk 3)   (M : Mm) : Ok E 0 [(0, .ref (E.Y.ad 0))] [] M (C_disk  M) (KI E) := by
  unfold C_disk
  refine ok_aload_n hE 0 rfl dX11_disk_0 ?_
  refine ok_getRL hE fl_X11_16 shC_0 rfl dX11_disk_1 (fun y1 => ?_)
  rcases y1 with _ | c2
  · exact fun r hr => by cases hr
  dsimp only [nn]
  refine ok_grd (fun hc3 => ?_)
  refine ok_cvV hE rmC_LClear [] [] rfl ca_X11_100 hc3 rfl (fun _ hx => mC_LClear hE.sys _ hc3 _ _ hx) ⟨rfl, rfl, rfl, rfl⟩ rfl rfl dX11_disk_4 (fun M4 => ?_)
  refine ok_aload_n hE 0 rfl dX11_disk_7 ?_
  refine ok_getA hE fl_X11_31 shC_0 rfl dX11_disk_8 ?_
  refine ok_aload_n hE 0 rfl dX11_disk_11 ?_
  refine ok_getRL hE fl_X11_16 shC_0 rfl dX11_disk_12 (fun y5 => ?_)
  rcases y5 with _ | c6
  · exact fun r hr => by cases hr
  dsimp only [nn]
  refine ok_grd (fun hc7 => ?_)
  refine ok_cvI hE rmC_DReadText [.ref (E.Y.ad c6)] [] rfl ca_X11_103 shC_21 rfl (fun _ hx => mC_DReadText hE.sys _ hc7 _ _ hx) ⟨rfl, rfl, rfl, rfl⟩ rfl rfl dX11_disk_15 (fun r8 => ?_)
  refine ok_istore_n hE (fun v9 => [(1, .int v9), (0, .ref (E.Y.ad 0))]) (fun _ => rfl) rfl dX11_disk_18 (fun v9 => ?_)
  refine ok_aload_n hE 1 rfl dX11_disk_19 ?_
  refine ok_getA hE fl_X11_22 shC_0 rfl dX11_disk_20 ?_
  refine ok_iconst hE (0 : Int32) ki_0 dX11_disk_23 ?_
  refine ok_putI hE fl_X11_89 shC_19 rfl dX11_disk_24 (fun M10 => ?_)
  refine ok_aload_n hE 1 rfl dX11_disk_27 ?_
  refine ok_aload_n hE 1 rfl dX11_disk_28 ?_
  refine ok_getA hE fl_X11_31 shC_0 rfl dX11_disk_29 ?_
  refine ok_getI hE fl_X11_107 shC_21 rfl dX11_disk_32 ?_
  refine ok_putI hE fl_X11_79 shC_0 rfl dX11_disk_35 (fun M11 => ?_)
  refine ok_aload_n hE 1 rfl dX11_disk_38 ?_
  refine ok_aload_n hE 1 rfl dX11_disk_39 ?_
  refine ok_getA hE fl_X11_31 shC_0 rfl dX11_disk_40 ?_
  refine ok_getI hE fl_X11_110 shC_21 rfl dX11_disk_43 ?_
  refine ok_putI hE fl_X11_82 shC_0 rfl dX11_disk_46 (fun M12 => ?_)
  refine ok_aload_n hE 1 rfl dX11_disk_49 ?_
  refine ok_getI hE fl_X11_79 shC_0 rfl dX11_disk_50 ?_
  refine ok_if_eq hE 62 rfl dX11_disk_53 ?_ ?_
  · refine ok_aload_n hE 1 rfl dX11_disk_62 ?_
    refine ok_getRL hE fl_X11_10 shC_0 rfl dX11_disk_63 (fun y13 => ?_)
    refine ok_astoreq_n hE [(2, va_rf (y13.map E.Y.ad)), (1, .int v9), (0, .ref (E.Y.ad 0))] rfl rfl dX11_disk_66 ?_
    refine ok_aload_n hE 2 rfl dX11_disk_67 ?_
    refine ok_aload_n hE 2 rfl dX11_disk_68 ?_
    refine ok_getRL hE fl_X11_16 shC_0 rfl dX11_disk_69 (fun y14 => ?_)
    refine ok_putRN hE fl_X11_10 shC_0 rfl dX11_disk_72 (fun M15 => ?_)
    refine ok_aload_n hE 2 rfl dX11_disk_75 ?_
    refine ok_aloadq_n hE 0 rfl dX11_disk_76 ?_
    refine ok_putRN hE fl_X11_16 shC_0 rfl dX11_disk_77 (fun M16 => ?_)
    refine ok_aload_n hE 2 rfl dX11_disk_80 ?_
    refine ok_getA hE fl_X11_40 shC_0 rfl dX11_disk_81 ?_
    refine ok_aload_n hE 2 rfl dX11_disk_84 ?_
    refine ok_getRL hE fl_X11_10 shC_0 rfl dX11_disk_85 (fun y17 => ?_)
    rcases y17 with _ | c18
    · exact fun r hr => by cases hr
    dsimp only [nn]
    refine ok_grd (fun hc19 => ?_)
    refine ok_cvV hE rmC_begin [.ref (E.Y.ad c18)] [] rfl ca_X11_113 shC_26 rfl (fun _ hx => mC_begin hE.sys _ hc19 _ _ hx) ⟨rfl, rfl, rfl, rfl⟩ rfl rfl dX11_disk_88 (fun M20 => ?_)
    refine ok_aload_n hE 2 rfl dX11_disk_91 ?_
    refine ok_iconst hE (0 : Int32) ki_0 dX11_disk_92 ?_
    refine ok_putI hE fl_X11_55 shC_0 rfl dX11_disk_93 (fun M21 => ?_)
    refine ok_aload_n hE 2 rfl dX11_disk_96 ?_
    refine ok_getA hE fl_X11_61 shC_0 rfl dX11_disk_97 ?_
    refine ok_iconst hE (0 : Int32) ki_0 dX11_disk_100 ?_
    refine ok_putI hE fl_X11_116 shC_67 rfl dX11_disk_101 (fun M22 => ?_)
    refine ok_iload_n hE 1 rfl dX11_disk_104 ?_
    exact ok_ireturn hE dX11_disk_105
  · refine ok_aload_n hE 1 rfl dX11_disk_56 ?_
    refine ok_iconst hE (1 : Int32) ki_1 dX11_disk_57 ?_
    refine ok_cvI hE rmC_refuse [.int (1 : Int32)] [] rfl ca_X11_92 shC_0 rfl (fun _ hx => mC_refuse hE.sys _  _ _ hx) ⟨rfl, rfl, rfl, rfl⟩ rfl rfl dX11_disk_58 (fun r23 => ?_)
    exact ok_ireturn hE dX11_disk_61
theorem mC_disk {l : Launch} {Y : Sys} {t : Nat} (hY : SysOk Y t shC)   (M : Mm) (r : (Int32 × Mm)) (h : C_disk  M = some r) : Cm l Y t yX11_disk (WS yX11_disk cX11_disk 3 (some .int)) rmC_disk [.ref (Y.ad 0)] M (enI r) := by
  refine cm_of (own := RX11) hY rfl rfl (Nat.le_of_ble_eq_true rfl) (fun E hE e1 e2 e3 e4 => ?_)
  subst e1
  exact tC_disk E hE   M r h e4.symm
def C_fault (p1 : Int32) (M : Mm) : Option Int32 :=
 if p1 = (0 : Int32) then
 (some (gI M 0 13))
 else
 (if p1 = (1 : Int32) then
 (some (gI M 0 14))
 else
 (some (-1 : Int32)))
abbrev rmC_fault : Room := { frames := 0, cells := 0, slots := 0, locals := 0 }
set_option maxHeartbeats 4000000 in
set_option maxRecDepth 100000 in
theorem tC_fault (E : Cx) (hE : CxOk E cX11_fault RX11 shC (some .int) rmC_fault 2) (p1 : Int32)  (M : Mm) : Ok E 0 [(0, .ref (E.Y.ad 0)), (1, .int p1)] [] M (C_fault p1 M) (KIp E M) := by
  unfold C_fault
  refine ok_iload_n hE 1 rfl dX11_fault_0 ?_
  refine ok_ite (fun hc1 => ?_) (fun hc1 => ?_)
  · refine ok_lookup hE (off := 27) 28 dX11_fault_1 (by decide) (by rw [hc1]; decide) rfl ?_
    refine ok_aload_n hE 0 rfl dX11_fault_28 ?_
    refine ok_getI hE fl_X11_79 shC_0 rfl dX11_fault_29 ?_
    exact ok_ireturnP hE dX11_fault_32
  · refine ok_ite (fun hc2 => ?_) (fun hc2 => ?_)
    · refine ok_lookup hE (off := 32) 33 dX11_fault_1 (by decide) (by rw [hc2]; decide) rfl ?_
      refine ok_aload_n hE 0 rfl dX11_fault_33 ?_
      refine ok_getI hE fl_X11_82 shC_0 rfl dX11_fault_34 ?_
      exact ok_ireturnP hE dX11_fault_37
    · refine ok_lookup hE (off := 37) 38 dX11_fault_1 (by decide) (by show Op.lookupswitch.offset ([(0, 27), (1, 32)] : List (Int × Int)) _ _ = _; rw [lv_osw (a := 0) hc1 (by decide), lv_osw (a := 1) hc2 (by decide)]; rfl) rfl ?_
      refine ok_iconst hE (-1 : Int32) ki_m1 dX11_fault_38 ?_
      exact ok_ireturnP hE dX11_fault_39
theorem mC_fault {l : Launch} {Y : Sys} {t : Nat} (hY : SysOk Y t shC) (p1 : Int32)  (M : Mm) (r : Int32) (h : C_fault p1 M = some r) : Cm l Y t yX11_fault (WS yX11_fault cX11_fault 2 (some .int)) rmC_fault [.ref (Y.ad 0), .int p1] M ((some (.int r), M)) := by
  refine cm_of (own := RX11) hY rfl rfl (Nat.le_of_ble_eq_true rfl) (fun E hE e1 e2 e3 e4 => ?_)
  subst e1
  exact tC_fault E hE p1  M r h e4.symm
def C_has (p1 : Int32) (M : Mm) : Option Int32 :=
 lett (fun (w_0 : Int32) =>
 lett w_0 fun v2 =>
 if p1 = (0 : Int32) then
 (lett (gR M 0 0) fun y29 =>
 nn y29 fun c30 => grd (shC c30 = shCX2) (some (gI M c30 0)))
 else
 (if p1 = (1 : Int32) then
 (lett (gR M 0 0) fun y26 =>
 nn y26 fun c27 => grd (shC c27 = shCX2) (some (gI M c27 11)))
 else
 (if p1 = (2 : Int32) then
 (some (gI M 26 10))
 else
 (if p1 = (3 : Int32) then
 (some (gI M 26 7))
 else
 (if p1 = (4 : Int32) then
 (if v2 = 0 then
 (some (gI M 26 11))
 else
 (some (-1 : Int32)))
 else
 (if p1 = (5 : Int32) then
 (some (gI M 26 6))
 else
 (if p1 = (6 : Int32) then
 (if v2 = 0 then
 (some (gI M 26 12))
 else
 (some (-1 : Int32)))
 else
 (if p1 = (7 : Int32) then
 (plnS M 26 fun q23 =>
 bnd (S_isWaiting (sbM (emS 26 q23) M)) fun r22 =>
 if r22 = 0 then
 (some (-1 : Int32))
 else
 (some (gI M 26 14)))
 else
 (if p1 = (8 : Int32) then
 (some (gI M 26 16))
 else
 (if p1 = (9 : Int32) then
 (some (gI M 26 17))
 else
 (if p1 = (10 : Int32) then
 (some (gI M 26 15))
 else
 (if p1 = (11 : Int32) then
 (plnS M 26 fun q19 =>
 bnd (S_KTold (sbM (emS 26 q19) M)) fun r18 =>
 some r18)
 else
 (if p1 = (12 : Int32) then
 (some (gI M 67 2))
 else
 (if p1 = (13 : Int32) then
 (some (gI M 0 8))
 else
 (if p1 = (14 : Int32) then
 (some ((gL M 0 15).toInt32))
 else
 (some (-1 : Int32))))))))))))))))) fun j15 =>
 if 0 ≤ (gI M 26 11) then
 (j15 (0 : Int32))
 else
 (j15 (1 : Int32))
abbrev rmC_has : Room := { frames := 2, cells := 0, slots := 0, locals := 41 }
set_option maxHeartbeats 4000000 in
set_option maxRecDepth 100000 in
theorem tC_has (E : Cx) (hE : CxOk E cX11_has RX11 shC (some .int) rmC_has 3) (p1 : Int32)  (M : Mm) : Ok E 0 [(0, .ref (E.Y.ad 0)), (1, .int p1)] [] M (C_has p1 M) (KIp E M) := by
  unfold C_has
  refine ok_aload_n hE 0 rfl dX11_has_0 ?_
  refine ok_getA hE fl_X11_40 shC_0 rfl dX11_has_1 ?_
  refine ok_getI hE fl_X11_119 shC_26 rfl dX11_has_4 ?_
  refine ok_fun (fun j => ∀ (w_0 : Int32), Ok E 15 [(0, .ref (E.Y.ad 0)), (1, .int p1)] [.int w_0] M (j w_0) (KIp E M)) (fun w_0 => ?_) (fun j15 hj15 => ?_)
  · refine ok_istore_n hE (fun v2 => [(2, .int v2), (0, .ref (E.Y.ad 0)), (1, .int p1)]) (fun _ => rfl) rfl dX11_has_15 (fun v2 => ?_)
    refine ok_iload_n hE 2 rfl dX11_has_16 ?_
    refine ok_ite (fun hc3 => ?_) (fun hc3 => ?_)
    · refine ok_tableIn hE (off := 75) (0 : Int32) 92 hc3 dX11_has_17 (by decide) rfl ?_
      refine ok_aload_n hE 1 rfl dX11_has_92 ?_
      refine ok_getRL hE fl_X11_10 shC_0 rfl dX11_has_93 (fun y29 => ?_)
      rcases y29 with _ | c30
      · exact fun r hr => by cases hr
      dsimp only [nn]
      refine ok_grd (fun hc31 => ?_)
      refine ok_getI hE fl_X11_122 hc31 rfl dX11_has_96 ?_
      exact ok_ireturnP hE dX11_has_99
    · refine ok_ite (fun hc4 => ?_) (fun hc4 => ?_)
      · refine ok_tableIn hE (off := 83) (1 : Int32) 100 hc4 dX11_has_17 (by decide) rfl ?_
        refine ok_aload_n hE 1 rfl dX11_has_100 ?_
        refine ok_getRL hE fl_X11_10 shC_0 rfl dX11_has_101 (fun y26 => ?_)
        rcases y26 with _ | c27
        · exact fun r hr => by cases hr
        dsimp only [nn]
        refine ok_grd (fun hc28 => ?_)
        refine ok_getI hE fl_X11_125 hc28 rfl dX11_has_104 ?_
        exact ok_ireturnP hE dX11_has_107
      · refine ok_ite (fun hc5 => ?_) (fun hc5 => ?_)
        · refine ok_tableIn hE (off := 91) (2 : Int32) 108 hc5 dX11_has_17 (by decide) rfl ?_
          refine ok_aload_n hE 1 rfl dX11_has_108 ?_
          refine ok_getA hE fl_X11_40 shC_0 rfl dX11_has_109 ?_
          refine ok_getI hE fl_X11_126 shC_26 rfl dX11_has_112 ?_
          exact ok_ireturnP hE dX11_has_115
        · refine ok_ite (fun hc6 => ?_) (fun hc6 => ?_)
          · refine ok_tableIn hE (off := 99) (3 : Int32) 116 hc6 dX11_has_17 (by decide) rfl ?_
            refine ok_aload_n hE 1 rfl dX11_has_116 ?_
            refine ok_getA hE fl_X11_40 shC_0 rfl dX11_has_117 ?_
            refine ok_getI hE fl_X11_129 shC_26 rfl dX11_has_120 ?_
            exact ok_ireturnP hE dX11_has_123
          · refine ok_ite (fun hc7 => ?_) (fun hc7 => ?_)
            · refine ok_tableIn hE (off := 107) (4 : Int32) 124 hc7 dX11_has_17 (by decide) rfl ?_
              refine ok_iload_n hE 0 rfl dX11_has_124 ?_
              refine ok_if_eq hE 132 rfl dX11_has_125 ?_ ?_
              · refine ok_aload_n hE 1 rfl dX11_has_132 ?_
                refine ok_getA hE fl_X11_40 shC_0 rfl dX11_has_133 ?_
                refine ok_getI hE fl_X11_119 shC_26 rfl dX11_has_136 ?_
                exact ok_ireturnP hE dX11_has_139
              · refine ok_iconst hE (-1 : Int32) ki_m1 dX11_has_128 ?_
                refine ok_goto hE 139 rfl dX11_has_129 ?_
                exact ok_ireturnP hE dX11_has_139
            · refine ok_ite (fun hc8 => ?_) (fun hc8 => ?_)
              · refine ok_tableIn hE (off := 123) (5 : Int32) 140 hc8 dX11_has_17 (by decide) rfl ?_
                refine ok_aload_n hE 1 rfl dX11_has_140 ?_
                refine ok_getA hE fl_X11_40 shC_0 rfl dX11_has_141 ?_
                refine ok_getI hE fl_X11_132 shC_26 rfl dX11_has_144 ?_
                exact ok_ireturnP hE dX11_has_147
              · refine ok_ite (fun hc9 => ?_) (fun hc9 => ?_)
                · refine ok_tableIn hE (off := 131) (6 : Int32) 148 hc9 dX11_has_17 (by decide) rfl ?_
                  refine ok_iload_n hE 0 rfl dX11_has_148 ?_
                  refine ok_if_eq hE 156 rfl dX11_has_149 ?_ ?_
                  · refine ok_aload_n hE 1 rfl dX11_has_156 ?_
                    refine ok_getA hE fl_X11_40 shC_0 rfl dX11_has_157 ?_
                    refine ok_getI hE fl_X11_135 shC_26 rfl dX11_has_160 ?_
                    exact ok_ireturnP hE dX11_has_163
                  · refine ok_iconst hE (-1 : Int32) ki_m1 dX11_has_152 ?_
                    refine ok_goto hE 163 rfl dX11_has_153 ?_
                    exact ok_ireturnP hE dX11_has_163
                · refine ok_ite (fun hc10 => ?_) (fun hc10 => ?_)
                  · refine ok_tableIn hE (off := 147) (7 : Int32) 164 hc10 dX11_has_17 (by decide) rfl ?_
                    refine ok_aload_n hE 1 rfl dX11_has_164 ?_
                    refine ok_getA hE fl_X11_40 shC_0 rfl dX11_has_165 ?_
                    refine ok_plnS hE (fun q23 hq24 => ?_)
                    refine ok_xIp hE rmS_isWaiting [] [] rfl ca_X11_138 shC_26 rfl hq24 rfl (fun hs _ hx => mS_isWaiting hs   _ _ hx) ⟨rfl, rfl, rfl, rfl⟩ rfl rfl dX11_has_168 (fun r22 => ?_)
                    refine ok_if_eq hE 184 rfl dX11_has_171 ?_ ?_
                    · refine ok_iconst hE (-1 : Int32) ki_m1 dX11_has_184 ?_
                      exact ok_ireturnP hE dX11_has_185
                    · refine ok_aload_n hE 1 rfl dX11_has_174 ?_
                      refine ok_getA hE fl_X11_40 shC_0 rfl dX11_has_175 ?_
                      refine ok_getI hE fl_X11_142 shC_26 rfl dX11_has_178 ?_
                      refine ok_goto hE 185 rfl dX11_has_181 ?_
                      exact ok_ireturnP hE dX11_has_185
                  · refine ok_ite (fun hc11 => ?_) (fun hc11 => ?_)
                    · refine ok_tableIn hE (off := 169) (8 : Int32) 186 hc11 dX11_has_17 (by decide) rfl ?_
                      refine ok_aload_n hE 1 rfl dX11_has_186 ?_
                      refine ok_getA hE fl_X11_40 shC_0 rfl dX11_has_187 ?_
                      refine ok_getI hE fl_X11_145 shC_26 rfl dX11_has_190 ?_
                      exact ok_ireturnP hE dX11_has_193
                    · refine ok_ite (fun hc12 => ?_) (fun hc12 => ?_)
                      · refine ok_tableIn hE (off := 177) (9 : Int32) 194 hc12 dX11_has_17 (by decide) rfl ?_
                        refine ok_aload_n hE 1 rfl dX11_has_194 ?_
                        refine ok_getA hE fl_X11_40 shC_0 rfl dX11_has_195 ?_
                        refine ok_getI hE fl_X11_148 shC_26 rfl dX11_has_198 ?_
                        exact ok_ireturnP hE dX11_has_201
                      · refine ok_ite (fun hc13 => ?_) (fun hc13 => ?_)
                        · refine ok_tableIn hE (off := 185) (10 : Int32) 202 hc13 dX11_has_17 (by decide) rfl ?_
                          refine ok_aload_n hE 1 rfl dX11_has_202 ?_
                          refine ok_getA hE fl_X11_40 shC_0 rfl dX11_has_203 ?_
                          refine ok_getI hE fl_X11_151 shC_26 rfl dX11_has_206 ?_
                          exact ok_ireturnP hE dX11_has_209
                        · refine ok_ite (fun hc14 => ?_) (fun hc14 => ?_)
                          · refine ok_tableIn hE (off := 193) (11 : Int32) 210 hc14 dX11_has_17 (by decide) rfl ?_
                            refine ok_aload_n hE 1 rfl dX11_has_210 ?_
                            refine ok_getA hE fl_X11_40 shC_0 rfl dX11_has_211 ?_
                            refine ok_getC hE fl_X11_154 shC_26 rfl dX11_has_214 ?_
                            refine ok_plnS hE (fun q19 hq20 => ?_)
                            refine ok_xIp hE rmS_KTold [] [] rfl ca_X11_158 shC_32 rfl hq20 rfl (fun hs _ hx => mS_KTold hs   _ _ hx) ⟨rfl, rfl, rfl, rfl⟩ rfl rfl dX11_has_217 (fun r18 => ?_)
                            exact ok_ireturnP hE dX11_has_220
                          · refine ok_ite (fun hc15 => ?_) (fun hc15 => ?_)
                            · refine ok_tableIn hE (off := 204) (12 : Int32) 221 hc15 dX11_has_17 (by decide) rfl ?_
                              refine ok_aload_n hE 1 rfl dX11_has_221 ?_
                              refine ok_getA hE fl_X11_61 shC_0 rfl dX11_has_222 ?_
                              refine ok_getI hE fl_X11_116 shC_67 rfl dX11_has_225 ?_
                              exact ok_ireturnP hE dX11_has_228
                            · refine ok_ite (fun hc16 => ?_) (fun hc16 => ?_)
                              · refine ok_tableIn hE (off := 212) (13 : Int32) 229 hc16 dX11_has_17 (by decide) rfl ?_
                                refine ok_aload_n hE 1 rfl dX11_has_229 ?_
                                refine ok_getI hE fl_X11_55 shC_0 rfl dX11_has_230 ?_
                                exact ok_ireturnP hE dX11_has_233
                              · refine ok_ite (fun hc17 => ?_) (fun hc17 => ?_)
                                · refine ok_tableIn hE (off := 217) (14 : Int32) 234 hc17 dX11_has_17 (by decide) rfl ?_
                                  refine ok_aload_n hE 1 rfl dX11_has_234 ?_
                                  refine ok_getL hE fl_X11_85 shC_0 rfl dX11_has_235 ?_
                                  refine ok_l2i hE dX11_has_238 ?_
                                  exact ok_ireturnP hE dX11_has_239
                                · refine ok_tableOut hE 240 (by have e0 := lv_neT hc3 (a := 0) rfl; have e1 := lv_neT hc4 (a := 1) rfl; have e2 := lv_neT hc5 (a := 2) rfl; have e3 := lv_neT hc6 (a := 3) rfl; have e4 := lv_neT hc7 (a := 4) rfl; have e5 := lv_neT hc8 (a := 5) rfl; have e6 := lv_neT hc9 (a := 6) rfl; have e7 := lv_neT hc10 (a := 7) rfl; have e8 := lv_neT hc11 (a := 8) rfl; have e9 := lv_neT hc12 (a := 9) rfl; have e10 := lv_neT hc13 (a := 10) rfl; have e11 := lv_neT hc14 (a := 11) rfl; have e12 := lv_neT hc15 (a := 12) rfl; have e13 := lv_neT hc16 (a := 13) rfl; have e14 := lv_neT hc17 (a := 14) rfl; omega) dX11_has_17 rfl ?_
                                  refine ok_iconst hE (-1 : Int32) ki_m1 dX11_has_240 ?_
                                  exact ok_ireturnP hE dX11_has_241
  refine ok_if_ge hE 14 rfl dX11_has_7 ?_ ?_
  · refine ok_iconst hE (0 : Int32) ki_0 dX11_has_14 ?_
    exact ok_sub [0, 1] rfl (hj15 (0 : Int32))
  · refine ok_iconst hE (1 : Int32) ki_1 dX11_has_10 ?_
    refine ok_goto hE 15 rfl dX11_has_11 ?_
    exact ok_sub [0, 1] rfl (hj15 (1 : Int32))
theorem mC_has {l : Launch} {Y : Sys} {t : Nat} (hY : SysOk Y t shC) (p1 : Int32)  (M : Mm) (r : Int32) (h : C_has p1 M = some r) : Cm l Y t yX11_has (WS yX11_has cX11_has 3 (some .int)) rmC_has [.ref (Y.ad 0), .int p1] M ((some (.int r), M)) := by
  refine cm_of (own := RX11) hY rfl rfl (Nat.le_of_ble_eq_true rfl) (fun E hE e1 e2 e3 e4 => ?_)
  subst e1
  exact tC_has E hE p1  M r h e4.symm
def C_isProcess (p1 : Int32) (M : Mm) : Option Int32 :=
 if p1 < 0 then
 (some (0 : Int32))
 else
 (lett (gR M 0 0) fun y1 =>
 nn y1 fun c2 => grd (shC c2 = shCX2) (if (gI M c2 11) ≤ p1 then
 (some (0 : Int32))
 else
 (some (1 : Int32))))
abbrev rmC_isProcess : Room := { frames := 0, cells := 0, slots := 0, locals := 0 }
set_option maxHeartbeats 4000000 in
set_option maxRecDepth 100000 in
theorem tC_isProcess (E : Cx) (hE : CxOk E cX11_isProcess RX11 shC (some .boolean) rmC_isProcess 2) (p1 : Int32)  (M : Mm) : Ok E 0 [(0, .ref (E.Y.ad 0)), (1, .int p1)] [] M (C_isProcess p1 M) (KIp E M) := by
  unfold C_isProcess
  refine ok_iload_n hE 1 rfl dX11_isProcess_0 ?_
  refine ok_if_lt hE 19 rfl dX11_isProcess_1 ?_ ?_
  · refine ok_iconst hE (0 : Int32) ki_0 dX11_isProcess_19 ?_
    exact ok_zreturnP hE (Or.inl rfl) dX11_isProcess_20
  · refine ok_iload_n hE 1 rfl dX11_isProcess_4 ?_
    refine ok_aload_n hE 0 rfl dX11_isProcess_5 ?_
    refine ok_getRL hE fl_X11_10 shC_0 rfl dX11_isProcess_6 (fun y1 => ?_)
    rcases y1 with _ | c2
    · exact fun r hr => by cases hr
    dsimp only [nn]
    refine ok_grd (fun hc3 => ?_)
    refine ok_getI hE fl_X11_125 hc3 rfl dX11_isProcess_9 ?_
    refine ok_icmp_ge hE 19 rfl dX11_isProcess_12 ?_ ?_
    · refine ok_iconst hE (0 : Int32) ki_0 dX11_isProcess_19 ?_
      exact ok_zreturnP hE (Or.inl rfl) dX11_isProcess_20
    · refine ok_iconst hE (1 : Int32) ki_1 dX11_isProcess_15 ?_
      refine ok_goto hE 20 rfl dX11_isProcess_16 ?_
      exact ok_zreturnP hE (Or.inr rfl) dX11_isProcess_20
theorem mC_isProcess {l : Launch} {Y : Sys} {t : Nat} (hY : SysOk Y t shC) (p1 : Int32)  (M : Mm) (r : Int32) (h : C_isProcess p1 M = some r) : Cm l Y t yX11_isProcess (WS yX11_isProcess cX11_isProcess 2 (some .boolean)) rmC_isProcess [.ref (Y.ad 0), .int p1] M ((some (.int r), M)) := by
  refine cm_of (own := RX11) hY rfl rfl (Nat.le_of_ble_eq_true rfl) (fun E hE e1 e2 e3 e4 => ?_)
  subst e1
  exact tC_isProcess E hE p1  M r h e4.symm
def C_letter (p1 : Int32) (p2 : Int32) (M : Mm) : Option Int32 :=
 bnd (C_isProcess p1 M) fun r1 =>
 if r1 = 0 then
 (some (-1 : Int32))
 else
 (if p2 < 0 then
 (some (-1 : Int32))
 else
 (if p2 < (6 : Int32) then
 (lett (gR M 0 0) fun y2 =>
 nn y2 fun c3 => grd (shC c3 = shCX2) (ald ((p1 * (6 : Int32)) + p2) 36 (some (gI M (c3 + 1) (ix ((p1 * (6 : Int32)) + p2))))))
 else
 (some (-1 : Int32))))
abbrev rmC_letter : Room := { frames := 1, cells := 0, slots := 0, locals := 21 }
set_option maxHeartbeats 4000000 in
set_option maxRecDepth 100000 in
theorem tC_letter (E : Cx) (hE : CxOk E cX11_letter RX11 shC (some .int) rmC_letter 3) (p1 : Int32) (p2 : Int32)  (M : Mm) : Ok E 0 [(0, .ref (E.Y.ad 0)), (1, .int p1), (2, .int p2)] [] M (C_letter p1 p2 M) (KIp E M) := by
  unfold C_letter
  refine ok_aload_n hE 0 rfl dX11_letter_0 ?_
  refine ok_iload_n hE 1 rfl dX11_letter_1 ?_
  refine ok_cvIp hE rmC_isProcess [.int p1] [] rfl ca_X11_164 shC_0 rfl (fun _ hx => mC_isProcess hE.sys _  _ _ hx) ⟨rfl, rfl, rfl, rfl⟩ rfl rfl dX11_letter_2 (fun r1 => ?_)
  refine ok_if_eq hE 18 rfl dX11_letter_5 ?_ ?_
  · refine ok_iconst hE (-1 : Int32) ki_m1 dX11_letter_18 ?_
    exact ok_ireturnP hE dX11_letter_19
  · refine ok_iload_n hE 2 rfl dX11_letter_8 ?_
    refine ok_if_lt hE 18 rfl dX11_letter_9 ?_ ?_
    · refine ok_iconst hE (-1 : Int32) ki_m1 dX11_letter_18 ?_
      exact ok_ireturnP hE dX11_letter_19
    · refine ok_iload_n hE 2 rfl dX11_letter_12 ?_
      refine ok_bipush hE (6 : Int32) kb_6 dX11_letter_13 ?_
      refine ok_icmp_lt hE 20 rfl dX11_letter_15 ?_ ?_
      · refine ok_aload_n hE 0 rfl dX11_letter_20 ?_
        refine ok_getRL hE fl_X11_10 shC_0 rfl dX11_letter_21 (fun y2 => ?_)
        rcases y2 with _ | c3
        · exact fun r hr => by cases hr
        dsimp only [nn]
        refine ok_grd (fun hc4 => ?_)
        refine ok_getC hE fl_X11_168 hc4 rfl dX11_letter_24 ?_
        refine ok_iload_n hE 1 rfl dX11_letter_27 ?_
        refine ok_bipush hE (6 : Int32) kb_6 dX11_letter_28 ?_
        refine ok_imul hE dX11_letter_30 ?_
        refine ok_iload_n hE 2 rfl dX11_letter_31 ?_
        refine ok_iadd hE dX11_letter_32 ?_
        refine ok_iaload hE (shC_f_2_12 hc4) dX11_letter_33 ?_
        exact ok_ireturnP hE dX11_letter_34
      · refine ok_iconst hE (-1 : Int32) ki_m1 dX11_letter_18 ?_
        exact ok_ireturnP hE dX11_letter_19
theorem mC_letter {l : Launch} {Y : Sys} {t : Nat} (hY : SysOk Y t shC) (p1 : Int32) (p2 : Int32)  (M : Mm) (r : Int32) (h : C_letter p1 p2 M = some r) : Cm l Y t yX11_letter (WS yX11_letter cX11_letter 3 (some .int)) rmC_letter [.ref (Y.ad 0), .int p1, .int p2] M ((some (.int r), M)) := by
  refine cm_of (own := RX11) hY rfl rfl (Nat.le_of_ble_eq_true rfl) (fun E hE e1 e2 e3 e4 => ?_)
  subst e1
  exact tC_letter E hE p1 p2  M r h e4.symm
def C_process (p1 : Int32) (p2 : Int32) (M : Mm) : Option Int32 :=
 bnd (C_isProcess p1 M) fun r1 =>
 if r1 = 0 then
 (some (-1 : Int32))
 else
 (ald p1 6 (if p2 = (0 : Int32) then
 (some (gI M (34 + 2 * ix p1) 0))
 else
 (if p2 = (1 : Int32) then
 (if (gI M (34 + 2 * ix p1) 3) = 0 then
 (some (gI M (34 + 2 * ix p1) 2))
 else
 (some (0 : Int32)))
 else
 (if p2 = (2 : Int32) then
 (if (gI M (34 + 2 * ix p1) 3) = 0 then
 (some (0 : Int32))
 else
 (some (1 : Int32)))
 else
 (if p2 = (3 : Int32) then
 (some (gI M (34 + 2 * ix p1) 4))
 else
 (if p2 = (4 : Int32) then
 (some (gI M (34 + 2 * ix p1) 5))
 else
 (if p2 = (5 : Int32) then
 (some (gI M (34 + 2 * ix p1) 6))
 else
 (if p2 = (6 : Int32) then
 (some (gI M (34 + 2 * ix p1) 7))
 else
 (if p2 = (7 : Int32) then
 (some (gI M (34 + 2 * ix p1) 8))
 else
 (if p2 = (8 : Int32) then
 (if (gI M (34 + 2 * ix p1) 1) = 0 then
 (some (0 : Int32))
 else
 (some (1 : Int32)))
 else
 (if p2 = (9 : Int32) then
 (some (gI M (34 + 2 * ix p1) 9))
 else
 (if p2 = (10 : Int32) then
 (some (gI M (34 + 2 * ix p1) 10))
 else
 (if p2 = (11 : Int32) then
 (some (gI M (34 + 2 * ix p1) 11))
 else
 (if p2 = (12 : Int32) then
 (some (gI M (34 + 2 * ix p1) 12))
 else
 (some (-1 : Int32))))))))))))))))
abbrev rmC_process : Room := { frames := 1, cells := 0, slots := 0, locals := 21 }
set_option maxHeartbeats 4000000 in
set_option maxRecDepth 100000 in
theorem tC_process (E : Cx) (hE : CxOk E cX11_process RX11 shC (some .int) rmC_process 4) (p1 : Int32) (p2 : Int32)  (M : Mm) : Ok E 0 [(0, .ref (E.Y.ad 0)), (1, .int p1), (2, .int p2)] [] M (C_process p1 p2 M) (KIp E M) := by
  unfold C_process
  refine ok_aload_n hE 0 rfl dX11_process_0 ?_
  refine ok_iload_n hE 1 rfl dX11_process_1 ?_
  refine ok_cvIp hE rmC_isProcess [.int p1] [] rfl ca_X11_164 shC_0 rfl (fun _ hx => mC_isProcess hE.sys _  _ _ hx) ⟨rfl, rfl, rfl, rfl⟩ rfl rfl dX11_process_2 (fun r1 => ?_)
  refine ok_if_ne hE 10 rfl dX11_process_5 ?_ ?_
  · refine ok_aload_n hE 0 rfl dX11_process_10 ?_
    refine ok_getA hE fl_X11_40 shC_0 rfl dX11_process_11 ?_
    refine ok_getC hE fl_X11_171 shC_26 rfl dX11_process_14 ?_
    refine ok_iload_n hE 1 rfl dX11_process_17 ?_
    refine ok_aaloadH hE shC_27 rfl dX11_process_18 (fun hi2 => ?_)
    refine ok_astore_n hE [(3, .ref (E.Y.ad (34 + 2 * ix p1))), (0, .ref (E.Y.ad 0)), (1, .int p1), (2, .int p2)] rfl rfl dX11_process_19 ?_
    refine ok_iload_n hE 3 rfl dX11_process_20 ?_
    refine ok_ite (fun hc3 => ?_) (fun hc3 => ?_)
    · refine ok_tableIn hE (off := 67) (0 : Int32) 88 hc3 dX11_process_21 (by decide) rfl ?_
      refine ok_aload_n hE 0 rfl dX11_process_88 ?_
      refine ok_getI hE fl_X11_175 (shC_e_27 hi2) rfl dX11_process_89 ?_
      exact ok_ireturnP hE dX11_process_92
    · refine ok_ite (fun hc4 => ?_) (fun hc4 => ?_)
      · refine ok_tableIn hE (off := 72) (1 : Int32) 93 hc4 dX11_process_21 (by decide) rfl ?_
        refine ok_aload_n hE 0 rfl dX11_process_93 ?_
        refine ok_getI hE fl_X11_180 (shC_e_27 hi2) rfl dX11_process_94 ?_
        refine ok_if_eq hE 104 rfl dX11_process_97 ?_ ?_
        · refine ok_aload_n hE 0 rfl dX11_process_104 ?_
          refine ok_getI hE fl_X11_184 (shC_e_27 hi2) rfl dX11_process_105 ?_
          exact ok_ireturnP hE dX11_process_108
        · refine ok_iconst hE (0 : Int32) ki_0 dX11_process_100 ?_
          refine ok_goto hE 108 rfl dX11_process_101 ?_
          exact ok_ireturnP hE dX11_process_108
      · refine ok_ite (fun hc5 => ?_) (fun hc5 => ?_)
        · refine ok_tableIn hE (off := 88) (2 : Int32) 109 hc5 dX11_process_21 (by decide) rfl ?_
          refine ok_aload_n hE 0 rfl dX11_process_109 ?_
          refine ok_getI hE fl_X11_180 (shC_e_27 hi2) rfl dX11_process_110 ?_
          refine ok_if_eq hE 120 rfl dX11_process_113 ?_ ?_
          · refine ok_iconst hE (0 : Int32) ki_0 dX11_process_120 ?_
            exact ok_ireturnP hE dX11_process_121
          · refine ok_iconst hE (1 : Int32) ki_1 dX11_process_116 ?_
            refine ok_goto hE 121 rfl dX11_process_117 ?_
            exact ok_ireturnP hE dX11_process_121
        · refine ok_ite (fun hc6 => ?_) (fun hc6 => ?_)
          · refine ok_tableIn hE (off := 101) (3 : Int32) 122 hc6 dX11_process_21 (by decide) rfl ?_
            refine ok_aload_n hE 0 rfl dX11_process_122 ?_
            refine ok_getI hE fl_X11_187 (shC_e_27 hi2) rfl dX11_process_123 ?_
            exact ok_ireturnP hE dX11_process_126
          · refine ok_ite (fun hc7 => ?_) (fun hc7 => ?_)
            · refine ok_tableIn hE (off := 106) (4 : Int32) 127 hc7 dX11_process_21 (by decide) rfl ?_
              refine ok_aload_n hE 0 rfl dX11_process_127 ?_
              refine ok_getI hE fl_X11_188 (shC_e_27 hi2) rfl dX11_process_128 ?_
              exact ok_ireturnP hE dX11_process_131
            · refine ok_ite (fun hc8 => ?_) (fun hc8 => ?_)
              · refine ok_tableIn hE (off := 111) (5 : Int32) 132 hc8 dX11_process_21 (by decide) rfl ?_
                refine ok_aload_n hE 0 rfl dX11_process_132 ?_
                refine ok_getI hE fl_X11_191 (shC_e_27 hi2) rfl dX11_process_133 ?_
                exact ok_ireturnP hE dX11_process_136
              · refine ok_ite (fun hc9 => ?_) (fun hc9 => ?_)
                · refine ok_tableIn hE (off := 116) (6 : Int32) 137 hc9 dX11_process_21 (by decide) rfl ?_
                  refine ok_aload_n hE 0 rfl dX11_process_137 ?_
                  refine ok_getI hE fl_X11_194 (shC_e_27 hi2) rfl dX11_process_138 ?_
                  exact ok_ireturnP hE dX11_process_141
                · refine ok_ite (fun hc10 => ?_) (fun hc10 => ?_)
                  · refine ok_tableIn hE (off := 121) (7 : Int32) 142 hc10 dX11_process_21 (by decide) rfl ?_
                    refine ok_aload_n hE 0 rfl dX11_process_142 ?_
                    refine ok_getI hE fl_X11_197 (shC_e_27 hi2) rfl dX11_process_143 ?_
                    exact ok_ireturnP hE dX11_process_146
                  · refine ok_ite (fun hc11 => ?_) (fun hc11 => ?_)
                    · refine ok_tableIn hE (off := 126) (8 : Int32) 147 hc11 dX11_process_21 (by decide) rfl ?_
                      refine ok_aload_n hE 0 rfl dX11_process_147 ?_
                      refine ok_getI hE fl_X11_200 (shC_e_27 hi2) rfl dX11_process_148 ?_
                      refine ok_if_eq hE 158 rfl dX11_process_151 ?_ ?_
                      · refine ok_iconst hE (0 : Int32) ki_0 dX11_process_158 ?_
                        exact ok_ireturnP hE dX11_process_159
                      · refine ok_iconst hE (1 : Int32) ki_1 dX11_process_154 ?_
                        refine ok_goto hE 159 rfl dX11_process_155 ?_
                        exact ok_ireturnP hE dX11_process_159
                    · refine ok_ite (fun hc12 => ?_) (fun hc12 => ?_)
                      · refine ok_tableIn hE (off := 139) (9 : Int32) 160 hc12 dX11_process_21 (by decide) rfl ?_
                        refine ok_aload_n hE 0 rfl dX11_process_160 ?_
                        refine ok_getI hE fl_X11_203 (shC_e_27 hi2) rfl dX11_process_161 ?_
                        exact ok_ireturnP hE dX11_process_164
                      · refine ok_ite (fun hc13 => ?_) (fun hc13 => ?_)
                        · refine ok_tableIn hE (off := 144) (10 : Int32) 165 hc13 dX11_process_21 (by decide) rfl ?_
                          refine ok_aload_n hE 0 rfl dX11_process_165 ?_
                          refine ok_getI hE fl_X11_206 (shC_e_27 hi2) rfl dX11_process_166 ?_
                          exact ok_ireturnP hE dX11_process_169
                        · refine ok_ite (fun hc14 => ?_) (fun hc14 => ?_)
                          · refine ok_tableIn hE (off := 149) (11 : Int32) 170 hc14 dX11_process_21 (by decide) rfl ?_
                            refine ok_aload_n hE 0 rfl dX11_process_170 ?_
                            refine ok_getI hE fl_X11_207 (shC_e_27 hi2) rfl dX11_process_171 ?_
                            exact ok_ireturnP hE dX11_process_174
                          · refine ok_ite (fun hc15 => ?_) (fun hc15 => ?_)
                            · refine ok_tableIn hE (off := 154) (12 : Int32) 175 hc15 dX11_process_21 (by decide) rfl ?_
                              refine ok_aload_n hE 0 rfl dX11_process_175 ?_
                              refine ok_getI hE fl_X11_210 (shC_e_27 hi2) rfl dX11_process_176 ?_
                              exact ok_ireturnP hE dX11_process_179
                            · refine ok_tableOut hE 180 (by have e0 := lv_neT hc3 (a := 0) rfl; have e1 := lv_neT hc4 (a := 1) rfl; have e2 := lv_neT hc5 (a := 2) rfl; have e3 := lv_neT hc6 (a := 3) rfl; have e4 := lv_neT hc7 (a := 4) rfl; have e5 := lv_neT hc8 (a := 5) rfl; have e6 := lv_neT hc9 (a := 6) rfl; have e7 := lv_neT hc10 (a := 7) rfl; have e8 := lv_neT hc11 (a := 8) rfl; have e9 := lv_neT hc12 (a := 9) rfl; have e10 := lv_neT hc13 (a := 10) rfl; have e11 := lv_neT hc14 (a := 11) rfl; have e12 := lv_neT hc15 (a := 12) rfl; omega) dX11_process_21 rfl ?_
                              refine ok_iconst hE (-1 : Int32) ki_m1 dX11_process_180 ?_
                              exact ok_ireturnP hE dX11_process_181
  · refine ok_iconst hE (-1 : Int32) ki_m1 dX11_process_8 ?_
    exact ok_ireturnP hE dX11_process_9
theorem mC_process {l : Launch} {Y : Sys} {t : Nat} (hY : SysOk Y t shC) (p1 : Int32) (p2 : Int32)  (M : Mm) (r : Int32) (h : C_process p1 p2 M = some r) : Cm l Y t yX11_process (WS yX11_process cX11_process 4 (some .int)) rmC_process [.ref (Y.ad 0), .int p1, .int p2] M ((some (.int r), M)) := by
  refine cm_of (own := RX11) hY rfl rfl (Nat.le_of_ble_eq_true rfl) (fun E hE e1 e2 e3 e4 => ?_)
  subst e1
  exact tC_process E hE p1 p2  M r h e4.symm
