def P_DSplitToken (p1 : Int32) (p2 : Int32) (M : Mm) : Option (Int32 × Mm) :=
 lett (1 : Int32) fun v1 =>
 ald p1 1601 (lett (sI M 2 (ix p1) p2) fun M2 =>
 grd (okW none = true) (ald p1 1601 (lett (sR M2 4 (ix p1) none) fun M3 =>
 ald p1 1601 (lett (sI M3 1 (ix p1) (3 : Int32)) fun M4 =>
 bnd (P_TIsLetter p2 M4) fun r5 =>
 lett (fun (u_5 : Int32) (M_6 : Mm) =>
 ald p1 1601 (lett (sI M_6 3 (ix p1) u_5) fun M8 =>
 some (u_5, M8))) fun j121 =>
 if r5 = 0 then
 (bnd (P_TIsDigit p2 M4) fun r9 =>
 if r9 = 0 then
 (j121 v1 M4)
 else
 (bnd (P_TDigitCount p2 M4) fun r10 =>
 lett r10 fun v11 =>
 bnd (P_TIsLetter (p2 - (1 : Int32)) M4) fun r12 =>
 if r12 = 0 then
 (ald p1 1601 (lett (sI M4 1 (ix p1) (2 : Int32)) fun M13 =>
 j121 v11 M13))
 else
 (j121 v11 M4)))
 else
 (bnd (P_TLetterCount p2 M4) fun r14 =>
 lett r14 fun v15 =>
 bnd (P_TIsDigit (p2 - (1 : Int32)) M4) fun r16 =>
 if r16 = 0 then
 (ald p1 1601 (lett (sI M4 1 (ix p1) (1 : Int32)) fun M17 =>
 bnd (P_WFind p2 v15 M17) fun r18 =>
 grd (okW r18 = true) (ald p1 1601 (lett (sR M17 4 (ix p1) r18) fun M19 =>
 j121 v15 M19))))
 else
 (j121 v15 M4))))))
abbrev rmP_DSplitToken : Room := { frames := 7, cells := 0, slots := 0, locals := 163 }
set_option maxHeartbeats 4000000 in
set_option maxRecDepth 100000 in
theorem tP_DSplitToken (E : Cx) (hE : CxOk E cX5_splitToken RX5 shP (some .int) rmP_DSplitToken 4) (p1 : Int32) (p2 : Int32)  (M : Mm) : Ok E 0 [(0, .ref (E.Y.ad 0)), (1, .int p1), (2, .int p2)] [] M (P_DSplitToken p1 p2 M) (KI E) := by
  unfold P_DSplitToken
  refine ok_iconst hE (1 : Int32) ki_1 dX5_splitToken_0 ?_
  refine ok_istore_n hE (fun v1 => [(3, .int v1), (0, .ref (E.Y.ad 0)), (1, .int p1), (2, .int p2)]) (fun _ => rfl) rfl dX5_splitToken_1 (fun v1 => ?_)
  refine ok_aload_n hE 1 rfl dX5_splitToken_2 ?_
  refine ok_getA hE fl_X5_15 shP_0 rfl dX5_splitToken_3 ?_
  refine ok_iload_n hE 2 rfl dX5_splitToken_6 ?_
  refine ok_iload_n hE 3 rfl dX5_splitToken_7 ?_
  refine ok_iastore hE shP_2 dX5_splitToken_8 (fun M2 => ?_)
  refine ok_aload_n hE 1 rfl dX5_splitToken_9 ?_
  refine ok_getA hE fl_X5_23 shP_0 rfl dX5_splitToken_10 ?_
  refine ok_iload_n hE 2 rfl dX5_splitToken_13 ?_
  refine ok_null hE dX5_splitToken_14 ?_
  refine ok_aastoreW hE (x := none) shP_4 dX5_splitToken_15 (fun M3 => ?_)
  refine ok_aload_n hE 1 rfl dX5_splitToken_16 ?_
  refine ok_getA hE fl_X5_9 shP_0 rfl dX5_splitToken_17 ?_
  refine ok_iload_n hE 2 rfl dX5_splitToken_20 ?_
  refine ok_iconst hE (3 : Int32) ki_3 dX5_splitToken_21 ?_
  refine ok_iastore hE shP_1 dX5_splitToken_22 (fun M4 => ?_)
  refine ok_aload_n hE 1 rfl dX5_splitToken_23 ?_
  refine ok_getA hE fl_X5_27 shP_0 rfl dX5_splitToken_24 ?_
  refine ok_iload_n hE 3 rfl dX5_splitToken_27 ?_
  refine ok_cvIp hE rmP_TIsLetter [.int p2] [] rfl ca_X5_70 shP_5 rfl (fun _ hx => mP_TIsLetter hE.sys _  _ _ hx) ⟨rfl, rfl, rfl, rfl⟩ rfl rfl dX5_splitToken_28 (fun r5 => ?_)
  refine ok_fun (fun j => ∀ (u_5 : Int32) (M_6 : Mm), Ok E 121 [(0, .ref (E.Y.ad 0)), (1, .int p1), (3, .int u_5)] [] M_6 (j u_5 M_6) (KI E)) (fun u_5 M_6 => ?_) (fun j121 hj121 => ?_)
  · refine ok_aload_n hE 0 rfl dX5_splitToken_121 ?_
    refine ok_getA hE fl_X5_18 shP_0 rfl dX5_splitToken_122 ?_
    refine ok_iload_n hE 1 rfl dX5_splitToken_125 ?_
    refine ok_iload_n hE 2 rfl dX5_splitToken_126 ?_
    refine ok_iastore hE shP_3 dX5_splitToken_127 (fun M8 => ?_)
    refine ok_iload_n hE 2 rfl dX5_splitToken_128 ?_
    exact ok_ireturn hE dX5_splitToken_129
  refine ok_if_eq hE 81 rfl dX5_splitToken_31 ?_ ?_
  · refine ok_aload_n hE 1 rfl dX5_splitToken_81 ?_
    refine ok_getA hE fl_X5_27 shP_0 rfl dX5_splitToken_82 ?_
    refine ok_iload_n hE 3 rfl dX5_splitToken_85 ?_
    refine ok_cvIp hE rmP_TIsDigit [.int p2] [] rfl ca_X5_77 shP_5 rfl (fun _ hx => mP_TIsDigit hE.sys _  _ _ hx) ⟨rfl, rfl, rfl, rfl⟩ rfl rfl dX5_splitToken_86 (fun r9 => ?_)
    refine ok_if_eq hE 121 rfl dX5_splitToken_89 ?_ ?_
    · exact ok_sub [1, 2, 0] rfl (hj121 v1 M4)
    · refine ok_aload_n hE 1 rfl dX5_splitToken_92 ?_
      refine ok_getA hE fl_X5_27 shP_0 rfl dX5_splitToken_93 ?_
      refine ok_iload_n hE 3 rfl dX5_splitToken_96 ?_
      refine ok_cvIp hE rmP_TDigitCount [.int p2] [] rfl ca_X5_84 shP_5 rfl (fun _ hx => mP_TDigitCount hE.sys _  _ _ hx) ⟨rfl, rfl, rfl, rfl⟩ rfl rfl dX5_splitToken_97 (fun r10 => ?_)
      refine ok_istore_n hE (fun v11 => [(3, .int v11), (0, .ref (E.Y.ad 0)), (1, .int p1), (2, .int p2)]) (fun _ => rfl) rfl dX5_splitToken_100 (fun v11 => ?_)
      refine ok_aload_n hE 1 rfl dX5_splitToken_101 ?_
      refine ok_getA hE fl_X5_27 shP_0 rfl dX5_splitToken_102 ?_
      refine ok_iload_n hE 3 rfl dX5_splitToken_105 ?_
      refine ok_iconst hE (1 : Int32) ki_1 dX5_splitToken_106 ?_
      refine ok_isub hE dX5_splitToken_107 ?_
      refine ok_cvIp hE rmP_TIsLetter [.int (p2 - (1 : Int32))] [] rfl ca_X5_70 shP_5 rfl (fun _ hx => mP_TIsLetter hE.sys _  _ _ hx) ⟨rfl, rfl, rfl, rfl⟩ rfl rfl dX5_splitToken_108 (fun r12 => ?_)
      refine ok_if_ne hE 121 rfl dX5_splitToken_111 ?_ ?_
      · exact ok_sub [1, 2, 0] rfl (hj121 v11 M4)
      · refine ok_aload_n hE 1 rfl dX5_splitToken_114 ?_
        refine ok_getA hE fl_X5_9 shP_0 rfl dX5_splitToken_115 ?_
        refine ok_iload_n hE 2 rfl dX5_splitToken_118 ?_
        refine ok_iconst hE (2 : Int32) ki_2 dX5_splitToken_119 ?_
        refine ok_iastore hE shP_1 dX5_splitToken_120 (fun M13 => ?_)
        exact ok_sub [1, 2, 0] rfl (hj121 v11 M13)
  · refine ok_aload_n hE 1 rfl dX5_splitToken_34 ?_
    refine ok_getA hE fl_X5_27 shP_0 rfl dX5_splitToken_35 ?_
    refine ok_iload_n hE 3 rfl dX5_splitToken_38 ?_
    refine ok_cvIp hE rmP_TLetterCount [.int p2] [] rfl ca_X5_73 shP_5 rfl (fun _ hx => mP_TLetterCount hE.sys _  _ _ hx) ⟨rfl, rfl, rfl, rfl⟩ rfl rfl dX5_splitToken_39 (fun r14 => ?_)
    refine ok_istore_n hE (fun v15 => [(3, .int v15), (0, .ref (E.Y.ad 0)), (1, .int p1), (2, .int p2)]) (fun _ => rfl) rfl dX5_splitToken_42 (fun v15 => ?_)
    refine ok_aload_n hE 1 rfl dX5_splitToken_43 ?_
    refine ok_getA hE fl_X5_27 shP_0 rfl dX5_splitToken_44 ?_
    refine ok_iload_n hE 3 rfl dX5_splitToken_47 ?_
    refine ok_iconst hE (1 : Int32) ki_1 dX5_splitToken_48 ?_
    refine ok_isub hE dX5_splitToken_49 ?_
    refine ok_cvIp hE rmP_TIsDigit [.int (p2 - (1 : Int32))] [] rfl ca_X5_77 shP_5 rfl (fun _ hx => mP_TIsDigit hE.sys _  _ _ hx) ⟨rfl, rfl, rfl, rfl⟩ rfl rfl dX5_splitToken_50 (fun r16 => ?_)
    refine ok_if_ne hE 121 rfl dX5_splitToken_53 ?_ ?_
    · exact ok_sub [1, 2, 0] rfl (hj121 v15 M4)
    · refine ok_aload_n hE 1 rfl dX5_splitToken_56 ?_
      refine ok_getA hE fl_X5_9 shP_0 rfl dX5_splitToken_57 ?_
      refine ok_iload_n hE 2 rfl dX5_splitToken_60 ?_
      refine ok_iconst hE (1 : Int32) ki_1 dX5_splitToken_61 ?_
      refine ok_iastore hE shP_1 dX5_splitToken_62 (fun M17 => ?_)
      refine ok_aload_n hE 1 rfl dX5_splitToken_63 ?_
      refine ok_getA hE fl_X5_23 shP_0 rfl dX5_splitToken_64 ?_
      refine ok_iload_n hE 2 rfl dX5_splitToken_67 ?_
      refine ok_aload_n hE 1 rfl dX5_splitToken_68 ?_
      refine ok_getA hE fl_X5_27 shP_0 rfl dX5_splitToken_69 ?_
      refine ok_iload_n hE 3 rfl dX5_splitToken_72 ?_
      refine ok_iload_n hE 0 rfl dX5_splitToken_73 ?_
      refine ok_csNp hE rmP_WFind [.ref (E.Y.ad 5), .int p2, .int v15] [.int p1, .ref (E.Y.ad 4)] rfl ca_X5_80 (fun _ hx => mP_WFind hE.sys _ _  _ _ hx) ⟨rfl, rfl, rfl, rfl⟩ rfl rfl dX5_splitToken_74 (fun r18 => ?_)
      refine ok_aastoreW hE (x := r18) shP_4 dX5_splitToken_77 (fun M19 => ?_)
      refine ok_goto hE 121 rfl dX5_splitToken_78 ?_
      exact ok_sub [1, 2, 0] rfl (hj121 v15 M19)
theorem mP_DSplitToken {l : Launch} {Y : Sys} {t : Nat} (hY : SysOk Y t shP) (p1 : Int32) (p2 : Int32)  (M : Mm) (r : (Int32 × Mm)) (h : P_DSplitToken p1 p2 M = some r) : Cm l Y t yX5_splitToken (WS yX5_splitToken cX5_splitToken 4 (some .int)) rmP_DSplitToken [.ref (Y.ad 0), .int p1, .int p2] M (enI r) := by
  refine cm_of (own := RX5) hY rfl rfl (Nat.le_of_ble_eq_true rfl) (fun E hE e1 e2 e3 e4 => ?_)
  subst e1
  exact tP_DSplitToken E hE p1 p2  M r h e4.symm
def P_DSplitText  (M : Mm) : Option Mm :=
 lett (0 : Int32) fun v1 =>
 lett (0 : Int32) fun v2 =>
 lett (fun (u_2 : Int32) (M_3 : Mm) =>
 ald u_2 1601 (lett (sI M_3 1 (ix u_2) (0 : Int32)) fun M5 =>
 ald u_2 1601 (lett (sI M5 2 (ix u_2) (gI M5 5 1)) fun M6 =>
 grd (okW none = true) (ald u_2 1601 (lett (sR M6 4 (ix u_2) none) fun M7 =>
 some M7))))) fun j54 =>
 loopR (fun (rec4 : (Int32 × Int32 × Mm) → Option Mm) (x8 : Int32 × Int32 × Mm) =>
 if (gI x8.2.2 5 1) ≤ x8.2.1 then
 (j54 x8.1 x8.2.2)
 else
 (if (1600 : Int32) ≤ x8.1 then
 (j54 x8.1 x8.2.2)
 else
 (bnd (P_TIsBlank x8.2.1 x8.2.2) fun r9 =>
 if r9 = 0 then
 (bnd (P_DSplitToken x8.1 x8.2.1 x8.2.2) fun r10 =>
 lett (x8.2.1 + r10.1) fun v11 =>
 lett (x8.1 + (1 : Int32)) fun v12 =>
 rec4 (v12, v11, r10.2))
 else
 (lett (x8.2.1 + (1 : Int32)) fun v13 =>
 rec4 (x8.1, v13, x8.2.2))))) 1000000 (v1, v2, M)
abbrev rmP_DSplitText : Room := { frames := 8, cells := 0, slots := 0, locals := 186 }
set_option maxHeartbeats 4000000 in
set_option maxRecDepth 100000 in
theorem tP_DSplitText (E : Cx) (hE : CxOk E cX5_splitText RX5 shP none rmP_DSplitText 3)   (M : Mm) : Ok E 0 [(0, .ref (E.Y.ad 0))] [] M (P_DSplitText  M) (KV E) := by
  unfold P_DSplitText
  refine ok_iconst hE (0 : Int32) ki_0 dX5_splitText_0 ?_
  refine ok_istore_n hE (fun v1 => [(1, .int v1), (0, .ref (E.Y.ad 0))]) (fun _ => rfl) rfl dX5_splitText_1 (fun v1 => ?_)
  refine ok_iconst hE (0 : Int32) ki_0 dX5_splitText_2 ?_
  refine ok_istore_n hE (fun v2 => [(2, .int v2), (1, .int v1), (0, .ref (E.Y.ad 0))]) (fun _ => rfl) rfl dX5_splitText_3 (fun v2 => ?_)
  refine ok_fun (fun j => ∀ (u_2 : Int32) (M_3 : Mm), Ok E 54 [(0, .ref (E.Y.ad 0)), (1, .int u_2)] [] M_3 (j u_2 M_3) (KV E)) (fun u_2 M_3 => ?_) (fun j54 hj54 => ?_)
  · refine ok_aload_n hE 0 rfl dX5_splitText_54 ?_
    refine ok_getA hE fl_X5_9 shP_0 rfl dX5_splitText_55 ?_
    refine ok_iload_n hE 1 rfl dX5_splitText_58 ?_
    refine ok_iconst hE (0 : Int32) ki_0 dX5_splitText_59 ?_
    refine ok_iastore hE shP_1 dX5_splitText_60 (fun M5 => ?_)
    refine ok_aload_n hE 0 rfl dX5_splitText_61 ?_
    refine ok_getA hE fl_X5_15 shP_0 rfl dX5_splitText_62 ?_
    refine ok_iload_n hE 1 rfl dX5_splitText_65 ?_
    refine ok_aload_n hE 0 rfl dX5_splitText_66 ?_
    refine ok_getA hE fl_X5_27 shP_0 rfl dX5_splitText_67 ?_
    refine ok_getI hE fl_X5_57 shP_5 rfl dX5_splitText_70 ?_
    refine ok_iastore hE shP_2 dX5_splitText_73 (fun M6 => ?_)
    refine ok_aload_n hE 0 rfl dX5_splitText_74 ?_
    refine ok_getA hE fl_X5_23 shP_0 rfl dX5_splitText_75 ?_
    refine ok_iload_n hE 1 rfl dX5_splitText_78 ?_
    refine ok_null hE dX5_splitText_79 ?_
    refine ok_aastoreW hE (x := none) shP_4 dX5_splitText_80 (fun M7 => ?_)
    exact ok_return hE dX5_splitText_81
  refine ok_sub [2, 1, 0] rfl (ok_loop (σ := Int32 × Int32 × Mm) 4 (fun x8 => [(0, .ref (E.Y.ad 0)), (1, .int x8.1), (2, .int x8.2.1)]) (fun x8 => x8.2.2) (fun rec4 hrec4 x8 => ?_) 1000000 (v1, v2, M))
  refine ok_iload_n hE 2 rfl dX5_splitText_4 ?_
  refine ok_aload_n hE 0 rfl dX5_splitText_5 ?_
  refine ok_getA hE fl_X5_27 shP_0 rfl dX5_splitText_6 ?_
  refine ok_getI hE fl_X5_57 shP_5 rfl dX5_splitText_9 ?_
  refine ok_icmp_ge hE 54 rfl dX5_splitText_12 ?_ ?_
  · exact ok_sub [0, 1] rfl (hj54 x8.1 x8.2.2)
  · refine ok_iload_n hE 1 rfl dX5_splitText_15 ?_
    refine ok_sipush hE (1600 : Int32) ks_1600 dX5_splitText_16 ?_
    refine ok_icmp_ge hE 54 rfl dX5_splitText_19 ?_ ?_
    · exact ok_sub [0, 1] rfl (hj54 x8.1 x8.2.2)
    · refine ok_aload_n hE 0 rfl dX5_splitText_22 ?_
      refine ok_getA hE fl_X5_27 shP_0 rfl dX5_splitText_23 ?_
      refine ok_iload_n hE 2 rfl dX5_splitText_26 ?_
      refine ok_cvIp hE rmP_TIsBlank [.int x8.2.1] [] rfl ca_X5_62 shP_5 rfl (fun _ hx => mP_TIsBlank hE.sys _  _ _ hx) ⟨rfl, rfl, rfl, rfl⟩ rfl rfl dX5_splitText_27 (fun r9 => ?_)
      refine ok_if_eq hE 39 rfl dX5_splitText_30 ?_ ?_
      · refine ok_iload_n hE 2 rfl dX5_splitText_39 ?_
        refine ok_aload_n hE 0 rfl dX5_splitText_40 ?_
        refine ok_iload_n hE 1 rfl dX5_splitText_41 ?_
        refine ok_iload_n hE 2 rfl dX5_splitText_42 ?_
        refine ok_cvI hE rmP_DSplitToken [.int x8.1, .int x8.2.1] [.int x8.2.1] rfl ca_X5_66 shP_0 rfl (fun _ hx => mP_DSplitToken hE.sys _ _  _ _ hx) ⟨rfl, rfl, rfl, rfl⟩ rfl rfl dX5_splitText_43 (fun r10 => ?_)
        refine ok_iadd hE dX5_splitText_46 ?_
        refine ok_istore_n hE (fun v11 => [(2, .int v11), (0, .ref (E.Y.ad 0)), (1, .int x8.1)]) (fun _ => rfl) rfl dX5_splitText_47 (fun v11 => ?_)
        refine ok_iinc hE 2 (x8.1 + (1 : Int32)) (by rw [ko_1]) (fun v12 => [(1, .int v12), (2, .int v11), (0, .ref (E.Y.ad 0))]) rfl (fun _ => rfl) rfl dX5_splitText_48 (fun v12 => ?_)
        refine ok_goto hE 4 rfl dX5_splitText_51 ?_
        exact ok_sub [2, 0, 1] rfl (hrec4 (v12, v11, r10.2))
      · refine ok_iinc hE 2 (x8.2.1 + (1 : Int32)) (by rw [ko_1]) (fun v13 => [(2, .int v13), (0, .ref (E.Y.ad 0)), (1, .int x8.1)]) rfl (fun _ => rfl) rfl dX5_splitText_33 (fun v13 => ?_)
        refine ok_goto hE 4 rfl dX5_splitText_36 ?_
        exact ok_sub [1, 2, 0] rfl (hrec4 (x8.1, v13, x8.2.2))
theorem mP_DSplitText {l : Launch} {Y : Sys} {t : Nat} (hY : SysOk Y t shP)   (M : Mm) (r : Mm) (h : P_DSplitText  M = some r) : Cm l Y t yX5_splitText (WS yX5_splitText cX5_splitText 3 none) rmP_DSplitText [.ref (Y.ad 0)] M (enV r) := by
  refine cm_of (own := RX5) hY rfl rfl (Nat.le_of_ble_eq_true rfl) (fun E hE e1 e2 e3 e4 => ?_)
  subst e1
  exact tP_DSplitText E hE   M r h e4.symm
def P_DFail (p1 : Int32) (p2 : Int32) (M : Mm) : Option Mm :=
 if (gI M 0 8) = 0 then
 (lett (sI M 0 8 p1) fun M1 =>
 lett (sI M1 0 9 p2) fun M2 =>
 some M2)
 else
 (some M)
abbrev rmP_DFail : Room := { frames := 0, cells := 0, slots := 0, locals := 0 }
set_option maxHeartbeats 4000000 in
set_option maxRecDepth 100000 in
theorem tP_DFail (E : Cx) (hE : CxOk E cX5_fail RX5 shP none rmP_DFail 3) (p1 : Int32) (p2 : Int32)  (M : Mm) : Ok E 0 [(0, .ref (E.Y.ad 0)), (1, .int p1), (2, .int p2)] [] M (P_DFail p1 p2 M) (KV E) := by
  unfold P_DFail
  refine ok_aload_n hE 0 rfl dX5_fail_0 ?_
  refine ok_getI hE fl_X5_42 shP_0 rfl dX5_fail_1 ?_
  refine ok_if_ne hE 17 rfl dX5_fail_4 ?_ ?_
  · exact ok_return hE dX5_fail_17
  · refine ok_aload_n hE 0 rfl dX5_fail_7 ?_
    refine ok_iload_n hE 1 rfl dX5_fail_8 ?_
    refine ok_putI hE fl_X5_42 shP_0 rfl dX5_fail_9 (fun M1 => ?_)
    refine ok_aload_n hE 0 rfl dX5_fail_12 ?_
    refine ok_iload_n hE 2 rfl dX5_fail_13 ?_
    refine ok_putI hE fl_X5_45 shP_0 rfl dX5_fail_14 (fun M2 => ?_)
    exact ok_return hE dX5_fail_17
theorem mP_DFail {l : Launch} {Y : Sys} {t : Nat} (hY : SysOk Y t shP) (p1 : Int32) (p2 : Int32)  (M : Mm) (r : Mm) (h : P_DFail p1 p2 M = some r) : Cm l Y t yX5_fail (WS yX5_fail cX5_fail 3 none) rmP_DFail [.ref (Y.ad 0), .int p1, .int p2] M (enV r) := by
  refine cm_of (own := RX5) hY rfl rfl (Nat.le_of_ble_eq_true rfl) (fun E hE e1 e2 e3 e4 => ?_)
  subst e1
  exact tP_DFail E hE p1 p2  M r h e4.symm
def P_DExpectWord (p1 : Nat) (M : Mm) : Option Mm :=
 if (gI M 0 8) = 0 then
 (ald (gI M 0 6) 1601 (lett (gR M 4 (ix (gI M 0 6))) fun y1 =>
 grd (okW y1 = true ∧ okW (some p1) = true) (if y1 = (some p1) then
 (lett (sI M 0 6 ((gI M 0 6) + (1 : Int32))) fun M3 =>
 some M3)
 else
 (ald (gI M 0 6) 1601 (bnd (P_DFail (1 : Int32) (gI M 2 (ix (gI M 0 6))) M) fun M2 =>
 some M2)))))
 else
 (some M)
abbrev rmP_DExpectWord : Room := { frames := 1, cells := 0, slots := 0, locals := 22 }
set_option maxHeartbeats 4000000 in
set_option maxRecDepth 100000 in
theorem tP_DExpectWord (E : Cx) (hE : CxOk E cX5_expectWord RX5 shP none rmP_DExpectWord 2) (p1 : Nat) (hp1 : isW p1) (M : Mm) : Ok E 0 [(0, .ref (E.Y.ad 0)), (1, .ref (E.Y.ad p1))] [] M (P_DExpectWord p1 M) (KV E) := by
  unfold P_DExpectWord
  refine ok_aload_n hE 0 rfl dX5_expectWord_0 ?_
  refine ok_getI hE fl_X5_42 shP_0 rfl dX5_expectWord_1 ?_
  refine ok_if_eq hE 8 rfl dX5_expectWord_4 ?_ ?_
  · refine ok_aload_n hE 0 rfl dX5_expectWord_8 ?_
    refine ok_getA hE fl_X5_23 shP_0 rfl dX5_expectWord_9 ?_
    refine ok_aload_n hE 0 rfl dX5_expectWord_12 ?_
    refine ok_getI hE fl_X5_35 shP_0 rfl dX5_expectWord_13 ?_
    refine ok_aaloadRL hE shP_4 rfl dX5_expectWord_16 (fun y1 => ?_)
    refine ok_aload_n hE 1 rfl dX5_expectWord_17 ?_
    refine ok_acmp_ne hE (x := y1) (y := (some p1)) 34 rfl dX5_expectWord_18 ?_ ?_
    · refine ok_aload_n hE 0 rfl dX5_expectWord_34 ?_
      refine ok_iconst hE (1 : Int32) ki_1 dX5_expectWord_35 ?_
      refine ok_aload_n hE 0 rfl dX5_expectWord_36 ?_
      refine ok_getA hE fl_X5_15 shP_0 rfl dX5_expectWord_37 ?_
      refine ok_aload_n hE 0 rfl dX5_expectWord_40 ?_
      refine ok_getI hE fl_X5_35 shP_0 rfl dX5_expectWord_41 ?_
      refine ok_iaload hE shP_2 dX5_expectWord_44 ?_
      refine ok_cvV hE rmP_DFail [.int (1 : Int32), .int (gI M 2 (ix (gI M 0 6)))] [] rfl ca_X5_119 shP_0 rfl (fun _ hx => mP_DFail hE.sys _ _  _ _ hx) ⟨rfl, rfl, rfl, rfl⟩ rfl rfl dX5_expectWord_45 (fun M2 => ?_)
      exact ok_return hE dX5_expectWord_48
    · refine ok_aload_n hE 0 rfl dX5_expectWord_21 ?_
      refine ok_dup hE rfl dX5_expectWord_22 ?_
      refine ok_getI hE fl_X5_35 shP_0 rfl dX5_expectWord_23 ?_
      refine ok_iconst hE (1 : Int32) ki_1 dX5_expectWord_26 ?_
      refine ok_iadd hE dX5_expectWord_27 ?_
      refine ok_putI hE fl_X5_35 shP_0 rfl dX5_expectWord_28 (fun M3 => ?_)
      refine ok_goto hE 48 rfl dX5_expectWord_31 ?_
      exact ok_return hE dX5_expectWord_48
  · exact ok_return hE dX5_expectWord_7
theorem mP_DExpectWord {l : Launch} {Y : Sys} {t : Nat} (hY : SysOk Y t shP) (p1 : Nat) (hp1 : isW p1) (M : Mm) (r : Mm) (h : P_DExpectWord p1 M = some r) : Cm l Y t yX5_expectWord (WS yX5_expectWord cX5_expectWord 2 none) rmP_DExpectWord [.ref (Y.ad 0), .ref (Y.ad p1)] M (enV r) := by
  refine cm_of (own := RX5) hY rfl rfl (Nat.le_of_ble_eq_true rfl) (fun E hE e1 e2 e3 e4 => ?_)
  subst e1
  exact tP_DExpectWord E hE p1 hp1 M r h e4.symm
def P_DExpectNumber (p1 : Int32) (p2 : Int32) (M : Mm) : Option (Int32 × Mm) :=
 if (gI M 0 8) = 0 then
 (ald (gI M 0 6) 1601 (lett (gI M 2 (ix (gI M 0 6))) fun v1 =>
 ald (gI M 0 6) 1601 (if (gI M 1 (ix (gI M 0 6))) = (2 : Int32) then
 (ald (gI M 0 6) 1601 (if (gI M 3 (ix (gI M 0 6))) ≤ (4 : Int32) then
 (lett (0 : Int32) fun v2 =>
 lett (0 : Int32) fun v3 =>
 lett (fun (u_3 : Int32) =>
 lett (fun (M_4 : Mm) =>
 lett (sI M_4 0 6 ((gI M_4 0 6) + (1 : Int32))) fun M6 =>
 some (u_3, M6)) fun j129 =>
 lett (fun (_ : Unit) =>
 bnd (P_DFail (2 : Int32) v1 M) fun M7 =>
 j129 M7) fun j123 =>
 if u_3 < p1 then
 (j123 ())
 else
 (if u_3 ≤ p2 then
 (j129 M)
 else
 (j123 ()))) fun j111 =>
 loopR (fun (rec69 : (Int32 × Int32) → Option (Int32 × Mm)) (x8 : Int32 × Int32) =>
 ald (gI M 0 6) 1601 (if (gI M 3 (ix (gI M 0 6))) ≤ x8.2 then
 (j111 x8.1)
 else
 (bnd (P_TByteAt (v1 + x8.2) M) fun r9 =>
 lett (((x8.1 * (10 : Int32)) + r9) - (48 : Int32)) fun v10 =>
 lett (x8.2 + (1 : Int32)) fun v11 =>
 rec69 (v10, v11)))) 1000000 (v2, v3))
 else
 (bnd (P_DFail (1 : Int32) (v1 + (4 : Int32)) M) fun M12 =>
 some (p1, M12))))
 else
 (bnd (P_DFail (1 : Int32) v1 M) fun M13 =>
 some (p1, M13)))))
 else
 (some (p1, M))
abbrev rmP_DExpectNumber : Room := { frames := 1, cells := 0, slots := 0, locals := 22 }
set_option maxHeartbeats 4000000 in
set_option maxRecDepth 100000 in
theorem tP_DExpectNumber (E : Cx) (hE : CxOk E cX5_expectNumber RX5 shP (some .int) rmP_DExpectNumber 6) (p1 : Int32) (p2 : Int32)  (M : Mm) : Ok E 0 [(0, .ref (E.Y.ad 0)), (1, .int p1), (2, .int p2)] [] M (P_DExpectNumber p1 p2 M) (KI E) := by
  unfold P_DExpectNumber
  refine ok_aload_n hE 0 rfl dX5_expectNumber_0 ?_
  refine ok_getI hE fl_X5_42 shP_0 rfl dX5_expectNumber_1 ?_
  refine ok_if_eq hE 9 rfl dX5_expectNumber_4 ?_ ?_
  · refine ok_aload_n hE 0 rfl dX5_expectNumber_9 ?_
    refine ok_getA hE fl_X5_15 shP_0 rfl dX5_expectNumber_10 ?_
    refine ok_aload_n hE 0 rfl dX5_expectNumber_13 ?_
    refine ok_getI hE fl_X5_35 shP_0 rfl dX5_expectNumber_14 ?_
    refine ok_iaload hE shP_2 dX5_expectNumber_17 ?_
    refine ok_istore_n hE (fun v1 => [(3, .int v1), (0, .ref (E.Y.ad 0)), (1, .int p1), (2, .int p2)]) (fun _ => rfl) rfl dX5_expectNumber_18 (fun v1 => ?_)
    refine ok_aload_n hE 1 rfl dX5_expectNumber_19 ?_
    refine ok_getA hE fl_X5_9 shP_0 rfl dX5_expectNumber_20 ?_
    refine ok_aload_n hE 1 rfl dX5_expectNumber_23 ?_
    refine ok_getI hE fl_X5_35 shP_0 rfl dX5_expectNumber_24 ?_
    refine ok_iaload hE shP_1 dX5_expectNumber_27 ?_
    refine ok_iconst hE (2 : Int32) ki_2 dX5_expectNumber_28 ?_
    refine ok_icmp_eq hE 40 rfl dX5_expectNumber_29 ?_ ?_
    · refine ok_aload_n hE 1 rfl dX5_expectNumber_40 ?_
      refine ok_getA hE fl_X5_18 shP_0 rfl dX5_expectNumber_41 ?_
      refine ok_aload_n hE 1 rfl dX5_expectNumber_44 ?_
      refine ok_getI hE fl_X5_35 shP_0 rfl dX5_expectNumber_45 ?_
      refine ok_iaload hE shP_3 dX5_expectNumber_48 ?_
      refine ok_iconst hE (4 : Int32) ki_4 dX5_expectNumber_49 ?_
      refine ok_icmp_le hE 63 rfl dX5_expectNumber_50 ?_ ?_
      · refine ok_iconst hE (0 : Int32) ki_0 dX5_expectNumber_63 ?_
        refine ok_istore hE (fun v2 => [(4, .int v2), (3, .int v1), (0, .ref (E.Y.ad 0)), (1, .int p1), (2, .int p2)]) (fun _ => rfl) rfl dX5_expectNumber_64 (fun v2 => ?_)
        refine ok_iconst hE (0 : Int32) ki_0 dX5_expectNumber_66 ?_
        refine ok_istore hE (fun v3 => [(5, .int v3), (4, .int v2), (3, .int v1), (0, .ref (E.Y.ad 0)), (1, .int p1), (2, .int p2)]) (fun _ => rfl) rfl dX5_expectNumber_67 (fun v3 => ?_)
        refine ok_fun (fun j => ∀ (u_3 : Int32), Ok E 111 [(0, .ref (E.Y.ad 0)), (1, .int p1), (2, .int p2), (3, .int v1), (4, .int u_3)] [] M (j u_3) (KI E)) (fun u_3 => ?_) (fun j111 hj111 => ?_)
        · refine ok_iload hE 4 rfl dX5_expectNumber_111 ?_
          refine ok_iload_n hE 1 rfl dX5_expectNumber_113 ?_
          refine ok_fun (fun j => ∀ (M_4 : Mm), Ok E 129 [(0, .ref (E.Y.ad 0)), (4, .int u_3)] [] M_4 (j M_4) (KI E)) (fun M_4 => ?_) (fun j129 hj129 => ?_)
          · refine ok_aload_n hE 0 rfl dX5_expectNumber_129 ?_
            refine ok_dup hE rfl dX5_expectNumber_130 ?_
            refine ok_getI hE fl_X5_35 shP_0 rfl dX5_expectNumber_131 ?_
            refine ok_iconst hE (1 : Int32) ki_1 dX5_expectNumber_134 ?_
            refine ok_iadd hE dX5_expectNumber_135 ?_
            refine ok_putI hE fl_X5_35 shP_0 rfl dX5_expectNumber_136 (fun M6 => ?_)
            refine ok_iload hE 1 rfl dX5_expectNumber_139 ?_
            exact ok_ireturn hE dX5_expectNumber_141
          refine ok_fun (fun j => ∀ (_ : Unit), Ok E 123 [(0, .ref (E.Y.ad 0)), (3, .int v1), (4, .int u_3)] [] M (j ()) (KI E)) (fun _ => ?_) (fun j123 hj123 => ?_)
          · refine ok_aload_n hE 0 rfl dX5_expectNumber_123 ?_
            refine ok_iconst hE (2 : Int32) ki_2 dX5_expectNumber_124 ?_
            refine ok_iload_n hE 1 rfl dX5_expectNumber_125 ?_
            refine ok_cvV hE rmP_DFail [.int (2 : Int32), .int v1] [] rfl ca_X5_119 shP_0 rfl (fun _ hx => mP_DFail hE.sys _ _  _ _ hx) ⟨rfl, rfl, rfl, rfl⟩ rfl rfl dX5_expectNumber_126 (fun M7 => ?_)
            exact ok_sub [0, 2] rfl (hj129 M7)
          refine ok_icmp_lt hE 123 rfl dX5_expectNumber_114 ?_ ?_
          · exact ok_sub [0, 3, 4] rfl (hj123 ())
          · refine ok_iload hE 4 rfl dX5_expectNumber_117 ?_
            refine ok_iload_n hE 2 rfl dX5_expectNumber_119 ?_
            refine ok_icmp_le hE 129 rfl dX5_expectNumber_120 ?_ ?_
            · exact ok_sub [0, 4] rfl (hj129 M)
            · exact ok_sub [0, 3, 4] rfl (hj123 ())
        refine ok_sub [3, 4, 5, 2, 1, 0] rfl (ok_loop (σ := Int32 × Int32) 69 (fun x8 => [(0, .ref (E.Y.ad 0)), (1, .int p1), (2, .int p2), (3, .int v1), (4, .int x8.1), (5, .int x8.2)]) (fun x8 => M) (fun rec69 hrec69 x8 => ?_) 1000000 (v2, v3))
        refine ok_iload hE 5 rfl dX5_expectNumber_69 ?_
        refine ok_aload_n hE 0 rfl dX5_expectNumber_71 ?_
        refine ok_getA hE fl_X5_18 shP_0 rfl dX5_expectNumber_72 ?_
        refine ok_aload_n hE 0 rfl dX5_expectNumber_75 ?_
        refine ok_getI hE fl_X5_35 shP_0 rfl dX5_expectNumber_76 ?_
        refine ok_iaload hE shP_3 dX5_expectNumber_79 ?_
        refine ok_icmp_ge hE 111 rfl dX5_expectNumber_80 ?_ ?_
        · exact ok_sub [0, 1, 2, 3, 4] rfl (hj111 x8.1)
        · refine ok_iload hE 4 rfl dX5_expectNumber_83 ?_
          refine ok_bipush hE (10 : Int32) kb_10 dX5_expectNumber_85 ?_
          refine ok_imul hE dX5_expectNumber_87 ?_
          refine ok_aload_n hE 0 rfl dX5_expectNumber_88 ?_
          refine ok_getA hE fl_X5_27 shP_0 rfl dX5_expectNumber_89 ?_
          refine ok_iload_n hE 3 rfl dX5_expectNumber_92 ?_
          refine ok_iload hE 5 rfl dX5_expectNumber_93 ?_
          refine ok_iadd hE dX5_expectNumber_95 ?_
          refine ok_cvIp hE rmP_TByteAt [.int (v1 + x8.2)] [.int (x8.1 * (10 : Int32))] rfl ca_X5_243 shP_5 rfl (fun _ hx => mP_TByteAt hE.sys _  _ _ hx) ⟨rfl, rfl, rfl, rfl⟩ rfl rfl dX5_expectNumber_96 (fun r9 => ?_)
          refine ok_iadd hE dX5_expectNumber_99 ?_
          refine ok_bipush hE (48 : Int32) kb_48 dX5_expectNumber_100 ?_
          refine ok_isub hE dX5_expectNumber_102 ?_
          refine ok_istore hE (fun v10 => [(4, .int v10), (0, .ref (E.Y.ad 0)), (1, .int p1), (2, .int p2), (3, .int v1), (5, .int x8.2)]) (fun _ => rfl) rfl dX5_expectNumber_103 (fun v10 => ?_)
          refine ok_iinc hE 5 (x8.2 + (1 : Int32)) (by rw [ko_1]) (fun v11 => [(5, .int v11), (4, .int v10), (0, .ref (E.Y.ad 0)), (1, .int p1), (2, .int p2), (3, .int v1)]) rfl (fun _ => rfl) rfl dX5_expectNumber_105 (fun v11 => ?_)
          refine ok_goto hE 69 rfl dX5_expectNumber_108 ?_
          exact ok_sub [2, 3, 4, 5, 1, 0] rfl (hrec69 (v10, v11))
      · refine ok_aload_n hE 1 rfl dX5_expectNumber_53 ?_
        refine ok_iconst hE (1 : Int32) ki_1 dX5_expectNumber_54 ?_
        refine ok_iload_n hE 0 rfl dX5_expectNumber_55 ?_
        refine ok_iconst hE (4 : Int32) ki_4 dX5_expectNumber_56 ?_
        refine ok_iadd hE dX5_expectNumber_57 ?_
        refine ok_cvV hE rmP_DFail [.int (1 : Int32), .int (v1 + (4 : Int32))] [] rfl ca_X5_119 shP_0 rfl (fun _ hx => mP_DFail hE.sys _ _  _ _ hx) ⟨rfl, rfl, rfl, rfl⟩ rfl rfl dX5_expectNumber_58 (fun M12 => ?_)
        refine ok_iload_n hE 2 rfl dX5_expectNumber_61 ?_
        exact ok_ireturn hE dX5_expectNumber_62
    · refine ok_aload_n hE 1 rfl dX5_expectNumber_32 ?_
      refine ok_iconst hE (1 : Int32) ki_1 dX5_expectNumber_33 ?_
      refine ok_iload_n hE 0 rfl dX5_expectNumber_34 ?_
      refine ok_cvV hE rmP_DFail [.int (1 : Int32), .int v1] [] rfl ca_X5_119 shP_0 rfl (fun _ hx => mP_DFail hE.sys _ _  _ _ hx) ⟨rfl, rfl, rfl, rfl⟩ rfl rfl dX5_expectNumber_35 (fun M13 => ?_)
      refine ok_iload_n hE 2 rfl dX5_expectNumber_38 ?_
      exact ok_ireturn hE dX5_expectNumber_39
  · refine ok_iload_n hE 1 rfl dX5_expectNumber_7 ?_
    exact ok_ireturn hE dX5_expectNumber_8
theorem mP_DExpectNumber {l : Launch} {Y : Sys} {t : Nat} (hY : SysOk Y t shP) (p1 : Int32) (p2 : Int32)  (M : Mm) (r : (Int32 × Mm)) (h : P_DExpectNumber p1 p2 M = some r) : Cm l Y t yX5_expectNumber (WS yX5_expectNumber cX5_expectNumber 6 (some .int)) rmP_DExpectNumber [.ref (Y.ad 0), .int p1, .int p2] M (enI r) := by
  refine cm_of (own := RX5) hY rfl rfl (Nat.le_of_ble_eq_true rfl) (fun E hE e1 e2 e3 e4 => ?_)
  subst e1
  exact tP_DExpectNumber E hE p1 p2  M r h e4.symm
def P_DIsSign (p1 : Int32) (M : Mm) : Option Int32 :=
 ald (gI M 0 6) 1601 (if (gI M 1 (ix (gI M 0 6))) = (3 : Int32) then
 (ald (gI M 0 6) 1601 (bnd (P_TByteAt (gI M 2 (ix (gI M 0 6))) M) fun r1 =>
 if r1 = p1 then
 (some (1 : Int32))
 else
 (some (0 : Int32))))
 else
 (some (0 : Int32)))
abbrev rmP_DIsSign : Room := { frames := 1, cells := 0, slots := 0, locals := 21 }
set_option maxHeartbeats 4000000 in
set_option maxRecDepth 100000 in
theorem tP_DIsSign (E : Cx) (hE : CxOk E cX5_isSign RX5 shP (some .boolean) rmP_DIsSign 2) (p1 : Int32)  (M : Mm) : Ok E 0 [(0, .ref (E.Y.ad 0)), (1, .int p1)] [] M (P_DIsSign p1 M) (KIp E M) := by
  unfold P_DIsSign
  refine ok_aload_n hE 0 rfl dX5_isSign_0 ?_
  refine ok_getA hE fl_X5_9 shP_0 rfl dX5_isSign_1 ?_
  refine ok_aload_n hE 0 rfl dX5_isSign_4 ?_
  refine ok_getI hE fl_X5_35 shP_0 rfl dX5_isSign_5 ?_
  refine ok_iaload hE shP_1 dX5_isSign_8 ?_
  refine ok_iconst hE (3 : Int32) ki_3 dX5_isSign_9 ?_
  refine ok_icmp_ne hE 37 rfl dX5_isSign_10 ?_ ?_
  · refine ok_iconst hE (0 : Int32) ki_0 dX5_isSign_37 ?_
    exact ok_zreturnP hE (Or.inl rfl) dX5_isSign_38
  · refine ok_aload_n hE 0 rfl dX5_isSign_13 ?_
    refine ok_getA hE fl_X5_27 shP_0 rfl dX5_isSign_14 ?_
    refine ok_aload_n hE 0 rfl dX5_isSign_17 ?_
    refine ok_getA hE fl_X5_15 shP_0 rfl dX5_isSign_18 ?_
    refine ok_aload_n hE 0 rfl dX5_isSign_21 ?_
    refine ok_getI hE fl_X5_35 shP_0 rfl dX5_isSign_22 ?_
    refine ok_iaload hE shP_2 dX5_isSign_25 ?_
    refine ok_cvIp hE rmP_TByteAt [.int (gI M 2 (ix (gI M 0 6)))] [] rfl ca_X5_243 shP_5 rfl (fun _ hx => mP_TByteAt hE.sys _  _ _ hx) ⟨rfl, rfl, rfl, rfl⟩ rfl rfl dX5_isSign_26 (fun r1 => ?_)
    refine ok_iload_n hE 1 rfl dX5_isSign_29 ?_
    refine ok_icmp_ne hE 37 rfl dX5_isSign_30 ?_ ?_
    · refine ok_iconst hE (0 : Int32) ki_0 dX5_isSign_37 ?_
      exact ok_zreturnP hE (Or.inl rfl) dX5_isSign_38
    · refine ok_iconst hE (1 : Int32) ki_1 dX5_isSign_33 ?_
      refine ok_goto hE 38 rfl dX5_isSign_34 ?_
      exact ok_zreturnP hE (Or.inr rfl) dX5_isSign_38
theorem mP_DIsSign {l : Launch} {Y : Sys} {t : Nat} (hY : SysOk Y t shP) (p1 : Int32)  (M : Mm) (r : Int32) (h : P_DIsSign p1 M = some r) : Cm l Y t yX5_isSign (WS yX5_isSign cX5_isSign 2 (some .boolean)) rmP_DIsSign [.ref (Y.ad 0), .int p1] M ((some (.int r), M)) := by
  refine cm_of (own := RX5) hY rfl rfl (Nat.le_of_ble_eq_true rfl) (fun E hE e1 e2 e3 e4 => ?_)
  subst e1
  exact tP_DIsSign E hE p1  M r h e4.symm
def P_DExpectSign (p1 : Int32) (M : Mm) : Option Mm :=
 if (gI M 0 8) = 0 then
 (bnd (P_DIsSign p1 M) fun r1 =>
 if r1 = 0 then
 (ald (gI M 0 6) 1601 (bnd (P_DFail (1 : Int32) (gI M 2 (ix (gI M 0 6))) M) fun M2 =>
 some M2))
 else
 (lett (sI M 0 6 ((gI M 0 6) + (1 : Int32))) fun M3 =>
 some M3))
 else
 (some M)
abbrev rmP_DExpectSign : Room := { frames := 2, cells := 0, slots := 0, locals := 42 }
set_option maxHeartbeats 4000000 in
set_option maxRecDepth 100000 in
theorem tP_DExpectSign (E : Cx) (hE : CxOk E cX5_expectSign RX5 shP none rmP_DExpectSign 2) (p1 : Int32)  (M : Mm) : Ok E 0 [(0, .ref (E.Y.ad 0)), (1, .int p1)] [] M (P_DExpectSign p1 M) (KV E) := by
  unfold P_DExpectSign
  refine ok_aload_n hE 0 rfl dX5_expectSign_0 ?_
  refine ok_getI hE fl_X5_42 shP_0 rfl dX5_expectSign_1 ?_
  refine ok_if_eq hE 8 rfl dX5_expectSign_4 ?_ ?_
  · refine ok_aload_n hE 0 rfl dX5_expectSign_8 ?_
    refine ok_iload_n hE 1 rfl dX5_expectSign_9 ?_
    refine ok_cvIp hE rmP_DIsSign [.int p1] [] rfl ca_X5_211 shP_0 rfl (fun _ hx => mP_DIsSign hE.sys _  _ _ hx) ⟨rfl, rfl, rfl, rfl⟩ rfl rfl dX5_expectSign_10 (fun r1 => ?_)
    refine ok_if_eq hE 29 rfl dX5_expectSign_13 ?_ ?_
    · refine ok_aload_n hE 0 rfl dX5_expectSign_29 ?_
      refine ok_iconst hE (1 : Int32) ki_1 dX5_expectSign_30 ?_
      refine ok_aload_n hE 0 rfl dX5_expectSign_31 ?_
      refine ok_getA hE fl_X5_15 shP_0 rfl dX5_expectSign_32 ?_
      refine ok_aload_n hE 0 rfl dX5_expectSign_35 ?_
      refine ok_getI hE fl_X5_35 shP_0 rfl dX5_expectSign_36 ?_
      refine ok_iaload hE shP_2 dX5_expectSign_39 ?_
      refine ok_cvV hE rmP_DFail [.int (1 : Int32), .int (gI M 2 (ix (gI M 0 6)))] [] rfl ca_X5_119 shP_0 rfl (fun _ hx => mP_DFail hE.sys _ _  _ _ hx) ⟨rfl, rfl, rfl, rfl⟩ rfl rfl dX5_expectSign_40 (fun M2 => ?_)
      exact ok_return hE dX5_expectSign_43
    · refine ok_aload_n hE 0 rfl dX5_expectSign_16 ?_
      refine ok_dup hE rfl dX5_expectSign_17 ?_
      refine ok_getI hE fl_X5_35 shP_0 rfl dX5_expectSign_18 ?_
      refine ok_iconst hE (1 : Int32) ki_1 dX5_expectSign_21 ?_
      refine ok_iadd hE dX5_expectSign_22 ?_
      refine ok_putI hE fl_X5_35 shP_0 rfl dX5_expectSign_23 (fun M3 => ?_)
      refine ok_goto hE 43 rfl dX5_expectSign_26 ?_
      exact ok_return hE dX5_expectSign_43
  · exact ok_return hE dX5_expectSign_7
theorem mP_DExpectSign {l : Launch} {Y : Sys} {t : Nat} (hY : SysOk Y t shP) (p1 : Int32)  (M : Mm) (r : Mm) (h : P_DExpectSign p1 M = some r) : Cm l Y t yX5_expectSign (WS yX5_expectSign cX5_expectSign 2 none) rmP_DExpectSign [.ref (Y.ad 0), .int p1] M (enV r) := by
  refine cm_of (own := RX5) hY rfl rfl (Nat.le_of_ble_eq_true rfl) (fun E hE e1 e2 e3 e4 => ?_)
  subst e1
  exact tP_DExpectSign E hE p1  M r h e4.symm
def P_DReadDisk  (M : Mm) : Option Mm :=
 bnd (P_DExpectWord 1000 M) fun M1 =>
 bnd (P_DExpectNumber (64 : Int32) (9999 : Int32) M1) fun r2 =>
 lett (sI r2.2 7 0 r2.1) fun M3 =>
 bnd (P_DExpectWord 1001 M3) fun M4 =>
 bnd (P_DExpectNumber (1 : Int32) (500 : Int32) M4) fun r5 =>
 lett (sI r5.2 7 1 r5.1) fun M6 =>
 bnd (P_DExpectWord 1002 M6) fun M7 =>
 bnd (P_DExpectNumber (1 : Int32) (64 : Int32) M7) fun r8 =>
 lett (sI r8.2 7 2 r8.1) fun M9 =>
 bnd (P_DExpectSign (59 : Int32) M9) fun M10 =>
 some M10
abbrev rmP_DReadDisk : Room := { frames := 3, cells := 0, slots := 0, locals := 63 }
set_option maxHeartbeats 4000000 in
set_option maxRecDepth 100000 in
theorem tP_DReadDisk (E : Cx) (hE : CxOk E cX5_readDisk RX5 shP none rmP_DReadDisk 1)   (M : Mm) : Ok E 0 [(0, .ref (E.Y.ad 0))] [] M (P_DReadDisk  M) (KV E) := by
  unfold P_DReadDisk
  refine ok_aload_n hE 0 rfl dX5_readDisk_0 ?_
  refine ok_wget hE ws_X5_87 (by decide) dX5_readDisk_1 ?_
  refine ok_cvV hE rmP_DExpectWord [.ref (E.Y.ad 1000)] [] rfl ca_X5_91 shP_0 rfl (fun _ hx => mP_DExpectWord hE.sys _ (isW_0) _ _ hx) ⟨rfl, rfl, rfl, rfl⟩ rfl rfl dX5_readDisk_4 (fun M1 => ?_)
  refine ok_aload_n hE 0 rfl dX5_readDisk_7 ?_
  refine ok_getA hE fl_X5_31 shP_0 rfl dX5_readDisk_8 ?_
  refine ok_aload_n hE 0 rfl dX5_readDisk_11 ?_
  refine ok_bipush hE (64 : Int32) kb_64 dX5_readDisk_12 ?_
  refine ok_sipush hE (9999 : Int32) ks_9999 dX5_readDisk_14 ?_
  refine ok_cvI hE rmP_DExpectNumber [.int (64 : Int32), .int (9999 : Int32)] [.ref (E.Y.ad 7)] rfl ca_X5_95 shP_0 rfl (fun _ hx => mP_DExpectNumber hE.sys _ _  _ _ hx) ⟨rfl, rfl, rfl, rfl⟩ rfl rfl dX5_readDisk_17 (fun r2 => ?_)
  refine ok_putI hE fl_X5_98 shP_7 rfl dX5_readDisk_20 (fun M3 => ?_)
  refine ok_aload_n hE 0 rfl dX5_readDisk_23 ?_
  refine ok_wget hE ws_X5_103 (by decide) dX5_readDisk_24 ?_
  refine ok_cvV hE rmP_DExpectWord [.ref (E.Y.ad 1001)] [] rfl ca_X5_91 shP_0 rfl (fun _ hx => mP_DExpectWord hE.sys _ (isW_1) _ _ hx) ⟨rfl, rfl, rfl, rfl⟩ rfl rfl dX5_readDisk_27 (fun M4 => ?_)
  refine ok_aload_n hE 0 rfl dX5_readDisk_30 ?_
  refine ok_getA hE fl_X5_31 shP_0 rfl dX5_readDisk_31 ?_
  refine ok_aload_n hE 0 rfl dX5_readDisk_34 ?_
  refine ok_iconst hE (1 : Int32) ki_1 dX5_readDisk_35 ?_
  refine ok_sipush hE (500 : Int32) ks_500 dX5_readDisk_36 ?_
  refine ok_cvI hE rmP_DExpectNumber [.int (1 : Int32), .int (500 : Int32)] [.ref (E.Y.ad 7)] rfl ca_X5_95 shP_0 rfl (fun _ hx => mP_DExpectNumber hE.sys _ _  _ _ hx) ⟨rfl, rfl, rfl, rfl⟩ rfl rfl dX5_readDisk_39 (fun r5 => ?_)
  refine ok_putI hE fl_X5_106 shP_7 rfl dX5_readDisk_42 (fun M6 => ?_)
  refine ok_aload_n hE 0 rfl dX5_readDisk_45 ?_
  refine ok_wget hE ws_X5_109 (by decide) dX5_readDisk_46 ?_
  refine ok_cvV hE rmP_DExpectWord [.ref (E.Y.ad 1002)] [] rfl ca_X5_91 shP_0 rfl (fun _ hx => mP_DExpectWord hE.sys _ (isW_2) _ _ hx) ⟨rfl, rfl, rfl, rfl⟩ rfl rfl dX5_readDisk_49 (fun M7 => ?_)
  refine ok_aload_n hE 0 rfl dX5_readDisk_52 ?_
  refine ok_getA hE fl_X5_31 shP_0 rfl dX5_readDisk_53 ?_
  refine ok_aload_n hE 0 rfl dX5_readDisk_56 ?_
  refine ok_iconst hE (1 : Int32) ki_1 dX5_readDisk_57 ?_
  refine ok_bipush hE (64 : Int32) kb_64 dX5_readDisk_58 ?_
  refine ok_cvI hE rmP_DExpectNumber [.int (1 : Int32), .int (64 : Int32)] [.ref (E.Y.ad 7)] rfl ca_X5_95 shP_0 rfl (fun _ hx => mP_DExpectNumber hE.sys _ _  _ _ hx) ⟨rfl, rfl, rfl, rfl⟩ rfl rfl dX5_readDisk_60 (fun r8 => ?_)
  refine ok_putI hE fl_X5_112 shP_7 rfl dX5_readDisk_63 (fun M9 => ?_)
  refine ok_aload_n hE 0 rfl dX5_readDisk_66 ?_
  refine ok_bipush hE (59 : Int32) kb_59 dX5_readDisk_67 ?_
  refine ok_cvV hE rmP_DExpectSign [.int (59 : Int32)] [] rfl ca_X5_115 shP_0 rfl (fun _ hx => mP_DExpectSign hE.sys _  _ _ hx) ⟨rfl, rfl, rfl, rfl⟩ rfl rfl dX5_readDisk_69 (fun M10 => ?_)
  exact ok_return hE dX5_readDisk_72
theorem mP_DReadDisk {l : Launch} {Y : Sys} {t : Nat} (hY : SysOk Y t shP)   (M : Mm) (r : Mm) (h : P_DReadDisk  M = some r) : Cm l Y t yX5_readDisk (WS yX5_readDisk cX5_readDisk 1 none) rmP_DReadDisk [.ref (Y.ad 0)] M (enV r) := by
  refine cm_of (own := RX5) hY rfl rfl (Nat.le_of_ble_eq_true rfl) (fun E hE e1 e2 e3 e4 => ?_)
  subst e1
  exact tP_DReadDisk E hE   M r h e4.symm
def P_DExpectName (p1 : Int32) (M : Mm) : Option Mm :=
 if (gI M 0 8) = 0 then
 (ald (gI M 0 6) 1601 (lett (gI M 2 (ix (gI M 0 6))) fun v1 =>
 ald (gI M 0 6) 1601 (lett (fun (_ : Unit) =>
 bnd (P_DFail (1 : Int32) v1 M) fun M2 =>
 some M2) fun j43 =>
 if (gI M 1 (ix (gI M 0 6))) = (1 : Int32) then
 (ald (gI M 0 6) 1601 (lett (gR M 4 (ix (gI M 0 6))) fun y3 =>
 if y3 = none then
 (ald (gI M 0 6) 1601 (if (gI M 3 (ix (gI M 0 6))) ≤ (6 : Int32) then
 (lett (0 : Int32) fun v4 =>
 lett (fun (M_4 : Mm) =>
 bnd (P_LHasName p1 M_4) fun r6 =>
 lett (fun (M_6 : Mm) =>
 lett (sI M_6 0 6 ((gI M_6 0 6) + (1 : Int32))) fun M8 =>
 some M8) fun j141 =>
 if r6 = 0 then
 (j141 M_4)
 else
 (bnd (P_DFail (3 : Int32) v1 M_4) fun M9 =>
 j141 M9)) fun j124 =>
 loopR (fun (rec76 : (Int32 × Mm) → Option Mm) (x10 : Int32 × Mm) =>
 ald (gI x10.2 0 6) 1601 (if (gI x10.2 3 (ix (gI x10.2 0 6))) ≤ x10.1 then
 (j124 x10.2)
 else
 (bnd (P_TByteAt (v1 + x10.1) x10.2) fun r11 =>
 ald ((p1 * (6 : Int32)) + x10.1) 36 (lett (sI x10.2 8 (ix ((p1 * (6 : Int32)) + x10.1)) ((r11 - (97 : Int32)) + (1 : Int32))) fun M12 =>
 lett (x10.1 + (1 : Int32)) fun v13 =>
 rec76 (v13, M12))))) 1000000 (v4, M))
 else
 (bnd (P_DFail (1 : Int32) (v1 + (6 : Int32)) M) fun M14 =>
 some M14)))
 else
 (j43 ())))
 else
 (j43 ()))))
 else
 (some M)
abbrev rmP_DExpectName : Room := { frames := 2, cells := 0, slots := 0, locals := 45 }
set_option maxHeartbeats 4000000 in
set_option maxRecDepth 100000 in
theorem tP_DExpectName (E : Cx) (hE : CxOk E cX5_expectName RX5 shP none rmP_DExpectName 4) (p1 : Int32)  (M : Mm) : Ok E 0 [(0, .ref (E.Y.ad 0)), (1, .int p1)] [] M (P_DExpectName p1 M) (KV E) := by
  unfold P_DExpectName
  refine ok_aload_n hE 0 rfl dX5_expectName_0 ?_
  refine ok_getI hE fl_X5_42 shP_0 rfl dX5_expectName_1 ?_
  refine ok_if_eq hE 8 rfl dX5_expectName_4 ?_ ?_
  · refine ok_aload_n hE 0 rfl dX5_expectName_8 ?_
    refine ok_getA hE fl_X5_15 shP_0 rfl dX5_expectName_9 ?_
    refine ok_aload_n hE 0 rfl dX5_expectName_12 ?_
    refine ok_getI hE fl_X5_35 shP_0 rfl dX5_expectName_13 ?_
    refine ok_iaload hE shP_2 dX5_expectName_16 ?_
    refine ok_istore_n hE (fun v1 => [(2, .int v1), (0, .ref (E.Y.ad 0)), (1, .int p1)]) (fun _ => rfl) rfl dX5_expectName_17 (fun v1 => ?_)
    refine ok_aload_n hE 1 rfl dX5_expectName_18 ?_
    refine ok_getA hE fl_X5_9 shP_0 rfl dX5_expectName_19 ?_
    refine ok_aload_n hE 1 rfl dX5_expectName_22 ?_
    refine ok_getI hE fl_X5_35 shP_0 rfl dX5_expectName_23 ?_
    refine ok_iaload hE shP_1 dX5_expectName_26 ?_
    refine ok_iconst hE (1 : Int32) ki_1 dX5_expectName_27 ?_
    refine ok_fun (fun j => ∀ (_ : Unit), Ok E 43 [(0, .ref (E.Y.ad 0)), (2, .int v1)] [] M (j ()) (KV E)) (fun _ => ?_) (fun j43 hj43 => ?_)
    · refine ok_aload_n hE 0 rfl dX5_expectName_43 ?_
      refine ok_iconst hE (1 : Int32) ki_1 dX5_expectName_44 ?_
      refine ok_iload_n hE 1 rfl dX5_expectName_45 ?_
      refine ok_cvV hE rmP_DFail [.int (1 : Int32), .int v1] [] rfl ca_X5_119 shP_0 rfl (fun _ hx => mP_DFail hE.sys _ _  _ _ hx) ⟨rfl, rfl, rfl, rfl⟩ rfl rfl dX5_expectName_46 (fun M2 => ?_)
      exact ok_return hE dX5_expectName_49
    refine ok_icmp_ne hE 43 rfl dX5_expectName_28 ?_ ?_
    · exact ok_sub [1, 0] rfl (hj43 ())
    · refine ok_aload_n hE 1 rfl dX5_expectName_31 ?_
      refine ok_getA hE fl_X5_23 shP_0 rfl dX5_expectName_32 ?_
      refine ok_aload_n hE 1 rfl dX5_expectName_35 ?_
      refine ok_getI hE fl_X5_35 shP_0 rfl dX5_expectName_36 ?_
      refine ok_aaloadRL hE shP_4 rfl dX5_expectName_39 (fun y3 => ?_)
      refine ok_ifnull hE (x := y3) 50 rfl dX5_expectName_40 ?_ ?_
      · refine ok_aload_n hE 1 rfl dX5_expectName_50 ?_
        refine ok_getA hE fl_X5_18 shP_0 rfl dX5_expectName_51 ?_
        refine ok_aload_n hE 1 rfl dX5_expectName_54 ?_
        refine ok_getI hE fl_X5_35 shP_0 rfl dX5_expectName_55 ?_
        refine ok_iaload hE shP_3 dX5_expectName_58 ?_
        refine ok_bipush hE (6 : Int32) kb_6 dX5_expectName_59 ?_
        refine ok_icmp_le hE 74 rfl dX5_expectName_61 ?_ ?_
        · refine ok_iconst hE (0 : Int32) ki_0 dX5_expectName_74 ?_
          refine ok_istore_n hE (fun v4 => [(3, .int v4), (2, .int v1), (0, .ref (E.Y.ad 0)), (1, .int p1)]) (fun _ => rfl) rfl dX5_expectName_75 (fun v4 => ?_)
          refine ok_fun (fun j => ∀ (M_4 : Mm), Ok E 124 [(0, .ref (E.Y.ad 0)), (1, .int p1), (2, .int v1)] [] M_4 (j M_4) (KV E)) (fun M_4 => ?_) (fun j124 hj124 => ?_)
          · refine ok_aload_n hE 0 rfl dX5_expectName_124 ?_
            refine ok_getA hE fl_X5_31 shP_0 rfl dX5_expectName_125 ?_
            refine ok_iload_n hE 1 rfl dX5_expectName_128 ?_
            refine ok_cvIp hE rmP_LHasName [.int p1] [] rfl ca_X5_249 shP_7 rfl (fun _ hx => mP_LHasName hE.sys _  _ _ hx) ⟨rfl, rfl, rfl, rfl⟩ rfl rfl dX5_expectName_129 (fun r6 => ?_)
            refine ok_fun (fun j => ∀ (M_6 : Mm), Ok E 141 [(0, .ref (E.Y.ad 0))] [] M_6 (j M_6) (KV E)) (fun M_6 => ?_) (fun j141 hj141 => ?_)
            · refine ok_aload_n hE 0 rfl dX5_expectName_141 ?_
              refine ok_dup hE rfl dX5_expectName_142 ?_
              refine ok_getI hE fl_X5_35 shP_0 rfl dX5_expectName_143 ?_
              refine ok_iconst hE (1 : Int32) ki_1 dX5_expectName_146 ?_
              refine ok_iadd hE dX5_expectName_147 ?_
              refine ok_putI hE fl_X5_35 shP_0 rfl dX5_expectName_148 (fun M8 => ?_)
              exact ok_return hE dX5_expectName_151
            refine ok_if_eq hE 141 rfl dX5_expectName_132 ?_ ?_
            · exact ok_sub [0] rfl (hj141 M_4)
            · refine ok_aload_n hE 0 rfl dX5_expectName_135 ?_
              refine ok_iconst hE (3 : Int32) ki_3 dX5_expectName_136 ?_
              refine ok_iload_n hE 2 rfl dX5_expectName_137 ?_
              refine ok_cvV hE rmP_DFail [.int (3 : Int32), .int v1] [] rfl ca_X5_119 shP_0 rfl (fun _ hx => mP_DFail hE.sys _ _  _ _ hx) ⟨rfl, rfl, rfl, rfl⟩ rfl rfl dX5_expectName_138 (fun M9 => ?_)
              exact ok_sub [0] rfl (hj141 M9)
          refine ok_sub [2, 3, 1, 0] rfl (ok_loop (σ := Int32 × Mm) 76 (fun x10 => [(0, .ref (E.Y.ad 0)), (1, .int p1), (2, .int v1), (3, .int x10.1)]) (fun x10 => x10.2) (fun rec76 hrec76 x10 => ?_) 1000000 (v4, M))
          refine ok_iload_n hE 3 rfl dX5_expectName_76 ?_
          refine ok_aload_n hE 0 rfl dX5_expectName_77 ?_
          refine ok_getA hE fl_X5_18 shP_0 rfl dX5_expectName_78 ?_
          refine ok_aload_n hE 0 rfl dX5_expectName_81 ?_
          refine ok_getI hE fl_X5_35 shP_0 rfl dX5_expectName_82 ?_
          refine ok_iaload hE shP_3 dX5_expectName_85 ?_
          refine ok_icmp_ge hE 124 rfl dX5_expectName_86 ?_ ?_
          · exact ok_sub [0, 1, 2] rfl (hj124 x10.2)
          · refine ok_aload_n hE 0 rfl dX5_expectName_89 ?_
            refine ok_getA hE fl_X5_31 shP_0 rfl dX5_expectName_90 ?_
            refine ok_getC hE fl_X5_246 shP_7 rfl dX5_expectName_93 ?_
            refine ok_iload_n hE 1 rfl dX5_expectName_96 ?_
            refine ok_bipush hE (6 : Int32) kb_6 dX5_expectName_97 ?_
            refine ok_imul hE dX5_expectName_99 ?_
            refine ok_iload_n hE 3 rfl dX5_expectName_100 ?_
            refine ok_iadd hE dX5_expectName_101 ?_
            refine ok_aload_n hE 0 rfl dX5_expectName_102 ?_
            refine ok_getA hE fl_X5_27 shP_0 rfl dX5_expectName_103 ?_
            refine ok_iload_n hE 2 rfl dX5_expectName_106 ?_
            refine ok_iload_n hE 3 rfl dX5_expectName_107 ?_
            refine ok_iadd hE dX5_expectName_108 ?_
            refine ok_cvIp hE rmP_TByteAt [.int (v1 + x10.1)] [.int ((p1 * (6 : Int32)) + x10.1), .ref (E.Y.ad 8)] rfl ca_X5_243 shP_5 rfl (fun _ hx => mP_TByteAt hE.sys _  _ _ hx) ⟨rfl, rfl, rfl, rfl⟩ rfl rfl dX5_expectName_109 (fun r11 => ?_)
            refine ok_bipush hE (97 : Int32) kb_97 dX5_expectName_112 ?_
            refine ok_isub hE dX5_expectName_114 ?_
            refine ok_iconst hE (1 : Int32) ki_1 dX5_expectName_115 ?_
            refine ok_iadd hE dX5_expectName_116 ?_
            refine ok_iastore hE shP_8 dX5_expectName_117 (fun M12 => ?_)
            refine ok_iinc hE 3 (x10.1 + (1 : Int32)) (by rw [ko_1]) (fun v13 => [(3, .int v13), (0, .ref (E.Y.ad 0)), (1, .int p1), (2, .int v1)]) rfl (fun _ => rfl) rfl dX5_expectName_118 (fun v13 => ?_)
            refine ok_goto hE 76 rfl dX5_expectName_121 ?_
            exact ok_sub [1, 2, 3, 0] rfl (hrec76 (v13, M12))
        · refine ok_aload_n hE 1 rfl dX5_expectName_64 ?_
          refine ok_iconst hE (1 : Int32) ki_1 dX5_expectName_65 ?_
          refine ok_iload_n hE 0 rfl dX5_expectName_66 ?_
          refine ok_bipush hE (6 : Int32) kb_6 dX5_expectName_67 ?_
          refine ok_iadd hE dX5_expectName_69 ?_
          refine ok_cvV hE rmP_DFail [.int (1 : Int32), .int (v1 + (6 : Int32))] [] rfl ca_X5_119 shP_0 rfl (fun _ hx => mP_DFail hE.sys _ _  _ _ hx) ⟨rfl, rfl, rfl, rfl⟩ rfl rfl dX5_expectName_70 (fun M14 => ?_)
          exact ok_return hE dX5_expectName_73
      · exact ok_sub [1, 0] rfl (hj43 ())
  · exact ok_return hE dX5_expectName_7
theorem mP_DExpectName {l : Launch} {Y : Sys} {t : Nat} (hY : SysOk Y t shP) (p1 : Int32)  (M : Mm) (r : Mm) (h : P_DExpectName p1 M = some r) : Cm l Y t yX5_expectName (WS yX5_expectName cX5_expectName 4 none) rmP_DExpectName [.ref (Y.ad 0), .int p1] M (enV r) := by
  refine cm_of (own := RX5) hY rfl rfl (Nat.le_of_ble_eq_true rfl) (fun E hE e1 e2 e3 e4 => ?_)
  subst e1
  exact tP_DExpectName E hE p1  M r h e4.symm
def P_DReadStep (p1 : Int32) (p2 : Int32) (M : Mm) : Option Mm :=
 ald (gI M 0 6) 1601 (lett (gR M 4 (ix (gI M 0 6))) fun y1 =>
 lett (fun (_ : Unit) =>
 if p2 < (6 : Int32) then
 (lett (fun (_ : Unit) =>
 lett ((p1 * (6 : Int32)) + p2) fun v2 =>
 lett (-1 : Int32) fun v3 =>
 lett (64 : Int32) fun v4 =>
 nn y1 fun c5 => grd (isW c5) (bnd (P_DExpectWord c5 M) fun M7 =>
 lett (fun (u_7 : Int32) (u_8 : Int32) (M_9 : Mm) =>
 ald v2 36 (lett (sI M_9 13 (ix v2) u_7) fun M11 =>
 bnd (P_DExpectWord 1017 M11) fun M12 =>
 bnd (P_DExpectNumber (1 : Int32) u_8 M12) fun r13 =>
 ald v2 36 (lett (sI r13.2 14 (ix v2) r13.1) fun M14 =>
 bnd (P_DExpectWord 1018 M14) fun M15 =>
 bnd (P_DExpectNumber (0 : Int32) (200 : Int32) M15) fun r16 =>
 ald v2 36 (lett (sI r16.2 15 (ix v2) r16.1) fun M17 =>
 some M17)))) fun j155 =>
 grd (okW (some c5) = true ∧ okW (some 1015) = true) (if (some c5) = (some 1015) then
 (bnd (P_DExpectNumber (0 : Int32) ((gI M7 7 0) - (1 : Int32)) M7) fun r18 =>
 lett r18.1 fun v19 =>
 lett (mminI (64 : Int32) ((gI r18.2 7 0) - v19)) fun v20 =>
 j155 v19 v20 r18.2)
 else
 (j155 v3 v4 M7)))) fun j95 =>
 grd (okW y1 = true ∧ okW (some 1015) = true) (if y1 = (some 1015) then
 (ald p1 6 (if (gI M 9 (ix p1)) = 0 then
 (j95 ())
 else
 (ald (gI M 0 6) 1601 (bnd (P_DFail (6 : Int32) (gI M 2 (ix (gI M 0 6))) M) fun M21 =>
 some M21))))
 else
 (j95 ())))
 else
 (ald (gI M 0 6) 1601 (bnd (P_DFail (5 : Int32) (gI M 2 (ix (gI M 0 6))) M) fun M22 =>
 some M22))) fun j39 =>
 grd (okW y1 = true ∧ okW (some 1015) = true) (if y1 = (some 1015) then
 (j39 ())
 else
 (grd (okW y1 = true ∧ okW (some 1016) = true) (if y1 = (some 1016) then
 (j39 ())
 else
 (ald (gI M 0 6) 1601 (bnd (P_DFail (1 : Int32) (gI M 2 (ix (gI M 0 6))) M) fun M23 =>
 some M23))))))
abbrev rmP_DReadStep : Room := { frames := 2, cells := 0, slots := 0, locals := 47 }
set_option maxHeartbeats 4000000 in
set_option maxRecDepth 100000 in
theorem tP_DReadStep (E : Cx) (hE : CxOk E cX5_readStep RX5 shP none rmP_DReadStep 7) (p1 : Int32) (p2 : Int32)  (M : Mm) : Ok E 0 [(0, .ref (E.Y.ad 0)), (1, .int p1), (2, .int p2)] [] M (P_DReadStep p1 p2 M) (KV E) := by
  unfold P_DReadStep
  refine ok_aload_n hE 0 rfl dX5_readStep_0 ?_
  refine ok_getA hE fl_X5_23 shP_0 rfl dX5_readStep_1 ?_
  refine ok_aload_n hE 0 rfl dX5_readStep_4 ?_
  refine ok_getI hE fl_X5_35 shP_0 rfl dX5_readStep_5 ?_
  refine ok_aaloadRL hE shP_4 rfl dX5_readStep_8 (fun y1 => ?_)
  refine ok_astoreq_n hE [(3, va_rf (y1.map E.Y.ad)), (0, .ref (E.Y.ad 0)), (1, .int p1), (2, .int p2)] rfl rfl dX5_readStep_9 ?_
  refine ok_aloadq_n hE 0 rfl dX5_readStep_10 ?_
  refine ok_wget hE ws_X5_217 (by decide) dX5_readStep_11 ?_
  refine ok_fun (fun j => ∀ (_ : Unit), Ok E 39 [(0, .ref (E.Y.ad 0)), (1, .int p1), (2, .int p2), (3, va_rf (y1.map E.Y.ad))] [] M (j ()) (KV E)) (fun _ => ?_) (fun j39 hj39 => ?_)
  · refine ok_iload_n hE 2 rfl dX5_readStep_39 ?_
    refine ok_bipush hE (6 : Int32) kb_6 dX5_readStep_40 ?_
    refine ok_icmp_lt hE 60 rfl dX5_readStep_42 ?_ ?_
    · refine ok_aloadq_n hE 3 rfl dX5_readStep_60 ?_
      refine ok_wget hE ws_X5_217 (by decide) dX5_readStep_61 ?_
      refine ok_fun (fun j => ∀ (_ : Unit), Ok E 95 [(0, .ref (E.Y.ad 0)), (1, .int p1), (2, .int p2), (3, va_rf (y1.map E.Y.ad))] [] M (j ()) (KV E)) (fun _ => ?_) (fun j95 hj95 => ?_)
      · refine ok_iload_n hE 1 rfl dX5_readStep_95 ?_
        refine ok_bipush hE (6 : Int32) kb_6 dX5_readStep_96 ?_
        refine ok_imul hE dX5_readStep_98 ?_
        refine ok_iload_n hE 2 rfl dX5_readStep_99 ?_
        refine ok_iadd hE dX5_readStep_100 ?_
        refine ok_istore hE (fun v2 => [(4, .int v2), (0, .ref (E.Y.ad 0)), (1, .int p1), (2, .int p2), (3, va_rf (y1.map E.Y.ad))]) (fun _ => by cases y1 <;> rfl) rfl dX5_readStep_101 (fun v2 => ?_)
        refine ok_iconst hE (-1 : Int32) ki_m1 dX5_readStep_103 ?_
        refine ok_istore hE (fun v3 => [(5, .int v3), (4, .int v2), (0, .ref (E.Y.ad 0)), (1, .int p1), (2, .int p2), (3, va_rf (y1.map E.Y.ad))]) (fun _ => rfl) rfl dX5_readStep_104 (fun v3 => ?_)
        refine ok_bipush hE (64 : Int32) kb_64 dX5_readStep_106 ?_
        refine ok_istore hE (fun v4 => [(6, .int v4), (5, .int v3), (4, .int v2), (0, .ref (E.Y.ad 0)), (1, .int p1), (2, .int p2), (3, va_rf (y1.map E.Y.ad))]) (fun _ => rfl) rfl dX5_readStep_108 (fun v4 => ?_)
        refine ok_aload_n hE 3 rfl dX5_readStep_110 ?_
        refine ok_aloadq_n hE 6 rfl dX5_readStep_111 ?_
        rcases y1 with _ | c5
        · exact fun r hr => by cases hr
        dsimp only [nn]
        refine ok_grd (fun hc6 => ?_)
        refine ok_cvV hE rmP_DExpectWord [.ref (E.Y.ad c5)] [] rfl ca_X5_91 shP_0 rfl (fun _ hx => mP_DExpectWord hE.sys _ hc6 _ _ hx) ⟨rfl, rfl, rfl, rfl⟩ rfl rfl dX5_readStep_112 (fun M7 => ?_)
        refine ok_aload_n hE 6 rfl dX5_readStep_115 ?_
        refine ok_wget hE ws_X5_217 (by decide) dX5_readStep_116 ?_
        refine ok_fun (fun j => ∀ (u_7 : Int32) (u_8 : Int32) (M_9 : Mm), Ok E 155 [(0, .ref (E.Y.ad 0)), (4, .int v2), (5, .int u_7), (6, .int u_8)] [] M_9 (j u_7 u_8 M_9) (KV E)) (fun u_7 u_8 M_9 => ?_) (fun j155 hj155 => ?_)
        · refine ok_aload_n hE 0 rfl dX5_readStep_155 ?_
          refine ok_getA hE fl_X5_31 shP_0 rfl dX5_readStep_156 ?_
          refine ok_getC hE fl_X5_228 shP_7 rfl dX5_readStep_159 ?_
          refine ok_iload hE 1 rfl dX5_readStep_162 ?_
          refine ok_iload hE 2 rfl dX5_readStep_164 ?_
          refine ok_iastore hE shP_13 dX5_readStep_166 (fun M11 => ?_)
          refine ok_aload_n hE 0 rfl dX5_readStep_167 ?_
          refine ok_wget hE ws_X5_231 (by decide) dX5_readStep_168 ?_
          refine ok_cvV hE rmP_DExpectWord [.ref (E.Y.ad 1017)] [] rfl ca_X5_91 shP_0 rfl (fun _ hx => mP_DExpectWord hE.sys _ (isW_17) _ _ hx) ⟨rfl, rfl, rfl, rfl⟩ rfl rfl dX5_readStep_171 (fun M12 => ?_)
          refine ok_aload_n hE 0 rfl dX5_readStep_174 ?_
          refine ok_getA hE fl_X5_31 shP_0 rfl dX5_readStep_175 ?_
          refine ok_getC hE fl_X5_234 shP_7 rfl dX5_readStep_178 ?_
          refine ok_iload hE 1 rfl dX5_readStep_181 ?_
          refine ok_aload_n hE 0 rfl dX5_readStep_183 ?_
          refine ok_iconst hE (1 : Int32) ki_1 dX5_readStep_184 ?_
          refine ok_iload hE 3 rfl dX5_readStep_185 ?_
          refine ok_cvI hE rmP_DExpectNumber [.int (1 : Int32), .int u_8] [.int v2, .ref (E.Y.ad 14)] rfl ca_X5_95 shP_0 rfl (fun _ hx => mP_DExpectNumber hE.sys _ _  _ _ hx) ⟨rfl, rfl, rfl, rfl⟩ rfl rfl dX5_readStep_187 (fun r13 => ?_)
          refine ok_iastore hE shP_14 dX5_readStep_190 (fun M14 => ?_)
          refine ok_aload_n hE 0 rfl dX5_readStep_191 ?_
          refine ok_wget hE ws_X5_237 (by decide) dX5_readStep_192 ?_
          refine ok_cvV hE rmP_DExpectWord [.ref (E.Y.ad 1018)] [] rfl ca_X5_91 shP_0 rfl (fun _ hx => mP_DExpectWord hE.sys _ (isW_18) _ _ hx) ⟨rfl, rfl, rfl, rfl⟩ rfl rfl dX5_readStep_195 (fun M15 => ?_)
          refine ok_aload_n hE 0 rfl dX5_readStep_198 ?_
          refine ok_getA hE fl_X5_31 shP_0 rfl dX5_readStep_199 ?_
          refine ok_getC hE fl_X5_240 shP_7 rfl dX5_readStep_202 ?_
          refine ok_iload hE 1 rfl dX5_readStep_205 ?_
          refine ok_aload_n hE 0 rfl dX5_readStep_207 ?_
          refine ok_iconst hE (0 : Int32) ki_0 dX5_readStep_208 ?_
          refine ok_sipush hE (200 : Int32) ks_200 dX5_readStep_209 ?_
          refine ok_cvI hE rmP_DExpectNumber [.int (0 : Int32), .int (200 : Int32)] [.int v2, .ref (E.Y.ad 15)] rfl ca_X5_95 shP_0 rfl (fun _ hx => mP_DExpectNumber hE.sys _ _  _ _ hx) ⟨rfl, rfl, rfl, rfl⟩ rfl rfl dX5_readStep_212 (fun r16 => ?_)
          refine ok_iastore hE shP_15 dX5_readStep_215 (fun M17 => ?_)
          exact ok_return hE dX5_readStep_216
        refine ok_acmp_ne hE (x := (some c5)) (y := (some 1015)) 155 rfl dX5_readStep_119 ?_ ?_
        · exact ok_sub [3, 2, 1, 0] rfl (hj155 v3 v4 M7)
        · refine ok_aload_n hE 3 rfl dX5_readStep_122 ?_
          refine ok_iconst hE (0 : Int32) ki_0 dX5_readStep_123 ?_
          refine ok_aload_n hE 3 rfl dX5_readStep_124 ?_
          refine ok_getA hE fl_X5_31 shP_0 rfl dX5_readStep_125 ?_
          refine ok_getI hE fl_X5_98 shP_7 rfl dX5_readStep_128 ?_
          refine ok_iconst hE (1 : Int32) ki_1 dX5_readStep_131 ?_
          refine ok_isub hE dX5_readStep_132 ?_
          refine ok_cvI hE rmP_DExpectNumber [.int (0 : Int32), .int ((gI M7 7 0) - (1 : Int32))] [] rfl ca_X5_95 shP_0 rfl (fun _ hx => mP_DExpectNumber hE.sys _ _  _ _ hx) ⟨rfl, rfl, rfl, rfl⟩ rfl rfl dX5_readStep_133 (fun r18 => ?_)
          refine ok_istore hE (fun v19 => [(5, .int v19), (6, .int v4), (4, .int v2), (0, .ref (E.Y.ad 0)), (1, .int p1), (2, .int p2), (3, .ref (E.Y.ad c5))]) (fun _ => rfl) rfl dX5_readStep_136 (fun v19 => ?_)
          refine ok_bipush hE (64 : Int32) kb_64 dX5_readStep_138 ?_
          refine ok_aload_n hE 3 rfl dX5_readStep_140 ?_
          refine ok_getA hE fl_X5_31 shP_0 rfl dX5_readStep_141 ?_
          refine ok_getI hE fl_X5_98 shP_7 rfl dX5_readStep_144 ?_
          refine ok_iload hE 0 rfl dX5_readStep_147 ?_
          refine ok_isub hE dX5_readStep_149 ?_
          refine ok_mmin hE mt_X5_223 ⟨rfl, rfl⟩ dX5_readStep_150 ?_
          refine ok_istore hE (fun v20 => [(6, .int v20), (5, .int v19), (4, .int v2), (0, .ref (E.Y.ad 0)), (1, .int p1), (2, .int p2), (3, .ref (E.Y.ad c5))]) (fun _ => rfl) rfl dX5_readStep_153 (fun v20 => ?_)
          exact ok_sub [3, 2, 1, 0] rfl (hj155 v19 v20 r18.2)
      refine ok_acmp_ne hE (x := y1) (y := (some 1015)) 95 rfl dX5_readStep_64 ?_ ?_
      · exact ok_sub [0, 1, 2, 3] rfl (hj95 ())
      · refine ok_aload_n hE 0 rfl dX5_readStep_67 ?_
        refine ok_getA hE fl_X5_31 shP_0 rfl dX5_readStep_68 ?_
        refine ok_getC hE fl_X5_189 shP_7 rfl dX5_readStep_71 ?_
        refine ok_iload_n hE 1 rfl dX5_readStep_74 ?_
        refine ok_baload hE shP_9 dX5_readStep_75 ?_
        refine ok_if_eq hE 95 rfl dX5_readStep_76 ?_ ?_
        · exact ok_sub [0, 1, 2, 3] rfl (hj95 ())
        · refine ok_aload_n hE 0 rfl dX5_readStep_79 ?_
          refine ok_bipush hE (6 : Int32) kb_6 dX5_readStep_80 ?_
          refine ok_aload_n hE 0 rfl dX5_readStep_82 ?_
          refine ok_getA hE fl_X5_15 shP_0 rfl dX5_readStep_83 ?_
          refine ok_aload_n hE 0 rfl dX5_readStep_86 ?_
          refine ok_getI hE fl_X5_35 shP_0 rfl dX5_readStep_87 ?_
          refine ok_iaload hE shP_2 dX5_readStep_90 ?_
          refine ok_cvV hE rmP_DFail [.int (6 : Int32), .int (gI M 2 (ix (gI M 0 6)))] [] rfl ca_X5_119 shP_0 rfl (fun _ hx => mP_DFail hE.sys _ _  _ _ hx) ⟨rfl, rfl, rfl, rfl⟩ rfl rfl dX5_readStep_91 (fun M21 => ?_)
          exact ok_return hE dX5_readStep_94
    · refine ok_aload_n hE 0 rfl dX5_readStep_45 ?_
      refine ok_iconst hE (5 : Int32) ki_5 dX5_readStep_46 ?_
      refine ok_aload_n hE 0 rfl dX5_readStep_47 ?_
      refine ok_getA hE fl_X5_15 shP_0 rfl dX5_readStep_48 ?_
      refine ok_aload_n hE 0 rfl dX5_readStep_51 ?_
      refine ok_getI hE fl_X5_35 shP_0 rfl dX5_readStep_52 ?_
      refine ok_iaload hE shP_2 dX5_readStep_55 ?_
      refine ok_cvV hE rmP_DFail [.int (5 : Int32), .int (gI M 2 (ix (gI M 0 6)))] [] rfl ca_X5_119 shP_0 rfl (fun _ hx => mP_DFail hE.sys _ _  _ _ hx) ⟨rfl, rfl, rfl, rfl⟩ rfl rfl dX5_readStep_56 (fun M22 => ?_)
      exact ok_return hE dX5_readStep_59
  refine ok_acmp_eq hE (x := y1) (y := (some 1015)) 39 rfl dX5_readStep_14 ?_ ?_
  · exact ok_sub [1, 2, 3, 0] rfl (hj39 ())
  · refine ok_aloadq_n hE 0 rfl dX5_readStep_17 ?_
    refine ok_wget hE ws_X5_220 (by decide) dX5_readStep_18 ?_
    refine ok_acmp_eq hE (x := y1) (y := (some 1016)) 39 rfl dX5_readStep_21 ?_ ?_
    · exact ok_sub [1, 2, 3, 0] rfl (hj39 ())
    · refine ok_aload_n hE 1 rfl dX5_readStep_24 ?_
      refine ok_iconst hE (1 : Int32) ki_1 dX5_readStep_25 ?_
      refine ok_aload_n hE 1 rfl dX5_readStep_26 ?_
      refine ok_getA hE fl_X5_15 shP_0 rfl dX5_readStep_27 ?_
      refine ok_aload_n hE 1 rfl dX5_readStep_30 ?_
      refine ok_getI hE fl_X5_35 shP_0 rfl dX5_readStep_31 ?_
      refine ok_iaload hE shP_2 dX5_readStep_34 ?_
      refine ok_cvV hE rmP_DFail [.int (1 : Int32), .int (gI M 2 (ix (gI M 0 6)))] [] rfl ca_X5_119 shP_0 rfl (fun _ hx => mP_DFail hE.sys _ _  _ _ hx) ⟨rfl, rfl, rfl, rfl⟩ rfl rfl dX5_readStep_35 (fun M23 => ?_)
      exact ok_return hE dX5_readStep_38
theorem mP_DReadStep {l : Launch} {Y : Sys} {t : Nat} (hY : SysOk Y t shP) (p1 : Int32) (p2 : Int32)  (M : Mm) (r : Mm) (h : P_DReadStep p1 p2 M = some r) : Cm l Y t yX5_readStep (WS yX5_readStep cX5_readStep 7 none) rmP_DReadStep [.ref (Y.ad 0), .int p1, .int p2] M (enV r) := by
  refine cm_of (own := RX5) hY rfl rfl (Nat.le_of_ble_eq_true rfl) (fun E hE e1 e2 e3 e4 => ?_)
  subst e1
  exact tP_DReadStep E hE p1 p2  M r h e4.symm
def P_DReadProcess (p1 : Nat) (M : Mm) : Option Mm :=
 lett (gI M 7 11) fun v1 =>
 if v1 < (6 : Int32) then
 (bnd (P_DExpectWord p1 M) fun M2 =>
 bnd (P_DExpectName v1 M2) fun M3 =>
 lett (sI M3 7 11 (v1 + (1 : Int32))) fun M4 =>
 lett (fun (w_4 : Int32) =>
 grd (w_4 = 0 ∨ w_4 = 1) (ald v1 6 (lett (sI M4 9 (ix v1) w_4) fun M6 =>
 bnd (P_DExpectWord 1011 M6) fun M7 =>
 bnd (P_DExpectNumber (1 : Int32) (100 : Int32) M7) fun r8 =>
 ald v1 6 (lett (sI r8.2 10 (ix v1) r8.1) fun M9 =>
 bnd (P_DExpectWord 1012 M9) fun M10 =>
 bnd (P_DExpectNumber (0 : Int32) (999 : Int32) M10) fun r11 =>
 ald v1 6 (lett (sI r11.2 11 (ix v1) r11.1) fun M12 =>
 bnd (P_DExpectWord 1013 M12) fun M13 =>
 lett (0 : Int32) fun v14 =>
 lett (1 : Int32) fun v15 =>
 lett (fun (u_15 : Int32) (M_16 : Mm) =>
 ald v1 6 (lett (sI M_16 12 (ix v1) u_15) fun M18 =>
 some M18)) fun j186 =>
 loopR (fun (rec129 : (Int32 × Int32 × Mm) → Option Mm) (x19 : Int32 × Int32 × Mm) =>
 if (gI x19.2.2 0 8) = 0 then
 (if x19.2.1 = 0 then
 (j186 x19.1 x19.2.2)
 else
 (if (6 : Int32) < x19.1 then
 (j186 x19.1 x19.2.2)
 else
 (bnd (P_DReadStep v1 x19.1 x19.2.2) fun M20 =>
 lett (x19.1 + (1 : Int32)) fun v21 =>
 bnd (P_DIsSign (44 : Int32) M20) fun r22 =>
 lett r22 fun v23 =>
 lett (fun (w_23 : Int32) =>
 lett (sI M20 0 6 ((gI M20 0 6) + w_23)) fun M25 =>
 rec129 (v21, v23, M25)) fun j179 =>
 if v23 = 0 then
 (j179 (0 : Int32))
 else
 (j179 (1 : Int32)))))
 else
 (j186 x19.1 x19.2.2)) 1000000 (v14, v15, M13)))))) fun j69 =>
 grd (okW (some p1) = true ∧ okW (some 1014) = true) (if (some p1) = (some 1014) then
 (j69 (1 : Int32))
 else
 (j69 (0 : Int32))))
 else
 (ald (gI M 0 6) 1601 (bnd (P_DFail (5 : Int32) (gI M 2 (ix (gI M 0 6))) M) fun M26 =>
 some M26))
abbrev rmP_DReadProcess : Room := { frames := 3, cells := 0, slots := 0, locals := 73 }
set_option maxHeartbeats 4000000 in
set_option maxRecDepth 100000 in
theorem tP_DReadProcess (E : Cx) (hE : CxOk E cX5_readProcess RX5 shP none rmP_DReadProcess 5) (p1 : Nat) (hp1 : isW p1) (M : Mm) : Ok E 0 [(0, .ref (E.Y.ad 0)), (1, .ref (E.Y.ad p1))] [] M (P_DReadProcess p1 M) (KV E) := by
  unfold P_DReadProcess
  refine ok_aload_n hE 0 rfl dX5_readProcess_0 ?_
  refine ok_getA hE fl_X5_31 shP_0 rfl dX5_readProcess_1 ?_
  refine ok_getI hE fl_X5_183 shP_7 rfl dX5_readProcess_4 ?_
  refine ok_istore_n hE (fun v1 => [(2, .int v1), (0, .ref (E.Y.ad 0)), (1, .ref (E.Y.ad p1))]) (fun _ => rfl) rfl dX5_readProcess_7 (fun v1 => ?_)
  refine ok_iload_n hE 0 rfl dX5_readProcess_8 ?_
  refine ok_bipush hE (6 : Int32) kb_6 dX5_readProcess_9 ?_
  refine ok_icmp_lt hE 29 rfl dX5_readProcess_11 ?_ ?_
  · refine ok_aload_n hE 1 rfl dX5_readProcess_29 ?_
    refine ok_aload_n hE 2 rfl dX5_readProcess_30 ?_
    refine ok_cvV hE rmP_DExpectWord [.ref (E.Y.ad p1)] [] rfl ca_X5_91 shP_0 rfl (fun _ hx => mP_DExpectWord hE.sys _ hp1 _ _ hx) ⟨rfl, rfl, rfl, rfl⟩ rfl rfl dX5_readProcess_31 (fun M2 => ?_)
    refine ok_aload_n hE 1 rfl dX5_readProcess_34 ?_
    refine ok_iload_n hE 0 rfl dX5_readProcess_35 ?_
    refine ok_cvV hE rmP_DExpectName [.int v1] [] rfl ca_X5_186 shP_0 rfl (fun _ hx => mP_DExpectName hE.sys _  _ _ hx) ⟨rfl, rfl, rfl, rfl⟩ rfl rfl dX5_readProcess_36 (fun M3 => ?_)
    refine ok_aload_n hE 1 rfl dX5_readProcess_39 ?_
    refine ok_getA hE fl_X5_31 shP_0 rfl dX5_readProcess_40 ?_
    refine ok_iload_n hE 0 rfl dX5_readProcess_43 ?_
    refine ok_iconst hE (1 : Int32) ki_1 dX5_readProcess_44 ?_
    refine ok_iadd hE dX5_readProcess_45 ?_
    refine ok_putI hE fl_X5_183 shP_7 rfl dX5_readProcess_46 (fun M4 => ?_)
    refine ok_aload_n hE 1 rfl dX5_readProcess_49 ?_
    refine ok_getA hE fl_X5_31 shP_0 rfl dX5_readProcess_50 ?_
    refine ok_getC hE fl_X5_189 shP_7 rfl dX5_readProcess_53 ?_
    refine ok_iload_n hE 0 rfl dX5_readProcess_56 ?_
    refine ok_aload_n hE 2 rfl dX5_readProcess_57 ?_
    refine ok_wget hE ws_X5_132 (by decide) dX5_readProcess_58 ?_
    refine ok_fun (fun j => ∀ (w_4 : Int32), Ok E 69 [(0, .ref (E.Y.ad 0)), (2, .int v1)] [.int w_4, .int v1, .ref (E.Y.ad 9)] M4 (j w_4) (KV E)) (fun w_4 => ?_) (fun j69 hj69 => ?_)
    · refine ok_bastoreG hE shP_9 dX5_readProcess_69 (fun M6 => ?_)
      refine ok_aload_n hE 0 rfl dX5_readProcess_70 ?_
      refine ok_wget hE ws_X5_193 (by decide) dX5_readProcess_71 ?_
      refine ok_cvV hE rmP_DExpectWord [.ref (E.Y.ad 1011)] [] rfl ca_X5_91 shP_0 rfl (fun _ hx => mP_DExpectWord hE.sys _ (isW_11) _ _ hx) ⟨rfl, rfl, rfl, rfl⟩ rfl rfl dX5_readProcess_74 (fun M7 => ?_)
      refine ok_aload_n hE 0 rfl dX5_readProcess_77 ?_
      refine ok_getA hE fl_X5_31 shP_0 rfl dX5_readProcess_78 ?_
      refine ok_getC hE fl_X5_196 shP_7 rfl dX5_readProcess_81 ?_
      refine ok_iload_n hE 1 rfl dX5_readProcess_84 ?_
      refine ok_aload_n hE 0 rfl dX5_readProcess_85 ?_
      refine ok_iconst hE (1 : Int32) ki_1 dX5_readProcess_86 ?_
      refine ok_bipush hE (100 : Int32) kb_100 dX5_readProcess_87 ?_
      refine ok_cvI hE rmP_DExpectNumber [.int (1 : Int32), .int (100 : Int32)] [.int v1, .ref (E.Y.ad 10)] rfl ca_X5_95 shP_0 rfl (fun _ hx => mP_DExpectNumber hE.sys _ _  _ _ hx) ⟨rfl, rfl, rfl, rfl⟩ rfl rfl dX5_readProcess_89 (fun r8 => ?_)
      refine ok_iastore hE shP_10 dX5_readProcess_92 (fun M9 => ?_)
      refine ok_aload_n hE 0 rfl dX5_readProcess_93 ?_
      refine ok_wget hE ws_X5_199 (by decide) dX5_readProcess_94 ?_
      refine ok_cvV hE rmP_DExpectWord [.ref (E.Y.ad 1012)] [] rfl ca_X5_91 shP_0 rfl (fun _ hx => mP_DExpectWord hE.sys _ (isW_12) _ _ hx) ⟨rfl, rfl, rfl, rfl⟩ rfl rfl dX5_readProcess_97 (fun M10 => ?_)
      refine ok_aload_n hE 0 rfl dX5_readProcess_100 ?_
      refine ok_getA hE fl_X5_31 shP_0 rfl dX5_readProcess_101 ?_
      refine ok_getC hE fl_X5_202 shP_7 rfl dX5_readProcess_104 ?_
      refine ok_iload_n hE 1 rfl dX5_readProcess_107 ?_
      refine ok_aload_n hE 0 rfl dX5_readProcess_108 ?_
      refine ok_iconst hE (0 : Int32) ki_0 dX5_readProcess_109 ?_
      refine ok_sipush hE (999 : Int32) ks_999 dX5_readProcess_110 ?_
      refine ok_cvI hE rmP_DExpectNumber [.int (0 : Int32), .int (999 : Int32)] [.int v1, .ref (E.Y.ad 11)] rfl ca_X5_95 shP_0 rfl (fun _ hx => mP_DExpectNumber hE.sys _ _  _ _ hx) ⟨rfl, rfl, rfl, rfl⟩ rfl rfl dX5_readProcess_113 (fun r11 => ?_)
      refine ok_iastore hE shP_11 dX5_readProcess_116 (fun M12 => ?_)
      refine ok_aload_n hE 0 rfl dX5_readProcess_117 ?_
      refine ok_wget hE ws_X5_205 (by decide) dX5_readProcess_118 ?_
      refine ok_cvV hE rmP_DExpectWord [.ref (E.Y.ad 1013)] [] rfl ca_X5_91 shP_0 rfl (fun _ hx => mP_DExpectWord hE.sys _ (isW_13) _ _ hx) ⟨rfl, rfl, rfl, rfl⟩ rfl rfl dX5_readProcess_121 (fun M13 => ?_)
      refine ok_iconst hE (0 : Int32) ki_0 dX5_readProcess_124 ?_
      refine ok_istore_n hE (fun v14 => [(3, .int v14), (0, .ref (E.Y.ad 0)), (2, .int v1)]) (fun _ => rfl) rfl dX5_readProcess_125 (fun v14 => ?_)
      refine ok_iconst hE (1 : Int32) ki_1 dX5_readProcess_126 ?_
      refine ok_istore hE (fun v15 => [(4, .int v15), (3, .int v14), (0, .ref (E.Y.ad 0)), (2, .int v1)]) (fun _ => rfl) rfl dX5_readProcess_127 (fun v15 => ?_)
      refine ok_fun (fun j => ∀ (u_15 : Int32) (M_16 : Mm), Ok E 186 [(0, .ref (E.Y.ad 0)), (2, .int v1), (3, .int u_15)] [] M_16 (j u_15 M_16) (KV E)) (fun u_15 M_16 => ?_) (fun j186 hj186 => ?_)
      · refine ok_aload_n hE 0 rfl dX5_readProcess_186 ?_
        refine ok_getA hE fl_X5_31 shP_0 rfl dX5_readProcess_187 ?_
        refine ok_getC hE fl_X5_214 shP_7 rfl dX5_readProcess_190 ?_
        refine ok_iload_n hE 1 rfl dX5_readProcess_193 ?_
        refine ok_iload_n hE 2 rfl dX5_readProcess_194 ?_
        refine ok_iastore hE shP_12 dX5_readProcess_195 (fun M18 => ?_)
        exact ok_return hE dX5_readProcess_196
      refine ok_sub [2, 3, 1, 0] rfl (ok_loop (σ := Int32 × Int32 × Mm) 129 (fun x19 => [(0, .ref (E.Y.ad 0)), (2, .int v1), (3, .int x19.1), (4, .int x19.2.1)]) (fun x19 => x19.2.2) (fun rec129 hrec129 x19 => ?_) 1000000 (v14, v15, M13))
      refine ok_aload_n hE 0 rfl dX5_readProcess_129 ?_
      refine ok_getI hE fl_X5_42 shP_0 rfl dX5_readProcess_130 ?_
      refine ok_if_ne hE 186 rfl dX5_readProcess_133 ?_ ?_
      · exact ok_sub [0, 1, 2] rfl (hj186 x19.1 x19.2.2)
      · refine ok_iload hE 3 rfl dX5_readProcess_136 ?_
        refine ok_if_eq hE 186 rfl dX5_readProcess_138 ?_ ?_
        · exact ok_sub [0, 1, 2] rfl (hj186 x19.1 x19.2.2)
        · refine ok_iload_n hE 2 rfl dX5_readProcess_141 ?_
          refine ok_bipush hE (6 : Int32) kb_6 dX5_readProcess_142 ?_
          refine ok_icmp_gt hE 186 rfl dX5_readProcess_144 ?_ ?_
          · exact ok_sub [0, 1, 2] rfl (hj186 x19.1 x19.2.2)
          · refine ok_aload_n hE 0 rfl dX5_readProcess_147 ?_
            refine ok_iload_n hE 1 rfl dX5_readProcess_148 ?_
            refine ok_iload_n hE 2 rfl dX5_readProcess_149 ?_
            refine ok_cvV hE rmP_DReadStep [.int v1, .int x19.1] [] rfl ca_X5_208 shP_0 rfl (fun _ hx => mP_DReadStep hE.sys _ _  _ _ hx) ⟨rfl, rfl, rfl, rfl⟩ rfl rfl dX5_readProcess_150 (fun M20 => ?_)
            refine ok_iinc hE 2 (x19.1 + (1 : Int32)) (by rw [ko_1]) (fun v21 => [(3, .int v21), (0, .ref (E.Y.ad 0)), (2, .int v1), (4, .int x19.2.1)]) rfl (fun _ => rfl) rfl dX5_readProcess_153 (fun v21 => ?_)
            refine ok_aload_n hE 1 rfl dX5_readProcess_156 ?_
            refine ok_bipush hE (44 : Int32) kb_44 dX5_readProcess_157 ?_
            refine ok_cvIp hE rmP_DIsSign [.int (44 : Int32)] [] rfl ca_X5_211 shP_0 rfl (fun _ hx => mP_DIsSign hE.sys _  _ _ hx) ⟨rfl, rfl, rfl, rfl⟩ rfl rfl dX5_readProcess_159 (fun r22 => ?_)
            refine ok_istore hE (fun v23 => [(4, .int v23), (3, .int v21), (0, .ref (E.Y.ad 0)), (2, .int v1)]) (fun _ => rfl) rfl dX5_readProcess_162 (fun v23 => ?_)
            refine ok_aload_n hE 2 rfl dX5_readProcess_164 ?_
            refine ok_dup hE rfl dX5_readProcess_165 ?_
            refine ok_getI hE fl_X5_35 shP_0 rfl dX5_readProcess_166 ?_
            refine ok_iload hE 0 rfl dX5_readProcess_169 ?_
            refine ok_fun (fun j => ∀ (w_23 : Int32), Ok E 179 [(0, .ref (E.Y.ad 0)), (2, .int v1), (3, .int v21), (4, .int v23)] [.int w_23, .int (gI M20 0 6), .ref (E.Y.ad 0)] M20 (j w_23) (KV E)) (fun w_23 => ?_) (fun j179 hj179 => ?_)
            · refine ok_iadd hE dX5_readProcess_179 ?_
              refine ok_putI hE fl_X5_35 shP_0 rfl dX5_readProcess_180 (fun M25 => ?_)
              refine ok_goto hE 129 rfl dX5_readProcess_183 ?_
              exact ok_sub [0, 1, 2, 3] rfl (hrec129 (v21, v23, M25))
            refine ok_if_eq hE 178 rfl dX5_readProcess_171 ?_ ?_
            · refine ok_iconst hE (0 : Int32) ki_0 dX5_readProcess_178 ?_
              exact ok_sub [2, 3, 1, 0] rfl (hj179 (0 : Int32))
            · refine ok_iconst hE (1 : Int32) ki_1 dX5_readProcess_174 ?_
              refine ok_goto hE 179 rfl dX5_readProcess_175 ?_
              exact ok_sub [2, 3, 1, 0] rfl (hj179 (1 : Int32))
    refine ok_acmp_ne hE (x := (some p1)) (y := (some 1014)) 68 rfl dX5_readProcess_61 ?_ ?_
    · refine ok_iconst hE (0 : Int32) ki_0 dX5_readProcess_68 ?_
      exact ok_sub [1, 0] rfl (hj69 (0 : Int32))
    · refine ok_iconst hE (1 : Int32) ki_1 dX5_readProcess_64 ?_
      refine ok_goto hE 69 rfl dX5_readProcess_65 ?_
      exact ok_sub [1, 0] rfl (hj69 (1 : Int32))
  · refine ok_aload_n hE 1 rfl dX5_readProcess_14 ?_
    refine ok_iconst hE (5 : Int32) ki_5 dX5_readProcess_15 ?_
    refine ok_aload_n hE 1 rfl dX5_readProcess_16 ?_
    refine ok_getA hE fl_X5_15 shP_0 rfl dX5_readProcess_17 ?_
    refine ok_aload_n hE 1 rfl dX5_readProcess_20 ?_
    refine ok_getI hE fl_X5_35 shP_0 rfl dX5_readProcess_21 ?_
    refine ok_iaload hE shP_2 dX5_readProcess_24 ?_
    refine ok_cvV hE rmP_DFail [.int (5 : Int32), .int (gI M 2 (ix (gI M 0 6)))] [] rfl ca_X5_119 shP_0 rfl (fun _ hx => mP_DFail hE.sys _ _  _ _ hx) ⟨rfl, rfl, rfl, rfl⟩ rfl rfl dX5_readProcess_25 (fun M26 => ?_)
    exact ok_return hE dX5_readProcess_28
theorem mP_DReadProcess {l : Launch} {Y : Sys} {t : Nat} (hY : SysOk Y t shP) (p1 : Nat) (hp1 : isW p1) (M : Mm) (r : Mm) (h : P_DReadProcess p1 M = some r) : Cm l Y t yX5_readProcess (WS yX5_readProcess cX5_readProcess 5 none) rmP_DReadProcess [.ref (Y.ad 0), .ref (Y.ad p1)] M (enV r) := by
  refine cm_of (own := RX5) hY rfl rfl (Nat.le_of_ble_eq_true rfl) (fun E hE e1 e2 e3 e4 => ?_)
  subst e1
  exact tP_DReadProcess E hE p1 hp1 M r h e4.symm
def P_DReadSetting (p1 : Nat) (M : Mm) : Option Mm :=
 if ((gI M 0 7) &&& (wOnce p1)) = 0 then
 (lett (sI M 0 7 ((gI M 0 7) ||| (wOnce p1))) fun M1 =>
 bnd (P_DExpectWord p1 M1) fun M2 =>
 grd (okW (some p1) = true ∧ okW (some 1003) = true) (if (some p1) = (some 1003) then
 (bnd (P_DExpectNumber (1 : Int32) (999 : Int32) M2) fun r17 =>
 lett (sI r17.2 7 3 r17.1) fun M18 =>
 bnd (P_DExpectWord 1004 M18) fun M19 =>
 bnd (P_DExpectNumber (gI M19 7 3) (999 : Int32) M19) fun r20 =>
 lett (sI r20.2 7 4 r20.1) fun M21 =>
 some M21)
 else
 (grd (okW (some p1) = true ∧ okW (some 1005) = true) (if (some p1) = (some 1005) then
 (bnd (P_DExpectNumber (0 : Int32) (20 : Int32) M2) fun r15 =>
 lett (sI r15.2 7 5 r15.1) fun M16 =>
 some M16)
 else
 (grd (okW (some p1) = true ∧ okW (some 1006) = true) (if (some p1) = (some 1006) then
 (bnd (P_DExpectNumber (1 : Int32) (200 : Int32) M2) fun r13 =>
 lett (sI r13.2 7 6 r13.1) fun M14 =>
 some M14)
 else
 (grd (okW (some p1) = true ∧ okW (some 1007) = true) (if (some p1) = (some 1007) then
 (bnd (P_DExpectNumber (0 : Int32) (999 : Int32) M2) fun r11 =>
 lett (sI r11.2 7 7 r11.1) fun M12 =>
 some M12)
 else
 (bnd (P_DExpectNumber (1 : Int32) (20 : Int32) M2) fun r3 =>
 lett (sI r3.2 7 8 r3.1) fun M4 =>
 bnd (P_DExpectWord 1009 M4) fun M5 =>
 bnd (P_DExpectNumber (0 : Int32) (500 : Int32) M5) fun r6 =>
 lett (sI r6.2 7 9 r6.1) fun M7 =>
 bnd (P_DExpectWord 1010 M7) fun M8 =>
 bnd (P_DExpectNumber (1 : Int32) (999 : Int32) M8) fun r9 =>
 lett (sI r9.2 7 10 r9.1) fun M10 =>
 some M10)))))))))
 else
 (ald (gI M 0 6) 1601 (bnd (P_DFail (5 : Int32) (gI M 2 (ix (gI M 0 6))) M) fun M22 =>
 some M22))
abbrev rmP_DReadSetting : Room := { frames := 2, cells := 0, slots := 0, locals := 47 }
set_option maxHeartbeats 4000000 in
set_option maxRecDepth 100000 in
theorem tP_DReadSetting (E : Cx) (hE : CxOk E cX5_readSetting RX5 shP none rmP_DReadSetting 2) (p1 : Nat) (hp1 : isW p1) (M : Mm) : Ok E 0 [(0, .ref (E.Y.ad 0)), (1, .ref (E.Y.ad p1))] [] M (P_DReadSetting p1 M) (KV E) := by
  unfold P_DReadSetting
  refine ok_aload_n hE 0 rfl dX5_readSetting_0 ?_
  refine ok_getI hE fl_X5_39 shP_0 rfl dX5_readSetting_1 ?_
  refine ok_aload_n hE 1 rfl dX5_readSetting_4 ?_
  refine ok_wonce hE wo_X5_123 hp1 dX5_readSetting_5 ?_
  refine ok_iand hE dX5_readSetting_8 ?_
  refine ok_if_eq hE 27 rfl dX5_readSetting_9 ?_ ?_
  · refine ok_aload_n hE 0 rfl dX5_readSetting_27 ?_
    refine ok_dup hE rfl dX5_readSetting_28 ?_
    refine ok_getI hE fl_X5_39 shP_0 rfl dX5_readSetting_29 ?_
    refine ok_aload_n hE 1 rfl dX5_readSetting_32 ?_
    refine ok_wonce hE wo_X5_123 hp1 dX5_readSetting_33 ?_
    refine ok_ior hE dX5_readSetting_36 ?_
    refine ok_putI hE fl_X5_39 shP_0 rfl dX5_readSetting_37 (fun M1 => ?_)
    refine ok_aload_n hE 0 rfl dX5_readSetting_40 ?_
    refine ok_aload_n hE 1 rfl dX5_readSetting_41 ?_
    refine ok_cvV hE rmP_DExpectWord [.ref (E.Y.ad p1)] [] rfl ca_X5_91 shP_0 rfl (fun _ hx => mP_DExpectWord hE.sys _ hp1 _ _ hx) ⟨rfl, rfl, rfl, rfl⟩ rfl rfl dX5_readSetting_42 (fun M2 => ?_)
    refine ok_aload_n hE 1 rfl dX5_readSetting_45 ?_
    refine ok_wget hE ws_X5_138 (by decide) dX5_readSetting_46 ?_
    refine ok_acmp_ne hE (x := (some p1)) (y := (some 1003)) 98 rfl dX5_readSetting_49 ?_ ?_
    · refine ok_aload_n hE 1 rfl dX5_readSetting_98 ?_
      refine ok_wget hE ws_X5_150 (by decide) dX5_readSetting_99 ?_
      refine ok_acmp_ne hE (x := (some p1)) (y := (some 1005)) 122 rfl dX5_readSetting_102 ?_ ?_
      · refine ok_aload_n hE 1 rfl dX5_readSetting_122 ?_
        refine ok_wget hE ws_X5_156 (by decide) dX5_readSetting_123 ?_
        refine ok_acmp_ne hE (x := (some p1)) (y := (some 1006)) 147 rfl dX5_readSetting_126 ?_ ?_
        · refine ok_aload_n hE 1 rfl dX5_readSetting_147 ?_
          refine ok_wget hE ws_X5_162 (by decide) dX5_readSetting_148 ?_
          refine ok_acmp_ne hE (x := (some p1)) (y := (some 1007)) 172 rfl dX5_readSetting_151 ?_ ?_
          · refine ok_aload_n hE 0 rfl dX5_readSetting_172 ?_
            refine ok_getA hE fl_X5_31 shP_0 rfl dX5_readSetting_173 ?_
            refine ok_aload_n hE 0 rfl dX5_readSetting_176 ?_
            refine ok_iconst hE (1 : Int32) ki_1 dX5_readSetting_177 ?_
            refine ok_bipush hE (20 : Int32) kb_20 dX5_readSetting_178 ?_
            refine ok_cvI hE rmP_DExpectNumber [.int (1 : Int32), .int (20 : Int32)] [.ref (E.Y.ad 7)] rfl ca_X5_95 shP_0 rfl (fun _ hx => mP_DExpectNumber hE.sys _ _  _ _ hx) ⟨rfl, rfl, rfl, rfl⟩ rfl rfl dX5_readSetting_180 (fun r3 => ?_)
            refine ok_putI hE fl_X5_168 shP_7 rfl dX5_readSetting_183 (fun M4 => ?_)
            refine ok_aload_n hE 0 rfl dX5_readSetting_186 ?_
            refine ok_wget hE ws_X5_171 (by decide) dX5_readSetting_187 ?_
            refine ok_cvV hE rmP_DExpectWord [.ref (E.Y.ad 1009)] [] rfl ca_X5_91 shP_0 rfl (fun _ hx => mP_DExpectWord hE.sys _ (isW_9) _ _ hx) ⟨rfl, rfl, rfl, rfl⟩ rfl rfl dX5_readSetting_190 (fun M5 => ?_)
            refine ok_aload_n hE 0 rfl dX5_readSetting_193 ?_
            refine ok_getA hE fl_X5_31 shP_0 rfl dX5_readSetting_194 ?_
            refine ok_aload_n hE 0 rfl dX5_readSetting_197 ?_
            refine ok_iconst hE (0 : Int32) ki_0 dX5_readSetting_198 ?_
            refine ok_sipush hE (500 : Int32) ks_500 dX5_readSetting_199 ?_
            refine ok_cvI hE rmP_DExpectNumber [.int (0 : Int32), .int (500 : Int32)] [.ref (E.Y.ad 7)] rfl ca_X5_95 shP_0 rfl (fun _ hx => mP_DExpectNumber hE.sys _ _  _ _ hx) ⟨rfl, rfl, rfl, rfl⟩ rfl rfl dX5_readSetting_202 (fun r6 => ?_)
            refine ok_putI hE fl_X5_174 shP_7 rfl dX5_readSetting_205 (fun M7 => ?_)
            refine ok_aload_n hE 0 rfl dX5_readSetting_208 ?_
            refine ok_wget hE ws_X5_177 (by decide) dX5_readSetting_209 ?_
            refine ok_cvV hE rmP_DExpectWord [.ref (E.Y.ad 1010)] [] rfl ca_X5_91 shP_0 rfl (fun _ hx => mP_DExpectWord hE.sys _ (isW_10) _ _ hx) ⟨rfl, rfl, rfl, rfl⟩ rfl rfl dX5_readSetting_212 (fun M8 => ?_)
            refine ok_aload_n hE 0 rfl dX5_readSetting_215 ?_
            refine ok_getA hE fl_X5_31 shP_0 rfl dX5_readSetting_216 ?_
            refine ok_aload_n hE 0 rfl dX5_readSetting_219 ?_
            refine ok_iconst hE (1 : Int32) ki_1 dX5_readSetting_220 ?_
            refine ok_sipush hE (999 : Int32) ks_999 dX5_readSetting_221 ?_
            refine ok_cvI hE rmP_DExpectNumber [.int (1 : Int32), .int (999 : Int32)] [.ref (E.Y.ad 7)] rfl ca_X5_95 shP_0 rfl (fun _ hx => mP_DExpectNumber hE.sys _ _  _ _ hx) ⟨rfl, rfl, rfl, rfl⟩ rfl rfl dX5_readSetting_224 (fun r9 => ?_)
            refine ok_putI hE fl_X5_180 shP_7 rfl dX5_readSetting_227 (fun M10 => ?_)
            exact ok_return hE dX5_readSetting_230
          · refine ok_aload_n hE 0 rfl dX5_readSetting_154 ?_
            refine ok_getA hE fl_X5_31 shP_0 rfl dX5_readSetting_155 ?_
            refine ok_aload_n hE 0 rfl dX5_readSetting_158 ?_
            refine ok_iconst hE (0 : Int32) ki_0 dX5_readSetting_159 ?_
            refine ok_sipush hE (999 : Int32) ks_999 dX5_readSetting_160 ?_
            refine ok_cvI hE rmP_DExpectNumber [.int (0 : Int32), .int (999 : Int32)] [.ref (E.Y.ad 7)] rfl ca_X5_95 shP_0 rfl (fun _ hx => mP_DExpectNumber hE.sys _ _  _ _ hx) ⟨rfl, rfl, rfl, rfl⟩ rfl rfl dX5_readSetting_163 (fun r11 => ?_)
            refine ok_putI hE fl_X5_165 shP_7 rfl dX5_readSetting_166 (fun M12 => ?_)
            refine ok_goto hE 230 rfl dX5_readSetting_169 ?_
            exact ok_return hE dX5_readSetting_230
        · refine ok_aload_n hE 0 rfl dX5_readSetting_129 ?_
          refine ok_getA hE fl_X5_31 shP_0 rfl dX5_readSetting_130 ?_
          refine ok_aload_n hE 0 rfl dX5_readSetting_133 ?_
          refine ok_iconst hE (1 : Int32) ki_1 dX5_readSetting_134 ?_
          refine ok_sipush hE (200 : Int32) ks_200 dX5_readSetting_135 ?_
          refine ok_cvI hE rmP_DExpectNumber [.int (1 : Int32), .int (200 : Int32)] [.ref (E.Y.ad 7)] rfl ca_X5_95 shP_0 rfl (fun _ hx => mP_DExpectNumber hE.sys _ _  _ _ hx) ⟨rfl, rfl, rfl, rfl⟩ rfl rfl dX5_readSetting_138 (fun r13 => ?_)
          refine ok_putI hE fl_X5_159 shP_7 rfl dX5_readSetting_141 (fun M14 => ?_)
          refine ok_goto hE 230 rfl dX5_readSetting_144 ?_
          exact ok_return hE dX5_readSetting_230
      · refine ok_aload_n hE 0 rfl dX5_readSetting_105 ?_
        refine ok_getA hE fl_X5_31 shP_0 rfl dX5_readSetting_106 ?_
        refine ok_aload_n hE 0 rfl dX5_readSetting_109 ?_
        refine ok_iconst hE (0 : Int32) ki_0 dX5_readSetting_110 ?_
        refine ok_bipush hE (20 : Int32) kb_20 dX5_readSetting_111 ?_
        refine ok_cvI hE rmP_DExpectNumber [.int (0 : Int32), .int (20 : Int32)] [.ref (E.Y.ad 7)] rfl ca_X5_95 shP_0 rfl (fun _ hx => mP_DExpectNumber hE.sys _ _  _ _ hx) ⟨rfl, rfl, rfl, rfl⟩ rfl rfl dX5_readSetting_113 (fun r15 => ?_)
        refine ok_putI hE fl_X5_153 shP_7 rfl dX5_readSetting_116 (fun M16 => ?_)
        refine ok_goto hE 230 rfl dX5_readSetting_119 ?_
        exact ok_return hE dX5_readSetting_230
    · refine ok_aload_n hE 0 rfl dX5_readSetting_52 ?_
      refine ok_getA hE fl_X5_31 shP_0 rfl dX5_readSetting_53 ?_
      refine ok_aload_n hE 0 rfl dX5_readSetting_56 ?_
      refine ok_iconst hE (1 : Int32) ki_1 dX5_readSetting_57 ?_
      refine ok_sipush hE (999 : Int32) ks_999 dX5_readSetting_58 ?_
      refine ok_cvI hE rmP_DExpectNumber [.int (1 : Int32), .int (999 : Int32)] [.ref (E.Y.ad 7)] rfl ca_X5_95 shP_0 rfl (fun _ hx => mP_DExpectNumber hE.sys _ _  _ _ hx) ⟨rfl, rfl, rfl, rfl⟩ rfl rfl dX5_readSetting_61 (fun r17 => ?_)
      refine ok_putI hE fl_X5_141 shP_7 rfl dX5_readSetting_64 (fun M18 => ?_)
      refine ok_aload_n hE 0 rfl dX5_readSetting_67 ?_
      refine ok_wget hE ws_X5_144 (by decide) dX5_readSetting_68 ?_
      refine ok_cvV hE rmP_DExpectWord [.ref (E.Y.ad 1004)] [] rfl ca_X5_91 shP_0 rfl (fun _ hx => mP_DExpectWord hE.sys _ (isW_4) _ _ hx) ⟨rfl, rfl, rfl, rfl⟩ rfl rfl dX5_readSetting_71 (fun M19 => ?_)
      refine ok_aload_n hE 0 rfl dX5_readSetting_74 ?_
      refine ok_getA hE fl_X5_31 shP_0 rfl dX5_readSetting_75 ?_
      refine ok_aload_n hE 0 rfl dX5_readSetting_78 ?_
      refine ok_aload_n hE 0 rfl dX5_readSetting_79 ?_
      refine ok_getA hE fl_X5_31 shP_0 rfl dX5_readSetting_80 ?_
      refine ok_getI hE fl_X5_141 shP_7 rfl dX5_readSetting_83 ?_
      refine ok_sipush hE (999 : Int32) ks_999 dX5_readSetting_86 ?_
      refine ok_cvI hE rmP_DExpectNumber [.int (gI M19 7 3), .int (999 : Int32)] [.ref (E.Y.ad 7)] rfl ca_X5_95 shP_0 rfl (fun _ hx => mP_DExpectNumber hE.sys _ _  _ _ hx) ⟨rfl, rfl, rfl, rfl⟩ rfl rfl dX5_readSetting_89 (fun r20 => ?_)
      refine ok_putI hE fl_X5_147 shP_7 rfl dX5_readSetting_92 (fun M21 => ?_)
      refine ok_goto hE 230 rfl dX5_readSetting_95 ?_
      exact ok_return hE dX5_readSetting_230
  · refine ok_aload_n hE 0 rfl dX5_readSetting_12 ?_
    refine ok_iconst hE (5 : Int32) ki_5 dX5_readSetting_13 ?_
    refine ok_aload_n hE 0 rfl dX5_readSetting_14 ?_
    refine ok_getA hE fl_X5_15 shP_0 rfl dX5_readSetting_15 ?_
    refine ok_aload_n hE 0 rfl dX5_readSetting_18 ?_
    refine ok_getI hE fl_X5_35 shP_0 rfl dX5_readSetting_19 ?_
    refine ok_iaload hE shP_2 dX5_readSetting_22 ?_
    refine ok_cvV hE rmP_DFail [.int (5 : Int32), .int (gI M 2 (ix (gI M 0 6)))] [] rfl ca_X5_119 shP_0 rfl (fun _ hx => mP_DFail hE.sys _ _  _ _ hx) ⟨rfl, rfl, rfl, rfl⟩ rfl rfl dX5_readSetting_23 (fun M22 => ?_)
    exact ok_return hE dX5_readSetting_26
theorem mP_DReadSetting {l : Launch} {Y : Sys} {t : Nat} (hY : SysOk Y t shP) (p1 : Nat) (hp1 : isW p1) (M : Mm) (r : Mm) (h : P_DReadSetting p1 M = some r) : Cm l Y t yX5_readSetting (WS yX5_readSetting cX5_readSetting 2 none) rmP_DReadSetting [.ref (Y.ad 0), .ref (Y.ad p1)] M (enV r) := by
  refine cm_of (own := RX5) hY rfl rfl (Nat.le_of_ble_eq_true rfl) (fun E hE e1 e2 e3 e4 => ?_)
  subst e1
  exact tP_DReadSetting E hE p1 hp1 M r h e4.symm
def P_DReadStatement  (M : Mm) : Option Mm :=
 ald (gI M 0 6) 1601 (lett (gR M 4 (ix (gI M 0 6))) fun y1 =>
 lett (fun (M_1 : Mm) =>
 bnd (P_DExpectSign (59 : Int32) M_1) fun M3 =>
 some M3) fun j82 =>
 if y1 = none then
 (ald (gI M 0 6) 1601 (bnd (P_DFail (1 : Int32) (gI M 2 (ix (gI M 0 6))) M) fun M9 =>
 j82 M9))
 else
 (nn y1 fun c4 => grd (isW c4) (if (wOnce c4) = 0 then
 (lett (fun (_ : Unit) =>
 bnd (P_DReadProcess c4 M) fun M6 =>
 j82 M6) fun j60 =>
 grd (okW (some c4) = true ∧ okW (some 1019) = true) (if (some c4) = (some 1019) then
 (j60 ())
 else
 (grd (okW (some c4) = true ∧ okW (some 1014) = true) (if (some c4) = (some 1014) then
 (j60 ())
 else
 (ald (gI M 0 6) 1601 (bnd (P_DFail (1 : Int32) (gI M 2 (ix (gI M 0 6))) M) fun M7 =>
 j82 M7))))))
 else
 (bnd (P_DReadSetting c4 M) fun M8 =>
 j82 M8))))
abbrev rmP_DReadStatement : Room := { frames := 4, cells := 0, slots := 0, locals := 97 }
set_option maxHeartbeats 4000000 in
set_option maxRecDepth 100000 in
theorem tP_DReadStatement (E : Cx) (hE : CxOk E cX5_readStatement RX5 shP none rmP_DReadStatement 2)   (M : Mm) : Ok E 0 [(0, .ref (E.Y.ad 0))] [] M (P_DReadStatement  M) (KV E) := by
  unfold P_DReadStatement
  refine ok_aload_n hE 0 rfl dX5_readStatement_0 ?_
  refine ok_getA hE fl_X5_23 shP_0 rfl dX5_readStatement_1 ?_
  refine ok_aload_n hE 0 rfl dX5_readStatement_4 ?_
  refine ok_getI hE fl_X5_35 shP_0 rfl dX5_readStatement_5 ?_
  refine ok_aaloadRL hE shP_4 rfl dX5_readStatement_8 (fun y1 => ?_)
  refine ok_astoreq_n hE [(1, va_rf (y1.map E.Y.ad)), (0, .ref (E.Y.ad 0))] rfl rfl dX5_readStatement_9 ?_
  refine ok_aloadq_n hE 0 rfl dX5_readStatement_10 ?_
  refine ok_fun (fun j => ∀ (M_1 : Mm), Ok E 82 [(0, .ref (E.Y.ad 0))] [] M_1 (j M_1) (KV E)) (fun M_1 => ?_) (fun j82 hj82 => ?_)
  · refine ok_aload_n hE 0 rfl dX5_readStatement_82 ?_
    refine ok_bipush hE (59 : Int32) kb_59 dX5_readStatement_83 ?_
    refine ok_cvV hE rmP_DExpectSign [.int (59 : Int32)] [] rfl ca_X5_115 shP_0 rfl (fun _ hx => mP_DExpectSign hE.sys _  _ _ hx) ⟨rfl, rfl, rfl, rfl⟩ rfl rfl dX5_readStatement_85 (fun M3 => ?_)
    exact ok_return hE dX5_readStatement_88
  refine ok_ifnonnull hE (x := y1) 31 rfl dX5_readStatement_11 ?_ ?_
  · refine ok_aloadq_n hE 0 rfl dX5_readStatement_31 ?_
    rcases y1 with _ | c4
    · exact fun r hr => by cases hr
    dsimp only [nn]
    refine ok_grd (fun hc5 => ?_)
    refine ok_wonce hE wo_X5_123 hc5 dX5_readStatement_32 ?_
    refine ok_if_eq hE 46 rfl dX5_readStatement_35 ?_ ?_
    · refine ok_aload_n hE 0 rfl dX5_readStatement_46 ?_
      refine ok_wget hE ws_X5_129 (by decide) dX5_readStatement_47 ?_
      refine ok_fun (fun j => ∀ (_ : Unit), Ok E 60 [(0, .ref (E.Y.ad 0)), (1, .ref (E.Y.ad c4))] [] M (j ()) (KV E)) (fun _ => ?_) (fun j60 hj60 => ?_)
      · refine ok_aload_n hE 0 rfl dX5_readStatement_60 ?_
        refine ok_aload_n hE 1 rfl dX5_readStatement_61 ?_
        refine ok_cvV hE rmP_DReadProcess [.ref (E.Y.ad c4)] [] rfl ca_X5_135 shP_0 rfl (fun _ hx => mP_DReadProcess hE.sys _ hc5 _ _ hx) ⟨rfl, rfl, rfl, rfl⟩ rfl rfl dX5_readStatement_62 (fun M6 => ?_)
        refine ok_goto hE 82 rfl dX5_readStatement_65 ?_
        exact ok_sub [0] rfl (hj82 M6)
      refine ok_acmp_eq hE (x := (some c4)) (y := (some 1019)) 60 rfl dX5_readStatement_50 ?_ ?_
      · exact ok_sub [1, 0] rfl (hj60 ())
      · refine ok_aload_n hE 0 rfl dX5_readStatement_53 ?_
        refine ok_wget hE ws_X5_132 (by decide) dX5_readStatement_54 ?_
        refine ok_acmp_ne hE (x := (some c4)) (y := (some 1014)) 68 rfl dX5_readStatement_57 ?_ ?_
        · refine ok_aload_n hE 1 rfl dX5_readStatement_68 ?_
          refine ok_iconst hE (1 : Int32) ki_1 dX5_readStatement_69 ?_
          refine ok_aload_n hE 1 rfl dX5_readStatement_70 ?_
          refine ok_getA hE fl_X5_15 shP_0 rfl dX5_readStatement_71 ?_
          refine ok_aload_n hE 1 rfl dX5_readStatement_74 ?_
          refine ok_getI hE fl_X5_35 shP_0 rfl dX5_readStatement_75 ?_
          refine ok_iaload hE shP_2 dX5_readStatement_78 ?_
          refine ok_cvV hE rmP_DFail [.int (1 : Int32), .int (gI M 2 (ix (gI M 0 6)))] [] rfl ca_X5_119 shP_0 rfl (fun _ hx => mP_DFail hE.sys _ _  _ _ hx) ⟨rfl, rfl, rfl, rfl⟩ rfl rfl dX5_readStatement_79 (fun M7 => ?_)
          exact ok_sub [1] rfl (hj82 M7)
        · exact ok_sub [1, 0] rfl (hj60 ())
    · refine ok_aload_n hE 1 rfl dX5_readStatement_38 ?_
      refine ok_aload_n hE 0 rfl dX5_readStatement_39 ?_
      refine ok_cvV hE rmP_DReadSetting [.ref (E.Y.ad c4)] [] rfl ca_X5_126 shP_0 rfl (fun _ hx => mP_DReadSetting hE.sys _ hc5 _ _ hx) ⟨rfl, rfl, rfl, rfl⟩ rfl rfl dX5_readStatement_40 (fun M8 => ?_)
      refine ok_goto hE 82 rfl dX5_readStatement_43 ?_
      exact ok_sub [1] rfl (hj82 M8)
  · refine ok_aload_n hE 1 rfl dX5_readStatement_14 ?_
    refine ok_iconst hE (1 : Int32) ki_1 dX5_readStatement_15 ?_
    refine ok_aload_n hE 1 rfl dX5_readStatement_16 ?_
    refine ok_getA hE fl_X5_15 shP_0 rfl dX5_readStatement_17 ?_
    refine ok_aload_n hE 1 rfl dX5_readStatement_20 ?_
    refine ok_getI hE fl_X5_35 shP_0 rfl dX5_readStatement_21 ?_
    refine ok_iaload hE shP_2 dX5_readStatement_24 ?_
    refine ok_cvV hE rmP_DFail [.int (1 : Int32), .int (gI M 2 (ix (gI M 0 6)))] [] rfl ca_X5_119 shP_0 rfl (fun _ hx => mP_DFail hE.sys _ _  _ _ hx) ⟨rfl, rfl, rfl, rfl⟩ rfl rfl dX5_readStatement_25 (fun M9 => ?_)
    refine ok_goto hE 82 rfl dX5_readStatement_28 ?_
    exact ok_sub [1] rfl (hj82 M9)
theorem mP_DReadStatement {l : Launch} {Y : Sys} {t : Nat} (hY : SysOk Y t shP)   (M : Mm) (r : Mm) (h : P_DReadStatement  M = some r) : Cm l Y t yX5_readStatement (WS yX5_readStatement cX5_readStatement 2 none) rmP_DReadStatement [.ref (Y.ad 0)] M (enV r) := by
  refine cm_of (own := RX5) hY rfl rfl (Nat.le_of_ble_eq_true rfl) (fun E hE e1 e2 e3 e4 => ?_)
  subst e1
  exact tP_DReadStatement E hE   M r h e4.symm
