def S_wake (p1 : Int32) (p2 : Nat) (M : Mm) : Option Mm :=
 lett (fun (M_0 : Mm) =>
 lett (fun (w_1 : UInt32) =>
 lett (sF M_0 p2 0 w_1) fun M3 =>
 bnd (S_after (gF M3 p2 0) (gI M3 p2 3) p1 M3) fun r4 =>
 lett (sF M3 p2 1 r4) fun M5 =>
 some M5) fun j59 =>
 if (Op.cmpValue (FP.fcmp (gF M_0 0 8) (gF M_0 p2 1)) .l) ≤ 0 then
 (j59 (gF M_0 p2 1))
 else
 (j59 (gF M_0 0 8))) fun j35 =>
 if ((gI M 0 10) - (gI M p2 6)) < (gI M 20 10) then
 (j35 M)
 else
 (lett (sI M p2 7 ((gI M 0 10) + (gI M 20 9))) fun M6 =>
 j35 M6)
abbrev rmS_wake : Room := { frames := 2, cells := 0, slots := 0, locals := 46 }
set_option maxHeartbeats 4000000 in
set_option maxRecDepth 100000 in
theorem tS_wake (E : Cx) (hE : CxOk E cX8_wake RX8 shS none rmS_wake 3) (p1 : Int32) (p2 : Nat) (hp2 : shS p2 = shSX4) (M : Mm) : Ok E 0 [(0, .ref (E.Y.ad 0)), (1, .int p1), (2, .ref (E.Y.ad p2))] [] M (S_wake p1 p2 M) (KV E) := by
  unfold S_wake
  refine ok_aload_n hE 0 rfl dX8_wake_0 ?_
  refine ok_getI hE fl_X8_55 shS_0 rfl dX8_wake_1 ?_
  refine ok_aload_n hE 2 rfl dX8_wake_4 ?_
  refine ok_getI hE fl_X8_200 hp2 rfl dX8_wake_5 ?_
  refine ok_isub hE dX8_wake_8 ?_
  refine ok_aload_n hE 0 rfl dX8_wake_9 ?_
  refine ok_getA hE fl_X8_85 shS_0 rfl dX8_wake_10 ?_
  refine ok_getI hE fl_X8_295 shS_20 rfl dX8_wake_13 ?_
  refine ok_fun (fun j => ∀ (M_0 : Mm), Ok E 35 [(0, .ref (E.Y.ad 0)), (1, .int p1), (2, .ref (E.Y.ad p2))] [] M_0 (j M_0) (KV E)) (fun M_0 => ?_) (fun j35 hj35 => ?_)
  · refine ok_aload_n hE 2 rfl dX8_wake_35 ?_
    refine ok_aload_n hE 0 rfl dX8_wake_36 ?_
    refine ok_getF hE fl_X8_48 shS_0 rfl dX8_wake_37 ?_
    refine ok_aload_n hE 2 rfl dX8_wake_40 ?_
    refine ok_getF hE fl_X8_301 hp2 rfl dX8_wake_41 ?_
    refine ok_fcmp hE dX8_wake_44 ?_
    refine ok_fun (fun j => ∀ (w_1 : UInt32), Ok E 59 [(0, .ref (E.Y.ad 0)), (1, .int p1), (2, .ref (E.Y.ad p2))] [.float w_1, .ref (E.Y.ad p2)] M_0 (j w_1) (KV E)) (fun w_1 => ?_) (fun j59 hj59 => ?_)
    · refine ok_putF hE fl_X8_304 hp2 rfl dX8_wake_59 (fun M3 => ?_)
      refine ok_aload_n hE 2 rfl dX8_wake_62 ?_
      refine ok_aload_n hE 0 rfl dX8_wake_63 ?_
      refine ok_aload_n hE 2 rfl dX8_wake_64 ?_
      refine ok_getF hE fl_X8_304 hp2 rfl dX8_wake_65 ?_
      refine ok_aload_n hE 2 rfl dX8_wake_68 ?_
      refine ok_getI hE fl_X8_307 hp2 rfl dX8_wake_69 ?_
      refine ok_iload_n hE 1 rfl dX8_wake_72 ?_
      refine ok_cvFp hE rmS_after [.float (gF M3 p2 0), .int (gI M3 p2 3), .int p1] [.ref (E.Y.ad p2)] rfl ca_X8_310 shS_0 rfl (fun _ hx => mS_after hE.sys _ _ _  _ _ hx) ⟨rfl, rfl, rfl, rfl⟩ rfl rfl dX8_wake_73 (fun r4 => ?_)
      refine ok_putF hE fl_X8_301 hp2 rfl dX8_wake_76 (fun M5 => ?_)
      exact ok_return hE dX8_wake_79
    refine ok_if_le hE 55 rfl dX8_wake_45 ?_ ?_
    · refine ok_aload_n hE 2 rfl dX8_wake_55 ?_
      refine ok_getF hE fl_X8_301 hp2 rfl dX8_wake_56 ?_
      exact ok_sub [0, 1, 2] rfl (hj59 (gF M_0 p2 1))
    · refine ok_aload_n hE 0 rfl dX8_wake_48 ?_
      refine ok_getF hE fl_X8_48 shS_0 rfl dX8_wake_49 ?_
      refine ok_goto hE 59 rfl dX8_wake_52 ?_
      exact ok_sub [0, 1, 2] rfl (hj59 (gF M_0 0 8))
  refine ok_icmp_lt hE 35 rfl dX8_wake_16 ?_ ?_
  · exact ok_sub [0, 1, 2] rfl (hj35 M)
  · refine ok_aload_n hE 2 rfl dX8_wake_19 ?_
    refine ok_aload_n hE 0 rfl dX8_wake_20 ?_
    refine ok_getI hE fl_X8_55 shS_0 rfl dX8_wake_21 ?_
    refine ok_aload_n hE 0 rfl dX8_wake_24 ?_
    refine ok_getA hE fl_X8_85 shS_0 rfl dX8_wake_25 ?_
    refine ok_getI hE fl_X8_298 shS_20 rfl dX8_wake_28 ?_
    refine ok_iadd hE dX8_wake_31 ?_
    refine ok_putI hE fl_X8_159 hp2 rfl dX8_wake_32 (fun M6 => ?_)
    exact ok_sub [0, 1, 2] rfl (hj35 M6)
theorem mS_wake {l : Launch} {Y : Sys} {t : Nat} (hY : SysOk Y t shS) (p1 : Int32) (p2 : Nat) (hp2 : shS p2 = shSX4) (M : Mm) (r : Mm) (h : S_wake p1 p2 M = some r) : Cm l Y t yX8_wake (WS yX8_wake cX8_wake 3 none) rmS_wake [.ref (Y.ad 0), .int p1, .ref (Y.ad p2)] M (enV r) := by
  refine cm_of (own := RX8) hY rfl rfl (Nat.le_of_ble_eq_true rfl) (fun E hE e1 e2 e3 e4 => ?_)
  subst e1
  exact tS_wake E hE p1 p2 hp2 M r h e4.symm
def S_send (p1 : Int32) (p2 : Int32) (p3 : Int32) (p4 : Int32) (M : Mm) : Option (Int32 × Mm) :=
 ald p1 6 (lett (sI M (8 + 2 * ix p1) 4 (p2 + p3)) fun M2 =>
 bnd (S_route p1 p2 M2) fun M3 =>
 lett (gI M3 (8 + 2 * ix p1) 7) fun v4 =>
 ald v4 6 (bnd (S_QReachTo (9 + 2 * ix v4) p2 p3 (gI M3 20 7) M3) fun M6 =>
 lett (fun (w_6 : Int32) =>
 lett w_6 fun v8 =>
 lett (fun (w_8 : Int32) =>
 lett w_8 fun v10 =>
 lett (fun (M_10 : Mm) =>
 lett (fun (M_11 : Mm) =>
 bnd (S_RIsFull M_11) fun r13 =>
 if r13 = 0 then
 (bnd (S_RAddRow M_11) fun r14 =>
 lett r14.1 fun v15 =>
 ald (v15 + (0 : Int32)) 324 (lett (sI r14.2 4 (ix (v15 + (0 : Int32))) p2) fun M16 =>
 ald (v15 + (1 : Int32)) 324 (lett (sI M16 4 (ix (v15 + (1 : Int32))) p3) fun M17 =>
 ald (v15 + (2 : Int32)) 324 (lett (sI M17 4 (ix (v15 + (2 : Int32))) p1) fun M18 =>
 ald (v15 + (3 : Int32)) 324 (lett (sI M18 4 (ix (v15 + (3 : Int32))) (gI M18 0 10)) fun M19 =>
 ald (v15 + (4 : Int32)) 324 (lett (sI M19 4 (ix (v15 + (4 : Int32))) p4) fun M20 =>
 ald (v15 + (5 : Int32)) 324 (lett (sI M20 4 (ix (v15 + (5 : Int32))) v4) fun M21 =>
 lett (sI M21 (9 + 2 * ix v4) 8 ((gI M21 (9 + 2 * ix v4) 8) + (1 : Int32))) fun M22 =>
 lett (sI M22 (8 + 2 * ix p1) 6 ((gI M22 (8 + 2 * ix p1) 6) + (1 : Int32))) fun M23 =>
 some (v4, M23))))))))
 else
 (some (v4, M_11))) fun j151 =>
 if v8 = 0 then
 (if (gI M_10 (9 + 2 * ix v4) 8) = 0 then
 (bnd (S_wake v4 (9 + 2 * ix v4) M_10) fun M24 =>
 j151 M24)
 else
 (j151 M_10))
 else
 (j151 M_10)) fun j130 =>
 if v10 = 0 then
 (ald v4 6 (if (gI M6 22 (ix v4)) = 0 then
 (if (gI M6 (9 + 2 * ix v4) 6) = 0 then
 (j130 M6)
 else
 (bnd (S_QLearnPause (9 + 2 * ix v4) (gI M6 0 10) M6) fun M25 =>
 j130 M25))
 else
 (j130 M6)))
 else
 (j130 M6)) fun j93 =>
 lett (fun (_ : Unit) =>
 j93 (1 : Int32)) fun j88 =>
 if 0 < (gI M6 (9 + 2 * ix v4) 8) then
 (j88 ())
 else
 (lett (fun (_ : Unit) =>
 j93 (0 : Int32)) fun j92 =>
 if v8 = 0 then
 (j92 ())
 else
 (if (gI M6 0 6) ≤ 0 then
 (j92 ())
 else
 (j88 ())))) fun j66 =>
 if v4 = (gI M6 0 11) then
 (j66 (1 : Int32))
 else
 (j66 (0 : Int32))))
abbrev rmS_send : Room := { frames := 3, cells := 0, slots := 0, locals := 68 }
set_option maxHeartbeats 4000000 in
set_option maxRecDepth 100000 in
theorem tS_send (E : Cx) (hE : CxOk E cX8_send RX8 shS (some .int) rmS_send 11) (p1 : Int32) (p2 : Int32) (p3 : Int32) (p4 : Int32)  (M : Mm) : Ok E 0 [(0, .ref (E.Y.ad 0)), (1, .int p1), (2, .int p2), (3, .int p3), (4, .int p4)] [] M (S_send p1 p2 p3 p4 M) (KI E) := by
  unfold S_send
  refine ok_aload_n hE 0 rfl dX8_send_0 ?_
  refine ok_getC hE fl_X8_11 shS_0 rfl dX8_send_1 ?_
  refine ok_iload_n hE 1 rfl dX8_send_4 ?_
  refine ok_aaloadH hE shS_1 rfl dX8_send_5 (fun hi1 => ?_)
  refine ok_astore hE [(5, .ref (E.Y.ad (8 + 2 * ix p1))), (0, .ref (E.Y.ad 0)), (1, .int p1), (2, .int p2), (3, .int p3), (4, .int p4)] rfl rfl dX8_send_6 ?_
  refine ok_aload hE 0 rfl dX8_send_8 ?_
  refine ok_iload_n hE 3 rfl dX8_send_10 ?_
  refine ok_iload_n hE 4 rfl dX8_send_11 ?_
  refine ok_iadd hE dX8_send_12 ?_
  refine ok_putI hE fl_X8_248 (shS_e_1 hi1) rfl dX8_send_13 (fun M2 => ?_)
  refine ok_aload_n hE 1 rfl dX8_send_16 ?_
  refine ok_iload_n hE 2 rfl dX8_send_17 ?_
  refine ok_iload_n hE 3 rfl dX8_send_18 ?_
  refine ok_cvV hE rmS_route [.int p1, .int p2] [] rfl ca_X8_255 shS_0 rfl (fun _ hx => mS_route hE.sys _ _  _ _ hx) ⟨rfl, rfl, rfl, rfl⟩ rfl rfl dX8_send_19 (fun M3 => ?_)
  refine ok_aload hE 0 rfl dX8_send_22 ?_
  refine ok_getI hE fl_X8_259 (shS_e_1 hi1) rfl dX8_send_24 ?_
  refine ok_istore hE (fun v4 => [(6, .int v4), (5, .ref (E.Y.ad (8 + 2 * ix p1))), (0, .ref (E.Y.ad 0)), (1, .int p1), (2, .int p2), (3, .int p3), (4, .int p4)]) (fun _ => rfl) rfl dX8_send_27 (fun v4 => ?_)
  refine ok_aload_n hE 2 rfl dX8_send_29 ?_
  refine ok_getC hE fl_X8_19 shS_0 rfl dX8_send_30 ?_
  refine ok_iload hE 0 rfl dX8_send_33 ?_
  refine ok_aaloadH hE shS_2 rfl dX8_send_35 (fun hi5 => ?_)
  refine ok_astore hE [(7, .ref (E.Y.ad (9 + 2 * ix v4))), (6, .int v4), (5, .ref (E.Y.ad (8 + 2 * ix p1))), (0, .ref (E.Y.ad 0)), (1, .int p1), (2, .int p2), (3, .int p3), (4, .int p4)] rfl rfl dX8_send_36 ?_
  refine ok_aload hE 0 rfl dX8_send_38 ?_
  refine ok_iload_n hE 5 rfl dX8_send_40 ?_
  refine ok_iload_n hE 6 rfl dX8_send_41 ?_
  refine ok_aload_n hE 3 rfl dX8_send_42 ?_
  refine ok_getA hE fl_X8_85 shS_0 rfl dX8_send_43 ?_
  refine ok_getI hE fl_X8_262 shS_20 rfl dX8_send_46 ?_
  refine ok_cvV hE rmS_QReachTo [.int p2, .int p3, .int (gI M3 20 7)] [] rfl ca_X8_265 (shS_e_2 hi5) rfl (fun _ hx => mS_QReachTo hE.sys _ _ _ _ (shS_e_2 hi5) _ _ hx) ⟨rfl, rfl, rfl, rfl⟩ rfl rfl dX8_send_49 (fun M6 => ?_)
  refine ok_iload hE 1 rfl dX8_send_52 ?_
  refine ok_aload_n hE 3 rfl dX8_send_54 ?_
  refine ok_getI hE fl_X8_58 shS_0 rfl dX8_send_55 ?_
  refine ok_fun (fun j => ∀ (w_6 : Int32), Ok E 66 [(0, .ref (E.Y.ad 0)), (1, .int p1), (2, .int p2), (3, .int p3), (4, .int p4), (5, .ref (E.Y.ad (8 + 2 * ix p1))), (6, .int v4), (7, .ref (E.Y.ad (9 + 2 * ix v4)))] [.int w_6] M6 (j w_6) (KI E)) (fun w_6 => ?_) (fun j66 hj66 => ?_)
  · refine ok_istore hE (fun v8 => [(8, .int v8), (0, .ref (E.Y.ad 0)), (1, .int p1), (2, .int p2), (3, .int p3), (4, .int p4), (5, .ref (E.Y.ad (8 + 2 * ix p1))), (6, .int v4), (7, .ref (E.Y.ad (9 + 2 * ix v4)))]) (fun _ => rfl) rfl dX8_send_66 (fun v8 => ?_)
    refine ok_aload hE 8 rfl dX8_send_68 ?_
    refine ok_getI hE fl_X8_153 (shS_e_2 hi5) rfl dX8_send_70 ?_
    refine ok_fun (fun j => ∀ (w_8 : Int32), Ok E 93 [(0, .ref (E.Y.ad 0)), (1, .int p1), (2, .int p2), (3, .int p3), (4, .int p4), (5, .ref (E.Y.ad (8 + 2 * ix p1))), (6, .int v4), (7, .ref (E.Y.ad (9 + 2 * ix v4))), (8, .int v8)] [.int w_8] M6 (j w_8) (KI E)) (fun w_8 => ?_) (fun j93 hj93 => ?_)
    · refine ok_istore hE (fun v10 => [(9, .int v10), (0, .ref (E.Y.ad 0)), (1, .int p1), (2, .int p2), (3, .int p3), (4, .int p4), (5, .ref (E.Y.ad (8 + 2 * ix p1))), (6, .int v4), (7, .ref (E.Y.ad (9 + 2 * ix v4))), (8, .int v8)]) (fun _ => rfl) rfl dX8_send_93 (fun v10 => ?_)
      refine ok_iload hE 0 rfl dX8_send_95 ?_
      refine ok_fun (fun j => ∀ (M_10 : Mm), Ok E 130 [(0, .ref (E.Y.ad 0)), (1, .int p1), (2, .int p2), (3, .int p3), (4, .int p4), (5, .ref (E.Y.ad (8 + 2 * ix p1))), (6, .int v4), (7, .ref (E.Y.ad (9 + 2 * ix v4))), (8, .int v8)] [] M_10 (j M_10) (KI E)) (fun M_10 => ?_) (fun j130 hj130 => ?_)
      · refine ok_iload hE 8 rfl dX8_send_130 ?_
        refine ok_fun (fun j => ∀ (M_11 : Mm), Ok E 151 [(0, .ref (E.Y.ad 0)), (1, .int p1), (2, .int p2), (3, .int p3), (4, .int p4), (5, .ref (E.Y.ad (8 + 2 * ix p1))), (6, .int v4), (7, .ref (E.Y.ad (9 + 2 * ix v4)))] [] M_11 (j M_11) (KI E)) (fun M_11 => ?_) (fun j151 hj151 => ?_)
        · refine ok_aload_n hE 0 rfl dX8_send_151 ?_
          refine ok_getC hE fl_X8_26 shS_0 rfl dX8_send_152 ?_
          refine ok_cvIp hE rmS_RIsFull [] [] rfl ca_X8_275 shS_3 rfl (fun _ hx => mS_RIsFull hE.sys   _ _ hx) ⟨rfl, rfl, rfl, rfl⟩ rfl rfl dX8_send_155 (fun r13 => ?_)
          refine ok_if_ne hE 275 rfl dX8_send_158 ?_ ?_
          · refine ok_iload hE 6 rfl dX8_send_275 ?_
            exact ok_ireturn hE dX8_send_277
          · refine ok_aload_n hE 0 rfl dX8_send_161 ?_
            refine ok_getC hE fl_X8_26 shS_0 rfl dX8_send_162 ?_
            refine ok_cvI hE rmS_RAddRow [] [] rfl ca_X8_278 shS_3 rfl (fun _ hx => mS_RAddRow hE.sys   _ _ hx) ⟨rfl, rfl, rfl, rfl⟩ rfl rfl dX8_send_165 (fun r14 => ?_)
            refine ok_istore hE (fun v15 => [(10, .int v15), (0, .ref (E.Y.ad 0)), (1, .int p1), (2, .int p2), (3, .int p3), (4, .int p4), (5, .ref (E.Y.ad (8 + 2 * ix p1))), (6, .int v4), (7, .ref (E.Y.ad (9 + 2 * ix v4)))]) (fun _ => rfl) rfl dX8_send_168 (fun v15 => ?_)
            refine ok_aload_n hE 1 rfl dX8_send_170 ?_
            refine ok_getC hE fl_X8_26 shS_0 rfl dX8_send_171 ?_
            refine ok_getC hE fl_X8_281 shS_3 rfl dX8_send_174 ?_
            refine ok_iload hE 0 rfl dX8_send_177 ?_
            refine ok_iconst hE (0 : Int32) ki_0 dX8_send_179 ?_
            refine ok_iadd hE dX8_send_180 ?_
            refine ok_iload_n hE 3 rfl dX8_send_181 ?_
            refine ok_iastore hE shS_4 dX8_send_182 (fun M16 => ?_)
            refine ok_aload_n hE 1 rfl dX8_send_183 ?_
            refine ok_getC hE fl_X8_26 shS_0 rfl dX8_send_184 ?_
            refine ok_getC hE fl_X8_281 shS_3 rfl dX8_send_187 ?_
            refine ok_iload hE 0 rfl dX8_send_190 ?_
            refine ok_iconst hE (1 : Int32) ki_1 dX8_send_192 ?_
            refine ok_iadd hE dX8_send_193 ?_
            refine ok_iload_n hE 4 rfl dX8_send_194 ?_
            refine ok_iastore hE shS_4 dX8_send_195 (fun M17 => ?_)
            refine ok_aload_n hE 1 rfl dX8_send_196 ?_
            refine ok_getC hE fl_X8_26 shS_0 rfl dX8_send_197 ?_
            refine ok_getC hE fl_X8_281 shS_3 rfl dX8_send_200 ?_
            refine ok_iload hE 0 rfl dX8_send_203 ?_
            refine ok_iconst hE (2 : Int32) ki_2 dX8_send_205 ?_
            refine ok_iadd hE dX8_send_206 ?_
            refine ok_iload_n hE 2 rfl dX8_send_207 ?_
            refine ok_iastore hE shS_4 dX8_send_208 (fun M18 => ?_)
            refine ok_aload_n hE 1 rfl dX8_send_209 ?_
            refine ok_getC hE fl_X8_26 shS_0 rfl dX8_send_210 ?_
            refine ok_getC hE fl_X8_281 shS_3 rfl dX8_send_213 ?_
            refine ok_iload hE 0 rfl dX8_send_216 ?_
            refine ok_iconst hE (3 : Int32) ki_3 dX8_send_218 ?_
            refine ok_iadd hE dX8_send_219 ?_
            refine ok_aload_n hE 1 rfl dX8_send_220 ?_
            refine ok_getI hE fl_X8_55 shS_0 rfl dX8_send_221 ?_
            refine ok_iastore hE shS_4 dX8_send_224 (fun M19 => ?_)
            refine ok_aload_n hE 1 rfl dX8_send_225 ?_
            refine ok_getC hE fl_X8_26 shS_0 rfl dX8_send_226 ?_
            refine ok_getC hE fl_X8_281 shS_3 rfl dX8_send_229 ?_
            refine ok_iload hE 0 rfl dX8_send_232 ?_
            refine ok_iconst hE (4 : Int32) ki_4 dX8_send_234 ?_
            refine ok_iadd hE dX8_send_235 ?_
            refine ok_iload hE 5 rfl dX8_send_236 ?_
            refine ok_iastore hE shS_4 dX8_send_238 (fun M20 => ?_)
            refine ok_aload_n hE 1 rfl dX8_send_239 ?_
            refine ok_getC hE fl_X8_26 shS_0 rfl dX8_send_240 ?_
            refine ok_getC hE fl_X8_281 shS_3 rfl dX8_send_243 ?_
            refine ok_iload hE 0 rfl dX8_send_246 ?_
            refine ok_iconst hE (5 : Int32) ki_5 dX8_send_248 ?_
            refine ok_iadd hE dX8_send_249 ?_
            refine ok_iload hE 7 rfl dX8_send_250 ?_
            refine ok_iastore hE shS_4 dX8_send_252 (fun M21 => ?_)
            refine ok_aload hE 8 rfl dX8_send_253 ?_
            refine ok_dup hE rfl dX8_send_255 ?_
            refine ok_getI hE fl_X8_153 (shS_e_2 hi5) rfl dX8_send_256 ?_
            refine ok_iconst hE (1 : Int32) ki_1 dX8_send_259 ?_
            refine ok_iadd hE dX8_send_260 ?_
            refine ok_putI hE fl_X8_153 (shS_e_2 hi5) rfl dX8_send_261 (fun M22 => ?_)
            refine ok_aload hE 6 rfl dX8_send_264 ?_
            refine ok_dup hE rfl dX8_send_266 ?_
            refine ok_getI hE fl_X8_172 (shS_e_1 hi1) rfl dX8_send_267 ?_
            refine ok_iconst hE (1 : Int32) ki_1 dX8_send_270 ?_
            refine ok_iadd hE dX8_send_271 ?_
            refine ok_putI hE fl_X8_172 (shS_e_1 hi1) rfl dX8_send_272 (fun M23 => ?_)
            refine ok_iload hE 7 rfl dX8_send_275 ?_
            exact ok_ireturn hE dX8_send_277
        refine ok_if_ne hE 151 rfl dX8_send_132 ?_ ?_
        · exact ok_sub [0, 1, 2, 3, 4, 5, 6, 7] rfl (hj151 M_10)
        · refine ok_aload hE 7 rfl dX8_send_135 ?_
          refine ok_getI hE fl_X8_153 (shS_e_2 hi5) rfl dX8_send_137 ?_
          refine ok_if_ne hE 151 rfl dX8_send_140 ?_ ?_
          · exact ok_sub [0, 1, 2, 3, 4, 5, 6, 7] rfl (hj151 M_10)
          · refine ok_aload_n hE 0 rfl dX8_send_143 ?_
            refine ok_iload hE 6 rfl dX8_send_144 ?_
            refine ok_aload hE 7 rfl dX8_send_146 ?_
            refine ok_cvV hE rmS_wake [.int v4, .ref (E.Y.ad (9 + 2 * ix v4))] [] rfl ca_X8_271 shS_0 rfl (fun _ hx => mS_wake hE.sys _ _ (shS_e_2 hi5) _ _ hx) ⟨rfl, rfl, rfl, rfl⟩ rfl rfl dX8_send_148 (fun M24 => ?_)
            exact ok_sub [0, 1, 2, 3, 4, 5, 6, 7] rfl (hj151 M24)
      refine ok_if_ne hE 130 rfl dX8_send_97 ?_ ?_
      · exact ok_sub [1, 2, 3, 4, 5, 6, 7, 8, 9] rfl (hj130 M6)
      · refine ok_aload_n hE 1 rfl dX8_send_100 ?_
        refine ok_getA hE fl_X8_85 shS_0 rfl dX8_send_101 ?_
        refine ok_getC hE fl_X8_218 shS_20 rfl dX8_send_104 ?_
        refine ok_iload hE 7 rfl dX8_send_107 ?_
        refine ok_baload hE shS_22 dX8_send_109 ?_
        refine ok_if_ne hE 130 rfl dX8_send_110 ?_ ?_
        · exact ok_sub [1, 2, 3, 4, 5, 6, 7, 8, 9] rfl (hj130 M6)
        · refine ok_aload hE 8 rfl dX8_send_113 ?_
          refine ok_getI hE fl_X8_200 (shS_e_2 hi5) rfl dX8_send_115 ?_
          refine ok_if_eq hE 130 rfl dX8_send_118 ?_ ?_
          · exact ok_sub [1, 2, 3, 4, 5, 6, 7, 8, 9] rfl (hj130 M6)
          · refine ok_aload hE 8 rfl dX8_send_121 ?_
            refine ok_aload_n hE 1 rfl dX8_send_123 ?_
            refine ok_getI hE fl_X8_55 shS_0 rfl dX8_send_124 ?_
            refine ok_cvV hE rmS_QLearnPause [.int (gI M6 0 10)] [] rfl ca_X8_268 (shS_e_2 hi5) rfl (fun _ hx => mS_QLearnPause hE.sys _ _ (shS_e_2 hi5) _ _ hx) ⟨rfl, rfl, rfl, rfl⟩ rfl rfl dX8_send_127 (fun M25 => ?_)
            exact ok_sub [1, 2, 3, 4, 5, 6, 7, 8, 9] rfl (hj130 M25)
    refine ok_fun (fun j => ∀ (_ : Unit), Ok E 88 [(0, .ref (E.Y.ad 0)), (1, .int p1), (2, .int p2), (3, .int p3), (4, .int p4), (5, .ref (E.Y.ad (8 + 2 * ix p1))), (6, .int v4), (7, .ref (E.Y.ad (9 + 2 * ix v4))), (8, .int v8)] [] M6 (j ()) (KI E)) (fun _ => ?_) (fun j88 hj88 => ?_)
    · refine ok_iconst hE (1 : Int32) ki_1 dX8_send_88 ?_
      refine ok_goto hE 93 rfl dX8_send_89 ?_
      exact ok_sub [0, 1, 2, 3, 4, 5, 6, 7, 8] rfl (hj93 (1 : Int32))
    refine ok_if_gt hE 88 rfl dX8_send_73 ?_ ?_
    · exact ok_sub [1, 2, 3, 4, 5, 6, 7, 8, 0] rfl (hj88 ())
    · refine ok_iload hE 0 rfl dX8_send_76 ?_
      refine ok_fun (fun j => ∀ (_ : Unit), Ok E 92 [(0, .ref (E.Y.ad 0)), (1, .int p1), (2, .int p2), (3, .int p3), (4, .int p4), (5, .ref (E.Y.ad (8 + 2 * ix p1))), (6, .int v4), (7, .ref (E.Y.ad (9 + 2 * ix v4))), (8, .int v8)] [] M6 (j ()) (KI E)) (fun _ => ?_) (fun j92 hj92 => ?_)
      · refine ok_iconst hE (0 : Int32) ki_0 dX8_send_92 ?_
        exact ok_sub [0, 1, 2, 3, 4, 5, 6, 7, 8] rfl (hj93 (0 : Int32))
      refine ok_if_eq hE 92 rfl dX8_send_78 ?_ ?_
      · exact ok_sub [1, 2, 3, 4, 5, 6, 7, 8, 0] rfl (hj92 ())
      · refine ok_aload_n hE 1 rfl dX8_send_81 ?_
        refine ok_getI hE fl_X8_41 shS_0 rfl dX8_send_82 ?_
        refine ok_if_le hE 92 rfl dX8_send_85 ?_ ?_
        · exact ok_sub [1, 2, 3, 4, 5, 6, 7, 8, 0] rfl (hj92 ())
        · exact ok_sub [1, 2, 3, 4, 5, 6, 7, 8, 0] rfl (hj88 ())
  refine ok_icmp_ne hE 65 rfl dX8_send_58 ?_ ?_
  · refine ok_iconst hE (0 : Int32) ki_0 dX8_send_65 ?_
    exact ok_sub [3, 4, 5, 6, 7, 2, 1, 0] rfl (hj66 (0 : Int32))
  · refine ok_iconst hE (1 : Int32) ki_1 dX8_send_61 ?_
    refine ok_goto hE 66 rfl dX8_send_62 ?_
    exact ok_sub [3, 4, 5, 6, 7, 2, 1, 0] rfl (hj66 (1 : Int32))
theorem mS_send {l : Launch} {Y : Sys} {t : Nat} (hY : SysOk Y t shS) (p1 : Int32) (p2 : Int32) (p3 : Int32) (p4 : Int32)  (M : Mm) (r : (Int32 × Mm)) (h : S_send p1 p2 p3 p4 M = some r) : Cm l Y t yX8_send (WS yX8_send cX8_send 11 (some .int)) rmS_send [.ref (Y.ad 0), .int p1, .int p2, .int p3, .int p4] M (enI r) := by
  refine cm_of (own := RX8) hY rfl rfl (Nat.le_of_ble_eq_true rfl) (fun E hE e1 e2 e3 e4 => ?_)
  subst e1
  exact tS_send E hE p1 p2 p3 p4  M r h e4.symm
def S_askByStep (p1 : Int32) (p2 : Nat) (M : Mm) : Option Mm :=
 ald p1 6 (lett (gI M 22 (ix p1)) fun v1 =>
 ald p1 6 (lett (gI M 25 (ix p1)) fun v2 =>
 if v2 < (1 : Int32) then
 (some M)
 else
 (lett (fun (_ : Unit) =>
 lett ((p1 * (6 : Int32)) + (gI M p2 5)) fun v3 =>
 ald v3 36 (lett (gI M 27 (ix v3)) fun v4 =>
 ald v3 36 (lett (gI M 28 (ix v3)) fun v5 =>
 ald v3 36 (lett (gI M 26 (ix v3)) fun v6 =>
 lett (fun (u_6 : Int32) =>
 lett (fun (w_7 : Int32) =>
 lett (sI M p2 5 w_7) fun M9 =>
 lett (fun (M_9 : Mm) =>
 bnd (S_send p1 u_6 v4 v5 M_9) fun r11 =>
 some r11.2) fun j162 =>
 if v1 = 0 then
 (lett (sI M9 p2 3 (1 : Int32)) fun M12 =>
 j162 M12)
 else
 (lett (sI M9 p2 2 v5) fun M13 =>
 j162 M13)) fun j141 =>
 if v2 ≤ ((gI M p2 5) + (1 : Int32)) then
 (j141 (0 : Int32))
 else
 (j141 ((gI M p2 5) + (1 : Int32)))) fun j119 =>
 if 0 ≤ v6 then
 (j119 v6)
 else
 (lett (fun (w_13 : Int32) =>
 lett w_13 fun v15 =>
 j119 v15) fun j117 =>
 if ((gI M p2 4) + v4) ≤ (gI M 20 0) then
 (j117 (gI M p2 4))
 else
 (j117 (0 : Int32))))))) fun j40 =>
 if v1 = 0 then
 (j40 ())
 else
 (if (gI M p2 6) < (4 : Int32) then
 (j40 ())
 else
 (some M)))))
abbrev rmS_askByStep : Room := { frames := 4, cells := 0, slots := 0, locals := 98 }
set_option maxHeartbeats 4000000 in
set_option maxRecDepth 100000 in
theorem tS_askByStep (E : Cx) (hE : CxOk E cX8_askByStep RX8 shS none rmS_askByStep 9) (p1 : Int32) (p2 : Nat) (hp2 : shS p2 = shSX3) (M : Mm) : Ok E 0 [(0, .ref (E.Y.ad 0)), (1, .int p1), (2, .ref (E.Y.ad p2))] [] M (S_askByStep p1 p2 M) (KV E) := by
  unfold S_askByStep
  refine ok_aload_n hE 0 rfl dX8_askByStep_0 ?_
  refine ok_getA hE fl_X8_85 shS_0 rfl dX8_askByStep_1 ?_
  refine ok_getC hE fl_X8_218 shS_20 rfl dX8_askByStep_4 ?_
  refine ok_iload_n hE 1 rfl dX8_askByStep_7 ?_
  refine ok_baload hE shS_22 dX8_askByStep_8 ?_
  refine ok_istore_n hE (fun v1 => [(3, .int v1), (0, .ref (E.Y.ad 0)), (1, .int p1), (2, .ref (E.Y.ad p2))]) (fun _ => rfl) rfl dX8_askByStep_9 (fun v1 => ?_)
  refine ok_aload_n hE 1 rfl dX8_askByStep_10 ?_
  refine ok_getA hE fl_X8_85 shS_0 rfl dX8_askByStep_11 ?_
  refine ok_getC hE fl_X8_233 shS_20 rfl dX8_askByStep_14 ?_
  refine ok_iload_n hE 2 rfl dX8_askByStep_17 ?_
  refine ok_iaload hE shS_25 dX8_askByStep_18 ?_
  refine ok_istore hE (fun v2 => [(4, .int v2), (3, .int v1), (0, .ref (E.Y.ad 0)), (1, .int p1), (2, .ref (E.Y.ad p2))]) (fun _ => rfl) rfl dX8_askByStep_19 (fun v2 => ?_)
  refine ok_iload hE 0 rfl dX8_askByStep_21 ?_
  refine ok_iconst hE (1 : Int32) ki_1 dX8_askByStep_23 ?_
  refine ok_icmp_lt hE 39 rfl dX8_askByStep_24 ?_ ?_
  · exact ok_return hE dX8_askByStep_39
  · refine ok_iload_n hE 1 rfl dX8_askByStep_27 ?_
    refine ok_fun (fun j => ∀ (_ : Unit), Ok E 40 [(0, .ref (E.Y.ad 0)), (1, .int p1), (2, .ref (E.Y.ad p2)), (3, .int v1), (4, .int v2)] [] M (j ()) (KV E)) (fun _ => ?_) (fun j40 hj40 => ?_)
    · refine ok_iload_n hE 1 rfl dX8_askByStep_40 ?_
      refine ok_bipush hE (6 : Int32) kb_6 dX8_askByStep_41 ?_
      refine ok_imul hE dX8_askByStep_43 ?_
      refine ok_aload_n hE 2 rfl dX8_askByStep_44 ?_
      refine ok_getI hE fl_X8_236 hp2 rfl dX8_askByStep_45 ?_
      refine ok_iadd hE dX8_askByStep_48 ?_
      refine ok_istore hE (fun v3 => [(5, .int v3), (0, .ref (E.Y.ad 0)), (1, .int p1), (2, .ref (E.Y.ad p2)), (3, .int v1), (4, .int v2)]) (fun _ => rfl) rfl dX8_askByStep_49 (fun v3 => ?_)
      refine ok_aload_n hE 1 rfl dX8_askByStep_51 ?_
      refine ok_getA hE fl_X8_85 shS_0 rfl dX8_askByStep_52 ?_
      refine ok_getC hE fl_X8_239 shS_20 rfl dX8_askByStep_55 ?_
      refine ok_iload hE 0 rfl dX8_askByStep_58 ?_
      refine ok_iaload hE shS_27 dX8_askByStep_60 ?_
      refine ok_istore hE (fun v4 => [(6, .int v4), (5, .int v3), (0, .ref (E.Y.ad 0)), (1, .int p1), (2, .ref (E.Y.ad p2)), (3, .int v1), (4, .int v2)]) (fun _ => rfl) rfl dX8_askByStep_61 (fun v4 => ?_)
      refine ok_aload_n hE 2 rfl dX8_askByStep_63 ?_
      refine ok_getA hE fl_X8_85 shS_0 rfl dX8_askByStep_64 ?_
      refine ok_getC hE fl_X8_242 shS_20 rfl dX8_askByStep_67 ?_
      refine ok_iload hE 1 rfl dX8_askByStep_70 ?_
      refine ok_iaload hE shS_28 dX8_askByStep_72 ?_
      refine ok_istore hE (fun v5 => [(7, .int v5), (6, .int v4), (5, .int v3), (0, .ref (E.Y.ad 0)), (1, .int p1), (2, .ref (E.Y.ad p2)), (3, .int v1), (4, .int v2)]) (fun _ => rfl) rfl dX8_askByStep_73 (fun v5 => ?_)
      refine ok_aload_n hE 3 rfl dX8_askByStep_75 ?_
      refine ok_getA hE fl_X8_85 shS_0 rfl dX8_askByStep_76 ?_
      refine ok_getC hE fl_X8_245 shS_20 rfl dX8_askByStep_79 ?_
      refine ok_iload hE 2 rfl dX8_askByStep_82 ?_
      refine ok_iaload hE shS_26 dX8_askByStep_84 ?_
      refine ok_istore hE (fun v6 => [(8, .int v6), (7, .int v5), (6, .int v4), (5, .int v3), (0, .ref (E.Y.ad 0)), (1, .int p1), (2, .ref (E.Y.ad p2)), (3, .int v1), (4, .int v2)]) (fun _ => rfl) rfl dX8_askByStep_85 (fun v6 => ?_)
      refine ok_iload hE 0 rfl dX8_askByStep_87 ?_
      refine ok_fun (fun j => ∀ (u_6 : Int32), Ok E 119 [(0, .ref (E.Y.ad 0)), (1, .int p1), (2, .ref (E.Y.ad p2)), (3, .int v1), (4, .int v2), (6, .int v4), (7, .int v5), (8, .int u_6)] [] M (j u_6) (KV E)) (fun u_6 => ?_) (fun j119 hj119 => ?_)
      · refine ok_aload_n hE 2 rfl dX8_askByStep_119 ?_
        refine ok_aload_n hE 2 rfl dX8_askByStep_120 ?_
        refine ok_getI hE fl_X8_236 hp2 rfl dX8_askByStep_121 ?_
        refine ok_iconst hE (1 : Int32) ki_1 dX8_askByStep_124 ?_
        refine ok_iadd hE dX8_askByStep_125 ?_
        refine ok_iload hE 4 rfl dX8_askByStep_126 ?_
        refine ok_fun (fun j => ∀ (w_7 : Int32), Ok E 141 [(0, .ref (E.Y.ad 0)), (1, .int p1), (2, .ref (E.Y.ad p2)), (3, .int v1), (6, .int v4), (7, .int v5), (8, .int u_6)] [.int w_7, .ref (E.Y.ad p2)] M (j w_7) (KV E)) (fun w_7 => ?_) (fun j141 hj141 => ?_)
        · refine ok_putI hE fl_X8_236 hp2 rfl dX8_askByStep_141 (fun M9 => ?_)
          refine ok_iload_n hE 3 rfl dX8_askByStep_144 ?_
          refine ok_fun (fun j => ∀ (M_9 : Mm), Ok E 162 [(0, .ref (E.Y.ad 0)), (1, .int p1), (6, .int v4), (7, .int v5), (8, .int u_6)] [] M_9 (j M_9) (KV E)) (fun M_9 => ?_) (fun j162 hj162 => ?_)
          · refine ok_aload_n hE 0 rfl dX8_askByStep_162 ?_
            refine ok_iload_n hE 1 rfl dX8_askByStep_163 ?_
            refine ok_iload hE 4 rfl dX8_askByStep_164 ?_
            refine ok_iload hE 2 rfl dX8_askByStep_166 ?_
            refine ok_iload hE 3 rfl dX8_askByStep_168 ?_
            refine ok_cvI hE rmS_send [.int p1, .int u_6, .int v4, .int v5] [] rfl ca_X8_251 shS_0 rfl (fun _ hx => mS_send hE.sys _ _ _ _  _ _ hx) ⟨rfl, rfl, rfl, rfl⟩ rfl rfl dX8_askByStep_170 (fun r11 => ?_)
            refine ok_pop hE rfl dX8_askByStep_173 ?_
            exact ok_return hE dX8_askByStep_174
          refine ok_if_eq hE 157 rfl dX8_askByStep_145 ?_ ?_
          · refine ok_aload_n hE 2 rfl dX8_askByStep_157 ?_
            refine ok_iconst hE (1 : Int32) ki_1 dX8_askByStep_158 ?_
            refine ok_putZ hE (Or.inr rfl) fl_X8_183 hp2 rfl dX8_askByStep_159 (fun M12 => ?_)
            exact ok_sub [0, 1, 4, 5, 6] rfl (hj162 M12)
          · refine ok_aload_n hE 2 rfl dX8_askByStep_148 ?_
            refine ok_iload hE 5 rfl dX8_askByStep_149 ?_
            refine ok_putI hE fl_X8_186 hp2 rfl dX8_askByStep_151 (fun M13 => ?_)
            refine ok_goto hE 162 rfl dX8_askByStep_154 ?_
            exact ok_sub [0, 1, 4, 5, 6] rfl (hj162 M13)
        refine ok_icmp_ge hE 140 rfl dX8_askByStep_128 ?_ ?_
        · refine ok_iconst hE (0 : Int32) ki_0 dX8_askByStep_140 ?_
          exact ok_sub [0, 1, 2, 3, 5, 6, 7] rfl (hj141 (0 : Int32))
        · refine ok_aload_n hE 2 rfl dX8_askByStep_131 ?_
          refine ok_getI hE fl_X8_236 hp2 rfl dX8_askByStep_132 ?_
          refine ok_iconst hE (1 : Int32) ki_1 dX8_askByStep_135 ?_
          refine ok_iadd hE dX8_askByStep_136 ?_
          refine ok_goto hE 141 rfl dX8_askByStep_137 ?_
          exact ok_sub [0, 1, 2, 3, 5, 6, 7] rfl (hj141 ((gI M p2 5) + (1 : Int32)))
      refine ok_if_ge hE 119 rfl dX8_askByStep_89 ?_ ?_
      · exact ok_sub [4, 5, 6, 7, 8, 2, 1, 0] rfl (hj119 v6)
      · refine ok_aload_n hE 6 rfl dX8_askByStep_92 ?_
        refine ok_getI hE fl_X8_248 hp2 rfl dX8_askByStep_93 ?_
        refine ok_iload hE 2 rfl dX8_askByStep_96 ?_
        refine ok_iadd hE dX8_askByStep_98 ?_
        refine ok_aload_n hE 4 rfl dX8_askByStep_99 ?_
        refine ok_getA hE fl_X8_85 shS_0 rfl dX8_askByStep_100 ?_
        refine ok_getI hE fl_X8_175 shS_20 rfl dX8_askByStep_103 ?_
        refine ok_fun (fun j => ∀ (w_13 : Int32), Ok E 117 [(0, .ref (E.Y.ad 0)), (1, .int p1), (2, .ref (E.Y.ad p2)), (3, .int v1), (4, .int v2), (6, .int v4), (7, .int v5)] [.int w_13] M (j w_13) (KV E)) (fun w_13 => ?_) (fun j117 hj117 => ?_)
        · refine ok_istore hE (fun v15 => [(8, .int v15), (0, .ref (E.Y.ad 0)), (1, .int p1), (2, .ref (E.Y.ad p2)), (3, .int v1), (4, .int v2), (6, .int v4), (7, .int v5)]) (fun _ => rfl) rfl dX8_askByStep_117 (fun v15 => ?_)
          exact ok_sub [1, 2, 3, 4, 5, 6, 7, 0] rfl (hj119 v15)
        refine ok_icmp_le hE 113 rfl dX8_askByStep_106 ?_ ?_
        · refine ok_aload_n hE 6 rfl dX8_askByStep_113 ?_
          refine ok_getI hE fl_X8_248 hp2 rfl dX8_askByStep_114 ?_
          exact ok_sub [4, 5, 6, 7, 8, 2, 1] rfl (hj117 (gI M p2 4))
        · refine ok_iconst hE (0 : Int32) ki_0 dX8_askByStep_109 ?_
          refine ok_goto hE 117 rfl dX8_askByStep_110 ?_
          exact ok_sub [4, 5, 6, 7, 8, 2, 1] rfl (hj117 (0 : Int32))
    refine ok_if_eq hE 40 rfl dX8_askByStep_28 ?_ ?_
    · exact ok_sub [2, 3, 4, 1, 0] rfl (hj40 ())
    · refine ok_aload_n hE 4 rfl dX8_askByStep_31 ?_
      refine ok_getI hE fl_X8_172 hp2 rfl dX8_askByStep_32 ?_
      refine ok_iconst hE (4 : Int32) ki_4 dX8_askByStep_35 ?_
      refine ok_icmp_lt hE 40 rfl dX8_askByStep_36 ?_ ?_
      · exact ok_sub [2, 3, 4, 1, 0] rfl (hj40 ())
      · exact ok_return hE dX8_askByStep_39
theorem mS_askByStep {l : Launch} {Y : Sys} {t : Nat} (hY : SysOk Y t shS) (p1 : Int32) (p2 : Nat) (hp2 : shS p2 = shSX3) (M : Mm) (r : Mm) (h : S_askByStep p1 p2 M = some r) : Cm l Y t yX8_askByStep (WS yX8_askByStep cX8_askByStep 9 none) rmS_askByStep [.ref (Y.ad 0), .int p1, .ref (Y.ad p2)] M (enV r) := by
  refine cm_of (own := RX8) hY rfl rfl (Nat.le_of_ble_eq_true rfl) (fun E hE e1 e2 e3 e4 => ?_)
  subst e1
  exact tS_askByStep E hE p1 p2 hp2 M r h e4.symm
def S_weightsTogether  (M : Mm) : Option Int32 :=
 lett (0 : Int32) fun v1 =>
 lett (0 : Int32) fun v2 =>
 loopR (fun (rec4 : (Int32 × Int32) → Option Int32) (x3 : Int32 × Int32) =>
 if (gI M 20 11) ≤ x3.2 then
 (some x3.1)
 else
 (lett (fun (u_3 : Int32) =>
 lett (x3.2 + (1 : Int32)) fun v5 =>
 rec4 (u_3, v5)) fun j43 =>
 lett (fun (_ : Unit) =>
 bnd (S_weightOf x3.2 M) fun r6 =>
 lett (x3.1 + r6) fun v7 =>
 j43 v7) fun j35 =>
 if x3.2 = (gI M 0 11) then
 (j35 ())
 else
 (ald x3.2 6 (if (gI M (9 + 2 * ix x3.2) 8) ≤ 0 then
 (j43 x3.1)
 else
 (j35 ()))))) 1000000 (v1, v2)
abbrev rmS_weightsTogether : Room := { frames := 1, cells := 0, slots := 0, locals := 22 }
set_option maxHeartbeats 4000000 in
set_option maxRecDepth 100000 in
theorem tS_weightsTogether (E : Cx) (hE : CxOk E cX8_weightsTogether RX8 shS (some .int) rmS_weightsTogether 3)   (M : Mm) : Ok E 0 [(0, .ref (E.Y.ad 0))] [] M (S_weightsTogether  M) (KIp E M) := by
  unfold S_weightsTogether
  refine ok_iconst hE (0 : Int32) ki_0 dX8_weightsTogether_0 ?_
  refine ok_istore_n hE (fun v1 => [(1, .int v1), (0, .ref (E.Y.ad 0))]) (fun _ => rfl) rfl dX8_weightsTogether_1 (fun v1 => ?_)
  refine ok_iconst hE (0 : Int32) ki_0 dX8_weightsTogether_2 ?_
  refine ok_istore_n hE (fun v2 => [(2, .int v2), (1, .int v1), (0, .ref (E.Y.ad 0))]) (fun _ => rfl) rfl dX8_weightsTogether_3 (fun v2 => ?_)
  refine ok_sub [2, 1, 0] rfl (ok_loop (σ := Int32 × Int32) 4 (fun x3 => [(0, .ref (E.Y.ad 0)), (1, .int x3.1), (2, .int x3.2)]) (fun x3 => M) (fun rec4 hrec4 x3 => ?_) 1000000 (v1, v2))
  refine ok_iload_n hE 2 rfl dX8_weightsTogether_4 ?_
  refine ok_aload_n hE 0 rfl dX8_weightsTogether_5 ?_
  refine ok_getA hE fl_X8_85 shS_0 rfl dX8_weightsTogether_6 ?_
  refine ok_getI hE fl_X8_130 shS_20 rfl dX8_weightsTogether_9 ?_
  refine ok_icmp_ge hE 49 rfl dX8_weightsTogether_12 ?_ ?_
  · refine ok_iload_n hE 1 rfl dX8_weightsTogether_49 ?_
    exact ok_ireturnP hE dX8_weightsTogether_50
  · refine ok_iload_n hE 2 rfl dX8_weightsTogether_15 ?_
    refine ok_aload_n hE 0 rfl dX8_weightsTogether_16 ?_
    refine ok_getI hE fl_X8_58 shS_0 rfl dX8_weightsTogether_17 ?_
    refine ok_fun (fun j => ∀ (u_3 : Int32), Ok E 43 [(0, .ref (E.Y.ad 0)), (1, .int u_3), (2, .int x3.2)] [] M (j u_3) (KIp E M)) (fun u_3 => ?_) (fun j43 hj43 => ?_)
    · refine ok_iinc hE 2 (x3.2 + (1 : Int32)) (by rw [ko_1]) (fun v5 => [(2, .int v5), (0, .ref (E.Y.ad 0)), (1, .int u_3)]) rfl (fun _ => rfl) rfl dX8_weightsTogether_43 (fun v5 => ?_)
      refine ok_goto hE 4 rfl dX8_weightsTogether_46 ?_
      exact ok_sub [1, 2, 0] rfl (hrec4 (u_3, v5))
    refine ok_fun (fun j => ∀ (_ : Unit), Ok E 35 [(0, .ref (E.Y.ad 0)), (1, .int x3.1), (2, .int x3.2)] [] M (j ()) (KIp E M)) (fun _ => ?_) (fun j35 hj35 => ?_)
    · refine ok_iload_n hE 1 rfl dX8_weightsTogether_35 ?_
      refine ok_aload_n hE 0 rfl dX8_weightsTogether_36 ?_
      refine ok_iload_n hE 2 rfl dX8_weightsTogether_37 ?_
      refine ok_cvIp hE rmS_weightOf [.int x3.2] [.int x3.1] rfl ca_X8_222 shS_0 rfl (fun _ hx => mS_weightOf hE.sys _  _ _ hx) ⟨rfl, rfl, rfl, rfl⟩ rfl rfl dX8_weightsTogether_38 (fun r6 => ?_)
      refine ok_iadd hE dX8_weightsTogether_41 ?_
      refine ok_istore_n hE (fun v7 => [(1, .int v7), (0, .ref (E.Y.ad 0)), (2, .int x3.2)]) (fun _ => rfl) rfl dX8_weightsTogether_42 (fun v7 => ?_)
      exact ok_sub [1, 0, 2] rfl (hj43 v7)
    refine ok_icmp_eq hE 35 rfl dX8_weightsTogether_20 ?_ ?_
    · exact ok_sub [0, 1, 2] rfl (hj35 ())
    · refine ok_aload_n hE 0 rfl dX8_weightsTogether_23 ?_
      refine ok_getC hE fl_X8_19 shS_0 rfl dX8_weightsTogether_24 ?_
      refine ok_iload_n hE 2 rfl dX8_weightsTogether_27 ?_
      refine ok_aaloadH hE shS_2 rfl dX8_weightsTogether_28 (fun hi8 => ?_)
      refine ok_getI hE fl_X8_153 (shS_e_2 hi8) rfl dX8_weightsTogether_29 ?_
      refine ok_if_le hE 43 rfl dX8_weightsTogether_32 ?_ ?_
      · exact ok_sub [0, 1, 2] rfl (hj43 x3.1)
      · exact ok_sub [0, 1, 2] rfl (hj35 ())
theorem mS_weightsTogether {l : Launch} {Y : Sys} {t : Nat} (hY : SysOk Y t shS)   (M : Mm) (r : Int32) (h : S_weightsTogether  M = some r) : Cm l Y t yX8_weightsTogether (WS yX8_weightsTogether cX8_weightsTogether 3 (some .int)) rmS_weightsTogether [.ref (Y.ad 0)] M ((some (.int r), M)) := by
  refine cm_of (own := RX8) hY rfl rfl (Nat.le_of_ble_eq_true rfl) (fun E hE e1 e2 e3 e4 => ?_)
  subst e1
  exact tS_weightsTogether E hE   M r h e4.symm
def S_countDone (p1 : Int32) (M : Mm) : Option Mm :=
 ald (2 : Int32) 6 (lett (gI M 5 (ix (2 : Int32))) fun v1 =>
 ald (3 : Int32) 6 (lett ((gI M 0 10) - (gI M 5 (ix (3 : Int32)))) fun v2 =>
 ald v1 6 (bnd (S_PCount (8 + 2 * ix v1) p1 v2 (gI M 0 19) M) fun M4 =>
 lett (sI M4 0 18 (mmaxI (gI M4 0 18) v2)) fun M5 =>
 ald (4 : Int32) 6 (if (gI M5 5 (ix (4 : Int32))) = (-1 : Int32) then
 (some M5)
 else
 (ald v1 6 (if (gI M5 22 (ix v1)) = 0 then
 (lett (sI M5 (8 + 2 * ix v1) 3 (0 : Int32)) fun M6 =>
 ald (4 : Int32) 6 (lett (sI M6 (8 + 2 * ix v1) 2 (gI M6 5 (ix (4 : Int32)))) fun M7 =>
 some M7))
 else
 (some M5)))))))
abbrev rmS_countDone : Room := { frames := 2, cells := 0, slots := 0, locals := 44 }
set_option maxHeartbeats 4000000 in
set_option maxRecDepth 100000 in
theorem tS_countDone (E : Cx) (hE : CxOk E cX8_countDone RX8 shS none rmS_countDone 5) (p1 : Int32)  (M : Mm) : Ok E 0 [(0, .ref (E.Y.ad 0)), (1, .int p1)] [] M (S_countDone p1 M) (KV E) := by
  unfold S_countDone
  refine ok_aload_n hE 0 rfl dX8_countDone_0 ?_
  refine ok_getC hE fl_X8_30 shS_0 rfl dX8_countDone_1 ?_
  refine ok_iconst hE (2 : Int32) ki_2 dX8_countDone_4 ?_
  refine ok_iaload hE shS_5 dX8_countDone_5 ?_
  refine ok_istore_n hE (fun v1 => [(2, .int v1), (0, .ref (E.Y.ad 0)), (1, .int p1)]) (fun _ => rfl) rfl dX8_countDone_6 (fun v1 => ?_)
  refine ok_aload_n hE 1 rfl dX8_countDone_7 ?_
  refine ok_getI hE fl_X8_55 shS_0 rfl dX8_countDone_8 ?_
  refine ok_aload_n hE 1 rfl dX8_countDone_11 ?_
  refine ok_getC hE fl_X8_30 shS_0 rfl dX8_countDone_12 ?_
  refine ok_iconst hE (3 : Int32) ki_3 dX8_countDone_15 ?_
  refine ok_iaload hE shS_5 dX8_countDone_16 ?_
  refine ok_isub hE dX8_countDone_17 ?_
  refine ok_istore_n hE (fun v2 => [(3, .int v2), (2, .int v1), (0, .ref (E.Y.ad 0)), (1, .int p1)]) (fun _ => rfl) rfl dX8_countDone_18 (fun v2 => ?_)
  refine ok_aload_n hE 2 rfl dX8_countDone_19 ?_
  refine ok_getC hE fl_X8_11 shS_0 rfl dX8_countDone_20 ?_
  refine ok_iload_n hE 1 rfl dX8_countDone_23 ?_
  refine ok_aaloadH hE shS_1 rfl dX8_countDone_24 (fun hi3 => ?_)
  refine ok_astore hE [(4, .ref (E.Y.ad (8 + 2 * ix v1))), (3, .int v2), (2, .int v1), (0, .ref (E.Y.ad 0)), (1, .int p1)] rfl rfl dX8_countDone_25 ?_
  refine ok_aload hE 0 rfl dX8_countDone_27 ?_
  refine ok_iload_n hE 4 rfl dX8_countDone_29 ?_
  refine ok_iload_n hE 1 rfl dX8_countDone_30 ?_
  refine ok_aload_n hE 3 rfl dX8_countDone_31 ?_
  refine ok_getI hE fl_X8_82 shS_0 rfl dX8_countDone_32 ?_
  refine ok_cvV hE rmS_PCount [.int p1, .int v2, .int (gI M 0 19)] [] rfl ca_X8_210 (shS_e_1 hi3) rfl (fun _ hx => mS_PCount hE.sys _ _ _ _ (shS_e_1 hi3) _ _ hx) ⟨rfl, rfl, rfl, rfl⟩ rfl rfl dX8_countDone_35 (fun M4 => ?_)
  refine ok_aload_n hE 3 rfl dX8_countDone_38 ?_
  refine ok_aload_n hE 3 rfl dX8_countDone_39 ?_
  refine ok_getI hE fl_X8_79 shS_0 rfl dX8_countDone_40 ?_
  refine ok_iload_n hE 1 rfl dX8_countDone_43 ?_
  refine ok_mmax hE mt_X8_212 ⟨rfl, rfl⟩ dX8_countDone_44 ?_
  refine ok_putI hE fl_X8_79 shS_0 rfl dX8_countDone_47 (fun M5 => ?_)
  refine ok_aload_n hE 3 rfl dX8_countDone_50 ?_
  refine ok_getC hE fl_X8_30 shS_0 rfl dX8_countDone_51 ?_
  refine ok_iconst hE (4 : Int32) ki_4 dX8_countDone_54 ?_
  refine ok_iaload hE shS_5 dX8_countDone_55 ?_
  refine ok_iconst hE (-1 : Int32) ki_m1 dX8_countDone_56 ?_
  refine ok_icmp_eq hE 89 rfl dX8_countDone_57 ?_ ?_
  · exact ok_return hE dX8_countDone_89
  · refine ok_aload_n hE 3 rfl dX8_countDone_60 ?_
    refine ok_getA hE fl_X8_85 shS_0 rfl dX8_countDone_61 ?_
    refine ok_getC hE fl_X8_218 shS_20 rfl dX8_countDone_64 ?_
    refine ok_iload_n hE 2 rfl dX8_countDone_67 ?_
    refine ok_baload hE shS_22 dX8_countDone_68 ?_
    refine ok_if_ne hE 89 rfl dX8_countDone_69 ?_ ?_
    · exact ok_return hE dX8_countDone_89
    · refine ok_aload hE 0 rfl dX8_countDone_72 ?_
      refine ok_iconst hE (0 : Int32) ki_0 dX8_countDone_74 ?_
      refine ok_putZ hE (Or.inl rfl) fl_X8_183 (shS_e_1 hi3) rfl dX8_countDone_75 (fun M6 => ?_)
      refine ok_aload hE 0 rfl dX8_countDone_78 ?_
      refine ok_aload_n hE 3 rfl dX8_countDone_80 ?_
      refine ok_getC hE fl_X8_30 shS_0 rfl dX8_countDone_81 ?_
      refine ok_iconst hE (4 : Int32) ki_4 dX8_countDone_84 ?_
      refine ok_iaload hE shS_5 dX8_countDone_85 ?_
      refine ok_putI hE fl_X8_186 (shS_e_1 hi3) rfl dX8_countDone_86 (fun M7 => ?_)
      exact ok_return hE dX8_countDone_89
theorem mS_countDone {l : Launch} {Y : Sys} {t : Nat} (hY : SysOk Y t shS) (p1 : Int32)  (M : Mm) (r : Mm) (h : S_countDone p1 M = some r) : Cm l Y t yX8_countDone (WS yX8_countDone cX8_countDone 5 none) rmS_countDone [.ref (Y.ad 0), .int p1] M (enV r) := by
  refine cm_of (own := RX8) hY rfl rfl (Nat.le_of_ble_eq_true rfl) (fun E hE e1 e2 e3 e4 => ?_)
  subst e1
  exact tS_countDone E hE p1  M r h e4.symm
def S_isWorthIdling (p1 : Nat) (M : Mm) : Option Int32 :=
 ald (gI M 0 11) 6 (if (gI M 22 (ix (gI M 0 11))) = 0 then
 (bnd (S_QIsSeeky p1 M) fun r1 =>
 if r1 = 0 then
 (if 0 < (Op.cmpValue (FP.fcmp (gF M p1 2) (FP.i2f (gI M 0 16))) .g) then
 (some (0 : Int32))
 else
 (some (1 : Int32)))
 else
 (some (0 : Int32)))
 else
 (some (0 : Int32)))
abbrev rmS_isWorthIdling : Room := { frames := 3, cells := 0, slots := 0, locals := 60 }
set_option maxHeartbeats 4000000 in
set_option maxRecDepth 100000 in
theorem tS_isWorthIdling (E : Cx) (hE : CxOk E cX8_isWorthIdling RX8 shS (some .boolean) rmS_isWorthIdling 2) (p1 : Nat) (hp1 : shS p1 = shSX4) (M : Mm) : Ok E 0 [(0, .ref (E.Y.ad 0)), (1, .ref (E.Y.ad p1))] [] M (S_isWorthIdling p1 M) (KIp E M) := by
  unfold S_isWorthIdling
  refine ok_aload_n hE 0 rfl dX8_isWorthIdling_0 ?_
  refine ok_getA hE fl_X8_85 shS_0 rfl dX8_isWorthIdling_1 ?_
  refine ok_getC hE fl_X8_218 shS_20 rfl dX8_isWorthIdling_4 ?_
  refine ok_aload_n hE 0 rfl dX8_isWorthIdling_7 ?_
  refine ok_getI hE fl_X8_58 shS_0 rfl dX8_isWorthIdling_8 ?_
  refine ok_baload hE shS_22 dX8_isWorthIdling_11 ?_
  refine ok_if_ne hE 39 rfl dX8_isWorthIdling_12 ?_ ?_
  · refine ok_iconst hE (0 : Int32) ki_0 dX8_isWorthIdling_39 ?_
    exact ok_zreturnP hE (Or.inl rfl) dX8_isWorthIdling_40
  · refine ok_aload_n hE 1 rfl dX8_isWorthIdling_15 ?_
    refine ok_cvIp hE rmS_QIsSeeky [] [] rfl ca_X8_226 hp1 rfl (fun _ hx => mS_QIsSeeky hE.sys _ hp1 _ _ hx) ⟨rfl, rfl, rfl, rfl⟩ rfl rfl dX8_isWorthIdling_16 (fun r1 => ?_)
    refine ok_if_ne hE 39 rfl dX8_isWorthIdling_19 ?_ ?_
    · refine ok_iconst hE (0 : Int32) ki_0 dX8_isWorthIdling_39 ?_
      exact ok_zreturnP hE (Or.inl rfl) dX8_isWorthIdling_40
    · refine ok_aload_n hE 1 rfl dX8_isWorthIdling_22 ?_
      refine ok_getF hE fl_X8_230 hp1 rfl dX8_isWorthIdling_23 ?_
      refine ok_aload_n hE 0 rfl dX8_isWorthIdling_26 ?_
      refine ok_getI hE fl_X8_73 shS_0 rfl dX8_isWorthIdling_27 ?_
      refine ok_i2f hE dX8_isWorthIdling_30 ?_
      refine ok_fcmp hE dX8_isWorthIdling_31 ?_
      refine ok_if_gt hE 39 rfl dX8_isWorthIdling_32 ?_ ?_
      · refine ok_iconst hE (0 : Int32) ki_0 dX8_isWorthIdling_39 ?_
        exact ok_zreturnP hE (Or.inl rfl) dX8_isWorthIdling_40
      · refine ok_iconst hE (1 : Int32) ki_1 dX8_isWorthIdling_35 ?_
        refine ok_goto hE 40 rfl dX8_isWorthIdling_36 ?_
        exact ok_zreturnP hE (Or.inr rfl) dX8_isWorthIdling_40
theorem mS_isWorthIdling {l : Launch} {Y : Sys} {t : Nat} (hY : SysOk Y t shS) (p1 : Nat) (hp1 : shS p1 = shSX4) (M : Mm) (r : Int32) (h : S_isWorthIdling p1 M = some r) : Cm l Y t yX8_isWorthIdling (WS yX8_isWorthIdling cX8_isWorthIdling 2 (some .boolean)) rmS_isWorthIdling [.ref (Y.ad 0), .ref (Y.ad p1)] M ((some (.int r), M)) := by
  refine cm_of (own := RX8) hY rfl rfl (Nat.le_of_ble_eq_true rfl) (fun E hE e1 e2 e3 e4 => ?_)
  subst e1
  exact tS_isWorthIdling E hE p1 hp1 M r h e4.symm
def S_complete  (M : Mm) : Option Mm :=
 if 0 ≤ (gI M 0 11) then
 (ald (gI M 0 11) 6 (ald (1 : Int32) 6 (lett (gI M 5 (ix (1 : Int32))) fun v2 =>
 ald (0 : Int32) 6 (lett (sI M 0 7 ((gI M 5 (ix (0 : Int32))) + v2)) fun M3 =>
 lett (sI M3 0 13 ((gI M3 0 13) + v2)) fun M4 =>
 bnd (S_weightsTogether M4) fun r5 =>
 lett r5 fun v6 =>
 lett (fun (M_6 : Mm) =>
 lett (sI M_6 (9 + 2 * ix (gI M 0 11)) 6 (gI M_6 0 10)) fun M8 =>
 bnd (S_countDone v2 M8) fun M9 =>
 if (gI M9 (9 + 2 * ix (gI M 0 11)) 8) = 0 then
 (bnd (S_isWorthIdling (9 + 2 * ix (gI M 0 11)) M9) fun r10 =>
 lett (fun (w_10 : Int32) =>
 lett (sI M9 0 14 ((gI M9 0 10) + w_10)) fun M12 =>
 some M12) fun j111 =>
 if r10 = 0 then
 (j111 (0 : Int32))
 else
 (j111 (gI M9 0 16)))
 else
 (some M9)) fun j70 =>
 if v6 ≤ 0 then
 (j70 M4)
 else
 (grd ((FP.fdiv (FP.i2f v2) (FP.i2f v6)) &&& 0x7fffffff ≤ 0x7f800000) (grd ((FP.fadd (gF M4 0 8) (FP.fdiv (FP.i2f v2) (FP.i2f v6))) &&& 0x7fffffff ≤ 0x7f800000) (lett (sF M4 0 8 (FP.fadd (gF M4 0 8) (FP.fdiv (FP.i2f v2) (FP.i2f v6)))) fun M13 =>
 j70 M13)))))))
 else
 (some M)
abbrev rmS_complete : Room := { frames := 4, cells := 0, slots := 0, locals := 81 }
set_option maxHeartbeats 4000000 in
set_option maxRecDepth 100000 in
theorem tS_complete (E : Cx) (hE : CxOk E cX8_complete RX8 shS none rmS_complete 4)   (M : Mm) : Ok E 0 [(0, .ref (E.Y.ad 0))] [] M (S_complete  M) (KV E) := by
  unfold S_complete
  refine ok_aload_n hE 0 rfl dX8_complete_0 ?_
  refine ok_getI hE fl_X8_58 shS_0 rfl dX8_complete_1 ?_
  refine ok_if_ge hE 8 rfl dX8_complete_4 ?_ ?_
  · refine ok_aload_n hE 0 rfl dX8_complete_8 ?_
    refine ok_getC hE fl_X8_19 shS_0 rfl dX8_complete_9 ?_
    refine ok_aload_n hE 0 rfl dX8_complete_12 ?_
    refine ok_getI hE fl_X8_58 shS_0 rfl dX8_complete_13 ?_
    refine ok_aaloadH hE shS_2 rfl dX8_complete_16 (fun hi1 => ?_)
    refine ok_astore_n hE [(1, .ref (E.Y.ad (9 + 2 * ix (gI M 0 11)))), (0, .ref (E.Y.ad 0))] rfl rfl dX8_complete_17 ?_
    refine ok_aload_n hE 1 rfl dX8_complete_18 ?_
    refine ok_getC hE fl_X8_30 shS_0 rfl dX8_complete_19 ?_
    refine ok_iconst hE (1 : Int32) ki_1 dX8_complete_22 ?_
    refine ok_iaload hE shS_5 dX8_complete_23 ?_
    refine ok_istore_n hE (fun v2 => [(2, .int v2), (1, .ref (E.Y.ad (9 + 2 * ix (gI M 0 11)))), (0, .ref (E.Y.ad 0))]) (fun _ => rfl) rfl dX8_complete_24 (fun v2 => ?_)
    refine ok_aload_n hE 2 rfl dX8_complete_25 ?_
    refine ok_aload_n hE 2 rfl dX8_complete_26 ?_
    refine ok_getC hE fl_X8_30 shS_0 rfl dX8_complete_27 ?_
    refine ok_iconst hE (0 : Int32) ki_0 dX8_complete_30 ?_
    refine ok_iaload hE shS_5 dX8_complete_31 ?_
    refine ok_iload_n hE 0 rfl dX8_complete_32 ?_
    refine ok_iadd hE dX8_complete_33 ?_
    refine ok_putI hE fl_X8_45 shS_0 rfl dX8_complete_34 (fun M3 => ?_)
    refine ok_aload_n hE 2 rfl dX8_complete_37 ?_
    refine ok_dup hE rfl dX8_complete_38 ?_
    refine ok_getI hE fl_X8_64 shS_0 rfl dX8_complete_39 ?_
    refine ok_iload_n hE 0 rfl dX8_complete_42 ?_
    refine ok_iadd hE dX8_complete_43 ?_
    refine ok_putI hE fl_X8_64 shS_0 rfl dX8_complete_44 (fun M4 => ?_)
    refine ok_aload_n hE 2 rfl dX8_complete_47 ?_
    refine ok_cvIp hE rmS_weightsTogether [] [] rfl ca_X8_196 shS_0 rfl (fun _ hx => mS_weightsTogether hE.sys   _ _ hx) ⟨rfl, rfl, rfl, rfl⟩ rfl rfl dX8_complete_48 (fun r5 => ?_)
    refine ok_istore_n hE (fun v6 => [(3, .int v6), (2, .int v2), (1, .ref (E.Y.ad (9 + 2 * ix (gI M 0 11)))), (0, .ref (E.Y.ad 0))]) (fun _ => rfl) rfl dX8_complete_51 (fun v6 => ?_)
    refine ok_iload_n hE 0 rfl dX8_complete_52 ?_
    refine ok_fun (fun j => ∀ (M_6 : Mm), Ok E 70 [(0, .ref (E.Y.ad 0)), (1, .ref (E.Y.ad (9 + 2 * ix (gI M 0 11)))), (2, .int v2)] [] M_6 (j M_6) (KV E)) (fun M_6 => ?_) (fun j70 hj70 => ?_)
    · refine ok_aload_n hE 1 rfl dX8_complete_70 ?_
      refine ok_aload_n hE 0 rfl dX8_complete_71 ?_
      refine ok_getI hE fl_X8_55 shS_0 rfl dX8_complete_72 ?_
      refine ok_putI hE fl_X8_200 (shS_e_2 hi1) rfl dX8_complete_75 (fun M8 => ?_)
      refine ok_aload_n hE 0 rfl dX8_complete_78 ?_
      refine ok_iload_n hE 2 rfl dX8_complete_79 ?_
      refine ok_cvV hE rmS_countDone [.int v2] [] rfl ca_X8_203 shS_0 rfl (fun _ hx => mS_countDone hE.sys _  _ _ hx) ⟨rfl, rfl, rfl, rfl⟩ rfl rfl dX8_complete_80 (fun M9 => ?_)
      refine ok_aload_n hE 1 rfl dX8_complete_83 ?_
      refine ok_getI hE fl_X8_153 (shS_e_2 hi1) rfl dX8_complete_84 ?_
      refine ok_if_ne hE 115 rfl dX8_complete_87 ?_ ?_
      · exact ok_return hE dX8_complete_115
      · refine ok_aload_n hE 0 rfl dX8_complete_90 ?_
        refine ok_aload_n hE 0 rfl dX8_complete_91 ?_
        refine ok_getI hE fl_X8_55 shS_0 rfl dX8_complete_92 ?_
        refine ok_aload_n hE 0 rfl dX8_complete_95 ?_
        refine ok_aload_n hE 1 rfl dX8_complete_96 ?_
        refine ok_cvIp hE rmS_isWorthIdling [.ref (E.Y.ad (9 + 2 * ix (gI M 0 11)))] [.int (gI M9 0 10), .ref (E.Y.ad 0)] rfl ca_X8_206 shS_0 rfl (fun _ hx => mS_isWorthIdling hE.sys _ (shS_e_2 hi1) _ _ hx) ⟨rfl, rfl, rfl, rfl⟩ rfl rfl dX8_complete_97 (fun r10 => ?_)
        refine ok_fun (fun j => ∀ (w_10 : Int32), Ok E 111 [] [.int w_10, .int (gI M9 0 10), .ref (E.Y.ad 0)] M9 (j w_10) (KV E)) (fun w_10 => ?_) (fun j111 hj111 => ?_)
        · refine ok_iadd hE dX8_complete_111 ?_
          refine ok_putI hE fl_X8_67 shS_0 rfl dX8_complete_112 (fun M12 => ?_)
          exact ok_return hE dX8_complete_115
        refine ok_if_eq hE 110 rfl dX8_complete_100 ?_ ?_
        · refine ok_iconst hE (0 : Int32) ki_0 dX8_complete_110 ?_
          exact ok_sub [] rfl (hj111 (0 : Int32))
        · refine ok_aload_n hE 0 rfl dX8_complete_103 ?_
          refine ok_getI hE fl_X8_73 shS_0 rfl dX8_complete_104 ?_
          refine ok_goto hE 111 rfl dX8_complete_107 ?_
          exact ok_sub [] rfl (hj111 (gI M9 0 16))
    refine ok_if_le hE 70 rfl dX8_complete_53 ?_ ?_
    · exact ok_sub [3, 2, 1] rfl (hj70 M4)
    · refine ok_aload_n hE 3 rfl dX8_complete_56 ?_
      refine ok_aload_n hE 3 rfl dX8_complete_57 ?_
      refine ok_getF hE fl_X8_48 shS_0 rfl dX8_complete_58 ?_
      refine ok_iload_n hE 1 rfl dX8_complete_61 ?_
      refine ok_i2f hE dX8_complete_62 ?_
      refine ok_iload_n hE 0 rfl dX8_complete_63 ?_
      refine ok_i2f hE dX8_complete_64 ?_
      refine ok_fdiv hE dX8_complete_65 ?_
      refine ok_fadd hE dX8_complete_66 ?_
      refine ok_putF hE fl_X8_48 shS_0 rfl dX8_complete_67 (fun M13 => ?_)
      exact ok_sub [3, 2, 1] rfl (hj70 M13)
  · exact ok_return hE dX8_complete_7
theorem mS_complete {l : Launch} {Y : Sys} {t : Nat} (hY : SysOk Y t shS)   (M : Mm) (r : Mm) (h : S_complete  M = some r) : Cm l Y t yX8_complete (WS yX8_complete cX8_complete 4 none) rmS_complete [.ref (Y.ad 0)] M (enV r) := by
  refine cm_of (own := RX8) hY rfl rfl (Nat.le_of_ble_eq_true rfl) (fun E hE e1 e2 e3 e4 => ?_)
  subst e1
  exact tS_complete E hE   M r h e4.symm
def S_run (p1 : Int32) (M : Mm) : Option Mm :=
 lett (0 : Int32) fun v1 =>
 loopR (fun (rec2 : (Int32 × Mm) → Option Mm) (x2 : Int32 × Mm) =>
 if p1 ≤ x2.1 then
 (some x2.2)
 else
 (lett (fun (M_2 : Mm) =>
 lett (0 : Int32) fun v4 =>
 lett (fun (M_4 : Mm) =>
 lett (fun (M_5 : Mm) =>
 lett (sI M_5 0 10 ((gI M_5 0 10) + (1 : Int32))) fun M7 =>
 lett (x2.1 + (1 : Int32)) fun v8 =>
 rec2 (v8, M7)) fun j118 =>
 if (gI M_4 0 6) = 0 then
 (bnd (S_choose M_4) fun M9 =>
 j118 M9)
 else
 (j118 M_4)) fun j107 =>
 loopR (fun (rec37 : (Int32 × Mm) → Option Mm) (x10 : Int32 × Mm) =>
 if (gI x10.2 20 11) ≤ x10.1 then
 (j107 x10.2)
 else
 (ald x10.1 6 (lett (fun (M_11 : Mm) =>
 lett (x10.1 + (1 : Int32)) fun v13 =>
 rec37 (v13, M_11)) fun j101 =>
 if (gI x10.2 (8 + 2 * ix x10.1) 1) = 0 then
 (j101 x10.2)
 else
 (if (gI x10.2 (8 + 2 * ix x10.1) 3) = 0 then
 (if (gI x10.2 (8 + 2 * ix x10.1) 2) ≤ 0 then
 (bnd (S_askByStep x10.1 (8 + 2 * ix x10.1) x10.2) fun M14 =>
 j101 M14)
 else
 (lett (sI x10.2 (8 + 2 * ix x10.1) 2 ((gI x10.2 (8 + 2 * ix x10.1) 2) - (1 : Int32))) fun M15 =>
 j101 M15))
 else
 (j101 x10.2))))) 1000000 (v4, M_2)) fun j35 =>
 if (gI x2.2 0 6) ≤ 0 then
 (j35 x2.2)
 else
 (lett (sI x2.2 0 6 ((gI x2.2 0 6) - (1 : Int32))) fun M16 =>
 if (gI M16 0 6) = 0 then
 (bnd (S_complete M16) fun M17 =>
 j35 M17)
 else
 (j35 M16)))) 1000000 (v1, M)
abbrev rmS_run : Room := { frames := 5, cells := 0, slots := 0, locals := 138 }
set_option maxHeartbeats 4000000 in
set_option maxRecDepth 100000 in
theorem tS_run (E : Cx) (hE : CxOk E cX8_run RX8 shS none rmS_run 5) (p1 : Int32)  (M : Mm) : Ok E 0 [(0, .ref (E.Y.ad 0)), (1, .int p1)] [] M (S_run p1 M) (KV E) := by
  unfold S_run
  refine ok_iconst hE (0 : Int32) ki_0 dX8_run_0 ?_
  refine ok_istore_n hE (fun v1 => [(2, .int v1), (0, .ref (E.Y.ad 0)), (1, .int p1)]) (fun _ => rfl) rfl dX8_run_1 (fun v1 => ?_)
  refine ok_sub [1, 2, 0] rfl (ok_loop (σ := Int32 × Mm) 2 (fun x2 => [(0, .ref (E.Y.ad 0)), (1, .int p1), (2, .int x2.1)]) (fun x2 => x2.2) (fun rec2 hrec2 x2 => ?_) 1000000 (v1, M))
  refine ok_iload_n hE 2 rfl dX8_run_2 ?_
  refine ok_iload_n hE 1 rfl dX8_run_3 ?_
  refine ok_icmp_ge hE 134 rfl dX8_run_4 ?_ ?_
  · exact ok_return hE dX8_run_134
  · refine ok_aload_n hE 0 rfl dX8_run_7 ?_
    refine ok_getI hE fl_X8_41 shS_0 rfl dX8_run_8 ?_
    refine ok_fun (fun j => ∀ (M_2 : Mm), Ok E 35 [(0, .ref (E.Y.ad 0)), (1, .int p1), (2, .int x2.1)] [] M_2 (j M_2) (KV E)) (fun M_2 => ?_) (fun j35 hj35 => ?_)
    · refine ok_iconst hE (0 : Int32) ki_0 dX8_run_35 ?_
      refine ok_istore_n hE (fun v4 => [(3, .int v4), (0, .ref (E.Y.ad 0)), (1, .int p1), (2, .int x2.1)]) (fun _ => rfl) rfl dX8_run_36 (fun v4 => ?_)
      refine ok_fun (fun j => ∀ (M_4 : Mm), Ok E 107 [(0, .ref (E.Y.ad 0)), (1, .int p1), (2, .int x2.1)] [] M_4 (j M_4) (KV E)) (fun M_4 => ?_) (fun j107 hj107 => ?_)
      · refine ok_aload_n hE 0 rfl dX8_run_107 ?_
        refine ok_getI hE fl_X8_41 shS_0 rfl dX8_run_108 ?_
        refine ok_fun (fun j => ∀ (M_5 : Mm), Ok E 118 [(0, .ref (E.Y.ad 0)), (1, .int p1), (2, .int x2.1)] [] M_5 (j M_5) (KV E)) (fun M_5 => ?_) (fun j118 hj118 => ?_)
        · refine ok_aload_n hE 0 rfl dX8_run_118 ?_
          refine ok_dup hE rfl dX8_run_119 ?_
          refine ok_getI hE fl_X8_55 shS_0 rfl dX8_run_120 ?_
          refine ok_iconst hE (1 : Int32) ki_1 dX8_run_123 ?_
          refine ok_iadd hE dX8_run_124 ?_
          refine ok_putI hE fl_X8_55 shS_0 rfl dX8_run_125 (fun M7 => ?_)
          refine ok_iinc hE 2 (x2.1 + (1 : Int32)) (by rw [ko_1]) (fun v8 => [(2, .int v8), (0, .ref (E.Y.ad 0)), (1, .int p1)]) rfl (fun _ => rfl) rfl dX8_run_128 (fun v8 => ?_)
          refine ok_goto hE 2 rfl dX8_run_131 ?_
          exact ok_sub [1, 2, 0] rfl (hrec2 (v8, M7))
        refine ok_if_ne hE 118 rfl dX8_run_111 ?_ ?_
        · exact ok_sub [0, 1, 2] rfl (hj118 M_4)
        · refine ok_aload_n hE 0 rfl dX8_run_114 ?_
          refine ok_cvV hE rmS_choose [] [] rfl ca_X8_193 shS_0 rfl (fun _ hx => mS_choose hE.sys   _ _ hx) ⟨rfl, rfl, rfl, rfl⟩ rfl rfl dX8_run_115 (fun M9 => ?_)
          exact ok_sub [0, 1, 2] rfl (hj118 M9)
      refine ok_sub [1, 2, 3, 0] rfl (ok_loop (σ := Int32 × Mm) 37 (fun x10 => [(0, .ref (E.Y.ad 0)), (1, .int p1), (2, .int x2.1), (3, .int x10.1)]) (fun x10 => x10.2) (fun rec37 hrec37 x10 => ?_) 1000000 (v4, M_2))
      refine ok_iload_n hE 3 rfl dX8_run_37 ?_
      refine ok_aload_n hE 0 rfl dX8_run_38 ?_
      refine ok_getA hE fl_X8_85 shS_0 rfl dX8_run_39 ?_
      refine ok_getI hE fl_X8_130 shS_20 rfl dX8_run_42 ?_
      refine ok_icmp_ge hE 107 rfl dX8_run_45 ?_ ?_
      · exact ok_sub [0, 1, 2] rfl (hj107 x10.2)
      · refine ok_aload_n hE 0 rfl dX8_run_48 ?_
        refine ok_getC hE fl_X8_11 shS_0 rfl dX8_run_49 ?_
        refine ok_iload_n hE 3 rfl dX8_run_52 ?_
        refine ok_aaloadH hE shS_1 rfl dX8_run_53 (fun hi11 => ?_)
        refine ok_astore hE [(4, .ref (E.Y.ad (8 + 2 * ix x10.1))), (0, .ref (E.Y.ad 0)), (1, .int p1), (2, .int x2.1), (3, .int x10.1)] rfl rfl dX8_run_54 ?_
        refine ok_aload hE 0 rfl dX8_run_56 ?_
        refine ok_getI hE fl_X8_179 (shS_e_1 hi11) rfl dX8_run_58 ?_
        refine ok_fun (fun j => ∀ (M_11 : Mm), Ok E 101 [(0, .ref (E.Y.ad 0)), (1, .int p1), (2, .int x2.1), (3, .int x10.1)] [] M_11 (j M_11) (KV E)) (fun M_11 => ?_) (fun j101 hj101 => ?_)
        · refine ok_iinc hE 3 (x10.1 + (1 : Int32)) (by rw [ko_1]) (fun v13 => [(3, .int v13), (0, .ref (E.Y.ad 0)), (1, .int p1), (2, .int x2.1)]) rfl (fun _ => rfl) rfl dX8_run_101 (fun v13 => ?_)
          refine ok_goto hE 37 rfl dX8_run_104 ?_
          exact ok_sub [1, 2, 3, 0] rfl (hrec37 (v13, M_11))
        refine ok_if_eq hE 101 rfl dX8_run_61 ?_ ?_
        · exact ok_sub [1, 2, 3, 4] rfl (hj101 x10.2)
        · refine ok_aload hE 0 rfl dX8_run_64 ?_
          refine ok_getI hE fl_X8_183 (shS_e_1 hi11) rfl dX8_run_66 ?_
          refine ok_if_ne hE 101 rfl dX8_run_69 ?_ ?_
          · exact ok_sub [1, 2, 3, 4] rfl (hj101 x10.2)
          · refine ok_aload hE 0 rfl dX8_run_72 ?_
            refine ok_getI hE fl_X8_186 (shS_e_1 hi11) rfl dX8_run_74 ?_
            refine ok_if_le hE 94 rfl dX8_run_77 ?_ ?_
            · refine ok_aload_n hE 1 rfl dX8_run_94 ?_
              refine ok_iload_n hE 4 rfl dX8_run_95 ?_
              refine ok_aload hE 0 rfl dX8_run_96 ?_
              refine ok_cvV hE rmS_askByStep [.int x10.1, .ref (E.Y.ad (8 + 2 * ix x10.1))] [] rfl ca_X8_189 shS_0 rfl (fun _ hx => mS_askByStep hE.sys _ _ (shS_e_1 hi11) _ _ hx) ⟨rfl, rfl, rfl, rfl⟩ rfl rfl dX8_run_98 (fun M14 => ?_)
              exact ok_sub [1, 2, 3, 4] rfl (hj101 M14)
            · refine ok_aload hE 0 rfl dX8_run_80 ?_
              refine ok_dup hE rfl dX8_run_82 ?_
              refine ok_getI hE fl_X8_186 (shS_e_1 hi11) rfl dX8_run_83 ?_
              refine ok_iconst hE (1 : Int32) ki_1 dX8_run_86 ?_
              refine ok_isub hE dX8_run_87 ?_
              refine ok_putI hE fl_X8_186 (shS_e_1 hi11) rfl dX8_run_88 (fun M15 => ?_)
              refine ok_goto hE 101 rfl dX8_run_91 ?_
              exact ok_sub [1, 2, 3, 4] rfl (hj101 M15)
    refine ok_if_le hE 35 rfl dX8_run_11 ?_ ?_
    · exact ok_sub [0, 1, 2] rfl (hj35 x2.2)
    · refine ok_aload_n hE 0 rfl dX8_run_14 ?_
      refine ok_dup hE rfl dX8_run_15 ?_
      refine ok_getI hE fl_X8_41 shS_0 rfl dX8_run_16 ?_
      refine ok_iconst hE (1 : Int32) ki_1 dX8_run_19 ?_
      refine ok_isub hE dX8_run_20 ?_
      refine ok_putI hE fl_X8_41 shS_0 rfl dX8_run_21 (fun M16 => ?_)
      refine ok_aload_n hE 0 rfl dX8_run_24 ?_
      refine ok_getI hE fl_X8_41 shS_0 rfl dX8_run_25 ?_
      refine ok_if_ne hE 35 rfl dX8_run_28 ?_ ?_
      · exact ok_sub [0, 1, 2] rfl (hj35 M16)
      · refine ok_aload_n hE 0 rfl dX8_run_31 ?_
        refine ok_cvV hE rmS_complete [] [] rfl ca_X8_176 shS_0 rfl (fun _ hx => mS_complete hE.sys   _ _ hx) ⟨rfl, rfl, rfl, rfl⟩ rfl rfl dX8_run_32 (fun M17 => ?_)
        exact ok_sub [0, 1, 2] rfl (hj35 M17)
theorem mS_run {l : Launch} {Y : Sys} {t : Nat} (hY : SysOk Y t shS) (p1 : Int32)  (M : Mm) (r : Mm) (h : S_run p1 M = some r) : Cm l Y t yX8_run (WS yX8_run cX8_run 5 none) rmS_run [.ref (Y.ad 0), .int p1] M (enV r) := by
  refine cm_of (own := RX8) hY rfl rfl (Nat.le_of_ble_eq_true rfl) (fun E hE e1 e2 e3 e4 => ?_)
  subst e1
  exact tS_run E hE p1  M r h e4.symm
