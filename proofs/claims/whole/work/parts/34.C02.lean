def C_worst (p1 : Int32) (p2 : Int32) (M : Mm) : Option (Int32 × Mm) :=
 bnd (C_isWithin p1 (1 : Int32) (400 : Int32) M) fun r1 =>
 if r1 = 0 then
 (some ((-1 : Int32), M))
 else
 (bnd (C_isWithin p2 (0 : Int32) (1 : Int32) M) fun r2 =>
 if r2 = 0 then
 (some ((-1 : Int32), M))
 else
 (lett (gR M 0 0) fun y3 =>
 nn y3 fun c4 => grd (shC c4 = shCX2) (if (gI M c4 11) = 0 then
 (some ((-1 : Int32), M))
 else
 (bnd (C_runAhead p1 M) fun r6 =>
 grd (r6.1 = 46) (plnS r6.2 46 fun q8 =>
 bnd (S_worstProcess (sbM (emS 46 q8) r6.2)) fun r7 =>
 lett r7 fun v11 =>
 if 0 ≤ v11 then
 (if p2 = 0 then
 (some (v11, r6.2))
 else
 (ald v11 6 (some ((gI r6.2 (54 + 2 * ix v11) 12), r6.2))))
 else
 (some ((-1 : Int32), r6.2)))))))
abbrev rmC_worst : Room := { frames := 7, cells := 0, slots := 0, locals := 184 }
set_option maxHeartbeats 4000000 in
set_option maxRecDepth 100000 in
theorem tC_worst (E : Cx) (hE : CxOk E cX11_worst RX11 shC (some .int) rmC_worst 5) (p1 : Int32) (p2 : Int32)  (M : Mm) : Ok E 0 [(0, .ref (E.Y.ad 0)), (1, .int p1), (2, .int p2)] [] M (C_worst p1 p2 M) (KI E) := by
  unfold C_worst
  refine ok_iload_n hE 1 rfl dX11_worst_0 ?_
  refine ok_iconst hE (1 : Int32) ki_1 dX11_worst_1 ?_
  refine ok_sipush hE (400 : Int32) ks_400 dX11_worst_2 ?_
  refine ok_csIp hE rmC_isWithin [.int p1, .int (1 : Int32), .int (400 : Int32)] [] rfl ca_X11_306 (fun _ hx => mC_isWithin hE.sys _ _ _  _ _ hx) ⟨rfl, rfl, rfl, rfl⟩ rfl rfl dX11_worst_5 (fun r1 => ?_)
  refine ok_if_eq hE 30 rfl dX11_worst_8 ?_ ?_
  · refine ok_iconst hE (-1 : Int32) ki_m1 dX11_worst_30 ?_
    exact ok_ireturn hE dX11_worst_31
  · refine ok_iload_n hE 2 rfl dX11_worst_11 ?_
    refine ok_iconst hE (0 : Int32) ki_0 dX11_worst_12 ?_
    refine ok_iconst hE (1 : Int32) ki_1 dX11_worst_13 ?_
    refine ok_csIp hE rmC_isWithin [.int p2, .int (0 : Int32), .int (1 : Int32)] [] rfl ca_X11_306 (fun _ hx => mC_isWithin hE.sys _ _ _  _ _ hx) ⟨rfl, rfl, rfl, rfl⟩ rfl rfl dX11_worst_14 (fun r2 => ?_)
    refine ok_if_eq hE 30 rfl dX11_worst_17 ?_ ?_
    · refine ok_iconst hE (-1 : Int32) ki_m1 dX11_worst_30 ?_
      exact ok_ireturn hE dX11_worst_31
    · refine ok_aload_n hE 0 rfl dX11_worst_20 ?_
      refine ok_getRL hE fl_X11_10 shC_0 rfl dX11_worst_21 (fun y3 => ?_)
      rcases y3 with _ | c4
      · exact fun r hr => by cases hr
      dsimp only [nn]
      refine ok_grd (fun hc5 => ?_)
      refine ok_getI hE fl_X11_125 hc5 rfl dX11_worst_24 ?_
      refine ok_if_ne hE 32 rfl dX11_worst_27 ?_ ?_
      · refine ok_aload_n hE 0 rfl dX11_worst_32 ?_
        refine ok_iload_n hE 1 rfl dX11_worst_33 ?_
        refine ok_cvA hE rmC_runAhead [.int p1] [] rfl ca_X11_310 shC_0 rfl (fun _ hx => mC_runAhead hE.sys _  _ _ hx) ⟨rfl, rfl, rfl, rfl⟩ rfl rfl dX11_worst_34 (fun r6 => ?_)
        refine ok_grd (fun hg13 => ?_)
        refine ok_code hg13 ?_
        refine ok_astore_n hE [(3, .ref (E.Y.ad 46)), (0, .ref (E.Y.ad 0)), (1, .int p1), (2, .int p2)] rfl rfl dX11_worst_37 ?_
        refine ok_aload_n hE 0 rfl dX11_worst_38 ?_
        refine ok_plnS hE (fun q8 hq9 => ?_)
        refine ok_xIp hE rmS_worstProcess [] [] rfl ca_X11_345 shC_46 rfl hq9 rfl (fun hs _ hx => mS_worstProcess hs   _ _ hx) ⟨rfl, rfl, rfl, rfl⟩ rfl rfl dX11_worst_39 (fun r7 => ?_)
        refine ok_istore hE (fun v11 => [(4, .int v11), (3, .ref (E.Y.ad 46)), (0, .ref (E.Y.ad 0)), (1, .int p1), (2, .int p2)]) (fun _ => rfl) rfl dX11_worst_42 (fun v11 => ?_)
        refine ok_iload hE 0 rfl dX11_worst_44 ?_
        refine ok_if_ge hE 51 rfl dX11_worst_46 ?_ ?_
        · refine ok_iload_n hE 4 rfl dX11_worst_51 ?_
          refine ok_if_ne hE 60 rfl dX11_worst_52 ?_ ?_
          · refine ok_aload_n hE 1 rfl dX11_worst_60 ?_
            refine ok_getC hE fl_X11_171 shC_46 rfl dX11_worst_61 ?_
            refine ok_iload hE 0 rfl dX11_worst_64 ?_
            refine ok_aaloadH hE shC_47 rfl dX11_worst_66 (fun hi12 => ?_)
            refine ok_getI hE fl_X11_210 (shC_e_47 hi12) rfl dX11_worst_67 ?_
            exact ok_ireturn hE dX11_worst_70
          · refine ok_iload hE 0 rfl dX11_worst_55 ?_
            refine ok_goto hE 70 rfl dX11_worst_57 ?_
            exact ok_ireturn hE dX11_worst_70
        · refine ok_iconst hE (-1 : Int32) ki_m1 dX11_worst_49 ?_
          exact ok_ireturn hE dX11_worst_50
      · refine ok_iconst hE (-1 : Int32) ki_m1 dX11_worst_30 ?_
        exact ok_ireturn hE dX11_worst_31
theorem mC_worst {l : Launch} {Y : Sys} {t : Nat} (hY : SysOk Y t shC) (p1 : Int32) (p2 : Int32)  (M : Mm) (r : (Int32 × Mm)) (h : C_worst p1 p2 M = some r) : Cm l Y t yX11_worst (WS yX11_worst cX11_worst 5 (some .int)) rmC_worst [.ref (Y.ad 0), .int p1, .int p2] M (enI r) := by
  refine cm_of (own := RX11) hY rfl rfl (Nat.le_of_ble_eq_true rfl) (fun E hE e1 e2 e3 e4 => ?_)
  subst e1
  exact tC_worst E hE p1 p2  M r h e4.symm
def C_greatestBySlice (p1 : Int32) (p2 : Int32) (p3 : Int32) (M : Mm) : Option (Int32 × Mm) :=
 bnd (C_startAhead M) fun r1 =>
 grd (r1.1 = 46) (lett (sI r1.2 46 17 p2) fun M2 =>
 lett (0 : Int32) fun v3 =>
 loopR (fun (rec15 : (Int32 × Mm) → Option (Int32 × Mm)) (x4 : Int32 × Mm) =>
 if p1 ≤ x4.1 then
 (some ((gI x4.2 46 18), x4.2))
 else
 (if p3 ≤ (gI x4.2 46 18) then
 (some ((gI x4.2 46 18), x4.2))
 else
 (plnS x4.2 46 fun q6 =>
 bnd (S_run (1 : Int32) (sbM (emS 46 q6) x4.2)) fun x5 =>
 lett (inM (dmS 46 q6) kpS x4.2 x5) fun M8 =>
 lett (x4.1 + (1 : Int32)) fun v9 =>
 rec15 (v9, M8)))) 1000000 (v3, M2))
abbrev rmC_greatestBySlice : Room := { frames := 6, cells := 0, slots := 0, locals := 162 }
set_option maxHeartbeats 4000000 in
set_option maxRecDepth 100000 in
theorem tC_greatestBySlice (E : Cx) (hE : CxOk E cX11_greatestBySlice RX11 shC (some .int) rmC_greatestBySlice 6) (p1 : Int32) (p2 : Int32) (p3 : Int32)  (M : Mm) : Ok E 0 [(0, .ref (E.Y.ad 0)), (1, .int p1), (2, .int p2), (3, .int p3)] [] M (C_greatestBySlice p1 p2 p3 M) (KI E) := by
  unfold C_greatestBySlice
  refine ok_aload_n hE 0 rfl dX11_greatestBySlice_0 ?_
  refine ok_cvA hE rmC_startAhead [] [] rfl ca_X11_317 shC_0 rfl (fun _ hx => mC_startAhead hE.sys   _ _ hx) ⟨rfl, rfl, rfl, rfl⟩ rfl rfl dX11_greatestBySlice_1 (fun r1 => ?_)
  refine ok_grd (fun hg14 => ?_)
  refine ok_code hg14 ?_
  refine ok_astore hE [(4, .ref (E.Y.ad 46)), (0, .ref (E.Y.ad 0)), (1, .int p1), (2, .int p2), (3, .int p3)] rfl rfl dX11_greatestBySlice_4 ?_
  refine ok_aload hE 0 rfl dX11_greatestBySlice_6 ?_
  refine ok_iload_n hE 3 rfl dX11_greatestBySlice_8 ?_
  refine ok_putI hE fl_X11_148 shC_46 rfl dX11_greatestBySlice_9 (fun M2 => ?_)
  refine ok_iconst hE (0 : Int32) ki_0 dX11_greatestBySlice_12 ?_
  refine ok_istore hE (fun v3 => [(5, .int v3), (4, .ref (E.Y.ad 46)), (0, .ref (E.Y.ad 0)), (1, .int p1), (2, .int p2), (3, .int p3)]) (fun _ => rfl) rfl dX11_greatestBySlice_13 (fun v3 => ?_)
  refine ok_sub [3, 5, 1, 0] rfl (ok_loop (σ := Int32 × Mm) 15 (fun x4 => [(1, .int p1), (3, .int p3), (4, .ref (E.Y.ad 46)), (5, .int x4.1)]) (fun x4 => x4.2) (fun rec15 hrec15 x4 => ?_) 1000000 (v3, M2))
  refine ok_iload hE 3 rfl dX11_greatestBySlice_15 ?_
  refine ok_iload_n hE 0 rfl dX11_greatestBySlice_17 ?_
  refine ok_icmp_ge hE 42 rfl dX11_greatestBySlice_18 ?_ ?_
  · refine ok_aload hE 2 rfl dX11_greatestBySlice_42 ?_
    refine ok_getI hE fl_X11_415 shC_46 rfl dX11_greatestBySlice_44 ?_
    exact ok_ireturn hE dX11_greatestBySlice_47
  · refine ok_aload hE 2 rfl dX11_greatestBySlice_21 ?_
    refine ok_getI hE fl_X11_415 shC_46 rfl dX11_greatestBySlice_23 ?_
    refine ok_iload_n hE 1 rfl dX11_greatestBySlice_26 ?_
    refine ok_icmp_ge hE 42 rfl dX11_greatestBySlice_27 ?_ ?_
    · refine ok_aload hE 2 rfl dX11_greatestBySlice_42 ?_
      refine ok_getI hE fl_X11_415 shC_46 rfl dX11_greatestBySlice_44 ?_
      exact ok_ireturn hE dX11_greatestBySlice_47
    · refine ok_aload hE 2 rfl dX11_greatestBySlice_30 ?_
      refine ok_iconst hE (1 : Int32) ki_1 dX11_greatestBySlice_32 ?_
      refine ok_plnS hE (fun q6 hq7 => ?_)
      refine ok_xV hE rmS_run [.int (1 : Int32)] [] rfl ca_X11_321 shC_46 rfl hq7 rfl (fun hs _ hx => mS_run hs _  _ _ hx) ⟨rfl, rfl, rfl, rfl⟩ rfl rfl dX11_greatestBySlice_33 (fun x5 M8 => ?_)
      refine ok_iinc hE 3 (x4.1 + (1 : Int32)) (by rw [ko_1]) (fun v9 => [(5, .int v9), (1, .int p1), (3, .int p3), (4, .ref (E.Y.ad 46))]) rfl (fun _ => rfl) rfl dX11_greatestBySlice_36 (fun v9 => ?_)
      refine ok_goto hE 15 rfl dX11_greatestBySlice_39 ?_
      exact ok_sub [1, 2, 3, 0] rfl (hrec15 (v9, M8))
theorem mC_greatestBySlice {l : Launch} {Y : Sys} {t : Nat} (hY : SysOk Y t shC) (p1 : Int32) (p2 : Int32) (p3 : Int32)  (M : Mm) (r : (Int32 × Mm)) (h : C_greatestBySlice p1 p2 p3 M = some r) : Cm l Y t yX11_greatestBySlice (WS yX11_greatestBySlice cX11_greatestBySlice 6 (some .int)) rmC_greatestBySlice [.ref (Y.ad 0), .int p1, .int p2, .int p3] M (enI r) := by
  refine cm_of (own := RX11) hY rfl rfl (Nat.le_of_ble_eq_true rfl) (fun E hE e1 e2 e3 e4 => ?_)
  subst e1
  exact tC_greatestBySlice E hE p1 p2 p3  M r h e4.symm
def C_slicing (p1 : Int32) (p2 : Int32) (M : Mm) : Option (Int32 × Mm) :=
 lett (gR M 0 0) fun y1 =>
 nn y1 fun c2 => grd (shC c2 = shCX2) (if (gI M c2 11) = 0 then
 (some ((-1 : Int32), M))
 else
 (bnd (C_isWithin p1 (1 : Int32) (100 : Int32) M) fun r4 =>
 if r4 = 0 then
 (some ((-1 : Int32), M))
 else
 (bnd (C_isWithin p2 (0 : Int32) (1 : Int32) M) fun r5 =>
 if r5 = 0 then
 (some ((-1 : Int32), M))
 else
 (lett (200 : Int32) fun v6 =>
 bnd (C_greatestBySlice p1 (200 : Int32) (2147483647 : Int32) M) fun r7 =>
 lett r7.1 fun v8 =>
 lett (199 : Int32) fun v9 =>
 lett (fun (u_9 : Int32) (u_10 : Int32) (M_11 : Mm) =>
 if p2 = 0 then
 (some (u_9, M_11))
 else
 (some (u_10, M_11))) fun j95 =>
 loopR (fun (rec53 : (Int32 × Int32 × Int32 × Mm) → Option (Int32 × Mm)) (x13 : Int32 × Int32 × Int32 × Mm) =>
 if x13.2.2.1 < (1 : Int32) then
 (j95 x13.1 x13.2.1 x13.2.2.2)
 else
 (if x13.2.1 ≤ 0 then
 (j95 x13.1 x13.2.1 x13.2.2.2)
 else
 (bnd (C_greatestBySlice p1 x13.2.2.1 x13.2.1 x13.2.2.2) fun r14 =>
 lett r14.1 fun v15 =>
 lett (fun (u_15 : Int32) (u_16 : Int32) =>
 lett (x13.2.2.1 + (-1 : Int32)) fun v18 =>
 rec53 (u_15, u_16, v18, r14.2)) fun j89 =>
 if x13.2.1 ≤ v15 then
 (j89 x13.1 x13.2.1)
 else
 (lett v15 fun v19 =>
 lett x13.2.2.1 fun v20 =>
 j89 v20 v19)))) 1000000 (v6, v8, v9, r7.2)))))
abbrev rmC_slicing : Room := { frames := 7, cells := 0, slots := 0, locals := 187 }
set_option maxHeartbeats 4000000 in
set_option maxRecDepth 100000 in
theorem tC_slicing (E : Cx) (hE : CxOk E cX11_slicing RX11 shC (some .int) rmC_slicing 7) (p1 : Int32) (p2 : Int32)  (M : Mm) : Ok E 0 [(0, .ref (E.Y.ad 0)), (1, .int p1), (2, .int p2)] [] M (C_slicing p1 p2 M) (KI E) := by
  unfold C_slicing
  refine ok_aload_n hE 0 rfl dX11_slicing_0 ?_
  refine ok_getRL hE fl_X11_10 shC_0 rfl dX11_slicing_1 (fun y1 => ?_)
  rcases y1 with _ | c2
  · exact fun r hr => by cases hr
  dsimp only [nn]
  refine ok_grd (fun hc3 => ?_)
  refine ok_getI hE fl_X11_125 hc3 rfl dX11_slicing_4 ?_
  refine ok_if_eq hE 29 rfl dX11_slicing_7 ?_ ?_
  · refine ok_iconst hE (-1 : Int32) ki_m1 dX11_slicing_29 ?_
    exact ok_ireturn hE dX11_slicing_30
  · refine ok_iload_n hE 1 rfl dX11_slicing_10 ?_
    refine ok_iconst hE (1 : Int32) ki_1 dX11_slicing_11 ?_
    refine ok_bipush hE (100 : Int32) kb_100 dX11_slicing_12 ?_
    refine ok_csIp hE rmC_isWithin [.int p1, .int (1 : Int32), .int (100 : Int32)] [] rfl ca_X11_306 (fun _ hx => mC_isWithin hE.sys _ _ _  _ _ hx) ⟨rfl, rfl, rfl, rfl⟩ rfl rfl dX11_slicing_14 (fun r4 => ?_)
    refine ok_if_eq hE 29 rfl dX11_slicing_17 ?_ ?_
    · refine ok_iconst hE (-1 : Int32) ki_m1 dX11_slicing_29 ?_
      exact ok_ireturn hE dX11_slicing_30
    · refine ok_iload_n hE 2 rfl dX11_slicing_20 ?_
      refine ok_iconst hE (0 : Int32) ki_0 dX11_slicing_21 ?_
      refine ok_iconst hE (1 : Int32) ki_1 dX11_slicing_22 ?_
      refine ok_csIp hE rmC_isWithin [.int p2, .int (0 : Int32), .int (1 : Int32)] [] rfl ca_X11_306 (fun _ hx => mC_isWithin hE.sys _ _ _  _ _ hx) ⟨rfl, rfl, rfl, rfl⟩ rfl rfl dX11_slicing_23 (fun r5 => ?_)
      refine ok_if_ne hE 31 rfl dX11_slicing_26 ?_ ?_
      · refine ok_sipush hE (200 : Int32) ks_200 dX11_slicing_31 ?_
        refine ok_istore_n hE (fun v6 => [(3, .int v6), (0, .ref (E.Y.ad 0)), (1, .int p1), (2, .int p2)]) (fun _ => rfl) rfl dX11_slicing_34 (fun v6 => ?_)
        refine ok_aload_n hE 1 rfl dX11_slicing_35 ?_
        refine ok_iload_n hE 2 rfl dX11_slicing_36 ?_
        refine ok_sipush hE (200 : Int32) ks_200 dX11_slicing_37 ?_
        refine ok_ldcw hE ct_X11_348 dX11_slicing_40 ?_
        refine ok_cvI hE rmC_greatestBySlice [.int p1, .int (200 : Int32), .int (2147483647 : Int32)] [] rfl ca_X11_349 shC_0 rfl (fun _ hx => mC_greatestBySlice hE.sys _ _ _  _ _ hx) ⟨rfl, rfl, rfl, rfl⟩ rfl rfl dX11_slicing_43 (fun r7 => ?_)
        refine ok_istore hE (fun v8 => [(4, .int v8), (3, .int v6), (0, .ref (E.Y.ad 0)), (1, .int p1), (2, .int p2)]) (fun _ => rfl) rfl dX11_slicing_46 (fun v8 => ?_)
        refine ok_sipush hE (199 : Int32) ks_199 dX11_slicing_48 ?_
        refine ok_istore hE (fun v9 => [(5, .int v9), (4, .int v8), (3, .int v6), (0, .ref (E.Y.ad 0)), (1, .int p1), (2, .int p2)]) (fun _ => rfl) rfl dX11_slicing_51 (fun v9 => ?_)
        refine ok_fun (fun j => ∀ (u_9 : Int32) (u_10 : Int32) (M_11 : Mm), Ok E 95 [(2, .int p2), (3, .int u_9), (4, .int u_10)] [] M_11 (j u_9 u_10 M_11) (KI E)) (fun u_9 u_10 M_11 => ?_) (fun j95 hj95 => ?_)
        · refine ok_iload_n hE 0 rfl dX11_slicing_95 ?_
          refine ok_if_ne hE 103 rfl dX11_slicing_96 ?_ ?_
          · refine ok_iload hE 2 rfl dX11_slicing_103 ?_
            exact ok_ireturn hE dX11_slicing_105
          · refine ok_iload_n hE 1 rfl dX11_slicing_99 ?_
            refine ok_goto hE 105 rfl dX11_slicing_100 ?_
            exact ok_ireturn hE dX11_slicing_105
        refine ok_sub [3, 4, 5, 2, 1, 0] rfl (ok_loop (σ := Int32 × Int32 × Int32 × Mm) 53 (fun x13 => [(0, .ref (E.Y.ad 0)), (1, .int p1), (2, .int p2), (3, .int x13.1), (4, .int x13.2.1), (5, .int x13.2.2.1)]) (fun x13 => x13.2.2.2) (fun rec53 hrec53 x13 => ?_) 1000000 (v6, v8, v9, r7.2))
        refine ok_iload hE 5 rfl dX11_slicing_53 ?_
        refine ok_iconst hE (1 : Int32) ki_1 dX11_slicing_55 ?_
        refine ok_icmp_lt hE 95 rfl dX11_slicing_56 ?_ ?_
        · exact ok_sub [2, 3, 4] rfl (hj95 x13.1 x13.2.1 x13.2.2.2)
        · refine ok_iload hE 4 rfl dX11_slicing_59 ?_
          refine ok_if_le hE 95 rfl dX11_slicing_61 ?_ ?_
          · exact ok_sub [2, 3, 4] rfl (hj95 x13.1 x13.2.1 x13.2.2.2)
          · refine ok_aload_n hE 0 rfl dX11_slicing_64 ?_
            refine ok_iload_n hE 1 rfl dX11_slicing_65 ?_
            refine ok_iload hE 5 rfl dX11_slicing_66 ?_
            refine ok_iload hE 4 rfl dX11_slicing_68 ?_
            refine ok_cvI hE rmC_greatestBySlice [.int p1, .int x13.2.2.1, .int x13.2.1] [] rfl ca_X11_349 shC_0 rfl (fun _ hx => mC_greatestBySlice hE.sys _ _ _  _ _ hx) ⟨rfl, rfl, rfl, rfl⟩ rfl rfl dX11_slicing_70 (fun r14 => ?_)
            refine ok_istore hE (fun v15 => [(6, .int v15), (0, .ref (E.Y.ad 0)), (1, .int p1), (2, .int p2), (3, .int x13.1), (4, .int x13.2.1), (5, .int x13.2.2.1)]) (fun _ => rfl) rfl dX11_slicing_73 (fun v15 => ?_)
            refine ok_iload hE 0 rfl dX11_slicing_75 ?_
            refine ok_iload hE 5 rfl dX11_slicing_77 ?_
            refine ok_fun (fun j => ∀ (u_15 : Int32) (u_16 : Int32), Ok E 89 [(0, .ref (E.Y.ad 0)), (1, .int p1), (2, .int p2), (3, .int u_15), (4, .int u_16), (5, .int x13.2.2.1)] [] r14.2 (j u_15 u_16) (KI E)) (fun u_15 u_16 => ?_) (fun j89 hj89 => ?_)
            · refine ok_iinc hE 5 (x13.2.2.1 + (-1 : Int32)) (by rw [ko_m1]) (fun v18 => [(5, .int v18), (0, .ref (E.Y.ad 0)), (1, .int p1), (2, .int p2), (3, .int u_15), (4, .int u_16)]) rfl (fun _ => rfl) rfl dX11_slicing_89 (fun v18 => ?_)
              refine ok_goto hE 53 rfl dX11_slicing_92 ?_
              exact ok_sub [1, 2, 3, 4, 5, 0] rfl (hrec53 (u_15, u_16, v18, r14.2))
            refine ok_icmp_ge hE 89 rfl dX11_slicing_79 ?_ ?_
            · exact ok_sub [1, 2, 3, 4, 5, 6] rfl (hj89 x13.1 x13.2.1)
            · refine ok_iload hE 0 rfl dX11_slicing_82 ?_
              refine ok_istore hE (fun v19 => [(4, .int v19), (6, .int v15), (0, .ref (E.Y.ad 0)), (1, .int p1), (2, .int p2), (3, .int x13.1), (5, .int x13.2.2.1)]) (fun _ => rfl) rfl dX11_slicing_84 (fun v19 => ?_)
              refine ok_iload hE 6 rfl dX11_slicing_86 ?_
              refine ok_istore_n hE (fun v20 => [(3, .int v20), (4, .int v19), (6, .int v15), (0, .ref (E.Y.ad 0)), (1, .int p1), (2, .int p2), (5, .int x13.2.2.1)]) (fun _ => rfl) rfl dX11_slicing_88 (fun v20 => ?_)
              exact ok_sub [3, 4, 5, 0, 1, 6] rfl (hj89 v20 v19)
      · refine ok_iconst hE (-1 : Int32) ki_m1 dX11_slicing_29 ?_
        exact ok_ireturn hE dX11_slicing_30
theorem mC_slicing {l : Launch} {Y : Sys} {t : Nat} (hY : SysOk Y t shC) (p1 : Int32) (p2 : Int32)  (M : Mm) (r : (Int32 × Mm)) (h : C_slicing p1 p2 M = some r) : Cm l Y t yX11_slicing (WS yX11_slicing cX11_slicing 7 (some .int)) rmC_slicing [.ref (Y.ad 0), .int p1, .int p2] M (enI r) := by
  refine cm_of (own := RX11) hY rfl rfl (Nat.le_of_ble_eq_true rfl) (fun E hE e1 e2 e3 e4 => ?_)
  subst e1
  exact tC_slicing E hE p1 p2  M r h e4.symm
def C_lag (p1 : Int32) (M : Mm) : Option Int32 :=
 bnd (C_isProcess p1 M) fun r1 =>
 if r1 = 0 then
 (some (-1 : Int32))
 else
 (ald p1 6 (grd ((FP.fsub (gF M (35 + 2 * ix p1) 0) (gF M 26 8)) &&& 0x7fffffff ≤ 0x7f800000) (bnd (C_bitsOfFloat (FP.fsub (gF M (35 + 2 * ix p1) 0) (gF M 26 8)) M) fun r3 =>
 some r3)))
abbrev rmC_lag : Room := { frames := 2, cells := 0, slots := 0, locals := 43 }
set_option maxHeartbeats 4000000 in
set_option maxRecDepth 100000 in
theorem tC_lag (E : Cx) (hE : CxOk E cX11_lag RX11 shC (some .int) rmC_lag 2) (p1 : Int32)  (M : Mm) : Ok E 0 [(0, .ref (E.Y.ad 0)), (1, .int p1)] [] M (C_lag p1 M) (KIp E M) := by
  unfold C_lag
  refine ok_aload_n hE 0 rfl dX11_lag_0 ?_
  refine ok_iload_n hE 1 rfl dX11_lag_1 ?_
  refine ok_cvIp hE rmC_isProcess [.int p1] [] rfl ca_X11_164 shC_0 rfl (fun _ hx => mC_isProcess hE.sys _  _ _ hx) ⟨rfl, rfl, rfl, rfl⟩ rfl rfl dX11_lag_2 (fun r1 => ?_)
  refine ok_if_ne hE 10 rfl dX11_lag_5 ?_ ?_
  · refine ok_aload_n hE 0 rfl dX11_lag_10 ?_
    refine ok_getA hE fl_X11_40 shC_0 rfl dX11_lag_11 ?_
    refine ok_getC hE fl_X11_219 shC_26 rfl dX11_lag_14 ?_
    refine ok_iload_n hE 1 rfl dX11_lag_17 ?_
    refine ok_aaloadH hE shC_28 rfl dX11_lag_18 (fun hi2 => ?_)
    refine ok_getF hE fl_X11_255 (shC_e_28 hi2) rfl dX11_lag_19 ?_
    refine ok_aload_n hE 0 rfl dX11_lag_22 ?_
    refine ok_getA hE fl_X11_40 shC_0 rfl dX11_lag_23 ?_
    refine ok_getF hE fl_X11_272 shC_26 rfl dX11_lag_26 ?_
    refine ok_fsub hE dX11_lag_29 ?_
    refine ok_csIp hE rmC_bitsOfFloat [.float (FP.fsub (gF M (35 + 2 * ix p1) 0) (gF M 26 8))] [] rfl ca_X11_259 (fun _ hx => mC_bitsOfFloat hE.sys _  _ _ hx) ⟨rfl, rfl, rfl, rfl⟩ rfl rfl dX11_lag_30 (fun r3 => ?_)
    exact ok_ireturnP hE dX11_lag_33
  · refine ok_iconst hE (-1 : Int32) ki_m1 dX11_lag_8 ?_
    exact ok_ireturnP hE dX11_lag_9
theorem mC_lag {l : Launch} {Y : Sys} {t : Nat} (hY : SysOk Y t shC) (p1 : Int32)  (M : Mm) (r : Int32) (h : C_lag p1 M = some r) : Cm l Y t yX11_lag (WS yX11_lag cX11_lag 2 (some .int)) rmC_lag [.ref (Y.ad 0), .int p1] M ((some (.int r), M)) := by
  refine cm_of (own := RX11) hY rfl rfl (Nat.le_of_ble_eq_true rfl) (fun E hE e1 e2 e3 e4 => ?_)
  subst e1
  exact tC_lag E hE p1  M r h e4.symm
def C_see  (M : Mm) : Option (Int32 × Mm) :=
 bnd (C_hasDisk M) fun r1 =>
 lett (fun (w_1 : Int32) (M_2 : Mm) =>
 lett w_1 fun v4 =>
 lett (sI M_2 19 1 (0 : Int32)) fun M5 =>
 if v4 = 0 then
 (bnd (C_refuse (5 : Int32) M5) fun r6 =>
 some (r6.1, r6.2))
 else
 (some ((gI M5 67 2), M5))) fun j33 =>
 lett (fun (M_6 : Mm) =>
 j33 (0 : Int32) M_6) fun j32 =>
 if r1 = 0 then
 (j32 M)
 else
 (lett (gR M 0 0) fun y8 =>
 nn y8 fun c9 => grd (shC c9 = shCX2) (bnd (C_NReadRows (gI M c9 11) M) fun r11 =>
 if r11.1 = 0 then
 (j32 r11.2)
 else
 (j33 (1 : Int32) r11.2)))
abbrev rmC_see : Room := { frames := 3, cells := 0, slots := 0, locals := 68 }
set_option maxHeartbeats 4000000 in
set_option maxRecDepth 100000 in
theorem tC_see (E : Cx) (hE : CxOk E cX11_see RX11 shC (some .int) rmC_see 2)   (M : Mm) : Ok E 0 [(0, .ref (E.Y.ad 0))] [] M (C_see  M) (KI E) := by
  unfold C_see
  refine ok_aload_n hE 0 rfl dX11_see_0 ?_
  refine ok_cvIp hE rmC_hasDisk [] [] rfl ca_X11_269 shC_0 rfl (fun _ hx => mC_hasDisk hE.sys   _ _ hx) ⟨rfl, rfl, rfl, rfl⟩ rfl rfl dX11_see_1 (fun r1 => ?_)
  refine ok_fun (fun j => ∀ (w_1 : Int32) (M_2 : Mm), Ok E 33 [(0, .ref (E.Y.ad 0))] [.int w_1] M_2 (j w_1 M_2) (KI E)) (fun w_1 M_2 => ?_) (fun j33 hj33 => ?_)
  · refine ok_istore_n hE (fun v4 => [(1, .int v4), (0, .ref (E.Y.ad 0))]) (fun _ => rfl) rfl dX11_see_33 (fun v4 => ?_)
    refine ok_aload_n hE 1 rfl dX11_see_34 ?_
    refine ok_getA hE fl_X11_22 shC_0 rfl dX11_see_35 ?_
    refine ok_iconst hE (0 : Int32) ki_0 dX11_see_38 ?_
    refine ok_putI hE fl_X11_89 shC_19 rfl dX11_see_39 (fun M5 => ?_)
    refine ok_iload_n hE 0 rfl dX11_see_42 ?_
    refine ok_if_eq hE 56 rfl dX11_see_43 ?_ ?_
    · refine ok_aload_n hE 1 rfl dX11_see_56 ?_
      refine ok_iconst hE (5 : Int32) ki_5 dX11_see_57 ?_
      refine ok_cvI hE rmC_refuse [.int (5 : Int32)] [] rfl ca_X11_92 shC_0 rfl (fun _ hx => mC_refuse hE.sys _  _ _ hx) ⟨rfl, rfl, rfl, rfl⟩ rfl rfl dX11_see_58 (fun r6 => ?_)
      exact ok_ireturn hE dX11_see_61
    · refine ok_aload_n hE 1 rfl dX11_see_46 ?_
      refine ok_getA hE fl_X11_61 shC_0 rfl dX11_see_47 ?_
      refine ok_getI hE fl_X11_116 shC_67 rfl dX11_see_50 ?_
      refine ok_goto hE 61 rfl dX11_see_53 ?_
      exact ok_ireturn hE dX11_see_61
  refine ok_fun (fun j => ∀ (M_6 : Mm), Ok E 32 [(0, .ref (E.Y.ad 0))] [] M_6 (j M_6) (KI E)) (fun M_6 => ?_) (fun j32 hj32 => ?_)
  · refine ok_iconst hE (0 : Int32) ki_0 dX11_see_32 ?_
    exact ok_sub [0] rfl (hj33 (0 : Int32) M_6)
  refine ok_if_eq hE 32 rfl dX11_see_4 ?_ ?_
  · exact ok_sub [0] rfl (hj32 M)
  · refine ok_aload_n hE 0 rfl dX11_see_7 ?_
    refine ok_getA hE fl_X11_61 shC_0 rfl dX11_see_8 ?_
    refine ok_aload_n hE 0 rfl dX11_see_11 ?_
    refine ok_getA hE fl_X11_22 shC_0 rfl dX11_see_12 ?_
    refine ok_aload_n hE 0 rfl dX11_see_15 ?_
    refine ok_getRL hE fl_X11_10 shC_0 rfl dX11_see_16 (fun y8 => ?_)
    rcases y8 with _ | c9
    · exact fun r hr => by cases hr
    dsimp only [nn]
    refine ok_grd (fun hc10 => ?_)
    refine ok_getI hE fl_X11_125 hc10 rfl dX11_see_19 ?_
    refine ok_cvI hE rmC_NReadRows [.ref (E.Y.ad 19), .int (gI M c9 11)] [] rfl ca_X11_353 shC_67 rfl (fun _ hx => mC_NReadRows hE.sys _  _ _ hx) ⟨rfl, rfl, rfl, rfl⟩ rfl rfl dX11_see_22 (fun r11 => ?_)
    refine ok_if_eq hE 32 rfl dX11_see_25 ?_ ?_
    · exact ok_sub [0] rfl (hj32 r11.2)
    · refine ok_iconst hE (1 : Int32) ki_1 dX11_see_28 ?_
      refine ok_goto hE 33 rfl dX11_see_29 ?_
      exact ok_sub [0] rfl (hj33 (1 : Int32) r11.2)
theorem mC_see {l : Launch} {Y : Sys} {t : Nat} (hY : SysOk Y t shC)   (M : Mm) (r : (Int32 × Mm)) (h : C_see  M = some r) : Cm l Y t yX11_see (WS yX11_see cX11_see 2 (some .int)) rmC_see [.ref (Y.ad 0)] M (enI r) := by
  refine cm_of (own := RX11) hY rfl rfl (Nat.le_of_ble_eq_true rfl) (fun E hE e1 e2 e3 e4 => ?_)
  subst e1
  exact tC_see E hE   M r h e4.symm
def C_kindOf (p1 : Int32) (M : Mm) : Option Int32 :=
 bnd (C_isWithin p1 (0 : Int32) (5 : Int32) M) fun r1 =>
 if r1 = 0 then
 (some (6 : Int32))
 else
 (some p1)
abbrev rmC_kindOf : Room := { frames := 1, cells := 0, slots := 0, locals := 22 }
set_option maxHeartbeats 4000000 in
set_option maxRecDepth 100000 in
theorem tC_kindOf (E : Cx) (hE : CxOk E cX11_kindOf RX11 shC (some .int) rmC_kindOf 1) (p1 : Int32)  (M : Mm) : Ok E 0 [(0, .int p1)] [] M (C_kindOf p1 M) (KIp E M) := by
  unfold C_kindOf
  refine ok_iload_n hE 0 rfl dX11_kindOf_0 ?_
  refine ok_iconst hE (0 : Int32) ki_0 dX11_kindOf_1 ?_
  refine ok_iconst hE (5 : Int32) ki_5 dX11_kindOf_2 ?_
  refine ok_csIp hE rmC_isWithin [.int p1, .int (0 : Int32), .int (5 : Int32)] [] rfl ca_X11_306 (fun _ hx => mC_isWithin hE.sys _ _ _  _ _ hx) ⟨rfl, rfl, rfl, rfl⟩ rfl rfl dX11_kindOf_3 (fun r1 => ?_)
  refine ok_if_eq hE 13 rfl dX11_kindOf_6 ?_ ?_
  · refine ok_bipush hE (6 : Int32) kb_6 dX11_kindOf_13 ?_
    exact ok_ireturnP hE dX11_kindOf_15
  · refine ok_iload_n hE 0 rfl dX11_kindOf_9 ?_
    refine ok_goto hE 15 rfl dX11_kindOf_10 ?_
    exact ok_ireturnP hE dX11_kindOf_15
theorem mC_kindOf {l : Launch} {Y : Sys} {t : Nat} (hY : SysOk Y t shC) (p1 : Int32)  (M : Mm) (r : Int32) (h : C_kindOf p1 M = some r) : Cm l Y t yX11_kindOf (WS yX11_kindOf cX11_kindOf 1 (some .int)) rmC_kindOf [.int p1] M ((some (.int r), M)) := by
  refine cm_of (own := RX11) hY rfl rfl (Nat.le_of_ble_eq_true rfl) (fun E hE e1 e2 e3 e4 => ?_)
  subst e1
  exact tC_kindOf E hE p1  M r h e4.symm
def C_fitting  (M : Mm) : Option (Int32 × Mm) :=
 bnd (C_NLastTick M) fun r1 =>
 lett r1 fun v2 =>
 lett (0 : Int32) fun v3 =>
 lett (0 : Int32) fun v4 =>
 loopR (fun (rec12 : (Int32 × Int32 × Mm) → Option (Int32 × Mm)) (x5 : Int32 × Int32 × Mm) =>
 if (20 : Int32) < x5.2.1 then
 (some (x5.1, x5.2.2))
 else
 (bnd (C_startAhead x5.2.2) fun r6 =>
 grd (r6.1 = 46) (lett (sI r6.2 46 16 x5.2.1) fun M7 =>
 lett (1 : Int32) fun v8 =>
 lett (1 : Int32) fun v9 =>
 lett (fun (u_9 : Int32) (M_10 : Mm) =>
 lett (fun (w_11 : Int32) =>
 lett (x5.1 ||| w_11) fun v13 =>
 lett (x5.2.1 + (1 : Int32)) fun v14 =>
 rec12 (v13, v14, M_10)) fun j91 =>
 if u_9 = 0 then
 (j91 (0 : Int32))
 else
 (j91 ((1 : Int32) <<< (x5.2.1 &&& 31)))) fun j78 =>
 loopR (fun (rec36 : (Int32 × Int32 × Mm) → Option (Int32 × Mm)) (x15 : Int32 × Int32 × Mm) =>
 if v2 < x15.2.1 then
 (j78 x15.1 x15.2.2)
 else
 (if x15.1 = 0 then
 (j78 x15.1 x15.2.2)
 else
 (plnS x15.2.2 46 fun q17 =>
 bnd (S_run (1 : Int32) (sbM (emS 46 q17) x15.2.2)) fun x16 =>
 lett (inM (dmS 46 q17) kpS x15.2.2 x16) fun M19 =>
 bnd (C_kindOf (gI M19 46 11) M19) fun r20 =>
 bnd (C_NAllows x15.2.1 r20 M19) fun r21 =>
 lett r21 fun v22 =>
 lett (x15.2.1 + (1 : Int32)) fun v23 =>
 rec36 (v22, v23, M19)))) 1000000 (v8, v9, M7)))) 1000000 (v3, v4, M)
abbrev rmC_fitting : Room := { frames := 6, cells := 0, slots := 0, locals := 162 }
set_option maxHeartbeats 4000000 in
set_option maxRecDepth 100000 in
theorem tC_fitting (E : Cx) (hE : CxOk E cX11_fitting RX11 shC (some .int) rmC_fitting 7)   (M : Mm) : Ok E 0 [(0, .ref (E.Y.ad 0))] [] M (C_fitting  M) (KI E) := by
  unfold C_fitting
  refine ok_aload_n hE 0 rfl dX11_fitting_0 ?_
  refine ok_getA hE fl_X11_61 shC_0 rfl dX11_fitting_1 ?_
  refine ok_cvIp hE rmC_NLastTick [] [] rfl ca_X11_416 shC_67 rfl (fun _ hx => mC_NLastTick hE.sys   _ _ hx) ⟨rfl, rfl, rfl, rfl⟩ rfl rfl dX11_fitting_4 (fun r1 => ?_)
  refine ok_istore_n hE (fun v2 => [(1, .int v2), (0, .ref (E.Y.ad 0))]) (fun _ => rfl) rfl dX11_fitting_7 (fun v2 => ?_)
  refine ok_iconst hE (0 : Int32) ki_0 dX11_fitting_8 ?_
  refine ok_istore_n hE (fun v3 => [(2, .int v3), (1, .int v2), (0, .ref (E.Y.ad 0))]) (fun _ => rfl) rfl dX11_fitting_9 (fun v3 => ?_)
  refine ok_iconst hE (0 : Int32) ki_0 dX11_fitting_10 ?_
  refine ok_istore_n hE (fun v4 => [(3, .int v4), (2, .int v3), (1, .int v2), (0, .ref (E.Y.ad 0))]) (fun _ => rfl) rfl dX11_fitting_11 (fun v4 => ?_)
  refine ok_sub [3, 2, 1, 0] rfl (ok_loop (σ := Int32 × Int32 × Mm) 12 (fun x5 => [(0, .ref (E.Y.ad 0)), (1, .int v2), (2, .int x5.1), (3, .int x5.2.1)]) (fun x5 => x5.2.2) (fun rec12 hrec12 x5 => ?_) 1000000 (v3, v4, M))
  refine ok_iload_n hE 3 rfl dX11_fitting_12 ?_
  refine ok_bipush hE (20 : Int32) kb_20 dX11_fitting_13 ?_
  refine ok_icmp_gt hE 99 rfl dX11_fitting_15 ?_ ?_
  · refine ok_iload_n hE 2 rfl dX11_fitting_99 ?_
    exact ok_ireturn hE dX11_fitting_100
  · refine ok_aload_n hE 0 rfl dX11_fitting_18 ?_
    refine ok_cvA hE rmC_startAhead [] [] rfl ca_X11_317 shC_0 rfl (fun _ hx => mC_startAhead hE.sys   _ _ hx) ⟨rfl, rfl, rfl, rfl⟩ rfl rfl dX11_fitting_19 (fun r6 => ?_)
    refine ok_grd (fun hg15 => ?_)
    refine ok_code hg15 ?_
    refine ok_astore hE [(4, .ref (E.Y.ad 46)), (0, .ref (E.Y.ad 0)), (1, .int v2), (2, .int x5.1), (3, .int x5.2.1)] rfl rfl dX11_fitting_22 ?_
    refine ok_aload hE 0 rfl dX11_fitting_24 ?_
    refine ok_iload_n hE 4 rfl dX11_fitting_26 ?_
    refine ok_putI hE fl_X11_145 shC_46 rfl dX11_fitting_27 (fun M7 => ?_)
    refine ok_iconst hE (1 : Int32) ki_1 dX11_fitting_30 ?_
    refine ok_istore hE (fun v8 => [(5, .int v8), (4, .ref (E.Y.ad 46)), (0, .ref (E.Y.ad 0)), (1, .int v2), (2, .int x5.1), (3, .int x5.2.1)]) (fun _ => rfl) rfl dX11_fitting_31 (fun v8 => ?_)
    refine ok_iconst hE (1 : Int32) ki_1 dX11_fitting_33 ?_
    refine ok_istore hE (fun v9 => [(6, .int v9), (5, .int v8), (4, .ref (E.Y.ad 46)), (0, .ref (E.Y.ad 0)), (1, .int v2), (2, .int x5.1), (3, .int x5.2.1)]) (fun _ => rfl) rfl dX11_fitting_34 (fun v9 => ?_)
    refine ok_fun (fun j => ∀ (u_9 : Int32) (M_10 : Mm), Ok E 78 [(0, .ref (E.Y.ad 0)), (1, .int v2), (2, .int x5.1), (3, .int x5.2.1), (5, .int u_9)] [] M_10 (j u_9 M_10) (KI E)) (fun u_9 M_10 => ?_) (fun j78 hj78 => ?_)
    · refine ok_iload_n hE 2 rfl dX11_fitting_78 ?_
      refine ok_iload hE 4 rfl dX11_fitting_79 ?_
      refine ok_fun (fun j => ∀ (w_11 : Int32), Ok E 91 [(0, .ref (E.Y.ad 0)), (1, .int v2), (3, .int x5.2.1)] [.int w_11, .int x5.1] M_10 (j w_11) (KI E)) (fun w_11 => ?_) (fun j91 hj91 => ?_)
      · refine ok_ior hE dX11_fitting_91 ?_
        refine ok_istore_n hE (fun v13 => [(2, .int v13), (0, .ref (E.Y.ad 0)), (1, .int v2), (3, .int x5.2.1)]) (fun _ => rfl) rfl dX11_fitting_92 (fun v13 => ?_)
        refine ok_iinc hE 3 (x5.2.1 + (1 : Int32)) (by rw [ko_1]) (fun v14 => [(3, .int v14), (2, .int v13), (0, .ref (E.Y.ad 0)), (1, .int v2)]) rfl (fun _ => rfl) rfl dX11_fitting_93 (fun v14 => ?_)
        refine ok_goto hE 12 rfl dX11_fitting_96 ?_
        exact ok_sub [2, 3, 1, 0] rfl (hrec12 (v13, v14, M_10))
      refine ok_if_eq hE 90 rfl dX11_fitting_81 ?_ ?_
      · refine ok_iconst hE (0 : Int32) ki_0 dX11_fitting_90 ?_
        exact ok_sub [0, 1, 3] rfl (hj91 (0 : Int32))
      · refine ok_iconst hE (1 : Int32) ki_1 dX11_fitting_84 ?_
        refine ok_iload_n hE 3 rfl dX11_fitting_85 ?_
        refine ok_ishl hE dX11_fitting_86 ?_
        refine ok_goto hE 91 rfl dX11_fitting_87 ?_
        exact ok_sub [0, 1, 3] rfl (hj91 ((1 : Int32) <<< (x5.2.1 &&& 31)))
    refine ok_sub [3, 4, 5, 6, 2, 1, 0] rfl (ok_loop (σ := Int32 × Int32 × Mm) 36 (fun x15 => [(0, .ref (E.Y.ad 0)), (1, .int v2), (2, .int x5.1), (3, .int x5.2.1), (4, .ref (E.Y.ad 46)), (5, .int x15.1), (6, .int x15.2.1)]) (fun x15 => x15.2.2) (fun rec36 hrec36 x15 => ?_) 1000000 (v8, v9, M7))
    refine ok_iload hE 6 rfl dX11_fitting_36 ?_
    refine ok_iload_n hE 1 rfl dX11_fitting_38 ?_
    refine ok_icmp_gt hE 78 rfl dX11_fitting_39 ?_ ?_
    · exact ok_sub [0, 1, 2, 3, 5] rfl (hj78 x15.1 x15.2.2)
    · refine ok_iload hE 5 rfl dX11_fitting_42 ?_
      refine ok_if_eq hE 78 rfl dX11_fitting_44 ?_ ?_
      · exact ok_sub [0, 1, 2, 3, 5] rfl (hj78 x15.1 x15.2.2)
      · refine ok_aload hE 4 rfl dX11_fitting_47 ?_
        refine ok_iconst hE (1 : Int32) ki_1 dX11_fitting_49 ?_
        refine ok_plnS hE (fun q17 hq18 => ?_)
        refine ok_xV hE rmS_run [.int (1 : Int32)] [] rfl ca_X11_321 shC_46 rfl hq18 rfl (fun hs _ hx => mS_run hs _  _ _ hx) ⟨rfl, rfl, rfl, rfl⟩ rfl rfl dX11_fitting_50 (fun x16 M19 => ?_)
        refine ok_aload_n hE 0 rfl dX11_fitting_53 ?_
        refine ok_getA hE fl_X11_61 shC_0 rfl dX11_fitting_54 ?_
        refine ok_iload hE 6 rfl dX11_fitting_57 ?_
        refine ok_aload hE 4 rfl dX11_fitting_59 ?_
        refine ok_getI hE fl_X11_119 shC_46 rfl dX11_fitting_61 ?_
        refine ok_csIp hE rmC_kindOf [.int (gI M19 46 11)] [.int x15.2.1, .ref (E.Y.ad 67)] rfl ca_X11_419 (fun _ hx => mC_kindOf hE.sys _  _ _ hx) ⟨rfl, rfl, rfl, rfl⟩ rfl rfl dX11_fitting_64 (fun r20 => ?_)
        refine ok_cvIp hE rmC_NAllows [.int x15.2.1, .int r20] [] rfl ca_X11_422 shC_67 rfl (fun _ hx => mC_NAllows hE.sys _ _  _ _ hx) ⟨rfl, rfl, rfl, rfl⟩ rfl rfl dX11_fitting_67 (fun r21 => ?_)
        refine ok_istore hE (fun v22 => [(5, .int v22), (0, .ref (E.Y.ad 0)), (1, .int v2), (2, .int x5.1), (3, .int x5.2.1), (4, .ref (E.Y.ad 46)), (6, .int x15.2.1)]) (fun _ => rfl) rfl dX11_fitting_70 (fun v22 => ?_)
        refine ok_iinc hE 6 (x15.2.1 + (1 : Int32)) (by rw [ko_1]) (fun v23 => [(6, .int v23), (5, .int v22), (0, .ref (E.Y.ad 0)), (1, .int v2), (2, .int x5.1), (3, .int x5.2.1), (4, .ref (E.Y.ad 46))]) rfl (fun _ => rfl) rfl dX11_fitting_72 (fun v23 => ?_)
        refine ok_goto hE 36 rfl dX11_fitting_75 ?_
        exact ok_sub [2, 3, 4, 5, 6, 1, 0] rfl (hrec36 (v22, v23, M19))
theorem mC_fitting {l : Launch} {Y : Sys} {t : Nat} (hY : SysOk Y t shC)   (M : Mm) (r : (Int32 × Mm)) (h : C_fitting  M = some r) : Cm l Y t yX11_fitting (WS yX11_fitting cX11_fitting 7 (some .int)) rmC_fitting [.ref (Y.ad 0)] M (enI r) := by
  refine cm_of (own := RX11) hY rfl rfl (Nat.le_of_ble_eq_true rfl) (fun E hE e1 e2 e3 e4 => ?_)
  subst e1
  exact tC_fitting E hE   M r h e4.symm
def C_fits  (M : Mm) : Option (Int32 × Mm) :=
 bnd (C_hasDisk M) fun r1 =>
 if r1 = 0 then
 (some ((-1 : Int32), M))
 else
 (bnd (C_fitting M) fun r2 =>
 some (r2.1, r2.2))
abbrev rmC_fits : Room := { frames := 7, cells := 0, slots := 0, locals := 188 }
set_option maxHeartbeats 4000000 in
set_option maxRecDepth 100000 in
theorem tC_fits (E : Cx) (hE : CxOk E cX11_fits RX11 shC (some .int) rmC_fits 1)   (M : Mm) : Ok E 0 [(0, .ref (E.Y.ad 0))] [] M (C_fits  M) (KI E) := by
  unfold C_fits
  refine ok_aload_n hE 0 rfl dX11_fits_0 ?_
  refine ok_cvIp hE rmC_hasDisk [] [] rfl ca_X11_269 shC_0 rfl (fun _ hx => mC_hasDisk hE.sys   _ _ hx) ⟨rfl, rfl, rfl, rfl⟩ rfl rfl dX11_fits_1 (fun r1 => ?_)
  refine ok_if_eq hE 14 rfl dX11_fits_4 ?_ ?_
  · refine ok_iconst hE (-1 : Int32) ki_m1 dX11_fits_14 ?_
    exact ok_ireturn hE dX11_fits_15
  · refine ok_aload_n hE 0 rfl dX11_fits_7 ?_
    refine ok_cvI hE rmC_fitting [] [] rfl ca_X11_357 shC_0 rfl (fun _ hx => mC_fitting hE.sys   _ _ hx) ⟨rfl, rfl, rfl, rfl⟩ rfl rfl dX11_fits_8 (fun r2 => ?_)
    refine ok_goto hE 15 rfl dX11_fits_11 ?_
    exact ok_ireturn hE dX11_fits_15
theorem mC_fits {l : Launch} {Y : Sys} {t : Nat} (hY : SysOk Y t shC)   (M : Mm) (r : (Int32 × Mm)) (h : C_fits  M = some r) : Cm l Y t yX11_fits (WS yX11_fits cX11_fits 1 (some .int)) rmC_fits [.ref (Y.ad 0)] M (enI r) := by
  refine cm_of (own := RX11) hY rfl rfl (Nat.le_of_ble_eq_true rfl) (fun E hE e1 e2 e3 e4 => ?_)
  subst e1
  exact tC_fits E hE   M r h e4.symm
def C_groupByTick (p1 : Int32) (M : Mm) : Option Mm :=
 lett (0 : Int32) fun v1 =>
 lett (fun (M_1 : Mm) =>
 lett (0 : Int32) fun v3 =>
 loopR (fun (rec26 : (Int32 × Mm) → Option Mm) (x4 : Int32 × Mm) =>
 if (20 : Int32) < x4.1 then
 (some x4.2)
 else
 (lett (fun (M_4 : Mm) =>
 lett (x4.1 + (1 : Int32)) fun v6 =>
 rec26 (v6, M_4)) fun j94 =>
 if ((p1 >>> (x4.1 &&& 31)) &&& (1 : Int32)) = (1 : Int32) then
 (bnd (C_startAhead x4.2) fun r7 =>
 grd (r7.1 = 46) (lett (sI r7.2 46 16 x4.1) fun M8 =>
 lett (1 : Int32) fun v9 =>
 loopR (fun (rec54 : (Int32 × Mm) → Option Mm) (x10 : Int32 × Mm) =>
 if (60 : Int32) < x10.1 then
 (j94 x10.2)
 else
 (plnS x10.2 46 fun q12 =>
 bnd (S_run (1 : Int32) (sbM (emS 46 q12) x10.2)) fun x11 =>
 lett (inM (dmS 46 q12) kpS x10.2 x11) fun M14 =>
 bnd (C_kindOf (gI M14 46 11) M14) fun r15 =>
 ald ((x10.1 * (7 : Int32)) + r15) 427 (ald ((x10.1 * (7 : Int32)) + r15) 427 (lett (sI M14 73 (ix ((x10.1 * (7 : Int32)) + r15)) ((gI M14 73 (ix ((x10.1 * (7 : Int32)) + r15))) + (1 : Int32))) fun M16 =>
 lett (x10.1 + (1 : Int32)) fun v17 =>
 rec54 (v17, M16))))) 1000000 (v9, M8)))
 else
 (j94 x4.2))) 1000000 (v3, M_1)) fun j24 =>
 loopR (fun (rec2 : (Int32 × Mm) → Option Mm) (x18 : Int32 × Mm) =>
 if (427 : Int32) ≤ x18.1 then
 (j24 x18.2)
 else
 (ald x18.1 427 (lett (sI x18.2 73 (ix x18.1) (0 : Int32)) fun M19 =>
 lett (x18.1 + (1 : Int32)) fun v20 =>
 rec2 (v20, M19)))) 1000000 (v1, M)
abbrev rmC_groupByTick : Room := { frames := 6, cells := 0, slots := 0, locals := 162 }
set_option maxHeartbeats 4000000 in
set_option maxRecDepth 100000 in
theorem tC_groupByTick (E : Cx) (hE : CxOk E cX11_groupByTick RX11 shC none rmC_groupByTick 5) (p1 : Int32)  (M : Mm) : Ok E 0 [(0, .ref (E.Y.ad 0)), (1, .int p1)] [] M (C_groupByTick p1 M) (KV E) := by
  unfold C_groupByTick
  refine ok_iconst hE (0 : Int32) ki_0 dX11_groupByTick_0 ?_
  refine ok_istore_n hE (fun v1 => [(2, .int v1), (0, .ref (E.Y.ad 0)), (1, .int p1)]) (fun _ => rfl) rfl dX11_groupByTick_1 (fun v1 => ?_)
  refine ok_fun (fun j => ∀ (M_1 : Mm), Ok E 24 [(0, .ref (E.Y.ad 0)), (1, .int p1)] [] M_1 (j M_1) (KV E)) (fun M_1 => ?_) (fun j24 hj24 => ?_)
  · refine ok_iconst hE (0 : Int32) ki_0 dX11_groupByTick_24 ?_
    refine ok_istore_n hE (fun v3 => [(2, .int v3), (0, .ref (E.Y.ad 0)), (1, .int p1)]) (fun _ => rfl) rfl dX11_groupByTick_25 (fun v3 => ?_)
    refine ok_sub [1, 2, 0] rfl (ok_loop (σ := Int32 × Mm) 26 (fun x4 => [(0, .ref (E.Y.ad 0)), (1, .int p1), (2, .int x4.1)]) (fun x4 => x4.2) (fun rec26 hrec26 x4 => ?_) 1000000 (v3, M_1))
    refine ok_iload_n hE 2 rfl dX11_groupByTick_26 ?_
    refine ok_bipush hE (20 : Int32) kb_20 dX11_groupByTick_27 ?_
    refine ok_icmp_gt hE 100 rfl dX11_groupByTick_29 ?_ ?_
    · exact ok_return hE dX11_groupByTick_100
    · refine ok_iload_n hE 1 rfl dX11_groupByTick_32 ?_
      refine ok_iload_n hE 2 rfl dX11_groupByTick_33 ?_
      refine ok_ishr hE dX11_groupByTick_34 ?_
      refine ok_iconst hE (1 : Int32) ki_1 dX11_groupByTick_35 ?_
      refine ok_iand hE dX11_groupByTick_36 ?_
      refine ok_iconst hE (1 : Int32) ki_1 dX11_groupByTick_37 ?_
      refine ok_fun (fun j => ∀ (M_4 : Mm), Ok E 94 [(0, .ref (E.Y.ad 0)), (1, .int p1), (2, .int x4.1)] [] M_4 (j M_4) (KV E)) (fun M_4 => ?_) (fun j94 hj94 => ?_)
      · refine ok_iinc hE 2 (x4.1 + (1 : Int32)) (by rw [ko_1]) (fun v6 => [(2, .int v6), (0, .ref (E.Y.ad 0)), (1, .int p1)]) rfl (fun _ => rfl) rfl dX11_groupByTick_94 (fun v6 => ?_)
        refine ok_goto hE 26 rfl dX11_groupByTick_97 ?_
        exact ok_sub [1, 2, 0] rfl (hrec26 (v6, M_4))
      refine ok_icmp_ne hE 94 rfl dX11_groupByTick_38 ?_ ?_
      · exact ok_sub [0, 1, 2] rfl (hj94 x4.2)
      · refine ok_aload_n hE 0 rfl dX11_groupByTick_41 ?_
        refine ok_cvA hE rmC_startAhead [] [] rfl ca_X11_317 shC_0 rfl (fun _ hx => mC_startAhead hE.sys   _ _ hx) ⟨rfl, rfl, rfl, rfl⟩ rfl rfl dX11_groupByTick_42 (fun r7 => ?_)
        refine ok_grd (fun hg16 => ?_)
        refine ok_code hg16 ?_
        refine ok_astore_n hE [(3, .ref (E.Y.ad 46)), (0, .ref (E.Y.ad 0)), (1, .int p1), (2, .int x4.1)] rfl rfl dX11_groupByTick_45 ?_
        refine ok_aload_n hE 0 rfl dX11_groupByTick_46 ?_
        refine ok_iload_n hE 3 rfl dX11_groupByTick_47 ?_
        refine ok_putI hE fl_X11_145 shC_46 rfl dX11_groupByTick_48 (fun M8 => ?_)
        refine ok_iconst hE (1 : Int32) ki_1 dX11_groupByTick_51 ?_
        refine ok_istore hE (fun v9 => [(4, .int v9), (3, .ref (E.Y.ad 46)), (0, .ref (E.Y.ad 0)), (1, .int p1), (2, .int x4.1)]) (fun _ => rfl) rfl dX11_groupByTick_52 (fun v9 => ?_)
        refine ok_sub [2, 3, 4, 1, 0] rfl (ok_loop (σ := Int32 × Mm) 54 (fun x10 => [(0, .ref (E.Y.ad 0)), (1, .int p1), (2, .int x4.1), (3, .ref (E.Y.ad 46)), (4, .int x10.1)]) (fun x10 => x10.2) (fun rec54 hrec54 x10 => ?_) 1000000 (v9, M8))
        refine ok_iload hE 4 rfl dX11_groupByTick_54 ?_
        refine ok_bipush hE (60 : Int32) kb_60 dX11_groupByTick_56 ?_
        refine ok_icmp_gt hE 94 rfl dX11_groupByTick_58 ?_ ?_
        · exact ok_sub [0, 1, 2] rfl (hj94 x10.2)
        · refine ok_aload_n hE 3 rfl dX11_groupByTick_61 ?_
          refine ok_iconst hE (1 : Int32) ki_1 dX11_groupByTick_62 ?_
          refine ok_plnS hE (fun q12 hq13 => ?_)
          refine ok_xV hE rmS_run [.int (1 : Int32)] [] rfl ca_X11_321 shC_46 rfl hq13 rfl (fun hs _ hx => mS_run hs _  _ _ hx) ⟨rfl, rfl, rfl, rfl⟩ rfl rfl dX11_groupByTick_63 (fun x11 M14 => ?_)
          refine ok_aload_n hE 0 rfl dX11_groupByTick_66 ?_
          refine ok_getA hE fl_X11_76 shC_0 rfl dX11_groupByTick_67 ?_
          refine ok_iload hE 4 rfl dX11_groupByTick_70 ?_
          refine ok_bipush hE (7 : Int32) kb_7 dX11_groupByTick_72 ?_
          refine ok_imul hE dX11_groupByTick_74 ?_
          refine ok_aload_n hE 3 rfl dX11_groupByTick_75 ?_
          refine ok_getI hE fl_X11_119 shC_46 rfl dX11_groupByTick_76 ?_
          refine ok_csIp hE rmC_kindOf [.int (gI M14 46 11)] [.int (x10.1 * (7 : Int32)), .ref (E.Y.ad 73)] rfl ca_X11_419 (fun _ hx => mC_kindOf hE.sys _  _ _ hx) ⟨rfl, rfl, rfl, rfl⟩ rfl rfl dX11_groupByTick_79 (fun r15 => ?_)
          refine ok_iadd hE dX11_groupByTick_82 ?_
          refine ok_dup2 hE rfl rfl dX11_groupByTick_83 ?_
          refine ok_iaload hE shC_73 dX11_groupByTick_84 ?_
          refine ok_iconst hE (1 : Int32) ki_1 dX11_groupByTick_85 ?_
          refine ok_iadd hE dX11_groupByTick_86 ?_
          refine ok_iastore hE shC_73 dX11_groupByTick_87 (fun M16 => ?_)
          refine ok_iinc hE 4 (x10.1 + (1 : Int32)) (by rw [ko_1]) (fun v17 => [(4, .int v17), (0, .ref (E.Y.ad 0)), (1, .int p1), (2, .int x4.1), (3, .ref (E.Y.ad 46))]) rfl (fun _ => rfl) rfl dX11_groupByTick_88 (fun v17 => ?_)
          refine ok_goto hE 54 rfl dX11_groupByTick_91 ?_
          exact ok_sub [1, 2, 3, 4, 0] rfl (hrec54 (v17, M16))
  refine ok_sub [1, 2, 0] rfl (ok_loop (σ := Int32 × Mm) 2 (fun x18 => [(0, .ref (E.Y.ad 0)), (1, .int p1), (2, .int x18.1)]) (fun x18 => x18.2) (fun rec2 hrec2 x18 => ?_) 1000000 (v1, M))
  refine ok_iload_n hE 2 rfl dX11_groupByTick_2 ?_
  refine ok_aload_n hE 0 rfl dX11_groupByTick_3 ?_
  refine ok_getA hE fl_X11_76 shC_0 rfl dX11_groupByTick_4 ?_
  refine ok_alen hE (427 : Int32) (by decide) shC_73 dX11_groupByTick_7 ?_
  refine ok_icmp_ge hE 24 rfl dX11_groupByTick_8 ?_ ?_
  · exact ok_sub [0, 1] rfl (hj24 x18.2)
  · refine ok_aload_n hE 0 rfl dX11_groupByTick_11 ?_
    refine ok_getA hE fl_X11_76 shC_0 rfl dX11_groupByTick_12 ?_
    refine ok_iload_n hE 2 rfl dX11_groupByTick_15 ?_
    refine ok_iconst hE (0 : Int32) ki_0 dX11_groupByTick_16 ?_
    refine ok_iastore hE shC_73 dX11_groupByTick_17 (fun M19 => ?_)
    refine ok_iinc hE 2 (x18.1 + (1 : Int32)) (by rw [ko_1]) (fun v20 => [(2, .int v20), (0, .ref (E.Y.ad 0)), (1, .int p1)]) rfl (fun _ => rfl) rfl dX11_groupByTick_18 (fun v20 => ?_)
    refine ok_goto hE 2 rfl dX11_groupByTick_21 ?_
    exact ok_sub [1, 2, 0] rfl (hrec2 (v20, M19))
theorem mC_groupByTick {l : Launch} {Y : Sys} {t : Nat} (hY : SysOk Y t shC) (p1 : Int32)  (M : Mm) (r : Mm) (h : C_groupByTick p1 M = some r) : Cm l Y t yX11_groupByTick (WS yX11_groupByTick cX11_groupByTick 5 none) rmC_groupByTick [.ref (Y.ad 0), .int p1] M (enV r) := by
  refine cm_of (own := RX11) hY rfl rfl (Nat.le_of_ble_eq_true rfl) (fun E hE e1 e2 e3 e4 => ?_)
  subst e1
  exact tC_groupByTick E hE p1  M r h e4.symm
def C_mostLeftAt (p1 : Int32) (M : Mm) : Option Int32 :=
 lett (0 : Int32) fun v1 =>
 lett (0 : Int32) fun v2 =>
 loopR (fun (rec4 : (Int32 × Int32) → Option Int32) (x3 : Int32 × Int32) =>
 if (7 : Int32) ≤ x3.2 then
 (some x3.1)
 else
 (ald ((p1 * (7 : Int32)) + x3.2) 427 (lett (mmaxI x3.1 (gI M 73 (ix ((p1 * (7 : Int32)) + x3.2)))) fun v4 =>
 lett (x3.2 + (1 : Int32)) fun v5 =>
 rec4 (v4, v5)))) 1000000 (v1, v2)
abbrev rmC_mostLeftAt : Room := { frames := 1, cells := 0, slots := 0, locals := 21 }
set_option maxHeartbeats 4000000 in
set_option maxRecDepth 100000 in
theorem tC_mostLeftAt (E : Cx) (hE : CxOk E cX11_mostLeftAt RX11 shC (some .int) rmC_mostLeftAt 4) (p1 : Int32)  (M : Mm) : Ok E 0 [(0, .ref (E.Y.ad 0)), (1, .int p1)] [] M (C_mostLeftAt p1 M) (KIp E M) := by
  unfold C_mostLeftAt
  refine ok_iconst hE (0 : Int32) ki_0 dX11_mostLeftAt_0 ?_
  refine ok_istore_n hE (fun v1 => [(2, .int v1), (0, .ref (E.Y.ad 0)), (1, .int p1)]) (fun _ => rfl) rfl dX11_mostLeftAt_1 (fun v1 => ?_)
  refine ok_iconst hE (0 : Int32) ki_0 dX11_mostLeftAt_2 ?_
  refine ok_istore_n hE (fun v2 => [(3, .int v2), (2, .int v1), (0, .ref (E.Y.ad 0)), (1, .int p1)]) (fun _ => rfl) rfl dX11_mostLeftAt_3 (fun v2 => ?_)
  refine ok_sub [2, 3, 1, 0] rfl (ok_loop (σ := Int32 × Int32) 4 (fun x3 => [(0, .ref (E.Y.ad 0)), (1, .int p1), (2, .int x3.1), (3, .int x3.2)]) (fun x3 => M) (fun rec4 hrec4 x3 => ?_) 1000000 (v1, v2))
  refine ok_iload_n hE 3 rfl dX11_mostLeftAt_4 ?_
  refine ok_bipush hE (7 : Int32) kb_7 dX11_mostLeftAt_5 ?_
  refine ok_icmp_ge hE 32 rfl dX11_mostLeftAt_7 ?_ ?_
  · refine ok_iload_n hE 2 rfl dX11_mostLeftAt_32 ?_
    exact ok_ireturnP hE dX11_mostLeftAt_33
  · refine ok_iload_n hE 2 rfl dX11_mostLeftAt_10 ?_
    refine ok_aload_n hE 0 rfl dX11_mostLeftAt_11 ?_
    refine ok_getA hE fl_X11_76 shC_0 rfl dX11_mostLeftAt_12 ?_
    refine ok_iload_n hE 1 rfl dX11_mostLeftAt_15 ?_
    refine ok_bipush hE (7 : Int32) kb_7 dX11_mostLeftAt_16 ?_
    refine ok_imul hE dX11_mostLeftAt_18 ?_
    refine ok_iload_n hE 3 rfl dX11_mostLeftAt_19 ?_
    refine ok_iadd hE dX11_mostLeftAt_20 ?_
    refine ok_iaload hE shC_73 dX11_mostLeftAt_21 ?_
    refine ok_mmax hE mt_X11_426 ⟨rfl, rfl⟩ dX11_mostLeftAt_22 ?_
    refine ok_istore_n hE (fun v4 => [(2, .int v4), (0, .ref (E.Y.ad 0)), (1, .int p1), (3, .int x3.2)]) (fun _ => rfl) rfl dX11_mostLeftAt_25 (fun v4 => ?_)
    refine ok_iinc hE 3 (x3.2 + (1 : Int32)) (by rw [ko_1]) (fun v5 => [(3, .int v5), (2, .int v4), (0, .ref (E.Y.ad 0)), (1, .int p1)]) rfl (fun _ => rfl) rfl dX11_mostLeftAt_26 (fun v5 => ?_)
    refine ok_goto hE 4 rfl dX11_mostLeftAt_29 ?_
    exact ok_sub [2, 3, 1, 0] rfl (hrec4 (v4, v5))
theorem mC_mostLeftAt {l : Launch} {Y : Sys} {t : Nat} (hY : SysOk Y t shC) (p1 : Int32)  (M : Mm) (r : Int32) (h : C_mostLeftAt p1 M = some r) : Cm l Y t yX11_mostLeftAt (WS yX11_mostLeftAt cX11_mostLeftAt 4 (some .int)) rmC_mostLeftAt [.ref (Y.ad 0), .int p1] M ((some (.int r), M)) := by
  refine cm_of (own := RX11) hY rfl rfl (Nat.le_of_ble_eq_true rfl) (fun E hE e1 e2 e3 e4 => ?_)
  subst e1
  exact tC_mostLeftAt E hE p1  M r h e4.symm
def C_tells (p1 : Int32) (M : Mm) : Option (Int32 × Mm) :=
 bnd (C_hasDisk M) fun r1 =>
 if r1 = 0 then
 (some ((-1 : Int32), M))
 else
 (bnd (C_isWithin p1 (0 : Int32) (1 : Int32) M) fun r2 =>
 if r2 = 0 then
 (some ((-1 : Int32), M))
 else
 (bnd (C_fitting M) fun r3 =>
 lett r3.1 fun v4 =>
 if v4 = 0 then
 (some ((-1 : Int32), r3.2))
 else
 (bnd (C_groupByTick v4 r3.2) fun M5 =>
 lett (0 : Int32) fun v6 =>
 lett (2147483647 : Int32) fun v7 =>
 lett (1 : Int32) fun v8 =>
 lett (fun (u_8 : Int32) (u_9 : Int32) =>
 if p1 = 0 then
 (some (u_8, M5))
 else
 (some (u_9, M5))) fun j79 =>
 loopR (fun (rec44 : (Int32 × Int32 × Int32) → Option (Int32 × Mm)) (x11 : Int32 × Int32 × Int32) =>
 if (60 : Int32) < x11.2.2 then
 (j79 x11.1 x11.2.1)
 else
 (bnd (C_mostLeftAt x11.2.2 M5) fun r12 =>
 lett r12 fun v13 =>
 lett (fun (u_13 : Int32) (u_14 : Int32) =>
 lett (x11.2.2 + (1 : Int32)) fun v16 =>
 rec44 (u_13, u_14, v16)) fun j73 =>
 if x11.2.1 ≤ v13 then
 (j73 x11.1 x11.2.1)
 else
 (lett v13 fun v17 =>
 lett x11.2.2 fun v18 =>
 j73 v18 v17))) 1000000 (v6, v7, v8))))
abbrev rmC_tells : Room := { frames := 7, cells := 0, slots := 0, locals := 188 }
set_option maxHeartbeats 4000000 in
set_option maxRecDepth 100000 in
theorem tC_tells (E : Cx) (hE : CxOk E cX11_tells RX11 shC (some .int) rmC_tells 7) (p1 : Int32)  (M : Mm) : Ok E 0 [(0, .ref (E.Y.ad 0)), (1, .int p1)] [] M (C_tells p1 M) (KI E) := by
  unfold C_tells
  refine ok_aload_n hE 0 rfl dX11_tells_0 ?_
  refine ok_cvIp hE rmC_hasDisk [] [] rfl ca_X11_269 shC_0 rfl (fun _ hx => mC_hasDisk hE.sys   _ _ hx) ⟨rfl, rfl, rfl, rfl⟩ rfl rfl dX11_tells_1 (fun r1 => ?_)
  refine ok_if_eq hE 16 rfl dX11_tells_4 ?_ ?_
  · refine ok_iconst hE (-1 : Int32) ki_m1 dX11_tells_16 ?_
    exact ok_ireturn hE dX11_tells_17
  · refine ok_iload_n hE 1 rfl dX11_tells_7 ?_
    refine ok_iconst hE (0 : Int32) ki_0 dX11_tells_8 ?_
    refine ok_iconst hE (1 : Int32) ki_1 dX11_tells_9 ?_
    refine ok_csIp hE rmC_isWithin [.int p1, .int (0 : Int32), .int (1 : Int32)] [] rfl ca_X11_306 (fun _ hx => mC_isWithin hE.sys _ _ _  _ _ hx) ⟨rfl, rfl, rfl, rfl⟩ rfl rfl dX11_tells_10 (fun r2 => ?_)
    refine ok_if_ne hE 18 rfl dX11_tells_13 ?_ ?_
    · refine ok_aload_n hE 0 rfl dX11_tells_18 ?_
      refine ok_cvI hE rmC_fitting [] [] rfl ca_X11_357 shC_0 rfl (fun _ hx => mC_fitting hE.sys   _ _ hx) ⟨rfl, rfl, rfl, rfl⟩ rfl rfl dX11_tells_19 (fun r3 => ?_)
      refine ok_istore_n hE (fun v4 => [(2, .int v4), (0, .ref (E.Y.ad 0)), (1, .int p1)]) (fun _ => rfl) rfl dX11_tells_22 (fun v4 => ?_)
      refine ok_iload_n hE 0 rfl dX11_tells_23 ?_
      refine ok_if_ne hE 29 rfl dX11_tells_24 ?_ ?_
      · refine ok_aload_n hE 1 rfl dX11_tells_29 ?_
        refine ok_iload_n hE 0 rfl dX11_tells_30 ?_
        refine ok_cvV hE rmC_groupByTick [.int v4] [] rfl ca_X11_360 shC_0 rfl (fun _ hx => mC_groupByTick hE.sys _  _ _ hx) ⟨rfl, rfl, rfl, rfl⟩ rfl rfl dX11_tells_31 (fun M5 => ?_)
        refine ok_iconst hE (0 : Int32) ki_0 dX11_tells_34 ?_
        refine ok_istore_n hE (fun v6 => [(3, .int v6), (2, .int v4), (0, .ref (E.Y.ad 0)), (1, .int p1)]) (fun _ => rfl) rfl dX11_tells_35 (fun v6 => ?_)
        refine ok_ldcw hE ct_X11_348 dX11_tells_36 ?_
        refine ok_istore hE (fun v7 => [(4, .int v7), (3, .int v6), (2, .int v4), (0, .ref (E.Y.ad 0)), (1, .int p1)]) (fun _ => rfl) rfl dX11_tells_39 (fun v7 => ?_)
        refine ok_iconst hE (1 : Int32) ki_1 dX11_tells_41 ?_
        refine ok_istore hE (fun v8 => [(5, .int v8), (4, .int v7), (3, .int v6), (2, .int v4), (0, .ref (E.Y.ad 0)), (1, .int p1)]) (fun _ => rfl) rfl dX11_tells_42 (fun v8 => ?_)
        refine ok_fun (fun j => ∀ (u_8 : Int32) (u_9 : Int32), Ok E 79 [(1, .int p1), (3, .int u_8), (4, .int u_9)] [] M5 (j u_8 u_9) (KI E)) (fun u_8 u_9 => ?_) (fun j79 hj79 => ?_)
        · refine ok_iload_n hE 0 rfl dX11_tells_79 ?_
          refine ok_if_ne hE 87 rfl dX11_tells_80 ?_ ?_
          · refine ok_iload hE 2 rfl dX11_tells_87 ?_
            exact ok_ireturn hE dX11_tells_89
          · refine ok_iload_n hE 1 rfl dX11_tells_83 ?_
            refine ok_goto hE 89 rfl dX11_tells_84 ?_
            exact ok_ireturn hE dX11_tells_89
        refine ok_sub [4, 5, 2, 1, 0] rfl (ok_loop (σ := Int32 × Int32 × Int32) 44 (fun x11 => [(0, .ref (E.Y.ad 0)), (1, .int p1), (3, .int x11.1), (4, .int x11.2.1), (5, .int x11.2.2)]) (fun x11 => M5) (fun rec44 hrec44 x11 => ?_) 1000000 (v6, v7, v8))
        refine ok_iload hE 4 rfl dX11_tells_44 ?_
        refine ok_bipush hE (60 : Int32) kb_60 dX11_tells_46 ?_
        refine ok_icmp_gt hE 79 rfl dX11_tells_48 ?_ ?_
        · exact ok_sub [1, 2, 3] rfl (hj79 x11.1 x11.2.1)
        · refine ok_aload_n hE 0 rfl dX11_tells_51 ?_
          refine ok_iload hE 4 rfl dX11_tells_52 ?_
          refine ok_cvIp hE rmC_mostLeftAt [.int x11.2.2] [] rfl ca_X11_363 shC_0 rfl (fun _ hx => mC_mostLeftAt hE.sys _  _ _ hx) ⟨rfl, rfl, rfl, rfl⟩ rfl rfl dX11_tells_54 (fun r12 => ?_)
          refine ok_istore hE (fun v13 => [(6, .int v13), (0, .ref (E.Y.ad 0)), (1, .int p1), (3, .int x11.1), (4, .int x11.2.1), (5, .int x11.2.2)]) (fun _ => rfl) rfl dX11_tells_57 (fun v13 => ?_)
          refine ok_iload hE 0 rfl dX11_tells_59 ?_
          refine ok_iload hE 4 rfl dX11_tells_61 ?_
          refine ok_fun (fun j => ∀ (u_13 : Int32) (u_14 : Int32), Ok E 73 [(0, .ref (E.Y.ad 0)), (1, .int p1), (3, .int u_13), (4, .int u_14), (5, .int x11.2.2)] [] M5 (j u_13 u_14) (KI E)) (fun u_13 u_14 => ?_) (fun j73 hj73 => ?_)
          · refine ok_iinc hE 4 (x11.2.2 + (1 : Int32)) (by rw [ko_1]) (fun v16 => [(5, .int v16), (0, .ref (E.Y.ad 0)), (1, .int p1), (3, .int u_13), (4, .int u_14)]) rfl (fun _ => rfl) rfl dX11_tells_73 (fun v16 => ?_)
            refine ok_goto hE 44 rfl dX11_tells_76 ?_
            exact ok_sub [1, 2, 3, 4, 0] rfl (hrec44 (u_13, u_14, v16))
          refine ok_icmp_ge hE 73 rfl dX11_tells_63 ?_ ?_
          · exact ok_sub [1, 2, 3, 4, 5] rfl (hj73 x11.1 x11.2.1)
          · refine ok_iload hE 0 rfl dX11_tells_66 ?_
            refine ok_istore hE (fun v17 => [(4, .int v17), (6, .int v13), (0, .ref (E.Y.ad 0)), (1, .int p1), (3, .int x11.1), (5, .int x11.2.2)]) (fun _ => rfl) rfl dX11_tells_68 (fun v17 => ?_)
            refine ok_iload hE 5 rfl dX11_tells_70 ?_
            refine ok_istore_n hE (fun v18 => [(3, .int v18), (4, .int v17), (6, .int v13), (0, .ref (E.Y.ad 0)), (1, .int p1), (5, .int x11.2.2)]) (fun _ => rfl) rfl dX11_tells_72 (fun v18 => ?_)
            exact ok_sub [3, 4, 0, 1, 5] rfl (hj73 v18 v17)
      · refine ok_iconst hE (-1 : Int32) ki_m1 dX11_tells_27 ?_
        exact ok_ireturn hE dX11_tells_28
    · refine ok_iconst hE (-1 : Int32) ki_m1 dX11_tells_16 ?_
      exact ok_ireturn hE dX11_tells_17
theorem mC_tells {l : Launch} {Y : Sys} {t : Nat} (hY : SysOk Y t shC) (p1 : Int32)  (M : Mm) (r : (Int32 × Mm)) (h : C_tells p1 M = some r) : Cm l Y t yX11_tells (WS yX11_tells cX11_tells 7 (some .int)) rmC_tells [.ref (Y.ad 0), .int p1] M (enI r) := by
  refine cm_of (own := RX11) hY rfl rfl (Nat.le_of_ble_eq_true rfl) (fun E hE e1 e2 e3 e4 => ?_)
  subst e1
  exact tC_tells E hE p1  M r h e4.symm
def C_KCopy (th : Nat) (p1 : Nat) (M : Mm) : Option Mm :=
 lett (sI M th 1 (gI M p1 1)) fun M1 =>
 acp (0 : Int32) (0 : Int32) (160 : Int32) 160 160 (lett (cpI M1 (p1 + 1) (ix (0 : Int32)) (th + 1) (ix (0 : Int32)) (ix (160 : Int32))) fun M2 =>
 some M2)
abbrev rmC_KCopy : Room := { frames := 1, cells := 0, slots := 0, locals := 48 }
set_option maxHeartbeats 4000000 in
set_option maxRecDepth 100000 in
theorem tC_KCopy (E : Cx) (hE : CxOk E cX1_copy RX1 shC none rmC_KCopy 2) (th : Nat) (p1 : Nat) (hth : shC th = shCX1) (hp1 : shC p1 = shCX1) (M : Mm) : Ok E 0 [(0, .ref (E.Y.ad th)), (1, .ref (E.Y.ad p1))] [] M (C_KCopy th p1 M) (KV E) := by
  unfold C_KCopy
  refine ok_aload_n hE 0 rfl dX1_copy_0 ?_
  refine ok_aload_n hE 1 rfl dX1_copy_1 ?_
  refine ok_getI hE fl_X1_15 hp1 rfl dX1_copy_2 ?_
  refine ok_putI hE fl_X1_15 hth rfl dX1_copy_5 (fun M1 => ?_)
  refine ok_aload_n hE 1 rfl dX1_copy_8 ?_
  refine ok_getC hE fl_X1_11 hp1 rfl dX1_copy_9 ?_
  refine ok_iconst hE (0 : Int32) ki_0 dX1_copy_12 ?_
  refine ok_aload_n hE 0 rfl dX1_copy_13 ?_
  refine ok_getC hE fl_X1_11 hth rfl dX1_copy_14 ?_
  refine ok_iconst hE (0 : Int32) ki_0 dX1_copy_17 ?_
  refine ok_aload_n hE 0 rfl dX1_copy_18 ?_
  refine ok_getC hE fl_X1_11 hth rfl dX1_copy_19 ?_
  refine ok_alen hE (160 : Int32) (by decide) (shC_f_1_0 hth) dX1_copy_22 ?_
  refine ok_acopy hE ac_X1_19 (shC_f_1_0 hp1) (shC_f_1_0 hth) ⟨rfl, rfl⟩ dX1_copy_23 (fun M2 => ?_)
  exact ok_return hE dX1_copy_26
theorem mC_KCopy {l : Launch} {Y : Sys} {t : Nat} (hY : SysOk Y t shC) (th : Nat) (p1 : Nat) (hth : shC th = shCX1) (hp1 : shC p1 = shCX1) (M : Mm) (r : Mm) (h : C_KCopy th p1 M = some r) : Cm l Y t yX1_copy (WS yX1_copy cX1_copy 2 none) rmC_KCopy [.ref (Y.ad th), .ref (Y.ad p1)] M (enV r) := by
  refine cm_of (own := RX1) hY rfl rfl (Nat.le_of_ble_eq_true rfl) (fun E hE e1 e2 e3 e4 => ?_)
  subst e1
  exact tC_KCopy E hE th p1 hth hp1 M r h e4.symm
def C_PCopyCounts (th : Nat) (p1 : Nat) (M : Mm) : Option Mm :=
 lett (sI M th 9 (gI M p1 9)) fun M1 =>
 lett (sI M1 th 10 (gI M1 p1 10)) fun M2 =>
 lett (sI M2 th 11 (gI M2 p1 11)) fun M3 =>
 lett (sI M3 th 12 (gI M3 p1 12)) fun M4 =>
 lett (sI M4 th 13 (gI M4 p1 13)) fun M5 =>
 some M5
abbrev rmC_PCopyCounts : Room := { frames := 0, cells := 0, slots := 0, locals := 0 }
set_option maxHeartbeats 4000000 in
set_option maxRecDepth 100000 in
theorem tC_PCopyCounts (E : Cx) (hE : CxOk E cX3_copyCounts RX3 shC none rmC_PCopyCounts 2) (th : Nat) (p1 : Nat) (hth : shC th = shCX3) (hp1 : shC p1 = shCX3) (M : Mm) : Ok E 0 [(0, .ref (E.Y.ad th)), (1, .ref (E.Y.ad p1))] [] M (C_PCopyCounts th p1 M) (KV E) := by
  unfold C_PCopyCounts
  refine ok_aload_n hE 0 rfl dX3_copyCounts_0 ?_
  refine ok_aload_n hE 1 rfl dX3_copyCounts_1 ?_
  refine ok_getI hE fl_X3_41 hp1 rfl dX3_copyCounts_2 ?_
  refine ok_putI hE fl_X3_41 hth rfl dX3_copyCounts_5 (fun M1 => ?_)
  refine ok_aload_n hE 0 rfl dX3_copyCounts_8 ?_
  refine ok_aload_n hE 1 rfl dX3_copyCounts_9 ?_
  refine ok_getI hE fl_X3_44 hp1 rfl dX3_copyCounts_10 ?_
  refine ok_putI hE fl_X3_44 hth rfl dX3_copyCounts_13 (fun M2 => ?_)
  refine ok_aload_n hE 0 rfl dX3_copyCounts_16 ?_
  refine ok_aload_n hE 1 rfl dX3_copyCounts_17 ?_
  refine ok_getI hE fl_X3_47 hp1 rfl dX3_copyCounts_18 ?_
  refine ok_putI hE fl_X3_47 hth rfl dX3_copyCounts_21 (fun M3 => ?_)
  refine ok_aload_n hE 0 rfl dX3_copyCounts_24 ?_
  refine ok_aload_n hE 1 rfl dX3_copyCounts_25 ?_
  refine ok_getI hE fl_X3_50 hp1 rfl dX3_copyCounts_26 ?_
  refine ok_putI hE fl_X3_50 hth rfl dX3_copyCounts_29 (fun M4 => ?_)
  refine ok_aload_n hE 0 rfl dX3_copyCounts_32 ?_
  refine ok_aload_n hE 1 rfl dX3_copyCounts_33 ?_
  refine ok_getI hE fl_X3_53 hp1 rfl dX3_copyCounts_34 ?_
  refine ok_putI hE fl_X3_53 hth rfl dX3_copyCounts_37 (fun M5 => ?_)
  exact ok_return hE dX3_copyCounts_40
theorem mC_PCopyCounts {l : Launch} {Y : Sys} {t : Nat} (hY : SysOk Y t shC) (th : Nat) (p1 : Nat) (hth : shC th = shCX3) (hp1 : shC p1 = shCX3) (M : Mm) (r : Mm) (h : C_PCopyCounts th p1 M = some r) : Cm l Y t yX3_copyCounts (WS yX3_copyCounts cX3_copyCounts 2 none) rmC_PCopyCounts [.ref (Y.ad th), .ref (Y.ad p1)] M (enV r) := by
  refine cm_of (own := RX3) hY rfl rfl (Nat.le_of_ble_eq_true rfl) (fun E hE e1 e2 e3 e4 => ?_)
  subst e1
  exact tC_PCopyCounts E hE th p1 hth hp1 M r h e4.symm
def C_copyAll (th : Nat) (p1 : Nat) (M : Mm) : Option Mm :=
 bnd (C_copyMoving th p1 M) fun M1 =>
 bnd (C_KCopy (th + 6) (p1 + 6) M1) fun M2 =>
 lett (sI M2 th 18 (gI M2 p1 18)) fun M3 =>
 lett (0 : Int32) fun v4 =>
 loopR (fun (rec26 : (Int32 × Mm) → Option Mm) (x5 : Int32 × Mm) =>
 lett (gR x5.2 th 0) fun y6 =>
 nn y6 fun c7 => grd (shC c7 = shCX2) (if (gI x5.2 c7 11) ≤ x5.1 then
 (some x5.2)
 else
 (ald x5.1 6 (ald x5.1 6 (bnd (C_PCopyCounts ((th + 1) + 7 + 2 * ix x5.1) ((p1 + 1) + 7 + 2 * ix x5.1) x5.2) fun M11 =>
 lett (x5.1 + (1 : Int32)) fun v12 =>
 rec26 (v12, M11)))))) 1000000 (v4, M3)
abbrev rmC_copyAll : Room := { frames := 3, cells := 0, slots := 0, locals := 91 }
set_option maxHeartbeats 4000000 in
set_option maxRecDepth 100000 in
theorem tC_copyAll (E : Cx) (hE : CxOk E cX8_copyAll RX8 shC none rmC_copyAll 3) (th : Nat) (p1 : Nat) (hth : shC th = shCX8) (hp1 : shC p1 = shCX8) (M : Mm) : Ok E 0 [(0, .ref (E.Y.ad th)), (1, .ref (E.Y.ad p1))] [] M (C_copyAll th p1 M) (KV E) := by
  unfold C_copyAll
  refine ok_aload_n hE 0 rfl dX8_copyAll_0 ?_
  refine ok_aload_n hE 1 rfl dX8_copyAll_1 ?_
  refine ok_cvV hE rmC_copyMoving [.ref (E.Y.ad p1)] [] rfl ca_X8_122 hth rfl (fun _ hx => mC_copyMoving hE.sys _ _ hth hp1 _ _ hx) ⟨rfl, rfl, rfl, rfl⟩ rfl rfl dX8_copyAll_2 (fun M1 => ?_)
  refine ok_aload_n hE 0 rfl dX8_copyAll_5 ?_
  refine ok_getC hE fl_X8_37 hth rfl dX8_copyAll_6 ?_
  refine ok_aload_n hE 1 rfl dX8_copyAll_9 ?_
  refine ok_getC hE fl_X8_37 hp1 rfl dX8_copyAll_10 ?_
  refine ok_cvV hE rmC_KCopy [.ref (E.Y.ad (p1 + 6))] [] rfl ca_X8_126 (shC_f_8_5 hth) rfl (fun _ hx => mC_KCopy hE.sys _ _ (shC_f_8_5 hth) (shC_f_8_5 hp1) _ _ hx) ⟨rfl, rfl, rfl, rfl⟩ rfl rfl dX8_copyAll_13 (fun M2 => ?_)
  refine ok_aload_n hE 0 rfl dX8_copyAll_16 ?_
  refine ok_aload_n hE 1 rfl dX8_copyAll_17 ?_
  refine ok_getI hE fl_X8_79 hp1 rfl dX8_copyAll_18 ?_
  refine ok_putI hE fl_X8_79 hth rfl dX8_copyAll_21 (fun M3 => ?_)
  refine ok_iconst hE (0 : Int32) ki_0 dX8_copyAll_24 ?_
  refine ok_istore_n hE (fun v4 => [(2, .int v4), (0, .ref (E.Y.ad th)), (1, .ref (E.Y.ad p1))]) (fun _ => rfl) rfl dX8_copyAll_25 (fun v4 => ?_)
  refine ok_sub [1, 2, 0] rfl (ok_loop (σ := Int32 × Mm) 26 (fun x5 => [(0, .ref (E.Y.ad th)), (1, .ref (E.Y.ad p1)), (2, .int x5.1)]) (fun x5 => x5.2) (fun rec26 hrec26 x5 => ?_) 1000000 (v4, M3))
  refine ok_iload_n hE 2 rfl dX8_copyAll_26 ?_
  refine ok_aload_n hE 0 rfl dX8_copyAll_27 ?_
  refine ok_getRL hE fl_X8_85 hth rfl dX8_copyAll_28 (fun y6 => ?_)
  rcases y6 with _ | c7
  · exact fun r hr => by cases hr
  dsimp only [nn]
  refine ok_grd (fun hc8 => ?_)
  refine ok_getI hE fl_X8_130 hc8 rfl dX8_copyAll_31 ?_
  refine ok_icmp_ge hE 58 rfl dX8_copyAll_34 ?_ ?_
  · exact ok_return hE dX8_copyAll_58
  · refine ok_aload_n hE 0 rfl dX8_copyAll_37 ?_
    refine ok_getC hE fl_X8_11 hth rfl dX8_copyAll_38 ?_
    refine ok_iload_n hE 2 rfl dX8_copyAll_41 ?_
    refine ok_aaloadH hE (shC_f_8_1 hth) rfl dX8_copyAll_42 (fun hi9 => ?_)
    refine ok_aload_n hE 1 rfl dX8_copyAll_43 ?_
    refine ok_getC hE fl_X8_11 hp1 rfl dX8_copyAll_44 ?_
    refine ok_iload_n hE 2 rfl dX8_copyAll_47 ?_
    refine ok_aaloadH hE (shC_f_8_1 hp1) rfl dX8_copyAll_48 (fun hi10 => ?_)
    refine ok_cvV hE rmC_PCopyCounts [.ref (E.Y.ad ((p1 + 1) + 7 + 2 * ix x5.1))] [] rfl ca_X8_131 (shC_el_3 (shC_f_8_1 hth) hi9) rfl (fun _ hx => mC_PCopyCounts hE.sys _ _ (shC_el_3 (shC_f_8_1 hth) hi9) (shC_el_3 (shC_f_8_1 hp1) hi10) _ _ hx) ⟨rfl, rfl, rfl, rfl⟩ rfl rfl dX8_copyAll_49 (fun M11 => ?_)
    refine ok_iinc hE 2 (x5.1 + (1 : Int32)) (by rw [ko_1]) (fun v12 => [(2, .int v12), (0, .ref (E.Y.ad th)), (1, .ref (E.Y.ad p1))]) rfl (fun _ => rfl) rfl dX8_copyAll_52 (fun v12 => ?_)
    refine ok_goto hE 26 rfl dX8_copyAll_55 ?_
    exact ok_sub [1, 2, 0] rfl (hrec26 (v12, M11))
theorem mC_copyAll {l : Launch} {Y : Sys} {t : Nat} (hY : SysOk Y t shC) (th : Nat) (p1 : Nat) (hth : shC th = shCX8) (hp1 : shC p1 = shCX8) (M : Mm) (r : Mm) (h : C_copyAll th p1 M = some r) : Cm l Y t yX8_copyAll (WS yX8_copyAll cX8_copyAll 3 none) rmC_copyAll [.ref (Y.ad th), .ref (Y.ad p1)] M (enV r) := by
  refine cm_of (own := RX8) hY rfl rfl (Nat.le_of_ble_eq_true rfl) (fun E hE e1 e2 e3 e4 => ?_)
  subst e1
  exact tC_copyAll E hE th p1 hth hp1 M r h e4.symm
def C_keepPast  (M : Mm) : Option Mm :=
 lett (sI M 0 7 (((gI M 0 7) + (1 : Int32)) - ((gI M 0 7) + (1 : Int32)) / (20 : Int32) * (20 : Int32))) fun M1 =>
 ald (gI M1 0 7) 20 (bnd (C_copyAll (74 + 20 * ix (gI M1 0 7)) 26 M1) fun M3 =>
 lett (sI M3 0 8 (mminI ((gI M3 0 8) + (1 : Int32)) (20 : Int32))) fun M4 =>
 some M4)
abbrev rmC_keepPast : Room := { frames := 4, cells := 0, slots := 0, locals := 113 }
set_option maxHeartbeats 4000000 in
set_option maxRecDepth 100000 in
theorem tC_keepPast (E : Cx) (hE : CxOk E cX11_keepPast RX11 shC none rmC_keepPast 1)   (M : Mm) : Ok E 0 [(0, .ref (E.Y.ad 0))] [] M (C_keepPast  M) (KV E) := by
  unfold C_keepPast
  refine ok_aload_n hE 0 rfl dX11_keepPast_0 ?_
  refine ok_aload_n hE 0 rfl dX11_keepPast_1 ?_
  refine ok_getI hE fl_X11_51 shC_0 rfl dX11_keepPast_2 ?_
  refine ok_iconst hE (1 : Int32) ki_1 dX11_keepPast_5 ?_
  refine ok_iadd hE dX11_keepPast_6 ?_
  refine ok_bipush hE (20 : Int32) kb_20 dX11_keepPast_7 ?_
  refine ok_iremC hE (by decide) dX11_keepPast_9 ?_
  refine ok_putI hE fl_X11_51 shC_0 rfl dX11_keepPast_10 (fun M1 => ?_)
  refine ok_aload_n hE 0 rfl dX11_keepPast_13 ?_
  refine ok_getA hE fl_X11_47 shC_0 rfl dX11_keepPast_14 ?_
  refine ok_aload_n hE 0 rfl dX11_keepPast_17 ?_
  refine ok_getI hE fl_X11_51 shC_0 rfl dX11_keepPast_18 ?_
  refine ok_aaloadH hE shC_66 rfl dX11_keepPast_21 (fun hi2 => ?_)
  refine ok_aload_n hE 0 rfl dX11_keepPast_22 ?_
  refine ok_getA hE fl_X11_40 shC_0 rfl dX11_keepPast_23 ?_
  refine ok_cvV hE rmC_copyAll [.ref (E.Y.ad 26)] [] rfl ca_X11_400 (shC_e_66 hi2) rfl (fun _ hx => mC_copyAll hE.sys _ _ (shC_e_66 hi2) shC_26 _ _ hx) ⟨rfl, rfl, rfl, rfl⟩ rfl rfl dX11_keepPast_26 (fun M3 => ?_)
  refine ok_aload_n hE 0 rfl dX11_keepPast_29 ?_
  refine ok_aload_n hE 0 rfl dX11_keepPast_30 ?_
  refine ok_getI hE fl_X11_55 shC_0 rfl dX11_keepPast_31 ?_
  refine ok_iconst hE (1 : Int32) ki_1 dX11_keepPast_34 ?_
  refine ok_iadd hE dX11_keepPast_35 ?_
  refine ok_bipush hE (20 : Int32) kb_20 dX11_keepPast_36 ?_
  refine ok_mmin hE mt_X11_404 ⟨rfl, rfl⟩ dX11_keepPast_38 ?_
  refine ok_putI hE fl_X11_55 shC_0 rfl dX11_keepPast_41 (fun M4 => ?_)
  exact ok_return hE dX11_keepPast_44
theorem mC_keepPast {l : Launch} {Y : Sys} {t : Nat} (hY : SysOk Y t shC)   (M : Mm) (r : Mm) (h : C_keepPast  M = some r) : Cm l Y t yX11_keepPast (WS yX11_keepPast cX11_keepPast 1 none) rmC_keepPast [.ref (Y.ad 0)] M (enV r) := by
  refine cm_of (own := RX11) hY rfl rfl (Nat.le_of_ble_eq_true rfl) (fun E hE e1 e2 e3 e4 => ?_)
  subst e1
  exact tC_keepPast E hE   M r h e4.symm
def C_ticks (p1 : Int32) (M : Mm) : Option (Int32 × Mm) :=
 bnd (C_hasDisk M) fun r1 =>
 lett (fun (_ : Unit) =>
 bnd (C_refuse (2 : Int32) M) fun r2 =>
 some (r2.1, r2.2)) fun j33 =>
 if r1 = 0 then
 (j33 ())
 else
 (bnd (C_isWithin p1 (1 : Int32) (200 : Int32) M) fun r3 =>
 if r3 = 0 then
 (j33 ())
 else
 (if ((gI M 26 10) + p1) ≤ (9999 : Int32) then
 (bnd (C_keepPast M) fun M4 =>
 plnS M4 26 fun q6 =>
 bnd (S_run p1 (sbM (emS 26 q6) M4)) fun x5 =>
 lett (inM (dmS 26 q6) kpS M4 x5) fun M8 =>
 some ((gI M8 26 10), M8))
 else
 (j33 ())))
abbrev rmC_ticks : Room := { frames := 6, cells := 0, slots := 0, locals := 162 }
set_option maxHeartbeats 4000000 in
set_option maxRecDepth 100000 in
theorem tC_ticks (E : Cx) (hE : CxOk E cX11_ticks RX11 shC (some .int) rmC_ticks 2) (p1 : Int32)  (M : Mm) : Ok E 0 [(0, .ref (E.Y.ad 0)), (1, .int p1)] [] M (C_ticks p1 M) (KI E) := by
  unfold C_ticks
  refine ok_aload_n hE 0 rfl dX11_ticks_0 ?_
  refine ok_cvIp hE rmC_hasDisk [] [] rfl ca_X11_269 shC_0 rfl (fun _ hx => mC_hasDisk hE.sys   _ _ hx) ⟨rfl, rfl, rfl, rfl⟩ rfl rfl dX11_ticks_1 (fun r1 => ?_)
  refine ok_fun (fun j => ∀ (_ : Unit), Ok E 33 [(0, .ref (E.Y.ad 0))] [] M (j ()) (KI E)) (fun _ => ?_) (fun j33 hj33 => ?_)
  · refine ok_aload_n hE 0 rfl dX11_ticks_33 ?_
    refine ok_iconst hE (2 : Int32) ki_2 dX11_ticks_34 ?_
    refine ok_cvI hE rmC_refuse [.int (2 : Int32)] [] rfl ca_X11_92 shC_0 rfl (fun _ hx => mC_refuse hE.sys _  _ _ hx) ⟨rfl, rfl, rfl, rfl⟩ rfl rfl dX11_ticks_35 (fun r2 => ?_)
    exact ok_ireturn hE dX11_ticks_38
  refine ok_if_eq hE 33 rfl dX11_ticks_4 ?_ ?_
  · exact ok_sub [0] rfl (hj33 ())
  · refine ok_iload_n hE 1 rfl dX11_ticks_7 ?_
    refine ok_iconst hE (1 : Int32) ki_1 dX11_ticks_8 ?_
    refine ok_sipush hE (200 : Int32) ks_200 dX11_ticks_9 ?_
    refine ok_csIp hE rmC_isWithin [.int p1, .int (1 : Int32), .int (200 : Int32)] [] rfl ca_X11_306 (fun _ hx => mC_isWithin hE.sys _ _ _  _ _ hx) ⟨rfl, rfl, rfl, rfl⟩ rfl rfl dX11_ticks_12 (fun r3 => ?_)
    refine ok_if_eq hE 33 rfl dX11_ticks_15 ?_ ?_
    · exact ok_sub [0] rfl (hj33 ())
    · refine ok_aload_n hE 0 rfl dX11_ticks_18 ?_
      refine ok_getA hE fl_X11_40 shC_0 rfl dX11_ticks_19 ?_
      refine ok_getI hE fl_X11_126 shC_26 rfl dX11_ticks_22 ?_
      refine ok_iload_n hE 1 rfl dX11_ticks_25 ?_
      refine ok_iadd hE dX11_ticks_26 ?_
      refine ok_sipush hE (9999 : Int32) ks_9999 dX11_ticks_27 ?_
      refine ok_icmp_le hE 39 rfl dX11_ticks_30 ?_ ?_
      · refine ok_aload_n hE 0 rfl dX11_ticks_39 ?_
        refine ok_cvV hE rmC_keepPast [] [] rfl ca_X11_366 shC_0 rfl (fun _ hx => mC_keepPast hE.sys   _ _ hx) ⟨rfl, rfl, rfl, rfl⟩ rfl rfl dX11_ticks_40 (fun M4 => ?_)
        refine ok_aload_n hE 0 rfl dX11_ticks_43 ?_
        refine ok_getA hE fl_X11_40 shC_0 rfl dX11_ticks_44 ?_
        refine ok_iload_n hE 1 rfl dX11_ticks_47 ?_
        refine ok_plnS hE (fun q6 hq7 => ?_)
        refine ok_xV hE rmS_run [.int p1] [] rfl ca_X11_321 shC_26 rfl hq7 rfl (fun hs _ hx => mS_run hs _  _ _ hx) ⟨rfl, rfl, rfl, rfl⟩ rfl rfl dX11_ticks_48 (fun x5 M8 => ?_)
        refine ok_aload_n hE 0 rfl dX11_ticks_51 ?_
        refine ok_getA hE fl_X11_40 shC_0 rfl dX11_ticks_52 ?_
        refine ok_getI hE fl_X11_126 shC_26 rfl dX11_ticks_55 ?_
        exact ok_ireturn hE dX11_ticks_58
      · exact ok_sub [0] rfl (hj33 ())
theorem mC_ticks {l : Launch} {Y : Sys} {t : Nat} (hY : SysOk Y t shC) (p1 : Int32)  (M : Mm) (r : (Int32 × Mm)) (h : C_ticks p1 M = some r) : Cm l Y t yX11_ticks (WS yX11_ticks cX11_ticks 2 (some .int)) rmC_ticks [.ref (Y.ad 0), .int p1] M (enI r) := by
  refine cm_of (own := RX11) hY rfl rfl (Nat.le_of_ble_eq_true rfl) (fun E hE e1 e2 e3 e4 => ?_)
  subst e1
  exact tC_ticks E hE p1  M r h e4.symm
def C_ask (p1 : Int32) (p2 : Int32) (p3 : Int32) (M : Mm) : Option (Int32 × Mm) :=
 bnd (C_isProcess p1 M) fun r1 =>
 lett (fun (_ : Unit) =>
 bnd (C_refuse (3 : Int32) M) fun r2 =>
 some (r2.1, r2.2)) fun j21 =>
 if r1 = 0 then
 (j21 ())
 else
 (plnS M 26 fun q4 =>
 bnd (S_canAskByHand p1 p2 p3 (sbM (emS 26 q4) M)) fun r3 =>
 if r3 = 0 then
 (j21 ())
 else
 (bnd (C_keepPast M) fun M7 =>
 plnS M7 26 fun q9 =>
 bnd (S_send p1 p2 p3 (-1 : Int32) (sbM (emS 26 q9) M7)) fun r8 =>
 lett (inM (dmS 26 q9) kpS M7 r8.2) fun M11 =>
 some (r8.1, M11)))
abbrev rmC_ask : Room := { frames := 5, cells := 0, slots := 0, locals := 133 }
set_option maxHeartbeats 4000000 in
set_option maxRecDepth 100000 in
theorem tC_ask (E : Cx) (hE : CxOk E cX11_ask RX11 shC (some .int) rmC_ask 4) (p1 : Int32) (p2 : Int32) (p3 : Int32)  (M : Mm) : Ok E 0 [(0, .ref (E.Y.ad 0)), (1, .int p1), (2, .int p2), (3, .int p3)] [] M (C_ask p1 p2 p3 M) (KI E) := by
  unfold C_ask
  refine ok_aload_n hE 0 rfl dX11_ask_0 ?_
  refine ok_iload_n hE 1 rfl dX11_ask_1 ?_
  refine ok_cvIp hE rmC_isProcess [.int p1] [] rfl ca_X11_164 shC_0 rfl (fun _ hx => mC_isProcess hE.sys _  _ _ hx) ⟨rfl, rfl, rfl, rfl⟩ rfl rfl dX11_ask_2 (fun r1 => ?_)
  refine ok_fun (fun j => ∀ (_ : Unit), Ok E 21 [(0, .ref (E.Y.ad 0))] [] M (j ()) (KI E)) (fun _ => ?_) (fun j21 hj21 => ?_)
  · refine ok_aload_n hE 0 rfl dX11_ask_21 ?_
    refine ok_iconst hE (3 : Int32) ki_3 dX11_ask_22 ?_
    refine ok_cvI hE rmC_refuse [.int (3 : Int32)] [] rfl ca_X11_92 shC_0 rfl (fun _ hx => mC_refuse hE.sys _  _ _ hx) ⟨rfl, rfl, rfl, rfl⟩ rfl rfl dX11_ask_23 (fun r2 => ?_)
    exact ok_ireturn hE dX11_ask_26
  refine ok_if_eq hE 21 rfl dX11_ask_5 ?_ ?_
  · exact ok_sub [0] rfl (hj21 ())
  · refine ok_aload_n hE 0 rfl dX11_ask_8 ?_
    refine ok_getA hE fl_X11_40 shC_0 rfl dX11_ask_9 ?_
    refine ok_iload_n hE 1 rfl dX11_ask_12 ?_
    refine ok_iload_n hE 2 rfl dX11_ask_13 ?_
    refine ok_iload_n hE 3 rfl dX11_ask_14 ?_
    refine ok_plnS hE (fun q4 hq5 => ?_)
    refine ok_xIp hE rmS_canAskByHand [.int p1, .int p2, .int p3] [] rfl ca_X11_369 shC_26 rfl hq5 rfl (fun hs _ hx => mS_canAskByHand hs _ _ _  _ _ hx) ⟨rfl, rfl, rfl, rfl⟩ rfl rfl dX11_ask_15 (fun r3 => ?_)
    refine ok_if_ne hE 27 rfl dX11_ask_18 ?_ ?_
    · refine ok_aload_n hE 0 rfl dX11_ask_27 ?_
      refine ok_cvV hE rmC_keepPast [] [] rfl ca_X11_366 shC_0 rfl (fun _ hx => mC_keepPast hE.sys   _ _ hx) ⟨rfl, rfl, rfl, rfl⟩ rfl rfl dX11_ask_28 (fun M7 => ?_)
      refine ok_aload_n hE 0 rfl dX11_ask_31 ?_
      refine ok_getA hE fl_X11_40 shC_0 rfl dX11_ask_32 ?_
      refine ok_iload_n hE 1 rfl dX11_ask_35 ?_
      refine ok_iload_n hE 2 rfl dX11_ask_36 ?_
      refine ok_iload_n hE 3 rfl dX11_ask_37 ?_
      refine ok_iconst hE (-1 : Int32) ki_m1 dX11_ask_38 ?_
      refine ok_plnS hE (fun q9 hq10 => ?_)
      refine ok_xI hE rmS_send [.int p1, .int p2, .int p3, .int (-1 : Int32)] [] rfl ca_X11_372 shC_26 rfl hq10 rfl (fun hs _ hx => mS_send hs _ _ _ _  _ _ hx) ⟨rfl, rfl, rfl, rfl⟩ rfl rfl dX11_ask_39 (fun r8 M11 => ?_)
      exact ok_ireturn hE dX11_ask_42
    · exact ok_sub [0] rfl (hj21 ())
theorem mC_ask {l : Launch} {Y : Sys} {t : Nat} (hY : SysOk Y t shC) (p1 : Int32) (p2 : Int32) (p3 : Int32)  (M : Mm) (r : (Int32 × Mm)) (h : C_ask p1 p2 p3 M = some r) : Cm l Y t yX11_ask (WS yX11_ask cX11_ask 4 (some .int)) rmC_ask [.ref (Y.ad 0), .int p1, .int p2, .int p3] M (enI r) := by
  refine cm_of (own := RX11) hY rfl rfl (Nat.le_of_ble_eq_true rfl) (fun E hE e1 e2 e3 e4 => ?_)
  subst e1
  exact tC_ask E hE p1 p2 p3  M r h e4.symm
def C_weight (p1 : Int32) (p2 : Int32) (M : Mm) : Option (Int32 × Mm) :=
 bnd (C_isProcess p1 M) fun r1 =>
 lett (fun (_ : Unit) =>
 bnd (C_refuse (3 : Int32) M) fun r2 =>
 some ((0 : Int32), r2.2)) fun j34 =>
 if r1 = 0 then
 (j34 ())
 else
 (bnd (C_isWithin p2 (1 : Int32) (100 : Int32) M) fun r3 =>
 if r3 = 0 then
 (j34 ())
 else
 (ald p1 6 (if (gI M (34 + 2 * ix p1) 0) = p2 then
 (j34 ())
 else
 (bnd (C_keepPast M) fun M5 =>
 ald p1 6 (lett (sI M5 (34 + 2 * ix p1) 0 p2) fun M7 =>
 some ((1 : Int32), M7))))))
abbrev rmC_weight : Room := { frames := 5, cells := 0, slots := 0, locals := 133 }
set_option maxHeartbeats 4000000 in
set_option maxRecDepth 100000 in
theorem tC_weight (E : Cx) (hE : CxOk E cX11_weight RX11 shC (some .boolean) rmC_weight 3) (p1 : Int32) (p2 : Int32)  (M : Mm) : Ok E 0 [(0, .ref (E.Y.ad 0)), (1, .int p1), (2, .int p2)] [] M (C_weight p1 p2 M) (KI E) := by
  unfold C_weight
  refine ok_aload_n hE 0 rfl dX11_weight_0 ?_
  refine ok_iload_n hE 1 rfl dX11_weight_1 ?_
  refine ok_cvIp hE rmC_isProcess [.int p1] [] rfl ca_X11_164 shC_0 rfl (fun _ hx => mC_isProcess hE.sys _  _ _ hx) ⟨rfl, rfl, rfl, rfl⟩ rfl rfl dX11_weight_2 (fun r1 => ?_)
  refine ok_fun (fun j => ∀ (_ : Unit), Ok E 34 [(0, .ref (E.Y.ad 0))] [] M (j ()) (KI E)) (fun _ => ?_) (fun j34 hj34 => ?_)
  · refine ok_aload_n hE 0 rfl dX11_weight_34 ?_
    refine ok_iconst hE (3 : Int32) ki_3 dX11_weight_35 ?_
    refine ok_cvI hE rmC_refuse [.int (3 : Int32)] [] rfl ca_X11_92 shC_0 rfl (fun _ hx => mC_refuse hE.sys _  _ _ hx) ⟨rfl, rfl, rfl, rfl⟩ rfl rfl dX11_weight_36 (fun r2 => ?_)
    refine ok_pop hE rfl dX11_weight_39 ?_
    refine ok_iconst hE (0 : Int32) ki_0 dX11_weight_40 ?_
    exact ok_zreturn hE (Or.inl rfl) dX11_weight_41
  refine ok_if_eq hE 34 rfl dX11_weight_5 ?_ ?_
  · exact ok_sub [0] rfl (hj34 ())
  · refine ok_iload_n hE 2 rfl dX11_weight_8 ?_
    refine ok_iconst hE (1 : Int32) ki_1 dX11_weight_9 ?_
    refine ok_bipush hE (100 : Int32) kb_100 dX11_weight_10 ?_
    refine ok_csIp hE rmC_isWithin [.int p2, .int (1 : Int32), .int (100 : Int32)] [] rfl ca_X11_306 (fun _ hx => mC_isWithin hE.sys _ _ _  _ _ hx) ⟨rfl, rfl, rfl, rfl⟩ rfl rfl dX11_weight_12 (fun r3 => ?_)
    refine ok_if_eq hE 34 rfl dX11_weight_15 ?_ ?_
    · exact ok_sub [0] rfl (hj34 ())
    · refine ok_aload_n hE 0 rfl dX11_weight_18 ?_
      refine ok_getA hE fl_X11_40 shC_0 rfl dX11_weight_19 ?_
      refine ok_getC hE fl_X11_171 shC_26 rfl dX11_weight_22 ?_
      refine ok_iload_n hE 1 rfl dX11_weight_25 ?_
      refine ok_aaloadH hE shC_27 rfl dX11_weight_26 (fun hi4 => ?_)
      refine ok_getI hE fl_X11_175 (shC_e_27 hi4) rfl dX11_weight_27 ?_
      refine ok_iload_n hE 2 rfl dX11_weight_30 ?_
      refine ok_icmp_ne hE 42 rfl dX11_weight_31 ?_ ?_
      · refine ok_aload_n hE 0 rfl dX11_weight_42 ?_
        refine ok_cvV hE rmC_keepPast [] [] rfl ca_X11_366 shC_0 rfl (fun _ hx => mC_keepPast hE.sys   _ _ hx) ⟨rfl, rfl, rfl, rfl⟩ rfl rfl dX11_weight_43 (fun M5 => ?_)
        refine ok_aload_n hE 0 rfl dX11_weight_46 ?_
        refine ok_getA hE fl_X11_40 shC_0 rfl dX11_weight_47 ?_
        refine ok_getC hE fl_X11_171 shC_26 rfl dX11_weight_50 ?_
        refine ok_iload_n hE 1 rfl dX11_weight_53 ?_
        refine ok_aaloadH hE shC_27 rfl dX11_weight_54 (fun hi6 => ?_)
        refine ok_iload_n hE 2 rfl dX11_weight_55 ?_
        refine ok_putI hE fl_X11_175 (shC_e_27 hi6) rfl dX11_weight_56 (fun M7 => ?_)
        refine ok_iconst hE (1 : Int32) ki_1 dX11_weight_59 ?_
        exact ok_zreturn hE (Or.inr rfl) dX11_weight_60
      · exact ok_sub [0] rfl (hj34 ())
theorem mC_weight {l : Launch} {Y : Sys} {t : Nat} (hY : SysOk Y t shC) (p1 : Int32) (p2 : Int32)  (M : Mm) (r : (Int32 × Mm)) (h : C_weight p1 p2 M = some r) : Cm l Y t yX11_weight (WS yX11_weight cX11_weight 3 (some .boolean)) rmC_weight [.ref (Y.ad 0), .int p1, .int p2] M (enI r) := by
  refine cm_of (own := RX11) hY rfl rfl (Nat.le_of_ble_eq_true rfl) (fun E hE e1 e2 e3 e4 => ?_)
  subst e1
  exact tC_weight E hE p1 p2  M r h e4.symm
def C_idle (p1 : Int32) (M : Mm) : Option (Int32 × Mm) :=
 bnd (C_hasDisk M) fun r1 =>
 lett (fun (_ : Unit) =>
 bnd (C_refuse (3 : Int32) M) fun r2 =>
 some ((0 : Int32), r2.2)) fun j28 =>
 if r1 = 0 then
 (j28 ())
 else
 (bnd (C_isWithin p1 (0 : Int32) (20 : Int32) M) fun r3 =>
 if r3 = 0 then
 (j28 ())
 else
 (if (gI M 26 16) = p1 then
 (j28 ())
 else
 (bnd (C_keepPast M) fun M4 =>
 lett (sI M4 26 16 p1) fun M5 =>
 some ((1 : Int32), M5))))
abbrev rmC_idle : Room := { frames := 5, cells := 0, slots := 0, locals := 133 }
set_option maxHeartbeats 4000000 in
set_option maxRecDepth 100000 in
theorem tC_idle (E : Cx) (hE : CxOk E cX11_idle RX11 shC (some .boolean) rmC_idle 2) (p1 : Int32)  (M : Mm) : Ok E 0 [(0, .ref (E.Y.ad 0)), (1, .int p1)] [] M (C_idle p1 M) (KI E) := by
  unfold C_idle
  refine ok_aload_n hE 0 rfl dX11_idle_0 ?_
  refine ok_cvIp hE rmC_hasDisk [] [] rfl ca_X11_269 shC_0 rfl (fun _ hx => mC_hasDisk hE.sys   _ _ hx) ⟨rfl, rfl, rfl, rfl⟩ rfl rfl dX11_idle_1 (fun r1 => ?_)
  refine ok_fun (fun j => ∀ (_ : Unit), Ok E 28 [(0, .ref (E.Y.ad 0))] [] M (j ()) (KI E)) (fun _ => ?_) (fun j28 hj28 => ?_)
  · refine ok_aload_n hE 0 rfl dX11_idle_28 ?_
    refine ok_iconst hE (3 : Int32) ki_3 dX11_idle_29 ?_
    refine ok_cvI hE rmC_refuse [.int (3 : Int32)] [] rfl ca_X11_92 shC_0 rfl (fun _ hx => mC_refuse hE.sys _  _ _ hx) ⟨rfl, rfl, rfl, rfl⟩ rfl rfl dX11_idle_30 (fun r2 => ?_)
    refine ok_pop hE rfl dX11_idle_33 ?_
    refine ok_iconst hE (0 : Int32) ki_0 dX11_idle_34 ?_
    exact ok_zreturn hE (Or.inl rfl) dX11_idle_35
  refine ok_if_eq hE 28 rfl dX11_idle_4 ?_ ?_
  · exact ok_sub [0] rfl (hj28 ())
  · refine ok_iload_n hE 1 rfl dX11_idle_7 ?_
    refine ok_iconst hE (0 : Int32) ki_0 dX11_idle_8 ?_
    refine ok_bipush hE (20 : Int32) kb_20 dX11_idle_9 ?_
    refine ok_csIp hE rmC_isWithin [.int p1, .int (0 : Int32), .int (20 : Int32)] [] rfl ca_X11_306 (fun _ hx => mC_isWithin hE.sys _ _ _  _ _ hx) ⟨rfl, rfl, rfl, rfl⟩ rfl rfl dX11_idle_11 (fun r3 => ?_)
    refine ok_if_eq hE 28 rfl dX11_idle_14 ?_ ?_
    · exact ok_sub [0] rfl (hj28 ())
    · refine ok_aload_n hE 0 rfl dX11_idle_17 ?_
      refine ok_getA hE fl_X11_40 shC_0 rfl dX11_idle_18 ?_
      refine ok_getI hE fl_X11_145 shC_26 rfl dX11_idle_21 ?_
      refine ok_iload_n hE 1 rfl dX11_idle_24 ?_
      refine ok_icmp_ne hE 36 rfl dX11_idle_25 ?_ ?_
      · refine ok_aload_n hE 0 rfl dX11_idle_36 ?_
        refine ok_cvV hE rmC_keepPast [] [] rfl ca_X11_366 shC_0 rfl (fun _ hx => mC_keepPast hE.sys   _ _ hx) ⟨rfl, rfl, rfl, rfl⟩ rfl rfl dX11_idle_37 (fun M4 => ?_)
        refine ok_aload_n hE 0 rfl dX11_idle_40 ?_
        refine ok_getA hE fl_X11_40 shC_0 rfl dX11_idle_41 ?_
        refine ok_iload_n hE 1 rfl dX11_idle_44 ?_
        refine ok_putI hE fl_X11_145 shC_26 rfl dX11_idle_45 (fun M5 => ?_)
        refine ok_iconst hE (1 : Int32) ki_1 dX11_idle_48 ?_
        exact ok_zreturn hE (Or.inr rfl) dX11_idle_49
      · exact ok_sub [0] rfl (hj28 ())
theorem mC_idle {l : Launch} {Y : Sys} {t : Nat} (hY : SysOk Y t shC) (p1 : Int32)  (M : Mm) (r : (Int32 × Mm)) (h : C_idle p1 M = some r) : Cm l Y t yX11_idle (WS yX11_idle cX11_idle 2 (some .boolean)) rmC_idle [.ref (Y.ad 0), .int p1] M (enI r) := by
  refine cm_of (own := RX11) hY rfl rfl (Nat.le_of_ble_eq_true rfl) (fun E hE e1 e2 e3 e4 => ?_)
  subst e1
  exact tC_idle E hE p1  M r h e4.symm
def C_slice (p1 : Int32) (M : Mm) : Option (Int32 × Mm) :=
 bnd (C_hasDisk M) fun r1 =>
 lett (fun (_ : Unit) =>
 bnd (C_refuse (3 : Int32) M) fun r2 =>
 some ((0 : Int32), r2.2)) fun j29 =>
 if r1 = 0 then
 (j29 ())
 else
 (bnd (C_isWithin p1 (1 : Int32) (200 : Int32) M) fun r3 =>
 if r3 = 0 then
 (j29 ())
 else
 (if (gI M 26 17) = p1 then
 (j29 ())
 else
 (bnd (C_keepPast M) fun M4 =>
 lett (sI M4 26 17 p1) fun M5 =>
 some ((1 : Int32), M5))))
abbrev rmC_slice : Room := { frames := 5, cells := 0, slots := 0, locals := 133 }
set_option maxHeartbeats 4000000 in
set_option maxRecDepth 100000 in
theorem tC_slice (E : Cx) (hE : CxOk E cX11_slice RX11 shC (some .boolean) rmC_slice 2) (p1 : Int32)  (M : Mm) : Ok E 0 [(0, .ref (E.Y.ad 0)), (1, .int p1)] [] M (C_slice p1 M) (KI E) := by
  unfold C_slice
  refine ok_aload_n hE 0 rfl dX11_slice_0 ?_
  refine ok_cvIp hE rmC_hasDisk [] [] rfl ca_X11_269 shC_0 rfl (fun _ hx => mC_hasDisk hE.sys   _ _ hx) ⟨rfl, rfl, rfl, rfl⟩ rfl rfl dX11_slice_1 (fun r1 => ?_)
  refine ok_fun (fun j => ∀ (_ : Unit), Ok E 29 [(0, .ref (E.Y.ad 0))] [] M (j ()) (KI E)) (fun _ => ?_) (fun j29 hj29 => ?_)
  · refine ok_aload_n hE 0 rfl dX11_slice_29 ?_
    refine ok_iconst hE (3 : Int32) ki_3 dX11_slice_30 ?_
    refine ok_cvI hE rmC_refuse [.int (3 : Int32)] [] rfl ca_X11_92 shC_0 rfl (fun _ hx => mC_refuse hE.sys _  _ _ hx) ⟨rfl, rfl, rfl, rfl⟩ rfl rfl dX11_slice_31 (fun r2 => ?_)
    refine ok_pop hE rfl dX11_slice_34 ?_
    refine ok_iconst hE (0 : Int32) ki_0 dX11_slice_35 ?_
    exact ok_zreturn hE (Or.inl rfl) dX11_slice_36
  refine ok_if_eq hE 29 rfl dX11_slice_4 ?_ ?_
  · exact ok_sub [0] rfl (hj29 ())
  · refine ok_iload_n hE 1 rfl dX11_slice_7 ?_
    refine ok_iconst hE (1 : Int32) ki_1 dX11_slice_8 ?_
    refine ok_sipush hE (200 : Int32) ks_200 dX11_slice_9 ?_
    refine ok_csIp hE rmC_isWithin [.int p1, .int (1 : Int32), .int (200 : Int32)] [] rfl ca_X11_306 (fun _ hx => mC_isWithin hE.sys _ _ _  _ _ hx) ⟨rfl, rfl, rfl, rfl⟩ rfl rfl dX11_slice_12 (fun r3 => ?_)
    refine ok_if_eq hE 29 rfl dX11_slice_15 ?_ ?_
    · exact ok_sub [0] rfl (hj29 ())
    · refine ok_aload_n hE 0 rfl dX11_slice_18 ?_
      refine ok_getA hE fl_X11_40 shC_0 rfl dX11_slice_19 ?_
      refine ok_getI hE fl_X11_148 shC_26 rfl dX11_slice_22 ?_
      refine ok_iload_n hE 1 rfl dX11_slice_25 ?_
      refine ok_icmp_ne hE 37 rfl dX11_slice_26 ?_ ?_
      · refine ok_aload_n hE 0 rfl dX11_slice_37 ?_
        refine ok_cvV hE rmC_keepPast [] [] rfl ca_X11_366 shC_0 rfl (fun _ hx => mC_keepPast hE.sys   _ _ hx) ⟨rfl, rfl, rfl, rfl⟩ rfl rfl dX11_slice_38 (fun M4 => ?_)
        refine ok_aload_n hE 0 rfl dX11_slice_41 ?_
        refine ok_getA hE fl_X11_40 shC_0 rfl dX11_slice_42 ?_
        refine ok_iload_n hE 1 rfl dX11_slice_45 ?_
        refine ok_putI hE fl_X11_148 shC_26 rfl dX11_slice_46 (fun M5 => ?_)
        refine ok_iconst hE (1 : Int32) ki_1 dX11_slice_49 ?_
        exact ok_zreturn hE (Or.inr rfl) dX11_slice_50
      · exact ok_sub [0] rfl (hj29 ())
theorem mC_slice {l : Launch} {Y : Sys} {t : Nat} (hY : SysOk Y t shC) (p1 : Int32)  (M : Mm) (r : (Int32 × Mm)) (h : C_slice p1 M = some r) : Cm l Y t yX11_slice (WS yX11_slice cX11_slice 2 (some .boolean)) rmC_slice [.ref (Y.ad 0), .int p1] M (enI r) := by
  refine cm_of (own := RX11) hY rfl rfl (Nat.le_of_ble_eq_true rfl) (fun E hE e1 e2 e3 e4 => ?_)
  subst e1
  exact tC_slice E hE p1  M r h e4.symm
def C_on (p1 : Int32) (p2 : Int32) (M : Mm) : Option (Int32 × Mm) :=
 bnd (C_isProcess p1 M) fun r1 =>
 lett (fun (_ : Unit) =>
 bnd (C_refuse (3 : Int32) M) fun r2 =>
 some ((0 : Int32), r2.2)) fun j24 =>
 if r1 = 0 then
 (j24 ())
 else
 (ald p1 6 (if (gI M (34 + 2 * ix p1) 1) = p2 then
 (j24 ())
 else
 (bnd (C_keepPast M) fun M4 =>
 ald p1 6 (grd (p2 = 0 ∨ p2 = 1) (lett (sI M4 (34 + 2 * ix p1) 1 p2) fun M6 =>
 some ((1 : Int32), M6))))))
abbrev rmC_on : Room := { frames := 5, cells := 0, slots := 0, locals := 133 }
set_option maxHeartbeats 4000000 in
set_option maxRecDepth 100000 in
theorem tC_on (E : Cx) (hE : CxOk E cX11_on RX11 shC (some .boolean) rmC_on 3) (p1 : Int32) (p2 : Int32)  (M : Mm) : Ok E 0 [(0, .ref (E.Y.ad 0)), (1, .int p1), (2, .int p2)] [] M (C_on p1 p2 M) (KI E) := by
  unfold C_on
  refine ok_aload_n hE 0 rfl dX11_on_0 ?_
  refine ok_iload_n hE 1 rfl dX11_on_1 ?_
  refine ok_cvIp hE rmC_isProcess [.int p1] [] rfl ca_X11_164 shC_0 rfl (fun _ hx => mC_isProcess hE.sys _  _ _ hx) ⟨rfl, rfl, rfl, rfl⟩ rfl rfl dX11_on_2 (fun r1 => ?_)
  refine ok_fun (fun j => ∀ (_ : Unit), Ok E 24 [(0, .ref (E.Y.ad 0))] [] M (j ()) (KI E)) (fun _ => ?_) (fun j24 hj24 => ?_)
  · refine ok_aload_n hE 0 rfl dX11_on_24 ?_
    refine ok_iconst hE (3 : Int32) ki_3 dX11_on_25 ?_
    refine ok_cvI hE rmC_refuse [.int (3 : Int32)] [] rfl ca_X11_92 shC_0 rfl (fun _ hx => mC_refuse hE.sys _  _ _ hx) ⟨rfl, rfl, rfl, rfl⟩ rfl rfl dX11_on_26 (fun r2 => ?_)
    refine ok_pop hE rfl dX11_on_29 ?_
    refine ok_iconst hE (0 : Int32) ki_0 dX11_on_30 ?_
    exact ok_zreturn hE (Or.inl rfl) dX11_on_31
  refine ok_if_eq hE 24 rfl dX11_on_5 ?_ ?_
  · exact ok_sub [0] rfl (hj24 ())
  · refine ok_aload_n hE 0 rfl dX11_on_8 ?_
    refine ok_getA hE fl_X11_40 shC_0 rfl dX11_on_9 ?_
    refine ok_getC hE fl_X11_171 shC_26 rfl dX11_on_12 ?_
    refine ok_iload_n hE 1 rfl dX11_on_15 ?_
    refine ok_aaloadH hE shC_27 rfl dX11_on_16 (fun hi3 => ?_)
    refine ok_getI hE fl_X11_200 (shC_e_27 hi3) rfl dX11_on_17 ?_
    refine ok_iload_n hE 2 rfl dX11_on_20 ?_
    refine ok_icmp_ne hE 32 rfl dX11_on_21 ?_ ?_
    · refine ok_aload_n hE 0 rfl dX11_on_32 ?_
      refine ok_cvV hE rmC_keepPast [] [] rfl ca_X11_366 shC_0 rfl (fun _ hx => mC_keepPast hE.sys   _ _ hx) ⟨rfl, rfl, rfl, rfl⟩ rfl rfl dX11_on_33 (fun M4 => ?_)
      refine ok_aload_n hE 0 rfl dX11_on_36 ?_
      refine ok_getA hE fl_X11_40 shC_0 rfl dX11_on_37 ?_
      refine ok_getC hE fl_X11_171 shC_26 rfl dX11_on_40 ?_
      refine ok_iload_n hE 1 rfl dX11_on_43 ?_
      refine ok_aaloadH hE shC_27 rfl dX11_on_44 (fun hi5 => ?_)
      refine ok_iload_n hE 2 rfl dX11_on_45 ?_
      refine ok_putZG hE fl_X11_200 (shC_e_27 hi5) rfl dX11_on_46 (fun M6 => ?_)
      refine ok_iconst hE (1 : Int32) ki_1 dX11_on_49 ?_
      exact ok_zreturn hE (Or.inr rfl) dX11_on_50
    · exact ok_sub [0] rfl (hj24 ())
theorem mC_on {l : Launch} {Y : Sys} {t : Nat} (hY : SysOk Y t shC) (p1 : Int32) (p2 : Int32)  (M : Mm) (r : (Int32 × Mm)) (h : C_on p1 p2 M = some r) : Cm l Y t yX11_on (WS yX11_on cX11_on 3 (some .boolean)) rmC_on [.ref (Y.ad 0), .int p1, .int p2] M (enI r) := by
  refine cm_of (own := RX11) hY rfl rfl (Nat.le_of_ble_eq_true rfl) (fun E hE e1 e2 e3 e4 => ?_)
  subst e1
  exact tC_on E hE p1 p2  M r h e4.symm
def C_draw (p1 : Int32) (M : Mm) : Option (Int32 × Mm) :=
 lett (sL M 0 15 ((((1103515245 : Int64) * (gL M 0 15)) + (12345 : Int64)) - (((1103515245 : Int64) * (gL M 0 15)) + (12345 : Int64)) / (2147483648 : Int64) * (2147483648 : Int64))) fun M1 =>
 if 0 < p1 then
 (grd (¬ p1.toInt64 = 0) (some ((((gL M1 0 15) / (64 : Int64)) - ((gL M1 0 15) / (64 : Int64)) / p1.toInt64 * p1.toInt64).toInt32, M1)))
 else
 (some ((0 : Int32), M1))
abbrev rmC_draw : Room := { frames := 0, cells := 0, slots := 0, locals := 0 }
set_option maxHeartbeats 4000000 in
set_option maxRecDepth 100000 in
theorem tC_draw (E : Cx) (hE : CxOk E cX11_draw RX11 shC (some .int) rmC_draw 2) (p1 : Int32)  (M : Mm) : Ok E 0 [(0, .ref (E.Y.ad 0)), (1, .int p1)] [] M (C_draw p1 M) (KI E) := by
  unfold C_draw
  refine ok_aload_n hE 0 rfl dX11_draw_0 ?_
  refine ok_ldc2 hE ct_X11_429 dX11_draw_1 ?_
  refine ok_aload_n hE 0 rfl dX11_draw_4 ?_
  refine ok_getL hE fl_X11_85 shC_0 rfl dX11_draw_5 ?_
  refine ok_lmul hE dX11_draw_8 ?_
  refine ok_ldc2 hE ct_X11_431 dX11_draw_9 ?_
  refine ok_ladd hE dX11_draw_12 ?_
  refine ok_ldc2 hE ct_X11_433 dX11_draw_13 ?_
  refine ok_lremC hE (by decide) dX11_draw_16 ?_
  refine ok_putL hE fl_X11_85 shC_0 rfl dX11_draw_17 (fun M1 => ?_)
  refine ok_iload_n hE 1 rfl dX11_draw_20 ?_
  refine ok_if_gt hE 28 rfl dX11_draw_21 ?_ ?_
  · refine ok_aload_n hE 0 rfl dX11_draw_28 ?_
    refine ok_getL hE fl_X11_85 shC_0 rfl dX11_draw_29 ?_
    refine ok_ldc2 hE ct_X11_435 dX11_draw_32 ?_
    refine ok_ldivC hE (by decide) dX11_draw_35 ?_
    refine ok_iload_n hE 1 rfl dX11_draw_36 ?_
    refine ok_i2l hE dX11_draw_37 ?_
    refine ok_lrem hE dX11_draw_38 ?_
    refine ok_l2i hE dX11_draw_39 ?_
    exact ok_ireturn hE dX11_draw_40
  · refine ok_iconst hE (0 : Int32) ki_0 dX11_draw_24 ?_
    refine ok_goto hE 40 rfl dX11_draw_25 ?_
    exact ok_ireturn hE dX11_draw_40
theorem mC_draw {l : Launch} {Y : Sys} {t : Nat} (hY : SysOk Y t shC) (p1 : Int32)  (M : Mm) (r : (Int32 × Mm)) (h : C_draw p1 M = some r) : Cm l Y t yX11_draw (WS yX11_draw cX11_draw 2 (some .int)) rmC_draw [.ref (Y.ad 0), .int p1] M (enI r) := by
  refine cm_of (own := RX11) hY rfl rfl (Nat.le_of_ble_eq_true rfl) (fun E hE e1 e2 e3 e4 => ?_)
  subst e1
  exact tC_draw E hE p1  M r h e4.symm
def C_askByChance  (M : Mm) : Option Mm :=
 lett (gR M 0 0) fun y1 =>
 nn y1 fun c2 => grd (shC c2 = shCX2) (bnd (C_draw (gI M c2 11) M) fun r4 =>
 lett r4.1 fun v5 =>
 lett (gR r4.2 0 0) fun y6 =>
 nn y6 fun c7 => grd (shC c7 = shCX2) (bnd (C_draw (gI r4.2 c7 0) r4.2) fun r9 =>
 lett r9.1 fun v10 =>
 bnd (C_draw (16 : Int32) r9.2) fun r11 =>
 lett (r11.1 + (1 : Int32)) fun v12 =>
 plnS r11.2 26 fun q14 =>
 bnd (S_canAskByHand v5 v10 v12 (sbM (emS 26 q14) r11.2)) fun r13 =>
 if r13 = 0 then
 (some r11.2)
 else
 (plnS r11.2 26 fun q18 =>
 bnd (S_send v5 v10 v12 (-1 : Int32) (sbM (emS 26 q18) r11.2)) fun r17 =>
 lett (inM (dmS 26 q18) kpS r11.2 r17.2) fun M20 =>
 some M20)))
abbrev rmC_askByChance : Room := { frames := 4, cells := 0, slots := 0, locals := 98 }
set_option maxHeartbeats 4000000 in
set_option maxRecDepth 100000 in
theorem tC_askByChance (E : Cx) (hE : CxOk E cX11_askByChance RX11 shC none rmC_askByChance 4)   (M : Mm) : Ok E 0 [(0, .ref (E.Y.ad 0))] [] M (C_askByChance  M) (KV E) := by
  unfold C_askByChance
  refine ok_aload_n hE 0 rfl dX11_askByChance_0 ?_
  refine ok_aload_n hE 0 rfl dX11_askByChance_1 ?_
  refine ok_getRL hE fl_X11_10 shC_0 rfl dX11_askByChance_2 (fun y1 => ?_)
  rcases y1 with _ | c2
  · exact fun r hr => by cases hr
  dsimp only [nn]
  refine ok_grd (fun hc3 => ?_)
  refine ok_getI hE fl_X11_125 hc3 rfl dX11_askByChance_5 ?_
  refine ok_cvI hE rmC_draw [.int (gI M c2 11)] [] rfl ca_X11_379 shC_0 rfl (fun _ hx => mC_draw hE.sys _  _ _ hx) ⟨rfl, rfl, rfl, rfl⟩ rfl rfl dX11_askByChance_8 (fun r4 => ?_)
  refine ok_istore_n hE (fun v5 => [(1, .int v5), (0, .ref (E.Y.ad 0))]) (fun _ => rfl) rfl dX11_askByChance_11 (fun v5 => ?_)
  refine ok_aload_n hE 1 rfl dX11_askByChance_12 ?_
  refine ok_aload_n hE 1 rfl dX11_askByChance_13 ?_
  refine ok_getRL hE fl_X11_10 shC_0 rfl dX11_askByChance_14 (fun y6 => ?_)
  rcases y6 with _ | c7
  · exact fun r hr => by cases hr
  dsimp only [nn]
  refine ok_grd (fun hc8 => ?_)
  refine ok_getI hE fl_X11_122 hc8 rfl dX11_askByChance_17 ?_
  refine ok_cvI hE rmC_draw [.int (gI r4.2 c7 0)] [] rfl ca_X11_379 shC_0 rfl (fun _ hx => mC_draw hE.sys _  _ _ hx) ⟨rfl, rfl, rfl, rfl⟩ rfl rfl dX11_askByChance_20 (fun r9 => ?_)
  refine ok_istore_n hE (fun v10 => [(2, .int v10), (1, .int v5), (0, .ref (E.Y.ad 0))]) (fun _ => rfl) rfl dX11_askByChance_23 (fun v10 => ?_)
  refine ok_aload_n hE 2 rfl dX11_askByChance_24 ?_
  refine ok_bipush hE (16 : Int32) kb_16 dX11_askByChance_25 ?_
  refine ok_cvI hE rmC_draw [.int (16 : Int32)] [] rfl ca_X11_379 shC_0 rfl (fun _ hx => mC_draw hE.sys _  _ _ hx) ⟨rfl, rfl, rfl, rfl⟩ rfl rfl dX11_askByChance_27 (fun r11 => ?_)
  refine ok_iconst hE (1 : Int32) ki_1 dX11_askByChance_30 ?_
  refine ok_iadd hE dX11_askByChance_31 ?_
  refine ok_istore_n hE (fun v12 => [(3, .int v12), (2, .int v10), (1, .int v5), (0, .ref (E.Y.ad 0))]) (fun _ => rfl) rfl dX11_askByChance_32 (fun v12 => ?_)
  refine ok_aload_n hE 3 rfl dX11_askByChance_33 ?_
  refine ok_getA hE fl_X11_40 shC_0 rfl dX11_askByChance_34 ?_
  refine ok_iload_n hE 2 rfl dX11_askByChance_37 ?_
  refine ok_iload_n hE 1 rfl dX11_askByChance_38 ?_
  refine ok_iload_n hE 0 rfl dX11_askByChance_39 ?_
  refine ok_plnS hE (fun q14 hq15 => ?_)
  refine ok_xIp hE rmS_canAskByHand [.int v5, .int v10, .int v12] [] rfl ca_X11_369 shC_26 rfl hq15 rfl (fun hs _ hx => mS_canAskByHand hs _ _ _  _ _ hx) ⟨rfl, rfl, rfl, rfl⟩ rfl rfl dX11_askByChance_40 (fun r13 => ?_)
  refine ok_if_eq hE 58 rfl dX11_askByChance_43 ?_ ?_
  · exact ok_return hE dX11_askByChance_58
  · refine ok_aload_n hE 3 rfl dX11_askByChance_46 ?_
    refine ok_getA hE fl_X11_40 shC_0 rfl dX11_askByChance_47 ?_
    refine ok_iload_n hE 2 rfl dX11_askByChance_50 ?_
    refine ok_iload_n hE 1 rfl dX11_askByChance_51 ?_
    refine ok_iload_n hE 0 rfl dX11_askByChance_52 ?_
    refine ok_iconst hE (-1 : Int32) ki_m1 dX11_askByChance_53 ?_
    refine ok_plnS hE (fun q18 hq19 => ?_)
    refine ok_xI hE rmS_send [.int v5, .int v10, .int v12, .int (-1 : Int32)] [] rfl ca_X11_372 shC_26 rfl hq19 rfl (fun hs _ hx => mS_send hs _ _ _ _  _ _ hx) ⟨rfl, rfl, rfl, rfl⟩ rfl rfl dX11_askByChance_54 (fun r17 M20 => ?_)
    refine ok_pop hE rfl dX11_askByChance_57 ?_
    exact ok_return hE dX11_askByChance_58
theorem mC_askByChance {l : Launch} {Y : Sys} {t : Nat} (hY : SysOk Y t shC)   (M : Mm) (r : Mm) (h : C_askByChance  M = some r) : Cm l Y t yX11_askByChance (WS yX11_askByChance cX11_askByChance 4 none) rmC_askByChance [.ref (Y.ad 0)] M (enV r) := by
  refine cm_of (own := RX11) hY rfl rfl (Nat.le_of_ble_eq_true rfl) (fun E hE e1 e2 e3 e4 => ?_)
  subst e1
  exact tC_askByChance E hE   M r h e4.symm
def C_chance (p1 : Int32) (M : Mm) : Option (Int32 × Mm) :=
 lett (gR M 0 0) fun y1 =>
 nn y1 fun c2 => grd (shC c2 = shCX2) (lett (fun (_ : Unit) =>
 bnd (C_refuse (2 : Int32) M) fun r4 =>
 some (r4.1, r4.2)) fun j38 =>
 if (gI M c2 11) = 0 then
 (j38 ())
 else
 (bnd (C_isWithin p1 (1 : Int32) (40 : Int32) M) fun r5 =>
 if r5 = 0 then
 (j38 ())
 else
 (if ((gI M 26 10) + ((7 : Int32) * p1)) ≤ (9999 : Int32) then
 (bnd (C_keepPast M) fun M6 =>
 lett (0 : Int32) fun v7 =>
 loopR (fun (rec50 : (Int32 × Mm) → Option (Int32 × Mm)) (x8 : Int32 × Mm) =>
 if p1 ≤ x8.1 then
 (some ((gI x8.2 26 10), x8.2))
 else
 (bnd (C_askByChance x8.2) fun M9 =>
 bnd (C_draw (8 : Int32) M9) fun r10 =>
 plnS r10.2 26 fun q12 =>
 bnd (S_run r10.1 (sbM (emS 26 q12) r10.2)) fun x11 =>
 lett (inM (dmS 26 q12) kpS r10.2 x11) fun M14 =>
 lett (x8.1 + (1 : Int32)) fun v15 =>
 rec50 (v15, M14))) 1000000 (v7, M6))
 else
 (j38 ()))))
abbrev rmC_chance : Room := { frames := 6, cells := 0, slots := 0, locals := 162 }
set_option maxHeartbeats 4000000 in
set_option maxRecDepth 100000 in
theorem tC_chance (E : Cx) (hE : CxOk E cX11_chance RX11 shC (some .int) rmC_chance 3) (p1 : Int32)  (M : Mm) : Ok E 0 [(0, .ref (E.Y.ad 0)), (1, .int p1)] [] M (C_chance p1 M) (KI E) := by
  unfold C_chance
  refine ok_aload_n hE 0 rfl dX11_chance_0 ?_
  refine ok_getRL hE fl_X11_10 shC_0 rfl dX11_chance_1 (fun y1 => ?_)
  rcases y1 with _ | c2
  · exact fun r hr => by cases hr
  dsimp only [nn]
  refine ok_grd (fun hc3 => ?_)
  refine ok_getI hE fl_X11_125 hc3 rfl dX11_chance_4 ?_
  refine ok_fun (fun j => ∀ (_ : Unit), Ok E 38 [(0, .ref (E.Y.ad 0))] [] M (j ()) (KI E)) (fun _ => ?_) (fun j38 hj38 => ?_)
  · refine ok_aload_n hE 0 rfl dX11_chance_38 ?_
    refine ok_iconst hE (2 : Int32) ki_2 dX11_chance_39 ?_
    refine ok_cvI hE rmC_refuse [.int (2 : Int32)] [] rfl ca_X11_92 shC_0 rfl (fun _ hx => mC_refuse hE.sys _  _ _ hx) ⟨rfl, rfl, rfl, rfl⟩ rfl rfl dX11_chance_40 (fun r4 => ?_)
    exact ok_ireturn hE dX11_chance_43
  refine ok_if_eq hE 38 rfl dX11_chance_7 ?_ ?_
  · exact ok_sub [0] rfl (hj38 ())
  · refine ok_iload_n hE 1 rfl dX11_chance_10 ?_
    refine ok_iconst hE (1 : Int32) ki_1 dX11_chance_11 ?_
    refine ok_bipush hE (40 : Int32) kb_40 dX11_chance_12 ?_
    refine ok_csIp hE rmC_isWithin [.int p1, .int (1 : Int32), .int (40 : Int32)] [] rfl ca_X11_306 (fun _ hx => mC_isWithin hE.sys _ _ _  _ _ hx) ⟨rfl, rfl, rfl, rfl⟩ rfl rfl dX11_chance_14 (fun r5 => ?_)
    refine ok_if_eq hE 38 rfl dX11_chance_17 ?_ ?_
    · exact ok_sub [0] rfl (hj38 ())
    · refine ok_aload_n hE 0 rfl dX11_chance_20 ?_
      refine ok_getA hE fl_X11_40 shC_0 rfl dX11_chance_21 ?_
      refine ok_getI hE fl_X11_126 shC_26 rfl dX11_chance_24 ?_
      refine ok_bipush hE (7 : Int32) kb_7 dX11_chance_27 ?_
      refine ok_iload_n hE 1 rfl dX11_chance_29 ?_
      refine ok_imul hE dX11_chance_30 ?_
      refine ok_iadd hE dX11_chance_31 ?_
      refine ok_sipush hE (9999 : Int32) ks_9999 dX11_chance_32 ?_
      refine ok_icmp_le hE 44 rfl dX11_chance_35 ?_ ?_
      · refine ok_aload_n hE 0 rfl dX11_chance_44 ?_
        refine ok_cvV hE rmC_keepPast [] [] rfl ca_X11_366 shC_0 rfl (fun _ hx => mC_keepPast hE.sys   _ _ hx) ⟨rfl, rfl, rfl, rfl⟩ rfl rfl dX11_chance_45 (fun M6 => ?_)
        refine ok_iconst hE (0 : Int32) ki_0 dX11_chance_48 ?_
        refine ok_istore_n hE (fun v7 => [(2, .int v7), (0, .ref (E.Y.ad 0)), (1, .int p1)]) (fun _ => rfl) rfl dX11_chance_49 (fun v7 => ?_)
        refine ok_sub [1, 2, 0] rfl (ok_loop (σ := Int32 × Mm) 50 (fun x8 => [(0, .ref (E.Y.ad 0)), (1, .int p1), (2, .int x8.1)]) (fun x8 => x8.2) (fun rec50 hrec50 x8 => ?_) 1000000 (v7, M6))
        refine ok_iload_n hE 2 rfl dX11_chance_50 ?_
        refine ok_iload_n hE 1 rfl dX11_chance_51 ?_
        refine ok_icmp_ge hE 78 rfl dX11_chance_52 ?_ ?_
        · refine ok_aload_n hE 0 rfl dX11_chance_78 ?_
          refine ok_getA hE fl_X11_40 shC_0 rfl dX11_chance_79 ?_
          refine ok_getI hE fl_X11_126 shC_26 rfl dX11_chance_82 ?_
          exact ok_ireturn hE dX11_chance_85
        · refine ok_aload_n hE 0 rfl dX11_chance_55 ?_
          refine ok_cvV hE rmC_askByChance [] [] rfl ca_X11_376 shC_0 rfl (fun _ hx => mC_askByChance hE.sys   _ _ hx) ⟨rfl, rfl, rfl, rfl⟩ rfl rfl dX11_chance_56 (fun M9 => ?_)
          refine ok_aload_n hE 0 rfl dX11_chance_59 ?_
          refine ok_getA hE fl_X11_40 shC_0 rfl dX11_chance_60 ?_
          refine ok_aload_n hE 0 rfl dX11_chance_63 ?_
          refine ok_bipush hE (8 : Int32) kb_8 dX11_chance_64 ?_
          refine ok_cvI hE rmC_draw [.int (8 : Int32)] [.ref (E.Y.ad 26)] rfl ca_X11_379 shC_0 rfl (fun _ hx => mC_draw hE.sys _  _ _ hx) ⟨rfl, rfl, rfl, rfl⟩ rfl rfl dX11_chance_66 (fun r10 => ?_)
          refine ok_plnS hE (fun q12 hq13 => ?_)
          refine ok_xV hE rmS_run [.int r10.1] [] rfl ca_X11_321 shC_26 rfl hq13 rfl (fun hs _ hx => mS_run hs _  _ _ hx) ⟨rfl, rfl, rfl, rfl⟩ rfl rfl dX11_chance_69 (fun x11 M14 => ?_)
          refine ok_iinc hE 2 (x8.1 + (1 : Int32)) (by rw [ko_1]) (fun v15 => [(2, .int v15), (0, .ref (E.Y.ad 0)), (1, .int p1)]) rfl (fun _ => rfl) rfl dX11_chance_72 (fun v15 => ?_)
          refine ok_goto hE 50 rfl dX11_chance_75 ?_
          exact ok_sub [1, 2, 0] rfl (hrec50 (v15, M14))
      · exact ok_sub [0] rfl (hj38 ())
theorem mC_chance {l : Launch} {Y : Sys} {t : Nat} (hY : SysOk Y t shC) (p1 : Int32)  (M : Mm) (r : (Int32 × Mm)) (h : C_chance p1 M = some r) : Cm l Y t yX11_chance (WS yX11_chance cX11_chance 3 (some .int)) rmC_chance [.ref (Y.ad 0), .int p1] M (enI r) := by
  refine cm_of (own := RX11) hY rfl rfl (Nat.le_of_ble_eq_true rfl) (fun E hE e1 e2 e3 e4 => ?_)
  subst e1
  exact tC_chance E hE p1  M r h e4.symm
def C_restorePast  (M : Mm) : Option Mm :=
 ald (gI M 0 7) 20 (bnd (C_copyAll 26 (74 + 20 * ix (gI M 0 7)) M) fun M2 =>
 lett (sI M2 0 7 ((((gI M2 0 7) + (20 : Int32)) - (1 : Int32)) - (((gI M2 0 7) + (20 : Int32)) - (1 : Int32)) / (20 : Int32) * (20 : Int32))) fun M3 =>
 lett (sI M3 0 8 ((gI M3 0 8) - (1 : Int32))) fun M4 =>
 some M4)
abbrev rmC_restorePast : Room := { frames := 4, cells := 0, slots := 0, locals := 113 }
set_option maxHeartbeats 4000000 in
set_option maxRecDepth 100000 in
theorem tC_restorePast (E : Cx) (hE : CxOk E cX11_restorePast RX11 shC none rmC_restorePast 1)   (M : Mm) : Ok E 0 [(0, .ref (E.Y.ad 0))] [] M (C_restorePast  M) (KV E) := by
  unfold C_restorePast
  refine ok_aload_n hE 0 rfl dX11_restorePast_0 ?_
  refine ok_getA hE fl_X11_40 shC_0 rfl dX11_restorePast_1 ?_
  refine ok_aload_n hE 0 rfl dX11_restorePast_4 ?_
  refine ok_getA hE fl_X11_47 shC_0 rfl dX11_restorePast_5 ?_
  refine ok_aload_n hE 0 rfl dX11_restorePast_8 ?_
  refine ok_getI hE fl_X11_51 shC_0 rfl dX11_restorePast_9 ?_
  refine ok_aaloadH hE shC_66 rfl dX11_restorePast_12 (fun hi1 => ?_)
  refine ok_cvV hE rmC_copyAll [.ref (E.Y.ad (74 + 20 * ix (gI M 0 7)))] [] rfl ca_X11_400 shC_26 rfl (fun _ hx => mC_copyAll hE.sys _ _ shC_26 (shC_e_66 hi1) _ _ hx) ⟨rfl, rfl, rfl, rfl⟩ rfl rfl dX11_restorePast_13 (fun M2 => ?_)
  refine ok_aload_n hE 0 rfl dX11_restorePast_16 ?_
  refine ok_aload_n hE 0 rfl dX11_restorePast_17 ?_
  refine ok_getI hE fl_X11_51 shC_0 rfl dX11_restorePast_18 ?_
  refine ok_bipush hE (20 : Int32) kb_20 dX11_restorePast_21 ?_
  refine ok_iadd hE dX11_restorePast_23 ?_
  refine ok_iconst hE (1 : Int32) ki_1 dX11_restorePast_24 ?_
  refine ok_isub hE dX11_restorePast_25 ?_
  refine ok_bipush hE (20 : Int32) kb_20 dX11_restorePast_26 ?_
  refine ok_iremC hE (by decide) dX11_restorePast_28 ?_
  refine ok_putI hE fl_X11_51 shC_0 rfl dX11_restorePast_29 (fun M3 => ?_)
  refine ok_aload_n hE 0 rfl dX11_restorePast_32 ?_
  refine ok_dup hE rfl dX11_restorePast_33 ?_
  refine ok_getI hE fl_X11_55 shC_0 rfl dX11_restorePast_34 ?_
  refine ok_iconst hE (1 : Int32) ki_1 dX11_restorePast_37 ?_
  refine ok_isub hE dX11_restorePast_38 ?_
  refine ok_putI hE fl_X11_55 shC_0 rfl dX11_restorePast_39 (fun M4 => ?_)
  exact ok_return hE dX11_restorePast_42
theorem mC_restorePast {l : Launch} {Y : Sys} {t : Nat} (hY : SysOk Y t shC)   (M : Mm) (r : Mm) (h : C_restorePast  M = some r) : Cm l Y t yX11_restorePast (WS yX11_restorePast cX11_restorePast 1 none) rmC_restorePast [.ref (Y.ad 0)] M (enV r) := by
  refine cm_of (own := RX11) hY rfl rfl (Nat.le_of_ble_eq_true rfl) (fun E hE e1 e2 e3 e4 => ?_)
  subst e1
  exact tC_restorePast E hE   M r h e4.symm
def C_undo  (M : Mm) : Option (Int32 × Mm) :=
 if (gI M 0 8) = 0 then
 (bnd (C_refuse (4 : Int32) M) fun r2 =>
 some ((0 : Int32), r2.2))
 else
 (bnd (C_restorePast M) fun M1 =>
 some ((1 : Int32), M1))
abbrev rmC_undo : Room := { frames := 5, cells := 0, slots := 0, locals := 133 }
set_option maxHeartbeats 4000000 in
set_option maxRecDepth 100000 in
theorem tC_undo (E : Cx) (hE : CxOk E cX11_undo RX11 shC (some .boolean) rmC_undo 1)   (M : Mm) : Ok E 0 [(0, .ref (E.Y.ad 0))] [] M (C_undo  M) (KI E) := by
  unfold C_undo
  refine ok_aload_n hE 0 rfl dX11_undo_0 ?_
  refine ok_getI hE fl_X11_55 shC_0 rfl dX11_undo_1 ?_
  refine ok_if_ne hE 15 rfl dX11_undo_4 ?_ ?_
  · refine ok_aload_n hE 0 rfl dX11_undo_15 ?_
    refine ok_cvV hE rmC_restorePast [] [] rfl ca_X11_382 shC_0 rfl (fun _ hx => mC_restorePast hE.sys   _ _ hx) ⟨rfl, rfl, rfl, rfl⟩ rfl rfl dX11_undo_16 (fun M1 => ?_)
    refine ok_iconst hE (1 : Int32) ki_1 dX11_undo_19 ?_
    exact ok_zreturn hE (Or.inr rfl) dX11_undo_20
  · refine ok_aload_n hE 0 rfl dX11_undo_7 ?_
    refine ok_iconst hE (4 : Int32) ki_4 dX11_undo_8 ?_
    refine ok_cvI hE rmC_refuse [.int (4 : Int32)] [] rfl ca_X11_92 shC_0 rfl (fun _ hx => mC_refuse hE.sys _  _ _ hx) ⟨rfl, rfl, rfl, rfl⟩ rfl rfl dX11_undo_9 (fun r2 => ?_)
    refine ok_pop hE rfl dX11_undo_12 ?_
    refine ok_iconst hE (0 : Int32) ki_0 dX11_undo_13 ?_
    exact ok_zreturn hE (Or.inl rfl) dX11_undo_14
theorem mC_undo {l : Launch} {Y : Sys} {t : Nat} (hY : SysOk Y t shC)   (M : Mm) (r : (Int32 × Mm)) (h : C_undo  M = some r) : Cm l Y t yX11_undo (WS yX11_undo cX11_undo 1 (some .boolean)) rmC_undo [.ref (Y.ad 0)] M (enI r) := by
  refine cm_of (own := RX11) hY rfl rfl (Nat.le_of_ble_eq_true rfl) (fun E hE e1 e2 e3 e4 => ?_)
  subst e1
  exact tC_undo E hE   M r h e4.symm
def C_seed (p1 : Int32) (M : Mm) : Option (Int32 × Mm) :=
 if 0 ≤ p1 then
 (lett (sL M 0 15 p1.toInt64) fun M1 =>
 some ((1 : Int32), M1))
 else
 (bnd (C_refuse (5 : Int32) M) fun r2 =>
 some ((0 : Int32), r2.2))
abbrev rmC_seed : Room := { frames := 1, cells := 0, slots := 0, locals := 21 }
set_option maxHeartbeats 4000000 in
set_option maxRecDepth 100000 in
theorem tC_seed (E : Cx) (hE : CxOk E cX11_seed RX11 shC (some .boolean) rmC_seed 2) (p1 : Int32)  (M : Mm) : Ok E 0 [(0, .ref (E.Y.ad 0)), (1, .int p1)] [] M (C_seed p1 M) (KI E) := by
  unfold C_seed
  refine ok_iload_n hE 1 rfl dX11_seed_0 ?_
  refine ok_if_ge hE 12 rfl dX11_seed_1 ?_ ?_
  · refine ok_aload_n hE 0 rfl dX11_seed_12 ?_
    refine ok_iload_n hE 1 rfl dX11_seed_13 ?_
    refine ok_i2l hE dX11_seed_14 ?_
    refine ok_putL hE fl_X11_85 shC_0 rfl dX11_seed_15 (fun M1 => ?_)
    refine ok_iconst hE (1 : Int32) ki_1 dX11_seed_18 ?_
    exact ok_zreturn hE (Or.inr rfl) dX11_seed_19
  · refine ok_aload_n hE 0 rfl dX11_seed_4 ?_
    refine ok_iconst hE (5 : Int32) ki_5 dX11_seed_5 ?_
    refine ok_cvI hE rmC_refuse [.int (5 : Int32)] [] rfl ca_X11_92 shC_0 rfl (fun _ hx => mC_refuse hE.sys _  _ _ hx) ⟨rfl, rfl, rfl, rfl⟩ rfl rfl dX11_seed_6 (fun r2 => ?_)
    refine ok_pop hE rfl dX11_seed_9 ?_
    refine ok_iconst hE (0 : Int32) ki_0 dX11_seed_10 ?_
    exact ok_zreturn hE (Or.inl rfl) dX11_seed_11
theorem mC_seed {l : Launch} {Y : Sys} {t : Nat} (hY : SysOk Y t shC) (p1 : Int32)  (M : Mm) (r : (Int32 × Mm)) (h : C_seed p1 M = some r) : Cm l Y t yX11_seed (WS yX11_seed cX11_seed 2 (some .boolean)) rmC_seed [.ref (Y.ad 0), .int p1] M (enI r) := by
  refine cm_of (own := RX11) hY rfl rfl (Nat.le_of_ble_eq_true rfl) (fun E hE e1 e2 e3 e4 => ?_)
  subst e1
  exact tC_seed E hE p1  M r h e4.symm
def C_image  (M : Mm) : Option (Int32 × Mm) :=
 lett (gR M 0 0) fun y1 =>
 nn y1 fun c2 => grd (shC c2 = shCX2) (bnd (C_IWrite (gI M c2 11) M) fun M4 =>
 some ((gI M4 70 1), M4))
abbrev rmC_image : Room := { frames := 1, cells := 0, slots := 0, locals := 24 }
set_option maxHeartbeats 4000000 in
set_option maxRecDepth 100000 in
theorem tC_image (E : Cx) (hE : CxOk E cX11_image RX11 shC (some .int) rmC_image 1)   (M : Mm) : Ok E 0 [(0, .ref (E.Y.ad 0))] [] M (C_image  M) (KI E) := by
  unfold C_image
  refine ok_aload_n hE 0 rfl dX11_image_0 ?_
  refine ok_getA hE fl_X11_68 shC_0 rfl dX11_image_1 ?_
  refine ok_aload_n hE 0 rfl dX11_image_4 ?_
  refine ok_getA hE fl_X11_40 shC_0 rfl dX11_image_5 ?_
  refine ok_aload_n hE 0 rfl dX11_image_8 ?_
  refine ok_getRL hE fl_X11_10 shC_0 rfl dX11_image_9 (fun y1 => ?_)
  rcases y1 with _ | c2
  · exact fun r hr => by cases hr
  dsimp only [nn]
  refine ok_grd (fun hc3 => ?_)
  refine ok_getI hE fl_X11_125 hc3 rfl dX11_image_12 ?_
  refine ok_cvV hE rmC_IWrite [.ref (E.Y.ad 26), .int (gI M c2 11)] [] rfl ca_X11_385 shC_70 rfl (fun _ hx => mC_IWrite hE.sys _  _ _ hx) ⟨rfl, rfl, rfl, rfl⟩ rfl rfl dX11_image_15 (fun M4 => ?_)
  refine ok_aload_n hE 0 rfl dX11_image_18 ?_
  refine ok_getA hE fl_X11_68 shC_0 rfl dX11_image_19 ?_
  refine ok_getI hE fl_X11_389 shC_70 rfl dX11_image_22 ?_
  exact ok_ireturn hE dX11_image_25
theorem mC_image {l : Launch} {Y : Sys} {t : Nat} (hY : SysOk Y t shC)   (M : Mm) (r : (Int32 × Mm)) (h : C_image  M = some r) : Cm l Y t yX11_image (WS yX11_image cX11_image 1 (some .int)) rmC_image [.ref (Y.ad 0)] M (enI r) := by
  refine cm_of (own := RX11) hY rfl rfl (Nat.le_of_ble_eq_true rfl) (fun E hE e1 e2 e3 e4 => ?_)
  subst e1
  exact tC_image E hE   M r h e4.symm
def C_octet (p1 : Int32) (M : Mm) : Option Int32 :=
 lett (fun (_ : Unit) =>
 some (-1 : Int32)) fun j15 =>
 if p1 < 0 then
 (j15 ())
 else
 (if p1 < (gI M 70 1) then
 (ald p1 15 (some (gI M 71 (ix p1))))
 else
 (j15 ()))
abbrev rmC_octet : Room := { frames := 0, cells := 0, slots := 0, locals := 0 }
set_option maxHeartbeats 4000000 in
set_option maxRecDepth 100000 in
theorem tC_octet (E : Cx) (hE : CxOk E cX11_octet RX11 shC (some .int) rmC_octet 2) (p1 : Int32)  (M : Mm) : Ok E 0 [(0, .ref (E.Y.ad 0)), (1, .int p1)] [] M (C_octet p1 M) (KIp E M) := by
  unfold C_octet
  refine ok_iload_n hE 1 rfl dX11_octet_0 ?_
  refine ok_fun (fun j => ∀ (_ : Unit), Ok E 15 [] [] M (j ()) (KIp E M)) (fun _ => ?_) (fun j15 hj15 => ?_)
  · refine ok_iconst hE (-1 : Int32) ki_m1 dX11_octet_15 ?_
    refine ok_goto hE 28 rfl dX11_octet_16 ?_
    exact ok_ireturnP hE dX11_octet_28
  refine ok_if_lt hE 15 rfl dX11_octet_1 ?_ ?_
  · exact ok_sub [] rfl (hj15 ())
  · refine ok_iload_n hE 1 rfl dX11_octet_4 ?_
    refine ok_aload_n hE 0 rfl dX11_octet_5 ?_
    refine ok_getA hE fl_X11_68 shC_0 rfl dX11_octet_6 ?_
    refine ok_getI hE fl_X11_389 shC_70 rfl dX11_octet_9 ?_
    refine ok_icmp_lt hE 19 rfl dX11_octet_12 ?_ ?_
    · refine ok_aload_n hE 0 rfl dX11_octet_19 ?_
      refine ok_getA hE fl_X11_68 shC_0 rfl dX11_octet_20 ?_
      refine ok_getC hE fl_X11_390 shC_70 rfl dX11_octet_23 ?_
      refine ok_iload_n hE 1 rfl dX11_octet_26 ?_
      refine ok_iaload hE shC_71 dX11_octet_27 ?_
      exact ok_ireturnP hE dX11_octet_28
    · exact ok_sub [] rfl (hj15 ())
theorem mC_octet {l : Launch} {Y : Sys} {t : Nat} (hY : SysOk Y t shC) (p1 : Int32)  (M : Mm) (r : Int32) (h : C_octet p1 M = some r) : Cm l Y t yX11_octet (WS yX11_octet cX11_octet 2 (some .int)) rmC_octet [.ref (Y.ad 0), .int p1] M ((some (.int r), M)) := by
  refine cm_of (own := RX11) hY rfl rfl (Nat.le_of_ble_eq_true rfl) (fun E hE e1 e2 e3 e4 => ?_)
  subst e1
  exact tC_octet E hE p1  M r h e4.symm
def C_take  (M : Mm) : Option (Int32 × Mm) :=
 bnd (C_hasDisk M) fun r1 =>
 lett (fun (w_1 : Int32) =>
 lett w_1 fun v3 =>
 lett (fun (M_3 : Mm) =>
 lett (sI M_3 19 1 (0 : Int32)) fun M5 =>
 grd (v3 = 0 ∨ v3 = 1) (some (v3, M5))) fun j77 =>
 if v3 = 0 then
 (bnd (C_refuse (5 : Int32) M) fun r6 =>
 j77 r6.2)
 else
 (lett (gR M 0 0) fun y7 =>
 nn y7 fun c8 => grd (shC c8 = shCX2) (bnd (C_begin c8 M) fun M10 =>
 lett (gR M10 0 0) fun y11 =>
 nn y11 fun c12 => grd (shC c12 = shCX2) (bnd (C_IApply (gI M10 c12 11) M10) fun M14 =>
 lett (sI M14 0 8 (0 : Int32)) fun M15 =>
 j77 M15)))) fun j29 =>
 lett (fun (_ : Unit) =>
 j29 (0 : Int32)) fun j28 =>
 if r1 = 0 then
 (j28 ())
 else
 (lett (gR M 0 0) fun y16 =>
 nn y16 fun c17 => grd (shC c17 = shCX2) (bnd (C_IIsOne (gI M c17 11) M) fun r19 =>
 if r19 = 0 then
 (j28 ())
 else
 (j29 (1 : Int32))))
abbrev rmC_take : Room := { frames := 3, cells := 0, slots := 0, locals := 67 }
set_option maxHeartbeats 4000000 in
set_option maxRecDepth 100000 in
theorem tC_take (E : Cx) (hE : CxOk E cX11_take RX11 shC (some .boolean) rmC_take 2)   (M : Mm) : Ok E 0 [(0, .ref (E.Y.ad 0))] [] M (C_take  M) (KI E) := by
  unfold C_take
  refine ok_aload_n hE 0 rfl dX11_take_0 ?_
  refine ok_cvIp hE rmC_hasDisk [] [] rfl ca_X11_269 shC_0 rfl (fun _ hx => mC_hasDisk hE.sys   _ _ hx) ⟨rfl, rfl, rfl, rfl⟩ rfl rfl dX11_take_1 (fun r1 => ?_)
  refine ok_fun (fun j => ∀ (w_1 : Int32), Ok E 29 [(0, .ref (E.Y.ad 0))] [.int w_1] M (j w_1) (KI E)) (fun w_1 => ?_) (fun j29 hj29 => ?_)
  · refine ok_istore_n hE (fun v3 => [(1, .int v3), (0, .ref (E.Y.ad 0))]) (fun _ => rfl) rfl dX11_take_29 (fun v3 => ?_)
    refine ok_iload_n hE 0 rfl dX11_take_30 ?_
    refine ok_fun (fun j => ∀ (M_3 : Mm), Ok E 77 [(0, .ref (E.Y.ad 0)), (1, .int v3)] [] M_3 (j M_3) (KI E)) (fun M_3 => ?_) (fun j77 hj77 => ?_)
    · refine ok_aload_n hE 0 rfl dX11_take_77 ?_
      refine ok_getA hE fl_X11_22 shC_0 rfl dX11_take_78 ?_
      refine ok_iconst hE (0 : Int32) ki_0 dX11_take_81 ?_
      refine ok_putI hE fl_X11_89 shC_19 rfl dX11_take_82 (fun M5 => ?_)
      refine ok_iload_n hE 1 rfl dX11_take_85 ?_
      exact ok_zreturnG hE dX11_take_86
    refine ok_if_eq hE 71 rfl dX11_take_31 ?_ ?_
    · refine ok_aload_n hE 1 rfl dX11_take_71 ?_
      refine ok_iconst hE (5 : Int32) ki_5 dX11_take_72 ?_
      refine ok_cvI hE rmC_refuse [.int (5 : Int32)] [] rfl ca_X11_92 shC_0 rfl (fun _ hx => mC_refuse hE.sys _  _ _ hx) ⟨rfl, rfl, rfl, rfl⟩ rfl rfl dX11_take_73 (fun r6 => ?_)
      refine ok_pop hE rfl dX11_take_76 ?_
      exact ok_sub [1, 0] rfl (hj77 r6.2)
    · refine ok_aload_n hE 1 rfl dX11_take_34 ?_
      refine ok_getA hE fl_X11_40 shC_0 rfl dX11_take_35 ?_
      refine ok_aload_n hE 1 rfl dX11_take_38 ?_
      refine ok_getRL hE fl_X11_10 shC_0 rfl dX11_take_39 (fun y7 => ?_)
      rcases y7 with _ | c8
      · exact fun r hr => by cases hr
      dsimp only [nn]
      refine ok_grd (fun hc9 => ?_)
      refine ok_cvV hE rmC_begin [.ref (E.Y.ad c8)] [] rfl ca_X11_113 shC_26 rfl (fun _ hx => mC_begin hE.sys _ hc9 _ _ hx) ⟨rfl, rfl, rfl, rfl⟩ rfl rfl dX11_take_42 (fun M10 => ?_)
      refine ok_aload_n hE 1 rfl dX11_take_45 ?_
      refine ok_getA hE fl_X11_22 shC_0 rfl dX11_take_46 ?_
      refine ok_aload_n hE 1 rfl dX11_take_49 ?_
      refine ok_getA hE fl_X11_40 shC_0 rfl dX11_take_50 ?_
      refine ok_aload_n hE 1 rfl dX11_take_53 ?_
      refine ok_getRL hE fl_X11_10 shC_0 rfl dX11_take_54 (fun y11 => ?_)
      rcases y11 with _ | c12
      · exact fun r hr => by cases hr
      dsimp only [nn]
      refine ok_grd (fun hc13 => ?_)
      refine ok_getI hE fl_X11_125 hc13 rfl dX11_take_57 ?_
      refine ok_csV hE rmC_IApply [.ref (E.Y.ad 19), .ref (E.Y.ad 26), .int (gI M10 c12 11)] [] rfl ca_X11_396 (fun _ hx => mC_IApply hE.sys _  _ _ hx) ⟨rfl, rfl, rfl, rfl⟩ rfl rfl dX11_take_60 (fun M14 => ?_)
      refine ok_aload_n hE 1 rfl dX11_take_63 ?_
      refine ok_iconst hE (0 : Int32) ki_0 dX11_take_64 ?_
      refine ok_putI hE fl_X11_55 shC_0 rfl dX11_take_65 (fun M15 => ?_)
      refine ok_goto hE 77 rfl dX11_take_68 ?_
      exact ok_sub [1, 0] rfl (hj77 M15)
  refine ok_fun (fun j => ∀ (_ : Unit), Ok E 28 [(0, .ref (E.Y.ad 0))] [] M (j ()) (KI E)) (fun _ => ?_) (fun j28 hj28 => ?_)
  · refine ok_iconst hE (0 : Int32) ki_0 dX11_take_28 ?_
    exact ok_sub [0] rfl (hj29 (0 : Int32))
  refine ok_if_eq hE 28 rfl dX11_take_4 ?_ ?_
  · exact ok_sub [0] rfl (hj28 ())
  · refine ok_aload_n hE 0 rfl dX11_take_7 ?_
    refine ok_getA hE fl_X11_22 shC_0 rfl dX11_take_8 ?_
    refine ok_aload_n hE 0 rfl dX11_take_11 ?_
    refine ok_getRL hE fl_X11_10 shC_0 rfl dX11_take_12 (fun y16 => ?_)
    rcases y16 with _ | c17
    · exact fun r hr => by cases hr
    dsimp only [nn]
    refine ok_grd (fun hc18 => ?_)
    refine ok_getI hE fl_X11_125 hc18 rfl dX11_take_15 ?_
    refine ok_csIp hE rmC_IIsOne [.ref (E.Y.ad 19), .int (gI M c17 11)] [] rfl ca_X11_393 (fun _ hx => mC_IIsOne hE.sys _  _ _ hx) ⟨rfl, rfl, rfl, rfl⟩ rfl rfl dX11_take_18 (fun r19 => ?_)
    refine ok_if_eq hE 28 rfl dX11_take_21 ?_ ?_
    · exact ok_sub [0] rfl (hj28 ())
    · refine ok_iconst hE (1 : Int32) ki_1 dX11_take_24 ?_
      refine ok_goto hE 29 rfl dX11_take_25 ?_
      exact ok_sub [0] rfl (hj29 (1 : Int32))
theorem mC_take {l : Launch} {Y : Sys} {t : Nat} (hY : SysOk Y t shC)   (M : Mm) (r : (Int32 × Mm)) (h : C_take  M = some r) : Cm l Y t yX11_take (WS yX11_take cX11_take 2 (some .boolean)) rmC_take [.ref (Y.ad 0)] M (enI r) := by
  refine cm_of (own := RX11) hY rfl rfl (Nat.le_of_ble_eq_true rfl) (fun E hE e1 e2 e3 e4 => ?_)
  subst e1
  exact tC_take E hE   M r h e4.symm
def C_status (p1 : Int32) (M : Mm) : Option Int32 :=
 bnd (C_isWithin p1 (0 : Int32) (5 : Int32) M) fun r1 =>
 if r1 = 0 then
 (some (-1 : Int32))
 else
 (ald p1 6 (some (gI M 72 (ix p1))))
abbrev rmC_status : Room := { frames := 1, cells := 0, slots := 0, locals := 22 }
set_option maxHeartbeats 4000000 in
set_option maxRecDepth 100000 in
theorem tC_status (E : Cx) (hE : CxOk E cX11_status RX11 shC (some .int) rmC_status 2) (p1 : Int32)  (M : Mm) : Ok E 0 [(0, .ref (E.Y.ad 0)), (1, .int p1)] [] M (C_status p1 M) (KIp E M) := by
  unfold C_status
  refine ok_iload_n hE 1 rfl dX11_status_0 ?_
  refine ok_iconst hE (0 : Int32) ki_0 dX11_status_1 ?_
  refine ok_iconst hE (5 : Int32) ki_5 dX11_status_2 ?_
  refine ok_csIp hE rmC_isWithin [.int p1, .int (0 : Int32), .int (5 : Int32)] [] rfl ca_X11_306 (fun _ hx => mC_isWithin hE.sys _ _ _  _ _ hx) ⟨rfl, rfl, rfl, rfl⟩ rfl rfl dX11_status_3 (fun r1 => ?_)
  refine ok_if_eq hE 18 rfl dX11_status_6 ?_ ?_
  · refine ok_iconst hE (-1 : Int32) ki_m1 dX11_status_18 ?_
    exact ok_ireturnP hE dX11_status_19
  · refine ok_aload_n hE 0 rfl dX11_status_9 ?_
    refine ok_getA hE fl_X11_72 shC_0 rfl dX11_status_10 ?_
    refine ok_iload_n hE 1 rfl dX11_status_13 ?_
    refine ok_iaload hE shC_72 dX11_status_14 ?_
    refine ok_goto hE 19 rfl dX11_status_15 ?_
    exact ok_ireturnP hE dX11_status_19
theorem mC_status {l : Launch} {Y : Sys} {t : Nat} (hY : SysOk Y t shC) (p1 : Int32)  (M : Mm) (r : Int32) (h : C_status p1 M = some r) : Cm l Y t yX11_status (WS yX11_status cX11_status 2 (some .int)) rmC_status [.ref (Y.ad 0), .int p1] M ((some (.int r), M)) := by
  refine cm_of (own := RX11) hY rfl rfl (Nat.le_of_ble_eq_true rfl) (fun E hE e1 e2 e3 e4 => ?_)
  subst e1
  exact tC_status E hE p1  M r h e4.symm
