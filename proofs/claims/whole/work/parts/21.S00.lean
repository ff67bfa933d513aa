abbrev shSX8 : Shp := (0, 8, 0, [(5, 20), (4, 1), (4, 2), (4, 3), (4, 5), (4, 6), (0, 0), (0, 0), (1, 0), (1, 0), (0, 0), (0, 0), (0, 0), (0, 0), (0, 0), (0, 0), (0, 0), (0, 0), (0, 0), (0, 0)])
abbrev shSX3 : Shp := (0, 3, 0, [(0, 0), (0, 0), (0, 0), (0, 0), (0, 0), (0, 0), (0, 0), (0, 0), (0, 0), (0, 0), (0, 0), (0, 0), (0, 0), (0, 0)])
abbrev shSX4 : Shp := (0, 4, 0, [(1, 0), (1, 0), (1, 0), (0, 0), (0, 0), (0, 0), (0, 0), (0, 0), (0, 0)])
abbrev shSX6 : Shp := (0, 6, 0, [(4, 1), (0, 0)])
abbrev shSX1 : Shp := (0, 1, 0, [(4, 1), (0, 0)])
abbrev shSX2 : Shp := (0, 2, 0, [(0, 0), (0, 0), (0, 0), (0, 0), (0, 0), (0, 0), (0, 0), (0, 0), (0, 0), (0, 0), (0, 0), (0, 0), (4, 1), (4, 2), (4, 3), (4, 4), (4, 5), (4, 6), (4, 7), (4, 8)])
def shS (a : Nat) : Shp := ([shSX8, (4, 3, 6, [(7, 2)]), (4, 4, 6, [(7, 2)]), shSX6, (1, 0, 324, []), (1, 0, 6, []), shSX1, (1, 0, 160, []), shSX3, shSX4, shSX3, shSX4, shSX3, shSX4, shSX3, shSX4, shSX3, shSX4, shSX3, shSX4, shSX2, (1, 0, 36, []), (1, 2, 6, []), (1, 0, 6, []), (1, 0, 6, []), (1, 0, 6, []), (1, 0, 36, []), (1, 0, 36, []), (1, 0, 36, [])] : List Shp).getD a (99, 0, 0, [])
theorem shS_0 : shS 0 = shSX8 := rfl
theorem shS_1 : shS 1 = (4, 3, 6, [(7, 2)]) := rfl
theorem shS_2 : shS 2 = (4, 4, 6, [(7, 2)]) := rfl
theorem shS_3 : shS 3 = shSX6 := rfl
theorem shS_4 : shS 4 = (1, 0, 324, []) := rfl
theorem shS_5 : shS 5 = (1, 0, 6, []) := rfl
theorem shS_6 : shS 6 = shSX1 := rfl
theorem shS_7 : shS 7 = (1, 0, 160, []) := rfl
theorem shS_8 : shS 8 = shSX3 := rfl
theorem shS_9 : shS 9 = shSX4 := rfl
theorem shS_10 : shS 10 = shSX3 := rfl
theorem shS_11 : shS 11 = shSX4 := rfl
theorem shS_12 : shS 12 = shSX3 := rfl
theorem shS_13 : shS 13 = shSX4 := rfl
theorem shS_14 : shS 14 = shSX3 := rfl
theorem shS_15 : shS 15 = shSX4 := rfl
theorem shS_16 : shS 16 = shSX3 := rfl
theorem shS_17 : shS 17 = shSX4 := rfl
theorem shS_18 : shS 18 = shSX3 := rfl
theorem shS_19 : shS 19 = shSX4 := rfl
theorem shS_20 : shS 20 = shSX2 := rfl
theorem shS_21 : shS 21 = (1, 0, 36, []) := rfl
theorem shS_22 : shS 22 = (1, 2, 6, []) := rfl
theorem shS_23 : shS 23 = (1, 0, 6, []) := rfl
theorem shS_24 : shS 24 = (1, 0, 6, []) := rfl
theorem shS_25 : shS 25 = (1, 0, 6, []) := rfl
theorem shS_26 : shS 26 = (1, 0, 36, []) := rfl
theorem shS_27 : shS 27 = (1, 0, 36, []) := rfl
theorem shS_28 : shS 28 = (1, 0, 36, []) := rfl
theorem shS_e_1 {i : Int32} (h : vp_in i 6) : shS (8 + 2 * ix i) = shSX3 := by
  obtain ⟨j, hj, rfl⟩ := vp_in_of h (by decide)
  rw [show ix (nI j) = j from nI_clamp (by omega)]
  rcases (show j = 0 ∨ j = 1 ∨ j = 2 ∨ j = 3 ∨ j = 4 ∨ j = 5 by omega) with rfl | rfl | rfl | rfl | rfl | rfl <;> rfl
theorem shS_e_2 {i : Int32} (h : vp_in i 6) : shS (9 + 2 * ix i) = shSX4 := by
  obtain ⟨j, hj, rfl⟩ := vp_in_of h (by decide)
  rw [show ix (nI j) = j from nI_clamp (by omega)]
  rcases (show j = 0 ∨ j = 1 ∨ j = 2 ∨ j = 3 ∨ j = 4 ∨ j = 5 by omega) with rfl | rfl | rfl | rfl | rfl | rfl <;> rfl
def S_KTold  (M : Mm) : Option Int32 :=
 some (mminI (gI M 6 1) (40 : Int32))
abbrev rmS_KTold : Room := { frames := 1, cells := 0, slots := 0, locals := 21 }
set_option maxHeartbeats 4000000 in
set_option maxRecDepth 100000 in
theorem tS_KTold (E : Cx) (hE : CxOk E cX1_told RX1 shS (some .int) rmS_KTold 1)   (M : Mm) : Ok E 0 [(0, .ref (E.Y.ad 6))] [] M (S_KTold  M) (KIp E M) := by
  unfold S_KTold
  refine ok_aload_n hE 0 rfl dX1_told_0 ?_
  refine ok_getI hE fl_X1_15 shS_6 rfl dX1_told_1 ?_
  refine ok_bipush hE (40 : Int32) kb_40 dX1_told_4 ?_
  refine ok_mmin hE mt_X1_25 ⟨rfl, rfl⟩ dX1_told_6 ?_
  exact ok_ireturnP hE dX1_told_9
theorem mS_KTold {l : Launch} {Y : Sys} {t : Nat} (hY : SysOk Y t shS)   (M : Mm) (r : Int32) (h : S_KTold  M = some r) : Cm l Y t yX1_told (WS yX1_told cX1_told 1 (some .int)) rmS_KTold [.ref (Y.ad 6)] M ((some (.int r), M)) := by
  refine cm_of (own := RX1) hY rfl rfl (Nat.le_of_ble_eq_true rfl) (fun E hE e1 e2 e3 e4 => ?_)
  subst e1
  exact tS_KTold E hE   M r h e4.symm
def S_KAdd (p1 : Int32) (p2 : Int32) (p3 : Int32) (p4 : Int32) (M : Mm) : Option Mm :=
 lett (((gI M 6 1) - (gI M 6 1) / (40 : Int32) * (40 : Int32)) * (4 : Int32)) fun v1 =>
 ald v1 160 (lett (sI M 7 (ix v1) p1) fun M2 =>
 ald (v1 + (1 : Int32)) 160 (lett (sI M2 7 (ix (v1 + (1 : Int32))) p2) fun M3 =>
 ald (v1 + (2 : Int32)) 160 (lett (sI M3 7 (ix (v1 + (2 : Int32))) p3) fun M4 =>
 ald (v1 + (3 : Int32)) 160 (lett (sI M4 7 (ix (v1 + (3 : Int32))) p4) fun M5 =>
 lett (sI M5 6 1 ((gI M5 6 1) + (1 : Int32))) fun M6 =>
 some M6))))
abbrev rmS_KAdd : Room := { frames := 0, cells := 0, slots := 0, locals := 0 }
set_option maxHeartbeats 4000000 in
set_option maxRecDepth 100000 in
theorem tS_KAdd (E : Cx) (hE : CxOk E cX1_add RX1 shS none rmS_KAdd 6) (p1 : Int32) (p2 : Int32) (p3 : Int32) (p4 : Int32)  (M : Mm) : Ok E 0 [(0, .ref (E.Y.ad 6)), (1, .int p1), (2, .int p2), (3, .int p3), (4, .int p4)] [] M (S_KAdd p1 p2 p3 p4 M) (KV E) := by
  unfold S_KAdd
  refine ok_aload_n hE 0 rfl dX1_add_0 ?_
  refine ok_getI hE fl_X1_15 shS_6 rfl dX1_add_1 ?_
  refine ok_bipush hE (40 : Int32) kb_40 dX1_add_4 ?_
  refine ok_iremC hE (by decide) dX1_add_6 ?_
  refine ok_iconst hE (4 : Int32) ki_4 dX1_add_7 ?_
  refine ok_imul hE dX1_add_8 ?_
  refine ok_istore hE (fun v1 => [(5, .int v1), (0, .ref (E.Y.ad 6)), (1, .int p1), (2, .int p2), (3, .int p3), (4, .int p4)]) (fun _ => rfl) rfl dX1_add_9 (fun v1 => ?_)
  refine ok_aload_n hE 1 rfl dX1_add_11 ?_
  refine ok_getC hE fl_X1_11 shS_6 rfl dX1_add_12 ?_
  refine ok_iload hE 0 rfl dX1_add_15 ?_
  refine ok_iload_n hE 2 rfl dX1_add_17 ?_
  refine ok_iastore hE shS_7 dX1_add_18 (fun M2 => ?_)
  refine ok_aload_n hE 1 rfl dX1_add_19 ?_
  refine ok_getC hE fl_X1_11 shS_6 rfl dX1_add_20 ?_
  refine ok_iload hE 0 rfl dX1_add_23 ?_
  refine ok_iconst hE (1 : Int32) ki_1 dX1_add_25 ?_
  refine ok_iadd hE dX1_add_26 ?_
  refine ok_iload_n hE 3 rfl dX1_add_27 ?_
  refine ok_iastore hE shS_7 dX1_add_28 (fun M3 => ?_)
  refine ok_aload_n hE 1 rfl dX1_add_29 ?_
  refine ok_getC hE fl_X1_11 shS_6 rfl dX1_add_30 ?_
  refine ok_iload hE 0 rfl dX1_add_33 ?_
  refine ok_iconst hE (2 : Int32) ki_2 dX1_add_35 ?_
  refine ok_iadd hE dX1_add_36 ?_
  refine ok_iload_n hE 4 rfl dX1_add_37 ?_
  refine ok_iastore hE shS_7 dX1_add_38 (fun M4 => ?_)
  refine ok_aload_n hE 1 rfl dX1_add_39 ?_
  refine ok_getC hE fl_X1_11 shS_6 rfl dX1_add_40 ?_
  refine ok_iload hE 0 rfl dX1_add_43 ?_
  refine ok_iconst hE (3 : Int32) ki_3 dX1_add_45 ?_
  refine ok_iadd hE dX1_add_46 ?_
  refine ok_iload hE 5 rfl dX1_add_47 ?_
  refine ok_iastore hE shS_7 dX1_add_49 (fun M5 => ?_)
  refine ok_aload_n hE 1 rfl dX1_add_50 ?_
  refine ok_dup hE rfl dX1_add_51 ?_
  refine ok_getI hE fl_X1_15 shS_6 rfl dX1_add_52 ?_
  refine ok_iconst hE (1 : Int32) ki_1 dX1_add_55 ?_
  refine ok_iadd hE dX1_add_56 ?_
  refine ok_putI hE fl_X1_15 shS_6 rfl dX1_add_57 (fun M6 => ?_)
  exact ok_return hE dX1_add_60
theorem mS_KAdd {l : Launch} {Y : Sys} {t : Nat} (hY : SysOk Y t shS) (p1 : Int32) (p2 : Int32) (p3 : Int32) (p4 : Int32)  (M : Mm) (r : Mm) (h : S_KAdd p1 p2 p3 p4 M = some r) : Cm l Y t yX1_add (WS yX1_add cX1_add 6 none) rmS_KAdd [.ref (Y.ad 6), .int p1, .int p2, .int p3, .int p4] M (enV r) := by
  refine cm_of (own := RX1) hY rfl rfl (Nat.le_of_ble_eq_true rfl) (fun E hE e1 e2 e3 e4 => ?_)
  subst e1
  exact tS_KAdd E hE p1 p2 p3 p4  M r h e4.symm
def S_KTell (p1 : Int32) (p2 : Int32) (M : Mm) : Option Int32 :=
 if p2 < 0 then
 (some (-1 : Int32))
 else
 (if p2 < (4 : Int32) then
 (bnd (S_KTold M) fun r1 =>
 lett (((gI M 6 1) - r1) + p1) fun v2 =>
 if 0 ≤ v2 then
 (ald (((v2 - v2 / (40 : Int32) * (40 : Int32)) * (4 : Int32)) + p2) 160 (some (gI M 7 (ix (((v2 - v2 / (40 : Int32) * (40 : Int32)) * (4 : Int32)) + p2)))))
 else
 (some (-1 : Int32)))
 else
 (some (-1 : Int32)))
abbrev rmS_KTell : Room := { frames := 2, cells := 0, slots := 0, locals := 41 }
set_option maxHeartbeats 4000000 in
set_option maxRecDepth 100000 in
theorem tS_KTell (E : Cx) (hE : CxOk E cX1_tell RX1 shS (some .int) rmS_KTell 4) (p1 : Int32) (p2 : Int32)  (M : Mm) : Ok E 0 [(0, .ref (E.Y.ad 6)), (1, .int p1), (2, .int p2)] [] M (S_KTell p1 p2 M) (KIp E M) := by
  unfold S_KTell
  refine ok_iload_n hE 2 rfl dX1_tell_0 ?_
  refine ok_if_lt hE 9 rfl dX1_tell_1 ?_ ?_
  · refine ok_iconst hE (-1 : Int32) ki_m1 dX1_tell_9 ?_
    exact ok_ireturnP hE dX1_tell_10
  · refine ok_iload_n hE 2 rfl dX1_tell_4 ?_
    refine ok_iconst hE (4 : Int32) ki_4 dX1_tell_5 ?_
    refine ok_icmp_lt hE 11 rfl dX1_tell_6 ?_ ?_
    · refine ok_aload_n hE 0 rfl dX1_tell_11 ?_
      refine ok_getI hE fl_X1_15 shS_6 rfl dX1_tell_12 ?_
      refine ok_aload_n hE 0 rfl dX1_tell_15 ?_
      refine ok_cvIp hE rmS_KTold [] [.int (gI M 6 1)] rfl ca_X1_31 shS_6 rfl (fun _ hx => mS_KTold hE.sys   _ _ hx) ⟨rfl, rfl, rfl, rfl⟩ rfl rfl dX1_tell_16 (fun r1 => ?_)
      refine ok_isub hE dX1_tell_19 ?_
      refine ok_iload_n hE 1 rfl dX1_tell_20 ?_
      refine ok_iadd hE dX1_tell_21 ?_
      refine ok_istore_n hE (fun v2 => [(3, .int v2), (0, .ref (E.Y.ad 6)), (1, .int p1), (2, .int p2)]) (fun _ => rfl) rfl dX1_tell_22 (fun v2 => ?_)
      refine ok_iload_n hE 0 rfl dX1_tell_23 ?_
      refine ok_if_ge hE 31 rfl dX1_tell_24 ?_ ?_
      · refine ok_aload_n hE 1 rfl dX1_tell_31 ?_
        refine ok_getC hE fl_X1_11 shS_6 rfl dX1_tell_32 ?_
        refine ok_iload_n hE 0 rfl dX1_tell_35 ?_
        refine ok_bipush hE (40 : Int32) kb_40 dX1_tell_36 ?_
        refine ok_iremC hE (by decide) dX1_tell_38 ?_
        refine ok_iconst hE (4 : Int32) ki_4 dX1_tell_39 ?_
        refine ok_imul hE dX1_tell_40 ?_
        refine ok_iload_n hE 3 rfl dX1_tell_41 ?_
        refine ok_iadd hE dX1_tell_42 ?_
        refine ok_iaload hE shS_7 dX1_tell_43 ?_
        exact ok_ireturnP hE dX1_tell_44
      · refine ok_iconst hE (-1 : Int32) ki_m1 dX1_tell_27 ?_
        refine ok_goto hE 44 rfl dX1_tell_28 ?_
        exact ok_ireturnP hE dX1_tell_44
    · refine ok_iconst hE (-1 : Int32) ki_m1 dX1_tell_9 ?_
      exact ok_ireturnP hE dX1_tell_10
theorem mS_KTell {l : Launch} {Y : Sys} {t : Nat} (hY : SysOk Y t shS) (p1 : Int32) (p2 : Int32)  (M : Mm) (r : Int32) (h : S_KTell p1 p2 M = some r) : Cm l Y t yX1_tell (WS yX1_tell cX1_tell 4 (some .int)) rmS_KTell [.ref (Y.ad 6), .int p1, .int p2] M ((some (.int r), M)) := by
  refine cm_of (own := RX1) hY rfl rfl (Nat.le_of_ble_eq_true rfl) (fun E hE e1 e2 e3 e4 => ?_)
  subst e1
  exact tS_KTell E hE p1 p2  M r h e4.symm
def S_PClearCounts (th : Nat) (M : Mm) : Option Mm :=
 lett (sI M th 9 (0 : Int32)) fun M1 =>
 lett (sI M1 th 10 (0 : Int32)) fun M2 =>
 lett (sI M2 th 11 (0 : Int32)) fun M3 =>
 lett (sI M3 th 12 (0 : Int32)) fun M4 =>
 lett (sI M4 th 13 (0 : Int32)) fun M5 =>
 some M5
abbrev rmS_PClearCounts : Room := { frames := 0, cells := 0, slots := 0, locals := 0 }
set_option maxHeartbeats 4000000 in
set_option maxRecDepth 100000 in
theorem tS_PClearCounts (E : Cx) (hE : CxOk E cX3_clearCounts RX3 shS none rmS_PClearCounts 1) (th : Nat) (hth : shS th = shSX3) (M : Mm) : Ok E 0 [(0, .ref (E.Y.ad th))] [] M (S_PClearCounts th M) (KV E) := by
  unfold S_PClearCounts
  refine ok_aload_n hE 0 rfl dX3_clearCounts_0 ?_
  refine ok_iconst hE (0 : Int32) ki_0 dX3_clearCounts_1 ?_
  refine ok_putI hE fl_X3_41 hth rfl dX3_clearCounts_2 (fun M1 => ?_)
  refine ok_aload_n hE 0 rfl dX3_clearCounts_5 ?_
  refine ok_iconst hE (0 : Int32) ki_0 dX3_clearCounts_6 ?_
  refine ok_putI hE fl_X3_44 hth rfl dX3_clearCounts_7 (fun M2 => ?_)
  refine ok_aload_n hE 0 rfl dX3_clearCounts_10 ?_
  refine ok_iconst hE (0 : Int32) ki_0 dX3_clearCounts_11 ?_
  refine ok_putI hE fl_X3_47 hth rfl dX3_clearCounts_12 (fun M3 => ?_)
  refine ok_aload_n hE 0 rfl dX3_clearCounts_15 ?_
  refine ok_iconst hE (0 : Int32) ki_0 dX3_clearCounts_16 ?_
  refine ok_putI hE fl_X3_50 hth rfl dX3_clearCounts_17 (fun M4 => ?_)
  refine ok_aload_n hE 0 rfl dX3_clearCounts_20 ?_
  refine ok_iconst hE (0 : Int32) ki_0 dX3_clearCounts_21 ?_
  refine ok_putI hE fl_X3_53 hth rfl dX3_clearCounts_22 (fun M5 => ?_)
  exact ok_return hE dX3_clearCounts_25
theorem mS_PClearCounts {l : Launch} {Y : Sys} {t : Nat} (hY : SysOk Y t shS) (th : Nat) (hth : shS th = shSX3) (M : Mm) (r : Mm) (h : S_PClearCounts th M = some r) : Cm l Y t yX3_clearCounts (WS yX3_clearCounts cX3_clearCounts 1 none) rmS_PClearCounts [.ref (Y.ad th)] M (enV r) := by
  refine cm_of (own := RX3) hY rfl rfl (Nat.le_of_ble_eq_true rfl) (fun E hE e1 e2 e3 e4 => ?_)
  subst e1
  exact tS_PClearCounts E hE th hth M r h e4.symm
def S_PCount (th : Nat) (p1 : Int32) (p2 : Int32) (p3 : Int32) (M : Mm) : Option Mm :=
 lett (sI M th 6 ((gI M th 6) - (1 : Int32))) fun M1 =>
 lett (sI M1 th 9 ((gI M1 th 9) + (1 : Int32))) fun M2 =>
 lett (sI M2 th 10 ((gI M2 th 10) + p1)) fun M3 =>
 lett (sI M3 th 11 ((gI M3 th 11) + p2)) fun M4 =>
 lett (sI M4 th 12 (mmaxI (gI M4 th 12) p2)) fun M5 =>
 if p2 ≤ p3 then
 (some M5)
 else
 (lett (sI M5 th 13 ((gI M5 th 13) + (1 : Int32))) fun M6 =>
 some M6)
abbrev rmS_PCount : Room := { frames := 1, cells := 0, slots := 0, locals := 21 }
set_option maxHeartbeats 4000000 in
set_option maxRecDepth 100000 in
theorem tS_PCount (E : Cx) (hE : CxOk E cX3_count RX3 shS none rmS_PCount 4) (th : Nat) (p1 : Int32) (p2 : Int32) (p3 : Int32) (hth : shS th = shSX3) (M : Mm) : Ok E 0 [(0, .ref (E.Y.ad th)), (1, .int p1), (2, .int p2), (3, .int p3)] [] M (S_PCount th p1 p2 p3 M) (KV E) := by
  unfold S_PCount
  refine ok_aload_n hE 0 rfl dX3_count_0 ?_
  refine ok_dup hE rfl dX3_count_1 ?_
  refine ok_getI hE fl_X3_29 hth rfl dX3_count_2 ?_
  refine ok_iconst hE (1 : Int32) ki_1 dX3_count_5 ?_
  refine ok_isub hE dX3_count_6 ?_
  refine ok_putI hE fl_X3_29 hth rfl dX3_count_7 (fun M1 => ?_)
  refine ok_aload_n hE 0 rfl dX3_count_10 ?_
  refine ok_dup hE rfl dX3_count_11 ?_
  refine ok_getI hE fl_X3_41 hth rfl dX3_count_12 ?_
  refine ok_iconst hE (1 : Int32) ki_1 dX3_count_15 ?_
  refine ok_iadd hE dX3_count_16 ?_
  refine ok_putI hE fl_X3_41 hth rfl dX3_count_17 (fun M2 => ?_)
  refine ok_aload_n hE 0 rfl dX3_count_20 ?_
  refine ok_dup hE rfl dX3_count_21 ?_
  refine ok_getI hE fl_X3_44 hth rfl dX3_count_22 ?_
  refine ok_iload_n hE 1 rfl dX3_count_25 ?_
  refine ok_iadd hE dX3_count_26 ?_
  refine ok_putI hE fl_X3_44 hth rfl dX3_count_27 (fun M3 => ?_)
  refine ok_aload_n hE 0 rfl dX3_count_30 ?_
  refine ok_dup hE rfl dX3_count_31 ?_
  refine ok_getI hE fl_X3_47 hth rfl dX3_count_32 ?_
  refine ok_iload_n hE 2 rfl dX3_count_35 ?_
  refine ok_iadd hE dX3_count_36 ?_
  refine ok_putI hE fl_X3_47 hth rfl dX3_count_37 (fun M4 => ?_)
  refine ok_aload_n hE 0 rfl dX3_count_40 ?_
  refine ok_aload_n hE 0 rfl dX3_count_41 ?_
  refine ok_getI hE fl_X3_50 hth rfl dX3_count_42 ?_
  refine ok_iload_n hE 2 rfl dX3_count_45 ?_
  refine ok_mmax hE mt_X3_56 ⟨rfl, rfl⟩ dX3_count_46 ?_
  refine ok_putI hE fl_X3_50 hth rfl dX3_count_49 (fun M5 => ?_)
  refine ok_iload_n hE 2 rfl dX3_count_52 ?_
  refine ok_iload_n hE 3 rfl dX3_count_53 ?_
  refine ok_icmp_le hE 67 rfl dX3_count_54 ?_ ?_
  · exact ok_return hE dX3_count_67
  · refine ok_aload_n hE 0 rfl dX3_count_57 ?_
    refine ok_dup hE rfl dX3_count_58 ?_
    refine ok_getI hE fl_X3_53 hth rfl dX3_count_59 ?_
    refine ok_iconst hE (1 : Int32) ki_1 dX3_count_62 ?_
    refine ok_iadd hE dX3_count_63 ?_
    refine ok_putI hE fl_X3_53 hth rfl dX3_count_64 (fun M6 => ?_)
    exact ok_return hE dX3_count_67
theorem mS_PCount {l : Launch} {Y : Sys} {t : Nat} (hY : SysOk Y t shS) (th : Nat) (p1 : Int32) (p2 : Int32) (p3 : Int32) (hth : shS th = shSX3) (M : Mm) (r : Mm) (h : S_PCount th p1 p2 p3 M = some r) : Cm l Y t yX3_count (WS yX3_count cX3_count 4 none) rmS_PCount [.ref (Y.ad th), .int p1, .int p2, .int p3] M (enV r) := by
  refine cm_of (own := RX3) hY rfl rfl (Nat.le_of_ble_eq_true rfl) (fun E hE e1 e2 e3 e4 => ?_)
  subst e1
  exact tS_PCount E hE th p1 p2 p3 hth M r h e4.symm
def S_bitCount_0f7a4 (p1 : Int32) (M : Mm) : Option Int32 :=
 lett (p1 - (((p1.toUInt32 >>> ((1 : Int32).toUInt32 &&& Int32.toUInt32 31)).toInt32) &&& (1431655765 : Int32))) fun v1 =>
 lett ((v1 &&& (858993459 : Int32)) + (((v1.toUInt32 >>> ((2 : Int32).toUInt32 &&& Int32.toUInt32 31)).toInt32) &&& (858993459 : Int32))) fun v2 =>
 lett ((v2 + ((v2.toUInt32 >>> ((4 : Int32).toUInt32 &&& Int32.toUInt32 31)).toInt32)) &&& (252645135 : Int32)) fun v3 =>
 lett (v3 + ((v3.toUInt32 >>> ((8 : Int32).toUInt32 &&& Int32.toUInt32 31)).toInt32)) fun v4 =>
 lett (v4 + ((v4.toUInt32 >>> ((16 : Int32).toUInt32 &&& Int32.toUInt32 31)).toInt32)) fun v5 =>
 some (v5 &&& (63 : Int32))
abbrev rmS_bitCount_0f7a4 : Room := { frames := 0, cells := 0, slots := 0, locals := 0 }
set_option maxHeartbeats 4000000 in
set_option maxRecDepth 100000 in
theorem tS_bitCount_0f7a4 (E : Cx) (hE : CxOk E cJ6_bitCount_0f7a4 RJ6 shS (some .int) rmS_bitCount_0f7a4 1) (p1 : Int32)  (M : Mm) : Ok E 0 [(0, .int p1)] [] M (S_bitCount_0f7a4 p1 M) (KIp E M) := by
  unfold S_bitCount_0f7a4
  refine ok_iload_n hE 0 rfl dJ6_bitCount_0f7a4_0 ?_
  refine ok_iload_n hE 0 rfl dJ6_bitCount_0f7a4_1 ?_
  refine ok_iconst hE (1 : Int32) ki_1 dJ6_bitCount_0f7a4_2 ?_
  refine ok_iushr hE dJ6_bitCount_0f7a4_3 ?_
  refine ok_ldcw hE ct_J6_265 dJ6_bitCount_0f7a4_4 ?_
  refine ok_iand hE dJ6_bitCount_0f7a4_7 ?_
  refine ok_isub hE dJ6_bitCount_0f7a4_8 ?_
  refine ok_istore_n hE (fun v1 => [(0, .int v1)]) (fun _ => rfl) rfl dJ6_bitCount_0f7a4_9 (fun v1 => ?_)
  refine ok_iload_n hE 0 rfl dJ6_bitCount_0f7a4_10 ?_
  refine ok_ldcw hE ct_J6_266 dJ6_bitCount_0f7a4_11 ?_
  refine ok_iand hE dJ6_bitCount_0f7a4_14 ?_
  refine ok_iload_n hE 0 rfl dJ6_bitCount_0f7a4_15 ?_
  refine ok_iconst hE (2 : Int32) ki_2 dJ6_bitCount_0f7a4_16 ?_
  refine ok_iushr hE dJ6_bitCount_0f7a4_17 ?_
  refine ok_ldcw hE ct_J6_266 dJ6_bitCount_0f7a4_18 ?_
  refine ok_iand hE dJ6_bitCount_0f7a4_21 ?_
  refine ok_iadd hE dJ6_bitCount_0f7a4_22 ?_
  refine ok_istore_n hE (fun v2 => [(0, .int v2)]) (fun _ => rfl) rfl dJ6_bitCount_0f7a4_23 (fun v2 => ?_)
  refine ok_iload_n hE 0 rfl dJ6_bitCount_0f7a4_24 ?_
  refine ok_iload_n hE 0 rfl dJ6_bitCount_0f7a4_25 ?_
  refine ok_iconst hE (4 : Int32) ki_4 dJ6_bitCount_0f7a4_26 ?_
  refine ok_iushr hE dJ6_bitCount_0f7a4_27 ?_
  refine ok_iadd hE dJ6_bitCount_0f7a4_28 ?_
  refine ok_ldcw hE ct_J6_267 dJ6_bitCount_0f7a4_29 ?_
  refine ok_iand hE dJ6_bitCount_0f7a4_32 ?_
  refine ok_istore_n hE (fun v3 => [(0, .int v3)]) (fun _ => rfl) rfl dJ6_bitCount_0f7a4_33 (fun v3 => ?_)
  refine ok_iload_n hE 0 rfl dJ6_bitCount_0f7a4_34 ?_
  refine ok_iload_n hE 0 rfl dJ6_bitCount_0f7a4_35 ?_
  refine ok_bipush hE (8 : Int32) kb_8 dJ6_bitCount_0f7a4_36 ?_
  refine ok_iushr hE dJ6_bitCount_0f7a4_38 ?_
  refine ok_iadd hE dJ6_bitCount_0f7a4_39 ?_
  refine ok_istore_n hE (fun v4 => [(0, .int v4)]) (fun _ => rfl) rfl dJ6_bitCount_0f7a4_40 (fun v4 => ?_)
  refine ok_iload_n hE 0 rfl dJ6_bitCount_0f7a4_41 ?_
  refine ok_iload_n hE 0 rfl dJ6_bitCount_0f7a4_42 ?_
  refine ok_bipush hE (16 : Int32) kb_16 dJ6_bitCount_0f7a4_43 ?_
  refine ok_iushr hE dJ6_bitCount_0f7a4_45 ?_
  refine ok_iadd hE dJ6_bitCount_0f7a4_46 ?_
  refine ok_istore_n hE (fun v5 => [(0, .int v5)]) (fun _ => rfl) rfl dJ6_bitCount_0f7a4_47 (fun v5 => ?_)
  refine ok_iload_n hE 0 rfl dJ6_bitCount_0f7a4_48 ?_
  refine ok_bipush hE (63 : Int32) kb_63 dJ6_bitCount_0f7a4_49 ?_
  refine ok_iand hE dJ6_bitCount_0f7a4_51 ?_
  exact ok_ireturnP hE dJ6_bitCount_0f7a4_52
theorem mS_bitCount_0f7a4 {l : Launch} {Y : Sys} {t : Nat} (hY : SysOk Y t shS) (p1 : Int32)  (M : Mm) (r : Int32) (h : S_bitCount_0f7a4 p1 M = some r) : Cm l Y t yJ6_bitCount_0f7a4 (WS yJ6_bitCount_0f7a4 cJ6_bitCount_0f7a4 1 (some .int)) rmS_bitCount_0f7a4 [.int p1] M ((some (.int r), M)) := by
  refine cm_ofF (own := RJ6) hY (by decide +kernel) rfl (Nat.le_of_ble_eq_true rfl) (fun E hE e1 e2 e3 e4 => ?_)
  subst e1
  exact tS_bitCount_0f7a4 E hE p1  M r h e4.symm
def S_QFarJumps (th : Nat) (M : Mm) : Option Int32 :=
 bnd (S_bitCount_0f7a4 (gI M th 5) M) fun r1 =>
 some r1
abbrev rmS_QFarJumps : Room := { frames := 1, cells := 0, slots := 0, locals := 20 }
set_option maxHeartbeats 4000000 in
set_option maxRecDepth 100000 in
theorem tS_QFarJumps (E : Cx) (hE : CxOk E cX4_farJumps RX4 shS (some .int) rmS_QFarJumps 1) (th : Nat) (hth : shS th = shSX4) (M : Mm) : Ok E 0 [(0, .ref (E.Y.ad th))] [] M (S_QFarJumps th M) (KIp E M) := by
  unfold S_QFarJumps
  refine ok_aload_n hE 0 rfl dX4_farJumps_0 ?_
  refine ok_getI hE fl_X4_26 hth rfl dX4_farJumps_1 ?_
  refine ok_csIp hE rmS_bitCount_0f7a4 [.int (gI M th 5)] [] rfl ca_X4_38 (fun _ hx => mS_bitCount_0f7a4 hE.sys _  _ _ hx) ⟨rfl, rfl, rfl, rfl⟩ rfl rfl dX4_farJumps_4 (fun r1 => ?_)
  exact ok_ireturnP hE dX4_farJumps_7
theorem mS_QFarJumps {l : Launch} {Y : Sys} {t : Nat} (hY : SysOk Y t shS) (th : Nat) (hth : shS th = shSX4) (M : Mm) (r : Int32) (h : S_QFarJumps th M = some r) : Cm l Y t yX4_farJumps (WS yX4_farJumps cX4_farJumps 1 (some .int)) rmS_QFarJumps [.ref (Y.ad th)] M ((some (.int r), M)) := by
  refine cm_of (own := RX4) hY rfl rfl (Nat.le_of_ble_eq_true rfl) (fun E hE e1 e2 e3 e4 => ?_)
  subst e1
  exact tS_QFarJumps E hE th hth M r h e4.symm
def S_QIsSeeky (th : Nat) (M : Mm) : Option Int32 :=
 bnd (S_QFarJumps th M) fun r1 =>
 if r1 < (5 : Int32) then
 (some (0 : Int32))
 else
 (some (1 : Int32))
abbrev rmS_QIsSeeky : Room := { frames := 2, cells := 0, slots := 0, locals := 40 }
set_option maxHeartbeats 4000000 in
set_option maxRecDepth 100000 in
theorem tS_QIsSeeky (E : Cx) (hE : CxOk E cX4_isSeeky RX4 shS (some .boolean) rmS_QIsSeeky 1) (th : Nat) (hth : shS th = shSX4) (M : Mm) : Ok E 0 [(0, .ref (E.Y.ad th))] [] M (S_QIsSeeky th M) (KIp E M) := by
  unfold S_QIsSeeky
  refine ok_aload_n hE 0 rfl dX4_isSeeky_0 ?_
  refine ok_cvIp hE rmS_QFarJumps [] [] rfl ca_X4_44 hth rfl (fun _ hx => mS_QFarJumps hE.sys _ hth _ _ hx) ⟨rfl, rfl, rfl, rfl⟩ rfl rfl dX4_isSeeky_1 (fun r1 => ?_)
  refine ok_iconst hE (5 : Int32) ki_5 dX4_isSeeky_4 ?_
  refine ok_icmp_lt hE 12 rfl dX4_isSeeky_5 ?_ ?_
  · refine ok_iconst hE (0 : Int32) ki_0 dX4_isSeeky_12 ?_
    exact ok_zreturnP hE (Or.inl rfl) dX4_isSeeky_13
  · refine ok_iconst hE (1 : Int32) ki_1 dX4_isSeeky_8 ?_
    refine ok_goto hE 13 rfl dX4_isSeeky_9 ?_
    exact ok_zreturnP hE (Or.inr rfl) dX4_isSeeky_13
theorem mS_QIsSeeky {l : Launch} {Y : Sys} {t : Nat} (hY : SysOk Y t shS) (th : Nat) (hth : shS th = shSX4) (M : Mm) (r : Int32) (h : S_QIsSeeky th M = some r) : Cm l Y t yX4_isSeeky (WS yX4_isSeeky cX4_isSeeky 1 (some .boolean)) rmS_QIsSeeky [.ref (Y.ad th)] M ((some (.int r), M)) := by
  refine cm_of (own := RX4) hY rfl rfl (Nat.le_of_ble_eq_true rfl) (fun E hE e1 e2 e3 e4 => ?_)
  subst e1
  exact tS_QIsSeeky E hE th hth M r h e4.symm
def S_QIsFar (th : Nat) (p1 : Int32) (p2 : Int32) (M : Mm) : Option Int32 :=
 lett (fun (_ : Unit) =>
 some (1 : Int32)) fun j20 =>
 if p2 < (p1 - (gI M th 4)) then
 (j20 ())
 else
 (if ((gI M th 4) - p1) ≤ p2 then
 (some (0 : Int32))
 else
 (j20 ()))
abbrev rmS_QIsFar : Room := { frames := 0, cells := 0, slots := 0, locals := 0 }
set_option maxHeartbeats 4000000 in
set_option maxRecDepth 100000 in
theorem tS_QIsFar (E : Cx) (hE : CxOk E cX4_isFar RX4 shS (some .boolean) rmS_QIsFar 3) (th : Nat) (p1 : Int32) (p2 : Int32) (hth : shS th = shSX4) (M : Mm) : Ok E 0 [(0, .ref (E.Y.ad th)), (1, .int p1), (2, .int p2)] [] M (S_QIsFar th p1 p2 M) (KIp E M) := by
  unfold S_QIsFar
  refine ok_iload_n hE 1 rfl dX4_isFar_0 ?_
  refine ok_aload_n hE 0 rfl dX4_isFar_1 ?_
  refine ok_getI hE fl_X4_23 hth rfl dX4_isFar_2 ?_
  refine ok_isub hE dX4_isFar_5 ?_
  refine ok_iload_n hE 2 rfl dX4_isFar_6 ?_
  refine ok_fun (fun j => ∀ (_ : Unit), Ok E 20 [] [] M (j ()) (KIp E M)) (fun _ => ?_) (fun j20 hj20 => ?_)
  · refine ok_iconst hE (1 : Int32) ki_1 dX4_isFar_20 ?_
    refine ok_goto hE 25 rfl dX4_isFar_21 ?_
    exact ok_zreturnP hE (Or.inr rfl) dX4_isFar_25
  refine ok_icmp_gt hE 20 rfl dX4_isFar_7 ?_ ?_
  · exact ok_sub [] rfl (hj20 ())
  · refine ok_aload_n hE 0 rfl dX4_isFar_10 ?_
    refine ok_getI hE fl_X4_23 hth rfl dX4_isFar_11 ?_
    refine ok_iload_n hE 1 rfl dX4_isFar_14 ?_
    refine ok_isub hE dX4_isFar_15 ?_
    refine ok_iload_n hE 2 rfl dX4_isFar_16 ?_
    refine ok_icmp_le hE 24 rfl dX4_isFar_17 ?_ ?_
    · refine ok_iconst hE (0 : Int32) ki_0 dX4_isFar_24 ?_
      exact ok_zreturnP hE (Or.inl rfl) dX4_isFar_25
    · exact ok_sub [] rfl (hj20 ())
theorem mS_QIsFar {l : Launch} {Y : Sys} {t : Nat} (hY : SysOk Y t shS) (th : Nat) (p1 : Int32) (p2 : Int32) (hth : shS th = shSX4) (M : Mm) (r : Int32) (h : S_QIsFar th p1 p2 M = some r) : Cm l Y t yX4_isFar (WS yX4_isFar cX4_isFar 3 (some .boolean)) rmS_QIsFar [.ref (Y.ad th), .int p1, .int p2] M ((some (.int r), M)) := by
  refine cm_of (own := RX4) hY rfl rfl (Nat.le_of_ble_eq_true rfl) (fun E hE e1 e2 e3 e4 => ?_)
  subst e1
  exact tS_QIsFar E hE th p1 p2 hth M r h e4.symm
def S_QReachTo (th : Nat) (p1 : Int32) (p2 : Int32) (p3 : Int32) (M : Mm) : Option Mm :=
 bnd (S_QIsFar th p1 p3 M) fun r1 =>
 lett (fun (w_1 : Int32) =>
 lett w_1 fun v3 =>
 lett (sI M th 5 ((((gI M th 5) <<< ((1 : Int32) &&& 31)) ||| v3) &&& (255 : Int32))) fun M4 =>
 lett (sI M4 th 4 (p1 + p2)) fun M5 =>
 some M5) fun j14 =>
 if r1 = 0 then
 (j14 (0 : Int32))
 else
 (j14 (1 : Int32))
abbrev rmS_QReachTo : Room := { frames := 1, cells := 0, slots := 0, locals := 22 }
set_option maxHeartbeats 4000000 in
set_option maxRecDepth 100000 in
theorem tS_QReachTo (E : Cx) (hE : CxOk E cX4_reachTo RX4 shS none rmS_QReachTo 5) (th : Nat) (p1 : Int32) (p2 : Int32) (p3 : Int32) (hth : shS th = shSX4) (M : Mm) : Ok E 0 [(0, .ref (E.Y.ad th)), (1, .int p1), (2, .int p2), (3, .int p3)] [] M (S_QReachTo th p1 p2 p3 M) (KV E) := by
  unfold S_QReachTo
  refine ok_aload_n hE 0 rfl dX4_reachTo_0 ?_
  refine ok_iload_n hE 1 rfl dX4_reachTo_1 ?_
  refine ok_iload_n hE 3 rfl dX4_reachTo_2 ?_
  refine ok_cvIp hE rmS_QIsFar [.int p1, .int p3] [] rfl ca_X4_48 hth rfl (fun _ hx => mS_QIsFar hE.sys _ _ _ hth _ _ hx) ⟨rfl, rfl, rfl, rfl⟩ rfl rfl dX4_reachTo_3 (fun r1 => ?_)
  refine ok_fun (fun j => ∀ (w_1 : Int32), Ok E 14 [(0, .ref (E.Y.ad th)), (1, .int p1), (2, .int p2)] [.int w_1] M (j w_1) (KV E)) (fun w_1 => ?_) (fun j14 hj14 => ?_)
  · refine ok_istore hE (fun v3 => [(4, .int v3), (0, .ref (E.Y.ad th)), (1, .int p1), (2, .int p2)]) (fun _ => rfl) rfl dX4_reachTo_14 (fun v3 => ?_)
    refine ok_aload_n hE 1 rfl dX4_reachTo_16 ?_
    refine ok_aload_n hE 1 rfl dX4_reachTo_17 ?_
    refine ok_getI hE fl_X4_26 hth rfl dX4_reachTo_18 ?_
    refine ok_iconst hE (1 : Int32) ki_1 dX4_reachTo_21 ?_
    refine ok_ishl hE dX4_reachTo_22 ?_
    refine ok_iload hE 0 rfl dX4_reachTo_23 ?_
    refine ok_ior hE dX4_reachTo_25 ?_
    refine ok_sipush hE (255 : Int32) ks_255 dX4_reachTo_26 ?_
    refine ok_iand hE dX4_reachTo_29 ?_
    refine ok_putI hE fl_X4_26 hth rfl dX4_reachTo_30 (fun M4 => ?_)
    refine ok_aload_n hE 1 rfl dX4_reachTo_33 ?_
    refine ok_iload_n hE 2 rfl dX4_reachTo_34 ?_
    refine ok_iload_n hE 3 rfl dX4_reachTo_35 ?_
    refine ok_iadd hE dX4_reachTo_36 ?_
    refine ok_putI hE fl_X4_23 hth rfl dX4_reachTo_37 (fun M5 => ?_)
    exact ok_return hE dX4_reachTo_40
  refine ok_if_eq hE 13 rfl dX4_reachTo_6 ?_ ?_
  · refine ok_iconst hE (0 : Int32) ki_0 dX4_reachTo_13 ?_
    exact ok_sub [0, 1, 2] rfl (hj14 (0 : Int32))
  · refine ok_iconst hE (1 : Int32) ki_1 dX4_reachTo_9 ?_
    refine ok_goto hE 14 rfl dX4_reachTo_10 ?_
    exact ok_sub [0, 1, 2] rfl (hj14 (1 : Int32))
theorem mS_QReachTo {l : Launch} {Y : Sys} {t : Nat} (hY : SysOk Y t shS) (th : Nat) (p1 : Int32) (p2 : Int32) (p3 : Int32) (hth : shS th = shSX4) (M : Mm) (r : Mm) (h : S_QReachTo th p1 p2 p3 M = some r) : Cm l Y t yX4_reachTo (WS yX4_reachTo cX4_reachTo 5 none) rmS_QReachTo [.ref (Y.ad th), .int p1, .int p2, .int p3] M (enV r) := by
  refine cm_of (own := RX4) hY rfl rfl (Nat.le_of_ble_eq_true rfl) (fun E hE e1 e2 e3 e4 => ?_)
  subst e1
  exact tS_QReachTo E hE th p1 p2 p3 hth M r h e4.symm
def S_QLearnPause (th : Nat) (p1 : Int32) (M : Mm) : Option Mm :=
 grd ((FP.fmul (gF M th 2) (1063256064 : UInt32)) &&& 0x7fffffff ≤ 0x7f800000) (grd ((FP.fmul (FP.i2f (p1 - (gI M th 6))) (1040187392 : UInt32)) &&& 0x7fffffff ≤ 0x7f800000) (grd ((FP.fadd (FP.fmul (gF M th 2) (1063256064 : UInt32)) (FP.fmul (FP.i2f (p1 - (gI M th 6))) (1040187392 : UInt32))) &&& 0x7fffffff ≤ 0x7f800000) (lett (sF M th 2 (FP.fadd (FP.fmul (gF M th 2) (1063256064 : UInt32)) (FP.fmul (FP.i2f (p1 - (gI M th 6))) (1040187392 : UInt32)))) fun M1 =>
 some M1)))
abbrev rmS_QLearnPause : Room := { frames := 0, cells := 0, slots := 0, locals := 0 }
set_option maxHeartbeats 4000000 in
set_option maxRecDepth 100000 in
theorem tS_QLearnPause (E : Cx) (hE : CxOk E cX4_learnPause RX4 shS none rmS_QLearnPause 2) (th : Nat) (p1 : Int32) (hth : shS th = shSX4) (M : Mm) : Ok E 0 [(0, .ref (E.Y.ad th)), (1, .int p1)] [] M (S_QLearnPause th p1 M) (KV E) := by
  unfold S_QLearnPause
  refine ok_aload_n hE 0 rfl dX4_learnPause_0 ?_
  refine ok_aload_n hE 0 rfl dX4_learnPause_1 ?_
  refine ok_getF hE fl_X4_16 hth rfl dX4_learnPause_2 ?_
  refine ok_ldcf hE ct_X4_52 dX4_learnPause_5 ?_
  refine ok_fmul hE dX4_learnPause_7 ?_
  refine ok_iload_n hE 1 rfl dX4_learnPause_8 ?_
  refine ok_aload_n hE 0 rfl dX4_learnPause_9 ?_
  refine ok_getI hE fl_X4_29 hth rfl dX4_learnPause_10 ?_
  refine ok_isub hE dX4_learnPause_13 ?_
  refine ok_i2f hE dX4_learnPause_14 ?_
  refine ok_ldcf hE ct_X4_53 dX4_learnPause_15 ?_
  refine ok_fmul hE dX4_learnPause_17 ?_
  refine ok_fadd hE dX4_learnPause_18 ?_
  refine ok_putF hE fl_X4_16 hth rfl dX4_learnPause_19 (fun M1 => ?_)
  exact ok_return hE dX4_learnPause_22
theorem mS_QLearnPause {l : Launch} {Y : Sys} {t : Nat} (hY : SysOk Y t shS) (th : Nat) (p1 : Int32) (hth : shS th = shSX4) (M : Mm) (r : Mm) (h : S_QLearnPause th p1 M = some r) : Cm l Y t yX4_learnPause (WS yX4_learnPause cX4_learnPause 2 none) rmS_QLearnPause [.ref (Y.ad th), .int p1] M (enV r) := by
  refine cm_of (own := RX4) hY rfl rfl (Nat.le_of_ble_eq_true rfl) (fun E hE e1 e2 e3 e4 => ?_)
  subst e1
  exact tS_QLearnPause E hE th p1 hth M r h e4.symm
def S_RIsFull  (M : Mm) : Option Int32 :=
 if (gI M 3 1) < (54 : Int32) then
 (some (0 : Int32))
 else
 (some (1 : Int32))
abbrev rmS_RIsFull : Room := { frames := 0, cells := 0, slots := 0, locals := 0 }
set_option maxHeartbeats 4000000 in
set_option maxRecDepth 100000 in
theorem tS_RIsFull (E : Cx) (hE : CxOk E cX6_isFull RX6 shS (some .boolean) rmS_RIsFull 1)   (M : Mm) : Ok E 0 [(0, .ref (E.Y.ad 3))] [] M (S_RIsFull  M) (KIp E M) := by
  unfold S_RIsFull
  refine ok_aload_n hE 0 rfl dX6_isFull_0 ?_
  refine ok_getI hE fl_X6_15 shS_3 rfl dX6_isFull_1 ?_
  refine ok_bipush hE (54 : Int32) kb_54 dX6_isFull_4 ?_
  refine ok_icmp_lt hE 13 rfl dX6_isFull_6 ?_ ?_
  · refine ok_iconst hE (0 : Int32) ki_0 dX6_isFull_13 ?_
    exact ok_zreturnP hE (Or.inl rfl) dX6_isFull_14
  · refine ok_iconst hE (1 : Int32) ki_1 dX6_isFull_9 ?_
    refine ok_goto hE 14 rfl dX6_isFull_10 ?_
    exact ok_zreturnP hE (Or.inr rfl) dX6_isFull_14
theorem mS_RIsFull {l : Launch} {Y : Sys} {t : Nat} (hY : SysOk Y t shS)   (M : Mm) (r : Int32) (h : S_RIsFull  M = some r) : Cm l Y t yX6_isFull (WS yX6_isFull cX6_isFull 1 (some .boolean)) rmS_RIsFull [.ref (Y.ad 3)] M ((some (.int r), M)) := by
  refine cm_of (own := RX6) hY rfl rfl (Nat.le_of_ble_eq_true rfl) (fun E hE e1 e2 e3 e4 => ?_)
  subst e1
  exact tS_RIsFull E hE   M r h e4.symm
def S_RAddRow  (M : Mm) : Option (Int32 × Mm) :=
 lett ((gI M 3 1) * (6 : Int32)) fun v1 =>
 lett (sI M 3 1 ((gI M 3 1) + (1 : Int32))) fun M2 =>
 some (v1, M2)
abbrev rmS_RAddRow : Room := { frames := 0, cells := 0, slots := 0, locals := 0 }
set_option maxHeartbeats 4000000 in
set_option maxRecDepth 100000 in
theorem tS_RAddRow (E : Cx) (hE : CxOk E cX6_addRow RX6 shS (some .int) rmS_RAddRow 2)   (M : Mm) : Ok E 0 [(0, .ref (E.Y.ad 3))] [] M (S_RAddRow  M) (KI E) := by
  unfold S_RAddRow
  refine ok_aload_n hE 0 rfl dX6_addRow_0 ?_
  refine ok_getI hE fl_X6_15 shS_3 rfl dX6_addRow_1 ?_
  refine ok_bipush hE (6 : Int32) kb_6 dX6_addRow_4 ?_
  refine ok_imul hE dX6_addRow_6 ?_
  refine ok_istore_n hE (fun v1 => [(1, .int v1), (0, .ref (E.Y.ad 3))]) (fun _ => rfl) rfl dX6_addRow_7 (fun v1 => ?_)
  refine ok_aload_n hE 1 rfl dX6_addRow_8 ?_
  refine ok_dup hE rfl dX6_addRow_9 ?_
  refine ok_getI hE fl_X6_15 shS_3 rfl dX6_addRow_10 ?_
  refine ok_iconst hE (1 : Int32) ki_1 dX6_addRow_13 ?_
  refine ok_iadd hE dX6_addRow_14 ?_
  refine ok_putI hE fl_X6_15 shS_3 rfl dX6_addRow_15 (fun M2 => ?_)
  refine ok_iload_n hE 0 rfl dX6_addRow_18 ?_
  exact ok_ireturn hE dX6_addRow_19
theorem mS_RAddRow {l : Launch} {Y : Sys} {t : Nat} (hY : SysOk Y t shS)   (M : Mm) (r : (Int32 × Mm)) (h : S_RAddRow  M = some r) : Cm l Y t yX6_addRow (WS yX6_addRow cX6_addRow 2 (some .int)) rmS_RAddRow [.ref (Y.ad 3)] M (enI r) := by
  refine cm_of (own := RX6) hY rfl rfl (Nat.le_of_ble_eq_true rfl) (fun E hE e1 e2 e3 e4 => ?_)
  subst e1
  exact tS_RAddRow E hE   M r h e4.symm
def S_RMoveOut (p1 : Int32) (M : Mm) : Option Mm :=
 acp p1 (0 : Int32) (6 : Int32) 324 6 (lett (cpI M 4 (ix p1) 5 (ix (0 : Int32)) (ix (6 : Int32))) fun M1 =>
 lett (p1 + (6 : Int32)) fun v2 =>
 acp v2 p1 (((gI M1 3 1) * (6 : Int32)) - v2) 324 324 (lett (cpI M1 4 (ix v2) 4 (ix p1) (ix (((gI M1 3 1) * (6 : Int32)) - v2))) fun M3 =>
 lett (sI M3 3 1 ((gI M3 3 1) - (1 : Int32))) fun M4 =>
 some M4))
abbrev rmS_RMoveOut : Room := { frames := 1, cells := 0, slots := 0, locals := 48 }
set_option maxHeartbeats 4000000 in
set_option maxRecDepth 100000 in
theorem tS_RMoveOut (E : Cx) (hE : CxOk E cX6_moveOut RX6 shS none rmS_RMoveOut 4) (p1 : Int32)  (M : Mm) : Ok E 0 [(0, .ref (E.Y.ad 3)), (1, .int p1), (2, .ref (E.Y.ad 5))] [] M (S_RMoveOut p1 M) (KV E) := by
  unfold S_RMoveOut
  refine ok_aload_n hE 0 rfl dX6_moveOut_0 ?_
  refine ok_getC hE fl_X6_11 shS_3 rfl dX6_moveOut_1 ?_
  refine ok_iload_n hE 1 rfl dX6_moveOut_4 ?_
  refine ok_aload_n hE 2 rfl dX6_moveOut_5 ?_
  refine ok_iconst hE (0 : Int32) ki_0 dX6_moveOut_6 ?_
  refine ok_bipush hE (6 : Int32) kb_6 dX6_moveOut_7 ?_
  refine ok_acopy hE ac_X6_19 shS_4 shS_5 ⟨rfl, rfl⟩ dX6_moveOut_9 (fun M1 => ?_)
  refine ok_iload_n hE 1 rfl dX6_moveOut_12 ?_
  refine ok_bipush hE (6 : Int32) kb_6 dX6_moveOut_13 ?_
  refine ok_iadd hE dX6_moveOut_15 ?_
  refine ok_istore_n hE (fun v2 => [(3, .int v2), (0, .ref (E.Y.ad 3)), (1, .int p1), (2, .ref (E.Y.ad 5))]) (fun _ => rfl) rfl dX6_moveOut_16 (fun v2 => ?_)
  refine ok_aload_n hE 1 rfl dX6_moveOut_17 ?_
  refine ok_getC hE fl_X6_11 shS_3 rfl dX6_moveOut_18 ?_
  refine ok_iload_n hE 0 rfl dX6_moveOut_21 ?_
  refine ok_aload_n hE 1 rfl dX6_moveOut_22 ?_
  refine ok_getC hE fl_X6_11 shS_3 rfl dX6_moveOut_23 ?_
  refine ok_iload_n hE 2 rfl dX6_moveOut_26 ?_
  refine ok_aload_n hE 1 rfl dX6_moveOut_27 ?_
  refine ok_getI hE fl_X6_15 shS_3 rfl dX6_moveOut_28 ?_
  refine ok_bipush hE (6 : Int32) kb_6 dX6_moveOut_31 ?_
  refine ok_imul hE dX6_moveOut_33 ?_
  refine ok_iload_n hE 0 rfl dX6_moveOut_34 ?_
  refine ok_isub hE dX6_moveOut_35 ?_
  refine ok_acopy hE ac_X6_19 shS_4 shS_4 ⟨rfl, rfl⟩ dX6_moveOut_36 (fun M3 => ?_)
  refine ok_aload_n hE 1 rfl dX6_moveOut_39 ?_
  refine ok_dup hE rfl dX6_moveOut_40 ?_
  refine ok_getI hE fl_X6_15 shS_3 rfl dX6_moveOut_41 ?_
  refine ok_iconst hE (1 : Int32) ki_1 dX6_moveOut_44 ?_
  refine ok_isub hE dX6_moveOut_45 ?_
  refine ok_putI hE fl_X6_15 shS_3 rfl dX6_moveOut_46 (fun M4 => ?_)
  exact ok_return hE dX6_moveOut_49
theorem mS_RMoveOut {l : Launch} {Y : Sys} {t : Nat} (hY : SysOk Y t shS) (p1 : Int32)  (M : Mm) (r : Mm) (h : S_RMoveOut p1 M = some r) : Cm l Y t yX6_moveOut (WS yX6_moveOut cX6_moveOut 4 none) rmS_RMoveOut [.ref (Y.ad 3), .int p1, .ref (Y.ad 5)] M (enV r) := by
  refine cm_of (own := RX6) hY rfl rfl (Nat.le_of_ble_eq_true rfl) (fun E hE e1 e2 e3 e4 => ?_)
  subst e1
  exact tS_RMoveOut E hE p1  M r h e4.symm
def S_RPlaceOf (p1 : Int32) (p2 : Int32) (M : Mm) : Option Int32 :=
 lett (0 : Int32) fun v1 =>
 lett (0 : Int32) fun v2 =>
 loopR (fun (rec5 : (Int32 × Int32) → Option Int32) (x3 : Int32 × Int32) =>
 if ((gI M 3 1) * (6 : Int32)) ≤ x3.2 then
 (some (-1 : Int32))
 else
 (ald (x3.2 + (5 : Int32)) 324 (lett (fun (u_3 : Int32) =>
 lett (x3.2 + (6 : Int32)) fun v5 =>
 rec5 (u_3, v5)) fun j41 =>
 if (gI M 4 (ix (x3.2 + (5 : Int32)))) = p1 then
 (if x3.1 = p2 then
 (some x3.2)
 else
 (lett (x3.1 + (1 : Int32)) fun v6 =>
 j41 v6))
 else
 (j41 x3.1)))) 1000000 (v1, v2)
abbrev rmS_RPlaceOf : Room := { frames := 0, cells := 0, slots := 0, locals := 0 }
set_option maxHeartbeats 4000000 in
set_option maxRecDepth 100000 in
theorem tS_RPlaceOf (E : Cx) (hE : CxOk E cX6_placeOf RX6 shS (some .int) rmS_RPlaceOf 5) (p1 : Int32) (p2 : Int32)  (M : Mm) : Ok E 0 [(0, .ref (E.Y.ad 3)), (1, .int p1), (2, .int p2)] [] M (S_RPlaceOf p1 p2 M) (KIp E M) := by
  unfold S_RPlaceOf
  refine ok_iconst hE (0 : Int32) ki_0 dX6_placeOf_0 ?_
  refine ok_istore_n hE (fun v1 => [(3, .int v1), (0, .ref (E.Y.ad 3)), (1, .int p1), (2, .int p2)]) (fun _ => rfl) rfl dX6_placeOf_1 (fun v1 => ?_)
  refine ok_iconst hE (0 : Int32) ki_0 dX6_placeOf_2 ?_
  refine ok_istore hE (fun v2 => [(4, .int v2), (3, .int v1), (0, .ref (E.Y.ad 3)), (1, .int p1), (2, .int p2)]) (fun _ => rfl) rfl dX6_placeOf_3 (fun v2 => ?_)
  refine ok_sub [2, 3, 4, 1, 0] rfl (ok_loop (σ := Int32 × Int32) 5 (fun x3 => [(0, .ref (E.Y.ad 3)), (1, .int p1), (2, .int p2), (3, .int x3.1), (4, .int x3.2)]) (fun x3 => M) (fun rec5 hrec5 x3 => ?_) 1000000 (v1, v2))
  refine ok_iload hE 4 rfl dX6_placeOf_5 ?_
  refine ok_aload_n hE 0 rfl dX6_placeOf_7 ?_
  refine ok_getI hE fl_X6_15 shS_3 rfl dX6_placeOf_8 ?_
  refine ok_bipush hE (6 : Int32) kb_6 dX6_placeOf_11 ?_
  refine ok_imul hE dX6_placeOf_13 ?_
  refine ok_icmp_ge hE 47 rfl dX6_placeOf_14 ?_ ?_
  · refine ok_iconst hE (-1 : Int32) ki_m1 dX6_placeOf_47 ?_
    exact ok_ireturnP hE dX6_placeOf_48
  · refine ok_aload_n hE 0 rfl dX6_placeOf_17 ?_
    refine ok_getC hE fl_X6_11 shS_3 rfl dX6_placeOf_18 ?_
    refine ok_iload hE 4 rfl dX6_placeOf_21 ?_
    refine ok_iconst hE (5 : Int32) ki_5 dX6_placeOf_23 ?_
    refine ok_iadd hE dX6_placeOf_24 ?_
    refine ok_iaload hE shS_4 dX6_placeOf_25 ?_
    refine ok_iload_n hE 1 rfl dX6_placeOf_26 ?_
    refine ok_fun (fun j => ∀ (u_3 : Int32), Ok E 41 [(0, .ref (E.Y.ad 3)), (1, .int p1), (2, .int p2), (3, .int u_3), (4, .int x3.2)] [] M (j u_3) (KIp E M)) (fun u_3 => ?_) (fun j41 hj41 => ?_)
    · refine ok_iinc hE 4 (x3.2 + (6 : Int32)) (by rw [ko_6]) (fun v5 => [(4, .int v5), (0, .ref (E.Y.ad 3)), (1, .int p1), (2, .int p2), (3, .int u_3)]) rfl (fun _ => rfl) rfl dX6_placeOf_41 (fun v5 => ?_)
      refine ok_goto hE 5 rfl dX6_placeOf_44 ?_
      exact ok_sub [1, 2, 3, 4, 0] rfl (hrec5 (u_3, v5))
    refine ok_icmp_ne hE 41 rfl dX6_placeOf_27 ?_ ?_
    · exact ok_sub [0, 1, 2, 3, 4] rfl (hj41 x3.1)
    · refine ok_iload_n hE 3 rfl dX6_placeOf_30 ?_
      refine ok_iload_n hE 2 rfl dX6_placeOf_31 ?_
      refine ok_icmp_ne hE 38 rfl dX6_placeOf_32 ?_ ?_
      · refine ok_iinc hE 3 (x3.1 + (1 : Int32)) (by rw [ko_1]) (fun v6 => [(3, .int v6), (0, .ref (E.Y.ad 3)), (1, .int p1), (2, .int p2), (4, .int x3.2)]) rfl (fun _ => rfl) rfl dX6_placeOf_38 (fun v6 => ?_)
        exact ok_sub [1, 2, 3, 0, 4] rfl (hj41 v6)
      · refine ok_iload hE 4 rfl dX6_placeOf_35 ?_
        exact ok_ireturnP hE dX6_placeOf_37
theorem mS_RPlaceOf {l : Launch} {Y : Sys} {t : Nat} (hY : SysOk Y t shS) (p1 : Int32) (p2 : Int32)  (M : Mm) (r : Int32) (h : S_RPlaceOf p1 p2 M = some r) : Cm l Y t yX6_placeOf (WS yX6_placeOf cX6_placeOf 5 (some .int)) rmS_RPlaceOf [.ref (Y.ad 3), .int p1, .int p2] M ((some (.int r), M)) := by
  refine cm_of (own := RX6) hY rfl rfl (Nat.le_of_ble_eq_true rfl) (fun E hE e1 e2 e3 e4 => ?_)
  subst e1
  exact tS_RPlaceOf E hE p1 p2  M r h e4.symm
def S_RRankOf (p1 : Int32) (M : Mm) : Option Int32 :=
 lett (0 : Int32) fun v1 =>
 lett (0 : Int32) fun v2 =>
 loopR (fun (rec4 : (Int32 × Int32) → Option Int32) (x3 : Int32 × Int32) =>
 if p1 ≤ x3.2 then
 (some x3.1)
 else
 (ald (x3.2 + (5 : Int32)) 324 (ald (p1 + (5 : Int32)) 324 (lett (fun (u_3 : Int32) =>
 lett (x3.2 + (6 : Int32)) fun v5 =>
 rec4 (u_3, v5)) fun j31 =>
 if (gI M 4 (ix (x3.2 + (5 : Int32)))) = (gI M 4 (ix (p1 + (5 : Int32)))) then
 (lett (x3.1 + (1 : Int32)) fun v6 =>
 j31 v6)
 else
 (j31 x3.1))))) 1000000 (v1, v2)
abbrev rmS_RRankOf : Room := { frames := 0, cells := 0, slots := 0, locals := 0 }
set_option maxHeartbeats 4000000 in
set_option maxRecDepth 100000 in
theorem tS_RRankOf (E : Cx) (hE : CxOk E cX6_rankOf RX6 shS (some .int) rmS_RRankOf 4) (p1 : Int32)  (M : Mm) : Ok E 0 [(0, .ref (E.Y.ad 3)), (1, .int p1)] [] M (S_RRankOf p1 M) (KIp E M) := by
  unfold S_RRankOf
  refine ok_iconst hE (0 : Int32) ki_0 dX6_rankOf_0 ?_
  refine ok_istore_n hE (fun v1 => [(2, .int v1), (0, .ref (E.Y.ad 3)), (1, .int p1)]) (fun _ => rfl) rfl dX6_rankOf_1 (fun v1 => ?_)
  refine ok_iconst hE (0 : Int32) ki_0 dX6_rankOf_2 ?_
  refine ok_istore_n hE (fun v2 => [(3, .int v2), (2, .int v1), (0, .ref (E.Y.ad 3)), (1, .int p1)]) (fun _ => rfl) rfl dX6_rankOf_3 (fun v2 => ?_)
  refine ok_sub [2, 3, 1, 0] rfl (ok_loop (σ := Int32 × Int32) 4 (fun x3 => [(0, .ref (E.Y.ad 3)), (1, .int p1), (2, .int x3.1), (3, .int x3.2)]) (fun x3 => M) (fun rec4 hrec4 x3 => ?_) 1000000 (v1, v2))
  refine ok_iload_n hE 3 rfl dX6_rankOf_4 ?_
  refine ok_iload_n hE 1 rfl dX6_rankOf_5 ?_
  refine ok_icmp_ge hE 37 rfl dX6_rankOf_6 ?_ ?_
  · refine ok_iload_n hE 2 rfl dX6_rankOf_37 ?_
    exact ok_ireturnP hE dX6_rankOf_38
  · refine ok_aload_n hE 0 rfl dX6_rankOf_9 ?_
    refine ok_getC hE fl_X6_11 shS_3 rfl dX6_rankOf_10 ?_
    refine ok_iload_n hE 3 rfl dX6_rankOf_13 ?_
    refine ok_iconst hE (5 : Int32) ki_5 dX6_rankOf_14 ?_
    refine ok_iadd hE dX6_rankOf_15 ?_
    refine ok_iaload hE shS_4 dX6_rankOf_16 ?_
    refine ok_aload_n hE 0 rfl dX6_rankOf_17 ?_
    refine ok_getC hE fl_X6_11 shS_3 rfl dX6_rankOf_18 ?_
    refine ok_iload_n hE 1 rfl dX6_rankOf_21 ?_
    refine ok_iconst hE (5 : Int32) ki_5 dX6_rankOf_22 ?_
    refine ok_iadd hE dX6_rankOf_23 ?_
    refine ok_iaload hE shS_4 dX6_rankOf_24 ?_
    refine ok_fun (fun j => ∀ (u_3 : Int32), Ok E 31 [(0, .ref (E.Y.ad 3)), (1, .int p1), (2, .int u_3), (3, .int x3.2)] [] M (j u_3) (KIp E M)) (fun u_3 => ?_) (fun j31 hj31 => ?_)
    · refine ok_iinc hE 3 (x3.2 + (6 : Int32)) (by rw [ko_6]) (fun v5 => [(3, .int v5), (0, .ref (E.Y.ad 3)), (1, .int p1), (2, .int u_3)]) rfl (fun _ => rfl) rfl dX6_rankOf_31 (fun v5 => ?_)
      refine ok_goto hE 4 rfl dX6_rankOf_34 ?_
      exact ok_sub [1, 2, 3, 0] rfl (hrec4 (u_3, v5))
    refine ok_icmp_ne hE 31 rfl dX6_rankOf_25 ?_ ?_
    · exact ok_sub [0, 1, 2, 3] rfl (hj31 x3.1)
    · refine ok_iinc hE 2 (x3.1 + (1 : Int32)) (by rw [ko_1]) (fun v6 => [(2, .int v6), (0, .ref (E.Y.ad 3)), (1, .int p1), (3, .int x3.2)]) rfl (fun _ => rfl) rfl dX6_rankOf_28 (fun v6 => ?_)
      exact ok_sub [1, 2, 0, 3] rfl (hj31 v6)
theorem mS_RRankOf {l : Launch} {Y : Sys} {t : Nat} (hY : SysOk Y t shS) (p1 : Int32)  (M : Mm) (r : Int32) (h : S_RRankOf p1 M = some r) : Cm l Y t yX6_rankOf (WS yX6_rankOf cX6_rankOf 4 (some .int)) rmS_RRankOf [.ref (Y.ad 3), .int p1] M ((some (.int r), M)) := by
  refine cm_of (own := RX6) hY rfl rfl (Nat.le_of_ble_eq_true rfl) (fun E hE e1 e2 e3 e4 => ?_)
  subst e1
  exact tS_RRankOf E hE p1  M r h e4.symm
def S_RNextOf (p1 : Int32) (p2 : Int32) (M : Mm) : Option Int32 :=
 lett (-1 : Int32) fun v1 =>
 lett (-1 : Int32) fun v2 =>
 lett (0 : Int32) fun v3 =>
 lett (fun (u_3 : Int32) (u_4 : Int32) =>
 if 0 ≤ u_3 then
 (some u_3)
 else
 (some u_4)) fun j99 =>
 loopR (fun (rec8 : (Int32 × Int32 × Int32) → Option Int32) (x6 : Int32 × Int32 × Int32) =>
 if ((gI M 3 1) * (6 : Int32)) ≤ x6.2.2 then
 (j99 x6.1 x6.2.1)
 else
 (ald (x6.2.2 + (5 : Int32)) 324 (lett (fun (u_6 : Int32) (u_7 : Int32) =>
 lett (x6.2.2 + (6 : Int32)) fun v9 =>
 rec8 (u_6, u_7, v9)) fun j93 =>
 if (gI M 4 (ix (x6.2.2 + (5 : Int32)))) = p1 then
 (ald (x6.2.2 + (0 : Int32)) 324 (lett (gI M 4 (ix (x6.2.2 + (0 : Int32)))) fun v10 =>
 lett (fun (u_10 : Int32) =>
 if v10 < p2 then
 (j93 x6.1 u_10)
 else
 (lett (fun (_ : Unit) =>
 lett x6.2.2 fun v12 =>
 j93 v12 u_10) fun j90 =>
 if x6.1 < 0 then
 (j90 ())
 else
 (ald (x6.1 + (0 : Int32)) 324 (if (gI M 4 (ix (x6.1 + (0 : Int32)))) ≤ v10 then
 (j93 x6.1 u_10)
 else
 (j90 ()))))) fun j67 =>
 lett (fun (_ : Unit) =>
 lett x6.2.2 fun v13 =>
 j67 v13) fun j63 =>
 if x6.2.1 < 0 then
 (j63 ())
 else
 (ald (x6.2.1 + (0 : Int32)) 324 (if (gI M 4 (ix (x6.2.1 + (0 : Int32)))) ≤ v10 then
 (j67 x6.2.1)
 else
 (j63 ())))))
 else
 (j93 x6.1 x6.2.1)))) 1000000 (v1, v2, v3)
abbrev rmS_RNextOf : Room := { frames := 0, cells := 0, slots := 0, locals := 0 }
set_option maxHeartbeats 4000000 in
set_option maxRecDepth 100000 in
theorem tS_RNextOf (E : Cx) (hE : CxOk E cX6_nextOf RX6 shS (some .int) rmS_RNextOf 7) (p1 : Int32) (p2 : Int32)  (M : Mm) : Ok E 0 [(0, .ref (E.Y.ad 3)), (1, .int p1), (2, .int p2)] [] M (S_RNextOf p1 p2 M) (KIp E M) := by
  unfold S_RNextOf
  refine ok_iconst hE (-1 : Int32) ki_m1 dX6_nextOf_0 ?_
  refine ok_istore_n hE (fun v1 => [(3, .int v1), (0, .ref (E.Y.ad 3)), (1, .int p1), (2, .int p2)]) (fun _ => rfl) rfl dX6_nextOf_1 (fun v1 => ?_)
  refine ok_iconst hE (-1 : Int32) ki_m1 dX6_nextOf_2 ?_
  refine ok_istore hE (fun v2 => [(4, .int v2), (3, .int v1), (0, .ref (E.Y.ad 3)), (1, .int p1), (2, .int p2)]) (fun _ => rfl) rfl dX6_nextOf_3 (fun v2 => ?_)
  refine ok_iconst hE (0 : Int32) ki_0 dX6_nextOf_5 ?_
  refine ok_istore hE (fun v3 => [(5, .int v3), (4, .int v2), (3, .int v1), (0, .ref (E.Y.ad 3)), (1, .int p1), (2, .int p2)]) (fun _ => rfl) rfl dX6_nextOf_6 (fun v3 => ?_)
  refine ok_fun (fun j => ∀ (u_3 : Int32) (u_4 : Int32), Ok E 99 [(3, .int u_3), (4, .int u_4)] [] M (j u_3 u_4) (KIp E M)) (fun u_3 u_4 => ?_) (fun j99 hj99 => ?_)
  · refine ok_iload_n hE 0 rfl dX6_nextOf_99 ?_
    refine ok_if_ge hE 108 rfl dX6_nextOf_100 ?_ ?_
    · refine ok_iload_n hE 0 rfl dX6_nextOf_108 ?_
      exact ok_ireturnP hE dX6_nextOf_109
    · refine ok_iload hE 1 rfl dX6_nextOf_103 ?_
      refine ok_goto hE 109 rfl dX6_nextOf_105 ?_
      exact ok_ireturnP hE dX6_nextOf_109
  refine ok_sub [3, 4, 5, 2, 1, 0] rfl (ok_loop (σ := Int32 × Int32 × Int32) 8 (fun x6 => [(0, .ref (E.Y.ad 3)), (1, .int p1), (2, .int p2), (3, .int x6.1), (4, .int x6.2.1), (5, .int x6.2.2)]) (fun x6 => M) (fun rec8 hrec8 x6 => ?_) 1000000 (v1, v2, v3))
  refine ok_iload hE 5 rfl dX6_nextOf_8 ?_
  refine ok_aload_n hE 0 rfl dX6_nextOf_10 ?_
  refine ok_getI hE fl_X6_15 shS_3 rfl dX6_nextOf_11 ?_
  refine ok_bipush hE (6 : Int32) kb_6 dX6_nextOf_14 ?_
  refine ok_imul hE dX6_nextOf_16 ?_
  refine ok_icmp_ge hE 99 rfl dX6_nextOf_17 ?_ ?_
  · exact ok_sub [3, 4] rfl (hj99 x6.1 x6.2.1)
  · refine ok_aload_n hE 0 rfl dX6_nextOf_20 ?_
    refine ok_getC hE fl_X6_11 shS_3 rfl dX6_nextOf_21 ?_
    refine ok_iload hE 5 rfl dX6_nextOf_24 ?_
    refine ok_iconst hE (5 : Int32) ki_5 dX6_nextOf_26 ?_
    refine ok_iadd hE dX6_nextOf_27 ?_
    refine ok_iaload hE shS_4 dX6_nextOf_28 ?_
    refine ok_iload_n hE 1 rfl dX6_nextOf_29 ?_
    refine ok_fun (fun j => ∀ (u_6 : Int32) (u_7 : Int32), Ok E 93 [(0, .ref (E.Y.ad 3)), (1, .int p1), (2, .int p2), (3, .int u_6), (4, .int u_7), (5, .int x6.2.2)] [] M (j u_6 u_7) (KIp E M)) (fun u_6 u_7 => ?_) (fun j93 hj93 => ?_)
    · refine ok_iinc hE 5 (x6.2.2 + (6 : Int32)) (by rw [ko_6]) (fun v9 => [(5, .int v9), (0, .ref (E.Y.ad 3)), (1, .int p1), (2, .int p2), (3, .int u_6), (4, .int u_7)]) rfl (fun _ => rfl) rfl dX6_nextOf_93 (fun v9 => ?_)
      refine ok_goto hE 8 rfl dX6_nextOf_96 ?_
      exact ok_sub [1, 2, 3, 4, 5, 0] rfl (hrec8 (u_6, u_7, v9))
    refine ok_icmp_ne hE 93 rfl dX6_nextOf_30 ?_ ?_
    · exact ok_sub [0, 1, 2, 3, 4, 5] rfl (hj93 x6.1 x6.2.1)
    · refine ok_aload_n hE 0 rfl dX6_nextOf_33 ?_
      refine ok_getC hE fl_X6_11 shS_3 rfl dX6_nextOf_34 ?_
      refine ok_iload hE 5 rfl dX6_nextOf_37 ?_
      refine ok_iconst hE (0 : Int32) ki_0 dX6_nextOf_39 ?_
      refine ok_iadd hE dX6_nextOf_40 ?_
      refine ok_iaload hE shS_4 dX6_nextOf_41 ?_
      refine ok_istore hE (fun v10 => [(6, .int v10), (0, .ref (E.Y.ad 3)), (1, .int p1), (2, .int p2), (3, .int x6.1), (4, .int x6.2.1), (5, .int x6.2.2)]) (fun _ => rfl) rfl dX6_nextOf_42 (fun v10 => ?_)
      refine ok_iload hE 5 rfl dX6_nextOf_44 ?_
      refine ok_fun (fun j => ∀ (u_10 : Int32), Ok E 67 [(0, .ref (E.Y.ad 3)), (1, .int p1), (2, .int p2), (3, .int x6.1), (4, .int u_10), (5, .int x6.2.2), (6, .int v10)] [] M (j u_10) (KIp E M)) (fun u_10 => ?_) (fun j67 hj67 => ?_)
      · refine ok_iload hE 6 rfl dX6_nextOf_67 ?_
        refine ok_iload_n hE 2 rfl dX6_nextOf_69 ?_
        refine ok_icmp_lt hE 93 rfl dX6_nextOf_70 ?_ ?_
        · exact ok_sub [0, 1, 2, 3, 4, 5] rfl (hj93 x6.1 u_10)
        · refine ok_iload_n hE 3 rfl dX6_nextOf_73 ?_
          refine ok_fun (fun j => ∀ (_ : Unit), Ok E 90 [(0, .ref (E.Y.ad 3)), (1, .int p1), (2, .int p2), (4, .int u_10), (5, .int x6.2.2)] [] M (j ()) (KIp E M)) (fun _ => ?_) (fun j90 hj90 => ?_)
          · refine ok_iload hE 4 rfl dX6_nextOf_90 ?_
            refine ok_istore_n hE (fun v12 => [(3, .int v12), (0, .ref (E.Y.ad 3)), (1, .int p1), (2, .int p2), (4, .int u_10), (5, .int x6.2.2)]) (fun _ => rfl) rfl dX6_nextOf_92 (fun v12 => ?_)
            exact ok_sub [1, 2, 3, 0, 4, 5] rfl (hj93 v12 u_10)
          refine ok_if_lt hE 90 rfl dX6_nextOf_74 ?_ ?_
          · exact ok_sub [0, 1, 2, 4, 5] rfl (hj90 ())
          · refine ok_iload hE 6 rfl dX6_nextOf_77 ?_
            refine ok_aload_n hE 0 rfl dX6_nextOf_79 ?_
            refine ok_getC hE fl_X6_11 shS_3 rfl dX6_nextOf_80 ?_
            refine ok_iload_n hE 3 rfl dX6_nextOf_83 ?_
            refine ok_iconst hE (0 : Int32) ki_0 dX6_nextOf_84 ?_
            refine ok_iadd hE dX6_nextOf_85 ?_
            refine ok_iaload hE shS_4 dX6_nextOf_86 ?_
            refine ok_icmp_ge hE 93 rfl dX6_nextOf_87 ?_ ?_
            · exact ok_sub [0, 1, 2, 3, 4, 5] rfl (hj93 x6.1 u_10)
            · exact ok_sub [0, 1, 2, 4, 5] rfl (hj90 ())
      refine ok_fun (fun j => ∀ (_ : Unit), Ok E 63 [(0, .ref (E.Y.ad 3)), (1, .int p1), (2, .int p2), (3, .int x6.1), (5, .int x6.2.2), (6, .int v10)] [] M (j ()) (KIp E M)) (fun _ => ?_) (fun j63 hj63 => ?_)
      · refine ok_iload hE 4 rfl dX6_nextOf_63 ?_
        refine ok_istore hE (fun v13 => [(4, .int v13), (0, .ref (E.Y.ad 3)), (1, .int p1), (2, .int p2), (3, .int x6.1), (5, .int x6.2.2), (6, .int v10)]) (fun _ => rfl) rfl dX6_nextOf_65 (fun v13 => ?_)
        exact ok_sub [1, 2, 3, 4, 0, 5, 6] rfl (hj67 v13)
      refine ok_if_lt hE 63 rfl dX6_nextOf_46 ?_ ?_
      · exact ok_sub [1, 2, 3, 4, 6, 0] rfl (hj63 ())
      · refine ok_iload hE 0 rfl dX6_nextOf_49 ?_
        refine ok_aload_n hE 1 rfl dX6_nextOf_51 ?_
        refine ok_getC hE fl_X6_11 shS_3 rfl dX6_nextOf_52 ?_
        refine ok_iload hE 5 rfl dX6_nextOf_55 ?_
        refine ok_iconst hE (0 : Int32) ki_0 dX6_nextOf_57 ?_
        refine ok_iadd hE dX6_nextOf_58 ?_
        refine ok_iaload hE shS_4 dX6_nextOf_59 ?_
        refine ok_icmp_ge hE 67 rfl dX6_nextOf_60 ?_ ?_
        · exact ok_sub [1, 2, 3, 4, 5, 6, 0] rfl (hj67 x6.2.1)
        · exact ok_sub [1, 2, 3, 4, 6, 0] rfl (hj63 ())
theorem mS_RNextOf {l : Launch} {Y : Sys} {t : Nat} (hY : SysOk Y t shS) (p1 : Int32) (p2 : Int32)  (M : Mm) (r : Int32) (h : S_RNextOf p1 p2 M = some r) : Cm l Y t yX6_nextOf (WS yX6_nextOf cX6_nextOf 7 (some .int)) rmS_RNextOf [.ref (Y.ad 3), .int p1, .int p2] M ((some (.int r), M)) := by
  refine cm_of (own := RX6) hY rfl rfl (Nat.le_of_ble_eq_true rfl) (fun E hE e1 e2 e3 e4 => ?_)
  subst e1
  exact tS_RNextOf E hE p1 p2  M r h e4.symm
def S_isWaiting  (M : Mm) : Option Int32 :=
 if (gI M 0 11) < 0 then
 (some (0 : Int32))
 else
 (if (gI M 0 6) = 0 then
 (ald (gI M 0 11) 6 (if (gI M (9 + 2 * ix (gI M 0 11)) 8) = 0 then
 (some (1 : Int32))
 else
 (some (0 : Int32))))
 else
 (some (0 : Int32)))
abbrev rmS_isWaiting : Room := { frames := 0, cells := 0, slots := 0, locals := 0 }
set_option maxHeartbeats 4000000 in
set_option maxRecDepth 100000 in
theorem tS_isWaiting (E : Cx) (hE : CxOk E cX8_isWaiting RX8 shS (some .boolean) rmS_isWaiting 1)   (M : Mm) : Ok E 0 [(0, .ref (E.Y.ad 0))] [] M (S_isWaiting  M) (KIp E M) := by
  unfold S_isWaiting
  refine ok_aload_n hE 0 rfl dX8_isWaiting_0 ?_
  refine ok_getI hE fl_X8_58 shS_0 rfl dX8_isWaiting_1 ?_
  refine ok_if_lt hE 33 rfl dX8_isWaiting_4 ?_ ?_
  · refine ok_iconst hE (0 : Int32) ki_0 dX8_isWaiting_33 ?_
    exact ok_zreturnP hE (Or.inl rfl) dX8_isWaiting_34
  · refine ok_aload_n hE 0 rfl dX8_isWaiting_7 ?_
    refine ok_getI hE fl_X8_41 shS_0 rfl dX8_isWaiting_8 ?_
    refine ok_if_ne hE 33 rfl dX8_isWaiting_11 ?_ ?_
    · refine ok_iconst hE (0 : Int32) ki_0 dX8_isWaiting_33 ?_
      exact ok_zreturnP hE (Or.inl rfl) dX8_isWaiting_34
    · refine ok_aload_n hE 0 rfl dX8_isWaiting_14 ?_
      refine ok_getC hE fl_X8_19 shS_0 rfl dX8_isWaiting_15 ?_
      refine ok_aload_n hE 0 rfl dX8_isWaiting_18 ?_
      refine ok_getI hE fl_X8_58 shS_0 rfl dX8_isWaiting_19 ?_
      refine ok_aaloadH hE shS_2 rfl dX8_isWaiting_22 (fun hi1 => ?_)
      refine ok_getI hE fl_X8_153 (shS_e_2 hi1) rfl dX8_isWaiting_23 ?_
      refine ok_if_ne hE 33 rfl dX8_isWaiting_26 ?_ ?_
      · refine ok_iconst hE (0 : Int32) ki_0 dX8_isWaiting_33 ?_
        exact ok_zreturnP hE (Or.inl rfl) dX8_isWaiting_34
      · refine ok_iconst hE (1 : Int32) ki_1 dX8_isWaiting_29 ?_
        refine ok_goto hE 34 rfl dX8_isWaiting_30 ?_
        exact ok_zreturnP hE (Or.inr rfl) dX8_isWaiting_34
theorem mS_isWaiting {l : Launch} {Y : Sys} {t : Nat} (hY : SysOk Y t shS)   (M : Mm) (r : Int32) (h : S_isWaiting  M = some r) : Cm l Y t yX8_isWaiting (WS yX8_isWaiting cX8_isWaiting 1 (some .boolean)) rmS_isWaiting [.ref (Y.ad 0)] M ((some (.int r), M)) := by
  refine cm_of (own := RX8) hY rfl rfl (Nat.le_of_ble_eq_true rfl) (fun E hE e1 e2 e3 e4 => ?_)
  subst e1
  exact tS_isWaiting E hE   M r h e4.symm
def S_isBacklogged (p1 : Int32) (M : Mm) : Option Int32 :=
 if p1 = (gI M 0 11) then
 (some (0 : Int32))
 else
 (ald p1 6 (if (gI M (9 + 2 * ix p1) 8) ≤ 0 then
 (some (0 : Int32))
 else
 (some (1 : Int32))))
abbrev rmS_isBacklogged : Room := { frames := 0, cells := 0, slots := 0, locals := 0 }
set_option maxHeartbeats 4000000 in
set_option maxRecDepth 100000 in
theorem tS_isBacklogged (E : Cx) (hE : CxOk E cX8_isBacklogged RX8 shS (some .boolean) rmS_isBacklogged 2) (p1 : Int32)  (M : Mm) : Ok E 0 [(0, .ref (E.Y.ad 0)), (1, .int p1)] [] M (S_isBacklogged p1 M) (KIp E M) := by
  unfold S_isBacklogged
  refine ok_iload_n hE 1 rfl dX8_isBacklogged_0 ?_
  refine ok_aload_n hE 0 rfl dX8_isBacklogged_1 ?_
  refine ok_getI hE fl_X8_58 shS_0 rfl dX8_isBacklogged_2 ?_
  refine ok_icmp_eq hE 24 rfl dX8_isBacklogged_5 ?_ ?_
  · refine ok_iconst hE (0 : Int32) ki_0 dX8_isBacklogged_24 ?_
    exact ok_zreturnP hE (Or.inl rfl) dX8_isBacklogged_25
  · refine ok_aload_n hE 0 rfl dX8_isBacklogged_8 ?_
    refine ok_getC hE fl_X8_19 shS_0 rfl dX8_isBacklogged_9 ?_
    refine ok_iload_n hE 1 rfl dX8_isBacklogged_12 ?_
    refine ok_aaloadH hE shS_2 rfl dX8_isBacklogged_13 (fun hi1 => ?_)
    refine ok_getI hE fl_X8_153 (shS_e_2 hi1) rfl dX8_isBacklogged_14 ?_
    refine ok_if_le hE 24 rfl dX8_isBacklogged_17 ?_ ?_
    · refine ok_iconst hE (0 : Int32) ki_0 dX8_isBacklogged_24 ?_
      exact ok_zreturnP hE (Or.inl rfl) dX8_isBacklogged_25
    · refine ok_iconst hE (1 : Int32) ki_1 dX8_isBacklogged_20 ?_
      refine ok_goto hE 25 rfl dX8_isBacklogged_21 ?_
      exact ok_zreturnP hE (Or.inr rfl) dX8_isBacklogged_25
theorem mS_isBacklogged {l : Launch} {Y : Sys} {t : Nat} (hY : SysOk Y t shS) (p1 : Int32)  (M : Mm) (r : Int32) (h : S_isBacklogged p1 M = some r) : Cm l Y t yX8_isBacklogged (WS yX8_isBacklogged cX8_isBacklogged 2 (some .boolean)) rmS_isBacklogged [.ref (Y.ad 0), .int p1] M ((some (.int r), M)) := by
  refine cm_of (own := RX8) hY rfl rfl (Nat.le_of_ble_eq_true rfl) (fun E hE e1 e2 e3 e4 => ?_)
  subst e1
  exact tS_isBacklogged E hE p1  M r h e4.symm
def S_weightOf (p1 : Int32) (M : Mm) : Option Int32 :=
 ald p1 6 (lett (gI M (8 + 2 * ix p1) 0) fun v2 =>
 ald p1 6 (if (gI M (9 + 2 * ix p1) 7) ≤ (gI M 0 10) then
 (some v2)
 else
 (some (v2 * (gI M 20 8)))))
abbrev rmS_weightOf : Room := { frames := 0, cells := 0, slots := 0, locals := 0 }
set_option maxHeartbeats 4000000 in
set_option maxRecDepth 100000 in
theorem tS_weightOf (E : Cx) (hE : CxOk E cX8_weightOf RX8 shS (some .int) rmS_weightOf 3) (p1 : Int32)  (M : Mm) : Ok E 0 [(0, .ref (E.Y.ad 0)), (1, .int p1)] [] M (S_weightOf p1 M) (KIp E M) := by
  unfold S_weightOf
  refine ok_aload_n hE 0 rfl dX8_weightOf_0 ?_
  refine ok_getC hE fl_X8_11 shS_0 rfl dX8_weightOf_1 ?_
  refine ok_iload_n hE 1 rfl dX8_weightOf_4 ?_
  refine ok_aaloadH hE shS_1 rfl dX8_weightOf_5 (fun hi1 => ?_)
  refine ok_getI hE fl_X8_156 (shS_e_1 hi1) rfl dX8_weightOf_6 ?_
  refine ok_istore_n hE (fun v2 => [(2, .int v2), (0, .ref (E.Y.ad 0)), (1, .int p1)]) (fun _ => rfl) rfl dX8_weightOf_9 (fun v2 => ?_)
  refine ok_aload_n hE 1 rfl dX8_weightOf_10 ?_
  refine ok_getI hE fl_X8_55 shS_0 rfl dX8_weightOf_11 ?_
  refine ok_aload_n hE 1 rfl dX8_weightOf_14 ?_
  refine ok_getC hE fl_X8_19 shS_0 rfl dX8_weightOf_15 ?_
  refine ok_iload_n hE 2 rfl dX8_weightOf_18 ?_
  refine ok_aaloadH hE shS_2 rfl dX8_weightOf_19 (fun hi3 => ?_)
  refine ok_getI hE fl_X8_159 (shS_e_2 hi3) rfl dX8_weightOf_20 ?_
  refine ok_icmp_ge hE 38 rfl dX8_weightOf_23 ?_ ?_
  · refine ok_iload_n hE 0 rfl dX8_weightOf_38 ?_
    exact ok_ireturnP hE dX8_weightOf_39
  · refine ok_iload_n hE 0 rfl dX8_weightOf_26 ?_
    refine ok_aload_n hE 1 rfl dX8_weightOf_27 ?_
    refine ok_getA hE fl_X8_85 shS_0 rfl dX8_weightOf_28 ?_
    refine ok_getI hE fl_X8_162 shS_20 rfl dX8_weightOf_31 ?_
    refine ok_imul hE dX8_weightOf_34 ?_
    refine ok_goto hE 39 rfl dX8_weightOf_35 ?_
    exact ok_ireturnP hE dX8_weightOf_39
theorem mS_weightOf {l : Launch} {Y : Sys} {t : Nat} (hY : SysOk Y t shS) (p1 : Int32)  (M : Mm) (r : Int32) (h : S_weightOf p1 M = some r) : Cm l Y t yX8_weightOf (WS yX8_weightOf cX8_weightOf 3 (some .int)) rmS_weightOf [.ref (Y.ad 0), .int p1] M ((some (.int r), M)) := by
  refine cm_of (own := RX8) hY rfl rfl (Nat.le_of_ble_eq_true rfl) (fun E hE e1 e2 e3 e4 => ?_)
  subst e1
  exact tS_weightOf E hE p1  M r h e4.symm
def S_sectorsDone  (M : Mm) : Option Int32 :=
 lett (0 : Int32) fun v1 =>
 lett (0 : Int32) fun v2 =>
 loopR (fun (rec4 : (Int32 × Int32) → Option Int32) (x3 : Int32 × Int32) =>
 if (gI M 20 11) ≤ x3.2 then
 (some x3.1)
 else
 (ald x3.2 6 (lett (x3.1 + (gI M (8 + 2 * ix x3.2) 10)) fun v5 =>
 lett (x3.2 + (1 : Int32)) fun v6 =>
 rec4 (v5, v6)))) 1000000 (v1, v2)
abbrev rmS_sectorsDone : Room := { frames := 0, cells := 0, slots := 0, locals := 0 }
set_option maxHeartbeats 4000000 in
set_option maxRecDepth 100000 in
theorem tS_sectorsDone (E : Cx) (hE : CxOk E cX8_sectorsDone RX8 shS (some .int) rmS_sectorsDone 3)   (M : Mm) : Ok E 0 [(0, .ref (E.Y.ad 0))] [] M (S_sectorsDone  M) (KIp E M) := by
  unfold S_sectorsDone
  refine ok_iconst hE (0 : Int32) ki_0 dX8_sectorsDone_0 ?_
  refine ok_istore_n hE (fun v1 => [(1, .int v1), (0, .ref (E.Y.ad 0))]) (fun _ => rfl) rfl dX8_sectorsDone_1 (fun v1 => ?_)
  refine ok_iconst hE (0 : Int32) ki_0 dX8_sectorsDone_2 ?_
  refine ok_istore_n hE (fun v2 => [(2, .int v2), (1, .int v1), (0, .ref (E.Y.ad 0))]) (fun _ => rfl) rfl dX8_sectorsDone_3 (fun v2 => ?_)
  refine ok_sub [2, 1, 0] rfl (ok_loop (σ := Int32 × Int32) 4 (fun x3 => [(0, .ref (E.Y.ad 0)), (1, .int x3.1), (2, .int x3.2)]) (fun x3 => M) (fun rec4 hrec4 x3 => ?_) 1000000 (v1, v2))
  refine ok_iload_n hE 2 rfl dX8_sectorsDone_4 ?_
  refine ok_aload_n hE 0 rfl dX8_sectorsDone_5 ?_
  refine ok_getA hE fl_X8_85 shS_0 rfl dX8_sectorsDone_6 ?_
  refine ok_getI hE fl_X8_130 shS_20 rfl dX8_sectorsDone_9 ?_
  refine ok_icmp_ge hE 33 rfl dX8_sectorsDone_12 ?_ ?_
  · refine ok_iload_n hE 1 rfl dX8_sectorsDone_33 ?_
    exact ok_ireturnP hE dX8_sectorsDone_34
  · refine ok_iload_n hE 1 rfl dX8_sectorsDone_15 ?_
    refine ok_aload_n hE 0 rfl dX8_sectorsDone_16 ?_
    refine ok_getC hE fl_X8_11 shS_0 rfl dX8_sectorsDone_17 ?_
    refine ok_iload_n hE 2 rfl dX8_sectorsDone_20 ?_
    refine ok_aaloadH hE shS_1 rfl dX8_sectorsDone_21 (fun hi4 => ?_)
    refine ok_getI hE fl_X8_165 (shS_e_1 hi4) rfl dX8_sectorsDone_22 ?_
    refine ok_iadd hE dX8_sectorsDone_25 ?_
    refine ok_istore_n hE (fun v5 => [(1, .int v5), (0, .ref (E.Y.ad 0)), (2, .int x3.2)]) (fun _ => rfl) rfl dX8_sectorsDone_26 (fun v5 => ?_)
    refine ok_iinc hE 2 (x3.2 + (1 : Int32)) (by rw [ko_1]) (fun v6 => [(2, .int v6), (1, .int v5), (0, .ref (E.Y.ad 0))]) rfl (fun _ => rfl) rfl dX8_sectorsDone_27 (fun v6 => ?_)
    refine ok_goto hE 4 rfl dX8_sectorsDone_30 ?_
    exact ok_sub [2, 1, 0] rfl (hrec4 (v5, v6))
theorem mS_sectorsDone {l : Launch} {Y : Sys} {t : Nat} (hY : SysOk Y t shS)   (M : Mm) (r : Int32) (h : S_sectorsDone  M = some r) : Cm l Y t yX8_sectorsDone (WS yX8_sectorsDone cX8_sectorsDone 3 (some .int)) rmS_sectorsDone [.ref (Y.ad 0)] M ((some (.int r), M)) := by
  refine cm_of (own := RX8) hY rfl rfl (Nat.le_of_ble_eq_true rfl) (fun E hE e1 e2 e3 e4 => ?_)
  subst e1
  exact tS_sectorsDone E hE   M r h e4.symm
def S_sectorsByWeight (p1 : Int32) (M : Mm) : Option UInt32 :=
 ald p1 6 (lett (gI M (8 + 2 * ix p1) 0) fun v2 =>
 if (1 : Int32) ≤ v2 then
 (ald p1 6 (grd ((FP.fdiv (FP.i2f (gI M (8 + 2 * ix p1) 10)) (FP.i2f v2)) &&& 0x7fffffff ≤ 0x7f800000) (some (FP.fdiv (FP.i2f (gI M (8 + 2 * ix p1) 10)) (FP.i2f v2)))))
 else
 (some FP.fconst0))
abbrev rmS_sectorsByWeight : Room := { frames := 0, cells := 0, slots := 0, locals := 0 }
set_option maxHeartbeats 4000000 in
set_option maxRecDepth 100000 in
theorem tS_sectorsByWeight (E : Cx) (hE : CxOk E cX8_sectorsByWeight RX8 shS (some .float) rmS_sectorsByWeight 3) (p1 : Int32)  (M : Mm) : Ok E 0 [(0, .ref (E.Y.ad 0)), (1, .int p1)] [] M (S_sectorsByWeight p1 M) (KFp E M) := by
  unfold S_sectorsByWeight
  refine ok_aload_n hE 0 rfl dX8_sectorsByWeight_0 ?_
  refine ok_getC hE fl_X8_11 shS_0 rfl dX8_sectorsByWeight_1 ?_
  refine ok_iload_n hE 1 rfl dX8_sectorsByWeight_4 ?_
  refine ok_aaloadH hE shS_1 rfl dX8_sectorsByWeight_5 (fun hi1 => ?_)
  refine ok_getI hE fl_X8_156 (shS_e_1 hi1) rfl dX8_sectorsByWeight_6 ?_
  refine ok_istore_n hE (fun v2 => [(2, .int v2), (0, .ref (E.Y.ad 0)), (1, .int p1)]) (fun _ => rfl) rfl dX8_sectorsByWeight_9 (fun v2 => ?_)
  refine ok_iload_n hE 0 rfl dX8_sectorsByWeight_10 ?_
  refine ok_iconst hE (1 : Int32) ki_1 dX8_sectorsByWeight_11 ?_
  refine ok_icmp_ge hE 19 rfl dX8_sectorsByWeight_12 ?_ ?_
  · refine ok_aload_n hE 1 rfl dX8_sectorsByWeight_19 ?_
    refine ok_getC hE fl_X8_11 shS_0 rfl dX8_sectorsByWeight_20 ?_
    refine ok_iload_n hE 2 rfl dX8_sectorsByWeight_23 ?_
    refine ok_aaloadH hE shS_1 rfl dX8_sectorsByWeight_24 (fun hi3 => ?_)
    refine ok_getI hE fl_X8_165 (shS_e_1 hi3) rfl dX8_sectorsByWeight_25 ?_
    refine ok_i2f hE dX8_sectorsByWeight_28 ?_
    refine ok_iload_n hE 0 rfl dX8_sectorsByWeight_29 ?_
    refine ok_i2f hE dX8_sectorsByWeight_30 ?_
    refine ok_fdiv hE dX8_sectorsByWeight_31 ?_
    exact ok_freturnP hE dX8_sectorsByWeight_32
  · refine ok_fconst0 hE dX8_sectorsByWeight_15 ?_
    refine ok_goto hE 32 rfl dX8_sectorsByWeight_16 ?_
    exact ok_freturnP hE dX8_sectorsByWeight_32
theorem mS_sectorsByWeight {l : Launch} {Y : Sys} {t : Nat} (hY : SysOk Y t shS) (p1 : Int32)  (M : Mm) (r : UInt32) (h : S_sectorsByWeight p1 M = some r) : Cm l Y t yX8_sectorsByWeight (WS yX8_sectorsByWeight cX8_sectorsByWeight 3 (some .float)) rmS_sectorsByWeight [.ref (Y.ad 0), .int p1] M ((some (.float r), M)) := by
  refine cm_of (own := RX8) hY rfl rfl (Nat.le_of_ble_eq_true rfl) (fun E hE e1 e2 e3 e4 => ?_)
  subst e1
  exact tS_sectorsByWeight E hE p1  M r h e4.symm
def S_worstProcess  (M : Mm) : Option Int32 :=
 lett (-1 : Int32) fun v1 =>
 lett (0 : Int32) fun v2 =>
 loopR (fun (rec4 : (Int32 × Int32) → Option Int32) (x3 : Int32 × Int32) =>
 if (gI M 20 11) ≤ x3.2 then
 (some x3.1)
 else
 (ald x3.2 6 (lett (fun (u_4 : Int32) =>
 lett (x3.2 + (1 : Int32)) fun v6 =>
 rec4 (u_4, v6)) fun j54 =>
 if (gI M (8 + 2 * ix x3.2) 9) ≤ 0 then
 (j54 x3.1)
 else
 (lett (fun (_ : Unit) =>
 lett x3.2 fun v7 =>
 j54 v7) fun j52 =>
 if x3.1 < 0 then
 (j52 ())
 else
 (ald x3.2 6 (ald x3.1 6 (if (gI M (8 + 2 * ix x3.2) 12) ≤ (gI M (8 + 2 * ix x3.1) 12) then
 (j54 x3.1)
 else
 (j52 ())))))))) 1000000 (v1, v2)
abbrev rmS_worstProcess : Room := { frames := 0, cells := 0, slots := 0, locals := 0 }
set_option maxHeartbeats 4000000 in
set_option maxRecDepth 100000 in
theorem tS_worstProcess (E : Cx) (hE : CxOk E cX8_worstProcess RX8 shS (some .int) rmS_worstProcess 3)   (M : Mm) : Ok E 0 [(0, .ref (E.Y.ad 0))] [] M (S_worstProcess  M) (KIp E M) := by
  unfold S_worstProcess
  refine ok_iconst hE (-1 : Int32) ki_m1 dX8_worstProcess_0 ?_
  refine ok_istore_n hE (fun v1 => [(1, .int v1), (0, .ref (E.Y.ad 0))]) (fun _ => rfl) rfl dX8_worstProcess_1 (fun v1 => ?_)
  refine ok_iconst hE (0 : Int32) ki_0 dX8_worstProcess_2 ?_
  refine ok_istore_n hE (fun v2 => [(2, .int v2), (1, .int v1), (0, .ref (E.Y.ad 0))]) (fun _ => rfl) rfl dX8_worstProcess_3 (fun v2 => ?_)
  refine ok_sub [2, 1, 0] rfl (ok_loop (σ := Int32 × Int32) 4 (fun x3 => [(0, .ref (E.Y.ad 0)), (1, .int x3.1), (2, .int x3.2)]) (fun x3 => M) (fun rec4 hrec4 x3 => ?_) 1000000 (v1, v2))
  refine ok_iload_n hE 2 rfl dX8_worstProcess_4 ?_
  refine ok_aload_n hE 0 rfl dX8_worstProcess_5 ?_
  refine ok_getA hE fl_X8_85 shS_0 rfl dX8_worstProcess_6 ?_
  refine ok_getI hE fl_X8_130 shS_20 rfl dX8_worstProcess_9 ?_
  refine ok_icmp_ge hE 60 rfl dX8_worstProcess_12 ?_ ?_
  · refine ok_iload_n hE 1 rfl dX8_worstProcess_60 ?_
    exact ok_ireturnP hE dX8_worstProcess_61
  · refine ok_aload_n hE 0 rfl dX8_worstProcess_15 ?_
    refine ok_getC hE fl_X8_11 shS_0 rfl dX8_worstProcess_16 ?_
    refine ok_iload_n hE 2 rfl dX8_worstProcess_19 ?_
    refine ok_aaloadH hE shS_1 rfl dX8_worstProcess_20 (fun hi4 => ?_)
    refine ok_getI hE fl_X8_168 (shS_e_1 hi4) rfl dX8_worstProcess_21 ?_
    refine ok_fun (fun j => ∀ (u_4 : Int32), Ok E 54 [(0, .ref (E.Y.ad 0)), (1, .int u_4), (2, .int x3.2)] [] M (j u_4) (KIp E M)) (fun u_4 => ?_) (fun j54 hj54 => ?_)
    · refine ok_iinc hE 2 (x3.2 + (1 : Int32)) (by rw [ko_1]) (fun v6 => [(2, .int v6), (0, .ref (E.Y.ad 0)), (1, .int u_4)]) rfl (fun _ => rfl) rfl dX8_worstProcess_54 (fun v6 => ?_)
      refine ok_goto hE 4 rfl dX8_worstProcess_57 ?_
      exact ok_sub [1, 2, 0] rfl (hrec4 (u_4, v6))
    refine ok_if_le hE 54 rfl dX8_worstProcess_24 ?_ ?_
    · exact ok_sub [0, 1, 2] rfl (hj54 x3.1)
    · refine ok_iload_n hE 1 rfl dX8_worstProcess_27 ?_
      refine ok_fun (fun j => ∀ (_ : Unit), Ok E 52 [(0, .ref (E.Y.ad 0)), (2, .int x3.2)] [] M (j ()) (KIp E M)) (fun _ => ?_) (fun j52 hj52 => ?_)
      · refine ok_iload_n hE 1 rfl dX8_worstProcess_52 ?_
        refine ok_istore_n hE (fun v7 => [(1, .int v7), (0, .ref (E.Y.ad 0)), (2, .int x3.2)]) (fun _ => rfl) rfl dX8_worstProcess_53 (fun v7 => ?_)
        exact ok_sub [1, 0, 2] rfl (hj54 v7)
      refine ok_if_lt hE 52 rfl dX8_worstProcess_28 ?_ ?_
      · exact ok_sub [0, 2] rfl (hj52 ())
      · refine ok_aload_n hE 0 rfl dX8_worstProcess_31 ?_
        refine ok_getC hE fl_X8_11 shS_0 rfl dX8_worstProcess_32 ?_
        refine ok_iload_n hE 2 rfl dX8_worstProcess_35 ?_
        refine ok_aaloadH hE shS_1 rfl dX8_worstProcess_36 (fun hi8 => ?_)
        refine ok_getI hE fl_X8_171 (shS_e_1 hi8) rfl dX8_worstProcess_37 ?_
        refine ok_aload_n hE 0 rfl dX8_worstProcess_40 ?_
        refine ok_getC hE fl_X8_11 shS_0 rfl dX8_worstProcess_41 ?_
        refine ok_iload_n hE 1 rfl dX8_worstProcess_44 ?_
        refine ok_aaloadH hE shS_1 rfl dX8_worstProcess_45 (fun hi9 => ?_)
        refine ok_getI hE fl_X8_171 (shS_e_1 hi9) rfl dX8_worstProcess_46 ?_
        refine ok_icmp_le hE 54 rfl dX8_worstProcess_49 ?_ ?_
        · exact ok_sub [0, 1, 2] rfl (hj54 x3.1)
        · exact ok_sub [0, 2] rfl (hj52 ())
theorem mS_worstProcess {l : Launch} {Y : Sys} {t : Nat} (hY : SysOk Y t shS)   (M : Mm) (r : Int32) (h : S_worstProcess  M = some r) : Cm l Y t yX8_worstProcess (WS yX8_worstProcess cX8_worstProcess 3 (some .int)) rmS_worstProcess [.ref (Y.ad 0)] M ((some (.int r), M)) := by
  refine cm_of (own := RX8) hY rfl rfl (Nat.le_of_ble_eq_true rfl) (fun E hE e1 e2 e3 e4 => ?_)
  subst e1
  exact tS_worstProcess E hE   M r h e4.symm
def S_canAskByHand (p1 : Int32) (p2 : Int32) (p3 : Int32) (M : Mm) : Option Int32 :=
 ald p1 6 (if (8 : Int32) ≤ (gI M (8 + 2 * ix p1) 6) then
 (some (0 : Int32))
 else
 (if p3 < (1 : Int32) then
 (some (0 : Int32))
 else
 (if (64 : Int32) < p3 then
 (some (0 : Int32))
 else
 (if p2 < 0 then
 (some (0 : Int32))
 else
 (if ((gI M 20 0) - p3) < p2 then
 (some (0 : Int32))
 else
 (some (1 : Int32)))))))
abbrev rmS_canAskByHand : Room := { frames := 0, cells := 0, slots := 0, locals := 0 }
set_option maxHeartbeats 4000000 in
set_option maxRecDepth 100000 in
theorem tS_canAskByHand (E : Cx) (hE : CxOk E cX8_canAskByHand RX8 shS (some .boolean) rmS_canAskByHand 4) (p1 : Int32) (p2 : Int32) (p3 : Int32)  (M : Mm) : Ok E 0 [(0, .ref (E.Y.ad 0)), (1, .int p1), (2, .int p2), (3, .int p3)] [] M (S_canAskByHand p1 p2 p3 M) (KIp E M) := by
  unfold S_canAskByHand
  refine ok_aload_n hE 0 rfl dX8_canAskByHand_0 ?_
  refine ok_getC hE fl_X8_11 shS_0 rfl dX8_canAskByHand_1 ?_
  refine ok_iload_n hE 1 rfl dX8_canAskByHand_4 ?_
  refine ok_aaloadH hE shS_1 rfl dX8_canAskByHand_5 (fun hi1 => ?_)
  refine ok_getI hE fl_X8_172 (shS_e_1 hi1) rfl dX8_canAskByHand_6 ?_
  refine ok_bipush hE (8 : Int32) kb_8 dX8_canAskByHand_9 ?_
  refine ok_icmp_ge hE 46 rfl dX8_canAskByHand_11 ?_ ?_
  · refine ok_iconst hE (0 : Int32) ki_0 dX8_canAskByHand_46 ?_
    exact ok_zreturnP hE (Or.inl rfl) dX8_canAskByHand_47
  · refine ok_iload_n hE 3 rfl dX8_canAskByHand_14 ?_
    refine ok_iconst hE (1 : Int32) ki_1 dX8_canAskByHand_15 ?_
    refine ok_icmp_lt hE 46 rfl dX8_canAskByHand_16 ?_ ?_
    · refine ok_iconst hE (0 : Int32) ki_0 dX8_canAskByHand_46 ?_
      exact ok_zreturnP hE (Or.inl rfl) dX8_canAskByHand_47
    · refine ok_iload_n hE 3 rfl dX8_canAskByHand_19 ?_
      refine ok_bipush hE (64 : Int32) kb_64 dX8_canAskByHand_20 ?_
      refine ok_icmp_gt hE 46 rfl dX8_canAskByHand_22 ?_ ?_
      · refine ok_iconst hE (0 : Int32) ki_0 dX8_canAskByHand_46 ?_
        exact ok_zreturnP hE (Or.inl rfl) dX8_canAskByHand_47
      · refine ok_iload_n hE 2 rfl dX8_canAskByHand_25 ?_
        refine ok_if_lt hE 46 rfl dX8_canAskByHand_26 ?_ ?_
        · refine ok_iconst hE (0 : Int32) ki_0 dX8_canAskByHand_46 ?_
          exact ok_zreturnP hE (Or.inl rfl) dX8_canAskByHand_47
        · refine ok_iload_n hE 2 rfl dX8_canAskByHand_29 ?_
          refine ok_aload_n hE 0 rfl dX8_canAskByHand_30 ?_
          refine ok_getA hE fl_X8_85 shS_0 rfl dX8_canAskByHand_31 ?_
          refine ok_getI hE fl_X8_175 shS_20 rfl dX8_canAskByHand_34 ?_
          refine ok_iload_n hE 3 rfl dX8_canAskByHand_37 ?_
          refine ok_isub hE dX8_canAskByHand_38 ?_
          refine ok_icmp_gt hE 46 rfl dX8_canAskByHand_39 ?_ ?_
          · refine ok_iconst hE (0 : Int32) ki_0 dX8_canAskByHand_46 ?_
            exact ok_zreturnP hE (Or.inl rfl) dX8_canAskByHand_47
          · refine ok_iconst hE (1 : Int32) ki_1 dX8_canAskByHand_42 ?_
            refine ok_goto hE 47 rfl dX8_canAskByHand_43 ?_
            exact ok_zreturnP hE (Or.inr rfl) dX8_canAskByHand_47
theorem mS_canAskByHand {l : Launch} {Y : Sys} {t : Nat} (hY : SysOk Y t shS) (p1 : Int32) (p2 : Int32) (p3 : Int32)  (M : Mm) (r : Int32) (h : S_canAskByHand p1 p2 p3 M = some r) : Cm l Y t yX8_canAskByHand (WS yX8_canAskByHand cX8_canAskByHand 4 (some .boolean)) rmS_canAskByHand [.ref (Y.ad 0), .int p1, .int p2, .int p3] M ((some (.int r), M)) := by
  refine cm_of (own := RX8) hY rfl rfl (Nat.le_of_ble_eq_true rfl) (fun E hE e1 e2 e3 e4 => ?_)
  subst e1
  exact tS_canAskByHand E hE p1 p2 p3  M r h e4.symm
def S_leastStart  (M : Mm) : Option UInt32 :=
 lett FP.fconst0 fun v1 =>
 lett (0 : Int32) fun v2 =>
 lett (0 : Int32) fun v3 =>
 loopR (fun (rec6 : (UInt32 × Int32 × Int32) → Option UInt32) (x4 : UInt32 × Int32 × Int32) =>
 if (gI M 20 11) ≤ x4.2.2 then
 (some x4.1)
 else
 (ald x4.2.2 6 (lett (fun (u_5 : UInt32) (u_6 : Int32) =>
 lett (x4.2.2 + (1 : Int32)) fun v8 =>
 rec6 (u_5, u_6, v8)) fun j59 =>
 if (gI M (9 + 2 * ix x4.2.2) 8) ≤ 0 then
 (j59 x4.1 x4.2.1)
 else
 (lett (fun (_ : Unit) =>
 ald x4.2.2 6 (lett (gF M (9 + 2 * ix x4.2.2) 0) fun v10 =>
 lett (1 : Int32) fun v11 =>
 j59 v10 v11)) fun j47 =>
 if x4.2.1 = 0 then
 (j47 ())
 else
 (ald x4.2.2 6 (if 0 ≤ (Op.cmpValue (FP.fcmp (gF M (9 + 2 * ix x4.2.2) 0) x4.1) .g) then
 (j59 x4.1 x4.2.1)
 else
 (j47 ()))))))) 1000000 (v1, v2, v3)
abbrev rmS_leastStart : Room := { frames := 0, cells := 0, slots := 0, locals := 0 }
set_option maxHeartbeats 4000000 in
set_option maxRecDepth 100000 in
theorem tS_leastStart (E : Cx) (hE : CxOk E cX8_leastStart RX8 shS (some .float) rmS_leastStart 4)   (M : Mm) : Ok E 0 [(0, .ref (E.Y.ad 0))] [] M (S_leastStart  M) (KFp E M) := by
  unfold S_leastStart
  refine ok_fconst0 hE dX8_leastStart_0 ?_
  refine ok_fstore_n hE (fun v1 => [(1, .float v1), (0, .ref (E.Y.ad 0))]) (fun _ => rfl) rfl dX8_leastStart_1 (fun v1 => ?_)
  refine ok_iconst hE (0 : Int32) ki_0 dX8_leastStart_2 ?_
  refine ok_istore_n hE (fun v2 => [(2, .int v2), (1, .float v1), (0, .ref (E.Y.ad 0))]) (fun _ => rfl) rfl dX8_leastStart_3 (fun v2 => ?_)
  refine ok_iconst hE (0 : Int32) ki_0 dX8_leastStart_4 ?_
  refine ok_istore_n hE (fun v3 => [(3, .int v3), (2, .int v2), (1, .float v1), (0, .ref (E.Y.ad 0))]) (fun _ => rfl) rfl dX8_leastStart_5 (fun v3 => ?_)
  refine ok_sub [3, 2, 1, 0] rfl (ok_loop (σ := UInt32 × Int32 × Int32) 6 (fun x4 => [(0, .ref (E.Y.ad 0)), (1, .float x4.1), (2, .int x4.2.1), (3, .int x4.2.2)]) (fun x4 => M) (fun rec6 hrec6 x4 => ?_) 1000000 (v1, v2, v3))
  refine ok_iload_n hE 3 rfl dX8_leastStart_6 ?_
  refine ok_aload_n hE 0 rfl dX8_leastStart_7 ?_
  refine ok_getA hE fl_X8_85 shS_0 rfl dX8_leastStart_8 ?_
  refine ok_getI hE fl_X8_130 shS_20 rfl dX8_leastStart_11 ?_
  refine ok_icmp_ge hE 65 rfl dX8_leastStart_14 ?_ ?_
  · refine ok_fload_n hE 1 rfl dX8_leastStart_65 ?_
    exact ok_freturnP hE dX8_leastStart_66
  · refine ok_aload_n hE 0 rfl dX8_leastStart_17 ?_
    refine ok_getC hE fl_X8_19 shS_0 rfl dX8_leastStart_18 ?_
    refine ok_iload_n hE 3 rfl dX8_leastStart_21 ?_
    refine ok_aaloadH hE shS_2 rfl dX8_leastStart_22 (fun hi5 => ?_)
    refine ok_getI hE fl_X8_153 (shS_e_2 hi5) rfl dX8_leastStart_23 ?_
    refine ok_fun (fun j => ∀ (u_5 : UInt32) (u_6 : Int32), Ok E 59 [(0, .ref (E.Y.ad 0)), (1, .float u_5), (2, .int u_6), (3, .int x4.2.2)] [] M (j u_5 u_6) (KFp E M)) (fun u_5 u_6 => ?_) (fun j59 hj59 => ?_)
    · refine ok_iinc hE 3 (x4.2.2 + (1 : Int32)) (by rw [ko_1]) (fun v8 => [(3, .int v8), (0, .ref (E.Y.ad 0)), (1, .float u_5), (2, .int u_6)]) rfl (fun _ => rfl) rfl dX8_leastStart_59 (fun v8 => ?_)
      refine ok_goto hE 6 rfl dX8_leastStart_62 ?_
      exact ok_sub [1, 2, 3, 0] rfl (hrec6 (u_5, u_6, v8))
    refine ok_if_le hE 59 rfl dX8_leastStart_26 ?_ ?_
    · exact ok_sub [0, 1, 2, 3] rfl (hj59 x4.1 x4.2.1)
    · refine ok_iload_n hE 2 rfl dX8_leastStart_29 ?_
      refine ok_fun (fun j => ∀ (_ : Unit), Ok E 47 [(0, .ref (E.Y.ad 0)), (3, .int x4.2.2)] [] M (j ()) (KFp E M)) (fun _ => ?_) (fun j47 hj47 => ?_)
      · refine ok_aload_n hE 0 rfl dX8_leastStart_47 ?_
        refine ok_getC hE fl_X8_19 shS_0 rfl dX8_leastStart_48 ?_
        refine ok_iload_n hE 1 rfl dX8_leastStart_51 ?_
        refine ok_aaloadH hE shS_2 rfl dX8_leastStart_52 (fun hi9 => ?_)
        refine ok_getF hE fl_X8_304 (shS_e_2 hi9) rfl dX8_leastStart_53 ?_
        refine ok_fstore_n hE (fun v10 => [(1, .float v10), (0, .ref (E.Y.ad 0)), (3, .int x4.2.2)]) (fun _ => rfl) rfl dX8_leastStart_56 (fun v10 => ?_)
        refine ok_iconst hE (1 : Int32) ki_1 dX8_leastStart_57 ?_
        refine ok_istore_n hE (fun v11 => [(2, .int v11), (1, .float v10), (0, .ref (E.Y.ad 0)), (3, .int x4.2.2)]) (fun _ => rfl) rfl dX8_leastStart_58 (fun v11 => ?_)
        exact ok_sub [2, 1, 0, 3] rfl (hj59 v10 v11)
      refine ok_if_eq hE 47 rfl dX8_leastStart_30 ?_ ?_
      · exact ok_sub [0, 3] rfl (hj47 ())
      · refine ok_aload_n hE 0 rfl dX8_leastStart_33 ?_
        refine ok_getC hE fl_X8_19 shS_0 rfl dX8_leastStart_34 ?_
        refine ok_iload_n hE 3 rfl dX8_leastStart_37 ?_
        refine ok_aaloadH hE shS_2 rfl dX8_leastStart_38 (fun hi12 => ?_)
        refine ok_getF hE fl_X8_304 (shS_e_2 hi12) rfl dX8_leastStart_39 ?_
        refine ok_fload_n hE 1 rfl dX8_leastStart_42 ?_
        refine ok_fcmp hE dX8_leastStart_43 ?_
        refine ok_if_ge hE 59 rfl dX8_leastStart_44 ?_ ?_
        · exact ok_sub [0, 1, 2, 3] rfl (hj59 x4.1 x4.2.1)
        · exact ok_sub [0, 3] rfl (hj47 ())
theorem mS_leastStart {l : Launch} {Y : Sys} {t : Nat} (hY : SysOk Y t shS)   (M : Mm) (r : UInt32) (h : S_leastStart  M = some r) : Cm l Y t yX8_leastStart (WS yX8_leastStart cX8_leastStart 4 (some .float)) rmS_leastStart [.ref (Y.ad 0)] M ((some (.float r), M)) := by
  refine cm_of (own := RX8) hY rfl rfl (Nat.le_of_ble_eq_true rfl) (fun E hE e1 e2 e3 e4 => ?_)
  subst e1
  exact tS_leastStart E hE   M r h e4.symm
def S_roundedUp (p1 : Int32) (p2 : Int32) (M : Mm) : Option Int32 :=
 if (1 : Int32) ≤ p2 then
 (grd (¬ p2 = 0) (some (((p1 + p2) - (1 : Int32)) / p2)))
 else
 (some p1)
abbrev rmS_roundedUp : Room := { frames := 0, cells := 0, slots := 0, locals := 0 }
set_option maxHeartbeats 4000000 in
set_option maxRecDepth 100000 in
theorem tS_roundedUp (E : Cx) (hE : CxOk E cX8_roundedUp RX8 shS (some .int) rmS_roundedUp 2) (p1 : Int32) (p2 : Int32)  (M : Mm) : Ok E 0 [(0, .int p1), (1, .int p2)] [] M (S_roundedUp p1 p2 M) (KIp E M) := by
  unfold S_roundedUp
  refine ok_iload_n hE 1 rfl dX8_roundedUp_0 ?_
  refine ok_iconst hE (1 : Int32) ki_1 dX8_roundedUp_1 ?_
  refine ok_icmp_ge hE 9 rfl dX8_roundedUp_2 ?_ ?_
  · refine ok_iload_n hE 0 rfl dX8_roundedUp_9 ?_
    refine ok_iload_n hE 1 rfl dX8_roundedUp_10 ?_
    refine ok_iadd hE dX8_roundedUp_11 ?_
    refine ok_iconst hE (1 : Int32) ki_1 dX8_roundedUp_12 ?_
    refine ok_isub hE dX8_roundedUp_13 ?_
    refine ok_iload_n hE 1 rfl dX8_roundedUp_14 ?_
    refine ok_idiv hE dX8_roundedUp_15 ?_
    exact ok_ireturnP hE dX8_roundedUp_16
  · refine ok_iload_n hE 0 rfl dX8_roundedUp_5 ?_
    refine ok_goto hE 16 rfl dX8_roundedUp_6 ?_
    exact ok_ireturnP hE dX8_roundedUp_16
theorem mS_roundedUp {l : Launch} {Y : Sys} {t : Nat} (hY : SysOk Y t shS) (p1 : Int32) (p2 : Int32)  (M : Mm) (r : Int32) (h : S_roundedUp p1 p2 M = some r) : Cm l Y t yX8_roundedUp (WS yX8_roundedUp cX8_roundedUp 2 (some .int)) rmS_roundedUp [.int p1, .int p2] M ((some (.int r), M)) := by
  refine cm_of (own := RX8) hY rfl rfl (Nat.le_of_ble_eq_true rfl) (fun E hE e1 e2 e3 e4 => ?_)
  subst e1
  exact tS_roundedUp E hE p1 p2  M r h e4.symm
def S_go (p1 : Int32) (M : Mm) : Option Mm :=
 if p1 < 0 then
 (some M)
 else
 (if (p1 + (6 : Int32)) ≤ ((gI M 3 1) * (6 : Int32)) then
 (bnd (S_RMoveOut p1 M) fun M1 =>
 ald (gI M1 0 11) 6 (lett (sI M1 (9 + 2 * ix (gI M1 0 11)) 8 ((gI M1 (9 + 2 * ix (gI M1 0 11)) 8) - (1 : Int32))) fun M3 =>
 ald (0 : Int32) 6 (lett (mabsI ((gI M3 5 (ix (0 : Int32))) - (gI M3 0 7))) fun v4 =>
 bnd (S_roundedUp v4 (gI M3 20 1) M3) fun r5 =>
 ald (1 : Int32) 6 (bnd (S_roundedUp (gI M3 5 (ix (1 : Int32))) (gI M3 20 2) M3) fun r6 =>
 lett (sI M3 0 6 (r5 + r6)) fun M7 =>
 some M7))))
 else
 (some M))
abbrev rmS_go : Room := { frames := 2, cells := 0, slots := 0, locals := 71 }
set_option maxHeartbeats 4000000 in
set_option maxRecDepth 100000 in
theorem tS_go (E : Cx) (hE : CxOk E cX8_go RX8 shS none rmS_go 3) (p1 : Int32)  (M : Mm) : Ok E 0 [(0, .ref (E.Y.ad 0)), (1, .int p1)] [] M (S_go p1 M) (KV E) := by
  unfold S_go
  refine ok_iload_n hE 1 rfl dX8_go_0 ?_
  refine ok_if_lt hE 21 rfl dX8_go_1 ?_ ?_
  · exact ok_return hE dX8_go_21
  · refine ok_iload_n hE 1 rfl dX8_go_4 ?_
    refine ok_bipush hE (6 : Int32) kb_6 dX8_go_5 ?_
    refine ok_iadd hE dX8_go_7 ?_
    refine ok_aload_n hE 0 rfl dX8_go_8 ?_
    refine ok_getC hE fl_X8_26 shS_0 rfl dX8_go_9 ?_
    refine ok_getI hE fl_X8_112 shS_3 rfl dX8_go_12 ?_
    refine ok_bipush hE (6 : Int32) kb_6 dX8_go_15 ?_
    refine ok_imul hE dX8_go_17 ?_
    refine ok_icmp_le hE 22 rfl dX8_go_18 ?_ ?_
    · refine ok_aload_n hE 0 rfl dX8_go_22 ?_
      refine ok_getC hE fl_X8_26 shS_0 rfl dX8_go_23 ?_
      refine ok_iload_n hE 1 rfl dX8_go_26 ?_
      refine ok_aload_n hE 0 rfl dX8_go_27 ?_
      refine ok_getC hE fl_X8_30 shS_0 rfl dX8_go_28 ?_
      refine ok_cvV hE rmS_RMoveOut [.int p1, .ref (E.Y.ad 5)] [] rfl ca_X8_331 shS_3 rfl (fun _ hx => mS_RMoveOut hE.sys _  _ _ hx) ⟨rfl, rfl, rfl, rfl⟩ rfl rfl dX8_go_31 (fun M1 => ?_)
      refine ok_aload_n hE 0 rfl dX8_go_34 ?_
      refine ok_getC hE fl_X8_19 shS_0 rfl dX8_go_35 ?_
      refine ok_aload_n hE 0 rfl dX8_go_38 ?_
      refine ok_getI hE fl_X8_58 shS_0 rfl dX8_go_39 ?_
      refine ok_aaloadH hE shS_2 rfl dX8_go_42 (fun hi2 => ?_)
      refine ok_dup hE rfl dX8_go_43 ?_
      refine ok_getI hE fl_X8_153 (shS_e_2 hi2) rfl dX8_go_44 ?_
      refine ok_iconst hE (1 : Int32) ki_1 dX8_go_47 ?_
      refine ok_isub hE dX8_go_48 ?_
      refine ok_putI hE fl_X8_153 (shS_e_2 hi2) rfl dX8_go_49 (fun M3 => ?_)
      refine ok_aload_n hE 0 rfl dX8_go_52 ?_
      refine ok_getC hE fl_X8_30 shS_0 rfl dX8_go_53 ?_
      refine ok_iconst hE (0 : Int32) ki_0 dX8_go_56 ?_
      refine ok_iaload hE shS_5 dX8_go_57 ?_
      refine ok_aload_n hE 0 rfl dX8_go_58 ?_
      refine ok_getI hE fl_X8_45 shS_0 rfl dX8_go_59 ?_
      refine ok_isub hE dX8_go_62 ?_
      refine ok_mabs hE mt_X8_335 ⟨rfl, rfl⟩ dX8_go_63 ?_
      refine ok_istore_n hE (fun v4 => [(2, .int v4), (0, .ref (E.Y.ad 0)), (1, .int p1)]) (fun _ => rfl) rfl dX8_go_66 (fun v4 => ?_)
      refine ok_aload_n hE 1 rfl dX8_go_67 ?_
      refine ok_iload_n hE 0 rfl dX8_go_68 ?_
      refine ok_aload_n hE 1 rfl dX8_go_69 ?_
      refine ok_getA hE fl_X8_85 shS_0 rfl dX8_go_70 ?_
      refine ok_getI hE fl_X8_338 shS_20 rfl dX8_go_73 ?_
      refine ok_csIp hE rmS_roundedUp [.int v4, .int (gI M3 20 1)] [.ref (E.Y.ad 0)] rfl ca_X8_341 (fun _ hx => mS_roundedUp hE.sys _ _  _ _ hx) ⟨rfl, rfl, rfl, rfl⟩ rfl rfl dX8_go_76 (fun r5 => ?_)
      refine ok_aload_n hE 1 rfl dX8_go_79 ?_
      refine ok_getC hE fl_X8_30 shS_0 rfl dX8_go_80 ?_
      refine ok_iconst hE (1 : Int32) ki_1 dX8_go_83 ?_
      refine ok_iaload hE shS_5 dX8_go_84 ?_
      refine ok_aload_n hE 1 rfl dX8_go_85 ?_
      refine ok_getA hE fl_X8_85 shS_0 rfl dX8_go_86 ?_
      refine ok_getI hE fl_X8_118 shS_20 rfl dX8_go_89 ?_
      refine ok_csIp hE rmS_roundedUp [.int (gI M3 5 (ix (1 : Int32))), .int (gI M3 20 2)] [.int r5, .ref (E.Y.ad 0)] rfl ca_X8_341 (fun _ hx => mS_roundedUp hE.sys _ _  _ _ hx) ⟨rfl, rfl, rfl, rfl⟩ rfl rfl dX8_go_92 (fun r6 => ?_)
      refine ok_iadd hE dX8_go_95 ?_
      refine ok_putI hE fl_X8_41 shS_0 rfl dX8_go_96 (fun M7 => ?_)
      exact ok_return hE dX8_go_99
    · exact ok_return hE dX8_go_21
theorem mS_go {l : Launch} {Y : Sys} {t : Nat} (hY : SysOk Y t shS) (p1 : Int32)  (M : Mm) (r : Mm) (h : S_go p1 M = some r) : Cm l Y t yX8_go (WS yX8_go cX8_go 3 none) rmS_go [.ref (Y.ad 0), .int p1] M (enV r) := by
  refine cm_of (own := RX8) hY rfl rfl (Nat.le_of_ble_eq_true rfl) (fun E hE e1 e2 e3 e4 => ?_)
  subst e1
  exact tS_go E hE p1  M r h e4.symm
def S_activate  (M : Mm) : Option Mm :=
 if (gI M 3 1) = 0 then
 (some M)
 else
 (bnd (S_leastStart M) fun r1 =>
 lett r1 fun v2 =>
 lett (fun (w_2 : UInt32) =>
 lett (sF M 0 8 w_2) fun M4 =>
 lett (-1 : Int32) fun v5 =>
 lett (0 : Int32) fun v6 =>
 lett (fun (u_6 : Int32) =>
 if u_6 < 0 then
 (some M4)
 else
 (lett (sI M4 0 11 u_6) fun M8 =>
 lett (sI M8 0 12 (gI M8 0 10)) fun M9 =>
 lett (sI M9 0 13 (0 : Int32)) fun M10 =>
 bnd (S_RNextOf u_6 (gI M10 0 7) M10) fun r11 =>
 bnd (S_go r11 M10) fun M12 =>
 some M12)) fun j115 =>
 loopR (fun (rec41 : (Int32 × Int32) → Option Mm) (x13 : Int32 × Int32) =>
 if (gI M4 20 11) ≤ x13.2 then
 (j115 x13.1)
 else
 (ald x13.2 6 (lett (fun (u_14 : Int32) =>
 lett (x13.2 + (1 : Int32)) fun v16 =>
 rec41 (u_14, v16)) fun j109 =>
 if (gI M4 (9 + 2 * ix x13.2) 8) ≤ 0 then
 (j109 x13.1)
 else
 (ald x13.2 6 (if 0 < (Op.cmpValue (FP.fcmp (gF M4 (9 + 2 * ix x13.2) 0) (gF M4 0 8)) .g) then
 (j109 x13.1)
 else
 (lett (fun (_ : Unit) =>
 lett x13.2 fun v18 =>
 j109 v18) fun j107 =>
 if x13.1 < 0 then
 (j107 ())
 else
 (ald x13.2 6 (ald x13.1 6 (if 0 ≤ (Op.cmpValue (FP.fcmp (gF M4 (9 + 2 * ix x13.2) 1) (gF M4 (9 + 2 * ix x13.1) 1)) .g) then
 (j109 x13.1)
 else
 (j107 ())))))))))) 1000000 (v5, v6)) fun j34 =>
 if (Op.cmpValue (FP.fcmp v2 (gF M 0 8)) .l) ≤ 0 then
 (j34 (gF M 0 8))
 else
 (j34 v2))
abbrev rmS_activate : Room := { frames := 3, cells := 0, slots := 0, locals := 93 }
set_option maxHeartbeats 4000000 in
set_option maxRecDepth 100000 in
theorem tS_activate (E : Cx) (hE : CxOk E cX8_activate RX8 shS none rmS_activate 4)   (M : Mm) : Ok E 0 [(0, .ref (E.Y.ad 0))] [] M (S_activate  M) (KV E) := by
  unfold S_activate
  refine ok_aload_n hE 0 rfl dX8_activate_0 ?_
  refine ok_getC hE fl_X8_26 shS_0 rfl dX8_activate_1 ?_
  refine ok_getI hE fl_X8_112 shS_3 rfl dX8_activate_4 ?_
  refine ok_if_ne hE 11 rfl dX8_activate_7 ?_ ?_
  · refine ok_aload_n hE 0 rfl dX8_activate_11 ?_
    refine ok_cvFp hE rmS_leastStart [] [] rfl ca_X8_327 shS_0 rfl (fun _ hx => mS_leastStart hE.sys   _ _ hx) ⟨rfl, rfl, rfl, rfl⟩ rfl rfl dX8_activate_12 (fun r1 => ?_)
    refine ok_fstore_n hE (fun v2 => [(1, .float v2), (0, .ref (E.Y.ad 0))]) (fun _ => rfl) rfl dX8_activate_15 (fun v2 => ?_)
    refine ok_aload_n hE 1 rfl dX8_activate_16 ?_
    refine ok_fload_n hE 0 rfl dX8_activate_17 ?_
    refine ok_aload_n hE 1 rfl dX8_activate_18 ?_
    refine ok_getF hE fl_X8_48 shS_0 rfl dX8_activate_19 ?_
    refine ok_fcmp hE dX8_activate_22 ?_
    refine ok_fun (fun j => ∀ (w_2 : UInt32), Ok E 34 [(0, .ref (E.Y.ad 0))] [.float w_2, .ref (E.Y.ad 0)] M (j w_2) (KV E)) (fun w_2 => ?_) (fun j34 hj34 => ?_)
    · refine ok_putF hE fl_X8_48 shS_0 rfl dX8_activate_34 (fun M4 => ?_)
      refine ok_iconst hE (-1 : Int32) ki_m1 dX8_activate_37 ?_
      refine ok_istore_n hE (fun v5 => [(2, .int v5), (0, .ref (E.Y.ad 0))]) (fun _ => rfl) rfl dX8_activate_38 (fun v5 => ?_)
      refine ok_iconst hE (0 : Int32) ki_0 dX8_activate_39 ?_
      refine ok_istore_n hE (fun v6 => [(3, .int v6), (2, .int v5), (0, .ref (E.Y.ad 0))]) (fun _ => rfl) rfl dX8_activate_40 (fun v6 => ?_)
      refine ok_fun (fun j => ∀ (u_6 : Int32), Ok E 115 [(0, .ref (E.Y.ad 0)), (2, .int u_6)] [] M4 (j u_6) (KV E)) (fun u_6 => ?_) (fun j115 hj115 => ?_)
      · refine ok_iload_n hE 1 rfl dX8_activate_115 ?_
        refine ok_if_lt hE 153 rfl dX8_activate_116 ?_ ?_
        · exact ok_return hE dX8_activate_153
        · refine ok_aload_n hE 0 rfl dX8_activate_119 ?_
          refine ok_iload_n hE 1 rfl dX8_activate_120 ?_
          refine ok_putI hE fl_X8_58 shS_0 rfl dX8_activate_121 (fun M8 => ?_)
          refine ok_aload_n hE 0 rfl dX8_activate_124 ?_
          refine ok_aload_n hE 0 rfl dX8_activate_125 ?_
          refine ok_getI hE fl_X8_55 shS_0 rfl dX8_activate_126 ?_
          refine ok_putI hE fl_X8_61 shS_0 rfl dX8_activate_129 (fun M9 => ?_)
          refine ok_aload_n hE 0 rfl dX8_activate_132 ?_
          refine ok_iconst hE (0 : Int32) ki_0 dX8_activate_133 ?_
          refine ok_putI hE fl_X8_64 shS_0 rfl dX8_activate_134 (fun M10 => ?_)
          refine ok_aload_n hE 0 rfl dX8_activate_137 ?_
          refine ok_aload_n hE 0 rfl dX8_activate_138 ?_
          refine ok_getC hE fl_X8_26 shS_0 rfl dX8_activate_139 ?_
          refine ok_iload_n hE 1 rfl dX8_activate_142 ?_
          refine ok_aload_n hE 0 rfl dX8_activate_143 ?_
          refine ok_getI hE fl_X8_45 shS_0 rfl dX8_activate_144 ?_
          refine ok_cvIp hE rmS_RNextOf [.int u_6, .int (gI M10 0 7)] [.ref (E.Y.ad 0)] rfl ca_X8_314 shS_3 rfl (fun _ hx => mS_RNextOf hE.sys _ _  _ _ hx) ⟨rfl, rfl, rfl, rfl⟩ rfl rfl dX8_activate_147 (fun r11 => ?_)
          refine ok_cvV hE rmS_go [.int r11] [] rfl ca_X8_321 shS_0 rfl (fun _ hx => mS_go hE.sys _  _ _ hx) ⟨rfl, rfl, rfl, rfl⟩ rfl rfl dX8_activate_150 (fun M12 => ?_)
          exact ok_return hE dX8_activate_153
      refine ok_sub [2, 1, 0] rfl (ok_loop (σ := Int32 × Int32) 41 (fun x13 => [(0, .ref (E.Y.ad 0)), (2, .int x13.1), (3, .int x13.2)]) (fun x13 => M4) (fun rec41 hrec41 x13 => ?_) 1000000 (v5, v6))
      refine ok_iload_n hE 2 rfl dX8_activate_41 ?_
      refine ok_aload_n hE 0 rfl dX8_activate_42 ?_
      refine ok_getA hE fl_X8_85 shS_0 rfl dX8_activate_43 ?_
      refine ok_getI hE fl_X8_130 shS_20 rfl dX8_activate_46 ?_
      refine ok_icmp_ge hE 115 rfl dX8_activate_49 ?_ ?_
      · exact ok_sub [0, 1] rfl (hj115 x13.1)
      · refine ok_aload_n hE 0 rfl dX8_activate_52 ?_
        refine ok_getC hE fl_X8_19 shS_0 rfl dX8_activate_53 ?_
        refine ok_iload_n hE 2 rfl dX8_activate_56 ?_
        refine ok_aaloadH hE shS_2 rfl dX8_activate_57 (fun hi14 => ?_)
        refine ok_getI hE fl_X8_153 (shS_e_2 hi14) rfl dX8_activate_58 ?_
        refine ok_fun (fun j => ∀ (u_14 : Int32), Ok E 109 [(0, .ref (E.Y.ad 0)), (2, .int u_14), (3, .int x13.2)] [] M4 (j u_14) (KV E)) (fun u_14 => ?_) (fun j109 hj109 => ?_)
        · refine ok_iinc hE 2 (x13.2 + (1 : Int32)) (by rw [ko_1]) (fun v16 => [(3, .int v16), (0, .ref (E.Y.ad 0)), (2, .int u_14)]) rfl (fun _ => rfl) rfl dX8_activate_109 (fun v16 => ?_)
          refine ok_goto hE 41 rfl dX8_activate_112 ?_
          exact ok_sub [1, 2, 0] rfl (hrec41 (u_14, v16))
        refine ok_if_le hE 109 rfl dX8_activate_61 ?_ ?_
        · exact ok_sub [0, 1, 2] rfl (hj109 x13.1)
        · refine ok_aload_n hE 0 rfl dX8_activate_64 ?_
          refine ok_getC hE fl_X8_19 shS_0 rfl dX8_activate_65 ?_
          refine ok_iload_n hE 2 rfl dX8_activate_68 ?_
          refine ok_aaloadH hE shS_2 rfl dX8_activate_69 (fun hi17 => ?_)
          refine ok_getF hE fl_X8_304 (shS_e_2 hi17) rfl dX8_activate_70 ?_
          refine ok_aload_n hE 0 rfl dX8_activate_73 ?_
          refine ok_getF hE fl_X8_48 shS_0 rfl dX8_activate_74 ?_
          refine ok_fcmp hE dX8_activate_77 ?_
          refine ok_if_gt hE 109 rfl dX8_activate_78 ?_ ?_
          · exact ok_sub [0, 1, 2] rfl (hj109 x13.1)
          · refine ok_iload_n hE 1 rfl dX8_activate_81 ?_
            refine ok_fun (fun j => ∀ (_ : Unit), Ok E 107 [(0, .ref (E.Y.ad 0)), (3, .int x13.2)] [] M4 (j ()) (KV E)) (fun _ => ?_) (fun j107 hj107 => ?_)
            · refine ok_iload_n hE 1 rfl dX8_activate_107 ?_
              refine ok_istore_n hE (fun v18 => [(2, .int v18), (0, .ref (E.Y.ad 0)), (3, .int x13.2)]) (fun _ => rfl) rfl dX8_activate_108 (fun v18 => ?_)
              exact ok_sub [1, 0, 2] rfl (hj109 v18)
            refine ok_if_lt hE 107 rfl dX8_activate_82 ?_ ?_
            · exact ok_sub [0, 2] rfl (hj107 ())
            · refine ok_aload_n hE 0 rfl dX8_activate_85 ?_
              refine ok_getC hE fl_X8_19 shS_0 rfl dX8_activate_86 ?_
              refine ok_iload_n hE 2 rfl dX8_activate_89 ?_
              refine ok_aaloadH hE shS_2 rfl dX8_activate_90 (fun hi19 => ?_)
              refine ok_getF hE fl_X8_301 (shS_e_2 hi19) rfl dX8_activate_91 ?_
              refine ok_aload_n hE 0 rfl dX8_activate_94 ?_
              refine ok_getC hE fl_X8_19 shS_0 rfl dX8_activate_95 ?_
              refine ok_iload_n hE 1 rfl dX8_activate_98 ?_
              refine ok_aaloadH hE shS_2 rfl dX8_activate_99 (fun hi20 => ?_)
              refine ok_getF hE fl_X8_301 (shS_e_2 hi20) rfl dX8_activate_100 ?_
              refine ok_fcmp hE dX8_activate_103 ?_
              refine ok_if_ge hE 109 rfl dX8_activate_104 ?_ ?_
              · exact ok_sub [0, 1, 2] rfl (hj109 x13.1)
              · exact ok_sub [0, 2] rfl (hj107 ())
    refine ok_if_le hE 30 rfl dX8_activate_23 ?_ ?_
    · refine ok_aload_n hE 1 rfl dX8_activate_30 ?_
      refine ok_getF hE fl_X8_48 shS_0 rfl dX8_activate_31 ?_
      exact ok_sub [1] rfl (hj34 (gF M 0 8))
    · refine ok_fload_n hE 0 rfl dX8_activate_26 ?_
      refine ok_goto hE 34 rfl dX8_activate_27 ?_
      exact ok_sub [1] rfl (hj34 v2)
  · exact ok_return hE dX8_activate_10
theorem mS_activate {l : Launch} {Y : Sys} {t : Nat} (hY : SysOk Y t shS)   (M : Mm) (r : Mm) (h : S_activate  M = some r) : Cm l Y t yX8_activate (WS yX8_activate cX8_activate 4 none) rmS_activate [.ref (Y.ad 0)] M (enV r) := by
  refine cm_of (own := RX8) hY rfl rfl (Nat.le_of_ble_eq_true rfl) (fun E hE e1 e2 e3 e4 => ?_)
  subst e1
  exact tS_activate E hE   M r h e4.symm
def S_within (p1 : Int32) (p2 : Int32) (p3 : Int32) (M : Mm) : Option Int32 :=
 some (mminI (mmaxI p1 p2) p3)
abbrev rmS_within : Room := { frames := 1, cells := 0, slots := 0, locals := 21 }
set_option maxHeartbeats 4000000 in
set_option maxRecDepth 100000 in
theorem tS_within (E : Cx) (hE : CxOk E cX8_within RX8 shS (some .int) rmS_within 3) (p1 : Int32) (p2 : Int32) (p3 : Int32)  (M : Mm) : Ok E 0 [(0, .int p1), (1, .int p2), (2, .int p3)] [] M (S_within p1 p2 p3 M) (KIp E M) := by
  unfold S_within
  refine ok_iload_n hE 0 rfl dX8_within_0 ?_
  refine ok_iload_n hE 1 rfl dX8_within_1 ?_
  refine ok_mmax hE mt_X8_212 ⟨rfl, rfl⟩ dX8_within_2 ?_
  refine ok_iload_n hE 2 rfl dX8_within_5 ?_
  refine ok_mmin hE mt_X8_357 ⟨rfl, rfl⟩ dX8_within_6 ?_
  exact ok_ireturnP hE dX8_within_9
theorem mS_within {l : Launch} {Y : Sys} {t : Nat} (hY : SysOk Y t shS) (p1 : Int32) (p2 : Int32) (p3 : Int32)  (M : Mm) (r : Int32) (h : S_within p1 p2 p3 M = some r) : Cm l Y t yX8_within (WS yX8_within cX8_within 3 (some .int)) rmS_within [.int p1, .int p2, .int p3] M ((some (.int r), M)) := by
  refine cm_of (own := RX8) hY rfl rfl (Nat.le_of_ble_eq_true rfl) (fun E hE e1 e2 e3 e4 => ?_)
  subst e1
  exact tS_within E hE p1 p2 p3  M r h e4.symm
def S_wanted (p1 : Int32) (p2 : Int32) (M : Mm) : Option Int32 :=
 if p2 = (0 : Int32) then
 (some (p1 * (2 : Int32)))
 else
 (if p2 = (1 : Int32) then
 (some (gI M 0 13))
 else
 (some (mmaxI (p1 / (2 : Int32)) (gI M 0 13))))
abbrev rmS_wanted : Room := { frames := 1, cells := 0, slots := 0, locals := 21 }
set_option maxHeartbeats 4000000 in
set_option maxRecDepth 100000 in
theorem tS_wanted (E : Cx) (hE : CxOk E cX8_wanted RX8 shS (some .int) rmS_wanted 3) (p1 : Int32) (p2 : Int32)  (M : Mm) : Ok E 0 [(0, .ref (E.Y.ad 0)), (1, .int p1), (2, .int p2)] [] M (S_wanted p1 p2 M) (KIp E M) := by
  unfold S_wanted
  refine ok_iload_n hE 2 rfl dX8_wanted_0 ?_
  refine ok_ite (fun hc1 => ?_) (fun hc1 => ?_)
  · refine ok_lookup hE (off := 27) 28 dX8_wanted_1 (by decide) (by rw [hc1]; decide) rfl ?_
    refine ok_iload_n hE 1 rfl dX8_wanted_28 ?_
    refine ok_iconst hE (2 : Int32) ki_2 dX8_wanted_29 ?_
    refine ok_imul hE dX8_wanted_30 ?_
    exact ok_ireturnP hE dX8_wanted_31
  · refine ok_ite (fun hc2 => ?_) (fun hc2 => ?_)
    · refine ok_lookup hE (off := 31) 32 dX8_wanted_1 (by decide) (by rw [hc2]; decide) rfl ?_
      refine ok_aload_n hE 0 rfl dX8_wanted_32 ?_
      refine ok_getI hE fl_X8_64 shS_0 rfl dX8_wanted_33 ?_
      exact ok_ireturnP hE dX8_wanted_36
    · refine ok_lookup hE (off := 36) 37 dX8_wanted_1 (by decide) (by show Op.lookupswitch.offset ([(0, 27), (1, 31)] : List (Int × Int)) _ _ = _; rw [lv_osw (a := 0) hc1 (by decide), lv_osw (a := 1) hc2 (by decide)]; rfl) rfl ?_
      refine ok_iload_n hE 1 rfl dX8_wanted_37 ?_
      refine ok_iconst hE (2 : Int32) ki_2 dX8_wanted_38 ?_
      refine ok_idivC hE (by decide) dX8_wanted_39 ?_
      refine ok_aload_n hE 0 rfl dX8_wanted_40 ?_
      refine ok_getI hE fl_X8_64 shS_0 rfl dX8_wanted_41 ?_
      refine ok_mmax hE mt_X8_212 ⟨rfl, rfl⟩ dX8_wanted_44 ?_
      exact ok_ireturnP hE dX8_wanted_47
theorem mS_wanted {l : Launch} {Y : Sys} {t : Nat} (hY : SysOk Y t shS) (p1 : Int32) (p2 : Int32)  (M : Mm) (r : Int32) (h : S_wanted p1 p2 M = some r) : Cm l Y t yX8_wanted (WS yX8_wanted cX8_wanted 3 (some .int)) rmS_wanted [.ref (Y.ad 0), .int p1, .int p2] M ((some (.int r), M)) := by
  refine cm_of (own := RX8) hY rfl rfl (Nat.le_of_ble_eq_true rfl) (fun E hE e1 e2 e3 e4 => ?_)
  subst e1
  exact tS_wanted E hE p1 p2  M r h e4.symm
def S_after (p1 : UInt32) (p2 : Int32) (p3 : Int32) (M : Mm) : Option UInt32 :=
 bnd (S_weightOf p3 M) fun r1 =>
 lett r1 fun v2 =>
 if (1 : Int32) ≤ v2 then
 (grd ((FP.fdiv (FP.i2f p2) (FP.i2f v2)) &&& 0x7fffffff ≤ 0x7f800000) (grd ((FP.fadd p1 (FP.fdiv (FP.i2f p2) (FP.i2f v2))) &&& 0x7fffffff ≤ 0x7f800000) (some (FP.fadd p1 (FP.fdiv (FP.i2f p2) (FP.i2f v2))))))
 else
 (some p1)
abbrev rmS_after : Room := { frames := 1, cells := 0, slots := 0, locals := 22 }
set_option maxHeartbeats 4000000 in
set_option maxRecDepth 100000 in
theorem tS_after (E : Cx) (hE : CxOk E cX8_after RX8 shS (some .float) rmS_after 5) (p1 : UInt32) (p2 : Int32) (p3 : Int32)  (M : Mm) : Ok E 0 [(0, .ref (E.Y.ad 0)), (1, .float p1), (2, .int p2), (3, .int p3)] [] M (S_after p1 p2 p3 M) (KFp E M) := by
  unfold S_after
  refine ok_aload_n hE 0 rfl dX8_after_0 ?_
  refine ok_iload_n hE 3 rfl dX8_after_1 ?_
  refine ok_cvIp hE rmS_weightOf [.int p3] [] rfl ca_X8_222 shS_0 rfl (fun _ hx => mS_weightOf hE.sys _  _ _ hx) ⟨rfl, rfl, rfl, rfl⟩ rfl rfl dX8_after_2 (fun r1 => ?_)
  refine ok_istore hE (fun v2 => [(4, .int v2), (0, .ref (E.Y.ad 0)), (1, .float p1), (2, .int p2), (3, .int p3)]) (fun _ => rfl) rfl dX8_after_5 (fun v2 => ?_)
  refine ok_iload hE 0 rfl dX8_after_7 ?_
  refine ok_iconst hE (1 : Int32) ki_1 dX8_after_9 ?_
  refine ok_icmp_ge hE 17 rfl dX8_after_10 ?_ ?_
  · refine ok_fload_n hE 2 rfl dX8_after_17 ?_
    refine ok_iload_n hE 3 rfl dX8_after_18 ?_
    refine ok_i2f hE dX8_after_19 ?_
    refine ok_iload hE 0 rfl dX8_after_20 ?_
    refine ok_i2f hE dX8_after_22 ?_
    refine ok_fdiv hE dX8_after_23 ?_
    refine ok_fadd hE dX8_after_24 ?_
    exact ok_freturnP hE dX8_after_25
  · refine ok_fload_n hE 2 rfl dX8_after_13 ?_
    refine ok_goto hE 25 rfl dX8_after_14 ?_
    exact ok_freturnP hE dX8_after_25
theorem mS_after {l : Launch} {Y : Sys} {t : Nat} (hY : SysOk Y t shS) (p1 : UInt32) (p2 : Int32) (p3 : Int32)  (M : Mm) (r : UInt32) (h : S_after p1 p2 p3 M = some r) : Cm l Y t yX8_after (WS yX8_after cX8_after 5 (some .float)) rmS_after [.ref (Y.ad 0), .float p1, .int p2, .int p3] M ((some (.float r), M)) := by
  refine cm_of (own := RX8) hY rfl rfl (Nat.le_of_ble_eq_true rfl) (fun E hE e1 e2 e3 e4 => ?_)
  subst e1
  exact tS_after E hE p1 p2 p3  M r h e4.symm
def S_expire (p1 : Nat) (p2 : Int32) (M : Mm) : Option Mm :=
 lett ((gI M 0 10) - (gI M 0 12)) fun v1 =>
 lett (fun (M_1 : Mm) =>
 grd ((FP.fmul (gF M_1 0 9) (FP.i2f (gI M_1 0 17))) &&& 0x7fffffff ≤ 0x7f800000) (bnd (S_within (FP.f2i (FP.fmul (gF M_1 0 9) (FP.i2f (gI M_1 0 17)))) (gI M_1 20 3) (gI M_1 20 4) M_1) fun r3 =>
 lett (sI M_1 0 15 r3) fun M4 =>
 bnd (S_wanted (gI M4 p1 3) p2 M4) fun r5 =>
 bnd (S_within r5 (gI M4 20 3) (gI M4 0 15) M4) fun r6 =>
 lett (sI M4 p1 3 r6) fun M7 =>
 bnd (S_after (gF M7 p1 0) (gI M7 0 13) (gI M7 0 11) M7) fun r8 =>
 lett (sF M7 p1 0 r8) fun M9 =>
 lett (fun (w_9 : UInt32) =>
 lett (sF M9 p1 1 w_9) fun M11 =>
 bnd (S_KAdd (gI M11 0 10) (gI M11 0 11) p2 (gI M11 0 13) M11) fun M12 =>
 lett (sI M12 0 11 (-1 : Int32)) fun M13 =>
 some M13) fun j149 =>
 if (gI M9 p1 8) ≤ 0 then
 (j149 (gF M9 p1 0))
 else
 (bnd (S_after (gF M9 p1 0) (gI M9 p1 3) (gI M9 0 11) M9) fun r14 =>
 j149 r14))) fun j39 =>
 if v1 ≤ 0 then
 (j39 M)
 else
 (grd ((FP.fmul (gF M 0 9) (1063256064 : UInt32)) &&& 0x7fffffff ≤ 0x7f800000) (grd ((FP.fdiv (FP.i2f (gI M 0 13)) (FP.i2f v1)) &&& 0x7fffffff ≤ 0x7f800000) (grd ((FP.fmul (FP.fdiv (FP.i2f (gI M 0 13)) (FP.i2f v1)) (1040187392 : UInt32)) &&& 0x7fffffff ≤ 0x7f800000) (grd ((FP.fadd (FP.fmul (gF M 0 9) (1063256064 : UInt32)) (FP.fmul (FP.fdiv (FP.i2f (gI M 0 13)) (FP.i2f v1)) (1040187392 : UInt32))) &&& 0x7fffffff ≤ 0x7f800000) (lett (sF M 0 9 (FP.fadd (FP.fmul (gF M 0 9) (1063256064 : UInt32)) (FP.fmul (FP.fdiv (FP.i2f (gI M 0 13)) (FP.i2f v1)) (1040187392 : UInt32)))) fun M15 =>
 j39 M15)))))
abbrev rmS_expire : Room := { frames := 2, cells := 0, slots := 0, locals := 46 }
set_option maxHeartbeats 4000000 in
set_option maxRecDepth 100000 in
theorem tS_expire (E : Cx) (hE : CxOk E cX8_expire RX8 shS none rmS_expire 4) (p1 : Nat) (p2 : Int32) (hp1 : shS p1 = shSX4) (M : Mm) : Ok E 0 [(0, .ref (E.Y.ad 0)), (1, .ref (E.Y.ad p1)), (2, .int p2)] [] M (S_expire p1 p2 M) (KV E) := by
  unfold S_expire
  refine ok_aload_n hE 0 rfl dX8_expire_0 ?_
  refine ok_getI hE fl_X8_55 shS_0 rfl dX8_expire_1 ?_
  refine ok_aload_n hE 0 rfl dX8_expire_4 ?_
  refine ok_getI hE fl_X8_61 shS_0 rfl dX8_expire_5 ?_
  refine ok_isub hE dX8_expire_8 ?_
  refine ok_istore_n hE (fun v1 => [(3, .int v1), (0, .ref (E.Y.ad 0)), (1, .ref (E.Y.ad p1)), (2, .int p2)]) (fun _ => rfl) rfl dX8_expire_9 (fun v1 => ?_)
  refine ok_iload_n hE 0 rfl dX8_expire_10 ?_
  refine ok_fun (fun j => ∀ (M_1 : Mm), Ok E 39 [(0, .ref (E.Y.ad 0)), (1, .ref (E.Y.ad p1)), (2, .int p2)] [] M_1 (j M_1) (KV E)) (fun M_1 => ?_) (fun j39 hj39 => ?_)
  · refine ok_aload_n hE 0 rfl dX8_expire_39 ?_
    refine ok_aload_n hE 0 rfl dX8_expire_40 ?_
    refine ok_getF hE fl_X8_52 shS_0 rfl dX8_expire_41 ?_
    refine ok_aload_n hE 0 rfl dX8_expire_44 ?_
    refine ok_getI hE fl_X8_76 shS_0 rfl dX8_expire_45 ?_
    refine ok_i2f hE dX8_expire_48 ?_
    refine ok_fmul hE dX8_expire_49 ?_
    refine ok_f2i hE dX8_expire_50 ?_
    refine ok_aload_n hE 0 rfl dX8_expire_51 ?_
    refine ok_getA hE fl_X8_85 shS_0 rfl dX8_expire_52 ?_
    refine ok_getI hE fl_X8_103 shS_20 rfl dX8_expire_55 ?_
    refine ok_aload_n hE 0 rfl dX8_expire_58 ?_
    refine ok_getA hE fl_X8_85 shS_0 rfl dX8_expire_59 ?_
    refine ok_getI hE fl_X8_106 shS_20 rfl dX8_expire_62 ?_
    refine ok_csIp hE rmS_within [.int (FP.f2i (FP.fmul (gF M_1 0 9) (FP.i2f (gI M_1 0 17)))), .int (gI M_1 20 3), .int (gI M_1 20 4)] [.ref (E.Y.ad 0)] rfl ca_X8_346 (fun _ hx => mS_within hE.sys _ _ _  _ _ hx) ⟨rfl, rfl, rfl, rfl⟩ rfl rfl dX8_expire_65 (fun r3 => ?_)
    refine ok_putI hE fl_X8_70 shS_0 rfl dX8_expire_68 (fun M4 => ?_)
    refine ok_aload_n hE 1 rfl dX8_expire_71 ?_
    refine ok_aload_n hE 0 rfl dX8_expire_72 ?_
    refine ok_aload_n hE 1 rfl dX8_expire_73 ?_
    refine ok_getI hE fl_X8_307 hp1 rfl dX8_expire_74 ?_
    refine ok_iload_n hE 2 rfl dX8_expire_77 ?_
    refine ok_cvIp hE rmS_wanted [.int (gI M4 p1 3), .int p2] [.ref (E.Y.ad p1)] rfl ca_X8_350 shS_0 rfl (fun _ hx => mS_wanted hE.sys _ _  _ _ hx) ⟨rfl, rfl, rfl, rfl⟩ rfl rfl dX8_expire_78 (fun r5 => ?_)
    refine ok_aload_n hE 0 rfl dX8_expire_81 ?_
    refine ok_getA hE fl_X8_85 shS_0 rfl dX8_expire_82 ?_
    refine ok_getI hE fl_X8_103 shS_20 rfl dX8_expire_85 ?_
    refine ok_aload_n hE 0 rfl dX8_expire_88 ?_
    refine ok_getI hE fl_X8_70 shS_0 rfl dX8_expire_89 ?_
    refine ok_csIp hE rmS_within [.int r5, .int (gI M4 20 3), .int (gI M4 0 15)] [.ref (E.Y.ad p1)] rfl ca_X8_346 (fun _ hx => mS_within hE.sys _ _ _  _ _ hx) ⟨rfl, rfl, rfl, rfl⟩ rfl rfl dX8_expire_92 (fun r6 => ?_)
    refine ok_putI hE fl_X8_307 hp1 rfl dX8_expire_95 (fun M7 => ?_)
    refine ok_aload_n hE 1 rfl dX8_expire_98 ?_
    refine ok_aload_n hE 0 rfl dX8_expire_99 ?_
    refine ok_aload_n hE 1 rfl dX8_expire_100 ?_
    refine ok_getF hE fl_X8_304 hp1 rfl dX8_expire_101 ?_
    refine ok_aload_n hE 0 rfl dX8_expire_104 ?_
    refine ok_getI hE fl_X8_64 shS_0 rfl dX8_expire_105 ?_
    refine ok_aload_n hE 0 rfl dX8_expire_108 ?_
    refine ok_getI hE fl_X8_58 shS_0 rfl dX8_expire_109 ?_
    refine ok_cvFp hE rmS_after [.float (gF M7 p1 0), .int (gI M7 0 13), .int (gI M7 0 11)] [.ref (E.Y.ad p1)] rfl ca_X8_310 shS_0 rfl (fun _ hx => mS_after hE.sys _ _ _  _ _ hx) ⟨rfl, rfl, rfl, rfl⟩ rfl rfl dX8_expire_112 (fun r8 => ?_)
    refine ok_putF hE fl_X8_304 hp1 rfl dX8_expire_115 (fun M9 => ?_)
    refine ok_aload_n hE 1 rfl dX8_expire_118 ?_
    refine ok_aload_n hE 1 rfl dX8_expire_119 ?_
    refine ok_getI hE fl_X8_153 hp1 rfl dX8_expire_120 ?_
    refine ok_fun (fun j => ∀ (w_9 : UInt32), Ok E 149 [(0, .ref (E.Y.ad 0)), (2, .int p2)] [.float w_9, .ref (E.Y.ad p1)] M9 (j w_9) (KV E)) (fun w_9 => ?_) (fun j149 hj149 => ?_)
    · refine ok_putF hE fl_X8_301 hp1 rfl dX8_expire_149 (fun M11 => ?_)
      refine ok_aload_n hE 0 rfl dX8_expire_152 ?_
      refine ok_getC hE fl_X8_37 shS_0 rfl dX8_expire_153 ?_
      refine ok_aload_n hE 0 rfl dX8_expire_156 ?_
      refine ok_getI hE fl_X8_55 shS_0 rfl dX8_expire_157 ?_
      refine ok_aload_n hE 0 rfl dX8_expire_160 ?_
      refine ok_getI hE fl_X8_58 shS_0 rfl dX8_expire_161 ?_
      refine ok_iload_n hE 1 rfl dX8_expire_164 ?_
      refine ok_aload_n hE 0 rfl dX8_expire_165 ?_
      refine ok_getI hE fl_X8_64 shS_0 rfl dX8_expire_166 ?_
      refine ok_cvV hE rmS_KAdd [.int (gI M11 0 10), .int (gI M11 0 11), .int p2, .int (gI M11 0 13)] [] rfl ca_X8_353 shS_6 rfl (fun _ hx => mS_KAdd hE.sys _ _ _ _  _ _ hx) ⟨rfl, rfl, rfl, rfl⟩ rfl rfl dX8_expire_169 (fun M12 => ?_)
      refine ok_aload_n hE 0 rfl dX8_expire_172 ?_
      refine ok_iconst hE (-1 : Int32) ki_m1 dX8_expire_173 ?_
      refine ok_putI hE fl_X8_58 shS_0 rfl dX8_expire_174 (fun M13 => ?_)
      exact ok_return hE dX8_expire_177
    refine ok_if_le hE 145 rfl dX8_expire_123 ?_ ?_
    · refine ok_aload_n hE 1 rfl dX8_expire_145 ?_
      refine ok_getF hE fl_X8_304 hp1 rfl dX8_expire_146 ?_
      exact ok_sub [0, 2] rfl (hj149 (gF M9 p1 0))
    · refine ok_aload_n hE 0 rfl dX8_expire_126 ?_
      refine ok_aload_n hE 1 rfl dX8_expire_127 ?_
      refine ok_getF hE fl_X8_304 hp1 rfl dX8_expire_128 ?_
      refine ok_aload_n hE 1 rfl dX8_expire_131 ?_
      refine ok_getI hE fl_X8_307 hp1 rfl dX8_expire_132 ?_
      refine ok_aload_n hE 0 rfl dX8_expire_135 ?_
      refine ok_getI hE fl_X8_58 shS_0 rfl dX8_expire_136 ?_
      refine ok_cvFp hE rmS_after [.float (gF M9 p1 0), .int (gI M9 p1 3), .int (gI M9 0 11)] [.ref (E.Y.ad p1)] rfl ca_X8_310 shS_0 rfl (fun _ hx => mS_after hE.sys _ _ _  _ _ hx) ⟨rfl, rfl, rfl, rfl⟩ rfl rfl dX8_expire_139 (fun r14 => ?_)
      refine ok_goto hE 149 rfl dX8_expire_142 ?_
      exact ok_sub [0, 2] rfl (hj149 r14)
  refine ok_if_le hE 39 rfl dX8_expire_11 ?_ ?_
  · exact ok_sub [1, 2, 3] rfl (hj39 M)
  · refine ok_aload_n hE 1 rfl dX8_expire_14 ?_
    refine ok_aload_n hE 1 rfl dX8_expire_15 ?_
    refine ok_getF hE fl_X8_52 shS_0 rfl dX8_expire_16 ?_
    refine ok_ldcwf hE ct_X8_344 dX8_expire_19 ?_
    refine ok_fmul hE dX8_expire_22 ?_
    refine ok_aload_n hE 1 rfl dX8_expire_23 ?_
    refine ok_getI hE fl_X8_64 shS_0 rfl dX8_expire_24 ?_
    refine ok_i2f hE dX8_expire_27 ?_
    refine ok_iload_n hE 0 rfl dX8_expire_28 ?_
    refine ok_i2f hE dX8_expire_29 ?_
    refine ok_fdiv hE dX8_expire_30 ?_
    refine ok_ldcwf hE ct_X8_345 dX8_expire_31 ?_
    refine ok_fmul hE dX8_expire_34 ?_
    refine ok_fadd hE dX8_expire_35 ?_
    refine ok_putF hE fl_X8_52 shS_0 rfl dX8_expire_36 (fun M15 => ?_)
    exact ok_sub [1, 2, 3] rfl (hj39 M15)
theorem mS_expire {l : Launch} {Y : Sys} {t : Nat} (hY : SysOk Y t shS) (p1 : Nat) (p2 : Int32) (hp1 : shS p1 = shSX4) (M : Mm) (r : Mm) (h : S_expire p1 p2 M = some r) : Cm l Y t yX8_expire (WS yX8_expire cX8_expire 4 none) rmS_expire [.ref (Y.ad 0), .ref (Y.ad p1), .int p2] M (enV r) := by
  refine cm_of (own := RX8) hY rfl rfl (Nat.le_of_ble_eq_true rfl) (fun E hE e1 e2 e3 e4 => ?_)
  subst e1
  exact tS_expire E hE p1 p2 hp1 M r h e4.symm
def S_choose  (M : Mm) : Option Mm :=
 lett (fun (M_0 : Mm) =>
 bnd (S_activate M_0) fun M2 =>
 some M2) fun j125 =>
 if (gI M 0 11) < 0 then
 (j125 M)
 else
 (ald (gI M 0 11) 6 (bnd (S_RNextOf (gI M 0 11) (gI M 0 7) M) fun r4 =>
 lett r4 fun v5 =>
 if v5 < 0 then
 (if (gI M 0 14) ≤ (gI M 0 10) then
 (bnd (S_expire (9 + 2 * ix (gI M 0 11)) (2 : Int32) M) fun M6 =>
 j125 M6)
 else
 (some M))
 else
 (lett (fun (_ : Unit) =>
 if ((gI M 0 10) - (gI M 0 12)) < (gI M 0 17) then
 (bnd (S_go v5 M) fun M7 =>
 some M7)
 else
 (bnd (S_expire (9 + 2 * ix (gI M 0 11)) (1 : Int32) M) fun M8 =>
 j125 M8)) fun j76 =>
 if (gI M 0 13) = 0 then
 (j76 ())
 else
 (ald (v5 + (1 : Int32)) 324 (if ((gI M 0 13) + (gI M 4 (ix (v5 + (1 : Int32))))) ≤ (gI M (9 + 2 * ix (gI M 0 11)) 3) then
 (j76 ())
 else
 (bnd (S_expire (9 + 2 * ix (gI M 0 11)) (0 : Int32) M) fun M9 =>
 j125 M9))))))
abbrev rmS_choose : Room := { frames := 4, cells := 0, slots := 0, locals := 116 }
set_option maxHeartbeats 4000000 in
set_option maxRecDepth 100000 in
theorem tS_choose (E : Cx) (hE : CxOk E cX8_choose RX8 shS none rmS_choose 3)   (M : Mm) : Ok E 0 [(0, .ref (E.Y.ad 0))] [] M (S_choose  M) (KV E) := by
  unfold S_choose
  refine ok_aload_n hE 0 rfl dX8_choose_0 ?_
  refine ok_getI hE fl_X8_58 shS_0 rfl dX8_choose_1 ?_
  refine ok_fun (fun j => ∀ (M_0 : Mm), Ok E 125 [(0, .ref (E.Y.ad 0))] [] M_0 (j M_0) (KV E)) (fun M_0 => ?_) (fun j125 hj125 => ?_)
  · refine ok_aload_n hE 0 rfl dX8_choose_125 ?_
    refine ok_cvV hE rmS_activate [] [] rfl ca_X8_324 shS_0 rfl (fun _ hx => mS_activate hE.sys   _ _ hx) ⟨rfl, rfl, rfl, rfl⟩ rfl rfl dX8_choose_126 (fun M2 => ?_)
    exact ok_return hE dX8_choose_129
  refine ok_if_lt hE 125 rfl dX8_choose_4 ?_ ?_
  · exact ok_sub [0] rfl (hj125 M)
  · refine ok_aload_n hE 0 rfl dX8_choose_7 ?_
    refine ok_getC hE fl_X8_19 shS_0 rfl dX8_choose_8 ?_
    refine ok_aload_n hE 0 rfl dX8_choose_11 ?_
    refine ok_getI hE fl_X8_58 shS_0 rfl dX8_choose_12 ?_
    refine ok_aaloadH hE shS_2 rfl dX8_choose_15 (fun hi3 => ?_)
    refine ok_astore_n hE [(1, .ref (E.Y.ad (9 + 2 * ix (gI M 0 11)))), (0, .ref (E.Y.ad 0))] rfl rfl dX8_choose_16 ?_
    refine ok_aload_n hE 1 rfl dX8_choose_17 ?_
    refine ok_getC hE fl_X8_26 shS_0 rfl dX8_choose_18 ?_
    refine ok_aload_n hE 1 rfl dX8_choose_21 ?_
    refine ok_getI hE fl_X8_58 shS_0 rfl dX8_choose_22 ?_
    refine ok_aload_n hE 1 rfl dX8_choose_25 ?_
    refine ok_getI hE fl_X8_45 shS_0 rfl dX8_choose_26 ?_
    refine ok_cvIp hE rmS_RNextOf [.int (gI M 0 11), .int (gI M 0 7)] [] rfl ca_X8_314 shS_3 rfl (fun _ hx => mS_RNextOf hE.sys _ _  _ _ hx) ⟨rfl, rfl, rfl, rfl⟩ rfl rfl dX8_choose_29 (fun r4 => ?_)
    refine ok_istore_n hE (fun v5 => [(2, .int v5), (1, .ref (E.Y.ad (9 + 2 * ix (gI M 0 11)))), (0, .ref (E.Y.ad 0))]) (fun _ => rfl) rfl dX8_choose_32 (fun v5 => ?_)
    refine ok_iload_n hE 0 rfl dX8_choose_33 ?_
    refine ok_if_lt hE 107 rfl dX8_choose_34 ?_ ?_
    · refine ok_aload_n hE 2 rfl dX8_choose_107 ?_
      refine ok_getI hE fl_X8_55 shS_0 rfl dX8_choose_108 ?_
      refine ok_aload_n hE 2 rfl dX8_choose_111 ?_
      refine ok_getI hE fl_X8_67 shS_0 rfl dX8_choose_112 ?_
      refine ok_icmp_ge hE 119 rfl dX8_choose_115 ?_ ?_
      · refine ok_aload_n hE 2 rfl dX8_choose_119 ?_
        refine ok_aload_n hE 1 rfl dX8_choose_120 ?_
        refine ok_iconst hE (2 : Int32) ki_2 dX8_choose_121 ?_
        refine ok_cvV hE rmS_expire [.ref (E.Y.ad (9 + 2 * ix (gI M 0 11))), .int (2 : Int32)] [] rfl ca_X8_317 shS_0 rfl (fun _ hx => mS_expire hE.sys _ _ (shS_e_2 hi3) _ _ hx) ⟨rfl, rfl, rfl, rfl⟩ rfl rfl dX8_choose_122 (fun M6 => ?_)
        exact ok_sub [2] rfl (hj125 M6)
      · exact ok_return hE dX8_choose_118
    · refine ok_aload_n hE 2 rfl dX8_choose_37 ?_
      refine ok_getI hE fl_X8_64 shS_0 rfl dX8_choose_38 ?_
      refine ok_fun (fun j => ∀ (_ : Unit), Ok E 76 [(0, .ref (E.Y.ad 0)), (1, .ref (E.Y.ad (9 + 2 * ix (gI M 0 11)))), (2, .int v5)] [] M (j ()) (KV E)) (fun _ => ?_) (fun j76 hj76 => ?_)
      · refine ok_aload_n hE 0 rfl dX8_choose_76 ?_
        refine ok_getI hE fl_X8_55 shS_0 rfl dX8_choose_77 ?_
        refine ok_aload_n hE 0 rfl dX8_choose_80 ?_
        refine ok_getI hE fl_X8_61 shS_0 rfl dX8_choose_81 ?_
        refine ok_isub hE dX8_choose_84 ?_
        refine ok_aload_n hE 0 rfl dX8_choose_85 ?_
        refine ok_getI hE fl_X8_76 shS_0 rfl dX8_choose_86 ?_
        refine ok_icmp_lt hE 101 rfl dX8_choose_89 ?_ ?_
        · refine ok_aload_n hE 0 rfl dX8_choose_101 ?_
          refine ok_iload_n hE 2 rfl dX8_choose_102 ?_
          refine ok_cvV hE rmS_go [.int v5] [] rfl ca_X8_321 shS_0 rfl (fun _ hx => mS_go hE.sys _  _ _ hx) ⟨rfl, rfl, rfl, rfl⟩ rfl rfl dX8_choose_103 (fun M7 => ?_)
          exact ok_return hE dX8_choose_106
        · refine ok_aload_n hE 0 rfl dX8_choose_92 ?_
          refine ok_aload_n hE 1 rfl dX8_choose_93 ?_
          refine ok_iconst hE (1 : Int32) ki_1 dX8_choose_94 ?_
          refine ok_cvV hE rmS_expire [.ref (E.Y.ad (9 + 2 * ix (gI M 0 11))), .int (1 : Int32)] [] rfl ca_X8_317 shS_0 rfl (fun _ hx => mS_expire hE.sys _ _ (shS_e_2 hi3) _ _ hx) ⟨rfl, rfl, rfl, rfl⟩ rfl rfl dX8_choose_95 (fun M8 => ?_)
          refine ok_goto hE 125 rfl dX8_choose_98 ?_
          exact ok_sub [0] rfl (hj125 M8)
      refine ok_if_eq hE 76 rfl dX8_choose_41 ?_ ?_
      · exact ok_sub [2, 1, 0] rfl (hj76 ())
      · refine ok_aload_n hE 2 rfl dX8_choose_44 ?_
        refine ok_getI hE fl_X8_64 shS_0 rfl dX8_choose_45 ?_
        refine ok_aload_n hE 2 rfl dX8_choose_48 ?_
        refine ok_getC hE fl_X8_26 shS_0 rfl dX8_choose_49 ?_
        refine ok_getC hE fl_X8_281 shS_3 rfl dX8_choose_52 ?_
        refine ok_iload_n hE 0 rfl dX8_choose_55 ?_
        refine ok_iconst hE (1 : Int32) ki_1 dX8_choose_56 ?_
        refine ok_iadd hE dX8_choose_57 ?_
        refine ok_iaload hE shS_4 dX8_choose_58 ?_
        refine ok_iadd hE dX8_choose_59 ?_
        refine ok_aload_n hE 1 rfl dX8_choose_60 ?_
        refine ok_getI hE fl_X8_307 (shS_e_2 hi3) rfl dX8_choose_61 ?_
        refine ok_icmp_le hE 76 rfl dX8_choose_64 ?_ ?_
        · exact ok_sub [2, 1, 0] rfl (hj76 ())
        · refine ok_aload_n hE 2 rfl dX8_choose_67 ?_
          refine ok_aload_n hE 1 rfl dX8_choose_68 ?_
          refine ok_iconst hE (0 : Int32) ki_0 dX8_choose_69 ?_
          refine ok_cvV hE rmS_expire [.ref (E.Y.ad (9 + 2 * ix (gI M 0 11))), .int (0 : Int32)] [] rfl ca_X8_317 shS_0 rfl (fun _ hx => mS_expire hE.sys _ _ (shS_e_2 hi3) _ _ hx) ⟨rfl, rfl, rfl, rfl⟩ rfl rfl dX8_choose_70 (fun M9 => ?_)
          refine ok_goto hE 125 rfl dX8_choose_73 ?_
          exact ok_sub [2] rfl (hj125 M9)
theorem mS_choose {l : Launch} {Y : Sys} {t : Nat} (hY : SysOk Y t shS)   (M : Mm) (r : Mm) (h : S_choose  M = some r) : Cm l Y t yX8_choose (WS yX8_choose cX8_choose 3 none) rmS_choose [.ref (Y.ad 0)] M (enV r) := by
  refine cm_of (own := RX8) hY rfl rfl (Nat.le_of_ble_eq_true rfl) (fun E hE e1 e2 e3 e4 => ?_)
  subst e1
  exact tS_choose E hE   M r h e4.symm
def S_mayMerge (p1 : Int32) (M : Mm) : Option Int32 :=
 if (gI M 0 11) < 0 then
 (some (0 : Int32))
 else
 (if (gI M 0 11) = p1 then
 (some (0 : Int32))
 else
 (ald p1 6 (if (gI M 22 (ix p1)) = 0 then
 (ald (gI M 0 11) 6 (if (gI M 22 (ix (gI M 0 11))) = 0 then
 (some (1 : Int32))
 else
 (some (0 : Int32))))
 else
 (some (0 : Int32)))))
abbrev rmS_mayMerge : Room := { frames := 0, cells := 0, slots := 0, locals := 0 }
set_option maxHeartbeats 4000000 in
set_option maxRecDepth 100000 in
theorem tS_mayMerge (E : Cx) (hE : CxOk E cX8_mayMerge RX8 shS (some .boolean) rmS_mayMerge 2) (p1 : Int32)  (M : Mm) : Ok E 0 [(0, .ref (E.Y.ad 0)), (1, .int p1)] [] M (S_mayMerge p1 M) (KIp E M) := by
  unfold S_mayMerge
  refine ok_aload_n hE 0 rfl dX8_mayMerge_0 ?_
  refine ok_getI hE fl_X8_58 shS_0 rfl dX8_mayMerge_1 ?_
  refine ok_if_lt hE 46 rfl dX8_mayMerge_4 ?_ ?_
  · refine ok_iconst hE (0 : Int32) ki_0 dX8_mayMerge_46 ?_
    exact ok_zreturnP hE (Or.inl rfl) dX8_mayMerge_47
  · refine ok_aload_n hE 0 rfl dX8_mayMerge_7 ?_
    refine ok_getI hE fl_X8_58 shS_0 rfl dX8_mayMerge_8 ?_
    refine ok_iload_n hE 1 rfl dX8_mayMerge_11 ?_
    refine ok_icmp_eq hE 46 rfl dX8_mayMerge_12 ?_ ?_
    · refine ok_iconst hE (0 : Int32) ki_0 dX8_mayMerge_46 ?_
      exact ok_zreturnP hE (Or.inl rfl) dX8_mayMerge_47
    · refine ok_aload_n hE 0 rfl dX8_mayMerge_15 ?_
      refine ok_getA hE fl_X8_85 shS_0 rfl dX8_mayMerge_16 ?_
      refine ok_getC hE fl_X8_218 shS_20 rfl dX8_mayMerge_19 ?_
      refine ok_iload_n hE 1 rfl dX8_mayMerge_22 ?_
      refine ok_baload hE shS_22 dX8_mayMerge_23 ?_
      refine ok_if_ne hE 46 rfl dX8_mayMerge_24 ?_ ?_
      · refine ok_iconst hE (0 : Int32) ki_0 dX8_mayMerge_46 ?_
        exact ok_zreturnP hE (Or.inl rfl) dX8_mayMerge_47
      · refine ok_aload_n hE 0 rfl dX8_mayMerge_27 ?_
        refine ok_getA hE fl_X8_85 shS_0 rfl dX8_mayMerge_28 ?_
        refine ok_getC hE fl_X8_218 shS_20 rfl dX8_mayMerge_31 ?_
        refine ok_aload_n hE 0 rfl dX8_mayMerge_34 ?_
        refine ok_getI hE fl_X8_58 shS_0 rfl dX8_mayMerge_35 ?_
        refine ok_baload hE shS_22 dX8_mayMerge_38 ?_
        refine ok_if_ne hE 46 rfl dX8_mayMerge_39 ?_ ?_
        · refine ok_iconst hE (0 : Int32) ki_0 dX8_mayMerge_46 ?_
          exact ok_zreturnP hE (Or.inl rfl) dX8_mayMerge_47
        · refine ok_iconst hE (1 : Int32) ki_1 dX8_mayMerge_42 ?_
          refine ok_goto hE 47 rfl dX8_mayMerge_43 ?_
          exact ok_zreturnP hE (Or.inr rfl) dX8_mayMerge_47
theorem mS_mayMerge {l : Launch} {Y : Sys} {t : Nat} (hY : SysOk Y t shS) (p1 : Int32)  (M : Mm) (r : Int32) (h : S_mayMerge p1 M = some r) : Cm l Y t yX8_mayMerge (WS yX8_mayMerge cX8_mayMerge 2 (some .boolean)) rmS_mayMerge [.ref (Y.ad 0), .int p1] M ((some (.int r), M)) := by
  refine cm_of (own := RX8) hY rfl rfl (Nat.le_of_ble_eq_true rfl) (fun E hE e1 e2 e3 e4 => ?_)
  subst e1
  exact tS_mayMerge E hE p1  M r h e4.symm
def S_route (p1 : Int32) (p2 : Int32) (M : Mm) : Option Mm :=
 ald p1 6 (if (gI M (8 + 2 * ix p1) 7) = p1 then
 (bnd (S_mayMerge p1 M) fun r8 =>
 if r8 = 0 then
 (some M)
 else
 (ald (gI M 0 11) 6 (bnd (S_QIsFar (9 + 2 * ix (gI M 0 11)) p2 (gI M 20 7) M) fun r10 =>
 if r10 = 0 then
 (lett (sI M (8 + 2 * ix p1) 7 (gI M 0 11)) fun M11 =>
 lett (sI M11 (8 + 2 * ix p1) 8 (0 : Int32)) fun M12 =>
 some M12)
 else
 (some M))))
 else
 (ald (gI M (8 + 2 * ix p1) 7) 6 (bnd (S_QIsFar (9 + 2 * ix (gI M (8 + 2 * ix p1) 7)) p2 (gI M 20 7) M) fun r3 =>
 if r3 = 0 then
 (lett (sI M (8 + 2 * ix p1) 8 (0 : Int32)) fun M4 =>
 some M4)
 else
 (lett (sI M (8 + 2 * ix p1) 8 ((gI M (8 + 2 * ix p1) 8) + (1 : Int32))) fun M5 =>
 if (gI M5 (8 + 2 * ix p1) 8) < (3 : Int32) then
 (some M5)
 else
 (lett (sI M5 (8 + 2 * ix p1) 7 p1) fun M6 =>
 lett (sI M6 (8 + 2 * ix p1) 8 (0 : Int32)) fun M7 =>
 some M7)))))
abbrev rmS_route : Room := { frames := 1, cells := 0, slots := 0, locals := 22 }
set_option maxHeartbeats 4000000 in
set_option maxRecDepth 100000 in
theorem tS_route (E : Cx) (hE : CxOk E cX8_route RX8 shS none rmS_route 4) (p1 : Int32) (p2 : Int32)  (M : Mm) : Ok E 0 [(0, .ref (E.Y.ad 0)), (1, .int p1), (2, .int p2)] [] M (S_route p1 p2 M) (KV E) := by
  unfold S_route
  refine ok_aload_n hE 0 rfl dX8_route_0 ?_
  refine ok_getC hE fl_X8_11 shS_0 rfl dX8_route_1 ?_
  refine ok_iload_n hE 1 rfl dX8_route_4 ?_
  refine ok_aaloadH hE shS_1 rfl dX8_route_5 (fun hi1 => ?_)
  refine ok_astore_n hE [(3, .ref (E.Y.ad (8 + 2 * ix p1))), (0, .ref (E.Y.ad 0)), (1, .int p1), (2, .int p2)] rfl rfl dX8_route_6 ?_
  refine ok_aload_n hE 0 rfl dX8_route_7 ?_
  refine ok_getI hE fl_X8_259 (shS_e_1 hi1) rfl dX8_route_8 ?_
  refine ok_iload_n hE 2 rfl dX8_route_11 ?_
  refine ok_icmp_ne hE 62 rfl dX8_route_12 ?_ ?_
  · refine ok_aload_n hE 1 rfl dX8_route_62 ?_
    refine ok_getC hE fl_X8_19 shS_0 rfl dX8_route_63 ?_
    refine ok_aload_n hE 0 rfl dX8_route_66 ?_
    refine ok_getI hE fl_X8_259 (shS_e_1 hi1) rfl dX8_route_67 ?_
    refine ok_aaloadH hE shS_2 rfl dX8_route_70 (fun hi2 => ?_)
    refine ok_iload_n hE 3 rfl dX8_route_71 ?_
    refine ok_aload_n hE 1 rfl dX8_route_72 ?_
    refine ok_getA hE fl_X8_85 shS_0 rfl dX8_route_73 ?_
    refine ok_getI hE fl_X8_262 shS_20 rfl dX8_route_76 ?_
    refine ok_cvIp hE rmS_QIsFar [.int p2, .int (gI M 20 7)] [] rfl ca_X8_288 (shS_e_2 hi2) rfl (fun _ hx => mS_QIsFar hE.sys _ _ _ (shS_e_2 hi2) _ _ hx) ⟨rfl, rfl, rfl, rfl⟩ rfl rfl dX8_route_79 (fun r3 => ?_)
    refine ok_if_eq hE 116 rfl dX8_route_82 ?_ ?_
    · refine ok_aload_n hE 0 rfl dX8_route_116 ?_
      refine ok_iconst hE (0 : Int32) ki_0 dX8_route_117 ?_
      refine ok_putI hE fl_X8_292 (shS_e_1 hi1) rfl dX8_route_118 (fun M4 => ?_)
      exact ok_return hE dX8_route_121
    · refine ok_aload_n hE 0 rfl dX8_route_85 ?_
      refine ok_dup hE rfl dX8_route_86 ?_
      refine ok_getI hE fl_X8_292 (shS_e_1 hi1) rfl dX8_route_87 ?_
      refine ok_iconst hE (1 : Int32) ki_1 dX8_route_90 ?_
      refine ok_iadd hE dX8_route_91 ?_
      refine ok_putI hE fl_X8_292 (shS_e_1 hi1) rfl dX8_route_92 (fun M5 => ?_)
      refine ok_aload_n hE 0 rfl dX8_route_95 ?_
      refine ok_getI hE fl_X8_292 (shS_e_1 hi1) rfl dX8_route_96 ?_
      refine ok_iconst hE (3 : Int32) ki_3 dX8_route_99 ?_
      refine ok_icmp_lt hE 121 rfl dX8_route_100 ?_ ?_
      · exact ok_return hE dX8_route_121
      · refine ok_aload_n hE 0 rfl dX8_route_103 ?_
        refine ok_iload_n hE 2 rfl dX8_route_104 ?_
        refine ok_putI hE fl_X8_259 (shS_e_1 hi1) rfl dX8_route_105 (fun M6 => ?_)
        refine ok_aload_n hE 0 rfl dX8_route_108 ?_
        refine ok_iconst hE (0 : Int32) ki_0 dX8_route_109 ?_
        refine ok_putI hE fl_X8_292 (shS_e_1 hi1) rfl dX8_route_110 (fun M7 => ?_)
        refine ok_goto hE 121 rfl dX8_route_113 ?_
        exact ok_return hE dX8_route_121
  · refine ok_aload_n hE 1 rfl dX8_route_15 ?_
    refine ok_iload_n hE 2 rfl dX8_route_16 ?_
    refine ok_cvIp hE rmS_mayMerge [.int p1] [] rfl ca_X8_284 shS_0 rfl (fun _ hx => mS_mayMerge hE.sys _  _ _ hx) ⟨rfl, rfl, rfl, rfl⟩ rfl rfl dX8_route_17 (fun r8 => ?_)
    refine ok_if_eq hE 121 rfl dX8_route_20 ?_ ?_
    · exact ok_return hE dX8_route_121
    · refine ok_aload_n hE 1 rfl dX8_route_23 ?_
      refine ok_getC hE fl_X8_19 shS_0 rfl dX8_route_24 ?_
      refine ok_aload_n hE 1 rfl dX8_route_27 ?_
      refine ok_getI hE fl_X8_58 shS_0 rfl dX8_route_28 ?_
      refine ok_aaloadH hE shS_2 rfl dX8_route_31 (fun hi9 => ?_)
      refine ok_iload_n hE 3 rfl dX8_route_32 ?_
      refine ok_aload_n hE 1 rfl dX8_route_33 ?_
      refine ok_getA hE fl_X8_85 shS_0 rfl dX8_route_34 ?_
      refine ok_getI hE fl_X8_262 shS_20 rfl dX8_route_37 ?_
      refine ok_cvIp hE rmS_QIsFar [.int p2, .int (gI M 20 7)] [] rfl ca_X8_288 (shS_e_2 hi9) rfl (fun _ hx => mS_QIsFar hE.sys _ _ _ (shS_e_2 hi9) _ _ hx) ⟨rfl, rfl, rfl, rfl⟩ rfl rfl dX8_route_40 (fun r10 => ?_)
      refine ok_if_ne hE 121 rfl dX8_route_43 ?_ ?_
      · exact ok_return hE dX8_route_121
      · refine ok_aload_n hE 0 rfl dX8_route_46 ?_
        refine ok_aload_n hE 1 rfl dX8_route_47 ?_
        refine ok_getI hE fl_X8_58 shS_0 rfl dX8_route_48 ?_
        refine ok_putI hE fl_X8_259 (shS_e_1 hi1) rfl dX8_route_51 (fun M11 => ?_)
        refine ok_aload_n hE 0 rfl dX8_route_54 ?_
        refine ok_iconst hE (0 : Int32) ki_0 dX8_route_55 ?_
        refine ok_putI hE fl_X8_292 (shS_e_1 hi1) rfl dX8_route_56 (fun M12 => ?_)
        refine ok_goto hE 121 rfl dX8_route_59 ?_
        exact ok_return hE dX8_route_121
theorem mS_route {l : Launch} {Y : Sys} {t : Nat} (hY : SysOk Y t shS) (p1 : Int32) (p2 : Int32)  (M : Mm) (r : Mm) (h : S_route p1 p2 M = some r) : Cm l Y t yX8_route (WS yX8_route cX8_route 4 none) rmS_route [.ref (Y.ad 0), .int p1, .int p2] M (enV r) := by
  refine cm_of (own := RX8) hY rfl rfl (Nat.le_of_ble_eq_true rfl) (fun E hE e1 e2 e3 e4 => ?_)
  subst e1
  exact tS_route E hE p1 p2  M r h e4.symm
