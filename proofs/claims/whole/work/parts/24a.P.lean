abbrev shPX2 : Shp := (0, 2, 0, [(0, 0), (0, 0), (0, 0), (0, 0), (0, 0), (0, 0), (0, 0), (0, 0), (0, 0), (0, 0), (0, 0), (0, 0), (4, 1), (4, 2), (4, 3), (4, 4), (4, 5), (4, 6), (4, 7), (4, 8)])
abbrev shPX5 : Shp := (0, 5, 0, [(5, 5), (5, 1), (5, 2), (5, 3), (5, 4), (5, 7), (0, 0), (0, 0), (0, 0), (0, 0)])
abbrev shPX9 : Shp := (0, 9, 0, [(5, 6), (0, 0)])
def shP (a : Nat) : Shp := ([shPX5, (1, 0, 1601, []), (1, 0, 1601, []), (1, 0, 1601, []), (3, 6, 1601, []), shPX9, (1, 0, 1600, []), shPX2, (1, 0, 36, []), (1, 2, 6, []), (1, 0, 6, []), (1, 0, 6, []), (1, 0, 6, []), (1, 0, 36, []), (1, 0, 36, []), (1, 0, 36, [])] : List Shp).getD a (99, 0, 0, [])
theorem shP_0 : shP 0 = shPX5 := rfl
theorem shP_1 : shP 1 = (1, 0, 1601, []) := rfl
theorem shP_2 : shP 2 = (1, 0, 1601, []) := rfl
theorem shP_3 : shP 3 = (1, 0, 1601, []) := rfl
theorem shP_4 : shP 4 = (3, 6, 1601, []) := rfl
theorem shP_5 : shP 5 = shPX9 := rfl
theorem shP_6 : shP 6 = (1, 0, 1600, []) := rfl
theorem shP_7 : shP 7 = shPX2 := rfl
theorem shP_8 : shP 8 = (1, 0, 36, []) := rfl
theorem shP_9 : shP 9 = (1, 2, 6, []) := rfl
theorem shP_10 : shP 10 = (1, 0, 6, []) := rfl
theorem shP_11 : shP 11 = (1, 0, 6, []) := rfl
theorem shP_12 : shP 12 = (1, 0, 6, []) := rfl
theorem shP_13 : shP 13 = (1, 0, 36, []) := rfl
theorem shP_14 : shP 14 = (1, 0, 36, []) := rfl
theorem shP_15 : shP 15 = (1, 0, 36, []) := rfl
def P_LHasLikeNames (p1 : Int32) (p2 : Int32) (M : Mm) : Option Int32 :=
 lett (0 : Int32) fun v1 =>
 loopR (fun (rec2 : Int32 → Option Int32) (x2 : Int32) =>
 if (6 : Int32) ≤ x2 then
 (some (1 : Int32))
 else
 (ald ((p1 * (6 : Int32)) + x2) 36 (ald ((p2 * (6 : Int32)) + x2) 36 (if (gI M 8 (ix ((p1 * (6 : Int32)) + x2))) = (gI M 8 (ix ((p2 * (6 : Int32)) + x2))) then
 (lett (x2 + (1 : Int32)) fun v3 =>
 rec2 v3)
 else
 (some (0 : Int32)))))) 1000000 v1
abbrev rmP_LHasLikeNames : Room := { frames := 0, cells := 0, slots := 0, locals := 0 }
set_option maxHeartbeats 4000000 in
set_option maxRecDepth 100000 in
theorem tP_LHasLikeNames (E : Cx) (hE : CxOk E cX2_hasLikeNames RX2 shP (some .boolean) rmP_LHasLikeNames 4) (p1 : Int32) (p2 : Int32)  (M : Mm) : Ok E 0 [(0, .ref (E.Y.ad 7)), (1, .int p1), (2, .int p2)] [] M (P_LHasLikeNames p1 p2 M) (KIp E M) := by
  unfold P_LHasLikeNames
  refine ok_iconst hE (0 : Int32) ki_0 dX2_hasLikeNames_0 ?_
  refine ok_istore_n hE (fun v1 => [(3, .int v1), (0, .ref (E.Y.ad 7)), (1, .int p1), (2, .int p2)]) (fun _ => rfl) rfl dX2_hasLikeNames_1 (fun v1 => ?_)
  refine ok_sub [1, 2, 3, 0] rfl (ok_loop (σ := Int32) 2 (fun x2 => [(0, .ref (E.Y.ad 7)), (1, .int p1), (2, .int p2), (3, .int x2)]) (fun x2 => M) (fun rec2 hrec2 x2 => ?_) 1000000 v1)
  refine ok_iload_n hE 3 rfl dX2_hasLikeNames_2 ?_
  refine ok_bipush hE (6 : Int32) kb_6 dX2_hasLikeNames_3 ?_
  refine ok_icmp_ge hE 41 rfl dX2_hasLikeNames_5 ?_ ?_
  · refine ok_iconst hE (1 : Int32) ki_1 dX2_hasLikeNames_41 ?_
    exact ok_zreturnP hE (Or.inr rfl) dX2_hasLikeNames_42
  · refine ok_aload_n hE 0 rfl dX2_hasLikeNames_8 ?_
    refine ok_getC hE fl_X2_9 shP_7 rfl dX2_hasLikeNames_9 ?_
    refine ok_iload_n hE 1 rfl dX2_hasLikeNames_12 ?_
    refine ok_bipush hE (6 : Int32) kb_6 dX2_hasLikeNames_13 ?_
    refine ok_imul hE dX2_hasLikeNames_15 ?_
    refine ok_iload_n hE 3 rfl dX2_hasLikeNames_16 ?_
    refine ok_iadd hE dX2_hasLikeNames_17 ?_
    refine ok_iaload hE shP_8 dX2_hasLikeNames_18 ?_
    refine ok_aload_n hE 0 rfl dX2_hasLikeNames_19 ?_
    refine ok_getC hE fl_X2_9 shP_7 rfl dX2_hasLikeNames_20 ?_
    refine ok_iload_n hE 2 rfl dX2_hasLikeNames_23 ?_
    refine ok_bipush hE (6 : Int32) kb_6 dX2_hasLikeNames_24 ?_
    refine ok_imul hE dX2_hasLikeNames_26 ?_
    refine ok_iload_n hE 3 rfl dX2_hasLikeNames_27 ?_
    refine ok_iadd hE dX2_hasLikeNames_28 ?_
    refine ok_iaload hE shP_8 dX2_hasLikeNames_29 ?_
    refine ok_icmp_eq hE 35 rfl dX2_hasLikeNames_30 ?_ ?_
    · refine ok_iinc hE 3 (x2 + (1 : Int32)) (by rw [ko_1]) (fun v3 => [(3, .int v3), (0, .ref (E.Y.ad 7)), (1, .int p1), (2, .int p2)]) rfl (fun _ => rfl) rfl dX2_hasLikeNames_35 (fun v3 => ?_)
      refine ok_goto hE 2 rfl dX2_hasLikeNames_38 ?_
      exact ok_sub [1, 2, 3, 0] rfl (hrec2 v3)
    · refine ok_iconst hE (0 : Int32) ki_0 dX2_hasLikeNames_33 ?_
      exact ok_zreturnP hE (Or.inl rfl) dX2_hasLikeNames_34
theorem mP_LHasLikeNames {l : Launch} {Y : Sys} {t : Nat} (hY : SysOk Y t shP) (p1 : Int32) (p2 : Int32)  (M : Mm) (r : Int32) (h : P_LHasLikeNames p1 p2 M = some r) : Cm l Y t yX2_hasLikeNames (WS yX2_hasLikeNames cX2_hasLikeNames 4 (some .boolean)) rmP_LHasLikeNames [.ref (Y.ad 7), .int p1, .int p2] M ((some (.int r), M)) := by
  refine cm_of (own := RX2) hY rfl rfl (Nat.le_of_ble_eq_true rfl) (fun E hE e1 e2 e3 e4 => ?_)
  subst e1
  exact tP_LHasLikeNames E hE p1 p2  M r h e4.symm
def P_LHasName (p1 : Int32) (M : Mm) : Option Int32 :=
 lett (0 : Int32) fun v1 =>
 loopR (fun (rec2 : Int32 → Option Int32) (x2 : Int32) =>
 if p1 ≤ x2 then
 (some (0 : Int32))
 else
 (bnd (P_LHasLikeNames x2 p1 M) fun r3 =>
 if r3 = 0 then
 (lett (x2 + (1 : Int32)) fun v4 =>
 rec2 v4)
 else
 (some (1 : Int32)))) 1000000 v1
abbrev rmP_LHasName : Room := { frames := 1, cells := 0, slots := 0, locals := 23 }
set_option maxHeartbeats 4000000 in
set_option maxRecDepth 100000 in
theorem tP_LHasName (E : Cx) (hE : CxOk E cX2_hasName RX2 shP (some .boolean) rmP_LHasName 3) (p1 : Int32)  (M : Mm) : Ok E 0 [(0, .ref (E.Y.ad 7)), (1, .int p1)] [] M (P_LHasName p1 M) (KIp E M) := by
  unfold P_LHasName
  refine ok_iconst hE (0 : Int32) ki_0 dX2_hasName_0 ?_
  refine ok_istore_n hE (fun v1 => [(2, .int v1), (0, .ref (E.Y.ad 7)), (1, .int p1)]) (fun _ => rfl) rfl dX2_hasName_1 (fun v1 => ?_)
  refine ok_sub [1, 2, 0] rfl (ok_loop (σ := Int32) 2 (fun x2 => [(0, .ref (E.Y.ad 7)), (1, .int p1), (2, .int x2)]) (fun x2 => M) (fun rec2 hrec2 x2 => ?_) 1000000 v1)
  refine ok_iload_n hE 2 rfl dX2_hasName_2 ?_
  refine ok_iload_n hE 1 rfl dX2_hasName_3 ?_
  refine ok_icmp_ge hE 24 rfl dX2_hasName_4 ?_ ?_
  · refine ok_iconst hE (0 : Int32) ki_0 dX2_hasName_24 ?_
    exact ok_zreturnP hE (Or.inl rfl) dX2_hasName_25
  · refine ok_aload_n hE 0 rfl dX2_hasName_7 ?_
    refine ok_iload_n hE 2 rfl dX2_hasName_8 ?_
    refine ok_iload_n hE 1 rfl dX2_hasName_9 ?_
    refine ok_cvIp hE rmP_LHasLikeNames [.int x2, .int p1] [] rfl ca_X2_68 shP_7 rfl (fun _ hx => mP_LHasLikeNames hE.sys _ _  _ _ hx) ⟨rfl, rfl, rfl, rfl⟩ rfl rfl dX2_hasName_10 (fun r3 => ?_)
    refine ok_if_eq hE 18 rfl dX2_hasName_13 ?_ ?_
    · refine ok_iinc hE 2 (x2 + (1 : Int32)) (by rw [ko_1]) (fun v4 => [(2, .int v4), (0, .ref (E.Y.ad 7)), (1, .int p1)]) rfl (fun _ => rfl) rfl dX2_hasName_18 (fun v4 => ?_)
      refine ok_goto hE 2 rfl dX2_hasName_21 ?_
      exact ok_sub [1, 2, 0] rfl (hrec2 v4)
    · refine ok_iconst hE (1 : Int32) ki_1 dX2_hasName_16 ?_
      exact ok_zreturnP hE (Or.inr rfl) dX2_hasName_17
theorem mP_LHasName {l : Launch} {Y : Sys} {t : Nat} (hY : SysOk Y t shP) (p1 : Int32)  (M : Mm) (r : Int32) (h : P_LHasName p1 M = some r) : Cm l Y t yX2_hasName (WS yX2_hasName cX2_hasName 3 (some .boolean)) rmP_LHasName [.ref (Y.ad 7), .int p1] M ((some (.int r), M)) := by
  refine cm_of (own := RX2) hY rfl rfl (Nat.le_of_ble_eq_true rfl) (fun E hE e1 e2 e3 e4 => ?_)
  subst e1
  exact tP_LHasName E hE p1  M r h e4.symm
def P_TByteAt (p1 : Int32) (M : Mm) : Option Int32 :=
 lett (fun (_ : Unit) =>
 some (-1 : Int32)) fun j12 =>
 if p1 < 0 then
 (j12 ())
 else
 (if p1 < (gI M 5 1) then
 (ald p1 1600 (some (gI M 6 (ix p1))))
 else
 (j12 ()))
abbrev rmP_TByteAt : Room := { frames := 0, cells := 0, slots := 0, locals := 0 }
set_option maxHeartbeats 4000000 in
set_option maxRecDepth 100000 in
theorem tP_TByteAt (E : Cx) (hE : CxOk E cX9_byteAt RX9 shP (some .int) rmP_TByteAt 2) (p1 : Int32)  (M : Mm) : Ok E 0 [(0, .ref (E.Y.ad 5)), (1, .int p1)] [] M (P_TByteAt p1 M) (KIp E M) := by
  unfold P_TByteAt
  refine ok_iload_n hE 1 rfl dX9_byteAt_0 ?_
  refine ok_fun (fun j => ∀ (_ : Unit), Ok E 12 [] [] M (j ()) (KIp E M)) (fun _ => ?_) (fun j12 hj12 => ?_)
  · refine ok_iconst hE (-1 : Int32) ki_m1 dX9_byteAt_12 ?_
    refine ok_goto hE 22 rfl dX9_byteAt_13 ?_
    exact ok_ireturnP hE dX9_byteAt_22
  refine ok_if_lt hE 12 rfl dX9_byteAt_1 ?_ ?_
  · exact ok_sub [] rfl (hj12 ())
  · refine ok_iload_n hE 1 rfl dX9_byteAt_4 ?_
    refine ok_aload_n hE 0 rfl dX9_byteAt_5 ?_
    refine ok_getI hE fl_X9_15 shP_5 rfl dX9_byteAt_6 ?_
    refine ok_icmp_lt hE 16 rfl dX9_byteAt_9 ?_ ?_
    · refine ok_aload_n hE 0 rfl dX9_byteAt_16 ?_
      refine ok_getA hE fl_X9_9 shP_5 rfl dX9_byteAt_17 ?_
      refine ok_iload_n hE 1 rfl dX9_byteAt_20 ?_
      refine ok_iaload hE shP_6 dX9_byteAt_21 ?_
      exact ok_ireturnP hE dX9_byteAt_22
    · exact ok_sub [] rfl (hj12 ())
theorem mP_TByteAt {l : Launch} {Y : Sys} {t : Nat} (hY : SysOk Y t shP) (p1 : Int32)  (M : Mm) (r : Int32) (h : P_TByteAt p1 M = some r) : Cm l Y t yX9_byteAt (WS yX9_byteAt cX9_byteAt 2 (some .int)) rmP_TByteAt [.ref (Y.ad 5), .int p1] M ((some (.int r), M)) := by
  refine cm_of (own := RX9) hY rfl rfl (Nat.le_of_ble_eq_true rfl) (fun E hE e1 e2 e3 e4 => ?_)
  subst e1
  exact tP_TByteAt E hE p1  M r h e4.symm
def P_TIsBlank (p1 : Int32) (M : Mm) : Option Int32 :=
 bnd (P_TByteAt p1 M) fun r1 =>
 lett r1 fun v2 =>
 lett (fun (_ : Unit) =>
 some (1 : Int32)) fun j18 =>
 if v2 = (10 : Int32) then
 (j18 ())
 else
 (if v2 = (32 : Int32) then
 (j18 ())
 else
 (some (0 : Int32)))
abbrev rmP_TIsBlank : Room := { frames := 1, cells := 0, slots := 0, locals := 21 }
set_option maxHeartbeats 4000000 in
set_option maxRecDepth 100000 in
theorem tP_TIsBlank (E : Cx) (hE : CxOk E cX9_isBlank RX9 shP (some .boolean) rmP_TIsBlank 3) (p1 : Int32)  (M : Mm) : Ok E 0 [(0, .ref (E.Y.ad 5)), (1, .int p1)] [] M (P_TIsBlank p1 M) (KIp E M) := by
  unfold P_TIsBlank
  refine ok_aload_n hE 0 rfl dX9_isBlank_0 ?_
  refine ok_iload_n hE 1 rfl dX9_isBlank_1 ?_
  refine ok_cvIp hE rmP_TByteAt [.int p1] [] rfl ca_X9_19 shP_5 rfl (fun _ hx => mP_TByteAt hE.sys _  _ _ hx) ⟨rfl, rfl, rfl, rfl⟩ rfl rfl dX9_isBlank_2 (fun r1 => ?_)
  refine ok_istore_n hE (fun v2 => [(2, .int v2), (0, .ref (E.Y.ad 5)), (1, .int p1)]) (fun _ => rfl) rfl dX9_isBlank_5 (fun v2 => ?_)
  refine ok_iload_n hE 0 rfl dX9_isBlank_6 ?_
  refine ok_bipush hE (10 : Int32) kb_10 dX9_isBlank_7 ?_
  refine ok_fun (fun j => ∀ (_ : Unit), Ok E 18 [] [] M (j ()) (KIp E M)) (fun _ => ?_) (fun j18 hj18 => ?_)
  · refine ok_iconst hE (1 : Int32) ki_1 dX9_isBlank_18 ?_
    refine ok_goto hE 23 rfl dX9_isBlank_19 ?_
    exact ok_zreturnP hE (Or.inr rfl) dX9_isBlank_23
  refine ok_icmp_eq hE 18 rfl dX9_isBlank_9 ?_ ?_
  · exact ok_sub [] rfl (hj18 ())
  · refine ok_iload_n hE 0 rfl dX9_isBlank_12 ?_
    refine ok_bipush hE (32 : Int32) kb_32 dX9_isBlank_13 ?_
    refine ok_icmp_ne hE 22 rfl dX9_isBlank_15 ?_ ?_
    · refine ok_iconst hE (0 : Int32) ki_0 dX9_isBlank_22 ?_
      exact ok_zreturnP hE (Or.inl rfl) dX9_isBlank_23
    · exact ok_sub [] rfl (hj18 ())
theorem mP_TIsBlank {l : Launch} {Y : Sys} {t : Nat} (hY : SysOk Y t shP) (p1 : Int32)  (M : Mm) (r : Int32) (h : P_TIsBlank p1 M = some r) : Cm l Y t yX9_isBlank (WS yX9_isBlank cX9_isBlank 3 (some .boolean)) rmP_TIsBlank [.ref (Y.ad 5), .int p1] M ((some (.int r), M)) := by
  refine cm_of (own := RX9) hY rfl rfl (Nat.le_of_ble_eq_true rfl) (fun E hE e1 e2 e3 e4 => ?_)
  subst e1
  exact tP_TIsBlank E hE p1  M r h e4.symm
def P_TIsLetter (p1 : Int32) (M : Mm) : Option Int32 :=
 bnd (P_TByteAt p1 M) fun r1 =>
 lett r1 fun v2 =>
 if v2 < (97 : Int32) then
 (some (0 : Int32))
 else
 (if (122 : Int32) < v2 then
 (some (0 : Int32))
 else
 (some (1 : Int32)))
abbrev rmP_TIsLetter : Room := { frames := 1, cells := 0, slots := 0, locals := 21 }
set_option maxHeartbeats 4000000 in
set_option maxRecDepth 100000 in
theorem tP_TIsLetter (E : Cx) (hE : CxOk E cX9_isLetter RX9 shP (some .boolean) rmP_TIsLetter 3) (p1 : Int32)  (M : Mm) : Ok E 0 [(0, .ref (E.Y.ad 5)), (1, .int p1)] [] M (P_TIsLetter p1 M) (KIp E M) := by
  unfold P_TIsLetter
  refine ok_aload_n hE 0 rfl dX9_isLetter_0 ?_
  refine ok_iload_n hE 1 rfl dX9_isLetter_1 ?_
  refine ok_cvIp hE rmP_TByteAt [.int p1] [] rfl ca_X9_19 shP_5 rfl (fun _ hx => mP_TByteAt hE.sys _  _ _ hx) ⟨rfl, rfl, rfl, rfl⟩ rfl rfl dX9_isLetter_2 (fun r1 => ?_)
  refine ok_istore_n hE (fun v2 => [(2, .int v2), (0, .ref (E.Y.ad 5)), (1, .int p1)]) (fun _ => rfl) rfl dX9_isLetter_5 (fun v2 => ?_)
  refine ok_iload_n hE 0 rfl dX9_isLetter_6 ?_
  refine ok_bipush hE (97 : Int32) kb_97 dX9_isLetter_7 ?_
  refine ok_icmp_lt hE 22 rfl dX9_isLetter_9 ?_ ?_
  · refine ok_iconst hE (0 : Int32) ki_0 dX9_isLetter_22 ?_
    exact ok_zreturnP hE (Or.inl rfl) dX9_isLetter_23
  · refine ok_iload_n hE 0 rfl dX9_isLetter_12 ?_
    refine ok_bipush hE (122 : Int32) kb_122 dX9_isLetter_13 ?_
    refine ok_icmp_gt hE 22 rfl dX9_isLetter_15 ?_ ?_
    · refine ok_iconst hE (0 : Int32) ki_0 dX9_isLetter_22 ?_
      exact ok_zreturnP hE (Or.inl rfl) dX9_isLetter_23
    · refine ok_iconst hE (1 : Int32) ki_1 dX9_isLetter_18 ?_
      refine ok_goto hE 23 rfl dX9_isLetter_19 ?_
      exact ok_zreturnP hE (Or.inr rfl) dX9_isLetter_23
theorem mP_TIsLetter {l : Launch} {Y : Sys} {t : Nat} (hY : SysOk Y t shP) (p1 : Int32)  (M : Mm) (r : Int32) (h : P_TIsLetter p1 M = some r) : Cm l Y t yX9_isLetter (WS yX9_isLetter cX9_isLetter 3 (some .boolean)) rmP_TIsLetter [.ref (Y.ad 5), .int p1] M ((some (.int r), M)) := by
  refine cm_of (own := RX9) hY rfl rfl (Nat.le_of_ble_eq_true rfl) (fun E hE e1 e2 e3 e4 => ?_)
  subst e1
  exact tP_TIsLetter E hE p1  M r h e4.symm
def P_TIsDigit (p1 : Int32) (M : Mm) : Option Int32 :=
 bnd (P_TByteAt p1 M) fun r1 =>
 lett r1 fun v2 =>
 if v2 < (48 : Int32) then
 (some (0 : Int32))
 else
 (if (57 : Int32) < v2 then
 (some (0 : Int32))
 else
 (some (1 : Int32)))
abbrev rmP_TIsDigit : Room := { frames := 1, cells := 0, slots := 0, locals := 21 }
set_option maxHeartbeats 4000000 in
set_option maxRecDepth 100000 in
theorem tP_TIsDigit (E : Cx) (hE : CxOk E cX9_isDigit RX9 shP (some .boolean) rmP_TIsDigit 3) (p1 : Int32)  (M : Mm) : Ok E 0 [(0, .ref (E.Y.ad 5)), (1, .int p1)] [] M (P_TIsDigit p1 M) (KIp E M) := by
  unfold P_TIsDigit
  refine ok_aload_n hE 0 rfl dX9_isDigit_0 ?_
  refine ok_iload_n hE 1 rfl dX9_isDigit_1 ?_
  refine ok_cvIp hE rmP_TByteAt [.int p1] [] rfl ca_X9_19 shP_5 rfl (fun _ hx => mP_TByteAt hE.sys _  _ _ hx) ⟨rfl, rfl, rfl, rfl⟩ rfl rfl dX9_isDigit_2 (fun r1 => ?_)
  refine ok_istore_n hE (fun v2 => [(2, .int v2), (0, .ref (E.Y.ad 5)), (1, .int p1)]) (fun _ => rfl) rfl dX9_isDigit_5 (fun v2 => ?_)
  refine ok_iload_n hE 0 rfl dX9_isDigit_6 ?_
  refine ok_bipush hE (48 : Int32) kb_48 dX9_isDigit_7 ?_
  refine ok_icmp_lt hE 22 rfl dX9_isDigit_9 ?_ ?_
  · refine ok_iconst hE (0 : Int32) ki_0 dX9_isDigit_22 ?_
    exact ok_zreturnP hE (Or.inl rfl) dX9_isDigit_23
  · refine ok_iload_n hE 0 rfl dX9_isDigit_12 ?_
    refine ok_bipush hE (57 : Int32) kb_57 dX9_isDigit_13 ?_
    refine ok_icmp_gt hE 22 rfl dX9_isDigit_15 ?_ ?_
    · refine ok_iconst hE (0 : Int32) ki_0 dX9_isDigit_22 ?_
      exact ok_zreturnP hE (Or.inl rfl) dX9_isDigit_23
    · refine ok_iconst hE (1 : Int32) ki_1 dX9_isDigit_18 ?_
      refine ok_goto hE 23 rfl dX9_isDigit_19 ?_
      exact ok_zreturnP hE (Or.inr rfl) dX9_isDigit_23
theorem mP_TIsDigit {l : Launch} {Y : Sys} {t : Nat} (hY : SysOk Y t shP) (p1 : Int32)  (M : Mm) (r : Int32) (h : P_TIsDigit p1 M = some r) : Cm l Y t yX9_isDigit (WS yX9_isDigit cX9_isDigit 3 (some .boolean)) rmP_TIsDigit [.ref (Y.ad 5), .int p1] M ((some (.int r), M)) := by
  refine cm_of (own := RX9) hY rfl rfl (Nat.le_of_ble_eq_true rfl) (fun E hE e1 e2 e3 e4 => ?_)
  subst e1
  exact tP_TIsDigit E hE p1  M r h e4.symm
def P_TDigitCount (p1 : Int32) (M : Mm) : Option Int32 :=
 lett (0 : Int32) fun v1 =>
 loopR (fun (rec2 : Int32 → Option Int32) (x2 : Int32) =>
 if (gI M 5 1) ≤ (p1 + x2) then
 (some x2)
 else
 (bnd (P_TIsDigit (p1 + x2) M) fun r3 =>
 if r3 = 0 then
 (some x2)
 else
 (lett (x2 + (1 : Int32)) fun v4 =>
 rec2 v4))) 1000000 v1
abbrev rmP_TDigitCount : Room := { frames := 2, cells := 0, slots := 0, locals := 43 }
set_option maxHeartbeats 4000000 in
set_option maxRecDepth 100000 in
theorem tP_TDigitCount (E : Cx) (hE : CxOk E cX9_digitCount RX9 shP (some .int) rmP_TDigitCount 3) (p1 : Int32)  (M : Mm) : Ok E 0 [(0, .ref (E.Y.ad 5)), (1, .int p1)] [] M (P_TDigitCount p1 M) (KIp E M) := by
  unfold P_TDigitCount
  refine ok_iconst hE (0 : Int32) ki_0 dX9_digitCount_0 ?_
  refine ok_istore_n hE (fun v1 => [(2, .int v1), (0, .ref (E.Y.ad 5)), (1, .int p1)]) (fun _ => rfl) rfl dX9_digitCount_1 (fun v1 => ?_)
  refine ok_sub [1, 2, 0] rfl (ok_loop (σ := Int32) 2 (fun x2 => [(0, .ref (E.Y.ad 5)), (1, .int p1), (2, .int x2)]) (fun x2 => M) (fun rec2 hrec2 x2 => ?_) 1000000 v1)
  refine ok_iload_n hE 1 rfl dX9_digitCount_2 ?_
  refine ok_iload_n hE 2 rfl dX9_digitCount_3 ?_
  refine ok_iadd hE dX9_digitCount_4 ?_
  refine ok_aload_n hE 0 rfl dX9_digitCount_5 ?_
  refine ok_getI hE fl_X9_15 shP_5 rfl dX9_digitCount_6 ?_
  refine ok_icmp_ge hE 28 rfl dX9_digitCount_9 ?_ ?_
  · refine ok_iload_n hE 2 rfl dX9_digitCount_28 ?_
    exact ok_ireturnP hE dX9_digitCount_29
  · refine ok_aload_n hE 0 rfl dX9_digitCount_12 ?_
    refine ok_iload_n hE 1 rfl dX9_digitCount_13 ?_
    refine ok_iload_n hE 2 rfl dX9_digitCount_14 ?_
    refine ok_iadd hE dX9_digitCount_15 ?_
    refine ok_cvIp hE rmP_TIsDigit [.int (p1 + x2)] [] rfl ca_X9_27 shP_5 rfl (fun _ hx => mP_TIsDigit hE.sys _  _ _ hx) ⟨rfl, rfl, rfl, rfl⟩ rfl rfl dX9_digitCount_16 (fun r3 => ?_)
    refine ok_if_eq hE 28 rfl dX9_digitCount_19 ?_ ?_
    · refine ok_iload_n hE 2 rfl dX9_digitCount_28 ?_
      exact ok_ireturnP hE dX9_digitCount_29
    · refine ok_iinc hE 2 (x2 + (1 : Int32)) (by rw [ko_1]) (fun v4 => [(2, .int v4), (0, .ref (E.Y.ad 5)), (1, .int p1)]) rfl (fun _ => rfl) rfl dX9_digitCount_22 (fun v4 => ?_)
      refine ok_goto hE 2 rfl dX9_digitCount_25 ?_
      exact ok_sub [1, 2, 0] rfl (hrec2 v4)
theorem mP_TDigitCount {l : Launch} {Y : Sys} {t : Nat} (hY : SysOk Y t shP) (p1 : Int32)  (M : Mm) (r : Int32) (h : P_TDigitCount p1 M = some r) : Cm l Y t yX9_digitCount (WS yX9_digitCount cX9_digitCount 3 (some .int)) rmP_TDigitCount [.ref (Y.ad 5), .int p1] M ((some (.int r), M)) := by
  refine cm_of (own := RX9) hY rfl rfl (Nat.le_of_ble_eq_true rfl) (fun E hE e1 e2 e3 e4 => ?_)
  subst e1
  exact tP_TDigitCount E hE p1  M r h e4.symm
def P_TLetterCount (p1 : Int32) (M : Mm) : Option Int32 :=
 lett (0 : Int32) fun v1 =>
 loopR (fun (rec2 : Int32 → Option Int32) (x2 : Int32) =>
 if (gI M 5 1) ≤ (p1 + x2) then
 (some x2)
 else
 (bnd (P_TIsLetter (p1 + x2) M) fun r3 =>
 if r3 = 0 then
 (some x2)
 else
 (lett (x2 + (1 : Int32)) fun v4 =>
 rec2 v4))) 1000000 v1
abbrev rmP_TLetterCount : Room := { frames := 2, cells := 0, slots := 0, locals := 43 }
set_option maxHeartbeats 4000000 in
set_option maxRecDepth 100000 in
theorem tP_TLetterCount (E : Cx) (hE : CxOk E cX9_letterCount RX9 shP (some .int) rmP_TLetterCount 3) (p1 : Int32)  (M : Mm) : Ok E 0 [(0, .ref (E.Y.ad 5)), (1, .int p1)] [] M (P_TLetterCount p1 M) (KIp E M) := by
  unfold P_TLetterCount
  refine ok_iconst hE (0 : Int32) ki_0 dX9_letterCount_0 ?_
  refine ok_istore_n hE (fun v1 => [(2, .int v1), (0, .ref (E.Y.ad 5)), (1, .int p1)]) (fun _ => rfl) rfl dX9_letterCount_1 (fun v1 => ?_)
  refine ok_sub [1, 2, 0] rfl (ok_loop (σ := Int32) 2 (fun x2 => [(0, .ref (E.Y.ad 5)), (1, .int p1), (2, .int x2)]) (fun x2 => M) (fun rec2 hrec2 x2 => ?_) 1000000 v1)
  refine ok_iload_n hE 1 rfl dX9_letterCount_2 ?_
  refine ok_iload_n hE 2 rfl dX9_letterCount_3 ?_
  refine ok_iadd hE dX9_letterCount_4 ?_
  refine ok_aload_n hE 0 rfl dX9_letterCount_5 ?_
  refine ok_getI hE fl_X9_15 shP_5 rfl dX9_letterCount_6 ?_
  refine ok_icmp_ge hE 28 rfl dX9_letterCount_9 ?_ ?_
  · refine ok_iload_n hE 2 rfl dX9_letterCount_28 ?_
    exact ok_ireturnP hE dX9_letterCount_29
  · refine ok_aload_n hE 0 rfl dX9_letterCount_12 ?_
    refine ok_iload_n hE 1 rfl dX9_letterCount_13 ?_
    refine ok_iload_n hE 2 rfl dX9_letterCount_14 ?_
    refine ok_iadd hE dX9_letterCount_15 ?_
    refine ok_cvIp hE rmP_TIsLetter [.int (p1 + x2)] [] rfl ca_X9_23 shP_5 rfl (fun _ hx => mP_TIsLetter hE.sys _  _ _ hx) ⟨rfl, rfl, rfl, rfl⟩ rfl rfl dX9_letterCount_16 (fun r3 => ?_)
    refine ok_if_eq hE 28 rfl dX9_letterCount_19 ?_ ?_
    · refine ok_iload_n hE 2 rfl dX9_letterCount_28 ?_
      exact ok_ireturnP hE dX9_letterCount_29
    · refine ok_iinc hE 2 (x2 + (1 : Int32)) (by rw [ko_1]) (fun v4 => [(2, .int v4), (0, .ref (E.Y.ad 5)), (1, .int p1)]) rfl (fun _ => rfl) rfl dX9_letterCount_22 (fun v4 => ?_)
      refine ok_goto hE 2 rfl dX9_letterCount_25 ?_
      exact ok_sub [1, 2, 0] rfl (hrec2 v4)
theorem mP_TLetterCount {l : Launch} {Y : Sys} {t : Nat} (hY : SysOk Y t shP) (p1 : Int32)  (M : Mm) (r : Int32) (h : P_TLetterCount p1 M = some r) : Cm l Y t yX9_letterCount (WS yX9_letterCount cX9_letterCount 3 (some .int)) rmP_TLetterCount [.ref (Y.ad 5), .int p1] M ((some (.int r), M)) := by
  refine cm_of (own := RX9) hY rfl rfl (Nat.le_of_ble_eq_true rfl) (fun E hE e1 e2 e3 e4 => ?_)
  subst e1
  exact tP_TLetterCount E hE p1  M r h e4.symm
