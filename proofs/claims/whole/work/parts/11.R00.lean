abbrev shX12 : Shp := (0, 11, 0, [(0, 0), (0, 0), (0, 0), (0, 0), (0, 0), (0, 0), (0, 0), (0, 0), (0, 0), (0, 0), (0, 0), (0, 0), (0, 0), (5, 1), (5, 2), (5, 3), (5, 4), (5, 5), (5, 6), (0, 0), (0, 0), (0, 0), (0, 0), (0, 0), (0, 0), (0, 0), (0, 0), (0, 0), (0, 0), (0, 0), (0, 0), (0, 0), (5, 7), (5, 8), (5, 9), (5, 10), (5, 11), (5, 12), (5, 13), (0, 0), (5, 14), (0, 0), (0, 0), (0, 0), (0, 0), (0, 0), (0, 0), (0, 0), (5, 15), (5, 16), (5, 17), (5, 18), (5, 19), (0, 0), (0, 0), (0, 0), (0, 0), (0, 0), (0, 0), (5, 20), (5, 21), (0, 0), (5, 22), (5, 23), (5, 24), (5, 25), (0, 0), (5, 26), (0, 0)])
def shR (a : Nat) : Shp := ([shX12, (1, 0, 6, []), (1, 0, 6, []), (1, 0, 6, []), (1, 0, 6, []), (1, 0, 108, []), (1, 0, 36, []), (1, 0, 6, []), (1, 0, 6, []), (1, 0, 6, []), (1, 0, 6, []), (1, 0, 108, []), (1, 0, 36, []), (1, 0, 1600, []), (1, 0, 6, []), (1, 0, 105, []), (1, 0, 1516, []), (2, 1, 40, []), (1, 0, 15160, []), (2, 1, 400, []), (1, 0, 1604, []), (1, 0, 1604, []), (1, 0, 16, []), (1, 0, 16, []), (1, 0, 1281, []), (1, 0, 21, []), (1, 0, 15, [])] : List Shp).getD a (99, 0, 0, [])
theorem shR_0 : shR 0 = shX12 := rfl
theorem shR_1 : shR 1 = (1, 0, 6, []) := rfl
theorem shR_2 : shR 2 = (1, 0, 6, []) := rfl
theorem shR_3 : shR 3 = (1, 0, 6, []) := rfl
theorem shR_4 : shR 4 = (1, 0, 6, []) := rfl
theorem shR_5 : shR 5 = (1, 0, 108, []) := rfl
theorem shR_6 : shR 6 = (1, 0, 36, []) := rfl
theorem shR_7 : shR 7 = (1, 0, 6, []) := rfl
theorem shR_8 : shR 8 = (1, 0, 6, []) := rfl
theorem shR_9 : shR 9 = (1, 0, 6, []) := rfl
theorem shR_10 : shR 10 = (1, 0, 6, []) := rfl
theorem shR_11 : shR 11 = (1, 0, 108, []) := rfl
theorem shR_12 : shR 12 = (1, 0, 36, []) := rfl
theorem shR_13 : shR 13 = (1, 0, 1600, []) := rfl
theorem shR_14 : shR 14 = (1, 0, 6, []) := rfl
theorem shR_15 : shR 15 = (1, 0, 105, []) := rfl
theorem shR_16 : shR 16 = (1, 0, 1516, []) := rfl
theorem shR_17 : shR 17 = (2, 1, 40, []) := rfl
theorem shR_18 : shR 18 = (1, 0, 15160, []) := rfl
theorem shR_19 : shR 19 = (2, 1, 400, []) := rfl
theorem shR_20 : shR 20 = (1, 0, 1604, []) := rfl
theorem shR_21 : shR 21 = (1, 0, 1604, []) := rfl
theorem shR_22 : shR 22 = (1, 0, 16, []) := rfl
theorem shR_23 : shR 23 = (1, 0, 16, []) := rfl
theorem shR_24 : shR 24 = (1, 0, 1281, []) := rfl
theorem shR_25 : shR 25 = (1, 0, 21, []) := rfl
theorem shR_26 : shR 26 = (1, 0, 15, []) := rfl
def R_isIn (p1 : Int32) (p2 : Int32) (p3 : Int32) (M : Mm) : Option Int32 :=
 if p1 < p2 then
 (some (0 : Int32))
 else
 (if p3 < p1 then
 (some (0 : Int32))
 else
 (some (1 : Int32)))
abbrev rmR_isIn : Room := { frames := 0, cells := 0, slots := 0, locals := 0 }
set_option maxHeartbeats 4000000 in
set_option maxRecDepth 100000 in
theorem tR_isIn (E : Cx) (hE : CxOk E cX12_isIn RX12 shR (some .boolean) rmR_isIn 3) (p1 : Int32) (p2 : Int32) (p3 : Int32)  (M : Mm) : Ok E 0 [(0, .int p1), (1, .int p2), (2, .int p3)] [] M (R_isIn p1 p2 p3 M) (KIp E M) := by
  unfold R_isIn
  refine ok_iload_n hE 0 rfl dX12_isIn_0 ?_
  refine ok_iload_n hE 1 rfl dX12_isIn_1 ?_
  refine ok_icmp_lt hE 14 rfl dX12_isIn_2 ?_ ?_
  · refine ok_iconst hE (0 : Int32) ki_0 dX12_isIn_14 ?_
    exact ok_zreturnP hE (Or.inl rfl) dX12_isIn_15
  · refine ok_iload_n hE 0 rfl dX12_isIn_5 ?_
    refine ok_iload_n hE 2 rfl dX12_isIn_6 ?_
    refine ok_icmp_gt hE 14 rfl dX12_isIn_7 ?_ ?_
    · refine ok_iconst hE (0 : Int32) ki_0 dX12_isIn_14 ?_
      exact ok_zreturnP hE (Or.inl rfl) dX12_isIn_15
    · refine ok_iconst hE (1 : Int32) ki_1 dX12_isIn_10 ?_
      refine ok_goto hE 15 rfl dX12_isIn_11 ?_
      exact ok_zreturnP hE (Or.inr rfl) dX12_isIn_15
theorem mR_isIn {l : Launch} {Y : Sys} {t : Nat} (hY : SysOk Y t shR) (p1 : Int32) (p2 : Int32) (p3 : Int32)  (M : Mm) (r : Int32) (h : R_isIn p1 p2 p3 M = some r) : Cm l Y t yX12_isIn (WS yX12_isIn cX12_isIn 3 (some .boolean)) rmR_isIn [.int p1, .int p2, .int p3] M ((some (.int r), M)) := by
  refine cm_of (own := RX12) hY rfl rfl (Nat.le_of_ble_eq_true rfl) (fun E hE e1 e2 e3 e4 => ?_)
  subst e1
  exact tR_isIn E hE p1 p2 p3  M r h e4.symm
def R_lesser (p1 : Int32) (p2 : Int32) (M : Mm) : Option Int32 :=
 if p2 ≤ p1 then
 (some p2)
 else
 (some p1)
abbrev rmR_lesser : Room := { frames := 0, cells := 0, slots := 0, locals := 0 }
set_option maxHeartbeats 4000000 in
set_option maxRecDepth 100000 in
theorem tR_lesser (E : Cx) (hE : CxOk E cX12_lesser RX12 shR (some .int) rmR_lesser 2) (p1 : Int32) (p2 : Int32)  (M : Mm) : Ok E 0 [(0, .int p1), (1, .int p2)] [] M (R_lesser p1 p2 M) (KIp E M) := by
  unfold R_lesser
  refine ok_iload_n hE 0 rfl dX12_lesser_0 ?_
  refine ok_iload_n hE 1 rfl dX12_lesser_1 ?_
  refine ok_icmp_ge hE 9 rfl dX12_lesser_2 ?_ ?_
  · refine ok_iload_n hE 1 rfl dX12_lesser_9 ?_
    exact ok_ireturnP hE dX12_lesser_10
  · refine ok_iload_n hE 0 rfl dX12_lesser_5 ?_
    refine ok_goto hE 10 rfl dX12_lesser_6 ?_
    exact ok_ireturnP hE dX12_lesser_10
theorem mR_lesser {l : Launch} {Y : Sys} {t : Nat} (hY : SysOk Y t shR) (p1 : Int32) (p2 : Int32)  (M : Mm) (r : Int32) (h : R_lesser p1 p2 M = some r) : Cm l Y t yX12_lesser (WS yX12_lesser cX12_lesser 2 (some .int)) rmR_lesser [.int p1, .int p2] M ((some (.int r), M)) := by
  refine cm_of (own := RX12) hY rfl rfl (Nat.le_of_ble_eq_true rfl) (fun E hE e1 e2 e3 e4 => ?_)
  subst e1
  exact tR_lesser E hE p1 p2  M r h e4.symm
def R_greatest (p1 : Int32) (p2 : Int32) (M : Mm) : Option Int32 :=
 if p1 ≤ p2 then
 (some p2)
 else
 (some p1)
abbrev rmR_greatest : Room := { frames := 0, cells := 0, slots := 0, locals := 0 }
set_option maxHeartbeats 4000000 in
set_option maxRecDepth 100000 in
theorem tR_greatest (E : Cx) (hE : CxOk E cX12_greatest RX12 shR (some .int) rmR_greatest 2) (p1 : Int32) (p2 : Int32)  (M : Mm) : Ok E 0 [(0, .int p1), (1, .int p2)] [] M (R_greatest p1 p2 M) (KIp E M) := by
  unfold R_greatest
  refine ok_iload_n hE 0 rfl dX12_greatest_0 ?_
  refine ok_iload_n hE 1 rfl dX12_greatest_1 ?_
  refine ok_icmp_le hE 9 rfl dX12_greatest_2 ?_ ?_
  · refine ok_iload_n hE 1 rfl dX12_greatest_9 ?_
    exact ok_ireturnP hE dX12_greatest_10
  · refine ok_iload_n hE 0 rfl dX12_greatest_5 ?_
    refine ok_goto hE 10 rfl dX12_greatest_6 ?_
    exact ok_ireturnP hE dX12_greatest_10
theorem mR_greatest {l : Launch} {Y : Sys} {t : Nat} (hY : SysOk Y t shR) (p1 : Int32) (p2 : Int32)  (M : Mm) (r : Int32) (h : R_greatest p1 p2 M = some r) : Cm l Y t yX12_greatest (WS yX12_greatest cX12_greatest 2 (some .int)) rmR_greatest [.int p1, .int p2] M ((some (.int r), M)) := by
  refine cm_of (own := RX12) hY rfl rfl (Nat.le_of_ble_eq_true rfl) (fun E hE e1 e2 e3 e4 => ?_)
  subst e1
  exact tR_greatest E hE p1 p2  M r h e4.symm
def R_away (p1 : Int32) (p2 : Int32) (M : Mm) : Option Int32 :=
 if p2 ≤ p1 then
 (some (p1 - p2))
 else
 (some (p2 - p1))
abbrev rmR_away : Room := { frames := 0, cells := 0, slots := 0, locals := 0 }
set_option maxHeartbeats 4000000 in
set_option maxRecDepth 100000 in
theorem tR_away (E : Cx) (hE : CxOk E cX12_away RX12 shR (some .int) rmR_away 2) (p1 : Int32) (p2 : Int32)  (M : Mm) : Ok E 0 [(0, .int p1), (1, .int p2)] [] M (R_away p1 p2 M) (KIp E M) := by
  unfold R_away
  refine ok_iload_n hE 0 rfl dX12_away_0 ?_
  refine ok_iload_n hE 1 rfl dX12_away_1 ?_
  refine ok_icmp_ge hE 11 rfl dX12_away_2 ?_ ?_
  · refine ok_iload_n hE 0 rfl dX12_away_11 ?_
    refine ok_iload_n hE 1 rfl dX12_away_12 ?_
    refine ok_isub hE dX12_away_13 ?_
    exact ok_ireturnP hE dX12_away_14
  · refine ok_iload_n hE 1 rfl dX12_away_5 ?_
    refine ok_iload_n hE 0 rfl dX12_away_6 ?_
    refine ok_isub hE dX12_away_7 ?_
    refine ok_goto hE 14 rfl dX12_away_8 ?_
    exact ok_ireturnP hE dX12_away_14
theorem mR_away {l : Launch} {Y : Sys} {t : Nat} (hY : SysOk Y t shR) (p1 : Int32) (p2 : Int32)  (M : Mm) (r : Int32) (h : R_away p1 p2 M = some r) : Cm l Y t yX12_away (WS yX12_away cX12_away 2 (some .int)) rmR_away [.int p1, .int p2] M ((some (.int r), M)) := by
  refine cm_of (own := RX12) hY rfl rfl (Nat.le_of_ble_eq_true rfl) (fun E hE e1 e2 e3 e4 => ?_)
  subst e1
  exact tR_away E hE p1 p2  M r h e4.symm
def R_refuses (p1 : Int32) (M : Mm) : Option (Int32 × Mm) :=
 ald p1 6 (ald p1 6 (lett (sI M 14 (ix p1) ((gI M 14 (ix p1)) + (1 : Int32))) fun M1 =>
 some ((-1 : Int32), M1)))
abbrev rmR_refuses : Room := { frames := 0, cells := 0, slots := 0, locals := 0 }
set_option maxHeartbeats 4000000 in
set_option maxRecDepth 100000 in
theorem tR_refuses (E : Cx) (hE : CxOk E cX12_refuses RX12 shR (some .int) rmR_refuses 2) (p1 : Int32)  (M : Mm) : Ok E 0 [(0, .ref (E.Y.ad 0)), (1, .int p1)] [] M (R_refuses p1 M) (KI E) := by
  unfold R_refuses
  refine ok_aload_n hE 0 rfl dX12_refuses_0 ?_
  refine ok_getA hE fl_X12_132 shR_0 rfl dX12_refuses_1 ?_
  refine ok_iload_n hE 1 rfl dX12_refuses_4 ?_
  refine ok_dup2 hE rfl rfl dX12_refuses_5 ?_
  refine ok_iaload hE shR_14 dX12_refuses_6 ?_
  refine ok_iconst hE (1 : Int32) ki_1 dX12_refuses_7 ?_
  refine ok_iadd hE dX12_refuses_8 ?_
  refine ok_iastore hE shR_14 dX12_refuses_9 (fun M1 => ?_)
  refine ok_iconst hE (-1 : Int32) ki_m1 dX12_refuses_10 ?_
  exact ok_ireturn hE dX12_refuses_11
theorem mR_refuses {l : Launch} {Y : Sys} {t : Nat} (hY : SysOk Y t shR) (p1 : Int32)  (M : Mm) (r : (Int32 × Mm)) (h : R_refuses p1 M = some r) : Cm l Y t yX12_refuses (WS yX12_refuses cX12_refuses 2 (some .int)) rmR_refuses [.ref (Y.ad 0), .int p1] M (enI r) := by
  refine cm_of (own := RX12) hY rfl rfl (Nat.le_of_ble_eq_true rfl) (fun E hE e1 e2 e3 e4 => ?_)
  subst e1
  exact tR_refuses E hE p1  M r h e4.symm
def R_isRefused (p1 : Int32) (M : Mm) : Option (Int32 × Mm) :=
 ald p1 6 (ald p1 6 (lett (sI M 14 (ix p1) ((gI M 14 (ix p1)) + (1 : Int32))) fun M1 =>
 some ((0 : Int32), M1)))
abbrev rmR_isRefused : Room := { frames := 0, cells := 0, slots := 0, locals := 0 }
set_option maxHeartbeats 4000000 in
set_option maxRecDepth 100000 in
theorem tR_isRefused (E : Cx) (hE : CxOk E cX12_isRefused RX12 shR (some .boolean) rmR_isRefused 2) (p1 : Int32)  (M : Mm) : Ok E 0 [(0, .ref (E.Y.ad 0)), (1, .int p1)] [] M (R_isRefused p1 M) (KI E) := by
  unfold R_isRefused
  refine ok_aload_n hE 0 rfl dX12_isRefused_0 ?_
  refine ok_getA hE fl_X12_132 shR_0 rfl dX12_isRefused_1 ?_
  refine ok_iload_n hE 1 rfl dX12_isRefused_4 ?_
  refine ok_dup2 hE rfl rfl dX12_isRefused_5 ?_
  refine ok_iaload hE shR_14 dX12_isRefused_6 ?_
  refine ok_iconst hE (1 : Int32) ki_1 dX12_isRefused_7 ?_
  refine ok_iadd hE dX12_isRefused_8 ?_
  refine ok_iastore hE shR_14 dX12_isRefused_9 (fun M1 => ?_)
  refine ok_iconst hE (0 : Int32) ki_0 dX12_isRefused_10 ?_
  exact ok_zreturn hE (Or.inl rfl) dX12_isRefused_11
theorem mR_isRefused {l : Launch} {Y : Sys} {t : Nat} (hY : SysOk Y t shR) (p1 : Int32)  (M : Mm) (r : (Int32 × Mm)) (h : R_isRefused p1 M = some r) : Cm l Y t yX12_isRefused (WS yX12_isRefused cX12_isRefused 2 (some .boolean)) rmR_isRefused [.ref (Y.ad 0), .int p1] M (enI r) := by
  refine cm_of (own := RX12) hY rfl rfl (Nat.le_of_ble_eq_true rfl) (fun E hE e1 e2 e3 e4 => ?_)
  subst e1
  exact tR_isRefused E hE p1  M r h e4.symm
def R_lays (p1 : Int32) (M : Mm) : Option Mm :=
 lett (0 : Int32) fun v1 =>
 lett (fun (M_1 : Mm) =>
 lett (sI M_1 0 39 ((gI M_1 0 39) + (4 : Int32))) fun M3 =>
 some M3) fun j37 =>
 loopR (fun (rec2 : (Int32 × Mm) → Option Mm) (x4 : Int32 × Mm) =>
 if (4 : Int32) ≤ x4.1 then
 (j37 x4.2)
 else
 (ald ((gI x4.2 0 39) + x4.1) 1600 (lett (sI x4.2 13 (ix ((gI x4.2 0 39) + x4.1)) ((p1 >>> (((24 : Int32) - ((8 : Int32) * x4.1)) &&& 31)) &&& (255 : Int32))) fun M5 =>
 lett (x4.1 + (1 : Int32)) fun v6 =>
 rec2 (v6, M5)))) 1000000 (v1, M)
abbrev rmR_lays : Room := { frames := 0, cells := 0, slots := 0, locals := 0 }
set_option maxHeartbeats 4000000 in
set_option maxRecDepth 100000 in
theorem tR_lays (E : Cx) (hE : CxOk E cX12_lays RX12 shR none rmR_lays 3) (p1 : Int32)  (M : Mm) : Ok E 0 [(0, .ref (E.Y.ad 0)), (1, .int p1)] [] M (R_lays p1 M) (KV E) := by
  unfold R_lays
  refine ok_iconst hE (0 : Int32) ki_0 dX12_lays_0 ?_
  refine ok_istore_n hE (fun v1 => [(2, .int v1), (0, .ref (E.Y.ad 0)), (1, .int p1)]) (fun _ => rfl) rfl dX12_lays_1 (fun v1 => ?_)
  refine ok_fun (fun j => ∀ (M_1 : Mm), Ok E 37 [(0, .ref (E.Y.ad 0))] [] M_1 (j M_1) (KV E)) (fun M_1 => ?_) (fun j37 hj37 => ?_)
  · refine ok_aload_n hE 0 rfl dX12_lays_37 ?_
    refine ok_dup hE rfl dX12_lays_38 ?_
    refine ok_getI hE fl_X12_129 shR_0 rfl dX12_lays_39 ?_
    refine ok_iconst hE (4 : Int32) ki_4 dX12_lays_42 ?_
    refine ok_iadd hE dX12_lays_43 ?_
    refine ok_putI hE fl_X12_129 shR_0 rfl dX12_lays_44 (fun M3 => ?_)
    exact ok_return hE dX12_lays_47
  refine ok_sub [1, 2, 0] rfl (ok_loop (σ := Int32 × Mm) 2 (fun x4 => [(0, .ref (E.Y.ad 0)), (1, .int p1), (2, .int x4.1)]) (fun x4 => x4.2) (fun rec2 hrec2 x4 => ?_) 1000000 (v1, M))
  refine ok_iload_n hE 2 rfl dX12_lays_2 ?_
  refine ok_iconst hE (4 : Int32) ki_4 dX12_lays_3 ?_
  refine ok_icmp_ge hE 37 rfl dX12_lays_4 ?_ ?_
  · exact ok_sub [0] rfl (hj37 x4.2)
  · refine ok_aload_n hE 0 rfl dX12_lays_7 ?_
    refine ok_getA hE fl_X12_126 shR_0 rfl dX12_lays_8 ?_
    refine ok_aload_n hE 0 rfl dX12_lays_11 ?_
    refine ok_getI hE fl_X12_129 shR_0 rfl dX12_lays_12 ?_
    refine ok_iload_n hE 2 rfl dX12_lays_15 ?_
    refine ok_iadd hE dX12_lays_16 ?_
    refine ok_iload_n hE 1 rfl dX12_lays_17 ?_
    refine ok_bipush hE (24 : Int32) kb_24 dX12_lays_18 ?_
    refine ok_bipush hE (8 : Int32) kb_8 dX12_lays_20 ?_
    refine ok_iload_n hE 2 rfl dX12_lays_22 ?_
    refine ok_imul hE dX12_lays_23 ?_
    refine ok_isub hE dX12_lays_24 ?_
    refine ok_ishr hE dX12_lays_25 ?_
    refine ok_sipush hE (255 : Int32) ks_255 dX12_lays_26 ?_
    refine ok_iand hE dX12_lays_29 ?_
    refine ok_iastore hE shR_13 dX12_lays_30 (fun M5 => ?_)
    refine ok_iinc hE 2 (x4.1 + (1 : Int32)) (by rw [ko_1]) (fun v6 => [(2, .int v6), (0, .ref (E.Y.ad 0)), (1, .int p1)]) rfl (fun _ => rfl) rfl dX12_lays_31 (fun v6 => ?_)
    refine ok_goto hE 2 rfl dX12_lays_34 ?_
    exact ok_sub [1, 2, 0] rfl (hrec2 (v6, M5))
theorem mR_lays {l : Launch} {Y : Sys} {t : Nat} (hY : SysOk Y t shR) (p1 : Int32)  (M : Mm) (r : Mm) (h : R_lays p1 M = some r) : Cm l Y t yX12_lays (WS yX12_lays cX12_lays 3 none) rmR_lays [.ref (Y.ad 0), .int p1] M (enV r) := by
  refine cm_of (own := RX12) hY rfl rfl (Nat.le_of_ble_eq_true rfl) (fun E hE e1 e2 e3 e4 => ?_)
  subst e1
  exact tR_lays E hE p1  M r h e4.symm
def R_feed (p1 : Int32) (p2 : Int32) (p3 : Int32) (p4 : Int32) (p5 : Int32) (M : Mm) : Option (Int32 × Mm) :=
 if ((gI M 0 39) + (20 : Int32)) ≤ (1600 : Int32) then
 (bnd (R_lays p1 M) fun M1 =>
 bnd (R_lays p2 M1) fun M2 =>
 bnd (R_lays p3 M2) fun M3 =>
 bnd (R_lays p4 M3) fun M4 =>
 bnd (R_lays p5 M4) fun M5 =>
 some ((gI M5 0 39), M5))
 else
 (bnd (R_refuses (0 : Int32) M) fun r6 =>
 some (r6.1, r6.2))
abbrev rmR_feed : Room := { frames := 1, cells := 0, slots := 0, locals := 22 }
set_option maxHeartbeats 4000000 in
set_option maxRecDepth 100000 in
theorem tR_feed (E : Cx) (hE : CxOk E cX12_feed RX12 shR (some .int) rmR_feed 6) (p1 : Int32) (p2 : Int32) (p3 : Int32) (p4 : Int32) (p5 : Int32)  (M : Mm) : Ok E 0 [(0, .ref (E.Y.ad 0)), (1, .int p1), (2, .int p2), (3, .int p3), (4, .int p4), (5, .int p5)] [] M (R_feed p1 p2 p3 p4 p5 M) (KI E) := by
  unfold R_feed
  refine ok_aload_n hE 0 rfl dX12_feed_0 ?_
  refine ok_getI hE fl_X12_129 shR_0 rfl dX12_feed_1 ?_
  refine ok_bipush hE (20 : Int32) kb_20 dX12_feed_4 ?_
  refine ok_iadd hE dX12_feed_6 ?_
  refine ok_sipush hE (1600 : Int32) ks_1600 dX12_feed_7 ?_
  refine ok_icmp_le hE 19 rfl dX12_feed_10 ?_ ?_
  · refine ok_aload_n hE 0 rfl dX12_feed_19 ?_
    refine ok_iload_n hE 1 rfl dX12_feed_20 ?_
    refine ok_cvV hE rmR_lays [.int p1] [] rfl ca_X12_224 shR_0 rfl (fun _ hx => mR_lays hE.sys _ _ _ hx) ⟨rfl, rfl, rfl, rfl⟩ rfl rfl dX12_feed_21 (fun M1 => ?_)
    refine ok_aload_n hE 0 rfl dX12_feed_24 ?_
    refine ok_iload_n hE 2 rfl dX12_feed_25 ?_
    refine ok_cvV hE rmR_lays [.int p2] [] rfl ca_X12_224 shR_0 rfl (fun _ hx => mR_lays hE.sys _ _ _ hx) ⟨rfl, rfl, rfl, rfl⟩ rfl rfl dX12_feed_26 (fun M2 => ?_)
    refine ok_aload_n hE 0 rfl dX12_feed_29 ?_
    refine ok_iload_n hE 3 rfl dX12_feed_30 ?_
    refine ok_cvV hE rmR_lays [.int p3] [] rfl ca_X12_224 shR_0 rfl (fun _ hx => mR_lays hE.sys _ _ _ hx) ⟨rfl, rfl, rfl, rfl⟩ rfl rfl dX12_feed_31 (fun M3 => ?_)
    refine ok_aload_n hE 0 rfl dX12_feed_34 ?_
    refine ok_iload hE 4 rfl dX12_feed_35 ?_
    refine ok_cvV hE rmR_lays [.int p4] [] rfl ca_X12_224 shR_0 rfl (fun _ hx => mR_lays hE.sys _ _ _ hx) ⟨rfl, rfl, rfl, rfl⟩ rfl rfl dX12_feed_37 (fun M4 => ?_)
    refine ok_aload_n hE 0 rfl dX12_feed_40 ?_
    refine ok_iload hE 5 rfl dX12_feed_41 ?_
    refine ok_cvV hE rmR_lays [.int p5] [] rfl ca_X12_224 shR_0 rfl (fun _ hx => mR_lays hE.sys _ _ _ hx) ⟨rfl, rfl, rfl, rfl⟩ rfl rfl dX12_feed_43 (fun M5 => ?_)
    refine ok_aload_n hE 0 rfl dX12_feed_46 ?_
    refine ok_getI hE fl_X12_129 shR_0 rfl dX12_feed_47 ?_
    exact ok_ireturn hE dX12_feed_50
  · refine ok_aload_n hE 0 rfl dX12_feed_13 ?_
    refine ok_iconst hE (0 : Int32) ki_0 dX12_feed_14 ?_
    refine ok_cvI hE rmR_refuses [.int (0 : Int32)] [] rfl ca_X12_220 shR_0 rfl (fun _ hx => mR_refuses hE.sys _ _ _ hx) ⟨rfl, rfl, rfl, rfl⟩ rfl rfl dX12_feed_15 (fun r6 => ?_)
    exact ok_ireturn hE dX12_feed_18
theorem mR_feed {l : Launch} {Y : Sys} {t : Nat} (hY : SysOk Y t shR) (p1 : Int32) (p2 : Int32) (p3 : Int32) (p4 : Int32) (p5 : Int32)  (M : Mm) (r : (Int32 × Mm)) (h : R_feed p1 p2 p3 p4 p5 M = some r) : Cm l Y t yX12_feed (WS yX12_feed cX12_feed 6 (some .int)) rmR_feed [.ref (Y.ad 0), .int p1, .int p2, .int p3, .int p4, .int p5] M (enI r) := by
  refine cm_of (own := RX12) hY rfl rfl (Nat.le_of_ble_eq_true rfl) (fun E hE e1 e2 e3 e4 => ?_)
  subst e1
  exact tR_feed E hE p1 p2 p3 p4 p5  M r h e4.symm
def R_end (p1 : Int32) (M : Mm) : Option (Int32 × Mm) :=
 lett (fun (_ : Unit) =>
 bnd (R_isRefused (0 : Int32) M) fun r1 =>
 grd (r1.1 = 0 ∨ r1.1 = 1) (some (r1.1, r1.2))) fun j12 =>
 if p1 < 0 then
 (j12 ())
 else
 (if p1 ≤ (gI M 0 39) then
 (lett (sI M 0 39 p1) fun M2 =>
 some ((1 : Int32), M2))
 else
 (j12 ()))
abbrev rmR_end : Room := { frames := 1, cells := 0, slots := 0, locals := 21 }
set_option maxHeartbeats 4000000 in
set_option maxRecDepth 100000 in
theorem tR_end (E : Cx) (hE : CxOk E cX12_end RX12 shR (some .boolean) rmR_end 2) (p1 : Int32)  (M : Mm) : Ok E 0 [(0, .ref (E.Y.ad 0)), (1, .int p1)] [] M (R_end p1 M) (KI E) := by
  unfold R_end
  refine ok_iload_n hE 1 rfl dX12_end_0 ?_
  refine ok_fun (fun j => ∀ (_ : Unit), Ok E 12 [(0, .ref (E.Y.ad 0))] [] M (j ()) (KI E)) (fun _ => ?_) (fun j12 hj12 => ?_)
  · refine ok_aload_n hE 0 rfl dX12_end_12 ?_
    refine ok_iconst hE (0 : Int32) ki_0 dX12_end_13 ?_
    refine ok_cvI hE rmR_isRefused [.int (0 : Int32)] [] rfl ca_X12_228 shR_0 rfl (fun _ hx => mR_isRefused hE.sys _ _ _ hx) ⟨rfl, rfl, rfl, rfl⟩ rfl rfl dX12_end_14 (fun r1 => ?_)
    exact ok_zreturnG hE dX12_end_17
  refine ok_if_lt hE 12 rfl dX12_end_1 ?_ ?_
  · exact ok_sub [0] rfl (hj12 ())
  · refine ok_iload_n hE 1 rfl dX12_end_4 ?_
    refine ok_aload_n hE 0 rfl dX12_end_5 ?_
    refine ok_getI hE fl_X12_129 shR_0 rfl dX12_end_6 ?_
    refine ok_icmp_le hE 18 rfl dX12_end_9 ?_ ?_
    · refine ok_aload_n hE 0 rfl dX12_end_18 ?_
      refine ok_iload_n hE 1 rfl dX12_end_19 ?_
      refine ok_putI hE fl_X12_129 shR_0 rfl dX12_end_20 (fun M2 => ?_)
      refine ok_iconst hE (1 : Int32) ki_1 dX12_end_23 ?_
      exact ok_zreturn hE (Or.inr rfl) dX12_end_24
    · exact ok_sub [0] rfl (hj12 ())
theorem mR_end {l : Launch} {Y : Sys} {t : Nat} (hY : SysOk Y t shR) (p1 : Int32)  (M : Mm) (r : (Int32 × Mm)) (h : R_end p1 M = some r) : Cm l Y t yX12_end (WS yX12_end cX12_end 2 (some .boolean)) rmR_end [.ref (Y.ad 0), .int p1] M (enI r) := by
  refine cm_of (own := RX12) hY rfl rfl (Nat.le_of_ble_eq_true rfl) (fun E hE e1 e2 e3 e4 => ?_)
  subst e1
  exact tR_end E hE p1  M r h e4.symm
def R_taken  (M : Mm) : Option (Int32 × Mm) :=
 lett (gI M 0 39) fun v1 =>
 lett (sI M 0 39 (0 : Int32)) fun M2 =>
 some (v1, M2)
abbrev rmR_taken : Room := { frames := 0, cells := 0, slots := 0, locals := 0 }
set_option maxHeartbeats 4000000 in
set_option maxRecDepth 100000 in
theorem tR_taken (E : Cx) (hE : CxOk E cX12_taken RX12 shR (some .int) rmR_taken 2)   (M : Mm) : Ok E 0 [(0, .ref (E.Y.ad 0))] [] M (R_taken  M) (KI E) := by
  unfold R_taken
  refine ok_aload_n hE 0 rfl dX12_taken_0 ?_
  refine ok_getI hE fl_X12_129 shR_0 rfl dX12_taken_1 ?_
  refine ok_istore_n hE (fun v1 => [(1, .int v1), (0, .ref (E.Y.ad 0))]) (fun _ => rfl) rfl dX12_taken_4 (fun v1 => ?_)
  refine ok_aload_n hE 1 rfl dX12_taken_5 ?_
  refine ok_iconst hE (0 : Int32) ki_0 dX12_taken_6 ?_
  refine ok_putI hE fl_X12_129 shR_0 rfl dX12_taken_7 (fun M2 => ?_)
  refine ok_iload_n hE 0 rfl dX12_taken_10 ?_
  exact ok_ireturn hE dX12_taken_11
theorem mR_taken {l : Launch} {Y : Sys} {t : Nat} (hY : SysOk Y t shR)   (M : Mm) (r : (Int32 × Mm)) (h : R_taken  M = some r) : Cm l Y t yX12_taken (WS yX12_taken cX12_taken 2 (some .int)) rmR_taken [.ref (Y.ad 0)] M (enI r) := by
  refine cm_of (own := RX12) hY rfl rfl (Nat.le_of_ble_eq_true rfl) (fun E hE e1 e2 e3 e4 => ?_)
  subst e1
  exact tR_taken E hE   M r h e4.symm
def R_seen (p1 : Int32) (M : Mm) : Option Int32 :=
 if p1 < 0 then
 (some (-1 : Int32))
 else
 (if (gI M 0 43) ≤ p1 then
 (some (-1 : Int32))
 else
 (ald p1 1600 (some (gI M 13 (ix p1)))))
abbrev rmR_seen : Room := { frames := 0, cells := 0, slots := 0, locals := 0 }
set_option maxHeartbeats 4000000 in
set_option maxRecDepth 100000 in
theorem tR_seen (E : Cx) (hE : CxOk E cX12_seen RX12 shR (some .int) rmR_seen 2) (p1 : Int32)  (M : Mm) : Ok E 0 [(0, .ref (E.Y.ad 0)), (1, .int p1)] [] M (R_seen p1 M) (KIp E M) := by
  unfold R_seen
  refine ok_iload_n hE 1 rfl dX12_seen_0 ?_
  refine ok_if_lt hE 21 rfl dX12_seen_1 ?_ ?_
  · refine ok_iconst hE (-1 : Int32) ki_m1 dX12_seen_21 ?_
    exact ok_ireturnP hE dX12_seen_22
  · refine ok_iload_n hE 1 rfl dX12_seen_4 ?_
    refine ok_aload_n hE 0 rfl dX12_seen_5 ?_
    refine ok_getI hE fl_X12_141 shR_0 rfl dX12_seen_6 ?_
    refine ok_icmp_ge hE 21 rfl dX12_seen_9 ?_ ?_
    · refine ok_iconst hE (-1 : Int32) ki_m1 dX12_seen_21 ?_
      exact ok_ireturnP hE dX12_seen_22
    · refine ok_aload_n hE 0 rfl dX12_seen_12 ?_
      refine ok_getA hE fl_X12_126 shR_0 rfl dX12_seen_13 ?_
      refine ok_iload_n hE 1 rfl dX12_seen_16 ?_
      refine ok_iaload hE shR_13 dX12_seen_17 ?_
      refine ok_goto hE 22 rfl dX12_seen_18 ?_
      exact ok_ireturnP hE dX12_seen_22
theorem mR_seen {l : Launch} {Y : Sys} {t : Nat} (hY : SysOk Y t shR) (p1 : Int32)  (M : Mm) (r : Int32) (h : R_seen p1 M = some r) : Cm l Y t yX12_seen (WS yX12_seen cX12_seen 2 (some .int)) rmR_seen [.ref (Y.ad 0), .int p1] M ((some (.int r), M)) := by
  refine cm_of (own := RX12) hY rfl rfl (Nat.le_of_ble_eq_true rfl) (fun E hE e1 e2 e3 e4 => ?_)
  subst e1
  exact tR_seen E hE p1  M r h e4.symm
def R_isSmall (p1 : Int32) (M : Mm) : Option Int32 :=
 bnd (R_seen p1 M) fun r1 =>
 if r1 < (97 : Int32) then
 (some (0 : Int32))
 else
 (bnd (R_seen p1 M) fun r2 =>
 if (122 : Int32) < r2 then
 (some (0 : Int32))
 else
 (some (1 : Int32)))
abbrev rmR_isSmall : Room := { frames := 1, cells := 0, slots := 0, locals := 21 }
set_option maxHeartbeats 4000000 in
set_option maxRecDepth 100000 in
theorem tR_isSmall (E : Cx) (hE : CxOk E cX12_isSmall RX12 shR (some .boolean) rmR_isSmall 2) (p1 : Int32)  (M : Mm) : Ok E 0 [(0, .ref (E.Y.ad 0)), (1, .int p1)] [] M (R_isSmall p1 M) (KIp E M) := by
  unfold R_isSmall
  refine ok_aload_n hE 0 rfl dX12_isSmall_0 ?_
  refine ok_iload_n hE 1 rfl dX12_isSmall_1 ?_
  refine ok_cvIp hE rmR_seen [.int p1] [] rfl ca_X12_232 shR_0 rfl (fun _ hx => mR_seen hE.sys _ _ _ hx) ⟨rfl, rfl, rfl, rfl⟩ rfl rfl dX12_isSmall_2 (fun r1 => ?_)
  refine ok_bipush hE (97 : Int32) kb_97 dX12_isSmall_5 ?_
  refine ok_icmp_lt hE 24 rfl dX12_isSmall_7 ?_ ?_
  · refine ok_iconst hE (0 : Int32) ki_0 dX12_isSmall_24 ?_
    exact ok_zreturnP hE (Or.inl rfl) dX12_isSmall_25
  · refine ok_aload_n hE 0 rfl dX12_isSmall_10 ?_
    refine ok_iload_n hE 1 rfl dX12_isSmall_11 ?_
    refine ok_cvIp hE rmR_seen [.int p1] [] rfl ca_X12_232 shR_0 rfl (fun _ hx => mR_seen hE.sys _ _ _ hx) ⟨rfl, rfl, rfl, rfl⟩ rfl rfl dX12_isSmall_12 (fun r2 => ?_)
    refine ok_bipush hE (122 : Int32) kb_122 dX12_isSmall_15 ?_
    refine ok_icmp_gt hE 24 rfl dX12_isSmall_17 ?_ ?_
    · refine ok_iconst hE (0 : Int32) ki_0 dX12_isSmall_24 ?_
      exact ok_zreturnP hE (Or.inl rfl) dX12_isSmall_25
    · refine ok_iconst hE (1 : Int32) ki_1 dX12_isSmall_20 ?_
      refine ok_goto hE 25 rfl dX12_isSmall_21 ?_
      exact ok_zreturnP hE (Or.inr rfl) dX12_isSmall_25
theorem mR_isSmall {l : Launch} {Y : Sys} {t : Nat} (hY : SysOk Y t shR) (p1 : Int32)  (M : Mm) (r : Int32) (h : R_isSmall p1 M = some r) : Cm l Y t yX12_isSmall (WS yX12_isSmall cX12_isSmall 2 (some .boolean)) rmR_isSmall [.ref (Y.ad 0), .int p1] M ((some (.int r), M)) := by
  refine cm_of (own := RX12) hY rfl rfl (Nat.le_of_ble_eq_true rfl) (fun E hE e1 e2 e3 e4 => ?_)
  subst e1
  exact tR_isSmall E hE p1  M r h e4.symm
def R_isDigit (p1 : Int32) (M : Mm) : Option Int32 :=
 bnd (R_seen p1 M) fun r1 =>
 if r1 < (48 : Int32) then
 (some (0 : Int32))
 else
 (bnd (R_seen p1 M) fun r2 =>
 if (57 : Int32) < r2 then
 (some (0 : Int32))
 else
 (some (1 : Int32)))
abbrev rmR_isDigit : Room := { frames := 1, cells := 0, slots := 0, locals := 21 }
set_option maxHeartbeats 4000000 in
set_option maxRecDepth 100000 in
theorem tR_isDigit (E : Cx) (hE : CxOk E cX12_isDigit RX12 shR (some .boolean) rmR_isDigit 2) (p1 : Int32)  (M : Mm) : Ok E 0 [(0, .ref (E.Y.ad 0)), (1, .int p1)] [] M (R_isDigit p1 M) (KIp E M) := by
  unfold R_isDigit
  refine ok_aload_n hE 0 rfl dX12_isDigit_0 ?_
  refine ok_iload_n hE 1 rfl dX12_isDigit_1 ?_
  refine ok_cvIp hE rmR_seen [.int p1] [] rfl ca_X12_232 shR_0 rfl (fun _ hx => mR_seen hE.sys _ _ _ hx) ⟨rfl, rfl, rfl, rfl⟩ rfl rfl dX12_isDigit_2 (fun r1 => ?_)
  refine ok_bipush hE (48 : Int32) kb_48 dX12_isDigit_5 ?_
  refine ok_icmp_lt hE 24 rfl dX12_isDigit_7 ?_ ?_
  · refine ok_iconst hE (0 : Int32) ki_0 dX12_isDigit_24 ?_
    exact ok_zreturnP hE (Or.inl rfl) dX12_isDigit_25
  · refine ok_aload_n hE 0 rfl dX12_isDigit_10 ?_
    refine ok_iload_n hE 1 rfl dX12_isDigit_11 ?_
    refine ok_cvIp hE rmR_seen [.int p1] [] rfl ca_X12_232 shR_0 rfl (fun _ hx => mR_seen hE.sys _ _ _ hx) ⟨rfl, rfl, rfl, rfl⟩ rfl rfl dX12_isDigit_12 (fun r2 => ?_)
    refine ok_bipush hE (57 : Int32) kb_57 dX12_isDigit_15 ?_
    refine ok_icmp_gt hE 24 rfl dX12_isDigit_17 ?_ ?_
    · refine ok_iconst hE (0 : Int32) ki_0 dX12_isDigit_24 ?_
      exact ok_zreturnP hE (Or.inl rfl) dX12_isDigit_25
    · refine ok_iconst hE (1 : Int32) ki_1 dX12_isDigit_20 ?_
      refine ok_goto hE 25 rfl dX12_isDigit_21 ?_
      exact ok_zreturnP hE (Or.inr rfl) dX12_isDigit_25
theorem mR_isDigit {l : Launch} {Y : Sys} {t : Nat} (hY : SysOk Y t shR) (p1 : Int32)  (M : Mm) (r : Int32) (h : R_isDigit p1 M = some r) : Cm l Y t yX12_isDigit (WS yX12_isDigit cX12_isDigit 2 (some .boolean)) rmR_isDigit [.ref (Y.ad 0), .int p1] M ((some (.int r), M)) := by
  refine cm_of (own := RX12) hY rfl rfl (Nat.le_of_ble_eq_true rfl) (fun E hE e1 e2 e3 e4 => ?_)
  subst e1
  exact tR_isDigit E hE p1  M r h e4.symm
def R_here  (M : Mm) : Option (Int32 × Mm) :=
 lett (fun (M_0 : Mm) =>
 bnd (R_seen (gI M_0 0 44) M_0) fun r2 =>
 some (r2, M_0)) fun j39 =>
 loopR (fun (rec0 : Mm → Option (Int32 × Mm)) (x3 : Mm) =>
 bnd (R_seen (gI x3 0 44) x3) fun r4 =>
 lett (fun (_ : Unit) =>
 lett (sI x3 0 44 ((gI x3 0 44) + (1 : Int32))) fun M5 =>
 rec0 M5) fun j26 =>
 if r4 = (10 : Int32) then
 (j26 ())
 else
 (bnd (R_seen (gI x3 0 44) x3) fun r6 =>
 if r6 = (32 : Int32) then
 (j26 ())
 else
 (j39 x3))) 1000000 M
abbrev rmR_here : Room := { frames := 1, cells := 0, slots := 0, locals := 21 }
set_option maxHeartbeats 4000000 in
set_option maxRecDepth 100000 in
theorem tR_here (E : Cx) (hE : CxOk E cX12_here RX12 shR (some .int) rmR_here 1)   (M : Mm) : Ok E 0 [(0, .ref (E.Y.ad 0))] [] M (R_here  M) (KI E) := by
  unfold R_here
  refine ok_fun (fun j => ∀ (M_0 : Mm), Ok E 39 [(0, .ref (E.Y.ad 0))] [] M_0 (j M_0) (KI E)) (fun M_0 => ?_) (fun j39 hj39 => ?_)
  · refine ok_aload_n hE 0 rfl dX12_here_39 ?_
    refine ok_aload_n hE 0 rfl dX12_here_40 ?_
    refine ok_getI hE fl_X12_144 shR_0 rfl dX12_here_41 ?_
    refine ok_cvIp hE rmR_seen [.int (gI M_0 0 44)] [] rfl ca_X12_232 shR_0 rfl (fun _ hx => mR_seen hE.sys _ _ _ hx) ⟨rfl, rfl, rfl, rfl⟩ rfl rfl dX12_here_44 (fun r2 => ?_)
    exact ok_ireturn hE dX12_here_47
  refine ok_sub [0] rfl (ok_loop (σ := Mm) 0 (fun x3 => [(0, .ref (E.Y.ad 0))]) (fun x3 => x3) (fun rec0 hrec0 x3 => ?_) 1000000 M)
  refine ok_aload_n hE 0 rfl dX12_here_0 ?_
  refine ok_aload_n hE 0 rfl dX12_here_1 ?_
  refine ok_getI hE fl_X12_144 shR_0 rfl dX12_here_2 ?_
  refine ok_cvIp hE rmR_seen [.int (gI x3 0 44)] [] rfl ca_X12_232 shR_0 rfl (fun _ hx => mR_seen hE.sys _ _ _ hx) ⟨rfl, rfl, rfl, rfl⟩ rfl rfl dX12_here_5 (fun r4 => ?_)
  refine ok_bipush hE (10 : Int32) kb_10 dX12_here_8 ?_
  refine ok_fun (fun j => ∀ (_ : Unit), Ok E 26 [(0, .ref (E.Y.ad 0))] [] x3 (j ()) (KI E)) (fun _ => ?_) (fun j26 hj26 => ?_)
  · refine ok_aload_n hE 0 rfl dX12_here_26 ?_
    refine ok_dup hE rfl dX12_here_27 ?_
    refine ok_getI hE fl_X12_144 shR_0 rfl dX12_here_28 ?_
    refine ok_iconst hE (1 : Int32) ki_1 dX12_here_31 ?_
    refine ok_iadd hE dX12_here_32 ?_
    refine ok_putI hE fl_X12_144 shR_0 rfl dX12_here_33 (fun M5 => ?_)
    refine ok_goto hE 0 rfl dX12_here_36 ?_
    exact ok_sub [0] rfl (hrec0 M5)
  refine ok_icmp_eq hE 26 rfl dX12_here_10 ?_ ?_
  · exact ok_sub [0] rfl (hj26 ())
  · refine ok_aload_n hE 0 rfl dX12_here_13 ?_
    refine ok_aload_n hE 0 rfl dX12_here_14 ?_
    refine ok_getI hE fl_X12_144 shR_0 rfl dX12_here_15 ?_
    refine ok_cvIp hE rmR_seen [.int (gI x3 0 44)] [] rfl ca_X12_232 shR_0 rfl (fun _ hx => mR_seen hE.sys _ _ _ hx) ⟨rfl, rfl, rfl, rfl⟩ rfl rfl dX12_here_18 (fun r6 => ?_)
    refine ok_bipush hE (32 : Int32) kb_32 dX12_here_21 ?_
    refine ok_icmp_ne hE 39 rfl dX12_here_23 ?_ ?_
    · exact ok_sub [0] rfl (hj39 x3)
    · exact ok_sub [0] rfl (hj26 ())
theorem mR_here {l : Launch} {Y : Sys} {t : Nat} (hY : SysOk Y t shR)   (M : Mm) (r : (Int32 × Mm)) (h : R_here  M = some r) : Cm l Y t yX12_here (WS yX12_here cX12_here 1 (some .int)) rmR_here [.ref (Y.ad 0)] M (enI r) := by
  refine cm_of (own := RX12) hY rfl rfl (Nat.le_of_ble_eq_true rfl) (fun E hE e1 e2 e3 e4 => ?_)
  subst e1
  exact tR_here E hE   M r h e4.symm
def R_fails (p1 : Int32) (p2 : Int32) (M : Mm) : Option Mm :=
 if (gI M 0 46) = 0 then
 (lett (sI M 0 46 p1) fun M1 =>
 lett (sI M1 0 47 p2) fun M2 =>
 some M2)
 else
 (some M)
abbrev rmR_fails : Room := { frames := 0, cells := 0, slots := 0, locals := 0 }
set_option maxHeartbeats 4000000 in
set_option maxRecDepth 100000 in
theorem tR_fails (E : Cx) (hE : CxOk E cX12_fails RX12 shR none rmR_fails 3) (p1 : Int32) (p2 : Int32)  (M : Mm) : Ok E 0 [(0, .ref (E.Y.ad 0)), (1, .int p1), (2, .int p2)] [] M (R_fails p1 p2 M) (KV E) := by
  unfold R_fails
  refine ok_aload_n hE 0 rfl dX12_fails_0 ?_
  refine ok_getI hE fl_X12_150 shR_0 rfl dX12_fails_1 ?_
  refine ok_if_eq hE 8 rfl dX12_fails_4 ?_ ?_
  · refine ok_aload_n hE 0 rfl dX12_fails_8 ?_
    refine ok_iload_n hE 1 rfl dX12_fails_9 ?_
    refine ok_putI hE fl_X12_150 shR_0 rfl dX12_fails_10 (fun M1 => ?_)
    refine ok_aload_n hE 0 rfl dX12_fails_13 ?_
    refine ok_iload_n hE 2 rfl dX12_fails_14 ?_
    refine ok_putI hE fl_X12_153 shR_0 rfl dX12_fails_15 (fun M2 => ?_)
    exact ok_return hE dX12_fails_18
  · exact ok_return hE dX12_fails_7
theorem mR_fails {l : Launch} {Y : Sys} {t : Nat} (hY : SysOk Y t shR) (p1 : Int32) (p2 : Int32)  (M : Mm) (r : Mm) (h : R_fails p1 p2 M = some r) : Cm l Y t yX12_fails (WS yX12_fails cX12_fails 3 none) rmR_fails [.ref (Y.ad 0), .int p1, .int p2] M (enV r) := by
  refine cm_of (own := RX12) hY rfl rfl (Nat.le_of_ble_eq_true rfl) (fun E hE e1 e2 e3 e4 => ?_)
  subst e1
  exact tR_fails E hE p1 p2  M r h e4.symm
def R_goes  (M : Mm) : Option Int32 :=
 if (gI M 0 46) = 0 then
 (some (1 : Int32))
 else
 (some (0 : Int32))
abbrev rmR_goes : Room := { frames := 0, cells := 0, slots := 0, locals := 0 }
set_option maxHeartbeats 4000000 in
set_option maxRecDepth 100000 in
theorem tR_goes (E : Cx) (hE : CxOk E cX12_goes RX12 shR (some .boolean) rmR_goes 1)   (M : Mm) : Ok E 0 [(0, .ref (E.Y.ad 0))] [] M (R_goes  M) (KIp E M) := by
  unfold R_goes
  refine ok_aload_n hE 0 rfl dX12_goes_0 ?_
  refine ok_getI hE fl_X12_150 shR_0 rfl dX12_goes_1 ?_
  refine ok_if_ne hE 11 rfl dX12_goes_4 ?_ ?_
  · refine ok_iconst hE (0 : Int32) ki_0 dX12_goes_11 ?_
    exact ok_zreturnP hE (Or.inl rfl) dX12_goes_12
  · refine ok_iconst hE (1 : Int32) ki_1 dX12_goes_7 ?_
    refine ok_goto hE 12 rfl dX12_goes_8 ?_
    exact ok_zreturnP hE (Or.inr rfl) dX12_goes_12
theorem mR_goes {l : Launch} {Y : Sys} {t : Nat} (hY : SysOk Y t shR)   (M : Mm) (r : Int32) (h : R_goes  M = some r) : Cm l Y t yX12_goes (WS yX12_goes cX12_goes 1 (some .boolean)) rmR_goes [.ref (Y.ad 0)] M ((some (.int r), M)) := by
  refine cm_of (own := RX12) hY rfl rfl (Nat.le_of_ble_eq_true rfl) (fun E hE e1 e2 e3 e4 => ?_)
  subst e1
  exact tR_goes E hE   M r h e4.symm
def R_word  (M : Mm) : Option Mm :=
 bnd (R_goes M) fun r1 =>
 if r1 = 0 then
 (some M)
 else
 (bnd (R_here M) fun r2 =>
 lett (sI r2.2 0 45 (gI r2.2 0 44)) fun M3 =>
 bnd (R_isSmall (gI M3 0 44) M3) fun r4 =>
 lett (fun (_ : Unit) =>
 bnd (R_fails (1 : Int32) (gI M3 0 44) M3) fun M5 =>
 some M5) fun j58 =>
 if r4 = 0 then
 (j58 ())
 else
 (bnd (R_isSmall ((gI M3 0 44) - (1 : Int32)) M3) fun r6 =>
 if r6 = 0 then
 (bnd (R_isDigit ((gI M3 0 44) - (1 : Int32)) M3) fun r7 =>
 if r7 = 0 then
 (loopR (fun (rec68 : Mm → Option Mm) (x8 : Mm) =>
 bnd (R_isSmall (gI x8 0 44) x8) fun r9 =>
 if r9 = 0 then
 (some x8)
 else
 (lett (sI x8 0 44 ((gI x8 0 44) + (1 : Int32))) fun M10 =>
 rec68 M10)) 1000000 M3)
 else
 (j58 ()))
 else
 (j58 ())))
abbrev rmR_word : Room := { frames := 2, cells := 0, slots := 0, locals := 42 }
set_option maxHeartbeats 4000000 in
set_option maxRecDepth 100000 in
theorem tR_word (E : Cx) (hE : CxOk E cX12_word RX12 shR none rmR_word 1)   (M : Mm) : Ok E 0 [(0, .ref (E.Y.ad 0))] [] M (R_word  M) (KV E) := by
  unfold R_word
  refine ok_aload_n hE 0 rfl dX12_word_0 ?_
  refine ok_cvIp hE rmR_goes [] [] rfl ca_X12_235 shR_0 rfl (fun _ hx => mR_goes hE.sys  _ _ hx) ⟨rfl, rfl, rfl, rfl⟩ rfl rfl dX12_word_1 (fun r1 => ?_)
  refine ok_if_ne hE 8 rfl dX12_word_4 ?_ ?_
  · refine ok_aload_n hE 0 rfl dX12_word_8 ?_
    refine ok_cvI hE rmR_here [] [] rfl ca_X12_239 shR_0 rfl (fun _ hx => mR_here hE.sys  _ _ hx) ⟨rfl, rfl, rfl, rfl⟩ rfl rfl dX12_word_9 (fun r2 => ?_)
    refine ok_pop hE rfl dX12_word_12 ?_
    refine ok_aload_n hE 0 rfl dX12_word_13 ?_
    refine ok_aload_n hE 0 rfl dX12_word_14 ?_
    refine ok_getI hE fl_X12_144 shR_0 rfl dX12_word_15 ?_
    refine ok_putI hE fl_X12_147 shR_0 rfl dX12_word_18 (fun M3 => ?_)
    refine ok_aload_n hE 0 rfl dX12_word_21 ?_
    refine ok_aload_n hE 0 rfl dX12_word_22 ?_
    refine ok_getI hE fl_X12_144 shR_0 rfl dX12_word_23 ?_
    refine ok_cvIp hE rmR_isSmall [.int (gI M3 0 44)] [] rfl ca_X12_243 shR_0 rfl (fun _ hx => mR_isSmall hE.sys _ _ _ hx) ⟨rfl, rfl, rfl, rfl⟩ rfl rfl dX12_word_26 (fun r4 => ?_)
    refine ok_fun (fun j => ∀ (_ : Unit), Ok E 58 [(0, .ref (E.Y.ad 0))] [] M3 (j ()) (KV E)) (fun _ => ?_) (fun j58 hj58 => ?_)
    · refine ok_aload_n hE 0 rfl dX12_word_58 ?_
      refine ok_iconst hE (1 : Int32) ki_1 dX12_word_59 ?_
      refine ok_aload_n hE 0 rfl dX12_word_60 ?_
      refine ok_getI hE fl_X12_144 shR_0 rfl dX12_word_61 ?_
      refine ok_cvV hE rmR_fails [.int (1 : Int32), .int (gI M3 0 44)] [] rfl ca_X12_249 shR_0 rfl (fun _ hx => mR_fails hE.sys _ _ _ _ hx) ⟨rfl, rfl, rfl, rfl⟩ rfl rfl dX12_word_64 (fun M5 => ?_)
      exact ok_return hE dX12_word_67
    refine ok_if_eq hE 58 rfl dX12_word_29 ?_ ?_
    · exact ok_sub [0] rfl (hj58 ())
    · refine ok_aload_n hE 0 rfl dX12_word_32 ?_
      refine ok_aload_n hE 0 rfl dX12_word_33 ?_
      refine ok_getI hE fl_X12_144 shR_0 rfl dX12_word_34 ?_
      refine ok_iconst hE (1 : Int32) ki_1 dX12_word_37 ?_
      refine ok_isub hE dX12_word_38 ?_
      refine ok_cvIp hE rmR_isSmall [.int ((gI M3 0 44) - (1 : Int32))] [] rfl ca_X12_243 shR_0 rfl (fun _ hx => mR_isSmall hE.sys _ _ _ hx) ⟨rfl, rfl, rfl, rfl⟩ rfl rfl dX12_word_39 (fun r6 => ?_)
      refine ok_if_ne hE 58 rfl dX12_word_42 ?_ ?_
      · exact ok_sub [0] rfl (hj58 ())
      · refine ok_aload_n hE 0 rfl dX12_word_45 ?_
        refine ok_aload_n hE 0 rfl dX12_word_46 ?_
        refine ok_getI hE fl_X12_144 shR_0 rfl dX12_word_47 ?_
        refine ok_iconst hE (1 : Int32) ki_1 dX12_word_50 ?_
        refine ok_isub hE dX12_word_51 ?_
        refine ok_cvIp hE rmR_isDigit [.int ((gI M3 0 44) - (1 : Int32))] [] rfl ca_X12_246 shR_0 rfl (fun _ hx => mR_isDigit hE.sys _ _ _ hx) ⟨rfl, rfl, rfl, rfl⟩ rfl rfl dX12_word_52 (fun r7 => ?_)
        refine ok_if_eq hE 68 rfl dX12_word_55 ?_ ?_
        · refine ok_sub [0] rfl (ok_loop (σ := Mm) 68 (fun x8 => [(0, .ref (E.Y.ad 0))]) (fun x8 => x8) (fun rec68 hrec68 x8 => ?_) 1000000 M3)
          refine ok_aload_n hE 0 rfl dX12_word_68 ?_
          refine ok_aload_n hE 0 rfl dX12_word_69 ?_
          refine ok_getI hE fl_X12_144 shR_0 rfl dX12_word_70 ?_
          refine ok_cvIp hE rmR_isSmall [.int (gI x8 0 44)] [] rfl ca_X12_243 shR_0 rfl (fun _ hx => mR_isSmall hE.sys _ _ _ hx) ⟨rfl, rfl, rfl, rfl⟩ rfl rfl dX12_word_73 (fun r9 => ?_)
          refine ok_if_eq hE 92 rfl dX12_word_76 ?_ ?_
          · exact ok_return hE dX12_word_92
          · refine ok_aload_n hE 0 rfl dX12_word_79 ?_
            refine ok_dup hE rfl dX12_word_80 ?_
            refine ok_getI hE fl_X12_144 shR_0 rfl dX12_word_81 ?_
            refine ok_iconst hE (1 : Int32) ki_1 dX12_word_84 ?_
            refine ok_iadd hE dX12_word_85 ?_
            refine ok_putI hE fl_X12_144 shR_0 rfl dX12_word_86 (fun M10 => ?_)
            refine ok_goto hE 68 rfl dX12_word_89 ?_
            exact ok_sub [0] rfl (hrec68 M10)
        · exact ok_sub [0] rfl (hj58 ())
  · exact ok_return hE dX12_word_7
theorem mR_word {l : Launch} {Y : Sys} {t : Nat} (hY : SysOk Y t shR)   (M : Mm) (r : Mm) (h : R_word  M = some r) : Cm l Y t yX12_word (WS yX12_word cX12_word 1 none) rmR_word [.ref (Y.ad 0)] M (enV r) := by
  refine cm_of (own := RX12) hY rfl rfl (Nat.le_of_ble_eq_true rfl) (fun E hE e1 e2 e3 e4 => ?_)
  subst e1
  exact tR_word E hE   M r h e4.symm
def R_own  (M : Mm) : Option Int32 :=
 lett (0 : Int32) fun v1 =>
 lett (0 : Int32) fun v2 =>
 loopR (fun (rec4 : (Int32 × Int32) → Option Int32) (x3 : Int32 × Int32) =>
 if (105 : Int32) ≤ x3.1 then
 (some (-1 : Int32))
 else
 (lett (0 : Int32) fun v4 =>
 lett (fun (u_4 : Int32) =>
 ald (x3.1 + u_4) 105 (lett (fun (_ : Unit) =>
 lett (fun (u_5 : Int32) =>
 lett (u_5 + (1 : Int32)) fun v7 =>
 lett (x3.2 + (1 : Int32)) fun v8 =>
 rec4 (v7, v8)) fun j108 =>
 loopR (fun (rec93 : Int32 → Option Int32) (x9 : Int32) =>
 ald x9 105 (if (gI M 15 (ix x9)) = 0 then
 (j108 x9)
 else
 (lett (x9 + (1 : Int32)) fun v10 =>
 rec93 v10))) 1000000 x3.1) fun j93 =>
 if (gI M 15 (ix (x3.1 + u_4))) = 0 then
 (if ((gI M 0 45) + u_4) = (gI M 0 44) then
 (some x3.2)
 else
 (j93 ()))
 else
 (j93 ()))) fun j67 =>
 loopR (fun (rec12 : Int32 → Option Int32) (x11 : Int32) =>
 ald (x3.1 + x11) 105 (if (gI M 15 (ix (x3.1 + x11))) = 0 then
 (j67 x11)
 else
 (if (gI M 0 44) ≤ ((gI M 0 45) + x11) then
 (j67 x11)
 else
 (ald ((gI M 0 45) + x11) 1600 (ald (x3.1 + x11) 105 (if ((gI M 13 (ix ((gI M 0 45) + x11))) - (96 : Int32)) = (gI M 15 (ix (x3.1 + x11))) then
 (lett (x11 + (1 : Int32)) fun v12 =>
 rec12 v12)
 else
 (j67 x11))))))) 1000000 v4)) 1000000 (v1, v2)
abbrev rmR_own : Room := { frames := 0, cells := 0, slots := 0, locals := 0 }
set_option maxHeartbeats 4000000 in
set_option maxRecDepth 100000 in
theorem tR_own (E : Cx) (hE : CxOk E cX12_own RX12 shR (some .int) rmR_own 4)   (M : Mm) : Ok E 0 [(0, .ref (E.Y.ad 0))] [] M (R_own  M) (KIp E M) := by
  unfold R_own
  refine ok_iconst hE (0 : Int32) ki_0 dX12_own_0 ?_
  refine ok_istore_n hE (fun v1 => [(1, .int v1), (0, .ref (E.Y.ad 0))]) (fun _ => rfl) rfl dX12_own_1 (fun v1 => ?_)
  refine ok_iconst hE (0 : Int32) ki_0 dX12_own_2 ?_
  refine ok_istore_n hE (fun v2 => [(2, .int v2), (1, .int v1), (0, .ref (E.Y.ad 0))]) (fun _ => rfl) rfl dX12_own_3 (fun v2 => ?_)
  refine ok_sub [2, 1, 0] rfl (ok_loop (σ := Int32 × Int32) 4 (fun x3 => [(0, .ref (E.Y.ad 0)), (1, .int x3.1), (2, .int x3.2)]) (fun x3 => M) (fun rec4 hrec4 x3 => ?_) 1000000 (v1, v2))
  refine ok_iload_n hE 1 rfl dX12_own_4 ?_
  refine ok_bipush hE (105 : Int32) kb_105 dX12_own_5 ?_
  refine ok_icmp_ge hE 117 rfl dX12_own_7 ?_ ?_
  · refine ok_iconst hE (-1 : Int32) ki_m1 dX12_own_117 ?_
    exact ok_ireturnP hE dX12_own_118
  · refine ok_iconst hE (0 : Int32) ki_0 dX12_own_10 ?_
    refine ok_istore_n hE (fun v4 => [(3, .int v4), (0, .ref (E.Y.ad 0)), (1, .int x3.1), (2, .int x3.2)]) (fun _ => rfl) rfl dX12_own_11 (fun v4 => ?_)
    refine ok_fun (fun j => ∀ (u_4 : Int32), Ok E 67 [(0, .ref (E.Y.ad 0)), (1, .int x3.1), (2, .int x3.2), (3, .int u_4)] [] M (j u_4) (KIp E M)) (fun u_4 => ?_) (fun j67 hj67 => ?_)
    · refine ok_aload_n hE 0 rfl dX12_own_67 ?_
      refine ok_getA hE fl_X12_156 shR_0 rfl dX12_own_68 ?_
      refine ok_iload_n hE 1 rfl dX12_own_71 ?_
      refine ok_iload_n hE 3 rfl dX12_own_72 ?_
      refine ok_iadd hE dX12_own_73 ?_
      refine ok_iaload hE shR_15 dX12_own_74 ?_
      refine ok_fun (fun j => ∀ (_ : Unit), Ok E 93 [(0, .ref (E.Y.ad 0)), (1, .int x3.1), (2, .int x3.2)] [] M (j ()) (KIp E M)) (fun _ => ?_) (fun j93 hj93 => ?_)
      · refine ok_fun (fun j => ∀ (u_5 : Int32), Ok E 108 [(0, .ref (E.Y.ad 0)), (1, .int u_5), (2, .int x3.2)] [] M (j u_5) (KIp E M)) (fun u_5 => ?_) (fun j108 hj108 => ?_)
        · refine ok_iinc hE 1 (u_5 + (1 : Int32)) (by rw [ko_1]) (fun v7 => [(1, .int v7), (0, .ref (E.Y.ad 0)), (2, .int x3.2)]) rfl (fun _ => rfl) rfl dX12_own_108 (fun v7 => ?_)
          refine ok_iinc hE 2 (x3.2 + (1 : Int32)) (by rw [ko_1]) (fun v8 => [(2, .int v8), (1, .int v7), (0, .ref (E.Y.ad 0))]) rfl (fun _ => rfl) rfl dX12_own_111 (fun v8 => ?_)
          refine ok_goto hE 4 rfl dX12_own_114 ?_
          exact ok_sub [2, 1, 0] rfl (hrec4 (v7, v8))
        refine ok_sub [0, 1, 2] rfl (ok_loop (σ := Int32) 93 (fun x9 => [(0, .ref (E.Y.ad 0)), (1, .int x9), (2, .int x3.2)]) (fun x9 => M) (fun rec93 hrec93 x9 => ?_) 1000000 x3.1)
        refine ok_aload_n hE 0 rfl dX12_own_93 ?_
        refine ok_getA hE fl_X12_156 shR_0 rfl dX12_own_94 ?_
        refine ok_iload_n hE 1 rfl dX12_own_97 ?_
        refine ok_iaload hE shR_15 dX12_own_98 ?_
        refine ok_if_eq hE 108 rfl dX12_own_99 ?_ ?_
        · exact ok_sub [0, 1, 2] rfl (hj108 x9)
        · refine ok_iinc hE 1 (x9 + (1 : Int32)) (by rw [ko_1]) (fun v10 => [(1, .int v10), (0, .ref (E.Y.ad 0)), (2, .int x3.2)]) rfl (fun _ => rfl) rfl dX12_own_102 (fun v10 => ?_)
          refine ok_goto hE 93 rfl dX12_own_105 ?_
          exact ok_sub [1, 0, 2] rfl (hrec93 v10)
      refine ok_if_ne hE 93 rfl dX12_own_75 ?_ ?_
      · exact ok_sub [0, 1, 2] rfl (hj93 ())
      · refine ok_aload_n hE 0 rfl dX12_own_78 ?_
        refine ok_getI hE fl_X12_147 shR_0 rfl dX12_own_79 ?_
        refine ok_iload_n hE 3 rfl dX12_own_82 ?_
        refine ok_iadd hE dX12_own_83 ?_
        refine ok_aload_n hE 0 rfl dX12_own_84 ?_
        refine ok_getI hE fl_X12_144 shR_0 rfl dX12_own_85 ?_
        refine ok_icmp_ne hE 93 rfl dX12_own_88 ?_ ?_
        · exact ok_sub [0, 1, 2] rfl (hj93 ())
        · refine ok_iload_n hE 2 rfl dX12_own_91 ?_
          exact ok_ireturnP hE dX12_own_92
    refine ok_sub [1, 2, 3, 0] rfl (ok_loop (σ := Int32) 12 (fun x11 => [(0, .ref (E.Y.ad 0)), (1, .int x3.1), (2, .int x3.2), (3, .int x11)]) (fun x11 => M) (fun rec12 hrec12 x11 => ?_) 1000000 v4)
    refine ok_aload_n hE 0 rfl dX12_own_12 ?_
    refine ok_getA hE fl_X12_156 shR_0 rfl dX12_own_13 ?_
    refine ok_iload_n hE 1 rfl dX12_own_16 ?_
    refine ok_iload_n hE 3 rfl dX12_own_17 ?_
    refine ok_iadd hE dX12_own_18 ?_
    refine ok_iaload hE shR_15 dX12_own_19 ?_
    refine ok_if_eq hE 67 rfl dX12_own_20 ?_ ?_
    · exact ok_sub [0, 1, 2, 3] rfl (hj67 x11)
    · refine ok_aload_n hE 0 rfl dX12_own_23 ?_
      refine ok_getI hE fl_X12_147 shR_0 rfl dX12_own_24 ?_
      refine ok_iload_n hE 3 rfl dX12_own_27 ?_
      refine ok_iadd hE dX12_own_28 ?_
      refine ok_aload_n hE 0 rfl dX12_own_29 ?_
      refine ok_getI hE fl_X12_144 shR_0 rfl dX12_own_30 ?_
      refine ok_icmp_ge hE 67 rfl dX12_own_33 ?_ ?_
      · exact ok_sub [0, 1, 2, 3] rfl (hj67 x11)
      · refine ok_aload_n hE 0 rfl dX12_own_36 ?_
        refine ok_getA hE fl_X12_126 shR_0 rfl dX12_own_37 ?_
        refine ok_aload_n hE 0 rfl dX12_own_40 ?_
        refine ok_getI hE fl_X12_147 shR_0 rfl dX12_own_41 ?_
        refine ok_iload_n hE 3 rfl dX12_own_44 ?_
        refine ok_iadd hE dX12_own_45 ?_
        refine ok_iaload hE shR_13 dX12_own_46 ?_
        refine ok_bipush hE (96 : Int32) kb_96 dX12_own_47 ?_
        refine ok_isub hE dX12_own_49 ?_
        refine ok_aload_n hE 0 rfl dX12_own_50 ?_
        refine ok_getA hE fl_X12_156 shR_0 rfl dX12_own_51 ?_
        refine ok_iload_n hE 1 rfl dX12_own_54 ?_
        refine ok_iload_n hE 3 rfl dX12_own_55 ?_
        refine ok_iadd hE dX12_own_56 ?_
        refine ok_iaload hE shR_15 dX12_own_57 ?_
        refine ok_icmp_ne hE 67 rfl dX12_own_58 ?_ ?_
        · exact ok_sub [0, 1, 2, 3] rfl (hj67 x11)
        · refine ok_iinc hE 3 (x11 + (1 : Int32)) (by rw [ko_1]) (fun v12 => [(3, .int v12), (0, .ref (E.Y.ad 0)), (1, .int x3.1), (2, .int x3.2)]) rfl (fun _ => rfl) rfl dX12_own_61 (fun v12 => ?_)
          refine ok_goto hE 12 rfl dX12_own_64 ?_
          exact ok_sub [1, 2, 3, 0] rfl (hrec12 v12)
theorem mR_own {l : Launch} {Y : Sys} {t : Nat} (hY : SysOk Y t shR)   (M : Mm) (r : Int32) (h : R_own  M = some r) : Cm l Y t yX12_own (WS yX12_own cX12_own 4 (some .int)) rmR_own [.ref (Y.ad 0)] M ((some (.int r), M)) := by
  refine cm_of (own := RX12) hY rfl rfl (Nat.le_of_ble_eq_true rfl) (fun E hE e1 e2 e3 e4 => ?_)
  subst e1
  exact tR_own E hE   M r h e4.symm
def R_must (p1 : Int32) (M : Mm) : Option Mm :=
 bnd (R_word M) fun M1 =>
 bnd (R_goes M1) fun r2 =>
 if r2 = 0 then
 (some M1)
 else
 (bnd (R_own M1) fun r3 =>
 if r3 = p1 then
 (some M1)
 else
 (bnd (R_fails (1 : Int32) (gI M1 0 45) M1) fun M4 =>
 some M4))
abbrev rmR_must : Room := { frames := 3, cells := 0, slots := 0, locals := 62 }
set_option maxHeartbeats 4000000 in
set_option maxRecDepth 100000 in
theorem tR_must (E : Cx) (hE : CxOk E cX12_must RX12 shR none rmR_must 2) (p1 : Int32)  (M : Mm) : Ok E 0 [(0, .ref (E.Y.ad 0)), (1, .int p1)] [] M (R_must p1 M) (KV E) := by
  unfold R_must
  refine ok_aload_n hE 0 rfl dX12_must_0 ?_
  refine ok_cvV hE rmR_word [] [] rfl ca_X12_253 shR_0 rfl (fun _ hx => mR_word hE.sys  _ _ hx) ⟨rfl, rfl, rfl, rfl⟩ rfl rfl dX12_must_1 (fun M1 => ?_)
  refine ok_aload_n hE 0 rfl dX12_must_4 ?_
  refine ok_cvIp hE rmR_goes [] [] rfl ca_X12_235 shR_0 rfl (fun _ hx => mR_goes hE.sys  _ _ hx) ⟨rfl, rfl, rfl, rfl⟩ rfl rfl dX12_must_5 (fun r2 => ?_)
  refine ok_if_eq hE 28 rfl dX12_must_8 ?_ ?_
  · exact ok_return hE dX12_must_28
  · refine ok_aload_n hE 0 rfl dX12_must_11 ?_
    refine ok_cvIp hE rmR_own [] [] rfl ca_X12_256 shR_0 rfl (fun _ hx => mR_own hE.sys  _ _ hx) ⟨rfl, rfl, rfl, rfl⟩ rfl rfl dX12_must_12 (fun r3 => ?_)
    refine ok_iload_n hE 1 rfl dX12_must_15 ?_
    refine ok_icmp_eq hE 28 rfl dX12_must_16 ?_ ?_
    · exact ok_return hE dX12_must_28
    · refine ok_aload_n hE 0 rfl dX12_must_19 ?_
      refine ok_iconst hE (1 : Int32) ki_1 dX12_must_20 ?_
      refine ok_aload_n hE 0 rfl dX12_must_21 ?_
      refine ok_getI hE fl_X12_147 shR_0 rfl dX12_must_22 ?_
      refine ok_cvV hE rmR_fails [.int (1 : Int32), .int (gI M1 0 45)] [] rfl ca_X12_249 shR_0 rfl (fun _ hx => mR_fails hE.sys _ _ _ _ hx) ⟨rfl, rfl, rfl, rfl⟩ rfl rfl dX12_must_25 (fun M4 => ?_)
      exact ok_return hE dX12_must_28
theorem mR_must {l : Launch} {Y : Sys} {t : Nat} (hY : SysOk Y t shR) (p1 : Int32)  (M : Mm) (r : Mm) (h : R_must p1 M = some r) : Cm l Y t yX12_must (WS yX12_must cX12_must 2 none) rmR_must [.ref (Y.ad 0), .int p1] M (enV r) := by
  refine cm_of (own := RX12) hY rfl rfl (Nat.le_of_ble_eq_true rfl) (fun E hE e1 e2 e3 e4 => ?_)
  subst e1
  exact tR_must E hE p1  M r h e4.symm
def R_passes (p1 : Int32) (M : Mm) : Option (Int32 × Mm) :=
 bnd (R_goes M) fun r1 =>
 if r1 = 0 then
 (some ((0 : Int32), M))
 else
 (bnd (R_here M) fun r2 =>
 if r2.1 = p1 then
 (lett (sI r2.2 0 44 ((gI r2.2 0 44) + (1 : Int32))) fun M3 =>
 some ((1 : Int32), M3))
 else
 (some ((0 : Int32), r2.2)))
abbrev rmR_passes : Room := { frames := 2, cells := 0, slots := 0, locals := 41 }
set_option maxHeartbeats 4000000 in
set_option maxRecDepth 100000 in
theorem tR_passes (E : Cx) (hE : CxOk E cX12_passes RX12 shR (some .boolean) rmR_passes 2) (p1 : Int32)  (M : Mm) : Ok E 0 [(0, .ref (E.Y.ad 0)), (1, .int p1)] [] M (R_passes p1 M) (KI E) := by
  unfold R_passes
  refine ok_aload_n hE 0 rfl dX12_passes_0 ?_
  refine ok_cvIp hE rmR_goes [] [] rfl ca_X12_235 shR_0 rfl (fun _ hx => mR_goes hE.sys  _ _ hx) ⟨rfl, rfl, rfl, rfl⟩ rfl rfl dX12_passes_1 (fun r1 => ?_)
  refine ok_if_eq hE 15 rfl dX12_passes_4 ?_ ?_
  · refine ok_iconst hE (0 : Int32) ki_0 dX12_passes_15 ?_
    exact ok_zreturn hE (Or.inl rfl) dX12_passes_16
  · refine ok_aload_n hE 0 rfl dX12_passes_7 ?_
    refine ok_cvI hE rmR_here [] [] rfl ca_X12_239 shR_0 rfl (fun _ hx => mR_here hE.sys  _ _ hx) ⟨rfl, rfl, rfl, rfl⟩ rfl rfl dX12_passes_8 (fun r2 => ?_)
    refine ok_iload_n hE 1 rfl dX12_passes_11 ?_
    refine ok_icmp_eq hE 17 rfl dX12_passes_12 ?_ ?_
    · refine ok_aload_n hE 0 rfl dX12_passes_17 ?_
      refine ok_dup hE rfl dX12_passes_18 ?_
      refine ok_getI hE fl_X12_144 shR_0 rfl dX12_passes_19 ?_
      refine ok_iconst hE (1 : Int32) ki_1 dX12_passes_22 ?_
      refine ok_iadd hE dX12_passes_23 ?_
      refine ok_putI hE fl_X12_144 shR_0 rfl dX12_passes_24 (fun M3 => ?_)
      refine ok_iconst hE (1 : Int32) ki_1 dX12_passes_27 ?_
      exact ok_zreturn hE (Or.inr rfl) dX12_passes_28
    · refine ok_iconst hE (0 : Int32) ki_0 dX12_passes_15 ?_
      exact ok_zreturn hE (Or.inl rfl) dX12_passes_16
theorem mR_passes {l : Launch} {Y : Sys} {t : Nat} (hY : SysOk Y t shR) (p1 : Int32)  (M : Mm) (r : (Int32 × Mm)) (h : R_passes p1 M = some r) : Cm l Y t yX12_passes (WS yX12_passes cX12_passes 2 (some .boolean)) rmR_passes [.ref (Y.ad 0), .int p1] M (enI r) := by
  refine cm_of (own := RX12) hY rfl rfl (Nat.le_of_ble_eq_true rfl) (fun E hE e1 e2 e3 e4 => ?_)
  subst e1
  exact tR_passes E hE p1  M r h e4.symm
def R_endsWell  (M : Mm) : Option Mm :=
 bnd (R_goes M) fun r1 =>
 if r1 = 0 then
 (some M)
 else
 (bnd (R_passes (59 : Int32) M) fun r2 =>
 if r2.1 = 0 then
 (bnd (R_fails (1 : Int32) (gI r2.2 0 44) r2.2) fun M3 =>
 some M3)
 else
 (some r2.2))
abbrev rmR_endsWell : Room := { frames := 3, cells := 0, slots := 0, locals := 62 }
set_option maxHeartbeats 4000000 in
set_option maxRecDepth 100000 in
theorem tR_endsWell (E : Cx) (hE : CxOk E cX12_endsWell RX12 shR none rmR_endsWell 1)   (M : Mm) : Ok E 0 [(0, .ref (E.Y.ad 0))] [] M (R_endsWell  M) (KV E) := by
  unfold R_endsWell
  refine ok_aload_n hE 0 rfl dX12_endsWell_0 ?_
  refine ok_cvIp hE rmR_goes [] [] rfl ca_X12_235 shR_0 rfl (fun _ hx => mR_goes hE.sys  _ _ hx) ⟨rfl, rfl, rfl, rfl⟩ rfl rfl dX12_endsWell_1 (fun r1 => ?_)
  refine ok_if_eq hE 25 rfl dX12_endsWell_4 ?_ ?_
  · exact ok_return hE dX12_endsWell_25
  · refine ok_aload_n hE 0 rfl dX12_endsWell_7 ?_
    refine ok_bipush hE (59 : Int32) kb_59 dX12_endsWell_8 ?_
    refine ok_cvI hE rmR_passes [.int (59 : Int32)] [] rfl ca_X12_259 shR_0 rfl (fun _ hx => mR_passes hE.sys _ _ _ hx) ⟨rfl, rfl, rfl, rfl⟩ rfl rfl dX12_endsWell_10 (fun r2 => ?_)
    refine ok_if_ne hE 25 rfl dX12_endsWell_13 ?_ ?_
    · exact ok_return hE dX12_endsWell_25
    · refine ok_aload_n hE 0 rfl dX12_endsWell_16 ?_
      refine ok_iconst hE (1 : Int32) ki_1 dX12_endsWell_17 ?_
      refine ok_aload_n hE 0 rfl dX12_endsWell_18 ?_
      refine ok_getI hE fl_X12_144 shR_0 rfl dX12_endsWell_19 ?_
      refine ok_cvV hE rmR_fails [.int (1 : Int32), .int (gI r2.2 0 44)] [] rfl ca_X12_249 shR_0 rfl (fun _ hx => mR_fails hE.sys _ _ _ _ hx) ⟨rfl, rfl, rfl, rfl⟩ rfl rfl dX12_endsWell_22 (fun M3 => ?_)
      exact ok_return hE dX12_endsWell_25
theorem mR_endsWell {l : Launch} {Y : Sys} {t : Nat} (hY : SysOk Y t shR)   (M : Mm) (r : Mm) (h : R_endsWell  M = some r) : Cm l Y t yX12_endsWell (WS yX12_endsWell cX12_endsWell 1 none) rmR_endsWell [.ref (Y.ad 0)] M (enV r) := by
  refine cm_of (own := RX12) hY rfl rfl (Nat.le_of_ble_eq_true rfl) (fun E hE e1 e2 e3 e4 => ?_)
  subst e1
  exact tR_endsWell E hE   M r h e4.symm
def R_number (p1 : Int32) (p2 : Int32) (M : Mm) : Option (Int32 × Mm) :=
 bnd (R_goes M) fun r1 =>
 if r1 = 0 then
 (some ((0 : Int32), M))
 else
 (bnd (R_here M) fun r2 =>
 lett (sI r2.2 0 45 (gI r2.2 0 44)) fun M3 =>
 bnd (R_isDigit (gI M3 0 44) M3) fun r4 =>
 lett (fun (_ : Unit) =>
 bnd (R_fails (1 : Int32) (gI M3 0 44) M3) fun M5 =>
 some ((0 : Int32), M5)) fun j59 =>
 if r4 = 0 then
 (j59 ())
 else
 (bnd (R_isSmall ((gI M3 0 44) - (1 : Int32)) M3) fun r6 =>
 if r6 = 0 then
 (bnd (R_isDigit ((gI M3 0 44) - (1 : Int32)) M3) fun r7 =>
 if r7 = 0 then
 (lett (0 : Int32) fun v8 =>
 lett (fun (u_8 : Int32) (M_9 : Mm) =>
 bnd (R_isIn u_8 p1 p2 M_9) fun r11 =>
 lett (fun (M_11 : Mm) =>
 bnd (R_goes M_11) fun r13 =>
 if r13 = 0 then
 (some ((0 : Int32), M_11))
 else
 (some (u_8, M_11))) fun j160 =>
 if r11 = 0 then
 (bnd (R_fails (2 : Int32) (gI M_9 0 45) M_9) fun M14 =>
 j160 M14)
 else
 (j160 M_9)) fun j142 =>
 loopR (fun (rec72 : (Int32 × Mm) → Option (Int32 × Mm)) (x15 : Int32 × Mm) =>
 bnd (R_isDigit (gI x15.2 0 44) x15.2) fun r16 =>
 if r16 = 0 then
 (j142 x15.1 x15.2)
 else
 (bnd (R_goes x15.2) fun r17 =>
 if r17 = 0 then
 (j142 x15.1 x15.2)
 else
 (lett (fun (M_17 : Mm) =>
 bnd (R_seen (gI M_17 0 44) M_17) fun r19 =>
 lett ((((10 : Int32) * x15.1) + r19) - (48 : Int32)) fun v20 =>
 lett (sI M_17 0 44 ((gI M_17 0 44) + (1 : Int32))) fun M21 =>
 rec72 (v20, M21)) fun j112 =>
 if ((gI x15.2 0 44) - (gI x15.2 0 45)) = (4 : Int32) then
 (bnd (R_fails (1 : Int32) (gI x15.2 0 44) x15.2) fun M22 =>
 j112 M22)
 else
 (j112 x15.2)))) 1000000 (v8, M3))
 else
 (j59 ()))
 else
 (j59 ())))
abbrev rmR_number : Room := { frames := 2, cells := 0, slots := 0, locals := 42 }
set_option maxHeartbeats 4000000 in
set_option maxRecDepth 100000 in
theorem tR_number (E : Cx) (hE : CxOk E cX12_number RX12 shR (some .int) rmR_number 4) (p1 : Int32) (p2 : Int32)  (M : Mm) : Ok E 0 [(0, .ref (E.Y.ad 0)), (1, .int p1), (2, .int p2)] [] M (R_number p1 p2 M) (KI E) := by
  unfold R_number
  refine ok_aload_n hE 0 rfl dX12_number_0 ?_
  refine ok_cvIp hE rmR_goes [] [] rfl ca_X12_235 shR_0 rfl (fun _ hx => mR_goes hE.sys  _ _ hx) ⟨rfl, rfl, rfl, rfl⟩ rfl rfl dX12_number_1 (fun r1 => ?_)
  refine ok_if_ne hE 9 rfl dX12_number_4 ?_ ?_
  · refine ok_aload_n hE 0 rfl dX12_number_9 ?_
    refine ok_cvI hE rmR_here [] [] rfl ca_X12_239 shR_0 rfl (fun _ hx => mR_here hE.sys  _ _ hx) ⟨rfl, rfl, rfl, rfl⟩ rfl rfl dX12_number_10 (fun r2 => ?_)
    refine ok_pop hE rfl dX12_number_13 ?_
    refine ok_aload_n hE 0 rfl dX12_number_14 ?_
    refine ok_aload_n hE 0 rfl dX12_number_15 ?_
    refine ok_getI hE fl_X12_144 shR_0 rfl dX12_number_16 ?_
    refine ok_putI hE fl_X12_147 shR_0 rfl dX12_number_19 (fun M3 => ?_)
    refine ok_aload_n hE 0 rfl dX12_number_22 ?_
    refine ok_aload_n hE 0 rfl dX12_number_23 ?_
    refine ok_getI hE fl_X12_144 shR_0 rfl dX12_number_24 ?_
    refine ok_cvIp hE rmR_isDigit [.int (gI M3 0 44)] [] rfl ca_X12_246 shR_0 rfl (fun _ hx => mR_isDigit hE.sys _ _ _ hx) ⟨rfl, rfl, rfl, rfl⟩ rfl rfl dX12_number_27 (fun r4 => ?_)
    refine ok_fun (fun j => ∀ (_ : Unit), Ok E 59 [(0, .ref (E.Y.ad 0))] [] M3 (j ()) (KI E)) (fun _ => ?_) (fun j59 hj59 => ?_)
    · refine ok_aload_n hE 0 rfl dX12_number_59 ?_
      refine ok_iconst hE (1 : Int32) ki_1 dX12_number_60 ?_
      refine ok_aload_n hE 0 rfl dX12_number_61 ?_
      refine ok_getI hE fl_X12_144 shR_0 rfl dX12_number_62 ?_
      refine ok_cvV hE rmR_fails [.int (1 : Int32), .int (gI M3 0 44)] [] rfl ca_X12_249 shR_0 rfl (fun _ hx => mR_fails hE.sys _ _ _ _ hx) ⟨rfl, rfl, rfl, rfl⟩ rfl rfl dX12_number_65 (fun M5 => ?_)
      refine ok_iconst hE (0 : Int32) ki_0 dX12_number_68 ?_
      exact ok_ireturn hE dX12_number_69
    refine ok_if_eq hE 59 rfl dX12_number_30 ?_ ?_
    · exact ok_sub [0] rfl (hj59 ())
    · refine ok_aload_n hE 0 rfl dX12_number_33 ?_
      refine ok_aload_n hE 0 rfl dX12_number_34 ?_
      refine ok_getI hE fl_X12_144 shR_0 rfl dX12_number_35 ?_
      refine ok_iconst hE (1 : Int32) ki_1 dX12_number_38 ?_
      refine ok_isub hE dX12_number_39 ?_
      refine ok_cvIp hE rmR_isSmall [.int ((gI M3 0 44) - (1 : Int32))] [] rfl ca_X12_243 shR_0 rfl (fun _ hx => mR_isSmall hE.sys _ _ _ hx) ⟨rfl, rfl, rfl, rfl⟩ rfl rfl dX12_number_40 (fun r6 => ?_)
      refine ok_if_ne hE 59 rfl dX12_number_43 ?_ ?_
      · exact ok_sub [0] rfl (hj59 ())
      · refine ok_aload_n hE 0 rfl dX12_number_46 ?_
        refine ok_aload_n hE 0 rfl dX12_number_47 ?_
        refine ok_getI hE fl_X12_144 shR_0 rfl dX12_number_48 ?_
        refine ok_iconst hE (1 : Int32) ki_1 dX12_number_51 ?_
        refine ok_isub hE dX12_number_52 ?_
        refine ok_cvIp hE rmR_isDigit [.int ((gI M3 0 44) - (1 : Int32))] [] rfl ca_X12_246 shR_0 rfl (fun _ hx => mR_isDigit hE.sys _ _ _ hx) ⟨rfl, rfl, rfl, rfl⟩ rfl rfl dX12_number_53 (fun r7 => ?_)
        refine ok_if_eq hE 70 rfl dX12_number_56 ?_ ?_
        · refine ok_iconst hE (0 : Int32) ki_0 dX12_number_70 ?_
          refine ok_istore_n hE (fun v8 => [(3, .int v8), (0, .ref (E.Y.ad 0)), (1, .int p1), (2, .int p2)]) (fun _ => rfl) rfl dX12_number_71 (fun v8 => ?_)
          refine ok_fun (fun j => ∀ (u_8 : Int32) (M_9 : Mm), Ok E 142 [(0, .ref (E.Y.ad 0)), (1, .int p1), (2, .int p2), (3, .int u_8)] [] M_9 (j u_8 M_9) (KI E)) (fun u_8 M_9 => ?_) (fun j142 hj142 => ?_)
          · refine ok_iload_n hE 3 rfl dX12_number_142 ?_
            refine ok_iload_n hE 1 rfl dX12_number_143 ?_
            refine ok_iload_n hE 2 rfl dX12_number_144 ?_
            refine ok_csIp hE rmR_isIn [.int u_8, .int p1, .int p2] [] rfl ca_X12_262 (fun _ hx => mR_isIn hE.sys _ _ _ _ _ hx) ⟨rfl, rfl, rfl, rfl⟩ rfl rfl dX12_number_145 (fun r11 => ?_)
            refine ok_fun (fun j => ∀ (M_11 : Mm), Ok E 160 [(0, .ref (E.Y.ad 0)), (3, .int u_8)] [] M_11 (j M_11) (KI E)) (fun M_11 => ?_) (fun j160 hj160 => ?_)
            · refine ok_aload_n hE 0 rfl dX12_number_160 ?_
              refine ok_cvIp hE rmR_goes [] [] rfl ca_X12_235 shR_0 rfl (fun _ hx => mR_goes hE.sys  _ _ hx) ⟨rfl, rfl, rfl, rfl⟩ rfl rfl dX12_number_161 (fun r13 => ?_)
              refine ok_if_eq hE 171 rfl dX12_number_164 ?_ ?_
              · refine ok_iconst hE (0 : Int32) ki_0 dX12_number_171 ?_
                exact ok_ireturn hE dX12_number_172
              · refine ok_iload_n hE 1 rfl dX12_number_167 ?_
                refine ok_goto hE 172 rfl dX12_number_168 ?_
                exact ok_ireturn hE dX12_number_172
            refine ok_if_ne hE 160 rfl dX12_number_148 ?_ ?_
            · exact ok_sub [0, 3] rfl (hj160 M_9)
            · refine ok_aload_n hE 0 rfl dX12_number_151 ?_
              refine ok_iconst hE (2 : Int32) ki_2 dX12_number_152 ?_
              refine ok_aload_n hE 0 rfl dX12_number_153 ?_
              refine ok_getI hE fl_X12_147 shR_0 rfl dX12_number_154 ?_
              refine ok_cvV hE rmR_fails [.int (2 : Int32), .int (gI M_9 0 45)] [] rfl ca_X12_249 shR_0 rfl (fun _ hx => mR_fails hE.sys _ _ _ _ hx) ⟨rfl, rfl, rfl, rfl⟩ rfl rfl dX12_number_157 (fun M14 => ?_)
              exact ok_sub [0, 3] rfl (hj160 M14)
          refine ok_sub [1, 2, 3, 0] rfl (ok_loop (σ := Int32 × Mm) 72 (fun x15 => [(0, .ref (E.Y.ad 0)), (1, .int p1), (2, .int p2), (3, .int x15.1)]) (fun x15 => x15.2) (fun rec72 hrec72 x15 => ?_) 1000000 (v8, M3))
          refine ok_aload_n hE 0 rfl dX12_number_72 ?_
          refine ok_aload_n hE 0 rfl dX12_number_73 ?_
          refine ok_getI hE fl_X12_144 shR_0 rfl dX12_number_74 ?_
          refine ok_cvIp hE rmR_isDigit [.int (gI x15.2 0 44)] [] rfl ca_X12_246 shR_0 rfl (fun _ hx => mR_isDigit hE.sys _ _ _ hx) ⟨rfl, rfl, rfl, rfl⟩ rfl rfl dX12_number_77 (fun r16 => ?_)
          refine ok_if_eq hE 142 rfl dX12_number_80 ?_ ?_
          · exact ok_sub [0, 1, 2, 3] rfl (hj142 x15.1 x15.2)
          · refine ok_aload_n hE 0 rfl dX12_number_83 ?_
            refine ok_cvIp hE rmR_goes [] [] rfl ca_X12_235 shR_0 rfl (fun _ hx => mR_goes hE.sys  _ _ hx) ⟨rfl, rfl, rfl, rfl⟩ rfl rfl dX12_number_84 (fun r17 => ?_)
            refine ok_if_eq hE 142 rfl dX12_number_87 ?_ ?_
            · exact ok_sub [0, 1, 2, 3] rfl (hj142 x15.1 x15.2)
            · refine ok_aload_n hE 0 rfl dX12_number_90 ?_
              refine ok_getI hE fl_X12_144 shR_0 rfl dX12_number_91 ?_
              refine ok_aload_n hE 0 rfl dX12_number_94 ?_
              refine ok_getI hE fl_X12_147 shR_0 rfl dX12_number_95 ?_
              refine ok_isub hE dX12_number_98 ?_
              refine ok_iconst hE (4 : Int32) ki_4 dX12_number_99 ?_
              refine ok_fun (fun j => ∀ (M_17 : Mm), Ok E 112 [(0, .ref (E.Y.ad 0)), (1, .int p1), (2, .int p2), (3, .int x15.1)] [] M_17 (j M_17) (KI E)) (fun M_17 => ?_) (fun j112 hj112 => ?_)
              · refine ok_bipush hE (10 : Int32) kb_10 dX12_number_112 ?_
                refine ok_iload_n hE 3 rfl dX12_number_114 ?_
                refine ok_imul hE dX12_number_115 ?_
                refine ok_aload_n hE 0 rfl dX12_number_116 ?_
                refine ok_aload_n hE 0 rfl dX12_number_117 ?_
                refine ok_getI hE fl_X12_144 shR_0 rfl dX12_number_118 ?_
                refine ok_cvIp hE rmR_seen [.int (gI M_17 0 44)] [.int ((10 : Int32) * x15.1)] rfl ca_X12_232 shR_0 rfl (fun _ hx => mR_seen hE.sys _ _ _ hx) ⟨rfl, rfl, rfl, rfl⟩ rfl rfl dX12_number_121 (fun r19 => ?_)
                refine ok_iadd hE dX12_number_124 ?_
                refine ok_bipush hE (48 : Int32) kb_48 dX12_number_125 ?_
                refine ok_isub hE dX12_number_127 ?_
                refine ok_istore_n hE (fun v20 => [(3, .int v20), (0, .ref (E.Y.ad 0)), (1, .int p1), (2, .int p2)]) (fun _ => rfl) rfl dX12_number_128 (fun v20 => ?_)
                refine ok_aload_n hE 1 rfl dX12_number_129 ?_
                refine ok_dup hE rfl dX12_number_130 ?_
                refine ok_getI hE fl_X12_144 shR_0 rfl dX12_number_131 ?_
                refine ok_iconst hE (1 : Int32) ki_1 dX12_number_134 ?_
                refine ok_iadd hE dX12_number_135 ?_
                refine ok_putI hE fl_X12_144 shR_0 rfl dX12_number_136 (fun M21 => ?_)
                refine ok_goto hE 72 rfl dX12_number_139 ?_
                exact ok_sub [1, 2, 3, 0] rfl (hrec72 (v20, M21))
              refine ok_icmp_ne hE 112 rfl dX12_number_100 ?_ ?_
              · exact ok_sub [0, 1, 2, 3] rfl (hj112 x15.2)
              · refine ok_aload_n hE 0 rfl dX12_number_103 ?_
                refine ok_iconst hE (1 : Int32) ki_1 dX12_number_104 ?_
                refine ok_aload_n hE 0 rfl dX12_number_105 ?_
                refine ok_getI hE fl_X12_144 shR_0 rfl dX12_number_106 ?_
                refine ok_cvV hE rmR_fails [.int (1 : Int32), .int (gI x15.2 0 44)] [] rfl ca_X12_249 shR_0 rfl (fun _ hx => mR_fails hE.sys _ _ _ _ hx) ⟨rfl, rfl, rfl, rfl⟩ rfl rfl dX12_number_109 (fun M22 => ?_)
                exact ok_sub [0, 1, 2, 3] rfl (hj112 M22)
        · exact ok_sub [0] rfl (hj59 ())
  · refine ok_iconst hE (0 : Int32) ki_0 dX12_number_7 ?_
    exact ok_ireturn hE dX12_number_8
theorem mR_number {l : Launch} {Y : Sys} {t : Nat} (hY : SysOk Y t shR) (p1 : Int32) (p2 : Int32)  (M : Mm) (r : (Int32 × Mm)) (h : R_number p1 p2 M = some r) : Cm l Y t yX12_number (WS yX12_number cX12_number 4 (some .int)) rmR_number [.ref (Y.ad 0), .int p1, .int p2] M (enI r) := by
  refine cm_of (own := RX12) hY rfl rfl (Nat.le_of_ble_eq_true rfl) (fun E hE e1 e2 e3 e4 => ?_)
  subst e1
  exact tR_number E hE p1 p2  M r h e4.symm
def R_told (p1 : Int32) (p2 : Int32) (p3 : Int32) (M : Mm) : Option (Int32 × Mm) :=
 bnd (R_must p1 M) fun M1 =>
 bnd (R_number p2 p3 M1) fun r2 =>
 some (r2.1, r2.2)
abbrev rmR_told : Room := { frames := 4, cells := 0, slots := 0, locals := 83 }
set_option maxHeartbeats 4000000 in
set_option maxRecDepth 100000 in
theorem tR_told (E : Cx) (hE : CxOk E cX12_told RX12 shR (some .int) rmR_told 4) (p1 : Int32) (p2 : Int32) (p3 : Int32)  (M : Mm) : Ok E 0 [(0, .ref (E.Y.ad 0)), (1, .int p1), (2, .int p2), (3, .int p3)] [] M (R_told p1 p2 p3 M) (KI E) := by
  unfold R_told
  refine ok_aload_n hE 0 rfl dX12_told_0 ?_
  refine ok_iload_n hE 1 rfl dX12_told_1 ?_
  refine ok_cvV hE rmR_must [.int p1] [] rfl ca_X12_266 shR_0 rfl (fun _ hx => mR_must hE.sys _ _ _ hx) ⟨rfl, rfl, rfl, rfl⟩ rfl rfl dX12_told_2 (fun M1 => ?_)
  refine ok_aload_n hE 0 rfl dX12_told_5 ?_
  refine ok_iload_n hE 2 rfl dX12_told_6 ?_
  refine ok_iload_n hE 3 rfl dX12_told_7 ?_
  refine ok_cvI hE rmR_number [.int p2, .int p3] [] rfl ca_X12_269 shR_0 rfl (fun _ hx => mR_number hE.sys _ _ _ _ hx) ⟨rfl, rfl, rfl, rfl⟩ rfl rfl dX12_told_8 (fun r2 => ?_)
  exact ok_ireturn hE dX12_told_11
theorem mR_told {l : Launch} {Y : Sys} {t : Nat} (hY : SysOk Y t shR) (p1 : Int32) (p2 : Int32) (p3 : Int32)  (M : Mm) (r : (Int32 × Mm)) (h : R_told p1 p2 p3 M = some r) : Cm l Y t yX12_told (WS yX12_told cX12_told 4 (some .int)) rmR_told [.ref (Y.ad 0), .int p1, .int p2, .int p3] M (enI r) := by
  refine cm_of (own := RX12) hY rfl rfl (Nat.le_of_ble_eq_true rfl) (fun E hE e1 e2 e3 e4 => ?_)
  subst e1
  exact tR_told E hE p1 p2 p3  M r h e4.symm
def R_isName (p1 : Int32) (M : Mm) : Option Int32 :=
 lett (0 : Int32) fun v1 =>
 loopR (fun (rec2 : Int32 → Option Int32) (x2 : Int32) =>
 if (6 : Int32) ≤ x2 then
 (some (1 : Int32))
 else
 (lett (fun (w_2 : Int32) =>
 lett w_2 fun v4 =>
 ald (((6 : Int32) * p1) + x2) 36 (if (gI M 12 (ix (((6 : Int32) * p1) + x2))) = v4 then
 (lett (x2 + (1 : Int32)) fun v5 =>
 rec2 v5)
 else
 (some (0 : Int32)))) fun j39 =>
 if (gI M 0 44) ≤ ((gI M 0 45) + x2) then
 (j39 (0 : Int32))
 else
 (ald ((gI M 0 45) + x2) 1600 (j39 ((gI M 13 (ix ((gI M 0 45) + x2))) - (96 : Int32)))))) 1000000 v1
abbrev rmR_isName : Room := { frames := 0, cells := 0, slots := 0, locals := 0 }
set_option maxHeartbeats 4000000 in
set_option maxRecDepth 100000 in
theorem tR_isName (E : Cx) (hE : CxOk E cX12_isName RX12 shR (some .boolean) rmR_isName 4) (p1 : Int32)  (M : Mm) : Ok E 0 [(0, .ref (E.Y.ad 0)), (1, .int p1)] [] M (R_isName p1 M) (KIp E M) := by
  unfold R_isName
  refine ok_iconst hE (0 : Int32) ki_0 dX12_isName_0 ?_
  refine ok_istore_n hE (fun v1 => [(2, .int v1), (0, .ref (E.Y.ad 0)), (1, .int p1)]) (fun _ => rfl) rfl dX12_isName_1 (fun v1 => ?_)
  refine ok_sub [1, 2, 0] rfl (ok_loop (σ := Int32) 2 (fun x2 => [(0, .ref (E.Y.ad 0)), (1, .int p1), (2, .int x2)]) (fun x2 => M) (fun rec2 hrec2 x2 => ?_) 1000000 v1)
  refine ok_iload_n hE 2 rfl dX12_isName_2 ?_
  refine ok_bipush hE (6 : Int32) kb_6 dX12_isName_3 ?_
  refine ok_icmp_ge hE 63 rfl dX12_isName_5 ?_ ?_
  · refine ok_iconst hE (1 : Int32) ki_1 dX12_isName_63 ?_
    exact ok_zreturnP hE (Or.inr rfl) dX12_isName_64
  · refine ok_aload_n hE 0 rfl dX12_isName_8 ?_
    refine ok_getI hE fl_X12_147 shR_0 rfl dX12_isName_9 ?_
    refine ok_iload_n hE 2 rfl dX12_isName_12 ?_
    refine ok_iadd hE dX12_isName_13 ?_
    refine ok_aload_n hE 0 rfl dX12_isName_14 ?_
    refine ok_getI hE fl_X12_144 shR_0 rfl dX12_isName_15 ?_
    refine ok_fun (fun j => ∀ (w_2 : Int32), Ok E 39 [(0, .ref (E.Y.ad 0)), (1, .int p1), (2, .int x2)] [.int w_2] M (j w_2) (KIp E M)) (fun w_2 => ?_) (fun j39 hj39 => ?_)
    · refine ok_istore_n hE (fun v4 => [(3, .int v4), (0, .ref (E.Y.ad 0)), (1, .int p1), (2, .int x2)]) (fun _ => rfl) rfl dX12_isName_39 (fun v4 => ?_)
      refine ok_aload_n hE 1 rfl dX12_isName_40 ?_
      refine ok_getA hE fl_X12_123 shR_0 rfl dX12_isName_41 ?_
      refine ok_bipush hE (6 : Int32) kb_6 dX12_isName_44 ?_
      refine ok_iload_n hE 2 rfl dX12_isName_46 ?_
      refine ok_imul hE dX12_isName_47 ?_
      refine ok_iload_n hE 3 rfl dX12_isName_48 ?_
      refine ok_iadd hE dX12_isName_49 ?_
      refine ok_iaload hE shR_12 dX12_isName_50 ?_
      refine ok_iload_n hE 0 rfl dX12_isName_51 ?_
      refine ok_icmp_eq hE 57 rfl dX12_isName_52 ?_ ?_
      · refine ok_iinc hE 3 (x2 + (1 : Int32)) (by rw [ko_1]) (fun v5 => [(2, .int v5), (3, .int v4), (0, .ref (E.Y.ad 0)), (1, .int p1)]) rfl (fun _ => rfl) rfl dX12_isName_57 (fun v5 => ?_)
        refine ok_goto hE 2 rfl dX12_isName_60 ?_
        exact ok_sub [2, 3, 0] rfl (hrec2 v5)
      · refine ok_iconst hE (0 : Int32) ki_0 dX12_isName_55 ?_
        exact ok_zreturnP hE (Or.inl rfl) dX12_isName_56
    refine ok_icmp_ge hE 38 rfl dX12_isName_18 ?_ ?_
    · refine ok_iconst hE (0 : Int32) ki_0 dX12_isName_38 ?_
      exact ok_sub [0, 1, 2] rfl (hj39 (0 : Int32))
    · refine ok_aload_n hE 0 rfl dX12_isName_21 ?_
      refine ok_getA hE fl_X12_126 shR_0 rfl dX12_isName_22 ?_
      refine ok_aload_n hE 0 rfl dX12_isName_25 ?_
      refine ok_getI hE fl_X12_147 shR_0 rfl dX12_isName_26 ?_
      refine ok_iload_n hE 2 rfl dX12_isName_29 ?_
      refine ok_iadd hE dX12_isName_30 ?_
      refine ok_iaload hE shR_13 dX12_isName_31 ?_
      refine ok_bipush hE (96 : Int32) kb_96 dX12_isName_32 ?_
      refine ok_isub hE dX12_isName_34 ?_
      refine ok_goto hE 39 rfl dX12_isName_35 ?_
      exact ok_sub [0, 1, 2] rfl (hj39 ((gI M 13 (ix ((gI M 0 45) + x2))) - (96 : Int32)))
theorem mR_isName {l : Launch} {Y : Sys} {t : Nat} (hY : SysOk Y t shR) (p1 : Int32)  (M : Mm) (r : Int32) (h : R_isName p1 M = some r) : Cm l Y t yX12_isName (WS yX12_isName cX12_isName 4 (some .boolean)) rmR_isName [.ref (Y.ad 0), .int p1] M ((some (.int r), M)) := by
  refine cm_of (own := RX12) hY rfl rfl (Nat.le_of_ble_eq_true rfl) (fun E hE e1 e2 e3 e4 => ?_)
  subst e1
  exact tR_isName E hE p1  M r h e4.symm
def R_freshName  (M : Mm) : Option Mm :=
 bnd (R_word M) fun M1 =>
 bnd (R_goes M1) fun r2 =>
 if r2 = 0 then
 (some M1)
 else
 (bnd (R_own M1) fun r3 =>
 lett (fun (M_3 : Mm) =>
 lett (0 : Int32) fun v5 =>
 lett (fun (M_5 : Mm) =>
 lett (0 : Int32) fun v7 =>
 loopR (fun (rec100 : (Int32 × Mm) → Option Mm) (x8 : Int32 × Mm) =>
 bnd (R_goes x8.2) fun r9 =>
 if r9 = 0 then
 (some x8.2)
 else
 (if (6 : Int32) ≤ x8.1 then
 (some x8.2)
 else
 (lett (fun (w_9 : Int32) =>
 ald (((6 : Int32) * (gI x8.2 0 19)) + x8.1) 36 (lett (sI x8.2 12 (ix (((6 : Int32) * (gI x8.2 0 19)) + x8.1)) w_9) fun M11 =>
 lett (x8.1 + (1 : Int32)) fun v12 =>
 rec100 (v12, M11))) fun j157 =>
 if (gI x8.2 0 44) ≤ ((gI x8.2 0 45) + x8.1) then
 (j157 (0 : Int32))
 else
 (ald ((gI x8.2 0 45) + x8.1) 1600 (j157 ((gI x8.2 13 (ix ((gI x8.2 0 45) + x8.1))) - (96 : Int32))))))) 1000000 (v7, M_5)) fun j98 =>
 loopR (fun (rec60 : (Int32 × Mm) → Option Mm) (x13 : Int32 × Mm) =>
 bnd (R_goes x13.2) fun r14 =>
 if r14 = 0 then
 (j98 x13.2)
 else
 (if (gI x13.2 0 19) ≤ x13.1 then
 (j98 x13.2)
 else
 (bnd (R_isName x13.1 x13.2) fun r15 =>
 lett (fun (M_15 : Mm) =>
 lett (x13.1 + (1 : Int32)) fun v17 =>
 rec60 (v17, M_15)) fun j92 =>
 if r15 = 0 then
 (j92 x13.2)
 else
 (bnd (R_fails (3 : Int32) (gI x13.2 0 45) x13.2) fun M18 =>
 j92 M18)))) 1000000 (v5, M_3)) fun j58 =>
 if r3 = (-1 : Int32) then
 (if ((gI M1 0 44) - (gI M1 0 45)) ≤ (6 : Int32) then
 (j58 M1)
 else
 (bnd (R_fails (1 : Int32) ((gI M1 0 45) + (6 : Int32)) M1) fun M19 =>
 j58 M19))
 else
 (bnd (R_fails (1 : Int32) (gI M1 0 45) M1) fun M20 =>
 j58 M20))
abbrev rmR_freshName : Room := { frames := 3, cells := 0, slots := 0, locals := 62 }
set_option maxHeartbeats 4000000 in
set_option maxRecDepth 100000 in
theorem tR_freshName (E : Cx) (hE : CxOk E cX12_freshName RX12 shR none rmR_freshName 2)   (M : Mm) : Ok E 0 [(0, .ref (E.Y.ad 0))] [] M (R_freshName  M) (KV E) := by
  unfold R_freshName
  refine ok_aload_n hE 0 rfl dX12_freshName_0 ?_
  refine ok_cvV hE rmR_word [] [] rfl ca_X12_253 shR_0 rfl (fun _ hx => mR_word hE.sys  _ _ hx) ⟨rfl, rfl, rfl, rfl⟩ rfl rfl dX12_freshName_1 (fun M1 => ?_)
  refine ok_aload_n hE 0 rfl dX12_freshName_4 ?_
  refine ok_cvIp hE rmR_goes [] [] rfl ca_X12_235 shR_0 rfl (fun _ hx => mR_goes hE.sys  _ _ hx) ⟨rfl, rfl, rfl, rfl⟩ rfl rfl dX12_freshName_5 (fun r2 => ?_)
  refine ok_if_ne hE 12 rfl dX12_freshName_8 ?_ ?_
  · refine ok_aload_n hE 0 rfl dX12_freshName_12 ?_
    refine ok_cvIp hE rmR_own [] [] rfl ca_X12_256 shR_0 rfl (fun _ hx => mR_own hE.sys  _ _ hx) ⟨rfl, rfl, rfl, rfl⟩ rfl rfl dX12_freshName_13 (fun r3 => ?_)
    refine ok_iconst hE (-1 : Int32) ki_m1 dX12_freshName_16 ?_
    refine ok_fun (fun j => ∀ (M_3 : Mm), Ok E 58 [(0, .ref (E.Y.ad 0))] [] M_3 (j M_3) (KV E)) (fun M_3 => ?_) (fun j58 hj58 => ?_)
    · refine ok_iconst hE (0 : Int32) ki_0 dX12_freshName_58 ?_
      refine ok_istore_n hE (fun v5 => [(1, .int v5), (0, .ref (E.Y.ad 0))]) (fun _ => rfl) rfl dX12_freshName_59 (fun v5 => ?_)
      refine ok_fun (fun j => ∀ (M_5 : Mm), Ok E 98 [(0, .ref (E.Y.ad 0))] [] M_5 (j M_5) (KV E)) (fun M_5 => ?_) (fun j98 hj98 => ?_)
      · refine ok_iconst hE (0 : Int32) ki_0 dX12_freshName_98 ?_
        refine ok_istore_n hE (fun v7 => [(1, .int v7), (0, .ref (E.Y.ad 0))]) (fun _ => rfl) rfl dX12_freshName_99 (fun v7 => ?_)
        refine ok_sub [1, 0] rfl (ok_loop (σ := Int32 × Mm) 100 (fun x8 => [(0, .ref (E.Y.ad 0)), (1, .int x8.1)]) (fun x8 => x8.2) (fun rec100 hrec100 x8 => ?_) 1000000 (v7, M_5))
        refine ok_aload_n hE 0 rfl dX12_freshName_100 ?_
        refine ok_cvIp hE rmR_goes [] [] rfl ca_X12_235 shR_0 rfl (fun _ hx => mR_goes hE.sys  _ _ hx) ⟨rfl, rfl, rfl, rfl⟩ rfl rfl dX12_freshName_101 (fun r9 => ?_)
        refine ok_if_eq hE 164 rfl dX12_freshName_104 ?_ ?_
        · exact ok_return hE dX12_freshName_164
        · refine ok_iload_n hE 1 rfl dX12_freshName_107 ?_
          refine ok_bipush hE (6 : Int32) kb_6 dX12_freshName_108 ?_
          refine ok_icmp_ge hE 164 rfl dX12_freshName_110 ?_ ?_
          · exact ok_return hE dX12_freshName_164
          · refine ok_aload_n hE 0 rfl dX12_freshName_113 ?_
            refine ok_getA hE fl_X12_123 shR_0 rfl dX12_freshName_114 ?_
            refine ok_bipush hE (6 : Int32) kb_6 dX12_freshName_117 ?_
            refine ok_aload_n hE 0 rfl dX12_freshName_119 ?_
            refine ok_getI hE fl_X12_69 shR_0 rfl dX12_freshName_120 ?_
            refine ok_imul hE dX12_freshName_123 ?_
            refine ok_iload_n hE 1 rfl dX12_freshName_124 ?_
            refine ok_iadd hE dX12_freshName_125 ?_
            refine ok_aload_n hE 0 rfl dX12_freshName_126 ?_
            refine ok_getI hE fl_X12_147 shR_0 rfl dX12_freshName_127 ?_
            refine ok_iload_n hE 1 rfl dX12_freshName_130 ?_
            refine ok_iadd hE dX12_freshName_131 ?_
            refine ok_aload_n hE 0 rfl dX12_freshName_132 ?_
            refine ok_getI hE fl_X12_144 shR_0 rfl dX12_freshName_133 ?_
            refine ok_fun (fun j => ∀ (w_9 : Int32), Ok E 157 [(0, .ref (E.Y.ad 0)), (1, .int x8.1)] [.int w_9, .int (((6 : Int32) * (gI x8.2 0 19)) + x8.1), .ref (E.Y.ad 12)] x8.2 (j w_9) (KV E)) (fun w_9 => ?_) (fun j157 hj157 => ?_)
            · refine ok_iastore hE shR_12 dX12_freshName_157 (fun M11 => ?_)
              refine ok_iinc hE 1 (x8.1 + (1 : Int32)) (by rw [ko_1]) (fun v12 => [(1, .int v12), (0, .ref (E.Y.ad 0))]) rfl (fun _ => rfl) rfl dX12_freshName_158 (fun v12 => ?_)
              refine ok_goto hE 100 rfl dX12_freshName_161 ?_
              exact ok_sub [1, 0] rfl (hrec100 (v12, M11))
            refine ok_icmp_ge hE 156 rfl dX12_freshName_136 ?_ ?_
            · refine ok_iconst hE (0 : Int32) ki_0 dX12_freshName_156 ?_
              exact ok_sub [0, 1] rfl (hj157 (0 : Int32))
            · refine ok_aload_n hE 0 rfl dX12_freshName_139 ?_
              refine ok_getA hE fl_X12_126 shR_0 rfl dX12_freshName_140 ?_
              refine ok_aload_n hE 0 rfl dX12_freshName_143 ?_
              refine ok_getI hE fl_X12_147 shR_0 rfl dX12_freshName_144 ?_
              refine ok_iload_n hE 1 rfl dX12_freshName_147 ?_
              refine ok_iadd hE dX12_freshName_148 ?_
              refine ok_iaload hE shR_13 dX12_freshName_149 ?_
              refine ok_bipush hE (96 : Int32) kb_96 dX12_freshName_150 ?_
              refine ok_isub hE dX12_freshName_152 ?_
              refine ok_goto hE 157 rfl dX12_freshName_153 ?_
              exact ok_sub [0, 1] rfl (hj157 ((gI x8.2 13 (ix ((gI x8.2 0 45) + x8.1))) - (96 : Int32)))
      refine ok_sub [1, 0] rfl (ok_loop (σ := Int32 × Mm) 60 (fun x13 => [(0, .ref (E.Y.ad 0)), (1, .int x13.1)]) (fun x13 => x13.2) (fun rec60 hrec60 x13 => ?_) 1000000 (v5, M_3))
      refine ok_aload_n hE 0 rfl dX12_freshName_60 ?_
      refine ok_cvIp hE rmR_goes [] [] rfl ca_X12_235 shR_0 rfl (fun _ hx => mR_goes hE.sys  _ _ hx) ⟨rfl, rfl, rfl, rfl⟩ rfl rfl dX12_freshName_61 (fun r14 => ?_)
      refine ok_if_eq hE 98 rfl dX12_freshName_64 ?_ ?_
      · exact ok_sub [0] rfl (hj98 x13.2)
      · refine ok_iload_n hE 1 rfl dX12_freshName_67 ?_
        refine ok_aload_n hE 0 rfl dX12_freshName_68 ?_
        refine ok_getI hE fl_X12_69 shR_0 rfl dX12_freshName_69 ?_
        refine ok_icmp_ge hE 98 rfl dX12_freshName_72 ?_ ?_
        · exact ok_sub [0] rfl (hj98 x13.2)
        · refine ok_aload_n hE 0 rfl dX12_freshName_75 ?_
          refine ok_iload_n hE 1 rfl dX12_freshName_76 ?_
          refine ok_cvIp hE rmR_isName [.int x13.1] [] rfl ca_X12_273 shR_0 rfl (fun _ hx => mR_isName hE.sys _ _ _ hx) ⟨rfl, rfl, rfl, rfl⟩ rfl rfl dX12_freshName_77 (fun r15 => ?_)
          refine ok_fun (fun j => ∀ (M_15 : Mm), Ok E 92 [(0, .ref (E.Y.ad 0)), (1, .int x13.1)] [] M_15 (j M_15) (KV E)) (fun M_15 => ?_) (fun j92 hj92 => ?_)
          · refine ok_iinc hE 1 (x13.1 + (1 : Int32)) (by rw [ko_1]) (fun v17 => [(1, .int v17), (0, .ref (E.Y.ad 0))]) rfl (fun _ => rfl) rfl dX12_freshName_92 (fun v17 => ?_)
            refine ok_goto hE 60 rfl dX12_freshName_95 ?_
            exact ok_sub [1, 0] rfl (hrec60 (v17, M_15))
          refine ok_if_eq hE 92 rfl dX12_freshName_80 ?_ ?_
          · exact ok_sub [0, 1] rfl (hj92 x13.2)
          · refine ok_aload_n hE 0 rfl dX12_freshName_83 ?_
            refine ok_iconst hE (3 : Int32) ki_3 dX12_freshName_84 ?_
            refine ok_aload_n hE 0 rfl dX12_freshName_85 ?_
            refine ok_getI hE fl_X12_147 shR_0 rfl dX12_freshName_86 ?_
            refine ok_cvV hE rmR_fails [.int (3 : Int32), .int (gI x13.2 0 45)] [] rfl ca_X12_249 shR_0 rfl (fun _ hx => mR_fails hE.sys _ _ _ _ hx) ⟨rfl, rfl, rfl, rfl⟩ rfl rfl dX12_freshName_89 (fun M18 => ?_)
            exact ok_sub [0, 1] rfl (hj92 M18)
    refine ok_icmp_eq hE 32 rfl dX12_freshName_17 ?_ ?_
    · refine ok_aload_n hE 0 rfl dX12_freshName_32 ?_
      refine ok_getI hE fl_X12_144 shR_0 rfl dX12_freshName_33 ?_
      refine ok_aload_n hE 0 rfl dX12_freshName_36 ?_
      refine ok_getI hE fl_X12_147 shR_0 rfl dX12_freshName_37 ?_
      refine ok_isub hE dX12_freshName_40 ?_
      refine ok_bipush hE (6 : Int32) kb_6 dX12_freshName_41 ?_
      refine ok_icmp_le hE 58 rfl dX12_freshName_43 ?_ ?_
      · exact ok_sub [0] rfl (hj58 M1)
      · refine ok_aload_n hE 0 rfl dX12_freshName_46 ?_
        refine ok_iconst hE (1 : Int32) ki_1 dX12_freshName_47 ?_
        refine ok_aload_n hE 0 rfl dX12_freshName_48 ?_
        refine ok_getI hE fl_X12_147 shR_0 rfl dX12_freshName_49 ?_
        refine ok_bipush hE (6 : Int32) kb_6 dX12_freshName_52 ?_
        refine ok_iadd hE dX12_freshName_54 ?_
        refine ok_cvV hE rmR_fails [.int (1 : Int32), .int ((gI M1 0 45) + (6 : Int32))] [] rfl ca_X12_249 shR_0 rfl (fun _ hx => mR_fails hE.sys _ _ _ _ hx) ⟨rfl, rfl, rfl, rfl⟩ rfl rfl dX12_freshName_55 (fun M19 => ?_)
        exact ok_sub [0] rfl (hj58 M19)
    · refine ok_aload_n hE 0 rfl dX12_freshName_20 ?_
      refine ok_iconst hE (1 : Int32) ki_1 dX12_freshName_21 ?_
      refine ok_aload_n hE 0 rfl dX12_freshName_22 ?_
      refine ok_getI hE fl_X12_147 shR_0 rfl dX12_freshName_23 ?_
      refine ok_cvV hE rmR_fails [.int (1 : Int32), .int (gI M1 0 45)] [] rfl ca_X12_249 shR_0 rfl (fun _ hx => mR_fails hE.sys _ _ _ _ hx) ⟨rfl, rfl, rfl, rfl⟩ rfl rfl dX12_freshName_26 (fun M20 => ?_)
      refine ok_goto hE 58 rfl dX12_freshName_29 ?_
      exact ok_sub [0] rfl (hj58 M20)
  · exact ok_return hE dX12_freshName_11
theorem mR_freshName {l : Launch} {Y : Sys} {t : Nat} (hY : SysOk Y t shR)   (M : Mm) (r : Mm) (h : R_freshName  M = some r) : Cm l Y t yX12_freshName (WS yX12_freshName cX12_freshName 2 none) rmR_freshName [.ref (Y.ad 0)] M (enV r) := by
  refine cm_of (own := RX12) hY rfl rfl (Nat.le_of_ble_eq_true rfl) (fun E hE e1 e2 e3 e4 => ?_)
  subst e1
  exact tR_freshName E hE   M r h e4.symm
def R_readsStep  (M : Mm) : Option Mm :=
 bnd (R_word M) fun M1 =>
 bnd (R_goes M1) fun r2 =>
 if r2 = 0 then
 (some M1)
 else
 (bnd (R_own M1) fun r3 =>
 lett r3 fun v4 =>
 ald (gI M1 0 19) 6 (lett (gI M1 10 (ix (gI M1 0 19))) fun v5 =>
 lett (fun (M_5 : Mm) =>
 bnd (R_goes M_5) fun r7 =>
 if r7 = 0 then
 (some M_5)
 else
 (lett (fun (w_7 : Int32) (M_8 : Mm) =>
 lett w_7 fun v10 =>
 lett (fun (w_10 : Int32) =>
 bnd (R_told (17 : Int32) (1 : Int32) w_10 M_8) fun r12 =>
 lett r12.1 fun v13 =>
 bnd (R_told (18 : Int32) (0 : Int32) (200 : Int32) r12.2) fun r14 =>
 lett r14.1 fun v15 =>
 bnd (R_goes r14.2) fun r16 =>
 if r16 = 0 then
 (some r14.2)
 else
 (lett ((3 : Int32) * (((6 : Int32) * (gI r14.2 0 19)) + v5)) fun v17 =>
 ald v17 108 (lett (sI r14.2 11 (ix v17) v10) fun M18 =>
 ald (v17 + (1 : Int32)) 108 (lett (sI M18 11 (ix (v17 + (1 : Int32))) v13) fun M19 =>
 ald (v17 + (2 : Int32)) 108 (lett (sI M19 11 (ix (v17 + (2 : Int32))) v15) fun M20 =>
 ald (gI M20 0 19) 6 (ald (gI M20 0 19) 6 (lett (sI M20 10 (ix (gI M20 0 19)) ((gI M20 10 (ix (gI M20 0 19))) + (1 : Int32))) fun M21 =>
 some M21))))))) fun j153 =>
 if v10 = (-1 : Int32) then
 (j153 (64 : Int32))
 else
 (bnd (R_lesser (64 : Int32) ((gI M_8 0 20) - v10) M_8) fun r22 =>
 j153 r22)) fun j127 =>
 if v4 = (15 : Int32) then
 (bnd (R_number (0 : Int32) ((gI M_5 0 20) - (1 : Int32)) M_5) fun r23 =>
 j127 r23.1 r23.2)
 else
 (j127 (-1 : Int32) M_5))) fun j98 =>
 lett (fun (_ : Unit) =>
 if v5 = (6 : Int32) then
 (bnd (R_fails (5 : Int32) (gI M1 0 45) M1) fun M25 =>
 j98 M25)
 else
 (if v4 = (15 : Int32) then
 (ald (gI M1 0 19) 6 (if (gI M1 9 (ix (gI M1 0 19))) = (1 : Int32) then
 (bnd (R_fails (6 : Int32) (gI M1 0 45) M1) fun M24 =>
 j98 M24)
 else
 (j98 M1)))
 else
 (j98 M1))) fun j51 =>
 if v4 = (15 : Int32) then
 (j51 ())
 else
 (if v4 = (16 : Int32) then
 (j51 ())
 else
 (bnd (R_fails (1 : Int32) (gI M1 0 45) M1) fun M26 =>
 j98 M26))))
abbrev rmR_readsStep : Room := { frames := 5, cells := 0, slots := 0, locals := 106 }
set_option maxHeartbeats 4000000 in
set_option maxRecDepth 100000 in
theorem tR_readsStep (E : Cx) (hE : CxOk E cX12_readsStep RX12 shR none rmR_readsStep 7)   (M : Mm) : Ok E 0 [(0, .ref (E.Y.ad 0))] [] M (R_readsStep  M) (KV E) := by
  unfold R_readsStep
  refine ok_aload_n hE 0 rfl dX12_readsStep_0 ?_
  refine ok_cvV hE rmR_word [] [] rfl ca_X12_253 shR_0 rfl (fun _ hx => mR_word hE.sys  _ _ hx) ⟨rfl, rfl, rfl, rfl⟩ rfl rfl dX12_readsStep_1 (fun M1 => ?_)
  refine ok_aload_n hE 0 rfl dX12_readsStep_4 ?_
  refine ok_cvIp hE rmR_goes [] [] rfl ca_X12_235 shR_0 rfl (fun _ hx => mR_goes hE.sys  _ _ hx) ⟨rfl, rfl, rfl, rfl⟩ rfl rfl dX12_readsStep_5 (fun r2 => ?_)
  refine ok_if_ne hE 12 rfl dX12_readsStep_8 ?_ ?_
  · refine ok_aload_n hE 0 rfl dX12_readsStep_12 ?_
    refine ok_cvIp hE rmR_own [] [] rfl ca_X12_256 shR_0 rfl (fun _ hx => mR_own hE.sys  _ _ hx) ⟨rfl, rfl, rfl, rfl⟩ rfl rfl dX12_readsStep_13 (fun r3 => ?_)
    refine ok_istore_n hE (fun v4 => [(1, .int v4), (0, .ref (E.Y.ad 0))]) (fun _ => rfl) rfl dX12_readsStep_16 (fun v4 => ?_)
    refine ok_aload_n hE 1 rfl dX12_readsStep_17 ?_
    refine ok_getA hE fl_X12_117 shR_0 rfl dX12_readsStep_18 ?_
    refine ok_aload_n hE 1 rfl dX12_readsStep_21 ?_
    refine ok_getI hE fl_X12_69 shR_0 rfl dX12_readsStep_22 ?_
    refine ok_iaload hE shR_10 dX12_readsStep_25 ?_
    refine ok_istore_n hE (fun v5 => [(2, .int v5), (1, .int v4), (0, .ref (E.Y.ad 0))]) (fun _ => rfl) rfl dX12_readsStep_26 (fun v5 => ?_)
    refine ok_iload_n hE 1 rfl dX12_readsStep_27 ?_
    refine ok_bipush hE (15 : Int32) kb_15 dX12_readsStep_28 ?_
    refine ok_fun (fun j => ∀ (M_5 : Mm), Ok E 98 [(0, .ref (E.Y.ad 0)), (1, .int v4), (2, .int v5)] [] M_5 (j M_5) (KV E)) (fun M_5 => ?_) (fun j98 hj98 => ?_)
    · refine ok_aload_n hE 0 rfl dX12_readsStep_98 ?_
      refine ok_cvIp hE rmR_goes [] [] rfl ca_X12_235 shR_0 rfl (fun _ hx => mR_goes hE.sys  _ _ hx) ⟨rfl, rfl, rfl, rfl⟩ rfl rfl dX12_readsStep_99 (fun r7 => ?_)
      refine ok_if_ne hE 106 rfl dX12_readsStep_102 ?_ ?_
      · refine ok_iload_n hE 1 rfl dX12_readsStep_106 ?_
        refine ok_bipush hE (15 : Int32) kb_15 dX12_readsStep_107 ?_
        refine ok_fun (fun j => ∀ (w_7 : Int32) (M_8 : Mm), Ok E 127 [(0, .ref (E.Y.ad 0)), (2, .int v5)] [.int w_7] M_8 (j w_7 M_8) (KV E)) (fun w_7 M_8 => ?_) (fun j127 hj127 => ?_)
        · refine ok_istore_n hE (fun v10 => [(3, .int v10), (0, .ref (E.Y.ad 0)), (2, .int v5)]) (fun _ => rfl) rfl dX12_readsStep_127 (fun v10 => ?_)
          refine ok_aload_n hE 1 rfl dX12_readsStep_128 ?_
          refine ok_bipush hE (17 : Int32) kb_17 dX12_readsStep_129 ?_
          refine ok_iconst hE (1 : Int32) ki_1 dX12_readsStep_131 ?_
          refine ok_iload_n hE 0 rfl dX12_readsStep_132 ?_
          refine ok_iconst hE (-1 : Int32) ki_m1 dX12_readsStep_133 ?_
          refine ok_fun (fun j => ∀ (w_10 : Int32), Ok E 153 [(0, .ref (E.Y.ad 0)), (2, .int v5), (3, .int v10)] [.int w_10, .int (1 : Int32), .int (17 : Int32), .ref (E.Y.ad 0)] M_8 (j w_10) (KV E)) (fun w_10 => ?_) (fun j153 hj153 => ?_)
          · refine ok_cvI hE rmR_told [.int (17 : Int32), .int (1 : Int32), .int w_10] [] rfl ca_X12_279 shR_0 rfl (fun _ hx => mR_told hE.sys _ _ _ _ _ hx) ⟨rfl, rfl, rfl, rfl⟩ rfl rfl dX12_readsStep_153 (fun r12 => ?_)
            refine ok_istore hE (fun v13 => [(4, .int v13), (0, .ref (E.Y.ad 0)), (2, .int v5), (3, .int v10)]) (fun _ => rfl) rfl dX12_readsStep_156 (fun v13 => ?_)
            refine ok_aload_n hE 1 rfl dX12_readsStep_158 ?_
            refine ok_bipush hE (18 : Int32) kb_18 dX12_readsStep_159 ?_
            refine ok_iconst hE (0 : Int32) ki_0 dX12_readsStep_161 ?_
            refine ok_sipush hE (200 : Int32) ks_200 dX12_readsStep_162 ?_
            refine ok_cvI hE rmR_told [.int (18 : Int32), .int (0 : Int32), .int (200 : Int32)] [] rfl ca_X12_279 shR_0 rfl (fun _ hx => mR_told hE.sys _ _ _ _ _ hx) ⟨rfl, rfl, rfl, rfl⟩ rfl rfl dX12_readsStep_165 (fun r14 => ?_)
            refine ok_istore hE (fun v15 => [(5, .int v15), (4, .int v13), (0, .ref (E.Y.ad 0)), (2, .int v5), (3, .int v10)]) (fun _ => rfl) rfl dX12_readsStep_168 (fun v15 => ?_)
            refine ok_aload_n hE 2 rfl dX12_readsStep_170 ?_
            refine ok_cvIp hE rmR_goes [] [] rfl ca_X12_235 shR_0 rfl (fun _ hx => mR_goes hE.sys  _ _ hx) ⟨rfl, rfl, rfl, rfl⟩ rfl rfl dX12_readsStep_171 (fun r16 => ?_)
            refine ok_if_ne hE 178 rfl dX12_readsStep_174 ?_ ?_
            · refine ok_iconst hE (3 : Int32) ki_3 dX12_readsStep_178 ?_
              refine ok_bipush hE (6 : Int32) kb_6 dX12_readsStep_179 ?_
              refine ok_aload_n hE 2 rfl dX12_readsStep_181 ?_
              refine ok_getI hE fl_X12_69 shR_0 rfl dX12_readsStep_182 ?_
              refine ok_imul hE dX12_readsStep_185 ?_
              refine ok_iload_n hE 3 rfl dX12_readsStep_186 ?_
              refine ok_iadd hE dX12_readsStep_187 ?_
              refine ok_imul hE dX12_readsStep_188 ?_
              refine ok_istore hE (fun v17 => [(6, .int v17), (5, .int v15), (4, .int v13), (0, .ref (E.Y.ad 0)), (2, .int v5), (3, .int v10)]) (fun _ => rfl) rfl dX12_readsStep_189 (fun v17 => ?_)
              refine ok_aload_n hE 3 rfl dX12_readsStep_191 ?_
              refine ok_getA hE fl_X12_120 shR_0 rfl dX12_readsStep_192 ?_
              refine ok_iload hE 0 rfl dX12_readsStep_195 ?_
              refine ok_iload_n hE 5 rfl dX12_readsStep_197 ?_
              refine ok_iastore hE shR_11 dX12_readsStep_198 (fun M18 => ?_)
              refine ok_aload_n hE 3 rfl dX12_readsStep_199 ?_
              refine ok_getA hE fl_X12_120 shR_0 rfl dX12_readsStep_200 ?_
              refine ok_iload hE 0 rfl dX12_readsStep_203 ?_
              refine ok_iconst hE (1 : Int32) ki_1 dX12_readsStep_205 ?_
              refine ok_iadd hE dX12_readsStep_206 ?_
              refine ok_iload hE 2 rfl dX12_readsStep_207 ?_
              refine ok_iastore hE shR_11 dX12_readsStep_209 (fun M19 => ?_)
              refine ok_aload_n hE 3 rfl dX12_readsStep_210 ?_
              refine ok_getA hE fl_X12_120 shR_0 rfl dX12_readsStep_211 ?_
              refine ok_iload hE 0 rfl dX12_readsStep_214 ?_
              refine ok_iconst hE (2 : Int32) ki_2 dX12_readsStep_216 ?_
              refine ok_iadd hE dX12_readsStep_217 ?_
              refine ok_iload hE 1 rfl dX12_readsStep_218 ?_
              refine ok_iastore hE shR_11 dX12_readsStep_220 (fun M20 => ?_)
              refine ok_aload_n hE 3 rfl dX12_readsStep_221 ?_
              refine ok_getA hE fl_X12_117 shR_0 rfl dX12_readsStep_222 ?_
              refine ok_aload_n hE 3 rfl dX12_readsStep_225 ?_
              refine ok_getI hE fl_X12_69 shR_0 rfl dX12_readsStep_226 ?_
              refine ok_dup2 hE rfl rfl dX12_readsStep_229 ?_
              refine ok_iaload hE shR_10 dX12_readsStep_230 ?_
              refine ok_iconst hE (1 : Int32) ki_1 dX12_readsStep_231 ?_
              refine ok_iadd hE dX12_readsStep_232 ?_
              refine ok_iastore hE shR_10 dX12_readsStep_233 (fun M21 => ?_)
              exact ok_return hE dX12_readsStep_234
            · exact ok_return hE dX12_readsStep_177
          refine ok_icmp_ne hE 142 rfl dX12_readsStep_134 ?_ ?_
          · refine ok_bipush hE (64 : Int32) kb_64 dX12_readsStep_142 ?_
            refine ok_aload_n hE 1 rfl dX12_readsStep_144 ?_
            refine ok_getI hE fl_X12_72 shR_0 rfl dX12_readsStep_145 ?_
            refine ok_iload_n hE 0 rfl dX12_readsStep_148 ?_
            refine ok_isub hE dX12_readsStep_149 ?_
            refine ok_csIp hE rmR_lesser [.int (64 : Int32), .int ((gI M_8 0 20) - v10)] [.int (1 : Int32), .int (17 : Int32), .ref (E.Y.ad 0)] rfl ca_X12_276 (fun _ hx => mR_lesser hE.sys _ _ _ _ hx) ⟨rfl, rfl, rfl, rfl⟩ rfl rfl dX12_readsStep_150 (fun r22 => ?_)
            exact ok_sub [1, 2, 0] rfl (hj153 r22)
          · refine ok_bipush hE (64 : Int32) kb_64 dX12_readsStep_137 ?_
            refine ok_goto hE 153 rfl dX12_readsStep_139 ?_
            exact ok_sub [1, 2, 0] rfl (hj153 (64 : Int32))
        refine ok_icmp_ne hE 126 rfl dX12_readsStep_109 ?_ ?_
        · refine ok_iconst hE (-1 : Int32) ki_m1 dX12_readsStep_126 ?_
          exact ok_sub [0, 2] rfl (hj127 (-1 : Int32) M_5)
        · refine ok_aload_n hE 0 rfl dX12_readsStep_112 ?_
          refine ok_iconst hE (0 : Int32) ki_0 dX12_readsStep_113 ?_
          refine ok_aload_n hE 0 rfl dX12_readsStep_114 ?_
          refine ok_getI hE fl_X12_72 shR_0 rfl dX12_readsStep_115 ?_
          refine ok_iconst hE (1 : Int32) ki_1 dX12_readsStep_118 ?_
          refine ok_isub hE dX12_readsStep_119 ?_
          refine ok_cvI hE rmR_number [.int (0 : Int32), .int ((gI M_5 0 20) - (1 : Int32))] [] rfl ca_X12_269 shR_0 rfl (fun _ hx => mR_number hE.sys _ _ _ _ hx) ⟨rfl, rfl, rfl, rfl⟩ rfl rfl dX12_readsStep_120 (fun r23 => ?_)
          refine ok_goto hE 127 rfl dX12_readsStep_123 ?_
          exact ok_sub [0, 2] rfl (hj127 r23.1 r23.2)
      · exact ok_return hE dX12_readsStep_105
    refine ok_fun (fun j => ∀ (_ : Unit), Ok E 51 [(0, .ref (E.Y.ad 0)), (1, .int v4), (2, .int v5)] [] M1 (j ()) (KV E)) (fun _ => ?_) (fun j51 hj51 => ?_)
    · refine ok_iload_n hE 2 rfl dX12_readsStep_51 ?_
      refine ok_bipush hE (6 : Int32) kb_6 dX12_readsStep_52 ?_
      refine ok_icmp_ne hE 69 rfl dX12_readsStep_54 ?_ ?_
      · refine ok_iload_n hE 1 rfl dX12_readsStep_69 ?_
        refine ok_bipush hE (15 : Int32) kb_15 dX12_readsStep_70 ?_
        refine ok_icmp_ne hE 98 rfl dX12_readsStep_72 ?_ ?_
        · exact ok_sub [0, 1, 2] rfl (hj98 M1)
        · refine ok_aload_n hE 0 rfl dX12_readsStep_75 ?_
          refine ok_getA hE fl_X12_114 shR_0 rfl dX12_readsStep_76 ?_
          refine ok_aload_n hE 0 rfl dX12_readsStep_79 ?_
          refine ok_getI hE fl_X12_69 shR_0 rfl dX12_readsStep_80 ?_
          refine ok_iaload hE shR_9 dX12_readsStep_83 ?_
          refine ok_iconst hE (1 : Int32) ki_1 dX12_readsStep_84 ?_
          refine ok_icmp_ne hE 98 rfl dX12_readsStep_85 ?_ ?_
          · exact ok_sub [0, 1, 2] rfl (hj98 M1)
          · refine ok_aload_n hE 0 rfl dX12_readsStep_88 ?_
            refine ok_bipush hE (6 : Int32) kb_6 dX12_readsStep_89 ?_
            refine ok_aload_n hE 0 rfl dX12_readsStep_91 ?_
            refine ok_getI hE fl_X12_147 shR_0 rfl dX12_readsStep_92 ?_
            refine ok_cvV hE rmR_fails [.int (6 : Int32), .int (gI M1 0 45)] [] rfl ca_X12_249 shR_0 rfl (fun _ hx => mR_fails hE.sys _ _ _ _ hx) ⟨rfl, rfl, rfl, rfl⟩ rfl rfl dX12_readsStep_95 (fun M24 => ?_)
            exact ok_sub [0, 1, 2] rfl (hj98 M24)
      · refine ok_aload_n hE 0 rfl dX12_readsStep_57 ?_
        refine ok_iconst hE (5 : Int32) ki_5 dX12_readsStep_58 ?_
        refine ok_aload_n hE 0 rfl dX12_readsStep_59 ?_
        refine ok_getI hE fl_X12_147 shR_0 rfl dX12_readsStep_60 ?_
        refine ok_cvV hE rmR_fails [.int (5 : Int32), .int (gI M1 0 45)] [] rfl ca_X12_249 shR_0 rfl (fun _ hx => mR_fails hE.sys _ _ _ _ hx) ⟨rfl, rfl, rfl, rfl⟩ rfl rfl dX12_readsStep_63 (fun M25 => ?_)
        refine ok_goto hE 98 rfl dX12_readsStep_66 ?_
        exact ok_sub [0, 1, 2] rfl (hj98 M25)
    refine ok_icmp_eq hE 51 rfl dX12_readsStep_30 ?_ ?_
    · exact ok_sub [2, 1, 0] rfl (hj51 ())
    · refine ok_iload_n hE 1 rfl dX12_readsStep_33 ?_
      refine ok_bipush hE (16 : Int32) kb_16 dX12_readsStep_34 ?_
      refine ok_icmp_eq hE 51 rfl dX12_readsStep_36 ?_ ?_
      · exact ok_sub [2, 1, 0] rfl (hj51 ())
      · refine ok_aload_n hE 2 rfl dX12_readsStep_39 ?_
        refine ok_iconst hE (1 : Int32) ki_1 dX12_readsStep_40 ?_
        refine ok_aload_n hE 2 rfl dX12_readsStep_41 ?_
        refine ok_getI hE fl_X12_147 shR_0 rfl dX12_readsStep_42 ?_
        refine ok_cvV hE rmR_fails [.int (1 : Int32), .int (gI M1 0 45)] [] rfl ca_X12_249 shR_0 rfl (fun _ hx => mR_fails hE.sys _ _ _ _ hx) ⟨rfl, rfl, rfl, rfl⟩ rfl rfl dX12_readsStep_45 (fun M26 => ?_)
        refine ok_goto hE 98 rfl dX12_readsStep_48 ?_
        exact ok_sub [2, 1, 0] rfl (hj98 M26)
  · exact ok_return hE dX12_readsStep_11
theorem mR_readsStep {l : Launch} {Y : Sys} {t : Nat} (hY : SysOk Y t shR)   (M : Mm) (r : Mm) (h : R_readsStep  M = some r) : Cm l Y t yX12_readsStep (WS yX12_readsStep cX12_readsStep 7 none) rmR_readsStep [.ref (Y.ad 0)] M (enV r) := by
  refine cm_of (own := RX12) hY rfl rfl (Nat.le_of_ble_eq_true rfl) (fun E hE e1 e2 e3 e4 => ?_)
  subst e1
  exact tR_readsStep E hE   M r h e4.symm
def R_readsProcess (p1 : Int32) (M : Mm) : Option Mm :=
 lett (fun (M_0 : Mm) =>
 bnd (R_goes M_0) fun r2 =>
 if r2 = 0 then
 (some M_0)
 else
 (bnd (R_freshName M_0) fun M3 =>
 lett (fun (w_3 : Int32) =>
 ald (gI M3 0 19) 6 (lett (sI M3 9 (ix (gI M3 0 19)) w_3) fun M5 =>
 ald (gI M5 0 19) 6 (lett (sI M5 10 (ix (gI M5 0 19)) (0 : Int32)) fun M6 =>
 bnd (R_told (11 : Int32) (1 : Int32) (100 : Int32) M6) fun r7 =>
 ald (gI M6 0 19) 6 (lett (sI r7.2 7 (ix (gI M6 0 19)) r7.1) fun M8 =>
 bnd (R_told (12 : Int32) (0 : Int32) (999 : Int32) M8) fun r9 =>
 ald (gI M8 0 19) 6 (lett (sI r9.2 8 (ix (gI M8 0 19)) r9.1) fun M10 =>
 bnd (R_must (13 : Int32) M10) fun M11 =>
 bnd (R_readsStep M11) fun M12 =>
 lett (fun (M_12 : Mm) =>
 lett (sI M_12 0 19 ((gI M_12 0 19) + (1 : Int32))) fun M14 =>
 some M14) fun j121 =>
 loopR (fun (rec105 : Mm → Option Mm) (x15 : Mm) =>
 bnd (R_passes (44 : Int32) x15) fun r16 =>
 if r16.1 = 0 then
 (j121 r16.2)
 else
 (bnd (R_readsStep r16.2) fun M17 =>
 rec105 M17)) 1000000 M12))))) fun j47 =>
 if p1 = 0 then
 (j47 (0 : Int32))
 else
 (j47 (1 : Int32)))) fun j18 =>
 if (gI M 0 19) = (6 : Int32) then
 (bnd (R_fails (5 : Int32) (gI M 0 45) M) fun M18 =>
 j18 M18)
 else
 (j18 M)
abbrev rmR_readsProcess : Room := { frames := 6, cells := 0, slots := 0, locals := 132 }
set_option maxHeartbeats 4000000 in
set_option maxRecDepth 100000 in
theorem tR_readsProcess (E : Cx) (hE : CxOk E cX12_readsProcess RX12 shR none rmR_readsProcess 2) (p1 : Int32)  (M : Mm) : Ok E 0 [(0, .ref (E.Y.ad 0)), (1, .int p1)] [] M (R_readsProcess p1 M) (KV E) := by
  unfold R_readsProcess
  refine ok_aload_n hE 0 rfl dX12_readsProcess_0 ?_
  refine ok_getI hE fl_X12_69 shR_0 rfl dX12_readsProcess_1 ?_
  refine ok_bipush hE (6 : Int32) kb_6 dX12_readsProcess_4 ?_
  refine ok_fun (fun j => ∀ (M_0 : Mm), Ok E 18 [(0, .ref (E.Y.ad 0)), (1, .int p1)] [] M_0 (j M_0) (KV E)) (fun M_0 => ?_) (fun j18 hj18 => ?_)
  · refine ok_aload_n hE 0 rfl dX12_readsProcess_18 ?_
    refine ok_cvIp hE rmR_goes [] [] rfl ca_X12_235 shR_0 rfl (fun _ hx => mR_goes hE.sys  _ _ hx) ⟨rfl, rfl, rfl, rfl⟩ rfl rfl dX12_readsProcess_19 (fun r2 => ?_)
    refine ok_if_ne hE 26 rfl dX12_readsProcess_22 ?_ ?_
    · refine ok_aload_n hE 0 rfl dX12_readsProcess_26 ?_
      refine ok_cvV hE rmR_freshName [] [] rfl ca_X12_283 shR_0 rfl (fun _ hx => mR_freshName hE.sys  _ _ hx) ⟨rfl, rfl, rfl, rfl⟩ rfl rfl dX12_readsProcess_27 (fun M3 => ?_)
      refine ok_aload_n hE 0 rfl dX12_readsProcess_30 ?_
      refine ok_getA hE fl_X12_114 shR_0 rfl dX12_readsProcess_31 ?_
      refine ok_aload_n hE 0 rfl dX12_readsProcess_34 ?_
      refine ok_getI hE fl_X12_69 shR_0 rfl dX12_readsProcess_35 ?_
      refine ok_iload_n hE 1 rfl dX12_readsProcess_38 ?_
      refine ok_fun (fun j => ∀ (w_3 : Int32), Ok E 47 [(0, .ref (E.Y.ad 0))] [.int w_3, .int (gI M3 0 19), .ref (E.Y.ad 9)] M3 (j w_3) (KV E)) (fun w_3 => ?_) (fun j47 hj47 => ?_)
      · refine ok_iastore hE shR_9 dX12_readsProcess_47 (fun M5 => ?_)
        refine ok_aload_n hE 0 rfl dX12_readsProcess_48 ?_
        refine ok_getA hE fl_X12_117 shR_0 rfl dX12_readsProcess_49 ?_
        refine ok_aload_n hE 0 rfl dX12_readsProcess_52 ?_
        refine ok_getI hE fl_X12_69 shR_0 rfl dX12_readsProcess_53 ?_
        refine ok_iconst hE (0 : Int32) ki_0 dX12_readsProcess_56 ?_
        refine ok_iastore hE shR_10 dX12_readsProcess_57 (fun M6 => ?_)
        refine ok_aload_n hE 0 rfl dX12_readsProcess_58 ?_
        refine ok_getA hE fl_X12_108 shR_0 rfl dX12_readsProcess_59 ?_
        refine ok_aload_n hE 0 rfl dX12_readsProcess_62 ?_
        refine ok_getI hE fl_X12_69 shR_0 rfl dX12_readsProcess_63 ?_
        refine ok_aload_n hE 0 rfl dX12_readsProcess_66 ?_
        refine ok_bipush hE (11 : Int32) kb_11 dX12_readsProcess_67 ?_
        refine ok_iconst hE (1 : Int32) ki_1 dX12_readsProcess_69 ?_
        refine ok_bipush hE (100 : Int32) kb_100 dX12_readsProcess_70 ?_
        refine ok_cvI hE rmR_told [.int (11 : Int32), .int (1 : Int32), .int (100 : Int32)] [.int (gI M6 0 19), .ref (E.Y.ad 7)] rfl ca_X12_279 shR_0 rfl (fun _ hx => mR_told hE.sys _ _ _ _ _ hx) ⟨rfl, rfl, rfl, rfl⟩ rfl rfl dX12_readsProcess_72 (fun r7 => ?_)
        refine ok_iastore hE shR_7 dX12_readsProcess_75 (fun M8 => ?_)
        refine ok_aload_n hE 0 rfl dX12_readsProcess_76 ?_
        refine ok_getA hE fl_X12_111 shR_0 rfl dX12_readsProcess_77 ?_
        refine ok_aload_n hE 0 rfl dX12_readsProcess_80 ?_
        refine ok_getI hE fl_X12_69 shR_0 rfl dX12_readsProcess_81 ?_
        refine ok_aload_n hE 0 rfl dX12_readsProcess_84 ?_
        refine ok_bipush hE (12 : Int32) kb_12 dX12_readsProcess_85 ?_
        refine ok_iconst hE (0 : Int32) ki_0 dX12_readsProcess_87 ?_
        refine ok_sipush hE (999 : Int32) ks_999 dX12_readsProcess_88 ?_
        refine ok_cvI hE rmR_told [.int (12 : Int32), .int (0 : Int32), .int (999 : Int32)] [.int (gI M8 0 19), .ref (E.Y.ad 8)] rfl ca_X12_279 shR_0 rfl (fun _ hx => mR_told hE.sys _ _ _ _ _ hx) ⟨rfl, rfl, rfl, rfl⟩ rfl rfl dX12_readsProcess_91 (fun r9 => ?_)
        refine ok_iastore hE shR_8 dX12_readsProcess_94 (fun M10 => ?_)
        refine ok_aload_n hE 0 rfl dX12_readsProcess_95 ?_
        refine ok_bipush hE (13 : Int32) kb_13 dX12_readsProcess_96 ?_
        refine ok_cvV hE rmR_must [.int (13 : Int32)] [] rfl ca_X12_266 shR_0 rfl (fun _ hx => mR_must hE.sys _ _ _ hx) ⟨rfl, rfl, rfl, rfl⟩ rfl rfl dX12_readsProcess_98 (fun M11 => ?_)
        refine ok_aload_n hE 0 rfl dX12_readsProcess_101 ?_
        refine ok_cvV hE rmR_readsStep [] [] rfl ca_X12_286 shR_0 rfl (fun _ hx => mR_readsStep hE.sys  _ _ hx) ⟨rfl, rfl, rfl, rfl⟩ rfl rfl dX12_readsProcess_102 (fun M12 => ?_)
        refine ok_fun (fun j => ∀ (M_12 : Mm), Ok E 121 [(0, .ref (E.Y.ad 0))] [] M_12 (j M_12) (KV E)) (fun M_12 => ?_) (fun j121 hj121 => ?_)
        · refine ok_aload_n hE 0 rfl dX12_readsProcess_121 ?_
          refine ok_dup hE rfl dX12_readsProcess_122 ?_
          refine ok_getI hE fl_X12_69 shR_0 rfl dX12_readsProcess_123 ?_
          refine ok_iconst hE (1 : Int32) ki_1 dX12_readsProcess_126 ?_
          refine ok_iadd hE dX12_readsProcess_127 ?_
          refine ok_putI hE fl_X12_69 shR_0 rfl dX12_readsProcess_128 (fun M14 => ?_)
          exact ok_return hE dX12_readsProcess_131
        refine ok_sub [0] rfl (ok_loop (σ := Mm) 105 (fun x15 => [(0, .ref (E.Y.ad 0))]) (fun x15 => x15) (fun rec105 hrec105 x15 => ?_) 1000000 M12)
        refine ok_aload_n hE 0 rfl dX12_readsProcess_105 ?_
        refine ok_bipush hE (44 : Int32) kb_44 dX12_readsProcess_106 ?_
        refine ok_cvI hE rmR_passes [.int (44 : Int32)] [] rfl ca_X12_259 shR_0 rfl (fun _ hx => mR_passes hE.sys _ _ _ hx) ⟨rfl, rfl, rfl, rfl⟩ rfl rfl dX12_readsProcess_108 (fun r16 => ?_)
        refine ok_if_eq hE 121 rfl dX12_readsProcess_111 ?_ ?_
        · exact ok_sub [0] rfl (hj121 r16.2)
        · refine ok_aload_n hE 0 rfl dX12_readsProcess_114 ?_
          refine ok_cvV hE rmR_readsStep [] [] rfl ca_X12_286 shR_0 rfl (fun _ hx => mR_readsStep hE.sys  _ _ hx) ⟨rfl, rfl, rfl, rfl⟩ rfl rfl dX12_readsProcess_115 (fun M17 => ?_)
          refine ok_goto hE 105 rfl dX12_readsProcess_118 ?_
          exact ok_sub [0] rfl (hrec105 M17)
      refine ok_if_eq hE 46 rfl dX12_readsProcess_39 ?_ ?_
      · refine ok_iconst hE (0 : Int32) ki_0 dX12_readsProcess_46 ?_
        exact ok_sub [0] rfl (hj47 (0 : Int32))
      · refine ok_iconst hE (1 : Int32) ki_1 dX12_readsProcess_42 ?_
        refine ok_goto hE 47 rfl dX12_readsProcess_43 ?_
        exact ok_sub [0] rfl (hj47 (1 : Int32))
    · exact ok_return hE dX12_readsProcess_25
  refine ok_icmp_ne hE 18 rfl dX12_readsProcess_6 ?_ ?_
  · exact ok_sub [0, 1] rfl (hj18 M)
  · refine ok_aload_n hE 0 rfl dX12_readsProcess_9 ?_
    refine ok_iconst hE (5 : Int32) ki_5 dX12_readsProcess_10 ?_
    refine ok_aload_n hE 0 rfl dX12_readsProcess_11 ?_
    refine ok_getI hE fl_X12_147 shR_0 rfl dX12_readsProcess_12 ?_
    refine ok_cvV hE rmR_fails [.int (5 : Int32), .int (gI M 0 45)] [] rfl ca_X12_249 shR_0 rfl (fun _ hx => mR_fails hE.sys _ _ _ _ hx) ⟨rfl, rfl, rfl, rfl⟩ rfl rfl dX12_readsProcess_15 (fun M18 => ?_)
    exact ok_sub [0, 1] rfl (hj18 M18)
theorem mR_readsProcess {l : Launch} {Y : Sys} {t : Nat} (hY : SysOk Y t shR) (p1 : Int32)  (M : Mm) (r : Mm) (h : R_readsProcess p1 M = some r) : Cm l Y t yX12_readsProcess (WS yX12_readsProcess cX12_readsProcess 2 none) rmR_readsProcess [.ref (Y.ad 0), .int p1] M (enV r) := by
  refine cm_of (own := RX12) hY rfl rfl (Nat.le_of_ble_eq_true rfl) (fun E hE e1 e2 e3 e4 => ?_)
  subst e1
  exact tR_readsProcess E hE p1  M r h e4.symm
def R_once (p1 : Int32) (M : Mm) : Option (Int32 × Mm) :=
 bnd (R_goes M) fun r1 =>
 if r1 = 0 then
 (some ((0 : Int32), M))
 else
 (lett ((1 : Int32) <<< (p1 &&& 31)) fun v2 =>
 lett (fun (M_2 : Mm) =>
 lett (sI M_2 0 31 ((gI M_2 0 31) ||| v2)) fun M4 =>
 bnd (R_goes M4) fun r5 =>
 grd (r5 = 0 ∨ r5 = 1) (some (r5, M4))) fun j31 =>
 if ((gI M 0 31) &&& v2) = 0 then
 (j31 M)
 else
 (bnd (R_fails (5 : Int32) (gI M 0 45) M) fun M6 =>
 j31 M6))
abbrev rmR_once : Room := { frames := 1, cells := 0, slots := 0, locals := 22 }
set_option maxHeartbeats 4000000 in
set_option maxRecDepth 100000 in
theorem tR_once (E : Cx) (hE : CxOk E cX12_once RX12 shR (some .boolean) rmR_once 3) (p1 : Int32)  (M : Mm) : Ok E 0 [(0, .ref (E.Y.ad 0)), (1, .int p1)] [] M (R_once p1 M) (KI E) := by
  unfold R_once
  refine ok_aload_n hE 0 rfl dX12_once_0 ?_
  refine ok_cvIp hE rmR_goes [] [] rfl ca_X12_235 shR_0 rfl (fun _ hx => mR_goes hE.sys  _ _ hx) ⟨rfl, rfl, rfl, rfl⟩ rfl rfl dX12_once_1 (fun r1 => ?_)
  refine ok_if_ne hE 9 rfl dX12_once_4 ?_ ?_
  · refine ok_iconst hE (1 : Int32) ki_1 dX12_once_9 ?_
    refine ok_iload_n hE 1 rfl dX12_once_10 ?_
    refine ok_ishl hE dX12_once_11 ?_
    refine ok_istore_n hE (fun v2 => [(2, .int v2), (0, .ref (E.Y.ad 0)), (1, .int p1)]) (fun _ => rfl) rfl dX12_once_12 (fun v2 => ?_)
    refine ok_aload_n hE 1 rfl dX12_once_13 ?_
    refine ok_getI hE fl_X12_105 shR_0 rfl dX12_once_14 ?_
    refine ok_iload_n hE 0 rfl dX12_once_17 ?_
    refine ok_iand hE dX12_once_18 ?_
    refine ok_fun (fun j => ∀ (M_2 : Mm), Ok E 31 [(0, .ref (E.Y.ad 0)), (2, .int v2)] [] M_2 (j M_2) (KI E)) (fun M_2 => ?_) (fun j31 hj31 => ?_)
    · refine ok_aload_n hE 0 rfl dX12_once_31 ?_
      refine ok_dup hE rfl dX12_once_32 ?_
      refine ok_getI hE fl_X12_105 shR_0 rfl dX12_once_33 ?_
      refine ok_iload_n hE 1 rfl dX12_once_36 ?_
      refine ok_ior hE dX12_once_37 ?_
      refine ok_putI hE fl_X12_105 shR_0 rfl dX12_once_38 (fun M4 => ?_)
      refine ok_aload_n hE 0 rfl dX12_once_41 ?_
      refine ok_cvIp hE rmR_goes [] [] rfl ca_X12_235 shR_0 rfl (fun _ hx => mR_goes hE.sys  _ _ hx) ⟨rfl, rfl, rfl, rfl⟩ rfl rfl dX12_once_42 (fun r5 => ?_)
      exact ok_zreturnG hE dX12_once_45
    refine ok_if_eq hE 31 rfl dX12_once_19 ?_ ?_
    · exact ok_sub [1, 0] rfl (hj31 M)
    · refine ok_aload_n hE 1 rfl dX12_once_22 ?_
      refine ok_iconst hE (5 : Int32) ki_5 dX12_once_23 ?_
      refine ok_aload_n hE 1 rfl dX12_once_24 ?_
      refine ok_getI hE fl_X12_147 shR_0 rfl dX12_once_25 ?_
      refine ok_cvV hE rmR_fails [.int (5 : Int32), .int (gI M 0 45)] [] rfl ca_X12_249 shR_0 rfl (fun _ hx => mR_fails hE.sys _ _ _ _ hx) ⟨rfl, rfl, rfl, rfl⟩ rfl rfl dX12_once_28 (fun M6 => ?_)
      exact ok_sub [1, 0] rfl (hj31 M6)
  · refine ok_iconst hE (0 : Int32) ki_0 dX12_once_7 ?_
    exact ok_zreturn hE (Or.inl rfl) dX12_once_8
theorem mR_once {l : Launch} {Y : Sys} {t : Nat} (hY : SysOk Y t shR) (p1 : Int32)  (M : Mm) (r : (Int32 × Mm)) (h : R_once p1 M = some r) : Cm l Y t yX12_once (WS yX12_once cX12_once 3 (some .boolean)) rmR_once [.ref (Y.ad 0), .int p1] M (enI r) := by
  refine cm_of (own := RX12) hY rfl rfl (Nat.le_of_ble_eq_true rfl) (fun E hE e1 e2 e3 e4 => ?_)
  subst e1
  exact tR_once E hE p1  M r h e4.symm
def R_readsOne (p1 : Int32) (M : Mm) : Option Mm :=
 lett (fun (_ : Unit) =>
 lett (fun (w_0 : Int32) =>
 bnd (R_readsProcess w_0 M) fun M2 =>
 some M2) fun j24 =>
 if p1 = (14 : Int32) then
 (j24 (1 : Int32))
 else
 (j24 (0 : Int32))) fun j12 =>
 if p1 = (19 : Int32) then
 (j12 ())
 else
 (if p1 = (14 : Int32) then
 (j12 ())
 else
 (lett (fun (_ : Unit) =>
 bnd (R_once p1 M) fun r3 =>
 if r3.1 = 0 then
 (some r3.2)
 else
 (if p1 = (3 : Int32) then
 (bnd (R_number (1 : Int32) (999 : Int32) r3.2) fun r16 =>
 lett (sI r16.2 0 23 r16.1) fun M17 =>
 bnd (R_told (4 : Int32) (gI M17 0 23) (999 : Int32) M17) fun r18 =>
 lett (sI r18.2 0 24 r18.1) fun M19 =>
 some M19)
 else
 (if p1 = (5 : Int32) then
 (bnd (R_number (0 : Int32) (20 : Int32) r3.2) fun r14 =>
 lett (sI r14.2 0 25 r14.1) fun M15 =>
 some M15)
 else
 (if p1 = (6 : Int32) then
 (bnd (R_number (1 : Int32) (200 : Int32) r3.2) fun r12 =>
 lett (sI r12.2 0 26 r12.1) fun M13 =>
 some M13)
 else
 (if p1 = (7 : Int32) then
 (bnd (R_number (0 : Int32) (999 : Int32) r3.2) fun r10 =>
 lett (sI r10.2 0 27 r10.1) fun M11 =>
 some M11)
 else
 (bnd (R_number (1 : Int32) (20 : Int32) r3.2) fun r4 =>
 lett (sI r4.2 0 28 r4.1) fun M5 =>
 bnd (R_told (9 : Int32) (0 : Int32) (500 : Int32) M5) fun r6 =>
 lett (sI r6.2 0 29 r6.1) fun M7 =>
 bnd (R_told (10 : Int32) (1 : Int32) (999 : Int32) M7) fun r8 =>
 lett (sI r8.2 0 30 r8.1) fun M9 =>
 some M9)))))) fun j66 =>
 if p1 = (3 : Int32) then
 (j66 ())
 else
 (if p1 = (5 : Int32) then
 (j66 ())
 else
 (if p1 = (6 : Int32) then
 (j66 ())
 else
 (if p1 = (7 : Int32) then
 (j66 ())
 else
 (if p1 = (8 : Int32) then
 (j66 ())
 else
 (bnd (R_fails (1 : Int32) (gI M 0 45) M) fun M20 =>
 some M20)))))))
abbrev rmR_readsOne : Room := { frames := 7, cells := 0, slots := 0, locals := 153 }
set_option maxHeartbeats 4000000 in
set_option maxRecDepth 100000 in
theorem tR_readsOne (E : Cx) (hE : CxOk E cX12_readsOne RX12 shR none rmR_readsOne 2) (p1 : Int32)  (M : Mm) : Ok E 0 [(0, .ref (E.Y.ad 0)), (1, .int p1)] [] M (R_readsOne p1 M) (KV E) := by
  unfold R_readsOne
  refine ok_iload_n hE 1 rfl dX12_readsOne_0 ?_
  refine ok_bipush hE (19 : Int32) kb_19 dX12_readsOne_1 ?_
  refine ok_fun (fun j => ∀ (_ : Unit), Ok E 12 [(0, .ref (E.Y.ad 0)), (1, .int p1)] [] M (j ()) (KV E)) (fun _ => ?_) (fun j12 hj12 => ?_)
  · refine ok_aload_n hE 0 rfl dX12_readsOne_12 ?_
    refine ok_iload_n hE 1 rfl dX12_readsOne_13 ?_
    refine ok_bipush hE (14 : Int32) kb_14 dX12_readsOne_14 ?_
    refine ok_fun (fun j => ∀ (w_0 : Int32), Ok E 24 [] [.int w_0, .ref (E.Y.ad 0)] M (j w_0) (KV E)) (fun w_0 => ?_) (fun j24 hj24 => ?_)
    · refine ok_cvV hE rmR_readsProcess [.int w_0] [] rfl ca_X12_289 shR_0 rfl (fun _ hx => mR_readsProcess hE.sys _ _ _ hx) ⟨rfl, rfl, rfl, rfl⟩ rfl rfl dX12_readsOne_24 (fun M2 => ?_)
      exact ok_return hE dX12_readsOne_27
    refine ok_icmp_ne hE 23 rfl dX12_readsOne_16 ?_ ?_
    · refine ok_iconst hE (0 : Int32) ki_0 dX12_readsOne_23 ?_
      exact ok_sub [] rfl (hj24 (0 : Int32))
    · refine ok_iconst hE (1 : Int32) ki_1 dX12_readsOne_19 ?_
      refine ok_goto hE 24 rfl dX12_readsOne_20 ?_
      exact ok_sub [] rfl (hj24 (1 : Int32))
  refine ok_icmp_eq hE 12 rfl dX12_readsOne_3 ?_ ?_
  · exact ok_sub [0, 1] rfl (hj12 ())
  · refine ok_iload_n hE 1 rfl dX12_readsOne_6 ?_
    refine ok_bipush hE (14 : Int32) kb_14 dX12_readsOne_7 ?_
    refine ok_icmp_ne hE 28 rfl dX12_readsOne_9 ?_ ?_
    · refine ok_iload_n hE 1 rfl dX12_readsOne_28 ?_
      refine ok_iconst hE (3 : Int32) ki_3 dX12_readsOne_29 ?_
      refine ok_fun (fun j => ∀ (_ : Unit), Ok E 66 [(0, .ref (E.Y.ad 0)), (1, .int p1)] [] M (j ()) (KV E)) (fun _ => ?_) (fun j66 hj66 => ?_)
      · refine ok_aload_n hE 0 rfl dX12_readsOne_66 ?_
        refine ok_iload_n hE 1 rfl dX12_readsOne_67 ?_
        refine ok_cvI hE rmR_once [.int p1] [] rfl ca_X12_293 shR_0 rfl (fun _ hx => mR_once hE.sys _ _ _ hx) ⟨rfl, rfl, rfl, rfl⟩ rfl rfl dX12_readsOne_68 (fun r3 => ?_)
        refine ok_if_ne hE 75 rfl dX12_readsOne_71 ?_ ?_
        · refine ok_iload_n hE 1 rfl dX12_readsOne_75 ?_
          refine ok_iconst hE (3 : Int32) ki_3 dX12_readsOne_76 ?_
          refine ok_icmp_ne hE 111 rfl dX12_readsOne_77 ?_ ?_
          · refine ok_iload_n hE 1 rfl dX12_readsOne_111 ?_
            refine ok_iconst hE (5 : Int32) ki_5 dX12_readsOne_112 ?_
            refine ok_icmp_ne hE 130 rfl dX12_readsOne_113 ?_ ?_
            · refine ok_iload_n hE 1 rfl dX12_readsOne_130 ?_
              refine ok_bipush hE (6 : Int32) kb_6 dX12_readsOne_131 ?_
              refine ok_icmp_ne hE 151 rfl dX12_readsOne_133 ?_ ?_
              · refine ok_iload_n hE 1 rfl dX12_readsOne_151 ?_
                refine ok_bipush hE (7 : Int32) kb_7 dX12_readsOne_152 ?_
                refine ok_icmp_ne hE 172 rfl dX12_readsOne_154 ?_ ?_
                · refine ok_aload_n hE 0 rfl dX12_readsOne_172 ?_
                  refine ok_aload_n hE 0 rfl dX12_readsOne_173 ?_
                  refine ok_iconst hE (1 : Int32) ki_1 dX12_readsOne_174 ?_
                  refine ok_bipush hE (20 : Int32) kb_20 dX12_readsOne_175 ?_
                  refine ok_cvI hE rmR_number [.int (1 : Int32), .int (20 : Int32)] [.ref (E.Y.ad 0)] rfl ca_X12_269 shR_0 rfl (fun _ hx => mR_number hE.sys _ _ _ _ hx) ⟨rfl, rfl, rfl, rfl⟩ rfl rfl dX12_readsOne_177 (fun r4 => ?_)
                  refine ok_putI hE fl_X12_96 shR_0 rfl dX12_readsOne_180 (fun M5 => ?_)
                  refine ok_aload_n hE 0 rfl dX12_readsOne_183 ?_
                  refine ok_aload_n hE 0 rfl dX12_readsOne_184 ?_
                  refine ok_bipush hE (9 : Int32) kb_9 dX12_readsOne_185 ?_
                  refine ok_iconst hE (0 : Int32) ki_0 dX12_readsOne_187 ?_
                  refine ok_sipush hE (500 : Int32) ks_500 dX12_readsOne_188 ?_
                  refine ok_cvI hE rmR_told [.int (9 : Int32), .int (0 : Int32), .int (500 : Int32)] [.ref (E.Y.ad 0)] rfl ca_X12_279 shR_0 rfl (fun _ hx => mR_told hE.sys _ _ _ _ _ hx) ⟨rfl, rfl, rfl, rfl⟩ rfl rfl dX12_readsOne_191 (fun r6 => ?_)
                  refine ok_putI hE fl_X12_99 shR_0 rfl dX12_readsOne_194 (fun M7 => ?_)
                  refine ok_aload_n hE 0 rfl dX12_readsOne_197 ?_
                  refine ok_aload_n hE 0 rfl dX12_readsOne_198 ?_
                  refine ok_bipush hE (10 : Int32) kb_10 dX12_readsOne_199 ?_
                  refine ok_iconst hE (1 : Int32) ki_1 dX12_readsOne_201 ?_
                  refine ok_sipush hE (999 : Int32) ks_999 dX12_readsOne_202 ?_
                  refine ok_cvI hE rmR_told [.int (10 : Int32), .int (1 : Int32), .int (999 : Int32)] [.ref (E.Y.ad 0)] rfl ca_X12_279 shR_0 rfl (fun _ hx => mR_told hE.sys _ _ _ _ _ hx) ⟨rfl, rfl, rfl, rfl⟩ rfl rfl dX12_readsOne_205 (fun r8 => ?_)
                  refine ok_putI hE fl_X12_102 shR_0 rfl dX12_readsOne_208 (fun M9 => ?_)
                  exact ok_return hE dX12_readsOne_211
                · refine ok_aload_n hE 0 rfl dX12_readsOne_157 ?_
                  refine ok_aload_n hE 0 rfl dX12_readsOne_158 ?_
                  refine ok_iconst hE (0 : Int32) ki_0 dX12_readsOne_159 ?_
                  refine ok_sipush hE (999 : Int32) ks_999 dX12_readsOne_160 ?_
                  refine ok_cvI hE rmR_number [.int (0 : Int32), .int (999 : Int32)] [.ref (E.Y.ad 0)] rfl ca_X12_269 shR_0 rfl (fun _ hx => mR_number hE.sys _ _ _ _ hx) ⟨rfl, rfl, rfl, rfl⟩ rfl rfl dX12_readsOne_163 (fun r10 => ?_)
                  refine ok_putI hE fl_X12_93 shR_0 rfl dX12_readsOne_166 (fun M11 => ?_)
                  refine ok_goto hE 211 rfl dX12_readsOne_169 ?_
                  exact ok_return hE dX12_readsOne_211
              · refine ok_aload_n hE 0 rfl dX12_readsOne_136 ?_
                refine ok_aload_n hE 0 rfl dX12_readsOne_137 ?_
                refine ok_iconst hE (1 : Int32) ki_1 dX12_readsOne_138 ?_
                refine ok_sipush hE (200 : Int32) ks_200 dX12_readsOne_139 ?_
                refine ok_cvI hE rmR_number [.int (1 : Int32), .int (200 : Int32)] [.ref (E.Y.ad 0)] rfl ca_X12_269 shR_0 rfl (fun _ hx => mR_number hE.sys _ _ _ _ hx) ⟨rfl, rfl, rfl, rfl⟩ rfl rfl dX12_readsOne_142 (fun r12 => ?_)
                refine ok_putI hE fl_X12_90 shR_0 rfl dX12_readsOne_145 (fun M13 => ?_)
                refine ok_goto hE 211 rfl dX12_readsOne_148 ?_
                exact ok_return hE dX12_readsOne_211
            · refine ok_aload_n hE 0 rfl dX12_readsOne_116 ?_
              refine ok_aload_n hE 0 rfl dX12_readsOne_117 ?_
              refine ok_iconst hE (0 : Int32) ki_0 dX12_readsOne_118 ?_
              refine ok_bipush hE (20 : Int32) kb_20 dX12_readsOne_119 ?_
              refine ok_cvI hE rmR_number [.int (0 : Int32), .int (20 : Int32)] [.ref (E.Y.ad 0)] rfl ca_X12_269 shR_0 rfl (fun _ hx => mR_number hE.sys _ _ _ _ hx) ⟨rfl, rfl, rfl, rfl⟩ rfl rfl dX12_readsOne_121 (fun r14 => ?_)
              refine ok_putI hE fl_X12_87 shR_0 rfl dX12_readsOne_124 (fun M15 => ?_)
              refine ok_goto hE 211 rfl dX12_readsOne_127 ?_
              exact ok_return hE dX12_readsOne_211
          · refine ok_aload_n hE 0 rfl dX12_readsOne_80 ?_
            refine ok_aload_n hE 0 rfl dX12_readsOne_81 ?_
            refine ok_iconst hE (1 : Int32) ki_1 dX12_readsOne_82 ?_
            refine ok_sipush hE (999 : Int32) ks_999 dX12_readsOne_83 ?_
            refine ok_cvI hE rmR_number [.int (1 : Int32), .int (999 : Int32)] [.ref (E.Y.ad 0)] rfl ca_X12_269 shR_0 rfl (fun _ hx => mR_number hE.sys _ _ _ _ hx) ⟨rfl, rfl, rfl, rfl⟩ rfl rfl dX12_readsOne_86 (fun r16 => ?_)
            refine ok_putI hE fl_X12_81 shR_0 rfl dX12_readsOne_89 (fun M17 => ?_)
            refine ok_aload_n hE 0 rfl dX12_readsOne_92 ?_
            refine ok_aload_n hE 0 rfl dX12_readsOne_93 ?_
            refine ok_iconst hE (4 : Int32) ki_4 dX12_readsOne_94 ?_
            refine ok_aload_n hE 0 rfl dX12_readsOne_95 ?_
            refine ok_getI hE fl_X12_81 shR_0 rfl dX12_readsOne_96 ?_
            refine ok_sipush hE (999 : Int32) ks_999 dX12_readsOne_99 ?_
            refine ok_cvI hE rmR_told [.int (4 : Int32), .int (gI M17 0 23), .int (999 : Int32)] [.ref (E.Y.ad 0)] rfl ca_X12_279 shR_0 rfl (fun _ hx => mR_told hE.sys _ _ _ _ _ hx) ⟨rfl, rfl, rfl, rfl⟩ rfl rfl dX12_readsOne_102 (fun r18 => ?_)
            refine ok_putI hE fl_X12_84 shR_0 rfl dX12_readsOne_105 (fun M19 => ?_)
            refine ok_goto hE 211 rfl dX12_readsOne_108 ?_
            exact ok_return hE dX12_readsOne_211
        · exact ok_return hE dX12_readsOne_74
      refine ok_icmp_eq hE 66 rfl dX12_readsOne_30 ?_ ?_
      · exact ok_sub [0, 1] rfl (hj66 ())
      · refine ok_iload_n hE 1 rfl dX12_readsOne_33 ?_
        refine ok_iconst hE (5 : Int32) ki_5 dX12_readsOne_34 ?_
        refine ok_icmp_eq hE 66 rfl dX12_readsOne_35 ?_ ?_
        · exact ok_sub [0, 1] rfl (hj66 ())
        · refine ok_iload_n hE 1 rfl dX12_readsOne_38 ?_
          refine ok_bipush hE (6 : Int32) kb_6 dX12_readsOne_39 ?_
          refine ok_icmp_eq hE 66 rfl dX12_readsOne_41 ?_ ?_
          · exact ok_sub [0, 1] rfl (hj66 ())
          · refine ok_iload_n hE 1 rfl dX12_readsOne_44 ?_
            refine ok_bipush hE (7 : Int32) kb_7 dX12_readsOne_45 ?_
            refine ok_icmp_eq hE 66 rfl dX12_readsOne_47 ?_ ?_
            · exact ok_sub [0, 1] rfl (hj66 ())
            · refine ok_iload_n hE 1 rfl dX12_readsOne_50 ?_
              refine ok_bipush hE (8 : Int32) kb_8 dX12_readsOne_51 ?_
              refine ok_icmp_eq hE 66 rfl dX12_readsOne_53 ?_ ?_
              · exact ok_sub [0, 1] rfl (hj66 ())
              · refine ok_aload_n hE 0 rfl dX12_readsOne_56 ?_
                refine ok_iconst hE (1 : Int32) ki_1 dX12_readsOne_57 ?_
                refine ok_aload_n hE 0 rfl dX12_readsOne_58 ?_
                refine ok_getI hE fl_X12_147 shR_0 rfl dX12_readsOne_59 ?_
                refine ok_cvV hE rmR_fails [.int (1 : Int32), .int (gI M 0 45)] [] rfl ca_X12_249 shR_0 rfl (fun _ hx => mR_fails hE.sys _ _ _ _ hx) ⟨rfl, rfl, rfl, rfl⟩ rfl rfl dX12_readsOne_62 (fun M20 => ?_)
                exact ok_return hE dX12_readsOne_65
    · exact ok_sub [0, 1] rfl (hj12 ())
theorem mR_readsOne {l : Launch} {Y : Sys} {t : Nat} (hY : SysOk Y t shR) (p1 : Int32)  (M : Mm) (r : Mm) (h : R_readsOne p1 M = some r) : Cm l Y t yX12_readsOne (WS yX12_readsOne cX12_readsOne 2 none) rmR_readsOne [.ref (Y.ad 0), .int p1] M (enV r) := by
  refine cm_of (own := RX12) hY rfl rfl (Nat.le_of_ble_eq_true rfl) (fun E hE e1 e2 e3 e4 => ?_)
  subst e1
  exact tR_readsOne E hE p1  M r h e4.symm
def R_readsAll  (M : Mm) : Option (Int32 × Mm) :=
 lett (sI M 0 19 (0 : Int32)) fun M1 =>
 lett (sI M1 0 23 (8 : Int32)) fun M2 =>
 lett (sI M2 0 24 (64 : Int32)) fun M3 =>
 lett (sI M3 0 25 (4 : Int32)) fun M4 =>
 lett (sI M4 0 26 (40 : Int32)) fun M5 =>
 lett (sI M5 0 27 (16 : Int32)) fun M6 =>
 lett (sI M6 0 28 (1 : Int32)) fun M7 =>
 lett (sI M7 0 29 (0 : Int32)) fun M8 =>
 lett (sI M8 0 30 (999 : Int32)) fun M9 =>
 lett (sI M9 0 31 (0 : Int32)) fun M10 =>
 bnd (R_told (0 : Int32) (64 : Int32) (9999 : Int32) M10) fun r11 =>
 lett (sI r11.2 0 20 r11.1) fun M12 =>
 bnd (R_told (1 : Int32) (1 : Int32) (500 : Int32) M12) fun r13 =>
 lett (sI r13.2 0 21 r13.1) fun M14 =>
 bnd (R_told (2 : Int32) (1 : Int32) (64 : Int32) M14) fun r15 =>
 lett (sI r15.2 0 22 r15.1) fun M16 =>
 bnd (R_endsWell M16) fun M17 =>
 lett (1 : Int32) fun v18 =>
 loopR (fun (rec101 : (Int32 × Mm) → Option (Int32 × Mm)) (x19 : Int32 × Mm) =>
 bnd (R_goes x19.2) fun r20 =>
 if r20 = 0 then
 (some (x19.1, x19.2))
 else
 (bnd (R_here x19.2) fun r21 =>
 if r21.1 = (-1 : Int32) then
 (some (x19.1, r21.2))
 else
 (bnd (R_word r21.2) fun M22 =>
 bnd (R_goes M22) fun r23 =>
 lett (fun (M_23 : Mm) =>
 bnd (R_endsWell M_23) fun M25 =>
 lett (x19.1 + (1 : Int32)) fun v26 =>
 rec101 (v26, M25)) fun j135 =>
 if r23 = 0 then
 (j135 M22)
 else
 (bnd (R_own M22) fun r27 =>
 bnd (R_readsOne r27 M22) fun M28 =>
 j135 M28)))) 1000000 (v18, M17)
abbrev rmR_readsAll : Room := { frames := 8, cells := 0, slots := 0, locals := 174 }
set_option maxHeartbeats 4000000 in
set_option maxRecDepth 100000 in
theorem tR_readsAll (E : Cx) (hE : CxOk E cX12_readsAll RX12 shR (some .int) rmR_readsAll 2)   (M : Mm) : Ok E 0 [(0, .ref (E.Y.ad 0))] [] M (R_readsAll  M) (KI E) := by
  unfold R_readsAll
  refine ok_aload_n hE 0 rfl dX12_readsAll_0 ?_
  refine ok_iconst hE (0 : Int32) ki_0 dX12_readsAll_1 ?_
  refine ok_putI hE fl_X12_69 shR_0 rfl dX12_readsAll_2 (fun M1 => ?_)
  refine ok_aload_n hE 0 rfl dX12_readsAll_5 ?_
  refine ok_bipush hE (8 : Int32) kb_8 dX12_readsAll_6 ?_
  refine ok_putI hE fl_X12_81 shR_0 rfl dX12_readsAll_8 (fun M2 => ?_)
  refine ok_aload_n hE 0 rfl dX12_readsAll_11 ?_
  refine ok_bipush hE (64 : Int32) kb_64 dX12_readsAll_12 ?_
  refine ok_putI hE fl_X12_84 shR_0 rfl dX12_readsAll_14 (fun M3 => ?_)
  refine ok_aload_n hE 0 rfl dX12_readsAll_17 ?_
  refine ok_iconst hE (4 : Int32) ki_4 dX12_readsAll_18 ?_
  refine ok_putI hE fl_X12_87 shR_0 rfl dX12_readsAll_19 (fun M4 => ?_)
  refine ok_aload_n hE 0 rfl dX12_readsAll_22 ?_
  refine ok_bipush hE (40 : Int32) kb_40 dX12_readsAll_23 ?_
  refine ok_putI hE fl_X12_90 shR_0 rfl dX12_readsAll_25 (fun M5 => ?_)
  refine ok_aload_n hE 0 rfl dX12_readsAll_28 ?_
  refine ok_bipush hE (16 : Int32) kb_16 dX12_readsAll_29 ?_
  refine ok_putI hE fl_X12_93 shR_0 rfl dX12_readsAll_31 (fun M6 => ?_)
  refine ok_aload_n hE 0 rfl dX12_readsAll_34 ?_
  refine ok_iconst hE (1 : Int32) ki_1 dX12_readsAll_35 ?_
  refine ok_putI hE fl_X12_96 shR_0 rfl dX12_readsAll_36 (fun M7 => ?_)
  refine ok_aload_n hE 0 rfl dX12_readsAll_39 ?_
  refine ok_iconst hE (0 : Int32) ki_0 dX12_readsAll_40 ?_
  refine ok_putI hE fl_X12_99 shR_0 rfl dX12_readsAll_41 (fun M8 => ?_)
  refine ok_aload_n hE 0 rfl dX12_readsAll_44 ?_
  refine ok_sipush hE (999 : Int32) ks_999 dX12_readsAll_45 ?_
  refine ok_putI hE fl_X12_102 shR_0 rfl dX12_readsAll_48 (fun M9 => ?_)
  refine ok_aload_n hE 0 rfl dX12_readsAll_51 ?_
  refine ok_iconst hE (0 : Int32) ki_0 dX12_readsAll_52 ?_
  refine ok_putI hE fl_X12_105 shR_0 rfl dX12_readsAll_53 (fun M10 => ?_)
  refine ok_aload_n hE 0 rfl dX12_readsAll_56 ?_
  refine ok_aload_n hE 0 rfl dX12_readsAll_57 ?_
  refine ok_iconst hE (0 : Int32) ki_0 dX12_readsAll_58 ?_
  refine ok_bipush hE (64 : Int32) kb_64 dX12_readsAll_59 ?_
  refine ok_sipush hE (9999 : Int32) ks_9999 dX12_readsAll_61 ?_
  refine ok_cvI hE rmR_told [.int (0 : Int32), .int (64 : Int32), .int (9999 : Int32)] [.ref (E.Y.ad 0)] rfl ca_X12_279 shR_0 rfl (fun _ hx => mR_told hE.sys _ _ _ _ _ hx) ⟨rfl, rfl, rfl, rfl⟩ rfl rfl dX12_readsAll_64 (fun r11 => ?_)
  refine ok_putI hE fl_X12_72 shR_0 rfl dX12_readsAll_67 (fun M12 => ?_)
  refine ok_aload_n hE 0 rfl dX12_readsAll_70 ?_
  refine ok_aload_n hE 0 rfl dX12_readsAll_71 ?_
  refine ok_iconst hE (1 : Int32) ki_1 dX12_readsAll_72 ?_
  refine ok_iconst hE (1 : Int32) ki_1 dX12_readsAll_73 ?_
  refine ok_sipush hE (500 : Int32) ks_500 dX12_readsAll_74 ?_
  refine ok_cvI hE rmR_told [.int (1 : Int32), .int (1 : Int32), .int (500 : Int32)] [.ref (E.Y.ad 0)] rfl ca_X12_279 shR_0 rfl (fun _ hx => mR_told hE.sys _ _ _ _ _ hx) ⟨rfl, rfl, rfl, rfl⟩ rfl rfl dX12_readsAll_77 (fun r13 => ?_)
  refine ok_putI hE fl_X12_75 shR_0 rfl dX12_readsAll_80 (fun M14 => ?_)
  refine ok_aload_n hE 0 rfl dX12_readsAll_83 ?_
  refine ok_aload_n hE 0 rfl dX12_readsAll_84 ?_
  refine ok_iconst hE (2 : Int32) ki_2 dX12_readsAll_85 ?_
  refine ok_iconst hE (1 : Int32) ki_1 dX12_readsAll_86 ?_
  refine ok_bipush hE (64 : Int32) kb_64 dX12_readsAll_87 ?_
  refine ok_cvI hE rmR_told [.int (2 : Int32), .int (1 : Int32), .int (64 : Int32)] [.ref (E.Y.ad 0)] rfl ca_X12_279 shR_0 rfl (fun _ hx => mR_told hE.sys _ _ _ _ _ hx) ⟨rfl, rfl, rfl, rfl⟩ rfl rfl dX12_readsAll_89 (fun r15 => ?_)
  refine ok_putI hE fl_X12_78 shR_0 rfl dX12_readsAll_92 (fun M16 => ?_)
  refine ok_aload_n hE 0 rfl dX12_readsAll_95 ?_
  refine ok_cvV hE rmR_endsWell [] [] rfl ca_X12_296 shR_0 rfl (fun _ hx => mR_endsWell hE.sys  _ _ hx) ⟨rfl, rfl, rfl, rfl⟩ rfl rfl dX12_readsAll_96 (fun M17 => ?_)
  refine ok_iconst hE (1 : Int32) ki_1 dX12_readsAll_99 ?_
  refine ok_istore_n hE (fun v18 => [(1, .int v18), (0, .ref (E.Y.ad 0))]) (fun _ => rfl) rfl dX12_readsAll_100 (fun v18 => ?_)
  refine ok_sub [1, 0] rfl (ok_loop (σ := Int32 × Mm) 101 (fun x19 => [(0, .ref (E.Y.ad 0)), (1, .int x19.1)]) (fun x19 => x19.2) (fun rec101 hrec101 x19 => ?_) 1000000 (v18, M17))
  refine ok_aload_n hE 0 rfl dX12_readsAll_101 ?_
  refine ok_cvIp hE rmR_goes [] [] rfl ca_X12_235 shR_0 rfl (fun _ hx => mR_goes hE.sys  _ _ hx) ⟨rfl, rfl, rfl, rfl⟩ rfl rfl dX12_readsAll_102 (fun r20 => ?_)
  refine ok_if_eq hE 145 rfl dX12_readsAll_105 ?_ ?_
  · refine ok_iload_n hE 1 rfl dX12_readsAll_145 ?_
    exact ok_ireturn hE dX12_readsAll_146
  · refine ok_aload_n hE 0 rfl dX12_readsAll_108 ?_
    refine ok_cvI hE rmR_here [] [] rfl ca_X12_239 shR_0 rfl (fun _ hx => mR_here hE.sys  _ _ hx) ⟨rfl, rfl, rfl, rfl⟩ rfl rfl dX12_readsAll_109 (fun r21 => ?_)
    refine ok_iconst hE (-1 : Int32) ki_m1 dX12_readsAll_112 ?_
    refine ok_icmp_eq hE 145 rfl dX12_readsAll_113 ?_ ?_
    · refine ok_iload_n hE 1 rfl dX12_readsAll_145 ?_
      exact ok_ireturn hE dX12_readsAll_146
    · refine ok_aload_n hE 0 rfl dX12_readsAll_116 ?_
      refine ok_cvV hE rmR_word [] [] rfl ca_X12_253 shR_0 rfl (fun _ hx => mR_word hE.sys  _ _ hx) ⟨rfl, rfl, rfl, rfl⟩ rfl rfl dX12_readsAll_117 (fun M22 => ?_)
      refine ok_aload_n hE 0 rfl dX12_readsAll_120 ?_
      refine ok_cvIp hE rmR_goes [] [] rfl ca_X12_235 shR_0 rfl (fun _ hx => mR_goes hE.sys  _ _ hx) ⟨rfl, rfl, rfl, rfl⟩ rfl rfl dX12_readsAll_121 (fun r23 => ?_)
      refine ok_fun (fun j => ∀ (M_23 : Mm), Ok E 135 [(0, .ref (E.Y.ad 0)), (1, .int x19.1)] [] M_23 (j M_23) (KI E)) (fun M_23 => ?_) (fun j135 hj135 => ?_)
      · refine ok_aload_n hE 0 rfl dX12_readsAll_135 ?_
        refine ok_cvV hE rmR_endsWell [] [] rfl ca_X12_296 shR_0 rfl (fun _ hx => mR_endsWell hE.sys  _ _ hx) ⟨rfl, rfl, rfl, rfl⟩ rfl rfl dX12_readsAll_136 (fun M25 => ?_)
        refine ok_iinc hE 1 (x19.1 + (1 : Int32)) (by rw [ko_1]) (fun v26 => [(1, .int v26), (0, .ref (E.Y.ad 0))]) rfl (fun _ => rfl) rfl dX12_readsAll_139 (fun v26 => ?_)
        refine ok_goto hE 101 rfl dX12_readsAll_142 ?_
        exact ok_sub [1, 0] rfl (hrec101 (v26, M25))
      refine ok_if_eq hE 135 rfl dX12_readsAll_124 ?_ ?_
      · exact ok_sub [0, 1] rfl (hj135 M22)
      · refine ok_aload_n hE 0 rfl dX12_readsAll_127 ?_
        refine ok_aload_n hE 0 rfl dX12_readsAll_128 ?_
        refine ok_cvIp hE rmR_own [] [.ref (E.Y.ad 0)] rfl ca_X12_256 shR_0 rfl (fun _ hx => mR_own hE.sys  _ _ hx) ⟨rfl, rfl, rfl, rfl⟩ rfl rfl dX12_readsAll_129 (fun r27 => ?_)
        refine ok_cvV hE rmR_readsOne [.int r27] [] rfl ca_X12_299 shR_0 rfl (fun _ hx => mR_readsOne hE.sys _ _ _ hx) ⟨rfl, rfl, rfl, rfl⟩ rfl rfl dX12_readsAll_132 (fun M28 => ?_)
        exact ok_sub [0, 1] rfl (hj135 M28)
theorem mR_readsAll {l : Launch} {Y : Sys} {t : Nat} (hY : SysOk Y t shR)   (M : Mm) (r : (Int32 × Mm)) (h : R_readsAll  M = some r) : Cm l Y t yX12_readsAll (WS yX12_readsAll cX12_readsAll 2 (some .int)) rmR_readsAll [.ref (Y.ad 0)] M (enI r) := by
  refine cm_of (own := RX12) hY rfl rfl (Nat.le_of_ble_eq_true rfl) (fun E hE e1 e2 e3 e4 => ?_)
  subst e1
  exact tR_readsAll E hE   M r h e4.symm
