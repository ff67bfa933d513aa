def R_status (p1 : Int32) (M : Mm) : Option Int32 :=
 bnd (R_isIn p1 (0 : Int32) (5 : Int32) M) fun r1 =>
 if r1 = 0 then
 (some (-1 : Int32))
 else
 (ald p1 6 (some (gI M 14 (ix p1))))
abbrev rmR_status : Room := { frames := 1, cells := 0, slots := 0, locals := 22 }
set_option maxHeartbeats 4000000 in
set_option maxRecDepth 100000 in
theorem tR_status (E : Cx) (hE : CxOk E cX12_status RX12 shR (some .int) rmR_status 2) (p1 : Int32)  (M : Mm) : Ok E 0 [(0, .ref (E.Y.ad 0)), (1, .int p1)] [] M (R_status p1 M) (KIp E M) := by
  unfold R_status
  refine ok_iload_n hE 1 rfl dX12_status_0 ?_
  refine ok_iconst hE (0 : Int32) ki_0 dX12_status_1 ?_
  refine ok_iconst hE (5 : Int32) ki_5 dX12_status_2 ?_
  refine ok_csIp hE rmR_isIn [.int p1, .int (0 : Int32), .int (5 : Int32)] [] rfl ca_X12_262 (fun _ hx => mR_isIn hE.sys _ _ _ _ _ hx) ⟨rfl, rfl, rfl, rfl⟩ rfl rfl dX12_status_3 (fun r1 => ?_)
  refine ok_if_eq hE 18 rfl dX12_status_6 ?_ ?_
  · refine ok_iconst hE (-1 : Int32) ki_m1 dX12_status_18 ?_
    exact ok_ireturnP hE dX12_status_19
  · refine ok_aload_n hE 0 rfl dX12_status_9 ?_
    refine ok_getA hE fl_X12_132 shR_0 rfl dX12_status_10 ?_
    refine ok_iload_n hE 1 rfl dX12_status_13 ?_
    refine ok_iaload hE shR_14 dX12_status_14 ?_
    refine ok_goto hE 19 rfl dX12_status_15 ?_
    exact ok_ireturnP hE dX12_status_19
theorem mR_status {l : Launch} {Y : Sys} {t : Nat} (hY : SysOk Y t shR) (p1 : Int32)  (M : Mm) (r : Int32) (h : R_status p1 M = some r) : Cm l Y t yX12_status (WS yX12_status cX12_status 2 (some .int)) rmR_status [.ref (Y.ad 0), .int p1] M ((some (.int r), M)) := by
  refine cm_of (own := RX12) hY rfl rfl (Nat.le_of_ble_eq_true rfl) (fun E hE e1 e2 e3 e4 => ?_)
  subst e1
  exact tR_status E hE p1  M r h e4.symm
