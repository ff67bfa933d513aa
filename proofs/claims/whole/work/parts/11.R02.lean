def R_goesNext (p1 : Int32) (M : Mm) : Option Mm :=
 lett (0 : Int32) fun v1 =>
 lett (fun (M_1 : Mm) =>
 bnd (R_ofRequest p1 (1 : Int32) M_1) fun r3 =>
 bnd (R_its (1 : Int32) M_1) fun r4 =>
 bnd (R_away r3 r4 M_1) fun r5 =>
 bnd (R_up r5 (gI M_1 0 3) M_1) fun r6 =>
 bnd (R_ofRequest p1 (2 : Int32) M_1) fun r7 =>
 bnd (R_up r7 (gI M_1 0 4) M_1) fun r8 =>
 bnd (R_puts (5 : Int32) (r6 + r8) M_1) fun M9 =>
 lett ((150 : Int32) + ((7 : Int32) * p1)) fun v10 =>
 lett (fun (M_10 : Mm) =>
 bnd (R_its (10 : Int32) M_10) fun r12 =>
 bnd (R_puts (10 : Int32) (r12 - (1 : Int32)) M_10) fun M13 =>
 some M13) fun j115 =>
 loopR (fun (rec77 : (Int32 × Mm) → Option Mm) (x14 : Int32 × Mm) =>
 bnd (R_its (10 : Int32) x14.2) fun r15 =>
 if ((150 : Int32) + ((7 : Int32) * (r15 - (1 : Int32)))) ≤ x14.1 then
 (j115 x14.2)
 else
 (bnd (R_its (x14.1 + (7 : Int32)) x14.2) fun r16 =>
 bnd (R_puts x14.1 r16 x14.2) fun M17 =>
 lett (x14.1 + (1 : Int32)) fun v18 =>
 rec77 (v18, M17))) 1000000 (v10, M9)) fun j28 =>
 loopR (fun (rec2 : (Int32 × Mm) → Option Mm) (x19 : Int32 × Mm) =>
 if (7 : Int32) ≤ x19.1 then
 (j28 x19.2)
 else
 (bnd (R_ofRequest p1 x19.1 x19.2) fun r20 =>
 bnd (R_puts ((11 : Int32) + x19.1) r20 x19.2) fun M21 =>
 lett (x19.1 + (1 : Int32)) fun v22 =>
 rec2 (v22, M21))) 1000000 (v1, M)
abbrev rmR_goesNext : Room := { frames := 2, cells := 0, slots := 0, locals := 43 }
set_option maxHeartbeats 4000000 in
set_option maxRecDepth 100000 in
theorem tR_goesNext (E : Cx) (hE : CxOk E cX12_goesNext RX12 shR none rmR_goesNext 3) (p1 : Int32)  (M : Mm) : Ok E 0 [(0, .ref (E.Y.ad 0)), (1, .int p1)] [] M (R_goesNext p1 M) (KV E) := by
  unfold R_goesNext
  refine ok_iconst hE (0 : Int32) ki_0 dX12_goesNext_0 ?_
  refine ok_istore_n hE (fun v1 => [(2, .int v1), (0, .ref (E.Y.ad 0)), (1, .int p1)]) (fun _ => rfl) rfl dX12_goesNext_1 (fun v1 => ?_)
  refine ok_fun (fun j => ∀ (M_1 : Mm), Ok E 28 [(0, .ref (E.Y.ad 0)), (1, .int p1)] [] M_1 (j M_1) (KV E)) (fun M_1 => ?_) (fun j28 hj28 => ?_)
  · refine ok_aload_n hE 0 rfl dX12_goesNext_28 ?_
    refine ok_iconst hE (5 : Int32) ki_5 dX12_goesNext_29 ?_
    refine ok_aload_n hE 0 rfl dX12_goesNext_30 ?_
    refine ok_iload_n hE 1 rfl dX12_goesNext_31 ?_
    refine ok_iconst hE (1 : Int32) ki_1 dX12_goesNext_32 ?_
    refine ok_cvIp hE rmR_ofRequest [.int p1, .int (1 : Int32)] [.int (5 : Int32), .ref (E.Y.ad 0)] rfl ca_X12_334 shR_0 rfl (fun _ hx => mR_ofRequest hE.sys _ _ _ _ hx) ⟨rfl, rfl, rfl, rfl⟩ rfl rfl dX12_goesNext_33 (fun r3 => ?_)
    refine ok_aload_n hE 0 rfl dX12_goesNext_36 ?_
    refine ok_iconst hE (1 : Int32) ki_1 dX12_goesNext_37 ?_
    refine ok_cvIp hE rmR_its [.int (1 : Int32)] [.int r3, .int (5 : Int32), .ref (E.Y.ad 0)] rfl ca_X12_321 shR_0 rfl (fun _ hx => mR_its hE.sys _ _ _ hx) ⟨rfl, rfl, rfl, rfl⟩ rfl rfl dX12_goesNext_38 (fun r4 => ?_)
    refine ok_csIp hE rmR_away [.int r3, .int r4] [.int (5 : Int32), .ref (E.Y.ad 0)] rfl ca_X12_343 (fun _ hx => mR_away hE.sys _ _ _ _ hx) ⟨rfl, rfl, rfl, rfl⟩ rfl rfl dX12_goesNext_41 (fun r5 => ?_)
    refine ok_aload_n hE 0 rfl dX12_goesNext_44 ?_
    refine ok_getI hE fl_X12_20 shR_0 rfl dX12_goesNext_45 ?_
    refine ok_csIp hE rmR_up [.int r5, .int (gI M_1 0 3)] [.int (5 : Int32), .ref (E.Y.ad 0)] rfl ca_X12_369 (fun _ hx => mR_up hE.sys _ _ _ _ hx) ⟨rfl, rfl, rfl, rfl⟩ rfl rfl dX12_goesNext_48 (fun r6 => ?_)
    refine ok_aload_n hE 0 rfl dX12_goesNext_51 ?_
    refine ok_iload_n hE 1 rfl dX12_goesNext_52 ?_
    refine ok_iconst hE (2 : Int32) ki_2 dX12_goesNext_53 ?_
    refine ok_cvIp hE rmR_ofRequest [.int p1, .int (2 : Int32)] [.int r6, .int (5 : Int32), .ref (E.Y.ad 0)] rfl ca_X12_334 shR_0 rfl (fun _ hx => mR_ofRequest hE.sys _ _ _ _ hx) ⟨rfl, rfl, rfl, rfl⟩ rfl rfl dX12_goesNext_54 (fun r7 => ?_)
    refine ok_aload_n hE 0 rfl dX12_goesNext_57 ?_
    refine ok_getI hE fl_X12_23 shR_0 rfl dX12_goesNext_58 ?_
    refine ok_csIp hE rmR_up [.int r7, .int (gI M_1 0 4)] [.int r6, .int (5 : Int32), .ref (E.Y.ad 0)] rfl ca_X12_369 (fun _ hx => mR_up hE.sys _ _ _ _ hx) ⟨rfl, rfl, rfl, rfl⟩ rfl rfl dX12_goesNext_61 (fun r8 => ?_)
    refine ok_iadd hE dX12_goesNext_64 ?_
    refine ok_cvV hE rmR_puts [.int (5 : Int32), .int (r6 + r8)] [] rfl ca_X12_318 shR_0 rfl (fun _ hx => mR_puts hE.sys _ _ _ _ hx) ⟨rfl, rfl, rfl, rfl⟩ rfl rfl dX12_goesNext_65 (fun M9 => ?_)
    refine ok_sipush hE (150 : Int32) ks_150 dX12_goesNext_68 ?_
    refine ok_bipush hE (7 : Int32) kb_7 dX12_goesNext_71 ?_
    refine ok_iload_n hE 1 rfl dX12_goesNext_73 ?_
    refine ok_imul hE dX12_goesNext_74 ?_
    refine ok_iadd hE dX12_goesNext_75 ?_
    refine ok_istore_n hE (fun v10 => [(2, .int v10), (0, .ref (E.Y.ad 0)), (1, .int p1)]) (fun _ => rfl) rfl dX12_goesNext_76 (fun v10 => ?_)
    refine ok_fun (fun j => ∀ (M_10 : Mm), Ok E 115 [(0, .ref (E.Y.ad 0))] [] M_10 (j M_10) (KV E)) (fun M_10 => ?_) (fun j115 hj115 => ?_)
    · refine ok_aload_n hE 0 rfl dX12_goesNext_115 ?_
      refine ok_bipush hE (10 : Int32) kb_10 dX12_goesNext_116 ?_
      refine ok_aload_n hE 0 rfl dX12_goesNext_118 ?_
      refine ok_bipush hE (10 : Int32) kb_10 dX12_goesNext_119 ?_
      refine ok_cvIp hE rmR_its [.int (10 : Int32)] [.int (10 : Int32), .ref (E.Y.ad 0)] rfl ca_X12_321 shR_0 rfl (fun _ hx => mR_its hE.sys _ _ _ hx) ⟨rfl, rfl, rfl, rfl⟩ rfl rfl dX12_goesNext_121 (fun r12 => ?_)
      refine ok_iconst hE (1 : Int32) ki_1 dX12_goesNext_124 ?_
      refine ok_isub hE dX12_goesNext_125 ?_
      refine ok_cvV hE rmR_puts [.int (10 : Int32), .int (r12 - (1 : Int32))] [] rfl ca_X12_318 shR_0 rfl (fun _ hx => mR_puts hE.sys _ _ _ _ hx) ⟨rfl, rfl, rfl, rfl⟩ rfl rfl dX12_goesNext_126 (fun M13 => ?_)
      exact ok_return hE dX12_goesNext_129
    refine ok_sub [1, 0] rfl (ok_loop (σ := Int32 × Mm) 77 (fun x14 => [(0, .ref (E.Y.ad 0)), (2, .int x14.1)]) (fun x14 => x14.2) (fun rec77 hrec77 x14 => ?_) 1000000 (v10, M9))
    refine ok_iload_n hE 1 rfl dX12_goesNext_77 ?_
    refine ok_sipush hE (150 : Int32) ks_150 dX12_goesNext_78 ?_
    refine ok_bipush hE (7 : Int32) kb_7 dX12_goesNext_81 ?_
    refine ok_aload_n hE 0 rfl dX12_goesNext_83 ?_
    refine ok_bipush hE (10 : Int32) kb_10 dX12_goesNext_84 ?_
    refine ok_cvIp hE rmR_its [.int (10 : Int32)] [.int (7 : Int32), .int (150 : Int32), .int x14.1] rfl ca_X12_321 shR_0 rfl (fun _ hx => mR_its hE.sys _ _ _ hx) ⟨rfl, rfl, rfl, rfl⟩ rfl rfl dX12_goesNext_86 (fun r15 => ?_)
    refine ok_iconst hE (1 : Int32) ki_1 dX12_goesNext_89 ?_
    refine ok_isub hE dX12_goesNext_90 ?_
    refine ok_imul hE dX12_goesNext_91 ?_
    refine ok_iadd hE dX12_goesNext_92 ?_
    refine ok_icmp_ge hE 115 rfl dX12_goesNext_93 ?_ ?_
    · exact ok_sub [0] rfl (hj115 x14.2)
    · refine ok_aload_n hE 0 rfl dX12_goesNext_96 ?_
      refine ok_iload_n hE 1 rfl dX12_goesNext_97 ?_
      refine ok_aload_n hE 0 rfl dX12_goesNext_98 ?_
      refine ok_iload_n hE 1 rfl dX12_goesNext_99 ?_
      refine ok_bipush hE (7 : Int32) kb_7 dX12_goesNext_100 ?_
      refine ok_iadd hE dX12_goesNext_102 ?_
      refine ok_cvIp hE rmR_its [.int (x14.1 + (7 : Int32))] [.int x14.1, .ref (E.Y.ad 0)] rfl ca_X12_321 shR_0 rfl (fun _ hx => mR_its hE.sys _ _ _ hx) ⟨rfl, rfl, rfl, rfl⟩ rfl rfl dX12_goesNext_103 (fun r16 => ?_)
      refine ok_cvV hE rmR_puts [.int x14.1, .int r16] [] rfl ca_X12_318 shR_0 rfl (fun _ hx => mR_puts hE.sys _ _ _ _ hx) ⟨rfl, rfl, rfl, rfl⟩ rfl rfl dX12_goesNext_106 (fun M17 => ?_)
      refine ok_iinc hE 1 (x14.1 + (1 : Int32)) (by rw [ko_1]) (fun v18 => [(2, .int v18), (0, .ref (E.Y.ad 0))]) rfl (fun _ => rfl) rfl dX12_goesNext_109 (fun v18 => ?_)
      refine ok_goto hE 77 rfl dX12_goesNext_112 ?_
      exact ok_sub [1, 0] rfl (hrec77 (v18, M17))
  refine ok_sub [1, 2, 0] rfl (ok_loop (σ := Int32 × Mm) 2 (fun x19 => [(0, .ref (E.Y.ad 0)), (1, .int p1), (2, .int x19.1)]) (fun x19 => x19.2) (fun rec2 hrec2 x19 => ?_) 1000000 (v1, M))
  refine ok_iload_n hE 2 rfl dX12_goesNext_2 ?_
  refine ok_bipush hE (7 : Int32) kb_7 dX12_goesNext_3 ?_
  refine ok_icmp_ge hE 28 rfl dX12_goesNext_5 ?_ ?_
  · exact ok_sub [0, 1] rfl (hj28 x19.2)
  · refine ok_aload_n hE 0 rfl dX12_goesNext_8 ?_
    refine ok_bipush hE (11 : Int32) kb_11 dX12_goesNext_9 ?_
    refine ok_iload_n hE 2 rfl dX12_goesNext_11 ?_
    refine ok_iadd hE dX12_goesNext_12 ?_
    refine ok_aload_n hE 0 rfl dX12_goesNext_13 ?_
    refine ok_iload_n hE 1 rfl dX12_goesNext_14 ?_
    refine ok_iload_n hE 2 rfl dX12_goesNext_15 ?_
    refine ok_cvIp hE rmR_ofRequest [.int p1, .int x19.1] [.int ((11 : Int32) + x19.1), .ref (E.Y.ad 0)] rfl ca_X12_334 shR_0 rfl (fun _ hx => mR_ofRequest hE.sys _ _ _ _ hx) ⟨rfl, rfl, rfl, rfl⟩ rfl rfl dX12_goesNext_16 (fun r20 => ?_)
    refine ok_cvV hE rmR_puts [.int ((11 : Int32) + x19.1), .int r20] [] rfl ca_X12_318 shR_0 rfl (fun _ hx => mR_puts hE.sys _ _ _ _ hx) ⟨rfl, rfl, rfl, rfl⟩ rfl rfl dX12_goesNext_19 (fun M21 => ?_)
    refine ok_iinc hE 2 (x19.1 + (1 : Int32)) (by rw [ko_1]) (fun v22 => [(2, .int v22), (0, .ref (E.Y.ad 0)), (1, .int p1)]) rfl (fun _ => rfl) rfl dX12_goesNext_22 (fun v22 => ?_)
    refine ok_goto hE 2 rfl dX12_goesNext_25 ?_
    exact ok_sub [1, 2, 0] rfl (hrec2 (v22, M21))
theorem mR_goesNext {l : Launch} {Y : Sys} {t : Nat} (hY : SysOk Y t shR) (p1 : Int32)  (M : Mm) (r : Mm) (h : R_goesNext p1 M = some r) : Cm l Y t yX12_goesNext (WS yX12_goesNext cX12_goesNext 3 none) rmR_goesNext [.ref (Y.ad 0), .int p1] M (enV r) := by
  refine cm_of (own := RX12) hY rfl rfl (Nat.le_of_ble_eq_true rfl) (fun E hE e1 e2 e3 e4 => ?_)
  subst e1
  exact tR_goesNext E hE p1  M r h e4.symm
def R_writes (p1 : Int32) (p2 : Int32) (p3 : Int32) (M : Mm) : Option Mm :=
 bnd (R_its (9 : Int32) M) fun r1 =>
 lett (fun (M_1 : Mm) =>
 bnd (R_its (9 : Int32) M_1) fun r3 =>
 lett ((598 : Int32) + ((4 : Int32) * r3)) fun v4 =>
 bnd (R_its (0 : Int32) M_1) fun r5 =>
 bnd (R_puts v4 r5 M_1) fun M6 =>
 bnd (R_puts (v4 + (1 : Int32)) p1 M6) fun M7 =>
 bnd (R_puts (v4 + (2 : Int32)) p2 M7) fun M8 =>
 bnd (R_puts (v4 + (3 : Int32)) p3 M8) fun M9 =>
 bnd (R_its (9 : Int32) M9) fun r10 =>
 bnd (R_puts (9 : Int32) (r10 + (1 : Int32)) M9) fun M11 =>
 some M11) fun j58 =>
 if r1 = (40 : Int32) then
 (lett (0 : Int32) fun v12 =>
 lett (fun (M_12 : Mm) =>
 bnd (R_puts (9 : Int32) (39 : Int32) M_12) fun M14 =>
 j58 M14) fun j50 =>
 loopR (fun (rec14 : (Int32 × Mm) → Option Mm) (x15 : Int32 × Mm) =>
 if (156 : Int32) ≤ x15.1 then
 (j50 x15.2)
 else
 (bnd (R_its (((598 : Int32) + x15.1) + (4 : Int32)) x15.2) fun r16 =>
 bnd (R_puts ((598 : Int32) + x15.1) r16 x15.2) fun M17 =>
 lett (x15.1 + (1 : Int32)) fun v18 =>
 rec14 (v18, M17))) 1000000 (v12, M))
 else
 (j58 M)
abbrev rmR_writes : Room := { frames := 1, cells := 0, slots := 0, locals := 22 }
set_option maxHeartbeats 4000000 in
set_option maxRecDepth 100000 in
theorem tR_writes (E : Cx) (hE : CxOk E cX12_writes RX12 shR none rmR_writes 5) (p1 : Int32) (p2 : Int32) (p3 : Int32)  (M : Mm) : Ok E 0 [(0, .ref (E.Y.ad 0)), (1, .int p1), (2, .int p2), (3, .int p3)] [] M (R_writes p1 p2 p3 M) (KV E) := by
  unfold R_writes
  refine ok_aload_n hE 0 rfl dX12_writes_0 ?_
  refine ok_bipush hE (9 : Int32) kb_9 dX12_writes_1 ?_
  refine ok_cvIp hE rmR_its [.int (9 : Int32)] [] rfl ca_X12_321 shR_0 rfl (fun _ hx => mR_its hE.sys _ _ _ hx) ⟨rfl, rfl, rfl, rfl⟩ rfl rfl dX12_writes_3 (fun r1 => ?_)
  refine ok_bipush hE (40 : Int32) kb_40 dX12_writes_6 ?_
  refine ok_fun (fun j => ∀ (M_1 : Mm), Ok E 58 [(0, .ref (E.Y.ad 0)), (1, .int p1), (2, .int p2), (3, .int p3)] [] M_1 (j M_1) (KV E)) (fun M_1 => ?_) (fun j58 hj58 => ?_)
  · refine ok_sipush hE (598 : Int32) ks_598 dX12_writes_58 ?_
    refine ok_iconst hE (4 : Int32) ki_4 dX12_writes_61 ?_
    refine ok_aload_n hE 0 rfl dX12_writes_62 ?_
    refine ok_bipush hE (9 : Int32) kb_9 dX12_writes_63 ?_
    refine ok_cvIp hE rmR_its [.int (9 : Int32)] [.int (4 : Int32), .int (598 : Int32)] rfl ca_X12_321 shR_0 rfl (fun _ hx => mR_its hE.sys _ _ _ hx) ⟨rfl, rfl, rfl, rfl⟩ rfl rfl dX12_writes_65 (fun r3 => ?_)
    refine ok_imul hE dX12_writes_68 ?_
    refine ok_iadd hE dX12_writes_69 ?_
    refine ok_istore hE (fun v4 => [(4, .int v4), (0, .ref (E.Y.ad 0)), (1, .int p1), (2, .int p2), (3, .int p3)]) (fun _ => rfl) rfl dX12_writes_70 (fun v4 => ?_)
    refine ok_aload_n hE 1 rfl dX12_writes_72 ?_
    refine ok_iload hE 0 rfl dX12_writes_73 ?_
    refine ok_aload_n hE 1 rfl dX12_writes_75 ?_
    refine ok_iconst hE (0 : Int32) ki_0 dX12_writes_76 ?_
    refine ok_cvIp hE rmR_its [.int (0 : Int32)] [.int v4, .ref (E.Y.ad 0)] rfl ca_X12_321 shR_0 rfl (fun _ hx => mR_its hE.sys _ _ _ hx) ⟨rfl, rfl, rfl, rfl⟩ rfl rfl dX12_writes_77 (fun r5 => ?_)
    refine ok_cvV hE rmR_puts [.int v4, .int r5] [] rfl ca_X12_318 shR_0 rfl (fun _ hx => mR_puts hE.sys _ _ _ _ hx) ⟨rfl, rfl, rfl, rfl⟩ rfl rfl dX12_writes_80 (fun M6 => ?_)
    refine ok_aload_n hE 1 rfl dX12_writes_83 ?_
    refine ok_iload hE 0 rfl dX12_writes_84 ?_
    refine ok_iconst hE (1 : Int32) ki_1 dX12_writes_86 ?_
    refine ok_iadd hE dX12_writes_87 ?_
    refine ok_iload_n hE 2 rfl dX12_writes_88 ?_
    refine ok_cvV hE rmR_puts [.int (v4 + (1 : Int32)), .int p1] [] rfl ca_X12_318 shR_0 rfl (fun _ hx => mR_puts hE.sys _ _ _ _ hx) ⟨rfl, rfl, rfl, rfl⟩ rfl rfl dX12_writes_89 (fun M7 => ?_)
    refine ok_aload_n hE 1 rfl dX12_writes_92 ?_
    refine ok_iload hE 0 rfl dX12_writes_93 ?_
    refine ok_iconst hE (2 : Int32) ki_2 dX12_writes_95 ?_
    refine ok_iadd hE dX12_writes_96 ?_
    refine ok_iload_n hE 3 rfl dX12_writes_97 ?_
    refine ok_cvV hE rmR_puts [.int (v4 + (2 : Int32)), .int p2] [] rfl ca_X12_318 shR_0 rfl (fun _ hx => mR_puts hE.sys _ _ _ _ hx) ⟨rfl, rfl, rfl, rfl⟩ rfl rfl dX12_writes_98 (fun M8 => ?_)
    refine ok_aload_n hE 1 rfl dX12_writes_101 ?_
    refine ok_iload hE 0 rfl dX12_writes_102 ?_
    refine ok_iconst hE (3 : Int32) ki_3 dX12_writes_104 ?_
    refine ok_iadd hE dX12_writes_105 ?_
    refine ok_iload_n hE 4 rfl dX12_writes_106 ?_
    refine ok_cvV hE rmR_puts [.int (v4 + (3 : Int32)), .int p3] [] rfl ca_X12_318 shR_0 rfl (fun _ hx => mR_puts hE.sys _ _ _ _ hx) ⟨rfl, rfl, rfl, rfl⟩ rfl rfl dX12_writes_107 (fun M9 => ?_)
    refine ok_aload_n hE 1 rfl dX12_writes_110 ?_
    refine ok_bipush hE (9 : Int32) kb_9 dX12_writes_111 ?_
    refine ok_aload_n hE 1 rfl dX12_writes_113 ?_
    refine ok_bipush hE (9 : Int32) kb_9 dX12_writes_114 ?_
    refine ok_cvIp hE rmR_its [.int (9 : Int32)] [.int (9 : Int32), .ref (E.Y.ad 0)] rfl ca_X12_321 shR_0 rfl (fun _ hx => mR_its hE.sys _ _ _ hx) ⟨rfl, rfl, rfl, rfl⟩ rfl rfl dX12_writes_116 (fun r10 => ?_)
    refine ok_iconst hE (1 : Int32) ki_1 dX12_writes_119 ?_
    refine ok_iadd hE dX12_writes_120 ?_
    refine ok_cvV hE rmR_puts [.int (9 : Int32), .int (r10 + (1 : Int32))] [] rfl ca_X12_318 shR_0 rfl (fun _ hx => mR_puts hE.sys _ _ _ _ hx) ⟨rfl, rfl, rfl, rfl⟩ rfl rfl dX12_writes_121 (fun M11 => ?_)
    exact ok_return hE dX12_writes_124
  refine ok_icmp_ne hE 58 rfl dX12_writes_8 ?_ ?_
  · exact ok_sub [0, 1, 2, 3] rfl (hj58 M)
  · refine ok_iconst hE (0 : Int32) ki_0 dX12_writes_11 ?_
    refine ok_istore hE (fun v12 => [(4, .int v12), (0, .ref (E.Y.ad 0)), (1, .int p1), (2, .int p2), (3, .int p3)]) (fun _ => rfl) rfl dX12_writes_12 (fun v12 => ?_)
    refine ok_fun (fun j => ∀ (M_12 : Mm), Ok E 50 [(0, .ref (E.Y.ad 0)), (1, .int p1), (2, .int p2), (3, .int p3)] [] M_12 (j M_12) (KV E)) (fun M_12 => ?_) (fun j50 hj50 => ?_)
    · refine ok_aload_n hE 0 rfl dX12_writes_50 ?_
      refine ok_bipush hE (9 : Int32) kb_9 dX12_writes_51 ?_
      refine ok_bipush hE (39 : Int32) kb_39 dX12_writes_53 ?_
      refine ok_cvV hE rmR_puts [.int (9 : Int32), .int (39 : Int32)] [] rfl ca_X12_318 shR_0 rfl (fun _ hx => mR_puts hE.sys _ _ _ _ hx) ⟨rfl, rfl, rfl, rfl⟩ rfl rfl dX12_writes_55 (fun M14 => ?_)
      exact ok_sub [0, 1, 2, 3] rfl (hj58 M14)
    refine ok_sub [1, 2, 3, 4, 0] rfl (ok_loop (σ := Int32 × Mm) 14 (fun x15 => [(0, .ref (E.Y.ad 0)), (1, .int p1), (2, .int p2), (3, .int p3), (4, .int x15.1)]) (fun x15 => x15.2) (fun rec14 hrec14 x15 => ?_) 1000000 (v12, M))
    refine ok_iload hE 4 rfl dX12_writes_14 ?_
    refine ok_sipush hE (156 : Int32) ks_156 dX12_writes_16 ?_
    refine ok_icmp_ge hE 50 rfl dX12_writes_19 ?_ ?_
    · exact ok_sub [0, 1, 2, 3] rfl (hj50 x15.2)
    · refine ok_aload_n hE 0 rfl dX12_writes_22 ?_
      refine ok_sipush hE (598 : Int32) ks_598 dX12_writes_23 ?_
      refine ok_iload hE 4 rfl dX12_writes_26 ?_
      refine ok_iadd hE dX12_writes_28 ?_
      refine ok_aload_n hE 0 rfl dX12_writes_29 ?_
      refine ok_sipush hE (598 : Int32) ks_598 dX12_writes_30 ?_
      refine ok_iload hE 4 rfl dX12_writes_33 ?_
      refine ok_iadd hE dX12_writes_35 ?_
      refine ok_iconst hE (4 : Int32) ki_4 dX12_writes_36 ?_
      refine ok_iadd hE dX12_writes_37 ?_
      refine ok_cvIp hE rmR_its [.int (((598 : Int32) + x15.1) + (4 : Int32))] [.int ((598 : Int32) + x15.1), .ref (E.Y.ad 0)] rfl ca_X12_321 shR_0 rfl (fun _ hx => mR_its hE.sys _ _ _ hx) ⟨rfl, rfl, rfl, rfl⟩ rfl rfl dX12_writes_38 (fun r16 => ?_)
      refine ok_cvV hE rmR_puts [.int ((598 : Int32) + x15.1), .int r16] [] rfl ca_X12_318 shR_0 rfl (fun _ hx => mR_puts hE.sys _ _ _ _ hx) ⟨rfl, rfl, rfl, rfl⟩ rfl rfl dX12_writes_41 (fun M17 => ?_)
      refine ok_iinc hE 4 (x15.1 + (1 : Int32)) (by rw [ko_1]) (fun v18 => [(4, .int v18), (0, .ref (E.Y.ad 0)), (1, .int p1), (2, .int p2), (3, .int p3)]) rfl (fun _ => rfl) rfl dX12_writes_44 (fun v18 => ?_)
      refine ok_goto hE 14 rfl dX12_writes_47 ?_
      exact ok_sub [1, 2, 3, 4, 0] rfl (hrec14 (v18, M17))
theorem mR_writes {l : Launch} {Y : Sys} {t : Nat} (hY : SysOk Y t shR) (p1 : Int32) (p2 : Int32) (p3 : Int32)  (M : Mm) (r : Mm) (h : R_writes p1 p2 p3 M = some r) : Cm l Y t yX12_writes (WS yX12_writes cX12_writes 5 none) rmR_writes [.ref (Y.ad 0), .int p1, .int p2, .int p3] M (enV r) := by
  refine cm_of (own := RX12) hY rfl rfl (Nat.le_of_ble_eq_true rfl) (fun E hE e1 e2 e3 e4 => ?_)
  subst e1
  exact tR_writes E hE p1 p2 p3  M r h e4.symm
def R_expires (p1 : Int32) (p2 : Int32) (M : Mm) : Option Mm :=
 bnd (R_ofQueue p1 (1 : Int32) M) fun r1 =>
 lett r1 fun v2 =>
 bnd (R_part (19 : Int32) M) fun r3 =>
 grd ((FP.fmul r3 (1063256064 : UInt32)) &&& 0x7fffffff ≤ 0x7f800000) (bnd (R_its (0 : Int32) M) fun r4 =>
 bnd (R_its (3 : Int32) M) fun r5 =>
 grd ((FP.fdiv (FP.i2f v2) (FP.i2f (r4 - r5))) &&& 0x7fffffff ≤ 0x7f800000) (grd ((FP.fmul (FP.fdiv (FP.i2f v2) (FP.i2f (r4 - r5))) (1040187392 : UInt32)) &&& 0x7fffffff ≤ 0x7f800000) (grd ((FP.fadd (FP.fmul r3 (1063256064 : UInt32)) (FP.fmul (FP.fdiv (FP.i2f v2) (FP.i2f (r4 - r5))) (1040187392 : UInt32))) &&& 0x7fffffff ≤ 0x7f800000) (bnd (R_setsPart (19 : Int32) (FP.fadd (FP.fmul r3 (1063256064 : UInt32)) (FP.fmul (FP.fdiv (FP.i2f v2) (FP.i2f (r4 - r5))) (1040187392 : UInt32))) M) fun M6 =>
 bnd (R_part (19 : Int32) M6) fun r7 =>
 bnd (R_its (7 : Int32) M6) fun r8 =>
 grd ((FP.fmul r7 (FP.i2f r8)) &&& 0x7fffffff ≤ 0x7f800000) (lett (FP.f2i (FP.fmul r7 (FP.i2f r8))) fun v9 =>
 bnd (R_greatest (gI M6 0 5) v9 M6) fun r10 =>
 bnd (R_lesser (gI M6 0 6) r10 M6) fun r11 =>
 bnd (R_puts (8 : Int32) r11 M6) fun M12 =>
 bnd (R_ofQueue p1 (0 : Int32) M12) fun r13 =>
 lett r13 fun v14 =>
 lett (fun (w_14 : Int32) =>
 lett w_14 fun v16 =>
 bnd (R_its (8 : Int32) M12) fun r17 =>
 bnd (R_greatest (gI M12 0 5) v16 M12) fun r18 =>
 bnd (R_lesser r17 r18 M12) fun r19 =>
 bnd (R_setsQueue p1 (0 : Int32) r19 M12) fun M20 =>
 bnd (R_weightOf p1 M20) fun r21 =>
 lett (FP.i2f r21) fun v22 =>
 bnd (R_part ((0 : Int32) + p1) M20) fun r23 =>
 grd ((FP.fdiv (FP.i2f v2) v22) &&& 0x7fffffff ≤ 0x7f800000) (grd ((FP.fadd r23 (FP.fdiv (FP.i2f v2) v22)) &&& 0x7fffffff ≤ 0x7f800000) (bnd (R_setsPart ((0 : Int32) + p1) (FP.fadd r23 (FP.fdiv (FP.i2f v2) v22)) M20) fun M24 =>
 bnd (R_lying p1 M24) fun r25 =>
 lett (fun (w_25 : UInt32) =>
 bnd (R_setsPart ((6 : Int32) + p1) w_25 M24) fun M27 =>
 bnd (R_setsQueue p1 (1 : Int32) (0 : Int32) M27) fun M28 =>
 bnd (R_puts (2 : Int32) (-1 : Int32) M28) fun M29 =>
 bnd (R_writes p1 p2 v2 M29) fun M30 =>
 if (gI M30 0 53) = 0 then
 (some M30)
 else
 (ald ((4 : Int32) * (gI M30 0 58)) 1604 (lett (sI M30 21 (ix ((4 : Int32) * (gI M30 0 58))) (gI M30 0 56)) fun M31 =>
 ald (((4 : Int32) * (gI M31 0 58)) + (1 : Int32)) 1604 (lett (sI M31 21 (ix (((4 : Int32) * (gI M31 0 58)) + (1 : Int32))) p1) fun M32 =>
 ald (((4 : Int32) * (gI M32 0 58)) + (2 : Int32)) 1604 (lett (sI M32 21 (ix (((4 : Int32) * (gI M32 0 58)) + (2 : Int32))) p2) fun M33 =>
 ald (((4 : Int32) * (gI M33 0 58)) + (3 : Int32)) 1604 (lett (sI M33 21 (ix (((4 : Int32) * (gI M33 0 58)) + (3 : Int32))) v2) fun M34 =>
 lett (sI M34 0 58 ((gI M34 0 58) + (1 : Int32))) fun M35 =>
 some M35)))))) fun j213 =>
 if r25 ≤ 0 then
 (bnd (R_part ((0 : Int32) + p1) M24) fun r36 =>
 j213 r36)
 else
 (bnd (R_part ((0 : Int32) + p1) M24) fun r37 =>
 bnd (R_ofQueue p1 (0 : Int32) M24) fun r38 =>
 grd ((FP.fdiv (FP.i2f r38) v22) &&& 0x7fffffff ≤ 0x7f800000) (grd ((FP.fadd r37 (FP.fdiv (FP.i2f r38) v22)) &&& 0x7fffffff ≤ 0x7f800000) (j213 (FP.fadd r37 (FP.fdiv (FP.i2f r38) v22)))))))) fun j118 =>
 if p2 = 0 then
 (j118 ((2 : Int32) * v14))
 else
 (if p2 = (1 : Int32) then
 (j118 v2)
 else
 (bnd (R_greatest (v14 / (2 : Int32)) v2 M12) fun r39 =>
 j118 r39)))))))
abbrev rmR_expires : Room := { frames := 3, cells := 0, slots := 0, locals := 66 }
set_option maxHeartbeats 4000000 in
set_option maxRecDepth 100000 in
theorem tR_expires (E : Cx) (hE : CxOk E cX12_expires RX12 shR none rmR_expires 8) (p1 : Int32) (p2 : Int32)  (M : Mm) : Ok E 0 [(0, .ref (E.Y.ad 0)), (1, .int p1), (2, .int p2)] [] M (R_expires p1 p2 M) (KV E) := by
  unfold R_expires
  refine ok_aload_n hE 0 rfl dX12_expires_0 ?_
  refine ok_iload_n hE 1 rfl dX12_expires_1 ?_
  refine ok_iconst hE (1 : Int32) ki_1 dX12_expires_2 ?_
  refine ok_cvIp hE rmR_ofQueue [.int p1, .int (1 : Int32)] [] rfl ca_X12_340 shR_0 rfl (fun _ hx => mR_ofQueue hE.sys _ _ _ _ hx) ⟨rfl, rfl, rfl, rfl⟩ rfl rfl dX12_expires_3 (fun r1 => ?_)
  refine ok_istore_n hE (fun v2 => [(3, .int v2), (0, .ref (E.Y.ad 0)), (1, .int p1), (2, .int p2)]) (fun _ => rfl) rfl dX12_expires_6 (fun v2 => ?_)
  refine ok_aload_n hE 1 rfl dX12_expires_7 ?_
  refine ok_bipush hE (19 : Int32) kb_19 dX12_expires_8 ?_
  refine ok_aload_n hE 1 rfl dX12_expires_10 ?_
  refine ok_bipush hE (19 : Int32) kb_19 dX12_expires_11 ?_
  refine ok_cvFp hE rmR_part [.int (19 : Int32)] [.int (19 : Int32), .ref (E.Y.ad 0)] rfl ca_X12_352 shR_0 rfl (fun _ hx => mR_part hE.sys _ _ _ hx) ⟨rfl, rfl, rfl, rfl⟩ rfl rfl dX12_expires_13 (fun r3 => ?_)
  refine ok_ldcwf hE ct_X12_356 dX12_expires_16 ?_
  refine ok_fmul hE dX12_expires_19 ?_
  refine ok_iload_n hE 0 rfl dX12_expires_20 ?_
  refine ok_i2f hE dX12_expires_21 ?_
  refine ok_aload_n hE 1 rfl dX12_expires_22 ?_
  refine ok_iconst hE (0 : Int32) ki_0 dX12_expires_23 ?_
  refine ok_cvIp hE rmR_its [.int (0 : Int32)] [.float (FP.i2f v2), .float (FP.fmul r3 (1063256064 : UInt32)), .int (19 : Int32), .ref (E.Y.ad 0)] rfl ca_X12_321 shR_0 rfl (fun _ hx => mR_its hE.sys _ _ _ hx) ⟨rfl, rfl, rfl, rfl⟩ rfl rfl dX12_expires_24 (fun r4 => ?_)
  refine ok_aload_n hE 1 rfl dX12_expires_27 ?_
  refine ok_iconst hE (3 : Int32) ki_3 dX12_expires_28 ?_
  refine ok_cvIp hE rmR_its [.int (3 : Int32)] [.int r4, .float (FP.i2f v2), .float (FP.fmul r3 (1063256064 : UInt32)), .int (19 : Int32), .ref (E.Y.ad 0)] rfl ca_X12_321 shR_0 rfl (fun _ hx => mR_its hE.sys _ _ _ hx) ⟨rfl, rfl, rfl, rfl⟩ rfl rfl dX12_expires_29 (fun r5 => ?_)
  refine ok_isub hE dX12_expires_32 ?_
  refine ok_i2f hE dX12_expires_33 ?_
  refine ok_fdiv hE dX12_expires_34 ?_
  refine ok_ldcwf hE ct_X12_357 dX12_expires_35 ?_
  refine ok_fmul hE dX12_expires_38 ?_
  refine ok_fadd hE dX12_expires_39 ?_
  refine ok_cvV hE rmR_setsPart [.int (19 : Int32), .float (FP.fadd (FP.fmul r3 (1063256064 : UInt32)) (FP.fmul (FP.fdiv (FP.i2f v2) (FP.i2f (r4 - r5))) (1040187392 : UInt32)))] [] rfl ca_X12_327 shR_0 rfl (fun _ hx => mR_setsPart hE.sys _ _ _ _ hx) ⟨rfl, rfl, rfl, rfl⟩ rfl rfl dX12_expires_40 (fun M6 => ?_)
  refine ok_aload_n hE 1 rfl dX12_expires_43 ?_
  refine ok_bipush hE (19 : Int32) kb_19 dX12_expires_44 ?_
  refine ok_cvFp hE rmR_part [.int (19 : Int32)] [] rfl ca_X12_352 shR_0 rfl (fun _ hx => mR_part hE.sys _ _ _ hx) ⟨rfl, rfl, rfl, rfl⟩ rfl rfl dX12_expires_46 (fun r7 => ?_)
  refine ok_aload_n hE 1 rfl dX12_expires_49 ?_
  refine ok_bipush hE (7 : Int32) kb_7 dX12_expires_50 ?_
  refine ok_cvIp hE rmR_its [.int (7 : Int32)] [.float r7] rfl ca_X12_321 shR_0 rfl (fun _ hx => mR_its hE.sys _ _ _ hx) ⟨rfl, rfl, rfl, rfl⟩ rfl rfl dX12_expires_52 (fun r8 => ?_)
  refine ok_i2f hE dX12_expires_55 ?_
  refine ok_fmul hE dX12_expires_56 ?_
  refine ok_f2i hE dX12_expires_57 ?_
  refine ok_istore hE (fun v9 => [(4, .int v9), (3, .int v2), (0, .ref (E.Y.ad 0)), (1, .int p1), (2, .int p2)]) (fun _ => rfl) rfl dX12_expires_58 (fun v9 => ?_)
  refine ok_aload_n hE 2 rfl dX12_expires_60 ?_
  refine ok_bipush hE (8 : Int32) kb_8 dX12_expires_61 ?_
  refine ok_aload_n hE 2 rfl dX12_expires_63 ?_
  refine ok_getI hE fl_X12_29 shR_0 rfl dX12_expires_64 ?_
  refine ok_aload_n hE 2 rfl dX12_expires_67 ?_
  refine ok_getI hE fl_X12_26 shR_0 rfl dX12_expires_68 ?_
  refine ok_iload hE 0 rfl dX12_expires_71 ?_
  refine ok_csIp hE rmR_greatest [.int (gI M6 0 5), .int v9] [.int (gI M6 0 6), .int (8 : Int32), .ref (E.Y.ad 0)] rfl ca_X12_384 (fun _ hx => mR_greatest hE.sys _ _ _ _ hx) ⟨rfl, rfl, rfl, rfl⟩ rfl rfl dX12_expires_73 (fun r10 => ?_)
  refine ok_csIp hE rmR_lesser [.int (gI M6 0 6), .int r10] [.int (8 : Int32), .ref (E.Y.ad 0)] rfl ca_X12_276 (fun _ hx => mR_lesser hE.sys _ _ _ _ hx) ⟨rfl, rfl, rfl, rfl⟩ rfl rfl dX12_expires_76 (fun r11 => ?_)
  refine ok_cvV hE rmR_puts [.int (8 : Int32), .int r11] [] rfl ca_X12_318 shR_0 rfl (fun _ hx => mR_puts hE.sys _ _ _ _ hx) ⟨rfl, rfl, rfl, rfl⟩ rfl rfl dX12_expires_79 (fun M12 => ?_)
  refine ok_aload_n hE 2 rfl dX12_expires_82 ?_
  refine ok_iload_n hE 3 rfl dX12_expires_83 ?_
  refine ok_iconst hE (0 : Int32) ki_0 dX12_expires_84 ?_
  refine ok_cvIp hE rmR_ofQueue [.int p1, .int (0 : Int32)] [] rfl ca_X12_340 shR_0 rfl (fun _ hx => mR_ofQueue hE.sys _ _ _ _ hx) ⟨rfl, rfl, rfl, rfl⟩ rfl rfl dX12_expires_85 (fun r13 => ?_)
  refine ok_istore hE (fun v14 => [(5, .int v14), (4, .int v9), (3, .int v2), (0, .ref (E.Y.ad 0)), (1, .int p1), (2, .int p2)]) (fun _ => rfl) rfl dX12_expires_88 (fun v14 => ?_)
  refine ok_iload_n hE 5 rfl dX12_expires_90 ?_
  refine ok_fun (fun j => ∀ (w_14 : Int32), Ok E 118 [(0, .ref (E.Y.ad 0)), (1, .int p1), (2, .int p2), (3, .int v2)] [.int w_14] M12 (j w_14) (KV E)) (fun w_14 => ?_) (fun j118 hj118 => ?_)
  · refine ok_istore hE (fun v16 => [(6, .int v16), (0, .ref (E.Y.ad 0)), (1, .int p1), (2, .int p2), (3, .int v2)]) (fun _ => rfl) rfl dX12_expires_118 (fun v16 => ?_)
    refine ok_aload_n hE 1 rfl dX12_expires_120 ?_
    refine ok_iload_n hE 2 rfl dX12_expires_121 ?_
    refine ok_iconst hE (0 : Int32) ki_0 dX12_expires_122 ?_
    refine ok_aload_n hE 1 rfl dX12_expires_123 ?_
    refine ok_bipush hE (8 : Int32) kb_8 dX12_expires_124 ?_
    refine ok_cvIp hE rmR_its [.int (8 : Int32)] [.int (0 : Int32), .int p1, .ref (E.Y.ad 0)] rfl ca_X12_321 shR_0 rfl (fun _ hx => mR_its hE.sys _ _ _ hx) ⟨rfl, rfl, rfl, rfl⟩ rfl rfl dX12_expires_126 (fun r17 => ?_)
    refine ok_aload_n hE 1 rfl dX12_expires_129 ?_
    refine ok_getI hE fl_X12_26 shR_0 rfl dX12_expires_130 ?_
    refine ok_iload hE 0 rfl dX12_expires_133 ?_
    refine ok_csIp hE rmR_greatest [.int (gI M12 0 5), .int v16] [.int r17, .int (0 : Int32), .int p1, .ref (E.Y.ad 0)] rfl ca_X12_384 (fun _ hx => mR_greatest hE.sys _ _ _ _ hx) ⟨rfl, rfl, rfl, rfl⟩ rfl rfl dX12_expires_135 (fun r18 => ?_)
    refine ok_csIp hE rmR_lesser [.int r17, .int r18] [.int (0 : Int32), .int p1, .ref (E.Y.ad 0)] rfl ca_X12_276 (fun _ hx => mR_lesser hE.sys _ _ _ _ hx) ⟨rfl, rfl, rfl, rfl⟩ rfl rfl dX12_expires_138 (fun r19 => ?_)
    refine ok_cvV hE rmR_setsQueue [.int p1, .int (0 : Int32), .int r19] [] rfl ca_X12_331 shR_0 rfl (fun _ hx => mR_setsQueue hE.sys _ _ _ _ _ hx) ⟨rfl, rfl, rfl, rfl⟩ rfl rfl dX12_expires_141 (fun M20 => ?_)
    refine ok_aload_n hE 1 rfl dX12_expires_144 ?_
    refine ok_iload_n hE 2 rfl dX12_expires_145 ?_
    refine ok_cvIp hE rmR_weightOf [.int p1] [] rfl ca_X12_358 shR_0 rfl (fun _ hx => mR_weightOf hE.sys _ _ _ hx) ⟨rfl, rfl, rfl, rfl⟩ rfl rfl dX12_expires_146 (fun r21 => ?_)
    refine ok_i2f hE dX12_expires_149 ?_
    refine ok_fstore hE (fun v22 => [(7, .float v22), (6, .int v16), (0, .ref (E.Y.ad 0)), (1, .int p1), (2, .int p2), (3, .int v2)]) (fun _ => rfl) rfl dX12_expires_150 (fun v22 => ?_)
    refine ok_aload_n hE 2 rfl dX12_expires_152 ?_
    refine ok_iconst hE (0 : Int32) ki_0 dX12_expires_153 ?_
    refine ok_iload_n hE 3 rfl dX12_expires_154 ?_
    refine ok_iadd hE dX12_expires_155 ?_
    refine ok_aload_n hE 2 rfl dX12_expires_156 ?_
    refine ok_iconst hE (0 : Int32) ki_0 dX12_expires_157 ?_
    refine ok_iload_n hE 3 rfl dX12_expires_158 ?_
    refine ok_iadd hE dX12_expires_159 ?_
    refine ok_cvFp hE rmR_part [.int ((0 : Int32) + p1)] [.int ((0 : Int32) + p1), .ref (E.Y.ad 0)] rfl ca_X12_352 shR_0 rfl (fun _ hx => mR_part hE.sys _ _ _ hx) ⟨rfl, rfl, rfl, rfl⟩ rfl rfl dX12_expires_160 (fun r23 => ?_)
    refine ok_iload_n hE 5 rfl dX12_expires_163 ?_
    refine ok_i2f hE dX12_expires_164 ?_
    refine ok_fload hE 0 rfl dX12_expires_165 ?_
    refine ok_fdiv hE dX12_expires_167 ?_
    refine ok_fadd hE dX12_expires_168 ?_
    refine ok_cvV hE rmR_setsPart [.int ((0 : Int32) + p1), .float (FP.fadd r23 (FP.fdiv (FP.i2f v2) v22))] [] rfl ca_X12_327 shR_0 rfl (fun _ hx => mR_setsPart hE.sys _ _ _ _ hx) ⟨rfl, rfl, rfl, rfl⟩ rfl rfl dX12_expires_169 (fun M24 => ?_)
    refine ok_aload_n hE 2 rfl dX12_expires_172 ?_
    refine ok_bipush hE (6 : Int32) kb_6 dX12_expires_173 ?_
    refine ok_iload_n hE 3 rfl dX12_expires_175 ?_
    refine ok_iadd hE dX12_expires_176 ?_
    refine ok_aload_n hE 2 rfl dX12_expires_177 ?_
    refine ok_iload_n hE 3 rfl dX12_expires_178 ?_
    refine ok_cvIp hE rmR_lying [.int p1] [.int ((6 : Int32) + p1), .ref (E.Y.ad 0)] rfl ca_X12_349 shR_0 rfl (fun _ hx => mR_lying hE.sys _ _ _ hx) ⟨rfl, rfl, rfl, rfl⟩ rfl rfl dX12_expires_179 (fun r25 => ?_)
    refine ok_fun (fun j => ∀ (w_25 : UInt32), Ok E 213 [(0, .ref (E.Y.ad 0)), (1, .int p1), (2, .int p2), (3, .int v2)] [.float w_25, .int ((6 : Int32) + p1), .ref (E.Y.ad 0)] M24 (j w_25) (KV E)) (fun w_25 => ?_) (fun j213 hj213 => ?_)
    · refine ok_cvV hE rmR_setsPart [.int ((6 : Int32) + p1), .float w_25] [] rfl ca_X12_327 shR_0 rfl (fun _ hx => mR_setsPart hE.sys _ _ _ _ hx) ⟨rfl, rfl, rfl, rfl⟩ rfl rfl dX12_expires_213 (fun M27 => ?_)
      refine ok_aload_n hE 0 rfl dX12_expires_216 ?_
      refine ok_iload_n hE 1 rfl dX12_expires_217 ?_
      refine ok_iconst hE (1 : Int32) ki_1 dX12_expires_218 ?_
      refine ok_iconst hE (0 : Int32) ki_0 dX12_expires_219 ?_
      refine ok_cvV hE rmR_setsQueue [.int p1, .int (1 : Int32), .int (0 : Int32)] [] rfl ca_X12_331 shR_0 rfl (fun _ hx => mR_setsQueue hE.sys _ _ _ _ _ hx) ⟨rfl, rfl, rfl, rfl⟩ rfl rfl dX12_expires_220 (fun M28 => ?_)
      refine ok_aload_n hE 0 rfl dX12_expires_223 ?_
      refine ok_iconst hE (2 : Int32) ki_2 dX12_expires_224 ?_
      refine ok_iconst hE (-1 : Int32) ki_m1 dX12_expires_225 ?_
      refine ok_cvV hE rmR_puts [.int (2 : Int32), .int (-1 : Int32)] [] rfl ca_X12_318 shR_0 rfl (fun _ hx => mR_puts hE.sys _ _ _ _ hx) ⟨rfl, rfl, rfl, rfl⟩ rfl rfl dX12_expires_226 (fun M29 => ?_)
      refine ok_aload_n hE 0 rfl dX12_expires_229 ?_
      refine ok_iload_n hE 1 rfl dX12_expires_230 ?_
      refine ok_iload_n hE 2 rfl dX12_expires_231 ?_
      refine ok_iload_n hE 3 rfl dX12_expires_232 ?_
      refine ok_cvV hE rmR_writes [.int p1, .int p2, .int v2] [] rfl ca_X12_390 shR_0 rfl (fun _ hx => mR_writes hE.sys _ _ _ _ _ hx) ⟨rfl, rfl, rfl, rfl⟩ rfl rfl dX12_expires_233 (fun M30 => ?_)
      refine ok_aload_n hE 0 rfl dX12_expires_236 ?_
      refine ok_getI hE fl_X12_172 shR_0 rfl dX12_expires_237 ?_
      refine ok_if_ne hE 244 rfl dX12_expires_240 ?_ ?_
      · refine ok_aload_n hE 0 rfl dX12_expires_244 ?_
        refine ok_getA hE fl_X12_193 shR_0 rfl dX12_expires_245 ?_
        refine ok_iconst hE (4 : Int32) ki_4 dX12_expires_248 ?_
        refine ok_aload_n hE 0 rfl dX12_expires_249 ?_
        refine ok_getI hE fl_X12_187 shR_0 rfl dX12_expires_250 ?_
        refine ok_imul hE dX12_expires_253 ?_
        refine ok_aload_n hE 0 rfl dX12_expires_254 ?_
        refine ok_getI hE fl_X12_181 shR_0 rfl dX12_expires_255 ?_
        refine ok_iastore hE shR_21 dX12_expires_258 (fun M31 => ?_)
        refine ok_aload_n hE 0 rfl dX12_expires_259 ?_
        refine ok_getA hE fl_X12_193 shR_0 rfl dX12_expires_260 ?_
        refine ok_iconst hE (4 : Int32) ki_4 dX12_expires_263 ?_
        refine ok_aload_n hE 0 rfl dX12_expires_264 ?_
        refine ok_getI hE fl_X12_187 shR_0 rfl dX12_expires_265 ?_
        refine ok_imul hE dX12_expires_268 ?_
        refine ok_iconst hE (1 : Int32) ki_1 dX12_expires_269 ?_
        refine ok_iadd hE dX12_expires_270 ?_
        refine ok_iload_n hE 1 rfl dX12_expires_271 ?_
        refine ok_iastore hE shR_21 dX12_expires_272 (fun M32 => ?_)
        refine ok_aload_n hE 0 rfl dX12_expires_273 ?_
        refine ok_getA hE fl_X12_193 shR_0 rfl dX12_expires_274 ?_
        refine ok_iconst hE (4 : Int32) ki_4 dX12_expires_277 ?_
        refine ok_aload_n hE 0 rfl dX12_expires_278 ?_
        refine ok_getI hE fl_X12_187 shR_0 rfl dX12_expires_279 ?_
        refine ok_imul hE dX12_expires_282 ?_
        refine ok_iconst hE (2 : Int32) ki_2 dX12_expires_283 ?_
        refine ok_iadd hE dX12_expires_284 ?_
        refine ok_iload_n hE 2 rfl dX12_expires_285 ?_
        refine ok_iastore hE shR_21 dX12_expires_286 (fun M33 => ?_)
        refine ok_aload_n hE 0 rfl dX12_expires_287 ?_
        refine ok_getA hE fl_X12_193 shR_0 rfl dX12_expires_288 ?_
        refine ok_iconst hE (4 : Int32) ki_4 dX12_expires_291 ?_
        refine ok_aload_n hE 0 rfl dX12_expires_292 ?_
        refine ok_getI hE fl_X12_187 shR_0 rfl dX12_expires_293 ?_
        refine ok_imul hE dX12_expires_296 ?_
        refine ok_iconst hE (3 : Int32) ki_3 dX12_expires_297 ?_
        refine ok_iadd hE dX12_expires_298 ?_
        refine ok_iload_n hE 3 rfl dX12_expires_299 ?_
        refine ok_iastore hE shR_21 dX12_expires_300 (fun M34 => ?_)
        refine ok_aload_n hE 0 rfl dX12_expires_301 ?_
        refine ok_dup hE rfl dX12_expires_302 ?_
        refine ok_getI hE fl_X12_187 shR_0 rfl dX12_expires_303 ?_
        refine ok_iconst hE (1 : Int32) ki_1 dX12_expires_306 ?_
        refine ok_iadd hE dX12_expires_307 ?_
        refine ok_putI hE fl_X12_187 shR_0 rfl dX12_expires_308 (fun M35 => ?_)
        exact ok_return hE dX12_expires_311
      · exact ok_return hE dX12_expires_243
    refine ok_if_le hE 206 rfl dX12_expires_182 ?_ ?_
    · refine ok_aload_n hE 2 rfl dX12_expires_206 ?_
      refine ok_iconst hE (0 : Int32) ki_0 dX12_expires_207 ?_
      refine ok_iload_n hE 3 rfl dX12_expires_208 ?_
      refine ok_iadd hE dX12_expires_209 ?_
      refine ok_cvFp hE rmR_part [.int ((0 : Int32) + p1)] [.int ((6 : Int32) + p1), .ref (E.Y.ad 0)] rfl ca_X12_352 shR_0 rfl (fun _ hx => mR_part hE.sys _ _ _ hx) ⟨rfl, rfl, rfl, rfl⟩ rfl rfl dX12_expires_210 (fun r36 => ?_)
      exact ok_sub [2, 3, 4, 5] rfl (hj213 r36)
    · refine ok_aload_n hE 2 rfl dX12_expires_185 ?_
      refine ok_iconst hE (0 : Int32) ki_0 dX12_expires_186 ?_
      refine ok_iload_n hE 3 rfl dX12_expires_187 ?_
      refine ok_iadd hE dX12_expires_188 ?_
      refine ok_cvFp hE rmR_part [.int ((0 : Int32) + p1)] [.int ((6 : Int32) + p1), .ref (E.Y.ad 0)] rfl ca_X12_352 shR_0 rfl (fun _ hx => mR_part hE.sys _ _ _ hx) ⟨rfl, rfl, rfl, rfl⟩ rfl rfl dX12_expires_189 (fun r37 => ?_)
      refine ok_aload_n hE 2 rfl dX12_expires_192 ?_
      refine ok_iload_n hE 3 rfl dX12_expires_193 ?_
      refine ok_iconst hE (0 : Int32) ki_0 dX12_expires_194 ?_
      refine ok_cvIp hE rmR_ofQueue [.int p1, .int (0 : Int32)] [.float r37, .int ((6 : Int32) + p1), .ref (E.Y.ad 0)] rfl ca_X12_340 shR_0 rfl (fun _ hx => mR_ofQueue hE.sys _ _ _ _ hx) ⟨rfl, rfl, rfl, rfl⟩ rfl rfl dX12_expires_195 (fun r38 => ?_)
      refine ok_i2f hE dX12_expires_198 ?_
      refine ok_fload hE 0 rfl dX12_expires_199 ?_
      refine ok_fdiv hE dX12_expires_201 ?_
      refine ok_fadd hE dX12_expires_202 ?_
      refine ok_goto hE 213 rfl dX12_expires_203 ?_
      exact ok_sub [2, 3, 4, 5] rfl (hj213 (FP.fadd r37 (FP.fdiv (FP.i2f r38) v22)))
  refine ok_if_ne hE 101 rfl dX12_expires_91 ?_ ?_
  · refine ok_iload_n hE 5 rfl dX12_expires_101 ?_
    refine ok_iconst hE (1 : Int32) ki_1 dX12_expires_102 ?_
    refine ok_icmp_ne hE 110 rfl dX12_expires_103 ?_ ?_
    · refine ok_iload hE 0 rfl dX12_expires_110 ?_
      refine ok_iconst hE (2 : Int32) ki_2 dX12_expires_112 ?_
      refine ok_idivC hE (by decide) dX12_expires_113 ?_
      refine ok_iload_n hE 2 rfl dX12_expires_114 ?_
      refine ok_csIp hE rmR_greatest [.int (v14 / (2 : Int32)), .int v2] [] rfl ca_X12_384 (fun _ hx => mR_greatest hE.sys _ _ _ _ hx) ⟨rfl, rfl, rfl, rfl⟩ rfl rfl dX12_expires_115 (fun r39 => ?_)
      exact ok_sub [3, 4, 5, 2] rfl (hj118 r39)
    · refine ok_iload_n hE 2 rfl dX12_expires_106 ?_
      refine ok_goto hE 118 rfl dX12_expires_107 ?_
      exact ok_sub [3, 4, 5, 2] rfl (hj118 v2)
  · refine ok_iconst hE (2 : Int32) ki_2 dX12_expires_94 ?_
    refine ok_iload hE 0 rfl dX12_expires_95 ?_
    refine ok_imul hE dX12_expires_97 ?_
    refine ok_goto hE 118 rfl dX12_expires_98 ?_
    exact ok_sub [3, 4, 5, 2] rfl (hj118 ((2 : Int32) * v14))
theorem mR_expires {l : Launch} {Y : Sys} {t : Nat} (hY : SysOk Y t shR) (p1 : Int32) (p2 : Int32)  (M : Mm) (r : Mm) (h : R_expires p1 p2 M = some r) : Cm l Y t yX12_expires (WS yX12_expires cX12_expires 8 none) rmR_expires [.ref (Y.ad 0), .int p1, .int p2] M (enV r) := by
  refine cm_of (own := RX12) hY rfl rfl (Nat.le_of_ble_eq_true rfl) (fun E hE e1 e2 e3 e4 => ?_)
  subst e1
  exact tR_expires E hE p1 p2  M r h e4.symm
def R_keepsOn (p1 : Int32) (M : Mm) : Option (Int32 × Mm) :=
 bnd (R_nextOf p1 M) fun r1 =>
 lett r1 fun v2 =>
 if v2 = (-1 : Int32) then
 (bnd (R_its (0 : Int32) M) fun r13 =>
 bnd (R_its (4 : Int32) M) fun r14 =>
 if r14 ≤ r13 then
 (bnd (R_expires p1 (2 : Int32) M) fun M15 =>
 some ((0 : Int32), M15))
 else
 (some ((1 : Int32), M)))
 else
 (bnd (R_ofQueue p1 (1 : Int32) M) fun r3 =>
 lett (fun (_ : Unit) =>
 bnd (R_its (0 : Int32) M) fun r4 =>
 bnd (R_its (3 : Int32) M) fun r5 =>
 bnd (R_its (7 : Int32) M) fun r6 =>
 if (r4 - r5) < r6 then
 (bnd (R_goesNext v2 M) fun M7 =>
 some ((1 : Int32), M7))
 else
 (bnd (R_expires p1 (1 : Int32) M) fun M8 =>
 some ((0 : Int32), M8))) fun j73 =>
 if r3 = 0 then
 (j73 ())
 else
 (bnd (R_ofQueue p1 (1 : Int32) M) fun r9 =>
 bnd (R_ofRequest v2 (2 : Int32) M) fun r10 =>
 bnd (R_ofQueue p1 (0 : Int32) M) fun r11 =>
 if (r9 + r10) ≤ r11 then
 (j73 ())
 else
 (bnd (R_expires p1 (0 : Int32) M) fun M12 =>
 some ((0 : Int32), M12))))
abbrev rmR_keepsOn : Room := { frames := 4, cells := 0, slots := 0, locals := 93 }
set_option maxHeartbeats 4000000 in
set_option maxRecDepth 100000 in
theorem tR_keepsOn (E : Cx) (hE : CxOk E cX12_keepsOn RX12 shR (some .boolean) rmR_keepsOn 3) (p1 : Int32)  (M : Mm) : Ok E 0 [(0, .ref (E.Y.ad 0)), (1, .int p1)] [] M (R_keepsOn p1 M) (KI E) := by
  unfold R_keepsOn
  refine ok_aload_n hE 0 rfl dX12_keepsOn_0 ?_
  refine ok_iload_n hE 1 rfl dX12_keepsOn_1 ?_
  refine ok_cvIp hE rmR_nextOf [.int p1] [] rfl ca_X12_372 shR_0 rfl (fun _ hx => mR_nextOf hE.sys _ _ _ hx) ⟨rfl, rfl, rfl, rfl⟩ rfl rfl dX12_keepsOn_2 (fun r1 => ?_)
  refine ok_istore_n hE (fun v2 => [(2, .int v2), (0, .ref (E.Y.ad 0)), (1, .int p1)]) (fun _ => rfl) rfl dX12_keepsOn_5 (fun v2 => ?_)
  refine ok_iload_n hE 0 rfl dX12_keepsOn_6 ?_
  refine ok_iconst hE (-1 : Int32) ki_m1 dX12_keepsOn_7 ?_
  refine ok_icmp_ne hE 34 rfl dX12_keepsOn_8 ?_ ?_
  · refine ok_aload_n hE 1 rfl dX12_keepsOn_34 ?_
    refine ok_iload_n hE 2 rfl dX12_keepsOn_35 ?_
    refine ok_iconst hE (1 : Int32) ki_1 dX12_keepsOn_36 ?_
    refine ok_cvIp hE rmR_ofQueue [.int p1, .int (1 : Int32)] [] rfl ca_X12_340 shR_0 rfl (fun _ hx => mR_ofQueue hE.sys _ _ _ _ hx) ⟨rfl, rfl, rfl, rfl⟩ rfl rfl dX12_keepsOn_37 (fun r3 => ?_)
    refine ok_fun (fun j => ∀ (_ : Unit), Ok E 73 [(0, .ref (E.Y.ad 0)), (1, .int p1), (2, .int v2)] [] M (j ()) (KI E)) (fun _ => ?_) (fun j73 hj73 => ?_)
    · refine ok_aload_n hE 0 rfl dX12_keepsOn_73 ?_
      refine ok_iconst hE (0 : Int32) ki_0 dX12_keepsOn_74 ?_
      refine ok_cvIp hE rmR_its [.int (0 : Int32)] [] rfl ca_X12_321 shR_0 rfl (fun _ hx => mR_its hE.sys _ _ _ hx) ⟨rfl, rfl, rfl, rfl⟩ rfl rfl dX12_keepsOn_75 (fun r4 => ?_)
      refine ok_aload_n hE 0 rfl dX12_keepsOn_78 ?_
      refine ok_iconst hE (3 : Int32) ki_3 dX12_keepsOn_79 ?_
      refine ok_cvIp hE rmR_its [.int (3 : Int32)] [.int r4] rfl ca_X12_321 shR_0 rfl (fun _ hx => mR_its hE.sys _ _ _ hx) ⟨rfl, rfl, rfl, rfl⟩ rfl rfl dX12_keepsOn_80 (fun r5 => ?_)
      refine ok_isub hE dX12_keepsOn_83 ?_
      refine ok_aload_n hE 0 rfl dX12_keepsOn_84 ?_
      refine ok_bipush hE (7 : Int32) kb_7 dX12_keepsOn_85 ?_
      refine ok_cvIp hE rmR_its [.int (7 : Int32)] [.int (r4 - r5)] rfl ca_X12_321 shR_0 rfl (fun _ hx => mR_its hE.sys _ _ _ hx) ⟨rfl, rfl, rfl, rfl⟩ rfl rfl dX12_keepsOn_87 (fun r6 => ?_)
      refine ok_icmp_lt hE 101 rfl dX12_keepsOn_90 ?_ ?_
      · refine ok_aload_n hE 0 rfl dX12_keepsOn_101 ?_
        refine ok_iload_n hE 2 rfl dX12_keepsOn_102 ?_
        refine ok_cvV hE rmR_goesNext [.int v2] [] rfl ca_X12_378 shR_0 rfl (fun _ hx => mR_goesNext hE.sys _ _ _ hx) ⟨rfl, rfl, rfl, rfl⟩ rfl rfl dX12_keepsOn_103 (fun M7 => ?_)
        refine ok_iconst hE (1 : Int32) ki_1 dX12_keepsOn_106 ?_
        exact ok_zreturn hE (Or.inr rfl) dX12_keepsOn_107
      · refine ok_aload_n hE 0 rfl dX12_keepsOn_93 ?_
        refine ok_iload_n hE 1 rfl dX12_keepsOn_94 ?_
        refine ok_iconst hE (1 : Int32) ki_1 dX12_keepsOn_95 ?_
        refine ok_cvV hE rmR_expires [.int p1, .int (1 : Int32)] [] rfl ca_X12_375 shR_0 rfl (fun _ hx => mR_expires hE.sys _ _ _ _ hx) ⟨rfl, rfl, rfl, rfl⟩ rfl rfl dX12_keepsOn_96 (fun M8 => ?_)
        refine ok_iconst hE (0 : Int32) ki_0 dX12_keepsOn_99 ?_
        exact ok_zreturn hE (Or.inl rfl) dX12_keepsOn_100
    refine ok_if_eq hE 73 rfl dX12_keepsOn_40 ?_ ?_
    · exact ok_sub [1, 2, 0] rfl (hj73 ())
    · refine ok_aload_n hE 1 rfl dX12_keepsOn_43 ?_
      refine ok_iload_n hE 2 rfl dX12_keepsOn_44 ?_
      refine ok_iconst hE (1 : Int32) ki_1 dX12_keepsOn_45 ?_
      refine ok_cvIp hE rmR_ofQueue [.int p1, .int (1 : Int32)] [] rfl ca_X12_340 shR_0 rfl (fun _ hx => mR_ofQueue hE.sys _ _ _ _ hx) ⟨rfl, rfl, rfl, rfl⟩ rfl rfl dX12_keepsOn_46 (fun r9 => ?_)
      refine ok_aload_n hE 1 rfl dX12_keepsOn_49 ?_
      refine ok_iload_n hE 0 rfl dX12_keepsOn_50 ?_
      refine ok_iconst hE (2 : Int32) ki_2 dX12_keepsOn_51 ?_
      refine ok_cvIp hE rmR_ofRequest [.int v2, .int (2 : Int32)] [.int r9] rfl ca_X12_334 shR_0 rfl (fun _ hx => mR_ofRequest hE.sys _ _ _ _ hx) ⟨rfl, rfl, rfl, rfl⟩ rfl rfl dX12_keepsOn_52 (fun r10 => ?_)
      refine ok_iadd hE dX12_keepsOn_55 ?_
      refine ok_aload_n hE 1 rfl dX12_keepsOn_56 ?_
      refine ok_iload_n hE 2 rfl dX12_keepsOn_57 ?_
      refine ok_iconst hE (0 : Int32) ki_0 dX12_keepsOn_58 ?_
      refine ok_cvIp hE rmR_ofQueue [.int p1, .int (0 : Int32)] [.int (r9 + r10)] rfl ca_X12_340 shR_0 rfl (fun _ hx => mR_ofQueue hE.sys _ _ _ _ hx) ⟨rfl, rfl, rfl, rfl⟩ rfl rfl dX12_keepsOn_59 (fun r11 => ?_)
      refine ok_icmp_le hE 73 rfl dX12_keepsOn_62 ?_ ?_
      · exact ok_sub [1, 2, 0] rfl (hj73 ())
      · refine ok_aload_n hE 1 rfl dX12_keepsOn_65 ?_
        refine ok_iload_n hE 2 rfl dX12_keepsOn_66 ?_
        refine ok_iconst hE (0 : Int32) ki_0 dX12_keepsOn_67 ?_
        refine ok_cvV hE rmR_expires [.int p1, .int (0 : Int32)] [] rfl ca_X12_375 shR_0 rfl (fun _ hx => mR_expires hE.sys _ _ _ _ hx) ⟨rfl, rfl, rfl, rfl⟩ rfl rfl dX12_keepsOn_68 (fun M12 => ?_)
        refine ok_iconst hE (0 : Int32) ki_0 dX12_keepsOn_71 ?_
        exact ok_zreturn hE (Or.inl rfl) dX12_keepsOn_72
  · refine ok_aload_n hE 1 rfl dX12_keepsOn_11 ?_
    refine ok_iconst hE (0 : Int32) ki_0 dX12_keepsOn_12 ?_
    refine ok_cvIp hE rmR_its [.int (0 : Int32)] [] rfl ca_X12_321 shR_0 rfl (fun _ hx => mR_its hE.sys _ _ _ hx) ⟨rfl, rfl, rfl, rfl⟩ rfl rfl dX12_keepsOn_13 (fun r13 => ?_)
    refine ok_aload_n hE 1 rfl dX12_keepsOn_16 ?_
    refine ok_iconst hE (4 : Int32) ki_4 dX12_keepsOn_17 ?_
    refine ok_cvIp hE rmR_its [.int (4 : Int32)] [.int r13] rfl ca_X12_321 shR_0 rfl (fun _ hx => mR_its hE.sys _ _ _ hx) ⟨rfl, rfl, rfl, rfl⟩ rfl rfl dX12_keepsOn_18 (fun r14 => ?_)
    refine ok_icmp_ge hE 26 rfl dX12_keepsOn_21 ?_ ?_
    · refine ok_aload_n hE 1 rfl dX12_keepsOn_26 ?_
      refine ok_iload_n hE 2 rfl dX12_keepsOn_27 ?_
      refine ok_iconst hE (2 : Int32) ki_2 dX12_keepsOn_28 ?_
      refine ok_cvV hE rmR_expires [.int p1, .int (2 : Int32)] [] rfl ca_X12_375 shR_0 rfl (fun _ hx => mR_expires hE.sys _ _ _ _ hx) ⟨rfl, rfl, rfl, rfl⟩ rfl rfl dX12_keepsOn_29 (fun M15 => ?_)
      refine ok_iconst hE (0 : Int32) ki_0 dX12_keepsOn_32 ?_
      exact ok_zreturn hE (Or.inl rfl) dX12_keepsOn_33
    · refine ok_iconst hE (1 : Int32) ki_1 dX12_keepsOn_24 ?_
      exact ok_zreturn hE (Or.inr rfl) dX12_keepsOn_25
theorem mR_keepsOn {l : Launch} {Y : Sys} {t : Nat} (hY : SysOk Y t shR) (p1 : Int32)  (M : Mm) (r : (Int32 × Mm)) (h : R_keepsOn p1 M = some r) : Cm l Y t yX12_keepsOn (WS yX12_keepsOn cX12_keepsOn 3 (some .boolean)) rmR_keepsOn [.ref (Y.ad 0), .int p1] M (enI r) := by
  refine cm_of (own := RX12) hY rfl rfl (Nat.le_of_ble_eq_true rfl) (fun E hE e1 e2 e3 e4 => ?_)
  subst e1
  exact tR_keepsOn E hE p1  M r h e4.symm
def R_chooses  (M : Mm) : Option Mm :=
 bnd (R_its (2 : Int32) M) fun r1 =>
 lett (fun (M_1 : Mm) =>
 lett (-1 : Int32) fun v3 =>
 lett (0 : Int32) fun v4 =>
 lett (fun (u_4 : Int32) =>
 if u_4 = (-1 : Int32) then
 (some M_1)
 else
 (bnd (R_part ((0 : Int32) + u_4) M_1) fun r6 =>
 bnd (R_part (18 : Int32) M_1) fun r7 =>
 lett (fun (M_7 : Mm) =>
 lett (-1 : Int32) fun v9 =>
 lett (0 : Int32) fun v10 =>
 lett (fun (u_10 : Int32) =>
 bnd (R_puts (2 : Int32) u_10 M_7) fun M12 =>
 bnd (R_its (0 : Int32) M12) fun r13 =>
 bnd (R_puts (3 : Int32) r13 M12) fun M14 =>
 bnd (R_setsQueue u_10 (1 : Int32) (0 : Int32) M14) fun M15 =>
 bnd (R_nextOf u_10 M15) fun r16 =>
 bnd (R_goesNext r16 M15) fun M17 =>
 some M17) fun j182 =>
 loopR (fun (rec113 : (Int32 × Int32) → Option Mm) (x18 : Int32 × Int32) =>
 if (gI M_7 0 1) ≤ x18.2 then
 (j182 x18.1)
 else
 (bnd (R_lying x18.2 M_7) fun r19 =>
 lett (fun (u_19 : Int32) =>
 lett (x18.2 + (1 : Int32)) fun v21 =>
 rec113 (u_19, v21)) fun j176 =>
 if r19 = 0 then
 (j176 x18.1)
 else
 (bnd (R_part ((0 : Int32) + x18.2) M_7) fun r22 =>
 bnd (R_part (18 : Int32) M_7) fun r23 =>
 if (Op.cmpValue (FP.fcmp r22 r23) .l) ≤ 0 then
 (lett (fun (_ : Unit) =>
 lett x18.2 fun v24 =>
 j176 v24) fun j174 =>
 if x18.1 = (-1 : Int32) then
 (j174 ())
 else
 (bnd (R_part ((6 : Int32) + x18.2) M_7) fun r25 =>
 bnd (R_part ((6 : Int32) + x18.1) M_7) fun r26 =>
 if 0 ≤ (Op.cmpValue (FP.fcmp r25 r26) .g) then
 (j176 x18.1)
 else
 (j174 ())))
 else
 (j176 x18.1)))) 1000000 (v9, v10)) fun j109 =>
 if (Op.cmpValue (FP.fcmp r6 r7) .l) ≤ 0 then
 (j109 M_1)
 else
 (bnd (R_part ((0 : Int32) + u_4) M_1) fun r27 =>
 bnd (R_setsPart (18 : Int32) r27 M_1) fun M28 =>
 j109 M28))) fun j73 =>
 loopR (fun (rec26 : (Int32 × Int32) → Option Mm) (x29 : Int32 × Int32) =>
 if (gI M_1 0 1) ≤ x29.2 then
 (j73 x29.1)
 else
 (bnd (R_lying x29.2 M_1) fun r30 =>
 lett (fun (u_30 : Int32) =>
 lett (x29.2 + (1 : Int32)) fun v32 =>
 rec26 (u_30, v32)) fun j67 =>
 if r30 ≤ 0 then
 (j67 x29.1)
 else
 (lett (fun (_ : Unit) =>
 lett x29.2 fun v33 =>
 j67 v33) fun j65 =>
 if x29.1 = (-1 : Int32) then
 (j65 ())
 else
 (bnd (R_part ((0 : Int32) + x29.2) M_1) fun r34 =>
 bnd (R_part ((0 : Int32) + x29.1) M_1) fun r35 =>
 if 0 ≤ (Op.cmpValue (FP.fcmp r34 r35) .g) then
 (j67 x29.1)
 else
 (j65 ()))))) 1000000 (v3, v4)) fun j22 =>
 if r1 = (-1 : Int32) then
 (j22 M)
 else
 (bnd (R_its (2 : Int32) M) fun r36 =>
 bnd (R_keepsOn r36 M) fun r37 =>
 if r37.1 = 0 then
 (j22 r37.2)
 else
 (some r37.2))
abbrev rmR_chooses : Room := { frames := 5, cells := 0, slots := 0, locals := 115 }
set_option maxHeartbeats 4000000 in
set_option maxRecDepth 100000 in
theorem tR_chooses (E : Cx) (hE : CxOk E cX12_chooses RX12 shR none rmR_chooses 4)   (M : Mm) : Ok E 0 [(0, .ref (E.Y.ad 0))] [] M (R_chooses  M) (KV E) := by
  unfold R_chooses
  refine ok_aload_n hE 0 rfl dX12_chooses_0 ?_
  refine ok_iconst hE (2 : Int32) ki_2 dX12_chooses_1 ?_
  refine ok_cvIp hE rmR_its [.int (2 : Int32)] [] rfl ca_X12_321 shR_0 rfl (fun _ hx => mR_its hE.sys _ _ _ hx) ⟨rfl, rfl, rfl, rfl⟩ rfl rfl dX12_chooses_2 (fun r1 => ?_)
  refine ok_iconst hE (-1 : Int32) ki_m1 dX12_chooses_5 ?_
  refine ok_fun (fun j => ∀ (M_1 : Mm), Ok E 22 [(0, .ref (E.Y.ad 0))] [] M_1 (j M_1) (KV E)) (fun M_1 => ?_) (fun j22 hj22 => ?_)
  · refine ok_iconst hE (-1 : Int32) ki_m1 dX12_chooses_22 ?_
    refine ok_istore_n hE (fun v3 => [(1, .int v3), (0, .ref (E.Y.ad 0))]) (fun _ => rfl) rfl dX12_chooses_23 (fun v3 => ?_)
    refine ok_iconst hE (0 : Int32) ki_0 dX12_chooses_24 ?_
    refine ok_istore_n hE (fun v4 => [(2, .int v4), (1, .int v3), (0, .ref (E.Y.ad 0))]) (fun _ => rfl) rfl dX12_chooses_25 (fun v4 => ?_)
    refine ok_fun (fun j => ∀ (u_4 : Int32), Ok E 73 [(0, .ref (E.Y.ad 0)), (1, .int u_4)] [] M_1 (j u_4) (KV E)) (fun u_4 => ?_) (fun j73 hj73 => ?_)
    · refine ok_iload_n hE 1 rfl dX12_chooses_73 ?_
      refine ok_iconst hE (-1 : Int32) ki_m1 dX12_chooses_74 ?_
      refine ok_icmp_ne hE 79 rfl dX12_chooses_75 ?_ ?_
      · refine ok_aload_n hE 0 rfl dX12_chooses_79 ?_
        refine ok_iconst hE (0 : Int32) ki_0 dX12_chooses_80 ?_
        refine ok_iload_n hE 1 rfl dX12_chooses_81 ?_
        refine ok_iadd hE dX12_chooses_82 ?_
        refine ok_cvFp hE rmR_part [.int ((0 : Int32) + u_4)] [] rfl ca_X12_352 shR_0 rfl (fun _ hx => mR_part hE.sys _ _ _ hx) ⟨rfl, rfl, rfl, rfl⟩ rfl rfl dX12_chooses_83 (fun r6 => ?_)
        refine ok_aload_n hE 0 rfl dX12_chooses_86 ?_
        refine ok_bipush hE (18 : Int32) kb_18 dX12_chooses_87 ?_
        refine ok_cvFp hE rmR_part [.int (18 : Int32)] [.float r6] rfl ca_X12_352 shR_0 rfl (fun _ hx => mR_part hE.sys _ _ _ hx) ⟨rfl, rfl, rfl, rfl⟩ rfl rfl dX12_chooses_89 (fun r7 => ?_)
        refine ok_fcmp hE dX12_chooses_92 ?_
        refine ok_fun (fun j => ∀ (M_7 : Mm), Ok E 109 [(0, .ref (E.Y.ad 0))] [] M_7 (j M_7) (KV E)) (fun M_7 => ?_) (fun j109 hj109 => ?_)
        · refine ok_iconst hE (-1 : Int32) ki_m1 dX12_chooses_109 ?_
          refine ok_istore_n hE (fun v9 => [(2, .int v9), (0, .ref (E.Y.ad 0))]) (fun _ => rfl) rfl dX12_chooses_110 (fun v9 => ?_)
          refine ok_iconst hE (0 : Int32) ki_0 dX12_chooses_111 ?_
          refine ok_istore_n hE (fun v10 => [(3, .int v10), (2, .int v9), (0, .ref (E.Y.ad 0))]) (fun _ => rfl) rfl dX12_chooses_112 (fun v10 => ?_)
          refine ok_fun (fun j => ∀ (u_10 : Int32), Ok E 182 [(0, .ref (E.Y.ad 0)), (2, .int u_10)] [] M_7 (j u_10) (KV E)) (fun u_10 => ?_) (fun j182 hj182 => ?_)
          · refine ok_aload_n hE 0 rfl dX12_chooses_182 ?_
            refine ok_iconst hE (2 : Int32) ki_2 dX12_chooses_183 ?_
            refine ok_iload_n hE 1 rfl dX12_chooses_184 ?_
            refine ok_cvV hE rmR_puts [.int (2 : Int32), .int u_10] [] rfl ca_X12_318 shR_0 rfl (fun _ hx => mR_puts hE.sys _ _ _ _ hx) ⟨rfl, rfl, rfl, rfl⟩ rfl rfl dX12_chooses_185 (fun M12 => ?_)
            refine ok_aload_n hE 0 rfl dX12_chooses_188 ?_
            refine ok_iconst hE (3 : Int32) ki_3 dX12_chooses_189 ?_
            refine ok_aload_n hE 0 rfl dX12_chooses_190 ?_
            refine ok_iconst hE (0 : Int32) ki_0 dX12_chooses_191 ?_
            refine ok_cvIp hE rmR_its [.int (0 : Int32)] [.int (3 : Int32), .ref (E.Y.ad 0)] rfl ca_X12_321 shR_0 rfl (fun _ hx => mR_its hE.sys _ _ _ hx) ⟨rfl, rfl, rfl, rfl⟩ rfl rfl dX12_chooses_192 (fun r13 => ?_)
            refine ok_cvV hE rmR_puts [.int (3 : Int32), .int r13] [] rfl ca_X12_318 shR_0 rfl (fun _ hx => mR_puts hE.sys _ _ _ _ hx) ⟨rfl, rfl, rfl, rfl⟩ rfl rfl dX12_chooses_195 (fun M14 => ?_)
            refine ok_aload_n hE 0 rfl dX12_chooses_198 ?_
            refine ok_iload_n hE 1 rfl dX12_chooses_199 ?_
            refine ok_iconst hE (1 : Int32) ki_1 dX12_chooses_200 ?_
            refine ok_iconst hE (0 : Int32) ki_0 dX12_chooses_201 ?_
            refine ok_cvV hE rmR_setsQueue [.int u_10, .int (1 : Int32), .int (0 : Int32)] [] rfl ca_X12_331 shR_0 rfl (fun _ hx => mR_setsQueue hE.sys _ _ _ _ _ hx) ⟨rfl, rfl, rfl, rfl⟩ rfl rfl dX12_chooses_202 (fun M15 => ?_)
            refine ok_aload_n hE 0 rfl dX12_chooses_205 ?_
            refine ok_aload_n hE 0 rfl dX12_chooses_206 ?_
            refine ok_iload_n hE 1 rfl dX12_chooses_207 ?_
            refine ok_cvIp hE rmR_nextOf [.int u_10] [.ref (E.Y.ad 0)] rfl ca_X12_372 shR_0 rfl (fun _ hx => mR_nextOf hE.sys _ _ _ hx) ⟨rfl, rfl, rfl, rfl⟩ rfl rfl dX12_chooses_208 (fun r16 => ?_)
            refine ok_cvV hE rmR_goesNext [.int r16] [] rfl ca_X12_378 shR_0 rfl (fun _ hx => mR_goesNext hE.sys _ _ _ hx) ⟨rfl, rfl, rfl, rfl⟩ rfl rfl dX12_chooses_211 (fun M17 => ?_)
            exact ok_return hE dX12_chooses_214
          refine ok_sub [2, 1, 0] rfl (ok_loop (σ := Int32 × Int32) 113 (fun x18 => [(0, .ref (E.Y.ad 0)), (2, .int x18.1), (3, .int x18.2)]) (fun x18 => M_7) (fun rec113 hrec113 x18 => ?_) 1000000 (v9, v10))
          refine ok_iload_n hE 2 rfl dX12_chooses_113 ?_
          refine ok_aload_n hE 0 rfl dX12_chooses_114 ?_
          refine ok_getI hE fl_X12_13 shR_0 rfl dX12_chooses_115 ?_
          refine ok_icmp_ge hE 182 rfl dX12_chooses_118 ?_ ?_
          · exact ok_sub [0, 1] rfl (hj182 x18.1)
          · refine ok_aload_n hE 0 rfl dX12_chooses_121 ?_
            refine ok_iload_n hE 2 rfl dX12_chooses_122 ?_
            refine ok_cvIp hE rmR_lying [.int x18.2] [] rfl ca_X12_349 shR_0 rfl (fun _ hx => mR_lying hE.sys _ _ _ hx) ⟨rfl, rfl, rfl, rfl⟩ rfl rfl dX12_chooses_123 (fun r19 => ?_)
            refine ok_fun (fun j => ∀ (u_19 : Int32), Ok E 176 [(0, .ref (E.Y.ad 0)), (2, .int u_19), (3, .int x18.2)] [] M_7 (j u_19) (KV E)) (fun u_19 => ?_) (fun j176 hj176 => ?_)
            · refine ok_iinc hE 2 (x18.2 + (1 : Int32)) (by rw [ko_1]) (fun v21 => [(3, .int v21), (0, .ref (E.Y.ad 0)), (2, .int u_19)]) rfl (fun _ => rfl) rfl dX12_chooses_176 (fun v21 => ?_)
              refine ok_goto hE 113 rfl dX12_chooses_179 ?_
              exact ok_sub [1, 2, 0] rfl (hrec113 (u_19, v21))
            refine ok_if_eq hE 176 rfl dX12_chooses_126 ?_ ?_
            · exact ok_sub [0, 1, 2] rfl (hj176 x18.1)
            · refine ok_aload_n hE 0 rfl dX12_chooses_129 ?_
              refine ok_iconst hE (0 : Int32) ki_0 dX12_chooses_130 ?_
              refine ok_iload_n hE 2 rfl dX12_chooses_131 ?_
              refine ok_iadd hE dX12_chooses_132 ?_
              refine ok_cvFp hE rmR_part [.int ((0 : Int32) + x18.2)] [] rfl ca_X12_352 shR_0 rfl (fun _ hx => mR_part hE.sys _ _ _ hx) ⟨rfl, rfl, rfl, rfl⟩ rfl rfl dX12_chooses_133 (fun r22 => ?_)
              refine ok_aload_n hE 0 rfl dX12_chooses_136 ?_
              refine ok_bipush hE (18 : Int32) kb_18 dX12_chooses_137 ?_
              refine ok_cvFp hE rmR_part [.int (18 : Int32)] [.float r22] rfl ca_X12_352 shR_0 rfl (fun _ hx => mR_part hE.sys _ _ _ hx) ⟨rfl, rfl, rfl, rfl⟩ rfl rfl dX12_chooses_139 (fun r23 => ?_)
              refine ok_fcmp hE dX12_chooses_142 ?_
              refine ok_if_le hE 149 rfl dX12_chooses_143 ?_ ?_
              · refine ok_iload_n hE 1 rfl dX12_chooses_149 ?_
                refine ok_iconst hE (-1 : Int32) ki_m1 dX12_chooses_150 ?_
                refine ok_fun (fun j => ∀ (_ : Unit), Ok E 174 [(0, .ref (E.Y.ad 0)), (3, .int x18.2)] [] M_7 (j ()) (KV E)) (fun _ => ?_) (fun j174 hj174 => ?_)
                · refine ok_iload_n hE 1 rfl dX12_chooses_174 ?_
                  refine ok_istore_n hE (fun v24 => [(2, .int v24), (0, .ref (E.Y.ad 0)), (3, .int x18.2)]) (fun _ => rfl) rfl dX12_chooses_175 (fun v24 => ?_)
                  exact ok_sub [1, 0, 2] rfl (hj176 v24)
                refine ok_icmp_eq hE 174 rfl dX12_chooses_151 ?_ ?_
                · exact ok_sub [0, 2] rfl (hj174 ())
                · refine ok_aload_n hE 0 rfl dX12_chooses_154 ?_
                  refine ok_bipush hE (6 : Int32) kb_6 dX12_chooses_155 ?_
                  refine ok_iload_n hE 2 rfl dX12_chooses_157 ?_
                  refine ok_iadd hE dX12_chooses_158 ?_
                  refine ok_cvFp hE rmR_part [.int ((6 : Int32) + x18.2)] [] rfl ca_X12_352 shR_0 rfl (fun _ hx => mR_part hE.sys _ _ _ hx) ⟨rfl, rfl, rfl, rfl⟩ rfl rfl dX12_chooses_159 (fun r25 => ?_)
                  refine ok_aload_n hE 0 rfl dX12_chooses_162 ?_
                  refine ok_bipush hE (6 : Int32) kb_6 dX12_chooses_163 ?_
                  refine ok_iload_n hE 1 rfl dX12_chooses_165 ?_
                  refine ok_iadd hE dX12_chooses_166 ?_
                  refine ok_cvFp hE rmR_part [.int ((6 : Int32) + x18.1)] [.float r25] rfl ca_X12_352 shR_0 rfl (fun _ hx => mR_part hE.sys _ _ _ hx) ⟨rfl, rfl, rfl, rfl⟩ rfl rfl dX12_chooses_167 (fun r26 => ?_)
                  refine ok_fcmp hE dX12_chooses_170 ?_
                  refine ok_if_ge hE 176 rfl dX12_chooses_171 ?_ ?_
                  · exact ok_sub [0, 1, 2] rfl (hj176 x18.1)
                  · exact ok_sub [0, 2] rfl (hj174 ())
              · refine ok_goto hE 176 rfl dX12_chooses_146 ?_
                exact ok_sub [0, 1, 2] rfl (hj176 x18.1)
        refine ok_if_le hE 109 rfl dX12_chooses_93 ?_ ?_
        · exact ok_sub [0] rfl (hj109 M_1)
        · refine ok_aload_n hE 0 rfl dX12_chooses_96 ?_
          refine ok_bipush hE (18 : Int32) kb_18 dX12_chooses_97 ?_
          refine ok_aload_n hE 0 rfl dX12_chooses_99 ?_
          refine ok_iconst hE (0 : Int32) ki_0 dX12_chooses_100 ?_
          refine ok_iload_n hE 1 rfl dX12_chooses_101 ?_
          refine ok_iadd hE dX12_chooses_102 ?_
          refine ok_cvFp hE rmR_part [.int ((0 : Int32) + u_4)] [.int (18 : Int32), .ref (E.Y.ad 0)] rfl ca_X12_352 shR_0 rfl (fun _ hx => mR_part hE.sys _ _ _ hx) ⟨rfl, rfl, rfl, rfl⟩ rfl rfl dX12_chooses_103 (fun r27 => ?_)
          refine ok_cvV hE rmR_setsPart [.int (18 : Int32), .float r27] [] rfl ca_X12_327 shR_0 rfl (fun _ hx => mR_setsPart hE.sys _ _ _ _ hx) ⟨rfl, rfl, rfl, rfl⟩ rfl rfl dX12_chooses_106 (fun M28 => ?_)
          exact ok_sub [0] rfl (hj109 M28)
      · exact ok_return hE dX12_chooses_78
    refine ok_sub [2, 1, 0] rfl (ok_loop (σ := Int32 × Int32) 26 (fun x29 => [(0, .ref (E.Y.ad 0)), (1, .int x29.1), (2, .int x29.2)]) (fun x29 => M_1) (fun rec26 hrec26 x29 => ?_) 1000000 (v3, v4))
    refine ok_iload_n hE 2 rfl dX12_chooses_26 ?_
    refine ok_aload_n hE 0 rfl dX12_chooses_27 ?_
    refine ok_getI hE fl_X12_13 shR_0 rfl dX12_chooses_28 ?_
    refine ok_icmp_ge hE 73 rfl dX12_chooses_31 ?_ ?_
    · exact ok_sub [0, 1] rfl (hj73 x29.1)
    · refine ok_aload_n hE 0 rfl dX12_chooses_34 ?_
      refine ok_iload_n hE 2 rfl dX12_chooses_35 ?_
      refine ok_cvIp hE rmR_lying [.int x29.2] [] rfl ca_X12_349 shR_0 rfl (fun _ hx => mR_lying hE.sys _ _ _ hx) ⟨rfl, rfl, rfl, rfl⟩ rfl rfl dX12_chooses_36 (fun r30 => ?_)
      refine ok_fun (fun j => ∀ (u_30 : Int32), Ok E 67 [(0, .ref (E.Y.ad 0)), (1, .int u_30), (2, .int x29.2)] [] M_1 (j u_30) (KV E)) (fun u_30 => ?_) (fun j67 hj67 => ?_)
      · refine ok_iinc hE 2 (x29.2 + (1 : Int32)) (by rw [ko_1]) (fun v32 => [(2, .int v32), (0, .ref (E.Y.ad 0)), (1, .int u_30)]) rfl (fun _ => rfl) rfl dX12_chooses_67 (fun v32 => ?_)
        refine ok_goto hE 26 rfl dX12_chooses_70 ?_
        exact ok_sub [1, 2, 0] rfl (hrec26 (u_30, v32))
      refine ok_if_le hE 67 rfl dX12_chooses_39 ?_ ?_
      · exact ok_sub [0, 1, 2] rfl (hj67 x29.1)
      · refine ok_iload_n hE 1 rfl dX12_chooses_42 ?_
        refine ok_iconst hE (-1 : Int32) ki_m1 dX12_chooses_43 ?_
        refine ok_fun (fun j => ∀ (_ : Unit), Ok E 65 [(0, .ref (E.Y.ad 0)), (2, .int x29.2)] [] M_1 (j ()) (KV E)) (fun _ => ?_) (fun j65 hj65 => ?_)
        · refine ok_iload_n hE 1 rfl dX12_chooses_65 ?_
          refine ok_istore_n hE (fun v33 => [(1, .int v33), (0, .ref (E.Y.ad 0)), (2, .int x29.2)]) (fun _ => rfl) rfl dX12_chooses_66 (fun v33 => ?_)
          exact ok_sub [1, 0, 2] rfl (hj67 v33)
        refine ok_icmp_eq hE 65 rfl dX12_chooses_44 ?_ ?_
        · exact ok_sub [0, 2] rfl (hj65 ())
        · refine ok_aload_n hE 0 rfl dX12_chooses_47 ?_
          refine ok_iconst hE (0 : Int32) ki_0 dX12_chooses_48 ?_
          refine ok_iload_n hE 2 rfl dX12_chooses_49 ?_
          refine ok_iadd hE dX12_chooses_50 ?_
          refine ok_cvFp hE rmR_part [.int ((0 : Int32) + x29.2)] [] rfl ca_X12_352 shR_0 rfl (fun _ hx => mR_part hE.sys _ _ _ hx) ⟨rfl, rfl, rfl, rfl⟩ rfl rfl dX12_chooses_51 (fun r34 => ?_)
          refine ok_aload_n hE 0 rfl dX12_chooses_54 ?_
          refine ok_iconst hE (0 : Int32) ki_0 dX12_chooses_55 ?_
          refine ok_iload_n hE 1 rfl dX12_chooses_56 ?_
          refine ok_iadd hE dX12_chooses_57 ?_
          refine ok_cvFp hE rmR_part [.int ((0 : Int32) + x29.1)] [.float r34] rfl ca_X12_352 shR_0 rfl (fun _ hx => mR_part hE.sys _ _ _ hx) ⟨rfl, rfl, rfl, rfl⟩ rfl rfl dX12_chooses_58 (fun r35 => ?_)
          refine ok_fcmp hE dX12_chooses_61 ?_
          refine ok_if_ge hE 67 rfl dX12_chooses_62 ?_ ?_
          · exact ok_sub [0, 1, 2] rfl (hj67 x29.1)
          · exact ok_sub [0, 2] rfl (hj65 ())
  refine ok_icmp_eq hE 22 rfl dX12_chooses_6 ?_ ?_
  · exact ok_sub [0] rfl (hj22 M)
  · refine ok_aload_n hE 0 rfl dX12_chooses_9 ?_
    refine ok_aload_n hE 0 rfl dX12_chooses_10 ?_
    refine ok_iconst hE (2 : Int32) ki_2 dX12_chooses_11 ?_
    refine ok_cvIp hE rmR_its [.int (2 : Int32)] [.ref (E.Y.ad 0)] rfl ca_X12_321 shR_0 rfl (fun _ hx => mR_its hE.sys _ _ _ hx) ⟨rfl, rfl, rfl, rfl⟩ rfl rfl dX12_chooses_12 (fun r36 => ?_)
    refine ok_cvI hE rmR_keepsOn [.int r36] [] rfl ca_X12_381 shR_0 rfl (fun _ hx => mR_keepsOn hE.sys _ _ _ hx) ⟨rfl, rfl, rfl, rfl⟩ rfl rfl dX12_chooses_15 (fun r37 => ?_)
    refine ok_if_eq hE 22 rfl dX12_chooses_18 ?_ ?_
    · exact ok_sub [0] rfl (hj22 r37.2)
    · exact ok_return hE dX12_chooses_21
theorem mR_chooses {l : Launch} {Y : Sys} {t : Nat} (hY : SysOk Y t shR)   (M : Mm) (r : Mm) (h : R_chooses  M = some r) : Cm l Y t yX12_chooses (WS yX12_chooses cX12_chooses 4 none) rmR_chooses [.ref (Y.ad 0)] M (enV r) := by
  refine cm_of (own := RX12) hY rfl rfl (Nat.le_of_ble_eq_true rfl) (fun E hE e1 e2 e3 e4 => ?_)
  subst e1
  exact tR_chooses E hE   M r h e4.symm
def R_isDone  (M : Mm) : Option Mm :=
 bnd (R_its (2 : Int32) M) fun r1 =>
 lett r1 fun v2 =>
 bnd (R_its (13 : Int32) M) fun r3 =>
 lett r3 fun v4 =>
 bnd (R_its (14 : Int32) M) fun r5 =>
 lett r5 fun v6 =>
 bnd (R_its (0 : Int32) M) fun r7 =>
 bnd (R_its (15 : Int32) M) fun r8 =>
 lett (r7 - r8) fun v9 =>
 bnd (R_its (12 : Int32) M) fun r10 =>
 bnd (R_puts (1 : Int32) (r10 + v4) M) fun M11 =>
 bnd (R_ofQueue v2 (1 : Int32) M11) fun r12 =>
 bnd (R_setsQueue v2 (1 : Int32) (r12 + v4) M11) fun M13 =>
 lett (0 : Int32) fun v14 =>
 lett (0 : Int32) fun v15 =>
 lett (fun (u_15 : Int32) =>
 bnd (R_part (18 : Int32) M13) fun r17 =>
 grd ((FP.fdiv (FP.i2f v4) (FP.i2f u_15)) &&& 0x7fffffff ≤ 0x7f800000) (grd ((FP.fadd r17 (FP.fdiv (FP.i2f v4) (FP.i2f u_15))) &&& 0x7fffffff ≤ 0x7f800000) (bnd (R_setsPart (18 : Int32) (FP.fadd r17 (FP.fdiv (FP.i2f v4) (FP.i2f u_15))) M13) fun M18 =>
 bnd (R_its (0 : Int32) M18) fun r19 =>
 bnd (R_setsQueue v2 (4 : Int32) r19 M18) fun M20 =>
 bnd (R_of v6 (5 : Int32) M20) fun r21 =>
 bnd (R_sets v6 (5 : Int32) (r21 - (1 : Int32)) M20) fun M22 =>
 bnd (R_of v6 (9 : Int32) M22) fun r23 =>
 bnd (R_sets v6 (9 : Int32) (r23 + (1 : Int32)) M22) fun M24 =>
 bnd (R_of v6 (10 : Int32) M24) fun r25 =>
 bnd (R_sets v6 (10 : Int32) (r25 + v4) M24) fun M26 =>
 bnd (R_of v6 (11 : Int32) M26) fun r27 =>
 bnd (R_sets v6 (11 : Int32) (r27 + v9) M26) fun M28 =>
 bnd (R_of v6 (12 : Int32) M28) fun r29 =>
 bnd (R_greatest v9 r29 M28) fun r30 =>
 bnd (R_sets v6 (12 : Int32) r30 M28) fun M31 =>
 bnd (R_its (16 : Int32) M31) fun r32 =>
 lett (fun (M_32 : Mm) =>
 bnd (R_lying v2 M_32) fun r34 =>
 lett (fun (M_34 : Mm) =>
 if (gI M_34 0 53) = 0 then
 (some M_34)
 else
 (ald ((4 : Int32) * (gI M_34 0 57)) 1604 (lett (sI M_34 20 (ix ((4 : Int32) * (gI M_34 0 57))) (gI M_34 0 56)) fun M36 =>
 ald (((4 : Int32) * (gI M36 0 57)) + (1 : Int32)) 1604 (lett (sI M36 20 (ix (((4 : Int32) * (gI M36 0 57)) + (1 : Int32))) v6) fun M37 =>
 ald (((4 : Int32) * (gI M37 0 57)) + (2 : Int32)) 1604 (lett (sI M37 20 (ix (((4 : Int32) * (gI M37 0 57)) + (2 : Int32))) v9) fun M38 =>
 ald (((4 : Int32) * (gI M38 0 57)) + (3 : Int32)) 1604 (lett (sI M38 20 (ix (((4 : Int32) * (gI M38 0 57)) + (3 : Int32))) v4) fun M39 =>
 lett (sI M39 0 57 ((gI M39 0 57) + (1 : Int32))) fun M40 =>
 some M40)))))) fun j339 =>
 if r34 = 0 then
 (ald v2 6 (lett (fun (w_40 : Int32) =>
 lett w_40 fun v42 =>
 bnd (R_its (0 : Int32) M_32) fun r43 =>
 lett (fun (w_43 : Int32) =>
 bnd (R_puts (4 : Int32) (r43 + w_43) M_32) fun M45 =>
 j339 M45) fun j335 =>
 if v42 = 0 then
 (j335 (0 : Int32))
 else
 (bnd (R_its (6 : Int32) M_32) fun r46 =>
 j335 r46)) fun j311 =>
 lett (fun (_ : Unit) =>
 j311 (0 : Int32)) fun j310 =>
 if (gI M_32 3 (ix v2)) = 0 then
 (bnd (R_far v2 M_32) fun r47 =>
 if (5 : Int32) ≤ r47 then
 (j310 ())
 else
 (bnd (R_part ((12 : Int32) + v2) M_32) fun r48 =>
 bnd (R_its (6 : Int32) M_32) fun r49 =>
 if 0 < (Op.cmpValue (FP.fcmp r48 (FP.i2f r49)) .g) then
 (j310 ())
 else
 (j311 (1 : Int32))))
 else
 (j310 ())))
 else
 (j339 M_32)) fun j261 =>
 if r32 = 0 then
 (ald v6 6 (if (gI M31 3 (ix v6)) = 0 then
 (bnd (R_sets v6 (2 : Int32) (0 : Int32) M31) fun M50 =>
 bnd (R_its (17 : Int32) M50) fun r51 =>
 bnd (R_sets v6 (1 : Int32) r51 M50) fun M52 =>
 j261 M52)
 else
 (j261 M31)))
 else
 (j261 M31)))) fun j112 =>
 loopR (fun (rec67 : (Int32 × Int32) → Option Mm) (x53 : Int32 × Int32) =>
 if (gI M13 0 1) ≤ x53.2 then
 (j112 x53.1)
 else
 (lett (fun (w_53 : Int32) =>
 lett (x53.1 + w_53) fun v55 =>
 lett (x53.2 + (1 : Int32)) fun v56 =>
 rec67 (v55, v56)) fun j103 =>
 lett (fun (_ : Unit) =>
 bnd (R_weightOf x53.2 M13) fun r57 =>
 j103 r57) fun j93 =>
 if x53.2 = v2 then
 (j93 ())
 else
 (bnd (R_lying x53.2 M13) fun r58 =>
 if r58 ≤ 0 then
 (j103 (0 : Int32))
 else
 (j93 ())))) 1000000 (v14, v15)
abbrev rmR_isDone : Room := { frames := 3, cells := 0, slots := 0, locals := 66 }
set_option maxHeartbeats 4000000 in
set_option maxRecDepth 100000 in
theorem tR_isDone (E : Cx) (hE : CxOk E cX12_isDone RX12 shR none rmR_isDone 7)   (M : Mm) : Ok E 0 [(0, .ref (E.Y.ad 0))] [] M (R_isDone  M) (KV E) := by
  unfold R_isDone
  refine ok_aload_n hE 0 rfl dX12_isDone_0 ?_
  refine ok_iconst hE (2 : Int32) ki_2 dX12_isDone_1 ?_
  refine ok_cvIp hE rmR_its [.int (2 : Int32)] [] rfl ca_X12_321 shR_0 rfl (fun _ hx => mR_its hE.sys _ _ _ hx) ⟨rfl, rfl, rfl, rfl⟩ rfl rfl dX12_isDone_2 (fun r1 => ?_)
  refine ok_istore_n hE (fun v2 => [(1, .int v2), (0, .ref (E.Y.ad 0))]) (fun _ => rfl) rfl dX12_isDone_5 (fun v2 => ?_)
  refine ok_aload_n hE 1 rfl dX12_isDone_6 ?_
  refine ok_bipush hE (13 : Int32) kb_13 dX12_isDone_7 ?_
  refine ok_cvIp hE rmR_its [.int (13 : Int32)] [] rfl ca_X12_321 shR_0 rfl (fun _ hx => mR_its hE.sys _ _ _ hx) ⟨rfl, rfl, rfl, rfl⟩ rfl rfl dX12_isDone_9 (fun r3 => ?_)
  refine ok_istore_n hE (fun v4 => [(2, .int v4), (1, .int v2), (0, .ref (E.Y.ad 0))]) (fun _ => rfl) rfl dX12_isDone_12 (fun v4 => ?_)
  refine ok_aload_n hE 2 rfl dX12_isDone_13 ?_
  refine ok_bipush hE (14 : Int32) kb_14 dX12_isDone_14 ?_
  refine ok_cvIp hE rmR_its [.int (14 : Int32)] [] rfl ca_X12_321 shR_0 rfl (fun _ hx => mR_its hE.sys _ _ _ hx) ⟨rfl, rfl, rfl, rfl⟩ rfl rfl dX12_isDone_16 (fun r5 => ?_)
  refine ok_istore_n hE (fun v6 => [(3, .int v6), (2, .int v4), (1, .int v2), (0, .ref (E.Y.ad 0))]) (fun _ => rfl) rfl dX12_isDone_19 (fun v6 => ?_)
  refine ok_aload_n hE 3 rfl dX12_isDone_20 ?_
  refine ok_iconst hE (0 : Int32) ki_0 dX12_isDone_21 ?_
  refine ok_cvIp hE rmR_its [.int (0 : Int32)] [] rfl ca_X12_321 shR_0 rfl (fun _ hx => mR_its hE.sys _ _ _ hx) ⟨rfl, rfl, rfl, rfl⟩ rfl rfl dX12_isDone_22 (fun r7 => ?_)
  refine ok_aload_n hE 3 rfl dX12_isDone_25 ?_
  refine ok_bipush hE (15 : Int32) kb_15 dX12_isDone_26 ?_
  refine ok_cvIp hE rmR_its [.int (15 : Int32)] [.int r7] rfl ca_X12_321 shR_0 rfl (fun _ hx => mR_its hE.sys _ _ _ hx) ⟨rfl, rfl, rfl, rfl⟩ rfl rfl dX12_isDone_28 (fun r8 => ?_)
  refine ok_isub hE dX12_isDone_31 ?_
  refine ok_istore hE (fun v9 => [(4, .int v9), (3, .int v6), (2, .int v4), (1, .int v2), (0, .ref (E.Y.ad 0))]) (fun _ => rfl) rfl dX12_isDone_32 (fun v9 => ?_)
  refine ok_aload_n hE 4 rfl dX12_isDone_34 ?_
  refine ok_iconst hE (1 : Int32) ki_1 dX12_isDone_35 ?_
  refine ok_aload_n hE 4 rfl dX12_isDone_36 ?_
  refine ok_bipush hE (12 : Int32) kb_12 dX12_isDone_37 ?_
  refine ok_cvIp hE rmR_its [.int (12 : Int32)] [.int (1 : Int32), .ref (E.Y.ad 0)] rfl ca_X12_321 shR_0 rfl (fun _ hx => mR_its hE.sys _ _ _ hx) ⟨rfl, rfl, rfl, rfl⟩ rfl rfl dX12_isDone_39 (fun r10 => ?_)
  refine ok_iload_n hE 2 rfl dX12_isDone_42 ?_
  refine ok_iadd hE dX12_isDone_43 ?_
  refine ok_cvV hE rmR_puts [.int (1 : Int32), .int (r10 + v4)] [] rfl ca_X12_318 shR_0 rfl (fun _ hx => mR_puts hE.sys _ _ _ _ hx) ⟨rfl, rfl, rfl, rfl⟩ rfl rfl dX12_isDone_44 (fun M11 => ?_)
  refine ok_aload_n hE 4 rfl dX12_isDone_47 ?_
  refine ok_iload_n hE 3 rfl dX12_isDone_48 ?_
  refine ok_iconst hE (1 : Int32) ki_1 dX12_isDone_49 ?_
  refine ok_aload_n hE 4 rfl dX12_isDone_50 ?_
  refine ok_iload_n hE 3 rfl dX12_isDone_51 ?_
  refine ok_iconst hE (1 : Int32) ki_1 dX12_isDone_52 ?_
  refine ok_cvIp hE rmR_ofQueue [.int v2, .int (1 : Int32)] [.int (1 : Int32), .int v2, .ref (E.Y.ad 0)] rfl ca_X12_340 shR_0 rfl (fun _ hx => mR_ofQueue hE.sys _ _ _ _ hx) ⟨rfl, rfl, rfl, rfl⟩ rfl rfl dX12_isDone_53 (fun r12 => ?_)
  refine ok_iload_n hE 2 rfl dX12_isDone_56 ?_
  refine ok_iadd hE dX12_isDone_57 ?_
  refine ok_cvV hE rmR_setsQueue [.int v2, .int (1 : Int32), .int (r12 + v4)] [] rfl ca_X12_331 shR_0 rfl (fun _ hx => mR_setsQueue hE.sys _ _ _ _ _ hx) ⟨rfl, rfl, rfl, rfl⟩ rfl rfl dX12_isDone_58 (fun M13 => ?_)
  refine ok_iconst hE (0 : Int32) ki_0 dX12_isDone_61 ?_
  refine ok_istore hE (fun v14 => [(5, .int v14), (4, .int v9), (3, .int v6), (2, .int v4), (1, .int v2), (0, .ref (E.Y.ad 0))]) (fun _ => rfl) rfl dX12_isDone_62 (fun v14 => ?_)
  refine ok_iconst hE (0 : Int32) ki_0 dX12_isDone_64 ?_
  refine ok_istore hE (fun v15 => [(6, .int v15), (5, .int v14), (4, .int v9), (3, .int v6), (2, .int v4), (1, .int v2), (0, .ref (E.Y.ad 0))]) (fun _ => rfl) rfl dX12_isDone_65 (fun v15 => ?_)
  refine ok_fun (fun j => ∀ (u_15 : Int32), Ok E 112 [(0, .ref (E.Y.ad 0)), (1, .int v2), (2, .int v4), (3, .int v6), (4, .int v9), (5, .int u_15)] [] M13 (j u_15) (KV E)) (fun u_15 => ?_) (fun j112 hj112 => ?_)
  · refine ok_aload_n hE 0 rfl dX12_isDone_112 ?_
    refine ok_bipush hE (18 : Int32) kb_18 dX12_isDone_113 ?_
    refine ok_aload_n hE 0 rfl dX12_isDone_115 ?_
    refine ok_bipush hE (18 : Int32) kb_18 dX12_isDone_116 ?_
    refine ok_cvFp hE rmR_part [.int (18 : Int32)] [.int (18 : Int32), .ref (E.Y.ad 0)] rfl ca_X12_352 shR_0 rfl (fun _ hx => mR_part hE.sys _ _ _ hx) ⟨rfl, rfl, rfl, rfl⟩ rfl rfl dX12_isDone_118 (fun r17 => ?_)
    refine ok_iload_n hE 2 rfl dX12_isDone_121 ?_
    refine ok_i2f hE dX12_isDone_122 ?_
    refine ok_iload hE 5 rfl dX12_isDone_123 ?_
    refine ok_i2f hE dX12_isDone_125 ?_
    refine ok_fdiv hE dX12_isDone_126 ?_
    refine ok_fadd hE dX12_isDone_127 ?_
    refine ok_cvV hE rmR_setsPart [.int (18 : Int32), .float (FP.fadd r17 (FP.fdiv (FP.i2f v4) (FP.i2f u_15)))] [] rfl ca_X12_327 shR_0 rfl (fun _ hx => mR_setsPart hE.sys _ _ _ _ hx) ⟨rfl, rfl, rfl, rfl⟩ rfl rfl dX12_isDone_128 (fun M18 => ?_)
    refine ok_aload_n hE 0 rfl dX12_isDone_131 ?_
    refine ok_iload_n hE 1 rfl dX12_isDone_132 ?_
    refine ok_iconst hE (4 : Int32) ki_4 dX12_isDone_133 ?_
    refine ok_aload_n hE 0 rfl dX12_isDone_134 ?_
    refine ok_iconst hE (0 : Int32) ki_0 dX12_isDone_135 ?_
    refine ok_cvIp hE rmR_its [.int (0 : Int32)] [.int (4 : Int32), .int v2, .ref (E.Y.ad 0)] rfl ca_X12_321 shR_0 rfl (fun _ hx => mR_its hE.sys _ _ _ hx) ⟨rfl, rfl, rfl, rfl⟩ rfl rfl dX12_isDone_136 (fun r19 => ?_)
    refine ok_cvV hE rmR_setsQueue [.int v2, .int (4 : Int32), .int r19] [] rfl ca_X12_331 shR_0 rfl (fun _ hx => mR_setsQueue hE.sys _ _ _ _ _ hx) ⟨rfl, rfl, rfl, rfl⟩ rfl rfl dX12_isDone_139 (fun M20 => ?_)
    refine ok_aload_n hE 0 rfl dX12_isDone_142 ?_
    refine ok_iload_n hE 3 rfl dX12_isDone_143 ?_
    refine ok_iconst hE (5 : Int32) ki_5 dX12_isDone_144 ?_
    refine ok_aload_n hE 0 rfl dX12_isDone_145 ?_
    refine ok_iload_n hE 3 rfl dX12_isDone_146 ?_
    refine ok_iconst hE (5 : Int32) ki_5 dX12_isDone_147 ?_
    refine ok_cvIp hE rmR_of [.int v6, .int (5 : Int32)] [.int (5 : Int32), .int v6, .ref (E.Y.ad 0)] rfl ca_X12_337 shR_0 rfl (fun _ hx => mR_of hE.sys _ _ _ _ hx) ⟨rfl, rfl, rfl, rfl⟩ rfl rfl dX12_isDone_148 (fun r21 => ?_)
    refine ok_iconst hE (1 : Int32) ki_1 dX12_isDone_151 ?_
    refine ok_isub hE dX12_isDone_152 ?_
    refine ok_cvV hE rmR_sets [.int v6, .int (5 : Int32), .int (r21 - (1 : Int32))] [] rfl ca_X12_314 shR_0 rfl (fun _ hx => mR_sets hE.sys _ _ _ _ _ hx) ⟨rfl, rfl, rfl, rfl⟩ rfl rfl dX12_isDone_153 (fun M22 => ?_)
    refine ok_aload_n hE 0 rfl dX12_isDone_156 ?_
    refine ok_iload_n hE 3 rfl dX12_isDone_157 ?_
    refine ok_bipush hE (9 : Int32) kb_9 dX12_isDone_158 ?_
    refine ok_aload_n hE 0 rfl dX12_isDone_160 ?_
    refine ok_iload_n hE 3 rfl dX12_isDone_161 ?_
    refine ok_bipush hE (9 : Int32) kb_9 dX12_isDone_162 ?_
    refine ok_cvIp hE rmR_of [.int v6, .int (9 : Int32)] [.int (9 : Int32), .int v6, .ref (E.Y.ad 0)] rfl ca_X12_337 shR_0 rfl (fun _ hx => mR_of hE.sys _ _ _ _ hx) ⟨rfl, rfl, rfl, rfl⟩ rfl rfl dX12_isDone_164 (fun r23 => ?_)
    refine ok_iconst hE (1 : Int32) ki_1 dX12_isDone_167 ?_
    refine ok_iadd hE dX12_isDone_168 ?_
    refine ok_cvV hE rmR_sets [.int v6, .int (9 : Int32), .int (r23 + (1 : Int32))] [] rfl ca_X12_314 shR_0 rfl (fun _ hx => mR_sets hE.sys _ _ _ _ _ hx) ⟨rfl, rfl, rfl, rfl⟩ rfl rfl dX12_isDone_169 (fun M24 => ?_)
    refine ok_aload_n hE 0 rfl dX12_isDone_172 ?_
    refine ok_iload_n hE 3 rfl dX12_isDone_173 ?_
    refine ok_bipush hE (10 : Int32) kb_10 dX12_isDone_174 ?_
    refine ok_aload_n hE 0 rfl dX12_isDone_176 ?_
    refine ok_iload_n hE 3 rfl dX12_isDone_177 ?_
    refine ok_bipush hE (10 : Int32) kb_10 dX12_isDone_178 ?_
    refine ok_cvIp hE rmR_of [.int v6, .int (10 : Int32)] [.int (10 : Int32), .int v6, .ref (E.Y.ad 0)] rfl ca_X12_337 shR_0 rfl (fun _ hx => mR_of hE.sys _ _ _ _ hx) ⟨rfl, rfl, rfl, rfl⟩ rfl rfl dX12_isDone_180 (fun r25 => ?_)
    refine ok_iload_n hE 2 rfl dX12_isDone_183 ?_
    refine ok_iadd hE dX12_isDone_184 ?_
    refine ok_cvV hE rmR_sets [.int v6, .int (10 : Int32), .int (r25 + v4)] [] rfl ca_X12_314 shR_0 rfl (fun _ hx => mR_sets hE.sys _ _ _ _ _ hx) ⟨rfl, rfl, rfl, rfl⟩ rfl rfl dX12_isDone_185 (fun M26 => ?_)
    refine ok_aload_n hE 0 rfl dX12_isDone_188 ?_
    refine ok_iload_n hE 3 rfl dX12_isDone_189 ?_
    refine ok_bipush hE (11 : Int32) kb_11 dX12_isDone_190 ?_
    refine ok_aload_n hE 0 rfl dX12_isDone_192 ?_
    refine ok_iload_n hE 3 rfl dX12_isDone_193 ?_
    refine ok_bipush hE (11 : Int32) kb_11 dX12_isDone_194 ?_
    refine ok_cvIp hE rmR_of [.int v6, .int (11 : Int32)] [.int (11 : Int32), .int v6, .ref (E.Y.ad 0)] rfl ca_X12_337 shR_0 rfl (fun _ hx => mR_of hE.sys _ _ _ _ hx) ⟨rfl, rfl, rfl, rfl⟩ rfl rfl dX12_isDone_196 (fun r27 => ?_)
    refine ok_iload hE 4 rfl dX12_isDone_199 ?_
    refine ok_iadd hE dX12_isDone_201 ?_
    refine ok_cvV hE rmR_sets [.int v6, .int (11 : Int32), .int (r27 + v9)] [] rfl ca_X12_314 shR_0 rfl (fun _ hx => mR_sets hE.sys _ _ _ _ _ hx) ⟨rfl, rfl, rfl, rfl⟩ rfl rfl dX12_isDone_202 (fun M28 => ?_)
    refine ok_aload_n hE 0 rfl dX12_isDone_205 ?_
    refine ok_iload_n hE 3 rfl dX12_isDone_206 ?_
    refine ok_bipush hE (12 : Int32) kb_12 dX12_isDone_207 ?_
    refine ok_iload hE 4 rfl dX12_isDone_209 ?_
    refine ok_aload_n hE 0 rfl dX12_isDone_211 ?_
    refine ok_iload_n hE 3 rfl dX12_isDone_212 ?_
    refine ok_bipush hE (12 : Int32) kb_12 dX12_isDone_213 ?_
    refine ok_cvIp hE rmR_of [.int v6, .int (12 : Int32)] [.int v9, .int (12 : Int32), .int v6, .ref (E.Y.ad 0)] rfl ca_X12_337 shR_0 rfl (fun _ hx => mR_of hE.sys _ _ _ _ hx) ⟨rfl, rfl, rfl, rfl⟩ rfl rfl dX12_isDone_215 (fun r29 => ?_)
    refine ok_csIp hE rmR_greatest [.int v9, .int r29] [.int (12 : Int32), .int v6, .ref (E.Y.ad 0)] rfl ca_X12_384 (fun _ hx => mR_greatest hE.sys _ _ _ _ hx) ⟨rfl, rfl, rfl, rfl⟩ rfl rfl dX12_isDone_218 (fun r30 => ?_)
    refine ok_cvV hE rmR_sets [.int v6, .int (12 : Int32), .int r30] [] rfl ca_X12_314 shR_0 rfl (fun _ hx => mR_sets hE.sys _ _ _ _ _ hx) ⟨rfl, rfl, rfl, rfl⟩ rfl rfl dX12_isDone_221 (fun M31 => ?_)
    refine ok_aload_n hE 0 rfl dX12_isDone_224 ?_
    refine ok_bipush hE (16 : Int32) kb_16 dX12_isDone_225 ?_
    refine ok_cvIp hE rmR_its [.int (16 : Int32)] [] rfl ca_X12_321 shR_0 rfl (fun _ hx => mR_its hE.sys _ _ _ hx) ⟨rfl, rfl, rfl, rfl⟩ rfl rfl dX12_isDone_227 (fun r32 => ?_)
    refine ok_fun (fun j => ∀ (M_32 : Mm), Ok E 261 [(0, .ref (E.Y.ad 0)), (1, .int v2), (2, .int v4), (3, .int v6), (4, .int v9)] [] M_32 (j M_32) (KV E)) (fun M_32 => ?_) (fun j261 hj261 => ?_)
    · refine ok_aload_n hE 0 rfl dX12_isDone_261 ?_
      refine ok_iload_n hE 1 rfl dX12_isDone_262 ?_
      refine ok_cvIp hE rmR_lying [.int v2] [] rfl ca_X12_349 shR_0 rfl (fun _ hx => mR_lying hE.sys _ _ _ hx) ⟨rfl, rfl, rfl, rfl⟩ rfl rfl dX12_isDone_263 (fun r34 => ?_)
      refine ok_fun (fun j => ∀ (M_34 : Mm), Ok E 339 [(0, .ref (E.Y.ad 0)), (2, .int v4), (3, .int v6), (4, .int v9)] [] M_34 (j M_34) (KV E)) (fun M_34 => ?_) (fun j339 hj339 => ?_)
      · refine ok_aload_n hE 0 rfl dX12_isDone_339 ?_
        refine ok_getI hE fl_X12_172 shR_0 rfl dX12_isDone_340 ?_
        refine ok_if_ne hE 347 rfl dX12_isDone_343 ?_ ?_
        · refine ok_aload_n hE 0 rfl dX12_isDone_347 ?_
          refine ok_getA hE fl_X12_190 shR_0 rfl dX12_isDone_348 ?_
          refine ok_iconst hE (4 : Int32) ki_4 dX12_isDone_351 ?_
          refine ok_aload_n hE 0 rfl dX12_isDone_352 ?_
          refine ok_getI hE fl_X12_184 shR_0 rfl dX12_isDone_353 ?_
          refine ok_imul hE dX12_isDone_356 ?_
          refine ok_aload_n hE 0 rfl dX12_isDone_357 ?_
          refine ok_getI hE fl_X12_181 shR_0 rfl dX12_isDone_358 ?_
          refine ok_iastore hE shR_20 dX12_isDone_361 (fun M36 => ?_)
          refine ok_aload_n hE 0 rfl dX12_isDone_362 ?_
          refine ok_getA hE fl_X12_190 shR_0 rfl dX12_isDone_363 ?_
          refine ok_iconst hE (4 : Int32) ki_4 dX12_isDone_366 ?_
          refine ok_aload_n hE 0 rfl dX12_isDone_367 ?_
          refine ok_getI hE fl_X12_184 shR_0 rfl dX12_isDone_368 ?_
          refine ok_imul hE dX12_isDone_371 ?_
          refine ok_iconst hE (1 : Int32) ki_1 dX12_isDone_372 ?_
          refine ok_iadd hE dX12_isDone_373 ?_
          refine ok_iload_n hE 2 rfl dX12_isDone_374 ?_
          refine ok_iastore hE shR_20 dX12_isDone_375 (fun M37 => ?_)
          refine ok_aload_n hE 0 rfl dX12_isDone_376 ?_
          refine ok_getA hE fl_X12_190 shR_0 rfl dX12_isDone_377 ?_
          refine ok_iconst hE (4 : Int32) ki_4 dX12_isDone_380 ?_
          refine ok_aload_n hE 0 rfl dX12_isDone_381 ?_
          refine ok_getI hE fl_X12_184 shR_0 rfl dX12_isDone_382 ?_
          refine ok_imul hE dX12_isDone_385 ?_
          refine ok_iconst hE (2 : Int32) ki_2 dX12_isDone_386 ?_
          refine ok_iadd hE dX12_isDone_387 ?_
          refine ok_iload hE 3 rfl dX12_isDone_388 ?_
          refine ok_iastore hE shR_20 dX12_isDone_390 (fun M38 => ?_)
          refine ok_aload_n hE 0 rfl dX12_isDone_391 ?_
          refine ok_getA hE fl_X12_190 shR_0 rfl dX12_isDone_392 ?_
          refine ok_iconst hE (4 : Int32) ki_4 dX12_isDone_395 ?_
          refine ok_aload_n hE 0 rfl dX12_isDone_396 ?_
          refine ok_getI hE fl_X12_184 shR_0 rfl dX12_isDone_397 ?_
          refine ok_imul hE dX12_isDone_400 ?_
          refine ok_iconst hE (3 : Int32) ki_3 dX12_isDone_401 ?_
          refine ok_iadd hE dX12_isDone_402 ?_
          refine ok_iload_n hE 1 rfl dX12_isDone_403 ?_
          refine ok_iastore hE shR_20 dX12_isDone_404 (fun M39 => ?_)
          refine ok_aload_n hE 0 rfl dX12_isDone_405 ?_
          refine ok_dup hE rfl dX12_isDone_406 ?_
          refine ok_getI hE fl_X12_184 shR_0 rfl dX12_isDone_407 ?_
          refine ok_iconst hE (1 : Int32) ki_1 dX12_isDone_410 ?_
          refine ok_iadd hE dX12_isDone_411 ?_
          refine ok_putI hE fl_X12_184 shR_0 rfl dX12_isDone_412 (fun M40 => ?_)
          exact ok_return hE dX12_isDone_415
        · exact ok_return hE dX12_isDone_346
      refine ok_if_ne hE 339 rfl dX12_isDone_266 ?_ ?_
      · exact ok_sub [0, 2, 3, 4] rfl (hj339 M_32)
      · refine ok_aload_n hE 0 rfl dX12_isDone_269 ?_
        refine ok_getA hE fl_X12_57 shR_0 rfl dX12_isDone_270 ?_
        refine ok_iload_n hE 1 rfl dX12_isDone_273 ?_
        refine ok_iaload hE shR_3 dX12_isDone_274 ?_
        refine ok_fun (fun j => ∀ (w_40 : Int32), Ok E 311 [(0, .ref (E.Y.ad 0)), (2, .int v4), (3, .int v6), (4, .int v9)] [.int w_40] M_32 (j w_40) (KV E)) (fun w_40 => ?_) (fun j311 hj311 => ?_)
        · refine ok_istore hE (fun v42 => [(6, .int v42), (0, .ref (E.Y.ad 0)), (2, .int v4), (3, .int v6), (4, .int v9)]) (fun _ => rfl) rfl dX12_isDone_311 (fun v42 => ?_)
          refine ok_aload_n hE 1 rfl dX12_isDone_313 ?_
          refine ok_iconst hE (4 : Int32) ki_4 dX12_isDone_314 ?_
          refine ok_aload_n hE 1 rfl dX12_isDone_315 ?_
          refine ok_iconst hE (0 : Int32) ki_0 dX12_isDone_316 ?_
          refine ok_cvIp hE rmR_its [.int (0 : Int32)] [.int (4 : Int32), .ref (E.Y.ad 0)] rfl ca_X12_321 shR_0 rfl (fun _ hx => mR_its hE.sys _ _ _ hx) ⟨rfl, rfl, rfl, rfl⟩ rfl rfl dX12_isDone_317 (fun r43 => ?_)
          refine ok_iload hE 0 rfl dX12_isDone_320 ?_
          refine ok_fun (fun j => ∀ (w_43 : Int32), Ok E 335 [(0, .ref (E.Y.ad 0)), (2, .int v4), (3, .int v6), (4, .int v9)] [.int w_43, .int r43, .int (4 : Int32), .ref (E.Y.ad 0)] M_32 (j w_43) (KV E)) (fun w_43 => ?_) (fun j335 hj335 => ?_)
          · refine ok_iadd hE dX12_isDone_335 ?_
            refine ok_cvV hE rmR_puts [.int (4 : Int32), .int (r43 + w_43)] [] rfl ca_X12_318 shR_0 rfl (fun _ hx => mR_puts hE.sys _ _ _ _ hx) ⟨rfl, rfl, rfl, rfl⟩ rfl rfl dX12_isDone_336 (fun M45 => ?_)
            exact ok_sub [0, 1, 2, 3] rfl (hj339 M45)
          refine ok_if_eq hE 334 rfl dX12_isDone_322 ?_ ?_
          · refine ok_iconst hE (0 : Int32) ki_0 dX12_isDone_334 ?_
            exact ok_sub [1, 2, 3, 4] rfl (hj335 (0 : Int32))
          · refine ok_aload_n hE 1 rfl dX12_isDone_325 ?_
            refine ok_bipush hE (6 : Int32) kb_6 dX12_isDone_326 ?_
            refine ok_cvIp hE rmR_its [.int (6 : Int32)] [.int r43, .int (4 : Int32), .ref (E.Y.ad 0)] rfl ca_X12_321 shR_0 rfl (fun _ hx => mR_its hE.sys _ _ _ hx) ⟨rfl, rfl, rfl, rfl⟩ rfl rfl dX12_isDone_328 (fun r46 => ?_)
            refine ok_goto hE 335 rfl dX12_isDone_331 ?_
            exact ok_sub [1, 2, 3, 4] rfl (hj335 r46)
        refine ok_fun (fun j => ∀ (_ : Unit), Ok E 310 [(0, .ref (E.Y.ad 0)), (2, .int v4), (3, .int v6), (4, .int v9)] [] M_32 (j ()) (KV E)) (fun _ => ?_) (fun j310 hj310 => ?_)
        · refine ok_iconst hE (0 : Int32) ki_0 dX12_isDone_310 ?_
          exact ok_sub [0, 1, 2, 3] rfl (hj311 (0 : Int32))
        refine ok_if_ne hE 310 rfl dX12_isDone_275 ?_ ?_
        · exact ok_sub [0, 2, 3, 4] rfl (hj310 ())
        · refine ok_aload_n hE 0 rfl dX12_isDone_278 ?_
          refine ok_iload_n hE 1 rfl dX12_isDone_279 ?_
          refine ok_cvIp hE rmR_far [.int v2] [] rfl ca_X12_387 shR_0 rfl (fun _ hx => mR_far hE.sys _ _ _ hx) ⟨rfl, rfl, rfl, rfl⟩ rfl rfl dX12_isDone_280 (fun r47 => ?_)
          refine ok_iconst hE (5 : Int32) ki_5 dX12_isDone_283 ?_
          refine ok_icmp_ge hE 310 rfl dX12_isDone_284 ?_ ?_
          · exact ok_sub [0, 2, 3, 4] rfl (hj310 ())
          · refine ok_aload_n hE 0 rfl dX12_isDone_287 ?_
            refine ok_bipush hE (12 : Int32) kb_12 dX12_isDone_288 ?_
            refine ok_iload_n hE 1 rfl dX12_isDone_290 ?_
            refine ok_iadd hE dX12_isDone_291 ?_
            refine ok_cvFp hE rmR_part [.int ((12 : Int32) + v2)] [] rfl ca_X12_352 shR_0 rfl (fun _ hx => mR_part hE.sys _ _ _ hx) ⟨rfl, rfl, rfl, rfl⟩ rfl rfl dX12_isDone_292 (fun r48 => ?_)
            refine ok_aload_n hE 0 rfl dX12_isDone_295 ?_
            refine ok_bipush hE (6 : Int32) kb_6 dX12_isDone_296 ?_
            refine ok_cvIp hE rmR_its [.int (6 : Int32)] [.float r48] rfl ca_X12_321 shR_0 rfl (fun _ hx => mR_its hE.sys _ _ _ hx) ⟨rfl, rfl, rfl, rfl⟩ rfl rfl dX12_isDone_298 (fun r49 => ?_)
            refine ok_i2f hE dX12_isDone_301 ?_
            refine ok_fcmp hE dX12_isDone_302 ?_
            refine ok_if_gt hE 310 rfl dX12_isDone_303 ?_ ?_
            · exact ok_sub [0, 2, 3, 4] rfl (hj310 ())
            · refine ok_iconst hE (1 : Int32) ki_1 dX12_isDone_306 ?_
              refine ok_goto hE 311 rfl dX12_isDone_307 ?_
              exact ok_sub [0, 2, 3, 4] rfl (hj311 (1 : Int32))
    refine ok_if_ne hE 261 rfl dX12_isDone_230 ?_ ?_
    · exact ok_sub [0, 1, 2, 3, 4] rfl (hj261 M31)
    · refine ok_aload_n hE 0 rfl dX12_isDone_233 ?_
      refine ok_getA hE fl_X12_57 shR_0 rfl dX12_isDone_234 ?_
      refine ok_iload_n hE 3 rfl dX12_isDone_237 ?_
      refine ok_iaload hE shR_3 dX12_isDone_238 ?_
      refine ok_if_ne hE 261 rfl dX12_isDone_239 ?_ ?_
      · exact ok_sub [0, 1, 2, 3, 4] rfl (hj261 M31)
      · refine ok_aload_n hE 0 rfl dX12_isDone_242 ?_
        refine ok_iload_n hE 3 rfl dX12_isDone_243 ?_
        refine ok_iconst hE (2 : Int32) ki_2 dX12_isDone_244 ?_
        refine ok_iconst hE (0 : Int32) ki_0 dX12_isDone_245 ?_
        refine ok_cvV hE rmR_sets [.int v6, .int (2 : Int32), .int (0 : Int32)] [] rfl ca_X12_314 shR_0 rfl (fun _ hx => mR_sets hE.sys _ _ _ _ _ hx) ⟨rfl, rfl, rfl, rfl⟩ rfl rfl dX12_isDone_246 (fun M50 => ?_)
        refine ok_aload_n hE 0 rfl dX12_isDone_249 ?_
        refine ok_iload_n hE 3 rfl dX12_isDone_250 ?_
        refine ok_iconst hE (1 : Int32) ki_1 dX12_isDone_251 ?_
        refine ok_aload_n hE 0 rfl dX12_isDone_252 ?_
        refine ok_bipush hE (17 : Int32) kb_17 dX12_isDone_253 ?_
        refine ok_cvIp hE rmR_its [.int (17 : Int32)] [.int (1 : Int32), .int v6, .ref (E.Y.ad 0)] rfl ca_X12_321 shR_0 rfl (fun _ hx => mR_its hE.sys _ _ _ hx) ⟨rfl, rfl, rfl, rfl⟩ rfl rfl dX12_isDone_255 (fun r51 => ?_)
        refine ok_cvV hE rmR_sets [.int v6, .int (1 : Int32), .int r51] [] rfl ca_X12_314 shR_0 rfl (fun _ hx => mR_sets hE.sys _ _ _ _ _ hx) ⟨rfl, rfl, rfl, rfl⟩ rfl rfl dX12_isDone_258 (fun M52 => ?_)
        exact ok_sub [0, 1, 2, 3, 4] rfl (hj261 M52)
  refine ok_sub [6, 5, 4, 3, 2, 1, 0] rfl (ok_loop (σ := Int32 × Int32) 67 (fun x53 => [(0, .ref (E.Y.ad 0)), (1, .int v2), (2, .int v4), (3, .int v6), (4, .int v9), (5, .int x53.1), (6, .int x53.2)]) (fun x53 => M13) (fun rec67 hrec67 x53 => ?_) 1000000 (v14, v15))
  refine ok_iload hE 6 rfl dX12_isDone_67 ?_
  refine ok_aload_n hE 0 rfl dX12_isDone_69 ?_
  refine ok_getI hE fl_X12_13 shR_0 rfl dX12_isDone_70 ?_
  refine ok_icmp_ge hE 112 rfl dX12_isDone_73 ?_ ?_
  · exact ok_sub [0, 1, 2, 3, 4, 5] rfl (hj112 x53.1)
  · refine ok_iload hE 5 rfl dX12_isDone_76 ?_
    refine ok_iload hE 6 rfl dX12_isDone_78 ?_
    refine ok_iload_n hE 1 rfl dX12_isDone_80 ?_
    refine ok_fun (fun j => ∀ (w_53 : Int32), Ok E 103 [(0, .ref (E.Y.ad 0)), (1, .int v2), (2, .int v4), (3, .int v6), (4, .int v9), (6, .int x53.2)] [.int w_53, .int x53.1] M13 (j w_53) (KV E)) (fun w_53 => ?_) (fun j103 hj103 => ?_)
    · refine ok_iadd hE dX12_isDone_103 ?_
      refine ok_istore hE (fun v55 => [(5, .int v55), (0, .ref (E.Y.ad 0)), (1, .int v2), (2, .int v4), (3, .int v6), (4, .int v9), (6, .int x53.2)]) (fun _ => rfl) rfl dX12_isDone_104 (fun v55 => ?_)
      refine ok_iinc hE 6 (x53.2 + (1 : Int32)) (by rw [ko_1]) (fun v56 => [(6, .int v56), (5, .int v55), (0, .ref (E.Y.ad 0)), (1, .int v2), (2, .int v4), (3, .int v6), (4, .int v9)]) rfl (fun _ => rfl) rfl dX12_isDone_106 (fun v56 => ?_)
      refine ok_goto hE 67 rfl dX12_isDone_109 ?_
      exact ok_sub [2, 3, 4, 5, 6, 1, 0] rfl (hrec67 (v55, v56))
    refine ok_fun (fun j => ∀ (_ : Unit), Ok E 93 [(0, .ref (E.Y.ad 0)), (1, .int v2), (2, .int v4), (3, .int v6), (4, .int v9), (6, .int x53.2)] [.int x53.1] M13 (j ()) (KV E)) (fun _ => ?_) (fun j93 hj93 => ?_)
    · refine ok_aload_n hE 0 rfl dX12_isDone_93 ?_
      refine ok_iload hE 5 rfl dX12_isDone_94 ?_
      refine ok_cvIp hE rmR_weightOf [.int x53.2] [.int x53.1] rfl ca_X12_358 shR_0 rfl (fun _ hx => mR_weightOf hE.sys _ _ _ hx) ⟨rfl, rfl, rfl, rfl⟩ rfl rfl dX12_isDone_96 (fun r57 => ?_)
      refine ok_goto hE 103 rfl dX12_isDone_99 ?_
      exact ok_sub [0, 1, 2, 3, 4, 5] rfl (hj103 r57)
    refine ok_icmp_eq hE 93 rfl dX12_isDone_81 ?_ ?_
    · exact ok_sub [0, 1, 2, 3, 4, 6] rfl (hj93 ())
    · refine ok_aload_n hE 0 rfl dX12_isDone_84 ?_
      refine ok_iload hE 6 rfl dX12_isDone_85 ?_
      refine ok_cvIp hE rmR_lying [.int x53.2] [.int x53.1] rfl ca_X12_349 shR_0 rfl (fun _ hx => mR_lying hE.sys _ _ _ hx) ⟨rfl, rfl, rfl, rfl⟩ rfl rfl dX12_isDone_87 (fun r58 => ?_)
      refine ok_if_le hE 102 rfl dX12_isDone_90 ?_ ?_
      · refine ok_iconst hE (0 : Int32) ki_0 dX12_isDone_102 ?_
        exact ok_sub [0, 1, 2, 3, 4, 6] rfl (hj103 (0 : Int32))
      · exact ok_sub [0, 1, 2, 3, 4, 6] rfl (hj93 ())
theorem mR_isDone {l : Launch} {Y : Sys} {t : Nat} (hY : SysOk Y t shR)   (M : Mm) (r : Mm) (h : R_isDone  M = some r) : Cm l Y t yX12_isDone (WS yX12_isDone cX12_isDone 7 none) rmR_isDone [.ref (Y.ad 0)] M (enV r) := by
  refine cm_of (own := RX12) hY rfl rfl (Nat.le_of_ble_eq_true rfl) (fun E hE e1 e2 e3 e4 => ?_)
  subst e1
  exact tR_isDone E hE   M r h e4.symm
def R_goesOn  (M : Mm) : Option Mm :=
 lett (sI M 0 56 ((gI M 0 56) + (1 : Int32))) fun M1 =>
 bnd (R_its (5 : Int32) M1) fun r2 =>
 lett (fun (M_2 : Mm) =>
 lett (0 : Int32) fun v4 =>
 lett (fun (M_4 : Mm) =>
 bnd (R_its (5 : Int32) M_4) fun r6 =>
 lett (fun (M_6 : Mm) =>
 bnd (R_its (0 : Int32) M_6) fun r8 =>
 bnd (R_puts (0 : Int32) (r8 + (1 : Int32)) M_6) fun M9 =>
 some M9) fun j124 =>
 if r6 = 0 then
 (bnd (R_chooses M_4) fun M10 =>
 j124 M10)
 else
 (j124 M_4)) fun j112 =>
 loopR (fun (rec44 : (Int32 × Mm) → Option Mm) (x11 : Int32 × Mm) =>
 if (gI x11.2 0 1) ≤ x11.1 then
 (j112 x11.2)
 else
 (bnd (R_of x11.1 (8 : Int32) x11.2) fun r12 =>
 lett (fun (M_12 : Mm) =>
 lett (x11.1 + (1 : Int32)) fun v14 =>
 rec44 (v14, M_12)) fun j106 =>
 if r12 = 0 then
 (j106 x11.2)
 else
 (bnd (R_of x11.1 (2 : Int32) x11.2) fun r15 =>
 if r15 = (1 : Int32) then
 (j106 x11.2)
 else
 (bnd (R_of x11.1 (1 : Int32) x11.2) fun r16 =>
 if r16 ≤ 0 then
 (bnd (R_asksByStep x11.1 x11.2) fun M17 =>
 j106 M17)
 else
 (bnd (R_of x11.1 (1 : Int32) x11.2) fun r18 =>
 bnd (R_sets x11.1 (1 : Int32) (r18 - (1 : Int32)) x11.2) fun M19 =>
 j106 M19))))) 1000000 (v4, M_2)) fun j42 =>
 if r2 ≤ 0 then
 (j42 M1)
 else
 (bnd (R_its (5 : Int32) M1) fun r20 =>
 bnd (R_puts (5 : Int32) (r20 - (1 : Int32)) M1) fun M21 =>
 bnd (R_its (5 : Int32) M21) fun r22 =>
 if r22 = 0 then
 (bnd (R_isDone M21) fun M23 =>
 j42 M23)
 else
 (j42 M21))
abbrev rmR_goesOn : Room := { frames := 6, cells := 0, slots := 0, locals := 138 }
set_option maxHeartbeats 4000000 in
set_option maxRecDepth 100000 in
theorem tR_goesOn (E : Cx) (hE : CxOk E cX12_goesOn RX12 shR none rmR_goesOn 2)   (M : Mm) : Ok E 0 [(0, .ref (E.Y.ad 0))] [] M (R_goesOn  M) (KV E) := by
  unfold R_goesOn
  refine ok_aload_n hE 0 rfl dX12_goesOn_0 ?_
  refine ok_dup hE rfl dX12_goesOn_1 ?_
  refine ok_getI hE fl_X12_181 shR_0 rfl dX12_goesOn_2 ?_
  refine ok_iconst hE (1 : Int32) ki_1 dX12_goesOn_5 ?_
  refine ok_iadd hE dX12_goesOn_6 ?_
  refine ok_putI hE fl_X12_181 shR_0 rfl dX12_goesOn_7 (fun M1 => ?_)
  refine ok_aload_n hE 0 rfl dX12_goesOn_10 ?_
  refine ok_iconst hE (5 : Int32) ki_5 dX12_goesOn_11 ?_
  refine ok_cvIp hE rmR_its [.int (5 : Int32)] [] rfl ca_X12_321 shR_0 rfl (fun _ hx => mR_its hE.sys _ _ _ hx) ⟨rfl, rfl, rfl, rfl⟩ rfl rfl dX12_goesOn_12 (fun r2 => ?_)
  refine ok_fun (fun j => ∀ (M_2 : Mm), Ok E 42 [(0, .ref (E.Y.ad 0))] [] M_2 (j M_2) (KV E)) (fun M_2 => ?_) (fun j42 hj42 => ?_)
  · refine ok_iconst hE (0 : Int32) ki_0 dX12_goesOn_42 ?_
    refine ok_istore_n hE (fun v4 => [(1, .int v4), (0, .ref (E.Y.ad 0))]) (fun _ => rfl) rfl dX12_goesOn_43 (fun v4 => ?_)
    refine ok_fun (fun j => ∀ (M_4 : Mm), Ok E 112 [(0, .ref (E.Y.ad 0))] [] M_4 (j M_4) (KV E)) (fun M_4 => ?_) (fun j112 hj112 => ?_)
    · refine ok_aload_n hE 0 rfl dX12_goesOn_112 ?_
      refine ok_iconst hE (5 : Int32) ki_5 dX12_goesOn_113 ?_
      refine ok_cvIp hE rmR_its [.int (5 : Int32)] [] rfl ca_X12_321 shR_0 rfl (fun _ hx => mR_its hE.sys _ _ _ hx) ⟨rfl, rfl, rfl, rfl⟩ rfl rfl dX12_goesOn_114 (fun r6 => ?_)
      refine ok_fun (fun j => ∀ (M_6 : Mm), Ok E 124 [(0, .ref (E.Y.ad 0))] [] M_6 (j M_6) (KV E)) (fun M_6 => ?_) (fun j124 hj124 => ?_)
      · refine ok_aload_n hE 0 rfl dX12_goesOn_124 ?_
        refine ok_iconst hE (0 : Int32) ki_0 dX12_goesOn_125 ?_
        refine ok_aload_n hE 0 rfl dX12_goesOn_126 ?_
        refine ok_iconst hE (0 : Int32) ki_0 dX12_goesOn_127 ?_
        refine ok_cvIp hE rmR_its [.int (0 : Int32)] [.int (0 : Int32), .ref (E.Y.ad 0)] rfl ca_X12_321 shR_0 rfl (fun _ hx => mR_its hE.sys _ _ _ hx) ⟨rfl, rfl, rfl, rfl⟩ rfl rfl dX12_goesOn_128 (fun r8 => ?_)
        refine ok_iconst hE (1 : Int32) ki_1 dX12_goesOn_131 ?_
        refine ok_iadd hE dX12_goesOn_132 ?_
        refine ok_cvV hE rmR_puts [.int (0 : Int32), .int (r8 + (1 : Int32))] [] rfl ca_X12_318 shR_0 rfl (fun _ hx => mR_puts hE.sys _ _ _ _ hx) ⟨rfl, rfl, rfl, rfl⟩ rfl rfl dX12_goesOn_133 (fun M9 => ?_)
        exact ok_return hE dX12_goesOn_136
      refine ok_if_ne hE 124 rfl dX12_goesOn_117 ?_ ?_
      · exact ok_sub [0] rfl (hj124 M_4)
      · refine ok_aload_n hE 0 rfl dX12_goesOn_120 ?_
        refine ok_cvV hE rmR_chooses [] [] rfl ca_X12_399 shR_0 rfl (fun _ hx => mR_chooses hE.sys  _ _ hx) ⟨rfl, rfl, rfl, rfl⟩ rfl rfl dX12_goesOn_121 (fun M10 => ?_)
        exact ok_sub [0] rfl (hj124 M10)
    refine ok_sub [1, 0] rfl (ok_loop (σ := Int32 × Mm) 44 (fun x11 => [(0, .ref (E.Y.ad 0)), (1, .int x11.1)]) (fun x11 => x11.2) (fun rec44 hrec44 x11 => ?_) 1000000 (v4, M_2))
    refine ok_iload_n hE 1 rfl dX12_goesOn_44 ?_
    refine ok_aload_n hE 0 rfl dX12_goesOn_45 ?_
    refine ok_getI hE fl_X12_13 shR_0 rfl dX12_goesOn_46 ?_
    refine ok_icmp_ge hE 112 rfl dX12_goesOn_49 ?_ ?_
    · exact ok_sub [0] rfl (hj112 x11.2)
    · refine ok_aload_n hE 0 rfl dX12_goesOn_52 ?_
      refine ok_iload_n hE 1 rfl dX12_goesOn_53 ?_
      refine ok_bipush hE (8 : Int32) kb_8 dX12_goesOn_54 ?_
      refine ok_cvIp hE rmR_of [.int x11.1, .int (8 : Int32)] [] rfl ca_X12_337 shR_0 rfl (fun _ hx => mR_of hE.sys _ _ _ _ hx) ⟨rfl, rfl, rfl, rfl⟩ rfl rfl dX12_goesOn_56 (fun r12 => ?_)
      refine ok_fun (fun j => ∀ (M_12 : Mm), Ok E 106 [(0, .ref (E.Y.ad 0)), (1, .int x11.1)] [] M_12 (j M_12) (KV E)) (fun M_12 => ?_) (fun j106 hj106 => ?_)
      · refine ok_iinc hE 1 (x11.1 + (1 : Int32)) (by rw [ko_1]) (fun v14 => [(1, .int v14), (0, .ref (E.Y.ad 0))]) rfl (fun _ => rfl) rfl dX12_goesOn_106 (fun v14 => ?_)
        refine ok_goto hE 44 rfl dX12_goesOn_109 ?_
        exact ok_sub [1, 0] rfl (hrec44 (v14, M_12))
      refine ok_if_eq hE 106 rfl dX12_goesOn_59 ?_ ?_
      · exact ok_sub [0, 1] rfl (hj106 x11.2)
      · refine ok_aload_n hE 0 rfl dX12_goesOn_62 ?_
        refine ok_iload_n hE 1 rfl dX12_goesOn_63 ?_
        refine ok_iconst hE (2 : Int32) ki_2 dX12_goesOn_64 ?_
        refine ok_cvIp hE rmR_of [.int x11.1, .int (2 : Int32)] [] rfl ca_X12_337 shR_0 rfl (fun _ hx => mR_of hE.sys _ _ _ _ hx) ⟨rfl, rfl, rfl, rfl⟩ rfl rfl dX12_goesOn_65 (fun r15 => ?_)
        refine ok_iconst hE (1 : Int32) ki_1 dX12_goesOn_68 ?_
        refine ok_icmp_ne hE 75 rfl dX12_goesOn_69 ?_ ?_
        · refine ok_aload_n hE 0 rfl dX12_goesOn_75 ?_
          refine ok_iload_n hE 1 rfl dX12_goesOn_76 ?_
          refine ok_iconst hE (1 : Int32) ki_1 dX12_goesOn_77 ?_
          refine ok_cvIp hE rmR_of [.int x11.1, .int (1 : Int32)] [] rfl ca_X12_337 shR_0 rfl (fun _ hx => mR_of hE.sys _ _ _ _ hx) ⟨rfl, rfl, rfl, rfl⟩ rfl rfl dX12_goesOn_78 (fun r16 => ?_)
          refine ok_if_le hE 101 rfl dX12_goesOn_81 ?_ ?_
          · refine ok_aload_n hE 0 rfl dX12_goesOn_101 ?_
            refine ok_iload_n hE 1 rfl dX12_goesOn_102 ?_
            refine ok_cvV hE rmR_asksByStep [.int x11.1] [] rfl ca_X12_396 shR_0 rfl (fun _ hx => mR_asksByStep hE.sys _ _ _ hx) ⟨rfl, rfl, rfl, rfl⟩ rfl rfl dX12_goesOn_103 (fun M17 => ?_)
            exact ok_sub [0, 1] rfl (hj106 M17)
          · refine ok_aload_n hE 0 rfl dX12_goesOn_84 ?_
            refine ok_iload_n hE 1 rfl dX12_goesOn_85 ?_
            refine ok_iconst hE (1 : Int32) ki_1 dX12_goesOn_86 ?_
            refine ok_aload_n hE 0 rfl dX12_goesOn_87 ?_
            refine ok_iload_n hE 1 rfl dX12_goesOn_88 ?_
            refine ok_iconst hE (1 : Int32) ki_1 dX12_goesOn_89 ?_
            refine ok_cvIp hE rmR_of [.int x11.1, .int (1 : Int32)] [.int (1 : Int32), .int x11.1, .ref (E.Y.ad 0)] rfl ca_X12_337 shR_0 rfl (fun _ hx => mR_of hE.sys _ _ _ _ hx) ⟨rfl, rfl, rfl, rfl⟩ rfl rfl dX12_goesOn_90 (fun r18 => ?_)
            refine ok_iconst hE (1 : Int32) ki_1 dX12_goesOn_93 ?_
            refine ok_isub hE dX12_goesOn_94 ?_
            refine ok_cvV hE rmR_sets [.int x11.1, .int (1 : Int32), .int (r18 - (1 : Int32))] [] rfl ca_X12_314 shR_0 rfl (fun _ hx => mR_sets hE.sys _ _ _ _ _ hx) ⟨rfl, rfl, rfl, rfl⟩ rfl rfl dX12_goesOn_95 (fun M19 => ?_)
            refine ok_goto hE 106 rfl dX12_goesOn_98 ?_
            exact ok_sub [0, 1] rfl (hj106 M19)
        · refine ok_goto hE 106 rfl dX12_goesOn_72 ?_
          exact ok_sub [0, 1] rfl (hj106 x11.2)
  refine ok_if_le hE 42 rfl dX12_goesOn_15 ?_ ?_
  · exact ok_sub [0] rfl (hj42 M1)
  · refine ok_aload_n hE 0 rfl dX12_goesOn_18 ?_
    refine ok_iconst hE (5 : Int32) ki_5 dX12_goesOn_19 ?_
    refine ok_aload_n hE 0 rfl dX12_goesOn_20 ?_
    refine ok_iconst hE (5 : Int32) ki_5 dX12_goesOn_21 ?_
    refine ok_cvIp hE rmR_its [.int (5 : Int32)] [.int (5 : Int32), .ref (E.Y.ad 0)] rfl ca_X12_321 shR_0 rfl (fun _ hx => mR_its hE.sys _ _ _ hx) ⟨rfl, rfl, rfl, rfl⟩ rfl rfl dX12_goesOn_22 (fun r20 => ?_)
    refine ok_iconst hE (1 : Int32) ki_1 dX12_goesOn_25 ?_
    refine ok_isub hE dX12_goesOn_26 ?_
    refine ok_cvV hE rmR_puts [.int (5 : Int32), .int (r20 - (1 : Int32))] [] rfl ca_X12_318 shR_0 rfl (fun _ hx => mR_puts hE.sys _ _ _ _ hx) ⟨rfl, rfl, rfl, rfl⟩ rfl rfl dX12_goesOn_27 (fun M21 => ?_)
    refine ok_aload_n hE 0 rfl dX12_goesOn_30 ?_
    refine ok_iconst hE (5 : Int32) ki_5 dX12_goesOn_31 ?_
    refine ok_cvIp hE rmR_its [.int (5 : Int32)] [] rfl ca_X12_321 shR_0 rfl (fun _ hx => mR_its hE.sys _ _ _ hx) ⟨rfl, rfl, rfl, rfl⟩ rfl rfl dX12_goesOn_32 (fun r22 => ?_)
    refine ok_if_ne hE 42 rfl dX12_goesOn_35 ?_ ?_
    · exact ok_sub [0] rfl (hj42 M21)
    · refine ok_aload_n hE 0 rfl dX12_goesOn_38 ?_
      refine ok_cvV hE rmR_isDone [] [] rfl ca_X12_393 shR_0 rfl (fun _ hx => mR_isDone hE.sys  _ _ hx) ⟨rfl, rfl, rfl, rfl⟩ rfl rfl dX12_goesOn_39 (fun M23 => ?_)
      exact ok_sub [0] rfl (hj42 M23)
theorem mR_goesOn {l : Launch} {Y : Sys} {t : Nat} (hY : SysOk Y t shR)   (M : Mm) (r : Mm) (h : R_goesOn  M = some r) : Cm l Y t yX12_goesOn (WS yX12_goesOn cX12_goesOn 2 none) rmR_goesOn [.ref (Y.ad 0)] M (enV r) := by
  refine cm_of (own := RX12) hY rfl rfl (Nat.le_of_ble_eq_true rfl) (fun E hE e1 e2 e3 e4 => ?_)
  subst e1
  exact tR_goesOn E hE   M r h e4.symm
def R_goesOnFor (p1 : Int32) (M : Mm) : Option Mm :=
 lett (0 : Int32) fun v1 =>
 loopR (fun (rec2 : (Int32 × Mm) → Option Mm) (x2 : Int32 × Mm) =>
 if p1 ≤ x2.1 then
 (some x2.2)
 else
 (bnd (R_goesOn x2.2) fun M3 =>
 lett (x2.1 + (1 : Int32)) fun v4 =>
 rec2 (v4, M3))) 1000000 (v1, M)
abbrev rmR_goesOnFor : Room := { frames := 7, cells := 0, slots := 0, locals := 159 }
set_option maxHeartbeats 4000000 in
set_option maxRecDepth 100000 in
theorem tR_goesOnFor (E : Cx) (hE : CxOk E cX12_goesOnFor RX12 shR none rmR_goesOnFor 3) (p1 : Int32)  (M : Mm) : Ok E 0 [(0, .ref (E.Y.ad 0)), (1, .int p1)] [] M (R_goesOnFor p1 M) (KV E) := by
  unfold R_goesOnFor
  refine ok_iconst hE (0 : Int32) ki_0 dX12_goesOnFor_0 ?_
  refine ok_istore_n hE (fun v1 => [(2, .int v1), (0, .ref (E.Y.ad 0)), (1, .int p1)]) (fun _ => rfl) rfl dX12_goesOnFor_1 (fun v1 => ?_)
  refine ok_sub [1, 2, 0] rfl (ok_loop (σ := Int32 × Mm) 2 (fun x2 => [(0, .ref (E.Y.ad 0)), (1, .int p1), (2, .int x2.1)]) (fun x2 => x2.2) (fun rec2 hrec2 x2 => ?_) 1000000 (v1, M))
  refine ok_iload_n hE 2 rfl dX12_goesOnFor_2 ?_
  refine ok_iload_n hE 1 rfl dX12_goesOnFor_3 ?_
  refine ok_icmp_ge hE 17 rfl dX12_goesOnFor_4 ?_ ?_
  · exact ok_return hE dX12_goesOnFor_17
  · refine ok_aload_n hE 0 rfl dX12_goesOnFor_7 ?_
    refine ok_cvV hE rmR_goesOn [] [] rfl ca_X12_402 shR_0 rfl (fun _ hx => mR_goesOn hE.sys  _ _ hx) ⟨rfl, rfl, rfl, rfl⟩ rfl rfl dX12_goesOnFor_8 (fun M3 => ?_)
    refine ok_iinc hE 2 (x2.1 + (1 : Int32)) (by rw [ko_1]) (fun v4 => [(2, .int v4), (0, .ref (E.Y.ad 0)), (1, .int p1)]) rfl (fun _ => rfl) rfl dX12_goesOnFor_11 (fun v4 => ?_)
    refine ok_goto hE 2 rfl dX12_goesOnFor_14 ?_
    exact ok_sub [1, 2, 0] rfl (hrec2 (v4, M3))
theorem mR_goesOnFor {l : Launch} {Y : Sys} {t : Nat} (hY : SysOk Y t shR) (p1 : Int32)  (M : Mm) (r : Mm) (h : R_goesOnFor p1 M = some r) : Cm l Y t yX12_goesOnFor (WS yX12_goesOnFor cX12_goesOnFor 3 none) rmR_goesOnFor [.ref (Y.ad 0), .int p1] M (enV r) := by
  refine cm_of (own := RX12) hY rfl rfl (Nat.le_of_ble_eq_true rfl) (fun E hE e1 e2 e3 e4 => ?_)
  subst e1
  exact tR_goesOnFor E hE p1  M r h e4.symm
def R_isProcess (p1 : Int32) (M : Mm) : Option Int32 :=
 bnd (R_isIn p1 (0 : Int32) ((gI M 0 1) - (1 : Int32)) M) fun r1 =>
 grd (r1 = 0 ∨ r1 = 1) (some r1)
abbrev rmR_isProcess : Room := { frames := 1, cells := 0, slots := 0, locals := 22 }
set_option maxHeartbeats 4000000 in
set_option maxRecDepth 100000 in
theorem tR_isProcess (E : Cx) (hE : CxOk E cX12_isProcess RX12 shR (some .boolean) rmR_isProcess 2) (p1 : Int32)  (M : Mm) : Ok E 0 [(0, .ref (E.Y.ad 0)), (1, .int p1)] [] M (R_isProcess p1 M) (KIp E M) := by
  unfold R_isProcess
  refine ok_iload_n hE 1 rfl dX12_isProcess_0 ?_
  refine ok_iconst hE (0 : Int32) ki_0 dX12_isProcess_1 ?_
  refine ok_aload_n hE 0 rfl dX12_isProcess_2 ?_
  refine ok_getI hE fl_X12_13 shR_0 rfl dX12_isProcess_3 ?_
  refine ok_iconst hE (1 : Int32) ki_1 dX12_isProcess_6 ?_
  refine ok_isub hE dX12_isProcess_7 ?_
  refine ok_csIp hE rmR_isIn [.int p1, .int (0 : Int32), .int ((gI M 0 1) - (1 : Int32))] [] rfl ca_X12_262 (fun _ hx => mR_isIn hE.sys _ _ _ _ _ hx) ⟨rfl, rfl, rfl, rfl⟩ rfl rfl dX12_isProcess_8 (fun r1 => ?_)
  exact ok_zreturnPG hE dX12_isProcess_11
theorem mR_isProcess {l : Launch} {Y : Sys} {t : Nat} (hY : SysOk Y t shR) (p1 : Int32)  (M : Mm) (r : Int32) (h : R_isProcess p1 M = some r) : Cm l Y t yX12_isProcess (WS yX12_isProcess cX12_isProcess 2 (some .boolean)) rmR_isProcess [.ref (Y.ad 0), .int p1] M ((some (.int r), M)) := by
  refine cm_of (own := RX12) hY rfl rfl (Nat.le_of_ble_eq_true rfl) (fun E hE e1 e2 e3 e4 => ?_)
  subst e1
  exact tR_isProcess E hE p1  M r h e4.symm
def R_has (p1 : Int32) (M : Mm) : Option (Int32 × Mm) :=
 bnd (R_isNow M) fun M1 =>
 if p1 = (14 : Int32) then
 (some ((gI M1 0 66), M1))
 else
 (if (gI M1 0 0) = 0 then
 (lett (fun (_ : Unit) =>
 some ((-1 : Int32), M1)) fun j39 =>
 if p1 = (4 : Int32) then
 (j39 ())
 else
 (if p1 = (6 : Int32) then
 (j39 ())
 else
 (if p1 = (7 : Int32) then
 (j39 ())
 else
 (bnd (R_isIn p1 (0 : Int32) (13 : Int32) M1) fun r32 =>
 if r32 = 0 then
 (some ((-1 : Int32), M1))
 else
 (some ((0 : Int32), M1))))))
 else
 (bnd (R_its (2 : Int32) M1) fun r2 =>
 lett (fun (w_2 : Int32) =>
 lett w_2 fun v4 =>
 if p1 = (0 : Int32) then
 (some ((gI M1 0 2), M1))
 else
 (if p1 = (1 : Int32) then
 (some ((gI M1 0 1), M1))
 else
 (if p1 = (2 : Int32) then
 (bnd (R_its (0 : Int32) M1) fun r31 =>
 some (r31, M1))
 else
 (if p1 = (3 : Int32) then
 (bnd (R_its (1 : Int32) M1) fun r30 =>
 some (r30, M1))
 else
 (if p1 = (4 : Int32) then
 (bnd (R_its (2 : Int32) M1) fun r29 =>
 some (r29, M1))
 else
 (if p1 = (5 : Int32) then
 (bnd (R_its (5 : Int32) M1) fun r28 =>
 some (r28, M1))
 else
 (if p1 = (6 : Int32) then
 (if v4 = 0 then
 (some ((-1 : Int32), M1))
 else
 (bnd (R_its (3 : Int32) M1) fun r27 =>
 some (r27, M1)))
 else
 (if p1 = (7 : Int32) then
 (if v4 = 0 then
 (some ((-1 : Int32), M1))
 else
 (bnd (R_its (5 : Int32) M1) fun r23 =>
 if r23 = 0 then
 (bnd (R_its (2 : Int32) M1) fun r24 =>
 bnd (R_lying r24 M1) fun r25 =>
 if r25 = 0 then
 (bnd (R_its (4 : Int32) M1) fun r26 =>
 some (r26, M1))
 else
 (some ((-1 : Int32), M1)))
 else
 (some ((-1 : Int32), M1))))
 else
 (if p1 = (8 : Int32) then
 (bnd (R_its (6 : Int32) M1) fun r22 =>
 some (r22, M1))
 else
 (if p1 = (9 : Int32) then
 (bnd (R_its (7 : Int32) M1) fun r21 =>
 some (r21, M1))
 else
 (if p1 = (10 : Int32) then
 (bnd (R_its (8 : Int32) M1) fun r20 =>
 some (r20, M1))
 else
 (if p1 = (11 : Int32) then
 (bnd (R_its (9 : Int32) M1) fun r19 =>
 some (r19, M1))
 else
 (if p1 = (12 : Int32) then
 (some ((gI M1 0 61), M1))
 else
 (if p1 = (13 : Int32) then
 (some ((gI M1 0 55), M1))
 else
 (some ((-1 : Int32), M1)))))))))))))))) fun j73 =>
 if r2 = (-1 : Int32) then
 (j73 (0 : Int32))
 else
 (j73 (1 : Int32))))
abbrev rmR_has : Room := { frames := 3, cells := 0, slots := 0, locals := 66 }
set_option maxHeartbeats 4000000 in
set_option maxRecDepth 100000 in
theorem tR_has (E : Cx) (hE : CxOk E cX12_has RX12 shR (some .int) rmR_has 3) (p1 : Int32)  (M : Mm) : Ok E 0 [(0, .ref (E.Y.ad 0)), (1, .int p1)] [] M (R_has p1 M) (KI E) := by
  unfold R_has
  refine ok_aload_n hE 0 rfl dX12_has_0 ?_
  refine ok_cvV hE rmR_isNow [] [] rfl ca_X12_324 shR_0 rfl (fun _ hx => mR_isNow hE.sys  _ _ hx) ⟨rfl, rfl, rfl, rfl⟩ rfl rfl dX12_has_1 (fun M1 => ?_)
  refine ok_iload_n hE 1 rfl dX12_has_4 ?_
  refine ok_bipush hE (14 : Int32) kb_14 dX12_has_5 ?_
  refine ok_icmp_ne hE 15 rfl dX12_has_7 ?_ ?_
  · refine ok_aload_n hE 0 rfl dX12_has_15 ?_
    refine ok_getI hE fl_X12_7 shR_0 rfl dX12_has_16 ?_
    refine ok_if_ne hE 59 rfl dX12_has_19 ?_ ?_
    · refine ok_aload_n hE 0 rfl dX12_has_59 ?_
      refine ok_iconst hE (2 : Int32) ki_2 dX12_has_60 ?_
      refine ok_cvIp hE rmR_its [.int (2 : Int32)] [] rfl ca_X12_321 shR_0 rfl (fun _ hx => mR_its hE.sys _ _ _ hx) ⟨rfl, rfl, rfl, rfl⟩ rfl rfl dX12_has_61 (fun r2 => ?_)
      refine ok_iconst hE (-1 : Int32) ki_m1 dX12_has_64 ?_
      refine ok_fun (fun j => ∀ (w_2 : Int32), Ok E 73 [(0, .ref (E.Y.ad 0)), (1, .int p1)] [.int w_2] M1 (j w_2) (KI E)) (fun w_2 => ?_) (fun j73 hj73 => ?_)
      · refine ok_istore_n hE (fun v4 => [(2, .int v4), (0, .ref (E.Y.ad 0)), (1, .int p1)]) (fun _ => rfl) rfl dX12_has_73 (fun v4 => ?_)
        refine ok_iload_n hE 2 rfl dX12_has_74 ?_
        refine ok_ite (fun hc5 => ?_) (fun hc5 => ?_)
        · refine ok_tableIn hE (off := 69) (0 : Int32) 144 hc5 dX12_has_75 (by decide) rfl ?_
          refine ok_aload_n hE 1 rfl dX12_has_144 ?_
          refine ok_getI hE fl_X12_17 shR_0 rfl dX12_has_145 ?_
          exact ok_ireturn hE dX12_has_148
        · refine ok_ite (fun hc6 => ?_) (fun hc6 => ?_)
          · refine ok_tableIn hE (off := 74) (1 : Int32) 149 hc6 dX12_has_75 (by decide) rfl ?_
            refine ok_aload_n hE 1 rfl dX12_has_149 ?_
            refine ok_getI hE fl_X12_13 shR_0 rfl dX12_has_150 ?_
            exact ok_ireturn hE dX12_has_153
          · refine ok_ite (fun hc7 => ?_) (fun hc7 => ?_)
            · refine ok_tableIn hE (off := 79) (2 : Int32) 154 hc7 dX12_has_75 (by decide) rfl ?_
              refine ok_aload_n hE 1 rfl dX12_has_154 ?_
              refine ok_iconst hE (0 : Int32) ki_0 dX12_has_155 ?_
              refine ok_cvIp hE rmR_its [.int (0 : Int32)] [] rfl ca_X12_321 shR_0 rfl (fun _ hx => mR_its hE.sys _ _ _ hx) ⟨rfl, rfl, rfl, rfl⟩ rfl rfl dX12_has_156 (fun r31 => ?_)
              exact ok_ireturn hE dX12_has_159
            · refine ok_ite (fun hc8 => ?_) (fun hc8 => ?_)
              · refine ok_tableIn hE (off := 85) (3 : Int32) 160 hc8 dX12_has_75 (by decide) rfl ?_
                refine ok_aload_n hE 1 rfl dX12_has_160 ?_
                refine ok_iconst hE (1 : Int32) ki_1 dX12_has_161 ?_
                refine ok_cvIp hE rmR_its [.int (1 : Int32)] [] rfl ca_X12_321 shR_0 rfl (fun _ hx => mR_its hE.sys _ _ _ hx) ⟨rfl, rfl, rfl, rfl⟩ rfl rfl dX12_has_162 (fun r30 => ?_)
                exact ok_ireturn hE dX12_has_165
              · refine ok_ite (fun hc9 => ?_) (fun hc9 => ?_)
                · refine ok_tableIn hE (off := 91) (4 : Int32) 166 hc9 dX12_has_75 (by decide) rfl ?_
                  refine ok_aload_n hE 1 rfl dX12_has_166 ?_
                  refine ok_iconst hE (2 : Int32) ki_2 dX12_has_167 ?_
                  refine ok_cvIp hE rmR_its [.int (2 : Int32)] [] rfl ca_X12_321 shR_0 rfl (fun _ hx => mR_its hE.sys _ _ _ hx) ⟨rfl, rfl, rfl, rfl⟩ rfl rfl dX12_has_168 (fun r29 => ?_)
                  exact ok_ireturn hE dX12_has_171
                · refine ok_ite (fun hc10 => ?_) (fun hc10 => ?_)
                  · refine ok_tableIn hE (off := 97) (5 : Int32) 172 hc10 dX12_has_75 (by decide) rfl ?_
                    refine ok_aload_n hE 1 rfl dX12_has_172 ?_
                    refine ok_iconst hE (5 : Int32) ki_5 dX12_has_173 ?_
                    refine ok_cvIp hE rmR_its [.int (5 : Int32)] [] rfl ca_X12_321 shR_0 rfl (fun _ hx => mR_its hE.sys _ _ _ hx) ⟨rfl, rfl, rfl, rfl⟩ rfl rfl dX12_has_174 (fun r28 => ?_)
                    exact ok_ireturn hE dX12_has_177
                  · refine ok_ite (fun hc11 => ?_) (fun hc11 => ?_)
                    · refine ok_tableIn hE (off := 103) (6 : Int32) 178 hc11 dX12_has_75 (by decide) rfl ?_
                      refine ok_iload_n hE 0 rfl dX12_has_178 ?_
                      refine ok_if_eq hE 190 rfl dX12_has_179 ?_ ?_
                      · refine ok_iconst hE (-1 : Int32) ki_m1 dX12_has_190 ?_
                        exact ok_ireturn hE dX12_has_191
                      · refine ok_aload_n hE 1 rfl dX12_has_182 ?_
                        refine ok_iconst hE (3 : Int32) ki_3 dX12_has_183 ?_
                        refine ok_cvIp hE rmR_its [.int (3 : Int32)] [] rfl ca_X12_321 shR_0 rfl (fun _ hx => mR_its hE.sys _ _ _ hx) ⟨rfl, rfl, rfl, rfl⟩ rfl rfl dX12_has_184 (fun r27 => ?_)
                        refine ok_goto hE 191 rfl dX12_has_187 ?_
                        exact ok_ireturn hE dX12_has_191
                    · refine ok_ite (fun hc12 => ?_) (fun hc12 => ?_)
                      · refine ok_tableIn hE (off := 117) (7 : Int32) 192 hc12 dX12_has_75 (by decide) rfl ?_
                        refine ok_iload_n hE 0 rfl dX12_has_192 ?_
                        refine ok_if_eq hE 224 rfl dX12_has_193 ?_ ?_
                        · refine ok_iconst hE (-1 : Int32) ki_m1 dX12_has_224 ?_
                          exact ok_ireturn hE dX12_has_225
                        · refine ok_aload_n hE 1 rfl dX12_has_196 ?_
                          refine ok_iconst hE (5 : Int32) ki_5 dX12_has_197 ?_
                          refine ok_cvIp hE rmR_its [.int (5 : Int32)] [] rfl ca_X12_321 shR_0 rfl (fun _ hx => mR_its hE.sys _ _ _ hx) ⟨rfl, rfl, rfl, rfl⟩ rfl rfl dX12_has_198 (fun r23 => ?_)
                          refine ok_if_ne hE 224 rfl dX12_has_201 ?_ ?_
                          · refine ok_iconst hE (-1 : Int32) ki_m1 dX12_has_224 ?_
                            exact ok_ireturn hE dX12_has_225
                          · refine ok_aload_n hE 1 rfl dX12_has_204 ?_
                            refine ok_aload_n hE 1 rfl dX12_has_205 ?_
                            refine ok_iconst hE (2 : Int32) ki_2 dX12_has_206 ?_
                            refine ok_cvIp hE rmR_its [.int (2 : Int32)] [.ref (E.Y.ad 0)] rfl ca_X12_321 shR_0 rfl (fun _ hx => mR_its hE.sys _ _ _ hx) ⟨rfl, rfl, rfl, rfl⟩ rfl rfl dX12_has_207 (fun r24 => ?_)
                            refine ok_cvIp hE rmR_lying [.int r24] [] rfl ca_X12_349 shR_0 rfl (fun _ hx => mR_lying hE.sys _ _ _ hx) ⟨rfl, rfl, rfl, rfl⟩ rfl rfl dX12_has_210 (fun r25 => ?_)
                            refine ok_if_ne hE 224 rfl dX12_has_213 ?_ ?_
                            · refine ok_iconst hE (-1 : Int32) ki_m1 dX12_has_224 ?_
                              exact ok_ireturn hE dX12_has_225
                            · refine ok_aload_n hE 1 rfl dX12_has_216 ?_
                              refine ok_iconst hE (4 : Int32) ki_4 dX12_has_217 ?_
                              refine ok_cvIp hE rmR_its [.int (4 : Int32)] [] rfl ca_X12_321 shR_0 rfl (fun _ hx => mR_its hE.sys _ _ _ hx) ⟨rfl, rfl, rfl, rfl⟩ rfl rfl dX12_has_218 (fun r26 => ?_)
                              refine ok_goto hE 225 rfl dX12_has_221 ?_
                              exact ok_ireturn hE dX12_has_225
                      · refine ok_ite (fun hc13 => ?_) (fun hc13 => ?_)
                        · refine ok_tableIn hE (off := 151) (8 : Int32) 226 hc13 dX12_has_75 (by decide) rfl ?_
                          refine ok_aload_n hE 1 rfl dX12_has_226 ?_
                          refine ok_bipush hE (6 : Int32) kb_6 dX12_has_227 ?_
                          refine ok_cvIp hE rmR_its [.int (6 : Int32)] [] rfl ca_X12_321 shR_0 rfl (fun _ hx => mR_its hE.sys _ _ _ hx) ⟨rfl, rfl, rfl, rfl⟩ rfl rfl dX12_has_229 (fun r22 => ?_)
                          exact ok_ireturn hE dX12_has_232
                        · refine ok_ite (fun hc14 => ?_) (fun hc14 => ?_)
                          · refine ok_tableIn hE (off := 158) (9 : Int32) 233 hc14 dX12_has_75 (by decide) rfl ?_
                            refine ok_aload_n hE 1 rfl dX12_has_233 ?_
                            refine ok_bipush hE (7 : Int32) kb_7 dX12_has_234 ?_
                            refine ok_cvIp hE rmR_its [.int (7 : Int32)] [] rfl ca_X12_321 shR_0 rfl (fun _ hx => mR_its hE.sys _ _ _ hx) ⟨rfl, rfl, rfl, rfl⟩ rfl rfl dX12_has_236 (fun r21 => ?_)
                            exact ok_ireturn hE dX12_has_239
                          · refine ok_ite (fun hc15 => ?_) (fun hc15 => ?_)
                            · refine ok_tableIn hE (off := 165) (10 : Int32) 240 hc15 dX12_has_75 (by decide) rfl ?_
                              refine ok_aload_n hE 1 rfl dX12_has_240 ?_
                              refine ok_bipush hE (8 : Int32) kb_8 dX12_has_241 ?_
                              refine ok_cvIp hE rmR_its [.int (8 : Int32)] [] rfl ca_X12_321 shR_0 rfl (fun _ hx => mR_its hE.sys _ _ _ hx) ⟨rfl, rfl, rfl, rfl⟩ rfl rfl dX12_has_243 (fun r20 => ?_)
                              exact ok_ireturn hE dX12_has_246
                            · refine ok_ite (fun hc16 => ?_) (fun hc16 => ?_)
                              · refine ok_tableIn hE (off := 172) (11 : Int32) 247 hc16 dX12_has_75 (by decide) rfl ?_
                                refine ok_aload_n hE 1 rfl dX12_has_247 ?_
                                refine ok_bipush hE (9 : Int32) kb_9 dX12_has_248 ?_
                                refine ok_cvIp hE rmR_its [.int (9 : Int32)] [] rfl ca_X12_321 shR_0 rfl (fun _ hx => mR_its hE.sys _ _ _ hx) ⟨rfl, rfl, rfl, rfl⟩ rfl rfl dX12_has_250 (fun r19 => ?_)
                                exact ok_ireturn hE dX12_has_253
                              · refine ok_ite (fun hc17 => ?_) (fun hc17 => ?_)
                                · refine ok_tableIn hE (off := 179) (12 : Int32) 254 hc17 dX12_has_75 (by decide) rfl ?_
                                  refine ok_aload_n hE 1 rfl dX12_has_254 ?_
                                  refine ok_getI hE fl_X12_196 shR_0 rfl dX12_has_255 ?_
                                  exact ok_ireturn hE dX12_has_258
                                · refine ok_ite (fun hc18 => ?_) (fun hc18 => ?_)
                                  · refine ok_tableIn hE (off := 184) (13 : Int32) 259 hc18 dX12_has_75 (by decide) rfl ?_
                                    refine ok_aload_n hE 1 rfl dX12_has_259 ?_
                                    refine ok_getI hE fl_X12_178 shR_0 rfl dX12_has_260 ?_
                                    exact ok_ireturn hE dX12_has_263
                                  · refine ok_tableOut hE 264 (by have e0 := lv_neT hc5 (a := 0) rfl; have e1 := lv_neT hc6 (a := 1) rfl; have e2 := lv_neT hc7 (a := 2) rfl; have e3 := lv_neT hc8 (a := 3) rfl; have e4 := lv_neT hc9 (a := 4) rfl; have e5 := lv_neT hc10 (a := 5) rfl; have e6 := lv_neT hc11 (a := 6) rfl; have e7 := lv_neT hc12 (a := 7) rfl; have e8 := lv_neT hc13 (a := 8) rfl; have e9 := lv_neT hc14 (a := 9) rfl; have e10 := lv_neT hc15 (a := 10) rfl; have e11 := lv_neT hc16 (a := 11) rfl; have e12 := lv_neT hc17 (a := 12) rfl; have e13 := lv_neT hc18 (a := 13) rfl; omega) dX12_has_75 rfl ?_
                                    refine ok_iconst hE (-1 : Int32) ki_m1 dX12_has_264 ?_
                                    exact ok_ireturn hE dX12_has_265
      refine ok_icmp_eq hE 72 rfl dX12_has_65 ?_ ?_
      · refine ok_iconst hE (0 : Int32) ki_0 dX12_has_72 ?_
        exact ok_sub [0, 1] rfl (hj73 (0 : Int32))
      · refine ok_iconst hE (1 : Int32) ki_1 dX12_has_68 ?_
        refine ok_goto hE 73 rfl dX12_has_69 ?_
        exact ok_sub [0, 1] rfl (hj73 (1 : Int32))
    · refine ok_iload_n hE 1 rfl dX12_has_22 ?_
      refine ok_iconst hE (4 : Int32) ki_4 dX12_has_23 ?_
      refine ok_fun (fun j => ∀ (_ : Unit), Ok E 39 [] [] M1 (j ()) (KI E)) (fun _ => ?_) (fun j39 hj39 => ?_)
      · refine ok_iconst hE (-1 : Int32) ki_m1 dX12_has_39 ?_
        refine ok_goto hE 58 rfl dX12_has_40 ?_
        exact ok_ireturn hE dX12_has_58
      refine ok_icmp_eq hE 39 rfl dX12_has_24 ?_ ?_
      · exact ok_sub [] rfl (hj39 ())
      · refine ok_iload_n hE 1 rfl dX12_has_27 ?_
        refine ok_bipush hE (6 : Int32) kb_6 dX12_has_28 ?_
        refine ok_icmp_eq hE 39 rfl dX12_has_30 ?_ ?_
        · exact ok_sub [] rfl (hj39 ())
        · refine ok_iload_n hE 1 rfl dX12_has_33 ?_
          refine ok_bipush hE (7 : Int32) kb_7 dX12_has_34 ?_
          refine ok_icmp_ne hE 43 rfl dX12_has_36 ?_ ?_
          · refine ok_iload_n hE 1 rfl dX12_has_43 ?_
            refine ok_iconst hE (0 : Int32) ki_0 dX12_has_44 ?_
            refine ok_bipush hE (13 : Int32) kb_13 dX12_has_45 ?_
            refine ok_csIp hE rmR_isIn [.int p1, .int (0 : Int32), .int (13 : Int32)] [] rfl ca_X12_262 (fun _ hx => mR_isIn hE.sys _ _ _ _ _ hx) ⟨rfl, rfl, rfl, rfl⟩ rfl rfl dX12_has_47 (fun r32 => ?_)
            refine ok_if_eq hE 57 rfl dX12_has_50 ?_ ?_
            · refine ok_iconst hE (-1 : Int32) ki_m1 dX12_has_57 ?_
              exact ok_ireturn hE dX12_has_58
            · refine ok_iconst hE (0 : Int32) ki_0 dX12_has_53 ?_
              refine ok_goto hE 58 rfl dX12_has_54 ?_
              exact ok_ireturn hE dX12_has_58
          · exact ok_sub [] rfl (hj39 ())
  · refine ok_aload_n hE 0 rfl dX12_has_10 ?_
    refine ok_getI hE fl_X12_211 shR_0 rfl dX12_has_11 ?_
    exact ok_ireturn hE dX12_has_14
theorem mR_has {l : Launch} {Y : Sys} {t : Nat} (hY : SysOk Y t shR) (p1 : Int32)  (M : Mm) (r : (Int32 × Mm)) (h : R_has p1 M = some r) : Cm l Y t yX12_has (WS yX12_has cX12_has 3 (some .int)) rmR_has [.ref (Y.ad 0), .int p1] M (enI r) := by
  refine cm_of (own := RX12) hY rfl rfl (Nat.le_of_ble_eq_true rfl) (fun E hE e1 e2 e3 e4 => ?_)
  subst e1
  exact tR_has E hE p1  M r h e4.symm
def R_letter (p1 : Int32) (p2 : Int32) (M : Mm) : Option Int32 :=
 bnd (R_isProcess p1 M) fun r1 =>
 if r1 = 0 then
 (some (-1 : Int32))
 else
 (bnd (R_isIn p2 (0 : Int32) (5 : Int32) M) fun r2 =>
 if r2 = 0 then
 (some (-1 : Int32))
 else
 (ald (((6 : Int32) * p1) + p2) 36 (some (gI M 6 (ix (((6 : Int32) * p1) + p2))))))
abbrev rmR_letter : Room := { frames := 2, cells := 0, slots := 0, locals := 43 }
set_option maxHeartbeats 4000000 in
set_option maxRecDepth 100000 in
theorem tR_letter (E : Cx) (hE : CxOk E cX12_letter RX12 shR (some .int) rmR_letter 3) (p1 : Int32) (p2 : Int32)  (M : Mm) : Ok E 0 [(0, .ref (E.Y.ad 0)), (1, .int p1), (2, .int p2)] [] M (R_letter p1 p2 M) (KIp E M) := by
  unfold R_letter
  refine ok_aload_n hE 0 rfl dX12_letter_0 ?_
  refine ok_iload_n hE 1 rfl dX12_letter_1 ?_
  refine ok_cvIp hE rmR_isProcess [.int p1] [] rfl ca_X12_405 shR_0 rfl (fun _ hx => mR_isProcess hE.sys _ _ _ hx) ⟨rfl, rfl, rfl, rfl⟩ rfl rfl dX12_letter_2 (fun r1 => ?_)
  refine ok_if_eq hE 31 rfl dX12_letter_5 ?_ ?_
  · refine ok_iconst hE (-1 : Int32) ki_m1 dX12_letter_31 ?_
    exact ok_ireturnP hE dX12_letter_32
  · refine ok_iload_n hE 2 rfl dX12_letter_8 ?_
    refine ok_iconst hE (0 : Int32) ki_0 dX12_letter_9 ?_
    refine ok_iconst hE (5 : Int32) ki_5 dX12_letter_10 ?_
    refine ok_csIp hE rmR_isIn [.int p2, .int (0 : Int32), .int (5 : Int32)] [] rfl ca_X12_262 (fun _ hx => mR_isIn hE.sys _ _ _ _ _ hx) ⟨rfl, rfl, rfl, rfl⟩ rfl rfl dX12_letter_11 (fun r2 => ?_)
    refine ok_if_eq hE 31 rfl dX12_letter_14 ?_ ?_
    · refine ok_iconst hE (-1 : Int32) ki_m1 dX12_letter_31 ?_
      exact ok_ireturnP hE dX12_letter_32
    · refine ok_aload_n hE 0 rfl dX12_letter_17 ?_
      refine ok_getA hE fl_X12_66 shR_0 rfl dX12_letter_18 ?_
      refine ok_bipush hE (6 : Int32) kb_6 dX12_letter_21 ?_
      refine ok_iload_n hE 1 rfl dX12_letter_23 ?_
      refine ok_imul hE dX12_letter_24 ?_
      refine ok_iload_n hE 2 rfl dX12_letter_25 ?_
      refine ok_iadd hE dX12_letter_26 ?_
      refine ok_iaload hE shR_6 dX12_letter_27 ?_
      refine ok_goto hE 32 rfl dX12_letter_28 ?_
      exact ok_ireturnP hE dX12_letter_32
theorem mR_letter {l : Launch} {Y : Sys} {t : Nat} (hY : SysOk Y t shR) (p1 : Int32) (p2 : Int32)  (M : Mm) (r : Int32) (h : R_letter p1 p2 M = some r) : Cm l Y t yX12_letter (WS yX12_letter cX12_letter 3 (some .int)) rmR_letter [.ref (Y.ad 0), .int p1, .int p2] M ((some (.int r), M)) := by
  refine cm_of (own := RX12) hY rfl rfl (Nat.le_of_ble_eq_true rfl) (fun E hE e1 e2 e3 e4 => ?_)
  subst e1
  exact tR_letter E hE p1 p2  M r h e4.symm
