def R_tellsAll  (M : Mm) : Option Mm :=
 lett (sI M 0 0 (1 : Int32)) fun M1 =>
 lett (sI M1 0 1 (gI M1 0 19)) fun M2 =>
 lett (sI M2 0 2 (gI M2 0 20)) fun M3 =>
 lett (sI M3 0 3 (gI M3 0 21)) fun M4 =>
 lett (sI M4 0 4 (gI M4 0 22)) fun M5 =>
 lett (sI M5 0 5 (gI M5 0 23)) fun M6 =>
 lett (sI M6 0 6 (gI M6 0 24)) fun M7 =>
 lett (sI M7 0 7 (gI M7 0 27)) fun M8 =>
 lett (sI M8 0 8 (gI M8 0 28)) fun M9 =>
 lett (sI M9 0 9 (gI M9 0 29)) fun M10 =>
 lett (sI M10 0 10 (gI M10 0 30)) fun M11 =>
 lett (sI M11 0 11 (gI M11 0 25)) fun M12 =>
 lett (sI M12 0 12 (gI M12 0 26)) fun M13 =>
 lett (0 : Int32) fun v14 =>
 lett (fun (M_14 : Mm) =>
 lett (0 : Int32) fun v16 =>
 lett (fun (M_16 : Mm) =>
 lett (0 : Int32) fun v18 =>
 loopR (fun (rec193 : (Int32 × Mm) → Option Mm) (x19 : Int32 × Mm) =>
 if (36 : Int32) ≤ x19.1 then
 (some x19.2)
 else
 (ald x19.1 36 (ald x19.1 36 (lett (sI x19.2 6 (ix x19.1) (gI x19.2 12 (ix x19.1))) fun M20 =>
 lett (x19.1 + (1 : Int32)) fun v21 =>
 rec193 (v21, M20))))) 1000000 (v18, M_16)) fun j191 =>
 loopR (fun (rec167 : (Int32 × Mm) → Option Mm) (x22 : Int32 × Mm) =>
 if (108 : Int32) ≤ x22.1 then
 (j191 x22.2)
 else
 (ald x22.1 108 (ald x22.1 108 (lett (sI x22.2 5 (ix x22.1) (gI x22.2 11 (ix x22.1))) fun M23 =>
 lett (x22.1 + (1 : Int32)) fun v24 =>
 rec167 (v24, M23))))) 1000000 (v16, M_14)) fun j165 =>
 loopR (fun (rec103 : (Int32 × Mm) → Option Mm) (x25 : Int32 × Mm) =>
 if (gI x25.2 0 1) ≤ x25.1 then
 (j165 x25.2)
 else
 (ald x25.1 6 (ald x25.1 6 (lett (sI x25.2 1 (ix x25.1) (gI x25.2 7 (ix x25.1))) fun M26 =>
 ald x25.1 6 (ald x25.1 6 (lett (sI M26 2 (ix x25.1) (gI M26 8 (ix x25.1))) fun M27 =>
 ald x25.1 6 (ald x25.1 6 (lett (sI M27 3 (ix x25.1) (gI M27 9 (ix x25.1))) fun M28 =>
 ald x25.1 6 (ald x25.1 6 (lett (sI M28 4 (ix x25.1) (gI M28 10 (ix x25.1))) fun M29 =>
 lett (x25.1 + (1 : Int32)) fun v30 =>
 rec103 (v30, M29))))))))))) 1000000 (v14, M13)
abbrev rmR_tellsAll : Room := { frames := 0, cells := 0, slots := 0, locals := 0 }
set_option maxHeartbeats 4000000 in
set_option maxRecDepth 100000 in
theorem tR_tellsAll (E : Cx) (hE : CxOk E cX12_tellsAll RX12 shR none rmR_tellsAll 2)   (M : Mm) : Ok E 0 [(0, .ref (E.Y.ad 0))] [] M (R_tellsAll  M) (KV E) := by
  unfold R_tellsAll
  refine ok_aload_n hE 0 rfl dX12_tellsAll_0 ?_
  refine ok_iconst hE (1 : Int32) ki_1 dX12_tellsAll_1 ?_
  refine ok_putZ hE (Or.inr rfl) fl_X12_7 shR_0 rfl dX12_tellsAll_2 (fun M1 => ?_)
  refine ok_aload_n hE 0 rfl dX12_tellsAll_5 ?_
  refine ok_aload_n hE 0 rfl dX12_tellsAll_6 ?_
  refine ok_getI hE fl_X12_69 shR_0 rfl dX12_tellsAll_7 ?_
  refine ok_putI hE fl_X12_13 shR_0 rfl dX12_tellsAll_10 (fun M2 => ?_)
  refine ok_aload_n hE 0 rfl dX12_tellsAll_13 ?_
  refine ok_aload_n hE 0 rfl dX12_tellsAll_14 ?_
  refine ok_getI hE fl_X12_72 shR_0 rfl dX12_tellsAll_15 ?_
  refine ok_putI hE fl_X12_17 shR_0 rfl dX12_tellsAll_18 (fun M3 => ?_)
  refine ok_aload_n hE 0 rfl dX12_tellsAll_21 ?_
  refine ok_aload_n hE 0 rfl dX12_tellsAll_22 ?_
  refine ok_getI hE fl_X12_75 shR_0 rfl dX12_tellsAll_23 ?_
  refine ok_putI hE fl_X12_20 shR_0 rfl dX12_tellsAll_26 (fun M4 => ?_)
  refine ok_aload_n hE 0 rfl dX12_tellsAll_29 ?_
  refine ok_aload_n hE 0 rfl dX12_tellsAll_30 ?_
  refine ok_getI hE fl_X12_78 shR_0 rfl dX12_tellsAll_31 ?_
  refine ok_putI hE fl_X12_23 shR_0 rfl dX12_tellsAll_34 (fun M5 => ?_)
  refine ok_aload_n hE 0 rfl dX12_tellsAll_37 ?_
  refine ok_aload_n hE 0 rfl dX12_tellsAll_38 ?_
  refine ok_getI hE fl_X12_81 shR_0 rfl dX12_tellsAll_39 ?_
  refine ok_putI hE fl_X12_26 shR_0 rfl dX12_tellsAll_42 (fun M6 => ?_)
  refine ok_aload_n hE 0 rfl dX12_tellsAll_45 ?_
  refine ok_aload_n hE 0 rfl dX12_tellsAll_46 ?_
  refine ok_getI hE fl_X12_84 shR_0 rfl dX12_tellsAll_47 ?_
  refine ok_putI hE fl_X12_29 shR_0 rfl dX12_tellsAll_50 (fun M7 => ?_)
  refine ok_aload_n hE 0 rfl dX12_tellsAll_53 ?_
  refine ok_aload_n hE 0 rfl dX12_tellsAll_54 ?_
  refine ok_getI hE fl_X12_93 shR_0 rfl dX12_tellsAll_55 ?_
  refine ok_putI hE fl_X12_32 shR_0 rfl dX12_tellsAll_58 (fun M8 => ?_)
  refine ok_aload_n hE 0 rfl dX12_tellsAll_61 ?_
  refine ok_aload_n hE 0 rfl dX12_tellsAll_62 ?_
  refine ok_getI hE fl_X12_96 shR_0 rfl dX12_tellsAll_63 ?_
  refine ok_putI hE fl_X12_35 shR_0 rfl dX12_tellsAll_66 (fun M9 => ?_)
  refine ok_aload_n hE 0 rfl dX12_tellsAll_69 ?_
  refine ok_aload_n hE 0 rfl dX12_tellsAll_70 ?_
  refine ok_getI hE fl_X12_99 shR_0 rfl dX12_tellsAll_71 ?_
  refine ok_putI hE fl_X12_38 shR_0 rfl dX12_tellsAll_74 (fun M10 => ?_)
  refine ok_aload_n hE 0 rfl dX12_tellsAll_77 ?_
  refine ok_aload_n hE 0 rfl dX12_tellsAll_78 ?_
  refine ok_getI hE fl_X12_102 shR_0 rfl dX12_tellsAll_79 ?_
  refine ok_putI hE fl_X12_41 shR_0 rfl dX12_tellsAll_82 (fun M11 => ?_)
  refine ok_aload_n hE 0 rfl dX12_tellsAll_85 ?_
  refine ok_aload_n hE 0 rfl dX12_tellsAll_86 ?_
  refine ok_getI hE fl_X12_87 shR_0 rfl dX12_tellsAll_87 ?_
  refine ok_putI hE fl_X12_44 shR_0 rfl dX12_tellsAll_90 (fun M12 => ?_)
  refine ok_aload_n hE 0 rfl dX12_tellsAll_93 ?_
  refine ok_aload_n hE 0 rfl dX12_tellsAll_94 ?_
  refine ok_getI hE fl_X12_90 shR_0 rfl dX12_tellsAll_95 ?_
  refine ok_putI hE fl_X12_47 shR_0 rfl dX12_tellsAll_98 (fun M13 => ?_)
  refine ok_iconst hE (0 : Int32) ki_0 dX12_tellsAll_101 ?_
  refine ok_istore_n hE (fun v14 => [(1, .int v14), (0, .ref (E.Y.ad 0))]) (fun _ => rfl) rfl dX12_tellsAll_102 (fun v14 => ?_)
  refine ok_fun (fun j => ∀ (M_14 : Mm), Ok E 165 [(0, .ref (E.Y.ad 0))] [] M_14 (j M_14) (KV E)) (fun M_14 => ?_) (fun j165 hj165 => ?_)
  · refine ok_iconst hE (0 : Int32) ki_0 dX12_tellsAll_165 ?_
    refine ok_istore_n hE (fun v16 => [(1, .int v16), (0, .ref (E.Y.ad 0))]) (fun _ => rfl) rfl dX12_tellsAll_166 (fun v16 => ?_)
    refine ok_fun (fun j => ∀ (M_16 : Mm), Ok E 191 [(0, .ref (E.Y.ad 0))] [] M_16 (j M_16) (KV E)) (fun M_16 => ?_) (fun j191 hj191 => ?_)
    · refine ok_iconst hE (0 : Int32) ki_0 dX12_tellsAll_191 ?_
      refine ok_istore_n hE (fun v18 => [(1, .int v18), (0, .ref (E.Y.ad 0))]) (fun _ => rfl) rfl dX12_tellsAll_192 (fun v18 => ?_)
      refine ok_sub [1, 0] rfl (ok_loop (σ := Int32 × Mm) 193 (fun x19 => [(0, .ref (E.Y.ad 0)), (1, .int x19.1)]) (fun x19 => x19.2) (fun rec193 hrec193 x19 => ?_) 1000000 (v18, M_16))
      refine ok_iload_n hE 1 rfl dX12_tellsAll_193 ?_
      refine ok_bipush hE (36 : Int32) kb_36 dX12_tellsAll_194 ?_
      refine ok_icmp_ge hE 217 rfl dX12_tellsAll_196 ?_ ?_
      · exact ok_return hE dX12_tellsAll_217
      · refine ok_aload_n hE 0 rfl dX12_tellsAll_199 ?_
        refine ok_getA hE fl_X12_66 shR_0 rfl dX12_tellsAll_200 ?_
        refine ok_iload_n hE 1 rfl dX12_tellsAll_203 ?_
        refine ok_aload_n hE 0 rfl dX12_tellsAll_204 ?_
        refine ok_getA hE fl_X12_123 shR_0 rfl dX12_tellsAll_205 ?_
        refine ok_iload_n hE 1 rfl dX12_tellsAll_208 ?_
        refine ok_iaload hE shR_12 dX12_tellsAll_209 ?_
        refine ok_iastore hE shR_6 dX12_tellsAll_210 (fun M20 => ?_)
        refine ok_iinc hE 1 (x19.1 + (1 : Int32)) (by rw [ko_1]) (fun v21 => [(1, .int v21), (0, .ref (E.Y.ad 0))]) rfl (fun _ => rfl) rfl dX12_tellsAll_211 (fun v21 => ?_)
        refine ok_goto hE 193 rfl dX12_tellsAll_214 ?_
        exact ok_sub [1, 0] rfl (hrec193 (v21, M20))
    refine ok_sub [1, 0] rfl (ok_loop (σ := Int32 × Mm) 167 (fun x22 => [(0, .ref (E.Y.ad 0)), (1, .int x22.1)]) (fun x22 => x22.2) (fun rec167 hrec167 x22 => ?_) 1000000 (v16, M_14))
    refine ok_iload_n hE 1 rfl dX12_tellsAll_167 ?_
    refine ok_bipush hE (108 : Int32) kb_108 dX12_tellsAll_168 ?_
    refine ok_icmp_ge hE 191 rfl dX12_tellsAll_170 ?_ ?_
    · exact ok_sub [0] rfl (hj191 x22.2)
    · refine ok_aload_n hE 0 rfl dX12_tellsAll_173 ?_
      refine ok_getA hE fl_X12_63 shR_0 rfl dX12_tellsAll_174 ?_
      refine ok_iload_n hE 1 rfl dX12_tellsAll_177 ?_
      refine ok_aload_n hE 0 rfl dX12_tellsAll_178 ?_
      refine ok_getA hE fl_X12_120 shR_0 rfl dX12_tellsAll_179 ?_
      refine ok_iload_n hE 1 rfl dX12_tellsAll_182 ?_
      refine ok_iaload hE shR_11 dX12_tellsAll_183 ?_
      refine ok_iastore hE shR_5 dX12_tellsAll_184 (fun M23 => ?_)
      refine ok_iinc hE 1 (x22.1 + (1 : Int32)) (by rw [ko_1]) (fun v24 => [(1, .int v24), (0, .ref (E.Y.ad 0))]) rfl (fun _ => rfl) rfl dX12_tellsAll_185 (fun v24 => ?_)
      refine ok_goto hE 167 rfl dX12_tellsAll_188 ?_
      exact ok_sub [1, 0] rfl (hrec167 (v24, M23))
  refine ok_sub [1, 0] rfl (ok_loop (σ := Int32 × Mm) 103 (fun x25 => [(0, .ref (E.Y.ad 0)), (1, .int x25.1)]) (fun x25 => x25.2) (fun rec103 hrec103 x25 => ?_) 1000000 (v14, M13))
  refine ok_iload_n hE 1 rfl dX12_tellsAll_103 ?_
  refine ok_aload_n hE 0 rfl dX12_tellsAll_104 ?_
  refine ok_getI hE fl_X12_13 shR_0 rfl dX12_tellsAll_105 ?_
  refine ok_icmp_ge hE 165 rfl dX12_tellsAll_108 ?_ ?_
  · exact ok_sub [0] rfl (hj165 x25.2)
  · refine ok_aload_n hE 0 rfl dX12_tellsAll_111 ?_
    refine ok_getA hE fl_X12_50 shR_0 rfl dX12_tellsAll_112 ?_
    refine ok_iload_n hE 1 rfl dX12_tellsAll_115 ?_
    refine ok_aload_n hE 0 rfl dX12_tellsAll_116 ?_
    refine ok_getA hE fl_X12_108 shR_0 rfl dX12_tellsAll_117 ?_
    refine ok_iload_n hE 1 rfl dX12_tellsAll_120 ?_
    refine ok_iaload hE shR_7 dX12_tellsAll_121 ?_
    refine ok_iastore hE shR_1 dX12_tellsAll_122 (fun M26 => ?_)
    refine ok_aload_n hE 0 rfl dX12_tellsAll_123 ?_
    refine ok_getA hE fl_X12_54 shR_0 rfl dX12_tellsAll_124 ?_
    refine ok_iload_n hE 1 rfl dX12_tellsAll_127 ?_
    refine ok_aload_n hE 0 rfl dX12_tellsAll_128 ?_
    refine ok_getA hE fl_X12_111 shR_0 rfl dX12_tellsAll_129 ?_
    refine ok_iload_n hE 1 rfl dX12_tellsAll_132 ?_
    refine ok_iaload hE shR_8 dX12_tellsAll_133 ?_
    refine ok_iastore hE shR_2 dX12_tellsAll_134 (fun M27 => ?_)
    refine ok_aload_n hE 0 rfl dX12_tellsAll_135 ?_
    refine ok_getA hE fl_X12_57 shR_0 rfl dX12_tellsAll_136 ?_
    refine ok_iload_n hE 1 rfl dX12_tellsAll_139 ?_
    refine ok_aload_n hE 0 rfl dX12_tellsAll_140 ?_
    refine ok_getA hE fl_X12_114 shR_0 rfl dX12_tellsAll_141 ?_
    refine ok_iload_n hE 1 rfl dX12_tellsAll_144 ?_
    refine ok_iaload hE shR_9 dX12_tellsAll_145 ?_
    refine ok_iastore hE shR_3 dX12_tellsAll_146 (fun M28 => ?_)
    refine ok_aload_n hE 0 rfl dX12_tellsAll_147 ?_
    refine ok_getA hE fl_X12_60 shR_0 rfl dX12_tellsAll_148 ?_
    refine ok_iload_n hE 1 rfl dX12_tellsAll_151 ?_
    refine ok_aload_n hE 0 rfl dX12_tellsAll_152 ?_
    refine ok_getA hE fl_X12_117 shR_0 rfl dX12_tellsAll_153 ?_
    refine ok_iload_n hE 1 rfl dX12_tellsAll_156 ?_
    refine ok_iaload hE shR_10 dX12_tellsAll_157 ?_
    refine ok_iastore hE shR_4 dX12_tellsAll_158 (fun M29 => ?_)
    refine ok_iinc hE 1 (x25.1 + (1 : Int32)) (by rw [ko_1]) (fun v30 => [(1, .int v30), (0, .ref (E.Y.ad 0))]) rfl (fun _ => rfl) rfl dX12_tellsAll_159 (fun v30 => ?_)
    refine ok_goto hE 103 rfl dX12_tellsAll_162 ?_
    exact ok_sub [1, 0] rfl (hrec103 (v30, M29))
theorem mR_tellsAll {l : Launch} {Y : Sys} {t : Nat} (hY : SysOk Y t shR)   (M : Mm) (r : Mm) (h : R_tellsAll  M = some r) : Cm l Y t yX12_tellsAll (WS yX12_tellsAll cX12_tellsAll 2 none) rmR_tellsAll [.ref (Y.ad 0)] M (enV r) := by
  refine cm_of (own := RX12) hY rfl rfl (Nat.le_of_ble_eq_true rfl) (fun E hE e1 e2 e3 e4 => ?_)
  subst e1
  exact tR_tellsAll E hE   M r h e4.symm
def R_isNow  (M : Mm) : Option Mm :=
 lett (sI M 0 53 (0 : Int32)) fun M1 =>
 lett (sI M1 0 54 (0 : Int32)) fun M2 =>
 some M2
abbrev rmR_isNow : Room := { frames := 0, cells := 0, slots := 0, locals := 0 }
set_option maxHeartbeats 4000000 in
set_option maxRecDepth 100000 in
theorem tR_isNow (E : Cx) (hE : CxOk E cX12_isNow RX12 shR none rmR_isNow 1)   (M : Mm) : Ok E 0 [(0, .ref (E.Y.ad 0))] [] M (R_isNow  M) (KV E) := by
  unfold R_isNow
  refine ok_aload_n hE 0 rfl dX12_isNow_0 ?_
  refine ok_iconst hE (0 : Int32) ki_0 dX12_isNow_1 ?_
  refine ok_putI hE fl_X12_172 shR_0 rfl dX12_isNow_2 (fun M1 => ?_)
  refine ok_aload_n hE 0 rfl dX12_isNow_5 ?_
  refine ok_iconst hE (0 : Int32) ki_0 dX12_isNow_6 ?_
  refine ok_putI hE fl_X12_175 shR_0 rfl dX12_isNow_7 (fun M2 => ?_)
  exact ok_return hE dX12_isNow_10
theorem mR_isNow {l : Launch} {Y : Sys} {t : Nat} (hY : SysOk Y t shR)   (M : Mm) (r : Mm) (h : R_isNow  M = some r) : Cm l Y t yX12_isNow (WS yX12_isNow cX12_isNow 1 none) rmR_isNow [.ref (Y.ad 0)] M (enV r) := by
  refine cm_of (own := RX12) hY rfl rfl (Nat.le_of_ble_eq_true rfl) (fun E hE e1 e2 e3 e4 => ?_)
  subst e1
  exact tR_isNow E hE   M r h e4.symm
def R_setsPart (p1 : Int32) (p2 : UInt32) (M : Mm) : Option Mm :=
 ald ((gI M 0 54) + p1) 40 (lett (sF M 17 (ix ((gI M 0 54) + p1)) p2) fun M1 =>
 some M1)
abbrev rmR_setsPart : Room := { frames := 0, cells := 0, slots := 0, locals := 0 }
set_option maxHeartbeats 4000000 in
set_option maxRecDepth 100000 in
theorem tR_setsPart (E : Cx) (hE : CxOk E cX12_setsPart RX12 shR none rmR_setsPart 3) (p1 : Int32) (p2 : UInt32)  (M : Mm) : Ok E 0 [(0, .ref (E.Y.ad 0)), (1, .int p1), (2, .float p2)] [] M (R_setsPart p1 p2 M) (KV E) := by
  unfold R_setsPart
  refine ok_aload_n hE 0 rfl dX12_setsPart_0 ?_
  refine ok_getA hE fl_X12_162 shR_0 rfl dX12_setsPart_1 ?_
  refine ok_aload_n hE 0 rfl dX12_setsPart_4 ?_
  refine ok_getI hE fl_X12_175 shR_0 rfl dX12_setsPart_5 ?_
  refine ok_iload_n hE 1 rfl dX12_setsPart_8 ?_
  refine ok_iadd hE dX12_setsPart_9 ?_
  refine ok_fload_n hE 2 rfl dX12_setsPart_10 ?_
  refine ok_fastore hE shR_17 dX12_setsPart_11 (fun M1 => ?_)
  exact ok_return hE dX12_setsPart_12
theorem mR_setsPart {l : Launch} {Y : Sys} {t : Nat} (hY : SysOk Y t shR) (p1 : Int32) (p2 : UInt32)  (M : Mm) (r : Mm) (h : R_setsPart p1 p2 M = some r) : Cm l Y t yX12_setsPart (WS yX12_setsPart cX12_setsPart 3 none) rmR_setsPart [.ref (Y.ad 0), .int p1, .float p2] M (enV r) := by
  refine cm_of (own := RX12) hY rfl rfl (Nat.le_of_ble_eq_true rfl) (fun E hE e1 e2 e3 e4 => ?_)
  subst e1
  exact tR_setsPart E hE p1 p2  M r h e4.symm
def R_puts (p1 : Int32) (p2 : Int32) (M : Mm) : Option Mm :=
 ald ((gI M 0 53) + p1) 1516 (lett (sI M 16 (ix ((gI M 0 53) + p1)) p2) fun M1 =>
 some M1)
abbrev rmR_puts : Room := { frames := 0, cells := 0, slots := 0, locals := 0 }
set_option maxHeartbeats 4000000 in
set_option maxRecDepth 100000 in
theorem tR_puts (E : Cx) (hE : CxOk E cX12_puts RX12 shR none rmR_puts 3) (p1 : Int32) (p2 : Int32)  (M : Mm) : Ok E 0 [(0, .ref (E.Y.ad 0)), (1, .int p1), (2, .int p2)] [] M (R_puts p1 p2 M) (KV E) := by
  unfold R_puts
  refine ok_aload_n hE 0 rfl dX12_puts_0 ?_
  refine ok_getA hE fl_X12_159 shR_0 rfl dX12_puts_1 ?_
  refine ok_aload_n hE 0 rfl dX12_puts_4 ?_
  refine ok_getI hE fl_X12_172 shR_0 rfl dX12_puts_5 ?_
  refine ok_iload_n hE 1 rfl dX12_puts_8 ?_
  refine ok_iadd hE dX12_puts_9 ?_
  refine ok_iload_n hE 2 rfl dX12_puts_10 ?_
  refine ok_iastore hE shR_16 dX12_puts_11 (fun M1 => ?_)
  exact ok_return hE dX12_puts_12
theorem mR_puts {l : Launch} {Y : Sys} {t : Nat} (hY : SysOk Y t shR) (p1 : Int32) (p2 : Int32)  (M : Mm) (r : Mm) (h : R_puts p1 p2 M = some r) : Cm l Y t yX12_puts (WS yX12_puts cX12_puts 3 none) rmR_puts [.ref (Y.ad 0), .int p1, .int p2] M (enV r) := by
  refine cm_of (own := RX12) hY rfl rfl (Nat.le_of_ble_eq_true rfl) (fun E hE e1 e2 e3 e4 => ?_)
  subst e1
  exact tR_puts E hE p1 p2  M r h e4.symm
def R_sets (p1 : Int32) (p2 : Int32) (p3 : Int32) (M : Mm) : Option Mm :=
 bnd (R_puts (((18 : Int32) + ((14 : Int32) * p1)) + p2) p3 M) fun M1 =>
 some M1
abbrev rmR_sets : Room := { frames := 1, cells := 0, slots := 0, locals := 22 }
set_option maxHeartbeats 4000000 in
set_option maxRecDepth 100000 in
theorem tR_sets (E : Cx) (hE : CxOk E cX12_sets RX12 shR none rmR_sets 4) (p1 : Int32) (p2 : Int32) (p3 : Int32)  (M : Mm) : Ok E 0 [(0, .ref (E.Y.ad 0)), (1, .int p1), (2, .int p2), (3, .int p3)] [] M (R_sets p1 p2 p3 M) (KV E) := by
  unfold R_sets
  refine ok_aload_n hE 0 rfl dX12_sets_0 ?_
  refine ok_bipush hE (18 : Int32) kb_18 dX12_sets_1 ?_
  refine ok_bipush hE (14 : Int32) kb_14 dX12_sets_3 ?_
  refine ok_iload_n hE 1 rfl dX12_sets_5 ?_
  refine ok_imul hE dX12_sets_6 ?_
  refine ok_iadd hE dX12_sets_7 ?_
  refine ok_iload_n hE 2 rfl dX12_sets_8 ?_
  refine ok_iadd hE dX12_sets_9 ?_
  refine ok_iload_n hE 3 rfl dX12_sets_10 ?_
  refine ok_cvV hE rmR_puts [.int (((18 : Int32) + ((14 : Int32) * p1)) + p2), .int p3] [] rfl ca_X12_318 shR_0 rfl (fun _ hx => mR_puts hE.sys _ _ _ _ hx) ⟨rfl, rfl, rfl, rfl⟩ rfl rfl dX12_sets_11 (fun M1 => ?_)
  exact ok_return hE dX12_sets_14
theorem mR_sets {l : Launch} {Y : Sys} {t : Nat} (hY : SysOk Y t shR) (p1 : Int32) (p2 : Int32) (p3 : Int32)  (M : Mm) (r : Mm) (h : R_sets p1 p2 p3 M = some r) : Cm l Y t yX12_sets (WS yX12_sets cX12_sets 4 none) rmR_sets [.ref (Y.ad 0), .int p1, .int p2, .int p3] M (enV r) := by
  refine cm_of (own := RX12) hY rfl rfl (Nat.le_of_ble_eq_true rfl) (fun E hE e1 e2 e3 e4 => ?_)
  subst e1
  exact tR_sets E hE p1 p2 p3  M r h e4.symm
def R_setsQueue (p1 : Int32) (p2 : Int32) (p3 : Int32) (M : Mm) : Option Mm :=
 bnd (R_puts (((102 : Int32) + ((8 : Int32) * p1)) + p2) p3 M) fun M1 =>
 some M1
abbrev rmR_setsQueue : Room := { frames := 1, cells := 0, slots := 0, locals := 22 }
set_option maxHeartbeats 4000000 in
set_option maxRecDepth 100000 in
theorem tR_setsQueue (E : Cx) (hE : CxOk E cX12_setsQueue RX12 shR none rmR_setsQueue 4) (p1 : Int32) (p2 : Int32) (p3 : Int32)  (M : Mm) : Ok E 0 [(0, .ref (E.Y.ad 0)), (1, .int p1), (2, .int p2), (3, .int p3)] [] M (R_setsQueue p1 p2 p3 M) (KV E) := by
  unfold R_setsQueue
  refine ok_aload_n hE 0 rfl dX12_setsQueue_0 ?_
  refine ok_bipush hE (102 : Int32) kb_102 dX12_setsQueue_1 ?_
  refine ok_bipush hE (8 : Int32) kb_8 dX12_setsQueue_3 ?_
  refine ok_iload_n hE 1 rfl dX12_setsQueue_5 ?_
  refine ok_imul hE dX12_setsQueue_6 ?_
  refine ok_iadd hE dX12_setsQueue_7 ?_
  refine ok_iload_n hE 2 rfl dX12_setsQueue_8 ?_
  refine ok_iadd hE dX12_setsQueue_9 ?_
  refine ok_iload_n hE 3 rfl dX12_setsQueue_10 ?_
  refine ok_cvV hE rmR_puts [.int (((102 : Int32) + ((8 : Int32) * p1)) + p2), .int p3] [] rfl ca_X12_318 shR_0 rfl (fun _ hx => mR_puts hE.sys _ _ _ _ hx) ⟨rfl, rfl, rfl, rfl⟩ rfl rfl dX12_setsQueue_11 (fun M1 => ?_)
  exact ok_return hE dX12_setsQueue_14
theorem mR_setsQueue {l : Launch} {Y : Sys} {t : Nat} (hY : SysOk Y t shR) (p1 : Int32) (p2 : Int32) (p3 : Int32)  (M : Mm) (r : Mm) (h : R_setsQueue p1 p2 p3 M = some r) : Cm l Y t yX12_setsQueue (WS yX12_setsQueue cX12_setsQueue 4 none) rmR_setsQueue [.ref (Y.ad 0), .int p1, .int p2, .int p3] M (enV r) := by
  refine cm_of (own := RX12) hY rfl rfl (Nat.le_of_ble_eq_true rfl) (fun E hE e1 e2 e3 e4 => ?_)
  subst e1
  exact tR_setsQueue E hE p1 p2 p3  M r h e4.symm
def R_begins  (M : Mm) : Option Mm :=
 bnd (R_isNow M) fun M1 =>
 lett (0 : Int32) fun v2 =>
 lett (fun (M_2 : Mm) =>
 lett (0 : Int32) fun v4 =>
 lett (fun (M_4 : Mm) =>
 bnd (R_setsPart (19 : Int32) (FP.i2f (gI M_4 0 4)) M_4) fun M6 =>
 bnd (R_puts (2 : Int32) (-1 : Int32) M6) fun M7 =>
 bnd (R_puts (8 : Int32) (gI M7 0 6) M7) fun M8 =>
 lett (0 : Int32) fun v9 =>
 loopR (fun (rec76 : (Int32 × Mm) → Option Mm) (x10 : Int32 × Mm) =>
 if (gI x10.2 0 1) ≤ x10.1 then
 (some x10.2)
 else
 (ald x10.1 6 (bnd (R_sets x10.1 (1 : Int32) (gI x10.2 2 (ix x10.1)) x10.2) fun M11 =>
 bnd (R_sets x10.1 (6 : Int32) x10.1 M11) fun M12 =>
 bnd (R_setsQueue x10.1 (0 : Int32) (((gI M12 0 5) + (gI M12 0 6)) / (2 : Int32)) M12) fun M13 =>
 lett (x10.1 + (1 : Int32)) fun v14 =>
 rec76 (v14, M13)))) 1000000 (v9, M8)) fun j47 =>
 loopR (fun (rec28 : (Int32 × Mm) → Option Mm) (x15 : Int32 × Mm) =>
 if (20 : Int32) ≤ x15.1 then
 (j47 x15.2)
 else
 (ald x15.1 40 (lett (sF x15.2 17 (ix x15.1) FP.fconst0) fun M16 =>
 lett (x15.1 + (1 : Int32)) fun v17 =>
 rec28 (v17, M16)))) 1000000 (v4, M_2)) fun j26 =>
 loopR (fun (rec6 : (Int32 × Mm) → Option Mm) (x18 : Int32 × Mm) =>
 if (758 : Int32) ≤ x18.1 then
 (j26 x18.2)
 else
 (ald x18.1 1516 (lett (sI x18.2 16 (ix x18.1) (0 : Int32)) fun M19 =>
 lett (x18.1 + (1 : Int32)) fun v20 =>
 rec6 (v20, M19)))) 1000000 (v2, M1)
abbrev rmR_begins : Room := { frames := 2, cells := 0, slots := 0, locals := 45 }
set_option maxHeartbeats 4000000 in
set_option maxRecDepth 100000 in
theorem tR_begins (E : Cx) (hE : CxOk E cX12_begins RX12 shR none rmR_begins 2)   (M : Mm) : Ok E 0 [(0, .ref (E.Y.ad 0))] [] M (R_begins  M) (KV E) := by
  unfold R_begins
  refine ok_aload_n hE 0 rfl dX12_begins_0 ?_
  refine ok_cvV hE rmR_isNow [] [] rfl ca_X12_324 shR_0 rfl (fun _ hx => mR_isNow hE.sys  _ _ hx) ⟨rfl, rfl, rfl, rfl⟩ rfl rfl dX12_begins_1 (fun M1 => ?_)
  refine ok_iconst hE (0 : Int32) ki_0 dX12_begins_4 ?_
  refine ok_istore_n hE (fun v2 => [(1, .int v2), (0, .ref (E.Y.ad 0))]) (fun _ => rfl) rfl dX12_begins_5 (fun v2 => ?_)
  refine ok_fun (fun j => ∀ (M_2 : Mm), Ok E 26 [(0, .ref (E.Y.ad 0))] [] M_2 (j M_2) (KV E)) (fun M_2 => ?_) (fun j26 hj26 => ?_)
  · refine ok_iconst hE (0 : Int32) ki_0 dX12_begins_26 ?_
    refine ok_istore_n hE (fun v4 => [(1, .int v4), (0, .ref (E.Y.ad 0))]) (fun _ => rfl) rfl dX12_begins_27 (fun v4 => ?_)
    refine ok_fun (fun j => ∀ (M_4 : Mm), Ok E 47 [(0, .ref (E.Y.ad 0))] [] M_4 (j M_4) (KV E)) (fun M_4 => ?_) (fun j47 hj47 => ?_)
    · refine ok_aload_n hE 0 rfl dX12_begins_47 ?_
      refine ok_bipush hE (19 : Int32) kb_19 dX12_begins_48 ?_
      refine ok_aload_n hE 0 rfl dX12_begins_50 ?_
      refine ok_getI hE fl_X12_23 shR_0 rfl dX12_begins_51 ?_
      refine ok_i2f hE dX12_begins_54 ?_
      refine ok_cvV hE rmR_setsPart [.int (19 : Int32), .float (FP.i2f (gI M_4 0 4))] [] rfl ca_X12_327 shR_0 rfl (fun _ hx => mR_setsPart hE.sys _ _ _ _ hx) ⟨rfl, rfl, rfl, rfl⟩ rfl rfl dX12_begins_55 (fun M6 => ?_)
      refine ok_aload_n hE 0 rfl dX12_begins_58 ?_
      refine ok_iconst hE (2 : Int32) ki_2 dX12_begins_59 ?_
      refine ok_iconst hE (-1 : Int32) ki_m1 dX12_begins_60 ?_
      refine ok_cvV hE rmR_puts [.int (2 : Int32), .int (-1 : Int32)] [] rfl ca_X12_318 shR_0 rfl (fun _ hx => mR_puts hE.sys _ _ _ _ hx) ⟨rfl, rfl, rfl, rfl⟩ rfl rfl dX12_begins_61 (fun M7 => ?_)
      refine ok_aload_n hE 0 rfl dX12_begins_64 ?_
      refine ok_bipush hE (8 : Int32) kb_8 dX12_begins_65 ?_
      refine ok_aload_n hE 0 rfl dX12_begins_67 ?_
      refine ok_getI hE fl_X12_29 shR_0 rfl dX12_begins_68 ?_
      refine ok_cvV hE rmR_puts [.int (8 : Int32), .int (gI M7 0 6)] [] rfl ca_X12_318 shR_0 rfl (fun _ hx => mR_puts hE.sys _ _ _ _ hx) ⟨rfl, rfl, rfl, rfl⟩ rfl rfl dX12_begins_71 (fun M8 => ?_)
      refine ok_iconst hE (0 : Int32) ki_0 dX12_begins_74 ?_
      refine ok_istore_n hE (fun v9 => [(1, .int v9), (0, .ref (E.Y.ad 0))]) (fun _ => rfl) rfl dX12_begins_75 (fun v9 => ?_)
      refine ok_sub [1, 0] rfl (ok_loop (σ := Int32 × Mm) 76 (fun x10 => [(0, .ref (E.Y.ad 0)), (1, .int x10.1)]) (fun x10 => x10.2) (fun rec76 hrec76 x10 => ?_) 1000000 (v9, M8))
      refine ok_iload_n hE 1 rfl dX12_begins_76 ?_
      refine ok_aload_n hE 0 rfl dX12_begins_77 ?_
      refine ok_getI hE fl_X12_13 shR_0 rfl dX12_begins_78 ?_
      refine ok_icmp_ge hE 127 rfl dX12_begins_81 ?_ ?_
      · exact ok_return hE dX12_begins_127
      · refine ok_aload_n hE 0 rfl dX12_begins_84 ?_
        refine ok_iload_n hE 1 rfl dX12_begins_85 ?_
        refine ok_iconst hE (1 : Int32) ki_1 dX12_begins_86 ?_
        refine ok_aload_n hE 0 rfl dX12_begins_87 ?_
        refine ok_getA hE fl_X12_54 shR_0 rfl dX12_begins_88 ?_
        refine ok_iload_n hE 1 rfl dX12_begins_91 ?_
        refine ok_iaload hE shR_2 dX12_begins_92 ?_
        refine ok_cvV hE rmR_sets [.int x10.1, .int (1 : Int32), .int (gI x10.2 2 (ix x10.1))] [] rfl ca_X12_314 shR_0 rfl (fun _ hx => mR_sets hE.sys _ _ _ _ _ hx) ⟨rfl, rfl, rfl, rfl⟩ rfl rfl dX12_begins_93 (fun M11 => ?_)
        refine ok_aload_n hE 0 rfl dX12_begins_96 ?_
        refine ok_iload_n hE 1 rfl dX12_begins_97 ?_
        refine ok_bipush hE (6 : Int32) kb_6 dX12_begins_98 ?_
        refine ok_iload_n hE 1 rfl dX12_begins_100 ?_
        refine ok_cvV hE rmR_sets [.int x10.1, .int (6 : Int32), .int x10.1] [] rfl ca_X12_314 shR_0 rfl (fun _ hx => mR_sets hE.sys _ _ _ _ _ hx) ⟨rfl, rfl, rfl, rfl⟩ rfl rfl dX12_begins_101 (fun M12 => ?_)
        refine ok_aload_n hE 0 rfl dX12_begins_104 ?_
        refine ok_iload_n hE 1 rfl dX12_begins_105 ?_
        refine ok_iconst hE (0 : Int32) ki_0 dX12_begins_106 ?_
        refine ok_aload_n hE 0 rfl dX12_begins_107 ?_
        refine ok_getI hE fl_X12_26 shR_0 rfl dX12_begins_108 ?_
        refine ok_aload_n hE 0 rfl dX12_begins_111 ?_
        refine ok_getI hE fl_X12_29 shR_0 rfl dX12_begins_112 ?_
        refine ok_iadd hE dX12_begins_115 ?_
        refine ok_iconst hE (2 : Int32) ki_2 dX12_begins_116 ?_
        refine ok_idivC hE (by decide) dX12_begins_117 ?_
        refine ok_cvV hE rmR_setsQueue [.int x10.1, .int (0 : Int32), .int (((gI M12 0 5) + (gI M12 0 6)) / (2 : Int32))] [] rfl ca_X12_331 shR_0 rfl (fun _ hx => mR_setsQueue hE.sys _ _ _ _ _ hx) ⟨rfl, rfl, rfl, rfl⟩ rfl rfl dX12_begins_118 (fun M13 => ?_)
        refine ok_iinc hE 1 (x10.1 + (1 : Int32)) (by rw [ko_1]) (fun v14 => [(1, .int v14), (0, .ref (E.Y.ad 0))]) rfl (fun _ => rfl) rfl dX12_begins_121 (fun v14 => ?_)
        refine ok_goto hE 76 rfl dX12_begins_124 ?_
        exact ok_sub [1, 0] rfl (hrec76 (v14, M13))
    refine ok_sub [1, 0] rfl (ok_loop (σ := Int32 × Mm) 28 (fun x15 => [(0, .ref (E.Y.ad 0)), (1, .int x15.1)]) (fun x15 => x15.2) (fun rec28 hrec28 x15 => ?_) 1000000 (v4, M_2))
    refine ok_iload_n hE 1 rfl dX12_begins_28 ?_
    refine ok_bipush hE (20 : Int32) kb_20 dX12_begins_29 ?_
    refine ok_icmp_ge hE 47 rfl dX12_begins_31 ?_ ?_
    · exact ok_sub [0] rfl (hj47 x15.2)
    · refine ok_aload_n hE 0 rfl dX12_begins_34 ?_
      refine ok_getA hE fl_X12_162 shR_0 rfl dX12_begins_35 ?_
      refine ok_iload_n hE 1 rfl dX12_begins_38 ?_
      refine ok_fconst0 hE dX12_begins_39 ?_
      refine ok_fastore hE shR_17 dX12_begins_40 (fun M16 => ?_)
      refine ok_iinc hE 1 (x15.1 + (1 : Int32)) (by rw [ko_1]) (fun v17 => [(1, .int v17), (0, .ref (E.Y.ad 0))]) rfl (fun _ => rfl) rfl dX12_begins_41 (fun v17 => ?_)
      refine ok_goto hE 28 rfl dX12_begins_44 ?_
      exact ok_sub [1, 0] rfl (hrec28 (v17, M16))
  refine ok_sub [1, 0] rfl (ok_loop (σ := Int32 × Mm) 6 (fun x18 => [(0, .ref (E.Y.ad 0)), (1, .int x18.1)]) (fun x18 => x18.2) (fun rec6 hrec6 x18 => ?_) 1000000 (v2, M1))
  refine ok_iload_n hE 1 rfl dX12_begins_6 ?_
  refine ok_sipush hE (758 : Int32) ks_758 dX12_begins_7 ?_
  refine ok_icmp_ge hE 26 rfl dX12_begins_10 ?_ ?_
  · exact ok_sub [0] rfl (hj26 x18.2)
  · refine ok_aload_n hE 0 rfl dX12_begins_13 ?_
    refine ok_getA hE fl_X12_159 shR_0 rfl dX12_begins_14 ?_
    refine ok_iload_n hE 1 rfl dX12_begins_17 ?_
    refine ok_iconst hE (0 : Int32) ki_0 dX12_begins_18 ?_
    refine ok_iastore hE shR_16 dX12_begins_19 (fun M19 => ?_)
    refine ok_iinc hE 1 (x18.1 + (1 : Int32)) (by rw [ko_1]) (fun v20 => [(1, .int v20), (0, .ref (E.Y.ad 0))]) rfl (fun _ => rfl) rfl dX12_begins_20 (fun v20 => ?_)
    refine ok_goto hE 6 rfl dX12_begins_23 ?_
    exact ok_sub [1, 0] rfl (hrec6 (v20, M19))
theorem mR_begins {l : Launch} {Y : Sys} {t : Nat} (hY : SysOk Y t shR)   (M : Mm) (r : Mm) (h : R_begins  M = some r) : Cm l Y t yX12_begins (WS yX12_begins cX12_begins 2 none) rmR_begins [.ref (Y.ad 0)] M (enV r) := by
  refine cm_of (own := RX12) hY rfl rfl (Nat.le_of_ble_eq_true rfl) (fun E hE e1 e2 e3 e4 => ?_)
  subst e1
  exact tR_begins E hE   M r h e4.symm
def R_disk  (M : Mm) : Option (Int32 × Mm) :=
 bnd (R_taken M) fun r1 =>
 lett (sI r1.2 0 43 r1.1) fun M2 =>
 lett (sI M2 0 44 (0 : Int32)) fun M3 =>
 lett (sI M3 0 46 (0 : Int32)) fun M4 =>
 lett (sI M4 0 47 (-1 : Int32)) fun M5 =>
 bnd (R_readsAll M5) fun r6 =>
 lett r6.1 fun v7 =>
 lett (sI r6.2 0 41 (gI r6.2 0 46)) fun M8 =>
 lett (sI M8 0 42 (gI M8 0 47)) fun M9 =>
 if (gI M9 0 46) = 0 then
 (bnd (R_tellsAll M9) fun M10 =>
 bnd (R_begins M10) fun M11 =>
 lett (0 : Int32) fun v12 =>
 lett (fun (M_12 : Mm) =>
 bnd (R_puts (6 : Int32) (gI M_12 0 11) M_12) fun M14 =>
 bnd (R_puts (7 : Int32) (gI M14 0 12) M14) fun M15 =>
 lett (sI M15 0 55 (0 : Int32)) fun M16 =>
 lett (sI M16 0 61 (0 : Int32)) fun M17 =>
 some (v7, M17)) fun j101 =>
 loopR (fun (rec67 : (Int32 × Mm) → Option (Int32 × Mm)) (x18 : Int32 × Mm) =>
 if (gI x18.2 0 1) ≤ x18.1 then
 (j101 x18.2)
 else
 (ald x18.1 6 (bnd (R_sets x18.1 (0 : Int32) (gI x18.2 1 (ix x18.1)) x18.2) fun M19 =>
 bnd (R_sets x18.1 (8 : Int32) (1 : Int32) M19) fun M20 =>
 lett (x18.1 + (1 : Int32)) fun v21 =>
 rec67 (v21, M20)))) 1000000 (v12, M11))
 else
 (bnd (R_refuses (1 : Int32) M9) fun r22 =>
 some (r22.1, r22.2))
abbrev rmR_disk : Room := { frames := 9, cells := 0, slots := 0, locals := 195 }
set_option maxHeartbeats 4000000 in
set_option maxRecDepth 100000 in
theorem tR_disk (E : Cx) (hE : CxOk E cX12_disk RX12 shR (some .int) rmR_disk 3)   (M : Mm) : Ok E 0 [(0, .ref (E.Y.ad 0))] [] M (R_disk  M) (KI E) := by
  unfold R_disk
  refine ok_aload_n hE 0 rfl dX12_disk_0 ?_
  refine ok_aload_n hE 0 rfl dX12_disk_1 ?_
  refine ok_cvI hE rmR_taken [] [.ref (E.Y.ad 0)] rfl ca_X12_302 shR_0 rfl (fun _ hx => mR_taken hE.sys  _ _ hx) ⟨rfl, rfl, rfl, rfl⟩ rfl rfl dX12_disk_2 (fun r1 => ?_)
  refine ok_putI hE fl_X12_141 shR_0 rfl dX12_disk_5 (fun M2 => ?_)
  refine ok_aload_n hE 0 rfl dX12_disk_8 ?_
  refine ok_iconst hE (0 : Int32) ki_0 dX12_disk_9 ?_
  refine ok_putI hE fl_X12_144 shR_0 rfl dX12_disk_10 (fun M3 => ?_)
  refine ok_aload_n hE 0 rfl dX12_disk_13 ?_
  refine ok_iconst hE (0 : Int32) ki_0 dX12_disk_14 ?_
  refine ok_putI hE fl_X12_150 shR_0 rfl dX12_disk_15 (fun M4 => ?_)
  refine ok_aload_n hE 0 rfl dX12_disk_18 ?_
  refine ok_iconst hE (-1 : Int32) ki_m1 dX12_disk_19 ?_
  refine ok_putI hE fl_X12_153 shR_0 rfl dX12_disk_20 (fun M5 => ?_)
  refine ok_aload_n hE 0 rfl dX12_disk_23 ?_
  refine ok_cvI hE rmR_readsAll [] [] rfl ca_X12_305 shR_0 rfl (fun _ hx => mR_readsAll hE.sys  _ _ hx) ⟨rfl, rfl, rfl, rfl⟩ rfl rfl dX12_disk_24 (fun r6 => ?_)
  refine ok_istore_n hE (fun v7 => [(1, .int v7), (0, .ref (E.Y.ad 0))]) (fun _ => rfl) rfl dX12_disk_27 (fun v7 => ?_)
  refine ok_aload_n hE 1 rfl dX12_disk_28 ?_
  refine ok_aload_n hE 1 rfl dX12_disk_29 ?_
  refine ok_getI hE fl_X12_150 shR_0 rfl dX12_disk_30 ?_
  refine ok_putI hE fl_X12_135 shR_0 rfl dX12_disk_33 (fun M8 => ?_)
  refine ok_aload_n hE 1 rfl dX12_disk_36 ?_
  refine ok_aload_n hE 1 rfl dX12_disk_37 ?_
  refine ok_getI hE fl_X12_153 shR_0 rfl dX12_disk_38 ?_
  refine ok_putI hE fl_X12_138 shR_0 rfl dX12_disk_41 (fun M9 => ?_)
  refine ok_aload_n hE 1 rfl dX12_disk_44 ?_
  refine ok_getI hE fl_X12_150 shR_0 rfl dX12_disk_45 ?_
  refine ok_if_eq hE 57 rfl dX12_disk_48 ?_ ?_
  · refine ok_aload_n hE 1 rfl dX12_disk_57 ?_
    refine ok_cvV hE rmR_tellsAll [] [] rfl ca_X12_308 shR_0 rfl (fun _ hx => mR_tellsAll hE.sys  _ _ hx) ⟨rfl, rfl, rfl, rfl⟩ rfl rfl dX12_disk_58 (fun M10 => ?_)
    refine ok_aload_n hE 1 rfl dX12_disk_61 ?_
    refine ok_cvV hE rmR_begins [] [] rfl ca_X12_311 shR_0 rfl (fun _ hx => mR_begins hE.sys  _ _ hx) ⟨rfl, rfl, rfl, rfl⟩ rfl rfl dX12_disk_62 (fun M11 => ?_)
    refine ok_iconst hE (0 : Int32) ki_0 dX12_disk_65 ?_
    refine ok_istore_n hE (fun v12 => [(2, .int v12), (1, .int v7), (0, .ref (E.Y.ad 0))]) (fun _ => rfl) rfl dX12_disk_66 (fun v12 => ?_)
    refine ok_fun (fun j => ∀ (M_12 : Mm), Ok E 101 [(0, .ref (E.Y.ad 0)), (1, .int v7)] [] M_12 (j M_12) (KI E)) (fun M_12 => ?_) (fun j101 hj101 => ?_)
    · refine ok_aload_n hE 0 rfl dX12_disk_101 ?_
      refine ok_bipush hE (6 : Int32) kb_6 dX12_disk_102 ?_
      refine ok_aload_n hE 0 rfl dX12_disk_104 ?_
      refine ok_getI hE fl_X12_44 shR_0 rfl dX12_disk_105 ?_
      refine ok_cvV hE rmR_puts [.int (6 : Int32), .int (gI M_12 0 11)] [] rfl ca_X12_318 shR_0 rfl (fun _ hx => mR_puts hE.sys _ _ _ _ hx) ⟨rfl, rfl, rfl, rfl⟩ rfl rfl dX12_disk_108 (fun M14 => ?_)
      refine ok_aload_n hE 0 rfl dX12_disk_111 ?_
      refine ok_bipush hE (7 : Int32) kb_7 dX12_disk_112 ?_
      refine ok_aload_n hE 0 rfl dX12_disk_114 ?_
      refine ok_getI hE fl_X12_47 shR_0 rfl dX12_disk_115 ?_
      refine ok_cvV hE rmR_puts [.int (7 : Int32), .int (gI M14 0 12)] [] rfl ca_X12_318 shR_0 rfl (fun _ hx => mR_puts hE.sys _ _ _ _ hx) ⟨rfl, rfl, rfl, rfl⟩ rfl rfl dX12_disk_118 (fun M15 => ?_)
      refine ok_aload_n hE 0 rfl dX12_disk_121 ?_
      refine ok_iconst hE (0 : Int32) ki_0 dX12_disk_122 ?_
      refine ok_putI hE fl_X12_178 shR_0 rfl dX12_disk_123 (fun M16 => ?_)
      refine ok_aload_n hE 0 rfl dX12_disk_126 ?_
      refine ok_iconst hE (0 : Int32) ki_0 dX12_disk_127 ?_
      refine ok_putI hE fl_X12_196 shR_0 rfl dX12_disk_128 (fun M17 => ?_)
      refine ok_iload_n hE 1 rfl dX12_disk_131 ?_
      exact ok_ireturn hE dX12_disk_132
    refine ok_sub [2, 1, 0] rfl (ok_loop (σ := Int32 × Mm) 67 (fun x18 => [(0, .ref (E.Y.ad 0)), (1, .int v7), (2, .int x18.1)]) (fun x18 => x18.2) (fun rec67 hrec67 x18 => ?_) 1000000 (v12, M11))
    refine ok_iload_n hE 2 rfl dX12_disk_67 ?_
    refine ok_aload_n hE 0 rfl dX12_disk_68 ?_
    refine ok_getI hE fl_X12_13 shR_0 rfl dX12_disk_69 ?_
    refine ok_icmp_ge hE 101 rfl dX12_disk_72 ?_ ?_
    · exact ok_sub [0, 1] rfl (hj101 x18.2)
    · refine ok_aload_n hE 0 rfl dX12_disk_75 ?_
      refine ok_iload_n hE 2 rfl dX12_disk_76 ?_
      refine ok_iconst hE (0 : Int32) ki_0 dX12_disk_77 ?_
      refine ok_aload_n hE 0 rfl dX12_disk_78 ?_
      refine ok_getA hE fl_X12_50 shR_0 rfl dX12_disk_79 ?_
      refine ok_iload_n hE 2 rfl dX12_disk_82 ?_
      refine ok_iaload hE shR_1 dX12_disk_83 ?_
      refine ok_cvV hE rmR_sets [.int x18.1, .int (0 : Int32), .int (gI x18.2 1 (ix x18.1))] [] rfl ca_X12_314 shR_0 rfl (fun _ hx => mR_sets hE.sys _ _ _ _ _ hx) ⟨rfl, rfl, rfl, rfl⟩ rfl rfl dX12_disk_84 (fun M19 => ?_)
      refine ok_aload_n hE 0 rfl dX12_disk_87 ?_
      refine ok_iload_n hE 2 rfl dX12_disk_88 ?_
      refine ok_bipush hE (8 : Int32) kb_8 dX12_disk_89 ?_
      refine ok_iconst hE (1 : Int32) ki_1 dX12_disk_91 ?_
      refine ok_cvV hE rmR_sets [.int x18.1, .int (8 : Int32), .int (1 : Int32)] [] rfl ca_X12_314 shR_0 rfl (fun _ hx => mR_sets hE.sys _ _ _ _ _ hx) ⟨rfl, rfl, rfl, rfl⟩ rfl rfl dX12_disk_92 (fun M20 => ?_)
      refine ok_iinc hE 2 (x18.1 + (1 : Int32)) (by rw [ko_1]) (fun v21 => [(2, .int v21), (0, .ref (E.Y.ad 0)), (1, .int v7)]) rfl (fun _ => rfl) rfl dX12_disk_95 (fun v21 => ?_)
      refine ok_goto hE 67 rfl dX12_disk_98 ?_
      exact ok_sub [1, 2, 0] rfl (hrec67 (v21, M20))
  · refine ok_aload_n hE 1 rfl dX12_disk_51 ?_
    refine ok_iconst hE (1 : Int32) ki_1 dX12_disk_52 ?_
    refine ok_cvI hE rmR_refuses [.int (1 : Int32)] [] rfl ca_X12_220 shR_0 rfl (fun _ hx => mR_refuses hE.sys _ _ _ hx) ⟨rfl, rfl, rfl, rfl⟩ rfl rfl dX12_disk_53 (fun r22 => ?_)
    exact ok_ireturn hE dX12_disk_56
theorem mR_disk {l : Launch} {Y : Sys} {t : Nat} (hY : SysOk Y t shR)   (M : Mm) (r : (Int32 × Mm)) (h : R_disk  M = some r) : Cm l Y t yX12_disk (WS yX12_disk cX12_disk 3 (some .int)) rmR_disk [.ref (Y.ad 0)] M (enI r) := by
  refine cm_of (own := RX12) hY rfl rfl (Nat.le_of_ble_eq_true rfl) (fun E hE e1 e2 e3 e4 => ?_)
  subst e1
  exact tR_disk E hE   M r h e4.symm
def R_fault (p1 : Int32) (M : Mm) : Option Int32 :=
 if p1 = 0 then
 (some (gI M 0 41))
 else
 (if p1 = (1 : Int32) then
 (some (gI M 0 42))
 else
 (some (-1 : Int32)))
abbrev rmR_fault : Room := { frames := 0, cells := 0, slots := 0, locals := 0 }
set_option maxHeartbeats 4000000 in
set_option maxRecDepth 100000 in
theorem tR_fault (E : Cx) (hE : CxOk E cX12_fault RX12 shR (some .int) rmR_fault 2) (p1 : Int32)  (M : Mm) : Ok E 0 [(0, .ref (E.Y.ad 0)), (1, .int p1)] [] M (R_fault p1 M) (KIp E M) := by
  unfold R_fault
  refine ok_iload_n hE 1 rfl dX12_fault_0 ?_
  refine ok_if_ne hE 11 rfl dX12_fault_1 ?_ ?_
  · refine ok_iload_n hE 1 rfl dX12_fault_11 ?_
    refine ok_iconst hE (1 : Int32) ki_1 dX12_fault_12 ?_
    refine ok_icmp_ne hE 23 rfl dX12_fault_13 ?_ ?_
    · refine ok_iconst hE (-1 : Int32) ki_m1 dX12_fault_23 ?_
      exact ok_ireturnP hE dX12_fault_24
    · refine ok_aload_n hE 0 rfl dX12_fault_16 ?_
      refine ok_getI hE fl_X12_138 shR_0 rfl dX12_fault_17 ?_
      refine ok_goto hE 24 rfl dX12_fault_20 ?_
      exact ok_ireturnP hE dX12_fault_24
  · refine ok_aload_n hE 0 rfl dX12_fault_4 ?_
    refine ok_getI hE fl_X12_135 shR_0 rfl dX12_fault_5 ?_
    refine ok_goto hE 24 rfl dX12_fault_8 ?_
    exact ok_ireturnP hE dX12_fault_24
theorem mR_fault {l : Launch} {Y : Sys} {t : Nat} (hY : SysOk Y t shR) (p1 : Int32)  (M : Mm) (r : Int32) (h : R_fault p1 M = some r) : Cm l Y t yX12_fault (WS yX12_fault cX12_fault 2 (some .int)) rmR_fault [.ref (Y.ad 0), .int p1] M ((some (.int r), M)) := by
  refine cm_of (own := RX12) hY rfl rfl (Nat.le_of_ble_eq_true rfl) (fun E hE e1 e2 e3 e4 => ?_)
  subst e1
  exact tR_fault E hE p1  M r h e4.symm
def R_tries  (M : Mm) : Option Mm :=
 lett (0 : Int32) fun v1 =>
 lett (fun (M_1 : Mm) =>
 lett (0 : Int32) fun v3 =>
 lett (fun (M_3 : Mm) =>
 lett (sI M_3 0 53 (758 : Int32)) fun M5 =>
 lett (sI M5 0 54 (20 : Int32)) fun M6 =>
 lett (sI M6 0 57 (0 : Int32)) fun M7 =>
 lett (sI M7 0 58 (0 : Int32)) fun M8 =>
 lett (sI M8 0 56 (0 : Int32)) fun M9 =>
 some M9) fun j60 =>
 loopR (fun (rec33 : (Int32 × Mm) → Option Mm) (x10 : Int32 × Mm) =>
 if (20 : Int32) ≤ x10.1 then
 (j60 x10.2)
 else
 (ald x10.1 40 (ald ((20 : Int32) + x10.1) 40 (lett (sF x10.2 17 (ix ((20 : Int32) + x10.1)) (gF x10.2 17 (ix x10.1))) fun M11 =>
 lett (x10.1 + (1 : Int32)) fun v12 =>
 rec33 (v12, M11))))) 1000000 (v3, M_1)) fun j31 =>
 loopR (fun (rec2 : (Int32 × Mm) → Option Mm) (x13 : Int32 × Mm) =>
 if (758 : Int32) ≤ x13.1 then
 (j31 x13.2)
 else
 (ald x13.1 1516 (ald ((758 : Int32) + x13.1) 1516 (lett (sI x13.2 16 (ix ((758 : Int32) + x13.1)) (gI x13.2 16 (ix x13.1))) fun M14 =>
 lett (x13.1 + (1 : Int32)) fun v15 =>
 rec2 (v15, M14))))) 1000000 (v1, M)
abbrev rmR_tries : Room := { frames := 0, cells := 0, slots := 0, locals := 0 }
set_option maxHeartbeats 4000000 in
set_option maxRecDepth 100000 in
theorem tR_tries (E : Cx) (hE : CxOk E cX12_tries RX12 shR none rmR_tries 2)   (M : Mm) : Ok E 0 [(0, .ref (E.Y.ad 0))] [] M (R_tries  M) (KV E) := by
  unfold R_tries
  refine ok_iconst hE (0 : Int32) ki_0 dX12_tries_0 ?_
  refine ok_istore_n hE (fun v1 => [(1, .int v1), (0, .ref (E.Y.ad 0))]) (fun _ => rfl) rfl dX12_tries_1 (fun v1 => ?_)
  refine ok_fun (fun j => ∀ (M_1 : Mm), Ok E 31 [(0, .ref (E.Y.ad 0))] [] M_1 (j M_1) (KV E)) (fun M_1 => ?_) (fun j31 hj31 => ?_)
  · refine ok_iconst hE (0 : Int32) ki_0 dX12_tries_31 ?_
    refine ok_istore_n hE (fun v3 => [(1, .int v3), (0, .ref (E.Y.ad 0))]) (fun _ => rfl) rfl dX12_tries_32 (fun v3 => ?_)
    refine ok_fun (fun j => ∀ (M_3 : Mm), Ok E 60 [(0, .ref (E.Y.ad 0))] [] M_3 (j M_3) (KV E)) (fun M_3 => ?_) (fun j60 hj60 => ?_)
    · refine ok_aload_n hE 0 rfl dX12_tries_60 ?_
      refine ok_sipush hE (758 : Int32) ks_758 dX12_tries_61 ?_
      refine ok_putI hE fl_X12_172 shR_0 rfl dX12_tries_64 (fun M5 => ?_)
      refine ok_aload_n hE 0 rfl dX12_tries_67 ?_
      refine ok_bipush hE (20 : Int32) kb_20 dX12_tries_68 ?_
      refine ok_putI hE fl_X12_175 shR_0 rfl dX12_tries_70 (fun M6 => ?_)
      refine ok_aload_n hE 0 rfl dX12_tries_73 ?_
      refine ok_iconst hE (0 : Int32) ki_0 dX12_tries_74 ?_
      refine ok_putI hE fl_X12_184 shR_0 rfl dX12_tries_75 (fun M7 => ?_)
      refine ok_aload_n hE 0 rfl dX12_tries_78 ?_
      refine ok_iconst hE (0 : Int32) ki_0 dX12_tries_79 ?_
      refine ok_putI hE fl_X12_187 shR_0 rfl dX12_tries_80 (fun M8 => ?_)
      refine ok_aload_n hE 0 rfl dX12_tries_83 ?_
      refine ok_iconst hE (0 : Int32) ki_0 dX12_tries_84 ?_
      refine ok_putI hE fl_X12_181 shR_0 rfl dX12_tries_85 (fun M9 => ?_)
      exact ok_return hE dX12_tries_88
    refine ok_sub [1, 0] rfl (ok_loop (σ := Int32 × Mm) 33 (fun x10 => [(0, .ref (E.Y.ad 0)), (1, .int x10.1)]) (fun x10 => x10.2) (fun rec33 hrec33 x10 => ?_) 1000000 (v3, M_1))
    refine ok_iload_n hE 1 rfl dX12_tries_33 ?_
    refine ok_bipush hE (20 : Int32) kb_20 dX12_tries_34 ?_
    refine ok_icmp_ge hE 60 rfl dX12_tries_36 ?_ ?_
    · exact ok_sub [0] rfl (hj60 x10.2)
    · refine ok_aload_n hE 0 rfl dX12_tries_39 ?_
      refine ok_getA hE fl_X12_162 shR_0 rfl dX12_tries_40 ?_
      refine ok_bipush hE (20 : Int32) kb_20 dX12_tries_43 ?_
      refine ok_iload_n hE 1 rfl dX12_tries_45 ?_
      refine ok_iadd hE dX12_tries_46 ?_
      refine ok_aload_n hE 0 rfl dX12_tries_47 ?_
      refine ok_getA hE fl_X12_162 shR_0 rfl dX12_tries_48 ?_
      refine ok_iload_n hE 1 rfl dX12_tries_51 ?_
      refine ok_faload hE shR_17 dX12_tries_52 ?_
      refine ok_fastore hE shR_17 dX12_tries_53 (fun M11 => ?_)
      refine ok_iinc hE 1 (x10.1 + (1 : Int32)) (by rw [ko_1]) (fun v12 => [(1, .int v12), (0, .ref (E.Y.ad 0))]) rfl (fun _ => rfl) rfl dX12_tries_54 (fun v12 => ?_)
      refine ok_goto hE 33 rfl dX12_tries_57 ?_
      exact ok_sub [1, 0] rfl (hrec33 (v12, M11))
  refine ok_sub [1, 0] rfl (ok_loop (σ := Int32 × Mm) 2 (fun x13 => [(0, .ref (E.Y.ad 0)), (1, .int x13.1)]) (fun x13 => x13.2) (fun rec2 hrec2 x13 => ?_) 1000000 (v1, M))
  refine ok_iload_n hE 1 rfl dX12_tries_2 ?_
  refine ok_sipush hE (758 : Int32) ks_758 dX12_tries_3 ?_
  refine ok_icmp_ge hE 31 rfl dX12_tries_6 ?_ ?_
  · exact ok_sub [0] rfl (hj31 x13.2)
  · refine ok_aload_n hE 0 rfl dX12_tries_9 ?_
    refine ok_getA hE fl_X12_159 shR_0 rfl dX12_tries_10 ?_
    refine ok_sipush hE (758 : Int32) ks_758 dX12_tries_13 ?_
    refine ok_iload_n hE 1 rfl dX12_tries_16 ?_
    refine ok_iadd hE dX12_tries_17 ?_
    refine ok_aload_n hE 0 rfl dX12_tries_18 ?_
    refine ok_getA hE fl_X12_159 shR_0 rfl dX12_tries_19 ?_
    refine ok_iload_n hE 1 rfl dX12_tries_22 ?_
    refine ok_iaload hE shR_16 dX12_tries_23 ?_
    refine ok_iastore hE shR_16 dX12_tries_24 (fun M14 => ?_)
    refine ok_iinc hE 1 (x13.1 + (1 : Int32)) (by rw [ko_1]) (fun v15 => [(1, .int v15), (0, .ref (E.Y.ad 0))]) rfl (fun _ => rfl) rfl dX12_tries_25 (fun v15 => ?_)
    refine ok_goto hE 2 rfl dX12_tries_28 ?_
    exact ok_sub [1, 0] rfl (hrec2 (v15, M14))
theorem mR_tries {l : Launch} {Y : Sys} {t : Nat} (hY : SysOk Y t shR)   (M : Mm) (r : Mm) (h : R_tries  M = some r) : Cm l Y t yX12_tries (WS yX12_tries cX12_tries 2 none) rmR_tries [.ref (Y.ad 0)] M (enV r) := by
  refine cm_of (own := RX12) hY rfl rfl (Nat.le_of_ble_eq_true rfl) (fun E hE e1 e2 e3 e4 => ?_)
  subst e1
  exact tR_tries E hE   M r h e4.symm
def R_its (p1 : Int32) (M : Mm) : Option Int32 :=
 ald ((gI M 0 53) + p1) 1516 (some (gI M 16 (ix ((gI M 0 53) + p1))))
abbrev rmR_its : Room := { frames := 0, cells := 0, slots := 0, locals := 0 }
set_option maxHeartbeats 4000000 in
set_option maxRecDepth 100000 in
theorem tR_its (E : Cx) (hE : CxOk E cX12_its RX12 shR (some .int) rmR_its 2) (p1 : Int32)  (M : Mm) : Ok E 0 [(0, .ref (E.Y.ad 0)), (1, .int p1)] [] M (R_its p1 M) (KIp E M) := by
  unfold R_its
  refine ok_aload_n hE 0 rfl dX12_its_0 ?_
  refine ok_getA hE fl_X12_159 shR_0 rfl dX12_its_1 ?_
  refine ok_aload_n hE 0 rfl dX12_its_4 ?_
  refine ok_getI hE fl_X12_172 shR_0 rfl dX12_its_5 ?_
  refine ok_iload_n hE 1 rfl dX12_its_8 ?_
  refine ok_iadd hE dX12_its_9 ?_
  refine ok_iaload hE shR_16 dX12_its_10 ?_
  exact ok_ireturnP hE dX12_its_11
theorem mR_its {l : Launch} {Y : Sys} {t : Nat} (hY : SysOk Y t shR) (p1 : Int32)  (M : Mm) (r : Int32) (h : R_its p1 M = some r) : Cm l Y t yX12_its (WS yX12_its cX12_its 2 (some .int)) rmR_its [.ref (Y.ad 0), .int p1] M ((some (.int r), M)) := by
  refine cm_of (own := RX12) hY rfl rfl (Nat.le_of_ble_eq_true rfl) (fun E hE e1 e2 e3 e4 => ?_)
  subst e1
  exact tR_its E hE p1  M r h e4.symm
def R_of (p1 : Int32) (p2 : Int32) (M : Mm) : Option Int32 :=
 bnd (R_its (((18 : Int32) + ((14 : Int32) * p1)) + p2) M) fun r1 =>
 some r1
abbrev rmR_of : Room := { frames := 1, cells := 0, slots := 0, locals := 21 }
set_option maxHeartbeats 4000000 in
set_option maxRecDepth 100000 in
theorem tR_of (E : Cx) (hE : CxOk E cX12_of RX12 shR (some .int) rmR_of 3) (p1 : Int32) (p2 : Int32)  (M : Mm) : Ok E 0 [(0, .ref (E.Y.ad 0)), (1, .int p1), (2, .int p2)] [] M (R_of p1 p2 M) (KIp E M) := by
  unfold R_of
  refine ok_aload_n hE 0 rfl dX12_of_0 ?_
  refine ok_bipush hE (18 : Int32) kb_18 dX12_of_1 ?_
  refine ok_bipush hE (14 : Int32) kb_14 dX12_of_3 ?_
  refine ok_iload_n hE 1 rfl dX12_of_5 ?_
  refine ok_imul hE dX12_of_6 ?_
  refine ok_iadd hE dX12_of_7 ?_
  refine ok_iload_n hE 2 rfl dX12_of_8 ?_
  refine ok_iadd hE dX12_of_9 ?_
  refine ok_cvIp hE rmR_its [.int (((18 : Int32) + ((14 : Int32) * p1)) + p2)] [] rfl ca_X12_321 shR_0 rfl (fun _ hx => mR_its hE.sys _ _ _ hx) ⟨rfl, rfl, rfl, rfl⟩ rfl rfl dX12_of_10 (fun r1 => ?_)
  exact ok_ireturnP hE dX12_of_13
theorem mR_of {l : Launch} {Y : Sys} {t : Nat} (hY : SysOk Y t shR) (p1 : Int32) (p2 : Int32)  (M : Mm) (r : Int32) (h : R_of p1 p2 M = some r) : Cm l Y t yX12_of (WS yX12_of cX12_of 3 (some .int)) rmR_of [.ref (Y.ad 0), .int p1, .int p2] M ((some (.int r), M)) := by
  refine cm_of (own := RX12) hY rfl rfl (Nat.le_of_ble_eq_true rfl) (fun E hE e1 e2 e3 e4 => ?_)
  subst e1
  exact tR_of E hE p1 p2  M r h e4.symm
def R_ofQueue (p1 : Int32) (p2 : Int32) (M : Mm) : Option Int32 :=
 bnd (R_its (((102 : Int32) + ((8 : Int32) * p1)) + p2) M) fun r1 =>
 some r1
abbrev rmR_ofQueue : Room := { frames := 1, cells := 0, slots := 0, locals := 21 }
set_option maxHeartbeats 4000000 in
set_option maxRecDepth 100000 in
theorem tR_ofQueue (E : Cx) (hE : CxOk E cX12_ofQueue RX12 shR (some .int) rmR_ofQueue 3) (p1 : Int32) (p2 : Int32)  (M : Mm) : Ok E 0 [(0, .ref (E.Y.ad 0)), (1, .int p1), (2, .int p2)] [] M (R_ofQueue p1 p2 M) (KIp E M) := by
  unfold R_ofQueue
  refine ok_aload_n hE 0 rfl dX12_ofQueue_0 ?_
  refine ok_bipush hE (102 : Int32) kb_102 dX12_ofQueue_1 ?_
  refine ok_bipush hE (8 : Int32) kb_8 dX12_ofQueue_3 ?_
  refine ok_iload_n hE 1 rfl dX12_ofQueue_5 ?_
  refine ok_imul hE dX12_ofQueue_6 ?_
  refine ok_iadd hE dX12_ofQueue_7 ?_
  refine ok_iload_n hE 2 rfl dX12_ofQueue_8 ?_
  refine ok_iadd hE dX12_ofQueue_9 ?_
  refine ok_cvIp hE rmR_its [.int (((102 : Int32) + ((8 : Int32) * p1)) + p2)] [] rfl ca_X12_321 shR_0 rfl (fun _ hx => mR_its hE.sys _ _ _ hx) ⟨rfl, rfl, rfl, rfl⟩ rfl rfl dX12_ofQueue_10 (fun r1 => ?_)
  exact ok_ireturnP hE dX12_ofQueue_13
theorem mR_ofQueue {l : Launch} {Y : Sys} {t : Nat} (hY : SysOk Y t shR) (p1 : Int32) (p2 : Int32)  (M : Mm) (r : Int32) (h : R_ofQueue p1 p2 M = some r) : Cm l Y t yX12_ofQueue (WS yX12_ofQueue cX12_ofQueue 3 (some .int)) rmR_ofQueue [.ref (Y.ad 0), .int p1, .int p2] M ((some (.int r), M)) := by
  refine cm_of (own := RX12) hY rfl rfl (Nat.le_of_ble_eq_true rfl) (fun E hE e1 e2 e3 e4 => ?_)
  subst e1
  exact tR_ofQueue E hE p1 p2  M r h e4.symm
def R_ofRequest (p1 : Int32) (p2 : Int32) (M : Mm) : Option Int32 :=
 bnd (R_its (((150 : Int32) + ((7 : Int32) * p1)) + p2) M) fun r1 =>
 some r1
abbrev rmR_ofRequest : Room := { frames := 1, cells := 0, slots := 0, locals := 21 }
set_option maxHeartbeats 4000000 in
set_option maxRecDepth 100000 in
theorem tR_ofRequest (E : Cx) (hE : CxOk E cX12_ofRequest RX12 shR (some .int) rmR_ofRequest 3) (p1 : Int32) (p2 : Int32)  (M : Mm) : Ok E 0 [(0, .ref (E.Y.ad 0)), (1, .int p1), (2, .int p2)] [] M (R_ofRequest p1 p2 M) (KIp E M) := by
  unfold R_ofRequest
  refine ok_aload_n hE 0 rfl dX12_ofRequest_0 ?_
  refine ok_sipush hE (150 : Int32) ks_150 dX12_ofRequest_1 ?_
  refine ok_bipush hE (7 : Int32) kb_7 dX12_ofRequest_4 ?_
  refine ok_iload_n hE 1 rfl dX12_ofRequest_6 ?_
  refine ok_imul hE dX12_ofRequest_7 ?_
  refine ok_iadd hE dX12_ofRequest_8 ?_
  refine ok_iload_n hE 2 rfl dX12_ofRequest_9 ?_
  refine ok_iadd hE dX12_ofRequest_10 ?_
  refine ok_cvIp hE rmR_its [.int (((150 : Int32) + ((7 : Int32) * p1)) + p2)] [] rfl ca_X12_321 shR_0 rfl (fun _ hx => mR_its hE.sys _ _ _ hx) ⟨rfl, rfl, rfl, rfl⟩ rfl rfl dX12_ofRequest_11 (fun r1 => ?_)
  exact ok_ireturnP hE dX12_ofRequest_14
theorem mR_ofRequest {l : Launch} {Y : Sys} {t : Nat} (hY : SysOk Y t shR) (p1 : Int32) (p2 : Int32)  (M : Mm) (r : Int32) (h : R_ofRequest p1 p2 M = some r) : Cm l Y t yX12_ofRequest (WS yX12_ofRequest cX12_ofRequest 3 (some .int)) rmR_ofRequest [.ref (Y.ad 0), .int p1, .int p2] M ((some (.int r), M)) := by
  refine cm_of (own := RX12) hY rfl rfl (Nat.le_of_ble_eq_true rfl) (fun E hE e1 e2 e3 e4 => ?_)
  subst e1
  exact tR_ofRequest E hE p1 p2  M r h e4.symm
def R_part (p1 : Int32) (M : Mm) : Option UInt32 :=
 ald ((gI M 0 54) + p1) 40 (some (gF M 17 (ix ((gI M 0 54) + p1))))
abbrev rmR_part : Room := { frames := 0, cells := 0, slots := 0, locals := 0 }
set_option maxHeartbeats 4000000 in
set_option maxRecDepth 100000 in
theorem tR_part (E : Cx) (hE : CxOk E cX12_part RX12 shR (some .float) rmR_part 2) (p1 : Int32)  (M : Mm) : Ok E 0 [(0, .ref (E.Y.ad 0)), (1, .int p1)] [] M (R_part p1 M) (KFp E M) := by
  unfold R_part
  refine ok_aload_n hE 0 rfl dX12_part_0 ?_
  refine ok_getA hE fl_X12_162 shR_0 rfl dX12_part_1 ?_
  refine ok_aload_n hE 0 rfl dX12_part_4 ?_
  refine ok_getI hE fl_X12_175 shR_0 rfl dX12_part_5 ?_
  refine ok_iload_n hE 1 rfl dX12_part_8 ?_
  refine ok_iadd hE dX12_part_9 ?_
  refine ok_faload hE shR_17 dX12_part_10 ?_
  exact ok_freturnP hE dX12_part_11
theorem mR_part {l : Launch} {Y : Sys} {t : Nat} (hY : SysOk Y t shR) (p1 : Int32)  (M : Mm) (r : UInt32) (h : R_part p1 M = some r) : Cm l Y t yX12_part (WS yX12_part cX12_part 2 (some .float)) rmR_part [.ref (Y.ad 0), .int p1] M ((some (.float r), M)) := by
  refine cm_of (own := RX12) hY rfl rfl (Nat.le_of_ble_eq_true rfl) (fun E hE e1 e2 e3 e4 => ?_)
  subst e1
  exact tR_part E hE p1  M r h e4.symm
def R_lying (p1 : Int32) (M : Mm) : Option Int32 :=
 lett (0 : Int32) fun v1 =>
 lett (0 : Int32) fun v2 =>
 loopR (fun (rec4 : (Int32 × Int32) → Option Int32) (x3 : Int32 × Int32) =>
 bnd (R_its (10 : Int32) M) fun r4 =>
 if r4 ≤ x3.2 then
 (some x3.1)
 else
 (bnd (R_ofRequest x3.2 (0 : Int32) M) fun r5 =>
 lett (fun (w_5 : Int32) =>
 lett (x3.1 + w_5) fun v7 =>
 lett (x3.2 + (1 : Int32)) fun v8 =>
 rec4 (v7, v8)) fun j30 =>
 if r5 = p1 then
 (j30 (1 : Int32))
 else
 (j30 (0 : Int32)))) 1000000 (v1, v2)
abbrev rmR_lying : Room := { frames := 2, cells := 0, slots := 0, locals := 43 }
set_option maxHeartbeats 4000000 in
set_option maxRecDepth 100000 in
theorem tR_lying (E : Cx) (hE : CxOk E cX12_lying RX12 shR (some .int) rmR_lying 4) (p1 : Int32)  (M : Mm) : Ok E 0 [(0, .ref (E.Y.ad 0)), (1, .int p1)] [] M (R_lying p1 M) (KIp E M) := by
  unfold R_lying
  refine ok_iconst hE (0 : Int32) ki_0 dX12_lying_0 ?_
  refine ok_istore_n hE (fun v1 => [(2, .int v1), (0, .ref (E.Y.ad 0)), (1, .int p1)]) (fun _ => rfl) rfl dX12_lying_1 (fun v1 => ?_)
  refine ok_iconst hE (0 : Int32) ki_0 dX12_lying_2 ?_
  refine ok_istore_n hE (fun v2 => [(3, .int v2), (2, .int v1), (0, .ref (E.Y.ad 0)), (1, .int p1)]) (fun _ => rfl) rfl dX12_lying_3 (fun v2 => ?_)
  refine ok_sub [2, 3, 1, 0] rfl (ok_loop (σ := Int32 × Int32) 4 (fun x3 => [(0, .ref (E.Y.ad 0)), (1, .int p1), (2, .int x3.1), (3, .int x3.2)]) (fun x3 => M) (fun rec4 hrec4 x3 => ?_) 1000000 (v1, v2))
  refine ok_iload_n hE 3 rfl dX12_lying_4 ?_
  refine ok_aload_n hE 0 rfl dX12_lying_5 ?_
  refine ok_bipush hE (10 : Int32) kb_10 dX12_lying_6 ?_
  refine ok_cvIp hE rmR_its [.int (10 : Int32)] [.int x3.2] rfl ca_X12_321 shR_0 rfl (fun _ hx => mR_its hE.sys _ _ _ hx) ⟨rfl, rfl, rfl, rfl⟩ rfl rfl dX12_lying_8 (fun r4 => ?_)
  refine ok_icmp_ge hE 38 rfl dX12_lying_11 ?_ ?_
  · refine ok_iload_n hE 2 rfl dX12_lying_38 ?_
    exact ok_ireturnP hE dX12_lying_39
  · refine ok_iload_n hE 2 rfl dX12_lying_14 ?_
    refine ok_aload_n hE 0 rfl dX12_lying_15 ?_
    refine ok_iload_n hE 3 rfl dX12_lying_16 ?_
    refine ok_iconst hE (0 : Int32) ki_0 dX12_lying_17 ?_
    refine ok_cvIp hE rmR_ofRequest [.int x3.2, .int (0 : Int32)] [.int x3.1] rfl ca_X12_334 shR_0 rfl (fun _ hx => mR_ofRequest hE.sys _ _ _ _ hx) ⟨rfl, rfl, rfl, rfl⟩ rfl rfl dX12_lying_18 (fun r5 => ?_)
    refine ok_iload_n hE 1 rfl dX12_lying_21 ?_
    refine ok_fun (fun j => ∀ (w_5 : Int32), Ok E 30 [(0, .ref (E.Y.ad 0)), (1, .int p1), (3, .int x3.2)] [.int w_5, .int x3.1] M (j w_5) (KIp E M)) (fun w_5 => ?_) (fun j30 hj30 => ?_)
    · refine ok_iadd hE dX12_lying_30 ?_
      refine ok_istore_n hE (fun v7 => [(2, .int v7), (0, .ref (E.Y.ad 0)), (1, .int p1), (3, .int x3.2)]) (fun _ => rfl) rfl dX12_lying_31 (fun v7 => ?_)
      refine ok_iinc hE 3 (x3.2 + (1 : Int32)) (by rw [ko_1]) (fun v8 => [(3, .int v8), (2, .int v7), (0, .ref (E.Y.ad 0)), (1, .int p1)]) rfl (fun _ => rfl) rfl dX12_lying_32 (fun v8 => ?_)
      refine ok_goto hE 4 rfl dX12_lying_35 ?_
      exact ok_sub [2, 3, 1, 0] rfl (hrec4 (v7, v8))
    refine ok_icmp_ne hE 29 rfl dX12_lying_22 ?_ ?_
    · refine ok_iconst hE (0 : Int32) ki_0 dX12_lying_29 ?_
      exact ok_sub [0, 1, 3] rfl (hj30 (0 : Int32))
    · refine ok_iconst hE (1 : Int32) ki_1 dX12_lying_25 ?_
      refine ok_goto hE 30 rfl dX12_lying_26 ?_
      exact ok_sub [0, 1, 3] rfl (hj30 (1 : Int32))
theorem mR_lying {l : Launch} {Y : Sys} {t : Nat} (hY : SysOk Y t shR) (p1 : Int32)  (M : Mm) (r : Int32) (h : R_lying p1 M = some r) : Cm l Y t yX12_lying (WS yX12_lying cX12_lying 4 (some .int)) rmR_lying [.ref (Y.ad 0), .int p1] M ((some (.int r), M)) := by
  refine cm_of (own := RX12) hY rfl rfl (Nat.le_of_ble_eq_true rfl) (fun E hE e1 e2 e3 e4 => ?_)
  subst e1
  exact tR_lying E hE p1  M r h e4.symm
def R_weightOf (p1 : Int32) (M : Mm) : Option Int32 :=
 bnd (R_of p1 (0 : Int32) M) fun r1 =>
 bnd (R_its (0 : Int32) M) fun r2 =>
 bnd (R_ofQueue p1 (5 : Int32) M) fun r3 =>
 if r3 ≤ r2 then
 (some (r1 * (1 : Int32)))
 else
 (some (r1 * (gI M 0 8)))
abbrev rmR_weightOf : Room := { frames := 2, cells := 0, slots := 0, locals := 43 }
set_option maxHeartbeats 4000000 in
set_option maxRecDepth 100000 in
theorem tR_weightOf (E : Cx) (hE : CxOk E cX12_weightOf RX12 shR (some .int) rmR_weightOf 2) (p1 : Int32)  (M : Mm) : Ok E 0 [(0, .ref (E.Y.ad 0)), (1, .int p1)] [] M (R_weightOf p1 M) (KIp E M) := by
  unfold R_weightOf
  refine ok_aload_n hE 0 rfl dX12_weightOf_0 ?_
  refine ok_iload_n hE 1 rfl dX12_weightOf_1 ?_
  refine ok_iconst hE (0 : Int32) ki_0 dX12_weightOf_2 ?_
  refine ok_cvIp hE rmR_of [.int p1, .int (0 : Int32)] [] rfl ca_X12_337 shR_0 rfl (fun _ hx => mR_of hE.sys _ _ _ _ hx) ⟨rfl, rfl, rfl, rfl⟩ rfl rfl dX12_weightOf_3 (fun r1 => ?_)
  refine ok_aload_n hE 0 rfl dX12_weightOf_6 ?_
  refine ok_iconst hE (0 : Int32) ki_0 dX12_weightOf_7 ?_
  refine ok_cvIp hE rmR_its [.int (0 : Int32)] [.int r1] rfl ca_X12_321 shR_0 rfl (fun _ hx => mR_its hE.sys _ _ _ hx) ⟨rfl, rfl, rfl, rfl⟩ rfl rfl dX12_weightOf_8 (fun r2 => ?_)
  refine ok_aload_n hE 0 rfl dX12_weightOf_11 ?_
  refine ok_iload_n hE 1 rfl dX12_weightOf_12 ?_
  refine ok_iconst hE (5 : Int32) ki_5 dX12_weightOf_13 ?_
  refine ok_cvIp hE rmR_ofQueue [.int p1, .int (5 : Int32)] [.int r2, .int r1] rfl ca_X12_340 shR_0 rfl (fun _ hx => mR_ofQueue hE.sys _ _ _ _ hx) ⟨rfl, rfl, rfl, rfl⟩ rfl rfl dX12_weightOf_14 (fun r3 => ?_)
  refine ok_icmp_ge hE 27 rfl dX12_weightOf_17 ?_ ?_
  · refine ok_iconst hE (1 : Int32) ki_1 dX12_weightOf_27 ?_
    refine ok_imul hE dX12_weightOf_28 ?_
    exact ok_ireturnP hE dX12_weightOf_29
  · refine ok_aload_n hE 0 rfl dX12_weightOf_20 ?_
    refine ok_getI hE fl_X12_35 shR_0 rfl dX12_weightOf_21 ?_
    refine ok_goto hE 28 rfl dX12_weightOf_24 ?_
    refine ok_imul hE dX12_weightOf_28 ?_
    exact ok_ireturnP hE dX12_weightOf_29
theorem mR_weightOf {l : Launch} {Y : Sys} {t : Nat} (hY : SysOk Y t shR) (p1 : Int32)  (M : Mm) (r : Int32) (h : R_weightOf p1 M = some r) : Cm l Y t yX12_weightOf (WS yX12_weightOf cX12_weightOf 2 (some .int)) rmR_weightOf [.ref (Y.ad 0), .int p1] M ((some (.int r), M)) := by
  refine cm_of (own := RX12) hY rfl rfl (Nat.le_of_ble_eq_true rfl) (fun E hE e1 e2 e3 e4 => ?_)
  subst e1
  exact tR_weightOf E hE p1  M r h e4.symm
def R_far (p1 : Int32) (M : Mm) : Option Int32 :=
 lett (0 : Int32) fun v1 =>
 lett (0 : Int32) fun v2 =>
 loopR (fun (rec4 : (Int32 × Int32) → Option Int32) (x3 : Int32 × Int32) =>
 if (8 : Int32) ≤ x3.2 then
 (some x3.1)
 else
 (bnd (R_ofQueue p1 (3 : Int32) M) fun r4 =>
 lett (x3.1 + ((r4 >>> (x3.2 &&& 31)) &&& (1 : Int32))) fun v5 =>
 lett (x3.2 + (1 : Int32)) fun v6 =>
 rec4 (v5, v6))) 1000000 (v1, v2)
abbrev rmR_far : Room := { frames := 2, cells := 0, slots := 0, locals := 43 }
set_option maxHeartbeats 4000000 in
set_option maxRecDepth 100000 in
theorem tR_far (E : Cx) (hE : CxOk E cX12_far RX12 shR (some .int) rmR_far 4) (p1 : Int32)  (M : Mm) : Ok E 0 [(0, .ref (E.Y.ad 0)), (1, .int p1)] [] M (R_far p1 M) (KIp E M) := by
  unfold R_far
  refine ok_iconst hE (0 : Int32) ki_0 dX12_far_0 ?_
  refine ok_istore_n hE (fun v1 => [(2, .int v1), (0, .ref (E.Y.ad 0)), (1, .int p1)]) (fun _ => rfl) rfl dX12_far_1 (fun v1 => ?_)
  refine ok_iconst hE (0 : Int32) ki_0 dX12_far_2 ?_
  refine ok_istore_n hE (fun v2 => [(3, .int v2), (2, .int v1), (0, .ref (E.Y.ad 0)), (1, .int p1)]) (fun _ => rfl) rfl dX12_far_3 (fun v2 => ?_)
  refine ok_sub [2, 3, 1, 0] rfl (ok_loop (σ := Int32 × Int32) 4 (fun x3 => [(0, .ref (E.Y.ad 0)), (1, .int p1), (2, .int x3.1), (3, .int x3.2)]) (fun x3 => M) (fun rec4 hrec4 x3 => ?_) 1000000 (v1, v2))
  refine ok_iload_n hE 3 rfl dX12_far_4 ?_
  refine ok_bipush hE (8 : Int32) kb_8 dX12_far_5 ?_
  refine ok_icmp_ge hE 29 rfl dX12_far_7 ?_ ?_
  · refine ok_iload_n hE 2 rfl dX12_far_29 ?_
    exact ok_ireturnP hE dX12_far_30
  · refine ok_iload_n hE 2 rfl dX12_far_10 ?_
    refine ok_aload_n hE 0 rfl dX12_far_11 ?_
    refine ok_iload_n hE 1 rfl dX12_far_12 ?_
    refine ok_iconst hE (3 : Int32) ki_3 dX12_far_13 ?_
    refine ok_cvIp hE rmR_ofQueue [.int p1, .int (3 : Int32)] [.int x3.1] rfl ca_X12_340 shR_0 rfl (fun _ hx => mR_ofQueue hE.sys _ _ _ _ hx) ⟨rfl, rfl, rfl, rfl⟩ rfl rfl dX12_far_14 (fun r4 => ?_)
    refine ok_iload_n hE 3 rfl dX12_far_17 ?_
    refine ok_ishr hE dX12_far_18 ?_
    refine ok_iconst hE (1 : Int32) ki_1 dX12_far_19 ?_
    refine ok_iand hE dX12_far_20 ?_
    refine ok_iadd hE dX12_far_21 ?_
    refine ok_istore_n hE (fun v5 => [(2, .int v5), (0, .ref (E.Y.ad 0)), (1, .int p1), (3, .int x3.2)]) (fun _ => rfl) rfl dX12_far_22 (fun v5 => ?_)
    refine ok_iinc hE 3 (x3.2 + (1 : Int32)) (by rw [ko_1]) (fun v6 => [(3, .int v6), (2, .int v5), (0, .ref (E.Y.ad 0)), (1, .int p1)]) rfl (fun _ => rfl) rfl dX12_far_23 (fun v6 => ?_)
    refine ok_goto hE 4 rfl dX12_far_26 ?_
    exact ok_sub [2, 3, 1, 0] rfl (hrec4 (v5, v6))
theorem mR_far {l : Launch} {Y : Sys} {t : Nat} (hY : SysOk Y t shR) (p1 : Int32)  (M : Mm) (r : Int32) (h : R_far p1 M = some r) : Cm l Y t yX12_far (WS yX12_far cX12_far 4 (some .int)) rmR_far [.ref (Y.ad 0), .int p1] M ((some (.int r), M)) := by
  refine cm_of (own := RX12) hY rfl rfl (Nat.le_of_ble_eq_true rfl) (fun E hE e1 e2 e3 e4 => ?_)
  subst e1
  exact tR_far E hE p1  M r h e4.symm
def R_goesTo (p1 : Int32) (p2 : Int32) (M : Mm) : Option (Int32 × Mm) :=
 bnd (R_of p1 (6 : Int32) M) fun r1 =>
 lett r1 fun v2 =>
 if v2 = p1 then
 (bnd (R_its (2 : Int32) M) fun r3 =>
 lett r3 fun v4 =>
 if v4 = (-1 : Int32) then
 (some (p1, M))
 else
 (if v4 = p1 then
 (some (p1, M))
 else
 (ald p1 6 (if (gI M 3 (ix p1)) = (1 : Int32) then
 (some (p1, M))
 else
 (ald v4 6 (if (gI M 3 (ix v4)) = (1 : Int32) then
 (some (p1, M))
 else
 (bnd (R_ofQueue v4 (2 : Int32) M) fun r5 =>
 bnd (R_away p2 r5 M) fun r6 =>
 if r6 ≤ (gI M 0 7) then
 (bnd (R_sets p1 (6 : Int32) v4 M) fun M7 =>
 bnd (R_sets p1 (7 : Int32) (0 : Int32) M7) fun M8 =>
 some (v4, M8))
 else
 (some (p1, M)))))))))
 else
 (bnd (R_ofQueue v2 (2 : Int32) M) fun r9 =>
 bnd (R_away p2 r9 M) fun r10 =>
 lett (fun (w_10 : Int32) =>
 lett w_10 fun v12 =>
 lett (fun (w_12 : Int32) =>
 bnd (R_sets p1 (7 : Int32) w_12 M) fun M14 =>
 bnd (R_of p1 (7 : Int32) M14) fun r15 =>
 if (3 : Int32) ≤ r15 then
 (bnd (R_sets p1 (7 : Int32) (0 : Int32) M14) fun M16 =>
 bnd (R_sets p1 (6 : Int32) p1 M16) fun M17 =>
 some (p1, M17))
 else
 (some (v2, M14))) fun j59 =>
 if v12 = 0 then
 (j59 (0 : Int32))
 else
 (bnd (R_of p1 (7 : Int32) M) fun r18 =>
 j59 (r18 + (1 : Int32)))) fun j35 =>
 if r10 ≤ (gI M 0 7) then
 (j35 (0 : Int32))
 else
 (j35 (1 : Int32)))
abbrev rmR_goesTo : Room := { frames := 2, cells := 0, slots := 0, locals := 45 }
set_option maxHeartbeats 4000000 in
set_option maxRecDepth 100000 in
theorem tR_goesTo (E : Cx) (hE : CxOk E cX12_goesTo RX12 shR (some .int) rmR_goesTo 5) (p1 : Int32) (p2 : Int32)  (M : Mm) : Ok E 0 [(0, .ref (E.Y.ad 0)), (1, .int p1), (2, .int p2)] [] M (R_goesTo p1 p2 M) (KI E) := by
  unfold R_goesTo
  refine ok_aload_n hE 0 rfl dX12_goesTo_0 ?_
  refine ok_iload_n hE 1 rfl dX12_goesTo_1 ?_
  refine ok_bipush hE (6 : Int32) kb_6 dX12_goesTo_2 ?_
  refine ok_cvIp hE rmR_of [.int p1, .int (6 : Int32)] [] rfl ca_X12_337 shR_0 rfl (fun _ hx => mR_of hE.sys _ _ _ _ hx) ⟨rfl, rfl, rfl, rfl⟩ rfl rfl dX12_goesTo_4 (fun r1 => ?_)
  refine ok_istore_n hE (fun v2 => [(3, .int v2), (0, .ref (E.Y.ad 0)), (1, .int p1), (2, .int p2)]) (fun _ => rfl) rfl dX12_goesTo_7 (fun v2 => ?_)
  refine ok_iload_n hE 0 rfl dX12_goesTo_8 ?_
  refine ok_iload_n hE 2 rfl dX12_goesTo_9 ?_
  refine ok_icmp_eq hE 93 rfl dX12_goesTo_10 ?_ ?_
  · refine ok_aload_n hE 1 rfl dX12_goesTo_93 ?_
    refine ok_iconst hE (2 : Int32) ki_2 dX12_goesTo_94 ?_
    refine ok_cvIp hE rmR_its [.int (2 : Int32)] [] rfl ca_X12_321 shR_0 rfl (fun _ hx => mR_its hE.sys _ _ _ hx) ⟨rfl, rfl, rfl, rfl⟩ rfl rfl dX12_goesTo_95 (fun r3 => ?_)
    refine ok_istore hE (fun v4 => [(4, .int v4), (3, .int v2), (0, .ref (E.Y.ad 0)), (1, .int p1), (2, .int p2)]) (fun _ => rfl) rfl dX12_goesTo_98 (fun v4 => ?_)
    refine ok_iload hE 0 rfl dX12_goesTo_100 ?_
    refine ok_iconst hE (-1 : Int32) ki_m1 dX12_goesTo_102 ?_
    refine ok_icmp_eq hE 151 rfl dX12_goesTo_103 ?_ ?_
    · refine ok_iload_n hE 3 rfl dX12_goesTo_151 ?_
      exact ok_ireturn hE dX12_goesTo_152
    · refine ok_iload hE 0 rfl dX12_goesTo_106 ?_
      refine ok_iload_n hE 3 rfl dX12_goesTo_108 ?_
      refine ok_icmp_eq hE 151 rfl dX12_goesTo_109 ?_ ?_
      · refine ok_iload_n hE 3 rfl dX12_goesTo_151 ?_
        exact ok_ireturn hE dX12_goesTo_152
      · refine ok_aload_n hE 2 rfl dX12_goesTo_112 ?_
        refine ok_getA hE fl_X12_57 shR_0 rfl dX12_goesTo_113 ?_
        refine ok_iload_n hE 3 rfl dX12_goesTo_116 ?_
        refine ok_iaload hE shR_3 dX12_goesTo_117 ?_
        refine ok_iconst hE (1 : Int32) ki_1 dX12_goesTo_118 ?_
        refine ok_icmp_eq hE 151 rfl dX12_goesTo_119 ?_ ?_
        · refine ok_iload_n hE 3 rfl dX12_goesTo_151 ?_
          exact ok_ireturn hE dX12_goesTo_152
        · refine ok_aload_n hE 2 rfl dX12_goesTo_122 ?_
          refine ok_getA hE fl_X12_57 shR_0 rfl dX12_goesTo_123 ?_
          refine ok_iload hE 0 rfl dX12_goesTo_126 ?_
          refine ok_iaload hE shR_3 dX12_goesTo_128 ?_
          refine ok_iconst hE (1 : Int32) ki_1 dX12_goesTo_129 ?_
          refine ok_icmp_eq hE 151 rfl dX12_goesTo_130 ?_ ?_
          · refine ok_iload_n hE 3 rfl dX12_goesTo_151 ?_
            exact ok_ireturn hE dX12_goesTo_152
          · refine ok_iload_n hE 4 rfl dX12_goesTo_133 ?_
            refine ok_aload_n hE 2 rfl dX12_goesTo_134 ?_
            refine ok_iload hE 0 rfl dX12_goesTo_135 ?_
            refine ok_iconst hE (2 : Int32) ki_2 dX12_goesTo_137 ?_
            refine ok_cvIp hE rmR_ofQueue [.int v4, .int (2 : Int32)] [.int p2] rfl ca_X12_340 shR_0 rfl (fun _ hx => mR_ofQueue hE.sys _ _ _ _ hx) ⟨rfl, rfl, rfl, rfl⟩ rfl rfl dX12_goesTo_138 (fun r5 => ?_)
            refine ok_csIp hE rmR_away [.int p2, .int r5] [] rfl ca_X12_343 (fun _ hx => mR_away hE.sys _ _ _ _ hx) ⟨rfl, rfl, rfl, rfl⟩ rfl rfl dX12_goesTo_141 (fun r6 => ?_)
            refine ok_aload_n hE 2 rfl dX12_goesTo_144 ?_
            refine ok_getI hE fl_X12_32 shR_0 rfl dX12_goesTo_145 ?_
            refine ok_icmp_le hE 153 rfl dX12_goesTo_148 ?_ ?_
            · refine ok_aload_n hE 2 rfl dX12_goesTo_153 ?_
              refine ok_iload_n hE 3 rfl dX12_goesTo_154 ?_
              refine ok_bipush hE (6 : Int32) kb_6 dX12_goesTo_155 ?_
              refine ok_iload hE 0 rfl dX12_goesTo_157 ?_
              refine ok_cvV hE rmR_sets [.int p1, .int (6 : Int32), .int v4] [] rfl ca_X12_314 shR_0 rfl (fun _ hx => mR_sets hE.sys _ _ _ _ _ hx) ⟨rfl, rfl, rfl, rfl⟩ rfl rfl dX12_goesTo_159 (fun M7 => ?_)
              refine ok_aload_n hE 2 rfl dX12_goesTo_162 ?_
              refine ok_iload_n hE 3 rfl dX12_goesTo_163 ?_
              refine ok_bipush hE (7 : Int32) kb_7 dX12_goesTo_164 ?_
              refine ok_iconst hE (0 : Int32) ki_0 dX12_goesTo_166 ?_
              refine ok_cvV hE rmR_sets [.int p1, .int (7 : Int32), .int (0 : Int32)] [] rfl ca_X12_314 shR_0 rfl (fun _ hx => mR_sets hE.sys _ _ _ _ _ hx) ⟨rfl, rfl, rfl, rfl⟩ rfl rfl dX12_goesTo_167 (fun M8 => ?_)
              refine ok_iload hE 0 rfl dX12_goesTo_170 ?_
              exact ok_ireturn hE dX12_goesTo_172
            · refine ok_iload_n hE 3 rfl dX12_goesTo_151 ?_
              exact ok_ireturn hE dX12_goesTo_152
  · refine ok_iload_n hE 3 rfl dX12_goesTo_13 ?_
    refine ok_aload_n hE 1 rfl dX12_goesTo_14 ?_
    refine ok_iload_n hE 0 rfl dX12_goesTo_15 ?_
    refine ok_iconst hE (2 : Int32) ki_2 dX12_goesTo_16 ?_
    refine ok_cvIp hE rmR_ofQueue [.int v2, .int (2 : Int32)] [.int p2] rfl ca_X12_340 shR_0 rfl (fun _ hx => mR_ofQueue hE.sys _ _ _ _ hx) ⟨rfl, rfl, rfl, rfl⟩ rfl rfl dX12_goesTo_17 (fun r9 => ?_)
    refine ok_csIp hE rmR_away [.int p2, .int r9] [] rfl ca_X12_343 (fun _ hx => mR_away hE.sys _ _ _ _ hx) ⟨rfl, rfl, rfl, rfl⟩ rfl rfl dX12_goesTo_20 (fun r10 => ?_)
    refine ok_aload_n hE 1 rfl dX12_goesTo_23 ?_
    refine ok_getI hE fl_X12_32 shR_0 rfl dX12_goesTo_24 ?_
    refine ok_fun (fun j => ∀ (w_10 : Int32), Ok E 35 [(0, .ref (E.Y.ad 0)), (1, .int p1), (3, .int v2)] [.int w_10] M (j w_10) (KI E)) (fun w_10 => ?_) (fun j35 hj35 => ?_)
    · refine ok_istore hE (fun v12 => [(4, .int v12), (0, .ref (E.Y.ad 0)), (1, .int p1), (3, .int v2)]) (fun _ => rfl) rfl dX12_goesTo_35 (fun v12 => ?_)
      refine ok_aload_n hE 1 rfl dX12_goesTo_37 ?_
      refine ok_iload_n hE 2 rfl dX12_goesTo_38 ?_
      refine ok_bipush hE (7 : Int32) kb_7 dX12_goesTo_39 ?_
      refine ok_iload hE 0 rfl dX12_goesTo_41 ?_
      refine ok_fun (fun j => ∀ (w_12 : Int32), Ok E 59 [(0, .ref (E.Y.ad 0)), (1, .int p1), (3, .int v2)] [.int w_12, .int (7 : Int32), .int p1, .ref (E.Y.ad 0)] M (j w_12) (KI E)) (fun w_12 => ?_) (fun j59 hj59 => ?_)
      · refine ok_cvV hE rmR_sets [.int p1, .int (7 : Int32), .int w_12] [] rfl ca_X12_314 shR_0 rfl (fun _ hx => mR_sets hE.sys _ _ _ _ _ hx) ⟨rfl, rfl, rfl, rfl⟩ rfl rfl dX12_goesTo_59 (fun M14 => ?_)
        refine ok_aload_n hE 0 rfl dX12_goesTo_62 ?_
        refine ok_iload_n hE 1 rfl dX12_goesTo_63 ?_
        refine ok_bipush hE (7 : Int32) kb_7 dX12_goesTo_64 ?_
        refine ok_cvIp hE rmR_of [.int p1, .int (7 : Int32)] [] rfl ca_X12_337 shR_0 rfl (fun _ hx => mR_of hE.sys _ _ _ _ hx) ⟨rfl, rfl, rfl, rfl⟩ rfl rfl dX12_goesTo_66 (fun r15 => ?_)
        refine ok_iconst hE (3 : Int32) ki_3 dX12_goesTo_69 ?_
        refine ok_icmp_ge hE 75 rfl dX12_goesTo_70 ?_ ?_
        · refine ok_aload_n hE 0 rfl dX12_goesTo_75 ?_
          refine ok_iload_n hE 1 rfl dX12_goesTo_76 ?_
          refine ok_bipush hE (7 : Int32) kb_7 dX12_goesTo_77 ?_
          refine ok_iconst hE (0 : Int32) ki_0 dX12_goesTo_79 ?_
          refine ok_cvV hE rmR_sets [.int p1, .int (7 : Int32), .int (0 : Int32)] [] rfl ca_X12_314 shR_0 rfl (fun _ hx => mR_sets hE.sys _ _ _ _ _ hx) ⟨rfl, rfl, rfl, rfl⟩ rfl rfl dX12_goesTo_80 (fun M16 => ?_)
          refine ok_aload_n hE 0 rfl dX12_goesTo_83 ?_
          refine ok_iload_n hE 1 rfl dX12_goesTo_84 ?_
          refine ok_bipush hE (6 : Int32) kb_6 dX12_goesTo_85 ?_
          refine ok_iload_n hE 1 rfl dX12_goesTo_87 ?_
          refine ok_cvV hE rmR_sets [.int p1, .int (6 : Int32), .int p1] [] rfl ca_X12_314 shR_0 rfl (fun _ hx => mR_sets hE.sys _ _ _ _ _ hx) ⟨rfl, rfl, rfl, rfl⟩ rfl rfl dX12_goesTo_88 (fun M17 => ?_)
          refine ok_iload_n hE 1 rfl dX12_goesTo_91 ?_
          exact ok_ireturn hE dX12_goesTo_92
        · refine ok_iload_n hE 2 rfl dX12_goesTo_73 ?_
          exact ok_ireturn hE dX12_goesTo_74
      refine ok_if_eq hE 58 rfl dX12_goesTo_43 ?_ ?_
      · refine ok_iconst hE (0 : Int32) ki_0 dX12_goesTo_58 ?_
        exact ok_sub [1, 2, 3] rfl (hj59 (0 : Int32))
      · refine ok_aload_n hE 1 rfl dX12_goesTo_46 ?_
        refine ok_iload_n hE 2 rfl dX12_goesTo_47 ?_
        refine ok_bipush hE (7 : Int32) kb_7 dX12_goesTo_48 ?_
        refine ok_cvIp hE rmR_of [.int p1, .int (7 : Int32)] [.int (7 : Int32), .int p1, .ref (E.Y.ad 0)] rfl ca_X12_337 shR_0 rfl (fun _ hx => mR_of hE.sys _ _ _ _ hx) ⟨rfl, rfl, rfl, rfl⟩ rfl rfl dX12_goesTo_50 (fun r18 => ?_)
        refine ok_iconst hE (1 : Int32) ki_1 dX12_goesTo_53 ?_
        refine ok_iadd hE dX12_goesTo_54 ?_
        refine ok_goto hE 59 rfl dX12_goesTo_55 ?_
        exact ok_sub [1, 2, 3] rfl (hj59 (r18 + (1 : Int32)))
    refine ok_icmp_le hE 34 rfl dX12_goesTo_27 ?_ ?_
    · refine ok_iconst hE (0 : Int32) ki_0 dX12_goesTo_34 ?_
      exact ok_sub [1, 2, 0] rfl (hj35 (0 : Int32))
    · refine ok_iconst hE (1 : Int32) ki_1 dX12_goesTo_30 ?_
      refine ok_goto hE 35 rfl dX12_goesTo_31 ?_
      exact ok_sub [1, 2, 0] rfl (hj35 (1 : Int32))
theorem mR_goesTo {l : Launch} {Y : Sys} {t : Nat} (hY : SysOk Y t shR) (p1 : Int32) (p2 : Int32)  (M : Mm) (r : (Int32 × Mm)) (h : R_goesTo p1 p2 M = some r) : Cm l Y t yX12_goesTo (WS yX12_goesTo cX12_goesTo 5 (some .int)) rmR_goesTo [.ref (Y.ad 0), .int p1, .int p2] M (enI r) := by
  refine cm_of (own := RX12) hY rfl rfl (Nat.le_of_ble_eq_true rfl) (fun E hE e1 e2 e3 e4 => ?_)
  subst e1
  exact tR_goesTo E hE p1 p2  M r h e4.symm
def R_asks (p1 : Int32) (p2 : Int32) (p3 : Int32) (p4 : Int32) (p5 : Int32) (M : Mm) : Option Mm :=
 bnd (R_sets p1 (3 : Int32) (p2 + p3) M) fun M1 =>
 bnd (R_goesTo p1 p2 M1) fun r2 =>
 lett r2.1 fun v3 =>
 bnd (R_ofQueue v3 (3 : Int32) r2.2) fun r4 =>
 bnd (R_ofQueue v3 (2 : Int32) r2.2) fun r5 =>
 bnd (R_away p2 r5 r2.2) fun r6 =>
 lett (fun (w_6 : Int32) =>
 bnd (R_setsQueue v3 (3 : Int32) ((((2 : Int32) * r4) + w_6) &&& (255 : Int32)) r2.2) fun M8 =>
 bnd (R_setsQueue v3 (2 : Int32) (p2 + p3) M8) fun M9 =>
 bnd (R_its (2 : Int32) M9) fun r10 =>
 lett (fun (w_10 : Int32) =>
 lett w_10 fun v12 =>
 bnd (R_lying v3 M9) fun r13 =>
 lett (fun (w_13 : Int32) =>
 lett w_13 fun v15 =>
 bnd (R_its (0 : Int32) M9) fun r16 =>
 bnd (R_ofQueue v3 (4 : Int32) M9) fun r17 =>
 lett (r16 - r17) fun v18 =>
 lett (fun (M_18 : Mm) =>
 lett (fun (M_19 : Mm) =>
 bnd (R_of p1 (5 : Int32) M_19) fun r21 =>
 bnd (R_sets p1 (5 : Int32) (r21 + (1 : Int32)) M_19) fun M22 =>
 bnd (R_its (10 : Int32) M22) fun r23 =>
 lett ((150 : Int32) + ((7 : Int32) * r23)) fun v24 =>
 bnd (R_puts (v24 + (0 : Int32)) v3 M22) fun M25 =>
 bnd (R_puts (v24 + (1 : Int32)) p2 M25) fun M26 =>
 bnd (R_puts (v24 + (2 : Int32)) p3 M26) fun M27 =>
 bnd (R_puts (v24 + (3 : Int32)) p1 M27) fun M28 =>
 bnd (R_its (0 : Int32) M28) fun r29 =>
 bnd (R_puts (v24 + (4 : Int32)) r29 M28) fun M30 =>
 bnd (R_puts (v24 + (5 : Int32)) p4 M30) fun M31 =>
 bnd (R_puts (v24 + (6 : Int32)) p5 M31) fun M32 =>
 bnd (R_its (10 : Int32) M32) fun r33 =>
 bnd (R_puts (10 : Int32) (r33 + (1 : Int32)) M32) fun M34 =>
 some M34) fun j302 =>
 if v15 = 0 then
 (if v12 = 0 then
 (lett (fun (M_34 : Mm) =>
 bnd (R_part (18 : Int32) M_34) fun r36 =>
 bnd (R_part ((6 : Int32) + v3) M_34) fun r37 =>
 lett (fun (w_37 : UInt32) =>
 bnd (R_setsPart ((0 : Int32) + v3) w_37 M_34) fun M39 =>
 bnd (R_part ((0 : Int32) + v3) M39) fun r40 =>
 bnd (R_ofQueue v3 (0 : Int32) M39) fun r41 =>
 bnd (R_weightOf v3 M39) fun r42 =>
 grd ((FP.fdiv (FP.i2f r41) (FP.i2f r42)) &&& 0x7fffffff ≤ 0x7f800000) (grd ((FP.fadd r40 (FP.fdiv (FP.i2f r41) (FP.i2f r42))) &&& 0x7fffffff ≤ 0x7f800000) (bnd (R_setsPart ((6 : Int32) + v3) (FP.fadd r40 (FP.fdiv (FP.i2f r41) (FP.i2f r42))) M39) fun M43 =>
 j302 M43))) fun j265 =>
 if (Op.cmpValue (FP.fcmp r36 r37) .l) ≤ 0 then
 (bnd (R_part ((6 : Int32) + v3) M_34) fun r44 =>
 j265 r44)
 else
 (bnd (R_part (18 : Int32) M_34) fun r45 =>
 j265 r45)) fun j223 =>
 if v18 < (gI M_18 0 10) then
 (j223 M_18)
 else
 (bnd (R_its (0 : Int32) M_18) fun r46 =>
 bnd (R_setsQueue v3 (5 : Int32) (r46 + (gI M_18 0 9)) M_18) fun M47 =>
 j223 M47))
 else
 (j302 M_18))
 else
 (j302 M_18)) fun j187 =>
 if v15 = 0 then
 (lett (fun (_ : Unit) =>
 ald v3 6 (if (gI M9 3 (ix v3)) = 0 then
 (bnd (R_ofQueue v3 (4 : Int32) M9) fun r48 =>
 if r48 = 0 then
 (j187 M9)
 else
 (bnd (R_part ((12 : Int32) + v3) M9) fun r49 =>
 grd ((FP.fmul r49 (1063256064 : UInt32)) &&& 0x7fffffff ≤ 0x7f800000) (grd ((FP.fmul (FP.i2f v18) (1040187392 : UInt32)) &&& 0x7fffffff ≤ 0x7f800000) (grd ((FP.fadd (FP.fmul r49 (1063256064 : UInt32)) (FP.fmul (FP.i2f v18) (1040187392 : UInt32))) &&& 0x7fffffff ≤ 0x7f800000) (bnd (R_setsPart ((12 : Int32) + v3) (FP.fadd (FP.fmul r49 (1063256064 : UInt32)) (FP.fmul (FP.i2f v18) (1040187392 : UInt32))) M9) fun M50 =>
 j187 M50)))))
 else
 (j187 M9))) fun j137 =>
 if v12 = 0 then
 (j137 ())
 else
 (bnd (R_its (5 : Int32) M9) fun r51 =>
 if 0 < r51 then
 (j187 M9)
 else
 (j137 ())))
 else
 (j187 M9)) fun j102 =>
 if r13 ≤ 0 then
 (j102 (0 : Int32))
 else
 (j102 (1 : Int32))) fun j86 =>
 if r10 = v3 then
 (j86 (1 : Int32))
 else
 (j86 (0 : Int32))) fun j53 =>
 if r6 ≤ (gI r2.2 0 7) then
 (j53 (0 : Int32))
 else
 (j53 (1 : Int32))
abbrev rmR_asks : Room := { frames := 3, cells := 0, slots := 0, locals := 69 }
set_option maxHeartbeats 4000000 in
set_option maxRecDepth 100000 in
theorem tR_asks (E : Cx) (hE : CxOk E cX12_asks RX12 shR none rmR_asks 11) (p1 : Int32) (p2 : Int32) (p3 : Int32) (p4 : Int32) (p5 : Int32)  (M : Mm) : Ok E 0 [(0, .ref (E.Y.ad 0)), (1, .int p1), (2, .int p2), (3, .int p3), (4, .int p4), (5, .int p5)] [] M (R_asks p1 p2 p3 p4 p5 M) (KV E) := by
  unfold R_asks
  refine ok_aload_n hE 0 rfl dX12_asks_0 ?_
  refine ok_iload_n hE 1 rfl dX12_asks_1 ?_
  refine ok_iconst hE (3 : Int32) ki_3 dX12_asks_2 ?_
  refine ok_iload_n hE 2 rfl dX12_asks_3 ?_
  refine ok_iload_n hE 3 rfl dX12_asks_4 ?_
  refine ok_iadd hE dX12_asks_5 ?_
  refine ok_cvV hE rmR_sets [.int p1, .int (3 : Int32), .int (p2 + p3)] [] rfl ca_X12_314 shR_0 rfl (fun _ hx => mR_sets hE.sys _ _ _ _ _ hx) ⟨rfl, rfl, rfl, rfl⟩ rfl rfl dX12_asks_6 (fun M1 => ?_)
  refine ok_aload_n hE 0 rfl dX12_asks_9 ?_
  refine ok_iload_n hE 1 rfl dX12_asks_10 ?_
  refine ok_iload_n hE 2 rfl dX12_asks_11 ?_
  refine ok_cvI hE rmR_goesTo [.int p1, .int p2] [] rfl ca_X12_346 shR_0 rfl (fun _ hx => mR_goesTo hE.sys _ _ _ _ hx) ⟨rfl, rfl, rfl, rfl⟩ rfl rfl dX12_asks_12 (fun r2 => ?_)
  refine ok_istore hE (fun v3 => [(6, .int v3), (0, .ref (E.Y.ad 0)), (1, .int p1), (2, .int p2), (3, .int p3), (4, .int p4), (5, .int p5)]) (fun _ => rfl) rfl dX12_asks_15 (fun v3 => ?_)
  refine ok_aload_n hE 1 rfl dX12_asks_17 ?_
  refine ok_iload hE 0 rfl dX12_asks_18 ?_
  refine ok_iconst hE (3 : Int32) ki_3 dX12_asks_20 ?_
  refine ok_iconst hE (2 : Int32) ki_2 dX12_asks_21 ?_
  refine ok_aload_n hE 1 rfl dX12_asks_22 ?_
  refine ok_iload hE 0 rfl dX12_asks_23 ?_
  refine ok_iconst hE (3 : Int32) ki_3 dX12_asks_25 ?_
  refine ok_cvIp hE rmR_ofQueue [.int v3, .int (3 : Int32)] [.int (2 : Int32), .int (3 : Int32), .int v3, .ref (E.Y.ad 0)] rfl ca_X12_340 shR_0 rfl (fun _ hx => mR_ofQueue hE.sys _ _ _ _ hx) ⟨rfl, rfl, rfl, rfl⟩ rfl rfl dX12_asks_26 (fun r4 => ?_)
  refine ok_imul hE dX12_asks_29 ?_
  refine ok_iload_n hE 3 rfl dX12_asks_30 ?_
  refine ok_aload_n hE 1 rfl dX12_asks_31 ?_
  refine ok_iload hE 0 rfl dX12_asks_32 ?_
  refine ok_iconst hE (2 : Int32) ki_2 dX12_asks_34 ?_
  refine ok_cvIp hE rmR_ofQueue [.int v3, .int (2 : Int32)] [.int p2, .int ((2 : Int32) * r4), .int (3 : Int32), .int v3, .ref (E.Y.ad 0)] rfl ca_X12_340 shR_0 rfl (fun _ hx => mR_ofQueue hE.sys _ _ _ _ hx) ⟨rfl, rfl, rfl, rfl⟩ rfl rfl dX12_asks_35 (fun r5 => ?_)
  refine ok_csIp hE rmR_away [.int p2, .int r5] [.int ((2 : Int32) * r4), .int (3 : Int32), .int v3, .ref (E.Y.ad 0)] rfl ca_X12_343 (fun _ hx => mR_away hE.sys _ _ _ _ hx) ⟨rfl, rfl, rfl, rfl⟩ rfl rfl dX12_asks_38 (fun r6 => ?_)
  refine ok_aload_n hE 1 rfl dX12_asks_41 ?_
  refine ok_getI hE fl_X12_32 shR_0 rfl dX12_asks_42 ?_
  refine ok_fun (fun j => ∀ (w_6 : Int32), Ok E 53 [(0, .ref (E.Y.ad 0)), (1, .int p1), (2, .int p2), (3, .int p3), (4, .int p4), (5, .int p5), (6, .int v3)] [.int w_6, .int ((2 : Int32) * r4), .int (3 : Int32), .int v3, .ref (E.Y.ad 0)] r2.2 (j w_6) (KV E)) (fun w_6 => ?_) (fun j53 hj53 => ?_)
  · refine ok_iadd hE dX12_asks_53 ?_
    refine ok_sipush hE (255 : Int32) ks_255 dX12_asks_54 ?_
    refine ok_iand hE dX12_asks_57 ?_
    refine ok_cvV hE rmR_setsQueue [.int v3, .int (3 : Int32), .int ((((2 : Int32) * r4) + w_6) &&& (255 : Int32))] [] rfl ca_X12_331 shR_0 rfl (fun _ hx => mR_setsQueue hE.sys _ _ _ _ _ hx) ⟨rfl, rfl, rfl, rfl⟩ rfl rfl dX12_asks_58 (fun M8 => ?_)
    refine ok_aload_n hE 0 rfl dX12_asks_61 ?_
    refine ok_iload hE 6 rfl dX12_asks_62 ?_
    refine ok_iconst hE (2 : Int32) ki_2 dX12_asks_64 ?_
    refine ok_iload_n hE 2 rfl dX12_asks_65 ?_
    refine ok_iload_n hE 3 rfl dX12_asks_66 ?_
    refine ok_iadd hE dX12_asks_67 ?_
    refine ok_cvV hE rmR_setsQueue [.int v3, .int (2 : Int32), .int (p2 + p3)] [] rfl ca_X12_331 shR_0 rfl (fun _ hx => mR_setsQueue hE.sys _ _ _ _ _ hx) ⟨rfl, rfl, rfl, rfl⟩ rfl rfl dX12_asks_68 (fun M9 => ?_)
    refine ok_aload_n hE 0 rfl dX12_asks_71 ?_
    refine ok_iconst hE (2 : Int32) ki_2 dX12_asks_72 ?_
    refine ok_cvIp hE rmR_its [.int (2 : Int32)] [] rfl ca_X12_321 shR_0 rfl (fun _ hx => mR_its hE.sys _ _ _ hx) ⟨rfl, rfl, rfl, rfl⟩ rfl rfl dX12_asks_73 (fun r10 => ?_)
    refine ok_iload hE 6 rfl dX12_asks_76 ?_
    refine ok_fun (fun j => ∀ (w_10 : Int32), Ok E 86 [(0, .ref (E.Y.ad 0)), (1, .int p1), (2, .int p2), (3, .int p3), (4, .int p4), (5, .int p5), (6, .int v3)] [.int w_10] M9 (j w_10) (KV E)) (fun w_10 => ?_) (fun j86 hj86 => ?_)
    · refine ok_istore hE (fun v12 => [(7, .int v12), (0, .ref (E.Y.ad 0)), (1, .int p1), (2, .int p2), (3, .int p3), (4, .int p4), (5, .int p5), (6, .int v3)]) (fun _ => rfl) rfl dX12_asks_86 (fun v12 => ?_)
      refine ok_aload_n hE 1 rfl dX12_asks_88 ?_
      refine ok_iload hE 7 rfl dX12_asks_89 ?_
      refine ok_cvIp hE rmR_lying [.int v3] [] rfl ca_X12_349 shR_0 rfl (fun _ hx => mR_lying hE.sys _ _ _ hx) ⟨rfl, rfl, rfl, rfl⟩ rfl rfl dX12_asks_91 (fun r13 => ?_)
      refine ok_fun (fun j => ∀ (w_13 : Int32), Ok E 102 [(0, .ref (E.Y.ad 0)), (1, .int p1), (2, .int p2), (3, .int p3), (4, .int p4), (5, .int p5), (6, .int v3), (7, .int v12)] [.int w_13] M9 (j w_13) (KV E)) (fun w_13 => ?_) (fun j102 hj102 => ?_)
      · refine ok_istore hE (fun v15 => [(8, .int v15), (0, .ref (E.Y.ad 0)), (1, .int p1), (2, .int p2), (3, .int p3), (4, .int p4), (5, .int p5), (6, .int v3), (7, .int v12)]) (fun _ => rfl) rfl dX12_asks_102 (fun v15 => ?_)
        refine ok_aload_n hE 1 rfl dX12_asks_104 ?_
        refine ok_iconst hE (0 : Int32) ki_0 dX12_asks_105 ?_
        refine ok_cvIp hE rmR_its [.int (0 : Int32)] [] rfl ca_X12_321 shR_0 rfl (fun _ hx => mR_its hE.sys _ _ _ hx) ⟨rfl, rfl, rfl, rfl⟩ rfl rfl dX12_asks_106 (fun r16 => ?_)
        refine ok_aload_n hE 1 rfl dX12_asks_109 ?_
        refine ok_iload hE 7 rfl dX12_asks_110 ?_
        refine ok_iconst hE (4 : Int32) ki_4 dX12_asks_112 ?_
        refine ok_cvIp hE rmR_ofQueue [.int v3, .int (4 : Int32)] [.int r16] rfl ca_X12_340 shR_0 rfl (fun _ hx => mR_ofQueue hE.sys _ _ _ _ hx) ⟨rfl, rfl, rfl, rfl⟩ rfl rfl dX12_asks_113 (fun r17 => ?_)
        refine ok_isub hE dX12_asks_116 ?_
        refine ok_istore hE (fun v18 => [(9, .int v18), (8, .int v15), (0, .ref (E.Y.ad 0)), (1, .int p1), (2, .int p2), (3, .int p3), (4, .int p4), (5, .int p5), (6, .int v3), (7, .int v12)]) (fun _ => rfl) rfl dX12_asks_117 (fun v18 => ?_)
        refine ok_iload hE 1 rfl dX12_asks_119 ?_
        refine ok_fun (fun j => ∀ (M_18 : Mm), Ok E 187 [(0, .ref (E.Y.ad 0)), (1, .int p1), (2, .int p2), (3, .int p3), (4, .int p4), (5, .int p5), (6, .int v3), (7, .int v12), (8, .int v15), (9, .int v18)] [] M_18 (j M_18) (KV E)) (fun M_18 => ?_) (fun j187 hj187 => ?_)
        · refine ok_iload hE 8 rfl dX12_asks_187 ?_
          refine ok_fun (fun j => ∀ (M_19 : Mm), Ok E 302 [(0, .ref (E.Y.ad 0)), (1, .int p1), (2, .int p2), (3, .int p3), (4, .int p4), (5, .int p5), (6, .int v3)] [] M_19 (j M_19) (KV E)) (fun M_19 => ?_) (fun j302 hj302 => ?_)
          · refine ok_aload_n hE 0 rfl dX12_asks_302 ?_
            refine ok_iload_n hE 1 rfl dX12_asks_303 ?_
            refine ok_iconst hE (5 : Int32) ki_5 dX12_asks_304 ?_
            refine ok_aload_n hE 0 rfl dX12_asks_305 ?_
            refine ok_iload_n hE 1 rfl dX12_asks_306 ?_
            refine ok_iconst hE (5 : Int32) ki_5 dX12_asks_307 ?_
            refine ok_cvIp hE rmR_of [.int p1, .int (5 : Int32)] [.int (5 : Int32), .int p1, .ref (E.Y.ad 0)] rfl ca_X12_337 shR_0 rfl (fun _ hx => mR_of hE.sys _ _ _ _ hx) ⟨rfl, rfl, rfl, rfl⟩ rfl rfl dX12_asks_308 (fun r21 => ?_)
            refine ok_iconst hE (1 : Int32) ki_1 dX12_asks_311 ?_
            refine ok_iadd hE dX12_asks_312 ?_
            refine ok_cvV hE rmR_sets [.int p1, .int (5 : Int32), .int (r21 + (1 : Int32))] [] rfl ca_X12_314 shR_0 rfl (fun _ hx => mR_sets hE.sys _ _ _ _ _ hx) ⟨rfl, rfl, rfl, rfl⟩ rfl rfl dX12_asks_313 (fun M22 => ?_)
            refine ok_sipush hE (150 : Int32) ks_150 dX12_asks_316 ?_
            refine ok_bipush hE (7 : Int32) kb_7 dX12_asks_319 ?_
            refine ok_aload_n hE 0 rfl dX12_asks_321 ?_
            refine ok_bipush hE (10 : Int32) kb_10 dX12_asks_322 ?_
            refine ok_cvIp hE rmR_its [.int (10 : Int32)] [.int (7 : Int32), .int (150 : Int32)] rfl ca_X12_321 shR_0 rfl (fun _ hx => mR_its hE.sys _ _ _ hx) ⟨rfl, rfl, rfl, rfl⟩ rfl rfl dX12_asks_324 (fun r23 => ?_)
            refine ok_imul hE dX12_asks_327 ?_
            refine ok_iadd hE dX12_asks_328 ?_
            refine ok_istore hE (fun v24 => [(10, .int v24), (0, .ref (E.Y.ad 0)), (1, .int p1), (2, .int p2), (3, .int p3), (4, .int p4), (5, .int p5), (6, .int v3)]) (fun _ => rfl) rfl dX12_asks_329 (fun v24 => ?_)
            refine ok_aload_n hE 1 rfl dX12_asks_331 ?_
            refine ok_iload hE 0 rfl dX12_asks_332 ?_
            refine ok_iconst hE (0 : Int32) ki_0 dX12_asks_334 ?_
            refine ok_iadd hE dX12_asks_335 ?_
            refine ok_iload hE 7 rfl dX12_asks_336 ?_
            refine ok_cvV hE rmR_puts [.int (v24 + (0 : Int32)), .int v3] [] rfl ca_X12_318 shR_0 rfl (fun _ hx => mR_puts hE.sys _ _ _ _ hx) ⟨rfl, rfl, rfl, rfl⟩ rfl rfl dX12_asks_338 (fun M25 => ?_)
            refine ok_aload_n hE 1 rfl dX12_asks_341 ?_
            refine ok_iload hE 0 rfl dX12_asks_342 ?_
            refine ok_iconst hE (1 : Int32) ki_1 dX12_asks_344 ?_
            refine ok_iadd hE dX12_asks_345 ?_
            refine ok_iload_n hE 3 rfl dX12_asks_346 ?_
            refine ok_cvV hE rmR_puts [.int (v24 + (1 : Int32)), .int p2] [] rfl ca_X12_318 shR_0 rfl (fun _ hx => mR_puts hE.sys _ _ _ _ hx) ⟨rfl, rfl, rfl, rfl⟩ rfl rfl dX12_asks_347 (fun M26 => ?_)
            refine ok_aload_n hE 1 rfl dX12_asks_350 ?_
            refine ok_iload hE 0 rfl dX12_asks_351 ?_
            refine ok_iconst hE (2 : Int32) ki_2 dX12_asks_353 ?_
            refine ok_iadd hE dX12_asks_354 ?_
            refine ok_iload_n hE 4 rfl dX12_asks_355 ?_
            refine ok_cvV hE rmR_puts [.int (v24 + (2 : Int32)), .int p3] [] rfl ca_X12_318 shR_0 rfl (fun _ hx => mR_puts hE.sys _ _ _ _ hx) ⟨rfl, rfl, rfl, rfl⟩ rfl rfl dX12_asks_356 (fun M27 => ?_)
            refine ok_aload_n hE 1 rfl dX12_asks_359 ?_
            refine ok_iload hE 0 rfl dX12_asks_360 ?_
            refine ok_iconst hE (3 : Int32) ki_3 dX12_asks_362 ?_
            refine ok_iadd hE dX12_asks_363 ?_
            refine ok_iload_n hE 2 rfl dX12_asks_364 ?_
            refine ok_cvV hE rmR_puts [.int (v24 + (3 : Int32)), .int p1] [] rfl ca_X12_318 shR_0 rfl (fun _ hx => mR_puts hE.sys _ _ _ _ hx) ⟨rfl, rfl, rfl, rfl⟩ rfl rfl dX12_asks_365 (fun M28 => ?_)
            refine ok_aload_n hE 1 rfl dX12_asks_368 ?_
            refine ok_iload hE 0 rfl dX12_asks_369 ?_
            refine ok_iconst hE (4 : Int32) ki_4 dX12_asks_371 ?_
            refine ok_iadd hE dX12_asks_372 ?_
            refine ok_aload_n hE 1 rfl dX12_asks_373 ?_
            refine ok_iconst hE (0 : Int32) ki_0 dX12_asks_374 ?_
            refine ok_cvIp hE rmR_its [.int (0 : Int32)] [.int (v24 + (4 : Int32)), .ref (E.Y.ad 0)] rfl ca_X12_321 shR_0 rfl (fun _ hx => mR_its hE.sys _ _ _ hx) ⟨rfl, rfl, rfl, rfl⟩ rfl rfl dX12_asks_375 (fun r29 => ?_)
            refine ok_cvV hE rmR_puts [.int (v24 + (4 : Int32)), .int r29] [] rfl ca_X12_318 shR_0 rfl (fun _ hx => mR_puts hE.sys _ _ _ _ hx) ⟨rfl, rfl, rfl, rfl⟩ rfl rfl dX12_asks_378 (fun M30 => ?_)
            refine ok_aload_n hE 1 rfl dX12_asks_381 ?_
            refine ok_iload hE 0 rfl dX12_asks_382 ?_
            refine ok_iconst hE (5 : Int32) ki_5 dX12_asks_384 ?_
            refine ok_iadd hE dX12_asks_385 ?_
            refine ok_iload hE 5 rfl dX12_asks_386 ?_
            refine ok_cvV hE rmR_puts [.int (v24 + (5 : Int32)), .int p4] [] rfl ca_X12_318 shR_0 rfl (fun _ hx => mR_puts hE.sys _ _ _ _ hx) ⟨rfl, rfl, rfl, rfl⟩ rfl rfl dX12_asks_388 (fun M31 => ?_)
            refine ok_aload_n hE 1 rfl dX12_asks_391 ?_
            refine ok_iload hE 0 rfl dX12_asks_392 ?_
            refine ok_bipush hE (6 : Int32) kb_6 dX12_asks_394 ?_
            refine ok_iadd hE dX12_asks_396 ?_
            refine ok_iload hE 6 rfl dX12_asks_397 ?_
            refine ok_cvV hE rmR_puts [.int (v24 + (6 : Int32)), .int p5] [] rfl ca_X12_318 shR_0 rfl (fun _ hx => mR_puts hE.sys _ _ _ _ hx) ⟨rfl, rfl, rfl, rfl⟩ rfl rfl dX12_asks_399 (fun M32 => ?_)
            refine ok_aload_n hE 1 rfl dX12_asks_402 ?_
            refine ok_bipush hE (10 : Int32) kb_10 dX12_asks_403 ?_
            refine ok_aload_n hE 1 rfl dX12_asks_405 ?_
            refine ok_bipush hE (10 : Int32) kb_10 dX12_asks_406 ?_
            refine ok_cvIp hE rmR_its [.int (10 : Int32)] [.int (10 : Int32), .ref (E.Y.ad 0)] rfl ca_X12_321 shR_0 rfl (fun _ hx => mR_its hE.sys _ _ _ hx) ⟨rfl, rfl, rfl, rfl⟩ rfl rfl dX12_asks_408 (fun r33 => ?_)
            refine ok_iconst hE (1 : Int32) ki_1 dX12_asks_411 ?_
            refine ok_iadd hE dX12_asks_412 ?_
            refine ok_cvV hE rmR_puts [.int (10 : Int32), .int (r33 + (1 : Int32))] [] rfl ca_X12_318 shR_0 rfl (fun _ hx => mR_puts hE.sys _ _ _ _ hx) ⟨rfl, rfl, rfl, rfl⟩ rfl rfl dX12_asks_413 (fun M34 => ?_)
            exact ok_return hE dX12_asks_416
          refine ok_if_ne hE 302 rfl dX12_asks_189 ?_ ?_
          · exact ok_sub [0, 1, 2, 3, 4, 5, 6] rfl (hj302 M_18)
          · refine ok_iload hE 7 rfl dX12_asks_192 ?_
            refine ok_if_ne hE 302 rfl dX12_asks_194 ?_ ?_
            · exact ok_sub [0, 1, 2, 3, 4, 5, 6] rfl (hj302 M_18)
            · refine ok_iload hE 9 rfl dX12_asks_197 ?_
              refine ok_aload_n hE 0 rfl dX12_asks_199 ?_
              refine ok_getI hE fl_X12_41 shR_0 rfl dX12_asks_200 ?_
              refine ok_fun (fun j => ∀ (M_34 : Mm), Ok E 223 [(0, .ref (E.Y.ad 0)), (1, .int p1), (2, .int p2), (3, .int p3), (4, .int p4), (5, .int p5), (6, .int v3)] [] M_34 (j M_34) (KV E)) (fun M_34 => ?_) (fun j223 hj223 => ?_)
              · refine ok_aload_n hE 0 rfl dX12_asks_223 ?_
                refine ok_iconst hE (0 : Int32) ki_0 dX12_asks_224 ?_
                refine ok_iload hE 6 rfl dX12_asks_225 ?_
                refine ok_iadd hE dX12_asks_227 ?_
                refine ok_aload_n hE 0 rfl dX12_asks_228 ?_
                refine ok_bipush hE (18 : Int32) kb_18 dX12_asks_229 ?_
                refine ok_cvFp hE rmR_part [.int (18 : Int32)] [.int ((0 : Int32) + v3), .ref (E.Y.ad 0)] rfl ca_X12_352 shR_0 rfl (fun _ hx => mR_part hE.sys _ _ _ hx) ⟨rfl, rfl, rfl, rfl⟩ rfl rfl dX12_asks_231 (fun r36 => ?_)
                refine ok_aload_n hE 0 rfl dX12_asks_234 ?_
                refine ok_bipush hE (6 : Int32) kb_6 dX12_asks_235 ?_
                refine ok_iload hE 6 rfl dX12_asks_237 ?_
                refine ok_iadd hE dX12_asks_239 ?_
                refine ok_cvFp hE rmR_part [.int ((6 : Int32) + v3)] [.float r36, .int ((0 : Int32) + v3), .ref (E.Y.ad 0)] rfl ca_X12_352 shR_0 rfl (fun _ hx => mR_part hE.sys _ _ _ hx) ⟨rfl, rfl, rfl, rfl⟩ rfl rfl dX12_asks_240 (fun r37 => ?_)
                refine ok_fcmp hE dX12_asks_243 ?_
                refine ok_fun (fun j => ∀ (w_37 : UInt32), Ok E 265 [(0, .ref (E.Y.ad 0)), (1, .int p1), (2, .int p2), (3, .int p3), (4, .int p4), (5, .int p5), (6, .int v3)] [.float w_37, .int ((0 : Int32) + v3), .ref (E.Y.ad 0)] M_34 (j w_37) (KV E)) (fun w_37 => ?_) (fun j265 hj265 => ?_)
                · refine ok_cvV hE rmR_setsPart [.int ((0 : Int32) + v3), .float w_37] [] rfl ca_X12_327 shR_0 rfl (fun _ hx => mR_setsPart hE.sys _ _ _ _ hx) ⟨rfl, rfl, rfl, rfl⟩ rfl rfl dX12_asks_265 (fun M39 => ?_)
                  refine ok_aload_n hE 0 rfl dX12_asks_268 ?_
                  refine ok_bipush hE (6 : Int32) kb_6 dX12_asks_269 ?_
                  refine ok_iload hE 6 rfl dX12_asks_271 ?_
                  refine ok_iadd hE dX12_asks_273 ?_
                  refine ok_aload_n hE 0 rfl dX12_asks_274 ?_
                  refine ok_iconst hE (0 : Int32) ki_0 dX12_asks_275 ?_
                  refine ok_iload hE 6 rfl dX12_asks_276 ?_
                  refine ok_iadd hE dX12_asks_278 ?_
                  refine ok_cvFp hE rmR_part [.int ((0 : Int32) + v3)] [.int ((6 : Int32) + v3), .ref (E.Y.ad 0)] rfl ca_X12_352 shR_0 rfl (fun _ hx => mR_part hE.sys _ _ _ hx) ⟨rfl, rfl, rfl, rfl⟩ rfl rfl dX12_asks_279 (fun r40 => ?_)
                  refine ok_aload_n hE 0 rfl dX12_asks_282 ?_
                  refine ok_iload hE 6 rfl dX12_asks_283 ?_
                  refine ok_iconst hE (0 : Int32) ki_0 dX12_asks_285 ?_
                  refine ok_cvIp hE rmR_ofQueue [.int v3, .int (0 : Int32)] [.float r40, .int ((6 : Int32) + v3), .ref (E.Y.ad 0)] rfl ca_X12_340 shR_0 rfl (fun _ hx => mR_ofQueue hE.sys _ _ _ _ hx) ⟨rfl, rfl, rfl, rfl⟩ rfl rfl dX12_asks_286 (fun r41 => ?_)
                  refine ok_i2f hE dX12_asks_289 ?_
                  refine ok_aload_n hE 0 rfl dX12_asks_290 ?_
                  refine ok_iload hE 6 rfl dX12_asks_291 ?_
                  refine ok_cvIp hE rmR_weightOf [.int v3] [.float (FP.i2f r41), .float r40, .int ((6 : Int32) + v3), .ref (E.Y.ad 0)] rfl ca_X12_358 shR_0 rfl (fun _ hx => mR_weightOf hE.sys _ _ _ hx) ⟨rfl, rfl, rfl, rfl⟩ rfl rfl dX12_asks_293 (fun r42 => ?_)
                  refine ok_i2f hE dX12_asks_296 ?_
                  refine ok_fdiv hE dX12_asks_297 ?_
                  refine ok_fadd hE dX12_asks_298 ?_
                  refine ok_cvV hE rmR_setsPart [.int ((6 : Int32) + v3), .float (FP.fadd r40 (FP.fdiv (FP.i2f r41) (FP.i2f r42)))] [] rfl ca_X12_327 shR_0 rfl (fun _ hx => mR_setsPart hE.sys _ _ _ _ hx) ⟨rfl, rfl, rfl, rfl⟩ rfl rfl dX12_asks_299 (fun M43 => ?_)
                  exact ok_sub [0, 1, 2, 3, 4, 5, 6] rfl (hj302 M43)
                refine ok_if_le hE 256 rfl dX12_asks_244 ?_ ?_
                · refine ok_aload_n hE 0 rfl dX12_asks_256 ?_
                  refine ok_bipush hE (6 : Int32) kb_6 dX12_asks_257 ?_
                  refine ok_iload hE 6 rfl dX12_asks_259 ?_
                  refine ok_iadd hE dX12_asks_261 ?_
                  refine ok_cvFp hE rmR_part [.int ((6 : Int32) + v3)] [.int ((0 : Int32) + v3), .ref (E.Y.ad 0)] rfl ca_X12_352 shR_0 rfl (fun _ hx => mR_part hE.sys _ _ _ hx) ⟨rfl, rfl, rfl, rfl⟩ rfl rfl dX12_asks_262 (fun r44 => ?_)
                  exact ok_sub [0, 1, 2, 3, 4, 5, 6] rfl (hj265 r44)
                · refine ok_aload_n hE 0 rfl dX12_asks_247 ?_
                  refine ok_bipush hE (18 : Int32) kb_18 dX12_asks_248 ?_
                  refine ok_cvFp hE rmR_part [.int (18 : Int32)] [.int ((0 : Int32) + v3), .ref (E.Y.ad 0)] rfl ca_X12_352 shR_0 rfl (fun _ hx => mR_part hE.sys _ _ _ hx) ⟨rfl, rfl, rfl, rfl⟩ rfl rfl dX12_asks_250 (fun r45 => ?_)
                  refine ok_goto hE 265 rfl dX12_asks_253 ?_
                  exact ok_sub [0, 1, 2, 3, 4, 5, 6] rfl (hj265 r45)
              refine ok_icmp_lt hE 223 rfl dX12_asks_203 ?_ ?_
              · exact ok_sub [0, 1, 2, 3, 4, 5, 6] rfl (hj223 M_18)
              · refine ok_aload_n hE 0 rfl dX12_asks_206 ?_
                refine ok_iload hE 6 rfl dX12_asks_207 ?_
                refine ok_iconst hE (5 : Int32) ki_5 dX12_asks_209 ?_
                refine ok_aload_n hE 0 rfl dX12_asks_210 ?_
                refine ok_iconst hE (0 : Int32) ki_0 dX12_asks_211 ?_
                refine ok_cvIp hE rmR_its [.int (0 : Int32)] [.int (5 : Int32), .int v3, .ref (E.Y.ad 0)] rfl ca_X12_321 shR_0 rfl (fun _ hx => mR_its hE.sys _ _ _ hx) ⟨rfl, rfl, rfl, rfl⟩ rfl rfl dX12_asks_212 (fun r46 => ?_)
                refine ok_aload_n hE 0 rfl dX12_asks_215 ?_
                refine ok_getI hE fl_X12_38 shR_0 rfl dX12_asks_216 ?_
                refine ok_iadd hE dX12_asks_219 ?_
                refine ok_cvV hE rmR_setsQueue [.int v3, .int (5 : Int32), .int (r46 + (gI M_18 0 9))] [] rfl ca_X12_331 shR_0 rfl (fun _ hx => mR_setsQueue hE.sys _ _ _ _ _ hx) ⟨rfl, rfl, rfl, rfl⟩ rfl rfl dX12_asks_220 (fun M47 => ?_)
                exact ok_sub [0, 1, 2, 3, 4, 5, 6] rfl (hj223 M47)
        refine ok_if_ne hE 187 rfl dX12_asks_121 ?_ ?_
        · exact ok_sub [2, 3, 4, 5, 6, 7, 8, 9, 1, 0] rfl (hj187 M9)
        · refine ok_iload hE 9 rfl dX12_asks_124 ?_
          refine ok_fun (fun j => ∀ (_ : Unit), Ok E 137 [(0, .ref (E.Y.ad 0)), (1, .int p1), (2, .int p2), (3, .int p3), (4, .int p4), (5, .int p5), (6, .int v3), (7, .int v12), (8, .int v15), (9, .int v18)] [] M9 (j ()) (KV E)) (fun _ => ?_) (fun j137 hj137 => ?_)
          · refine ok_aload_n hE 0 rfl dX12_asks_137 ?_
            refine ok_getA hE fl_X12_57 shR_0 rfl dX12_asks_138 ?_
            refine ok_iload hE 6 rfl dX12_asks_141 ?_
            refine ok_iaload hE shR_3 dX12_asks_143 ?_
            refine ok_if_ne hE 187 rfl dX12_asks_144 ?_ ?_
            · exact ok_sub [0, 1, 2, 3, 4, 5, 6, 7, 8, 9] rfl (hj187 M9)
            · refine ok_aload_n hE 0 rfl dX12_asks_147 ?_
              refine ok_iload hE 6 rfl dX12_asks_148 ?_
              refine ok_iconst hE (4 : Int32) ki_4 dX12_asks_150 ?_
              refine ok_cvIp hE rmR_ofQueue [.int v3, .int (4 : Int32)] [] rfl ca_X12_340 shR_0 rfl (fun _ hx => mR_ofQueue hE.sys _ _ _ _ hx) ⟨rfl, rfl, rfl, rfl⟩ rfl rfl dX12_asks_151 (fun r48 => ?_)
              refine ok_if_eq hE 187 rfl dX12_asks_154 ?_ ?_
              · exact ok_sub [0, 1, 2, 3, 4, 5, 6, 7, 8, 9] rfl (hj187 M9)
              · refine ok_aload_n hE 0 rfl dX12_asks_157 ?_
                refine ok_bipush hE (12 : Int32) kb_12 dX12_asks_158 ?_
                refine ok_iload hE 6 rfl dX12_asks_160 ?_
                refine ok_iadd hE dX12_asks_162 ?_
                refine ok_aload_n hE 0 rfl dX12_asks_163 ?_
                refine ok_bipush hE (12 : Int32) kb_12 dX12_asks_164 ?_
                refine ok_iload hE 6 rfl dX12_asks_166 ?_
                refine ok_iadd hE dX12_asks_168 ?_
                refine ok_cvFp hE rmR_part [.int ((12 : Int32) + v3)] [.int ((12 : Int32) + v3), .ref (E.Y.ad 0)] rfl ca_X12_352 shR_0 rfl (fun _ hx => mR_part hE.sys _ _ _ hx) ⟨rfl, rfl, rfl, rfl⟩ rfl rfl dX12_asks_169 (fun r49 => ?_)
                refine ok_ldcwf hE ct_X12_356 dX12_asks_172 ?_
                refine ok_fmul hE dX12_asks_175 ?_
                refine ok_iload hE 9 rfl dX12_asks_176 ?_
                refine ok_i2f hE dX12_asks_178 ?_
                refine ok_ldcwf hE ct_X12_357 dX12_asks_179 ?_
                refine ok_fmul hE dX12_asks_182 ?_
                refine ok_fadd hE dX12_asks_183 ?_
                refine ok_cvV hE rmR_setsPart [.int ((12 : Int32) + v3), .float (FP.fadd (FP.fmul r49 (1063256064 : UInt32)) (FP.fmul (FP.i2f v18) (1040187392 : UInt32)))] [] rfl ca_X12_327 shR_0 rfl (fun _ hx => mR_setsPart hE.sys _ _ _ _ hx) ⟨rfl, rfl, rfl, rfl⟩ rfl rfl dX12_asks_184 (fun M50 => ?_)
                exact ok_sub [0, 1, 2, 3, 4, 5, 6, 7, 8, 9] rfl (hj187 M50)
          refine ok_if_eq hE 137 rfl dX12_asks_126 ?_ ?_
          · exact ok_sub [2, 3, 4, 5, 6, 7, 8, 9, 1, 0] rfl (hj137 ())
          · refine ok_aload_n hE 2 rfl dX12_asks_129 ?_
            refine ok_iconst hE (5 : Int32) ki_5 dX12_asks_130 ?_
            refine ok_cvIp hE rmR_its [.int (5 : Int32)] [] rfl ca_X12_321 shR_0 rfl (fun _ hx => mR_its hE.sys _ _ _ hx) ⟨rfl, rfl, rfl, rfl⟩ rfl rfl dX12_asks_131 (fun r51 => ?_)
            refine ok_if_gt hE 187 rfl dX12_asks_134 ?_ ?_
            · exact ok_sub [2, 3, 4, 5, 6, 7, 8, 9, 1, 0] rfl (hj187 M9)
            · exact ok_sub [2, 3, 4, 5, 6, 7, 8, 9, 1, 0] rfl (hj137 ())
      refine ok_if_le hE 101 rfl dX12_asks_94 ?_ ?_
      · refine ok_iconst hE (0 : Int32) ki_0 dX12_asks_101 ?_
        exact ok_sub [1, 2, 3, 4, 5, 6, 7, 0] rfl (hj102 (0 : Int32))
      · refine ok_iconst hE (1 : Int32) ki_1 dX12_asks_97 ?_
        refine ok_goto hE 102 rfl dX12_asks_98 ?_
        exact ok_sub [1, 2, 3, 4, 5, 6, 7, 0] rfl (hj102 (1 : Int32))
    refine ok_icmp_ne hE 85 rfl dX12_asks_78 ?_ ?_
    · refine ok_iconst hE (0 : Int32) ki_0 dX12_asks_85 ?_
      exact ok_sub [0, 1, 2, 3, 4, 5, 6] rfl (hj86 (0 : Int32))
    · refine ok_iconst hE (1 : Int32) ki_1 dX12_asks_81 ?_
      refine ok_goto hE 86 rfl dX12_asks_82 ?_
      exact ok_sub [0, 1, 2, 3, 4, 5, 6] rfl (hj86 (1 : Int32))
  refine ok_icmp_le hE 52 rfl dX12_asks_45 ?_ ?_
  · refine ok_iconst hE (0 : Int32) ki_0 dX12_asks_52 ?_
    exact ok_sub [1, 2, 3, 4, 5, 6, 0] rfl (hj53 (0 : Int32))
  · refine ok_iconst hE (1 : Int32) ki_1 dX12_asks_48 ?_
    refine ok_goto hE 53 rfl dX12_asks_49 ?_
    exact ok_sub [1, 2, 3, 4, 5, 6, 0] rfl (hj53 (1 : Int32))
theorem mR_asks {l : Launch} {Y : Sys} {t : Nat} (hY : SysOk Y t shR) (p1 : Int32) (p2 : Int32) (p3 : Int32) (p4 : Int32) (p5 : Int32)  (M : Mm) (r : Mm) (h : R_asks p1 p2 p3 p4 p5 M = some r) : Cm l Y t yX12_asks (WS yX12_asks cX12_asks 11 none) rmR_asks [.ref (Y.ad 0), .int p1, .int p2, .int p3, .int p4, .int p5] M (enV r) := by
  refine cm_of (own := RX12) hY rfl rfl (Nat.le_of_ble_eq_true rfl) (fun E hE e1 e2 e3 e4 => ?_)
  subst e1
  exact tR_asks E hE p1 p2 p3 p4 p5  M r h e4.symm
def R_asksByStep (p1 : Int32) (M : Mm) : Option Mm :=
 ald p1 6 (lett (fun (_ : Unit) =>
 bnd (R_of p1 (4 : Int32) M) fun r1 =>
 lett ((3 : Int32) * (((6 : Int32) * p1) + r1)) fun v2 =>
 ald (v2 + (1 : Int32)) 108 (lett (gI M 5 (ix (v2 + (1 : Int32)))) fun v3 =>
 ald v2 108 (lett (fun (w_3 : Int32) =>
 lett w_3 fun v5 =>
 ald (v2 + (2 : Int32)) 108 (bnd (R_asks p1 v5 v3 (0 : Int32) (gI M 5 (ix (v2 + (2 : Int32)))) M) fun M6 =>
 bnd (R_of p1 (4 : Int32) M6) fun r7 =>
 ald p1 6 (lett (fun (w_7 : Int32) =>
 bnd (R_sets p1 (4 : Int32) w_7 M6) fun M9 =>
 ald p1 6 (if (gI M9 3 (ix p1)) = (1 : Int32) then
 (ald (v2 + (2 : Int32)) 108 (bnd (R_sets p1 (1 : Int32) (gI M9 5 (ix (v2 + (2 : Int32)))) M9) fun M11 =>
 some M11))
 else
 (bnd (R_sets p1 (2 : Int32) (1 : Int32) M9) fun M10 =>
 some M10))) fun j139 =>
 if (r7 + (1 : Int32)) = (gI M6 4 (ix p1)) then
 (j139 (0 : Int32))
 else
 (bnd (R_of p1 (4 : Int32) M6) fun r12 =>
 j139 (r12 + (1 : Int32)))))) fun j88 =>
 if (gI M 5 (ix v2)) = (-1 : Int32) then
 (bnd (R_of p1 (3 : Int32) M) fun r13 =>
 if (r13 + v3) ≤ (gI M 0 2) then
 (bnd (R_of p1 (3 : Int32) M) fun r14 =>
 j88 r14)
 else
 (j88 (0 : Int32)))
 else
 (ald v2 108 (j88 (gI M 5 (ix v2))))))) fun j21 =>
 if (gI M 3 (ix p1)) = (1 : Int32) then
 (bnd (R_of p1 (5 : Int32) M) fun r15 =>
 if r15 < (4 : Int32) then
 (j21 ())
 else
 (some M))
 else
 (j21 ()))
abbrev rmR_asksByStep : Room := { frames := 4, cells := 0, slots := 0, locals := 99 }
set_option maxHeartbeats 4000000 in
set_option maxRecDepth 100000 in
theorem tR_asksByStep (E : Cx) (hE : CxOk E cX12_asksByStep RX12 shR none rmR_asksByStep 5) (p1 : Int32)  (M : Mm) : Ok E 0 [(0, .ref (E.Y.ad 0)), (1, .int p1)] [] M (R_asksByStep p1 M) (KV E) := by
  unfold R_asksByStep
  refine ok_aload_n hE 0 rfl dX12_asksByStep_0 ?_
  refine ok_getA hE fl_X12_57 shR_0 rfl dX12_asksByStep_1 ?_
  refine ok_iload_n hE 1 rfl dX12_asksByStep_4 ?_
  refine ok_iaload hE shR_3 dX12_asksByStep_5 ?_
  refine ok_iconst hE (1 : Int32) ki_1 dX12_asksByStep_6 ?_
  refine ok_fun (fun j => ∀ (_ : Unit), Ok E 21 [(0, .ref (E.Y.ad 0)), (1, .int p1)] [] M (j ()) (KV E)) (fun _ => ?_) (fun j21 hj21 => ?_)
  · refine ok_iconst hE (3 : Int32) ki_3 dX12_asksByStep_21 ?_
    refine ok_bipush hE (6 : Int32) kb_6 dX12_asksByStep_22 ?_
    refine ok_iload_n hE 1 rfl dX12_asksByStep_24 ?_
    refine ok_imul hE dX12_asksByStep_25 ?_
    refine ok_aload_n hE 0 rfl dX12_asksByStep_26 ?_
    refine ok_iload_n hE 1 rfl dX12_asksByStep_27 ?_
    refine ok_iconst hE (4 : Int32) ki_4 dX12_asksByStep_28 ?_
    refine ok_cvIp hE rmR_of [.int p1, .int (4 : Int32)] [.int ((6 : Int32) * p1), .int (3 : Int32)] rfl ca_X12_337 shR_0 rfl (fun _ hx => mR_of hE.sys _ _ _ _ hx) ⟨rfl, rfl, rfl, rfl⟩ rfl rfl dX12_asksByStep_29 (fun r1 => ?_)
    refine ok_iadd hE dX12_asksByStep_32 ?_
    refine ok_imul hE dX12_asksByStep_33 ?_
    refine ok_istore_n hE (fun v2 => [(2, .int v2), (0, .ref (E.Y.ad 0)), (1, .int p1)]) (fun _ => rfl) rfl dX12_asksByStep_34 (fun v2 => ?_)
    refine ok_aload_n hE 1 rfl dX12_asksByStep_35 ?_
    refine ok_getA hE fl_X12_63 shR_0 rfl dX12_asksByStep_36 ?_
    refine ok_iload_n hE 0 rfl dX12_asksByStep_39 ?_
    refine ok_iconst hE (1 : Int32) ki_1 dX12_asksByStep_40 ?_
    refine ok_iadd hE dX12_asksByStep_41 ?_
    refine ok_iaload hE shR_5 dX12_asksByStep_42 ?_
    refine ok_istore_n hE (fun v3 => [(3, .int v3), (2, .int v2), (0, .ref (E.Y.ad 0)), (1, .int p1)]) (fun _ => rfl) rfl dX12_asksByStep_43 (fun v3 => ?_)
    refine ok_aload_n hE 2 rfl dX12_asksByStep_44 ?_
    refine ok_getA hE fl_X12_63 shR_0 rfl dX12_asksByStep_45 ?_
    refine ok_iload_n hE 1 rfl dX12_asksByStep_48 ?_
    refine ok_iaload hE shR_5 dX12_asksByStep_49 ?_
    refine ok_iconst hE (-1 : Int32) ki_m1 dX12_asksByStep_50 ?_
    refine ok_fun (fun j => ∀ (w_3 : Int32), Ok E 88 [(0, .ref (E.Y.ad 0)), (1, .int p1), (2, .int v2), (3, .int v3)] [.int w_3] M (j w_3) (KV E)) (fun w_3 => ?_) (fun j88 hj88 => ?_)
    · refine ok_istore hE (fun v5 => [(4, .int v5), (0, .ref (E.Y.ad 0)), (1, .int p1), (2, .int v2), (3, .int v3)]) (fun _ => rfl) rfl dX12_asksByStep_88 (fun v5 => ?_)
      refine ok_aload_n hE 1 rfl dX12_asksByStep_90 ?_
      refine ok_iload_n hE 2 rfl dX12_asksByStep_91 ?_
      refine ok_iload hE 0 rfl dX12_asksByStep_92 ?_
      refine ok_iload_n hE 4 rfl dX12_asksByStep_94 ?_
      refine ok_iconst hE (0 : Int32) ki_0 dX12_asksByStep_95 ?_
      refine ok_aload_n hE 1 rfl dX12_asksByStep_96 ?_
      refine ok_getA hE fl_X12_63 shR_0 rfl dX12_asksByStep_97 ?_
      refine ok_iload_n hE 3 rfl dX12_asksByStep_100 ?_
      refine ok_iconst hE (2 : Int32) ki_2 dX12_asksByStep_101 ?_
      refine ok_iadd hE dX12_asksByStep_102 ?_
      refine ok_iaload hE shR_5 dX12_asksByStep_103 ?_
      refine ok_cvV hE rmR_asks [.int p1, .int v5, .int v3, .int (0 : Int32), .int (gI M 5 (ix (v2 + (2 : Int32))))] [] rfl ca_X12_361 shR_0 rfl (fun _ hx => mR_asks hE.sys _ _ _ _ _ _ _ hx) ⟨rfl, rfl, rfl, rfl⟩ rfl rfl dX12_asksByStep_104 (fun M6 => ?_)
      refine ok_aload_n hE 1 rfl dX12_asksByStep_107 ?_
      refine ok_iload_n hE 2 rfl dX12_asksByStep_108 ?_
      refine ok_iconst hE (4 : Int32) ki_4 dX12_asksByStep_109 ?_
      refine ok_aload_n hE 1 rfl dX12_asksByStep_110 ?_
      refine ok_iload_n hE 2 rfl dX12_asksByStep_111 ?_
      refine ok_iconst hE (4 : Int32) ki_4 dX12_asksByStep_112 ?_
      refine ok_cvIp hE rmR_of [.int p1, .int (4 : Int32)] [.int (4 : Int32), .int p1, .ref (E.Y.ad 0)] rfl ca_X12_337 shR_0 rfl (fun _ hx => mR_of hE.sys _ _ _ _ hx) ⟨rfl, rfl, rfl, rfl⟩ rfl rfl dX12_asksByStep_113 (fun r7 => ?_)
      refine ok_iconst hE (1 : Int32) ki_1 dX12_asksByStep_116 ?_
      refine ok_iadd hE dX12_asksByStep_117 ?_
      refine ok_aload_n hE 1 rfl dX12_asksByStep_118 ?_
      refine ok_getA hE fl_X12_60 shR_0 rfl dX12_asksByStep_119 ?_
      refine ok_iload_n hE 2 rfl dX12_asksByStep_122 ?_
      refine ok_iaload hE shR_4 dX12_asksByStep_123 ?_
      refine ok_fun (fun j => ∀ (w_7 : Int32), Ok E 139 [(0, .ref (E.Y.ad 0)), (1, .int p1), (2, .int v2)] [.int w_7, .int (4 : Int32), .int p1, .ref (E.Y.ad 0)] M6 (j w_7) (KV E)) (fun w_7 => ?_) (fun j139 hj139 => ?_)
      · refine ok_cvV hE rmR_sets [.int p1, .int (4 : Int32), .int w_7] [] rfl ca_X12_314 shR_0 rfl (fun _ hx => mR_sets hE.sys _ _ _ _ _ hx) ⟨rfl, rfl, rfl, rfl⟩ rfl rfl dX12_asksByStep_139 (fun M9 => ?_)
        refine ok_aload_n hE 0 rfl dX12_asksByStep_142 ?_
        refine ok_getA hE fl_X12_57 shR_0 rfl dX12_asksByStep_143 ?_
        refine ok_iload_n hE 1 rfl dX12_asksByStep_146 ?_
        refine ok_iaload hE shR_3 dX12_asksByStep_147 ?_
        refine ok_iconst hE (1 : Int32) ki_1 dX12_asksByStep_148 ?_
        refine ok_icmp_ne hE 169 rfl dX12_asksByStep_149 ?_ ?_
        · refine ok_aload_n hE 0 rfl dX12_asksByStep_169 ?_
          refine ok_iload_n hE 1 rfl dX12_asksByStep_170 ?_
          refine ok_iconst hE (2 : Int32) ki_2 dX12_asksByStep_171 ?_
          refine ok_iconst hE (1 : Int32) ki_1 dX12_asksByStep_172 ?_
          refine ok_cvV hE rmR_sets [.int p1, .int (2 : Int32), .int (1 : Int32)] [] rfl ca_X12_314 shR_0 rfl (fun _ hx => mR_sets hE.sys _ _ _ _ _ hx) ⟨rfl, rfl, rfl, rfl⟩ rfl rfl dX12_asksByStep_173 (fun M10 => ?_)
          exact ok_return hE dX12_asksByStep_176
        · refine ok_aload_n hE 0 rfl dX12_asksByStep_152 ?_
          refine ok_iload_n hE 1 rfl dX12_asksByStep_153 ?_
          refine ok_iconst hE (1 : Int32) ki_1 dX12_asksByStep_154 ?_
          refine ok_aload_n hE 0 rfl dX12_asksByStep_155 ?_
          refine ok_getA hE fl_X12_63 shR_0 rfl dX12_asksByStep_156 ?_
          refine ok_iload_n hE 2 rfl dX12_asksByStep_159 ?_
          refine ok_iconst hE (2 : Int32) ki_2 dX12_asksByStep_160 ?_
          refine ok_iadd hE dX12_asksByStep_161 ?_
          refine ok_iaload hE shR_5 dX12_asksByStep_162 ?_
          refine ok_cvV hE rmR_sets [.int p1, .int (1 : Int32), .int (gI M9 5 (ix (v2 + (2 : Int32))))] [] rfl ca_X12_314 shR_0 rfl (fun _ hx => mR_sets hE.sys _ _ _ _ _ hx) ⟨rfl, rfl, rfl, rfl⟩ rfl rfl dX12_asksByStep_163 (fun M11 => ?_)
          refine ok_goto hE 176 rfl dX12_asksByStep_166 ?_
          exact ok_return hE dX12_asksByStep_176
      refine ok_icmp_ne hE 131 rfl dX12_asksByStep_124 ?_ ?_
      · refine ok_aload_n hE 1 rfl dX12_asksByStep_131 ?_
        refine ok_iload_n hE 2 rfl dX12_asksByStep_132 ?_
        refine ok_iconst hE (4 : Int32) ki_4 dX12_asksByStep_133 ?_
        refine ok_cvIp hE rmR_of [.int p1, .int (4 : Int32)] [.int (4 : Int32), .int p1, .ref (E.Y.ad 0)] rfl ca_X12_337 shR_0 rfl (fun _ hx => mR_of hE.sys _ _ _ _ hx) ⟨rfl, rfl, rfl, rfl⟩ rfl rfl dX12_asksByStep_134 (fun r12 => ?_)
        refine ok_iconst hE (1 : Int32) ki_1 dX12_asksByStep_137 ?_
        refine ok_iadd hE dX12_asksByStep_138 ?_
        exact ok_sub [1, 2, 3] rfl (hj139 (r12 + (1 : Int32)))
      · refine ok_iconst hE (0 : Int32) ki_0 dX12_asksByStep_127 ?_
        refine ok_goto hE 139 rfl dX12_asksByStep_128 ?_
        exact ok_sub [1, 2, 3] rfl (hj139 (0 : Int32))
    refine ok_icmp_eq hE 63 rfl dX12_asksByStep_51 ?_ ?_
    · refine ok_aload_n hE 2 rfl dX12_asksByStep_63 ?_
      refine ok_iload_n hE 3 rfl dX12_asksByStep_64 ?_
      refine ok_iconst hE (3 : Int32) ki_3 dX12_asksByStep_65 ?_
      refine ok_cvIp hE rmR_of [.int p1, .int (3 : Int32)] [] rfl ca_X12_337 shR_0 rfl (fun _ hx => mR_of hE.sys _ _ _ _ hx) ⟨rfl, rfl, rfl, rfl⟩ rfl rfl dX12_asksByStep_66 (fun r13 => ?_)
      refine ok_iload_n hE 0 rfl dX12_asksByStep_69 ?_
      refine ok_iadd hE dX12_asksByStep_70 ?_
      refine ok_aload_n hE 2 rfl dX12_asksByStep_71 ?_
      refine ok_getI hE fl_X12_17 shR_0 rfl dX12_asksByStep_72 ?_
      refine ok_icmp_le hE 82 rfl dX12_asksByStep_75 ?_ ?_
      · refine ok_aload_n hE 2 rfl dX12_asksByStep_82 ?_
        refine ok_iload_n hE 3 rfl dX12_asksByStep_83 ?_
        refine ok_iconst hE (3 : Int32) ki_3 dX12_asksByStep_84 ?_
        refine ok_cvIp hE rmR_of [.int p1, .int (3 : Int32)] [] rfl ca_X12_337 shR_0 rfl (fun _ hx => mR_of hE.sys _ _ _ _ hx) ⟨rfl, rfl, rfl, rfl⟩ rfl rfl dX12_asksByStep_85 (fun r14 => ?_)
        exact ok_sub [2, 3, 1, 0] rfl (hj88 r14)
      · refine ok_iconst hE (0 : Int32) ki_0 dX12_asksByStep_78 ?_
        refine ok_goto hE 88 rfl dX12_asksByStep_79 ?_
        exact ok_sub [2, 3, 1, 0] rfl (hj88 (0 : Int32))
    · refine ok_aload_n hE 2 rfl dX12_asksByStep_54 ?_
      refine ok_getA hE fl_X12_63 shR_0 rfl dX12_asksByStep_55 ?_
      refine ok_iload_n hE 1 rfl dX12_asksByStep_58 ?_
      refine ok_iaload hE shR_5 dX12_asksByStep_59 ?_
      refine ok_goto hE 88 rfl dX12_asksByStep_60 ?_
      exact ok_sub [2, 3, 1, 0] rfl (hj88 (gI M 5 (ix v2)))
  refine ok_icmp_ne hE 21 rfl dX12_asksByStep_7 ?_ ?_
  · exact ok_sub [0, 1] rfl (hj21 ())
  · refine ok_aload_n hE 0 rfl dX12_asksByStep_10 ?_
    refine ok_iload_n hE 1 rfl dX12_asksByStep_11 ?_
    refine ok_iconst hE (5 : Int32) ki_5 dX12_asksByStep_12 ?_
    refine ok_cvIp hE rmR_of [.int p1, .int (5 : Int32)] [] rfl ca_X12_337 shR_0 rfl (fun _ hx => mR_of hE.sys _ _ _ _ hx) ⟨rfl, rfl, rfl, rfl⟩ rfl rfl dX12_asksByStep_13 (fun r15 => ?_)
    refine ok_iconst hE (4 : Int32) ki_4 dX12_asksByStep_16 ?_
    refine ok_icmp_lt hE 21 rfl dX12_asksByStep_17 ?_ ?_
    · exact ok_sub [0, 1] rfl (hj21 ())
    · exact ok_return hE dX12_asksByStep_20
theorem mR_asksByStep {l : Launch} {Y : Sys} {t : Nat} (hY : SysOk Y t shR) (p1 : Int32)  (M : Mm) (r : Mm) (h : R_asksByStep p1 M = some r) : Cm l Y t yX12_asksByStep (WS yX12_asksByStep cX12_asksByStep 5 none) rmR_asksByStep [.ref (Y.ad 0), .int p1] M (enV r) := by
  refine cm_of (own := RX12) hY rfl rfl (Nat.le_of_ble_eq_true rfl) (fun E hE e1 e2 e3 e4 => ?_)
  subst e1
  exact tR_asksByStep E hE p1  M r h e4.symm
def R_wayTo (p1 : Int32) (M : Mm) : Option Int32 :=
 bnd (R_ofRequest p1 (1 : Int32) M) fun r1 =>
 lett r1 fun v2 =>
 bnd (R_its (1 : Int32) M) fun r3 =>
 if v2 < r3 then
 (some (v2 + (100000 : Int32)))
 else
 (some v2)
abbrev rmR_wayTo : Room := { frames := 2, cells := 0, slots := 0, locals := 43 }
set_option maxHeartbeats 4000000 in
set_option maxRecDepth 100000 in
theorem tR_wayTo (E : Cx) (hE : CxOk E cX12_wayTo RX12 shR (some .int) rmR_wayTo 3) (p1 : Int32)  (M : Mm) : Ok E 0 [(0, .ref (E.Y.ad 0)), (1, .int p1)] [] M (R_wayTo p1 M) (KIp E M) := by
  unfold R_wayTo
  refine ok_aload_n hE 0 rfl dX12_wayTo_0 ?_
  refine ok_iload_n hE 1 rfl dX12_wayTo_1 ?_
  refine ok_iconst hE (1 : Int32) ki_1 dX12_wayTo_2 ?_
  refine ok_cvIp hE rmR_ofRequest [.int p1, .int (1 : Int32)] [] rfl ca_X12_334 shR_0 rfl (fun _ hx => mR_ofRequest hE.sys _ _ _ _ hx) ⟨rfl, rfl, rfl, rfl⟩ rfl rfl dX12_wayTo_3 (fun r1 => ?_)
  refine ok_istore_n hE (fun v2 => [(2, .int v2), (0, .ref (E.Y.ad 0)), (1, .int p1)]) (fun _ => rfl) rfl dX12_wayTo_6 (fun v2 => ?_)
  refine ok_iload_n hE 0 rfl dX12_wayTo_7 ?_
  refine ok_aload_n hE 1 rfl dX12_wayTo_8 ?_
  refine ok_iconst hE (1 : Int32) ki_1 dX12_wayTo_9 ?_
  refine ok_cvIp hE rmR_its [.int (1 : Int32)] [.int v2] rfl ca_X12_321 shR_0 rfl (fun _ hx => mR_its hE.sys _ _ _ hx) ⟨rfl, rfl, rfl, rfl⟩ rfl rfl dX12_wayTo_10 (fun r3 => ?_)
  refine ok_icmp_lt hE 20 rfl dX12_wayTo_13 ?_ ?_
  · refine ok_iload_n hE 0 rfl dX12_wayTo_20 ?_
    refine ok_ldcw hE ct_X12_368 dX12_wayTo_21 ?_
    refine ok_iadd hE dX12_wayTo_24 ?_
    exact ok_ireturnP hE dX12_wayTo_25
  · refine ok_iload_n hE 0 rfl dX12_wayTo_16 ?_
    refine ok_goto hE 25 rfl dX12_wayTo_17 ?_
    exact ok_ireturnP hE dX12_wayTo_25
theorem mR_wayTo {l : Launch} {Y : Sys} {t : Nat} (hY : SysOk Y t shR) (p1 : Int32)  (M : Mm) (r : Int32) (h : R_wayTo p1 M = some r) : Cm l Y t yX12_wayTo (WS yX12_wayTo cX12_wayTo 3 (some .int)) rmR_wayTo [.ref (Y.ad 0), .int p1] M ((some (.int r), M)) := by
  refine cm_of (own := RX12) hY rfl rfl (Nat.le_of_ble_eq_true rfl) (fun E hE e1 e2 e3 e4 => ?_)
  subst e1
  exact tR_wayTo E hE p1  M r h e4.symm
def R_nextOf (p1 : Int32) (M : Mm) : Option Int32 :=
 lett (-1 : Int32) fun v1 =>
 lett (0 : Int32) fun v2 =>
 loopR (fun (rec4 : (Int32 × Int32) → Option Int32) (x3 : Int32 × Int32) =>
 bnd (R_its (10 : Int32) M) fun r4 =>
 if r4 ≤ x3.2 then
 (some x3.1)
 else
 (bnd (R_ofRequest x3.2 (0 : Int32) M) fun r5 =>
 lett (fun (u_5 : Int32) =>
 lett (x3.2 + (1 : Int32)) fun v7 =>
 rec4 (u_5, v7)) fun j47 =>
 if r5 = p1 then
 (lett (fun (_ : Unit) =>
 lett x3.2 fun v8 =>
 j47 v8) fun j45 =>
 if x3.1 = (-1 : Int32) then
 (j45 ())
 else
 (bnd (R_wayTo x3.2 M) fun r9 =>
 bnd (R_wayTo x3.1 M) fun r10 =>
 if r10 ≤ r9 then
 (j47 x3.1)
 else
 (j45 ())))
 else
 (j47 x3.1))) 1000000 (v1, v2)
abbrev rmR_nextOf : Room := { frames := 3, cells := 0, slots := 0, locals := 65 }
set_option maxHeartbeats 4000000 in
set_option maxRecDepth 100000 in
theorem tR_nextOf (E : Cx) (hE : CxOk E cX12_nextOf RX12 shR (some .int) rmR_nextOf 4) (p1 : Int32)  (M : Mm) : Ok E 0 [(0, .ref (E.Y.ad 0)), (1, .int p1)] [] M (R_nextOf p1 M) (KIp E M) := by
  unfold R_nextOf
  refine ok_iconst hE (-1 : Int32) ki_m1 dX12_nextOf_0 ?_
  refine ok_istore_n hE (fun v1 => [(2, .int v1), (0, .ref (E.Y.ad 0)), (1, .int p1)]) (fun _ => rfl) rfl dX12_nextOf_1 (fun v1 => ?_)
  refine ok_iconst hE (0 : Int32) ki_0 dX12_nextOf_2 ?_
  refine ok_istore_n hE (fun v2 => [(3, .int v2), (2, .int v1), (0, .ref (E.Y.ad 0)), (1, .int p1)]) (fun _ => rfl) rfl dX12_nextOf_3 (fun v2 => ?_)
  refine ok_sub [2, 3, 1, 0] rfl (ok_loop (σ := Int32 × Int32) 4 (fun x3 => [(0, .ref (E.Y.ad 0)), (1, .int p1), (2, .int x3.1), (3, .int x3.2)]) (fun x3 => M) (fun rec4 hrec4 x3 => ?_) 1000000 (v1, v2))
  refine ok_iload_n hE 3 rfl dX12_nextOf_4 ?_
  refine ok_aload_n hE 0 rfl dX12_nextOf_5 ?_
  refine ok_bipush hE (10 : Int32) kb_10 dX12_nextOf_6 ?_
  refine ok_cvIp hE rmR_its [.int (10 : Int32)] [.int x3.2] rfl ca_X12_321 shR_0 rfl (fun _ hx => mR_its hE.sys _ _ _ hx) ⟨rfl, rfl, rfl, rfl⟩ rfl rfl dX12_nextOf_8 (fun r4 => ?_)
  refine ok_icmp_ge hE 53 rfl dX12_nextOf_11 ?_ ?_
  · refine ok_iload_n hE 2 rfl dX12_nextOf_53 ?_
    exact ok_ireturnP hE dX12_nextOf_54
  · refine ok_aload_n hE 0 rfl dX12_nextOf_14 ?_
    refine ok_iload_n hE 3 rfl dX12_nextOf_15 ?_
    refine ok_iconst hE (0 : Int32) ki_0 dX12_nextOf_16 ?_
    refine ok_cvIp hE rmR_ofRequest [.int x3.2, .int (0 : Int32)] [] rfl ca_X12_334 shR_0 rfl (fun _ hx => mR_ofRequest hE.sys _ _ _ _ hx) ⟨rfl, rfl, rfl, rfl⟩ rfl rfl dX12_nextOf_17 (fun r5 => ?_)
    refine ok_iload_n hE 1 rfl dX12_nextOf_20 ?_
    refine ok_fun (fun j => ∀ (u_5 : Int32), Ok E 47 [(0, .ref (E.Y.ad 0)), (1, .int p1), (2, .int u_5), (3, .int x3.2)] [] M (j u_5) (KIp E M)) (fun u_5 => ?_) (fun j47 hj47 => ?_)
    · refine ok_iinc hE 3 (x3.2 + (1 : Int32)) (by rw [ko_1]) (fun v7 => [(3, .int v7), (0, .ref (E.Y.ad 0)), (1, .int p1), (2, .int u_5)]) rfl (fun _ => rfl) rfl dX12_nextOf_47 (fun v7 => ?_)
      refine ok_goto hE 4 rfl dX12_nextOf_50 ?_
      exact ok_sub [1, 2, 3, 0] rfl (hrec4 (u_5, v7))
    refine ok_icmp_eq hE 27 rfl dX12_nextOf_21 ?_ ?_
    · refine ok_iload_n hE 2 rfl dX12_nextOf_27 ?_
      refine ok_iconst hE (-1 : Int32) ki_m1 dX12_nextOf_28 ?_
      refine ok_fun (fun j => ∀ (_ : Unit), Ok E 45 [(0, .ref (E.Y.ad 0)), (1, .int p1), (3, .int x3.2)] [] M (j ()) (KIp E M)) (fun _ => ?_) (fun j45 hj45 => ?_)
      · refine ok_iload_n hE 2 rfl dX12_nextOf_45 ?_
        refine ok_istore_n hE (fun v8 => [(2, .int v8), (0, .ref (E.Y.ad 0)), (1, .int p1), (3, .int x3.2)]) (fun _ => rfl) rfl dX12_nextOf_46 (fun v8 => ?_)
        exact ok_sub [1, 2, 0, 3] rfl (hj47 v8)
      refine ok_icmp_eq hE 45 rfl dX12_nextOf_29 ?_ ?_
      · exact ok_sub [0, 1, 3] rfl (hj45 ())
      · refine ok_aload_n hE 0 rfl dX12_nextOf_32 ?_
        refine ok_iload_n hE 3 rfl dX12_nextOf_33 ?_
        refine ok_cvIp hE rmR_wayTo [.int x3.2] [] rfl ca_X12_365 shR_0 rfl (fun _ hx => mR_wayTo hE.sys _ _ _ hx) ⟨rfl, rfl, rfl, rfl⟩ rfl rfl dX12_nextOf_34 (fun r9 => ?_)
        refine ok_aload_n hE 0 rfl dX12_nextOf_37 ?_
        refine ok_iload_n hE 2 rfl dX12_nextOf_38 ?_
        refine ok_cvIp hE rmR_wayTo [.int x3.1] [.int r9] rfl ca_X12_365 shR_0 rfl (fun _ hx => mR_wayTo hE.sys _ _ _ hx) ⟨rfl, rfl, rfl, rfl⟩ rfl rfl dX12_nextOf_39 (fun r10 => ?_)
        refine ok_icmp_ge hE 47 rfl dX12_nextOf_42 ?_ ?_
        · exact ok_sub [0, 1, 2, 3] rfl (hj47 x3.1)
        · exact ok_sub [0, 1, 3] rfl (hj45 ())
    · refine ok_goto hE 47 rfl dX12_nextOf_24 ?_
      exact ok_sub [0, 1, 2, 3] rfl (hj47 x3.1)
theorem mR_nextOf {l : Launch} {Y : Sys} {t : Nat} (hY : SysOk Y t shR) (p1 : Int32)  (M : Mm) (r : Int32) (h : R_nextOf p1 M = some r) : Cm l Y t yX12_nextOf (WS yX12_nextOf cX12_nextOf 4 (some .int)) rmR_nextOf [.ref (Y.ad 0), .int p1] M ((some (.int r), M)) := by
  refine cm_of (own := RX12) hY rfl rfl (Nat.le_of_ble_eq_true rfl) (fun E hE e1 e2 e3 e4 => ?_)
  subst e1
  exact tR_nextOf E hE p1  M r h e4.symm
def R_up (p1 : Int32) (p2 : Int32) (M : Mm) : Option Int32 :=
 grd (¬ p2 = 0) (some (((p1 + p2) - (1 : Int32)) / p2))
abbrev rmR_up : Room := { frames := 0, cells := 0, slots := 0, locals := 0 }
set_option maxHeartbeats 4000000 in
set_option maxRecDepth 100000 in
theorem tR_up (E : Cx) (hE : CxOk E cX12_up RX12 shR (some .int) rmR_up 2) (p1 : Int32) (p2 : Int32)  (M : Mm) : Ok E 0 [(0, .int p1), (1, .int p2)] [] M (R_up p1 p2 M) (KIp E M) := by
  unfold R_up
  refine ok_iload_n hE 0 rfl dX12_up_0 ?_
  refine ok_iload_n hE 1 rfl dX12_up_1 ?_
  refine ok_iadd hE dX12_up_2 ?_
  refine ok_iconst hE (1 : Int32) ki_1 dX12_up_3 ?_
  refine ok_isub hE dX12_up_4 ?_
  refine ok_iload_n hE 1 rfl dX12_up_5 ?_
  refine ok_idiv hE dX12_up_6 ?_
  exact ok_ireturnP hE dX12_up_7
theorem mR_up {l : Launch} {Y : Sys} {t : Nat} (hY : SysOk Y t shR) (p1 : Int32) (p2 : Int32)  (M : Mm) (r : Int32) (h : R_up p1 p2 M = some r) : Cm l Y t yX12_up (WS yX12_up cX12_up 2 (some .int)) rmR_up [.int p1, .int p2] M ((some (.int r), M)) := by
  refine cm_of (own := RX12) hY rfl rfl (Nat.le_of_ble_eq_true rfl) (fun E hE e1 e2 e3 e4 => ?_)
  subst e1
  exact tR_up E hE p1 p2  M r h e4.symm
