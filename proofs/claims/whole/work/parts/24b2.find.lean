/-! Word.stands and Word.find: their contracts -/
abbrev rmP_WStands : Room := { frames := 4, cells := 0, slots := 0, locals := 85 }
def lvW (E : Cx) (k j : Nat) (p2 p3 : Int32) : List (Nat × Value) := [(4, .int (nI j)), (0, .ref (E.Y.ad (1000 + k))), (1, .ref (E.Y.ad 5)), (2, .int p2), (3, .int p3)]
theorem stands_loop {E : Cx} (hE : CxOk E cX10_stands RX10 shP (some .boolean) rmP_WStands 5) {k : Nat} (hk : k < 20) {x v : Nat} (hX : va_OF RX10 "text" "Ljava/lang/String;" (.ref x) (E.Y.ad (1000 + k)) E.Y.A E.s E.s.heap) (hK : KS E.Y.A x v (wTxt k).length (fun j => (wTxt k).getD j 0) E.s E.s.heap) (p2 : Int32) (M : Mm) (r : Int32) (e4 : E.r0 = (some (.int r), M)) : ∀ (tl : List Int32) (j : Nat), j + tl.length = (wTxt k).length → (∀ i, i < tl.length → tl.getD i 0 = (wTxt k).getD (j + i) 0) → P_WStandsL tl (p2 + nI j) M = some r → Wx E 16 (lvW E k j p2 (nI (wTxt k).length)) [] M
  | [], j, hl, hc, h => by
    have hn := fw_len k hk
    have hj : j = (wTxt k).length := hl
    refine wx_iload hE 0 rfl dX10_stands_16 ?_
    refine wx_iload_n hE 4 rfl dX10_stands_18 ?_
    refine wx_icmp_ge hE 50 rfl dX10_stands_19 (fun _ => ?_) (fun hx => absurd (nI_le (Nat.le_of_eq hj.symm) (by omega)) hx)
    refine wx_iconst hE 1 rfl dX10_stands_50 ?_
    have e : (1 : Int32) = r := Option.some.inj h
    subst e
    exact ok_zreturn hE (Or.inr rfl) dX10_stands_51 (1, M) rfl e4.symm
  | c :: tl, j, hl, hc, h => by
    have hn := fw_len k hk
    have hl : j + (tl.length + 1) = (wTxt k).length := hl
    have hc0 : c = (wTxt k).getD j 0 := hc 0 (Nat.succ_pos _)
    have h : bnd (P_TByteAt (p2 + nI j) M) (fun b => if b = c then P_WStandsL tl (p2 + nI j + 1) M else some 0) = some r := h
    refine wx_iload hE 0 rfl dX10_stands_16 ?_
    refine wx_iload_n hE 4 rfl dX10_stands_18 ?_
    refine wx_icmp_ge hE 50 rfl dX10_stands_19 (fun hx => absurd ((nI_leI (by omega) (by omega)).mp hx) (by omega)) (fun _ => ?_)
    refine wx_aload_n hE 2 rfl dX10_stands_22 ?_
    refine wx_iload_n hE 3 rfl dX10_stands_23 ?_
    refine wx_iload hE 0 rfl dX10_stands_24 ?_
    refine wx_iadd hE dX10_stands_26 ?_
    refine ok_callV (ρ := Int32) (K := fun q => q = r) (f := fun b => if b = c then P_WStandsL tl (p2 + nI j + 1) M else some 0) hE (fun b => (some (.int b), M)) (As := [.int (p2 + nI j)]) (rest := []) rfl cw_byt shP_5 rfl (fun b hb => mP_TByteAt hE.sys _ _ _ hb) ⟨rfl, rfl, rfl, rfl⟩ rfl rfl dX10_stands_27 (fun b => ?_) r h rfl
    intro r' hr' hq
    subst hq
    refine wx_aload_n hE 1 rfl dX10_stands_30 ?_
    refine wx_getf hE hX fw_text dX10_stands_31 ?_
    refine wx_iload hE 0 rfl dX10_stands_34 ?_
    refine wx_callK (val := some (.int ((wTxt k).getD j 0 &&& 255))) (As := [.int (nI j)]) (rest := [.int b]) hE hK cw_chr (mj_charAt (by omega) (by omega)) rfl ⟨rfl, rfl, rfl, rfl⟩ rfl rfl dX10_stands_36 ?_
    rw [fw_chr k hk j (by omega), ← hc0]
    refine wx_icmp_eq hE 44 rfl dX10_stands_39 (fun hb => ?_) (fun hb => ?_)
    · rw [if_pos hb, Int32.add_assoc, ← nI_succ] at hr'
      refine wx_iinc hE 0 (nI (j + 1)) (nI_succ j).symm (lvW E k (j + 1) p2 (nI (wTxt k).length)) rfl rfl rfl dX10_stands_44 ?_
      refine wx_goto hE 16 rfl dX10_stands_47 ?_
      refine stands_loop hE hk hX hK p2 M r' e4 tl (j + 1) (by omega) (fun i hi => ?_) hr'
      have := hc (i + 1) (Nat.succ_lt_succ hi)
      rw [show j + (i + 1) = j + 1 + i by omega] at this
      exact this
    · rw [if_neg hb] at hr'
      refine wx_iconst hE 0 rfl dX10_stands_42 ?_
      have e : (0 : Int32) = r' := Option.some.inj hr'
      subst e
      exact ok_zreturn hE (Or.inl rfl) dX10_stands_43 (0, M) rfl e4.symm
theorem mP_WStands {l : Launch} {Y : Sys} {t : Nat} (hY : SysOk Y t shP) {k : Nat} (hk : k < 20) (p2 p3 : Int32) (M : Mm) (r : Int32) (h : P_WStands k p2 p3 M = some r) : Cm l Y t yX10_stands (WS yX10_stands cX10_stands 5 (some .boolean)) rmP_WStands [.ref (Y.ad (1000 + k)), .ref (Y.ad 5), .int p2, .int p3] M (some (.int r), M) := by
  refine cm_of (own := RX10) hY rfl rfl (Nat.le_of_ble_eq_true rfl) (fun E hE e1 e2 e3 e4 => ?_)
  subst e1
  have hn := fw_len k hk
  obtain ⟨x, v, hX, hK⟩ := hE.2.2.2.2.1.str hk
  refine wx_aload_n hE 0 rfl dX10_stands_0 ?_
  refine wx_getf hE hX fw_text dX10_stands_1 ?_
  refine wx_callK (val := some (.int (nI (wTxt k).length))) (As := []) (rest := []) hE hK cw_len (mj_length (by omega)) rfl ⟨rfl, rfl, rfl, rfl⟩ rfl rfl dX10_stands_4 ?_
  refine wx_iload_n hE 3 rfl dX10_stands_7 ?_
  unfold P_WStands at h
  refine wx_icmp_eq hE 13 rfl dX10_stands_8 (fun hb => ?_) (fun hb => ?_)
  · rw [if_pos hb] at h
    subst hb
    refine wx_iconst hE 0 rfl dX10_stands_13 ?_
    refine wx_istore hE (lvW E k 0 p2 (nI (wTxt k).length)) rfl rfl dX10_stands_14 ?_
    refine stands_loop hE hk hX hK p2 M r e4 (wTxt k) 0 (Nat.zero_add _) (fun i _ => by rw [Nat.zero_add]) ?_
    rw [nI_0, Int32.add_zero]
    exact h
  · rw [if_neg hb] at h
    refine wx_iconst hE 0 rfl dX10_stands_11 ?_
    have e : (0 : Int32) = r := Option.some.inj h
    subst e
    exact ok_zreturn hE (Or.inl rfl) dX10_stands_12 (0, M) rfl e4.symm
def lvF (E : Cx) (k : Nat) (p2 p3 : Int32) : List (Nat × Value) := [(3, .int (nI k)), (0, .ref (E.Y.ad 5)), (1, .int p2), (2, .int p3)]
theorem find_loop {E : Cx} (hE : CxOk E cX10_find RX10 shP (some (.object "DiskBudgets$Word")) rmP_WFind 4) {t : Nat} (hZ : va_Z RX10 "ALL" "[LDiskBudgets$Word;" (.ref t) E.Y.A E.s E.s.heap) (hT : va_T (.object RX10) t 20 (fun k => .ref (E.Y.ad (1000 + k))) E.Y.A E.s E.s.heap) (p2 p3 : Int32) (M : Mm) (r : Option Nat) (e4 : E.r0 = (some (va_rf (r.map E.Y.ad)), M)) : ∀ (d k : Nat), k + d = 20 → P_WFindL p2 p3 M ((List.range 20).drop k) = some r → Wx E 2 (lvF E k p2 p3) [] M
  | 0, k, hd, h => by
    have e : k = 20 := hd
    subst e
    refine wx_iload_n hE 0 rfl dX10_find_2 ?_
    refine wx_gets hE hZ fw_ALL dX10_find_3 ?_
    refine wx_tlen hE hT dX10_find_6 ?_
    refine wx_icmp_ge hE 36 rfl dX10_find_7 (fun _ => ?_) (fun hx => absurd (by decide) hx)
    refine wx_null hE dX10_find_36 ?_
    have e : (none : Option Nat) = r := Option.some.inj h
    subst e
    exact ok_areturnq (x := none) hE dX10_find_37 (none, M) rfl e4.symm
  | d + 1, k, hd, h => by
    have hk : k < 20 := by omega
    rw [List.drop_eq_getElem_cons (by simpa using hk), List.getElem_range] at h
    have h : bnd (P_WStands k p2 p3 M) (fun r0 => if r0 = 0 then P_WFindL p2 p3 M ((List.range 20).drop (k + 1)) else some (some (1000 + k))) = some r := h
    refine wx_iload_n hE 0 rfl dX10_find_2 ?_
    refine wx_gets hE hZ fw_ALL dX10_find_3 ?_
    refine wx_tlen hE hT dX10_find_6 ?_
    refine wx_icmp_ge hE 36 rfl dX10_find_7 (fun hx => absurd ((nI_leI (by omega) (by omega)).mp hx) (by omega)) (fun _ => ?_)
    refine wx_gets hE hZ fw_ALL dX10_find_10 ?_
    refine wx_iload_n hE 0 rfl dX10_find_13 ?_
    refine wx_tq hE hT (vp_in_nI hk (by decide)) (w := .ref (E.Y.ad (1000 + k))) (by rw [nI_clamp (by omega)]) dX10_find_14 ?_
    refine wx_aload_n hE 1 rfl dX10_find_15 ?_
    refine wx_iload_n hE 2 rfl dX10_find_16 ?_
    refine wx_iload_n hE 3 rfl dX10_find_17 ?_
    cases hs : P_WStands k p2 p3 M with
    | none => rw [hs] at h; cases h
    | some r0 =>
      rw [hs] at h
      have h : (if r0 = 0 then P_WFindL p2 p3 M ((List.range 20).drop (k + 1)) else some (some (1000 + k))) = some r := h
      refine wx_callW (r := (some (.int r0), M)) (As := [.ref (E.Y.ad 5), .int p2, .int p3]) (rest := []) hE hk cw_std (mP_WStands hE.sys hk p2 p3 M r0 hs) rfl ⟨rfl, rfl, rfl, rfl⟩ rfl rfl dX10_find_18 ?_
      refine wx_if_eq hE 30 rfl dX10_find_21 (fun h0 => ?_) (fun h0 => ?_)
      · rw [if_pos h0] at h
        refine wx_iinc hE 0 (nI (k + 1)) (nI_succ k).symm (lvF E (k + 1) p2 p3) rfl rfl rfl dX10_find_30 ?_
        refine wx_goto hE 2 rfl dX10_find_33 ?_
        exact find_loop hE hZ hT p2 p3 M r e4 d (k + 1) (by omega) h
      · rw [if_neg h0] at h
        refine wx_gets hE hZ fw_ALL dX10_find_24 ?_
        refine wx_iload_n hE 0 rfl dX10_find_27 ?_
        refine wx_tq hE hT (vp_in_nI hk (by decide)) (w := .ref (E.Y.ad (1000 + k))) (by rw [nI_clamp (by omega)]) dX10_find_28 ?_
        have e : some (1000 + k) = r := Option.some.inj h
        subst e
        exact ok_areturnq (x := some (1000 + k)) hE dX10_find_29 (some (1000 + k), M) rfl e4.symm
theorem mP_WFind {l : Launch} {Y : Sys} {t : Nat} (hY : SysOk Y t shP) (p2 p3 : Int32) (M : Mm) (r : Option Nat) (h : P_WFind p2 p3 M = some r) : Cm l Y t yX10_find (WS yX10_find cX10_find 4 (some (.object "DiskBudgets$Word"))) rmP_WFind [.ref (Y.ad 5), .int p2, .int p3] M (some (va_rf (r.map Y.ad)), M) := by
  refine cm_of (own := RX10) hY rfl rfl (Nat.le_of_ble_eq_true rfl) (fun E hE e1 e2 e3 e4 => ?_)
  subst e1
  obtain ⟨a, hZ, hT⟩ := hE.2.2.2.2.1.all
  refine wx_iconst hE 0 rfl dX10_find_0 ?_
  refine wx_istore_n hE (lvF E 0 p2 p3) rfl rfl dX10_find_1 ?_
  exact find_loop hE hZ hT p2 p3 M r e4 20 0 rfl h
