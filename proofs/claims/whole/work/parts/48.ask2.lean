/-! PURE: a process asks, in the reference and in the class -/
theorem gw_n (M : Mm) (a k : Nat) (v : Int32) {a' k' : Nat} (h : a' ≠ a ∨ k' ≠ k) : gI (sI M a k v) a' k' = gI M a' k' := by
  rw [gI_sI, if_neg (by omega)]
theorem gw_s (M : Mm) (a k : Nat) (v : Int32) : gI (sI M a k v) a k = v := by
  rw [gI_sI, if_pos ⟨rfl, rfl⟩]
def dI (j : Nat) : Bool := decide (j < 9) || decide (j = 10) || (decide (18 ≤ j) && decide (j < 102) && decide ((j - 18) % 14 < 9)) || (decide (102 ≤ j) && decide (j < 150) && decide ((j - 102) % 8 ≠ 1) && decide ((j - 102) % 8 < 6))
theorem locI_dI {n c k j : Nat} (h : locI n c k = some j) : dI j = true := by
  have hc := locI_lt h
  have h := locI_6 h
  have h2 : ((List.range 20).all fun c => (List.range 20).all fun k => match locI 6 c k with | some j => dI j | none => true) = true := by decide +kernel
  have h3 := List.all_eq_true.mp (List.all_eq_true.mp h2 c (List.mem_range.mpr hc.1)) k (List.mem_range.mpr hc.2)
  rw [h] at h3
  exact h3
theorem mkS_ext {n : Nat} {E : Mm} {D D' : Nat → Int32} {F : Nat → UInt32} (h : ∀ j, dI j = true → D j = D' j) : mkS n E D F = mkS n E D' F := by
  refine Prod.ext (funext fun a => funext fun b => ?_) rfl
  show selO (locI n a b) D (E.1 a b) = selO (locI n a b) D' (E.1 a b)
  cases hl : locI n a b with
  | none => rfl
  | some j => exact h j (locI_dI hl)
theorem dI_150 {j : Nat} (h : dI j = true) : j < 150 := by
  unfold dI at h
  simp only [Bool.or_eq_true, Bool.and_eq_true, decide_eq_true_eq] at h
  omega
/-- a number that the state has elsewhere -/
theorem mkS_up {n : Nat} {E : Mm} {D : Nat → Int32} {F : Nat → UInt32} {j : Nat} (h : dI j = false) (v : Int32) : mkS n E (updD D j v) F = mkS n E D F := mkS_ext (fun k hk => by
  rw [updD_n]
  rintro rfl
  rw [h] at hk
  cases hk)
theorem dI_hi {j : Nat} (h : 150 ≤ j) : dI j = false := by
  cases hd : dI j with
  | false => rfl
  | true => exact absurd (dI_150 hd) (by omega)
section ASK3
variable {m0 : Mm} {B : Nat} {n s t u c : Nat} {D : Nat → Int32} {F : Nat → UInt32}
theorem isN_isQ {x : Int32} (hn : n ≤ 6) (h : isN n x) : isQ x := by
  obtain ⟨a, ha, hx⟩ := h
  exact ⟨a, by omega, hx⟩
theorem isQ_ac (hn : n ≤ 6) {x : Int32} (h : x = -1 ∨ isN n x) : x = -1 ∨ isQ x := h.imp id (isN_isQ hn)
theorem iQ_J (hQ : iQ n t D) {q a b : Nat} (hab : a + b < 10064) : iQ n t (aJ m0 D q (nI a) (nI b)) := by
  intro k hk
  obtain ⟨h1, h2, h3, h4⟩ := hQ k hk
  unfold aJ
  by_cases e : k = q
  · subst e
    refine ⟨?_, ?_, ?_, ?_⟩
    · rw [updD_n _ _ (by omega), updD_n _ _ (by omega)]; exact h1
    · rw [updD_s, nI_add]; exact ⟨a + b, hab, rfl⟩
    · rw [updD_n _ _ (by omega), updD_s]
      obtain ⟨j, hj, e⟩ := pk_andE (2 * D (102 + 8 * k + 3) + (if aAway (nI a) (D (102 + 8 * k + 2)) ≤ gI m0 0 7 then 0 else 1)) (m := 255) 8 (by decide)
      exact ⟨j, by omega, e⟩
    · rw [updD_n _ _ (by omega), updD_n _ _ (by omega)]; exact h4
  · rw [updD_n _ _ (by omega), updD_n _ _ (by omega), updD_n _ _ (by omega), updD_n _ _ (by omega), updD_n _ _ (by omega), updD_n _ _ (by omega), updD_n _ _ (by omega), updD_n _ _ (by omega)]
    exact ⟨h1, h2, h3, h4⟩
theorem R_asks_m (hB : BB B) (hK : PK m0 n s) (hF : FB F) (hG : iG n t c D) (hP : iP m0 n D) (hQ : iQ n t D) {p q a b : Nat} (hp : p < n) {hand think : Int32} (hab : a + b < 10064) (hc : c < 54) (hq : q < n) (hq1 : (aRt m0 (updD D (18 + 14 * p + 3) (nI a + nI b)) p (nI a)).1 = nI q) : R_asks (nI p) (nI a) (nI b) hand think (mkR m0 B D F) = some (mkR m0 B (aAskD m0 D c p q (nI a) (nI b) hand think) (aAskF m0 D F c p q (nI a) (nI b))) := by
  have hn := hK.n6
  have hp6 : p < 6 := by omega
  have hq6 : q < 6 := by omega
  have ht := hG.2.2.2.2.2.2.2.2
  have hO : ∀ j, j ≠ 18 + 14 * p + 6 → j ≠ 18 + 14 * p + 7 → j ≠ 18 + 14 * p + 3 → aD2 m0 D p (nI a) (nI b) j = D j := fun j h1 h2 h3 => aD2_o h1 h2 h3
  unfold R_asks aAskD aAskF
  rw [rs_3 hB hp6, bnd_s, R_goesTo_m hB hp6 (by rw [updD_n _ _ (by omega)]; exact isN_isQ hn (hP p hp).2.2.2.2.1) (by rw [updD_n _ _ (by omega)]; exact isQ_ac hn hG.2.2.1), bnd_s]
  try dsimp only
  rw [hq1, show (aRt m0 (updD D (18 + 14 * p + 3) (nI a + nI b)) p (nI a)).2 = aD2 m0 D p (nI a) (nI b) from rfl]
  generalize aD2 m0 D p (nI a) (nI b) = D2 at hO ⊢
  have hP2 : iP m0 n D → ∀ k, k < n → D2 (18 + 14 * k + 0) = D (18 + 14 * k + 0) := fun _ k hk => hO _ (by omega) (by omega) (by omega)
  have hQ2 : iQ n t D2 := hQ.cg (fun k hk => ⟨hO _ (by omega) (by omega) (by omega), hO _ (by omega) (by omega) (by omega), hO _ (by omega) (by omega) (by omega), hO _ (by omega) (by omega) (by omega)⟩)
  have hW : ∀ E : Nat → Int32, (∀ k, k < n → E (18 + 14 * k + 0) = D (18 + 14 * k + 0)) → iQ n t E → ∀ x : UInt32, x.toNat ≤ 1358954496 → (FP.fdiv (FP.i2f (E (102 + 8 * q + 0))) (FP.i2f (aWt m0 E q))) &&& 0x7fffffff ≤ 0x7f800000 ∧ (FP.fadd x (FP.fdiv (FP.i2f (E (102 + 8 * q + 0))) (FP.i2f (aWt m0 E q)))) &&& 0x7fffffff ≤ 0x7f800000 := by
    intro E hE hQE x hx
    obtain ⟨v, v1, v2, v3⟩ := (hQE q hq).1
    obtain ⟨x1, x2, x3, x4⟩ := (hP q hq).1
    obtain ⟨y1, y2, y3, y4⟩ := hK.raise
    have hw : ∃ w, aWt m0 E q = nI w ∧ 1 ≤ w ∧ w ≤ 2000 := by
      unfold aWt
      rw [hE q hq, x4, y4]
      split
      · exact ⟨x1, by rw [Int32.mul_one], x2, by omega⟩
      · exact ⟨x1 * y1, pk_mul x1 y1, Nat.mul_le_mul x2 y2, Nat.le_trans (Nat.mul_le_mul (Nat.le_of_lt_succ x3) (Nat.le_of_lt_succ y3)) (by decide)⟩
    obtain ⟨w, w1, w2, w3⟩ := hw
    rw [v3, w1]
    exact ⟨f_ok (fl_q (by omega) (by omega) (by omega)) (by decide), f_ok (fl_add hx (by omega) (by omega) (by omega)) (by decide)⟩
  rw [lett_e, rq_3 hB hq6, bnd_s, rq_2 hB hq6, bnd_s, R_away_m, bnd_s, lett_if, mkR_0 _ _ _ _ (by decide), rqs_3 hB hq6, bnd_s, rqs_2 hB hq6, bnd_s, aJ_e]
  have hQ3 : iQ n t (aJ m0 D2 q (nI a) (nI b)) := iQ_J hQ2 hab
  have hJ : ∀ j, j ≠ 102 + 8 * q + 3 → j ≠ 102 + 8 * q + 2 → aJ m0 D2 q (nI a) (nI b) j = D2 j := fun j h1 h2 => aJ_o h1 h2
  generalize aJ m0 D2 q (nI a) (nI b) = D3 at hQ3 hJ ⊢
  have h0 : D3 0 = nI t := by rw [hJ _ (by omega) (by omega), hO _ (by omega) (by omega) (by omega)]; exact hG.1
  have h10 : D3 10 = nI c := by rw [hJ _ (by omega) (by omega), hO _ (by omega) (by omega) (by omega)]; exact hG.2.2.2.2.2.2.1
  have hW3 : ∀ k, k < n → D3 (18 + 14 * k + 0) = D (18 + 14 * k + 0) := fun k hk => by rw [hJ _ (by omega) (by omega), hP2 hP k hk]
  obtain ⟨g1, g2, g3, -⟩ := aMn_ok hF hQ3 h0 ht hq hn
  have hF1 := aMn_fb (m0 := m0) hF hQ3 h0 ht hq hn (aLy D3 (nI q) c)
  have tail : ∀ (D4 : Nat → Int32) (F2 : Nat → UInt32), D4 10 = nI c → (bnd (R_of (nI p) 5 (mkR m0 B D4 F2)) fun r21 => bnd (R_sets (nI p) 5 (r21 + 1) (mkR m0 B D4 F2)) fun M22 => bnd (R_its 10 M22) fun r23 => lett (150 + 7 * r23) fun v24 => bnd (R_puts (v24 + 0) (nI q) M22) fun M25 => bnd (R_puts (v24 + 1) (nI a) M25) fun M26 => bnd (R_puts (v24 + 2) (nI b) M26) fun M27 => bnd (R_puts (v24 + 3) (nI p) M27) fun M28 => bnd (R_its 0 M28) fun r29 => bnd (R_puts (v24 + 4) r29 M28) fun M30 => bnd (R_puts (v24 + 5) hand M30) fun M31 => bnd (R_puts (v24 + 6) think M31) fun M32 => bnd (R_its 10 M32) fun r33 => bnd (R_puts 10 (r33 + 1) M32) fun M34 => some M34) = some (mkR m0 B (aRow D4 c p q (nI a) (nI b) hand think) F2) := by
    intro D4 F2 h4
    simp (disch := omega) only [ro_5 hB, rs_5 hB, R_its_k10 hB, R_its_k0 hB, R_puts_k10 hB, bnd_s, lett_e, updD_n, h4, nM_7, nB_150, nA_0, nA_1, nA_2, nA_3, nA_4, nA_5, nA_6, rpn hB]
    rfl
  rw [R_its_k2 hB, bnd_s, lett_if, lett_e, R_lying_m hB h10 (by omega), bnd_s, lett_if, lett_e, R_its_k0 hB, bnd_s, rq_4 hB hq6, bnd_s, lett_e]
  by_cases ha : D3 2 = nI q
  · rw [if_pos ha]
    have eD : aD4 m0 D3 q c = D3 := if_neg (fun h => h.2 ha)
    have eF : aF2 m0 D3 F q c = aMn m0 D3 F q (aLy D3 (nI q) c) := if_neg (fun h => h.2 ha)
    rw [eD, eF]
    by_cases hl : aLy D3 (nI q) c ≤ 0
    · rw [if_pos hl]
      refine (lett_j (mkR m0 B D3 (aMn m0 D3 F q (aLy D3 (nI q) c))) (fun j => ?_)).trans ?_
      · rw [if_pos rfl, lett_e, if_neg (by decide), R_its_k5 hB, bnd_s, ald_n hq6 (by omega), mkR_3, ix_nI (by omega)]
        try dsimp only
        rw [bnd_s]
        unfold aMn aMnV
        by_cases h5 : 0 < D3 5
        · rw [if_pos h5, if_neg (fun h => h.2.1 ⟨ha, h5⟩)]
        · rw [if_neg h5]
          by_cases hs : gI m0 3 q = 0
          · rw [if_pos hs]
            by_cases h4 : D3 (102 + 8 * q + 4) = 0
            · rw [if_pos h4, if_neg (fun h => h.2.2.2 h4)]
            · rw [if_neg h4, rf_12 hB hq6, bnd_s, grd_t g1, grd_t g2, grd_t g3, rfs_12 hB hq6, bnd_s, if_pos ⟨hl, fun h => h5 h.2, hs, h4⟩]
          · rw [if_neg hs, if_neg (fun h => hs h.2.2.1)]
      · rw [lett_e, if_pos rfl, if_neg (by decide)]
        exact tail D3 _ h10
    · rw [if_neg hl]
      have e1 : aMn m0 D3 F q (aLy D3 (nI q) c) = F := if_neg (fun h => hl h.1)
      rw [e1, lett_e, if_neg (by decide)]
      try dsimp only
      rw [lett_e, if_neg (by decide)]
      exact tail D3 _ h10
  · rw [if_neg ha]
    by_cases hl : aLy D3 (nI q) c ≤ 0
    · have eD : aD4 m0 D3 q c = aWk1 m0 D3 q := if_pos ⟨hl, ha⟩
      have eF : aF2 m0 D3 F q c = aWkF m0 (aWk1 m0 D3 q) (aMn m0 D3 F q (aLy D3 (nI q) c)) q := if_pos ⟨hl, ha⟩
      rw [eD, eF, if_pos hl]
      refine (lett_j (mkR m0 B D3 (aMn m0 D3 F q (aLy D3 (nI q) c))) (fun j => ?_)).trans ?_
      · rw [if_pos rfl, lett_e, if_pos rfl, ald_n hq6 (by omega), mkR_3, ix_nI (by omega)]
        try dsimp only
        rw [bnd_s]
        unfold aMn aMnV
        by_cases hs : gI m0 3 q = 0
        · rw [if_pos hs]
          by_cases h4 : D3 (102 + 8 * q + 4) = 0
          · rw [if_pos h4, if_neg (fun h => h.2.2.2 h4)]
          · rw [if_neg h4, rf_12 hB hq6, bnd_s, grd_t g1, grd_t g2, grd_t g3, rfs_12 hB hq6, bnd_s, if_pos ⟨hl, fun h => ha h.1, hs, h4⟩]
        · rw [if_neg hs, if_neg (fun h => hs h.2.2.1)]
      · generalize aMn m0 D3 F q (aLy D3 (nI q) c) = F1 at hF1 ⊢
        refine (lett_j (mkR m0 B (aWk1 m0 D3 q) (aWkF m0 (aWk1 m0 D3 q) F1 q)) (fun j => ?_)).trans ?_
        · rw [if_pos rfl, if_pos rfl]
          refine (lett_j (mkR m0 B (aWk1 m0 D3 q) F1) (fun j => ?_)).trans ?_
          · unfold aWk1
            rw [mkR_0 _ _ _ _ (by decide), mkR_0 _ _ _ _ (by decide), R_its_k0 hB, bnd_s, rqs_5 hB hq6, bnd_s]
            by_cases h : D3 0 - D3 (102 + 8 * q + 4) < gI m0 0 10
            · rw [if_pos h, if_pos h]
            · rw [if_neg h, if_neg h]
          · try dsimp only
            rw [R_part_k18 hB, bnd_s, rf_6 hB hq6, bnd_s]
            refine (lett_j (aWkS F1 q) (fun j => ?_)).trans ?_
            · unfold aWkS
              rw [bnd_s, bnd_s]
              by_cases h : Op.cmpValue (FP.fcmp (F1 18) (F1 (6 + q))) .l ≤ 0
              · rw [if_pos h, if_pos h]
              · rw [if_neg h, if_neg h]
            · have hk := hW (aWk1 m0 D3 q) (fun k hk => by rw [aWk1_o (by omega)]; exact hW3 k hk) (hQ3.cg (fun k hk => ⟨aWk1_o (by omega), aWk1_o (by omega), aWk1_o (by omega), aWk1_o (by omega)⟩)) (aWkS F1 q) (aWkS_le hF1 hq6)
              rw [rfs_0 hB hq6, bnd_s, rf_0 hB hq6, bnd_s, updD_s, rq_0 hB hq6, bnd_s, R_weightOf_m hB q rfl hq6, bnd_s, grd_t hk.1, grd_t hk.2, rfs_6 hB hq6, bnd_s]
              rfl
        · exact tail _ _ (by rw [aWk1_o (by omega)]; exact h10)
    · have eD : aD4 m0 D3 q c = D3 := if_neg (fun h => hl h.1)
      have eF : aF2 m0 D3 F q c = aMn m0 D3 F q (aLy D3 (nI q) c) := if_neg (fun h => hl h.1)
      rw [eD, eF, if_neg hl]
      have e1 : aMn m0 D3 F q (aLy D3 (nI q) c) = F := if_neg (fun h => hl h.1)
      rw [e1, lett_e, if_neg (by decide)]
      try dsimp only
      rw [lett_e, if_neg (by decide)]
      exact tail D3 _ h10
end ASK3
