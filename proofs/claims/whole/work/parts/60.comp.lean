/-! PURE: a request is done, in the class; what that keeps -/
def eC1 (E : Mm) (p : Nat) (many lat : Int32) : Mm := sI (sI (sI (sI E (8 + 2 * p) 9 (gI E (8 + 2 * p) 9 + 1)) (8 + 2 * p) 10 (gI E (8 + 2 * p) 10 + many)) (8 + 2 * p) 11 (gI E (8 + 2 * p) 11 + lat)) (8 + 2 * p) 12 (mmaxI (gI E (8 + 2 * p) 12) lat)
def eC2 (E : Mm) (p : Nat) (many lat : Int32) : Mm := if lat ≤ gI E 0 19 then eC1 E p many lat else sI (eC1 E p many lat) (8 + 2 * p) 13 (gI E (8 + 2 * p) 13 + 1)
def eCt (E : Mm) (p : Nat) (many lat : Int32) : Mm := sI (eC2 E p many lat) 0 18 (mmaxI (gI E 0 18) lat)
def eDn (E : Mm) (p : Nat) (many lat : Int32) : Mm := eCt (sI E 0 13 (gI E 0 13 + many)) p many lat
def dY (D : Nat → Int32) (a p : Nat) : Nat → Int32 := updD (updD (updD D 1 (D 12 + D 13)) (102 + 8 * a + 4) (D 0)) (18 + 14 * p + 5) (D (18 + 14 * p + 5) - 1)
theorem dI_n1 {a : Nat} (ha : a < 6) : dI (102 + 8 * a + 1) = false := by
  cases hd : dI (102 + 8 * a + 1) with
  | false => rfl
  | true =>
    unfold dI at hd
    simp only [Bool.or_eq_true, Bool.and_eq_true, decide_eq_true_eq] at hd
    omega
theorem dI_ct {p k : Nat} (hp : p < 6) (hk : 9 ≤ k) (hk2 : k ≤ 13) : dI (18 + 14 * p + k) = false := by
  cases hd : dI (18 + 14 * p + k) with
  | false => rfl
  | true =>
    unfold dI at hd
    simp only [Bool.or_eq_true, Bool.and_eq_true, decide_eq_true_eq] at hd
    omega
section COMP
variable {m0 : Mm} {n s t u c a p : Nat} {D : Nat → Int32} {F : Nat → UInt32} {E : Mm}
theorem eDn_o {x k : Nat} {many lat : Int32} (h1 : x ≠ 0 ∨ (k ≠ 13 ∧ k ≠ 18)) (h2 : x ≠ 8 + 2 * p ∨ k < 9 ∨ 13 < k) : gI (eDn E p many lat) x k = gI E x k := by
  unfold eDn eCt eC2 eC1
  split <;> simp (disch := omega) only [gw_n]
theorem mkS_dB (ha : a < 6) (hp : p < 6) (E : Mm) (F : Nat → UInt32) : mkS n E (dB D a p) F = mkS n E (dY D a p) F := by
  refine mkS_ext (fun j hj => ?_)
  have n1 : j ≠ 102 + 8 * a + 1 := by rintro rfl; rw [dI_n1 ha] at hj; cases hj
  have n2 : ∀ k, 9 ≤ k → k ≤ 12 → j ≠ 18 + 14 * p + k := by
    rintro k h1 h2 rfl
    rw [dI_ct hp h1 (by omega)] at hj
    cases hj
  unfold dB dY
  rw [updD_n _ _ (n2 12 (by omega) (by omega)), updD_n _ _ (n2 11 (by omega) (by omega)), updD_n _ _ (n2 10 (by omega) (by omega)), updD_n _ _ (n2 9 (by omega) (by omega))]
  by_cases e1 : j = 18 + 14 * p + 5
  · rw [e1, updD_s, updD_s]
  · rw [updD_n _ _ e1, updD_n _ _ e1]
    by_cases e2 : j = 102 + 8 * a + 4
    · rw [e2, updD_s, updD_s]
    · rw [updD_n _ _ e2, updD_n _ _ e2, updD_n _ _ n1]
theorem S_sum_m (hK : PK m0 n s) (hL : PL m0 n E) (hY : xY n c E D) (hc1 : c ≤ 54) (h2 : D 2 = nI a) (ha : a < n) : S_weightsTogether (mkS n E D F) = some (aSm m0 D c a n) := by
  have hn := hK.n6
  unfold S_weightsTogether
  rw [lett_e, lett_e]
  refine loopR_seq (fun i => (aSm m0 D c a i, nI i)) n (fun i hi rec => ?_) (fun rec => ?_) 1000000 (by omega)
  · try dsimp only
    rw [s20, hL.1.many, hK.n1, if_neg (nI_ge hi (by omega)), S_weightOf_m hL.1 (by omega), s0_11, h2, aSm_s]
    simp only [lett_e, bnd_s, nA_1]
    rw [ald_n (by omega) (by omega), ix_nI (by omega), sQ_8 _ _ _ (by omega), hY i hi]
    by_cases e : i = a
    · rw [if_pos (by rw [e]), if_pos (Or.inl e)]
    · rw [if_neg (by rw [nI_eq (by omega) (by omega)]; exact e)]
      by_cases e0 : cnt D (nI i) c = 0
      · rw [if_pos ((cnt_0 D (nI i) hc1).1.mpr e0), if_neg (fun h => h.elim e (fun h => h e0)), Int32.add_zero]
      · rw [if_neg (fun h => e0 ((cnt_0 D (nI i) hc1).1.mp h)), if_pos (Or.inr e0)]
  · try dsimp only
    rw [s20, hL.1.many, hK.n1, if_pos (nI_le (Nat.le_refl _) (by omega))]
theorem S_complete_m (hK : PK m0 n s) (hL : PL m0 n E) (hP : iP m0 n D) (hQ : iQ n t D) (hF : FB F) (h : dH n s t D a p) (hc1 : c ≤ 54) (hY : xY n c E D) (hX : xRow E 5 0 (fun k => D (11 + k))) : S_complete (mkS n E D F) = some (mkS n (eDn E p (D 13) (D 0 - D 15)) (dU m0 D F c a p) (dF m0 D F c a n)) := by
  have hn := hK.n6
  obtain ⟨g1, g2, -⟩ := done_fl (c := c) hK hP hF h
  obtain ⟨h2, han, h14, hpn, ⟨-, -, -, -, r5, r6⟩, h0⟩ := h
  have ha6 : a < 6 := by omega
  have hp6 : p < 6 := by omega
  obtain ⟨x0, x1, x2, x3, x4⟩ := hX
  dsimp only at x0 x1 x2 x3 x4 r5 r6
  obtain ⟨w, w1, w2, w3⟩ := aSm_n (c := c) hK hP han
  obtain ⟨jx, jx1, jx2⟩ := (hQ a han).2.2.1
  unfold S_complete
  rw [s0_11, h2, if_pos (nI_pos' (by omega)), ald_n ha6 (by omega), ix_nI (by omega), al_1_6, ixl_1, lett_e, al_0_6, ixl_0, s5, s5, x0, x1, s0w_7, lett_e, s0_13, s0w_13, lett_e]
  have hD1 : ∀ j, j ≠ 1 → updD D 1 (D 12 + D 13) j = D j := fun j hj => updD_n _ _ hj
  have hs1 : aSm m0 (updD D 1 (D (11 + 1) + D (11 + 2))) c a n = aSm m0 D c a n := aSm_cg (fun r hr => updD_n _ _ (by omega)) (fun o ho => by unfold aWt; rw [updD_n _ _ (by omega), updD_n _ _ (by omega), updD_n _ _ (by omega)])
  rw [S_sum_m hK (hL.w _ (by omega)) (c := c) (a := a) (fun q hq => by rw [gw_n _ _ _ _ (by omega), aLy_up (by omega)]; exact hY q hq) hc1 (by rw [updD_n _ _ (by omega)]; exact h2) han, bnd_s, lett_e, hs1]
  refine (lett_j (mkS n (sI E 0 13 (gI E 0 13 + D 13)) (updD D 1 (D 12 + D 13)) (dF m0 D F c a n)) (fun j => ?_)).trans ?_
  · rw [if_neg (by rw [w1]; exact nI_nle (by omega) (by omega)), sF_8, grd_t g1, grd_t g2, sFw_8, lett_e]
    rfl
  · have eF : dF m0 D F c a n (12 + a) = F (12 + a) := by unfold dF; rw [updD_n _ _ (by omega)]
    generalize dF m0 D F c a n = F1 at eF ⊢
    rw [s0_10, sQw_6 _ _ _ ⟨han, hn⟩, lett_e, hD1 0 (by omega)]
    unfold S_countDone S_PCount
    rw [al_2_6, ixl_2, s5, gw_n _ _ _ _ (by omega), x2, show D (11 + 3) = D 14 from rfl, h14, lett_e, al_3_6, ixl_3, s5, s0_10, gw_n _ _ _ _ (by omega), x3, show D (11 + 4) = D 15 from rfl, updD_n _ _ (show 0 ≠ 102 + 8 * a + 4 by omega), hD1 0 (by omega), lett_e, ald_n hp6 (by omega), ix_nI (by omega), s0_19, gw_n _ _ _ _ (by omega), sP_6 _ _ _ ⟨hpn, hn⟩, sPw_6 _ _ _ ⟨hpn, hn⟩, lett_e, sP_9 _ _ _ ⟨hpn, hn⟩, sPw_9 _ _ _ ⟨hpn, hn⟩, lett_e, sP_10 _ _ _ ⟨hpn, hn⟩, sPw_10 _ _ _ ⟨hpn, hn⟩, lett_e, sP_11 _ _ _ ⟨hpn, hn⟩, sPw_11 _ _ _ ⟨hpn, hn⟩, lett_e, sP_12 _ _ _ ⟨hpn, hn⟩, sPw_12 _ _ _ ⟨hpn, hn⟩, lett_e]
    rw [updD_n _ _ (show 18 + 14 * p + 5 ≠ 102 + 8 * a + 4 by omega), hD1 _ (show 18 + 14 * p + 5 ≠ 1 by omega), show updD (updD (updD D 1 (D 12 + D 13)) (102 + 8 * a + 4) (D 0)) (18 + 14 * p + 5) (D (18 + 14 * p + 5) - 1) = dY D a p from rfl]
    have hE1 : sI (sI (sI (sI (sI E 0 13 (gI E 0 13 + D 13)) (8 + 2 * p) 9 (gI (sI E 0 13 (gI E 0 13 + D 13)) (8 + 2 * p) 9 + 1)) (8 + 2 * p) 10 (gI (sI (sI E 0 13 (gI E 0 13 + D 13)) (8 + 2 * p) 9 (gI (sI E 0 13 (gI E 0 13 + D 13)) (8 + 2 * p) 9 + 1)) (8 + 2 * p) 10 + D 13)) (8 + 2 * p) 11 (gI (sI (sI (sI E 0 13 (gI E 0 13 + D 13)) (8 + 2 * p) 9 (gI (sI E 0 13 (gI E 0 13 + D 13)) (8 + 2 * p) 9 + 1)) (8 + 2 * p) 10 (gI (sI (sI E 0 13 (gI E 0 13 + D 13)) (8 + 2 * p) 9 (gI (sI E 0 13 (gI E 0 13 + D 13)) (8 + 2 * p) 9 + 1)) (8 + 2 * p) 10 + D 13)) (8 + 2 * p) 11 + (D 0 - D 15))) (8 + 2 * p) 12 (mmaxI (gI (sI (sI (sI (sI E 0 13 (gI E 0 13 + D 13)) (8 + 2 * p) 9 (gI (sI E 0 13 (gI E 0 13 + D 13)) (8 + 2 * p) 9 + 1)) (8 + 2 * p) 10 (gI (sI (sI E 0 13 (gI E 0 13 + D 13)) (8 + 2 * p) 9 (gI (sI E 0 13 (gI E 0 13 + D 13)) (8 + 2 * p) 9 + 1)) (8 + 2 * p) 10 + D 13)) (8 + 2 * p) 11 (gI (sI (sI (sI E 0 13 (gI E 0 13 + D 13)) (8 + 2 * p) 9 (gI (sI E 0 13 (gI E 0 13 + D 13)) (8 + 2 * p) 9 + 1)) (8 + 2 * p) 10 (gI (sI (sI E 0 13 (gI E 0 13 + D 13)) (8 + 2 * p) 9 (gI (sI E 0 13 (gI E 0 13 + D 13)) (8 + 2 * p) 9 + 1)) (8 + 2 * p) 10 + D 13)) (8 + 2 * p) 11 + (D 0 - D 15))) (8 + 2 * p) 12) (D 0 - D 15)) = eC1 (sI E 0 13 (gI E 0 13 + D 13)) p (D 13) (D 0 - D 15) := by
      unfold eC1
      simp (disch := omega) only [gw_n]
    rw [show D (11 + 2) = D 13 from rfl, hE1]
    have hE2 : (if D 0 - D 15 ≤ gI E 0 19 then some (mkS n (eC1 (sI E 0 13 (gI E 0 13 + D 13)) p (D 13) (D 0 - D 15)) (dY D a p) F1) else lett (sI (mkS n (eC1 (sI E 0 13 (gI E 0 13 + D 13)) p (D 13) (D 0 - D 15)) (dY D a p) F1) (8 + 2 * p) 13 (gI (mkS n (eC1 (sI E 0 13 (gI E 0 13 + D 13)) p (D 13) (D 0 - D 15)) (dY D a p) F1) (8 + 2 * p) 13 + 1)) fun M6 => some M6) = some (mkS n (eC2 (sI E 0 13 (gI E 0 13 + D 13)) p (D 13) (D 0 - D 15)) (dY D a p) F1) := by
      have e13 : gI (eC1 (sI E 0 13 (gI E 0 13 + D 13)) p (D 13) (D 0 - D 15)) (8 + 2 * p) 13 = gI (sI E 0 13 (gI E 0 13 + D 13)) (8 + 2 * p) 13 := by
        unfold eC1
        simp (disch := omega) only [gw_n]
      unfold eC2
      rw [sP_13 _ _ _ ⟨hpn, hn⟩, sPw_13 _ _ _ ⟨hpn, hn⟩, lett_e, e13, gw_n _ _ _ _ (show 0 ≠ 0 ∨ 19 ≠ 13 by omega)]
      split <;> rfl
    rw [hE2, bnd_s, s0_18, s0w_18]
    have e18 : gI (eC2 (sI E 0 13 (gI E 0 13 + D 13)) p (D 13) (D 0 - D 15)) 0 18 = gI (sI E 0 13 (gI E 0 13 + D 13)) 0 18 := by
      unfold eC2 eC1
      split <;> simp (disch := omega) only [gw_n]
    rw [e18, show sI (eC2 (sI E 0 13 (gI E 0 13 + D 13)) p (D 13) (D 0 - D 15)) 0 18 (mmaxI (gI (sI E 0 13 (gI E 0 13 + D 13)) 0 18) (D 0 - D 15)) = eDn E p (D 13) (D 0 - D 15) from rfl, lett_e, al_4_6, ixl_4, s5, eDn_o (by omega) (by omega), x4, show D (11 + 5) = D 16 from rfl, show D (11 + 6) = D 17 from rfl]
    have hth : tk (D 16) (D 17) = -1 ↔ ¬ D 16 = 0 := by
      unfold tk
      by_cases q : D 16 = 0
      · rw [if_pos q]
        obtain ⟨th, t1, t2⟩ := r6
        have t2 : D 17 = nI th := t2
        exact ⟨fun e => absurd (t2 ▸ e) (nI_neg1 (by omega)), fun e => absurd q e⟩
      · rw [if_neg q]
        exact ⟨fun _ => q, fun _ => rfl⟩
    have hW : (if tk (D 16) (D 17) = -1 then some (mkS n (eDn E p (D 13) (D 0 - D 15)) (dY D a p) F1) else ald (nI p) 6 (if gI (mkS n (eDn E p (D 13) (D 0 - D 15)) (dY D a p) F1) 22 p = 0 then lett (sI (mkS n (eDn E p (D 13) (D 0 - D 15)) (dY D a p) F1) (8 + 2 * p) 3 0) fun M6 => ald 4 6 (lett (sI M6 (8 + 2 * p) 2 (gI M6 5 4)) fun M7 => some M7) else some (mkS n (eDn E p (D 13) (D 0 - D 15)) (dY D a p) F1))) = some (mkS n (eDn E p (D 13) (D 0 - D 15)) (dW m0 D a p) F1) := by
      rw [ald_n hp6 (by omega), s22, eDn_o (by omega) (by omega), (hL.2.1 p hpn).1, sPw_3 _ _ _ ⟨hpn, hn⟩, lett_e, al_4_6, s5, eDn_o (by omega) (by omega), x4, show D (11 + 5) = D 16 from rfl, show D (11 + 6) = D 17 from rfl, sPw_2 _ _ _ ⟨hpn, hn⟩, lett_e]
      unfold dW
      by_cases q : D 16 = 0
      · rw [if_neg (fun e => hth.mp e q)]
        by_cases q2 : gI m0 3 p = 0
        · rw [if_pos q2, if_pos ⟨q, q2⟩, ← sPw_2 _ _ _ ⟨hpn, hn⟩, ← sPw_3 _ _ _ ⟨hpn, hn⟩, ← sPw_2 _ _ _ ⟨hpn, hn⟩, ← sPw_3 _ _ _ ⟨hpn, hn⟩, mkS_dB ha6 hp6]
          unfold tk
          rw [if_pos q]
        · rw [if_neg q2, if_neg (fun e => q2 e.2), mkS_dB ha6 hp6]
      · rw [if_pos (hth.mpr q), if_neg (fun e => q e.1), mkS_dB ha6 hp6]
    rw [hW, bnd_s]
    have hD6 : ∀ j, j ≠ 1 → j ≠ 102 + 8 * a + 1 → j ≠ 102 + 8 * a + 4 → (j < 18 + 14 * p ∨ 18 + 14 * p + 14 ≤ j) → dW m0 D a p j = D j := fun j q1 q2 q3 q4 => dW_o q1 q2 q3 (by omega)
    rw [sQ_8 _ _ _ ⟨han, hn⟩, eDn_o (by omega) (by omega), hY a han]
    unfold dU
    by_cases q0 : aLy D (nI a) c = 0
    · have hI : S_isWorthIdling (9 + 2 * a) (mkS n (eDn E p (D 13) (D 0 - D 15)) (dW m0 D a p) F1) = some (if gI m0 3 a = 0 ∧ ¬ (5 : Int32) ≤ aFar D a ∧ ¬ 0 < Op.cmpValue (FP.fcmp (F (12 + a)) (FP.i2f (D 6))) .g then 1 else 0) := by
        unfold S_isWorthIdling S_QIsSeeky S_QFarJumps
        rw [s0_11, hD6 2 (by omega) (by omega) (by omega) (by omega), h2, ald_n ha6 (by omega), ix_nI (by omega), s22, eDn_o (by omega) (by omega), (hL.2.1 a han).1, sQ_5 _ _ _ ⟨han, hn⟩, hD6 _ (by omega) (by omega) (by omega) (by omega), jx2, bitCount_far jx1, bnd_s, bnd_s, sQf_2 _ _ _ ⟨han, hn⟩, eF, s0_16, hD6 6 (by omega) (by omega) (by omega) (by omega), aFar_N, jx2]
        by_cases q1 : gI m0 3 a = 0
        · rw [if_pos q1]
          by_cases q2 : (5 : Int32) ≤ farN (nI jx)
          · rw [if_neg (show ¬ farN (nI jx) < 5 by rw [i32_lt]; rw [i32_le] at q2; omega), bnd_s, if_neg (by decide), if_neg (fun h => h.2.1 q2)]
          · rw [if_pos (show farN (nI jx) < 5 by rw [i32_lt]; rw [i32_le] at q2; omega), bnd_s, if_pos rfl]
            by_cases q3 : 0 < Op.cmpValue (FP.fcmp (F (12 + a)) (FP.i2f (D 6))) .g
            · rw [if_pos q3, if_neg (fun h => h.2.2 q3)]
            · rw [if_neg q3, if_pos ⟨q1, q2, q3⟩]
        · rw [if_neg q1, if_neg (fun h => q1 h.1)]
      rw [if_pos q0, if_pos q0, hI, bnd_s, s0_10, s0_16, hD6 0 (by omega) (by omega) (by omega) (by omega), hD6 6 (by omega) (by omega) (by omega) (by omega)]
      simp only [lett_e, s0w_14]
      by_cases q1 : gI m0 3 a = 0 ∧ ¬ (5 : Int32) ≤ aFar D a ∧ ¬ 0 < Op.cmpValue (FP.fcmp (F (12 + a)) (FP.i2f (D 6))) .g
      · rw [if_pos q1, if_neg (by decide), if_pos q1]
      · rw [if_neg q1, if_pos rfl, if_neg q1]
    · rw [if_neg q0, if_neg q0]
end COMP
