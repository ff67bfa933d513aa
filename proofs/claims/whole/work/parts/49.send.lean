/-! PURE: a process asks, in the class -/
def eRow (E : Mm) (c p q : Nat) (sec many tick th : Int32) : Mm :=
  sI (sI (sI (sI (sI (sI (sI E 4 (c * 6 + 0) sec) 4 (c * 6 + 1) many) 4 (c * 6 + 2) (nI p)) 4 (c * 6 + 3) tick) 4 (c * 6 + 4) th) 4 (c * 6 + 5) (nI q)) (9 + 2 * q) 8 (gI E (9 + 2 * q) 8 + 1)
theorem jump_bits : ∀ x, x < 256 → ((nI x <<< ((1 : Int32) &&& 31)) ||| 0) &&& 255 = (2 * nI x + 0) &&& 255 ∧ ((nI x <<< ((1 : Int32) &&& 31)) ||| 1) &&& 255 = (2 * nI x + 1) &&& 255 := by
  have h : ((List.range 256).all fun x => decide (((nI x <<< ((1 : Int32) &&& 31)) ||| 0) &&& 255 = (2 * nI x + 0) &&& 255) && decide (((nI x <<< ((1 : Int32) &&& 31)) ||| 1) &&& 255 = (2 * nI x + 1) &&& 255)) = true := by decide +kernel
  intro x hx
  have h1 := List.all_eq_true.mp h x (List.mem_range.mpr hx)
  rw [Bool.and_eq_true] at h1
  exact ⟨of_decide_eq_true h1.1, of_decide_eq_true h1.2⟩
section SEND
variable {m0 : Mm} {n s t u c : Nat} {D : Nat → Int32} {F : Nat → UInt32} {E : Mm}
theorem S_reach_m (hL : PL m0 n E) (hN : isN 1000 (gI m0 0 7)) (hQ : iQ n t D) {q a : Nat} (hq : q < n) (hn : n ≤ 6) (ha : a < 20000) (many : Int32) : S_QReachTo (9 + 2 * q) (nI a) many (gI m0 0 7) (mkS n E D F) = some (mkS n E (aJ m0 D q (nI a) many) F) := by
  have hq6 : q < 6 := by omega
  obtain ⟨d, d1, d2⟩ := hN
  obtain ⟨-, ⟨b, b1, b2⟩, ⟨x, x1, x2⟩, -⟩ := hQ q hq
  unfold S_QReachTo aJ
  rw [d2, S_QIsFar_m (by omega) (b := b) (by omega) (by omega) ((sQ_4 E D F ⟨hq, hn⟩).trans b2), bnd_s, b2, sQ_5 E D F ⟨hq, hn⟩, x2]
  by_cases h : aAway (nI a) (nI b) ≤ nI d
  · rw [if_pos h, lett_e, if_pos rfl]
    simp only [lett_e]
    rw [(jump_bits x x1).1, sQw_5 E D F ⟨hq, hn⟩, sQw_4 E _ F ⟨hq, hn⟩]
  · rw [if_neg h, lett_e, if_neg (by decide)]
    simp only [lett_e]
    rw [(jump_bits x x1).2, sQw_5 E D F ⟨hq, hn⟩, sQw_4 E _ F ⟨hq, hn⟩]
theorem S_send_m (hK : PK m0 n s) (hL : PL m0 n E) (hF : FB F) (hG : iG n t c D) (hP : iP m0 n D) (hQ : iQ n t D) {p q a b : Nat} (hp : p < n) {hand think th : Int32} (hab : a + b < 10064) (hc : c < 54) (hq : q < n) (hq1 : (aRt m0 (updD D (18 + 14 * p + 3) (nI a + nI b)) p (nI a)).1 = nI q) (hly : gI E (9 + 2 * q) 8 = aLy D (nI q) c) : S_send (nI p) (nI a) (nI b) th (mkS n E D F) = some (nI q, mkS n (eRow E c p q (nI a) (nI b) (D 0) th) (aAskD m0 D c p q (nI a) (nI b) hand think) (aAskF m0 D F c p q (nI a) (nI b))) := by
  have hn := hK.n6
  have hp6 : p < 6 := by omega
  have hq6 : q < 6 := by omega
  have ht := hG.2.2.2.2.2.2.2.2
  have hO : ∀ j, j ≠ 18 + 14 * p + 6 → j ≠ 18 + 14 * p + 7 → j ≠ 18 + 14 * p + 3 → aD2 m0 D p (nI a) (nI b) j = D j := fun j h1 h2 h3 => aD2_o h1 h2 h3
  have h6 : aD2 m0 D p (nI a) (nI b) (18 + 14 * p + 6) = nI q := aRt_6.trans hq1
  unfold S_send aAskD aAskF
  rw [ald_n hp6 (by omega), ix_nI (by omega), sPw_4 E D F ⟨hp, hn⟩, lett_e, S_route_m hn hL.1 hL.2.1 hp (by rw [updD_n _ _ (by omega)]; exact hG.2.2.1) (by rw [updD_n _ _ (by omega)]; exact (hP p hp).2.2.2.2.1) (by omega) hK.near (fun k hk => by rw [updD_n _ _ (by omega)]; exact (hQ k hk).2.1.mono (by omega)), bnd_s]
  rw [show (aRt m0 (updD D (18 + 14 * p + 3) (nI a + nI b)) p (nI a)).2 = aD2 m0 D p (nI a) (nI b) from rfl]
  generalize aD2 m0 D p (nI a) (nI b) = D2 at hO h6 ⊢
  have hQ2 : iQ n t D2 := hQ.cg (fun k hk => ⟨hO _ (by omega) (by omega) (by omega), hO _ (by omega) (by omega) (by omega), hO _ (by omega) (by omega) (by omega), hO _ (by omega) (by omega) (by omega)⟩)
  have hP2 : ∀ k, k < n → D2 (18 + 14 * k + 0) = D (18 + 14 * k + 0) := fun k hk => hO _ (by omega) (by omega) (by omega)
  have hW : ∀ E : Nat → Int32, (∀ k, k < n → E (18 + 14 * k + 0) = D (18 + 14 * k + 0)) → iQ n t E → ∀ x : UInt32, x.toNat ≤ 1358954496 → ∃ v w, E (102 + 8 * q + 0) = nI v ∧ aWt m0 E q = nI w ∧ 1 ≤ w ∧ w ≤ 2000 ∧ (FP.fdiv (FP.i2f (E (102 + 8 * q + 0))) (FP.i2f (aWt m0 E q))) &&& 0x7fffffff ≤ 0x7f800000 ∧ (FP.fadd x (FP.fdiv (FP.i2f (E (102 + 8 * q + 0))) (FP.i2f (aWt m0 E q)))) &&& 0x7fffffff ≤ 0x7f800000 := by
    intro E hE hQE x hx
    obtain ⟨v, v1, v2, v3⟩ := (hQE q hq).1
    obtain ⟨x1, x2, x3, x4⟩ := (hP q hq).1
    obtain ⟨y1, y2, y3, y4⟩ := hK.raise
    have hw : ∃ w, aWt m0 E q = nI w ∧ 1 ≤ w ∧ w ≤ 2000 := by
      unfold aWt
      rw [hE q hq, x4, y4]
      split
      · exact ⟨x1, by rw [Int32.mul_one], x2, by omega⟩
      · exact ⟨x1 * y1, pk_mul x1 y1, Nat.mul_le_mul x2 y2, Nat.le_trans (Nat.mul_le_mul (Nat.le_of_lt_succ x3) (Nat.le_of_lt_succ y3)) (by decide)⟩
    obtain ⟨w, w1, w2, w3⟩ := hw
    refine ⟨v, w, v3, w1, w2, w3, ?_, ?_⟩
    · rw [v3, w1]; exact f_ok (fl_q (by omega) (by omega) (by omega)) (by decide)
    · rw [v3, w1]; exact f_ok (fl_add hx (by omega) (by omega) (by omega)) (by decide)
  rw [sP_7 E D2 F ⟨hp, hn⟩, h6, lett_e, ald_n hq6 (by omega), ix_nI (by omega), s20, hL.1.near, S_reach_m hL hK.near hQ2 hq hn (by omega), bnd_s]
  have hQ3 : iQ n t (aJ m0 D2 q (nI a) (nI b)) := iQ_J hQ2 hab
  have hJ : ∀ j, j ≠ 102 + 8 * q + 3 → j ≠ 102 + 8 * q + 2 → aJ m0 D2 q (nI a) (nI b) j = D2 j := fun j h1 h2 => aJ_o h1 h2
  generalize aJ m0 D2 q (nI a) (nI b) = D3 at hQ3 hJ ⊢
  have h0' : D3 0 = D 0 := by rw [hJ _ (by omega) (by omega), hO _ (by omega) (by omega) (by omega)]
  have h0 : D3 0 = nI t := h0'.trans hG.1
  have h10 : D3 10 = nI c := by rw [hJ _ (by omega) (by omega), hO _ (by omega) (by omega) (by omega)]; exact hG.2.2.2.2.2.2.1
  have hW3 : ∀ k, k < n → D3 (18 + 14 * k + 0) = D (18 + 14 * k + 0) := fun k hk => by rw [hJ _ (by omega) (by omega), hP2 k hk]
  have hly : gI E (9 + 2 * q) 8 = aLy D3 (nI q) c := by
    rw [hly]
    exact (aLy_cg (fun r hr => by rw [hJ _ (by omega) (by omega), hO _ (by omega) (by omega) (by omega)])).symm
  obtain ⟨g1, g2, g3, -⟩ := aMn_ok hF hQ3 h0 ht hq hn
  have hF1 := aMn_fb (m0 := m0) hF hQ3 h0 ht hq hn (aLy D3 (nI q) c)
  have tail : ∀ (D4 : Nat → Int32) (F2 : Nat → UInt32), D4 10 = nI c → D4 0 = D 0 → (bnd (S_RIsFull (mkS n E D4 F2)) fun r13 => if r13 = 0 then (bnd (S_RAddRow (mkS n E D4 F2)) fun r14 => lett r14.1 fun v15 => ald (v15 + (0 : Int32)) 324 (lett (sI r14.2 4 (ix (v15 + (0 : Int32))) (nI a)) fun M16 => ald (v15 + (1 : Int32)) 324 (lett (sI M16 4 (ix (v15 + (1 : Int32))) (nI b)) fun M17 => ald (v15 + (2 : Int32)) 324 (lett (sI M17 4 (ix (v15 + (2 : Int32))) (nI p)) fun M18 => ald (v15 + (3 : Int32)) 324 (lett (sI M18 4 (ix (v15 + (3 : Int32))) (gI M18 0 10)) fun M19 => ald (v15 + (4 : Int32)) 324 (lett (sI M19 4 (ix (v15 + (4 : Int32))) th) fun M20 => ald (v15 + (5 : Int32)) 324 (lett (sI M20 4 (ix (v15 + (5 : Int32))) (nI q)) fun M21 => lett (sI M21 (9 + 2 * q) 8 ((gI M21 (9 + 2 * q) 8) + (1 : Int32))) fun M22 => lett (sI M22 (8 + 2 * p) 6 ((gI M22 (8 + 2 * p) 6) + (1 : Int32))) fun M23 => some (nI q, M23)))))))) else some (nI q, mkS n E D4 F2)) = some (nI q, mkS n (eRow E c p q (nI a) (nI b) (D 0) th) (aRow D4 c p q (nI a) (nI b) hand think) F2) := by
    intro D4 F2 h4 h40
    unfold S_RIsFull S_RAddRow
    rw [s3_1, h4, if_pos (show nI c < 54 from nI_lt hc (by decide)), bnd_s, if_pos rfl]
    simp (disch := omega) only [lett_e, bnd_s, s3w_1, s3_1, h4, nN_6, nA_0, nA_1, nA_2, nA_3, nA_4, nA_5, ald_n, ix_nI, s4w, s0_10, sQ_8, sQw_8, sP_6, sPw_6, gw_n, updD_n, h40]
    refine congrArg (fun x => some (nI q, x)) ?_
    refine mkS_ext (fun j hj => ?_)
    have := dI_150 hj
    unfold aRow
    by_cases e1 : j = 10
    · subst e1; rw [updD_n _ _ (by omega), updD_s, updD_s]
    · by_cases e2 : j = 18 + 14 * p + 5
      · subst e2; simp (disch := omega) only [updD_n, updD_s]
      · simp (disch := omega) only [updD_n]
  have hcn := aLy_cnt D3 (nI q) c
  have hcl := cnt_le D3 (nI q) c
  rw [s0_11]
  by_cases ha : D3 2 = nI q
  · have eD : aD4 m0 D3 q c = D3 := if_neg (fun h => h.2 ha)
    have eF : aF2 m0 D3 F q c = aMn m0 D3 F q (aLy D3 (nI q) c) := if_neg (fun h => h.2 ha)
    rw [eD, eF, lett_if, if_pos ha.symm, lett_e]
    by_cases hl : aLy D3 (nI q) c ≤ 0
    · have hz : aLy D3 (nI q) c = 0 := by
        by_cases hk : cnt D3 (nI q) c = 0
        · rw [hcn, hk]; rfl
        · rw [hcn] at hl; exact absurd hl (nI_nle (by omega) (by omega))
      refine (lett_j (if 0 < D3 5 then (1 : Int32) else 0) (fun j => ?_)).trans ?_
      · rw [lett_e, sQ_8 E D3 F ⟨hq, hn⟩, hly, hz, if_neg (by decide), lett_e, if_neg (by decide), s0_6]
        by_cases h5 : 0 < D3 5
        · rw [if_pos h5, if_neg (by rw [i32_le]; rw [i32_lt] at h5; omega)]
        · rw [if_neg h5, if_pos (by rw [i32_le]; rw [i32_lt] at h5; omega)]
      · try dsimp only
        rw [lett_e]
        refine (lett_j (mkS n E D3 (aMn m0 D3 F q (aLy D3 (nI q) c))) (fun j => ?_)).trans ?_
        · unfold aMn aMnV
          by_cases h5 : 0 < D3 5
          · rw [if_pos h5, if_neg (by decide), if_neg (fun h => h.2.1 ⟨ha, h5⟩)]
          · rw [if_neg h5, if_pos rfl, ald_n hq6 (by omega), s22, (hL.2.1 q hq).1, sQ_6 E D3 F ⟨hq, hn⟩]
            by_cases hs : gI m0 3 q = 0
            · rw [if_pos hs]
              by_cases h4 : D3 (102 + 8 * q + 4) = 0
              · rw [if_pos h4, if_neg (fun h => h.2.2.2 h4)]
              · rw [if_neg h4, if_pos ⟨hl, fun h => h5 h.2, hs, h4⟩]
                unfold S_QLearnPause
                rw [sQf_2 E D3 F ⟨hq, hn⟩, sQ_6 E D3 F ⟨hq, hn⟩, s0_10, grd_t g1, grd_t g2, grd_t g3, sQfw_2 E D3 F ⟨hq, hn⟩, lett_e, bnd_s]
            · rw [if_neg hs, if_neg (fun h => hs h.2.2.1)]
        · try dsimp only
          rw [lett_e, if_neg (by decide)]
          exact tail D3 _ h10 h0'
    · have e1 : aMn m0 D3 F q (aLy D3 (nI q) c) = F := if_neg (fun h => hl h.1)
      have hz : 0 < aLy D3 (nI q) c := by rw [i32_lt]; rw [i32_le] at hl; omega
      rw [e1, lett_e, lett_e, sQ_8 E D3 F ⟨hq, hn⟩, hly, if_pos hz]
      try dsimp only
      rw [lett_e, lett_e, if_neg (by decide)]
      try dsimp only
      rw [lett_e, if_neg (by decide)]
      exact tail D3 _ h10 h0'
  · rw [lett_if, if_neg (fun h => ha h.symm), lett_e]
    by_cases hl : aLy D3 (nI q) c ≤ 0
    · have hz : aLy D3 (nI q) c = 0 := by
        by_cases hk : cnt D3 (nI q) c = 0
        · rw [hcn, hk]; rfl
        · rw [hcn] at hl; exact absurd hl (nI_nle (by omega) (by omega))
      have eD : aD4 m0 D3 q c = aWk1 m0 D3 q := if_pos ⟨hl, ha⟩
      have eF : aF2 m0 D3 F q c = aWkF m0 (aWk1 m0 D3 q) (aMn m0 D3 F q (aLy D3 (nI q) c)) q := if_pos ⟨hl, ha⟩
      rw [eD, eF, lett_e, lett_e, sQ_8 E D3 F ⟨hq, hn⟩, hly, if_neg (show ¬ 0 < aLy D3 (nI q) c by rw [hz]; decide), lett_e, if_pos rfl]
      try dsimp only
      rw [lett_e]
      refine (lett_j (mkS n E D3 (aMn m0 D3 F q (aLy D3 (nI q) c))) (fun j => ?_)).trans ?_
      · unfold aMn aMnV
        rw [if_pos rfl, ald_n hq6 (by omega), s22, (hL.2.1 q hq).1, sQ_6 E D3 F ⟨hq, hn⟩]
        by_cases hs : gI m0 3 q = 0
        · rw [if_pos hs]
          by_cases h4 : D3 (102 + 8 * q + 4) = 0
          · rw [if_pos h4, if_neg (fun h => h.2.2.2 h4)]
          · rw [if_neg h4, if_pos ⟨hl, fun h => ha h.1, hs, h4⟩]
            unfold S_QLearnPause
            rw [sQf_2 E D3 F ⟨hq, hn⟩, sQ_6 E D3 F ⟨hq, hn⟩, s0_10, grd_t g1, grd_t g2, grd_t g3, sQfw_2 E D3 F ⟨hq, hn⟩, lett_e, bnd_s]
        · rw [if_neg hs, if_neg (fun h => hs h.2.2.1)]
      · try dsimp only
        generalize aMn m0 D3 F q (aLy D3 (nI q) c) = F1 at hF1 ⊢
        rw [lett_e, if_pos rfl, sQ_8 E D3 F1 ⟨hq, hn⟩, hly, if_pos hz]
        have hw : S_wake (nI q) (9 + 2 * q) (mkS n E D3 F1) = some (mkS n E (aWk1 m0 D3 q) (aWkF m0 (aWk1 m0 D3 q) F1 q)) := by
          unfold S_wake
          refine (lett_j (mkS n E (aWk1 m0 D3 q) F1) (fun j => ?_)).trans ?_
          · unfold aWk1
            rw [s0_10, sQ_6 E D3 F1 ⟨hq, hn⟩, s20, s20, hL.1.rest, hL.1.rFor, sQw_7 E D3 F1 ⟨hq, hn⟩, lett_e]
            by_cases h : D3 0 - D3 (102 + 8 * q + 4) < gI m0 0 10
            · rw [if_pos h, if_pos h]
            · rw [if_neg h, if_neg h]
          · try dsimp only
            refine (lett_j (aWkS F1 q) (fun j => ?_)).trans ?_
            · unfold aWkS
              rw [sF_8, sQf_1 E _ F1 ⟨hq, hn⟩]
              by_cases h : Op.cmpValue (FP.fcmp (F1 18) (F1 (6 + q))) .l ≤ 0
              · rw [if_pos h, if_pos h]
              · rw [if_neg h, if_neg h]
            · obtain ⟨v, w, hv, hw1, hw2, hw3, k1, k2⟩ := hW (aWk1 m0 D3 q) (fun k hk => by rw [aWk1_o (by omega)]; exact hW3 k hk) (hQ3.cg (fun k hk => ⟨aWk1_o (by omega), aWk1_o (by omega), aWk1_o (by omega), aWk1_o (by omega)⟩)) (aWkS F1 q) (aWkS_le hF1 hq6)
              unfold S_after
              rw [sQfw_0 E _ F1 ⟨hq, hn⟩, lett_e, S_weightOf_m hL.1 ⟨hq, hn⟩, bnd_s, lett_e, sQf_0 E _ _ ⟨hq, hn⟩, updD_s, sQ_3 E _ _ ⟨hq, hn⟩, if_pos (by rw [hw1]; exact nI_le hw2 (by omega)), grd_t k1, grd_t k2, bnd_s, sQfw_1 E _ _ ⟨hq, hn⟩, lett_e]
              rfl
        rw [hw, bnd_s]
        exact tail (aWk1 m0 D3 q) _ (by rw [aWk1_o (by omega)]; exact h10) (by rw [aWk1_o (by omega)]; exact h0')
    · have eD : aD4 m0 D3 q c = D3 := if_neg (fun h => hl h.1)
      have eF : aF2 m0 D3 F q c = aMn m0 D3 F q (aLy D3 (nI q) c) := if_neg (fun h => hl h.1)
      have e1 : aMn m0 D3 F q (aLy D3 (nI q) c) = F := if_neg (fun h => hl h.1)
      have hz : 0 < aLy D3 (nI q) c := by rw [i32_lt]; rw [i32_le] at hl; omega
      have hnz : ¬ aLy D3 (nI q) c = 0 := by intro h; rw [h] at hl; exact hl (by decide)
      rw [eD, eF, e1, lett_e, lett_e, sQ_8 E D3 F ⟨hq, hn⟩, hly, if_pos hz]
      try dsimp only
      rw [lett_e, lett_e, if_neg (by decide)]
      try dsimp only
      rw [lett_e, if_pos rfl, sQ_8 E D3 F ⟨hq, hn⟩, hly, if_neg hnz]
      exact tail D3 _ h10 h0'
end SEND
