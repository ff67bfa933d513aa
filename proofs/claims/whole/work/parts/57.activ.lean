/-! PURE: the class makes one active -/
def sSoon (F : Nat → UInt32) (x : Option Nat) : UInt32 × Int32 := match x with
  | none => (FP.fconst0, 0)
  | some y => (F (0 + y), 1)
section SACT
variable {m0 : Mm} {n s t u c : Nat} {D : Nat → Int32} {F : Nat → UInt32} {E : Mm}
theorem updD_self {α : Type} (F : Nat → α) (j : Nat) : updD F j (F j) = F := by
  funext k
  unfold updD
  split
  · rename_i h; rw [h]
  · rfl
theorem S_least_m (hK : PK m0 n s) (hL : PL m0 n E) (hY : xY n c E D) (hc1 : c ≤ 54) (hF : FB F) : S_leastStart (mkS n E D F) = some (sSoon F (aSoon D F c n)).1 := by
  have hn := hK.n6
  unfold S_leastStart
  rw [lett_e, lett_e, lett_e]
  refine loopR_seq (fun i => ((sSoon F (aSoon D F c i)).1, (sSoon F (aSoon D F c i)).2, nI i)) n (fun i hi rec => ?_) (fun rec => ?_) 1000000 (by omega)
  · have hp := aSoon_p D F c i
    try dsimp only
    rw [s20, hL.1.many, hK.n1, if_neg (nI_ge hi (by omega)), ald_n (by omega) (by omega), ix_nI (by omega), sQ_8 _ _ _ (by omega), hY i hi, sQf_0 _ _ _ (by omega)]
    simp only [lett_e, nA_1]
    rw [aSoon_s]
    by_cases h0 : cnt D (nI i) c = 0
    · rw [if_pos h0, if_pos ((cnt_0 D (nI i) hc1).1.mpr h0)]
    · rw [if_neg h0, if_neg (fun h => h0 ((cnt_0 D (nI i) hc1).1.mp h))]
      cases hx : aSoon D F c i with
      | none => rw [if_pos (show (sSoon F none).2 = 0 from rfl), ald_n (by omega) (by omega)]; rfl
      | some y =>
        have hy := (hp.1 y hx).1
        rw [if_neg (show ¬ (sSoon F (some y)).2 = 0 from by show ¬ (1 : Int32) = 0; decide), ald_n (by omega) (by omega), ald_n (by omega) (by omega), show (sSoon F (some y)).1 = F (0 + y) from rfl]
        try dsimp only
        by_cases hcm : (F (0 + y)).toNat ≤ (F (0 + i)).toNat
        · rw [if_pos hcm, if_pos ((fc_ge (fb_le hF (by omega)) (fb_le hF (by omega)) _).mpr hcm)]; rfl
        · rw [if_neg hcm, if_neg (fun h => hcm ((fc_ge (fb_le hF (by omega)) (fb_le hF (by omega)) _).mp h))]; rfl
  · try dsimp only
    rw [s20, hL.1.many, hK.n1, if_pos (nI_le (Nat.le_refl _) (by omega))]
theorem S_act_m (hK : PK m0 n s) (hL : PL m0 n E) (hX : XR n c E D) (I : Inv m0 n s t u c D F) : (aSoon D F c n = none → S_activate (mkS n E D F) = some (mkS n E D F)) ∧ (∀ y b r, aSoon D F c n = some y → aBst D (aNow F y) c n = some b → aNx (aAc D b) (nI b) c = some r → S_activate (mkS n E D F) = some (mkS n (eGo (sI E 0 13 0) c r b) (aGoD m0 (aAc D b) c r) (aNow F y))) := by
  have hn := hK.n6
  have hc := I.c0
  have hc1 := I.c1
  have hF := I.f
  have hp := aSoon_p D F c n
  unfold S_activate
  rw [s3_1, hc]
  refine ⟨fun h => ?_, fun y b r h hb hr => ?_⟩
  · have hc0 : c = 0 := by
      by_cases e : c = 0
      · exact e
      · obtain ⟨⟨q, hq, hq2⟩, -⟩ := I.r 0 (by omega)
        have h1 := hp.2 h q hq
        have h2 : cnt D (nI q) (0 + 1) ≤ cnt D (nI q) c := by
          have mono : ∀ d, cnt D (nI q) 1 ≤ cnt D (nI q) (1 + d) := by
            intro d
            induction d with
            | zero => exact Nat.le_refl _
            | succ d ih => rw [show 1 + (d + 1) = 1 + d + 1 from rfl, cnt_s D (nI q) (1 + d)]; omega
          have := mono (c - 1)
          rw [show 1 + (c - 1) = c by omega] at this
          exact this
        rw [cnt_s, if_pos hq2] at h2
        omega
    rw [hc0, if_pos (show nI 0 = 0 from rfl)]
  · have hy := hp.1 y h
    have hcp : c ≠ 0 := by
      rintro rfl
      exact hy.2 rfl
    rw [if_neg (nI_ne0 (by omega) (by omega)), S_least_m hK hL hX.2.1 hc1 hF, bnd_s, lett_e, h, show (sSoon F (some y)).1 = F (0 + y) from rfl, sF_8]
    refine (lett_j (aNow F y 18) (fun j => ?_)).trans ?_
    · unfold aNow
      by_cases hcm : (F (0 + y)).toNat ≤ (F 18).toNat
      · rw [if_pos hcm, if_pos ((fc_le (fb_le hF (by omega)) (fb_18 hF) _).mpr hcm)]
      · rw [if_neg hcm, if_neg (fun h => hcm ((fc_le (fb_le hF (by omega)) (fb_18 hF) _).mp h)), updD_s]
    · have e1 : updD F 18 (aNow F y 18) = aNow F y := by
        unfold aNow
        split
        · exact updD_self F 18
        · rw [updD_s]
      rw [sFw_8, e1, lett_e]
      have hF1 := aNow_fb hF (y := y) (by omega)
      generalize aNow F y = F1 at hF1 hb ⊢
      rw [lett_e, lett_e, lett_e]
      refine loopR_seq (fun i => (oI (aBst D F1 c i), nI i)) n (fun i hi rec => ?_) (fun rec => ?_) 1000000 (by omega)
      · have hp := aBst_p D F1 c i
        try dsimp only
        rw [s20, hL.1.many, hK.n1, if_neg (nI_ge hi (by omega)), ald_n (by omega) (by omega), ix_nI (by omega), sQ_8 _ _ _ (by omega), hX.2.1 i hi, sQf_0 _ _ _ (by omega), sF_8, sQf_1 _ _ _ (by omega)]
        simp only [lett_e, nA_1]
        rw [aBst_s]
        by_cases h0 : cnt D (nI i) c = 0
        · rw [if_pos (Or.inl h0), if_pos ((cnt_0 D (nI i) hc1).1.mpr h0)]
        · rw [if_neg (show ¬ aLy D (nI i) c ≤ 0 from fun h => h0 ((cnt_0 D (nI i) hc1).1.mp h)), ald_n (by omega) (by omega)]
          by_cases hv : (F1 18).toNat < (F1 (0 + i)).toNat
          · rw [if_pos ((fc_gt (fb_le hF1 (by omega)) (fb_18 hF1) _).mpr hv), if_pos (show cnt D (nI i) c = 0 ∨ (F1 18).toNat < (F1 (0 + i)).toNat from Or.inr hv)]
          · rw [if_neg (fun h => hv ((fc_gt (fb_le hF1 (by omega)) (fb_18 hF1) _).mp h)), if_neg (show ¬ (cnt D (nI i) c = 0 ∨ (F1 18).toNat < (F1 (0 + i)).toNat) from fun h => h.elim h0 hv)]
            cases hx : aBst D F1 c i with
            | none => rw [if_pos (show oI none < 0 by decide)]; rfl
            | some z =>
              have hz := (hp.1 z hx).1
              rw [if_neg (show ¬ oI (some z) < 0 from nI_pos (by omega)), show oI (some z) = nI z from rfl, ald_n (by omega) (by omega), ald_n (by omega) (by omega), ix_nI (by omega), sQf_1 _ _ _ (by omega)]
              try dsimp only
              by_cases hcm : (F1 (6 + z)).toNat ≤ (F1 (6 + i)).toNat
              · rw [if_pos hcm, if_pos ((fc_ge (fb_le hF1 (by omega)) (fb_le hF1 (by omega)) _).mpr hcm)]; rfl
              · rw [if_neg hcm, if_neg (fun h => hcm ((fc_ge (fb_le hF1 (by omega)) (fb_le hF1 (by omega)) _).mp h))]; rfl
      · have hbn := ((aBst_p D F1 c n).1 b hb).1
        have hb6 : b < 6 := by omega
        try dsimp only
        rw [s20, hL.1.many, hK.n1, if_pos (nI_le (Nat.le_refl _) (by omega)), hb, show oI (some b) = nI b from rfl, if_neg (nI_pos (by omega)), s0w_11, lett_e, s0_10, updD_n _ _ (by omega), s0w_12, lett_e, s0w_13, lett_e, s0_7]
        have e2 : mkS n (sI E 0 13 0) (updD (updD D 2 (nI b)) 3 (D 0)) F1 = mkS n (sI E 0 13 0) (aAc D b) F1 := by
          unfold aAc
          exact (mkS_up (by
            cases hd : dI (102 + 8 * b + 1) with
            | false => rfl
            | true =>
              unfold dI at hd
              simp only [Bool.or_eq_true, Bool.and_eq_true, decide_eq_true_eq] at hd
              omega) _).symm
        rw [e2]
        obtain ⟨hd, hd1, hd2⟩ := I.hd
        have e10 : ∀ j, j ≠ 2 → j ≠ 3 → j ≠ 102 + 8 * b + 1 → aAc D b j = D j := fun j h1 h2 h3 => by unfold aAc; rw [updD_n _ _ h3, updD_n _ _ h2, updD_n _ _ h1]
        have h1 : aAc D b 1 = nI hd := by rw [e10 _ (by omega) (by omega) (by omega)]; exact hd2
        have h10 : aAc D b 10 = nI c := by rw [e10 _ (by omega) (by omega) (by omega)]; exact hc
        have hW : xW c (sI E 0 13 0) (aAc D b) := by
          intro i hi
          obtain ⟨⟨w1, w2, w3, w4, w5⟩, w6⟩ := hX.1 i hi
          unfold xRow
          dsimp only at w1 w2 w3 w4 w5 ⊢
          simp (disch := omega) only [gw_n, e10]
          exact ⟨⟨w1, w2, w3, w4, w5⟩, w6⟩
        have hR : iR n s t c (aAc D b) := I.r.cg (fun j h1 h2 => e10 j (by omega) (by omega) (by omega))
        have hs : secs c (aAc D b) := fun i hi => by
          obtain ⟨-, ⟨x, y, -, -, xy, x1, -⟩, -⟩ := hR i hi
          have := hK.s9
          exact ⟨x, by omega, x1⟩
        rw [show updD (updD D 2 (nI b)) 3 (D 0) 1 = aAc D b 1 by rw [e10 _ (by omega) (by omega) (by omega), updD_n _ _ (by omega), updD_n _ _ (by omega)], S_next_m (n := n) hW hc1 h10 hs h1 hd1, bnd_s, hr, show oS (some r) = nI (6 * r) from rfl, S_go_m hK (hL.w _ (by omega)) hW hR h10 hc1 (aNx_lt _ _ _ _ hr) (show aAc D b 2 = nI b by unfold aAc; rw [updD_n _ _ (by omega), updD_n _ _ (by omega), updD_s]) hbn h1 hd1, bnd_s]
end SACT
