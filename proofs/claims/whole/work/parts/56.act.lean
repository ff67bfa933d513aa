/-! PURE: the reference makes one active -/
def R_act (M_1 : Mm) : Option Mm :=
 lett (-1 : Int32) fun v3 =>
 lett (0 : Int32) fun v4 =>
 lett (fun (u_4 : Int32) =>
 if u_4 = (-1 : Int32) then
 (some M_1)
 else
 (bnd (R_part ((0 : Int32) + u_4) M_1) fun r6 =>
 bnd (R_part (18 : Int32) M_1) fun r7 =>
 lett (fun (M_7 : Mm) =>
 lett (-1 : Int32) fun v9 =>
 lett (0 : Int32) fun v10 =>
 lett (fun (u_10 : Int32) =>
 bnd (R_puts (2 : Int32) u_10 M_7) fun M12 =>
 bnd (R_its (0 : Int32) M12) fun r13 =>
 bnd (R_puts (3 : Int32) r13 M12) fun M14 =>
 bnd (R_setsQueue u_10 (1 : Int32) (0 : Int32) M14) fun M15 =>
 bnd (R_nextOf u_10 M15) fun r16 =>
 bnd (R_goesNext r16 M15) fun M17 =>
 some M17) fun j182 =>
 loopR (fun (rec113 : (Int32 × Int32) → Option Mm) (x18 : Int32 × Int32) =>
 if (gI M_7 0 1) ≤ x18.2 then
 (j182 x18.1)
 else
 (bnd (R_lying x18.2 M_7) fun r19 =>
 lett (fun (u_19 : Int32) =>
 lett (x18.2 + (1 : Int32)) fun v21 =>
 rec113 (u_19, v21)) fun j176 =>
 if r19 = 0 then
 (j176 x18.1)
 else
 (bnd (R_part ((0 : Int32) + x18.2) M_7) fun r22 =>
 bnd (R_part (18 : Int32) M_7) fun r23 =>
 if (Op.cmpValue (FP.fcmp r22 r23) .l) ≤ 0 then
 (lett (fun (_ : Unit) =>
 lett x18.2 fun v24 =>
 j176 v24) fun j174 =>
 if x18.1 = (-1 : Int32) then
 (j174 ())
 else
 (bnd (R_part ((6 : Int32) + x18.2) M_7) fun r25 =>
 bnd (R_part ((6 : Int32) + x18.1) M_7) fun r26 =>
 if 0 ≤ (Op.cmpValue (FP.fcmp r25 r26) .g) then
 (j176 x18.1)
 else
 (j174 ())))
 else
 (j176 x18.1)))) 1000000 (v9, v10)) fun j109 =>
 if (Op.cmpValue (FP.fcmp r6 r7) .l) ≤ 0 then
 (j109 M_1)
 else
 (bnd (R_part ((0 : Int32) + u_4) M_1) fun r27 =>
 bnd (R_setsPart (18 : Int32) r27 M_1) fun M28 =>
 j109 M28))) fun j73 =>
 loopR (fun (rec26 : (Int32 × Int32) → Option Mm) (x29 : Int32 × Int32) =>
 if (gI M_1 0 1) ≤ x29.2 then
 (j73 x29.1)
 else
 (bnd (R_lying x29.2 M_1) fun r30 =>
 lett (fun (u_30 : Int32) =>
 lett (x29.2 + (1 : Int32)) fun v32 =>
 rec26 (u_30, v32)) fun j67 =>
 if r30 ≤ 0 then
 (j67 x29.1)
 else
 (lett (fun (_ : Unit) =>
 lett x29.2 fun v33 =>
 j67 v33) fun j65 =>
 if x29.1 = (-1 : Int32) then
 (j65 ())
 else
 (bnd (R_part ((0 : Int32) + x29.2) M_1) fun r34 =>
 bnd (R_part ((0 : Int32) + x29.1) M_1) fun r35 =>
 if 0 ≤ (Op.cmpValue (FP.fcmp r34 r35) .g) then
 (j67 x29.1)
 else
 (j65 ()))))) 1000000 (v3, v4)
theorem R_chooses_e (M : Mm) : R_chooses M = bnd (R_its (2 : Int32) M) fun r1 => if r1 = (-1 : Int32) then R_act M else (bnd (R_its (2 : Int32) M) fun r36 => bnd (R_keepsOn r36 M) fun r37 => if r37.1 = 0 then R_act r37.2 else some r37.2) := rfl
/-- the least start among those in which requests lie, of like ones the first -/
def aSoon (D : Nat → Int32) (F : Nat → UInt32) (c n : Nat) : Option Nat := itr (fun q x => if cnt D (nI q) c = 0 then x else match x with
  | none => some q
  | some y => if (F (0 + y)).toNat ≤ (F (0 + q)).toNat then some y else some q) none n
theorem aSoon_0 (D : Nat → Int32) (F : Nat → UInt32) (c : Nat) : aSoon D F c 0 = none := rfl
theorem aSoon_s (D : Nat → Int32) (F : Nat → UInt32) (c i : Nat) : aSoon D F c (i + 1) = if cnt D (nI i) c = 0 then aSoon D F c i else match aSoon D F c i with
  | none => some i
  | some y => if (F (0 + y)).toNat ≤ (F (0 + i)).toNat then some y else some i := rfl
def aBst (D : Nat → Int32) (F : Nat → UInt32) (c n : Nat) : Option Nat := itr (fun q x => if cnt D (nI q) c = 0 ∨ (F 18).toNat < (F (0 + q)).toNat then x else match x with
  | none => some q
  | some y => if (F (6 + y)).toNat ≤ (F (6 + q)).toNat then some y else some q) none n
theorem aBst_0 (D : Nat → Int32) (F : Nat → UInt32) (c : Nat) : aBst D F c 0 = none := rfl
theorem aBst_s (D : Nat → Int32) (F : Nat → UInt32) (c i : Nat) : aBst D F c (i + 1) = if cnt D (nI i) c = 0 ∨ (F 18).toNat < (F (0 + i)).toNat then aBst D F c i else match aBst D F c i with
  | none => some i
  | some y => if (F (6 + y)).toNat ≤ (F (6 + i)).toNat then some y else some i := rfl
theorem aSoon_p (D : Nat → Int32) (F : Nat → UInt32) (c n : Nat) : (∀ y, aSoon D F c n = some y → y < n ∧ cnt D (nI y) c ≠ 0) ∧ (aSoon D F c n = none → ∀ q, q < n → cnt D (nI q) c = 0) := by
  induction n with
  | zero =>
    rw [aSoon_0]
    exact ⟨fun y h => absurd h (by simp), fun _ q hq => absurd hq (by omega)⟩
  | succ n ih =>
    rw [aSoon_s]
    by_cases h : cnt D (nI n) c = 0
    · rw [if_pos h]
      refine ⟨fun y hy => ⟨by have := (ih.1 y hy).1; omega, (ih.1 y hy).2⟩, fun hn q hq => ?_⟩
      by_cases e : q = n
      · subst e; exact h
      · exact ih.2 hn q (by omega)
    · rw [if_neg h]
      cases hx : aSoon D F c n with
      | none => exact ⟨fun y hy => by cases hy; exact ⟨by omega, h⟩, fun hn => by cases hn⟩
      | some z =>
        try dsimp only
        have hz := ih.1 z hx
        split
        · exact ⟨fun y hy => by cases hy; exact ⟨by omega, hz.2⟩, fun hn => by cases hn⟩
        · exact ⟨fun y hy => by cases hy; exact ⟨by omega, h⟩, fun hn => by cases hn⟩
theorem aBst_p (D : Nat → Int32) (F : Nat → UInt32) (c n : Nat) : (∀ y, aBst D F c n = some y → y < n ∧ cnt D (nI y) c ≠ 0) ∧ (aBst D F c n = none → ∀ q, q < n → cnt D (nI q) c = 0 ∨ (F 18).toNat < (F (0 + q)).toNat) := by
  induction n with
  | zero =>
    rw [aBst_0]
    exact ⟨fun y h => absurd h (by simp), fun _ q hq => absurd hq (by omega)⟩
  | succ n ih =>
    rw [aBst_s]
    by_cases h : cnt D (nI n) c = 0 ∨ (F 18).toNat < (F (0 + n)).toNat
    · rw [if_pos h]
      refine ⟨fun y hy => ⟨by have := (ih.1 y hy).1; omega, (ih.1 y hy).2⟩, fun hn q hq => ?_⟩
      by_cases e : q = n
      · subst e; exact h
      · exact ih.2 hn q (by omega)
    · rw [if_neg h]
      cases hx : aBst D F c n with
      | none => exact ⟨fun y hy => by cases hy; exact ⟨by omega, fun e => h (Or.inl e)⟩, fun hn => by cases hn⟩
      | some z =>
        try dsimp only
        have hz := ih.1 z hx
        split
        · exact ⟨fun y hy => by cases hy; exact ⟨by omega, hz.2⟩, fun hn => by cases hn⟩
        · exact ⟨fun y hy => by cases hy; exact ⟨by omega, fun e => h (Or.inl e)⟩, fun hn => by cases hn⟩
def aNow (F : Nat → UInt32) (y : Nat) : Nat → UInt32 := if (F (0 + y)).toNat ≤ (F 18).toNat then F else updD F 18 (F (0 + y))
def aAc (D : Nat → Int32) (b : Nat) : Nat → Int32 := updD (updD (updD D 2 (nI b)) 3 (D 0)) (102 + 8 * b + 1) 0
theorem fb_le {F : Nat → UInt32} (h : FB F) {j : Nat} (hj : j < 12) : (F j).toNat ≤ 2139095040 := Nat.le_trans (h.1 j hj) (by decide)
theorem fb_18 {F : Nat → UInt32} (h : FB F) : (F 18).toNat ≤ 2139095040 := Nat.le_trans h.2.2.1 (by decide)
theorem aNow_fb {F : Nat → UInt32} (h : FB F) {y : Nat} (hy : y < 6) : FB (aNow F y) := by
  unfold aNow
  split
  · exact h
  · refine ⟨fun j hj => ?_, fun j hj => ?_, ?_, ?_⟩
    · rw [updD_n _ _ (by omega)]; exact h.1 j hj
    · rw [updD_n _ _ (by omega)]; exact h.2.1 j hj
    · rw [updD_s]; exact h.1 _ (by omega)
    · rw [updD_n _ _ (by omega)]; exact h.2.2.2
theorem aNow_o (F : Nat → UInt32) (y : Nat) {j : Nat} (h : j ≠ 18) : aNow F y j = F j := by
  unfold aNow
  split
  · rfl
  · rw [updD_n _ _ h]
theorem aNow_18 (F : Nat → UInt32) (y : Nat) : (F (0 + y)).toNat ≤ (aNow F y 18).toNat := by
  unfold aNow
  split
  · assumption
  · rw [updD_s]; exact Nat.le_refl _
section ACT
variable {m0 : Mm} {B n s t u c : Nat} {D : Nat → Int32} {F : Nat → UInt32} {E : Mm}
theorem cnt_0 (D : Nat → Int32) (q : Int32) {c : Nat} (hc : c ≤ 54) : (aLy D q c ≤ 0 ↔ cnt D q c = 0) ∧ (aLy D q c = 0 ↔ cnt D q c = 0) := by
  have h := cnt_le D q c
  rw [aLy_cnt]
  refine ⟨⟨fun h1 => ?_, fun h1 => by rw [h1]; decide⟩, ⟨fun h1 => ?_, fun h1 => by rw [h1]; rfl⟩⟩
  · by_cases e : cnt D q c = 0
    · exact e
    · exact absurd h1 (nI_nle (by omega) (by omega))
  · by_cases e : cnt D q c = 0
    · exact e
    · exact absurd h1 (nI_ne0 (by omega) (by omega))
theorem oI_n1 {x : Option Nat} (h : ∀ y, x = some y → y < 6) : oI x = -1 ↔ x = none := by
  cases x with
  | none => exact ⟨fun _ => rfl, fun _ => rfl⟩
  | some y =>
    have := h y rfl
    exact ⟨fun e => absurd e (nI_neg1 (by omega)), fun e => by cases e⟩
theorem R_act_m (hB : BB B) (hK : PK m0 n s) (hc : D 10 = nI c) (hc1 : c ≤ 54) (hF : FB F) : (aSoon D F c n = none → R_act (mkR m0 B D F) = some (mkR m0 B D F)) ∧ (∀ y b r, aSoon D F c n = some y → aBst D (aNow F y) c n = some b → aNx (aAc D b) (nI b) c = some r → R_act (mkR m0 B D F) = some (mkR m0 B (aGoD m0 (aAc D b) c r) (aNow F y))) := by
  have hn := hK.n6
  have loop1 : ∀ (k : Int32 → Option Mm), (lett k fun j73 => loopR (fun (rec26 : (Int32 × Int32) → Option Mm) (x29 : Int32 × Int32) => if (gI (mkR m0 B D F) 0 1) ≤ x29.2 then (j73 x29.1) else (bnd (R_lying x29.2 (mkR m0 B D F)) fun r30 => lett (fun (u_30 : Int32) => lett (x29.2 + (1 : Int32)) fun v32 => rec26 (u_30, v32)) fun j67 => if r30 ≤ 0 then (j67 x29.1) else (lett (fun (_ : Unit) => lett x29.2 fun v33 => j67 v33) fun j65 => if x29.1 = (-1 : Int32) then (j65 ()) else (bnd (R_part ((0 : Int32) + x29.2) (mkR m0 B D F)) fun r34 => bnd (R_part ((0 : Int32) + x29.1) (mkR m0 B D F)) fun r35 => if 0 ≤ (Op.cmpValue (FP.fcmp r34 r35) .g) then (j67 x29.1) else (j65 ()))))) 1000000 ((-1 : Int32), (0 : Int32))) = k (oI (aSoon D F c n)) := by
    intro k
    rw [lett_e]
    refine loopR_seq (fun i => (oI (aSoon D F c i), nI i)) n (fun i hi rec => ?_) (fun rec => ?_) 1000000 (by omega)
    · have hp := aSoon_p D F c i
      try dsimp only
      rw [mkR_0 _ _ _ _ (by decide), hK.n1, if_neg (nI_ge hi (by omega)), R_lying_m hB hc (by omega), bnd_s]
      simp only [lett_e, nA_1]
      rw [aSoon_s]
      by_cases h0 : cnt D (nI i) c = 0
      · rw [if_pos h0, if_pos ((cnt_0 D (nI i) hc1).1.mpr h0)]
      · rw [if_neg h0, if_neg (fun h => h0 ((cnt_0 D (nI i) hc1).1.mp h))]
        cases hx : aSoon D F c i with
        | none => rw [if_pos (show oI none = -1 from rfl)]; rfl
        | some y =>
          have hy := (hp.1 y hx).1
          rw [if_neg (show ¬ oI (some y) = -1 from nI_neg1 (by omega)), rf_0 hB (by omega), bnd_s, show oI (some y) = nI y from rfl, rf_0 hB (by omega), bnd_s]
          try dsimp only
          by_cases hcm : (F (0 + y)).toNat ≤ (F (0 + i)).toNat
          · rw [if_pos hcm, if_pos ((fc_ge (fb_le hF (by omega)) (fb_le hF (by omega)) _).mpr hcm)]; rfl
          · rw [if_neg hcm, if_neg (fun h => hcm ((fc_ge (fb_le hF (by omega)) (fb_le hF (by omega)) _).mp h))]; rfl
    · try dsimp only
      rw [mkR_0 _ _ _ _ (by decide), hK.n1, if_pos (nI_le (Nat.le_refl _) (by omega))]
  have hp := aSoon_p D F c n
  unfold R_act
  rw [lett_e, lett_e, loop1]
  refine ⟨fun h => ?_, fun y b r h hb hr => ?_⟩
  · rw [h, if_pos (show oI none = -1 from rfl)]
  · have hy := (hp.1 y h).1
    rw [h, if_neg (show ¬ oI (some y) = -1 from nI_neg1 (by omega)), show oI (some y) = nI y from rfl, rf_0 hB (by omega), bnd_s, R_part_k18 hB, bnd_s]
    refine (lett_j (mkR m0 B D (aNow F y)) (fun j => ?_)).trans ?_
    · rw [bnd_s, R_setsPart_k18 hB, bnd_s]
      unfold aNow
      by_cases hcm : (F (0 + y)).toNat ≤ (F 18).toNat
      · rw [if_pos hcm, if_pos ((fc_le (fb_le hF (by omega)) (fb_18 hF) _).mpr hcm)]
      · rw [if_neg hcm, if_neg (fun h => hcm ((fc_le (fb_le hF (by omega)) (fb_18 hF) _).mp h))]
    · have hF1 := aNow_fb hF (y := y) (by omega)
      generalize aNow F y = F1 at hF1 hb ⊢
      rw [lett_e, lett_e, lett_e]
      refine loopR_seq (fun i => (oI (aBst D F1 c i), nI i)) n (fun i hi rec => ?_) (fun rec => ?_) 1000000 (by omega)
      · have hp := aBst_p D F1 c i
        try dsimp only
        rw [mkR_0 _ _ _ _ (by decide), hK.n1, if_neg (nI_ge hi (by omega)), R_lying_m hB hc (by omega), bnd_s]
        simp only [lett_e, nA_1]
        rw [aBst_s]
        by_cases h0 : cnt D (nI i) c = 0
        · rw [if_pos (Or.inl h0), if_pos ((cnt_0 D (nI i) hc1).2.mpr h0)]
        · rw [if_neg (fun h => h0 ((cnt_0 D (nI i) hc1).2.mp h)), rf_0 hB (by omega), bnd_s, R_part_k18 hB, bnd_s]
          by_cases hv : (F1 18).toNat < (F1 (0 + i)).toNat
          · rw [if_pos (Or.inr hv), if_neg (fun h => absurd ((fc_le (fb_le hF1 (by omega)) (fb_18 hF1) _).mp h) (by omega))]
          · rw [if_neg (show ¬ (cnt D (nI i) c = 0 ∨ (F1 18).toNat < (F1 (0 + i)).toNat) from fun h => h.elim h0 hv), if_pos ((fc_le (fb_le hF1 (by omega)) (fb_18 hF1) _).mpr (by omega))]
            cases hx : aBst D F1 c i with
            | none => rw [if_pos (show oI none = -1 from rfl)]; rfl
            | some z =>
              have hz := (hp.1 z hx).1
              rw [if_neg (show ¬ oI (some z) = -1 from nI_neg1 (by omega)), rf_6 hB (by omega), bnd_s, show oI (some z) = nI z from rfl, rf_6 hB (by omega), bnd_s]
              try dsimp only
              by_cases hcm : (F1 (6 + z)).toNat ≤ (F1 (6 + i)).toNat
              · rw [if_pos hcm, if_pos ((fc_ge (fb_le hF1 (by omega)) (fb_le hF1 (by omega)) _).mpr hcm)]; rfl
              · rw [if_neg hcm, if_neg (fun h => hcm ((fc_ge (fb_le hF1 (by omega)) (fb_le hF1 (by omega)) _).mp h))]; rfl
      · have hbn := ((aBst_p D F1 c n).1 b hb).1
        have hb6 : b < 6 := by omega
        try dsimp only
        rw [mkR_0 _ _ _ _ (by decide), hK.n1, if_pos (nI_le (Nat.le_refl _) (by omega)), hb, show oI (some b) = nI b from rfl, R_puts_k2 hB, bnd_s, R_its_k0 hB, bnd_s, updD_n _ _ (by omega), R_puts_k3 hB, bnd_s, rqs_1 hB hb6, bnd_s, show updD (updD (updD D 2 (nI b)) 3 (D 0)) (102 + 8 * b + 1) 0 = aAc D b from rfl]
        have h10 : aAc D b 10 = nI c := by unfold aAc; rw [updD_n _ _ (by omega), updD_n _ _ (by omega), updD_n _ _ (by omega)]; exact hc
        rw [R_nextOf_m hB h10 (by omega), bnd_s, hr, show oI (some r) = nI r from rfl, R_goesNext_m hB hK h10 hc1 (aNx_lt _ _ _ _ hr), bnd_s]
end ACT
