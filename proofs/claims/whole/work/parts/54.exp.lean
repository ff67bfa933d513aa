/-! PURE: it expires -/
def aGr (a b : Int32) : Int32 := if a ≤ b then b else a
def aLe (a b : Int32) : Int32 := if b ≤ a then b else a
theorem R_gr_m (a b : Int32) (M : Mm) : R_greatest a b M = some (aGr a b) := by unfold R_greatest aGr; split <;> rfl
theorem R_le_m (a b : Int32) (M : Mm) : R_lesser a b M = some (aLe a b) := by unfold R_lesser aLe; split <;> rfl
theorem gr_mm (a b : Int32) : mmaxI b a = aGr a b := by
  unfold mmaxI aGr
  by_cases h : a ≤ b
  · rw [if_pos h, if_neg (by rw [i32_lt]; rw [i32_le] at h; omega)]
  · rw [if_neg h, if_pos (by rw [i32_lt]; rw [i32_le] at h; omega)]
theorem gr_mm' (a b : Int32) : mmaxI a b = aGr a b := by
  unfold mmaxI aGr
  by_cases h : a < b
  · rw [if_pos h, if_pos (by rw [i32_le]; rw [i32_lt] at h; omega)]
  · rw [if_neg h]
    by_cases h2 : a ≤ b
    · rw [if_pos h2]
      rw [i32_lt] at h
      rw [i32_le] at h2
      exact Int32.toInt_inj.mp (by omega)
    · rw [if_neg h2]
theorem le_mm (a b : Int32) : mminI b a = aLe a b := by
  unfold mminI aLe
  by_cases h : b ≤ a
  · rw [if_pos h, if_neg (by rw [i32_lt]; rw [i32_le] at h; omega)]
  · rw [if_neg h, if_pos (by rw [i32_lt]; rw [i32_le] at h; omega)]
theorem clamp_n {lo hi : Nat} (h1 : lo ≤ hi) (h2 : hi < 2 ^ 31) (x : Int32) : isR lo (hi + 1) (aLe (nI hi) (aGr (nI lo) x)) := by
  unfold aLe aGr
  by_cases h : nI lo ≤ x
  · rw [if_pos h]
    by_cases h3 : x ≤ nI hi
    · rw [if_pos h3]
      rw [i32_le, nI_toInt (by omega)] at h h3
      refine ⟨x.toInt.toNat, by omega, by omega, Int32.toInt_inj.mp ?_⟩
      rw [nI_toInt (by omega)]; omega
    · rw [if_neg h3]
      exact ⟨hi, h1, by omega, rfl⟩
  · rw [if_neg h, if_pos (nI_le h1 h2)]
    exact ⟨lo, Nat.le_refl _, by omega, rfl⟩
/-- what is kept: a row more; the oldest goes at 40 -/
def aWr1 (D : Nat → Int32) (k : Nat) : Nat → Int32 := if k = 40 then updD (ups 598 (fun i => D (598 + i + 4)) D 156) 9 39 else D
def aWrK (k : Nat) : Nat := if k = 40 then 39 else k
def aWr (D : Nat → Int32) (k : Nat) (q how sv : Int32) : Nat → Int32 :=
  updD (updD (updD (updD (updD (aWr1 D k) (598 + 4 * aWrK k) (D 0)) (598 + 4 * aWrK k + 1) q) (598 + 4 * aWrK k + 2) how) (598 + 4 * aWrK k + 3) sv) 9 (nI (aWrK k + 1))
theorem aWr1_o {D : Nat → Int32} {k j : Nat} (h : j ≠ 9) (h2 : j < 598) : aWr1 D k j = D j := by
  unfold aWr1
  split
  · rw [updD_n _ _ h, ups_r, if_neg (by omega)]
  · rfl
theorem aWr_o {D : Nat → Int32} {k j : Nat} {q how sv : Int32} (h : j ≠ 9) (h2 : j < 598) : aWr D k q how sv j = D j := by
  unfold aWr
  simp (disch := omega) only [updD_n]
  exact aWr1_o h h2
section WR
variable {m0 : Mm} {B : Nat} {D : Nat → Int32} {F : Nat → UInt32}
theorem R_writes_m (hB : BB B) {k : Nat} (hk : D 9 = nI k) (hk2 : k ≤ 40) (q how sv : Int32) : R_writes q how sv (mkR m0 B D F) = some (mkR m0 B (aWr D k q how sv) F) := by
  unfold R_writes
  rw [R_its_k9 hB, bnd_s, hk]
  have hK : aWrK k ≤ 39 := by unfold aWrK; split <;> omega
  refine (lett_j (mkR m0 B (aWr1 D k) F) (fun j => ?_)).trans ?_
  · unfold aWr1
    by_cases h : k = 40
    · rw [if_pos h, if_pos (by rw [h]; rfl), lett_e, lett_e]
      refine loopR_seq (fun i => (nI i, mkR m0 B (ups 598 (fun i => D (598 + i + 4)) D i) F)) 156 (fun i hi rec => ?_) (fun rec => ?_) 1000000 (by decide)
      · try dsimp only
        rw [if_neg (show ¬ (156 : Int32) ≤ nI i from nI_ge hi (by decide)), nB_598, nA_4, rin hB (by omega), bnd_s, rpn hB (by omega), bnd_s, lett_e, nA_1, ups_s, ups_r 598, if_neg (by omega)]
      · try dsimp only
        rw [if_pos (show (156 : Int32) ≤ nI 156 by decide), R_puts_k9 hB, bnd_s]
    · rw [if_neg h, if_neg (show ¬ nI k = 40 from fun e => h ((nI_eq (b := 40) (by omega) (by decide)).mp e))]
  · try dsimp only
    have h9 : aWr1 D k 9 = nI (aWrK k) := by
      unfold aWr1 aWrK
      by_cases h : k = 40
      · rw [if_pos h, if_pos h, updD_s]; rfl
      · rw [if_neg h, if_neg h, hk]
    have h0 : aWr1 D k 0 = D 0 := aWr1_o (by omega) (by omega)
    rw [R_its_k9 hB, bnd_s, h9, nM_4, nB_598, lett_e, R_its_k0 hB, bnd_s, h0]
    simp (disch := omega) only [rpn hB, bnd_s, nA_1, nA_2, nA_3, R_its_k9 hB, R_puts_k9 hB, updD_n, h9]
    rfl
end WR
/-- the reference's log of what expired, ahead -/
def lgX (m0 : Mm) (B y : Nat) (q how sv : Int32) : Mm := if B = 0 then m0 else sI (sI (sI (sI (sI m0 21 (4 * y) (gI m0 0 56)) 21 (4 * y + 1) q) 21 (4 * y + 2) how) 21 (4 * y + 3) sv) 0 58 (nI (y + 1))
theorem mkR_skip (m0 : Mm) (B : Nat) (D : Nat → Int32) (F : Nat → UInt32) {a k : Nat} (v : Int32) (h : a ≠ 16) (h2 : a ≠ 0 ∨ (k ≠ 53 ∧ k ≠ 54)) : sI (mkR m0 B D F) a k v = mkR (sI m0 a k v) B D F := by
  refine Prod.ext (funext fun x => funext fun y => ?_) rfl
  show (if x = a ∧ y = k then v else if x = 16 ∧ B ≤ y ∧ y < B + 758 then D (y - B) else if x = 0 ∧ y = 53 then nI B else if x = 0 ∧ y = 54 then nI (pB B) else m0.1 x y) = (if x = 16 ∧ B ≤ y ∧ y < B + 758 then D (y - B) else if x = 0 ∧ y = 53 then nI B else if x = 0 ∧ y = 54 then nI (pB B) else (if x = a ∧ y = k then v else m0.1 x y))
  by_cases h0 : x = a ∧ y = k
  · rw [if_pos h0, if_neg (by omega), if_neg (by omega), if_neg (by omega), if_pos h0]
  · rw [if_neg h0, if_neg h0]
def aXR (D : Nat → Int32) (F : Nat → UInt32) (q : Nat) : UInt32 := FP.fadd (FP.fmul (F 19) 1063256064) (FP.fmul (FP.fdiv (FP.i2f (D (102 + 8 * q + 1))) (FP.i2f (D 0 - D 3))) 1040187392)
def aXT (m0 : Mm) (D : Nat → Int32) (F : Nat → UInt32) (q : Nat) : Int32 := aLe (gI m0 0 6) (aGr (gI m0 0 5) (FP.f2i (FP.fmul (aXR D F q) (FP.i2f (D 7)))))
def aXN (D : Nat → Int32) (q : Nat) (how : Int32) : Int32 := if how = 0 then 2 * D (102 + 8 * q + 0) else if how = 1 then D (102 + 8 * q + 1) else aGr (D (102 + 8 * q + 0) / 2) (D (102 + 8 * q + 1))
def aX2 (m0 : Mm) (D : Nat → Int32) (F : Nat → UInt32) (q : Nat) (how : Int32) : Nat → Int32 := updD (updD D 8 (aXT m0 D F q)) (102 + 8 * q + 0) (aLe (aXT m0 D F q) (aGr (gI m0 0 5) (aXN D q how)))
def aXS (m0 : Mm) (D : Nat → Int32) (F : Nat → UInt32) (q : Nat) : UInt32 := FP.fadd (F (0 + q)) (FP.fdiv (FP.i2f (D (102 + 8 * q + 1))) (FP.i2f (aWt m0 D q)))
def aXF (m0 : Mm) (D : Nat → Int32) (F : Nat → UInt32) (q c : Nat) (how : Int32) : UInt32 := if aLy D (nI q) c ≤ 0 then aXS m0 D F q else FP.fadd (aXS m0 D F q) (FP.fdiv (FP.i2f (aX2 m0 D F q how (102 + 8 * q + 0))) (FP.i2f (aWt m0 D q)))
def aExD (m0 : Mm) (D : Nat → Int32) (F : Nat → UInt32) (q k : Nat) (how : Int32) : Nat → Int32 := aWr (updD (updD (aX2 m0 D F q how) (102 + 8 * q + 1) 0) 2 (-1)) k (nI q) how (D (102 + 8 * q + 1))
def aExF (m0 : Mm) (D : Nat → Int32) (F : Nat → UInt32) (q c : Nat) (how : Int32) : Nat → UInt32 := updD (updD (updD F 19 (aXR D F q)) (0 + q) (aXS m0 D F q)) (6 + q) (aXF m0 D F q c how)
section EXP
variable {m0 : Mm} {B n s t u c k : Nat} {D : Nat → Int32} {F : Nat → UInt32} {E : Mm} {q : Nat} {how : Int32}
/-- what is needed where it expires -/
def xH (n u t : Nat) (D : Nat → Int32) (q : Nat) : Prop := D 2 = nI q ∧ q < n ∧ ∃ sv b, D (102 + 8 * q + 1) = nI sv ∧ sv ≤ 999 ∧ D 3 = nI b ∧ b < t
theorem ex_fl (hK : PK m0 n s) (I : Inv m0 n s t u c D F) (h : xH n u t D q) (how : Int32) : ((FP.fmul (F 19) 1063256064) &&& 0x7fffffff ≤ 0x7f800000 ∧ (FP.fdiv (FP.i2f (D (102 + 8 * q + 1))) (FP.i2f (D 0 - D 3))) &&& 0x7fffffff ≤ 0x7f800000 ∧ (FP.fmul (FP.fdiv (FP.i2f (D (102 + 8 * q + 1))) (FP.i2f (D 0 - D 3))) 1040187392) &&& 0x7fffffff ≤ 0x7f800000 ∧ (FP.fadd (FP.fmul (F 19) 1063256064) (FP.fmul (FP.fdiv (FP.i2f (D (102 + 8 * q + 1))) (FP.i2f (D 0 - D 3))) 1040187392)) &&& 0x7fffffff ≤ 0x7f800000) ∧ ((aXR D F q).toNat ≤ 1149239296 ∧ (FP.fmul (aXR D F q) (FP.i2f (D 7))) &&& 0x7fffffff ≤ 0x7f800000) ∧ isR 1 1000 (aXT m0 D F q) ∧ isR 1 1000 (aLe (aXT m0 D F q) (aGr (gI m0 0 5) (aXN D q how))) ∧ ((FP.fdiv (FP.i2f (D (102 + 8 * q + 1))) (FP.i2f (aWt m0 D q))) &&& 0x7fffffff ≤ 0x7f800000 ∧ (aXS m0 D F q) &&& 0x7fffffff ≤ 0x7f800000 ∧ (aXS m0 D F q).toNat ≤ 1358954496) ∧ ((FP.fdiv (FP.i2f (aX2 m0 D F q how (102 + 8 * q + 0))) (FP.i2f (aWt m0 D q))) &&& 0x7fffffff ≤ 0x7f800000 ∧ (FP.fadd (aXS m0 D F q) (FP.fdiv (FP.i2f (aX2 m0 D F q how (102 + 8 * q + 0))) (FP.i2f (aWt m0 D q)))) &&& 0x7fffffff ≤ 0x7f800000 ∧ (aXF m0 D F q c how).toNat ≤ 1358954496) := by
  obtain ⟨h2, hq, sv, b, e1, e2, e3, e4⟩ := h
  have hn := hK.n6
  have ht := I.t1
  obtain ⟨lo, hi, l1, l2, l3, l4, l5⟩ := hK.lohi
  obtain ⟨sl, s1, s2, s3⟩ := I.slice
  obtain ⟨w, w1, w2, w3⟩ := aWt_n hK I.p hq
  have f19 := I.f.2.2.2
  have r1 : (FP.fdiv (FP.i2f (nI sv)) (FP.i2f (nI (t - b)))).toNat ≤ 1149239296 := fl_q (by omega) (by omega) (by omega)
  have r2 := fl_rate f19 r1
  have a1 : (aXR D F q).toNat ≤ 1149239296 := by unfold aXR; rw [e1, e3, I.t0, pk_sub (by omega)]; exact r2
  have a2 : isR lo (hi + 1) (aXT m0 D F q) := by unfold aXT; rw [l1, l2]; exact clamp_n l4 (by omega) _
  obtain ⟨tp, t1, t2, t3⟩ := a2
  have a3 : isR lo (tp + 1) (aLe (aXT m0 D F q) (aGr (gI m0 0 5) (aXN D q how))) := by rw [t3, l1]; exact clamp_n t1 (by omega) _
  obtain ⟨bu, b1, b2, b3⟩ := a3
  have hx : (F (0 + q)).toNat ≤ 1358954496 := I.f.1 _ (by omega)
  have a4 : (aXS m0 D F q).toNat ≤ 1358954496 := by unfold aXS; rw [e1, w1]; exact fl_add hx (by omega) (by omega) (by omega)
  have hbu : aX2 m0 D F q how (102 + 8 * q + 0) = nI bu := by unfold aX2; rw [updD_s, b3]
  have a5 : (FP.fadd (aXS m0 D F q) (FP.fdiv (FP.i2f (nI bu)) (FP.i2f (nI w)))).toNat ≤ 1358954496 := fl_add a4 (by omega) (by omega) (by omega)
  refine ⟨?_, ⟨a1, ?_⟩, ⟨tp, by omega, by omega, t3⟩, ⟨bu, by omega, by omega, b3⟩, ⟨?_, f_ok a4 (by decide), a4⟩, ?_, ?_, ?_⟩
  · rw [e1, e3, I.t0, pk_sub (by omega)]
    exact ⟨f_ok (fl_rate1 f19) (by decide), f_ok r1 (by decide), f_ok (fl_rate2 r1) (by decide), f_ok r2 (by decide)⟩
  · rw [s3]; exact f_ok (fl_top a1 (by omega)) (by decide)
  · rw [e1, w1]; exact f_ok (fl_q (by omega) (by omega) (by omega)) (by decide)
  · rw [hbu, w1]; exact f_ok (fl_q (by omega) (by omega) (by omega)) (by decide)
  · rw [hbu, w1]; exact f_ok a5 (by decide)
  · unfold aXF
    split
    · exact a4
    · rw [hbu, w1]; exact a5
theorem aWt_up {j : Nat} {v : Int32} (h0 : j ≠ 0) (h1 : j ≠ 102 + 8 * q + 5) (h2 : j ≠ 18 + 14 * q + 0) : aWt m0 (updD D j v) q = aWt m0 D q := by
  unfold aWt
  rw [updD_n _ _ (Ne.symm h0), updD_n _ _ (Ne.symm h1), updD_n _ _ (Ne.symm h2)]
theorem R_expires_m (hB : BB B) (hK : PK m0 n s) (I : Inv m0 n s t u c D F) (h : xH n u t D q) (hk : D 9 = nI k) (hk2 : k ≤ 40) {y : Nat} (hy : B = 0 ∨ (gI m0 0 58 = nI y ∧ y ≤ 400)) : R_expires (nI q) how (mkR m0 B D F) = some (mkR (lgX m0 B y (nI q) how (D (102 + 8 * q + 1))) B (aExD m0 D F q k how) (aExF m0 D F q c how)) := by
  have hn := hK.n6
  have hq := h.2.1
  have hq6 : q < 6 := by omega
  obtain ⟨⟨r1, r2, r3, r4⟩, ⟨-, g1⟩, -, -, ⟨g2, g3, -⟩, g4, g5, -⟩ := ex_fl hK I h how
  unfold R_expires
  rw [rq_1 hB hq6, bnd_s, lett_e, R_part_k19 hB, bnd_s, grd_t r1, R_its_k0 hB, bnd_s, R_its_k3 hB, bnd_s, grd_t r2, grd_t r3, grd_t r4, R_setsPart_k19 hB, bnd_s, R_part_k19 hB, bnd_s, updD_s, R_its_k7 hB, bnd_s]
  rw [show FP.fadd (FP.fmul (F 19) 1063256064) (FP.fmul (FP.fdiv (FP.i2f (D (102 + 8 * q + 1))) (FP.i2f (D 0 - D 3))) 1040187392) = aXR D F q from rfl, grd_t g1, lett_e, R_gr_m, bnd_s, R_le_m, bnd_s, mkR_0 _ _ _ _ (by decide), mkR_0 _ _ _ _ (by decide), R_puts_k8 hB, bnd_s, show aLe (gI m0 0 6) (aGr (gI m0 0 5) (FP.f2i (FP.fmul (aXR D F q) (FP.i2f (D 7))))) = aXT m0 D F q from rfl, rq_0 hB hq6, bnd_s, lett_e, updD_n _ _ (show 102 + 8 * q + 0 ≠ 8 by omega)]
  refine (lett_j (aXN D q how) (fun j => ?_)).trans ?_
  · unfold aXN
    by_cases h0 : how = 0
    · rw [if_pos h0, if_pos h0]
    · rw [if_neg h0, if_neg h0]
      by_cases h1 : how = 1
      · rw [if_pos h1, if_pos h1]
      · rw [if_neg h1, if_neg h1, R_gr_m, bnd_s]
  · try dsimp only
    have hc : updD D 8 (aXT m0 D F q) 8 = aXT m0 D F q := updD_s _ _ _
    rw [lett_e, R_its_k8 hB, bnd_s, R_gr_m, bnd_s, R_le_m, bnd_s, mkR_0 _ _ _ _ (by decide), rqs_0 hB hq6, bnd_s, updD_s, show updD (updD D 8 (aXT m0 D F q)) (102 + 8 * q + 0) (aLe (aXT m0 D F q) (aGr (gI m0 0 5) (aXN D q how))) = aX2 m0 D F q how from rfl, R_weightOf_m hB q rfl hq6, bnd_s, lett_e, rf_0 hB hq6, bnd_s, updD_n F _ (show 0 + q ≠ 19 by omega)]
    have hw : aWt m0 (aX2 m0 D F q how) q = aWt m0 D q := by unfold aX2; rw [aWt_up (by omega) (by omega) (by omega), aWt_up (by omega) (by omega) (by omega)]
    have hl : aLy (aX2 m0 D F q how) (nI q) c = aLy D (nI q) c := by unfold aX2; rw [aLy_up (by omega), aLy_up (by omega)]
    rw [hw, grd_t g2, show FP.fadd (F (0 + q)) (FP.fdiv (FP.i2f (D (102 + 8 * q + 1))) (FP.i2f (aWt m0 D q))) = aXS m0 D F q from rfl, grd_t g3, rfs_0 hB hq6, bnd_s, R_lying_m hB (n := c) (by unfold aX2; rw [updD_n _ _ (by omega), updD_n _ _ (by omega)]; exact I.c0) (by have := I.c1; omega), bnd_s, hl]
    refine (lett_j (aXF m0 D F q c how) (fun j => ?_)).trans ?_
    · unfold aXF
      rw [rf_0 hB hq6, bnd_s, updD_s, bnd_s, rq_0 hB hq6, bnd_s]
      by_cases h0 : aLy D (nI q) c ≤ 0
      · rw [if_pos h0, if_pos h0]
      · rw [if_neg h0, if_neg h0, grd_t g4, grd_t g5]
    · try dsimp only
      rw [rfs_6 hB hq6, bnd_s, rqs_1 hB hq6, bnd_s, R_puts_k2 hB, bnd_s, R_writes_m hB (k := k) (by unfold aX2; simp (disch := omega) only [updD_n]; exact hk) hk2, bnd_s, mkR_53]
      rw [show aWr (updD (updD (aX2 m0 D F q how) (102 + 8 * q + 1) 0) 2 (-1)) k (nI q) how (D (102 + 8 * q + 1)) = aExD m0 D F q k how from rfl, show updD (updD (updD F 19 (aXR D F q)) (0 + q) (aXS m0 D F q)) (6 + q) (aXF m0 D F q c how) = aExF m0 D F q c how from rfl]
      generalize aExD m0 D F q k how = D'
      generalize aExF m0 D F q c how = F'
      unfold lgX
      by_cases hb0 : B = 0
      · rw [if_pos hb0, if_pos (by rw [hb0]; rfl)]
      · have hy := hy.resolve_left hb0
        have e58 : ∀ m : Mm, gI m 0 58 = gI m0 0 58 → gI (mkR m B D' F') 0 58 = nI y := fun m hm => by rw [mkR_o _ _ _ _ (by omega) (by omega), hm, hy.1]
        rw [if_neg hb0, if_neg (by intro e; have := (nI_eq (by rcases hB with h | h <;> omega) (by decide)).mp (show nI B = nI 0 from e); exact hb0 this), e58 m0 rfl, nM_4, ald_n (by omega) (by omega), ix_nI (by omega), mkR_o _ _ _ _ (by omega) (by omega), mkR_skip _ _ _ _ _ (by omega) (by omega), lett_e, e58 _ (gw_n _ _ _ _ (by omega)), nM_4, nA_1, ald_n (by omega) (by omega), ix_nI (by omega), mkR_skip _ _ _ _ _ (by omega) (by omega), lett_e, e58 _ ((gw_n _ _ _ _ (by omega)).trans (gw_n _ _ _ _ (by omega))), nM_4, nA_2, ald_n (by omega) (by omega), ix_nI (by omega), mkR_skip _ _ _ _ _ (by omega) (by omega), lett_e, e58 _ ((gw_n _ _ _ _ (by omega)).trans ((gw_n _ _ _ _ (by omega)).trans (gw_n _ _ _ _ (by omega)))), nM_4, nA_3, ald_n (by omega) (by omega), ix_nI (by omega), mkR_skip _ _ _ _ _ (by omega) (by omega), lett_e, e58 _ ((gw_n _ _ _ _ (by omega)).trans ((gw_n _ _ _ _ (by omega)).trans ((gw_n _ _ _ _ (by omega)).trans (gw_n _ _ _ _ (by omega))))), nA_1, mkR_skip _ _ _ _ _ (by omega) (by omega), lett_e]
/-! in the class -/
def eKA (E : Mm) (T : Nat) (tick q how sv : Int32) : Mm := sI (sI (sI (sI (sI E 7 (T % 40 * 4) tick) 7 (T % 40 * 4 + 1) q) 7 (T % 40 * 4 + 2) how) 7 (T % 40 * 4 + 3) sv) 6 1 (nI (T + 1))
theorem S_KAdd_m {T : Nat} (hT : gI E 6 1 = nI T) (hT2 : T < 2 ^ 30) (tick q how sv : Int32) : S_KAdd tick q how sv (mkS n E D F) = some (mkS n (eKA E T tick q how sv) D F) := by
  have h40 : T % 40 < 40 := Nat.mod_lt _ (by decide)
  have e6 : ∀ m : Mm, gI m 6 1 = gI E 6 1 → gI (mkS n m D F) 6 1 = nI T := fun m hm => by rw [s6, hm, hT]
  unfold S_KAdd
  rw [e6 E rfl, show (40 : Int32) = nI 40 from rfl, pk_rem (by omega) (by decide) (by decide), nN_4, lett_e, ald_n (by omega) (by omega), ix_nI (by omega), s7w, lett_e, nA_1, ald_n (by omega) (by omega), ix_nI (by omega), s7w, lett_e, nA_2, ald_n (by omega) (by omega), ix_nI (by omega), s7w, lett_e, nA_3, ald_n (by omega) (by omega), ix_nI (by omega), s7w, lett_e, e6 _ ((gw_n _ _ _ _ (by omega)).trans ((gw_n _ _ _ _ (by omega)).trans ((gw_n _ _ _ _ (by omega)).trans (gw_n _ _ _ _ (by omega))))), nA_1, s6w, lett_e]
  rfl
theorem S_after_m (hL : PL m0 n E) (hK : PK m0 n s) (hP : iP m0 n D) (hq : q < n) (x : UInt32) (a : Int32) (g1 : (FP.fdiv (FP.i2f a) (FP.i2f (aWt m0 D q))) &&& 0x7fffffff ≤ 0x7f800000) (g2 : (FP.fadd x (FP.fdiv (FP.i2f a) (FP.i2f (aWt m0 D q)))) &&& 0x7fffffff ≤ 0x7f800000) : S_after x a (nI q) (mkS n E D F) = some (FP.fadd x (FP.fdiv (FP.i2f a) (FP.i2f (aWt m0 D q)))) := by
  have hn := hK.n6
  obtain ⟨w, w1, w2, w3⟩ := aWt_n hK hP hq
  unfold S_after
  rw [S_weightOf_m hL.1 (by omega), bnd_s, lett_e, if_pos (by rw [w1]; exact nI_le w2 (by omega)), grd_t g1, grd_t g2]
theorem S_expire_m (hK : PK m0 n s) (hL : PL m0 n E) (I : Inv m0 n s t u c D F) (h : xH n u t D q) (hX : XR n c E D) {T : Nat} (hT : gI E 6 1 = nI T) (hT2 : T < 2 ^ 30) : S_expire (9 + 2 * q) how (mkS n E D F) = some (mkS n (eKA E T (D 0) (nI q) how (D (102 + 8 * q + 1))) (aExD m0 D F q k how) (aExF m0 D F q c how)) := by
  have hn := hK.n6
  obtain ⟨h2, hq, sv, b, e1, e2, e3, e4⟩ := h
  have hq6 : q < 6 := by omega
  have ht := I.t1
  obtain ⟨⟨r1, r2, r3, r4⟩, ⟨-, g1⟩, -, -, ⟨g2, g3, -⟩, g4, g5, -⟩ := ex_fl hK I ⟨h2, hq, sv, b, e1, e2, e3, e4⟩ how
  have hsv : gI E 0 13 = D (102 + 8 * q + 1) := hX.2.2.2 q hq h2
  have hly := hX.2.1 q hq
  have hw : ∀ v8 v0 : Int32, aWt m0 (updD (updD D 8 v8) (102 + 8 * q + 0) v0) q = aWt m0 D q := fun v8 v0 => by rw [aWt_up (by omega) (by omega) (by omega), aWt_up (by omega) (by omega) (by omega)]
  have hP2 : ∀ v8 v0 : Int32, iP m0 n (updD (updD D 8 v8) (102 + 8 * q + 0) v0) := fun v8 v0 => I.p.cg (fun p hp => by simp (disch := omega) only [updD_n, and_self])
  unfold S_expire
  rw [s0_10, s0_12, lett_e]
  refine (lett_j (mkS n E D (updD F 19 (aXR D F q))) (fun j => ?_)).trans ?_
  · rw [if_neg (by rw [I.t0, e3, pk_sub (by omega)]; exact nI_nle (by omega) (by omega)), sF_9, s0_13, hsv, grd_t r1, grd_t r2, grd_t r3, grd_t r4, sFw_9, lett_e]
    rfl
  · try dsimp only
    unfold S_within S_wanted
    rw [sF_9, updD_s, s0_17, grd_t g1, s20, s20, hL.1.2.2.2.1, hL.1.2.2.2.2.1, gr_mm, le_mm, bnd_s, show aLe (gI m0 0 6) (aGr (gI m0 0 5) (FP.f2i (FP.fmul (aXR D F q) (FP.i2f (D 7))))) = aXT m0 D F q from rfl, s0w_15, lett_e, sQ_3 _ _ _ ⟨hq, hn⟩, s0_13, hsv, updD_n _ _ (show 102 + 8 * q + 0 ≠ 8 by omega)]
    have hN : (if how = 0 then some (D (102 + 8 * q + 0) * 2) else if how = 1 then some (D (102 + 8 * q + 1)) else some (mmaxI (D (102 + 8 * q + 0) / 2) (D (102 + 8 * q + 1)))) = some (aXN D q how) := by
      unfold aXN
      rw [gr_mm', Int32.mul_comm]
      split
      · rfl
      · split <;> rfl
    rw [hN, bnd_s, s20, hL.1.2.2.2.1, s0_15, updD_s, gr_mm, le_mm, bnd_s, sQw_3 _ _ _ ⟨hq, hn⟩, lett_e, s0_11, sQf_0 _ _ _ ⟨hq, hn⟩, s0_13, hsv, updD_n _ _ (show 2 ≠ 102 + 8 * q + 0 by omega), updD_n _ _ (show 2 ≠ 8 by omega), h2, updD_n F _ (show 0 + q ≠ 19 by omega), S_after_m hL hK (hP2 _ _) hq _ _ (by rw [hw]; exact g2) (by rw [hw]; exact g3), bnd_s, hw, show FP.fadd (F (0 + q)) (FP.fdiv (FP.i2f (D (102 + 8 * q + 1))) (FP.i2f (aWt m0 D q))) = aXS m0 D F q from rfl, sQfw_0 _ _ _ ⟨hq, hn⟩, lett_e, sQ_8 _ _ _ ⟨hq, hn⟩, hly]
    refine (lett_j (aXF m0 D F q c how) (fun j => ?_)).trans ?_
    · unfold aXF
      rw [sQf_0 _ _ _ ⟨hq, hn⟩, updD_s, sQ_3 _ _ _ ⟨hq, hn⟩, updD_s, s0_11, updD_n _ _ (show 2 ≠ 102 + 8 * q + 0 by omega), updD_n _ _ (show 2 ≠ 8 by omega), h2]
      unfold aX2 at g4 g5 ⊢
      rw [updD_s] at g4 g5 ⊢
      rw [S_after_m hL hK (hP2 _ _) hq _ _ (by rw [hw]; exact g4) (by rw [hw]; exact g5), bnd_s, hw]
      by_cases h0 : aLy D (nI q) c ≤ 0
      · rw [if_pos h0, if_pos h0]
      · rw [if_neg h0, if_neg h0]
    · try dsimp only
      rw [sQfw_1 _ _ _ ⟨hq, hn⟩, lett_e, s0_10, s0_11, s0_13, hsv, S_KAdd_m hT hT2, bnd_s, s0w_11, lett_e, updD_n _ _ (show 2 ≠ 102 + 8 * q + 0 by omega), updD_n _ _ (show 2 ≠ 8 by omega), h2, updD_n _ _ (show 0 ≠ 102 + 8 * q + 0 by omega), updD_n _ _ (show 0 ≠ 8 by omega)]
      refine congrArg some ?_
      rw [show updD (updD (updD F 19 (aXR D F q)) (0 + q) (aXS m0 D F q)) (6 + q) (aXF m0 D F q c how) = aExF m0 D F q c how from rfl]
      refine mkS_ext (fun j hj => ?_)
      have h150 := dI_150 hj
      have hj9 : j ≠ 9 := by rintro rfl; exact absurd hj (by decide)
      have hj1 : j ≠ 102 + 8 * q + 1 := by
        rintro rfl
        unfold dI at hj
        simp only [Bool.or_eq_true, Bool.and_eq_true, decide_eq_true_eq] at hj
        omega
      unfold aExD
      rw [aWr_o hj9 (by omega)]
      by_cases e : j = 2
      · rw [e, updD_s, updD_s]
      · rw [updD_n _ _ e, updD_n _ _ e, updD_n _ _ hj1]
        rfl
end EXP
