/-! PURE: a process asks -/
def aJ (m0 : Mm) (D : Nat → Int32) (q : Nat) (sec many : Int32) : Nat → Int32 :=
  updD (updD D (102 + 8 * q + 3) ((2 * D (102 + 8 * q + 3) + (if aAway sec (D (102 + 8 * q + 2)) ≤ gI m0 0 7 then 0 else 1)) &&& 255)) (102 + 8 * q + 2) (sec + many)
theorem aJ_e (m0 : Mm) (D : Nat → Int32) (q : Nat) (sec many : Int32) : updD (updD D (102 + 8 * q + 3) ((2 * D (102 + 8 * q + 3) + (if aAway sec (D (102 + 8 * q + 2)) ≤ gI m0 0 7 then 0 else 1)) &&& 255)) (102 + 8 * q + 2) (sec + many) = aJ m0 D q sec many := rfl
def aMnV (D : Nat → Int32) (F : Nat → UInt32) (q : Nat) : UInt32 := FP.fadd (FP.fmul (F (12 + q)) 1063256064) (FP.fmul (FP.i2f (D 0 - D (102 + 8 * q + 4))) 1040187392)
def aMn (m0 : Mm) (D : Nat → Int32) (F : Nat → UInt32) (q : Nat) (ly : Int32) : Nat → UInt32 :=
  if ly ≤ 0 ∧ ¬ (D 2 = nI q ∧ 0 < D 5) ∧ gI m0 3 q = 0 ∧ ¬ D (102 + 8 * q + 4) = 0 then updD F (12 + q) (aMnV D F q) else F
def aWk1 (m0 : Mm) (D : Nat → Int32) (q : Nat) : Nat → Int32 := if D 0 - D (102 + 8 * q + 4) < gI m0 0 10 then D else updD D (102 + 8 * q + 5) (D 0 + gI m0 0 9)
def aWkS (F : Nat → UInt32) (q : Nat) : UInt32 := if Op.cmpValue (FP.fcmp (F 18) (F (6 + q))) .l ≤ 0 then F (6 + q) else F 18
def aWkF (m0 : Mm) (D : Nat → Int32) (F : Nat → UInt32) (q : Nat) : Nat → UInt32 := updD (updD F (0 + q) (aWkS F q)) (6 + q) (FP.fadd (aWkS F q) (FP.fdiv (FP.i2f (D (102 + 8 * q + 0))) (FP.i2f (aWt m0 D q))))
def aRow (D : Nat → Int32) (c p q : Nat) (sec many hand think : Int32) : Nat → Int32 :=
  updD (updD (updD (updD (updD (updD (updD (updD (updD D (18 + 14 * p + 5) (D (18 + 14 * p + 5) + 1)) (150 + 7 * c + 0) (nI q)) (150 + 7 * c + 1) sec) (150 + 7 * c + 2) many) (150 + 7 * c + 3) (nI p)) (150 + 7 * c + 4) (D 0)) (150 + 7 * c + 5) hand) (150 + 7 * c + 6) think) 10 (nI (c + 1))
def aD2 (m0 : Mm) (D : Nat → Int32) (p : Nat) (sec many : Int32) : Nat → Int32 := (aRt m0 (updD D (18 + 14 * p + 3) (sec + many)) p sec).2
def aD4 (m0 : Mm) (D : Nat → Int32) (q c : Nat) : Nat → Int32 := if aLy D (nI q) c ≤ 0 ∧ ¬ D 2 = nI q then aWk1 m0 D q else D
def aF2 (m0 : Mm) (D : Nat → Int32) (F : Nat → UInt32) (q c : Nat) : Nat → UInt32 := if aLy D (nI q) c ≤ 0 ∧ ¬ D 2 = nI q then aWkF m0 (aWk1 m0 D q) (aMn m0 D F q (aLy D (nI q) c)) q else aMn m0 D F q (aLy D (nI q) c)
def aAskD (m0 : Mm) (D : Nat → Int32) (c p q : Nat) (sec many hand think : Int32) : Nat → Int32 := aRow (aD4 m0 (aJ m0 (aD2 m0 D p sec many) q sec many) q c) c p q sec many hand think
def aAskF (m0 : Mm) (D : Nat → Int32) (F : Nat → UInt32) (c p q : Nat) (sec many : Int32) : Nat → UInt32 := aF2 m0 (aJ m0 (aD2 m0 D p sec many) q sec many) F q c
/-- how many of the first c rows are of a queue -/
def cnt (D : Nat → Int32) (q : Int32) : Nat → Nat
  | 0 => 0
  | r + 1 => cnt D q r + (if D (150 + 7 * r) = q then 1 else 0)
theorem cnt_s (D : Nat → Int32) (q : Int32) (c : Nat) : cnt D q (c + 1) = cnt D q c + (if D (150 + 7 * c) = q then 1 else 0) := rfl
theorem cnt_le (D : Nat → Int32) (q : Int32) (c : Nat) : cnt D q c ≤ c := by
  induction c with
  | zero => exact Nat.le_refl _
  | succ c ih => rw [cnt_s]; split <;> omega
theorem aLy_s (D : Nat → Int32) (q : Int32) (c : Nat) : aLy D q (c + 1) = aLy D q c + (if D (150 + 7 * c) = q then 1 else 0) := rfl
theorem aLy_cnt (D : Nat → Int32) (q : Int32) (c : Nat) : aLy D q c = nI (cnt D q c) := by
  induction c with
  | zero => rfl
  | succ c ih =>
    rw [aLy_s, cnt_s, ih]
    split
    · rw [nI_1]
    · rw [Nat.add_zero, Int32.add_zero]
theorem cnt_cg {D D' : Nat → Int32} {q : Int32} {c : Nat} (h : ∀ r, r < c → D' (150 + 7 * r) = D (150 + 7 * r)) : cnt D' q c = cnt D q c := by
  induction c with
  | zero => rfl
  | succ c ih => rw [cnt_s, cnt_s, ih (fun r hr => h r (by omega)), h c (by omega)]
theorem aLy_cg {D D' : Nat → Int32} {q : Int32} {c : Nat} (h : ∀ r, r < c → D' (150 + 7 * r) = D (150 + 7 * r)) : aLy D' q c = aLy D q c := by rw [aLy_cnt, aLy_cnt, cnt_cg h]
section ASK1
variable {m0 : Mm} {n : Nat} {D : Nat → Int32}
theorem aRt_o {p j : Nat} {sec : Int32} (h1 : j ≠ 18 + 14 * p + 6) (h2 : j ≠ 18 + 14 * p + 7) : (aRt m0 D p sec).2 j = D j := by
  unfold aRt
  repeat' split
  all_goals first | rfl | (dsimp only; simp only [updD_n _ _ h1, updD_n _ _ h2])
theorem aRt_6 {p : Nat} {sec : Int32} : (aRt m0 D p sec).2 (18 + 14 * p + 6) = (aRt m0 D p sec).1 := by
  unfold aRt
  by_cases h : D (18 + 14 * p + 6) = nI p
  · rw [if_pos h]
    repeat' split
    all_goals first | exact h | (dsimp only; rw [updD_n _ _ (by omega), updD_s])
  · rw [if_neg h]
    repeat' split
    all_goals first | (dsimp only; rw [updD_n _ _ (by omega)]; done) | (dsimp only; rw [updD_s])
theorem aRt_q {p : Nat} {sec : Int32} (hp : p < n) (hv : isN n (D (18 + 14 * p + 6))) (ha : D 2 = -1 ∨ isN n (D 2)) : isN n (aRt m0 D p sec).1 := by
  unfold aRt
  repeat' split
  all_goals first | exact ⟨p, hp, rfl⟩ | exact hv | exact ha.resolve_left (by assumption)
theorem aD2_o {p j : Nat} {sec many : Int32} (h1 : j ≠ 18 + 14 * p + 6) (h2 : j ≠ 18 + 14 * p + 7) (h3 : j ≠ 18 + 14 * p + 3) : aD2 m0 D p sec many j = D j := by
  unfold aD2
  rw [aRt_o h1 h2, updD_n _ _ h3]
theorem aJ_o {q j : Nat} {sec many : Int32} (h1 : j ≠ 102 + 8 * q + 3) (h2 : j ≠ 102 + 8 * q + 2) : aJ m0 D q sec many j = D j := by
  unfold aJ
  rw [updD_n _ _ h2, updD_n _ _ h1]
theorem aWk1_o {q j : Nat} (h1 : j ≠ 102 + 8 * q + 5) : aWk1 m0 D q j = D j := by
  unfold aWk1
  split
  · rfl
  · rw [updD_n _ _ h1]
theorem aD4_o {q c j : Nat} (h1 : j ≠ 102 + 8 * q + 5) : aD4 m0 D q c j = D j := by
  unfold aD4
  split
  · exact aWk1_o h1
  · rfl
end ASK1
section ASK2
variable {m0 : Mm} {B : Nat} {n s t u c : Nat} {D : Nat → Int32} {F : Nat → UInt32}
theorem mkR_010 (k : Nat) (hk : k < 53) : gI (mkR m0 B D F) 0 k = gI m0 0 k := mkR_0 _ _ _ _ hk
/-- what the mean is made of -/
theorem aMn_ok (hF : FB F) (hQ : iQ n t D) (hD : D 0 = nI t) (ht : t < 16000) {q : Nat} (hq : q < n) (hn : n ≤ 6) : (FP.fmul (F (12 + q)) 1063256064) &&& 0x7fffffff ≤ 0x7f800000 ∧ (FP.fmul (FP.i2f (D 0 - D (102 + 8 * q + 4))) 1040187392) &&& 0x7fffffff ≤ 0x7f800000 ∧ (FP.fadd (FP.fmul (F (12 + q)) 1063256064) (FP.fmul (FP.i2f (D 0 - D (102 + 8 * q + 4))) 1040187392)) &&& 0x7fffffff ≤ 0x7f800000 ∧ (aMnV D F q).toNat ≤ 1182793728 := by
  obtain ⟨l, l1, l2⟩ := (hQ q hq).2.2.2
  unfold aMnV
  rw [hD, l2, pk_sub (by omega)]
  have h1 := hF.2.1 q (by omega)
  exact ⟨f_ok (fl_mean1 h1) (by decide), f_ok (fl_mean2 (by omega)) (by decide), f_ok (fl_mean h1 (by omega)) (by decide), fl_mean h1 (by omega)⟩
theorem aMn_fb (hF : FB F) (hQ : iQ n t D) (hD : D 0 = nI t) (ht : t < 16000) {q : Nat} (hq : q < n) (hn : n ≤ 6) (ly : Int32) : FB (aMn m0 D F q ly) := by
  unfold aMn
  split
  · refine ⟨fun j hj => ?_, fun j hj => ?_, ?_, ?_⟩
    · rw [updD_n _ _ (by omega)]; exact hF.1 j hj
    · by_cases h : j = q
      · subst h; rw [updD_s]; exact (aMn_ok hF hQ hD ht hq hn).2.2.2
      · rw [updD_n _ _ (by omega)]; exact hF.2.1 j hj
    · rw [updD_n _ _ (by omega)]; exact hF.2.2.1
    · rw [updD_n _ _ (by omega)]; exact hF.2.2.2
  · exact hF
theorem aWkS_le (hF : FB F) {q : Nat} (hq : q < 6) : (aWkS F q).toNat ≤ 1358954496 := by
  unfold aWkS
  split
  · exact hF.1 _ (by omega)
  · exact hF.2.2.1
theorem aWk_ok (hK : PK m0 n s) (hP : iP m0 n D) (hQ : iQ n t D) {x : UInt32} (hx : x.toNat ≤ 1358954496) {q : Nat} (hq : q < n) : (FP.fdiv (FP.i2f (D (102 + 8 * q + 0))) (FP.i2f (aWt m0 D q))) &&& 0x7fffffff ≤ 0x7f800000 ∧ (FP.fadd x (FP.fdiv (FP.i2f (D (102 + 8 * q + 0))) (FP.i2f (aWt m0 D q)))) &&& 0x7fffffff ≤ 0x7f800000 ∧ (FP.fadd x (FP.fdiv (FP.i2f (D (102 + 8 * q + 0))) (FP.i2f (aWt m0 D q)))).toNat ≤ 1358954496 := by
  obtain ⟨b, b1, b2, b3⟩ := (hQ q hq).1
  obtain ⟨w, w1, w2, w3⟩ := aWt_n hK hP hq
  rw [b3, w1]
  exact ⟨f_ok (fl_q (by omega) (by omega) (by omega)) (by decide), f_ok (fl_add hx (by omega) (by omega) (by omega)) (by decide), fl_add hx (by omega) (by omega) (by omega)⟩
theorem aWkF_fb (hK : PK m0 n s) (hP : iP m0 n D) (hQ : iQ n t D) (hF : FB F) {q : Nat} (hq : q < n) : FB (aWkF m0 D F q) := by
  have hn := hK.n6
  have h1 := aWkS_le hF (q := q) (by omega)
  have h2 := aWk_ok hK hP hQ h1 hq
  unfold aWkF
  refine ⟨fun j hj => ?_, fun j hj => ?_, ?_, ?_⟩
  · by_cases h : j = 6 + q
    · subst h; rw [updD_s]; exact h2.2.2
    · rw [updD_n _ _ h]
      by_cases h : j = 0 + q
      · subst h; rw [updD_s]; exact h1
      · rw [updD_n _ _ h]; exact hF.1 j hj
  · rw [updD_n _ _ (by omega), updD_n _ _ (by omega)]; exact hF.2.1 j hj
  · rw [updD_n _ _ (by omega), updD_n _ _ (by omega)]; exact hF.2.2.1
  · rw [updD_n _ _ (by omega), updD_n _ _ (by omega)]; exact hF.2.2.2
end ASK2
