/-! PURE: what asking keeps -/
theorem i32_inc {x : Int32} (h : x.toInt < 2147483647) : (x + 1).toInt = x.toInt + 1 := by
  have h1 := x.le_toInt
  have h2 : (1 : Int32).toInt = 1 := by decide
  rw [Int32.toInt_add, h2, Int.bmod_eq_of_le (by omega) (by omega)]
theorem i32_dec {x : Int32} (h : -2147483648 < x.toInt) : (x - 1).toInt = x.toInt - 1 := by
  have h1 := x.toInt_lt
  have h2 : (1 : Int32).toInt = 1 := by decide
  rw [Int32.toInt_sub, h2, Int.bmod_eq_of_le (by omega) (by omega)]
def tk (h x : Int32) : Int32 := if h = 0 then x else -1
def xRow (E : Mm) (a : Nat) (i : Nat) (f : Nat → Int32) : Prop := gI E a i = f 1 ∧ gI E a (i + 1) = f 2 ∧ gI E a (i + 2) = f 3 ∧ gI E a (i + 3) = f 4 ∧ gI E a (i + 4) = tk (f 5) (f 6)
/-- rows, how many lie, what it is busy with, served: the class's own places -/
def xW (c : Nat) (E : Mm) (D : Nat → Int32) : Prop := ∀ r, r < c → xRow E 4 (6 * r) (fun k => D (150 + 7 * r + k)) ∧ gI E 4 (6 * r + 5) = D (150 + 7 * r)
def xY (n c : Nat) (E : Mm) (D : Nat → Int32) : Prop := ∀ q, q < n → gI E (9 + 2 * q) 8 = aLy D (nI q) c
def xB (E : Mm) (D : Nat → Int32) : Prop := 0 < D 5 → xRow E 5 0 (fun k => D (11 + k))
def xS (n : Nat) (E : Mm) (D : Nat → Int32) : Prop := ∀ a, a < n → D 2 = nI a → gI E 0 13 = D (102 + 8 * a + 1)
def XR (n c : Nat) (E : Mm) (D : Nat → Int32) : Prop := xW c E D ∧ xY n c E D ∧ xB E D ∧ xS n E D
section UPS
variable {m0 : Mm} {D : Nat → Int32} {F : Nat → UInt32} {j p q c : Nat} {v : Int32}
theorem aRt_up {sec : Int32} (h1 : j ≠ 18 + 14 * p + 6) (h2 : j ≠ 18 + 14 * p + 7) (h3 : j ≠ 2) (h4 : j < 102 ∨ 150 ≤ j) (hd : ix (D 2) < 6) (hv : ix (D (18 + 14 * p + 6)) < 6) : aRt m0 (updD D j v) p sec = ((aRt m0 D p sec).1, updD (aRt m0 D p sec).2 j v) := by
  unfold aRt
  rw [updD_n D v (Ne.symm h1), updD_n D v (Ne.symm h3), updD_n D v (Ne.symm h2), updD_n D v (show 102 + 8 * ix (D 2) + 2 ≠ j by omega), updD_n D v (show 102 + 8 * ix (D (18 + 14 * p + 6)) + 2 ≠ j by omega)]
  repeat' split
  all_goals first | rfl | (dsimp only; rw [updD_c D _ _ h1, updD_c _ _ _ h2]) | (dsimp only; rw [updD_c D _ _ h2, updD_c _ _ _ h2, updD_c _ _ _ h1]) | (dsimp only; rw [updD_c D _ _ h2])
theorem aD2_up {sec many : Int32} (h1 : j ≠ 18 + 14 * p + 6) (h2 : j ≠ 18 + 14 * p + 7) (h3 : j ≠ 2) (h5 : j ≠ 18 + 14 * p + 3) (h4 : j < 102 ∨ 150 ≤ j) (hd : ix (D 2) < 6) (hv : ix (D (18 + 14 * p + 6)) < 6) : aD2 m0 (updD D j v) p sec many = updD (aD2 m0 D p sec many) j v ∧ (aRt m0 (updD (updD D j v) (18 + 14 * p + 3) (sec + many)) p sec).1 = (aRt m0 (updD D (18 + 14 * p + 3) (sec + many)) p sec).1 := by
  unfold aD2
  rw [updD_c D _ _ h5, aRt_up h1 h2 h3 h4 (by rw [updD_n _ _ (by omega)]; exact hd) (by rw [updD_n _ _ (by omega)]; exact hv)]
  exact ⟨rfl, rfl⟩
theorem aJ_up {sec many : Int32} (h1 : j ≠ 102 + 8 * q + 3) (h2 : j ≠ 102 + 8 * q + 2) : aJ m0 (updD D j v) q sec many = updD (aJ m0 D q sec many) j v := by
  unfold aJ
  rw [updD_n _ _ (Ne.symm h1), updD_n _ _ (Ne.symm h2), updD_c D _ _ h1, updD_c _ _ _ h2]
theorem aLy_up (h : j < 150) (x : Int32) : aLy (updD D j v) x c = aLy D x c := aLy_cg (fun r _ => updD_n _ _ (by omega))
theorem aWk1_up (h1 : j ≠ 0) (h2 : j ≠ 102 + 8 * q + 4) (h3 : j ≠ 102 + 8 * q + 5) : aWk1 m0 (updD D j v) q = updD (aWk1 m0 D q) j v := by
  unfold aWk1
  rw [updD_n _ _ (Ne.symm h1), updD_n _ _ (Ne.symm h2)]
  split
  · rfl
  · rw [updD_c D _ _ h3]
theorem aD4_up (h : j < 150) (h1 : j ≠ 0) (h0 : j ≠ 2) (h2 : j ≠ 102 + 8 * q + 4) (h3 : j ≠ 102 + 8 * q + 5) : aD4 m0 (updD D j v) q c = updD (aD4 m0 D q c) j v := by
  unfold aD4
  rw [aLy_up h, updD_n _ _ (Ne.symm h0), aWk1_up h1 h2 h3]
  split <;> rfl
theorem aRow_up {sec many hand think : Int32} (h : j < 150) (h0 : j ≠ 0) (h1 : j ≠ 10) (h2 : j ≠ 18 + 14 * p + 5) : aRow (updD D j v) c p q sec many hand think = updD (aRow D c p q sec many hand think) j v := by
  unfold aRow
  rw [updD_n _ _ (Ne.symm h0), updD_n _ _ (Ne.symm h2), updD_c D _ _ h2, updD_c _ _ _ (show j ≠ 150 + 7 * c + 0 by omega), updD_c _ _ _ (show j ≠ 150 + 7 * c + 1 by omega), updD_c _ _ _ (show j ≠ 150 + 7 * c + 2 by omega), updD_c _ _ _ (show j ≠ 150 + 7 * c + 3 by omega), updD_c _ _ _ (show j ≠ 150 + 7 * c + 4 by omega), updD_c _ _ _ (show j ≠ 150 + 7 * c + 5 by omega), updD_c _ _ _ (show j ≠ 150 + 7 * c + 6 by omega), updD_c _ _ _ h1]
theorem aAskD_up {sec many hand think : Int32} (hj : 18 ≤ j ∧ j < 102) (h1 : j ≠ 18 + 14 * p + 6) (h2 : j ≠ 18 + 14 * p + 7) (h3 : j ≠ 18 + 14 * p + 3) (h5 : j ≠ 18 + 14 * p + 5) (hd : ix (D 2) < 6) (hv : ix (D (18 + 14 * p + 6)) < 6) : aAskD m0 (updD D j v) c p q sec many hand think = updD (aAskD m0 D c p q sec many hand think) j v := by
  unfold aAskD
  rw [(aD2_up h1 h2 (by omega) h3 (by omega) hd hv).1, aJ_up (by omega) (by omega), aD4_up (by omega) (by omega) (by omega) (by omega) (by omega), aRow_up (by omega) (by omega) (by omega) h5]
theorem aMn_up {ly : Int32} (h0 : j ≠ 0) (h2 : j ≠ 2) (h5 : j ≠ 5) (h4 : j ≠ 102 + 8 * q + 4) : aMn m0 (updD D j v) F q ly = aMn m0 D F q ly := by
  unfold aMn aMnV
  rw [updD_n _ _ (Ne.symm h0), updD_n _ _ (Ne.symm h2), updD_n _ _ (Ne.symm h5), updD_n _ _ (Ne.symm h4)]
theorem aWkF_up (h0 : j ≠ 0) (h1 : j ≠ 102 + 8 * q + 0) (h5 : j ≠ 102 + 8 * q + 5) (h3 : j ≠ 18 + 14 * q + 0) : aWkF m0 (updD D j v) F q = aWkF m0 D F q := by
  unfold aWkF aWt
  rw [updD_n _ _ (Ne.symm h0), updD_n _ _ (Ne.symm h1), updD_n _ _ (Ne.symm h5), updD_n _ _ (Ne.symm h3)]
theorem aAskF_up {sec many : Int32} (hj : 18 ≤ j ∧ j < 102) (h1 : j ≠ 18 + 14 * p + 6) (h2 : j ≠ 18 + 14 * p + 7) (h3 : j ≠ 18 + 14 * p + 3) (h0 : j ≠ 18 + 14 * q + 0) (hd : ix (D 2) < 6) (hv : ix (D (18 + 14 * p + 6)) < 6) : aAskF m0 (updD D j v) F c p q sec many = aAskF m0 D F c p q sec many := by
  unfold aAskF aF2
  rw [(aD2_up h1 h2 (by omega) h3 (by omega) hd hv).1, aJ_up (by omega) (by omega), aLy_up (by omega), updD_n _ _ (by omega), aMn_up (by omega) (by omega) (by omega) (by omega), aWk1_up (by omega) (by omega) (by omega), aWkF_up (by omega) (by omega) (by omega) h0]
end UPS
section ASKED
variable {m0 : Mm} {n s t u c : Nat} {D : Nat → Int32} {F : Nat → UInt32} {E : Mm} {p q a b : Nat} {hand think : Int32}
theorem aAskD_lo {j : Nat} {sec many : Int32} (h1 : j ≠ 10) (h2 : j ≠ 18 + 14 * p + 5) (h3 : j ≠ 18 + 14 * p + 3) (h4 : j ≠ 18 + 14 * p + 6) (h5 : j ≠ 18 + 14 * p + 7) (h6 : j ≠ 102 + 8 * q + 5) (h7 : j ≠ 102 + 8 * q + 3) (h8 : j ≠ 102 + 8 * q + 2) (hj : j < 150 + 7 * c) : aAskD m0 D c p q sec many hand think j = D j := by
  unfold aAskD aRow
  simp (disch := omega) only [updD_n, aD4_o, aJ_o, aD2_o]
theorem aAskD_out {sec many : Int32} (hp : p < 6) (hq : q < 6) : aAskD m0 D c p q sec many hand think (18 + 14 * p + 5) = D (18 + 14 * p + 5) + 1 := by
  unfold aAskD aRow
  simp (disch := omega) only [updD_n, updD_s, aD4_o, aJ_o, aD2_o]
theorem aAskD_row {sec many : Int32} (hp : p < 6) (hq : q < 6) : aAskD m0 D c p q sec many hand think (150 + 7 * c + 0) = nI q ∧ aAskD m0 D c p q sec many hand think (150 + 7 * c + 1) = sec ∧ aAskD m0 D c p q sec many hand think (150 + 7 * c + 2) = many ∧ aAskD m0 D c p q sec many hand think (150 + 7 * c + 3) = nI p ∧ aAskD m0 D c p q sec many hand think (150 + 7 * c + 4) = D 0 ∧ aAskD m0 D c p q sec many hand think (150 + 7 * c + 5) = hand ∧ aAskD m0 D c p q sec many hand think (150 + 7 * c + 6) = think ∧ aAskD m0 D c p q sec many hand think 10 = nI (c + 1) := by
  unfold aAskD aRow
  simp (disch := omega) only [updD_n, updD_s, aD4_o, aJ_o, aD2_o, and_self]
theorem ask_G (hn : n ≤ 6) (hG : iG n t c D) (hp : p < n) (hq : q < n) (hc : c < 54) {sec many : Int32} : iG n t (c + 1) (aAskD m0 D c p q sec many hand think) := by
  obtain ⟨g1, g2, g3, g4, g5, g6, g7, g8, g9⟩ := hG
  unfold iG
  rw [(aAskD_row (m0 := m0) (D := D) (c := c) (hand := hand) (think := think) (sec := sec) (many := many) (show p < 6 by omega) (show q < 6 by omega)).2.2.2.2.2.2.2]
  simp (disch := omega) only [aAskD_lo]
  exact ⟨g1, g2, g3, g4, g5, g6, trivial, by omega, g9⟩
theorem ask_P (hn : n ≤ 6) (hP : iP m0 n D) (hp : p < n) (hq : q < n) (hab : a + b < 10064) (hq1 : (aRt m0 (updD D (18 + 14 * p + 3) (nI a + nI b)) p (nI a)).1 = nI q) : iP m0 n (aAskD m0 D c p q (nI a) (nI b) hand think) := by
  intro k hk
  obtain ⟨h1, h2, h3, h4, h5, h6⟩ := hP k hk
  by_cases e : k = p
  · subst e
    have e3 : aAskD m0 D c k q (nI a) (nI b) hand think (18 + 14 * k + 3) = nI (a + b) := by
      unfold aAskD aRow
      simp (disch := omega) only [updD_n, aD4_o, aJ_o]
      unfold aD2
      rw [aRt_o (by omega) (by omega), updD_s, nI_add]
    have e6 : aAskD m0 D c k q (nI a) (nI b) hand think (18 + 14 * k + 6) = nI q := by
      unfold aAskD aRow
      simp (disch := omega) only [updD_n, aD4_o, aJ_o]
      exact aRt_6.trans hq1
    rw [e3, e6]
    simp (disch := omega) only [aAskD_lo]
    exact ⟨h1, h2, ⟨a + b, hab, rfl⟩, h4, ⟨q, hq, rfl⟩, h6⟩
  · simp (disch := omega) only [aAskD_lo]
    exact ⟨h1, h2, h3, h4, h5, h6⟩
theorem ask_Q (hn : n ≤ 6) (hQ : iQ n t D) (hp : p < n) (hab : a + b < 10064) : iQ n t (aAskD m0 D c p q (nI a) (nI b) hand think) := by
  have h2 : iQ n t (aD2 m0 D p (nI a) (nI b)) := hQ.cg (fun k hk => by simp (disch := omega) only [aD2_o, and_self])
  refine (iQ_J (m0 := m0) (q := q) h2 hab).cg (fun k hk => ?_)
  unfold aAskD aRow
  simp (disch := omega) only [updD_n, aD4_o, and_self]
theorem ask_R (hn : n ≤ 6) (hG : iG n t c D) (hR : iR n s t c D) (hp : p < n) (hq : q < n) (hb : 1 ≤ b ∧ b ≤ 64) (hab : a + b ≤ s) (hh : isN 2 hand) (hth : isN 201 think) : iR n s t (c + 1) (aAskD m0 D c p q (nI a) (nI b) hand think) := by
  intro r hr
  by_cases e : r = c
  · subst e
    obtain ⟨x0, x1, x2, x3, x4, x5, x6, -⟩ := aAskD_row (m0 := m0) (D := D) (c := r) (hand := hand) (think := think) (sec := nI a) (many := nI b) (show p < 6 by omega) (show q < 6 by omega)
    unfold okRow
    dsimp only
    rw [x0, x1, x2, x3, x4, x5, x6, hG.1]
    exact ⟨⟨q, hq, rfl⟩, ⟨a, b, hb.1, hb.2, hab, rfl, rfl⟩, ⟨p, hp, rfl⟩, ⟨t, by omega, rfl⟩, hh, hth⟩
  · refine (hR r (by omega)).cg (fun k hk => ?_)
    simp (disch := omega) only [aAskD_lo]
theorem ask_B (hn : n ≤ 6) (hB : iB n s u D) (hp : p < n) {sec many : Int32} : iB n s u (aAskD m0 D c p q sec many hand think) := hB.cg (fun j hj => aAskD_lo (by omega) (by omega) (by omega) (by omega) (by omega) (by omega) (by omega) (by omega) (by omega))
theorem ask_A (hn : n ≤ 6) (hA : iA n u D) (hp : p < n) {sec many : Int32} : iA n u (aAskD m0 D c p q sec many hand think) := hA.cg (fun j hj => aAskD_lo (by omega) (by omega) (by omega) (by omega) (by omega) (by omega) (by omega) (by omega) (by omega)) (fun k hk => aAskD_lo (by omega) (by omega) (by omega) (by omega) (by omega) (by omega) (by omega) (by omega) (by omega))
theorem ask_F (hK : PK m0 n s) (hF : FB F) (hG : iG n t c D) (hP : iP m0 n D) (hQ : iQ n t D) (hp : p < n) (hq : q < n) (hab : a + b < 10064) : FB (aAskF m0 D F c p q (nI a) (nI b)) := by
  have hn := hK.n6
  have h2 : iQ n t (aD2 m0 D p (nI a) (nI b)) := hQ.cg (fun k hk => by simp (disch := omega) only [aD2_o, and_self])
  have h3 := iQ_J (m0 := m0) (q := q) h2 hab
  have h0 : aJ m0 (aD2 m0 D p (nI a) (nI b)) q (nI a) (nI b) 0 = nI t := by rw [aJ_o (by omega) (by omega), aD2_o (by omega) (by omega) (by omega)]; exact hG.1
  have hw : ∀ k, k < n → aJ m0 (aD2 m0 D p (nI a) (nI b)) q (nI a) (nI b) (18 + 14 * k + 0) = D (18 + 14 * k + 0) := fun k hk => by rw [aJ_o (by omega) (by omega), aD2_o (by omega) (by omega) (by omega)]
  unfold aAskF aF2
  generalize aJ m0 (aD2 m0 D p (nI a) (nI b)) q (nI a) (nI b) = D3 at h3 h0 hw ⊢
  have hm := aMn_fb (m0 := m0) hF h3 h0 hG.2.2.2.2.2.2.2.2 hq hn (aLy D3 (nI q) c)
  split
  · generalize aMn m0 D3 F q (aLy D3 (nI q) c) = F1 at hm ⊢
    have h1 := aWkS_le hm (q := q) (by omega)
    have hb : isR 1 1000 (aWk1 m0 D3 q (102 + 8 * q + 0)) := by rw [aWk1_o (by omega)]; exact (h3 q hq).1
    obtain ⟨v, v1, v2, v3⟩ := hb
    obtain ⟨x1, x2, x3, x4⟩ := (hP q hq).1
    obtain ⟨y1, y2, y3, y4⟩ := hK.raise
    have hw : ∃ w, aWt m0 (aWk1 m0 D3 q) q = nI w ∧ 1 ≤ w ∧ w ≤ 2000 := by
      unfold aWt
      rw [aWk1_o (show 18 + 14 * q + 0 ≠ 102 + 8 * q + 5 by omega), hw q hq, x4, y4]
      split
      · exact ⟨x1, by rw [Int32.mul_one], x2, by omega⟩
      · exact ⟨x1 * y1, pk_mul x1 y1, Nat.mul_le_mul x2 y2, Nat.le_trans (Nat.mul_le_mul (Nat.le_of_lt_succ x3) (Nat.le_of_lt_succ y3)) (by decide)⟩
    obtain ⟨w, w1, w2, w3⟩ := hw
    unfold aWkF
    rw [v3, w1]
    refine ⟨fun j hj => ?_, fun j hj => ?_, ?_, ?_⟩
    · by_cases h : j = 6 + q
      · subst h; rw [updD_s]; exact fl_add h1 (by omega) (by omega) (by omega)
      · rw [updD_n _ _ h]
        by_cases h : j = 0 + q
        · subst h; rw [updD_s]; exact h1
        · rw [updD_n _ _ h]; exact hm.1 j hj
    · rw [updD_n _ _ (by omega), updD_n _ _ (by omega)]; exact hm.2.1 j hj
    · rw [updD_n _ _ (by omega), updD_n _ _ (by omega)]; exact hm.2.2.1
    · rw [updD_n _ _ (by omega), updD_n _ _ (by omega)]; exact hm.2.2.2
  · exact hm
theorem ask_O (hn : n ≤ 6) (hP : iP m0 n D) (hO : iO n c D) (hp : p < n) (hq : q < n) {sec many : Int32} : outS (aAskD m0 D c p q sec many hand think) n = ((c + 1 : Nat) : Int) + (if 0 < aAskD m0 D c p q sec many hand think 5 then 1 else 0) ∧ ∀ k, k < n → aAskD m0 D c p q sec many hand think (18 + 14 * k + 2) = D (18 + 14 * k + 2) ∧ (aAskD m0 D c p q sec many hand think (18 + 14 * k + 5)).toInt = (D (18 + 14 * k + 5)).toInt + (if k = p then 1 else 0) := by
  have hlt : (D (18 + 14 * p + 5)).toInt ≤ 9 := by
    have h1 := hO.2 p hp
    obtain ⟨w, w1, w2⟩ := (hP p hp).2.1
    rw [w2, nI_toInt (by omega)] at h1
    omega
  have e5 : aAskD m0 D c p q sec many hand think 5 = D 5 := aAskD_lo (by omega) (by omega) (by omega) (by omega) (by omega) (by omega) (by omega) (by omega) (by omega)
  refine ⟨?_, fun k hk => ⟨aAskD_lo (by omega) (by omega) (by omega) (by omega) (by omega) (by omega) (by omega) (by omega) (by omega), ?_⟩⟩
  · rw [outS.cg (D := updD D (18 + 14 * p + 5) (D (18 + 14 * p + 5) + 1)) (fun k hk => ?_), outS.up hp, i32_inc (by omega), hO.1, e5]
    · omega
    · by_cases e : k = p
      · subst e; rw [aAskD_out (by omega) (by omega), updD_s]
      · rw [aAskD_lo (by omega) (by omega) (by omega) (by omega) (by omega) (by omega) (by omega) (by omega) (by omega), updD_n _ _ (by omega)]
  · by_cases e : k = p
    · subst e; rw [aAskD_out (by omega) (by omega), i32_inc (by omega), if_pos rfl]
    · rw [aAskD_lo (by omega) (by omega) (by omega) (by omega) (by omega) (by omega) (by omega) (by omega) (by omega), if_neg e]; omega
theorem ask_X (hn : n ≤ 6) (hX : XR n c E D) (hp : p < n) (hq : q < n) : XR n (c + 1) (eRow E c p q (nI a) (nI b) (D 0) (tk hand think)) (aAskD m0 D c p q (nI a) (nI b) hand think) := by
  obtain ⟨hW, hY, hB, hS⟩ := hX
  obtain ⟨x0, x1, x2, x3, x4, x5, x6, -⟩ := aAskD_row (m0 := m0) (D := D) (c := c) (hand := hand) (think := think) (sec := nI a) (many := nI b) (show p < 6 by omega) (show q < 6 by omega)
  refine ⟨fun r hr => ?_, fun k hk => ?_, fun h5 => ?_, fun k hk h2 => ?_⟩
  · by_cases e : r = c
    · subst e
      unfold xRow eRow
      rw [show 150 + 7 * r = 150 + 7 * r + 0 from rfl, x0, show 6 * r = r * 6 + 0 by omega]
      try dsimp only
      rw [x1, x2, x3, x4, x5, x6]
      simp (disch := omega) only [gw_n, gw_s, Nat.add_zero, and_self]
    · obtain ⟨⟨w1, w2, w3, w4, w5⟩, w6⟩ := hW r (by omega)
      unfold xRow eRow
      dsimp only at w1 w2 w3 w4 w5 ⊢
      simp (disch := omega) only [gw_n, aAskD_lo]
      exact ⟨⟨w1, w2, w3, w4, w5⟩, w6⟩
  · have hc : aLy (aAskD m0 D c p q (nI a) (nI b) hand think) (nI k) (c + 1) = aLy D (nI k) c + (if nI q = nI k then 1 else 0) := by
      show aLy (aAskD m0 D c p q (nI a) (nI b) hand think) (nI k) c + _ = _
      rw [show 150 + 7 * c = 150 + 7 * c + 0 from rfl, x0, aLy_cg (D := D) (fun r hr => aAskD_lo (by omega) (by omega) (by omega) (by omega) (by omega) (by omega) (by omega) (by omega) (by omega))]
    rw [hc]
    unfold eRow
    by_cases e : k = q
    · subst e
      rw [gw_s, if_pos rfl, hY k hk]
    · rw [if_neg (by rw [nI_eq (by omega) (by omega)]; exact fun h => e h.symm), Int32.add_zero]
      simp (disch := omega) only [gw_n]
      exact hY k hk
  · have e5 : aAskD m0 D c p q (nI a) (nI b) hand think 5 = D 5 := aAskD_lo (by omega) (by omega) (by omega) (by omega) (by omega) (by omega) (by omega) (by omega) (by omega)
    rw [e5] at h5
    obtain ⟨w1, w2, w3, w4, w5⟩ := hB h5
    unfold xRow eRow
    dsimp only at w1 w2 w3 w4 w5 ⊢
    simp (disch := omega) only [gw_n, aAskD_lo]
    exact ⟨w1, w2, w3, w4, w5⟩
  · rw [aAskD_lo (by omega) (by omega) (by omega) (by omega) (by omega) (by omega) (by omega) (by omega) (by omega)] at h2 ⊢
    unfold eRow
    simp (disch := omega) only [gw_n]
    exact hS k hk h2
theorem ask_L (hL : PL m0 n E) (hq : q < 5 + 1) {sec many tick th : Int32} : PL m0 n (eRow E c p q sec many tick th) := by
  unfold eRow
  exact (((((((hL.w _ (by omega)).w _ (by omega)).w _ (by omega)).w _ (by omega)).w _ (by omega)).w _ (by omega)).w _ (by omega))
end ASKED
