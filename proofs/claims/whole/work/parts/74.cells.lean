/-! PURE: cells of a state of the class -/
section CELL
variable {m0 : Mm} {n s t c B P : Nat} {D : Nat → Int32} {F : Nat → UInt32} {MC : Mm}
theorem StR.g6 (h : StR m0 n s t c D F MC B P) : gI MC B 6 = D 5 := h.2.1 0 6 5 rfl
theorem StR.g7 (h : StR m0 n s t c D F MC B P) : gI MC B 7 = D 1 := h.2.1 0 7 1 rfl
theorem StR.g10 (h : StR m0 n s t c D F MC B P) : gI MC B 10 = D 0 := h.2.1 0 10 0 rfl
theorem StR.g11 (h : StR m0 n s t c D F MC B P) : gI MC B 11 = D 2 := h.2.1 0 11 2 rfl
theorem StR.g12 (h : StR m0 n s t c D F MC B P) : gI MC B 12 = D 3 := h.2.1 0 12 3 rfl
theorem StR.g14 (h : StR m0 n s t c D F MC B P) : gI MC B 14 = D 4 := h.2.1 0 14 4 rfl
theorem StR.g15 (h : StR m0 n s t c D F MC B P) : gI MC B 15 = D 8 := h.2.1 0 15 8 rfl
theorem StR.g16 (h : StR m0 n s t c D F MC B P) : gI MC B 16 = D 6 := h.2.1 0 16 6 rfl
theorem StR.g17 (h : StR m0 n s t c D F MC B P) : gI MC B 17 = D 7 := h.2.1 0 17 7 rfl
theorem StR.c1 (h : StR m0 n s t c D F MC B P) {b : Nat} (hb : b = B + 3) : gI MC b 1 = D 10 := hb ▸ h.2.1 3 1 10 rfl
theorem StR.f8 (h : StR m0 n s t c D F MC B P) : gF MC B 8 = F 18 := h.2.2.1 0 8 18 rfl
theorem StR.f9 (h : StR m0 n s t c D F MC B P) : gF MC B 9 = F 19 := h.2.2.1 0 9 19 rfl
theorem StR.P0 (h : StR m0 n s t c D F MC B P) {b i : Nat} (hb : b = B + 8) (hi : i < n ∧ n ≤ 6) : gI MC (b + 2 * i) 0 = D (18 + 14 * i + 0) := by rw [hb, Nat.add_assoc]; exact h.2.1 _ _ _ (lP_0 hi)
theorem StR.P1 (h : StR m0 n s t c D F MC B P) {b i : Nat} (hb : b = B + 8) (hi : i < n ∧ n ≤ 6) : gI MC (b + 2 * i) 1 = D (18 + 14 * i + 8) := by rw [hb, Nat.add_assoc]; exact h.2.1 _ _ _ (lP_1 hi)
theorem StR.P2 (h : StR m0 n s t c D F MC B P) {b i : Nat} (hb : b = B + 8) (hi : i < n ∧ n ≤ 6) : gI MC (b + 2 * i) 2 = D (18 + 14 * i + 1) := by rw [hb, Nat.add_assoc]; exact h.2.1 _ _ _ (lP_2 hi)
theorem StR.P3 (h : StR m0 n s t c D F MC B P) {b i : Nat} (hb : b = B + 8) (hi : i < n ∧ n ≤ 6) : gI MC (b + 2 * i) 3 = D (18 + 14 * i + 2) := by rw [hb, Nat.add_assoc]; exact h.2.1 _ _ _ (lP_3 hi)
theorem StR.P4 (h : StR m0 n s t c D F MC B P) {b i : Nat} (hb : b = B + 8) (hi : i < n ∧ n ≤ 6) : gI MC (b + 2 * i) 4 = D (18 + 14 * i + 3) := by rw [hb, Nat.add_assoc]; exact h.2.1 _ _ _ (lP_4 hi)
theorem StR.P5 (h : StR m0 n s t c D F MC B P) {b i : Nat} (hb : b = B + 8) (hi : i < n ∧ n ≤ 6) : gI MC (b + 2 * i) 5 = D (18 + 14 * i + 4) := by rw [hb, Nat.add_assoc]; exact h.2.1 _ _ _ (lP_5 hi)
theorem StR.P6 (h : StR m0 n s t c D F MC B P) {b i : Nat} (hb : b = B + 8) (hi : i < n ∧ n ≤ 6) : gI MC (b + 2 * i) 6 = D (18 + 14 * i + 5) := by rw [hb, Nat.add_assoc]; exact h.2.1 _ _ _ (lP_6 hi)
theorem StR.P7 (h : StR m0 n s t c D F MC B P) {b i : Nat} (hb : b = B + 8) (hi : i < n ∧ n ≤ 6) : gI MC (b + 2 * i) 7 = D (18 + 14 * i + 6) := by rw [hb, Nat.add_assoc]; exact h.2.1 _ _ _ (lP_7 hi)
theorem StR.P8 (h : StR m0 n s t c D F MC B P) {b i : Nat} (hb : b = B + 8) (hi : i < n ∧ n ≤ 6) : gI MC (b + 2 * i) 8 = D (18 + 14 * i + 7) := by rw [hb, Nat.add_assoc]; exact h.2.1 _ _ _ (lP_8 hi)
theorem StR.Q3 (h : StR m0 n s t c D F MC B P) {b i : Nat} (hb : b = B + 9) (hi : i < n ∧ n ≤ 6) : gI MC (b + 2 * i) 3 = D (102 + 8 * i + 0) := by rw [hb, Nat.add_assoc]; exact h.2.1 _ _ _ (lQ_3 hi)
theorem StR.Q4 (h : StR m0 n s t c D F MC B P) {b i : Nat} (hb : b = B + 9) (hi : i < n ∧ n ≤ 6) : gI MC (b + 2 * i) 4 = D (102 + 8 * i + 2) := by rw [hb, Nat.add_assoc]; exact h.2.1 _ _ _ (lQ_4 hi)
theorem StR.Q5 (h : StR m0 n s t c D F MC B P) {b i : Nat} (hb : b = B + 9) (hi : i < n ∧ n ≤ 6) : gI MC (b + 2 * i) 5 = D (102 + 8 * i + 3) := by rw [hb, Nat.add_assoc]; exact h.2.1 _ _ _ (lQ_5 hi)
theorem StR.Q6 (h : StR m0 n s t c D F MC B P) {b i : Nat} (hb : b = B + 9) (hi : i < n ∧ n ≤ 6) : gI MC (b + 2 * i) 6 = D (102 + 8 * i + 4) := by rw [hb, Nat.add_assoc]; exact h.2.1 _ _ _ (lQ_6 hi)
theorem StR.Q7 (h : StR m0 n s t c D F MC B P) {b i : Nat} (hb : b = B + 9) (hi : i < n ∧ n ≤ 6) : gI MC (b + 2 * i) 7 = D (102 + 8 * i + 5) := by rw [hb, Nat.add_assoc]; exact h.2.1 _ _ _ (lQ_7 hi)
theorem StR.F0 (h : StR m0 n s t c D F MC B P) {b i : Nat} (hb : b = B + 9) (hi : i < n ∧ n ≤ 6) : gF MC (b + 2 * i) 0 = F (0 + i) := by rw [hb, Nat.add_assoc]; exact h.2.2.1 _ _ _ (lF_0 hi)
theorem StR.F1 (h : StR m0 n s t c D F MC B P) {b i : Nat} (hb : b = B + 9) (hi : i < n ∧ n ≤ 6) : gF MC (b + 2 * i) 1 = F (6 + i) := by rw [hb, Nat.add_assoc]; exact h.2.2.1 _ _ _ (lF_1 hi)
theorem StR.F2 (h : StR m0 n s t c D F MC B P) {b i : Nat} (hb : b = B + 9) (hi : i < n ∧ n ≤ 6) : gF MC (b + 2 * i) 2 = F (12 + i) := by rw [hb, Nat.add_assoc]; exact h.2.2.1 _ _ _ (lF_2 hi)
theorem StR.P9 (h : StR m0 n s t c D F MC B P) {b i : Nat} (hb : b = B + 8) (hi : i < n) : gI MC (b + 2 * i) 9 = D (18 + 14 * i + 9) := by
  have hn := h.1.1.n6
  have e := (h.1.2.2.2.2.1.2 i hi).1.1
  rw [sb_I, em_lo (by omega)] at e
  rw [hb, Nat.add_assoc]
  exact e
theorem StR.P10 (h : StR m0 n s t c D F MC B P) {b i : Nat} (hb : b = B + 8) (hi : i < n) : gI MC (b + 2 * i) 10 = D (18 + 14 * i + 10) := by
  have hn := h.1.1.n6
  have e := (h.1.2.2.2.2.1.2 i hi).1.2.1
  rw [sb_I, em_lo (by omega)] at e
  rw [hb, Nat.add_assoc]
  exact e
theorem StR.P11 (h : StR m0 n s t c D F MC B P) {b i : Nat} (hb : b = B + 8) (hi : i < n) : gI MC (b + 2 * i) 11 = D (18 + 14 * i + 11) := by
  have hn := h.1.1.n6
  have e := (h.1.2.2.2.2.1.2 i hi).1.2.2.1
  rw [sb_I, em_lo (by omega)] at e
  rw [hb, Nat.add_assoc]
  exact e
theorem StR.P12 (h : StR m0 n s t c D F MC B P) {b i : Nat} (hb : b = B + 8) (hi : i < n) : gI MC (b + 2 * i) 12 = D (18 + 14 * i + 12) := by
  have hn := h.1.1.n6
  have e := (h.1.2.2.2.2.1.2 i hi).1.2.2.2
  rw [sb_I, em_lo (by omega)] at e
  rw [hb, Nat.add_assoc]
  exact e
theorem StR.Q8 (h : StR m0 n s t c D F MC B P) {b i : Nat} (hb : b = B + 9) (hi : i < n) : gI MC (b + 2 * i) 8 = aLy D (nI i) c := by
  have hn := h.1.1.n6
  have e := h.1.2.2.2.1.2.1 i hi
  rw [sb_I, em_lo (by omega)] at e
  rw [hb, Nat.add_assoc]
  exact e
theorem StR.pl (h : StR m0 n s t c D F MC B P) : gR MC B 0 = some P := h.2.2.2
theorem StR.K (h : StR m0 n s t c D F MC B P) : PK m0 n s := h.1.1
theorem StR.L (h : StR m0 n s t c D F MC B P) : PL m0 n (sbM (emS B P) MC) := h.1.2.1
theorem StR.I (h : StR m0 n s t c D F MC B P) : Inv m0 n s t t c D F := h.1.2.2.1
theorem StR.X (h : StR m0 n s t c D F MC B P) : XR n c (sbM (emS B P) MC) D := h.1.2.2.2.1
theorem StR.CT (h : StR m0 n s t c D F MC B P) : CTR n t D (sbM (emS B P) MC) := h.1.2.2.2.2.1
theorem StR.KR (h : StR m0 n s t c D F MC B P) : KR t D (sbM (emS B P) MC) := h.1.2.2.2.2.2
end CELL
theorem plnS_e {ρ : Type} {C : Mm} {B P : Nat} (g : Nat → Option ρ) (h : gR C B 0 = some P) (hP : P = 1 ∨ P = 10) : plnS C B g = g P := by
  unfold plnS
  rw [h, nn_s, grd_t hP]
