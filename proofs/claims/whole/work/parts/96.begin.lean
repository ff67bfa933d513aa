/-! PURE: a disk as at first, in the class -/
theorem pbegin_m (th : Nat) (i wt fr : Int32) (M : Mm) : ∃ M', C_PBegin th i wt fr M = some M' ∧ (∀ a k, a ≠ th → gI M' a k = gI M a k) ∧ M'.2 = M.2 ∧ gI M' th 0 = wt ∧ gI M' th 1 = 1 ∧ gI M' th 2 = fr ∧ gI M' th 7 = i ∧ (∀ k, (3 ≤ k ∧ k ≤ 6) ∨ (8 ≤ k ∧ k ≤ 13) → gI M' th k = 0) := by
  unfold C_PBegin C_PClearCounts
  simp only [lett_e, bnd_s]
  refine ⟨_, rfl, fun a k h => ?_, rfl, ?_, ?_, ?_, ?_, fun k hk => ?_⟩
  · simp (disch := omega) only [gw_n]
  · simp (disch := omega) only [gw_n, gw_s]
  · simp (disch := omega) only [gw_n, gw_s]
  · simp (disch := omega) only [gw_n, gw_s]
  · simp (disch := omega) only [gw_n, gw_s]
  · rcases (show k = 3 ∨ k = 4 ∨ k = 5 ∨ k = 6 ∨ k = 8 ∨ k = 9 ∨ k = 10 ∨ k = 11 ∨ k = 12 ∨ k = 13 by omega) with rfl | rfl | rfl | rfl | rfl | rfl | rfl | rfl | rfl | rfl <;> simp (disch := omega) only [gw_n, gw_s]
theorem qbegin_m (th : Nat) (bud : Int32) (M : Mm) : ∃ M', C_QBegin th bud M = some M' ∧ (∀ a k, a ≠ th → gI M' a k = gI M a k) ∧ (∀ a k, a ≠ th → gF M' a k = gF M a k) ∧ M'.2.2 = M.2.2 ∧ gI M' th 3 = bud ∧ (∀ k, 4 ≤ k ∧ k ≤ 8 → gI M' th k = 0) ∧ (∀ k, k < 3 → gF M' th k = FP.fconst0) := by
  unfold C_QBegin
  simp only [lett_e]
  refine ⟨_, rfl, fun a k h => ?_, fun a k h => ?_, rfl, ?_, fun k hk => ?_, fun k hk => ?_⟩
  · simp (disch := omega) only [gw_n, gI_sF]
  · simp (disch := omega) only [gF_sI, gfw_n]
  · simp (disch := omega) only [gw_n, gw_s]
  · rcases (show k = 4 ∨ k = 5 ∨ k = 6 ∨ k = 7 ∨ k = 8 by omega) with rfl | rfl | rfl | rfl | rfl <;> simp (disch := omega) only [gw_n, gw_s]
  · rcases (show k = 0 ∨ k = 1 ∨ k = 2 by omega) with rfl | rfl | rfl <;> simp (disch := omega) only [gF_sI, gfw_n, gfw_s]
def bg8 (X : Mm) : Mm := sF (sI (sI (sI (sI X 29 1 0) 32 1 0) 26 6 0) 26 7 0) 26 8 FP.fconst0
def bg12 (P : Nat) (X : Mm) : Mm := sF (bg8 X) 26 9 (FP.i2f (gI (bg8 X) P 2))
def bg17 (P : Nat) (X : Mm) : Mm := sI (sI (sI (sI (sI (bg12 P X) 26 10 0) 26 11 (-1)) 26 12 0) 26 13 0) 26 14 0
def bg21 (P : Nat) (X : Mm) : Mm := sI (bg17 P X) 26 15 (gI (bg17 P X) P 4)
def bg25 (P : Nat) (X : Mm) : Mm := sI (bg21 P X) 26 16 (gI (bg21 P X) P 5)
def bg29 (P : Nat) (X : Mm) : Mm := sI (bg25 P X) 26 17 (gI (bg25 P X) P 6)
def bgF (P : Nat) (X : Mm) : Mm := sI (sI (bg29 P X) 26 18 0) 26 19 0
theorem bg_o {P : Nat} {X : Mm} {a k : Nat} (h1 : a ≠ 26) (h2 : ¬ (a = 29 ∧ k = 1)) (h3 : ¬ (a = 32 ∧ k = 1)) : gI (bg8 X) a k = gI X a k ∧ gI (bg17 P X) a k = gI X a k ∧ gI (bg21 P X) a k = gI X a k ∧ gI (bg25 P X) a k = gI X a k ∧ gI (bgF P X) a k = gI X a k := by
  unfold bgF bg29 bg25 bg21 bg17 bg12 bg8
  simp (disch := omega) only [gw_n, gI_sF, and_self]
theorem bg_v {P : Nat} {X : Mm} (hP : P ≤ 10) : gI (bgF P X) 29 1 = 0 ∧ gI (bgF P X) 32 1 = 0 ∧ gI (bgF P X) 26 11 = -1 ∧ gI (bgF P X) 26 15 = gI X P 4 ∧ gI (bgF P X) 26 16 = gI X P 5 ∧ gI (bgF P X) 26 17 = gI X P 6 ∧ (∀ k, k = 6 ∨ k = 7 ∨ k = 10 ∨ k = 12 ∨ k = 13 ∨ k = 14 ∨ k = 18 ∨ k = 19 → gI (bgF P X) 26 k = 0) ∧ gF (bgF P X) 26 8 = FP.fconst0 ∧ gF (bgF P X) 26 9 = FP.i2f (gI X P 2) := by
  have e4 := (bg_o (P := P) (X := X) (a := P) (k := 4) (by omega) (by omega) (by omega)).2.1
  have e5 := (bg_o (P := P) (X := X) (a := P) (k := 5) (by omega) (by omega) (by omega)).2.2.1
  have e6 := (bg_o (P := P) (X := X) (a := P) (k := 6) (by omega) (by omega) (by omega)).2.2.2.1
  have e2 := (bg_o (P := P) (X := X) (a := P) (k := 2) (by omega) (by omega) (by omega)).1
  unfold bgF bg29 bg25 bg21
  rw [e4]
  unfold bg21 at e5
  rw [e4] at e5
  rw [e5]
  unfold bg25 bg21 at e6
  rw [e4, e5] at e6
  rw [e6]
  unfold bg17 bg12
  rw [e2]
  unfold bg8
  refine ⟨?_, ?_, ?_, ?_, ?_, ?_, fun k hk => ?_, ?_, ?_⟩
  · simp (disch := omega) only [gw_n, gw_s, gI_sF]
  · simp (disch := omega) only [gw_n, gw_s, gI_sF]
  · simp (disch := omega) only [gw_n, gw_s, gI_sF]
  · simp (disch := omega) only [gw_n, gw_s, gI_sF]
  · simp (disch := omega) only [gw_n, gw_s, gI_sF]
  · simp (disch := omega) only [gw_n, gw_s, gI_sF]
  · rcases hk with rfl | rfl | rfl | rfl | rfl | rfl | rfl | rfl <;> simp (disch := omega) only [gw_n, gw_s, gI_sF]
  · simp (disch := omega) only [gF_sI, gfw_n, gfw_s]
  · simp (disch := omega) only [gF_sI, gfw_n, gfw_s]
theorem begin_C {P : Nat} (hP : P = 1 ∨ P = 10) (M : Mm) : ∃ C', C_begin P M = some C' ∧ (∀ p, p < 6 → gI C' (34 + 2 * p) 0 = gI M (P + 3) p ∧ gI C' (34 + 2 * p) 1 = 1 ∧ gI C' (34 + 2 * p) 2 = gI M (P + 4) p ∧ gI C' (34 + 2 * p) 7 = nI p ∧ ∀ k, (3 ≤ k ∧ k ≤ 6) ∨ (8 ≤ k ∧ k ≤ 13) → gI C' (34 + 2 * p) k = 0) ∧ (∀ p, p < 6 → gI C' (35 + 2 * p) 3 = (gI M P 3 + gI M P 4) / 2 ∧ (∀ k, 4 ≤ k ∧ k ≤ 8 → gI C' (35 + 2 * p) k = 0) ∧ ∀ k, k < 3 → gF C' (35 + 2 * p) k = FP.fconst0) ∧ (gI C' 29 1 = 0 ∧ gI C' 32 1 = 0 ∧ gI C' 26 11 = -1 ∧ gI C' 26 15 = gI M P 4 ∧ gI C' 26 16 = gI M P 5 ∧ gI C' 26 17 = gI M P 6 ∧ (∀ k, k = 6 ∨ k = 7 ∨ k = 10 ∨ k = 12 ∨ k = 13 ∨ k = 14 ∨ k = 18 ∨ k = 19 → gI C' 26 k = 0) ∧ gF C' 26 8 = FP.fconst0 ∧ gF C' 26 9 = FP.i2f (gI M P 2)) ∧ gR C' 26 0 = some P ∧ (∀ a k, a < 26 ∨ 46 ≤ a → gI C' a k = gI M a k) ∧ (∀ a k, a < 26 ∨ 46 ≤ a → gF C' a k = gF M a k) ∧ (∀ a k, gL C' a k = gL M a k) ∧ ∀ a k, ¬ (a = 26 ∧ k = 0) → gR C' a k = gR M a k := by
  have hP10 : P ≤ 10 := by omega
  have hsh := shC_P hP
  obtain ⟨g, g0, gI', gS⟩ := seqN (α := Mm) (fun i x => (∀ p, p < i → gI x (34 + 2 * p) 0 = gI M (P + 3) p ∧ gI x (34 + 2 * p) 1 = 1 ∧ gI x (34 + 2 * p) 2 = gI M (P + 4) p ∧ gI x (34 + 2 * p) 7 = nI p ∧ ∀ k, (3 ≤ k ∧ k ≤ 6) ∨ (8 ≤ k ∧ k ≤ 13) → gI x (34 + 2 * p) k = 0) ∧ (∀ p, p < i → gI x (35 + 2 * p) 3 = (gI M P 3 + gI M P 4) / 2 ∧ (∀ k, 4 ≤ k ∧ k ≤ 8 → gI x (35 + 2 * p) k = 0) ∧ ∀ k, k < 3 → gF x (35 + 2 * p) k = FP.fconst0) ∧ (∀ a k, a < 34 ∨ 34 + 2 * i ≤ a → gI x a k = gI M a k) ∧ (∀ a k, a < 34 ∨ 34 + 2 * i ≤ a → gF x a k = gF M a k) ∧ x.2.2 = (sR M 26 0 (some P)).2.2) (fun i x y => ∃ M40, C_PBegin (34 + 2 * i) (nI i) (gI x (P + 3) i) (gI x (P + 4) i) x = some M40 ∧ C_QBegin (35 + 2 * i) ((gI M40 P 3 + gI M40 P 4) / 2) M40 = some y ∧ gR x 26 0 = some P ∧ gR M40 26 0 = some P) (a := sR M 26 0 (some P)) ⟨fun p hp => absurd hp (by omega), fun p hp => absurd hp (by omega), fun _ _ _ => rfl, fun _ _ _ => rfl, rfl⟩ 6 (fun i x hi hI => by
    obtain ⟨i1, i2, i3, i4, i5⟩ := hI
    obtain ⟨M40, a1, a2, a3, a4, a5, a6, a7, a8⟩ := pbegin_m (34 + 2 * i) (nI i) (gI x (P + 3) i) (gI x (P + 4) i) x
    obtain ⟨y, b1, b2, b3, b4, b5, b6, b7⟩ := qbegin_m (35 + 2 * i) ((gI M40 P 3 + gI M40 P 4) / 2) M40
    have r0 : gR x 26 0 = some P := by
      show x.2.2.2 26 0 = some P
      rw [i5]; rfl
    have f40 : ∀ a k, gF M40 a k = gF x a k := fun a k => by
      show M40.2.1 a k = x.2.1 a k
      rw [a3]
    refine ⟨y, ⟨M40, a1, b1, r0, ?_⟩, fun p hp => ?_, fun p hp => ?_, fun a k h => ?_, fun a k h => ?_, ?_⟩
    · show M40.2.2.2 26 0 = some P
      rw [a3]
      exact r0
    · by_cases e : p = i
      · subst e
        rw [b2 _ _ (by omega), b2 _ _ (by omega), b2 _ _ (by omega), b2 _ _ (by omega), a4, a5, a6, a7, i3 _ _ (by omega), i3 _ _ (by omega)]
        refine ⟨rfl, rfl, rfl, rfl, fun k hk => ?_⟩
        rw [b2 _ _ (by omega)]
        exact a8 k hk
      · have q : ∀ k, gI y (34 + 2 * p) k = gI x (34 + 2 * p) k := fun k => (b2 _ _ (by omega)).trans (a2 _ _ (by omega))
        rw [q, q, q, q]
        obtain ⟨j1, j2, j3, j4, j5⟩ := i1 p (by omega)
        exact ⟨j1, j2, j3, j4, fun k hk => (q k).trans (j5 k hk)⟩
    · by_cases e : p = i
      · subst e
        refine ⟨?_, b6, b7⟩
        rw [b5, a2 _ _ (by omega), a2 _ _ (by omega), i3 _ _ (by omega), i3 _ _ (by omega)]
      · have q : ∀ k, gI y (35 + 2 * p) k = gI x (35 + 2 * p) k := fun k => (b2 _ _ (by omega)).trans (a2 _ _ (by omega))
        obtain ⟨j1, j2, j3⟩ := i2 p (by omega)
        exact ⟨(q 3).trans j1, fun k hk => (q k).trans (j2 k hk), fun k hk => ((b3 _ _ (by omega)).trans (f40 _ _)).trans (j3 k hk)⟩
    · rw [b2 _ _ (by omega), a2 _ _ (by omega)]
      exact i3 a k (by omega)
    · rw [b3 _ _ (by omega), f40]
      exact i4 a k (by omega)
    · rw [b4, a3]
      exact i5)
  obtain ⟨A1, A2, A3, A4, A5⟩ := gI' 6 (Nat.le_refl _)
  have r6 : gR (g 6) 26 0 = some P := by
    show (g 6).2.2.2 26 0 = some P
    rw [A5]; rfl
  obtain ⟨v1, v2, v3, v4, v5, v6, v7, v8, v9⟩ := bg_v (P := P) (X := g 6) hP10
  have o : ∀ a k, a ≠ 26 → ¬ (a = 29 ∧ k = 1) → ¬ (a = 32 ∧ k = 1) → gI (bgF P (g 6)) a k = gI (g 6) a k := fun a k h1 h2 h3 => (bg_o h1 h2 h3).2.2.2.2
  have oF : ∀ a k, ¬ (a = 26 ∧ (k = 8 ∨ k = 9)) → gF (bgF P (g 6)) a k = gF (g 6) a k := fun a k h => by
    unfold bgF bg29 bg25 bg21 bg17 bg12 bg8
    simp (disch := omega) only [gF_sI, gfw_n]
  have q22 : (bgF P (g 6)).2.2 = (sR M 26 0 (some P)).2.2 := A5
  refine ⟨bgF P (g 6), ?_, fun p hp => ?_, fun p hp => ?_, ⟨v1, v2, v3, ?_, ?_, ?_, v7, v8, ?_⟩, r6, fun a k h => ?_, fun a k h => ?_, fun a k => ?_, fun a k h => ?_⟩
  · unfold C_begin
    rw [lett_e, lett_e, lett_e]
    refine loopR_sq (fun i => (nI i, g i)) 6 (by omega) (by rw [g0]; rfl) (fun i hi rec => ?_) (fun rec => ?_)
    · obtain ⟨M40, s1, s2, s3, s4⟩ := gS i hi
      dsimp only
      rw [if_neg (le_f 6 6 rfl (by omega) (by omega)), ald_n (by omega) (by omega), lett_e, s3, nn_s, grd_t hsh, ald_n (by omega) (by omega), lett_e, nn_s, grd_t hsh, ald_n (by omega) (by omega), ix_nI (by omega), s1, bnd_s, ald_n (by omega) (by omega), lett_e, s4, nn_s, grd_t hsh, lett_e, nn_s, grd_t hsh, s2, bnd_s, lett_e, nA_1]
    · dsimp only
      rw [if_pos (by decide)]
      simp only [lett_e, gR_sI, gR_sF, r6, nn_s, grd_t hsh]
      rfl
  · obtain ⟨j1, j2, j3, j4, j5⟩ := A1 p hp
    rw [o _ _ (by omega) (by omega) (by omega), o _ _ (by omega) (by omega) (by omega), o _ _ (by omega) (by omega) (by omega), o _ _ (by omega) (by omega) (by omega)]
    exact ⟨j1, j2, j3, j4, fun k hk => (o _ _ (by omega) (by omega) (by omega)).trans (j5 k hk)⟩
  · obtain ⟨j1, j2, j3⟩ := A2 p hp
    exact ⟨(o _ _ (by omega) (by omega) (by omega)).trans j1, fun k hk => (o _ _ (by omega) (by omega) (by omega)).trans (j2 k hk), fun k hk => (oF _ _ (by omega)).trans (j3 k hk)⟩
  · rw [v4, A3 _ _ (by omega)]
  · rw [v5, A3 _ _ (by omega)]
  · rw [v6, A3 _ _ (by omega)]
  · rw [v9, A3 _ _ (by omega)]
  · rw [o _ _ (by omega) (by omega) (by omega)]
    exact A3 _ _ (by omega)
  · rw [oF _ _ (by omega)]
    exact A4 _ _ (by omega)
  · show (bgF P (g 6)).2.2.1 a k = M.2.2.1 a k
    rw [q22]; rfl
  · show (bgF P (g 6)).2.2.2 a k = M.2.2.2 a k
    rw [q22]
    exact if_neg h
/-! in the reference -/
def zr16 (M : Mm) (i : Nat) : Mm := (fun a x => if a = 16 ∧ x < i then 0 else M.1 a x, M.2)
def zr17 (M : Mm) (i : Nat) : Mm := (M.1, fun a x => if a = 17 ∧ x < i then FP.fconst0 else M.2.1 a x, M.2.2)
theorem zr16_s (M : Mm) (i : Nat) : sI (zr16 M i) 16 i 0 = zr16 M (i + 1) := by
  refine Prod.ext (funext fun a => funext fun k => ?_) rfl
  show (if a = 16 ∧ k = i then 0 else if a = 16 ∧ k < i then 0 else M.1 a k) = if a = 16 ∧ k < i + 1 then 0 else M.1 a k
  by_cases h1 : a = 16 ∧ k = i
  · rw [if_pos h1, if_pos (by omega)]
  · rw [if_neg h1]
    by_cases h2 : a = 16 ∧ k < i
    · rw [if_pos h2, if_pos (by omega)]
    · rw [if_neg h2, if_neg (by omega)]
theorem zr17_s (M : Mm) (i : Nat) : sF (zr17 M i) 17 i FP.fconst0 = zr17 M (i + 1) := by
  refine Prod.ext rfl (Prod.ext (funext fun a => funext fun k => ?_) rfl)
  show (if a = 17 ∧ k = i then FP.fconst0 else if a = 17 ∧ k < i then FP.fconst0 else M.2.1 a k) = if a = 17 ∧ k < i + 1 then FP.fconst0 else M.2.1 a k
  by_cases h1 : a = 17 ∧ k = i
  · rw [if_pos h1, if_pos (by omega)]
  · rw [if_neg h1]
    by_cases h2 : a = 17 ∧ k < i
    · rw [if_pos h2, if_pos (by omega)]
    · rw [if_neg h2, if_neg (by omega)]
theorem zr_mk (R : Mm) : zr17 (zr16 (R0 R) 758) 20 = mkR R 0 (fun _ => 0) (fun _ => FP.fconst0) := by
  refine Prod.ext (funext fun a => funext fun k => ?_) (Prod.ext (funext fun a => funext fun k => ?_) rfl)
  · show (if a = 16 ∧ k < 758 then 0 else if a = 16 ∧ 0 ≤ k ∧ k < 0 + 758 then R.1 16 (k - 0) else if a = 0 ∧ k = 53 then nI 0 else if a = 0 ∧ k = 54 then nI (pB 0) else R.1 a k) = if a = 16 ∧ 0 ≤ k ∧ k < 0 + 758 then 0 else if a = 0 ∧ k = 53 then nI 0 else if a = 0 ∧ k = 54 then nI (pB 0) else R.1 a k
    by_cases h : a = 16 ∧ k < 758
    · rw [if_pos h, if_pos (show a = 16 ∧ 0 ≤ k ∧ k < 0 + 758 by omega)]
    · have h' : ¬ (a = 16 ∧ 0 ≤ k ∧ k < 0 + 758) := by omega
      rw [if_neg h, if_neg h', if_neg h']
  · show (if a = 17 ∧ k < 20 then FP.fconst0 else if a = 17 ∧ pB 0 ≤ k ∧ k < pB 0 + 20 then R.2.1 17 (k - pB 0) else R.2.1 a k) = if a = 17 ∧ pB 0 ≤ k ∧ k < pB 0 + 20 then FP.fconst0 else R.2.1 a k
    rw [show pB 0 = 0 from rfl]
    by_cases h : a = 17 ∧ k < 20
    · rw [if_pos h, if_pos (show a = 17 ∧ 0 ≤ k ∧ k < 0 + 20 by omega)]
    · have h' : ¬ (a = 17 ∧ 0 ≤ k ∧ k < 0 + 20) := by omega
      rw [if_neg h, if_neg h', if_neg h']
/-- what the flat state holds behind its beginning -/
def Bg (n : Nat) (hi bud : Int32) (fr : Nat → Int32) (D : Nat → Int32) : Prop := D 2 = -1 ∧ D 8 = hi ∧ (∀ p, p < n → D (18 + 14 * p + 1) = fr p ∧ D (18 + 14 * p + 6) = nI p ∧ D (102 + 8 * p + 0) = bud) ∧ ∀ j, j ≠ 2 → j ≠ 8 → (∀ p, p < n → j ≠ 18 + 14 * p + 1 ∧ j ≠ 18 + 14 * p + 6 ∧ j ≠ 102 + 8 * p + 0) → D j = 0
theorem begins_m {R : Mm} {n : Nat} (hn : gI R 0 1 = nI n) (n6 : n ≤ 6) : ∃ D, R_begins R = some (mkR R 0 D (updD (fun _ => FP.fconst0) 19 (FP.i2f (gI R 0 4)))) ∧ Bg n (gI R 0 6) ((gI R 0 5 + gI R 0 6) / 2) (gI R 2) D := by
  have hB : BB 0 := Or.inl rfl
  obtain ⟨g, g0, gI', gS⟩ := seqN (α := Nat → Int32) (fun i D => Bg i (gI R 0 6) ((gI R 0 5 + gI R 0 6) / 2) (gI R 2) D) (fun i D D' => D' = updD (updD (updD D (18 + 14 * i + 1) (gI R 2 i)) (18 + 14 * i + 6) (nI i)) (102 + 8 * i + 0) ((gI R 0 5 + gI R 0 6) / 2)) (a := updD (updD (fun _ => 0) 2 (-1)) 8 (gI R 0 6)) ⟨by rw [updD_n _ _ (by omega), updD_s], updD_s _ _ _, fun p hp => absurd hp (by omega), fun j h1 h2 _ => by rw [updD_n _ _ h2, updD_n _ _ h1]⟩ n (fun i D hi hI => by
    obtain ⟨i1, i2, i3, i4⟩ := hI
    refine ⟨_, rfl, ?_, ?_, fun p hp => ?_, fun j h1 h2 h3 => ?_⟩
    · rw [updD_n _ _ (by omega), updD_n _ _ (by omega), updD_n _ _ (by omega)]; exact i1
    · rw [updD_n _ _ (by omega), updD_n _ _ (by omega), updD_n _ _ (by omega)]; exact i2
    · by_cases e : p = i
      · subst e
        refine ⟨?_, ?_, updD_s _ _ _⟩
        · rw [updD_n _ _ (by omega), updD_n _ _ (by omega), updD_s]
        · rw [updD_n _ _ (by omega), updD_s]
      · obtain ⟨j1, j2, j3⟩ := i3 p (by omega)
        refine ⟨?_, ?_, ?_⟩
        · rw [updD_n _ _ (by omega), updD_n _ _ (by omega), updD_n _ _ (by omega)]; exact j1
        · rw [updD_n _ _ (by omega), updD_n _ _ (by omega), updD_n _ _ (by omega)]; exact j2
        · rw [updD_n _ _ (by omega), updD_n _ _ (by omega), updD_n _ _ (by omega)]; exact j3
    · have h4 := h3 i (by omega)
      rw [updD_n _ _ h4.2.2, updD_n _ _ h4.2.1, updD_n _ _ h4.1]
      exact i4 j h1 h2 (fun p hp => h3 p (by omega)))
  refine ⟨g n, ?_, gI' n (Nat.le_refl _)⟩
  unfold R_begins
  rw [R_isNow_e, bnd_s, lett_e, lett_e]
  refine loopR_sq (fun i => (nI i, zr16 (R0 R) i)) 758 (by omega) ?_ (fun i hi rec => ?_) (fun rec => ?_)
  · show (nI 0, R0 R) = (nI 0, zr16 (R0 R) 0)
    refine congrArg _ (Prod.ext (funext fun a => funext fun k => ?_) rfl)
    show (R0 R).1 a k = if a = 16 ∧ k < 0 then 0 else (R0 R).1 a k
    rw [if_neg (by omega)]
  · dsimp only
    rw [if_neg (le_f 758 758 rfl (by omega) (by omega)), ald_n (by omega) (by omega), ix_nI (by omega), lett_e, lett_e, nA_1, zr16_s]
  · dsimp only
    rw [if_pos (by decide), lett_e, lett_e]
    refine loopR_sq (fun i => (nI i, zr17 (zr16 (R0 R) 758) i)) 20 (by omega) ?_ (fun i hi rec => ?_) (fun rec => ?_)
    · show (nI 0, zr16 (R0 R) 758) = (nI 0, zr17 (zr16 (R0 R) 758) 0)
      refine congrArg _ (Prod.ext rfl (Prod.ext (funext fun a => funext fun k => ?_) rfl))
      show (zr16 (R0 R) 758).2.1 a k = if a = 17 ∧ k < 0 then FP.fconst0 else (zr16 (R0 R) 758).2.1 a k
      rw [if_neg (by omega)]
    · dsimp only
      rw [if_neg (le_f 20 20 rfl (by omega) (by omega)), ald_n (by omega) (by omega), ix_nI (by omega), lett_e, lett_e, nA_1, zr17_s]
    · have k0 : ∀ D F k, k ≠ 53 → k ≠ 54 → gI (mkR R 0 D F) 0 k = gI R 0 k := fun D F k h1 h2 => mkR_o _ _ _ _ (by omega) (by omega)
      have k2 : ∀ D F k, gI (mkR R 0 D F) 2 k = gI R 2 k := fun D F k => mkR_o _ _ _ _ (by omega) (by omega)
      dsimp only
      rw [if_pos (by decide), zr_mk, k0 _ _ 4 (by omega) (by omega), R_setsPart_k19 hB, bnd_s, R_puts_k2 hB, bnd_s, k0 _ _ 6 (by omega) (by omega), R_puts_k8 hB, bnd_s, lett_e]
      refine loopR_sq (fun i => (nI i, mkR R 0 (g i) (updD (fun _ => FP.fconst0) 19 (FP.i2f (gI R 0 4))))) n (by omega) (by rw [g0]; rfl) (fun i hi rec => ?_) (fun rec => ?_)
      · dsimp only
        rw [k0 _ _ 1 (by omega) (by omega), hn, if_neg (nI_ge hi (by omega)), ald_n (by omega) (by omega), ix_nI (by omega), k2, rs_1 hB (by omega), bnd_s, rs_6 hB (by omega), bnd_s, k0 _ _ 5 (by omega) (by omega), k0 _ _ 6 (by omega) (by omega), rqs_0 hB (by omega), bnd_s, lett_e, nA_1, gS i hi]
      · dsimp only
        rw [k0 _ _ 1 (by omega) (by omega), hn, if_pos (nI_le (Nat.le_refl _) (by omega))]
