/-! PURE: what was read becomes the plan -/
section TELLS
variable {R : Mm}
def cpA (a b : Nat) (X : Mm) (i : Nat) : Mm := (fun a1 x => if a1 = a ∧ x < i then X.1 b x else X.1 a1 x, X.2)
theorem cpA_I (a b : Nat) (X : Mm) (i a1 x : Nat) : gI (cpA a b X i) a1 x = if a1 = a ∧ x < i then gI X b x else gI X a1 x := rfl
theorem cpA_0 (a b : Nat) (X : Mm) : cpA a b X 0 = X := by
  refine Prod.ext (funext fun a1 => funext fun x => ?_) rfl
  show (if a1 = a ∧ x < 0 then X.1 b x else X.1 a1 x) = X.1 a1 x
  rw [if_neg (by omega)]
theorem cpA_s {a b : Nat} (X : Mm) (i : Nat) (v : Int32) (hv : v = gI X b i) : sI (cpA a b X i) a i v = cpA a b X (i + 1) := by
  subst hv
  refine Prod.ext (funext fun a1 => funext fun x => ?_) rfl
  show (if a1 = a ∧ x = i then X.1 b i else if a1 = a ∧ x < i then X.1 b x else X.1 a1 x) = if a1 = a ∧ x < i + 1 then X.1 b x else X.1 a1 x
  by_cases h1 : a1 = a ∧ x = i
  · rw [if_pos h1, if_pos (by omega), h1.2]
  · rw [if_neg h1]
    by_cases h2 : a1 = a ∧ x < i
    · rw [if_pos h2, if_pos (by omega)]
    · rw [if_neg h2, if_neg (by omega)]
def tl3 (X : Mm) : Option Mm := loopR (fun (rec193 : (Int32 × Mm) → Option Mm) (x19 : Int32 × Mm) =>
 if (36 : Int32) ≤ x19.1 then
 (some x19.2)
 else
 (ald x19.1 36 (ald x19.1 36 (lett (sI x19.2 6 (ix x19.1) (gI x19.2 12 (ix x19.1))) fun M20 =>
 lett (x19.1 + (1 : Int32)) fun v21 =>
 rec193 (v21, M20))))) 1000000 ((0 : Int32), X)
theorem tl3_m (X : Mm) : tl3 X = some (cpA 6 12 X 36) := by
  unfold tl3
  refine loopR_sq (fun i => (nI i, cpA 6 12 X i)) 36 (by omega) (by rw [cpA_0]; rfl) (fun i hi rec => ?_) (fun rec => ?_)
  · dsimp only
    rw [if_neg (le_f 36 36 rfl hi (by omega)), ald_n hi (by omega), ald_n hi (by omega), ix_nI (by omega), lett_e, lett_e, nI_1, cpA_s X i _ (by rw [cpA_I, if_neg (by omega)])]
  · dsimp only
    rw [if_pos (by decide)]
def tl2 (X : Mm) : Option Mm := loopR (fun (rec167 : (Int32 × Mm) → Option Mm) (x22 : Int32 × Mm) =>
 if (108 : Int32) ≤ x22.1 then
 (tl3 x22.2)
 else
 (ald x22.1 108 (ald x22.1 108 (lett (sI x22.2 5 (ix x22.1) (gI x22.2 11 (ix x22.1))) fun M23 =>
 lett (x22.1 + (1 : Int32)) fun v24 =>
 rec167 (v24, M23))))) 1000000 ((0 : Int32), X)
theorem tl2_m (X : Mm) : tl2 X = some (cpA 6 12 (cpA 5 11 X 108) 36) := by
  unfold tl2
  refine loopR_sq (fun i => (nI i, cpA 5 11 X i)) 108 (by omega) (by rw [cpA_0]; rfl) (fun i hi rec => ?_) (fun rec => ?_)
  · dsimp only
    rw [if_neg (le_f 108 108 rfl hi (by omega)), ald_n hi (by omega), ald_n hi (by omega), ix_nI (by omega), lett_e, lett_e, nI_1, cpA_s X i _ (by rw [cpA_I, if_neg (by omega)])]
  · dsimp only
    rw [if_pos (by decide), tl3_m]
def tl1 (X : Mm) : Option Mm := loopR (fun (rec103 : (Int32 × Mm) → Option Mm) (x25 : Int32 × Mm) =>
 if (gI x25.2 0 1) ≤ x25.1 then
 (tl2 x25.2)
 else
 (ald x25.1 6 (ald x25.1 6 (lett (sI x25.2 1 (ix x25.1) (gI x25.2 7 (ix x25.1))) fun M26 =>
 ald x25.1 6 (ald x25.1 6 (lett (sI M26 2 (ix x25.1) (gI M26 8 (ix x25.1))) fun M27 =>
 ald x25.1 6 (ald x25.1 6 (lett (sI M27 3 (ix x25.1) (gI M27 9 (ix x25.1))) fun M28 =>
 ald x25.1 6 (ald x25.1 6 (lett (sI M28 4 (ix x25.1) (gI M28 10 (ix x25.1))) fun M29 =>
 lett (x25.1 + (1 : Int32)) fun v30 =>
 rec103 (v30, M29))))))))))) 1000000 ((0 : Int32), X)
def cpB (X : Mm) (i : Nat) : Mm := (fun a x => if 1 ≤ a ∧ a ≤ 4 ∧ x < i then X.1 (a + 6) x else X.1 a x, X.2)
theorem cpB_I (X : Mm) (i a x : Nat) : gI (cpB X i) a x = if 1 ≤ a ∧ a ≤ 4 ∧ x < i then gI X (a + 6) x else gI X a x := rfl
theorem cpB_0 (X : Mm) : cpB X 0 = X := by
  refine Prod.ext (funext fun a1 => funext fun x => ?_) rfl
  show (if 1 ≤ a1 ∧ a1 ≤ 4 ∧ x < 0 then X.1 (a1 + 6) x else X.1 a1 x) = X.1 a1 x
  rw [if_neg (by omega)]
theorem cpB_s (X : Mm) (i : Nat) : sI (sI (sI (sI (cpB X i) 1 i (gI X 7 i)) 2 i (gI X 8 i)) 3 i (gI X 9 i)) 4 i (gI X 10 i) = cpB X (i + 1) := by
  refine Prod.ext (funext fun a => funext fun x => ?_) rfl
  show (if a = 4 ∧ x = i then X.1 10 i else if a = 3 ∧ x = i then X.1 9 i else if a = 2 ∧ x = i then X.1 8 i else if a = 1 ∧ x = i then X.1 7 i else if 1 ≤ a ∧ a ≤ 4 ∧ x < i then X.1 (a + 6) x else X.1 a x) = if 1 ≤ a ∧ a ≤ 4 ∧ x < i + 1 then X.1 (a + 6) x else X.1 a x
  by_cases hx : x = i
  · subst hx
    by_cases ha : 1 ≤ a ∧ a ≤ 4
    · rw [if_pos (show 1 ≤ a ∧ a ≤ 4 ∧ x < x + 1 by omega)]
      rcases (by omega : a = 1 ∨ a = 2 ∨ a = 3 ∨ a = 4) with e | e | e | e <;> subst e
      · rw [if_neg (by omega), if_neg (by omega), if_neg (by omega), if_pos ⟨rfl, rfl⟩]
      · rw [if_neg (by omega), if_neg (by omega), if_pos ⟨rfl, rfl⟩]
      · rw [if_neg (by omega), if_pos ⟨rfl, rfl⟩]
      · rw [if_pos ⟨rfl, rfl⟩]
    · rw [if_neg (by omega), if_neg (by omega), if_neg (by omega), if_neg (by omega), if_neg (by omega), if_neg (by omega)]
  · rw [if_neg (by omega), if_neg (by omega), if_neg (by omega), if_neg (by omega)]
    by_cases h2 : 1 ≤ a ∧ a ≤ 4 ∧ x < i
    · rw [if_pos h2, if_pos (by omega)]
    · rw [if_neg h2, if_neg (by omega)]
theorem tl1_m {X : Mm} {c : Nat} (hn : gI X 0 1 = nI c) (c6 : c ≤ 6) : tl1 X = some (cpA 6 12 (cpA 5 11 (cpB X c) 108) 36) := by
  have h0 : ∀ i k, gI (cpB X i) 0 k = gI X 0 k := fun i k => by rw [cpB_I, if_neg (by omega)]
  have hb : ∀ i a k, 7 ≤ a → gI (cpB X i) a k = gI X a k := fun i a k h => by rw [cpB_I, if_neg (by omega)]
  unfold tl1
  refine loopR_sq (fun i => (nI i, cpB X i)) c (by omega) (by rw [cpB_0]; rfl) (fun i hi rec => ?_) (fun rec => ?_)
  · dsimp only
    have al : ∀ (z : Option Mm), ald (nI i) 6 z = z := fun z => ald_n (by omega) (by omega) z
    rw [h0, hn, if_neg (nI_ge hi (by omega))]
    simp only [al, lett_e, ix_nI (show i < 2 ^ 31 by omega), nI_1]
    rw [gw_n _ _ _ _ (by omega), gw_n _ _ _ _ (by omega), gw_n _ _ _ _ (by omega), gw_n _ _ _ _ (by omega), gw_n _ _ _ _ (by omega), gw_n _ _ _ _ (by omega), hb _ 7 _ (by omega), hb _ 8 _ (by omega), hb _ 9 _ (by omega), hb _ 10 _ (by omega), cpB_s]
  · dsimp only
    rw [h0, hn, if_pos (nI_le (Nat.le_refl _) (by omega)), tl2_m]
theorem tells_h (R : Mm) : ∃ X, R_tellsAll R = tl1 X ∧ X.2 = R.2 ∧ (∀ a i, ¬ (a = 0 ∧ i ≤ 12) → gI X a i = gI R a i) ∧ gI X 0 0 = 1 ∧ gI X 0 1 = gI R 0 19 ∧ gI X 0 2 = gI R 0 20 ∧ gI X 0 3 = gI R 0 21 ∧ gI X 0 4 = gI R 0 22 ∧ gI X 0 5 = gI R 0 23 ∧ gI X 0 6 = gI R 0 24 ∧ gI X 0 7 = gI R 0 27 ∧ gI X 0 8 = gI R 0 28 ∧ gI X 0 9 = gI R 0 29 ∧ gI X 0 10 = gI R 0 30 ∧ gI X 0 11 = gI R 0 25 ∧ gI X 0 12 = gI R 0 26 := by
  obtain ⟨X0, hX0⟩ : ∃ X, X = sI R 0 0 1 := ⟨_, rfl⟩
  have o0 : ∀ a i, ¬ (a = 0 ∧ i ≤ 12) → gI X0 a i = gI R a i := fun a i h => by rw [hX0, gw_n _ _ _ _ (by omega)]
  obtain ⟨X1, hX1⟩ : ∃ X, X = sI X0 0 1 (gI X0 0 19) := ⟨_, rfl⟩
  have o1 : ∀ a i, ¬ (a = 0 ∧ i ≤ 12) → gI X1 a i = gI R a i := fun a i h => by rw [hX1, gw_n _ _ _ _ (by omega)]; exact o0 a i h
  have n1 : ∀ i, i ≠ 1 → gI X1 0 i = gI X0 0 i := fun i h => by rw [hX1, gw_n _ _ _ _ (by omega)]
  have v1 : gI X1 0 1 = gI R 0 19 := by rw [hX1, gw_s]; exact o0 _ _ (by omega)
  have e1 : X1.2 = X0.2 := by rw [hX1]; rfl
  obtain ⟨X2, hX2⟩ : ∃ X, X = sI X1 0 2 (gI X1 0 20) := ⟨_, rfl⟩
  have o2 : ∀ a i, ¬ (a = 0 ∧ i ≤ 12) → gI X2 a i = gI R a i := fun a i h => by rw [hX2, gw_n _ _ _ _ (by omega)]; exact o1 a i h
  have n2 : ∀ i, i ≠ 2 → gI X2 0 i = gI X1 0 i := fun i h => by rw [hX2, gw_n _ _ _ _ (by omega)]
  have v2 : gI X2 0 2 = gI R 0 20 := by rw [hX2, gw_s]; exact o1 _ _ (by omega)
  have e2 : X2.2 = X1.2 := by rw [hX2]; rfl
  obtain ⟨X3, hX3⟩ : ∃ X, X = sI X2 0 3 (gI X2 0 21) := ⟨_, rfl⟩
  have o3 : ∀ a i, ¬ (a = 0 ∧ i ≤ 12) → gI X3 a i = gI R a i := fun a i h => by rw [hX3, gw_n _ _ _ _ (by omega)]; exact o2 a i h
  have n3 : ∀ i, i ≠ 3 → gI X3 0 i = gI X2 0 i := fun i h => by rw [hX3, gw_n _ _ _ _ (by omega)]
  have v3 : gI X3 0 3 = gI R 0 21 := by rw [hX3, gw_s]; exact o2 _ _ (by omega)
  have e3 : X3.2 = X2.2 := by rw [hX3]; rfl
  obtain ⟨X4, hX4⟩ : ∃ X, X = sI X3 0 4 (gI X3 0 22) := ⟨_, rfl⟩
  have o4 : ∀ a i, ¬ (a = 0 ∧ i ≤ 12) → gI X4 a i = gI R a i := fun a i h => by rw [hX4, gw_n _ _ _ _ (by omega)]; exact o3 a i h
  have n4 : ∀ i, i ≠ 4 → gI X4 0 i = gI X3 0 i := fun i h => by rw [hX4, gw_n _ _ _ _ (by omega)]
  have v4 : gI X4 0 4 = gI R 0 22 := by rw [hX4, gw_s]; exact o3 _ _ (by omega)
  have e4 : X4.2 = X3.2 := by rw [hX4]; rfl
  obtain ⟨X5, hX5⟩ : ∃ X, X = sI X4 0 5 (gI X4 0 23) := ⟨_, rfl⟩
  have o5 : ∀ a i, ¬ (a = 0 ∧ i ≤ 12) → gI X5 a i = gI R a i := fun a i h => by rw [hX5, gw_n _ _ _ _ (by omega)]; exact o4 a i h
  have n5 : ∀ i, i ≠ 5 → gI X5 0 i = gI X4 0 i := fun i h => by rw [hX5, gw_n _ _ _ _ (by omega)]
  have v5 : gI X5 0 5 = gI R 0 23 := by rw [hX5, gw_s]; exact o4 _ _ (by omega)
  have e5 : X5.2 = X4.2 := by rw [hX5]; rfl
  obtain ⟨X6, hX6⟩ : ∃ X, X = sI X5 0 6 (gI X5 0 24) := ⟨_, rfl⟩
  have o6 : ∀ a i, ¬ (a = 0 ∧ i ≤ 12) → gI X6 a i = gI R a i := fun a i h => by rw [hX6, gw_n _ _ _ _ (by omega)]; exact o5 a i h
  have n6 : ∀ i, i ≠ 6 → gI X6 0 i = gI X5 0 i := fun i h => by rw [hX6, gw_n _ _ _ _ (by omega)]
  have v6 : gI X6 0 6 = gI R 0 24 := by rw [hX6, gw_s]; exact o5 _ _ (by omega)
  have e6 : X6.2 = X5.2 := by rw [hX6]; rfl
  obtain ⟨X7, hX7⟩ : ∃ X, X = sI X6 0 7 (gI X6 0 27) := ⟨_, rfl⟩
  have o7 : ∀ a i, ¬ (a = 0 ∧ i ≤ 12) → gI X7 a i = gI R a i := fun a i h => by rw [hX7, gw_n _ _ _ _ (by omega)]; exact o6 a i h
  have n7 : ∀ i, i ≠ 7 → gI X7 0 i = gI X6 0 i := fun i h => by rw [hX7, gw_n _ _ _ _ (by omega)]
  have v7 : gI X7 0 7 = gI R 0 27 := by rw [hX7, gw_s]; exact o6 _ _ (by omega)
  have e7 : X7.2 = X6.2 := by rw [hX7]; rfl
  obtain ⟨X8, hX8⟩ : ∃ X, X = sI X7 0 8 (gI X7 0 28) := ⟨_, rfl⟩
  have o8 : ∀ a i, ¬ (a = 0 ∧ i ≤ 12) → gI X8 a i = gI R a i := fun a i h => by rw [hX8, gw_n _ _ _ _ (by omega)]; exact o7 a i h
  have n8 : ∀ i, i ≠ 8 → gI X8 0 i = gI X7 0 i := fun i h => by rw [hX8, gw_n _ _ _ _ (by omega)]
  have v8 : gI X8 0 8 = gI R 0 28 := by rw [hX8, gw_s]; exact o7 _ _ (by omega)
  have e8 : X8.2 = X7.2 := by rw [hX8]; rfl
  obtain ⟨X9, hX9⟩ : ∃ X, X = sI X8 0 9 (gI X8 0 29) := ⟨_, rfl⟩
  have o9 : ∀ a i, ¬ (a = 0 ∧ i ≤ 12) → gI X9 a i = gI R a i := fun a i h => by rw [hX9, gw_n _ _ _ _ (by omega)]; exact o8 a i h
  have n9 : ∀ i, i ≠ 9 → gI X9 0 i = gI X8 0 i := fun i h => by rw [hX9, gw_n _ _ _ _ (by omega)]
  have v9 : gI X9 0 9 = gI R 0 29 := by rw [hX9, gw_s]; exact o8 _ _ (by omega)
  have e9 : X9.2 = X8.2 := by rw [hX9]; rfl
  obtain ⟨X10, hX10⟩ : ∃ X, X = sI X9 0 10 (gI X9 0 30) := ⟨_, rfl⟩
  have o10 : ∀ a i, ¬ (a = 0 ∧ i ≤ 12) → gI X10 a i = gI R a i := fun a i h => by rw [hX10, gw_n _ _ _ _ (by omega)]; exact o9 a i h
  have n10 : ∀ i, i ≠ 10 → gI X10 0 i = gI X9 0 i := fun i h => by rw [hX10, gw_n _ _ _ _ (by omega)]
  have v10 : gI X10 0 10 = gI R 0 30 := by rw [hX10, gw_s]; exact o9 _ _ (by omega)
  have e10 : X10.2 = X9.2 := by rw [hX10]; rfl
  obtain ⟨X11, hX11⟩ : ∃ X, X = sI X10 0 11 (gI X10 0 25) := ⟨_, rfl⟩
  have o11 : ∀ a i, ¬ (a = 0 ∧ i ≤ 12) → gI X11 a i = gI R a i := fun a i h => by rw [hX11, gw_n _ _ _ _ (by omega)]; exact o10 a i h
  have n11 : ∀ i, i ≠ 11 → gI X11 0 i = gI X10 0 i := fun i h => by rw [hX11, gw_n _ _ _ _ (by omega)]
  have v11 : gI X11 0 11 = gI R 0 25 := by rw [hX11, gw_s]; exact o10 _ _ (by omega)
  have e11 : X11.2 = X10.2 := by rw [hX11]; rfl
  obtain ⟨X12, hX12⟩ : ∃ X, X = sI X11 0 12 (gI X11 0 26) := ⟨_, rfl⟩
  have o12 : ∀ a i, ¬ (a = 0 ∧ i ≤ 12) → gI X12 a i = gI R a i := fun a i h => by rw [hX12, gw_n _ _ _ _ (by omega)]; exact o11 a i h
  have n12 : ∀ i, i ≠ 12 → gI X12 0 i = gI X11 0 i := fun i h => by rw [hX12, gw_n _ _ _ _ (by omega)]
  have v12 : gI X12 0 12 = gI R 0 26 := by rw [hX12, gw_s]; exact o11 _ _ (by omega)
  have e12 : X12.2 = X11.2 := by rw [hX12]; rfl
  refine ⟨X12, ?_, ?_, o12, ?_, ?_, ?_, ?_, ?_, ?_, ?_, ?_, ?_, ?_, ?_, ?_, ?_⟩
  · unfold R_tellsAll
    rw [lett_e, ← hX0, lett_e, ← hX1, lett_e, ← hX2, lett_e, ← hX3, lett_e, ← hX4, lett_e, ← hX5, lett_e, ← hX6, lett_e, ← hX7, lett_e, ← hX8, lett_e, ← hX9, lett_e, ← hX10, lett_e, ← hX11, lett_e, ← hX12, lett_e]
    rw [lett_e]
    unfold tl1
    refine congrArg (fun f => loopR f 1000000 ((0 : Int32), X12)) (funext fun rec => funext fun x => ?_)
    by_cases h : gI x.2 0 1 ≤ x.1
    · rw [if_pos h, if_pos h]
      dsimp only
      rw [lett_e, lett_e]
      unfold tl2
      refine congrArg (fun f => loopR f 1000000 ((0 : Int32), x.2)) (funext fun rec => funext fun y => ?_)
      by_cases h : (108 : Int32) ≤ y.1
      · rw [if_pos h, if_pos h]
        dsimp only
        rw [lett_e]
        rfl
      · rw [if_neg h, if_neg h]
    · rw [if_neg h, if_neg h]
  · rw [e12, e11, e10, e9, e8, e7, e6, e5, e4, e3, e2, e1, hX0]; rfl
  · rw [n12 _ (by omega), n11 _ (by omega), n10 _ (by omega), n9 _ (by omega), n8 _ (by omega), n7 _ (by omega), n6 _ (by omega), n5 _ (by omega), n4 _ (by omega), n3 _ (by omega), n2 _ (by omega), n1 _ (by omega), hX0, gw_s]
  · rw [n12 _ (by omega), n11 _ (by omega), n10 _ (by omega), n9 _ (by omega), n8 _ (by omega), n7 _ (by omega), n6 _ (by omega), n5 _ (by omega), n4 _ (by omega), n3 _ (by omega), n2 _ (by omega)]; exact v1
  · rw [n12 _ (by omega), n11 _ (by omega), n10 _ (by omega), n9 _ (by omega), n8 _ (by omega), n7 _ (by omega), n6 _ (by omega), n5 _ (by omega), n4 _ (by omega), n3 _ (by omega)]; exact v2
  · rw [n12 _ (by omega), n11 _ (by omega), n10 _ (by omega), n9 _ (by omega), n8 _ (by omega), n7 _ (by omega), n6 _ (by omega), n5 _ (by omega), n4 _ (by omega)]; exact v3
  · rw [n12 _ (by omega), n11 _ (by omega), n10 _ (by omega), n9 _ (by omega), n8 _ (by omega), n7 _ (by omega), n6 _ (by omega), n5 _ (by omega)]; exact v4
  · rw [n12 _ (by omega), n11 _ (by omega), n10 _ (by omega), n9 _ (by omega), n8 _ (by omega), n7 _ (by omega), n6 _ (by omega)]; exact v5
  · rw [n12 _ (by omega), n11 _ (by omega), n10 _ (by omega), n9 _ (by omega), n8 _ (by omega), n7 _ (by omega)]; exact v6
  · rw [n12 _ (by omega), n11 _ (by omega), n10 _ (by omega), n9 _ (by omega), n8 _ (by omega)]; exact v7
  · rw [n12 _ (by omega), n11 _ (by omega), n10 _ (by omega), n9 _ (by omega)]; exact v8
  · rw [n12 _ (by omega), n11 _ (by omega), n10 _ (by omega)]; exact v9
  · rw [n12 _ (by omega), n11 _ (by omega)]; exact v10
  · rw [n12 _ (by omega)]; exact v11
  · exact v12
theorem tells_m {c : Nat} (hn : gI R 0 19 = nI c) (c6 : c ≤ 6) : ∃ X, R_tellsAll R = some X ∧ X.2 = R.2 ∧ (∀ a i, ¬ (a = 0 ∧ i ≤ 12) → ¬ (1 ≤ a ∧ a ≤ 6) → gI X a i = gI R a i) ∧ (∀ p, p < c → gI X 1 p = gI R 7 p ∧ gI X 2 p = gI R 8 p ∧ gI X 3 p = gI R 9 p ∧ gI X 4 p = gI R 10 p) ∧ (∀ i, i < 108 → gI X 5 i = gI R 11 i) ∧ (∀ i, i < 36 → gI X 6 i = gI R 12 i) ∧ gI X 0 0 = 1 ∧ gI X 0 1 = gI R 0 19 ∧ gI X 0 2 = gI R 0 20 ∧ gI X 0 3 = gI R 0 21 ∧ gI X 0 4 = gI R 0 22 ∧ gI X 0 5 = gI R 0 23 ∧ gI X 0 6 = gI R 0 24 ∧ gI X 0 7 = gI R 0 27 ∧ gI X 0 8 = gI R 0 28 ∧ gI X 0 9 = gI R 0 29 ∧ gI X 0 10 = gI R 0 30 ∧ gI X 0 11 = gI R 0 25 ∧ gI X 0 12 = gI R 0 26 := by
  obtain ⟨X, h1, h2, h3, h4, h5, h6⟩ := tells_h R
  have k : ∀ a i, ¬ (1 ≤ a ∧ a ≤ 6) → gI (cpA 6 12 (cpA 5 11 (cpB X c) 108) 36) a i = gI X a i := fun a i h => by rw [cpA_I, if_neg (by omega), cpA_I, if_neg (by omega), cpB_I, if_neg (by omega)]
  refine ⟨_, h1.trans (tl1_m (h5.trans hn) c6), h2, fun a i q1 q2 => (k a i q2).trans (h3 a i q1), fun p hp => ?_, fun i hi => ?_, fun i hi => ?_, ?_⟩
  · have kb : ∀ a, 1 ≤ a → a ≤ 4 → gI (cpA 6 12 (cpA 5 11 (cpB X c) 108) 36) a p = gI R (a + 6) p := fun a q1 q2 => by
      rw [cpA_I, if_neg (by omega), cpA_I, if_neg (by omega), cpB_I, if_pos (by omega)]
      exact h3 _ _ (by omega)
    exact ⟨kb 1 (by omega) (by omega), kb 2 (by omega) (by omega), kb 3 (by omega) (by omega), kb 4 (by omega) (by omega)⟩
  · rw [cpA_I, if_neg (by omega), cpA_I, if_pos ⟨rfl, hi⟩, cpB_I, if_neg (by omega)]
    exact h3 _ _ (by omega)
  · rw [cpA_I, if_pos ⟨rfl, hi⟩, cpA_I, if_neg (by omega), cpB_I, if_neg (by omega)]
    exact h3 _ _ (by omega)
  · simp only [k 0 _ (by omega)]
    exact ⟨h4, h5, h6⟩
end TELLS
