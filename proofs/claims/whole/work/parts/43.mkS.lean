/-! PURE, THE STATE: its numbers at the places of the flat state -/
def locP : Nat → Option Nat := fun k => ([(0, 0), (1, 8), (2, 1), (3, 2), (4, 3), (5, 4), (6, 5), (7, 6), (8, 7)] : List (Nat × Nat)).lookup k
def locQ : Nat → Option Nat := fun k => ([(3, 0), (4, 2), (5, 3), (6, 4), (7, 5)] : List (Nat × Nat)).lookup k
def locS : Nat → Option Nat := fun k => ([(6, 5), (7, 1), (10, 0), (11, 2), (12, 3), (14, 4), (15, 8), (16, 6), (17, 7)] : List (Nat × Nat)).lookup k
/-- which flat number lies in slot k of cell c -/
def locI (n c k : Nat) : Option Nat :=
  if c < 20 ∧ k < 20 then
    (if c = 0 then locS k else if c = 3 then (if k = 1 then some 10 else none) else if c < 8 ∨ n ≤ (c - 8) / 2 then none
     else if c % 2 = 0 then (locP k).map (fun j => 18 + 14 * ((c - 8) / 2) + j) else (locQ k).map (fun j => 102 + 8 * ((c - 8) / 2) + j))
  else none
def locF (n c k : Nat) : Option Nat :=
  if c < 20 ∧ k < 20 then
    (if c = 0 then (if k = 8 then some 18 else if k = 9 then some 19 else none) else if c < 8 ∨ n ≤ (c - 8) / 2 then none
     else if c % 2 = 0 then none else if k < 3 then some (6 * k + (c - 8) / 2) else none)
  else none
def invI (j : Nat) : Nat :=
  if j < 18 then (([(5, 6), (1, 7), (0, 10), (2, 11), (3, 12), (4, 14), (8, 15), (6, 16), (7, 17), (10, 61)] : List (Nat × Nat)).lookup j).getD 0
  else if j < 102 then 20 * (8 + 2 * ((j - 18) / 14)) + (([(0, 0), (8, 1), (1, 2), (2, 3), (3, 4), (4, 5), (5, 6), (6, 7), (7, 8)] : List (Nat × Nat)).lookup ((j - 18) % 14)).getD 0
  else 20 * (9 + 2 * ((j - 102) / 8)) + (([(0, 3), (2, 4), (3, 5), (4, 6), (5, 7)] : List (Nat × Nat)).lookup ((j - 102) % 8)).getD 0
def invF (j : Nat) : Nat := if j = 18 then 8 else if j = 19 then 9 else 20 * (9 + 2 * (j % 6)) + j / 6
def okI (f : Nat → Nat → Option Nat) (g : Nat → Nat) (c k : Nat) : Bool := match f c k with
  | some j => g j == 20 * c + k
  | none => true
theorem locI_lt {n c k j : Nat} (h : locI n c k = some j) : c < 20 ∧ k < 20 := by
  by_cases h0 : c < 20 ∧ k < 20
  · exact h0
  · unfold locI at h; rw [if_neg h0] at h; cases h
theorem locF_lt {n c k j : Nat} (h : locF n c k = some j) : c < 20 ∧ k < 20 := by
  by_cases h0 : c < 20 ∧ k < 20
  · exact h0
  · unfold locF at h; rw [if_neg h0] at h; cases h
theorem invI_ok : ((List.range 20).all fun c => (List.range 20).all fun k => okI (locI 6) invI c k) = true := by decide +kernel
theorem invF_ok : ((List.range 20).all fun c => (List.range 20).all fun k => okI (locF 6) invF c k) = true := by decide +kernel
theorem locI_6 {n c k j : Nat} (h : locI n c k = some j) : locI 6 c k = some j := by
  have hc := locI_lt h
  unfold locI at h ⊢
  rw [if_pos hc] at h ⊢
  by_cases c0 : c = 0
  · rw [if_pos c0] at h ⊢; exact h
  · rw [if_neg c0] at h ⊢
    by_cases c3 : c = 3
    · rw [if_pos c3] at h ⊢; exact h
    · rw [if_neg c3] at h ⊢
      by_cases c8 : c < 8 ∨ n ≤ (c - 8) / 2
      · rw [if_pos c8] at h; cases h
      · rw [if_neg c8] at h
        rw [if_neg (by omega)]
        exact h
theorem locF_6 {n c k j : Nat} (h : locF n c k = some j) : locF 6 c k = some j := by
  have hc := locF_lt h
  unfold locF at h ⊢
  rw [if_pos hc] at h ⊢
  by_cases c0 : c = 0
  · rw [if_pos c0] at h ⊢; exact h
  · rw [if_neg c0] at h ⊢
    by_cases c8 : c < 8 ∨ n ≤ (c - 8) / 2
    · rw [if_pos c8] at h; cases h
    · rw [if_neg c8] at h
      rw [if_neg (by omega)]
      exact h
theorem invI_e {n c k j : Nat} (h : locI n c k = some j) : invI j = 20 * c + k := by
  have hc := locI_lt h
  have h := locI_6 h
  have h1 := List.all_eq_true.mp (List.all_eq_true.mp invI_ok c (List.mem_range.mpr hc.1)) k (List.mem_range.mpr hc.2)
  unfold okI at h1
  rw [h] at h1
  exact eq_of_beq h1
theorem invF_e {n c k j : Nat} (h : locF n c k = some j) : invF j = 20 * c + k := by
  have hc := locF_lt h
  have h := locF_6 h
  have h1 := List.all_eq_true.mp (List.all_eq_true.mp invF_ok c (List.mem_range.mpr hc.1)) k (List.mem_range.mpr hc.2)
  unfold okI at h1
  rw [h] at h1
  exact eq_of_beq h1
theorem locI_inj {n c k a b j : Nat} (h : locI n c k = some j) (h2 : locI n a b = some j) : a = c ∧ b = k := by
  have h3 := invI_e h
  have h4 := invI_e h2
  have h5 := locI_lt h
  have h6 := locI_lt h2
  omega
theorem locF_inj {n c k a b j : Nat} (h : locF n c k = some j) (h2 : locF n a b = some j) : a = c ∧ b = k := by
  have h3 := invF_e h
  have h4 := invF_e h2
  have h5 := locF_lt h
  have h6 := locF_lt h2
  omega
def selO {α : Type} (o : Option Nat) (D : Nat → α) (e : α) : α := match o with
  | some j => D j
  | none => e
/-- the state's memory: flat numbers D and floats F where they lie, the rest as in E -/
def mkS (n : Nat) (E : Mm) (D : Nat → Int32) (F : Nat → UInt32) : Mm :=
  (fun c k => selO (locI n c k) D (E.1 c k), fun c k => selO (locF n c k) F (E.2.1 c k), E.2.2)
theorem mkS_r {n : Nat} (E : Mm) (D : Nat → Int32) (F : Nat → UInt32) {c k j : Nat} (h : locI n c k = some j) : gI (mkS n E D F) c k = D j := by
  show selO (locI n c k) D (E.1 c k) = D j
  rw [h]; rfl
theorem mkS_n {n : Nat} (E : Mm) (D : Nat → Int32) (F : Nat → UInt32) {c k : Nat} (h : locI n c k = none) : gI (mkS n E D F) c k = gI E c k := by
  show selO (locI n c k) D (E.1 c k) = E.1 c k
  rw [h]; rfl
theorem mkS_f {n : Nat} (E : Mm) (D : Nat → Int32) (F : Nat → UInt32) {c k j : Nat} (h : locF n c k = some j) : gF (mkS n E D F) c k = F j := by
  show selO (locF n c k) F (E.2.1 c k) = F j
  rw [h]; rfl
theorem mkS_w {n : Nat} (E : Mm) (D : Nat → Int32) (F : Nat → UInt32) {c k j : Nat} (h : locI n c k = some j) (v : Int32) : sI (mkS n E D F) c k v = mkS n E (updD D j v) F := by
  refine Prod.ext (funext fun a => funext fun b => ?_) rfl
  show (if a = c ∧ b = k then v else selO (locI n a b) D (E.1 a b)) = selO (locI n a b) (updD D j v) (E.1 a b)
  by_cases h1 : a = c ∧ b = k
  · rw [if_pos h1, h1.1, h1.2, h]; exact (updD_s D j v).symm
  · rw [if_neg h1]
    cases hl : locI n a b with
    | none => rfl
    | some j2 =>
      show D j2 = updD D j v j2
      rw [updD_n]
      intro h2
      subst h2
      exact h1 (locI_inj h hl)
theorem mkS_o {n : Nat} (E : Mm) (D : Nat → Int32) (F : Nat → UInt32) {c k : Nat} (h : locI n c k = none) (v : Int32) : sI (mkS n E D F) c k v = mkS n (sI E c k v) D F := by
  refine Prod.ext (funext fun a => funext fun b => ?_) rfl
  show (if a = c ∧ b = k then v else selO (locI n a b) D (E.1 a b)) = selO (locI n a b) D (if a = c ∧ b = k then v else E.1 a b)
  by_cases h1 : a = c ∧ b = k
  · rw [if_pos h1, if_pos h1, h1.1, h1.2, h]; rfl
  · rw [if_neg h1, if_neg h1]
theorem mkS_wf {n : Nat} (E : Mm) (D : Nat → Int32) (F : Nat → UInt32) {c k j : Nat} (h : locF n c k = some j) (v : UInt32) : sF (mkS n E D F) c k v = mkS n E D (updD F j v) := by
  refine Prod.ext rfl (Prod.ext (funext fun a => funext fun b => ?_) rfl)
  show (if a = c ∧ b = k then v else selO (locF n a b) F (E.2.1 a b)) = selO (locF n a b) (updD F j v) (E.2.1 a b)
  by_cases h1 : a = c ∧ b = k
  · rw [if_pos h1, h1.1, h1.2, h]; exact (updD_s F j v).symm
  · rw [if_neg h1]
    cases hl : locF n a b with
    | none => rfl
    | some j2 =>
      show F j2 = updD F j v j2
      rw [updD_n]
      intro h2
      subst h2
      exact h1 (locF_inj h hl)
theorem six {P : Nat → Prop} (h0 : P 0) (h1 : P 1) (h2 : P 2) (h3 : P 3) (h4 : P 4) (h5 : P 5) {i : Nat} (hi : i < 6) : P i := by
  match i, hi with
  | 0, _ => exact h0
  | 1, _ => exact h1
  | 2, _ => exact h2
  | 3, _ => exact h3
  | 4, _ => exact h4
  | 5, _ => exact h5
theorem loc_n {n i c k j : Nat} (hi : i < n ∧ n ≤ 6) (h : locI 6 c k = some j) (hc : (c - 8) / 2 = i) : locI n c k = some j := by
  have hc2 := locI_lt h
  unfold locI at h ⊢
  rw [if_pos hc2] at h ⊢
  by_cases c0 : c = 0
  · rw [if_pos c0] at h ⊢; exact h
  · rw [if_neg c0] at h ⊢
    by_cases c3 : c = 3
    · rw [if_pos c3] at h ⊢; exact h
    · rw [if_neg c3] at h ⊢
      by_cases c8 : c < 8 ∨ 6 ≤ (c - 8) / 2
      · rw [if_pos c8] at h; cases h
      · rw [if_neg c8] at h
        rw [if_neg (by omega)]
        exact h
theorem locf_n {n i c k j : Nat} (hi : i < n ∧ n ≤ 6) (h : locF 6 c k = some j) (hc : (c - 8) / 2 = i) : locF n c k = some j := by
  have hc2 := locF_lt h
  unfold locF at h ⊢
  rw [if_pos hc2] at h ⊢
  by_cases c0 : c = 0
  · rw [if_pos c0] at h ⊢; exact h
  · rw [if_neg c0] at h ⊢
    by_cases c8 : c < 8 ∨ 6 ≤ (c - 8) / 2
    · rw [if_pos c8] at h; cases h
    · rw [if_neg c8] at h
      rw [if_neg (by omega)]
      exact h
theorem loc_0 {n c k : Nat} (h : locI 6 c k = none) : locI n c k = none := by
  cases hl : locI n c k with
  | none => rfl
  | some j => rw [locI_6 hl] at h; cases h
section SACC
variable {n : Nat} (E : Mm) (D : Nat → Int32) (F : Nat → UInt32)

theorem s0_6 : gI (mkS n E D F) 0 6 = D 5 := rfl
theorem s0w_6 (v : Int32) : sI (mkS n E D F) 0 6 v = mkS n E (updD D 5 v) F := mkS_w E D F rfl v
theorem s0_7 : gI (mkS n E D F) 0 7 = D 1 := rfl
theorem s0w_7 (v : Int32) : sI (mkS n E D F) 0 7 v = mkS n E (updD D 1 v) F := mkS_w E D F rfl v
theorem s0_10 : gI (mkS n E D F) 0 10 = D 0 := rfl
theorem s0w_10 (v : Int32) : sI (mkS n E D F) 0 10 v = mkS n E (updD D 0 v) F := mkS_w E D F rfl v
theorem s0_11 : gI (mkS n E D F) 0 11 = D 2 := rfl
theorem s0w_11 (v : Int32) : sI (mkS n E D F) 0 11 v = mkS n E (updD D 2 v) F := mkS_w E D F rfl v
theorem s0_12 : gI (mkS n E D F) 0 12 = D 3 := rfl
theorem s0w_12 (v : Int32) : sI (mkS n E D F) 0 12 v = mkS n E (updD D 3 v) F := mkS_w E D F rfl v
theorem s0_14 : gI (mkS n E D F) 0 14 = D 4 := rfl
theorem s0w_14 (v : Int32) : sI (mkS n E D F) 0 14 v = mkS n E (updD D 4 v) F := mkS_w E D F rfl v
theorem s0_15 : gI (mkS n E D F) 0 15 = D 8 := rfl
theorem s0w_15 (v : Int32) : sI (mkS n E D F) 0 15 v = mkS n E (updD D 8 v) F := mkS_w E D F rfl v
theorem s0_16 : gI (mkS n E D F) 0 16 = D 6 := rfl
theorem s0w_16 (v : Int32) : sI (mkS n E D F) 0 16 v = mkS n E (updD D 6 v) F := mkS_w E D F rfl v
theorem s0_17 : gI (mkS n E D F) 0 17 = D 7 := rfl
theorem s0w_17 (v : Int32) : sI (mkS n E D F) 0 17 v = mkS n E (updD D 7 v) F := mkS_w E D F rfl v
theorem s0_13 : gI (mkS n E D F) 0 13 = gI E 0 13 := rfl
theorem s0w_13 (v : Int32) : sI (mkS n E D F) 0 13 v = mkS n (sI E 0 13 v) D F := mkS_o E D F rfl v
theorem s0_18 : gI (mkS n E D F) 0 18 = gI E 0 18 := rfl
theorem s0w_18 (v : Int32) : sI (mkS n E D F) 0 18 v = mkS n (sI E 0 18 v) D F := mkS_o E D F rfl v
theorem s0_19 : gI (mkS n E D F) 0 19 = gI E 0 19 := rfl
theorem s0w_19 (v : Int32) : sI (mkS n E D F) 0 19 v = mkS n (sI E 0 19 v) D F := mkS_o E D F rfl v
theorem s3_1 : gI (mkS n E D F) 3 1 = D 10 := rfl
theorem s3w_1 (v : Int32) : sI (mkS n E D F) 3 1 v = mkS n E (updD D 10 v) F := mkS_w E D F rfl v
theorem locI_4 {n : Nat} (k : Nat) : locI n 4 k = none := by unfold locI; split <;> rfl
theorem s4 (k : Nat) : gI (mkS n E D F) 4 k = gI E 4 k := mkS_n E D F (locI_4 k)
theorem s4w (k : Nat) (v : Int32) : sI (mkS n E D F) 4 k v = mkS n (sI E 4 k v) D F := mkS_o E D F (locI_4 k) v
theorem locI_5 {n : Nat} (k : Nat) : locI n 5 k = none := by unfold locI; split <;> rfl
theorem s5 (k : Nat) : gI (mkS n E D F) 5 k = gI E 5 k := mkS_n E D F (locI_5 k)
theorem s5w (k : Nat) (v : Int32) : sI (mkS n E D F) 5 k v = mkS n (sI E 5 k v) D F := mkS_o E D F (locI_5 k) v
theorem locI_7 {n : Nat} (k : Nat) : locI n 7 k = none := by unfold locI; split <;> rfl
theorem s7 (k : Nat) : gI (mkS n E D F) 7 k = gI E 7 k := mkS_n E D F (locI_7 k)
theorem s7w (k : Nat) (v : Int32) : sI (mkS n E D F) 7 k v = mkS n (sI E 7 k v) D F := mkS_o E D F (locI_7 k) v
theorem s6 : gI (mkS n E D F) 6 1 = gI E 6 1 := rfl
theorem s6w (v : Int32) : sI (mkS n E D F) 6 1 v = mkS n (sI E 6 1 v) D F := mkS_o E D F rfl v
theorem locI_hi {n c : Nat} (h : 20 ≤ c) (k : Nat) : locI n c k = none := by unfold locI; rw [if_neg (by omega)]
theorem s20 (k : Nat) : gI (mkS n E D F) 20 k = gI E 20 k := mkS_n E D F (locI_hi (by decide) k)
theorem s21 (k : Nat) : gI (mkS n E D F) 21 k = gI E 21 k := mkS_n E D F (locI_hi (by decide) k)
theorem s22 (k : Nat) : gI (mkS n E D F) 22 k = gI E 22 k := mkS_n E D F (locI_hi (by decide) k)
theorem s23 (k : Nat) : gI (mkS n E D F) 23 k = gI E 23 k := mkS_n E D F (locI_hi (by decide) k)
theorem s24 (k : Nat) : gI (mkS n E D F) 24 k = gI E 24 k := mkS_n E D F (locI_hi (by decide) k)
theorem s25 (k : Nat) : gI (mkS n E D F) 25 k = gI E 25 k := mkS_n E D F (locI_hi (by decide) k)
theorem s26 (k : Nat) : gI (mkS n E D F) 26 k = gI E 26 k := mkS_n E D F (locI_hi (by decide) k)
theorem s27 (k : Nat) : gI (mkS n E D F) 27 k = gI E 27 k := mkS_n E D F (locI_hi (by decide) k)
theorem s28 (k : Nat) : gI (mkS n E D F) 28 k = gI E 28 k := mkS_n E D F (locI_hi (by decide) k)
theorem sF_8 : gF (mkS n E D F) 0 8 = F 18 := rfl
theorem sF_9 : gF (mkS n E D F) 0 9 = F 19 := rfl
theorem sFw_8 (v : UInt32) : sF (mkS n E D F) 0 8 v = mkS n E D (updD F 18 v) := mkS_wf E D F rfl v
theorem sFw_9 (v : UInt32) : sF (mkS n E D F) 0 9 v = mkS n E D (updD F 19 v) := mkS_wf E D F rfl v
variable {i : Nat}
theorem lP_0 (hi : i < n ∧ n ≤ 6) : locI n (8 + 2 * i) 0 = some (18 + 14 * i + 0) := loc_n hi (six (P := fun i => locI 6 (8 + 2 * i) 0 = some (18 + 14 * i + 0)) rfl rfl rfl rfl rfl rfl (by omega)) (by omega)
theorem sP_0 (hi : i < n ∧ n ≤ 6) : gI (mkS n E D F) (8 + 2 * i) 0 = D (18 + 14 * i + 0) := mkS_r E D F (lP_0 hi)
theorem sPw_0 (hi : i < n ∧ n ≤ 6) (v : Int32) : sI (mkS n E D F) (8 + 2 * i) 0 v = mkS n E (updD D (18 + 14 * i + 0) v) F := mkS_w E D F (lP_0 hi) v
theorem lP_1 (hi : i < n ∧ n ≤ 6) : locI n (8 + 2 * i) 1 = some (18 + 14 * i + 8) := loc_n hi (six (P := fun i => locI 6 (8 + 2 * i) 1 = some (18 + 14 * i + 8)) rfl rfl rfl rfl rfl rfl (by omega)) (by omega)
theorem sP_1 (hi : i < n ∧ n ≤ 6) : gI (mkS n E D F) (8 + 2 * i) 1 = D (18 + 14 * i + 8) := mkS_r E D F (lP_1 hi)
theorem sPw_1 (hi : i < n ∧ n ≤ 6) (v : Int32) : sI (mkS n E D F) (8 + 2 * i) 1 v = mkS n E (updD D (18 + 14 * i + 8) v) F := mkS_w E D F (lP_1 hi) v
theorem lP_2 (hi : i < n ∧ n ≤ 6) : locI n (8 + 2 * i) 2 = some (18 + 14 * i + 1) := loc_n hi (six (P := fun i => locI 6 (8 + 2 * i) 2 = some (18 + 14 * i + 1)) rfl rfl rfl rfl rfl rfl (by omega)) (by omega)
theorem sP_2 (hi : i < n ∧ n ≤ 6) : gI (mkS n E D F) (8 + 2 * i) 2 = D (18 + 14 * i + 1) := mkS_r E D F (lP_2 hi)
theorem sPw_2 (hi : i < n ∧ n ≤ 6) (v : Int32) : sI (mkS n E D F) (8 + 2 * i) 2 v = mkS n E (updD D (18 + 14 * i + 1) v) F := mkS_w E D F (lP_2 hi) v
theorem lP_3 (hi : i < n ∧ n ≤ 6) : locI n (8 + 2 * i) 3 = some (18 + 14 * i + 2) := loc_n hi (six (P := fun i => locI 6 (8 + 2 * i) 3 = some (18 + 14 * i + 2)) rfl rfl rfl rfl rfl rfl (by omega)) (by omega)
theorem sP_3 (hi : i < n ∧ n ≤ 6) : gI (mkS n E D F) (8 + 2 * i) 3 = D (18 + 14 * i + 2) := mkS_r E D F (lP_3 hi)
theorem sPw_3 (hi : i < n ∧ n ≤ 6) (v : Int32) : sI (mkS n E D F) (8 + 2 * i) 3 v = mkS n E (updD D (18 + 14 * i + 2) v) F := mkS_w E D F (lP_3 hi) v
theorem lP_4 (hi : i < n ∧ n ≤ 6) : locI n (8 + 2 * i) 4 = some (18 + 14 * i + 3) := loc_n hi (six (P := fun i => locI 6 (8 + 2 * i) 4 = some (18 + 14 * i + 3)) rfl rfl rfl rfl rfl rfl (by omega)) (by omega)
theorem sP_4 (hi : i < n ∧ n ≤ 6) : gI (mkS n E D F) (8 + 2 * i) 4 = D (18 + 14 * i + 3) := mkS_r E D F (lP_4 hi)
theorem sPw_4 (hi : i < n ∧ n ≤ 6) (v : Int32) : sI (mkS n E D F) (8 + 2 * i) 4 v = mkS n E (updD D (18 + 14 * i + 3) v) F := mkS_w E D F (lP_4 hi) v
theorem lP_5 (hi : i < n ∧ n ≤ 6) : locI n (8 + 2 * i) 5 = some (18 + 14 * i + 4) := loc_n hi (six (P := fun i => locI 6 (8 + 2 * i) 5 = some (18 + 14 * i + 4)) rfl rfl rfl rfl rfl rfl (by omega)) (by omega)
theorem sP_5 (hi : i < n ∧ n ≤ 6) : gI (mkS n E D F) (8 + 2 * i) 5 = D (18 + 14 * i + 4) := mkS_r E D F (lP_5 hi)
theorem sPw_5 (hi : i < n ∧ n ≤ 6) (v : Int32) : sI (mkS n E D F) (8 + 2 * i) 5 v = mkS n E (updD D (18 + 14 * i + 4) v) F := mkS_w E D F (lP_5 hi) v
theorem lP_6 (hi : i < n ∧ n ≤ 6) : locI n (8 + 2 * i) 6 = some (18 + 14 * i + 5) := loc_n hi (six (P := fun i => locI 6 (8 + 2 * i) 6 = some (18 + 14 * i + 5)) rfl rfl rfl rfl rfl rfl (by omega)) (by omega)
theorem sP_6 (hi : i < n ∧ n ≤ 6) : gI (mkS n E D F) (8 + 2 * i) 6 = D (18 + 14 * i + 5) := mkS_r E D F (lP_6 hi)
theorem sPw_6 (hi : i < n ∧ n ≤ 6) (v : Int32) : sI (mkS n E D F) (8 + 2 * i) 6 v = mkS n E (updD D (18 + 14 * i + 5) v) F := mkS_w E D F (lP_6 hi) v
theorem lP_7 (hi : i < n ∧ n ≤ 6) : locI n (8 + 2 * i) 7 = some (18 + 14 * i + 6) := loc_n hi (six (P := fun i => locI 6 (8 + 2 * i) 7 = some (18 + 14 * i + 6)) rfl rfl rfl rfl rfl rfl (by omega)) (by omega)
theorem sP_7 (hi : i < n ∧ n ≤ 6) : gI (mkS n E D F) (8 + 2 * i) 7 = D (18 + 14 * i + 6) := mkS_r E D F (lP_7 hi)
theorem sPw_7 (hi : i < n ∧ n ≤ 6) (v : Int32) : sI (mkS n E D F) (8 + 2 * i) 7 v = mkS n E (updD D (18 + 14 * i + 6) v) F := mkS_w E D F (lP_7 hi) v
theorem lP_8 (hi : i < n ∧ n ≤ 6) : locI n (8 + 2 * i) 8 = some (18 + 14 * i + 7) := loc_n hi (six (P := fun i => locI 6 (8 + 2 * i) 8 = some (18 + 14 * i + 7)) rfl rfl rfl rfl rfl rfl (by omega)) (by omega)
theorem sP_8 (hi : i < n ∧ n ≤ 6) : gI (mkS n E D F) (8 + 2 * i) 8 = D (18 + 14 * i + 7) := mkS_r E D F (lP_8 hi)
theorem sPw_8 (hi : i < n ∧ n ≤ 6) (v : Int32) : sI (mkS n E D F) (8 + 2 * i) 8 v = mkS n E (updD D (18 + 14 * i + 7) v) F := mkS_w E D F (lP_8 hi) v
theorem lQ_3 (hi : i < n ∧ n ≤ 6) : locI n (9 + 2 * i) 3 = some (102 + 8 * i + 0) := loc_n hi (six (P := fun i => locI 6 (9 + 2 * i) 3 = some (102 + 8 * i + 0)) rfl rfl rfl rfl rfl rfl (by omega)) (by omega)
theorem sQ_3 (hi : i < n ∧ n ≤ 6) : gI (mkS n E D F) (9 + 2 * i) 3 = D (102 + 8 * i + 0) := mkS_r E D F (lQ_3 hi)
theorem sQw_3 (hi : i < n ∧ n ≤ 6) (v : Int32) : sI (mkS n E D F) (9 + 2 * i) 3 v = mkS n E (updD D (102 + 8 * i + 0) v) F := mkS_w E D F (lQ_3 hi) v
theorem lQ_4 (hi : i < n ∧ n ≤ 6) : locI n (9 + 2 * i) 4 = some (102 + 8 * i + 2) := loc_n hi (six (P := fun i => locI 6 (9 + 2 * i) 4 = some (102 + 8 * i + 2)) rfl rfl rfl rfl rfl rfl (by omega)) (by omega)
theorem sQ_4 (hi : i < n ∧ n ≤ 6) : gI (mkS n E D F) (9 + 2 * i) 4 = D (102 + 8 * i + 2) := mkS_r E D F (lQ_4 hi)
theorem sQw_4 (hi : i < n ∧ n ≤ 6) (v : Int32) : sI (mkS n E D F) (9 + 2 * i) 4 v = mkS n E (updD D (102 + 8 * i + 2) v) F := mkS_w E D F (lQ_4 hi) v
theorem lQ_5 (hi : i < n ∧ n ≤ 6) : locI n (9 + 2 * i) 5 = some (102 + 8 * i + 3) := loc_n hi (six (P := fun i => locI 6 (9 + 2 * i) 5 = some (102 + 8 * i + 3)) rfl rfl rfl rfl rfl rfl (by omega)) (by omega)
theorem sQ_5 (hi : i < n ∧ n ≤ 6) : gI (mkS n E D F) (9 + 2 * i) 5 = D (102 + 8 * i + 3) := mkS_r E D F (lQ_5 hi)
theorem sQw_5 (hi : i < n ∧ n ≤ 6) (v : Int32) : sI (mkS n E D F) (9 + 2 * i) 5 v = mkS n E (updD D (102 + 8 * i + 3) v) F := mkS_w E D F (lQ_5 hi) v
theorem lQ_6 (hi : i < n ∧ n ≤ 6) : locI n (9 + 2 * i) 6 = some (102 + 8 * i + 4) := loc_n hi (six (P := fun i => locI 6 (9 + 2 * i) 6 = some (102 + 8 * i + 4)) rfl rfl rfl rfl rfl rfl (by omega)) (by omega)
theorem sQ_6 (hi : i < n ∧ n ≤ 6) : gI (mkS n E D F) (9 + 2 * i) 6 = D (102 + 8 * i + 4) := mkS_r E D F (lQ_6 hi)
theorem sQw_6 (hi : i < n ∧ n ≤ 6) (v : Int32) : sI (mkS n E D F) (9 + 2 * i) 6 v = mkS n E (updD D (102 + 8 * i + 4) v) F := mkS_w E D F (lQ_6 hi) v
theorem lQ_7 (hi : i < n ∧ n ≤ 6) : locI n (9 + 2 * i) 7 = some (102 + 8 * i + 5) := loc_n hi (six (P := fun i => locI 6 (9 + 2 * i) 7 = some (102 + 8 * i + 5)) rfl rfl rfl rfl rfl rfl (by omega)) (by omega)
theorem sQ_7 (hi : i < n ∧ n ≤ 6) : gI (mkS n E D F) (9 + 2 * i) 7 = D (102 + 8 * i + 5) := mkS_r E D F (lQ_7 hi)
theorem sQw_7 (hi : i < n ∧ n ≤ 6) (v : Int32) : sI (mkS n E D F) (9 + 2 * i) 7 v = mkS n E (updD D (102 + 8 * i + 5) v) F := mkS_w E D F (lQ_7 hi) v
theorem lP_9 (hi : i < n ∧ n ≤ 6) : locI n (8 + 2 * i) 9 = none := loc_0 (six (P := fun i => locI 6 (8 + 2 * i) 9 = none) rfl rfl rfl rfl rfl rfl (i := i) (by omega))
theorem sP_9 (hi : i < n ∧ n ≤ 6) : gI (mkS n E D F) (8 + 2 * i) 9 = gI E (8 + 2 * i) 9 := mkS_n E D F (lP_9 hi)
theorem sPw_9 (hi : i < n ∧ n ≤ 6) (v : Int32) : sI (mkS n E D F) (8 + 2 * i) 9 v = mkS n (sI E (8 + 2 * i) 9 v) D F := mkS_o E D F (lP_9 hi) v
theorem lP_10 (hi : i < n ∧ n ≤ 6) : locI n (8 + 2 * i) 10 = none := loc_0 (six (P := fun i => locI 6 (8 + 2 * i) 10 = none) rfl rfl rfl rfl rfl rfl (i := i) (by omega))
theorem sP_10 (hi : i < n ∧ n ≤ 6) : gI (mkS n E D F) (8 + 2 * i) 10 = gI E (8 + 2 * i) 10 := mkS_n E D F (lP_10 hi)
theorem sPw_10 (hi : i < n ∧ n ≤ 6) (v : Int32) : sI (mkS n E D F) (8 + 2 * i) 10 v = mkS n (sI E (8 + 2 * i) 10 v) D F := mkS_o E D F (lP_10 hi) v
theorem lP_11 (hi : i < n ∧ n ≤ 6) : locI n (8 + 2 * i) 11 = none := loc_0 (six (P := fun i => locI 6 (8 + 2 * i) 11 = none) rfl rfl rfl rfl rfl rfl (i := i) (by omega))
theorem sP_11 (hi : i < n ∧ n ≤ 6) : gI (mkS n E D F) (8 + 2 * i) 11 = gI E (8 + 2 * i) 11 := mkS_n E D F (lP_11 hi)
theorem sPw_11 (hi : i < n ∧ n ≤ 6) (v : Int32) : sI (mkS n E D F) (8 + 2 * i) 11 v = mkS n (sI E (8 + 2 * i) 11 v) D F := mkS_o E D F (lP_11 hi) v
theorem lP_12 (hi : i < n ∧ n ≤ 6) : locI n (8 + 2 * i) 12 = none := loc_0 (six (P := fun i => locI 6 (8 + 2 * i) 12 = none) rfl rfl rfl rfl rfl rfl (i := i) (by omega))
theorem sP_12 (hi : i < n ∧ n ≤ 6) : gI (mkS n E D F) (8 + 2 * i) 12 = gI E (8 + 2 * i) 12 := mkS_n E D F (lP_12 hi)
theorem sPw_12 (hi : i < n ∧ n ≤ 6) (v : Int32) : sI (mkS n E D F) (8 + 2 * i) 12 v = mkS n (sI E (8 + 2 * i) 12 v) D F := mkS_o E D F (lP_12 hi) v
theorem lP_13 (hi : i < n ∧ n ≤ 6) : locI n (8 + 2 * i) 13 = none := loc_0 (six (P := fun i => locI 6 (8 + 2 * i) 13 = none) rfl rfl rfl rfl rfl rfl (i := i) (by omega))
theorem sP_13 (hi : i < n ∧ n ≤ 6) : gI (mkS n E D F) (8 + 2 * i) 13 = gI E (8 + 2 * i) 13 := mkS_n E D F (lP_13 hi)
theorem sPw_13 (hi : i < n ∧ n ≤ 6) (v : Int32) : sI (mkS n E D F) (8 + 2 * i) 13 v = mkS n (sI E (8 + 2 * i) 13 v) D F := mkS_o E D F (lP_13 hi) v
theorem lQ_8 (hi : i < n ∧ n ≤ 6) : locI n (9 + 2 * i) 8 = none := loc_0 (six (P := fun i => locI 6 (9 + 2 * i) 8 = none) rfl rfl rfl rfl rfl rfl (i := i) (by omega))
theorem sQ_8 (hi : i < n ∧ n ≤ 6) : gI (mkS n E D F) (9 + 2 * i) 8 = gI E (9 + 2 * i) 8 := mkS_n E D F (lQ_8 hi)
theorem sQw_8 (hi : i < n ∧ n ≤ 6) (v : Int32) : sI (mkS n E D F) (9 + 2 * i) 8 v = mkS n (sI E (9 + 2 * i) 8 v) D F := mkS_o E D F (lQ_8 hi) v
theorem lF_0 (hi : i < n ∧ n ≤ 6) : locF n (9 + 2 * i) 0 = some (0 + i) := locf_n hi (six (P := fun i => locF 6 (9 + 2 * i) 0 = some (0 + i)) rfl rfl rfl rfl rfl rfl (by omega)) (by omega)
theorem sQf_0 (hi : i < n ∧ n ≤ 6) : gF (mkS n E D F) (9 + 2 * i) 0 = F (0 + i) := mkS_f E D F (lF_0 hi)
theorem sQfw_0 (hi : i < n ∧ n ≤ 6) (v : UInt32) : sF (mkS n E D F) (9 + 2 * i) 0 v = mkS n E D (updD F (0 + i) v) := mkS_wf E D F (lF_0 hi) v
theorem lF_1 (hi : i < n ∧ n ≤ 6) : locF n (9 + 2 * i) 1 = some (6 + i) := locf_n hi (six (P := fun i => locF 6 (9 + 2 * i) 1 = some (6 + i)) rfl rfl rfl rfl rfl rfl (by omega)) (by omega)
theorem sQf_1 (hi : i < n ∧ n ≤ 6) : gF (mkS n E D F) (9 + 2 * i) 1 = F (6 + i) := mkS_f E D F (lF_1 hi)
theorem sQfw_1 (hi : i < n ∧ n ≤ 6) (v : UInt32) : sF (mkS n E D F) (9 + 2 * i) 1 v = mkS n E D (updD F (6 + i) v) := mkS_wf E D F (lF_1 hi) v
theorem lF_2 (hi : i < n ∧ n ≤ 6) : locF n (9 + 2 * i) 2 = some (12 + i) := locf_n hi (six (P := fun i => locF 6 (9 + 2 * i) 2 = some (12 + i)) rfl rfl rfl rfl rfl rfl (by omega)) (by omega)
theorem sQf_2 (hi : i < n ∧ n ≤ 6) : gF (mkS n E D F) (9 + 2 * i) 2 = F (12 + i) := mkS_f E D F (lF_2 hi)
theorem sQfw_2 (hi : i < n ∧ n ≤ 6) (v : UInt32) : sF (mkS n E D F) (9 + 2 * i) 2 v = mkS n E D (updD F (12 + i) v) := mkS_wf E D F (lF_2 hi) v
end SACC
