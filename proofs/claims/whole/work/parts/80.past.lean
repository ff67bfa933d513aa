/-! PURE: the state kept for undoing -/
def mvb (n a k : Nat) : Bool := decide ((a = 0 ∧ (k = 6 ∨ k = 7 ∨ (10 ≤ k ∧ k ≤ 17) ∨ k = 19)) ∨ (a = 3 ∧ k = 1) ∨ (8 ≤ a ∧ a < 8 + 2 * n ∧ k < 9 ∧ (a % 2 = 0 ∨ 3 ≤ k)))
def mfb (n a k : Nat) : Bool := decide ((a = 0 ∧ (k = 8 ∨ k = 9)) ∨ (8 ≤ a ∧ a < 8 + 2 * n ∧ a % 2 = 1 ∧ k < 3))
theorem mvb_ok : ((List.range 7).all fun n => (List.range 20).all fun a => (List.range 20).all fun k => (locI n a k).isNone || mvb n a k) = true := by decide +kernel
theorem mfb_ok : ((List.range 7).all fun n => (List.range 20).all fun a => (List.range 20).all fun k => (locF n a k).isNone || mfb n a k) = true := by decide +kernel
theorem locI_mv {n a k j c : Nat} (hn : n ≤ 6) (h : locI n a k = some j) : mvI n c a k := by
  have hl := locI_lt h
  have h1 := List.all_eq_true.mp (List.all_eq_true.mp (List.all_eq_true.mp mvb_ok n (List.mem_range.mpr (by omega))) a (List.mem_range.mpr hl.1)) k (List.mem_range.mpr hl.2)
  rw [h] at h1
  have h2 : mvb n a k = true := h1
  have h3 := of_decide_eq_true h2
  unfold mvI
  omega
theorem locF_mv {n a k j : Nat} (hn : n ≤ 6) (h : locF n a k = some j) : mvF n a k := by
  have hl := locF_lt h
  have h1 := List.all_eq_true.mp (List.all_eq_true.mp (List.all_eq_true.mp mfb_ok n (List.mem_range.mpr (by omega))) a (List.mem_range.mpr hl.1)) k (List.mem_range.mpr hl.2)
  rw [h] at h1
  have h2 : mfb n a k = true := h1
  have h3 := of_decide_eq_true h2
  unfold mvF
  omega
section CPD
variable {m0 : Mm} {n s t c P th p1 : Nat} {D : Nat → Int32} {F : Nat → UInt32} {M M' : Mm}
/-- what a copy asks of the state copied -/
theorem StR.pre (h : StR m0 n s t c D F M p1 P) : gI M P 11 = nI n ∧ n ≤ 6 ∧ (∀ i, i < n → (gI M (p1 + 8 + 2 * i) 1 = 0 ∨ gI M (p1 + 8 + 2 * i) 1 = 1) ∧ (gI M (p1 + 8 + 2 * i) 3 = 0 ∨ gI M (p1 + 8 + 2 * i) 3 = 1)) ∧ gI M (p1 + 3) 1 = nI c ∧ c ≤ 54 := by
  have hn := h.K.n6
  have e := h.L.1.many
  rw [sb_I, em_hi (by omega), show P + (20 - 20) = P by omega] at e
  refine ⟨e.trans h.K.n1, hn, fun i hi => ?_, (h.c1 rfl).trans h.I.c0, h.I.c1⟩
  obtain ⟨-, b2, -, -, -, b8⟩ := h.I.p i hi
  rw [h.P1 rfl ⟨hi, hn⟩, h.P3 rfl ⟨hi, hn⟩]
  exact ⟨n2_01 b8, n2_01 b2⟩
theorem StR.copied (h : StR m0 n s t c D F M p1 P) (ha : apt th p1) (hP : P = 1 ∨ P = 10) (h1 : ∀ o k, alI n c o k → gI M' (th + o) k = gI M (p1 + o) k) (h2 : ∀ o k, mvF n o k → gF M' (th + o) k = gF M (p1 + o) k) (h3 : gR M' th 0 = some P) (ho : Out th M M') : StR m0 n s t c D F M' th P := by
  unfold apt at ha
  have hn := h.K.n6
  have hi : ∀ r k, alI n c r k → r < 20 → gI (sbM (emS th P) M') r k = gI (sbM (emS p1 P) M) r k := fun r k h4 h5 => by
    rw [sb_I, sb_I, em_lo h5, em_lo h5]
    exact h1 r k h4
  refine ⟨⟨h.K, h.L.cgE (fun r k e1 e2 => ?_), h.I, h.X.cg2 hn (fun r k e => hi r k ?_ (by omega)), h.CT.cg hn (fun _ _ => rfl) (hi 0 19 (by unfold alI mvI; omega) (by omega)) (fun p k e1 e2 e3 => hi _ _ (by unfold alI; omega) (by omega)), h.KR.cg2 (hi 6 1 (by unfold alI; omega) (by omega)) (fun k hk => hi 7 k (by unfold alI; omega) (by omega))⟩, fun a k j hj => ?_, fun a k j hj => ?_, h3⟩
  · rw [sb_I, sb_I, em_hi e1, em_hi e1]
    exact ho.1 _ _ (by omega)
  · rcases e with ⟨rfl, e⟩ | ⟨rfl, e⟩ | ⟨rfl, rfl⟩ | ⟨q, hq, rfl, rfl⟩
    · exact Or.inl (by unfold mvI; omega)
    · exact Or.inl (by unfold mvI; omega)
    · exact Or.inl (by unfold mvI; omega)
    · exact Or.inl (by unfold mvI; omega)
  · exact (h1 a k (Or.inl (locI_mv hn hj))).trans (h.2.1 a k j hj)
  · exact (h2 a k (locF_mv hn hj)).trans (h.2.2.1 a k j hj)
/-- a whole copy -/
theorem StR.copyAll (h : StR m0 n s t c D F M p1 P) (ha : apt th p1) (hP : P = 1 ∨ P = 10) : ∃ M', C_copyAll th p1 M = some M' ∧ StR m0 n s t c D F M' th P ∧ Out th M M' := by
  obtain ⟨e1, e2, e3, e4, e5⟩ := h.pre
  obtain ⟨M', a1, a2, a3, a4, a5⟩ := copyAll_m ha hP h.pl e1 e2 e3 e4 e5
  exact ⟨M', a1, h.copied ha hP a2 a3 a4 a5, a5⟩
end CPD
/-! the reference keeps its state -/
def sh18 (M : Mm) (i : Nat) : Mm := (fun a k => if a = 18 ∧ k < i then M.1 18 (k + 758) else M.1 a k, M.2)
def sh19 (M : Mm) (i : Nat) : Mm := (M.1, fun a k => if a = 19 ∧ k < i then M.2.1 19 (k + 20) else M.2.1 a k, M.2.2)
def st18 (u : Nat) (M : Mm) (i : Nat) : Mm := (fun a k => if a = 18 ∧ 758 * u ≤ k ∧ k < 758 * u + i then M.1 16 (k - 758 * u) else M.1 a k, M.2)
def st19 (u : Nat) (M : Mm) (i : Nat) : Mm := (M.1, fun a k => if a = 19 ∧ 20 * u ≤ k ∧ k < 20 * u + i then M.2.1 17 (k - 20 * u) else M.2.1 a k, M.2.2)
theorem sh18_I (M : Mm) (i a k : Nat) : gI (sh18 M i) a k = if a = 18 ∧ k < i then gI M 18 (k + 758) else gI M a k := rfl
theorem sh19_F (M : Mm) (i a k : Nat) : gF (sh19 M i) a k = if a = 19 ∧ k < i then gF M 19 (k + 20) else gF M a k := rfl
theorem st18_I (u : Nat) (M : Mm) (i a k : Nat) : gI (st18 u M i) a k = if a = 18 ∧ 758 * u ≤ k ∧ k < 758 * u + i then gI M 16 (k - 758 * u) else gI M a k := rfl
theorem st19_F (u : Nat) (M : Mm) (i a k : Nat) : gF (st19 u M i) a k = if a = 19 ∧ 20 * u ≤ k ∧ k < 20 * u + i then gF M 17 (k - 20 * u) else gF M a k := rfl
theorem sh18_0 (M : Mm) : sh18 M 0 = M := by
  refine Prod.ext (funext fun a => funext fun k => ?_) rfl
  show (if _ then _ else _) = _
  rw [if_neg (by omega)]
theorem sh19_0 (M : Mm) : sh19 M 0 = M := by
  refine Prod.ext rfl (Prod.ext (funext fun a => funext fun k => ?_) rfl)
  show (if _ then _ else _) = _
  rw [if_neg (by omega)]
theorem st18_0 (u : Nat) (M : Mm) : st18 u M 0 = M := by
  refine Prod.ext (funext fun a => funext fun k => ?_) rfl
  show (if _ then _ else _) = _
  rw [if_neg (by omega)]
theorem st19_0 (u : Nat) (M : Mm) : st19 u M 0 = M := by
  refine Prod.ext rfl (Prod.ext (funext fun a => funext fun k => ?_) rfl)
  show (if _ then _ else _) = _
  rw [if_neg (by omega)]
theorem sh18_s (M : Mm) (i : Nat) : sI (sh18 M i) 18 i (gI (sh18 M i) 18 (i + 758)) = sh18 M (i + 1) := by
  refine Prod.ext (funext fun a => funext fun k => ?_) rfl
  show gI (sI (sh18 M i) 18 i _) a k = gI (sh18 M (i + 1)) a k
  rw [gI_sI, sh18_I, sh18_I, sh18_I]
  by_cases h1 : a = 18 ∧ k = i
  · rw [if_pos h1, if_neg (by omega), if_pos (by omega), h1.2]
  · rw [if_neg h1]
    by_cases h2 : a = 18 ∧ k < i
    · rw [if_pos h2, if_pos (by omega)]
    · rw [if_neg h2, if_neg (by omega)]
theorem gF_sF' (M : Mm) (a k : Nat) (v : UInt32) (a' k' : Nat) : gF (sF M a k v) a' k' = if a' = a ∧ k' = k then v else gF M a' k' := rfl
theorem sh19_s (M : Mm) (i : Nat) : sF (sh19 M i) 19 i (gF (sh19 M i) 19 (i + 20)) = sh19 M (i + 1) := by
  refine Prod.ext rfl (Prod.ext (funext fun a => funext fun k => ?_) rfl)
  show gF (sF (sh19 M i) 19 i _) a k = gF (sh19 M (i + 1)) a k
  rw [gF_sF', sh19_F, sh19_F, sh19_F]
  by_cases h1 : a = 19 ∧ k = i
  · rw [if_pos h1, if_neg (by omega), if_pos (by omega), h1.2]
  · rw [if_neg h1]
    by_cases h2 : a = 19 ∧ k < i
    · rw [if_pos h2, if_pos (by omega)]
    · rw [if_neg h2, if_neg (by omega)]
theorem st18_s (u : Nat) (M : Mm) (i : Nat) : sI (st18 u M i) 18 (758 * u + i) (gI (st18 u M i) 16 i) = st18 u M (i + 1) := by
  refine Prod.ext (funext fun a => funext fun k => ?_) rfl
  show gI (sI (st18 u M i) 18 (758 * u + i) _) a k = gI (st18 u M (i + 1)) a k
  rw [gI_sI, st18_I, st18_I, st18_I]
  by_cases h1 : a = 18 ∧ k = 758 * u + i
  · rw [if_pos h1, if_neg (by omega), if_pos (by omega), show k - 758 * u = i by omega]
  · rw [if_neg h1]
    by_cases h2 : a = 18 ∧ 758 * u ≤ k ∧ k < 758 * u + i
    · rw [if_pos h2, if_pos (by omega)]
    · rw [if_neg h2, if_neg (by omega)]
theorem st19_s (u : Nat) (M : Mm) (i : Nat) : sF (st19 u M i) 19 (20 * u + i) (gF (st19 u M i) 17 i) = st19 u M (i + 1) := by
  refine Prod.ext rfl (Prod.ext (funext fun a => funext fun k => ?_) rfl)
  show gF (sF (st19 u M i) 19 (20 * u + i) _) a k = gF (st19 u M (i + 1)) a k
  rw [gF_sF', st19_F, st19_F, st19_F]
  by_cases h1 : a = 19 ∧ k = 20 * u + i
  · rw [if_pos h1, if_neg (by omega), if_pos (by omega), show k - 20 * u = i by omega]
  · rw [if_neg h1]
    by_cases h2 : a = 19 ∧ 20 * u ≤ k ∧ k < 20 * u + i
    · rw [if_pos h2, if_pos (by omega)]
    · rw [if_neg h2, if_neg (by omega)]
theorem R0_self {X : Mm} (h1 : gI X 0 53 = 0) (h2 : gI X 0 54 = 0) : R0 X = X := by
  have h := R_isNow_e X
  unfold R_isNow at h
  rw [lett_e, lett_e] at h
  have e := Option.some.inj h
  rw [← e]
  refine Prod.ext (funext fun a => funext fun k => ?_) rfl
  show (if a = 0 ∧ k = 54 then (0 : Int32) else if a = 0 ∧ k = 53 then (0 : Int32) else X.1 a k) = X.1 a k
  split
  · rename_i e; rw [e.1, e.2]; exact h2.symm
  · split
    · rename_i e; rw [e.1, e.2]; exact h1.symm
    · rfl
/-- the last part of keeping: the state to place u -/
def remJ (M_1 : Mm) : Option Mm :=
 lett (0 : Int32) fun v3 =>
 lett (fun (M_3 : Mm) =>
 lett (0 : Int32) fun v5 =>
 lett (fun (M_5 : Mm) =>
 lett (sI M_5 0 55 ((gI M_5 0 55) + (1 : Int32))) fun M7 =>
 some M7) fun j154 =>
 loopR (fun (rec122 : (Int32 × Mm) → Option Mm) (x8 : Int32 × Mm) =>
 if (20 : Int32) ≤ x8.1 then
 (j154 x8.2)
 else
 (ald x8.1 40 (ald (((20 : Int32) * (gI x8.2 0 55)) + x8.1) 400 (lett (sF x8.2 19 (ix (((20 : Int32) * (gI x8.2 0 55)) + x8.1)) (gF x8.2 17 (ix x8.1))) fun M9 =>
 lett (x8.1 + (1 : Int32)) fun v10 =>
 rec122 (v10, M9))))) 1000000 (v5, M_3)) fun j120 =>
 loopR (fun (rec86 : (Int32 × Mm) → Option Mm) (x11 : Int32 × Mm) =>
 if (758 : Int32) ≤ x11.1 then
 (j120 x11.2)
 else
 (ald x11.1 1516 (ald (((758 : Int32) * (gI x11.2 0 55)) + x11.1) 15160 (lett (sI x11.2 18 (ix (((758 : Int32) * (gI x11.2 0 55)) + x11.1)) (gI x11.2 16 (ix x11.1))) fun M12 =>
 lett (x11.1 + (1 : Int32)) fun v13 =>
 rec86 (v13, M12))))) 1000000 (v3, M_1)
theorem R_rem_e (M : Mm) : R_remembers M = bnd (R_isNow M) fun M1 =>
 lett remJ fun j84 =>
 if (gI M1 0 55) = (20 : Int32) then
 (lett (0 : Int32) fun v14 =>
 lett (fun (M_14 : Mm) =>
 lett (0 : Int32) fun v16 =>
 lett (fun (M_16 : Mm) =>
 lett (sI M_16 0 55 ((gI M_16 0 55) - (1 : Int32))) fun M18 =>
 j84 M18) fun j74 =>
 loopR (fun (rec46 : (Int32 × Mm) → Option Mm) (x19 : Int32 × Mm) =>
 if (380 : Int32) ≤ x19.1 then
 (j74 x19.2)
 else
 (ald (x19.1 + (20 : Int32)) 400 (ald x19.1 400 (lett (sF x19.2 19 (ix x19.1) (gF x19.2 19 (ix (x19.1 + (20 : Int32))))) fun M20 =>
 lett (x19.1 + (1 : Int32)) fun v21 =>
 rec46 (v21, M20))))) 1000000 (v16, M_14)) fun j44 =>
 loopR (fun (rec15 : (Int32 × Mm) → Option Mm) (x22 : Int32 × Mm) =>
 if (14402 : Int32) ≤ x22.1 then
 (j44 x22.2)
 else
 (ald (x22.1 + (758 : Int32)) 15160 (ald x22.1 15160 (lett (sI x22.2 18 (ix x22.1) (gI x22.2 18 (ix (x22.1 + (758 : Int32))))) fun M23 =>
 lett (x22.1 + (1 : Int32)) fun v24 =>
 rec15 (v24, M23))))) 1000000 (v14, M1))
 else
 (j84 M1) := rfl
theorem remJ_m {M : Mm} {u : Nat} (hu : gI M 0 55 = nI u) (h20 : u < 20) : remJ M = some (sI (st19 u (st18 u M 758) 20) 0 55 (nI (u + 1))) := by
  unfold remJ
  rw [lett_e, lett_e]
  refine loopR_sq (fun i => (nI i, st18 u M i)) 758 (by omega) ?_ (fun i hi rec => ?_) (fun rec => ?_)
  · show (nI 0, M) = (nI 0, st18 u M 0)
    rw [st18_0]
  · dsimp only
    rw [if_neg (le_f 758 758 rfl (by omega) (by omega)), ald_n (by omega) (by omega), st18_I, if_neg (by omega), hu, show (758 : Int32) = nI 758 from rfl, pk_mul, nI_add, ald_n (by omega) (by omega), ix_nI (by omega), ix_nI (by omega), lett_e, lett_e, nA_1, st18_s]
  · dsimp only
    rw [if_pos (by decide), lett_e, lett_e]
    refine loopR_sq (fun i => (nI i, st19 u (st18 u M 758) i)) 20 (by omega) ?_ (fun i hi rec => ?_) (fun rec => ?_)
    · show (nI 0, _) = (nI 0, st19 u _ 0)
      rw [st19_0]
    · dsimp only
      have e : gI (st19 u (st18 u M 758) i) 0 55 = nI u := by
        show gI (st18 u M 758) 0 55 = nI u
        rw [st18_I, if_neg (by omega)]
        exact hu
      rw [if_neg (le_f 20 20 rfl (by omega) (by omega)), ald_n (by omega) (by omega), e, show (20 : Int32) = nI 20 from rfl, pk_mul, nI_add, ald_n (by omega) (by omega), ix_nI (by omega), ix_nI (by omega), lett_e, lett_e, nA_1, st19_s]
    · dsimp only
      have e : gI (st19 u (st18 u M 758) 20) 0 55 = nI u := by
        show gI (st18 u M 758) 0 55 = nI u
        rw [st18_I, if_neg (by omega)]
        exact hu
      rw [if_pos (by decide), e, nA_1, lett_e]
def shf (R : Mm) : Mm := sI (sh19 (sh18 (R0 R) 14402) 380) 0 55 (nI 19)
theorem R_rem_20 {R : Mm} (e55 : gI (R0 R) 0 55 = nI 20) : R_remembers R = remJ (shf R) := by
  rw [R_rem_e, R_isNow_e, bnd_s, lett_e, e55, if_pos (by decide), lett_e, lett_e]
  refine loopR_sq (fun i => (nI i, sh18 (R0 R) i)) 14402 (by omega) ?_ (fun i hi rec => ?_) (fun rec => ?_)
  · show (nI 0, _) = (nI 0, sh18 _ 0)
    rw [sh18_0]
  · dsimp only
    rw [if_neg (le_f 14402 14402 rfl (by omega) (by omega)), show (758 : Int32) = nI 758 from rfl, nI_add, ald_n (by omega) (by omega), ald_n (by omega) (by omega), ix_nI (by omega), ix_nI (by omega), lett_e, lett_e, nA_1, sh18_s]
  · dsimp only
    rw [if_pos (by decide), lett_e, lett_e]
    refine loopR_sq (fun i => (nI i, sh19 (sh18 (R0 R) 14402) i)) 380 (by omega) ?_ (fun i hi rec => ?_) (fun rec => ?_)
    · show (nI 0, _) = (nI 0, sh19 _ 0)
      rw [sh19_0]
    · dsimp only
      rw [if_neg (le_f 380 380 rfl (by omega) (by omega)), show (20 : Int32) = nI 20 from rfl, nI_add, ald_n (by omega) (by omega), ald_n (by omega) (by omega), ix_nI (by omega), ix_nI (by omega), lett_e, lett_e, nA_1, sh19_s]
    · dsimp only
      have e : gI (sh19 (sh18 (R0 R) 14402) 380) 0 55 = nI 20 := by
        show gI (sh18 (R0 R) 14402) 0 55 = nI 20
        rw [sh18_I, if_neg (by omega)]
        exact e55
      rw [if_pos (by decide), e, nS_1 (by omega), lett_e]
      rfl
/-- what keeping leaves -/
theorem R_rem_m {R : Mm} {u : Nat} (hu : gI R 0 55 = nI u) (h20 : u ≤ 20) : ∃ X, R_remembers R = some X ∧ R0 X = X ∧ gI X 0 55 = nI (min (u + 1) 20) ∧ (∀ i j, i < min (u + 1) 20 → j < 758 → gI X 18 (758 * i + j) = if i = min u 19 then gI R 16 j else gI R 18 (758 * (if u = 20 then i + 1 else i) + j)) ∧ (∀ i j, i < min (u + 1) 20 → j < 20 → gF X 19 (20 * i + j) = if i = min u 19 then gF R 17 j else gF R 19 (20 * (if u = 20 then i + 1 else i) + j)) ∧ (∀ a k, a ≠ 18 → ¬ (a = 0 ∧ (k = 53 ∨ k = 54 ∨ k = 55)) → (a = 16 → k < 758) → gI X a k = gI R a k) ∧ (∀ a k, a ≠ 19 → gF X a k = gF R a k) := by
  have e55 : gI (R0 R) 0 55 = nI u := hu
  have r0 := R0_s R
  by_cases e : u = 20
  · subst e
    obtain ⟨M1, hM1⟩ : ∃ M1, shf R = M1 := ⟨_, rfl⟩
    have h1 : R_remembers R = remJ M1 := by rw [← hM1]; exact R_rem_20 e55
    have mI : ∀ a k, gI M1 a k = if a = 0 ∧ k = 55 then nI 19 else if a = 18 ∧ k < 14402 then gI (R0 R) 18 (k + 758) else gI (R0 R) a k := fun a k => by rw [← hM1]; rfl
    have mF : ∀ a k, gF M1 a k = if a = 19 ∧ k < 380 then gF (R0 R) 19 (k + 20) else gF (R0 R) a k := fun a k => by rw [← hM1]; rfl
    have key := remJ_m (M := M1) (u := 19) (by rw [mI, if_pos ⟨rfl, rfl⟩]) (by omega)
    have xI : ∀ a k, gI (sI (st19 19 (st18 19 M1 758) 20) 0 55 (nI (19 + 1))) a k = if a = 0 ∧ k = 55 then nI 20 else if a = 18 ∧ 758 * 19 ≤ k ∧ k < 758 * 19 + 758 then gI M1 16 (k - 758 * 19) else gI M1 a k := fun a k => rfl
    have xF : ∀ a k, gF (sI (st19 19 (st18 19 M1 758) 20) 0 55 (nI (19 + 1))) a k = if a = 19 ∧ 20 * 19 ≤ k ∧ k < 20 * 19 + 20 then gF M1 17 (k - 20 * 19) else gF M1 a k := fun a k => rfl
    refine ⟨_, h1.trans key, R0_self ?_ ?_, ?_, fun i j hi hj => ?_, fun i j hi hj => ?_, fun a k h2 h3 h4 => ?_, fun a k h2 => ?_⟩
    · rw [xI, if_neg (by omega), if_neg (by omega), mI, if_neg (by omega), if_neg (by omega)]; rfl
    · rw [xI, if_neg (by omega), if_neg (by omega), mI, if_neg (by omega), if_neg (by omega)]; rfl
    · rw [xI, if_pos ⟨rfl, rfl⟩]; rfl
    · rw [xI, if_neg (by omega)]
      by_cases e2 : i = min 20 19
      · rw [if_pos (by omega), if_pos e2, mI, if_neg (by omega), if_neg (by omega), show 758 * i + j - 758 * 19 = j by omega]
        exact r0.1 16 j (by omega) (by omega) (by omega) (by omega) (by omega) (by omega)
      · rw [if_neg (by omega), if_neg e2, mI, if_neg (by omega), if_pos (by omega), if_pos rfl, show 758 * i + j + 758 = 758 * (i + 1) + j by omega]
        exact r0.1 18 _ (by omega) (by omega) (by omega) (by omega) (by omega) (by omega)
    · rw [xF]
      by_cases e2 : i = min 20 19
      · rw [if_pos (by omega), if_pos e2, mF, if_neg (by omega), show 20 * i + j - 20 * 19 = j by omega]
        exact r0.2 17 j (by omega)
      · rw [if_neg (by omega), if_neg e2, mF, if_pos (by omega), if_pos rfl, show 20 * i + j + 20 = 20 * (i + 1) + j by omega]
        exact r0.2 19 _ (by omega)
    · rw [xI, if_neg (by omega), if_neg (by omega), mI, if_neg (by omega), if_neg (by omega)]
      by_cases h16 : a = 16
      · subst h16
        exact r0.1 16 k (by omega) (by have := h4 rfl; omega) (by omega) (by omega) (by omega) (by omega)
      · exact mkR_o _ _ _ _ h16 (by omega)
    · rw [xF, if_neg (by omega), mF, if_neg (by omega)]
      by_cases h17 : a = 17
      · show (if a = 17 ∧ pB 0 ≤ k ∧ k < pB 0 + 20 then R.2.1 17 (k - pB 0) else R.2.1 a k) = R.2.1 a k
        split
        · rename_i h; rw [h.1]; rfl
        · rfl
      · exact r0.2 a k (by omega)
  · have h1 : R_remembers R = remJ (R0 R) := by
      rw [R_rem_e, R_isNow_e, bnd_s, lett_e, e55, if_neg (neq_f 20 20 rfl e (by omega) (by omega))]
    have key := remJ_m (M := R0 R) (u := u) e55 (by omega)
    have xI : ∀ a k, gI (sI (st19 u (st18 u (R0 R) 758) 20) 0 55 (nI (u + 1))) a k = if a = 0 ∧ k = 55 then nI (u + 1) else if a = 18 ∧ 758 * u ≤ k ∧ k < 758 * u + 758 then gI (R0 R) 16 (k - 758 * u) else gI (R0 R) a k := fun a k => rfl
    have xF : ∀ a k, gF (sI (st19 u (st18 u (R0 R) 758) 20) 0 55 (nI (u + 1))) a k = if a = 19 ∧ 20 * u ≤ k ∧ k < 20 * u + 20 then gF (R0 R) 17 (k - 20 * u) else gF (R0 R) a k := fun a k => rfl
    refine ⟨_, h1.trans key, R0_self ?_ ?_, ?_, fun i j hi hj => ?_, fun i j hi hj => ?_, fun a k h2 h3 h4 => ?_, fun a k h2 => ?_⟩
    · rw [xI, if_neg (by omega), if_neg (by omega)]; rfl
    · rw [xI, if_neg (by omega), if_neg (by omega)]; rfl
    · rw [xI, if_pos ⟨rfl, rfl⟩, Nat.min_eq_left (by omega)]
    · rw [xI, if_neg (by omega)]
      by_cases e2 : i = min u 19
      · rw [if_pos (by omega), if_pos e2, show 758 * i + j - 758 * u = j by omega]
        exact r0.1 16 j (by omega) (by omega) (by omega) (by omega) (by omega) (by omega)
      · rw [if_neg (by omega), if_neg e2, if_neg e]
        exact r0.1 18 _ (by omega) (by omega) (by omega) (by omega) (by omega) (by omega)
    · rw [xF]
      by_cases e2 : i = min u 19
      · rw [if_pos (by omega), if_pos e2, show 20 * i + j - 20 * u = j by omega]
        exact r0.2 17 j (by omega)
      · rw [if_neg (by omega), if_neg e2, if_neg e]
        exact r0.2 19 _ (by omega)
    · rw [xI, if_neg (by omega), if_neg (by omega)]
      by_cases h16 : a = 16
      · subst h16
        exact r0.1 16 k (by omega) (by have := h4 rfl; omega) (by omega) (by omega) (by omega) (by omega)
      · exact mkR_o _ _ _ _ h16 (by omega)
    · rw [xF, if_neg (by omega)]
      by_cases h17 : a = 17
      · show (if a = 17 ∧ pB 0 ≤ k ∧ k < pB 0 + 20 then R.2.1 17 (k - pB 0) else R.2.1 a k) = R.2.1 a k
        split
        · rename_i h; rw [h.1]; rfl
        · rfl
      · exact r0.2 a k (by omega)
