/-! PURE: names along the text -/
section NAME
variable {l T : Nat} {B : Nat → Nat} {M R M' R' : Mm}
def nmI (B : Nat → Nat) (s n i : Nat) : Int32 := if i < n then nI (B (s + i) - 96) else 0
/-- names alike, in the class -/
theorem like_P {a : Nat → Nat → Int32} {p x : Nat} (ha : ∀ q i, q < 6 → i < 6 → gI M 8 (6 * q + i) = a q i) (hp : p < 6) (hx : x < 6) : ((∀ i, i < 6 → a x i = a p i) ∧ P_LHasLikeNames (nI x) (nI p) M = some 1) ∨ (¬ (∀ i, i < 6 → a x i = a p i) ∧ P_LHasLikeNames (nI x) (nI p) M = some 0) := by
  obtain ⟨t, t1, t2⟩ := pk_least (fun i => i = 6 ∨ a x i ≠ a p i) ⟨6, Or.inl rfl⟩
  have ht : t ≤ 6 := by
    rcases Nat.lt_or_ge 6 t with q | q
    · exact absurd (Or.inl rfl) (t2 6 q)
    · exact q
  have hok : ∀ i, i < t → a x i = a p i := fun i hi => Classical.byContradiction fun q => t2 i hi (Or.inr q)
  have g : ∀ q i, q < 6 → i < 6 → gI M 8 (q * 6 + i) = a q i := fun q i h1 h2 => by rw [show q * 6 + i = 6 * q + i by omega]; exact ha q i h1 h2
  have step : ∀ r, (∀ rec : Int32 → Option Int32, (if (6 : Int32) ≤ nI t then
 (some (1 : Int32))
 else
 (ald ((nI x * (6 : Int32)) + nI t) 36 (ald ((nI p * (6 : Int32)) + nI t) 36 (if (gI M 8 (ix ((nI x * (6 : Int32)) + nI t))) = (gI M 8 (ix ((nI p * (6 : Int32)) + nI t))) then
 (lett (nI t + (1 : Int32)) fun v3 =>
 rec v3)
 else
 (some (0 : Int32)))))) = r) → P_LHasLikeNames (nI x) (nI p) M = r := fun r hr => by
    unfold P_LHasLikeNames
    rw [lett_e]
    refine loopR_sq (fun i => nI i) t (by omega) rfl (fun i hi rec => ?_) (fun rec => hr rec)
    rw [if_neg (le_f 6 6 rfl (by omega) (by omega)), show (6 : Int32) = nI 6 from rfl, pk_mul, pk_mul, nI_add, nI_add, ald_n (by omega) (by omega), ald_n (by omega) (by omega), ix_nI (by omega), ix_nI (by omega), g x i hx (by omega), g p i hp (by omega), if_pos (hok i hi), lett_e, nA_1]
  by_cases e : t = 6
  · refine Or.inl ⟨fun i hi => hok i (by omega), step _ (fun rec => ?_)⟩
    rw [if_pos (le_t 6 6 rfl (by omega) (by omega))]
  · have ne : a x t ≠ a p t := by
      rcases t1 with q | q
      · exact absurd q e
      · exact q
    refine Or.inr ⟨fun q => ne (q t (by omega)), step _ (fun rec => ?_)⟩
    rw [if_neg (le_f 6 6 rfl (by omega) (by omega)), show (6 : Int32) = nI 6 from rfl, pk_mul, pk_mul, nI_add, nI_add, ald_n (by omega) (by omega), ald_n (by omega) (by omega), ix_nI (by omega), ix_nI (by omega), g x t hx (by omega), g p t hp (by omega), if_neg ne]
/-- the name here, in the reference -/
theorem like_R {a : Nat → Int32} {x s n : Nat} (h : RT l B R) (ha : ∀ i, i < 6 → gI R 12 (6 * x + i) = a i) (hx : x < 6) (h45 : gI R 0 45 = nI s) (h44 : gI R 0 44 = nI (s + n)) (hs : s + n ≤ l) (hl : ∀ i, i < n → ltB l B (s + i) = true) : ((∀ i, i < 6 → a i = nmI B s n i) ∧ R_isName (nI x) R = some 1) ∨ (¬ (∀ i, i < 6 → a i = nmI B s n i) ∧ R_isName (nI x) R = some 0) := by
  have l1 := h.1
  obtain ⟨t, t1, t2⟩ := pk_least (fun i => i = 6 ∨ a i ≠ nmI B s n i) ⟨6, Or.inl rfl⟩
  have ht : t ≤ 6 := by
    rcases Nat.lt_or_ge 6 t with q | q
    · exact absurd (Or.inl rfl) (t2 6 q)
    · exact q
  have hok : ∀ i, i < t → a i = nmI B s n i := fun i hi => Classical.byContradiction fun q => t2 i hi (Or.inr q)
  have val : ∀ {ρ : Type} (i : Nat) (j : Int32 → Option ρ), i < 6 → (if (gI R 0 44) ≤ ((gI R 0 45) + nI i) then
 (j (0 : Int32))
 else
 (ald ((gI R 0 45) + nI i) 1600 (j ((gI R 13 (ix ((gI R 0 45) + nI i))) - (96 : Int32))))) = j (nmI B s n i) := fun i j hi => by
    rw [h44, h45, nI_add]
    unfold nmI
    by_cases e : i < n
    · obtain ⟨e1, e2, e3⟩ := ltB_i.mp (hl i e)
      rw [if_neg (nI_ge (by omega) (by omega)), if_pos e, ald_n (by omega) (by omega), ix_nI (by omega), h.2.2.2.1 _ e1, show nI (B (s + i)) - 96 = nI (B (s + i) - 96) from pk_sub (b := 96) (by omega)]
    · rw [if_pos (nI_le (by omega) (by omega)), if_neg e]
  have step : ∀ r, (∀ rec : Int32 → Option Int32, (if (6 : Int32) ≤ nI t then
 (some (1 : Int32))
 else
 (lett (fun (w_2 : Int32) =>
 lett w_2 fun v4 =>
 ald (((6 : Int32) * nI x) + nI t) 36 (if (gI R 12 (ix (((6 : Int32) * nI x) + nI t))) = v4 then
 (lett (nI t + (1 : Int32)) fun v5 =>
 rec v5)
 else
 (some (0 : Int32)))) fun j39 =>
 if (gI R 0 44) ≤ ((gI R 0 45) + nI t) then
 (j39 (0 : Int32))
 else
 (ald ((gI R 0 45) + nI t) 1600 (j39 ((gI R 13 (ix ((gI R 0 45) + nI t))) - (96 : Int32)))))) = r) → R_isName (nI x) R = r := fun r hr => by
    unfold R_isName
    rw [lett_e]
    refine loopR_sq (fun i => nI i) t (by omega) rfl (fun i hi rec => ?_) (fun rec => hr rec)
    rw [if_neg (le_f 6 6 rfl (by omega) (by omega)), lett_e]
    refine (val i (fun (w_2 : Int32) => lett w_2 fun v4 => ald (((6 : Int32) * nI x) + nI i) 36 (if (gI R 12 (ix (((6 : Int32) * nI x) + nI i))) = v4 then (lett (nI i + (1 : Int32)) fun v5 => rec v5) else (some (0 : Int32)))) (by omega)).trans ?_
    rw [lett_e, nM_6, nI_add, ald_n (by omega) (by omega), ix_nI (by omega), ha i (by omega), if_pos (hok i hi), lett_e, nA_1]
  by_cases e : t = 6
  · refine Or.inl ⟨fun i hi => hok i (by omega), step _ (fun rec => ?_)⟩
    rw [if_pos (le_t 6 6 rfl (by omega) (by omega))]
  · have ne : a t ≠ nmI B s n t := by
      rcases t1 with q | q
      · exact absurd q e
      · exact q
    refine Or.inr ⟨fun q => ne (q t (by omega)), step _ (fun rec => ?_)⟩
    rw [if_neg (le_f 6 6 rfl (by omega) (by omega)), lett_e]
    refine (val t (fun (w_2 : Int32) => lett w_2 fun v4 => ald (((6 : Int32) * nI x) + nI t) 36 (if (gI R 12 (ix (((6 : Int32) * nI x) + nI t))) = v4 then (lett (nI t + (1 : Int32)) fun v5 => rec v5) else (some (0 : Int32)))) (by omega)).trans ?_
    rw [lett_e, nM_6, nI_add, ald_n (by omega) (by omega), ix_nI (by omega), ha t (by omega), if_neg ne]
def nmP (B : Nat → Nat) (s p : Nat) (M : Mm) (i : Nat) : Mm := (fun a x => if a = 8 ∧ 6 * p ≤ x ∧ x < 6 * p + i then nI (B (s + (x - 6 * p)) - 96) else M.1 a x, M.2)
theorem nmP_I (s p : Nat) (M : Mm) (i a x : Nat) : gI (nmP B s p M i) a x = if a = 8 ∧ 6 * p ≤ x ∧ x < 6 * p + i then nI (B (s + (x - 6 * p)) - 96) else gI M a x := rfl
theorem nmP_0 (s p : Nat) (M : Mm) : nmP B s p M 0 = M := by
  refine Prod.ext (funext fun a => funext fun k => ?_) rfl
  show gI (nmP B s p M 0) a k = gI M a k
  rw [nmP_I, if_neg (by omega)]
theorem nmP_s (s p : Nat) (M : Mm) (i : Nat) : sI (nmP B s p M i) 8 (p * 6 + i) (nI (B (s + i) - 96)) = nmP B s p M (i + 1) := by
  refine Prod.ext (funext fun a => funext fun k => ?_) rfl
  show gI (sI (nmP B s p M i) 8 (p * 6 + i) (nI (B (s + i) - 96))) a k = gI (nmP B s p M (i + 1)) a k
  rw [gI_sI, nmP_I, nmP_I]
  by_cases e : a = 8 ∧ k = p * 6 + i
  · rw [if_pos e, if_pos (by omega), show k - 6 * p = i by omega]
  · rw [if_neg e]
    by_cases e2 : a = 8 ∧ 6 * p ≤ k ∧ k < 6 * p + i
    · rw [if_pos e2, if_pos (by omega)]
    · rw [if_neg e2, if_neg (by omega)]
def nmR (B : Nat → Nat) (s n p : Nat) (M : Mm) (i : Nat) : Mm := (fun a x => if a = 12 ∧ 6 * p ≤ x ∧ x < 6 * p + i then nmI B s n (x - 6 * p) else M.1 a x, M.2)
theorem nmR_I (s n p : Nat) (M : Mm) (i a x : Nat) : gI (nmR B s n p M i) a x = if a = 12 ∧ 6 * p ≤ x ∧ x < 6 * p + i then nmI B s n (x - 6 * p) else gI M a x := rfl
theorem nmR_0 (s n p : Nat) (M : Mm) : nmR B s n p M 0 = M := by
  refine Prod.ext (funext fun a => funext fun k => ?_) rfl
  show gI (nmR B s n p M 0) a k = gI M a k
  rw [nmR_I, if_neg (by omega)]
theorem nmR_s (s n p : Nat) (M : Mm) (i : Nat) : sI (nmR B s n p M i) 12 (6 * p + i) (nmI B s n i) = nmR B s n p M (i + 1) := by
  refine Prod.ext (funext fun a => funext fun k => ?_) rfl
  show gI (sI (nmR B s n p M i) 12 (6 * p + i) (nmI B s n i)) a k = gI (nmR B s n p M (i + 1)) a k
  rw [gI_sI, nmR_I, nmR_I]
  by_cases e : a = 12 ∧ k = 6 * p + i
  · rw [if_pos e, if_pos (by omega), show k - 6 * p = i by omega]
  · rw [if_neg e]
    by_cases e2 : a = 12 ∧ 6 * p ≤ k ∧ k < 6 * p + i
    · rw [if_pos e2, if_pos (by omega)]
    · rw [if_neg e2, if_neg (by omega)]
theorem exName (h : Zt l B T M R) {p : Nat} (hp : p < 6) (hq : gI M 0 8 = 0 → gI R 0 19 = nI p ∧ (∀ x i, x < p → i < 6 → gI M 8 (6 * x + i) = gI R 12 (6 * x + i)) ∧ ∀ i, i < 6 → gI M 8 (6 * p + i) = 0) : ∃ M' R', P_DExpectName (nI p) M = some M' ∧ R_freshName R = some R' ∧ Zt l B T M' R' ∧ (∀ a i, ¬ (a = 0 ∧ (i = 6 ∨ i = 8 ∨ i = 9)) → ¬ (a = 8 ∧ 6 * p ≤ i ∧ i < 6 * p + 6) → gI M' a i = gI M a i) ∧ M'.2 = M.2 ∧ (∀ a i, ¬ (a = 0 ∧ 44 ≤ i ∧ i ≤ 47) → ¬ (a = 12 ∧ 6 * p ≤ i ∧ i < 6 * p + 6) → gI R' a i = gI R a i) ∧ R'.2 = R.2 ∧ (gI M' 0 8 = 0 → gI M 0 8 = 0 ∧ gI M' 0 6 = gI M 0 6 + 1 ∧ ∀ i, i < 6 → gI M' 8 (6 * p + i) = gI R' 12 (6 * p + i)) := by
  by_cases h8 : gI M 0 8 = 0
  · obtain ⟨h19, hnm, hz⟩ := hq h8
    obtain ⟨R1, k, s, k1, k2, s1, s2, w1, w2, w3, w4⟩ := word_R h h8
    have hT := h.2.1.1
    have l1 := h.1.1
    -- faults
    have lF : ∀ X, ¬ gI X 0 46 = 0 → (lett (0 : Int32) fun v5 =>
 lett (fun (M_5 : Mm) =>
 lett (0 : Int32) fun v7 =>
 loopR (fun (rec100 : (Int32 × Mm) → Option Mm) (x8 : Int32 × Mm) =>
 bnd (R_goes x8.2) fun r9 =>
 if r9 = 0 then
 (some x8.2)
 else
 (if (6 : Int32) ≤ x8.1 then
 (some x8.2)
 else
 (lett (fun (w_9 : Int32) =>
 ald (((6 : Int32) * (gI x8.2 0 19)) + x8.1) 36 (lett (sI x8.2 12 (ix (((6 : Int32) * (gI x8.2 0 19)) + x8.1)) w_9) fun M11 =>
 lett (x8.1 + (1 : Int32)) fun v12 =>
 rec100 (v12, M11))) fun j157 =>
 if (gI x8.2 0 44) ≤ ((gI x8.2 0 45) + x8.1) then
 (j157 (0 : Int32))
 else
 (ald ((gI x8.2 0 45) + x8.1) 1600 (j157 ((gI x8.2 13 (ix ((gI x8.2 0 45) + x8.1))) - (96 : Int32))))))) 1000000 (v7, M_5)) fun j98 =>
 loopR (fun (rec60 : (Int32 × Mm) → Option Mm) (x13 : Int32 × Mm) =>
 bnd (R_goes x13.2) fun r14 =>
 if r14 = 0 then
 (j98 x13.2)
 else
 (if (gI x13.2 0 19) ≤ x13.1 then
 (j98 x13.2)
 else
 (bnd (R_isName x13.1 x13.2) fun r15 =>
 lett (fun (M_15 : Mm) =>
 lett (x13.1 + (1 : Int32)) fun v17 =>
 rec60 (v17, M_15)) fun j92 =>
 if r15 = 0 then
 (j92 x13.2)
 else
 (bnd (R_fails (3 : Int32) (gI x13.2 0 45) x13.2) fun M18 =>
 j92 M18)))) 1000000 (v5, X)) = some X := fun X hX => by
      rw [lett_e, lett_e]
      refine loopR_sq (fun _ => ((0 : Int32), X)) 0 (by omega) rfl (fun i hi => by omega) (fun rec => ?_)
      dsimp only
      rw [goes_f hX, bnd_s, if_pos rfl, lett_e]
      refine loopR_sq (fun _ => ((0 : Int32), X)) 0 (by omega) rfl (fun i hi => by omega) (fun rec => ?_)
      dsimp only
      rw [goes_f hX, bnd_s, if_pos rfl]
    have bad : ∀ (R2 : Mm) (q : Int32), P_DExpectName (nI p) M = some (sI (sI M 0 8 1) 0 9 q) → R_freshName R = some R2 → RFr R R2 → gI R2 0 46 = 1 → gI R2 0 47 = q → ∃ M' R', P_DExpectName (nI p) M = some M' ∧ R_freshName R = some R' ∧ Zt l B T M' R' ∧ (∀ a i, ¬ (a = 0 ∧ (i = 6 ∨ i = 8 ∨ i = 9)) → ¬ (a = 8 ∧ 6 * p ≤ i ∧ i < 6 * p + 6) → gI M' a i = gI M a i) ∧ M'.2 = M.2 ∧ (∀ a i, ¬ (a = 0 ∧ 44 ≤ i ∧ i ≤ 47) → ¬ (a = 12 ∧ 6 * p ≤ i ∧ i < 6 * p + 6) → gI R' a i = gI R a i) ∧ R'.2 = R.2 ∧ (gI M' 0 8 = 0 → gI M 0 8 = 0 ∧ gI M' 0 6 = gI M 0 6 + 1 ∧ ∀ i, i < 6 → gI M' 8 (6 * p + i) = gI R' 12 (6 * p + i)) := fun R2 q e1 e2 e3 e4 e5 => ⟨_, R2, e1, e2, h.fail (f := 1) (p := q) (by decide) PFr.fail e3 k1 (by rw [gw_n _ _ _ _ (by omega), gw_n _ _ _ _ (by omega)]; exact k2) (by rw [gw_n _ _ _ _ (by omega), gw_s]) (gw_s _ _ _ _) e4 e5, fun a i q1 _ => PFr.fail.1 a i q1, rfl, fun a i q1 _ => e3.1 a i q1, e3.2, fun e => absurd e (by rw [gw_n _ _ _ _ (by omega), gw_s]; decide)⟩
    have f1 : (bnd (P_DFail (1 : Int32) (nI s) M) fun M2 => some M2) = some (sI (sI M 0 8 1) 0 9 (nI s)) := by rw [fail_P _ _ h8]; rfl
    rcases w4 with ⟨n, n1, n2, n3, n4, n5, n6, n7, n8, n9⟩ | ⟨n1, n2, n3, n4, n5⟩
    · obtain ⟨t1, t2, t3, -, ⟨t5, t6, t7, t8⟩, -⟩ := n2
      have rt1 : RT l B R1 := h.2.2.1.fr (fun a i q => w2.1 a i (by omega))
      by_cases e : gR M 4 k = none
      · have n8' : R_own R1 = some (-1) := by rw [n8, e]; rfl
        by_cases e6 : n ≤ 6
        · -- a name
          have pn : ∀ r, (bnd (P_LHasName (nI p) (nmP B s p M n)) fun r6 =>
 lett (fun (M_6 : Mm) =>
 lett (sI M_6 0 6 ((gI M_6 0 6) + (1 : Int32))) fun M8 =>
 some M8) fun j141 =>
 if r6 = 0 then
 (j141 (nmP B s p M n))
 else
 (bnd (P_DFail (3 : Int32) (nI s) (nmP B s p M n)) fun M9 =>
 j141 M9)) = r → P_DExpectName (nI p) M = r := fun r hr => by
            unfold P_DExpectName
            rw [if_pos h8, k2, ald_n (by omega) (by omega), lett_e, ald_n (by omega) (by omega), lett_e, ix_nI (by omega), t3, if_pos (show nI 1 = 1 from rfl), ald_n (by omega) (by omega), lett_e, e, if_pos rfl, ald_n (by omega) (by omega), t2, if_pos (nle_t 6 6 rfl e6 (by omega)), lett_e, lett_e]
            refine loopR_sq (fun i => (nI i, nmP B s p M i)) n (by omega) (by rw [nmP_0]; rfl) (fun i hi rec => ?_) (fun rec => ?_)
            · obtain ⟨b1, b2, b3⟩ := ltB_i.mp (n4 i hi)
              have q6 : gI (nmP B s p M i) 0 6 = nI k := by rw [nmP_I, if_neg (by omega)]; exact k2
              have q3 : gI (nmP B s p M i) 3 k = nI n := by rw [nmP_I, if_neg (by omega)]; exact t2
              have pt : PT l B (nmP B s p M i) := h.1.fr (fun a x q => by rw [nmP_I, if_neg (by omega)])
              have by1 : byN l B (s + i) = nI (B (s + i)) := by unfold byN; rw [if_pos b1]
              have v97 : nI (B (s + i)) - 97 + 1 = nI (B (s + i) - 96) := by
                rw [show nI (B (s + i)) - 97 = nI (B (s + i) - 97) from pk_sub (b := 97) (by omega), nI_1, show B (s + i) - 97 + 1 = B (s + i) - 96 by omega]
              dsimp only
              rw [q6, ald_n (by omega) (by omega), ix_nI (by omega), q3, if_neg (nI_ge hi (by omega)), s1, nI_add, P_by pt (by omega), bnd_s, show (6 : Int32) = nI 6 from rfl, pk_mul, nI_add, ald_n (by omega) (by omega), ix_nI (by omega), by1, v97, nmP_s, lett_e, lett_e, nA_1]
            · have q6 : gI (nmP B s p M n) 0 6 = nI k := by rw [nmP_I, if_neg (by omega)]; exact k2
              have q3 : gI (nmP B s p M n) 3 k = nI n := by rw [nmP_I, if_neg (by omega)]; exact t2
              dsimp only
              rw [q6, ald_n (by omega) (by omega), ix_nI (by omega), q3, if_pos (nI_le (Nat.le_refl _) (by omega)), s1]
              exact hr
          obtain ⟨Mn, hMn⟩ : ∃ Mn, Mn = nmP B s p M n := ⟨_, rfl⟩
          rw [← hMn] at pn
          have mI : ∀ a x, ¬ (a = 8 ∧ 6 * p ≤ x ∧ x < 6 * p + 6) → gI Mn a x = gI M a x := fun a x q => by rw [hMn, nmP_I, if_neg (by omega)]
          have mp : ∀ i, i < 6 → gI Mn 8 (6 * p + i) = nmI B s n i := fun i hi => by
            rw [hMn, nmP_I]
            unfold nmI
            by_cases q : i < n
            · rw [if_pos (by omega), if_pos q, show 6 * p + i - 6 * p = i by omega]
            · rw [if_neg (by omega), if_neg q]
              exact hz i hi
          have m6 : gI Mn 0 6 = nI k := (mI _ _ (by omega)).trans k2
          have m8 : gI Mn 0 8 = 0 := (mI _ _ (by omega)).trans h8
          have r19 : gI R1 0 19 = nI p := (w2.1 _ _ (by omega)).trans h19
          have lk : ∀ x, x < p → (P_LHasLikeNames (nI x) (nI p) Mn = some 1 ∧ R_isName (nI x) R1 = some 1) ∨ (P_LHasLikeNames (nI x) (nI p) Mn = some 0 ∧ R_isName (nI x) R1 = some 0) := fun x hx => by
            have e1 : ∀ i, i < 6 → gI R1 12 (6 * x + i) = gI Mn 8 (6 * x + i) := fun i hi => by
              rw [w2.1 _ _ (by omega), mI _ _ (by omega)]
              exact (hnm x i hx hi).symm
            rcases like_P (M := Mn) (a := fun q i => gI Mn 8 (6 * q + i)) (p := p) (x := x) (fun _ _ _ _ => rfl) hp (by omega) with ⟨c1, c2⟩ | ⟨c1, c2⟩
            · rcases like_R (R := R1) (a := fun i => gI R1 12 (6 * x + i)) (x := x) rt1 (fun _ _ => rfl) (by omega) w3 n5 t7 n4 with ⟨d1, d2⟩ | ⟨d1, d2⟩
              · exact Or.inl ⟨c2, d2⟩
              · exact absurd (fun i hi => by rw [e1 i hi, c1 i hi, mp i hi]) d1
            · rcases like_R (R := R1) (a := fun i => gI R1 12 (6 * x + i)) (x := x) rt1 (fun _ _ => rfl) (by omega) w3 n5 t7 n4 with ⟨d1, d2⟩ | ⟨d1, d2⟩
              · exact absurd (fun i hi => by rw [← e1 i hi, d1 i hi, mp i hi]) c1
              · exact Or.inr ⟨c2, d2⟩
          have rhead : ∀ r, (lett (0 : Int32) fun v5 =>
 lett (fun (M_5 : Mm) =>
 lett (0 : Int32) fun v7 =>
 loopR (fun (rec100 : (Int32 × Mm) → Option Mm) (x8 : Int32 × Mm) =>
 bnd (R_goes x8.2) fun r9 =>
 if r9 = 0 then
 (some x8.2)
 else
 (if (6 : Int32) ≤ x8.1 then
 (some x8.2)
 else
 (lett (fun (w_9 : Int32) =>
 ald (((6 : Int32) * (gI x8.2 0 19)) + x8.1) 36 (lett (sI x8.2 12 (ix (((6 : Int32) * (gI x8.2 0 19)) + x8.1)) w_9) fun M11 =>
 lett (x8.1 + (1 : Int32)) fun v12 =>
 rec100 (v12, M11))) fun j157 =>
 if (gI x8.2 0 44) ≤ ((gI x8.2 0 45) + x8.1) then
 (j157 (0 : Int32))
 else
 (ald ((gI x8.2 0 45) + x8.1) 1600 (j157 ((gI x8.2 13 (ix ((gI x8.2 0 45) + x8.1))) - (96 : Int32))))))) 1000000 (v7, M_5)) fun j98 =>
 loopR (fun (rec60 : (Int32 × Mm) → Option Mm) (x13 : Int32 × Mm) =>
 bnd (R_goes x13.2) fun r14 =>
 if r14 = 0 then
 (j98 x13.2)
 else
 (if (gI x13.2 0 19) ≤ x13.1 then
 (j98 x13.2)
 else
 (bnd (R_isName x13.1 x13.2) fun r15 =>
 lett (fun (M_15 : Mm) =>
 lett (x13.1 + (1 : Int32)) fun v17 =>
 rec60 (v17, M_15)) fun j92 =>
 if r15 = 0 then
 (j92 x13.2)
 else
 (bnd (R_fails (3 : Int32) (gI x13.2 0 45) x13.2) fun M18 =>
 j92 M18)))) 1000000 (v5, R1)) = r → R_freshName R = r := fun r hr => by
            unfold R_freshName
            rw [w1, bnd_s, goes_t n6, bnd_s, if_neg i10, n8', bnd_s, lett_e, if_pos rfl, n5, w3, pk_sub (by omega), show s + n - s = n by omega, if_pos (nle_t 6 6 rfl e6 (by omega))]
            exact hr
          obtain ⟨t, u1, u2⟩ := pk_least (fun x => x = p ∨ P_LHasLikeNames (nI x) (nI p) Mn = some 1) ⟨p, Or.inl rfl⟩
          have ut : t ≤ p := by
            rcases Nat.lt_or_ge p t with q | q
            · exact absurd (Or.inl rfl) (u2 p q)
            · exact q
          have lno : ∀ x, x < t → P_LHasLikeNames (nI x) (nI p) Mn = some 0 ∧ R_isName (nI x) R1 = some 0 := fun x hx => by
            rcases lk x (by omega) with ⟨c1, -⟩ | c
            · exact absurd (Or.inr c1) (u2 x hx)
            · exact c
          have ph : ∀ r, (∀ rec : Int32 → Option Int32, (if nI p ≤ nI t then
 (some (0 : Int32))
 else
 (bnd (P_LHasLikeNames (nI t) (nI p) Mn) fun r3 =>
 if r3 = 0 then
 (lett (nI t + (1 : Int32)) fun v4 =>
 rec v4)
 else
 (some (1 : Int32)))) = r) → P_LHasName (nI p) Mn = r := fun r hr => by
            unfold P_LHasName
            rw [lett_e]
            refine loopR_sq (fun x => nI x) t (by omega) rfl (fun x hx rec => ?_) (fun rec => hr rec)
            rw [if_neg (nI_ge (by omega) (by omega)), (lno x hx).1, bnd_s, if_pos rfl, lett_e, nA_1]
          by_cases et : t = p
          · -- all unlike
            have pz : P_LHasName (nI p) Mn = some 0 := ph _ (fun rec => by rw [if_pos (nI_le (by omega) (by omega))])
            have rI : ∀ a x, ¬ (a = 12 ∧ 6 * p ≤ x ∧ x < 6 * p + 6) → ∀ i, i ≤ 6 → gI (nmR B s n p R1 i) a x = gI R1 a x := fun a x q i hi => by rw [nmR_I, if_neg (by omega)]
            refine ⟨sI Mn 0 6 (nI k + 1), nmR B s n p R1 6, pn _ ?_, rhead _ ?_, ?_, fun a i q1 q2 => ?_, ?_, fun a i q1 q2 => ?_, ?_, fun _ => ⟨h8, by rw [gw_s, k2], fun i hi => ?_⟩⟩
            · rw [pz, bnd_s, lett_e, if_pos rfl]
              dsimp only
              rw [lett_e, m6]
            · rw [lett_e, lett_e]
              refine loopR_sq (fun x => (nI x, R1)) p (by omega) rfl (fun x hx rec => ?_) (fun rec => ?_)
              · dsimp only
                rw [goes_t n6, bnd_s, if_neg i10, r19, if_neg (nI_ge hx (by omega)), (lno x (by omega)).2, bnd_s, lett_e, if_pos rfl]
                dsimp only
                rw [lett_e, nA_1]
              · dsimp only
                rw [goes_t n6, bnd_s, if_neg i10, r19, if_pos (nI_le (Nat.le_refl _) (by omega)), lett_e]
                refine loopR_sq (fun i => (nI i, nmR B s n p R1 i)) 6 (by omega) (by rw [nmR_0]; rfl) (fun i hi rec => ?_) (fun rec => ?_)
                · have q46 : gI (nmR B s n p R1 i) 0 46 = 0 := (rI _ _ (by omega) i (by omega)).trans n6
                  have q19 : gI (nmR B s n p R1 i) 0 19 = nI p := (rI _ _ (by omega) i (by omega)).trans r19
                  have q44 : gI (nmR B s n p R1 i) 0 44 = nI (s + n) := (rI _ _ (by omega) i (by omega)).trans n5
                  have q45 : gI (nmR B s n p R1 i) 0 45 = nI s := (rI _ _ (by omega) i (by omega)).trans w3
                  dsimp only
                  rw [goes_t q46, bnd_s, if_neg i10, if_neg (le_f 6 6 rfl (by omega) (by omega)), lett_e, q19, nM_6, nI_add, q44, q45, nI_add]
                  by_cases q : i < n
                  · obtain ⟨b1, b2, b3⟩ := ltB_i.mp (n4 i q)
                    have q13 : gI (nmR B s n p R1 i) 13 (s + i) = nI (B (s + i)) := (rI _ _ (by omega) i (by omega)).trans (rt1.2.2.2.1 _ b1)
                    have nv : nI (B (s + i)) - 96 = nmI B s n i := by
                      unfold nmI
                      rw [if_pos q]
                      exact pk_sub (b := 96) (by omega)
                    rw [if_neg (nI_ge (by omega) (by omega)), ald_n (by omega) (by omega), ix_nI (show s + i < 2 ^ 31 by omega), q13, nv]
                    dsimp only
                    rw [ald_n (by omega) (by omega), ix_nI (by omega), nmR_s, lett_e, lett_e, nA_1]
                  · have nv : (0 : Int32) = nmI B s n i := by
                      unfold nmI
                      rw [if_neg q]
                    rw [if_pos (nI_le (by omega) (by omega)), nv]
                    dsimp only
                    rw [ald_n (by omega) (by omega), ix_nI (by omega), nmR_s, lett_e, lett_e, nA_1]
                · have q46 : gI (nmR B s n p R1 6) 0 46 = 0 := (rI _ _ (by omega) 6 (by omega)).trans n6
                  dsimp only
                  rw [goes_t q46, bnd_s, if_neg i10, if_pos (by decide)]
            · obtain ⟨z1, z2, z3, -, z5, z6, z7⟩ := h
              have e1 : ∀ a i, ¬ (a = 8) → ¬ (a = 0 ∧ i = 6) → gI (sI Mn 0 6 (nI k + 1)) a i = gI M a i := fun a i q1 q2 => (gw_n _ _ _ _ (by omega)).trans (mI a i (by omega))
              have e4 : ∀ i, gR (sI Mn 0 6 (nI k + 1)) 4 i = gR M 4 i := fun i => by rw [gR_sI, hMn]; rfl
              have e2 : ∀ a i, a ≠ 12 → gI (nmR B s n p R1 6) a i = gI R1 a i := fun a i q => rI a i (by omega) 6 (by omega)
              refine ⟨z1.fr (fun a i q => e1 a i (by omega) (by omega)), z2.fr (fun a i q => e1 a i (by omega) (by omega)) e4, rt1.fr (fun a i q => e2 a i (by omega)), ⟨k + 1, by omega, by rw [gw_s, nI_1], fun _ => ⟨s + n, (e2 _ _ (by omega)).trans n5, n9.fr (fun a i q => e1 a i (by omega) (by omega)) e4⟩⟩, ?_, ?_, fun i hi => by rw [e4]; exact z7 i hi⟩
              · rw [e1 _ _ (by omega) (by omega), e2 _ _ (by omega), n6]; exact h8
              · rw [e1 _ _ (by omega) (by omega), e2 _ _ (by omega), n7]; exact z6
            · exact (gw_n _ _ _ _ (by omega)).trans (mI a i q2)
            · rw [hMn]; rfl
            · exact (rI a i q2 6 (by omega)).trans (w2.1 a i q1)
            · exact w2.2
            · rw [gw_n _ _ _ _ (by omega), mp i hi, nmR_I, if_pos ⟨rfl, by omega, by omega⟩, show 6 * p + i - 6 * p = i by omega]
          · -- one alike
            have tl : P_LHasLikeNames (nI t) (nI p) Mn = some 1 ∧ R_isName (nI t) R1 = some 1 := by
              rcases u1 with q | q
              · exact absurd q et
              · rcases lk t (by omega) with c | ⟨c1, -⟩
                · exact c
                · rw [q] at c1; exact absurd (Option.some.inj c1) i10
            have p1 : P_LHasName (nI p) Mn = some 1 := ph _ (fun rec => by rw [if_neg (nI_ge (by omega) (by omega)), tl.1, bnd_s, if_neg i10])
            obtain ⟨X, hX⟩ : ∃ X, X = sI (sI R1 0 46 3) 0 47 (nI s) := ⟨_, rfl⟩
            have x46 : gI X 0 46 = 3 := by rw [hX, gw_n _ _ _ _ (by omega), gw_s]
            have x47 : gI X 0 47 = nI s := by rw [hX, gw_s]
            have xr : RFr R X := by rw [hX]; exact w2.tr RFr.fail
            refine ⟨sI (sI (sI Mn 0 8 3) 0 9 (nI s)) 0 6 (nI (k + 1)), X, pn _ ?_, rhead _ ?_, ?_, fun a i q1 q2 => ?_, ?_, fun a i q1 q2 => xr.1 a i q1, xr.2, fun e => absurd e (by rw [gw_n _ _ _ _ (by omega), gw_n _ _ _ _ (by omega), gw_s]; decide)⟩
            · rw [p1, bnd_s, lett_e, if_neg i10, fail_P _ _ m8, bnd_s]
              dsimp only
              rw [lett_e, gw_n _ _ _ _ (by omega), gw_n _ _ _ _ (by omega), m6, nI_1]
            · rw [lett_e, lett_e]
              refine loopR_sq (fun x => (nI x, if x ≤ t then R1 else X)) (t + 1) (by omega) (by rw [if_pos (by omega)]; rfl) (fun x hx rec => ?_) (fun rec => ?_)
              · rw [if_pos (show x ≤ t by omega)]
                dsimp only
                rw [goes_t n6, bnd_s, if_neg i10, r19, if_neg (nI_ge (show x < p by omega) (by omega))]
                by_cases ex : x = t
                · subst ex
                  rw [tl.2, bnd_s, lett_e, if_neg i10, w3, fail_R _ _ n6, bnd_s, ← hX, if_neg (show ¬ x + 1 ≤ x by omega)]
                  dsimp only
                  rw [lett_e, nA_1]
                · rw [(lno x (by omega)).2, bnd_s, lett_e, if_pos rfl, if_pos (show x + 1 ≤ t by omega)]
                  dsimp only
                  rw [lett_e, nA_1]
              · rw [if_neg (show ¬ t + 1 ≤ t by omega)]
                dsimp only
                rw [goes_f (by rw [x46]; decide), bnd_s, if_pos rfl, lett_e]
                refine loopR_sq (fun _ => ((0 : Int32), X)) 0 (by omega) rfl (fun i hi => by omega) (fun rec => ?_)
                dsimp only
                rw [goes_f (by rw [x46]; decide), bnd_s, if_pos rfl]
            · obtain ⟨z1, z2, z3, -, z5, z6, z7⟩ := h
              have e1 : ∀ a i, ¬ (a = 8) → ¬ (a = 0 ∧ (i = 6 ∨ i = 8 ∨ i = 9)) → gI (sI (sI (sI Mn 0 8 3) 0 9 (nI s)) 0 6 (nI (k + 1))) a i = gI M a i := fun a i q1 q2 => by
                rw [gw_n _ _ _ _ (by omega), gw_n _ _ _ _ (by omega), gw_n _ _ _ _ (by omega)]
                exact mI a i (by omega)
              have e4 : ∀ i, gR (sI (sI (sI Mn 0 8 3) 0 9 (nI s)) 0 6 (nI (k + 1))) 4 i = gR M 4 i := fun i => by rw [gR_sI, gR_sI, gR_sI, hMn]; rfl
              refine ⟨z1.fr (fun a i q => e1 a i (by omega) (by omega)), z2.fr (fun a i q => e1 a i (by omega) (by omega)) e4, z3.fr (fun a i q => xr.1 a i (by omega)), ⟨k + 1, by omega, gw_s _ _ _ _, fun e => absurd e (by rw [gw_n _ _ _ _ (by omega), gw_n _ _ _ _ (by omega), gw_s]; decide)⟩, ?_, ?_, fun i hi => by rw [e4]; exact z7 i hi⟩
              · rw [gw_n _ _ _ _ (by omega), gw_n _ _ _ _ (by omega), gw_s, x46]
              · rw [gw_n _ _ _ _ (by omega), gw_s, x47]
            · rw [gw_n _ _ _ _ (by omega), gw_n _ _ _ _ (by omega), gw_n _ _ _ _ (by omega)]
              exact mI a i q2
            · rw [hMn]; rfl
        · -- too long
          refine bad (sI (sI R1 0 46 1) 0 47 (nI (s + 6))) (nI (s + 6)) ?_ ?_ (w2.tr RFr.fail) (by rw [gw_n _ _ _ _ (by omega), gw_s]) (gw_s _ _ _ _)
          · unfold P_DExpectName
            rw [if_pos h8, k2, ald_n (by omega) (by omega), lett_e, ald_n (by omega) (by omega), lett_e, ix_nI (by omega), t3, if_pos (show nI 1 = 1 from rfl), ald_n (by omega) (by omega), lett_e, e, if_pos rfl, ald_n (by omega) (by omega), t2, if_neg (nle_f 6 6 rfl (by omega) (by omega)), s1, nA_6, fail_P _ _ h8]
            rfl
          · unfold R_freshName
            rw [w1, bnd_s, goes_t n6, bnd_s, if_neg i10, n8', bnd_s, lett_e, if_pos rfl, n5, w3, pk_sub (by omega), show s + n - s = n by omega, if_neg (nle_f 6 6 rfl (by omega) (by omega)), nA_6, fail_R _ _ n6, bnd_s]
            exact lF _ (by rw [gw_n _ _ _ _ (by omega), gw_s]; decide)
      · -- an OWN WORD
        have ok := h.2.2.2.2.2.2 k (by omega)
        have no1 : ¬ ownI (gR M 4 k) = -1 := by
          cases hw : gR M 4 k with
          | none => exact absurd hw e
          | some w =>
            show ¬ nI (w - 1000) = -1
            rw [hw] at ok
            have h2 : (Nat.ble 1000 w && Nat.blt w 1020) = true := ok
            rw [Bool.and_eq_true] at h2
            have h4 : w < 1020 := Nat.blt_eq.mp h2.2
            exact nI_m1 (by omega)
        refine bad (sI (sI R1 0 46 1) 0 47 (nI s)) (nI s) ?_ ?_ (w2.tr RFr.fail) (by rw [gw_n _ _ _ _ (by omega), gw_s]) (gw_s _ _ _ _)
        · unfold P_DExpectName
          rw [if_pos h8, k2, ald_n (by omega) (by omega), lett_e, ald_n (by omega) (by omega), lett_e, ix_nI (by omega), t3, if_pos (show nI 1 = 1 from rfl), ald_n (by omega) (by omega), lett_e, if_neg e, s1]
          exact f1
        · unfold R_freshName
          rw [w1, bnd_s, goes_t n6, bnd_s, if_neg i10, n8, bnd_s, lett_e, if_neg no1, w3, fail_R _ _ n6, bnd_s]
          exact lF _ (by rw [gw_n _ _ _ _ (by omega), gw_s]; decide)
    · refine bad R1 (nI s) ?_ ?_ w2 n3 n4
      · unfold P_DExpectName
        rw [if_pos h8, k2, ald_n (by omega) (by omega), lett_e, ald_n (by omega) (by omega), lett_e, ix_nI (by omega), if_neg n2, s1]
        exact f1
      · unfold R_freshName
        rw [w1, bnd_s, goes_f (by rw [n3]; decide), bnd_s, if_pos rfl]
  · have h46 : ¬ gI R 0 46 = 0 := fun e => h8 (h.2.2.2.2.1.trans e)
    refine ⟨M, R, ?_, ?_, h, fun _ _ _ _ => rfl, rfl, fun _ _ _ _ => rfl, rfl, fun e => absurd e h8⟩
    · unfold P_DExpectName
      rw [if_neg h8]
    · unfold R_freshName
      rw [word_F h46, bnd_s, goes_f h46, bnd_s, if_pos rfl]
end NAME
