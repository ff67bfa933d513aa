/-! PURE, THE REFERENCE: asking -/
/-- to which queue a request goes, and the state then -/
def aRt (m0 : Mm) (D : Nat → Int32) (p : Nat) (sec : Int32) : Int32 × (Nat → Int32) :=
  if D (18 + 14 * p + 6) = nI p then
    (if D 2 = -1 then (nI p, D) else if D 2 = nI p then (nI p, D) else if gI m0 3 p = 1 then (nI p, D) else if gI m0 3 (ix (D 2)) = 1 then (nI p, D)
     else if aAway sec (D (102 + 8 * ix (D 2) + 2)) ≤ gI m0 0 7 then (D 2, updD (updD D (18 + 14 * p + 6) (D 2)) (18 + 14 * p + 7) 0) else (nI p, D))
  else
    (if aAway sec (D (102 + 8 * ix (D (18 + 14 * p + 6)) + 2)) ≤ gI m0 0 7 then (D (18 + 14 * p + 6), updD D (18 + 14 * p + 7) 0)
     else if 3 ≤ D (18 + 14 * p + 7) + 1 then (nI p, updD (updD (updD D (18 + 14 * p + 7) (D (18 + 14 * p + 7) + 1)) (18 + 14 * p + 7) 0) (18 + 14 * p + 6) (nI p))
     else (D (18 + 14 * p + 6), updD D (18 + 14 * p + 7) (D (18 + 14 * p + 7) + 1)))
/-- a number that is a queue's (or none) -/
def isQ (x : Int32) : Prop := ∃ a, a < 6 ∧ x = nI a
theorem isQ_ix {x : Int32} (h : isQ x) : ix x < 6 ∧ x = nI (ix x) := by
  obtain ⟨a, ha, rfl⟩ := h
  rw [ix_nI (by omega)]
  exact ⟨ha, rfl⟩
theorem ald_q {ρ : Type} {x : Int32} (h : isQ x) (o : Option ρ) : ald x 6 o = o := by
  obtain ⟨a, ha, rfl⟩ := h
  exact ald_n ha (by omega) o
section R2
variable {m0 : Mm} {B : Nat} {D : Nat → Int32} {F : Nat → UInt32}
theorem mkR_3 (m0 : Mm) (B : Nat) (D : Nat → Int32) (F : Nat → UInt32) (k : Nat) : gI (mkR m0 B D F) 3 k = gI m0 3 k := mkR_o _ _ _ _ (by decide) (Or.inl (by decide))
theorem mkR_0 (m0 : Mm) (B : Nat) (D : Nat → Int32) (F : Nat → UInt32) {k : Nat} (h : k < 53) : gI (mkR m0 B D F) 0 k = gI m0 0 k := mkR_o _ _ _ _ (by decide) (Or.inr ⟨by omega, by omega⟩)
theorem R_goesTo_m (hB : BB B) {p : Nat} (hp : p < 6) (hv : isQ (D (18 + 14 * p + 6))) (ha : D 2 = -1 ∨ isQ (D 2)) (sec : Int32) : R_goesTo (nI p) sec (mkR m0 B D F) = some ((aRt m0 D p sec).1, mkR m0 B (aRt m0 D p sec).2 F) := by
  unfold R_goesTo aRt
  rw [R_of_k6 hB p rfl hp, bnd_s, lett_e]
  by_cases h1 : D (18 + 14 * p + 6) = nI p
  · rw [if_pos h1, if_pos h1, R_its_k2 hB, bnd_s, lett_e]
    by_cases h2 : D 2 = -1
    · rw [if_pos h2, if_pos h2]
    · rw [if_neg h2, if_neg h2]
      have hq := ha.resolve_left h2
      have ha := isQ_ix hq
      by_cases h3 : D 2 = nI p
      · rw [if_pos h3, if_pos h3]
      · rw [if_neg h3, if_neg h3, ald_n hp (by omega), mkR_3, ix_nI (by omega)]
        by_cases h4 : gI m0 3 p = 1
        · rw [if_pos h4, if_pos h4]
        · rw [if_neg h4, if_neg h4, ald_q hq, mkR_3]
          by_cases h5 : gI m0 3 (ix (D 2)) = 1
          · rw [if_pos h5, if_pos h5]
          · rw [if_neg h5, if_neg h5, R_ofQueue_k2 hB _ ha.2 ha.1, bnd_s, R_away_m, bnd_s, mkR_0 _ _ _ _ (by omega)]
            by_cases h6 : aAway sec (D (102 + 8 * ix (D 2) + 2)) ≤ gI m0 0 7
            · rw [if_pos h6, if_pos h6, R_sets_k6 hB p rfl hp, bnd_s, R_sets_k7 hB p rfl hp, bnd_s]
            · rw [if_neg h6, if_neg h6]
  · have hv := isQ_ix hv
    rw [if_neg h1, if_neg h1, R_ofQueue_k2 hB _ hv.2 hv.1, bnd_s, R_away_m, bnd_s, mkR_0 _ _ _ _ (by omega)]
    simp only [lett_e]
    by_cases h6 : aAway sec (D (102 + 8 * ix (D (18 + 14 * p + 6)) + 2)) ≤ gI m0 0 7
    · rw [if_pos h6, if_pos h6, if_pos trivial, R_sets_k7 hB p rfl hp, bnd_s, R_of_k7 hB p rfl hp, bnd_s, updD_s, if_neg (by decide)]
    · rw [if_neg h6, if_neg h6, if_neg (by decide), R_of_k7 hB p rfl hp, bnd_s, R_sets_k7 hB p rfl hp, bnd_s, R_of_k7 hB p rfl hp, bnd_s, updD_s]
      by_cases h7 : 3 ≤ D (18 + 14 * p + 7) + 1
      · rw [if_pos h7, if_pos h7, R_sets_k7 hB p rfl hp, bnd_s, R_sets_k6 hB p rfl hp, bnd_s]
      · rw [if_neg h7, if_neg h7]
end R2
