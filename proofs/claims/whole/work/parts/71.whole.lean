/-! PURE: the whole relation of the class's memory and the reference's -/
def Pn (P Q : Nat) (C : Mm) : Prop := gR C 0 0 = some P ∧ gR C 0 1 = some Q ∧ ((P = 1 ∧ Q = 10) ∨ (P = 10 ∧ Q = 1)) ∧ gR C 26 0 = some P ∧ gdW 25 C = true
def Tp (C R : Mm) : Prop := ∃ l, l ≤ 1600 ∧ gI C 19 1 = nI l ∧ gI R 0 39 = nI l ∧ ∀ i, i < l → isN 256 (gI R 13 i) ∧ gI C 20 i = gI R 13 i
/-- the letters of the OWN WORDS, each with a 0 behind it -/
def ownW : List Int32 := [4, 9, 19, 11, 0, 19, 5, 5, 11, 0, 18, 1, 20, 5, 0, 2, 21, 4, 7, 5, 20, 0, 20, 15, 0, 9, 4, 12, 5, 0, 19, 12, 9, 3, 5, 0, 14, 5, 1, 18, 0, 18, 1, 9, 19, 5, 0, 6, 15, 18, 0, 18, 5, 19, 20, 0, 23, 5, 9, 7, 8, 20, 0, 6, 18, 15, 13, 0, 4, 15, 5, 19, 0, 19, 20, 18, 5, 1, 13, 0, 1, 20, 0, 15, 14, 0, 20, 1, 11, 5, 0, 20, 8, 9, 14, 11, 0, 16, 18, 15, 3, 5, 19, 19, 0]
def ownL (i : Nat) : Int32 := ownW.getD i 0
def Fl (C R : Mm) : Prop := gI C 0 13 = gI R 0 41 ∧ gI C 0 14 = gI R 0 42 ∧ ∀ i, i < 105 → gI R 15 i = ownL i
def Rf (C R : Mm) : Prop := ∀ i, i < 6 → gI C 72 i = gI R 14 i
def Sd (C R : Mm) : Prop := ∃ a, a < 2 ^ 31 ∧ gL C 0 15 = Int64.ofNat a ∧ gI R 0 66 = nI a
def Pc (C R : Mm) : Prop := ∃ l, l ≤ 15 ∧ gI C 70 1 = nI l ∧ gI R 0 68 = nI l ∧ ∀ i, i < l → gI C 71 i = gI R 26 i
def Sn (n : Nat) (C R : Mm) : Prop := ∃ k, k ≤ 16 ∧ gI C 67 2 = nI k ∧ gI R 0 61 = nI k ∧ ∀ i, i < k → gI C 68 i = gI R 22 i ∧ gI C 69 i = gI R 23 i ∧ isR 1 61 (gI R 22 i) ∧ (isN n (gI R 23 i) ∨ gI R 23 i = 6)
def No (n P : Nat) (C R : Mm) : Prop := n = 0 ∧ gI R 0 0 = 0 ∧ gI R 0 1 = 0 ∧ (gI R 16 6 = 0 ∧ gI R 16 7 = 0 ∧ gI R 16 9 = 0 ∧ gI R 0 61 = 0 ∧ gI R 0 55 = 0) ∧ (gI C P 0 = 0 ∧ gI C P 11 = 0) ∧ (gI C 26 6 = 0 ∧ gI C 26 7 = 0 ∧ gI C 26 10 = 0 ∧ gI C 26 12 = 0 ∧ gI C 26 14 = 0 ∧ gI C 26 15 = 0 ∧ gI C 26 16 = 0 ∧ gI C 26 17 = 0 ∧ gI C 26 11 = -1 ∧ gI C 32 1 = 0)
def Di (n P : Nat) (C R : Mm) : Prop := gI R 0 0 = 1 ∧ (∃ s t c, t ≤ 9999 ∧ StR R n s t c (gI R 16) (gF R 17) C 26 P) ∧ (∀ p k, p < n → k < 6 → gI C (P + 1) (6 * p + k) = gI R 6 (6 * p + k)) ∧ ∀ p, p < n → gI C (P + 4) p = gI R 2 p
def plc (pn u i : Nat) : Nat := 74 + 20 * ((pn + 20 + i + 1 - u) % 20)
def Pa (n P : Nat) (C R : Mm) : Prop := ∃ u pn, u ≤ 20 ∧ pn < 20 ∧ gI C 0 8 = nI u ∧ gI C 0 7 = nI pn ∧ gI R 0 55 = nI u ∧ ∀ i, i < u → ∃ s t c, t ≤ 9999 ∧ StR R n s t c (fun j => gI R 18 (758 * i + j)) (fun j => gF R 19 (20 * i + j)) C (plc pn u i) P
def Rl (n P Q : Nat) (C R : Mm) : Prop := Pn P Q C ∧ Tp C R ∧ Fl C R ∧ Rf C R ∧ Sd C R ∧ Pc C R ∧ Sn n C R ∧ (No n P C R ∨ Di n P C R) ∧ Pa n P C R
section FR
variable {n P Q : Nat} {C C' R R' : Mm}
theorem Pn.PQ (h : Pn P Q C) : P = 1 ∨ P = 10 := by have := h.2.2.1; omega
theorem Pn.le (h : Pn P Q C) : P ≤ 10 ∧ Q ≤ 10 := by have := h.2.2.1; omega
theorem Pn.fr (h : Pn P Q C) (h1 : ∀ a k, a = 0 ∨ a = 25 ∨ a = 26 → gR C' a k = gR C a k) : Pn P Q C' := by
  obtain ⟨a1, a2, a3, a4, a5⟩ := h
  refine ⟨by rw [h1 _ _ (by omega)]; exact a1, by rw [h1 _ _ (by omega)]; exact a2, a3, by rw [h1 _ _ (by omega)]; exact a4, ?_⟩
  unfold gdW at a5 ⊢
  simp only [h1 25 _ (by omega)]
  exact a5
theorem Tp.fr (h : Tp C R) (hC : ∀ a k, (a = 19 ∧ k = 1) ∨ a = 20 → gI C' a k = gI C a k) (hR : ∀ a k, (a = 0 ∧ k = 39) ∨ a = 13 → gI R' a k = gI R a k) : Tp C' R' := by
  obtain ⟨l, h1, h2, h3, h4⟩ := h
  refine ⟨l, h1, (hC _ _ (by omega)).trans h2, (hR _ _ (by omega)).trans h3, fun i hi => ?_⟩
  rw [hC _ _ (by omega), hR _ _ (by omega)]
  exact h4 i hi
theorem Fl.fr (h : Fl C R) (hC : ∀ a k, a = 0 ∧ (k = 13 ∨ k = 14) → gI C' a k = gI C a k) (hR : ∀ a k, (a = 0 ∧ (k = 41 ∨ k = 42)) ∨ a = 15 → gI R' a k = gI R a k) : Fl C' R' := by
  unfold Fl at h ⊢
  rw [hC _ _ (by omega), hC _ _ (by omega), hR _ _ (by omega), hR _ _ (by omega)]
  exact ⟨h.1, h.2.1, fun i hi => (hR _ _ (by omega)).trans (h.2.2 i hi)⟩
theorem Rf.fr (h : Rf C R) (hC : ∀ a k, a = 72 → gI C' a k = gI C a k) (hR : ∀ a k, a = 14 → gI R' a k = gI R a k) : Rf C' R' := fun i hi => by
  rw [hC _ _ rfl, hR _ _ rfl]
  exact h i hi
theorem Sd.fr (h : Sd C R) (hC : gL C' 0 15 = gL C 0 15) (hR : gI R' 0 66 = gI R 0 66) : Sd C' R' := by
  unfold Sd at h ⊢
  rw [hC, hR]
  exact h
theorem Pc.fr (h : Pc C R) (hC : ∀ a k, (a = 70 ∧ k = 1) ∨ a = 71 → gI C' a k = gI C a k) (hR : ∀ a k, (a = 0 ∧ k = 68) ∨ a = 26 → gI R' a k = gI R a k) : Pc C' R' := by
  obtain ⟨l, h1, h2, h3, h4⟩ := h
  refine ⟨l, h1, (hC _ _ (by omega)).trans h2, (hR _ _ (by omega)).trans h3, fun i hi => ?_⟩
  rw [hC _ _ (by omega), hR _ _ (by omega)]
  exact h4 i hi
theorem Sn.fr (h : Sn n C R) (hC : ∀ a k, (a = 67 ∧ k = 2) ∨ a = 68 ∨ a = 69 → gI C' a k = gI C a k) (hR : ∀ a k, (a = 0 ∧ k = 61) ∨ a = 22 ∨ a = 23 → gI R' a k = gI R a k) : Sn n C' R' := by
  obtain ⟨l, h1, h2, h3, h4⟩ := h
  refine ⟨l, h1, (hC _ _ (by omega)).trans h2, (hR _ _ (by omega)).trans h3, fun i hi => ?_⟩
  rw [hC _ _ (by omega), hR _ _ (by omega), hC _ _ (by omega), hR _ _ (by omega)]
  exact h4 i hi
theorem No.fr (h : No n P C R) (hC : ∀ a k, a = P ∨ a = 26 ∨ a = 32 → gI C' a k = gI C a k) (hR : ∀ a k, (a = 0 ∧ (k ≤ 12 ∨ k = 61 ∨ k = 55)) ∨ (a = 16 ∧ k < 758) → gI R' a k = gI R a k) : No n P C' R' := by
  unfold No at h ⊢
  simp (disch := omega) only [hC, hR]
  exact h
theorem SP.of (hR : ∀ a k, (a = 0 ∧ k ≤ 12) ∨ (1 ≤ a ∧ a ≤ 6) → gI R' a k = gI R a k) : SP R R' := ⟨fun k hk => hR _ _ (by omega), fun a k h1 h2 => hR _ _ (by omega)⟩
theorem Di.fr (h : Di n P C R) (hC : ∀ a k, (26 ≤ a ∧ a < 46) ∨ (P ≤ a ∧ a < P + 9) → gI C' a k = gI C a k) (hF : ∀ a k, 26 ≤ a ∧ a < 46 → gF C' a k = gF C a k) (hr : gR C' 26 0 = gR C 26 0) (hR : ∀ a k, (a = 0 ∧ k ≤ 12) ∨ (1 ≤ a ∧ a ≤ 6) ∨ (a = 16 ∧ k < 758) → gI R' a k = gI R a k) (hG : ∀ k, k < 20 → gF R' 17 k = gF R 17 k) : Di n P C' R' := by
  obtain ⟨h1, ⟨s, t, c, ht, h2⟩, h3, h4⟩ := h
  refine ⟨(hR _ _ (by omega)).trans h1, ⟨s, t, c, ht, h2.fr (SP.of (fun a k h => hR a k (by omega))) (fun j hj => hR _ _ (by omega)) (fun j hj => hG j hj) (fun a k h => hC a k (by omega)) hF hr⟩, fun p k hp hk => ?_, fun p hp => ?_⟩
  · rw [hC _ _ (by omega), hR _ _ (by omega)]; exact h3 p k hp hk
  · rw [hC _ _ (by omega), hR _ _ (by omega)]; exact h4 p hp
theorem plc_b (pn u i : Nat) : 74 ≤ plc pn u i ∧ plc pn u i ≤ 454 := by
  unfold plc
  have := Nat.mod_lt (pn + 20 + i + 1 - u) (show 20 > 0 by omega)
  omega
theorem Pa.fr (h : Pa n P C R) (hC : ∀ a k, (a = 0 ∧ (k = 7 ∨ k = 8)) ∨ 74 ≤ a ∨ (P ≤ a ∧ a < P + 9) → gI C' a k = gI C a k) (hF : ∀ a k, 74 ≤ a → gF C' a k = gF C a k) (hr : ∀ a, 74 ≤ a → gR C' a 0 = gR C a 0) (hR : ∀ a k, (a = 0 ∧ (k ≤ 12 ∨ k = 55)) ∨ (1 ≤ a ∧ a ≤ 6) ∨ a = 18 → gI R' a k = gI R a k) (hG : ∀ k, gF R' 19 k = gF R 19 k) : Pa n P C' R' := by
  obtain ⟨u, pn, h1, h2, h3, h4, h5, h6⟩ := h
  refine ⟨u, pn, h1, h2, (hC _ _ (by omega)).trans h3, (hC _ _ (by omega)).trans h4, (hR _ _ (by omega)).trans h5, fun i hi => ?_⟩
  obtain ⟨s, t, c, ht, h⟩ := h6 i hi
  have := plc_b pn u i
  exact ⟨s, t, c, ht, h.fr (SP.of (fun a k h => hR a k (by omega))) (fun j hj => hR _ _ (by omega)) (fun j hj => hG _) (fun a k h => hC a k (by omega)) (fun a k h => hF a k (by omega)) (hr _ (by omega))⟩
/-- only what neither looks at has changed -/
def CSm (C C' : Mm) : Prop := (∀ a k, a < 46 ∨ (66 ≤ a ∧ a ≠ 73) → gI C' a k = gI C a k) ∧ (∀ a k, (26 ≤ a ∧ a < 46) ∨ 66 ≤ a → gF C' a k = gF C a k) ∧ (∀ a k, gL C' a k = gL C a k) ∧ ∀ a k, a < 46 ∨ 66 ≤ a → gR C' a k = gR C a k
def RSm (R R' : Mm) : Prop := (∀ a k, ¬ (a = 0 ∧ 53 ≤ k ∧ k ≤ 58 ∧ k ≠ 55) → ¬ (a = 16 ∧ 758 ≤ k) → a ≠ 20 → a ≠ 21 → a ≠ 24 → a ≠ 25 → gI R' a k = gI R a k) ∧ ∀ a k, ¬ (a = 17 ∧ 20 ≤ k) → gF R' a k = gF R a k
theorem CSm.rf : CSm C C := ⟨fun _ _ _ => rfl, fun _ _ _ => rfl, fun _ _ => rfl, fun _ _ _ => rfl⟩
theorem RSm.rf : RSm R R := ⟨fun _ _ _ _ _ _ _ _ => rfl, fun _ _ _ => rfl⟩
theorem CSm.tr {C2 : Mm} (h : CSm C C') (h' : CSm C' C2) : CSm C C2 := ⟨fun a k e => (h'.1 a k e).trans (h.1 a k e), fun a k e => (h'.2.1 a k e).trans (h.2.1 a k e), fun a k => (h'.2.2.1 a k).trans (h.2.2.1 a k), fun a k e => (h'.2.2.2 a k e).trans (h.2.2.2 a k e)⟩
theorem RSm.tr {R2 : Mm} (h : RSm R R') (h' : RSm R' R2) : RSm R R2 := ⟨fun a k e1 e2 e3 e4 e5 e6 => (h'.1 a k e1 e2 e3 e4 e5 e6).trans (h.1 a k e1 e2 e3 e4 e5 e6), fun a k e => (h'.2 a k e).trans (h.2 a k e)⟩
theorem Rl.sm (h : Rl n P Q C R) (c : CSm C C') (r : RSm R R') : Rl n P Q C' R' := by
  obtain ⟨h1, h2, h3, h4, h5, h6, h7, h8, h9⟩ := h
  obtain ⟨c1, c2, c3, c4⟩ := c
  obtain ⟨r1, r2⟩ := r
  have hp := h1.le
  refine ⟨h1.fr (fun a k h => c4 a k (by omega)), h2.fr (fun a k h => c1 a k (by omega)) (fun a k h => r1 a k (by omega) (by omega) (by omega) (by omega) (by omega) (by omega)), h3.fr (fun a k h => c1 a k (by omega)) (fun a k h => r1 a k (by omega) (by omega) (by omega) (by omega) (by omega) (by omega)), h4.fr (fun a k h => c1 a k (by omega)) (fun a k h => r1 a k (by omega) (by omega) (by omega) (by omega) (by omega) (by omega)), h5.fr (c3 _ _) (r1 _ _ (by omega) (by omega) (by omega) (by omega) (by omega) (by omega)), h6.fr (fun a k h => c1 a k (by omega)) (fun a k h => r1 a k (by omega) (by omega) (by omega) (by omega) (by omega) (by omega)), h7.fr (fun a k h => c1 a k (by omega)) (fun a k h => r1 a k (by omega) (by omega) (by omega) (by omega) (by omega) (by omega)), ?_, h9.fr (fun a k h => c1 a k (by omega)) (fun a k h => c2 a k (by omega)) (fun a h => c4 a 0 (by omega)) (fun a k h => r1 a k (by omega) (by omega) (by omega) (by omega) (by omega) (by omega)) (fun k => r2 _ _ (by omega))⟩
  rcases h8 with h8 | h8
  · exact Or.inl (h8.fr (fun a k h => c1 a k (by omega)) (fun a k h => r1 a k (by omega) (by omega) (by omega) (by omega) (by omega) (by omega)))
  · exact Or.inr (h8.fr (fun a k h => c1 a k (by omega)) (fun a k h => c2 a k (by omega)) (c4 _ _ (by omega)) (fun a k h => r1 a k (by omega) (by omega) (by omega) (by omega) (by omega) (by omega)) (fun k h => r2 _ _ (by omega)))
/-- a call refused -/
theorem Rl.ref (h : Rl n P Q C R) (p : Nat) : Rl n P Q (sI C 72 p (gI C 72 p + 1)) (sI R 14 p (gI R 14 p + 1)) := by
  obtain ⟨h1, h2, h3, h4, h5, h6, h7, h8, h9⟩ := h
  have hp := h1.le
  have c1 : ∀ a k, a ≠ 72 → gI (sI C 72 p (gI C 72 p + 1)) a k = gI C a k := fun a k h => gw_n _ _ _ _ (by omega)
  have r1 : ∀ a k, a ≠ 14 → gI (sI R 14 p (gI R 14 p + 1)) a k = gI R a k := fun a k h => gw_n _ _ _ _ (by omega)
  refine ⟨h1.fr (fun a k h => rfl), h2.fr (fun a k h => c1 a k (by omega)) (fun a k h => r1 a k (by omega)), h3.fr (fun a k h => c1 a k (by omega)) (fun a k h => r1 a k (by omega)), fun i hi => ?_, h5.fr rfl (r1 _ _ (by omega)), h6.fr (fun a k h => c1 a k (by omega)) (fun a k h => r1 a k (by omega)), h7.fr (fun a k h => c1 a k (by omega)) (fun a k h => r1 a k (by omega)), ?_, h9.fr (fun a k h => c1 a k (by omega)) (fun a k h => rfl) (fun a h => rfl) (fun a k h => r1 a k (by omega)) (fun k => rfl)⟩
  · rw [gI_sI, gI_sI]
    by_cases e : i = p
    · subst e
      rw [if_pos ⟨rfl, rfl⟩, if_pos ⟨rfl, rfl⟩, h4 i hi]
    · rw [if_neg (by omega), if_neg (by omega)]; exact h4 i hi
  · rcases h8 with h8 | h8
    · exact Or.inl (h8.fr (fun a k h => c1 a k (by omega)) (fun a k h => r1 a k (by omega)))
    · exact Or.inr (h8.fr (fun a k h => c1 a k (by omega)) (fun a k h => rfl) rfl (fun a k h => r1 a k (by omega)) (fun k h => rfl))
end FR
/-! the state now, the state tried, of the reference -/
def R0 (R : Mm) : Mm := mkR R 0 (gI R 16) (gF R 17)
theorem R_isNow_e (R : Mm) : R_isNow R = some (R0 R) := by
  unfold R_isNow
  rw [lett_e, lett_e]
  refine congrArg some (Prod.ext (funext fun a => funext fun k => ?_) (Prod.ext (funext fun a => funext fun k => ?_) rfl))
  · show (if a = 0 ∧ k = 54 then (0 : Int32) else if a = 0 ∧ k = 53 then (0 : Int32) else R.1 a k) = if a = 16 ∧ 0 ≤ k ∧ k < 0 + 758 then R.1 16 (k - 0) else if a = 0 ∧ k = 53 then nI 0 else if a = 0 ∧ k = 54 then nI (pB 0) else R.1 a k
    by_cases h1 : a = 16 ∧ 0 ≤ k ∧ k < 0 + 758
    · rw [if_neg (by omega), if_neg (by omega), if_pos h1, h1.1]; rfl
    · rw [if_neg h1]
      by_cases h2 : a = 0 ∧ k = 54
      · rw [if_pos h2, if_neg (by omega), if_pos h2]; rfl
      · rw [if_neg h2, if_neg h2]; rfl
  · show R.2.1 a k = if a = 17 ∧ pB 0 ≤ k ∧ k < pB 0 + 20 then R.2.1 17 (k - pB 0) else R.2.1 a k
    split
    · rename_i h; rw [h.1]; rfl
    · rfl
theorem R0_s (R : Mm) : RSm R (R0 R) := by
  refine ⟨fun a k h1 h2 _ _ _ _ => ?_, fun a k h => ?_⟩
  · by_cases h : a = 16
    · subst h
      have := mkR_16 R 0 (gI R 16) (gF R 17) (j := k) (by omega)
      rwa [Nat.zero_add] at this
    · exact mkR_o _ _ _ _ h (by omega)
  · show (if a = 17 ∧ pB 0 ≤ k ∧ k < pB 0 + 20 then R.2.1 17 (k - pB 0) else R.2.1 a k) = R.2.1 a k
    split
    · rename_i h; rw [h.1]; rfl
    · rfl
def R8 (R : Mm) : Mm := sI (sI (sI R 0 57 0) 0 58 0) 0 56 0
def cp16 (R : Mm) (i : Nat) : Mm := (fun a k => if a = 16 ∧ 758 ≤ k ∧ k < 758 + i then R.1 16 (k - 758) else R.1 a k, R.2)
def cp17 (R : Mm) (i : Nat) : Mm := (R.1, fun a k => if a = 17 ∧ 20 ≤ k ∧ k < 20 + i then R.2.1 17 (k - 20) else R.2.1 a k, R.2.2)
theorem cp16_0 (R : Mm) : cp16 R 0 = R := by
  refine Prod.ext (funext fun a => funext fun k => ?_) rfl
  show (if a = 16 ∧ 758 ≤ k ∧ k < 758 + 0 then R.1 16 (k - 758) else R.1 a k) = R.1 a k
  rw [if_neg (by omega)]
theorem cp17_0 (R : Mm) : cp17 R 0 = R := by
  refine Prod.ext rfl (Prod.ext (funext fun a => funext fun k => ?_) rfl)
  show (if a = 17 ∧ 20 ≤ k ∧ k < 20 + 0 then R.2.1 17 (k - 20) else R.2.1 a k) = R.2.1 a k
  rw [if_neg (by omega)]
theorem cp16_s (R : Mm) (i : Nat) (hi : i < 758) : sI (cp16 R i) 16 (758 + i) (gI (cp16 R i) 16 i) = cp16 R (i + 1) := by
  refine Prod.ext (funext fun a => funext fun k => ?_) rfl
  show (if a = 16 ∧ k = 758 + i then (if 16 = 16 ∧ 758 ≤ i ∧ i < 758 + i then R.1 16 (i - 758) else R.1 16 i) else if a = 16 ∧ 758 ≤ k ∧ k < 758 + i then R.1 16 (k - 758) else R.1 a k) = if a = 16 ∧ 758 ≤ k ∧ k < 758 + (i + 1) then R.1 16 (k - 758) else R.1 a k
  by_cases h1 : a = 16 ∧ k = 758 + i
  · rw [if_pos h1, if_neg (by omega), if_pos (by omega), h1.2, show 758 + i - 758 = i by omega]
  · rw [if_neg h1]
    by_cases h2 : a = 16 ∧ 758 ≤ k ∧ k < 758 + i
    · rw [if_pos h2, if_pos (by omega)]
    · rw [if_neg h2, if_neg (by omega)]
theorem cp17_s (R : Mm) (i : Nat) (hi : i < 20) : sF (cp17 R i) 17 (20 + i) (gF (cp17 R i) 17 i) = cp17 R (i + 1) := by
  refine Prod.ext rfl (Prod.ext (funext fun a => funext fun k => ?_) rfl)
  show (if a = 17 ∧ k = 20 + i then (if 17 = 17 ∧ 20 ≤ i ∧ i < 20 + i then R.2.1 17 (i - 20) else R.2.1 17 i) else if a = 17 ∧ 20 ≤ k ∧ k < 20 + i then R.2.1 17 (k - 20) else R.2.1 a k) = if a = 17 ∧ 20 ≤ k ∧ k < 20 + (i + 1) then R.2.1 17 (k - 20) else R.2.1 a k
  by_cases h1 : a = 17 ∧ k = 20 + i
  · rw [if_pos h1, if_neg (by omega), if_pos (by omega), h1.2, show 20 + i - 20 = i by omega]
  · rw [if_neg h1]
    by_cases h2 : a = 17 ∧ 20 ≤ k ∧ k < 20 + i
    · rw [if_pos h2, if_pos (by omega)]
    · rw [if_neg h2, if_neg (by omega)]
theorem le_f (v : Int32) {i : Nat} (a : Nat) (hv : v = nI a) (h : i < a) (ha : a < 2 ^ 31) : ¬ v ≤ nI i := by
  rw [hv]
  exact nI_ge h ha
theorem le_t (v : Int32) {i : Nat} (a : Nat) (hv : v = nI a) (h : a ≤ i) (ha : i < 2 ^ 31) : v ≤ nI i := by
  rw [hv]
  exact nI_le h ha
theorem nle_t (v : Int32) {i : Nat} (a : Nat) (hv : v = nI a) (h : i ≤ a) (ha : a < 2 ^ 31) : nI i ≤ v := by
  rw [hv]
  exact nI_le h ha
theorem nle_f (v : Int32) {i : Nat} (a : Nat) (hv : v = nI a) (h : a < i) (ha : i < 2 ^ 31) : ¬ nI i ≤ v := by
  rw [hv]
  exact nI_ge h ha
theorem lt_t (v : Int32) {i : Nat} (a : Nat) (hv : v = nI a) (h : a < i) (ha : i < 2 ^ 31) : v < nI i := by
  rw [hv]
  exact (nI_ltI (by omega) ha).mpr h
theorem lt_f (v : Int32) {i : Nat} (a : Nat) (hv : v = nI a) (h : i ≤ a) (ha : a < 2 ^ 31) : ¬ v < nI i := by
  rw [hv]
  exact fun e => by have := (nI_ltI ha (by omega)).mp e; omega
theorem nlt_t (v : Int32) {i : Nat} (a : Nat) (hv : v = nI a) (h : i < a) (ha : a < 2 ^ 31) : nI i < v := by
  rw [hv]
  exact (nI_ltI (by omega) ha).mpr h
theorem nlt_f (v : Int32) {i : Nat} (a : Nat) (hv : v = nI a) (h : a ≤ i) (ha : i < 2 ^ 31) : ¬ nI i < v := by
  rw [hv]
  exact fun e => by have := (nI_ltI ha (by omega)).mp e; omega
theorem neq_f (v : Int32) {i : Nat} (a : Nat) (hv : v = nI a) (h : i ≠ a) (h1 : a < 2 ^ 31) (h2 : i < 2 ^ 31) : ¬ nI i = v := by
  rw [hv]
  exact fun e => h ((nI_eq h2 h1).mp e)
theorem loopR_sq {σ ρ : Type} {b : (σ → Option ρ) → σ → Option ρ} {r : Option ρ} {a : σ} (x : Nat → σ) (N : Nat) (hN : N ≤ 100000) (h0 : a = x 0) (hs : ∀ i, i < N → ∀ rec, b rec (x i) = rec (x (i + 1))) (he : ∀ rec, b rec (x N) = r) : loopR b 1000000 a = r := by
  rw [h0]
  exact loopR_seq x N hs he 1000000 (by omega)
theorem R_tries_e (R : Mm) : R_tries R = some (mkR (R8 R) 758 (gI R 16) (gF R 17)) := by
  unfold R_tries
  rw [lett_e, lett_e]
  refine loopR_sq (fun i => (nI i, cp16 R i)) 758 (by omega) ?_ (fun i hi rec => ?_) (fun rec => ?_)
  · show (nI 0, R) = (nI 0, cp16 R 0)
    rw [cp16_0]
  · dsimp only
    rw [if_neg (le_f 758 758 rfl (by omega) (by omega)), ald_n (by omega) (by omega), show (758 : Int32) = nI 758 from rfl, nI_add, ald_n (by omega) (by omega), lett_e, lett_e, ix_nI (by omega), ix_nI (by omega), nA_1, cp16_s R i hi]
  · dsimp only
    rw [if_pos (by decide), lett_e, lett_e]
    refine loopR_sq (fun i => (nI i, cp17 (cp16 R 758) i)) 20 (by omega) ?_ (fun i hi rec => ?_) (fun rec => ?_)
    · show (nI 0, cp16 R 758) = (nI 0, cp17 (cp16 R 758) 0)
      rw [cp17_0]
    · dsimp only
      rw [if_neg (le_f 20 20 rfl (by omega) (by omega)), ald_n (by omega) (by omega), show (20 : Int32) = nI 20 from rfl, nI_add, ald_n (by omega) (by omega), lett_e, lett_e, ix_nI (by omega), ix_nI (by omega), nA_1, cp17_s _ i hi]
    · dsimp only
      rw [if_pos (by decide), lett_e, lett_e, lett_e, lett_e, lett_e]
      refine congrArg some (Prod.ext (funext fun a => funext fun k => ?_) rfl)
      show (if a = 0 ∧ k = 56 then (0 : Int32) else if a = 0 ∧ k = 58 then (0 : Int32) else if a = 0 ∧ k = 57 then (0 : Int32) else if a = 0 ∧ k = 54 then (20 : Int32) else if a = 0 ∧ k = 53 then (758 : Int32) else if a = 16 ∧ 758 ≤ k ∧ k < 758 + 758 then R.1 16 (k - 758) else R.1 a k) = if a = 16 ∧ 758 ≤ k ∧ k < 758 + 758 then R.1 16 (k - 758) else if a = 0 ∧ k = 53 then nI 758 else if a = 0 ∧ k = 54 then nI (pB 758) else if a = 0 ∧ k = 56 then (0 : Int32) else if a = 0 ∧ k = 58 then (0 : Int32) else if a = 0 ∧ k = 57 then (0 : Int32) else R.1 a k
      by_cases h0 : a = 16 ∧ 758 ≤ k ∧ k < 758 + 758
      · rw [if_neg (by omega), if_neg (by omega), if_neg (by omega), if_neg (by omega), if_neg (by omega), if_pos h0, if_pos h0]
      · rw [if_neg h0, if_neg h0]
        by_cases h1 : a = 0 ∧ k = 53
        · rw [if_neg (by omega), if_neg (by omega), if_neg (by omega), if_neg (by omega), if_pos h1, if_pos h1]; rfl
        · rw [if_neg h1, if_neg h1]
          by_cases h2 : a = 0 ∧ k = 54
          · rw [if_neg (by omega), if_neg (by omega), if_neg (by omega), if_pos h2, if_pos h2]; rfl
          · rw [if_neg h2, if_neg h2]
