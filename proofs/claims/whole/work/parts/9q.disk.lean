/-! PURE: disk() -/
section DISK
variable {n P Q : Nat} {C R X : Mm}
def dkR (v7 : Int32) (X : Mm) : Option (Int32 × Mm) :=
 (bnd (R_begins X) fun M11 =>
 lett (0 : Int32) fun v12 =>
 lett (fun (M_12 : Mm) =>
 bnd (R_puts (6 : Int32) (gI M_12 0 11) M_12) fun M14 =>
 bnd (R_puts (7 : Int32) (gI M14 0 12) M14) fun M15 =>
 lett (sI M15 0 55 (0 : Int32)) fun M16 =>
 lett (sI M16 0 61 (0 : Int32)) fun M17 =>
 some (v7, M17)) fun j101 =>
 loopR (fun (rec67 : (Int32 × Mm) → Option (Int32 × Mm)) (x18 : Int32 × Mm) =>
 if (gI x18.2 0 1) ≤ x18.1 then
 (j101 x18.2)
 else
 (ald x18.1 6 (bnd (R_sets x18.1 (0 : Int32) (gI x18.2 1 (ix x18.1)) x18.2) fun M19 =>
 bnd (R_sets x18.1 (8 : Int32) (1 : Int32) M19) fun M20 =>
 lett (x18.1 + (1 : Int32)) fun v21 =>
 rec67 (v21, M20)))) 1000000 (v12, M11))
theorem dk_m {c : Nat} (v : Int32) (hn : gI X 0 1 = nI c) (c6 : c ≤ 6) (hw : ∀ p, p < c → isR 1 101 (gI X 1 p)) (h11 : isN 21 (gI X 0 11)) (h12 : isR 1 201 (gI X 0 12)) : ∃ D, dkR v X = some (v, sI (sI (mkR X 0 D (updD (fun _ => FP.fconst0) 19 (FP.i2f (gI X 0 4)))) 0 55 0) 0 61 0) ∧ Ini X c D ∧ D 6 = gI X 0 11 ∧ D 7 = gI X 0 12 ∧ ∀ p, p < c → D (18 + 14 * p + 0) = gI X 1 p ∧ D (18 + 14 * p + 8) = 1 ∧ D (18 + 14 * p + 1) = gI X 2 p := by
  have hB : BB 0 := Or.inl rfl
  obtain ⟨D0, b1, b2, b3, b4, b5⟩ := begins_m hn c6
  obtain ⟨g, g0, gI', gS⟩ := seqN (α := Nat → Int32) (fun i D => (∀ p, p < i → D (18 + 14 * p + 0) = gI X 1 p ∧ D (18 + 14 * p + 8) = 1) ∧ ∀ j, (∀ p, p < i → j ≠ 18 + 14 * p + 0 ∧ j ≠ 18 + 14 * p + 8) → D j = D0 j) (fun i D D' => D' = updD (updD D (18 + 14 * i + 0) (gI X 1 i)) (18 + 14 * i + 8) 1) (a := D0) ⟨fun p hp => absurd hp (by omega), fun j _ => rfl⟩ c (fun i D hi hI => by
    obtain ⟨i1, i2⟩ := hI
    refine ⟨_, rfl, fun p hp => ?_, fun j hj => ?_⟩
    · by_cases e : p = i
      · subst e
        exact ⟨by rw [updD_n _ _ (by omega), updD_s], updD_s _ _ _⟩
      · rw [updD_n _ _ (by omega), updD_n _ _ (by omega), updD_n _ _ (by omega), updD_n _ _ (by omega)]
        exact i1 p (by omega)
    · have h4 := hj i (by omega)
      rw [updD_n _ _ h4.2, updD_n _ _ h4.1]
      exact i2 j (fun p hp => hj p (by omega)))
  obtain ⟨e1, e2⟩ := gI' c (Nat.le_refl _)
  have k0 : ∀ D F k, k ≠ 53 → k ≠ 54 → gI (mkR X 0 D F) 0 k = gI X 0 k := fun D F k h1 h2 => mkR_o _ _ _ _ (by omega) (by omega)
  have k1 : ∀ D F k, gI (mkR X 0 D F) 1 k = gI X 1 k := fun D F k => mkR_o _ _ _ _ (by omega) (by omega)
  have ge : ∀ j, (∀ p, p < c → j ≠ 18 + 14 * p + 0 ∧ j ≠ 18 + 14 * p + 8) → g c j = D0 j := e2
  refine ⟨updD (updD (g c) 6 (gI X 0 11)) 7 (gI X 0 12), ?_, ⟨?_, ?_, ?_, ?_, fun p hp => ⟨?_, ?_, ?_, ?_⟩, fun j h1 h2 h3 h4 h5 => ?_⟩, ?_, ?_, fun p hp => ⟨?_, ?_, ?_⟩⟩
  · unfold dkR
    rw [b1, bnd_s, lett_e, lett_e]
    refine loopR_sq (fun i => (nI i, mkR X 0 (g i) (updD (fun _ => FP.fconst0) 19 (FP.i2f (gI X 0 4))))) c (by omega) (by rw [g0]; rfl) (fun i hi rec => ?_) (fun rec => ?_)
    · dsimp only
      rw [k0 _ _ 1 (by omega) (by omega), hn, if_neg (nI_ge hi (by omega)), ald_n (by omega) (by omega), ix_nI (by omega), k1, rs_0 hB (by omega), bnd_s, rs_8 hB (by omega), bnd_s, lett_e, nI_1, gS i hi]
    · dsimp only
      rw [k0 _ _ 1 (by omega) (by omega), hn, if_pos (nI_le (Nat.le_refl _) (by omega)), k0 _ _ 11 (by omega) (by omega), R_puts_k6 hB, bnd_s, k0 _ _ 12 (by omega) (by omega), R_puts_k7 hB, bnd_s, lett_e, lett_e]
  · rw [updD_n _ _ (by omega), updD_n _ _ (by omega), ge _ (fun p hp => by omega)]; exact b2
  · rw [updD_n _ _ (by omega), updD_s]; exact h11
  · rw [updD_s]; exact h12
  · rw [updD_n _ _ (by omega), updD_n _ _ (by omega), ge _ (fun p hp => by omega)]; exact b3
  · rw [updD_n _ _ (by omega), updD_n _ _ (by omega), (e1 p hp).1]; exact hw p hp
  · rw [updD_n _ _ (by omega), updD_n _ _ (by omega), ge _ (fun p hp => by omega)]; exact (b4 p hp).2.1
  · rw [updD_n _ _ (by omega), updD_n _ _ (by omega), (e1 p hp).2]; exact ⟨1, by omega, rfl⟩
  · rw [updD_n _ _ (by omega), updD_n _ _ (by omega), ge _ (fun p hp => by omega)]; exact (b4 p hp).2.2
  · rw [updD_n _ _ h3, updD_n _ _ h2, ge _ (fun p hp => ⟨(h5 p hp).1, (h5 p hp).2.2.2.1⟩)]
    exact b5 j h1 h4 (fun p hp => ⟨(h5 p hp).2.1, (h5 p hp).2.2.1, (h5 p hp).2.2.2.2⟩)
  · rw [updD_n _ _ (by omega), updD_s]
  · exact updD_s _ _ _
  · rw [updD_n _ _ (by omega), updD_n _ _ (by omega)]; exact (e1 p hp).1
  · rw [updD_n _ _ (by omega), updD_n _ _ (by omega)]; exact (e1 p hp).2
  · rw [updD_n _ _ (by omega), updD_n _ _ (by omega), ge _ (fun p hp => by omega)]; exact (b4 p hp).1
def dk5 (R : Mm) : Mm := sI (sI (sI (sI (sI R 0 39 0) 0 43 (gI R 0 39)) 0 44 0) 0 46 0) 0 47 (-1)
theorem dk5_o {a i : Nat} (h : ¬ (a = 0 ∧ (i = 39 ∨ i = 43 ∨ i = 44 ∨ i = 46 ∨ i = 47))) : gI (dk5 R) a i = gI R a i := by
  unfold dk5
  rw [gw_n _ _ _ _ (by omega), gw_n _ _ _ _ (by omega), gw_n _ _ _ _ (by omega), gw_n _ _ _ _ (by omega), gw_n _ _ _ _ (by omega)]
theorem diskR_e {v : Int32} {R6 : Mm} (h : R_readsAll (dk5 R) = some (v, R6)) : R_disk R = (if gI R6 0 46 = 0 then (bnd (R_tellsAll (sI (sI R6 0 41 (gI R6 0 46)) 0 42 (gI R6 0 47))) fun M10 => dkR v M10) else (bnd (R_refuses 1 (sI (sI R6 0 41 (gI R6 0 46)) 0 42 (gI R6 0 47))) fun r22 => some (r22.1, r22.2))) := by
  unfold R_disk R_taken
  rw [lett_e, lett_e, bnd_s, lett_e, lett_e, lett_e, lett_e]
  show (bnd (R_readsAll (dk5 R)) fun r6 => _) = _
  rw [h, bnd_s, lett_e, lett_e, lett_e]
  dsimp only
  rw [gw_n _ _ _ _ (by omega), gw_n _ _ _ _ (by omega), gw_n _ _ _ _ (by omega)]
  rfl
theorem diskC_e {v : Int32} {C4 C8 : Mm} (hQ : Q = 1 ∨ Q = 10) (hP : P = 1 ∨ P = 10) (h1 : gR C 0 0 = some P) (h2 : gR C 0 1 = some Q) (e1 : C_LClear Q C = some C4) (e2 : C4.2 = C.2) (e3 : C_DReadText Q C4 = some (v, C8)) (e4 : gR C8 0 0 = some P) (e5 : gR C8 0 1 = some Q) : C_disk C = (if gI C8 21 8 = 0 then (bnd (C_begin Q (sR (sR (sI (sI (sI C8 19 1 0) 0 13 (gI C8 21 8)) 0 14 (gI C8 21 9)) 0 0 (some Q)) 0 1 (some P))) fun M20 => some (v, sI (sI M20 0 8 0) 67 2 0)) else (bnd (C_refuse 1 (sI (sI (sI C8 19 1 0) 0 13 (gI C8 21 8)) 0 14 (gI C8 21 9))) fun r23 => some (r23.1, r23.2))) := by
  have sQ : shC Q = shCX2 := by rcases hQ with e | e <;> subst e <;> rfl
  have h2' : gR C4 0 1 = some Q := by show C4.2.2.2 0 1 = some Q; rw [e2]; exact h2
  unfold C_disk
  rw [lett_e, h2, nn_s, grd_t sQ, e1, bnd_s, lett_e, h2', nn_s, grd_t sQ, e3, bnd_s, lett_e, lett_e, lett_e, lett_e]
  dsimp only
  have w1 : gI (sI C8 19 1 0) 21 8 = gI C8 21 8 := gw_n _ _ _ _ (by omega)
  have w2 : gI (sI (sI C8 19 1 0) 0 13 (gI C8 21 8)) 21 9 = gI C8 21 9 := by rw [gw_n _ _ _ _ (by omega), gw_n _ _ _ _ (by omega)]
  rw [w1, w2]
  have w3 : gI (sI (sI (sI C8 19 1 0) 0 13 (gI C8 21 8)) 0 14 (gI C8 21 9)) 0 13 = gI C8 21 8 := by rw [gw_n _ _ _ _ (by omega), gw_s]
  rw [w3]
  by_cases h : gI C8 21 8 = 0
  · rw [if_pos h, if_pos h, lett_e, lett_e, lett_e, lett_e, lett_e]
    have y0 : gR (sI (sI (sI C8 19 1 0) 0 13 (gI C8 21 8)) 0 14 (gI C8 21 9)) 0 0 = some P := e4
    have y1 : gR (sI (sI (sI C8 19 1 0) 0 13 (gI C8 21 8)) 0 14 (gI C8 21 9)) 0 1 = some Q := e5
    rw [y0, y1]
    have y2 : gR (sR (sR (sI (sI (sI C8 19 1 0) 0 13 (gI C8 21 8)) 0 14 (gI C8 21 9)) 0 0 (some Q)) 0 1 (some P)) 0 0 = some Q := rfl
    rw [y2, nn_s, grd_t sQ]
    rfl
  · rw [if_neg h, if_neg h]
end DISK
