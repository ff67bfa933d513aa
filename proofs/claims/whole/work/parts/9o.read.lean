/-! PURE: reading a text from its beginning -/
section READ
variable {l Q : Nat} {B : Nat → Nat} {C R : Mm}
def Clr (Q : Nat) (C : Mm) : Prop := gI C Q 3 = 8 ∧ gI C Q 4 = 64 ∧ gI C Q 5 = 4 ∧ gI C Q 6 = 40 ∧ gI C Q 7 = 16 ∧ gI C Q 8 = 1 ∧ gI C Q 9 = 0 ∧ gI C Q 10 = 999 ∧ gI C Q 11 = 0 ∧ ∀ i, i < 36 → gI C (Q + 1) i = 0
def rd10 (R : Mm) : Mm := sI (sI (sI (sI (sI (sI (sI (sI (sI (sI R 0 19 0) 0 23 8) 0 24 64) 0 25 4) 0 26 40) 0 27 16) 0 28 1) 0 29 0) 0 30 999) 0 31 0
theorem rd10_o {a i : Nat} (h : ¬ (a = 0 ∧ 19 ≤ i ∧ i ≤ 31)) : gI (rd10 R) a i = gI R a i := by
  unfold rd10
  rw [gw_n _ _ _ _ (by omega), gw_n _ _ _ _ (by omega), gw_n _ _ _ _ (by omega), gw_n _ _ _ _ (by omega), gw_n _ _ _ _ (by omega), gw_n _ _ _ _ (by omega), gw_n _ _ _ _ (by omega), gw_n _ _ _ _ (by omega), gw_n _ _ _ _ (by omega), gw_n _ _ _ _ (by omega)]
theorem rd10_v : gI (rd10 R) 0 19 = 0 ∧ gI (rd10 R) 0 23 = 8 ∧ gI (rd10 R) 0 24 = 64 ∧ gI (rd10 R) 0 25 = 4 ∧ gI (rd10 R) 0 26 = 40 ∧ gI (rd10 R) 0 27 = 16 ∧ gI (rd10 R) 0 28 = 1 ∧ gI (rd10 R) 0 29 = 0 ∧ gI (rd10 R) 0 30 = 999 ∧ gI (rd10 R) 0 31 = 0 := ⟨rfl, rfl, rfl, rfl, rfl, rfl, rfl, rfl, rfl, rfl⟩
def rd5 (Q : Nat) (C : Mm) : Mm := sI (sI (sI (sI (sR C 21 5 (some Q)) 21 6 0) 21 7 0) 21 8 0) 21 9 (-1)
theorem rd5_o {a i : Nat} (h : ¬ (a = 21 ∧ 6 ≤ i ∧ i ≤ 9)) : gI (rd5 Q C) a i = gI C a i := by
  unfold rd5
  rw [gw_n _ _ _ _ (by omega), gw_n _ _ _ _ (by omega), gw_n _ _ _ _ (by omega), gw_n _ _ _ _ (by omega)]
  rfl
theorem rd5_r {a i : Nat} (h : ¬ (a = 21 ∧ i = 5)) : gR (rd5 Q C) a i = gR C a i := by
  show (if a = 21 ∧ i = 5 then some Q else C.2.2.2 a i) = C.2.2.2 a i
  rw [if_neg h]
theorem readC_e (hQ : Q = 1 ∨ Q = 10) {x6 x10 : Mm} (hg : gdW 25 C = true) (a1 : P_DSplitText (sbP Q (rd5 Q C)) = some x6) (a2 : gdW 4 x6 = true) (a3 : P_DReadDisk (sbP Q (inP Q (rd5 Q C) x6)) = some x10) (a4 : gdW 4 x10 = true) : C_DReadText Q C = loopR lpC 1000000 (1, inP Q (inP Q (rd5 Q C) x6) x10) := by
  have g5 : gdW 25 (rd5 Q C) = true := gdW_of (fun i hi => by rw [rd5_r (by omega)]; exact gdW_at hg hi)
  have g9 : gdW 25 (inP Q (rd5 Q C) x6) = true := gdW_of (fun i hi => by
    have := in_P4 hQ (rd5 Q C) x6 i
    rw [show gR (inP Q (rd5 Q C) x6) 25 i = gR x6 4 i from this]
    exact gdW_at a2 hi)
  unfold C_DReadText
  rw [lett_e, lett_e, lett_e, lett_e, lett_e]
  show (plnP (rd5 Q C) 21 fun q7 => _) = _
  unfold plnP
  rw [show gR (rd5 Q C) 21 5 = some Q from rfl, nn_s, grd_t ⟨hQ, g5⟩]
  show (bnd (P_DSplitText (sbP Q (rd5 Q C))) fun x6 => _) = _
  rw [a1, bnd_s, grd_t a2, lett_e]
  show (nn (gR (inP Q (rd5 Q C) x6) 21 5) fun P => _) = _
  rw [show gR (inP Q (rd5 Q C) x6) 21 5 = some Q from in_R2 (by omega) 5, nn_s]
  show (grd ((Q = 1 ∨ Q = 10) ∧ gdW 25 (inP Q (rd5 Q C) x6) = true) _) = _
  rw [grd_t ⟨hQ, g9⟩]
  show (bnd (P_DReadDisk (sbP Q (inP Q (rd5 Q C) x6))) fun x10 => _) = _
  rw [a3, bnd_s, grd_t a4, lett_e, lett_e]
  rfl
theorem readR_e {w1 w2 w3 : Int32} {R1 R2 R3 R' : Mm} (b1 : R_told 0 64 9999 (rd10 R) = some (w1, R1)) (b2 : R_told 1 1 500 (sI R1 0 20 w1) = some (w2, R2)) (b3 : R_told 2 1 64 (sI R2 0 21 w2) = some (w3, R3)) (b4 : R_endsWell (sI R3 0 22 w3) = some R') : R_readsAll R = loopR lpR 1000000 (1, R') := by
  unfold R_readsAll
  rw [lett_e, lett_e, lett_e, lett_e, lett_e, lett_e, lett_e, lett_e, lett_e, lett_e]
  show (bnd (R_told 0 64 9999 (rd10 R)) fun r11 => _) = _
  rw [b1, bnd_s, lett_e]
  dsimp only
  rw [b2, bnd_s, lett_e]
  dsimp only
  rw [b3, bnd_s, lett_e]
  dsimp only
  rw [b4, bnd_s, lett_e]
  rfl
theorem text_sim (hQ : Q = 1 ∨ Q = 10) (hl : l ≤ 1600) (hB : ∀ i, i < l → B i < 256) (t1 : gI C 19 1 = nI l) (t2 : ∀ i, i < l → gI C 20 i = nI (B i)) (hg : gdW 25 C = true) (hc : Clr Q C) (r1 : gI R 0 43 = nI l) (r2 : ∀ i, i < l → gI R 13 i = nI (B i)) (r3 : ∀ i, i < 105 → gI R 15 i = ownL i) (r44 : gI R 0 44 = 0) (r46 : gI R 0 46 = 0) (r47 : gI R 0 47 = -1) : ∃ v C' R', C_DReadText Q C = some (v, C') ∧ R_readsAll R = some (v, R') ∧ gI C' 21 8 = gI R' 0 46 ∧ gI C' 21 9 = gI R' 0 47 ∧ CFq Q C C' ∧ RFq R R' ∧ gdW 25 C' = true ∧ (gI C' 21 8 = 0 → ∃ s c n, Gd s c n (sbP Q C') R') := by
  have hT : PT l B (sbP Q (rd5 Q C)) := ⟨hl, (rd5_o (Q := Q) (by omega)).trans t1, hB, fun i hi => (rd5_o (Q := Q) (by omega)).trans (t2 i hi)⟩
  obtain ⟨x6, T, a1, a2, a3, a4, a5, a6, a7⟩ := split_m hT (fun i hi => by
    show okW (gR (rd5 Q C) 25 i) = true
    rw [rd5_r (by omega)]; exact gdW_at hg hi)
  have g6 : gdW 4 x6 = true := gdW_of a5
  have rt : RT l B (rd10 R) := ⟨hl, (rd10_o (by omega)).trans r1, hB, fun i hi => (rd10_o (by omega)).trans (r2 i hi), fun i hi => (rd10_o (by omega)).trans (r3 i hi)⟩
  have z6 : Zt l B T x6 (rd10 R) := by
    refine ⟨hT.fr (fun a i q => a3 a i (by omega)), a2, rt, ⟨0, by omega, ?_, fun _ => ⟨0, (rd10_o (by omega)).trans r44, a2.2.1⟩⟩, ?_, ?_, a5⟩
    · rw [a3 _ _ (by omega)]; rfl
    · rw [a3 _ _ (by omega), rd10_o (by omega), r46]; rfl
    · rw [a3 _ _ (by omega), rd10_o (by omega), r47]; rfl
  have z9 : Zt l B T (sbP Q (inP Q (rd5 Q C) x6)) (rd10 R) := z6.in hQ
  obtain ⟨x10, R', R1, R2, R3, w1, w2, w3, b1, b2, b3, b4, b5, b6, b7, b8, b9⟩ := disk_line z9
  have g10 : gdW 4 x10 = true := gdW_of b6.2.2.2.2.2.2
  have eC := readC_e hQ hg a1 g6 b1 g10
  have eR := readR_e b2 b3 b4 b5
  have c1 : CFq Q C (rd5 Q C) := ⟨fun a i e1 e2 => rd5_o (by omega), fun a i => rfl, fun a i => rfl, fun a i e1 e2 => rd5_r e2⟩
  have c2 : CFq Q (rd5 Q C) (inP Q (rd5 Q C) x6) := ⟨fun a i e1 e2 => in_o hQ e2 e1 i (fun r j q => a3 _ _ (by omega)), fun a i => in_F2 a6 a i, fun a i => rfl, fun a i e1 e2 => in_R2 e1 i⟩
  have c3 : CFq Q (inP Q (rd5 Q C) x6) (inP Q (inP Q (rd5 Q C) x6) x10) := .in hQ ⟨fun a i e1 e2 => b7.1 a i (by omega) (by omega), b7.2⟩
  have c13 := (c1.tr c2).tr c3
  have f1 : RFq R R' := ⟨fun a i e1 e2 e3 => (b8.1 a i e2 (by omega)).trans (rd10_o e1), b8.2⟩
  have z13 : Zt l B T (sbP Q (inP Q (inP Q (rd5 Q C) x6) x10)) R' := b6.in hQ
  have x8 : gI (inP Q (inP Q (rd5 Q C) x6) x10) 21 8 = gI x10 0 8 := in_P (a := 0) hQ (inP Q (rd5 Q C) x6) x10 (by omega) 8
  have fin : ∀ (v : Int32) (C' R2 : Mm), loopR lpC 1000000 (1, inP Q (inP Q (rd5 Q C) x6) x10) = some (v, C') → loopR lpR 1000000 (1, R') = some (v, R2) → Zt l B T (sbP Q C') R2 → CFq Q (inP Q (inP Q (rd5 Q C) x6) x10) C' → RFq R' R2 → (gI C' 21 8 = 0 → ∃ s c n, Gd s c n (sbP Q C') R2) → ∃ v C' R', C_DReadText Q C = some (v, C') ∧ R_readsAll R = some (v, R') ∧ gI C' 21 8 = gI R' 0 46 ∧ gI C' 21 9 = gI R' 0 47 ∧ CFq Q C C' ∧ RFq R R' ∧ gdW 25 C' = true ∧ (gI C' 21 8 = 0 → ∃ s c n, Gd s c n (sbP Q C') R') := fun v C' R2 e1 e2 e3 e4 e5 e6 => ⟨v, C', R2, eC.trans e1, eR.trans e2, e3.2.2.2.2.1, e3.2.2.2.2.2.1, c13.tr e4, f1.tr e5, gdW_of (fun i hi => e3.2.2.2.2.2.2 i hi), e6⟩
  by_cases h8 : gI x10 0 8 = 0
  · obtain ⟨-, ⟨d1, s, d2, d3, d4⟩, ⟨d5, d6⟩, d7, d8⟩ := b9 h8
    obtain ⟨v19, v23, v24, v25, v26, v27, v28, v29, v30, v31⟩ := rd10_v (R := R)
    obtain ⟨k3, k4, k5, k6, k7, k8, k9, k10, k11, kn⟩ := hc
    have em7 : ∀ i, gI x6 7 i = gI C Q i := fun i => by
      rw [a3 _ _ (by omega)]
      show gI (rd5 Q C) (Q + (7 - 7)) i = gI C Q i
      exact rd5_o (by omega)
    have em8 : ∀ i, gI x6 8 i = gI C (Q + 1) i := fun i => by
      rw [a3 _ _ (by omega)]
      show gI (rd5 Q C) (Q + (8 - 7)) i = gI C (Q + 1) i
      exact rd5_o (by omega)
    have m7 : ∀ i, ¬ i ≤ 2 → gI x10 7 i = gI C Q i := fun i hi => by rw [b7.1 _ _ (by omega) (by omega), in_P hQ _ _ (by omega), em7]
    have m8 : ∀ i, gI x10 8 i = gI C (Q + 1) i := fun i => by rw [b7.1 _ _ (by omega) (by omega), in_P hQ _ _ (by omega), em8]
    have ro : ∀ i, ¬ (20 ≤ i ∧ i ≤ 22) → i < 44 → gI R' 0 i = gI (rd10 R) 0 i := fun i q1 q2 => b8.1 _ _ (by omega) (by omega)
    have gd : Gd s 0 0 x10 R' := by
      refine ⟨⟨fun j hj => ?_, d6, d8, ⟨8, 64, ?_, ?_, by omega, by omega, by omega⟩, ⟨4, by omega, ?_⟩, ⟨40, by omega, by omega, ?_⟩, ⟨16, by omega, ?_⟩, ⟨1, by omega, by omega, ?_⟩, ⟨0, by omega, ?_⟩, ⟨999, by omega, ?_⟩⟩, ⟨?_, ?_, by omega, d4, ⟨d2, d3⟩, fun p hp => by omega, fun p i q1 q2 q3 => ?_⟩, ?_, ?_, by omega⟩
      · rcases (by omega : j = 0 ∨ j = 1 ∨ j = 2 ∨ j = 3 ∨ j = 4 ∨ j = 5 ∨ j = 6 ∨ j = 7 ∨ j = 8 ∨ j = 9 ∨ j = 10) with e | e | e | e | e | e | e | e | e | e | e <;> subst e
        · exact d1
        · exact d5
        · exact d7
        · rw [m7 _ (by omega), ro _ (by omega) (by omega), k3, v23]
        · rw [m7 _ (by omega), ro _ (by omega) (by omega), k4, v24]
        · rw [m7 _ (by omega), ro _ (by omega) (by omega), k5, v25]
        · rw [m7 _ (by omega), ro _ (by omega) (by omega), k6, v26]
        · rw [m7 _ (by omega), ro _ (by omega) (by omega), k7, v27]
        · rw [m7 _ (by omega), ro _ (by omega) (by omega), k8, v28]
        · rw [m7 _ (by omega), ro _ (by omega) (by omega), k9, v29]
        · rw [m7 _ (by omega), ro _ (by omega) (by omega), k10, v30]
      · rw [ro _ (by omega) (by omega), v23]; rfl
      · rw [ro _ (by omega) (by omega), v24]; rfl
      · rw [ro _ (by omega) (by omega), v25]; rfl
      · rw [ro _ (by omega) (by omega), v26]; rfl
      · rw [ro _ (by omega) (by omega), v27]; rfl
      · rw [ro _ (by omega) (by omega), v28]; rfl
      · rw [ro _ (by omega) (by omega), v29]; rfl
      · rw [ro _ (by omega) (by omega), v30]; rfl
      · rw [m7 _ (by omega), k11]; rfl
      · rw [ro _ (by omega) (by omega), v19]; rfl
      · rw [m8]; exact kn _ (by omega)
      · rw [b7.1 _ _ (by omega) (by omega), in_P hQ _ _ (by omega), a3 _ _ (by omega)]; rfl
      · rw [ro _ (by omega) (by omega), v31]; rfl
    have r5 : gR (inP Q (inP Q (rd5 Q C) x6) x10) 21 5 = some Q := (in_R2 (by omega) 5).trans (in_R2 (by omega) 5)
    obtain ⟨v, C', R2, e1, e2, e3, e4, e5, e6⟩ := lp_sim hQ 12 1000000 _ R' 0 0 (by omega) (by omega) z13 (x8.trans h8) (gd.in hQ) r5
    exact fin v C' R2 e1 e2 e3 e4 e5 (fun q => ⟨s, e6 q⟩)
  · refine fin 1 _ R' ?_ ?_ z13 ⟨fun _ _ _ _ => rfl, fun _ _ => rfl, fun _ _ => rfl, fun _ _ _ _ => rfl⟩ ⟨fun _ _ _ _ _ => rfl, rfl⟩ (fun q => absurd (x8.symm.trans q) h8)
    · refine loopR_sq (fun _ => (1, inP Q (inP Q (rd5 Q C) x6) x10)) 0 (by omega) rfl (fun i hi => by omega) (fun rec => ?_)
      rw [lpC]
      dsimp only
      rw [if_neg (fun e => h8 (x8.symm.trans e))]
    · refine loopR_sq (fun _ => (1, R')) 0 (by omega) rfl (fun i hi => by omega) (fun rec => ?_)
      rw [lpR]
      dsimp only
      rw [goes_f (fun e => h8 (b6.2.2.2.2.1.trans e)), bnd_s, if_pos rfl]
theorem clear_C (hQ : Q = 1 ∨ Q = 10) (C : Mm) : ∃ C', C_LClear Q C = some C' ∧ Clr Q C' ∧ (∀ a i, ¬ (a = Q ∨ a = Q + 1) → gI C' a i = gI C a i) ∧ C'.2 = C.2 := by
  obtain ⟨X, hX⟩ : ∃ X, X = sI (sI (sI (sI (sI (sI (sI (sI (sI (sI C Q 0 0) Q 3 8) Q 4 64) Q 5 4) Q 6 40) Q 7 16) Q 8 1) Q 9 0) Q 10 999) Q 11 0 := ⟨_, rfl⟩
  obtain ⟨f, hf⟩ : ∃ f : Nat → Mm, f = fun i => ((fun a x => if a = Q + 1 ∧ x < i then 0 else X.1 a x, X.2) : Mm) := ⟨_, rfl⟩
  have f0 : f 0 = X := by rw [hf]; refine Prod.ext (funext fun a => funext fun x => ?_) rfl; show (if a = Q + 1 ∧ x < 0 then 0 else X.1 a x) = _; rw [if_neg (by omega)]
  have fs : ∀ i, sI (f i) (Q + 1) i 0 = f (i + 1) := fun i => by
    rw [hf]
    refine Prod.ext (funext fun a => funext fun x => ?_) rfl
    show (if a = Q + 1 ∧ x = i then 0 else if a = Q + 1 ∧ x < i then 0 else X.1 a x) = if a = Q + 1 ∧ x < i + 1 then 0 else X.1 a x
    by_cases h1 : a = Q + 1 ∧ x = i
    · rw [if_pos h1, if_pos (by omega)]
    · rw [if_neg h1]
      by_cases h2 : a = Q + 1 ∧ x < i
      · rw [if_pos h2, if_pos (by omega)]
      · rw [if_neg h2, if_neg (by omega)]
  have fo : ∀ a x, ¬ (a = Q + 1) → gI (f 36) a x = gI X a x := fun a x h => by
    rw [hf]
    show (if a = Q + 1 ∧ x < 36 then 0 else X.1 a x) = _
    rw [if_neg (by omega)]; rfl
  refine ⟨f 36, ?_, ⟨?_, ?_, ?_, ?_, ?_, ?_, ?_, ?_, ?_, fun i hi => ?_⟩, fun a i h => ?_, ?_⟩
  · unfold C_LClear
    simp only [lett_e]
    rw [← hX]
    refine loopR_sq (fun i => (nI i, f i)) 36 (by omega) (by rw [f0]; rfl) (fun i hi rec => ?_) (fun rec => ?_)
    · dsimp only
      rw [if_neg (le_f 36 36 rfl hi (by omega)), ald_n hi (by omega), ix_nI (by omega), nI_1, fs]
    · dsimp only
      rw [if_pos (by decide)]
  · rw [fo _ _ (by omega), hX]; simp (disch := omega) only [gw_n, gw_s]
  · rw [fo _ _ (by omega), hX]; simp (disch := omega) only [gw_n, gw_s]
  · rw [fo _ _ (by omega), hX]; simp (disch := omega) only [gw_n, gw_s]
  · rw [fo _ _ (by omega), hX]; simp (disch := omega) only [gw_n, gw_s]
  · rw [fo _ _ (by omega), hX]; simp (disch := omega) only [gw_n, gw_s]
  · rw [fo _ _ (by omega), hX]; simp (disch := omega) only [gw_n, gw_s]
  · rw [fo _ _ (by omega), hX]; simp (disch := omega) only [gw_n, gw_s]
  · rw [fo _ _ (by omega), hX]; simp (disch := omega) only [gw_n, gw_s]
  · rw [fo _ _ (by omega), hX]; simp (disch := omega) only [gw_n, gw_s]
  · rw [hf]
    show (if Q + 1 = Q + 1 ∧ i < 36 then 0 else X.1 (Q + 1) i) = 0
    rw [if_pos ⟨rfl, hi⟩]
  · rw [fo _ _ (by omega), hX]
    rw [gw_n _ _ _ _ (by omega), gw_n _ _ _ _ (by omega), gw_n _ _ _ _ (by omega), gw_n _ _ _ _ (by omega), gw_n _ _ _ _ (by omega), gw_n _ _ _ _ (by omega), gw_n _ _ _ _ (by omega), gw_n _ _ _ _ (by omega), gw_n _ _ _ _ (by omega), gw_n _ _ _ _ (by omega)]
  · rw [hf, hX]; rfl
end READ
