/-! PURE: a process along the text -/
section PROC
variable {l T : Nat} {B : Nat → Nat} {M R M' R' : Mm}
def Prc (s c : Nat) (M R : Mm) : Prop := (∀ i, i < 6 → gI M 8 (6 * c + i) = gI R 12 (6 * c + i)) ∧ (gI M 9 c = gI R 9 c ∧ (gI R 9 c = 0 ∨ gI R 9 c = 1)) ∧ (gI M 10 c = gI R 7 c ∧ isR 1 101 (gI R 7 c)) ∧ (gI M 11 c = gI R 8 c ∧ isN 1000 (gI R 8 c)) ∧ ∃ k, 1 ≤ k ∧ k ≤ 6 ∧ gI M 12 c = nI k ∧ Sp s c k M R
def MFp (c : Nat) (M M' : Mm) : Prop := (∀ a i, ¬ (a = 0 ∧ (i = 6 ∨ i = 8 ∨ i = 9)) → ¬ (a = 7 ∧ i = 11) → ¬ (a = 8 ∧ 6 * c ≤ i ∧ i < 6 * c + 6) → ¬ (9 ≤ a ∧ a ≤ 12 ∧ i = c) → ¬ (13 ≤ a ∧ a ≤ 15 ∧ 6 * c ≤ i ∧ i < 6 * c + 6) → gI M' a i = gI M a i) ∧ M'.2 = M.2
def RFp (c : Nat) (R R' : Mm) : Prop := (∀ a i, ¬ (a = 0 ∧ 44 ≤ i ∧ i ≤ 47) → ¬ (a = 0 ∧ i = 19) → ¬ (a = 12 ∧ 6 * c ≤ i ∧ i < 6 * c + 6) → ¬ (7 ≤ a ∧ a ≤ 10 ∧ i = c) → ¬ (a = 11 ∧ 3 * (6 * c) ≤ i ∧ i < 3 * (6 * c) + 18) → gI R' a i = gI R a i) ∧ R'.2 = R.2
theorem isR_of {v p q : Int32} {m a b : Nat} (h1 : v = nI m) (hm : m ≤ 9999) (h2 : ¬ v < p) (h3 : v ≤ q) (hp : p = nI a) (hq : q = nI b) (ha : a < 2 ^ 31) (hb : b < 2 ^ 31) : a ≤ m ∧ m ≤ b := by
  subst hp hq h1
  constructor
  · rcases Nat.lt_or_ge m a with e | e
    · exact absurd ((nI_ltI (by omega) ha).mpr e) h2
    · exact e
  · rcases Nat.lt_or_ge b m with e | e
    · exact absurd h3 (nI_ge e (by omega))
    · exact e
def procC (c : Nat) (w : Int32) (M : Mm) : Option Mm :=
 (bnd (P_DExpectName (nI c) M) fun M3 =>
 lett (sI M3 7 11 (nI c + (1 : Int32))) fun M4 =>
 ald (nI c) 6 (lett (sI M4 9 (ix (nI c)) w) fun M6 =>
 bnd (P_DExpectWord 1011 M6) fun M7 =>
 bnd (P_DExpectNumber (1 : Int32) (100 : Int32) M7) fun r8 =>
 ald (nI c) 6 (lett (sI r8.2 10 (ix (nI c)) r8.1) fun M9 =>
 bnd (P_DExpectWord 1012 M9) fun M10 =>
 bnd (P_DExpectNumber (0 : Int32) (999 : Int32) M10) fun r11 =>
 ald (nI c) 6 (lett (sI r11.2 11 (ix (nI c)) r11.1) fun M12 =>
 bnd (P_DExpectWord 1013 M12) fun M13 =>
 lett (0 : Int32) fun v14 =>
 lett (1 : Int32) fun v15 =>
 lett (fun (u_15 : Int32) (M_16 : Mm) =>
 ald (nI c) 6 (lett (sI M_16 12 (ix (nI c)) u_15) fun M18 =>
 some M18)) fun j186 =>
 loopR (fun (rec129 : (Int32 × Int32 × Mm) → Option Mm) (x19 : Int32 × Int32 × Mm) =>
 if (gI x19.2.2 0 8) = 0 then
 (if x19.2.1 = 0 then
 (j186 x19.1 x19.2.2)
 else
 (if (6 : Int32) < x19.1 then
 (j186 x19.1 x19.2.2)
 else
 (bnd (P_DReadStep (nI c) x19.1 x19.2.2) fun M20 =>
 lett (x19.1 + (1 : Int32)) fun v21 =>
 bnd (P_DIsSign (44 : Int32) M20) fun r22 =>
 lett r22 fun v23 =>
 lett (fun (w_23 : Int32) =>
 lett (sI M20 0 6 ((gI M20 0 6) + w_23)) fun M25 =>
 rec129 (v21, v23, M25)) fun j179 =>
 if v23 = 0 then
 (j179 (0 : Int32))
 else
 (j179 (1 : Int32)))))
 else
 (j186 x19.1 x19.2.2)) 1000000 (v14, v15, M13)))))
def procR4 (M11 : Mm) : Option Mm :=
 bnd (R_readsStep M11) fun M12 =>
 lett (fun (M_12 : Mm) =>
 lett (sI M_12 0 19 ((gI M_12 0 19) + (1 : Int32))) fun M14 =>
 some M14) fun j121 =>
 loopR (fun (rec105 : Mm → Option Mm) (x15 : Mm) =>
 bnd (R_passes (44 : Int32) x15) fun r16 =>
 if r16.1 = 0 then
 (j121 r16.2)
 else
 (bnd (R_readsStep r16.2) fun M17 =>
 rec105 M17)) 1000000 M12
def procR3 (M8 : Mm) : Option Mm :=
 bnd (R_told (12 : Int32) (0 : Int32) (999 : Int32) M8) fun r9 =>
 ald (gI M8 0 19) 6 (lett (sI r9.2 8 (ix (gI M8 0 19)) r9.1) fun M10 =>
 bnd (R_must (13 : Int32) M10) fun M11 => procR4 M11)
def procR2 (M6 : Mm) : Option Mm :=
 bnd (R_told (11 : Int32) (1 : Int32) (100 : Int32) M6) fun r7 =>
 ald (gI M6 0 19) 6 (lett (sI r7.2 7 (ix (gI M6 0 19)) r7.1) fun M8 => procR3 M8)
def procR (w : Int32) (R : Mm) : Option Mm :=
 bnd (R_freshName R) fun M3 =>
 ald (gI M3 0 19) 6 (lett (sI M3 9 (ix (gI M3 0 19)) w) fun M5 =>
 ald (gI M5 0 19) 6 (lett (sI M5 10 (ix (gI M5 0 19)) (0 : Int32)) fun M6 => procR2 M6))
def procL (c : Nat) (M13 : Mm) : Option Mm :=
 (loopR (fun (rec129 : (Int32 × Int32 × Mm) → Option Mm) (x19 : Int32 × Int32 × Mm) =>
 if (gI x19.2.2 0 8) = 0 then
 (if x19.2.1 = 0 then
 (some (sI x19.2.2 12 c x19.1))
 else
 (if (6 : Int32) < x19.1 then
 (some (sI x19.2.2 12 c x19.1))
 else
 (bnd (P_DReadStep (nI c) x19.1 x19.2.2) fun M20 =>
 lett (x19.1 + (1 : Int32)) fun v21 =>
 bnd (P_DIsSign (44 : Int32) M20) fun r22 =>
 lett r22 fun v23 =>
 lett (fun (w_23 : Int32) =>
 lett (sI M20 0 6 ((gI M20 0 6) + w_23)) fun M25 =>
 rec129 (v21, v23, M25)) fun j179 =>
 if v23 = 0 then
 (j179 (0 : Int32))
 else
 (j179 (1 : Int32)))))
 else
 (some (sI x19.2.2 12 c x19.1))) 1000000 ((0 : Int32), (1 : Int32), M13))
def procS (R11 : Mm) : Option Mm :=
 (bnd (R_readsStep R11) fun M12 =>
 loopR (fun (rec105 : Mm → Option Mm) (x15 : Mm) =>
 bnd (R_passes (44 : Int32) x15) fun r16 =>
 if r16.1 = 0 then
 (some (sI r16.2 0 19 (gI r16.2 0 19 + 1)))
 else
 (bnd (R_readsStep r16.2) fun M17 =>
 rec105 M17)) 1000000 M12)
theorem procC_e {c : Nat} {w v1 v2 : Int32} {M3 M6 M7 M8 M9 M10 M11 M12 M13 : Mm} (hc : c < 6) (a1 : P_DExpectName (nI c) M = some M3) (hM6 : M6 = sI (sI M3 7 11 (nI (c + 1))) 9 c w) (b1 : P_DExpectWord 1011 M6 = some M7) (b2 : P_DExpectNumber 1 100 M7 = some (v1, M8)) (hM9 : M9 = sI M8 10 c v1) (c1 : P_DExpectWord 1012 M9 = some M10) (c2 : P_DExpectNumber 0 999 M10 = some (v2, M11)) (hM12 : M12 = sI M11 11 c v2) (d1 : P_DExpectWord 1013 M12 = some M13) : procC c w M = procL c M13 := by
  have jj : ∀ (u : Int32) (X : Mm), (ald (nI c) 6 (lett (sI X 12 c u) fun M18 => some M18)) = some (sI X 12 c u) := fun u X => by rw [ald_n (by omega) (by omega), lett_e]
  unfold procC procL
  rw [a1, bnd_s, nI_1, lett_e, ald_n (by omega) (by omega), lett_e, ix_nI (by omega), ← hM6, b1, bnd_s, b2, bnd_s, ald_n (by omega) (by omega), lett_e]
  dsimp only
  rw [← hM9, c1, bnd_s, c2, bnd_s, ald_n (by omega) (by omega), lett_e]
  dsimp only
  rw [← hM12, d1, bnd_s, lett_e, lett_e, lett_e]
  simp only [jj]
theorem procR4_e (M11 : Mm) : procR4 M11 = procS M11 := by
  unfold procR4 procS
  cases R_readsStep M11 with
  | none => rw [bnd_n, bnd_n]
  | some M12 =>
    rw [bnd_s, bnd_s, lett_e]
    have e : (fun (rec105 : Mm → Option Mm) (x15 : Mm) => bnd (R_passes (44 : Int32) x15) fun r16 => if r16.1 = 0 then ((fun (M_12 : Mm) => lett (sI M_12 0 19 ((gI M_12 0 19) + (1 : Int32))) fun M14 => some M14) r16.2) else (bnd (R_readsStep r16.2) fun M17 => rec105 M17)) = (fun (rec105 : Mm → Option Mm) (x15 : Mm) => bnd (R_passes (44 : Int32) x15) fun r16 => if r16.1 = 0 then (some (sI r16.2 0 19 (gI r16.2 0 19 + 1))) else (bnd (R_readsStep r16.2) fun M17 => rec105 M17)) := by
      funext rec x
      cases R_passes (44 : Int32) x with
      | none => rw [bnd_n, bnd_n]
      | some r =>
        rw [bnd_s, bnd_s]
        dsimp only
        rw [lett_e]
    exact congrArg (fun f => loopR f 1000000 M12) e
theorem procR_e {c : Nat} {w w1 w2 : Int32} {R3 R6 R7 R8 R9 R10 R11 : Mm} (hc : c < 6) (a2 : R_freshName R = some R3) (r3 : gI R3 0 19 = nI c) (hR6 : R6 = sI (sI R3 9 c w) 10 c 0) (r6 : gI R6 0 19 = nI c) (b3 : R_told 11 1 100 R6 = some (w1, R7)) (hR8 : R8 = sI R7 7 c w1) (r8 : gI R8 0 19 = nI c) (c3 : R_told 12 0 999 R8 = some (w2, R9)) (hR10 : R10 = sI R9 8 c w2) (d2 : R_must 13 R10 = some R11) : procR w R = procS R11 := by
  unfold procR
  rw [a2, bnd_s, r3, ald_n (by omega) (by omega), lett_e, ix_nI (by omega), gw_n _ _ _ _ (by omega), r3, ald_n (by omega) (by omega), lett_e, ix_nI (by omega), ← hR6]
  unfold procR2
  rw [b3, bnd_s, r6, ald_n (by omega) (by omega), lett_e, ix_nI (by omega)]
  dsimp only
  rw [← hR8]
  unfold procR3
  rw [c3, bnd_s, r8, ald_n (by omega) (by omega), lett_e, ix_nI (by omega)]
  dsimp only
  rw [← hR10, d2, bnd_s]
  exact procR4_e R11
theorem procL_f {c : Nat} {M13 : Mm} (q8 : ¬ gI M13 0 8 = 0) : procL c M13 = some (sI M13 12 c 0) := by
  unfold procL
  refine loopR_sq (fun _ => ((0 : Int32), (1 : Int32), M13)) 0 (by omega) rfl (fun i hi => by omega) (fun rec => ?_)
  dsimp only
  rw [if_neg q8]
theorem procS_f {c : Nat} {R11 : Mm} (r46 : ¬ gI R11 0 46 = 0) (y19 : gI R11 0 19 = nI c) : procS R11 = some (sI R11 0 19 (nI (c + 1))) := by
  have rs : R_readsStep R11 = some R11 := by
    unfold R_readsStep
    rw [word_F r46, bnd_s, goes_f r46, bnd_s, if_pos rfl]
  unfold procS
  rw [rs, bnd_s]
  refine loopR_sq (fun _ => R11) 0 (by omega) rfl (fun i hi => by omega) (fun rec => ?_)
  have rp : R_passes 44 R11 = some (0, R11) := by
    unfold R_passes
    rw [goes_f r46, bnd_s, if_pos rfl]
  rw [rp, bnd_s]
  dsimp only
  rw [if_pos rfl, y19, nI_1]
theorem proc_sim (h : Zt l B T M R) (h8 : gI M 0 8 = 0) {c s : Nat} (hc : c < 6) (h19 : gI R 0 19 = nI c) (hnm : ∀ x i, x < c → i < 6 → gI M 8 (6 * x + i) = gI R 12 (6 * x + i)) (hz : ∀ i, i < 6 → gI M 8 (6 * c + i) = 0) (m70 : gI M 7 0 = nI s) (r20 : gI R 0 20 = nI s) (hs : 64 ≤ s ∧ s < 10000) {w : Int32} (hw : w = 0 ∨ w = 1) : ∃ M' R', procC c w M = some M' ∧ procR w R = some R' ∧ Zt l B T M' R' ∧ MFp c M M' ∧ RFp c R R' ∧ gI M' 7 11 = nI (c + 1) ∧ gI R' 0 19 = nI (c + 1) ∧ (gI M' 0 8 = 0 → Prc s c M' R') := by
  obtain ⟨M3, R3, a1, a2, a3, a4, a5, a6, a7, a8⟩ := exName h hc (fun _ => ⟨h19, hnm, hz⟩)
  have r3_19 : gI R3 0 19 = nI c := (a6 _ _ (by omega) (by omega)).trans h19
  obtain ⟨M6, hM6⟩ : ∃ X, X = sI (sI M3 7 11 (nI (c + 1))) 9 c w := ⟨_, rfl⟩
  obtain ⟨R6, hR6⟩ : ∃ X, X = sI (sI R3 9 c w) 10 c 0 := ⟨_, rfl⟩
  have m6 : ∀ a i, ¬ (a = 7 ∧ i = 11) → ¬ (a = 9 ∧ i = c) → gI M6 a i = gI M3 a i := fun a i q1 q2 => by rw [hM6, gw_n _ _ _ _ (by omega), gw_n _ _ _ _ (by omega)]
  have r6 : ∀ a i, ¬ (a = 9 ∧ i = c) → ¬ (a = 10 ∧ i = c) → gI R6 a i = gI R3 a i := fun a i q1 q2 => by rw [hR6, gw_n _ _ _ _ (by omega), gw_n _ _ _ _ (by omega)]
  have r6_19 : gI R6 0 19 = nI c := (r6 _ _ (by omega) (by omega)).trans r3_19
  have z6 : Zt l B T M6 R6 := a3.fr (fun a i q => m6 a i (by omega) (by omega)) (fun i => by rw [hM6]; rfl) (fun a i q => r6 a i (by omega) (by omega))
  obtain ⟨v1, w1, M7, M8, R7, b1, b2, b3, b4, b5, b6, b7, b8⟩ := exTold z6 (j := 11) (by omega) (p1 := 1) (p2 := 100) (q1 := 1) (q2 := 100) (fun _ => ⟨rfl, rfl⟩)
  obtain ⟨M9, hM9⟩ : ∃ X, X = sI M8 10 c v1 := ⟨_, rfl⟩
  obtain ⟨R8, hR8⟩ : ∃ X, X = sI R7 7 c w1 := ⟨_, rfl⟩
  have m9 : ∀ a i, ¬ (a = 10 ∧ i = c) → gI M9 a i = gI M8 a i := fun a i q1 => by rw [hM9, gw_n _ _ _ _ (by omega)]
  have r8 : ∀ a i, ¬ (a = 7 ∧ i = c) → gI R8 a i = gI R7 a i := fun a i q1 => by rw [hR8, gw_n _ _ _ _ (by omega)]
  have r8_19 : gI R8 0 19 = nI c := ((r8 _ _ (by omega)).trans (b7.i (by omega))).trans r6_19
  have z9 : Zt l B T M9 R8 := b4.fr (fun a i q => m9 a i (by omega)) (fun i => by rw [hM9]; rfl) (fun a i q => r8 a i (by omega))
  obtain ⟨v2, w2, M10, M11, R9, c1, c2, c3, c4, c5, c6, c7, c8⟩ := exTold z9 (j := 12) (by omega) (p1 := 0) (p2 := 999) (q1 := 0) (q2 := 999) (fun _ => ⟨rfl, rfl⟩)
  obtain ⟨M12, hM12⟩ : ∃ X, X = sI M11 11 c v2 := ⟨_, rfl⟩
  obtain ⟨R10, hR10⟩ : ∃ X, X = sI R9 8 c w2 := ⟨_, rfl⟩
  have m12 : ∀ a i, ¬ (a = 11 ∧ i = c) → gI M12 a i = gI M11 a i := fun a i q1 => by rw [hM12, gw_n _ _ _ _ (by omega)]
  have r10 : ∀ a i, ¬ (a = 8 ∧ i = c) → gI R10 a i = gI R9 a i := fun a i q1 => by rw [hR10, gw_n _ _ _ _ (by omega)]
  have z12 : Zt l B T M12 R10 := c4.fr (fun a i q => m12 a i (by omega)) (fun i => by rw [hM12]; rfl) (fun a i q => r10 a i (by omega))
  obtain ⟨M13, R11, d1, d2, d3, d4, d5, d6⟩ := exWord z12 (j := 13) (by omega)
  -- back to the beginning
  have mAll : ∀ a i, ¬ (a = 0 ∧ (i = 6 ∨ i = 8 ∨ i = 9)) → ¬ (a = 7 ∧ i = 11) → ¬ (9 ≤ a ∧ a ≤ 11 ∧ i = c) → gI M13 a i = gI M3 a i := fun a i q1 q2 q3 => by
    rw [d4.i q1, m12 _ _ (by omega), c5.i q1, m9 _ _ (by omega), b5.i q1, m6 _ _ q2 (by omega)]
  have rAll : ∀ a i, ¬ (a = 0 ∧ 44 ≤ i ∧ i ≤ 47) → ¬ (7 ≤ a ∧ a ≤ 10 ∧ i = c) → gI R11 a i = gI R3 a i := fun a i q1 q2 => by
    rw [d5.i q1, r10 _ _ (by omega), c7.i q1, r8 _ _ (by omega), b7.i q1, r6 _ _ (by omega) (by omega)]
  have e13 : M13.2 = M.2 := by
    rw [d4.2, hM12]
    show M11.2 = M.2
    rw [c5.2, hM9]
    show M8.2 = M.2
    rw [b5.2, hM6]
    exact a5
  have e11 : R11.2 = R.2 := by
    rw [d5.2, hR10]
    show R9.2 = R.2
    rw [c7.2, hR8]
    show R7.2 = R.2
    rw [b7.2, hR6]
    exact a7
  have x711 : gI M13 7 11 = nI (c + 1) := by
    rw [d4.i (by omega), m12 _ _ (by omega), c5.i (by omega), m9 _ _ (by omega), b5.i (by omega), hM6, gw_n _ _ _ _ (by omega), gw_s]
  have x9 : gI M13 9 c = w := by
    rw [d4.i (by omega), m12 _ _ (by omega), c5.i (by omega), m9 _ _ (by omega), b5.i (by omega), hM6, gw_s]
  have x10 : gI M13 10 c = v1 := by
    rw [d4.i (by omega), m12 _ _ (by omega), c5.i (by omega), hM9, gw_s]
  have x11 : gI M13 11 c = v2 := by rw [d4.i (by omega), hM12, gw_s]
  have y19 : gI R11 0 19 = nI c := (rAll _ _ (by omega) (by omega)).trans r3_19
  have y9 : gI R11 9 c = w := by
    rw [d5.i (by omega), r10 _ _ (by omega), c7.i (by omega), r8 _ _ (by omega), b7.i (by omega), hR6, gw_n _ _ _ _ (by omega), gw_s]
  have y10 : gI R11 10 c = 0 := by
    rw [d5.i (by omega), r10 _ _ (by omega), c7.i (by omega), r8 _ _ (by omega), b7.i (by omega), hR6, gw_s]
  have y7 : gI R11 7 c = w1 := by rw [d5.i (by omega), r10 _ _ (by omega), c7.i (by omega), hR8, gw_s]
  have y8 : gI R11 8 c = w2 := by rw [d5.i (by omega), hR10, gw_s]
  have hC := procC_e (w := w) hc a1 hM6 b1 b2 hM9 c1 c2 hM12 d1
  have hR := procR_e (w := w) hc a2 r3_19 hR6 r6_19 b3 hR8 r8_19 c3 hR10 d2
  by_cases q8 : gI M13 0 8 = 0
  · obtain ⟨g1, -⟩ := d6 q8
    obtain ⟨g2, g3, n2, n2a, n2b, n2c, n2d⟩ := c8 ((m12 _ _ (by omega)).symm.trans g1)
    obtain ⟨g4, g5, n1, n1a, n1b, n1c, n1d⟩ := b8 ((m9 _ _ (by omega)).symm.trans g2)
    obtain ⟨-, -, g6⟩ := a8 ((m6 _ _ (by omega) (by omega)).symm.trans g4)
    have o1 := isR_of n1b n1a n1c n1d (a := 1) (b := 100) rfl rfl (by omega) (by omega)
    have o2 := isR_of n2b n2a n2c n2d (a := 0) (b := 999) rfl rfl (by omega) (by omega)
    have hw9 : gI R11 9 c = 0 ∨ gI R11 9 c = 1 := by rw [y9]; exact hw
    obtain ⟨e, M', R', e1, e2, e3, e4, e5, e6, e7, e8⟩ := steps_sim d3 q8 hc y19 y10 (x9.trans y9.symm) hw9 ((mAll _ _ (by omega) (by omega) (by omega)).trans ((a4 _ _ (by omega) (by omega)).trans m70)) ((rAll _ _ (by omega) (by omega)).trans ((a6 _ _ (by omega) (by omega)).trans r20)) hs
    have k19 : gI R' 0 19 = nI c := (e5.1 _ _ (by omega) (by omega) (by omega)).trans y19
    have nM : ∀ a i, ¬ (a = 12 ∧ i = c) → gI (sI M' 12 c (nI e)) a i = gI M' a i := fun a i q => gw_n _ _ _ _ (by omega)
    have nR : ∀ a i, ¬ (a = 0 ∧ i = 19) → gI (sI R' 0 19 (nI (c + 1))) a i = gI R' a i := fun a i q => gw_n _ _ _ _ (by omega)
    refine ⟨sI M' 12 c (nI e), sI R' 0 19 (nI (c + 1)), hC.trans (e7 (fun u X => some (sI X 12 c u))), hR.trans ?_, e3.fr (fun a i q => nM a i (by omega)) (fun i => rfl) (fun a i q => nR a i (by omega)), ⟨fun a i q1 q2 q3 q4 q5 => ?_, e4.2.trans e13⟩, ⟨fun a i q1 q2 q3 q4 q5 => ?_, e5.2.trans e11⟩, ?_, gw_s _ _ _ _, fun f8 => ?_⟩
    · refine (e8 (fun X => some (sI X 0 19 (gI X 0 19 + 1)))).trans ?_
      rw [k19, nI_1]
    · rw [nM _ _ (by omega), e4.1 _ _ q1 (by omega), mAll _ _ q1 q2 (by omega)]
      exact a4 a i q1 q3
    · rw [nR _ _ q2, e5.1 _ _ q1 (by omega) (by omega), rAll _ _ q1 (by omega)]
      exact a6 a i q1 q3
    · rw [nM _ _ (by omega), e4.1 _ _ (by omega) (by omega)]; exact x711
    · obtain ⟨t6, sp⟩ := e6 ((nM _ _ (by omega)).symm.trans f8)
      refine ⟨fun i hi => ?_, ?_, ?_, ?_, e, e1, t6, gw_s _ _ _ _, (nR _ _ (by omega)).trans sp.1, fun j hj => ?_⟩
      · rw [nM _ _ (by omega), nR _ _ (by omega), e4.1 _ _ (by omega) (by omega), e5.1 _ _ (by omega) (by omega) (by omega), mAll _ _ (by omega) (by omega) (by omega), rAll _ _ (by omega) (by omega)]
        exact g6 i hi
      · rw [nM _ _ (by omega), nR _ _ (by omega), e4.1 _ _ (by omega) (by omega), e5.1 _ _ (by omega) (by omega) (by omega), x9, y9]
        exact ⟨rfl, hw⟩
      · rw [nM _ _ (by omega), nR _ _ (by omega), e4.1 _ _ (by omega) (by omega), e5.1 _ _ (by omega) (by omega) (by omega), x10, y7]
        exact ⟨g5, n1, o1.1, by omega, g5.symm.trans n1b⟩
      · rw [nM _ _ (by omega), nR _ _ (by omega), e4.1 _ _ (by omega) (by omega), e5.1 _ _ (by omega) (by omega) (by omega), x11, y8]
        exact ⟨g3, n2, by omega, g3.symm.trans n2b⟩
      · rw [nM _ _ (by omega), nM _ _ (by omega), nM _ _ (by omega), nR _ _ (by omega), nR _ _ (by omega), nR _ _ (by omega)]
        exact sp.2 j hj
  · have r46 : ¬ gI R11 0 46 = 0 := fun e => q8 (d3.2.2.2.2.1.trans e)
    have nM : ∀ a i, ¬ (a = 12 ∧ i = c) → gI (sI M13 12 c 0) a i = gI M13 a i := fun a i q => gw_n _ _ _ _ (by omega)
    have nR : ∀ a i, ¬ (a = 0 ∧ i = 19) → gI (sI R11 0 19 (nI (c + 1))) a i = gI R11 a i := fun a i q => gw_n _ _ _ _ (by omega)
    refine ⟨sI M13 12 c 0, sI R11 0 19 (nI (c + 1)), hC.trans (procL_f q8), hR.trans (procS_f r46 y19), d3.fr (fun a i q => nM a i (by omega)) (fun i => rfl) (fun a i q => nR a i (by omega)), ⟨fun a i q1 q2 q3 q4 q5 => ?_, e13⟩, ⟨fun a i q1 q2 q3 q4 q5 => ?_, e11⟩, ?_, gw_s _ _ _ _, fun f8 => absurd ((nM _ _ (by omega)).symm.trans f8) q8⟩
    · rw [nM _ _ (by omega), mAll _ _ q1 q2 (by omega)]
      exact a4 a i q1 q3
    · rw [nR _ _ q2, rAll _ _ q1 (by omega)]
      exact a6 a i q1 q3
    · rw [nM _ _ (by omega)]; exact x711
end PROC
