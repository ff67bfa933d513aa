/-! PURE: settings along the text -/
section SETS
variable {l T : Nat} {B : Nat → Nat} {M R M' R' : Mm}
def MFf (f g : Nat) (M M' : Mm) : Prop := (∀ a i, ¬ (a = 0 ∧ (i = 6 ∨ i = 8 ∨ i = 9)) → ¬ (a = 7 ∧ f ≤ i ∧ i ≤ g) → gI M' a i = gI M a i) ∧ M'.2 = M.2
def RFf (f g : Nat) (R R' : Mm) : Prop := (∀ a i, ¬ (a = 0 ∧ 44 ≤ i ∧ i ≤ 47) → ¬ (a = 0 ∧ 20 + f ≤ i ∧ i ≤ 20 + g) → gI R' a i = gI R a i) ∧ R'.2 = R.2
theorem MFf.tr {f g a b c d : Nat} {M2 : Mm} (h : MFf a b M M') (h' : MFf c d M' M2) (q : f ≤ a ∧ b ≤ g ∧ f ≤ c ∧ d ≤ g) : MFf f g M M2 := ⟨fun x i e1 e2 => (h'.1 x i e1 (by omega)).trans (h.1 x i e1 (by omega)), h'.2.trans h.2⟩
theorem RFf.tr {f g a b c d : Nat} {R2 : Mm} (h : RFf a b R R') (h' : RFf c d R' R2) (q : f ≤ a ∧ b ≤ g ∧ f ≤ c ∧ d ≤ g) : RFf f g R R2 := ⟨fun x i e1 e2 => (h'.1 x i e1 (by omega)).trans (h.1 x i e1 (by omega)), h'.2.trans h.2⟩
theorem numF (h : Zt l B T M R) {p1 p2 q1 q2 : Int32} (hp : gI M 0 8 = 0 → p1 = q1 ∧ p2 = q2) {f : Nat} (hf : f ≤ 10) : ∃ v w M' R', P_DExpectNumber p1 p2 M = some (v, M') ∧ R_number q1 q2 R = some (w, R') ∧ Zt l B T (sI M' 7 f v) (sI R' 0 (20 + f) w) ∧ MFf f f M (sI M' 7 f v) ∧ RFf f f R (sI R' 0 (20 + f) w) ∧ (gI (sI M' 7 f v) 0 8 = 0 → gI M 0 8 = 0 ∧ v = w ∧ ∃ m, m ≤ 9999 ∧ v = nI m ∧ ¬ v < p1 ∧ v ≤ p2) := by
  obtain ⟨v, w, M', R', a1, a2, a3, a4, a5, a6⟩ := exNum h hp
  have m1 : ∀ a i, ¬ (a = 7 ∧ i = f) → gI (sI M' 7 f v) a i = gI M' a i := fun a i q => gw_n _ _ _ _ (by omega)
  have r1 : ∀ a i, ¬ (a = 0 ∧ i = 20 + f) → gI (sI R' 0 (20 + f) w) a i = gI R' a i := fun a i q => gw_n _ _ _ _ (by omega)
  refine ⟨v, w, M', R', a1, a2, a3.fr (fun a i q => m1 a i (by omega)) (fun i => rfl) (fun a i q => r1 a i (by omega)), ⟨fun a i e1 e2 => (m1 a i (by omega)).trans (a4.i e1), a4.2⟩, ⟨fun a i e1 e2 => (r1 a i (by omega)).trans (a5.i e1), a5.2⟩, fun e => ?_⟩
  obtain ⟨b1, b2, b3, b4⟩ := a6 ((m1 _ _ (by omega)).symm.trans e)
  exact ⟨b1, b3, b4⟩
theorem toldF (h : Zt l B T M R) {j : Nat} (hj : j < 20) {p1 p2 q1 q2 : Int32} (hp : gI M 0 8 = 0 → p1 = q1 ∧ p2 = q2) {f : Nat} (hf : f ≤ 10) : ∃ v w M1 M' R', P_DExpectWord (1000 + j) M = some M1 ∧ P_DExpectNumber p1 p2 M1 = some (v, M') ∧ R_told (nI j) q1 q2 R = some (w, R') ∧ Zt l B T (sI M' 7 f v) (sI R' 0 (20 + f) w) ∧ MFf f f M (sI M' 7 f v) ∧ PFr M M1 ∧ RFf f f R (sI R' 0 (20 + f) w) ∧ (gI (sI M' 7 f v) 0 8 = 0 → gI M 0 8 = 0 ∧ v = w ∧ ∃ m, m ≤ 9999 ∧ v = nI m ∧ ¬ v < p1 ∧ v ≤ p2) := by
  obtain ⟨v, w, M1, M', R', a0, a1, a2, a3, a4, a5, a6, a7⟩ := exTold h hj hp
  have m1 : ∀ a i, ¬ (a = 7 ∧ i = f) → gI (sI M' 7 f v) a i = gI M' a i := fun a i q => gw_n _ _ _ _ (by omega)
  have r1 : ∀ a i, ¬ (a = 0 ∧ i = 20 + f) → gI (sI R' 0 (20 + f) w) a i = gI R' a i := fun a i q => gw_n _ _ _ _ (by omega)
  exact ⟨v, w, M1, M', R', a0, a1, a2, a3.fr (fun a i q => m1 a i (by omega)) (fun i => rfl) (fun a i q => r1 a i (by omega)), ⟨fun a i e1 e2 => (m1 a i (by omega)).trans (a4.i e1), a4.2⟩, a5, ⟨fun a i e1 e2 => (r1 a i (by omega)).trans (a6.i e1), a6.2⟩, fun e => a7 ((m1 _ _ (by omega)).symm.trans e)⟩
/-! one number -/
theorem set1 (h : Zt l B T M R) {p1 p2 : Int32} {f : Nat} (hf : f ≤ 10) {lo hi : Nat} (hlo : p1 = nI lo) (hhi : p2 = nI hi) (h1 : lo < 2 ^ 31) (h2 : hi < 2 ^ 31) : ∃ M' R', (bnd (P_DExpectNumber p1 p2 M) fun r15 => lett (sI r15.2 7 f r15.1) fun M16 => some M16) = some M' ∧ (bnd (R_number p1 p2 R) fun r14 => lett (sI r14.2 0 (20 + f) r14.1) fun M15 => some M15) = some R' ∧ Zt l B T M' R' ∧ MFf f f M M' ∧ RFf f f R R' ∧ (gI M' 0 8 = 0 → gI M 0 8 = 0 ∧ gI M' 7 f = gI R' 0 (20 + f) ∧ isR lo (hi + 1) (gI R' 0 (20 + f))) := by
  obtain ⟨v, w, M', R', a1, a2, a3, a4, a5, a6⟩ := numF h (p1 := p1) (p2 := p2) (fun _ => ⟨rfl, rfl⟩) hf
  refine ⟨sI M' 7 f v, sI R' 0 (20 + f) w, ?_, ?_, a3, a4, a5, fun e => ?_⟩
  · rw [a1, bnd_s, lett_e]
  · rw [a2, bnd_s, lett_e]
  · obtain ⟨b1, b2, m, b3, b4, b5, b6⟩ := a6 e
    have o := isR_of b4 b3 b5 b6 hlo hhi h1 h2
    rw [gw_s, gw_s]
    exact ⟨b1, b2, m, o.1, by omega, b2.symm.trans b4⟩
def set3C (M2 : Mm) : Option Mm :=
 (bnd (P_DExpectNumber (1 : Int32) (999 : Int32) M2) fun r17 =>
 lett (sI r17.2 7 3 r17.1) fun M18 =>
 bnd (P_DExpectWord 1004 M18) fun M19 =>
 bnd (P_DExpectNumber (gI M19 7 3) (999 : Int32) M19) fun r20 =>
 lett (sI r20.2 7 4 r20.1) fun M21 =>
 some M21)
def set3R (R : Mm) : Option Mm :=
 (bnd (R_number (1 : Int32) (999 : Int32) R) fun r16 =>
 lett (sI r16.2 0 23 r16.1) fun M17 =>
 bnd (R_told (4 : Int32) (gI M17 0 23) (999 : Int32) M17) fun r18 =>
 lett (sI r18.2 0 24 r18.1) fun M19 =>
 some M19)
theorem set3 (h : Zt l B T M R) : ∃ M' R', set3C M = some M' ∧ set3R R = some R' ∧ Zt l B T M' R' ∧ MFf 3 4 M M' ∧ RFf 3 4 R R' ∧ (gI M' 0 8 = 0 → gI M 0 8 = 0 ∧ gI M' 7 3 = gI R' 0 23 ∧ gI M' 7 4 = gI R' 0 24 ∧ ∃ lo hi, gI R' 0 23 = nI lo ∧ gI R' 0 24 = nI hi ∧ 1 ≤ lo ∧ lo ≤ hi ∧ hi < 1000) := by
  obtain ⟨v, w, M1, R1, a1, a2, a3, a4, a5, a6⟩ := numF h (p1 := 1) (p2 := 999) (fun _ => ⟨rfl, rfl⟩) (f := 3) (by omega)
  obtain ⟨X, hX⟩ : ∃ X, X = sI M1 7 3 v := ⟨_, rfl⟩
  obtain ⟨Y, hY⟩ : ∃ Y, Y = sI R1 0 (20 + 3) w := ⟨_, rfl⟩
  rw [← hX, ← hY] at a3
  rw [← hX] at a4 a6
  rw [← hY] at a5
  have x3 : gI X 7 3 = v := by rw [hX, gw_s]
  have y3 : gI Y 0 23 = w := by rw [hY, gw_s]
  obtain ⟨v', w', M2, M3, R3, b1, b2, b3, b4, b5, b6, b7, b8⟩ := toldF a3 (j := 4) (by omega) (p1 := v) (p2 := 999) (q1 := w) (q2 := 999) (fun e => ⟨(a6 e).2.1, rfl⟩) (f := 4) (by omega)
  refine ⟨sI M3 7 4 v', sI R3 0 24 w', ?_, ?_, b4, a4.tr b5 (by omega), a5.tr b7 (by omega), fun e => ?_⟩
  · unfold set3C
    rw [a1, bnd_s, lett_e]
    dsimp only
    rw [← hX, show P_DExpectWord 1004 X = _ from b1, bnd_s, b6.i (by omega), x3, b2, bnd_s, lett_e]
  · unfold set3R
    rw [a2, bnd_s, lett_e]
    dsimp only
    rw [← hY, y3, show R_told 4 w 999 Y = _ from b3, bnd_s, lett_e]
  · obtain ⟨c1, c2, m, c3, c4, c5, c6⟩ := b8 e
    obtain ⟨d1, d2, m', d3, d4, d5, d6⟩ := a6 c1
    have o1 := isR_of d4 d3 d5 d6 (a := 1) (b := 999) rfl rfl (by omega) (by omega)
    have o2 := isR_of c4 c3 c5 c6 (a := m') (b := 999) d4 rfl (by omega) (by omega)
    have e1 : gI (sI M3 7 4 v') 7 3 = v := (b5.1 _ _ (by omega) (by omega)).trans x3
    have e2 : gI (sI R3 0 24 w') 0 23 = w := (b7.1 _ _ (by omega) (by omega)).trans y3
    rw [e1, e2, gw_s, gw_s]
    exact ⟨d1, d2, c2, m', m, d2.symm.trans d4, c2.symm.trans c4, o1.1, o2.1, by omega⟩
def set8C (M2 : Mm) : Option Mm :=
 (bnd (P_DExpectNumber (1 : Int32) (20 : Int32) M2) fun r3 =>
 lett (sI r3.2 7 8 r3.1) fun M4 =>
 bnd (P_DExpectWord 1009 M4) fun M5 =>
 bnd (P_DExpectNumber (0 : Int32) (500 : Int32) M5) fun r6 =>
 lett (sI r6.2 7 9 r6.1) fun M7 =>
 bnd (P_DExpectWord 1010 M7) fun M8 =>
 bnd (P_DExpectNumber (1 : Int32) (999 : Int32) M8) fun r9 =>
 lett (sI r9.2 7 10 r9.1) fun M10 =>
 some M10)
def set8R (R : Mm) : Option Mm :=
 (bnd (R_number (1 : Int32) (20 : Int32) R) fun r4 =>
 lett (sI r4.2 0 28 r4.1) fun M5 =>
 bnd (R_told (9 : Int32) (0 : Int32) (500 : Int32) M5) fun r6 =>
 lett (sI r6.2 0 29 r6.1) fun M7 =>
 bnd (R_told (10 : Int32) (1 : Int32) (999 : Int32) M7) fun r8 =>
 lett (sI r8.2 0 30 r8.1) fun M9 =>
 some M9)
theorem set8 (h : Zt l B T M R) : ∃ M' R', set8C M = some M' ∧ set8R R = some R' ∧ Zt l B T M' R' ∧ MFf 8 10 M M' ∧ RFf 8 10 R R' ∧ (gI M' 0 8 = 0 → gI M 0 8 = 0 ∧ (gI M' 7 8 = gI R' 0 28 ∧ isR 1 21 (gI R' 0 28)) ∧ (gI M' 7 9 = gI R' 0 29 ∧ isN 501 (gI R' 0 29)) ∧ gI M' 7 10 = gI R' 0 30 ∧ isN 1000 (gI R' 0 30)) := by
  obtain ⟨v, w, M1, R1, a1, a2, a3, a4, a5, a6⟩ := numF h (p1 := 1) (p2 := 20) (fun _ => ⟨rfl, rfl⟩) (f := 8) (by omega)
  obtain ⟨v', w', M2, M3, R3, b1, b2, b3, b4, b5, b6, b7, b8⟩ := toldF a3 (j := 9) (by omega) (p1 := 0) (p2 := 500) (q1 := 0) (q2 := 500) (fun e => ⟨rfl, rfl⟩) (f := 9) (by omega)
  obtain ⟨v2, w2, M4, M5, R5, c1, c2, c3, c4, c5, c6, c7, c8⟩ := toldF b4 (j := 10) (by omega) (p1 := 1) (p2 := 999) (q1 := 1) (q2 := 999) (fun e => ⟨rfl, rfl⟩) (f := 10) (by omega)
  refine ⟨sI M5 7 10 v2, sI R5 0 30 w2, ?_, ?_, c4, (a4.tr (f := 8) (g := 9) b5 (by omega)).tr c5 (by omega), (a5.tr (f := 8) (g := 9) b7 (by omega)).tr c7 (by omega), fun e => ?_⟩
  · unfold set8C
    rw [a1, bnd_s, lett_e]
    dsimp only
    rw [show P_DExpectWord 1009 (sI M1 7 8 v) = _ from b1, bnd_s, b2, bnd_s, lett_e]
    dsimp only
    rw [show P_DExpectWord 1010 (sI M3 7 9 v') = _ from c1, bnd_s, c2, bnd_s, lett_e]
  · unfold set8R
    rw [a2, bnd_s, lett_e]
    dsimp only
    rw [show R_told 9 0 500 (sI R1 0 28 w) = _ from b3, bnd_s, lett_e]
    dsimp only
    rw [show R_told 10 1 999 (sI R3 0 29 w') = _ from c3, bnd_s, lett_e]
  · obtain ⟨e1, e2, m2, e3, e4, e5, e6⟩ := c8 e
    obtain ⟨f1, f2, m1, f3, f4, f5, f6⟩ := b8 e1
    obtain ⟨g1, g2, m0, g3, g4, g5, g6⟩ := a6 f1
    have o2 := isR_of e4 e3 e5 e6 (a := 1) (b := 999) rfl rfl (by omega) (by omega)
    have o1 := isR_of f4 f3 f5 f6 (a := 0) (b := 500) rfl rfl (by omega) (by omega)
    have o0 := isR_of g4 g3 g5 g6 (a := 1) (b := 20) rfl rfl (by omega) (by omega)
    have x9 : gI (sI M5 7 10 v2) 7 9 = v' := (c5.1 _ _ (by omega) (by omega)).trans (gw_s _ _ _ _)
    have x8 : gI (sI M5 7 10 v2) 7 8 = v := ((c5.1 _ _ (by omega) (by omega)).trans (b5.1 _ _ (by omega) (by omega))).trans (gw_s _ _ _ _)
    have y9 : gI (sI R5 0 30 w2) 0 29 = w' := (c7.1 _ _ (by omega) (by omega)).trans (gw_s _ _ _ _)
    have y8 : gI (sI R5 0 30 w2) 0 28 = w := ((c7.1 _ _ (by omega) (by omega)).trans (b7.1 _ _ (by omega) (by omega))).trans (gw_s _ _ _ _)
    rw [x8, x9, y8, y9, gw_s, gw_s]
    exact ⟨g1, ⟨g2, m0, o0.1, by omega, g2.symm.trans g4⟩, ⟨f2, m1, by omega, f2.symm.trans f4⟩, e2, m2, by omega, e2.symm.trans e4⟩
/-! the disk's own line -/
theorem disk_line (h : Zt l B T M R) : ∃ M' R' R1 R2 R3 w1 w2 w3, P_DReadDisk M = some M' ∧ R_told 0 64 9999 R = some (w1, R1) ∧ R_told 1 1 500 (sI R1 0 20 w1) = some (w2, R2) ∧ R_told 2 1 64 (sI R2 0 21 w2) = some (w3, R3) ∧ R_endsWell (sI R3 0 22 w3) = some R' ∧ Zt l B T M' R' ∧ MFf 0 2 M M' ∧ RFf 0 2 R R' ∧ (gI M' 0 8 = 0 → gI M 0 8 = 0 ∧ (gI M' 7 0 = gI R' 0 20 ∧ isR 64 10000 (gI R' 0 20)) ∧ (gI M' 7 1 = gI R' 0 21 ∧ isR 1 501 (gI R' 0 21)) ∧ gI M' 7 2 = gI R' 0 22 ∧ isR 1 65 (gI R' 0 22)) := by
  obtain ⟨v, w, M0, M1, R1, a0, a1, a2, a3, a4, aa, a5, a6⟩ := toldF h (j := 0) (by omega) (p1 := 64) (p2 := 9999) (q1 := 64) (q2 := 9999) (fun _ => ⟨rfl, rfl⟩) (f := 0) (by omega)
  obtain ⟨v', w', M2, M3, R3, b1, b2, b3, b4, b5, b6, b7, b8⟩ := toldF a3 (j := 1) (by omega) (p1 := 1) (p2 := 500) (q1 := 1) (q2 := 500) (fun e => ⟨rfl, rfl⟩) (f := 1) (by omega)
  obtain ⟨v2, w2, M4, M5, R5, c1, c2, c3, c4, c5, c6, c7, c8⟩ := toldF b4 (j := 2) (by omega) (p1 := 1) (p2 := 64) (q1 := 1) (q2 := 64) (fun e => ⟨rfl, rfl⟩) (f := 2) (by omega)
  obtain ⟨M6, R6, d1, d2, d3, d4, d5, d6⟩ := exSign c4
  refine ⟨M6, R6, R1, R3, R5, w, w', w2, ?_, a2, b3, c3, d2, d3, ⟨fun a i q1 q2 => ?_, ?_⟩, ⟨fun a i q1 q2 => ?_, ?_⟩, fun e => ?_⟩
  · unfold P_DReadDisk
    rw [show P_DExpectWord 1000 M = _ from a0, bnd_s, a1, bnd_s, lett_e]
    dsimp only
    rw [show P_DExpectWord 1001 (sI M1 7 0 v) = _ from b1, bnd_s, b2, bnd_s, lett_e]
    dsimp only
    rw [show P_DExpectWord 1002 (sI M3 7 1 v') = _ from c1, bnd_s, c2, bnd_s, lett_e]
    dsimp only
    rw [d1, bnd_s]
  · rw [d4.i q1, c5.1 _ _ q1 (by omega), b5.1 _ _ q1 (by omega), a4.1 _ _ q1 (by omega)]
  · rw [d4.2, c5.2, b5.2, a4.2]
  · rw [d5.i q1, c7.1 _ _ q1 (by omega), b7.1 _ _ q1 (by omega), a5.1 _ _ q1 (by omega)]
  · rw [d5.2, c7.2, b7.2, a5.2]
  · obtain ⟨e1, e2, m2, e3, e4, e5, e6⟩ := c8 (d6 e).1
    obtain ⟨f1, f2, m1, f3, f4, f5, f6⟩ := b8 e1
    obtain ⟨g1, g2, m0, g3, g4, g5, g6⟩ := a6 f1
    have o2 := isR_of e4 e3 e5 e6 (a := 1) (b := 64) rfl rfl (by omega) (by omega)
    have o1 := isR_of f4 f3 f5 f6 (a := 1) (b := 500) rfl rfl (by omega) (by omega)
    have o0 := isR_of g4 g3 g5 g6 (a := 64) (b := 9999) rfl rfl (by omega) (by omega)
    have x2 : gI M6 7 2 = v2 := (d4.i (by omega)).trans (gw_s _ _ _ _)
    have x1 : gI M6 7 1 = v' := (d4.i (by omega)).trans ((c5.1 _ _ (by omega) (by omega)).trans (gw_s _ _ _ _))
    have x0 : gI M6 7 0 = v := (d4.i (by omega)).trans (((c5.1 _ _ (by omega) (by omega)).trans (b5.1 _ _ (by omega) (by omega))).trans (gw_s _ _ _ _))
    have y2 : gI R6 0 22 = w2 := (d5.i (by omega)).trans (gw_s _ _ _ _)
    have y1 : gI R6 0 21 = w' := (d5.i (by omega)).trans ((c7.1 _ _ (by omega) (by omega)).trans (gw_s _ _ _ _))
    have y0 : gI R6 0 20 = w := (d5.i (by omega)).trans (((c7.1 _ _ (by omega) (by omega)).trans (b7.1 _ _ (by omega) (by omega))).trans (gw_s _ _ _ _))
    rw [x0, x1, x2, y0, y1, y2]
    exact ⟨g1, ⟨g2, m0, o0.1, by omega, g2.symm.trans g4⟩, ⟨f2, m1, o1.1, by omega, f2.symm.trans f4⟩, e2, m2, o2.1, by omega, e2.symm.trans e4⟩
end SETS
