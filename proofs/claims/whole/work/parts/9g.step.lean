/-! PURE: steps along the text -/
section STEP
variable {l T : Nat} {B : Nat → Nat} {M R M' R' : Mm}
theorem PFr.i {a i : Nat} (h : PFr M M') (q : ¬ (a = 0 ∧ (i = 6 ∨ i = 8 ∨ i = 9))) : gI M' a i = gI M a i := h.1 a i q
theorem RFr.i {a i : Nat} (h : RFr R R') (q : ¬ (a = 0 ∧ 44 ≤ i ∧ i ≤ 47)) : gI R' a i = gI R a i := h.1 a i q
theorem PFr.r {a i : Nat} (h : PFr M M') : gR M' a i = gR M a i := by show M'.2.2.2 a i = M.2.2.2 a i; rw [h.2]
/-- a word, a number: told -/
theorem exTold (h : Zt l B T M R) {j : Nat} (hj : j < 20) {p1 p2 q1 q2 : Int32} (hp : gI M 0 8 = 0 → p1 = q1 ∧ p2 = q2) : ∃ v w M1 M' R', P_DExpectWord (1000 + j) M = some M1 ∧ P_DExpectNumber p1 p2 M1 = some (v, M') ∧ R_told (nI j) q1 q2 R = some (w, R') ∧ Zt l B T M' R' ∧ PFr M M' ∧ PFr M M1 ∧ RFr R R' ∧ (gI M' 0 8 = 0 → gI M 0 8 = 0 ∧ v = w ∧ ∃ m, m ≤ 9999 ∧ v = nI m ∧ ¬ v < p1 ∧ v ≤ p2) := by
  obtain ⟨M1, R1, a1, a2, a3, a4, a5, a6⟩ := exWord h hj
  obtain ⟨v, w, M2, R2, b1, b2, b3, b4, b5, b6⟩ := exNum a3 (p1 := p1) (p2 := p2) (q1 := q1) (q2 := q2) (fun e => hp (a6 e).1)
  refine ⟨v, w, M1, M2, R2, a1, b1, ?_, b3, a4.tr b4, a4, a5.tr b5, fun e => ?_⟩
  · unfold R_told
    rw [a2, bnd_s, b2, bnd_s]
  · obtain ⟨c1, -, c3⟩ := b6 e
    exact ⟨(a6 c1).1, c3⟩
theorem le_min {s x : Nat} (hs : s < 10000) (hx : x ≤ 9999) (h : x < s) : mminI 64 (nI s - nI x) = nI (min 64 (s - x)) ∧ aLe 64 (nI s - nI x) = nI (min 64 (s - x)) := by
  rw [pk_sub (by omega)]
  exact ⟨mmin_n (a := 64) rfl (by omega) (by omega), min_nI (a := 64) (by omega) (by omega)⟩
/-- how much, and then -/
theorem step_tail (h : Zt l B T M R) {p j : Nat} (hp : p < 6) (hj : j < 6) (h19 : gI R 0 19 = nI p) (h10 : gI R 10 p = nI j) {av bv u x : Int32} (ho : gI M 0 8 = 0 → av = bv ∧ u = x) : ∃ M' R', (ald (nI p * 6 + nI j) 36 (lett (sI M 13 (ix (nI p * 6 + nI j)) av) fun M11 =>
 bnd (P_DExpectWord 1017 M11) fun M12 =>
 bnd (P_DExpectNumber (1 : Int32) u M12) fun r13 =>
 ald (nI p * 6 + nI j) 36 (lett (sI r13.2 14 (ix (nI p * 6 + nI j)) r13.1) fun M14 =>
 bnd (P_DExpectWord 1018 M14) fun M15 =>
 bnd (P_DExpectNumber (0 : Int32) (200 : Int32) M15) fun r16 =>
 ald (nI p * 6 + nI j) 36 (lett (sI r16.2 15 (ix (nI p * 6 + nI j)) r16.1) fun M17 =>
 some M17)))) = some M' ∧ (bnd (R_told (17 : Int32) (1 : Int32) x R) fun r12 =>
 lett r12.1 fun v13 =>
 bnd (R_told (18 : Int32) (0 : Int32) (200 : Int32) r12.2) fun r14 =>
 lett r14.1 fun v15 =>
 bnd (R_goes r14.2) fun r16 =>
 if r16 = 0 then
 (some r14.2)
 else
 (lett ((3 : Int32) * (((6 : Int32) * (gI r14.2 0 19)) + nI j)) fun v17 =>
 ald v17 108 (lett (sI r14.2 11 (ix v17) bv) fun M18 =>
 ald (v17 + (1 : Int32)) 108 (lett (sI M18 11 (ix (v17 + (1 : Int32))) v13) fun M19 =>
 ald (v17 + (2 : Int32)) 108 (lett (sI M19 11 (ix (v17 + (2 : Int32))) v15) fun M20 =>
 ald (gI M20 0 19) 6 (ald (gI M20 0 19) 6 (lett (sI M20 10 (ix (gI M20 0 19)) ((gI M20 10 (ix (gI M20 0 19))) + (1 : Int32))) fun M21 =>
 some M21))))))) = some R' ∧ Zt l B T M' R' ∧ (∀ a i, ¬ (a = 0 ∧ (i = 6 ∨ i = 8 ∨ i = 9)) → ¬ (13 ≤ a ∧ a ≤ 15 ∧ i = 6 * p + j) → gI M' a i = gI M a i) ∧ M'.2 = M.2 ∧ (∀ a i, ¬ (a = 0 ∧ 44 ≤ i ∧ i ≤ 47) → ¬ (a = 11 ∧ 3 * (6 * p + j) ≤ i ∧ i < 3 * (6 * p + j) + 3) → ¬ (a = 10 ∧ i = p) → gI R' a i = gI R a i) ∧ R'.2 = R.2 ∧ (gI M' 0 8 = 0 → gI M 0 8 = 0 ∧ gI R' 10 p = nI (j + 1) ∧ gI M' 13 (6 * p + j) = gI R' 11 (3 * (6 * p + j)) ∧ gI M' 14 (6 * p + j) = gI R' 11 (3 * (6 * p + j) + 1) ∧ gI M' 15 (6 * p + j) = gI R' 11 (3 * (6 * p + j) + 2) ∧ gI R' 11 (3 * (6 * p + j)) = bv ∧ (∃ m, m ≤ 9999 ∧ gI R' 11 (3 * (6 * p + j) + 1) = nI m ∧ ¬ nI m < 1 ∧ nI m ≤ u) ∧ ∃ m, m ≤ 9999 ∧ gI R' 11 (3 * (6 * p + j) + 2) = nI m ∧ nI m ≤ 200) := by
  have ev : nI p * 6 + nI j = nI (6 * p + j) := by rw [show (6 : Int32) = nI 6 from rfl, pk_mul, nI_add, show p * 6 + j = 6 * p + j by omega]
  rw [ev, ald_n (by omega) (by omega), ix_nI (by omega), lett_e]
  obtain ⟨X, hX⟩ : ∃ X, X = sI M 13 (6 * p + j) av := ⟨_, rfl⟩
  rw [← hX]
  have xI : ∀ a i, ¬ (a = 13 ∧ i = 6 * p + j) → gI X a i = gI M a i := fun a i q => by rw [hX]; exact gw_n _ _ _ _ (by omega)
  have zX : Zt l B T X R := h.fr (fun a i q => xI a i (by omega)) (fun i => by rw [hX]; rfl) (fun _ _ _ => rfl)
  obtain ⟨v1, w1, Y1, Y2, R2, a1, a2, a3, a4, a5, a6, a7, a8⟩ := exTold zX (j := 17) (by omega) (p1 := 1) (p2 := u) (q1 := 1) (q2 := x) (fun e => ⟨rfl, (ho ((xI _ _ (by omega)).symm.trans e)).2⟩)
  obtain ⟨W, hW⟩ : ∃ W, W = sI Y2 14 (6 * p + j) v1 := ⟨_, rfl⟩
  have wI : ∀ a i, ¬ (a = 14 ∧ i = 6 * p + j) → gI W a i = gI Y2 a i := fun a i q => by rw [hW]; exact gw_n _ _ _ _ (by omega)
  have zW : Zt l B T W R2 := a4.fr (fun a i q => wI a i (by omega)) (fun i => by rw [hW]; rfl) (fun _ _ _ => rfl)
  obtain ⟨v2, w2, Y3, Y4, R3, b1, b2, b3, b4, b5, b6, b7, b8⟩ := exTold zW (j := 18) (by omega) (p1 := 0) (p2 := 200) (q1 := 0) (q2 := 200) (fun _ => ⟨rfl, rfl⟩)
  have r19 : gI R3 0 19 = nI p := ((b7.i (by omega)).trans (a7.i (by omega))).trans h19
  have r10 : gI R3 10 p = nI j := ((b7.i (by omega)).trans (a7.i (by omega))).trans h10
  obtain ⟨V, hV⟩ : ∃ V, V = sI Y4 15 (6 * p + j) v2 := ⟨_, rfl⟩
  have vI : ∀ a i, ¬ (a = 15 ∧ i = 6 * p + j) → gI V a i = gI Y4 a i := fun a i q => by rw [hV]; exact gw_n _ _ _ _ (by omega)
  have v13 : gI V 13 (6 * p + j) = av := by rw [vI _ _ (by omega), b5.i (by omega), wI _ _ (by omega), a5.i (by omega), hX, gw_s]
  have v14 : gI V 14 (6 * p + j) = v1 := by rw [vI _ _ (by omega), b5.i (by omega), hW, gw_s]
  have v15 : gI V 15 (6 * p + j) = v2 := by rw [hV, gw_s]
  have vM : ∀ a i, ¬ (a = 0 ∧ (i = 6 ∨ i = 8 ∨ i = 9)) → ¬ (13 ≤ a ∧ a ≤ 15 ∧ i = 6 * p + j) → gI V a i = gI M a i := fun a i q1 q2 => by rw [vI _ _ (by omega), b5.i q1, wI _ _ (by omega), a5.i q1, xI _ _ (by omega)]
  have v2' : V.2 = M.2 := by
    rw [hV]
    show Y4.2 = M.2
    rw [b5.2, hW]
    show Y2.2 = M.2
    rw [a5.2, hX]
    rfl
  have cls : (bnd (P_DExpectWord 1017 X) fun M12 =>
 bnd (P_DExpectNumber (1 : Int32) u M12) fun r13 =>
 ald (nI (6 * p + j)) 36 (lett (sI r13.2 14 (6 * p + j) r13.1) fun M14 =>
 bnd (P_DExpectWord 1018 M14) fun M15 =>
 bnd (P_DExpectNumber (0 : Int32) (200 : Int32) M15) fun r16 =>
 ald (nI (6 * p + j)) 36 (lett (sI r16.2 15 (6 * p + j) r16.1) fun M17 =>
 some M17))) = some V := by
    rw [show P_DExpectWord 1017 X = _ from a1, bnd_s, a2, bnd_s, ald_n (by omega) (by omega), lett_e]
    dsimp only
    rw [← hW, show P_DExpectWord 1018 W = _ from b1, bnd_s, b2, bnd_s, ald_n (by omega) (by omega), lett_e]
    dsimp only
    rw [← hV]
  by_cases h8 : gI Y4 0 8 = 0
  · obtain ⟨c1, c2, m2, m2a, m2b, m2c, m2d⟩ := b8 h8
    obtain ⟨d1, d2, m1, m1a, m1b, m1c, m1d⟩ := a8 ((wI _ _ (by omega)).symm.trans c1)
    have h8M : gI M 0 8 = 0 := (xI _ _ (by omega)).symm.trans d1
    have r46 : gI R3 0 46 = 0 := b4.2.2.2.2.1.symm.trans h8
    obtain ⟨Z, hZ⟩ : ∃ Z, Z = sI (sI (sI (sI R3 11 (3 * (6 * p + j)) bv) 11 (3 * (6 * p + j) + 1) w1) 11 (3 * (6 * p + j) + 2) w2) 10 p (nI (j + 1)) := ⟨_, rfl⟩
    have zI : ∀ a i, ¬ (a = 11 ∧ 3 * (6 * p + j) ≤ i ∧ i < 3 * (6 * p + j) + 3) → ¬ (a = 10 ∧ i = p) → gI Z a i = gI R3 a i := fun a i q1 q2 => by rw [hZ, gw_n _ _ _ _ (by omega), gw_n _ _ _ _ (by omega), gw_n _ _ _ _ (by omega), gw_n _ _ _ _ (by omega)]
    have z0 : gI Z 11 (3 * (6 * p + j)) = bv := by rw [hZ, gw_n _ _ _ _ (by omega), gw_n _ _ _ _ (by omega), gw_n _ _ _ _ (by omega), gw_s]
    have z1 : gI Z 11 (3 * (6 * p + j) + 1) = w1 := by rw [hZ, gw_n _ _ _ _ (by omega), gw_n _ _ _ _ (by omega), gw_s]
    have z2 : gI Z 11 (3 * (6 * p + j) + 2) = w2 := by rw [hZ, gw_n _ _ _ _ (by omega), gw_s]
    refine ⟨V, Z, cls, ?_, b4.fr (fun a i q => vI a i (by omega)) (fun i => by rw [hV]; rfl) (fun a i q => zI a i (by omega) (by omega)), vM, v2', fun a i q1 q2 q3 => by rw [zI _ _ q2 q3, b7.i q1, a7.i q1], by rw [hZ]; exact b7.2.trans a7.2, fun _ => ⟨h8M, by rw [hZ, gw_s], ?_, ?_, ?_, z0, ⟨m1, m1a, by rw [z1, ← d2, m1b], by rw [← m1b]; exact m1c, by rw [← m1b]; exact m1d⟩, m2, m2a, by rw [z2, ← c2, m2b], by rw [← m2b]; exact m2d⟩⟩
    · rw [show R_told 17 1 x R = _ from a3, bnd_s, lett_e]
      dsimp only
      rw [show R_told 18 0 200 R2 = _ from b3, bnd_s, lett_e]
      dsimp only
      rw [goes_t r46, bnd_s, if_neg i10, r19, nM_6, nI_add, nM_3, lett_e, ald_n (by omega) (by omega), ix_nI (by omega), lett_e, nA_1, ald_n (by omega) (by omega), ix_nI (by omega), lett_e, nA_2, ald_n (by omega) (by omega), ix_nI (by omega), lett_e, gw_n _ _ _ _ (by omega), gw_n _ _ _ _ (by omega), gw_n _ _ _ _ (by omega), r19, ald_n (by omega) (by omega), ald_n (by omega) (by omega), ix_nI (by omega), gw_n _ _ _ _ (by omega), gw_n _ _ _ _ (by omega), gw_n _ _ _ _ (by omega), r10, nI_1, lett_e, ← hZ]
    · rw [v13, z0]; exact (ho h8M).1
    · rw [v14, z1]; exact d2
    · rw [v15, z2]; exact c2
  · have r46 : ¬ gI R3 0 46 = 0 := fun e => h8 (b4.2.2.2.2.1.trans e)
    refine ⟨V, R3, cls, ?_, b4.fr (fun a i q => vI a i (by omega)) (fun i => by rw [hV]; rfl) (fun _ _ _ => rfl), vM, v2', fun a i q1 _ _ => by rw [b7.i q1, a7.i q1], b7.2.trans a7.2, fun e => absurd ((vI _ _ (by omega)).symm.trans e) h8⟩
    rw [show R_told 17 1 x R = _ from a3, bnd_s, lett_e]
    dsimp only
    rw [show R_told 18 0 200 R2 = _ from b3, bnd_s, lett_e]
    dsimp only
    rw [goes_f r46, bnd_s, if_pos rfl]
theorem exStep (h : Zt l B T M R) (h8 : gI M 0 8 = 0) {p j s : Nat} (hp : p < 6) (hj : j ≤ 6) (h19 : gI R 0 19 = nI p) (h10 : gI R 10 p = nI j) (h9 : gI M 9 p = gI R 9 p) (h9' : gI R 9 p = 0 ∨ gI R 9 p = 1) (m70 : gI M 7 0 = nI s) (r20 : gI R 0 20 = nI s) (hs : 64 ≤ s ∧ s < 10000) : ∃ M' R', P_DReadStep (nI p) (nI j) M = some M' ∧ R_readsStep R = some R' ∧ Zt l B T M' R' ∧ (∀ a i, ¬ (a = 0 ∧ (i = 6 ∨ i = 8 ∨ i = 9)) → ¬ (j < 6 ∧ 13 ≤ a ∧ a ≤ 15 ∧ i = 6 * p + j) → gI M' a i = gI M a i) ∧ M'.2 = M.2 ∧ (∀ a i, ¬ (a = 0 ∧ 44 ≤ i ∧ i ≤ 47) → ¬ (j < 6 ∧ a = 11 ∧ 3 * (6 * p + j) ≤ i ∧ i < 3 * (6 * p + j) + 3) → ¬ (a = 10 ∧ i = p) → gI R' a i = gI R a i) ∧ R'.2 = R.2 ∧ (gI M' 0 8 = 0 → j < 6 ∧ gI R' 10 p = nI (j + 1) ∧ gI M' 13 (6 * p + j) = gI R' 11 (3 * (6 * p + j)) ∧ gI M' 14 (6 * p + j) = gI R' 11 (3 * (6 * p + j) + 1) ∧ gI M' 15 (6 * p + j) = gI R' 11 (3 * (6 * p + j) + 2) ∧ okStep s (gI R' 11 (3 * (6 * p + j))) (gI R' 11 (3 * (6 * p + j) + 1)) (gI R' 11 (3 * (6 * p + j) + 2))) := by
  obtain ⟨R1, k, st, k1, k2, s1, s2, w1, w2, w3, w4⟩ := word_R h h8
  have hT := h.2.1.1
  have l1 := h.1.1
  have ok := h.2.2.2.2.2.2 k (by omega)
  have o15 : okW (some 1015) = true := rfl
  have o16 : okW (some 1016) = true := rfl
  -- a fault f at the word
  have bad : ∀ (f : Int32) (R2 : Mm), ¬ f = 0 → P_DReadStep (nI p) (nI j) M = some (sI (sI M 0 8 f) 0 9 (nI st)) → R_readsStep R = some R2 → RFr R R2 → gI R2 0 46 = f → gI R2 0 47 = nI st → ∃ M' R', P_DReadStep (nI p) (nI j) M = some M' ∧ R_readsStep R = some R' ∧ Zt l B T M' R' ∧ (∀ a i, ¬ (a = 0 ∧ (i = 6 ∨ i = 8 ∨ i = 9)) → ¬ (j < 6 ∧ 13 ≤ a ∧ a ≤ 15 ∧ i = 6 * p + j) → gI M' a i = gI M a i) ∧ M'.2 = M.2 ∧ (∀ a i, ¬ (a = 0 ∧ 44 ≤ i ∧ i ≤ 47) → ¬ (j < 6 ∧ a = 11 ∧ 3 * (6 * p + j) ≤ i ∧ i < 3 * (6 * p + j) + 3) → ¬ (a = 10 ∧ i = p) → gI R' a i = gI R a i) ∧ R'.2 = R.2 ∧ (gI M' 0 8 = 0 → j < 6 ∧ gI R' 10 p = nI (j + 1) ∧ gI M' 13 (6 * p + j) = gI R' 11 (3 * (6 * p + j)) ∧ gI M' 14 (6 * p + j) = gI R' 11 (3 * (6 * p + j) + 1) ∧ gI M' 15 (6 * p + j) = gI R' 11 (3 * (6 * p + j) + 2) ∧ okStep s (gI R' 11 (3 * (6 * p + j))) (gI R' 11 (3 * (6 * p + j) + 1)) (gI R' 11 (3 * (6 * p + j) + 2))) := fun f R2 hf e1 e2 e3 e4 e5 => ⟨_, R2, e1, e2, h.fail (f := f) (p := nI st) hf PFr.fail e3 k1 (by rw [gw_n _ _ _ _ (by omega), gw_n _ _ _ _ (by omega)]; exact k2) (by rw [gw_n _ _ _ _ (by omega), gw_s]) (gw_s _ _ _ _) e4 e5, fun a i q1 _ => PFr.fail.1 a i q1, rfl, fun a i q1 _ _ => e3.1 a i q1, e3.2, fun e => absurd e (by rw [gw_n _ _ _ _ (by omega), gw_s]; exact hf)⟩
  have fl : ∀ f : Int32, (bnd (P_DFail f (nI st) M) fun M21 => some M21) = some (sI (sI M 0 8 f) 0 9 (nI st)) := fun f => by
    rw [fail_P _ _ h8]; rfl
  rcases w4 with ⟨n, n1, n2, n3, n4, n5, n6, n7, n8, n9⟩ | ⟨n1, n2, n3, n4, n5⟩
  · have r1_19 : gI R1 0 19 = nI p := (w2.i (by omega)).trans h19
    have r1_10 : gI R1 10 p = nI j := (w2.i (by omega)).trans h10
    have r1_9 : gI R1 9 p = gI R 9 p := w2.i (by omega)
    have fx : ∀ f : Int32, gI (sI (sI R1 0 46 f) 0 47 (nI st)) 0 46 = f := fun f => by rw [gw_n _ _ _ _ (by omega), gw_s]
    have badR : ∀ (f : Int32), ¬ f = 0 → P_DReadStep (nI p) (nI j) M = some (sI (sI M 0 8 f) 0 9 (nI st)) → R_readsStep R = some (sI (sI R1 0 46 f) 0 47 (nI st)) → _ := fun f hf e1 e2 => bad f _ hf e1 e2 (w2.tr RFr.fail) (fx f) (gw_s _ _ _ _)
    have y15 : ownI (gR M 4 k) = 15 ↔ gR M 4 k = some 1015 := ⟨fun e => ((ownI_j (j := 15) ok).mp ⟨e, by omega⟩).1, fun e => ((ownI_j (j := 15) ok).mpr ⟨e, by omega⟩).1⟩
    have y16 : ownI (gR M 4 k) = 16 ↔ gR M 4 k = some 1016 := ⟨fun e => ((ownI_j (j := 16) ok).mp ⟨e, by omega⟩).1, fun e => ((ownI_j (j := 16) ok).mpr ⟨e, by omega⟩).1⟩
    by_cases c15 : gR M 4 k = some 1015 ∨ gR M 4 k = some 1016
    · by_cases j6 : j = 6
      · refine badR 5 (by decide) ?_ ?_
        · unfold P_DReadStep
          rw [k2, ald_n (by omega) (by omega), lett_e, ix_nI (by omega), lett_e, grd_t ⟨ok, o15⟩, grd_t ⟨ok, o16⟩]
          have e : (if nI j < (6 : Int32) then (none : Option Mm) else some (sI (sI M 0 8 5) 0 9 (nI st))) = some (sI (sI M 0 8 5) 0 9 (nI st)) := if_neg (nlt_f 6 6 rfl (by omega) (by omega))
          rcases c15 with c | c
          · rw [if_pos c]
            dsimp only
            rw [if_neg (nlt_f 6 6 rfl (by omega) (by omega)), ald_n (by omega) (by omega), s1]
            exact fl 5
          · rw [if_neg (by rw [c]; simp), if_pos c]
            dsimp only
            rw [if_neg (nlt_f 6 6 rfl (by omega) (by omega)), ald_n (by omega) (by omega), s1]
            exact fl 5
        · unfold R_readsStep
          rw [w1, bnd_s, goes_t n6, bnd_s, if_neg i10, n8, bnd_s, lett_e, r1_19, ald_n (by omega) (by omega), lett_e, ix_nI (by omega), r1_10, w3, lett_e, lett_e]
          have fin : ∀ {g : Int32 → Option Mm}, (bnd (R_goes (sI (sI R1 0 46 5) 0 47 (nI st))) fun r7 => if r7 = 0 then some (sI (sI R1 0 46 5) 0 47 (nI st)) else g r7) = some (sI (sI R1 0 46 5) 0 47 (nI st)) := fun {g} => by rw [goes_f (by rw [fx]; decide), bnd_s, if_pos rfl]
          rcases c15 with c | c
          · rw [if_pos (y15.mpr c)]
            dsimp only
            rw [if_pos (by rw [j6]; rfl), fail_R _ _ n6, bnd_s]
            exact fin
          · rw [if_neg (fun e => by have := y15.mp e; rw [c] at this; simp at this), if_pos (y16.mpr c)]
            dsimp only
            rw [if_pos (by rw [j6]; rfl), fail_R _ _ n6, bnd_s]
            exact fin
      · by_cases c6 : gR M 4 k = some 1015 ∧ gI R 9 p = 1
        · refine badR 6 (by decide) ?_ ?_
          · unfold P_DReadStep
            rw [k2, ald_n (by omega) (by omega), lett_e, ix_nI (by omega), lett_e, grd_t ⟨ok, o15⟩, if_pos c6.1]
            dsimp only
            rw [if_pos (nlt_t 6 6 rfl (by omega) (by omega)), lett_e, grd_t ⟨ok, o15⟩, if_pos c6.1, ald_n (by omega) (by omega), ix_nI (by omega), h9, c6.2, if_neg i10, ald_n (by omega) (by omega), s1]
            exact fl 6
          · unfold R_readsStep
            rw [w1, bnd_s, goes_t n6, bnd_s, if_neg i10, n8, bnd_s, lett_e, r1_19, ald_n (by omega) (by omega), lett_e, ix_nI (by omega), r1_10, w3, lett_e, lett_e, if_pos (y15.mpr c6.1)]
            dsimp only
            rw [if_neg (neq_f 6 6 rfl j6 (by omega) (by omega)), if_pos (y15.mpr c6.1), ald_n (by omega) (by omega), r1_9, c6.2, if_pos rfl, fail_R _ _ n6, bnd_s, goes_f (by rw [fx]; decide), bnd_s, if_pos rfl]
        · -- a step
          have zM7 : Zt l B T (sI M 0 6 (nI k + 1)) R1 := h.go (PFr.w (by omega)) w2 (k := k + 1) (by omega) (by rw [gw_s, nI_1]) (fun _ => ⟨st + n, n5, n9⟩) (by rw [gw_n _ _ _ _ (by omega), n6]; exact h8) (by rw [gw_n _ _ _ _ (by omega), n7]; exact h.2.2.2.2.2.1)
          obtain ⟨M7, hM7⟩ : ∃ M7, M7 = sI M 0 6 (nI k + 1) := ⟨_, rfl⟩
          rw [← hM7] at zM7
          have f7 : PFr M M7 := by rw [hM7]; exact PFr.w (by omega)
          have m708 : gI M7 0 8 = 0 := by rw [hM7, gw_n _ _ _ _ (by omega)]; exact h8
          have xw : ∀ i, i < 20 → gR M 4 k = some (1000 + i) → P_DExpectWord (1000 + i) M = some M7 := fun i hi e => by
            unfold P_DExpectWord
            rw [if_pos h8, k2, ald_n (by omega) (by omega), lett_e, ix_nI (by omega), grd_t ⟨ok, okW_20 hi⟩, if_pos e, lett_e, hM7]
          have a70 : gI M7 7 0 = nI s := (f7.i (by omega)).trans m70
          have a20 : gI R1 0 20 = nI s := (w2.i (by omega)).trans r20
          -- the end of both
          have fin : ∀ (Ma Ra : Mm) (av bv u x : Int32), Zt l B T Ma Ra → PFr M Ma → RFr R Ra → (gI Ma 0 8 = 0 → av = bv ∧ u = x ∧ (bv = -1 ∨ ∃ y, bv = nI y ∧ y < s) ∧ (bv = -1 → u = 64) ∧ ∀ y, bv = nI y → y < s → u = nI (min 64 (s - y))) → (∀ r, (ald (nI p * 6 + nI j) 36 (lett (sI Ma 13 (ix (nI p * 6 + nI j)) av) fun M11 =>
 bnd (P_DExpectWord 1017 M11) fun M12 =>
 bnd (P_DExpectNumber (1 : Int32) u M12) fun r13 =>
 ald (nI p * 6 + nI j) 36 (lett (sI r13.2 14 (ix (nI p * 6 + nI j)) r13.1) fun M14 =>
 bnd (P_DExpectWord 1018 M14) fun M15 =>
 bnd (P_DExpectNumber (0 : Int32) (200 : Int32) M15) fun r16 =>
 ald (nI p * 6 + nI j) 36 (lett (sI r16.2 15 (ix (nI p * 6 + nI j)) r16.1) fun M17 =>
 some M17)))) = r → P_DReadStep (nI p) (nI j) M = r) → (∀ r, (bnd (R_told (17 : Int32) (1 : Int32) x Ra) fun r12 =>
 lett r12.1 fun v13 =>
 bnd (R_told (18 : Int32) (0 : Int32) (200 : Int32) r12.2) fun r14 =>
 lett r14.1 fun v15 =>
 bnd (R_goes r14.2) fun r16 =>
 if r16 = 0 then
 (some r14.2)
 else
 (lett ((3 : Int32) * (((6 : Int32) * (gI r14.2 0 19)) + nI j)) fun v17 =>
 ald v17 108 (lett (sI r14.2 11 (ix v17) bv) fun M18 =>
 ald (v17 + (1 : Int32)) 108 (lett (sI M18 11 (ix (v17 + (1 : Int32))) v13) fun M19 =>
 ald (v17 + (2 : Int32)) 108 (lett (sI M19 11 (ix (v17 + (2 : Int32))) v15) fun M20 =>
 ald (gI M20 0 19) 6 (ald (gI M20 0 19) 6 (lett (sI M20 10 (ix (gI M20 0 19)) ((gI M20 10 (ix (gI M20 0 19))) + (1 : Int32))) fun M21 =>
 some M21))))))) = r → R_readsStep R = r) → ∃ M' R', P_DReadStep (nI p) (nI j) M = some M' ∧ R_readsStep R = some R' ∧ Zt l B T M' R' ∧ (∀ a i, ¬ (a = 0 ∧ (i = 6 ∨ i = 8 ∨ i = 9)) → ¬ (j < 6 ∧ 13 ≤ a ∧ a ≤ 15 ∧ i = 6 * p + j) → gI M' a i = gI M a i) ∧ M'.2 = M.2 ∧ (∀ a i, ¬ (a = 0 ∧ 44 ≤ i ∧ i ≤ 47) → ¬ (j < 6 ∧ a = 11 ∧ 3 * (6 * p + j) ≤ i ∧ i < 3 * (6 * p + j) + 3) → ¬ (a = 10 ∧ i = p) → gI R' a i = gI R a i) ∧ R'.2 = R.2 ∧ (gI M' 0 8 = 0 → j < 6 ∧ gI R' 10 p = nI (j + 1) ∧ gI M' 13 (6 * p + j) = gI R' 11 (3 * (6 * p + j)) ∧ gI M' 14 (6 * p + j) = gI R' 11 (3 * (6 * p + j) + 1) ∧ gI M' 15 (6 * p + j) = gI R' 11 (3 * (6 * p + j) + 2) ∧ okStep s (gI R' 11 (3 * (6 * p + j))) (gI R' 11 (3 * (6 * p + j) + 1)) (gI R' 11 (3 * (6 * p + j) + 2))) := fun Ma Ra av bv u x zt fp fr hv cc rc => by
            obtain ⟨M', R', t1, t2, t3, t4, t5, t6, t7, t8⟩ := step_tail zt hp (show j < 6 by omega) ((fr.i (by omega)).trans h19) ((fr.i (by omega)).trans h10) (av := av) (bv := bv) (u := u) (x := x) (fun e => ⟨(hv e).1, (hv e).2.1⟩)
            refine ⟨M', R', cc _ t1, rc _ t2, t3, fun a i q1 q2 => (t4 a i q1 (by omega)).trans (fp.i q1), t5.trans fp.2, fun a i q1 q2 q3 => (t6 a i q1 (by omega) q3).trans (fr.i q1), t7.trans fr.2, fun e => ?_⟩
            obtain ⟨e8, e10, e13, e14, e15, eb, ⟨m1, x1, x2, x3, x4⟩, m2, y1, y2, y3⟩ := t8 e
            obtain ⟨g1, g2, g3, g4, g5⟩ := hv e8
            have b1 : 1 ≤ m1 := by
              rcases Nat.lt_or_ge m1 1 with q | q
              · exact absurd (nlt_t 1 1 rfl q (by omega)) x3
              · exact q
            have b2 : m2 ≤ 200 := by
              rcases Nat.lt_or_ge 200 m2 with q | q
              · exact absurd y3 (nle_f 200 200 rfl q (by omega))
              · exact q
            refine ⟨by omega, e10, e13, e14, e15, ?_⟩
            rw [eb, x2, y2]
            rcases g3 with g3 | ⟨y, g3, g6⟩
            · have b3 : m1 ≤ 64 := by
                rw [g4 g3] at x4
                rcases Nat.lt_or_ge 64 m1 with q | q
                · exact absurd x4 (nle_f 64 64 rfl q (by omega))
                · exact q
              exact ⟨Or.inl g3, ⟨m1, b1, by omega, rfl⟩, ⟨m2, by omega, rfl⟩⟩
            · have b3 : m1 ≤ min 64 (s - y) := by
                rw [g5 y g3 g6] at x4
                rcases Nat.lt_or_ge (min 64 (s - y)) m1 with q | q
                · exact absurd x4 (nI_ge q (by omega))
                · exact q
              exact ⟨Or.inr ⟨y, m1, g3, rfl, by omega⟩, ⟨m1, b1, by omega, rfl⟩, ⟨m2, by omega, rfl⟩⟩
          have cP : ∀ r c, gR M 4 k = some (1000 + c) → c = 15 ∨ c = 16 → (lett (fun (u_7 : Int32) (u_8 : Int32) (M_9 : Mm) =>
 ald (nI p * 6 + nI j) 36 (lett (sI M_9 13 (ix (nI p * 6 + nI j)) u_7) fun M11 =>
 bnd (P_DExpectWord 1017 M11) fun M12 =>
 bnd (P_DExpectNumber (1 : Int32) u_8 M12) fun r13 =>
 ald (nI p * 6 + nI j) 36 (lett (sI r13.2 14 (ix (nI p * 6 + nI j)) r13.1) fun M14 =>
 bnd (P_DExpectWord 1018 M14) fun M15 =>
 bnd (P_DExpectNumber (0 : Int32) (200 : Int32) M15) fun r16 =>
 ald (nI p * 6 + nI j) 36 (lett (sI r16.2 15 (ix (nI p * 6 + nI j)) r16.1) fun M17 =>
 some M17)))) fun j155 =>
 (if (some (1000 + c)) = (some 1015) then
 (bnd (P_DExpectNumber (0 : Int32) ((gI M7 7 0) - (1 : Int32)) M7) fun r18 =>
 lett r18.1 fun v19 =>
 lett (mminI (64 : Int32) ((gI r18.2 7 0) - v19)) fun v20 =>
 j155 v19 v20 r18.2)
 else
 (j155 (-1) 64 M7))) = r → P_DReadStep (nI p) (nI j) M = r := fun r c hc hc2 hr => by
            have isw : isW (1000 + c) := by
              rcases hc2 with rfl | rfl <;> decide
            unfold P_DReadStep
            rw [k2, ald_n (by omega) (by omega), lett_e, ix_nI (by omega), lett_e, grd_t ⟨ok, o15⟩, grd_t ⟨ok, o16⟩]
            have z9 : gR M 4 k = some 1015 → gI M 9 p = 0 := fun e => by
              rw [h9]
              rcases h9' with q | q
              · exact q
              · exact absurd ⟨e, q⟩ c6
            have mid : (if nI j < (6 : Int32) then
 (lett (fun (_ : Unit) =>
 lett ((nI p * (6 : Int32)) + nI j) fun v2 =>
 lett (-1 : Int32) fun v3 =>
 lett (64 : Int32) fun v4 =>
 nn (gR M 4 k) fun c5 => grd (isW c5) (bnd (P_DExpectWord c5 M) fun M7 =>
 lett (fun (u_7 : Int32) (u_8 : Int32) (M_9 : Mm) =>
 ald v2 36 (lett (sI M_9 13 (ix v2) u_7) fun M11 =>
 bnd (P_DExpectWord 1017 M11) fun M12 =>
 bnd (P_DExpectNumber (1 : Int32) u_8 M12) fun r13 =>
 ald v2 36 (lett (sI r13.2 14 (ix v2) r13.1) fun M14 =>
 bnd (P_DExpectWord 1018 M14) fun M15 =>
 bnd (P_DExpectNumber (0 : Int32) (200 : Int32) M15) fun r16 =>
 ald v2 36 (lett (sI r16.2 15 (ix v2) r16.1) fun M17 =>
 some M17)))) fun j155 =>
 grd (okW (some c5) = true ∧ okW (some 1015) = true) (if (some c5) = (some 1015) then
 (bnd (P_DExpectNumber (0 : Int32) ((gI M7 7 0) - (1 : Int32)) M7) fun r18 =>
 lett r18.1 fun v19 =>
 lett (mminI (64 : Int32) ((gI r18.2 7 0) - v19)) fun v20 =>
 j155 v19 v20 r18.2)
 else
 (j155 v3 v4 M7)))) fun j95 =>
 grd (okW (gR M 4 k) = true ∧ okW (some 1015) = true) (if (gR M 4 k) = (some 1015) then
 (ald (nI p) 6 (if (gI M 9 (ix (nI p))) = 0 then
 (j95 ())
 else
 (ald (nI k) 1601 (bnd (P_DFail (6 : Int32) (gI M 2 k) M) fun M21 =>
 some M21))))
 else
 (j95 ())))
 else
 (ald (nI k) 1601 (bnd (P_DFail (5 : Int32) (gI M 2 k) M) fun M22 =>
 some M22))) = r := by
              rw [if_pos (nlt_t 6 6 rfl (by omega) (by omega)), lett_e, grd_t ⟨ok, o15⟩]
              by_cases q : gR M 4 k = some 1015
              · rw [if_pos q, ald_n (by omega) (by omega), ix_nI (by omega), z9 q, if_pos rfl]
                dsimp only
                rw [lett_e, lett_e, lett_e, hc, nn_s, grd_t isw, xw c (by omega) hc, bnd_s, lett_e, grd_t ⟨okW_20 (by omega), o15⟩]
                rw [lett_e] at hr
                exact hr
              · rw [if_neg q]
                dsimp only
                rw [lett_e, lett_e, lett_e, hc, nn_s, grd_t isw, xw c (by omega) hc, bnd_s, lett_e, grd_t ⟨okW_20 (by omega), o15⟩]
                rw [lett_e] at hr
                exact hr
            rcases c15 with q | q
            · rw [if_pos q]
              exact mid
            · rw [if_neg (by rw [q]; simp), if_pos q]
              exact mid
          have cR : ∀ r, (lett (fun (w_7 : Int32) (M_8 : Mm) =>
 lett w_7 fun v10 =>
 lett (fun (w_10 : Int32) =>
 bnd (R_told (17 : Int32) (1 : Int32) w_10 M_8) fun r12 =>
 lett r12.1 fun v13 =>
 bnd (R_told (18 : Int32) (0 : Int32) (200 : Int32) r12.2) fun r14 =>
 lett r14.1 fun v15 =>
 bnd (R_goes r14.2) fun r16 =>
 if r16 = 0 then
 (some r14.2)
 else
 (lett ((3 : Int32) * (((6 : Int32) * (gI r14.2 0 19)) + nI j)) fun v17 =>
 ald v17 108 (lett (sI r14.2 11 (ix v17) v10) fun M18 =>
 ald (v17 + (1 : Int32)) 108 (lett (sI M18 11 (ix (v17 + (1 : Int32))) v13) fun M19 =>
 ald (v17 + (2 : Int32)) 108 (lett (sI M19 11 (ix (v17 + (2 : Int32))) v15) fun M20 =>
 ald (gI M20 0 19) 6 (ald (gI M20 0 19) 6 (lett (sI M20 10 (ix (gI M20 0 19)) ((gI M20 10 (ix (gI M20 0 19))) + (1 : Int32))) fun M21 =>
 some M21))))))) fun j153 =>
 if v10 = (-1 : Int32) then
 (j153 (64 : Int32))
 else
 (bnd (R_lesser (64 : Int32) ((gI M_8 0 20) - v10) M_8) fun r22 =>
 j153 r22)) fun j127 =>
 if ownI (gR M 4 k) = (15 : Int32) then
 (bnd (R_number (0 : Int32) ((gI R1 0 20) - (1 : Int32)) R1) fun r23 =>
 j127 r23.1 r23.2)
 else
 (j127 (-1 : Int32) R1)) = r → R_readsStep R = r := fun r hr => by
            unfold R_readsStep
            rw [w1, bnd_s, goes_t n6, bnd_s, if_neg i10, n8, bnd_s, lett_e, r1_19, ald_n (by omega) (by omega), lett_e, ix_nI (by omega), r1_10, w3, lett_e, lett_e]
            have go : (bnd (R_goes R1) fun r7 =>
 if r7 = 0 then
 (some R1)
 else
 (lett (fun (w_7 : Int32) (M_8 : Mm) =>
 lett w_7 fun v10 =>
 lett (fun (w_10 : Int32) =>
 bnd (R_told (17 : Int32) (1 : Int32) w_10 M_8) fun r12 =>
 lett r12.1 fun v13 =>
 bnd (R_told (18 : Int32) (0 : Int32) (200 : Int32) r12.2) fun r14 =>
 lett r14.1 fun v15 =>
 bnd (R_goes r14.2) fun r16 =>
 if r16 = 0 then
 (some r14.2)
 else
 (lett ((3 : Int32) * (((6 : Int32) * (gI r14.2 0 19)) + nI j)) fun v17 =>
 ald v17 108 (lett (sI r14.2 11 (ix v17) v10) fun M18 =>
 ald (v17 + (1 : Int32)) 108 (lett (sI M18 11 (ix (v17 + (1 : Int32))) v13) fun M19 =>
 ald (v17 + (2 : Int32)) 108 (lett (sI M19 11 (ix (v17 + (2 : Int32))) v15) fun M20 =>
 ald (gI M20 0 19) 6 (ald (gI M20 0 19) 6 (lett (sI M20 10 (ix (gI M20 0 19)) ((gI M20 10 (ix (gI M20 0 19))) + (1 : Int32))) fun M21 =>
 some M21))))))) fun j153 =>
 if v10 = (-1 : Int32) then
 (j153 (64 : Int32))
 else
 (bnd (R_lesser (64 : Int32) ((gI M_8 0 20) - v10) M_8) fun r22 =>
 j153 r22)) fun j127 =>
 if ownI (gR M 4 k) = (15 : Int32) then
 (bnd (R_number (0 : Int32) ((gI R1 0 20) - (1 : Int32)) R1) fun r23 =>
 j127 r23.1 r23.2)
 else
 (j127 (-1 : Int32) R1))) = r := by
              rw [goes_t n6, bnd_s, if_neg i10]
              exact hr
            have nj6 : ¬ nI j = 6 := neq_f 6 6 rfl j6 (by omega) (by omega)
            rcases c15 with q | q
            · have q9 : ¬ gI R1 9 p = 1 := fun e => c6 ⟨q, r1_9.symm.trans e⟩
              rw [if_pos (y15.mpr q)]
              dsimp only
              rw [if_neg nj6, if_pos (y15.mpr q), ald_n (by omega) (by omega), if_neg q9]
              exact go
            · have n15 : ¬ ownI (gR M 4 k) = 15 := fun e => by have := y15.mp e; rw [q] at this; simp at this
              rw [if_neg n15, if_pos (y16.mpr q)]
              dsimp only
              rw [if_neg nj6, if_neg n15]
              exact go
          rcases c15 with q | q
          · -- at
            obtain ⟨v, w, M8, R2, b1, b2, b3, b4, b5, b6⟩ := exNum zM7 (p1 := 0) (p2 := gI M7 7 0 - 1) (q1 := 0) (q2 := gI R1 0 20 - 1) (fun _ => ⟨rfl, by rw [a70, a20]⟩)
            have c70 : gI M8 7 0 = nI s := (b4.i (by omega)).trans a70
            have c20 : gI R2 0 20 = nI s := (b5.i (by omega)).trans a20
            obtain ⟨x, hx⟩ : ∃ x, x = if w = -1 then (64 : Int32) else aLe 64 (nI s - w) := ⟨_, rfl⟩
            refine fin M8 R2 v w (mminI 64 (nI s - v)) x b3 (f7.tr b4) (w2.tr b5) (fun e => ?_) (fun r hr => cP r 15 q (Or.inl rfl) ?_) (fun r hr => cR r ?_)
            · obtain ⟨-, -, d1, m, d2, d3, d4, d5⟩ := b6 e
              rw [d3, a70, nS_1 (by omega)] at d5
              have ms : m < s := by
                rcases Nat.lt_or_ge (s - 1) m with qq | qq
                · exact absurd d5 (nI_ge qq (by omega))
                · omega
              have wm : w = nI m := d1.symm.trans d3
              obtain ⟨l1', l2'⟩ := le_min hs.2 d2 ms
              refine ⟨d1, ?_, Or.inr ⟨m, wm, ms⟩, fun e1 => absurd (wm.symm.trans e1) (nI_m1 (by omega)), fun y e1 e2 => ?_⟩
              · rw [hx, wm, if_neg (nI_m1 (by omega)), d3, l1', l2']
              · have : y = m := (nI_eq (by omega) (by omega)).mp (e1.symm.trans wm)
                rw [d3, l1', this]
            · rw [lett_e, if_pos rfl, b1, bnd_s, lett_e, lett_e]
              dsimp only
              rw [c70]
              exact hr
            · rw [lett_e, if_pos (y15.mpr q), b2, bnd_s]
              dsimp only
              rw [lett_e, lett_e, c20]
              by_cases e1 : w = -1
              · rw [if_pos e1]
                rw [hx, if_pos e1] at hr
                exact hr
              · rw [if_neg e1, R_le_m, bnd_s]
                rw [hx, if_neg e1] at hr
                exact hr
          · -- on
            have n15 : ¬ ownI (gR M 4 k) = 15 := fun e => by have := y15.mp e; rw [q] at this; simp at this
            refine fin M7 R1 (-1) (-1) 64 64 zM7 f7 w2 (fun _ => ⟨rfl, rfl, Or.inl rfl, fun _ => rfl, fun y e1 e2 => absurd e1.symm (nI_m1 (by omega))⟩) (fun r hr => cP r 16 q (Or.inr rfl) ?_) (fun r hr => cR r ?_)
            · rw [lett_e, if_neg (by simp)]
              exact hr
            · rw [lett_e, if_neg n15]
              dsimp only
              rw [lett_e, lett_e, if_pos rfl]
              exact hr
    · refine badR 1 (by decide) ?_ ?_
      · unfold P_DReadStep
        rw [k2, ald_n (by omega) (by omega), lett_e, ix_nI (by omega), lett_e, grd_t ⟨ok, o15⟩, if_neg (fun e => c15 (Or.inl e)), grd_t ⟨ok, o16⟩, if_neg (fun e => c15 (Or.inr e)), ald_n (by omega) (by omega), s1]
        exact fl 1
      · unfold R_readsStep
        rw [w1, bnd_s, goes_t n6, bnd_s, if_neg i10, n8, bnd_s, lett_e, r1_19, ald_n (by omega) (by omega), lett_e, ix_nI (by omega), r1_10, w3, lett_e, lett_e, if_neg (fun e => c15 (Or.inl (y15.mp e))), if_neg (fun e => c15 (Or.inr (y16.mp e))), fail_R _ _ n6, bnd_s]
        dsimp only
        rw [goes_f (by rw [fx]; decide), bnd_s, if_pos rfl]
  · refine bad 1 R1 (by decide) ?_ ?_ w2 n3 n4
    · unfold P_DReadStep
      rw [k2, ald_n (by omega) (by omega), lett_e, ix_nI (by omega), lett_e, grd_t ⟨ok, o15⟩, if_neg (by rw [n1]; simp), grd_t ⟨ok, o16⟩, if_neg (by rw [n1]; simp), ald_n (by omega) (by omega), s1]
      exact fl 1
    · unfold R_readsStep
      rw [w1, bnd_s, goes_f (by rw [n3]; decide), bnd_s, if_pos rfl]
end STEP
