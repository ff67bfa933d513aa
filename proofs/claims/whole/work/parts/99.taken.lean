/-! PURE: take -/
theorem sI_comm (M : Mm) {a k a' k' : Nat} (v w : Int32) (h : a ≠ a' ∨ k ≠ k') : sI (sI M a k v) a' k' w = sI (sI M a' k' w) a k v := by
  refine Prod.ext (funext fun x => funext fun y => ?_) rfl
  show gI (sI (sI M a k v) a' k' w) x y = gI (sI (sI M a' k' w) a k v) x y
  rw [gI_sI, gI_sI, gI_sI, gI_sI]
  by_cases e1 : x = a' ∧ y = k'
  · rw [if_pos e1, if_neg (by omega), if_pos e1]
  · rw [if_neg e1, if_neg e1]
section TAKEN
variable {n P Q : Nat} {C R : Mm}
/-- the class does as the image tells -/
theorem apply_C {B : Nat → Int32} {l : Nat} (hl : gI C 19 1 = nI l) (hb : l = 3 + 2 * n) (hn : n ≤ 6) (hB : ∀ i, i < l → gI C 20 i = B i) (hO : ∀ p, p < n → isN 2 (B (3 + 2 * p))) : ∃ C2, C_IApply (nI n) C = some C2 ∧ gI C2 26 16 = B 0 ∧ gI C2 26 17 = B 1 ∧ (∀ p, p < n → gI C2 (34 + 2 * p) 0 = B (2 + 2 * p) ∧ gI C2 (34 + 2 * p) 1 = B (3 + 2 * p)) ∧ (∀ a k, ¬ (a = 26 ∧ (k = 16 ∨ k = 17)) → ¬ (34 ≤ a ∧ a < 46 ∧ a % 2 = 0 ∧ k ≤ 1) → gI C2 a k = gI C a k) ∧ C2.2 = C.2 := by
  obtain ⟨g, g0, gI', gS⟩ := seqN (α := Mm) (fun i x => gI x 26 16 = B 0 ∧ gI x 26 17 = B 1 ∧ (∀ p, p < i → gI x (34 + 2 * p) 0 = B (2 + 2 * p) ∧ gI x (34 + 2 * p) 1 = B (3 + 2 * p)) ∧ (∀ a k, ¬ (a = 26 ∧ (k = 16 ∨ k = 17)) → ¬ (34 ≤ a ∧ a < 46 ∧ a % 2 = 0 ∧ k ≤ 1) → gI x a k = gI C a k) ∧ x.2 = C.2) (fun i x y => y = sI (sI x (34 + 2 * i) 0 (B (2 + 2 * i))) (34 + 2 * i) 1 (B (3 + 2 * i))) (a := sI (sI C 26 16 (B 0)) 26 17 (B 1)) ⟨by rw [gw_n _ _ _ _ (by omega), gw_s], gw_s _ _ _ _, fun p hp => absurd hp (by omega), fun a k h1 h2 => by rw [gw_n _ _ _ _ (by omega), gw_n _ _ _ _ (by omega)], rfl⟩ n (fun i x hi hI => by
    obtain ⟨i1, i2, i3, i4, i5⟩ := hI
    refine ⟨_, rfl, ?_, ?_, fun p hp => ?_, fun a k h1 h2 => ?_, i5⟩
    · rw [gw_n _ _ _ _ (by omega), gw_n _ _ _ _ (by omega)]; exact i1
    · rw [gw_n _ _ _ _ (by omega), gw_n _ _ _ _ (by omega)]; exact i2
    · by_cases e : p = i
      · subst e
        exact ⟨by rw [gw_n _ _ _ _ (by omega), gw_s], gw_s _ _ _ _⟩
      · rw [gw_n _ _ _ _ (by omega), gw_n _ _ _ _ (by omega), gw_n _ _ _ _ (by omega), gw_n _ _ _ _ (by omega)]
        exact i3 p (by omega)
    · rw [gw_n _ _ _ _ (by omega), gw_n _ _ _ _ (by omega)]
      exact i4 a k h1 h2)
  obtain ⟨A1, A2, A3, A4, A5⟩ := gI' n (Nat.le_refl _)
  refine ⟨g n, ?_, A1, A2, A3, A4, A5⟩
  have t0 : C_TByteAt 0 C = some (B 0) := (C_TB_m (i := 0) hl (by omega) (by omega)).trans (congrArg some (hB 0 (by omega)))
  have t1 : C_TByteAt 1 (sI C 26 16 (B 0)) = some (B 1) := by
    have := C_TB_m (M := sI C 26 16 (B 0)) (i := 1) ((gw_n _ _ _ _ (by omega)).trans hl) (by omega) (by omega)
    rw [gw_n _ _ _ _ (by omega), hB 1 (by omega)] at this
    exact this
  unfold C_IApply
  rw [t0, bnd_s, lett_e, t1, bnd_s, lett_e, lett_e]
  refine loopR_sq (fun i => (nI i, g i)) n (by omega) (by rw [g0]; rfl) (fun i hi rec => ?_) (fun rec => ?_)
  · obtain ⟨-, -, -, B4, -⟩ := gI' i (by omega)
    have s1 := gS i hi
    have q19 : gI (g i) 19 1 = nI l := (B4 _ _ (by omega) (by omega)).trans hl
    have q20 : ∀ x, x < l → gI (g i) 20 x = B x := fun x hx => (B4 _ _ (by omega) (by omega)).trans (hB x hx)
    have e2 : C_TByteAt ((2 : Int32) + ((2 : Int32) * nI i)) (g i) = some (B (2 + 2 * i)) := by
      rw [show (2 : Int32) = nI 2 from rfl, pk_mul, nI_add, C_TB_m q19 (by omega) (by omega), q20 _ (by omega)]
    have e3 : C_TByteAt ((3 : Int32) + ((2 : Int32) * nI i)) (sI (g i) (34 + 2 * i) 0 (B (2 + 2 * i))) = some (B (3 + 2 * i)) := by
      rw [show (2 : Int32) = nI 2 from rfl, show (3 : Int32) = nI 3 from rfl, pk_mul, nI_add, C_TB_m ((gw_n _ _ _ _ (by omega)).trans q19) (by omega) (by omega), gw_n _ _ _ _ (by omega), q20 _ (by omega)]
    dsimp only
    rw [if_neg (nI_ge hi (by omega)), ald_n (by omega) (by omega), e2, bnd_s, ix_nI (by omega), lett_e, ald_n (by omega) (by omega), e3, bnd_s, lett_e, s1]
    rcases n2_01 (hO i hi) with e | e
    · rw [if_neg (by rw [e]; decide), e]
      simp only [lett_e, nA_1]
      exact grd_t (Or.inl trivial) _
    · rw [if_pos e, e]
      simp only [lett_e, nA_1]
      exact grd_t (Or.inr trivial) _
  · dsimp only
    rw [if_pos (nI_le (Nat.le_refl _) (by omega))]
/-- the reference: weights, which are on, idle, slice put -/
theorem puts_R {X : Mm} {D0 : Nat → Int32} {B fr : Nat → Int32} (hn : n ≤ 6) (h : Bg n (gI X 0 6) ((gI X 0 5 + gI X 0 6) / 2) fr D0) (hw : ∀ p, p < n → isR 1 101 (B (2 + 2 * p)) ∧ isN 2 (B (3 + 2 * p))) (h6 : isN 21 (B 0)) (h7 : isR 1 201 (B 1)) : ∃ g : Nat → (Nat → Int32), g 0 = updD (updD D0 6 (B 0)) 7 (B 1) ∧ (∀ i, i < n → g (i + 1) = updD (updD (g i) (18 + 14 * i + 0) (B (2 + 2 * i))) (18 + 14 * i + 8) (B (3 + 2 * i))) ∧ Ini X n (g n) ∧ g n 6 = B 0 ∧ g n 7 = B 1 ∧ ∀ p, p < n → g n (18 + 14 * p + 0) = B (2 + 2 * p) ∧ g n (18 + 14 * p + 8) = B (3 + 2 * p) ∧ g n (18 + 14 * p + 1) = fr p := by
  obtain ⟨b2, b8, bp, bz⟩ := h
  obtain ⟨g, g0, gI', gS⟩ := seqN (α := Nat → Int32) (fun i D => D 6 = B 0 ∧ D 7 = B 1 ∧ (∀ p, p < i → D (18 + 14 * p + 0) = B (2 + 2 * p) ∧ D (18 + 14 * p + 8) = B (3 + 2 * p)) ∧ ∀ j, j ≠ 6 → j ≠ 7 → (∀ p, p < i → j ≠ 18 + 14 * p + 0 ∧ j ≠ 18 + 14 * p + 8) → D j = D0 j) (fun i D D' => D' = updD (updD D (18 + 14 * i + 0) (B (2 + 2 * i))) (18 + 14 * i + 8) (B (3 + 2 * i))) (a := updD (updD D0 6 (B 0)) 7 (B 1)) ⟨by rw [updD_n _ _ (by omega), updD_s], updD_s _ _ _, fun p hp => absurd hp (by omega), fun j h1 h2 _ => by rw [updD_n _ _ h2, updD_n _ _ h1]⟩ n (fun i D hi hI => by
    obtain ⟨i1, i2, i3, i4⟩ := hI
    refine ⟨_, rfl, ?_, ?_, fun p hp => ?_, fun j h1 h2 h3 => ?_⟩
    · rw [updD_n _ _ (by omega), updD_n _ _ (by omega)]; exact i1
    · rw [updD_n _ _ (by omega), updD_n _ _ (by omega)]; exact i2
    · by_cases e : p = i
      · subst e
        exact ⟨by rw [updD_n _ _ (by omega), updD_s], updD_s _ _ _⟩
      · rw [updD_n _ _ (by omega), updD_n _ _ (by omega), updD_n _ _ (by omega), updD_n _ _ (by omega)]
        exact i3 p (by omega)
    · have h4 := h3 i (by omega)
      rw [updD_n _ _ h4.2, updD_n _ _ h4.1]
      exact i4 j h1 h2 (fun p hp => h3 p (by omega)))
  obtain ⟨A1, A2, A3, A4⟩ := gI' n (Nat.le_refl _)
  have s : ∀ p k, p < n → k < 14 → k ≠ 0 → k ≠ 8 → g n (18 + 14 * p + k) = D0 (18 + 14 * p + k) := fun p k hp hk a1 a2 => A4 _ (by omega) (by omega) (fun q hq => ⟨by omega, by omega⟩)
  refine ⟨g, g0, gS, ⟨?_, ?_, ?_, ?_, fun p hp => ?_, fun j h1 h2 h3 h4 h5 => ?_⟩, A1, A2, fun p hp => ⟨(A3 p hp).1, (A3 p hp).2, (s p 1 hp (by omega) (by omega) (by omega)).trans (bp p hp).1⟩⟩
  · rw [A4 2 (by omega) (by omega) (fun q hq => ⟨by omega, by omega⟩)]; exact b2
  · rw [A1]; exact h6
  · rw [A2]; exact h7
  · rw [A4 8 (by omega) (by omega) (fun q hq => ⟨by omega, by omega⟩)]; exact b8
  · obtain ⟨j1, j2, j3⟩ := bp p hp
    rw [(A3 p hp).1, (A3 p hp).2, s p 6 hp (by omega) (by omega) (by omega), j2, A4 (102 + 8 * p + 0) (by omega) (by omega) (fun q hq => ⟨by omega, by omega⟩), j3]
    exact ⟨(hw p hp).1, rfl, (hw p hp).2, rfl⟩
  · rw [A4 j h2 h3 (fun p hp => ⟨(h5 p hp).1, (h5 p hp).2.2.2.1⟩)]
    exact bz j h1 h4 (fun p hp => ⟨(h5 p hp).2.1, (h5 p hp).2.2.1, (h5 p hp).2.2.2.2⟩)
theorem take_sim (h : Rl n P Q C R) : ∃ a C' R', C_take C = some (a, C') ∧ R_take R = some (a, R') ∧ Rl n P Q C' R' := by
  have hB : BB 0 := Or.inl rfl
  obtain ⟨c1, c2, c3⟩ := h.cnt
  have hsh := shC_P h.PQ
  have hPl := h.1.le
  obtain ⟨l, l1, t2, t3, t4⟩ := h.2.1
  have tk : R_taken R = some (nI l, sI R 0 39 0) := by
    unfold R_taken
    rw [lett_e, lett_e, t3]
  have hX : ∀ a k, ¬ (a = 0 ∧ k = 39) → gI (sI R 0 39 0) a k = gI R a k := fun a k e => gw_n _ _ _ _ (by omega)
  -- refused
  have rf : Rl n P Q (sI (sI C 72 5 (gI C 72 5 + 1)) 19 1 0) (sI (sI R 0 39 0) 14 5 (gI (sI R 0 39 0) 14 5 + 1)) := by
    have := h.taken.ref 5
    rw [gw_n _ _ _ _ (by omega), sI_comm _ _ _ (by omega)] at this
    exact this
  have rR : R_isImage (nI l) (sI R 0 39 0) = some 0 → R_take R = some (0, sI (sI R 0 39 0) 14 5 (gI (sI R 0 39 0) 14 5 + 1)) := fun e => by
    unfold R_take
    rw [tk, bnd_s, lett_e]
    dsimp only
    rw [e, bnd_s, if_pos rfl, R_isr_5, bnd_s]
    exact grd_t (Or.inl rfl) _
  have rC : ∀ {ρ : Type} (f : Int32 × Mm → Option ρ), (bnd (C_refuse 5 C) fun r6 => f r6) = f (-1, sI C 72 5 (gI C 72 5 + 1)) := fun f => by rw [C_ref_5]; rfl
  rcases h.hd with ⟨h8, g1, g2⟩ | ⟨h8, g1, g2⟩
  · refine ⟨0, _, _, ?_, rR ?_, rf⟩
    · unfold C_take
      rw [g1, bnd_s, lett_e, lett_e, if_pos rfl]
      simp only [lett_e]
      rw [if_pos trivial, rC]
      exact grd_t (Or.inl trivial) _
    · unfold R_isImage
      rw [hX _ _ (by omega), g2, if_pos rfl]
  · have iR := isOne_R (X := sI R 0 39 0) (fun k => hX _ _ (by omega)) ((hX _ _ (by omega)).trans g2) ((hX _ _ (by omega)).trans c2) l1 c3 (fun i hi => (t4 i hi).1)
    rcases isOne_C t2 l1 c3 t4 with ⟨q, e⟩ | ⟨q, e⟩
    · obtain ⟨lb, ldg, o1, o2, o3⟩ := q
      have ii := iR.1 ⟨lb, ldg, o1, o2, o3⟩
      have h8' := h8
      obtain ⟨d0, ⟨s, t, c, ht, hS⟩, hnm, hfr⟩ := h8'
      -- the class
      obtain ⟨C1, k1, kP, kQ, ⟨k29, k32, k11, k15, k16, k17, kz, kf8, kf9⟩, kr, kI, kF, kL, kR⟩ := begin_C h.PQ C
      have C1r : gR C1 0 0 = some P := (kR _ _ (by omega)).trans h.p0
      have C1n : gI C1 P 11 = nI n := (kI _ _ (by omega)).trans c1
      obtain ⟨C2, a1, a16, a17, aP, aI, a2⟩ := apply_C (C := C1) (B := gI R 13) ((kI _ _ (by omega)).trans t2) lb c3 (fun i hi => (kI _ _ (by omega)).trans (t4 i hi).2) (fun p hp => (o3 p hp).2)
      have aF : ∀ a k, gF C2 a k = gF C1 a k := fun a k => by show C2.2.1 a k = C1.2.1 a k; rw [a2]
      have aL : ∀ a k, gL C2 a k = gL C1 a k := fun a k => by show C2.2.2.1 a k = C1.2.2.1 a k; rw [a2]
      have aR : ∀ a k, gR C2 a k = gR C1 a k := fun a k => by show C2.2.2.2 a k = C1.2.2.2 a k; rw [a2]
      -- the reference
      obtain ⟨D0, b1, b2⟩ := begins_m (R := sI R 0 39 0) ((hX _ _ (by omega)).trans c2) c3
      obtain ⟨g, g0, gS, gN, g6, g7, gP⟩ := puts_R (X := sI R 0 39 0) (B := gI R 13) c3 b2 (fun p hp => o3 p hp) o1 o2
      obtain ⟨F, hF⟩ : ∃ F, F = updD (fun _ => FP.fconst0) 19 (FP.i2f (gI (sI R 0 39 0) 0 4)) := ⟨_, rfl⟩
      have m13 : ∀ D k, gI (mkR (sI R 0 39 0) 0 D F) 13 k = gI R 13 k := fun D k => (mkR_o _ _ _ _ (by omega) (by omega)).trans (hX _ _ (by omega))
      have m1 : ∀ D, gI (mkR (sI R 0 39 0) 0 D F) 0 1 = nI n := fun D => (mkR_o _ _ _ _ (by omega) (by omega)).trans ((hX _ _ (by omega)).trans c2)
      have rr : R_take R = some (1, sI (mkR (sI R 0 39 0) 0 (g n) F) 0 55 0) := by
        unfold R_take
        rw [tk, bnd_s, lett_e]
        dsimp only
        rw [ii, bnd_s, if_neg i10, b1, bnd_s, ← hF, show (ald (0 : Int32) 1600 : Option (Int32 × Mm) → Option (Int32 × Mm)) = ald (nI 0) 1600 from rfl, ald_n (by omega) (by omega), show ix (0 : Int32) = 0 from rfl, m13, R_puts_k6 hB, bnd_s, show (ald (1 : Int32) 1600 : Option (Int32 × Mm) → Option (Int32 × Mm)) = ald (nI 1) 1600 from rfl, ald_n (by omega) (by omega), show ix (1 : Int32) = 1 from rfl, m13, R_puts_k7 hB, bnd_s, lett_e, lett_e]
        refine loopR_sq (fun i => (nI i, mkR (sI R 0 39 0) 0 (g i) F)) n (by omega) (by rw [g0]; rfl) (fun i hi rec => ?_) (fun rec => ?_)
        · dsimp only
          rw [m1, if_neg (nI_ge hi (by omega)), show (2 : Int32) = nI 2 from rfl, pk_mul, nI_add, ald_n (by omega) (by omega), ix_nI (by omega), m13, rs_0 hB (by omega), bnd_s, show (3 : Int32) = nI 3 from rfl, nI_add, ald_n (by omega) (by omega), ix_nI (by omega), m13, rs_8 hB (by omega), bnd_s, lett_e, nA_1, gS i hi]
        · dsimp only
          rw [m1, if_pos (nI_le (Nat.le_refl _) (by omega)), lett_e]
      refine ⟨1, sI (sI C2 0 8 0) 19 1 0, _, ?_, rr, ?_⟩
      · unfold C_take
        rw [g1, bnd_s, lett_e, lett_e, if_neg i10, lett_e, h.p0, nn_s, grd_t hsh, c1, e, bnd_s, if_neg i10]
        simp only [lett_e]
        rw [if_neg i10, nn_s, grd_t hsh, k1, bnd_s, C1r, nn_s, grd_t hsh, C1n, a1, bnd_s]
        exact grd_t (Or.inr trivial) _
      · -- together
        have cI : ∀ a k, a < 26 ∨ 46 ≤ a → ¬ (a = 0 ∧ k = 8) → ¬ (a = 19 ∧ k = 1) → gI (sI (sI C2 0 8 0) 19 1 0) a k = gI C a k := fun a k e1 e2 e3 => by
          rw [gw_n _ _ _ _ (by omega), gw_n _ _ _ _ (by omega), aI _ _ (by omega) (by omega)]
          exact kI a k e1
        have cS : ∀ a k, 26 ≤ a → gI (sI (sI C2 0 8 0) 19 1 0) a k = gI C2 a k := fun a k e1 => by
          rw [gw_n _ _ _ _ (by omega), gw_n _ _ _ _ (by omega)]
        have cRR : ∀ a k, gR (sI (sI C2 0 8 0) 19 1 0) a k = gR C a k := fun a k => by
          show gR C2 a k = _
          rw [aR]
          by_cases e : a = 26 ∧ k = 0
          · rw [e.1, e.2, kr]; exact h.1.2.2.2.1.symm
          · exact kR a k e
        have cFF : ∀ a k, a < 26 ∨ 46 ≤ a → gF (sI (sI C2 0 8 0) 19 1 0) a k = gF C a k := fun a k e => (aF a k).trans (kF a k e)
        have cL : ∀ a k, gL (sI (sI C2 0 8 0) 19 1 0) a k = gL C a k := fun a k => (aL a k).trans (kL a k)
        have rI : ∀ a k, a ≠ 16 → ¬ (a = 0 ∧ (k = 39 ∨ k = 53 ∨ k = 54 ∨ k = 55)) → gI (sI (mkR (sI R 0 39 0) 0 (g n) F) 0 55 0) a k = gI R a k := fun a k e1 e2 => by
          rw [gw_n _ _ _ _ (by omega), mkR_o _ _ _ _ e1 (by omega), hX _ _ (by omega)]
        have rF : ∀ a k, a ≠ 17 → gF (sI (mkR (sI R 0 39 0) 0 (g n) F) 0 55 0) a k = gF R a k := fun a k e => by
          show (if a = 17 ∧ pB 0 ≤ k ∧ k < pB 0 + 20 then F (k - pB 0) else R.2.1 a k) = R.2.1 a k
          rw [if_neg (by omega)]
        have e16 : ∀ j, j < 758 → gI (sI (mkR (sI R 0 39 0) 0 (g n) F) 0 55 0) 16 j = g n j := fun j hj => by
          have := mkR_16 (sI R 0 39 0) 0 (g n) F hj
          rw [Nat.zero_add] at this
          rw [gw_n _ _ _ _ (by omega)]
          exact this
        have e17 : ∀ j, j < 20 → gF (sI (mkR (sI R 0 39 0) 0 (g n) F) 0 55 0) 17 j = F j := fun j hj => by
          have := mkR_17 (sI R 0 39 0) 0 (g n) F hj
          rwa [show pB 0 + j = j from Nat.zero_add j] at this
        have sp1 : SP R (sI R 0 39 0) := SP.of (fun a k e => hX _ _ (by omega))
        have sp2 : SP (sI R 0 39 0) (sI (mkR (sI R 0 39 0) 0 (g n) F) 0 55 0) := SP.of (fun a k e => by rw [gw_n _ _ _ _ (by omega), mkR_o _ _ _ _ (by omega) (by omega)])
        obtain ⟨pe1, pe2, pe3, pe4, pe5, -⟩ := hS.L.1
        have plan : ∀ k, gI (sbM (emS 26 P) C) 20 k = gI C P k := fun k => by rw [sb_I, em_hi (by omega), show P + (20 - 20) = P by omega]
        have hS2 : StR (sI R 0 39 0) n s 0 0 (g n) F (sI (sI C2 0 8 0) 19 1 0) 26 P := by
          rw [hF]
          refine ini_StR (hS.K.sp sp1) ((hS.L.cgE (fun r k e1 e2 => ?_)).sp sp1) gN ?_ ?_ ?_ ?_ ?_ ?_ ?_ (fun k hk => ?_) (fun p hp => ?_) (fun p hp => ?_) ?_ ?_
          · have hP1 := h.PQ
            rw [sb_I, sb_I, em_hi e1]
            exact cI (P + (r - 20)) k (by omega) (by omega) (by omega)
          · exact (cRR _ _).trans h.1.2.2.2.1
          · rw [cS _ _ (by omega), aI _ _ (by omega) (by omega)]; exact k29
          · rw [cS _ _ (by omega), aI _ _ (by omega) (by omega)]; exact k32
          · rw [cS _ _ (by omega), aI _ _ (by omega) (by omega)]; exact k11
          · rw [cS _ _ (by omega), aI _ _ (by omega) (by omega), k15, ← plan, pe5, hX _ _ (by omega)]
          · rw [cS _ _ (by omega), a16, g6]
          · rw [cS _ _ (by omega), a17, g7]
          · rw [cS _ _ (by omega), aI _ _ (by omega) (by omega)]; exact kz k hk
          · obtain ⟨e1, e2⟩ := aP p hp
            obtain ⟨f1, f2, f3⟩ := gP p hp
            obtain ⟨u1, u2, u3, u4, u5⟩ := kP p (by omega)
            rw [cS _ _ (by omega), cS _ _ (by omega), cS _ _ (by omega), cS _ _ (by omega), e1, e2, f1, f2, f3, aI _ 2 (by omega) (by omega), aI _ 7 (by omega) (by omega), u3, u4, hfr p hp, hX _ _ (by omega)]
            exact ⟨rfl, rfl, rfl, rfl, fun k hk => by rw [cS _ _ (by omega), aI _ _ (by omega) (by omega)]; exact u5 k hk⟩
          · obtain ⟨u1, u2, u3⟩ := kQ p (by omega)
            rw [cS _ _ (by omega), aI _ _ (by omega) (by omega), u1, ← plan, ← plan, pe4, pe5, hX _ _ (by omega), hX _ _ (by omega)]
            exact ⟨rfl, fun k hk => by rw [cS _ _ (by omega), aI _ _ (by omega) (by omega)]; exact u2 k hk, fun k hk => (aF _ _).trans (u3 k hk)⟩
          · exact (aF _ _).trans kf8
          · refine (aF _ _).trans ?_
            rw [kf9, ← plan, pe3, hX _ _ (by omega)]
        obtain ⟨h1, h2, h3, h4, h5, h6, h7, -, u, pn, u1, u2, u3, u4, u5, u6⟩ := h
        refine ⟨h1.fr (fun a k e => cRR a k), ⟨0, by omega, gw_s _ _ _ _, ?_, fun i hi => absurd hi (by omega)⟩, h3.fr (fun a k e => cI a k (by omega) (by omega) (by omega)) (fun a k e => rI a k (by omega) (by omega)), h4.fr (fun a k e => cI a k (by omega) (by omega) (by omega)) (fun a k e => rI a k (by omega) (by omega)), h5.fr (cL _ _) (rI _ _ (by omega) (by omega)), h6.fr (fun a k e => cI a k (by omega) (by omega) (by omega)) (fun a k e => rI a k (by omega) (by omega)), h7.fr (fun a k e => cI a k (by omega) (by omega) (by omega)) (fun a k e => rI a k (by omega) (by omega)), Or.inr ⟨(rI _ _ (by omega) (by omega)).trans d0, ⟨s, 0, 0, by omega, hS2.fr sp2 e16 e17 (fun _ _ _ => rfl) (fun _ _ _ => rfl) rfl⟩, fun p k hp hk => ?_, fun p hp => ?_⟩, ⟨0, pn, by omega, u2, ?_, ?_, gw_s _ _ _ _, fun i hi => absurd hi (by omega)⟩⟩
        · rw [gw_n _ _ _ _ (by omega), mkR_o _ _ _ _ (by omega) (by omega), gw_s]; rfl
        · rw [cI _ _ (by omega) (by omega) (by omega), rI _ _ (by omega) (by omega)]; exact hnm p k hp hk
        · rw [cI _ _ (by omega) (by omega) (by omega), rI _ _ (by omega) (by omega)]; exact hfr p hp
        · rw [gw_n _ _ _ _ (by omega), gw_s]; rfl
        · rw [cI _ _ (by omega) (by omega) (by omega)]; exact u4
    · refine ⟨0, _, _, ?_, rR (iR.2 q), rf⟩
      unfold C_take
      rw [g1, bnd_s, lett_e, lett_e, if_neg i10, lett_e, h.p0, nn_s, grd_t hsh, c1, e, bnd_s, if_pos rfl]
      simp only [lett_e]
      rw [if_pos trivial, rC]
      exact grd_t (Or.inl trivial) _
end TAKEN
