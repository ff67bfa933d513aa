/-! PURE: what there is -/
section READ
variable {n P Q : Nat} {C R : Mm}
theorem lo_i {a : Nat} (ha : a < 2 ^ 31) : (Int64.ofNat a).toInt32 = nI a := by
  refine Int32.toInt_inj.mp ?_
  rw [Int64.toInt_toInt32, Int64.toInt_ofNat_of_lt (by omega), nI_toInt ha, Int.bmod_eq_of_le (by omega) (by omega)]
theorem told_n {T : Nat} (hT : T < 2 ^ 31) : mminI (nI T) (40 : Int32) = nI (min T 40) := by
  rw [le_mm]
  unfold aLe
  by_cases h : T ≤ 40
  · rw [if_pos (nle_t 40 40 rfl h (by omega)), Nat.min_eq_left h]
  · rw [if_neg (nle_f 40 40 rfl (by omega) hT), Nat.min_eq_right (by omega)]
    rfl
/-- is it waiting -/
theorem waits_m {s t c : Nat} (h : StR R n s t c (gI R 16) (gF R 17) C 26 P) : S_isWaiting (sbM (emS 26 P) C) = some (if gI R 16 2 = -1 then 0 else if gI R 16 5 = 0 then (if aLy (gI R 16) (gI R 16 2) c = 0 then 1 else 0) else 0) := by
  have e := h.mk
  unfold S_isWaiting
  rw [← e, s0_11, s0_6]
  rcases h.I.ac with ha | ⟨a, ha, ha2⟩
  · rw [ha, if_pos (by decide), if_pos rfl]
  · have hn := h.K.n6
    rw [ha2, if_neg (nI_pos (by omega)), if_neg (nI_neg1 (by omega)), ald_n (by omega) (by omega), ix_nI (by omega), sQ_8 _ _ _ ⟨ha, hn⟩, h.X.2.1 a ha]
    split
    · split <;> rfl
    · rfl
theorem has_no (h : Rl n P Q C R) (h8 : No n P C R) (p : Int32) : ∃ a, C_has p C = some a ∧ R_has p R = some (a, R0 R) := by
  obtain ⟨a, sd, sl, si⟩ := h.2.2.2.2.1
  obtain ⟨k, -, k1, k2, -⟩ := h.2.2.2.2.2.2.1
  obtain ⟨u, pn, -, -, u1, -, u2, -⟩ := h.2.2.2.2.2.2.2.2
  obtain ⟨n0, d0, d1, ⟨r6, r7, r9, r61, r55⟩, ⟨q0, q11⟩, c6, c7, c10, c12, c14, c15, c16, c17, c11, c32⟩ := h8
  have ek : gI C 67 2 = 0 := k1.trans (k2.symm.trans r61)
  have eu : gI C 0 8 = 0 := u1.trans (u2.symm.trans r55)
  have e0 : gI (R0 R) 0 0 = 0 := d0
  have e66 : gI (R0 R) 0 66 = nI a := si
  have hw : S_isWaiting (sbM (emS 26 P) C) = some 0 := by
    unfold S_isWaiting
    rw [show gI (sbM (emS 26 P) C) 0 11 = -1 from c11, if_pos (by decide)]
  have hk : S_KTold (sbM (emS 26 P) C) = some 0 := by
    unfold S_KTold
    rw [show gI (sbM (emS 26 P) C) 6 1 = 0 from c32]
    rfl
  by_cases h0 : p = 0
  · subst h0
    refine ⟨0, ?_, ?_⟩
    · unfold C_has
      rw [lett_if, c11, if_neg (by decide), lett_e, if_pos rfl, lett_e, h.p0, nn_s, grd_t (shC_P h.PQ), q0]
    · unfold R_has
      rw [R_isNow_e, bnd_s, if_neg (by decide), e0, if_pos rfl, lett_e, if_neg (by decide), if_neg (by decide), if_neg (by decide)]
      rfl
  by_cases h1 : p = 1
  · subst h1
    refine ⟨0, ?_, ?_⟩
    · unfold C_has
      rw [lett_if, c11, if_neg (by decide), lett_e, if_neg (by decide), if_pos rfl, lett_e, h.p0, nn_s, grd_t (shC_P h.PQ), q11]
    · unfold R_has
      rw [R_isNow_e, bnd_s, if_neg (by decide), e0, if_pos rfl, lett_e, if_neg (by decide), if_neg (by decide), if_neg (by decide)]
      rfl
  by_cases h2 : p = 2
  · subst h2
    refine ⟨0, ?_, ?_⟩
    · unfold C_has
      rw [lett_if, c11, if_neg (by decide), lett_e, if_neg (by decide), if_neg (by decide), if_pos rfl, c10]
    · unfold R_has
      rw [R_isNow_e, bnd_s, if_neg (by decide), e0, if_pos rfl, lett_e, if_neg (by decide), if_neg (by decide), if_neg (by decide)]
      rfl
  by_cases h3 : p = 3
  · subst h3
    refine ⟨0, ?_, ?_⟩
    · unfold C_has
      rw [lett_if, c11, if_neg (by decide), lett_e, if_neg (by decide), if_neg (by decide), if_neg (by decide), if_pos rfl, c7]
    · unfold R_has
      rw [R_isNow_e, bnd_s, if_neg (by decide), e0, if_pos rfl, lett_e, if_neg (by decide), if_neg (by decide), if_neg (by decide)]
      rfl
  by_cases h4 : p = 4
  · subst h4
    refine ⟨-1, ?_, ?_⟩
    · unfold C_has
      rw [lett_if, c11, if_neg (by decide), lett_e, if_neg (by decide), if_neg (by decide), if_neg (by decide), if_neg (by decide), if_pos rfl, if_neg i10]
    · unfold R_has
      rw [R_isNow_e, bnd_s, if_neg (by decide), e0, if_pos rfl, lett_e, if_pos rfl]
  by_cases h5 : p = 5
  · subst h5
    refine ⟨0, ?_, ?_⟩
    · unfold C_has
      rw [lett_if, c11, if_neg (by decide), lett_e, if_neg (by decide), if_neg (by decide), if_neg (by decide), if_neg (by decide), if_neg (by decide), if_pos rfl, c6]
    · unfold R_has
      rw [R_isNow_e, bnd_s, if_neg (by decide), e0, if_pos rfl, lett_e, if_neg (by decide), if_neg (by decide), if_neg (by decide)]
      rfl
  by_cases h6 : p = 6
  · subst h6
    refine ⟨-1, ?_, ?_⟩
    · unfold C_has
      rw [lett_if, c11, if_neg (by decide), lett_e, if_neg (by decide), if_neg (by decide), if_neg (by decide), if_neg (by decide), if_neg (by decide), if_neg (by decide), if_pos rfl, if_neg i10]
    · unfold R_has
      rw [R_isNow_e, bnd_s, if_neg (by decide), e0, if_pos rfl, lett_e, if_neg (by decide), if_pos rfl]
  by_cases h7 : p = 7
  · subst h7
    refine ⟨-1, ?_, ?_⟩
    · unfold C_has
      rw [lett_if, c11, if_neg (by decide), lett_e, if_neg (by decide), if_neg (by decide), if_neg (by decide), if_neg (by decide), if_neg (by decide), if_neg (by decide), if_neg (by decide), if_pos rfl, plnS_e _ h.1.2.2.2.1 h.PQ, hw, bnd_s, if_pos rfl]
    · unfold R_has
      rw [R_isNow_e, bnd_s, if_neg (by decide), e0, if_pos rfl, lett_e, if_neg (by decide), if_neg (by decide), if_pos rfl]
  by_cases h8 : p = 8
  · subst h8
    refine ⟨0, ?_, ?_⟩
    · unfold C_has
      rw [lett_if, c11, if_neg (by decide), lett_e, if_neg (by decide), if_neg (by decide), if_neg (by decide), if_neg (by decide), if_neg (by decide), if_neg (by decide), if_neg (by decide), if_neg (by decide), if_pos rfl, c16]
    · unfold R_has
      rw [R_isNow_e, bnd_s, if_neg (by decide), e0, if_pos rfl, lett_e, if_neg (by decide), if_neg (by decide), if_neg (by decide)]
      rfl
  by_cases h9 : p = 9
  · subst h9
    refine ⟨0, ?_, ?_⟩
    · unfold C_has
      rw [lett_if, c11, if_neg (by decide), lett_e, if_neg (by decide), if_neg (by decide), if_neg (by decide), if_neg (by decide), if_neg (by decide), if_neg (by decide), if_neg (by decide), if_neg (by decide), if_neg (by decide), if_pos rfl, c17]
    · unfold R_has
      rw [R_isNow_e, bnd_s, if_neg (by decide), e0, if_pos rfl, lett_e, if_neg (by decide), if_neg (by decide), if_neg (by decide)]
      rfl
  by_cases h10 : p = 10
  · subst h10
    refine ⟨0, ?_, ?_⟩
    · unfold C_has
      rw [lett_if, c11, if_neg (by decide), lett_e, if_neg (by decide), if_neg (by decide), if_neg (by decide), if_neg (by decide), if_neg (by decide), if_neg (by decide), if_neg (by decide), if_neg (by decide), if_neg (by decide), if_neg (by decide), if_pos rfl, c15]
    · unfold R_has
      rw [R_isNow_e, bnd_s, if_neg (by decide), e0, if_pos rfl, lett_e, if_neg (by decide), if_neg (by decide), if_neg (by decide)]
      rfl
  by_cases h11 : p = 11
  · subst h11
    refine ⟨0, ?_, ?_⟩
    · unfold C_has
      rw [lett_if, c11, if_neg (by decide), lett_e, if_neg (by decide), if_neg (by decide), if_neg (by decide), if_neg (by decide), if_neg (by decide), if_neg (by decide), if_neg (by decide), if_neg (by decide), if_neg (by decide), if_neg (by decide), if_neg (by decide), if_pos rfl, plnS_e _ h.1.2.2.2.1 h.PQ, hk, bnd_s]
    · unfold R_has
      rw [R_isNow_e, bnd_s, if_neg (by decide), e0, if_pos rfl, lett_e, if_neg (by decide), if_neg (by decide), if_neg (by decide)]
      rfl
  by_cases h12 : p = 12
  · subst h12
    refine ⟨0, ?_, ?_⟩
    · unfold C_has
      rw [lett_if, c11, if_neg (by decide), lett_e, if_neg (by decide), if_neg (by decide), if_neg (by decide), if_neg (by decide), if_neg (by decide), if_neg (by decide), if_neg (by decide), if_neg (by decide), if_neg (by decide), if_neg (by decide), if_neg (by decide), if_neg (by decide), if_pos rfl, ek]
    · unfold R_has
      rw [R_isNow_e, bnd_s, if_neg (by decide), e0, if_pos rfl, lett_e, if_neg (by decide), if_neg (by decide), if_neg (by decide)]
      rfl
  by_cases h13 : p = 13
  · subst h13
    refine ⟨0, ?_, ?_⟩
    · unfold C_has
      rw [lett_if, c11, if_neg (by decide), lett_e, if_neg (by decide), if_neg (by decide), if_neg (by decide), if_neg (by decide), if_neg (by decide), if_neg (by decide), if_neg (by decide), if_neg (by decide), if_neg (by decide), if_neg (by decide), if_neg (by decide), if_neg (by decide), if_neg (by decide), if_pos rfl, eu]
    · unfold R_has
      rw [R_isNow_e, bnd_s, if_neg (by decide), e0, if_pos rfl, lett_e, if_neg (by decide), if_neg (by decide), if_neg (by decide)]
      rfl
  by_cases h14 : p = 14
  · subst h14
    refine ⟨nI a, ?_, ?_⟩
    · unfold C_has
      rw [lett_if, c11, if_neg (by decide), lett_e, if_neg (by decide), if_neg (by decide), if_neg (by decide), if_neg (by decide), if_neg (by decide), if_neg (by decide), if_neg (by decide), if_neg (by decide), if_neg (by decide), if_neg (by decide), if_neg (by decide), if_neg (by decide), if_neg (by decide), if_neg (by decide), if_pos rfl, sl, lo_i sd]
    · unfold R_has
      rw [R_isNow_e, bnd_s, if_pos rfl, e66]
  refine ⟨-1, ?_, ?_⟩
  · unfold C_has
    rw [lett_if, c11, if_neg (by decide), lett_e, if_neg h0, if_neg h1, if_neg h2, if_neg h3, if_neg h4, if_neg h5, if_neg h6, if_neg h7, if_neg h8, if_neg h9, if_neg h10, if_neg h11, if_neg h12, if_neg h13, if_neg h14]
  · unfold R_has
    rw [R_isNow_e, bnd_s, if_neg h14, e0, if_pos rfl, lett_e, if_neg h4, if_neg h6, if_neg h7]
    rcases isIn_c (M := C) (M' := R0 R) p 0 13 0 13 rfl rfl (by omega) (by omega) with ⟨⟨g1, g2⟩, -⟩ | ⟨j, j1, j2, rfl, g1, g2⟩
    · rw [g2]; rfl
    · exfalso
      rcases (show j = 0 ∨ j = 1 ∨ j = 2 ∨ j = 3 ∨ j = 4 ∨ j = 5 ∨ j = 6 ∨ j = 7 ∨ j = 8 ∨ j = 9 ∨ j = 10 ∨ j = 11 ∨ j = 12 ∨ j = 13 by omega) with rfl | rfl | rfl | rfl | rfl | rfl | rfl | rfl | rfl | rfl | rfl | rfl | rfl | rfl
      · exact h0 rfl
      · exact h1 rfl
      · exact h2 rfl
      · exact h3 rfl
      · exact h4 rfl
      · exact h5 rfl
      · exact h6 rfl
      · exact h7 rfl
      · exact h8 rfl
      · exact h9 rfl
      · exact h10 rfl
      · exact h11 rfl
      · exact h12 rfl
      · exact h13 rfl
theorem has_di (h : Rl n P Q C R) (h8 : Di n P C R) (p : Int32) : ∃ a, C_has p C = some a ∧ R_has p R = some (a, R0 R) := by
  have hB : BB 0 := Or.inl rfl
  obtain ⟨a, sd, sl, si⟩ := h.2.2.2.2.1
  obtain ⟨k, -, k1, k2, -⟩ := h.2.2.2.2.2.2.1
  obtain ⟨u, pn, -, -, u1, -, u2, -⟩ := h.2.2.2.2.2.2.2.2
  obtain ⟨d0, ⟨s, t, c, ht, hS⟩, -, -⟩ := h8
  have e0 : gI (R0 R) 0 0 = 1 := d0
  have e66 : gI (R0 R) 0 66 = nI a := si
  have e61 : gI (R0 R) 0 61 = nI k := k2
  have e55 : gI (R0 R) 0 55 = nI u := u2
  have hn := hS.K.n6
  obtain ⟨T, T1, T2, T3, -⟩ := hS.KR
  have hT := hS.I.t1
  have hk : S_KTold (sbM (emS 26 P) C) = some (gI R 16 9) := by
    unfold S_KTold
    rw [T1, told_n (by omega), T3]
  have hw := waits_m hS
  have eP0 : gI C P 0 = gI R 0 2 := by
    have e := hS.L.1.1
    rw [sb_I, em_hi (by omega), show P + (20 - 20) = P by omega] at e
    exact e
  have ely : R_lying (gI R 16 2) (R0 R) = some (aLy (gI R 16) (gI R 16 2) c) := R_lying_m hB hS.I.c0 (by have := hS.I.c1; omega)
  have i2 := R_its_k2 hB (m0 := R) (D := gI R 16) (F := gF R 17)
  have w : (if 0 ≤ gI C 26 11 then (0 : Int32) else 1) = if gI R 16 2 = -1 then 1 else 0 := by
    rw [hS.g11]
    rcases hS.I.ac with ha | ⟨a, ha, ha2⟩
    · rw [ha]; decide
    · rw [ha2, if_pos (nI_pos' (by omega)), if_neg (nI_neg1 (by omega))]
  by_cases h0 : p = 0
  · subst h0
    refine ⟨gI R 0 2, ?_, ?_⟩
    · unfold C_has
      rw [lett_if, w, lett_e, if_pos rfl, lett_e, h.p0, nn_s, grd_t (shC_P h.PQ), eP0]
    · unfold R_has
      rw [R_isNow_e, bnd_s, if_neg (by decide), e0, if_neg i10, show R_its 2 (R0 R) = _ from i2, bnd_s, lett_if, lett_e, if_pos rfl]
      rfl
  by_cases h1 : p = 1
  · subst h1
    refine ⟨nI n, ?_, ?_⟩
    · unfold C_has
      rw [lett_if, w, lett_e, if_neg (by decide), if_pos rfl, lett_e, h.p0, nn_s, grd_t (shC_P h.PQ), h.cnt.1]
    · unfold R_has
      rw [R_isNow_e, bnd_s, if_neg (by decide), e0, if_neg i10, show R_its 2 (R0 R) = _ from i2, bnd_s, lett_if, lett_e, if_neg (by decide), if_pos rfl, show gI (R0 R) 0 1 = nI n from h.cnt.2.1]
  by_cases h2 : p = 2
  · subst h2
    refine ⟨gI R 16 0, ?_, ?_⟩
    · unfold C_has
      rw [lett_if, w, lett_e, if_neg (by decide), if_neg (by decide), if_pos rfl, hS.g10]
    · unfold R_has
      rw [R_isNow_e, bnd_s, if_neg (by decide), e0, if_neg i10, show R_its 2 (R0 R) = _ from i2, bnd_s, lett_if, lett_e, if_neg (by decide), if_neg (by decide), if_pos rfl, show R_its 0 (R0 R) = _ from R_its_k0 hB, bnd_s]
  by_cases h3 : p = 3
  · subst h3
    refine ⟨gI R 16 1, ?_, ?_⟩
    · unfold C_has
      rw [lett_if, w, lett_e, if_neg (by decide), if_neg (by decide), if_neg (by decide), if_pos rfl, hS.g7]
    · unfold R_has
      rw [R_isNow_e, bnd_s, if_neg (by decide), e0, if_neg i10, show R_its 2 (R0 R) = _ from i2, bnd_s, lett_if, lett_e, if_neg (by decide), if_neg (by decide), if_neg (by decide), if_pos rfl, show R_its 1 (R0 R) = _ from R_its_k1 hB, bnd_s]
  by_cases h4 : p = 4
  · subst h4
    refine ⟨gI R 16 2, ?_, ?_⟩
    · unfold C_has
      rw [lett_if, w, lett_e, if_neg (by decide), if_neg (by decide), if_neg (by decide), if_neg (by decide), if_pos rfl, hS.g11]
      by_cases e2 : gI R 16 2 = -1
      · rw [if_pos e2, if_neg i10, e2]
      · rw [if_neg e2, if_pos rfl]
    · unfold R_has
      rw [R_isNow_e, bnd_s, if_neg (by decide), e0, if_neg i10, show R_its 2 (R0 R) = _ from i2, bnd_s, lett_if, lett_e, if_neg (by decide), if_neg (by decide), if_neg (by decide), if_neg (by decide), if_pos rfl, bnd_s]
  by_cases h5 : p = 5
  · subst h5
    refine ⟨gI R 16 5, ?_, ?_⟩
    · unfold C_has
      rw [lett_if, w, lett_e, if_neg (by decide), if_neg (by decide), if_neg (by decide), if_neg (by decide), if_neg (by decide), if_pos rfl, hS.g6]
    · unfold R_has
      rw [R_isNow_e, bnd_s, if_neg (by decide), e0, if_neg i10, show R_its 2 (R0 R) = _ from i2, bnd_s, lett_if, lett_e, if_neg (by decide), if_neg (by decide), if_neg (by decide), if_neg (by decide), if_neg (by decide), if_pos rfl, show R_its 5 (R0 R) = _ from R_its_k5 hB, bnd_s]
  by_cases h6 : p = 6
  · subst h6
    refine ⟨if gI R 16 2 = -1 then -1 else gI R 16 3, ?_, ?_⟩
    · unfold C_has
      rw [lett_if, w, lett_e, if_neg (by decide), if_neg (by decide), if_neg (by decide), if_neg (by decide), if_neg (by decide), if_neg (by decide), if_pos rfl, hS.g12]
      by_cases e2 : gI R 16 2 = -1
      · rw [if_pos e2, if_neg i10, if_pos e2]
      · rw [if_neg e2, if_pos rfl, if_neg e2]
    · unfold R_has
      rw [R_isNow_e, bnd_s, if_neg (by decide), e0, if_neg i10, show R_its 2 (R0 R) = _ from i2, bnd_s, lett_if, lett_e, if_neg (by decide), if_neg (by decide), if_neg (by decide), if_neg (by decide), if_neg (by decide), if_neg (by decide), if_pos rfl]
      by_cases e2 : gI R 16 2 = -1
      · rw [if_pos e2, if_pos rfl, if_pos e2]
      · rw [if_neg e2, if_neg i10, if_neg e2, show R_its 3 (R0 R) = _ from R_its_k3 hB, bnd_s]
  by_cases h7 : p = 7
  · subst h7
    refine ⟨if gI R 16 2 = -1 then -1 else if gI R 16 5 = 0 then (if aLy (gI R 16) (gI R 16 2) c = 0 then gI R 16 4 else -1) else -1, ?_, ?_⟩
    · unfold C_has
      rw [lett_if, w, lett_e, if_neg (by decide), if_neg (by decide), if_neg (by decide), if_neg (by decide), if_neg (by decide), if_neg (by decide), if_neg (by decide), if_pos rfl, plnS_e _ h.1.2.2.2.1 h.PQ, hw, bnd_s, hS.g14]
      by_cases e2 : gI R 16 2 = -1
      · rw [if_pos e2, if_pos rfl, if_pos e2]
      · rw [if_neg e2, if_neg e2]
        by_cases e3 : gI R 16 5 = 0
        · rw [if_pos e3, if_pos e3]
          by_cases e4 : aLy (gI R 16) (gI R 16 2) c = 0
          · rw [if_pos e4, if_neg i10, if_pos e4]
          · rw [if_neg e4, if_pos rfl, if_neg e4]
        · rw [if_neg e3, if_pos rfl, if_neg e3]
    · unfold R_has
      rw [R_isNow_e, bnd_s, if_neg (by decide), e0, if_neg i10, show R_its 2 (R0 R) = _ from i2, bnd_s, lett_if, lett_e, if_neg (by decide), if_neg (by decide), if_neg (by decide), if_neg (by decide), if_neg (by decide), if_neg (by decide), if_neg (by decide), if_pos rfl]
      by_cases e2 : gI R 16 2 = -1
      · rw [if_pos e2, if_pos rfl, if_pos e2]
      · rw [if_neg e2, if_neg i10, if_neg e2, show R_its 5 (R0 R) = _ from R_its_k5 hB, bnd_s]
        by_cases e3 : gI R 16 5 = 0
        · rw [if_pos e3, if_pos e3, bnd_s, ely, bnd_s]
          by_cases e4 : aLy (gI R 16) (gI R 16 2) c = 0
          · rw [if_pos e4, if_pos e4, show R_its 4 (R0 R) = _ from R_its_k4 hB, bnd_s]
          · rw [if_neg e4, if_neg e4]
        · rw [if_neg e3, if_neg e3]
  by_cases h8 : p = 8
  · subst h8
    refine ⟨gI R 16 6, ?_, ?_⟩
    · unfold C_has
      rw [lett_if, w, lett_e, if_neg (by decide), if_neg (by decide), if_neg (by decide), if_neg (by decide), if_neg (by decide), if_neg (by decide), if_neg (by decide), if_neg (by decide), if_pos rfl, hS.g16]
    · unfold R_has
      rw [R_isNow_e, bnd_s, if_neg (by decide), e0, if_neg i10, show R_its 2 (R0 R) = _ from i2, bnd_s, lett_if, lett_e, if_neg (by decide), if_neg (by decide), if_neg (by decide), if_neg (by decide), if_neg (by decide), if_neg (by decide), if_neg (by decide), if_neg (by decide), if_pos rfl, show R_its 6 (R0 R) = _ from R_its_k6 hB, bnd_s]
  by_cases h9 : p = 9
  · subst h9
    refine ⟨gI R 16 7, ?_, ?_⟩
    · unfold C_has
      rw [lett_if, w, lett_e, if_neg (by decide), if_neg (by decide), if_neg (by decide), if_neg (by decide), if_neg (by decide), if_neg (by decide), if_neg (by decide), if_neg (by decide), if_neg (by decide), if_pos rfl, hS.g17]
    · unfold R_has
      rw [R_isNow_e, bnd_s, if_neg (by decide), e0, if_neg i10, show R_its 2 (R0 R) = _ from i2, bnd_s, lett_if, lett_e, if_neg (by decide), if_neg (by decide), if_neg (by decide), if_neg (by decide), if_neg (by decide), if_neg (by decide), if_neg (by decide), if_neg (by decide), if_neg (by decide), if_pos rfl, show R_its 7 (R0 R) = _ from R_its_k7 hB, bnd_s]
  by_cases h10 : p = 10
  · subst h10
    refine ⟨gI R 16 8, ?_, ?_⟩
    · unfold C_has
      rw [lett_if, w, lett_e, if_neg (by decide), if_neg (by decide), if_neg (by decide), if_neg (by decide), if_neg (by decide), if_neg (by decide), if_neg (by decide), if_neg (by decide), if_neg (by decide), if_neg (by decide), if_pos rfl, hS.g15]
    · unfold R_has
      rw [R_isNow_e, bnd_s, if_neg (by decide), e0, if_neg i10, show R_its 2 (R0 R) = _ from i2, bnd_s, lett_if, lett_e, if_neg (by decide), if_neg (by decide), if_neg (by decide), if_neg (by decide), if_neg (by decide), if_neg (by decide), if_neg (by decide), if_neg (by decide), if_neg (by decide), if_neg (by decide), if_pos rfl, show R_its 8 (R0 R) = _ from R_its_k8 hB, bnd_s]
  by_cases h11 : p = 11
  · subst h11
    refine ⟨gI R 16 9, ?_, ?_⟩
    · unfold C_has
      rw [lett_if, w, lett_e, if_neg (by decide), if_neg (by decide), if_neg (by decide), if_neg (by decide), if_neg (by decide), if_neg (by decide), if_neg (by decide), if_neg (by decide), if_neg (by decide), if_neg (by decide), if_neg (by decide), if_pos rfl, plnS_e _ h.1.2.2.2.1 h.PQ, hk, bnd_s]
    · unfold R_has
      rw [R_isNow_e, bnd_s, if_neg (by decide), e0, if_neg i10, show R_its 2 (R0 R) = _ from i2, bnd_s, lett_if, lett_e, if_neg (by decide), if_neg (by decide), if_neg (by decide), if_neg (by decide), if_neg (by decide), if_neg (by decide), if_neg (by decide), if_neg (by decide), if_neg (by decide), if_neg (by decide), if_neg (by decide), if_pos rfl, show R_its 9 (R0 R) = _ from R_its_k9 hB, bnd_s]
  by_cases h12 : p = 12
  · subst h12
    refine ⟨nI k, ?_, ?_⟩
    · unfold C_has
      rw [lett_if, w, lett_e, if_neg (by decide), if_neg (by decide), if_neg (by decide), if_neg (by decide), if_neg (by decide), if_neg (by decide), if_neg (by decide), if_neg (by decide), if_neg (by decide), if_neg (by decide), if_neg (by decide), if_neg (by decide), if_pos rfl, k1]
    · unfold R_has
      rw [R_isNow_e, bnd_s, if_neg (by decide), e0, if_neg i10, show R_its 2 (R0 R) = _ from i2, bnd_s, lett_if, lett_e, if_neg (by decide), if_neg (by decide), if_neg (by decide), if_neg (by decide), if_neg (by decide), if_neg (by decide), if_neg (by decide), if_neg (by decide), if_neg (by decide), if_neg (by decide), if_neg (by decide), if_neg (by decide), if_pos rfl, e61]
  by_cases h13 : p = 13
  · subst h13
    refine ⟨nI u, ?_, ?_⟩
    · unfold C_has
      rw [lett_if, w, lett_e, if_neg (by decide), if_neg (by decide), if_neg (by decide), if_neg (by decide), if_neg (by decide), if_neg (by decide), if_neg (by decide), if_neg (by decide), if_neg (by decide), if_neg (by decide), if_neg (by decide), if_neg (by decide), if_neg (by decide), if_pos rfl, u1]
    · unfold R_has
      rw [R_isNow_e, bnd_s, if_neg (by decide), e0, if_neg i10, show R_its 2 (R0 R) = _ from i2, bnd_s, lett_if, lett_e, if_neg (by decide), if_neg (by decide), if_neg (by decide), if_neg (by decide), if_neg (by decide), if_neg (by decide), if_neg (by decide), if_neg (by decide), if_neg (by decide), if_neg (by decide), if_neg (by decide), if_neg (by decide), if_neg (by decide), if_pos rfl, e55]
  by_cases h14 : p = 14
  · subst h14
    refine ⟨nI a, ?_, ?_⟩
    · unfold C_has
      rw [lett_if, w, lett_e, if_neg (by decide), if_neg (by decide), if_neg (by decide), if_neg (by decide), if_neg (by decide), if_neg (by decide), if_neg (by decide), if_neg (by decide), if_neg (by decide), if_neg (by decide), if_neg (by decide), if_neg (by decide), if_neg (by decide), if_neg (by decide), if_pos rfl, sl, lo_i sd]
    · unfold R_has
      rw [R_isNow_e, bnd_s, if_pos rfl, e66]
  refine ⟨-1, ?_, ?_⟩
  · unfold C_has
    rw [lett_if, lett_e, if_neg h0, if_neg h1, if_neg h2, if_neg h3, if_neg h4, if_neg h5, if_neg h6, if_neg h7, if_neg h8, if_neg h9, if_neg h10, if_neg h11, if_neg h12, if_neg h13, if_neg h14]
  · unfold R_has
    rw [R_isNow_e, bnd_s, if_neg h14, e0, if_neg i10, show R_its 2 (R0 R) = _ from i2, bnd_s, lett_if, lett_e, if_neg h0, if_neg h1, if_neg h2, if_neg h3, if_neg h4, if_neg h5, if_neg h6, if_neg h7, if_neg h8, if_neg h9, if_neg h10, if_neg h11, if_neg h12, if_neg h13]
theorem has_sim (h : Rl n P Q C R) (p : Int32) : ∃ a, C_has p C = some a ∧ R_has p R = some (a, R0 R) := by
  rcases h.2.2.2.2.2.2.2.1 with h8 | h8
  · exact has_no h h8 p
  · exact has_di h h8 p
end READ
