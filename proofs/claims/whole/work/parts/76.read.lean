/-! PURE: processes, queues, bits -/
section READ
variable {n P Q : Nat} {C R : Mm}
theorem Rl.di (h : Rl n P Q C R) {k : Nat} (hk : k < n) : Di n P C R := by
  rcases h.2.2.2.2.2.2.2.1 with h8 | h8
  · have := h8.1; omega
  · exact h8
theorem R0_1 (R : Mm) : gI (R0 R) 0 1 = gI R 0 1 := rfl
theorem n2_01 {x : Int32} (h : isN 2 x) : x = 0 ∨ x = 1 := by
  obtain ⟨a, ha, rfl⟩ := h
  rcases (show a = 0 ∨ a = 1 by omega) with rfl | rfl
  · exact Or.inl rfl
  · exact Or.inr rfl
theorem process_sim (h : Rl n P Q C R) (p w : Int32) : ∃ a, C_process p w C = some a ∧ R_process p w R = some (a, R0 R) := by
  have hB : BB 0 := Or.inl rfl
  rcases h.pr p (R0_1 R) with ⟨⟨g1, g2⟩, -⟩ | ⟨q, hq, rfl, g1, g2⟩
  · refine ⟨-1, ?_, ?_⟩
    · unfold C_process; rw [g1, bnd_s, if_pos rfl]
    · unfold R_process; rw [R_isNow_e, bnd_s, g2, bnd_s, if_pos rfl]
  · obtain ⟨d0, ⟨s, t, c, ht, hS⟩, -, -⟩ := h.di hq
    have hn := hS.K.n6
    obtain ⟨-, b2, -, -, -, b8⟩ := hS.I.p q hq
    rcases isIn_c (M := C) (M' := R0 R) w 0 12 0 12 rfl rfl (by omega) (by omega) with ⟨⟨-, f2⟩, f3⟩ | ⟨j, j1, j2, rfl, -, f2⟩
    · refine ⟨-1, ?_, ?_⟩
      · unfold C_process
        rw [g1, bnd_s, if_neg i10, ald_n (by omega) (by omega), if_neg (show ¬ w = (0 : Int32) from f3 0 (by omega) (by omega)), if_neg (show ¬ w = (1 : Int32) from f3 1 (by omega) (by omega)), if_neg (show ¬ w = (2 : Int32) from f3 2 (by omega) (by omega)), if_neg (show ¬ w = (3 : Int32) from f3 3 (by omega) (by omega)), if_neg (show ¬ w = (4 : Int32) from f3 4 (by omega) (by omega)), if_neg (show ¬ w = (5 : Int32) from f3 5 (by omega) (by omega)), if_neg (show ¬ w = (6 : Int32) from f3 6 (by omega) (by omega)), if_neg (show ¬ w = (7 : Int32) from f3 7 (by omega) (by omega)), if_neg (show ¬ w = (8 : Int32) from f3 8 (by omega) (by omega)), if_neg (show ¬ w = (9 : Int32) from f3 9 (by omega) (by omega)), if_neg (show ¬ w = (10 : Int32) from f3 10 (by omega) (by omega)), if_neg (show ¬ w = (11 : Int32) from f3 11 (by omega) (by omega)), if_neg (show ¬ w = (12 : Int32) from f3 12 (by omega) (by omega))]
      · unfold R_process
        rw [R_isNow_e, bnd_s, g2, bnd_s, if_neg i10, f2, bnd_s, if_pos rfl]
    · rcases (show j = 0 ∨ j = 1 ∨ j = 2 ∨ j = 3 ∨ j = 4 ∨ j = 5 ∨ j = 6 ∨ j = 7 ∨ j = 8 ∨ j = 9 ∨ j = 10 ∨ j = 11 ∨ j = 12 by omega) with rfl | rfl | rfl | rfl | rfl | rfl | rfl | rfl | rfl | rfl | rfl | rfl | rfl
      · refine ⟨gI R 16 (18 + 14 * q + 0), ?_, ?_⟩
        · unfold C_process
          rw [g1, bnd_s, if_neg i10, ald_n (by omega) (by omega), if_pos (by decide), ix_nI (by omega), hS.P0 rfl ⟨hq, hn⟩]
        · unfold R_process
          rw [R_isNow_e, bnd_s, g2, bnd_s, if_neg i10, f2, bnd_s, if_neg i10, lett_e, if_neg (by decide), show R_of (nI q) (nI 0) (R0 R) = _ from R_of_m hB q 0 rfl rfl (by omega), bnd_s]
      · refine ⟨if gI R 16 (18 + 14 * q + 2) = 0 then gI R 16 (18 + 14 * q + 1) else 0, ?_, ?_⟩
        · unfold C_process
          rw [g1, bnd_s, if_neg i10, ald_n (by omega) (by omega), if_neg (by decide), if_pos (by decide), ix_nI (by omega), hS.P3 rfl ⟨hq, hn⟩, hS.P2 rfl ⟨hq, hn⟩]
          split <;> rfl
        · unfold R_process
          rw [R_isNow_e, bnd_s, g2, bnd_s, if_neg i10, f2, bnd_s, if_neg i10, lett_e, if_pos (by decide), show R_of (nI q) 2 (R0 R) = _ from R_of_m hB q 2 rfl rfl (by omega), bnd_s, show R_of (nI q) (nI 1) (R0 R) = _ from R_of_m hB q 1 rfl rfl (by omega), bnd_s]
          rcases n2_01 b2 with e | e
          · rw [e, if_neg (by decide), if_pos rfl]
          · rw [e, if_pos rfl, if_neg i10]
      · refine ⟨gI R 16 (18 + 14 * q + 2), ?_, ?_⟩
        · unfold C_process
          rw [g1, bnd_s, if_neg i10, ald_n (by omega) (by omega), if_neg (by decide), if_neg (by decide), if_pos (by decide), ix_nI (by omega), hS.P3 rfl ⟨hq, hn⟩]
          rcases n2_01 b2 with e | e
          · rw [e, if_pos rfl]
          · rw [e, if_neg i10]
        · unfold R_process
          rw [R_isNow_e, bnd_s, g2, bnd_s, if_neg i10, f2, bnd_s, if_neg i10, lett_e, if_neg (by decide), show R_of (nI q) (nI 2) (R0 R) = _ from R_of_m hB q 2 rfl rfl (by omega), bnd_s]
      · refine ⟨gI R 16 (18 + 14 * q + 3), ?_, ?_⟩
        · unfold C_process
          rw [g1, bnd_s, if_neg i10, ald_n (by omega) (by omega), if_neg (by decide), if_neg (by decide), if_neg (by decide), if_pos (by decide), ix_nI (by omega), hS.P4 rfl ⟨hq, hn⟩]
        · unfold R_process
          rw [R_isNow_e, bnd_s, g2, bnd_s, if_neg i10, f2, bnd_s, if_neg i10, lett_e, if_neg (by decide), show R_of (nI q) (nI 3) (R0 R) = _ from R_of_m hB q 3 rfl rfl (by omega), bnd_s]
      · refine ⟨gI R 16 (18 + 14 * q + 4), ?_, ?_⟩
        · unfold C_process
          rw [g1, bnd_s, if_neg i10, ald_n (by omega) (by omega), if_neg (by decide), if_neg (by decide), if_neg (by decide), if_neg (by decide), if_pos (by decide), ix_nI (by omega), hS.P5 rfl ⟨hq, hn⟩]
        · unfold R_process
          rw [R_isNow_e, bnd_s, g2, bnd_s, if_neg i10, f2, bnd_s, if_neg i10, lett_e, if_neg (by decide), show R_of (nI q) (nI 4) (R0 R) = _ from R_of_m hB q 4 rfl rfl (by omega), bnd_s]
      · refine ⟨gI R 16 (18 + 14 * q + 5), ?_, ?_⟩
        · unfold C_process
          rw [g1, bnd_s, if_neg i10, ald_n (by omega) (by omega), if_neg (by decide), if_neg (by decide), if_neg (by decide), if_neg (by decide), if_neg (by decide), if_pos (by decide), ix_nI (by omega), hS.P6 rfl ⟨hq, hn⟩]
        · unfold R_process
          rw [R_isNow_e, bnd_s, g2, bnd_s, if_neg i10, f2, bnd_s, if_neg i10, lett_e, if_neg (by decide), show R_of (nI q) (nI 5) (R0 R) = _ from R_of_m hB q 5 rfl rfl (by omega), bnd_s]
      · refine ⟨gI R 16 (18 + 14 * q + 6), ?_, ?_⟩
        · unfold C_process
          rw [g1, bnd_s, if_neg i10, ald_n (by omega) (by omega), if_neg (by decide), if_neg (by decide), if_neg (by decide), if_neg (by decide), if_neg (by decide), if_neg (by decide), if_pos (by decide), ix_nI (by omega), hS.P7 rfl ⟨hq, hn⟩]
        · unfold R_process
          rw [R_isNow_e, bnd_s, g2, bnd_s, if_neg i10, f2, bnd_s, if_neg i10, lett_e, if_neg (by decide), show R_of (nI q) (nI 6) (R0 R) = _ from R_of_m hB q 6 rfl rfl (by omega), bnd_s]
      · refine ⟨gI R 16 (18 + 14 * q + 7), ?_, ?_⟩
        · unfold C_process
          rw [g1, bnd_s, if_neg i10, ald_n (by omega) (by omega), if_neg (by decide), if_neg (by decide), if_neg (by decide), if_neg (by decide), if_neg (by decide), if_neg (by decide), if_neg (by decide), if_pos (by decide), ix_nI (by omega), hS.P8 rfl ⟨hq, hn⟩]
        · unfold R_process
          rw [R_isNow_e, bnd_s, g2, bnd_s, if_neg i10, f2, bnd_s, if_neg i10, lett_e, if_neg (by decide), show R_of (nI q) (nI 7) (R0 R) = _ from R_of_m hB q 7 rfl rfl (by omega), bnd_s]
      · refine ⟨gI R 16 (18 + 14 * q + 8), ?_, ?_⟩
        · unfold C_process
          rw [g1, bnd_s, if_neg i10, ald_n (by omega) (by omega), if_neg (by decide), if_neg (by decide), if_neg (by decide), if_neg (by decide), if_neg (by decide), if_neg (by decide), if_neg (by decide), if_neg (by decide), if_pos (by decide), ix_nI (by omega), hS.P1 rfl ⟨hq, hn⟩]
          rcases n2_01 b8 with e | e
          · rw [e, if_pos rfl]
          · rw [e, if_neg i10]
        · unfold R_process
          rw [R_isNow_e, bnd_s, g2, bnd_s, if_neg i10, f2, bnd_s, if_neg i10, lett_e, if_neg (by decide), show R_of (nI q) (nI 8) (R0 R) = _ from R_of_m hB q 8 rfl rfl (by omega), bnd_s]
      · refine ⟨gI R 16 (18 + 14 * q + 9), ?_, ?_⟩
        · unfold C_process
          rw [g1, bnd_s, if_neg i10, ald_n (by omega) (by omega), if_neg (by decide), if_neg (by decide), if_neg (by decide), if_neg (by decide), if_neg (by decide), if_neg (by decide), if_neg (by decide), if_neg (by decide), if_neg (by decide), if_pos (by decide), ix_nI (by omega), hS.P9 rfl hq]
        · unfold R_process
          rw [R_isNow_e, bnd_s, g2, bnd_s, if_neg i10, f2, bnd_s, if_neg i10, lett_e, if_neg (by decide), show R_of (nI q) (nI 9) (R0 R) = _ from R_of_m hB q 9 rfl rfl (by omega), bnd_s]
      · refine ⟨gI R 16 (18 + 14 * q + 10), ?_, ?_⟩
        · unfold C_process
          rw [g1, bnd_s, if_neg i10, ald_n (by omega) (by omega), if_neg (by decide), if_neg (by decide), if_neg (by decide), if_neg (by decide), if_neg (by decide), if_neg (by decide), if_neg (by decide), if_neg (by decide), if_neg (by decide), if_neg (by decide), if_pos (by decide), ix_nI (by omega), hS.P10 rfl hq]
        · unfold R_process
          rw [R_isNow_e, bnd_s, g2, bnd_s, if_neg i10, f2, bnd_s, if_neg i10, lett_e, if_neg (by decide), show R_of (nI q) (nI 10) (R0 R) = _ from R_of_m hB q 10 rfl rfl (by omega), bnd_s]
      · refine ⟨gI R 16 (18 + 14 * q + 11), ?_, ?_⟩
        · unfold C_process
          rw [g1, bnd_s, if_neg i10, ald_n (by omega) (by omega), if_neg (by decide), if_neg (by decide), if_neg (by decide), if_neg (by decide), if_neg (by decide), if_neg (by decide), if_neg (by decide), if_neg (by decide), if_neg (by decide), if_neg (by decide), if_neg (by decide), if_pos (by decide), ix_nI (by omega), hS.P11 rfl hq]
        · unfold R_process
          rw [R_isNow_e, bnd_s, g2, bnd_s, if_neg i10, f2, bnd_s, if_neg i10, lett_e, if_neg (by decide), show R_of (nI q) (nI 11) (R0 R) = _ from R_of_m hB q 11 rfl rfl (by omega), bnd_s]
      · refine ⟨gI R 16 (18 + 14 * q + 12), ?_, ?_⟩
        · unfold C_process
          rw [g1, bnd_s, if_neg i10, ald_n (by omega) (by omega), if_neg (by decide), if_neg (by decide), if_neg (by decide), if_neg (by decide), if_neg (by decide), if_neg (by decide), if_neg (by decide), if_neg (by decide), if_neg (by decide), if_neg (by decide), if_neg (by decide), if_neg (by decide), if_pos (by decide), ix_nI (by omega), hS.P12 rfl hq]
        · unfold R_process
          rw [R_isNow_e, bnd_s, g2, bnd_s, if_neg i10, f2, bnd_s, if_neg i10, lett_e, if_neg (by decide), show R_of (nI q) (nI 12) (R0 R) = _ from R_of_m hB q 12 rfl rfl (by omega), bnd_s]
theorem mean_sim (h : Rl n P Q C R) (p : Int32) : ∃ a, C_mean p C = some a ∧ R_mean p R = some (a, R0 R) := by
  have hB : BB 0 := Or.inl rfl
  rcases h.pr p (R0_1 R) with ⟨⟨g1, g2⟩, -⟩ | ⟨q, hq, rfl, g1, g2⟩
  · refine ⟨-1, ?_, ?_⟩
    · unfold C_mean; rw [g1, bnd_s, if_pos rfl]
    · unfold R_mean; rw [R_isNow_e, bnd_s, g2, bnd_s, if_pos rfl]
  · obtain ⟨d0, ⟨s, t, c, ht, hS⟩, -, -⟩ := h.di hq
    have hn := hS.K.n6
    obtain ⟨-, d, l, d1, l1, dl, dt, lt⟩ := hS.CT.2 q hq
    have o9 : R_of (nI q) 9 (R0 R) = some (nI d) := (R_of_m hB q 9 rfl rfl (by omega)).trans (congrArg some d1)
    have o11 : R_of (nI q) 11 (R0 R) = some (nI l) := (R_of_m hB q 11 rfl rfl (by omega)).trans (congrArg some l1)
    by_cases hd : d = 0
    · subst hd
      refine ⟨-1, ?_, ?_⟩
      · unfold C_mean
        rw [g1, bnd_s, if_neg i10, ald_n (by omega) (by omega), ix_nI (by omega), hS.P9 rfl hq, d1, if_neg (by decide)]
      · unfold R_mean
        rw [R_isNow_e, bnd_s, g2, bnd_s, if_neg i10, o9, bnd_s, if_pos (by decide)]
    · obtain ⟨m1, v, m2, m3⟩ := mean_bits (l := l) (d := d) (by omega) dl (by omega) C (R0 R)
      refine ⟨v, ?_, ?_⟩
      · unfold C_mean
        rw [g1, bnd_s, if_neg i10, ald_n (by omega) (by omega), ix_nI (by omega), hS.P9 rfl hq, hS.P11 rfl hq, d1, l1, if_pos (lt_t 0 0 rfl (by omega) (by omega)), grd_t m1, m2, bnd_s]
      · unfold R_mean
        rw [R_isNow_e, bnd_s, g2, bnd_s, if_neg i10, o9, bnd_s, if_neg (neq_f 0 0 rfl hd (by omega) (by omega)), o11, bnd_s, bnd_s, grd_t m1, m3, bnd_s]
theorem fb_lt {F : Nat → UInt32} (h : FB F) {j : Nat} (hj : j < 20) : (F j).toNat < 2139095040 := by
  obtain ⟨f1, f2, f3, f4⟩ := h
  rcases (show j < 12 ∨ (12 ≤ j ∧ j < 18) ∨ j = 18 ∨ j = 19 by omega) with e | ⟨e1, e2⟩ | rfl | rfl
  · have := f1 j e; omega
  · have := f2 (j - 12) (by omega)
    rw [show 12 + (j - 12) = j by omega] at this
    omega
  · omega
  · omega
theorem nn_f {x : UInt32} (h : x.toNat < 2139095040) : FP.Core.val32 x ≠ .nan := f_nn (Nat.le_of_lt h) (Nat.le_refl _)
theorem bits_b {F : Nat → UInt32} (h : FB F) {j : Nat} (hj : j < 20) (M M' : Mm) : C_bitsOfFloat (F j) M = some (nI (F j).toNat) ∧ R_floatToIntBits_5c35a (F j) M' = some (nI (F j).toNat) := ⟨C_bits_m (fb_lt h hj) M, R_bits_m (nn_f (fb_lt h hj)) M'⟩
theorem bits_sim (h : Rl n P Q C R) (p : Int32) : ∃ a, C_bits p C = some a ∧ R_bits p R = some (a, R0 R) := by
  have hB : BB 0 := Or.inl rfl
  rcases h.hd with ⟨h8, g1, g2⟩ | ⟨h8, g1, g2⟩
  · refine ⟨-1, ?_, ?_⟩
    · unfold C_bits; rw [g1, bnd_s, if_pos rfl]
    · unfold R_bits; rw [R_isNow_e, bnd_s, show gI (R0 R) 0 0 = 0 from g2, if_pos rfl]
  · obtain ⟨d0, ⟨s, t, c, ht, hS⟩, -, -⟩ := h8
    rcases isIn_c (M := C) (M' := R0 R) p 0 1 0 1 rfl rfl (by omega) (by omega) with ⟨⟨-, f2⟩, f3⟩ | ⟨j, j1, j2, rfl, -, f2⟩
    · refine ⟨-1, ?_, ?_⟩
      · unfold C_bits; rw [g1, bnd_s, if_neg i10, if_neg (show ¬ p = (0 : Int32) from f3 0 (by omega) (by omega)), if_neg (show ¬ p = (1 : Int32) from f3 1 (by omega) (by omega))]
      · unfold R_bits; rw [R_isNow_e, bnd_s, show gI (R0 R) 0 0 = 1 from g2, if_neg i10, f2, bnd_s, if_pos rfl]
    · obtain ⟨e1, e2⟩ := bits_b hS.I.f (j := 18 + j) (by omega) C (R0 R)
      refine ⟨nI (gF R 17 (18 + j)).toNat, ?_, ?_⟩
      · unfold C_bits
        rcases (show j = 0 ∨ j = 1 by omega) with rfl | rfl
        · rw [g1, bnd_s, if_neg i10, if_pos (by decide), hS.f8, e1, bnd_s]
        · rw [g1, bnd_s, if_neg i10, if_neg (by decide), if_pos (by decide), hS.f9, e1, bnd_s]
      · unfold R_bits
        rw [R_isNow_e, bnd_s, show gI (R0 R) 0 0 = 1 from g2, if_neg i10, f2, bnd_s, if_neg i10, show R_part (18 + nI j) (R0 R) = _ from R_part_m hB (18 + j) (nB_18 j) (by omega), bnd_s, e2, bnd_s]
theorem lag_sim (h : Rl n P Q C R) (p : Int32) : ∃ a, C_lag p C = some a ∧ R_lag p R = some (a, R0 R) := by
  have hB : BB 0 := Or.inl rfl
  rcases h.pr p (R0_1 R) with ⟨⟨g1, g2⟩, -⟩ | ⟨q, hq, rfl, g1, g2⟩
  · refine ⟨-1, ?_, ?_⟩
    · unfold C_lag; rw [g1, bnd_s, if_pos rfl]
    · unfold R_lag; rw [R_isNow_e, bnd_s, g2, bnd_s, if_pos rfl]
  · obtain ⟨d0, ⟨s, t, c, ht, hS⟩, -, -⟩ := h.di hq
    have hn := hS.K.n6
    obtain ⟨m1, v, m2, m3⟩ := sub_bits (fb_lt hS.I.f (j := 0 + q) (by omega)) (fb_lt hS.I.f (j := 18) (by omega)) C (R0 R)
    refine ⟨v, ?_, ?_⟩
    · unfold C_lag
      rw [g1, bnd_s, if_neg i10, ald_n (by omega) (by omega), ix_nI (by omega), hS.F0 rfl ⟨hq, hn⟩, hS.f8, grd_t m1, m2, bnd_s]
    · unfold R_lag
      rw [R_isNow_e, bnd_s, g2, bnd_s, if_neg i10, show R_part (0 + nI q) (R0 R) = _ from R_part_m hB (0 + q) (nB_0 q) (by omega), bnd_s, show R_part 18 (R0 R) = _ from R_part_m hB 18 rfl (by omega), bnd_s, grd_t m1, m3, bnd_s]
theorem kept_sim (h : Rl n P Q C R) (p w : Int32) : ∃ a, C_kept p w C = some a ∧ R_kept p w R = some (a, R0 R) := by
  have hB : BB 0 := Or.inl rfl
  obtain ⟨T, T1, T2, T3, T4⟩ : ∃ T, gI C 32 1 = nI T ∧ T < 16000 ∧ gI R 16 9 = nI (min T 40) ∧ ∀ i w, i < min T 40 → w < 4 → gI C 33 ((T - min T 40 + i) % 40 * 4 + w) = gI R 16 (598 + 4 * i + w) := by
    rcases h.2.2.2.2.2.2.2.1 with h8 | h8
    · obtain ⟨n0, d0, d1, ⟨r6, r7, r9, r61, r55⟩, ⟨q0, q11⟩, c6, c7, c10, c12, c14, c15, c16, c17, c11, c32⟩ := h8
      exact ⟨0, c32, by omega, r9, fun i w hi => by omega⟩
    · obtain ⟨d0, ⟨s, t, c, ht, hS⟩, -, -⟩ := h8
      obtain ⟨T, T1, T2, T3, T4⟩ := hS.KR
      exact ⟨T, T1, by omega, T3, T4⟩
  have hk : S_KTold (sbM (emS 26 P) C) = some (nI (min T 40)) := by
    unfold S_KTold
    rw [show gI (sbM (emS 26 P) C) 6 1 = nI T from T1, told_n (by omega)]
  have i9 : R_its 9 (R0 R) = some (nI (min T 40)) := (R_its_k9 hB).trans (congrArg some T3)
  rcases int_c p with e | ⟨k, hk2, rfl⟩
  · refine ⟨-1, ?_, ?_⟩
    · unfold C_kept; rw [if_pos e]
    · unfold R_kept R_isIn; rw [R_isNow_e, bnd_s, i9, bnd_s, if_pos e, bnd_s, if_pos rfl]
  · by_cases h1 : k < min T 40
    · rcases isIn_c (M := C) (M' := R0 R) w 0 3 0 3 rfl rfl (by omega) (by omega) with ⟨⟨-, f2⟩, f3⟩ | ⟨j, j1, j2, rfl, -, f2⟩
      · refine ⟨-1, ?_, ?_⟩
        · unfold C_kept
          rw [if_neg (nI_pos hk2), plnS_e _ h.1.2.2.2.1 h.PQ, hk, bnd_s, if_pos ((nI_ltI hk2 (by omega)).mpr h1), plnS_e _ h.1.2.2.2.1 h.PQ]
          unfold S_KTell
          rcases int_c w with e | ⟨k, hk3, rfl⟩
          · rw [if_pos e]; rfl
          · have : ¬ k ≤ 3 := fun e => f3 k (by omega) e rfl
            rw [if_neg (nI_pos hk3), if_neg (nlt_f 4 4 rfl (by omega) hk3)]
            rfl
        · unfold R_kept
          rw [R_isNow_e, bnd_s, i9, bnd_s, nS_1 (by omega)]
          rcases isIn_c (M := C) (M' := R0 R) (nI k) 0 (nI (min T 40 - 1)) 0 (min T 40 - 1) rfl rfl (by omega) (by omega) with ⟨-, g3⟩ | ⟨j, -, -, -, -, g2⟩
          · exact absurd rfl (g3 k (by omega) (by omega))
          · rw [g2, bnd_s, if_neg i10, f2, bnd_s, if_pos rfl]
      · refine ⟨gI R 16 (598 + 4 * k + j), ?_, ?_⟩
        · unfold C_kept
          rw [if_neg (nI_pos hk2), plnS_e _ h.1.2.2.2.1 h.PQ, hk, bnd_s, if_pos ((nI_ltI hk2 (by omega)).mpr h1), plnS_e _ h.1.2.2.2.1 h.PQ]
          unfold S_KTell
          rw [if_neg (nI_pos (by omega)), if_pos (nlt_t 4 4 rfl (by omega) (by omega)), hk, bnd_s, show gI (sbM (emS 26 P) C) 6 1 = nI T from T1, pk_sub (by omega), nI_add, lett_e, if_pos (nI_pos' (by omega)), show (40 : Int32) = nI 40 from rfl, pk_rem (by omega) (by omega) (by omega), nN_4, nI_add, ald_n (by omega) (by omega), ix_nI (by omega)]
          rw [show gI (sbM (emS 26 P) C) 7 ((T - min T 40 + k) % 40 * 4 + j) = gI C 33 ((T - min T 40 + k) % 40 * 4 + j) from rfl, T4 k j h1 (by omega)]
          rfl
        · unfold R_kept
          rw [R_isNow_e, bnd_s, i9, bnd_s, nS_1 (by omega)]
          rcases isIn_c (M := C) (M' := R0 R) (nI k) 0 (nI (min T 40 - 1)) 0 (min T 40 - 1) rfl rfl (by omega) (by omega) with ⟨-, g3⟩ | ⟨j2, -, -, -, -, g2⟩
          · exact absurd rfl (g3 k (by omega) (by omega))
          · rw [g2, bnd_s, if_neg i10, f2, bnd_s, if_neg i10, nM_4, nB_598, nI_add, show R_its (nI (598 + 4 * k + j)) (R0 R) = _ from rin hB (by omega), bnd_s]
    · refine ⟨-1, ?_, ?_⟩
      · unfold C_kept
        rw [if_neg (nI_pos hk2), plnS_e _ h.1.2.2.2.1 h.PQ, hk, bnd_s, if_neg (fun e => h1 ((nI_ltI hk2 (by omega)).mp e))]
      · unfold R_kept R_isIn
        rw [R_isNow_e, bnd_s, i9, bnd_s, if_neg (nI_pos hk2), if_pos, bnd_s, if_pos rfl]
        by_cases h0 : min T 40 = 0
        · rw [h0]
          have e1 : nI 0 - 1 = (-1 : Int32) := by decide
          rw [e1, i32_lt, nI_toInt hk2]
          have : (-1 : Int32).toInt = -1 := by decide
          omega
        · rw [nS_1 (by omega)]
          exact (nI_ltI (by omega) hk2).mpr (by omega)

theorem queue_sim (h : Rl n P Q C R) (p w : Int32) : ∃ a, C_queue p w C = some a ∧ R_queue p w R = some (a, R0 R) := by
  have hB : BB 0 := Or.inl rfl
  rcases h.pr p (R0_1 R) with ⟨⟨g1, g2⟩, -⟩ | ⟨q, hq, rfl, g1, g2⟩
  · refine ⟨-1, ?_, ?_⟩
    · unfold C_queue; rw [g1, bnd_s, if_pos rfl]
    · unfold R_queue; rw [R_isNow_e, bnd_s, g2, bnd_s, if_pos rfl]
  · obtain ⟨d0, ⟨s, t, c, ht, hS⟩, -, -⟩ := h.di hq
    have hn := hS.K.n6
    have hc := hS.I.c1
    have e := hS.mk
    obtain ⟨x, hx, hx2⟩ := (hS.I.q q hq).2.2.1
    have ely : R_lying (nI q) (R0 R) = some (aLy (gI R 16) (nI q) c) := R_lying_m hB hS.I.c0 (by omega)
    have efar : R_far (nI q) (R0 R) = some (aFar (gI R 16) q) := R_far_m hB q rfl (by omega)
    have ewt : R_weightOf (nI q) (R0 R) = some (aWt R (gI R 16) q) := R_weightOf_m hB q rfl (by omega)
    have cwt : S_weightOf (nI q) (sbM (emS 26 P) C) = some (aWt R (gI R 16) q) := by
      have := S_weightOf_m (E := sbM (emS 26 P) C) (D := gI R 16) (F := gF R 17) hS.L.1 (q := q) ⟨hq, hn⟩
      rwa [e] at this
    have cfar : S_QFarJumps (9 + 2 * q) (sbM (emS 26 P) C) = some (aFar (gI R 16) q) := by
      unfold S_QFarJumps
      rw [← e, sQ_5 _ _ _ ⟨hq, hn⟩, hx2, bitCount_far hx, bnd_s]
      rw [aFar_N, hx2]
    have cb : S_isBacklogged (nI q) (sbM (emS 26 P) C) = some (if nI q = gI R 16 2 then 0 else if aLy (gI R 16) (nI q) c ≤ 0 then 0 else 1) := by
      unfold S_isBacklogged
      rw [← e, s0_11, ald_n (by omega) (by omega), ix_nI (by omega), sQ_8 _ _ _ ⟨hq, hn⟩, hS.X.2.1 q hq]
      split
      · rfl
      · split <;> rfl
    have csv : gI R 16 2 = nI q → gI C 26 13 = gI R 16 (102 + 8 * q + 1) := fun e2 => hS.X.2.2.2 q hq e2
    by_cases h0 : w = 0
    · subst h0
      refine ⟨aLy (gI R 16) (nI q) c, ?_, ?_⟩
      · unfold C_queue
        rw [g1, bnd_s, if_neg i10, ald_n (by omega) (by omega), if_pos rfl, ix_nI (by omega), hS.Q8 rfl hq]
      · unfold R_queue
        rw [R_isNow_e, bnd_s, g2, bnd_s, if_neg i10, if_pos rfl, ely, bnd_s]
    by_cases h1 : w = 1
    · subst h1
      refine ⟨gI R 16 (102 + 8 * q + 0), ?_, ?_⟩
      · unfold C_queue
        rw [g1, bnd_s, if_neg i10, ald_n (by omega) (by omega), if_neg (by decide), if_pos rfl, ix_nI (by omega), hS.Q3 rfl ⟨hq, hn⟩]
      · unfold R_queue
        rw [R_isNow_e, bnd_s, g2, bnd_s, if_neg i10, if_neg (by decide), if_pos rfl, show R_ofQueue (nI q) 0 (R0 R) = _ from R_ofQueue_m hB q 0 rfl rfl (by omega), bnd_s]
    by_cases h2 : w = 2
    · subst h2
      refine ⟨if gI R 16 2 = nI q then gI R 16 (102 + 8 * q + 1) else 0, ?_, ?_⟩
      · unfold C_queue
        rw [g1, bnd_s, if_neg i10, ald_n (by omega) (by omega), if_neg (by decide), if_neg (by decide), if_pos rfl, hS.g11]
        by_cases e2 : gI R 16 2 = nI q
        · rw [if_pos e2, if_pos e2, csv e2]
        · rw [if_neg e2, if_neg e2]
      · unfold R_queue
        rw [R_isNow_e, bnd_s, g2, bnd_s, if_neg i10, if_neg (by decide), if_neg (by decide), if_pos rfl, show R_its 2 (R0 R) = _ from R_its_k2 hB, bnd_s]
        by_cases e2 : gI R 16 2 = nI q
        · rw [if_pos e2, if_pos e2, show R_ofQueue (nI q) 1 (R0 R) = _ from R_ofQueue_m hB q 1 rfl rfl (by omega), bnd_s]
        · rw [if_neg e2, if_neg e2]
    by_cases h3 : w = 3
    · subst h3
      refine ⟨gI R 16 (102 + 8 * q + 2), ?_, ?_⟩
      · unfold C_queue
        rw [g1, bnd_s, if_neg i10, ald_n (by omega) (by omega), if_neg (by decide), if_neg (by decide), if_neg (by decide), if_pos rfl, ix_nI (by omega), hS.Q4 rfl ⟨hq, hn⟩]
      · unfold R_queue
        rw [R_isNow_e, bnd_s, g2, bnd_s, if_neg i10, if_neg (by decide), if_neg (by decide), if_neg (by decide), if_pos rfl, show R_ofQueue (nI q) 2 (R0 R) = _ from R_ofQueue_m hB q 2 rfl rfl (by omega), bnd_s]
    by_cases h4 : w = 4
    · subst h4
      refine ⟨aFar (gI R 16) q, ?_, ?_⟩
      · unfold C_queue
        rw [g1, bnd_s, if_neg i10, ald_n (by omega) (by omega), if_neg (by decide), if_neg (by decide), if_neg (by decide), if_neg (by decide), if_pos rfl, ix_nI (by omega), plnS_e _ h.1.2.2.2.1 h.PQ, cfar, bnd_s]
      · unfold R_queue
        rw [R_isNow_e, bnd_s, g2, bnd_s, if_neg i10, if_neg (by decide), if_neg (by decide), if_neg (by decide), if_neg (by decide), if_pos rfl, efar, bnd_s]
    by_cases h5 : w = 5
    · subst h5
      refine ⟨if aFar (gI R 16) q < 5 then 0 else 1, ?_, ?_⟩
      · unfold C_queue
        rw [g1, bnd_s, if_neg i10, ald_n (by omega) (by omega), if_neg (by decide), if_neg (by decide), if_neg (by decide), if_neg (by decide), if_neg (by decide), if_pos rfl, ix_nI (by omega), plnS_e _ h.1.2.2.2.1 h.PQ]
        unfold S_QIsSeeky
        rw [cfar, bnd_s]
        split <;> rfl
      · unfold R_queue
        rw [R_isNow_e, bnd_s, g2, bnd_s, if_neg i10, if_neg (by decide), if_neg (by decide), if_neg (by decide), if_neg (by decide), if_neg (by decide), if_pos rfl, efar, bnd_s]
        split <;> rfl
    by_cases h6 : w = 6
    · subst h6
      refine ⟨gI R 16 (102 + 8 * q + 4), ?_, ?_⟩
      · unfold C_queue
        rw [g1, bnd_s, if_neg i10, ald_n (by omega) (by omega), if_neg (by decide), if_neg (by decide), if_neg (by decide), if_neg (by decide), if_neg (by decide), if_neg (by decide), if_pos rfl, ix_nI (by omega), hS.Q6 rfl ⟨hq, hn⟩]
      · unfold R_queue
        rw [R_isNow_e, bnd_s, g2, bnd_s, if_neg i10, if_neg (by decide), if_neg (by decide), if_neg (by decide), if_neg (by decide), if_neg (by decide), if_neg (by decide), if_pos rfl, show R_ofQueue (nI q) 4 (R0 R) = _ from R_ofQueue_m hB q 4 rfl rfl (by omega), bnd_s]
    by_cases h7 : w = 7
    · subst h7
      refine ⟨gI R 16 (102 + 8 * q + 5), ?_, ?_⟩
      · unfold C_queue
        rw [g1, bnd_s, if_neg i10, ald_n (by omega) (by omega), if_neg (by decide), if_neg (by decide), if_neg (by decide), if_neg (by decide), if_neg (by decide), if_neg (by decide), if_neg (by decide), if_pos rfl, ix_nI (by omega), hS.Q7 rfl ⟨hq, hn⟩]
      · unfold R_queue
        rw [R_isNow_e, bnd_s, g2, bnd_s, if_neg i10, if_neg (by decide), if_neg (by decide), if_neg (by decide), if_neg (by decide), if_neg (by decide), if_neg (by decide), if_neg (by decide), if_pos rfl, show R_ofQueue (nI q) 5 (R0 R) = _ from R_ofQueue_m hB q 5 rfl rfl (by omega), bnd_s]
    by_cases h8 : w = 8
    · subst h8
      refine ⟨aWt R (gI R 16) q, ?_, ?_⟩
      · unfold C_queue
        rw [g1, bnd_s, if_neg i10, ald_n (by omega) (by omega), if_neg (by decide), if_neg (by decide), if_neg (by decide), if_neg (by decide), if_neg (by decide), if_neg (by decide), if_neg (by decide), if_neg (by decide), if_pos rfl, plnS_e _ h.1.2.2.2.1 h.PQ, cwt, bnd_s]
      · unfold R_queue
        rw [R_isNow_e, bnd_s, g2, bnd_s, if_neg i10, if_neg (by decide), if_neg (by decide), if_neg (by decide), if_neg (by decide), if_neg (by decide), if_neg (by decide), if_neg (by decide), if_neg (by decide), if_pos rfl, ewt, bnd_s]
    by_cases h9 : w = 9
    · subst h9
      refine ⟨if nI q = gI R 16 2 then 0 else if aLy (gI R 16) (nI q) c ≤ 0 then 0 else 1, ?_, ?_⟩
      · unfold C_queue
        rw [g1, bnd_s, if_neg i10, ald_n (by omega) (by omega), if_neg (by decide), if_neg (by decide), if_neg (by decide), if_neg (by decide), if_neg (by decide), if_neg (by decide), if_neg (by decide), if_neg (by decide), if_neg (by decide), if_pos rfl, plnS_e _ h.1.2.2.2.1 h.PQ, cb, bnd_s]
        split
        · rfl
        · split <;> rfl
      · unfold R_queue
        rw [R_isNow_e, bnd_s, g2, bnd_s, if_neg i10, if_neg (by decide), if_neg (by decide), if_neg (by decide), if_neg (by decide), if_neg (by decide), if_neg (by decide), if_neg (by decide), if_neg (by decide), if_neg (by decide), if_pos rfl, show R_its 2 (R0 R) = _ from R_its_k2 hB, bnd_s, ely, bnd_s]
        by_cases e2 : gI R 16 2 = nI q
        · rw [if_pos e2, if_pos e2.symm]
        · rw [if_neg e2, if_neg (show ¬ nI q = gI R 16 2 from fun e => e2 e.symm)]
          split <;> rfl
    by_cases h10 : w = 10
    · subst h10
      refine ⟨nI (gF R 17 (0 + q)).toNat, ?_, ?_⟩
      · unfold C_queue
        rw [g1, bnd_s, if_neg i10, ald_n (by omega) (by omega), if_neg (by decide), if_neg (by decide), if_neg (by decide), if_neg (by decide), if_neg (by decide), if_neg (by decide), if_neg (by decide), if_neg (by decide), if_neg (by decide), if_neg (by decide), if_pos rfl, ix_nI (by omega), hS.F0 rfl ⟨hq, hn⟩, (bits_b hS.I.f (j := 0 + q) (by omega) C (R0 R)).1, bnd_s]
      · unfold R_queue
        rw [R_isNow_e, bnd_s, g2, bnd_s, if_neg i10, if_neg (by decide), if_neg (by decide), if_neg (by decide), if_neg (by decide), if_neg (by decide), if_neg (by decide), if_neg (by decide), if_neg (by decide), if_neg (by decide), if_neg (by decide), if_pos rfl, show R_part (0 + nI q) (R0 R) = _ from R_part_m hB (0 + q) (nB_0 q) (by omega), bnd_s, (bits_b hS.I.f (j := 0 + q) (by omega) C (R0 R)).2, bnd_s]
    by_cases h11 : w = 11
    · subst h11
      refine ⟨nI (gF R 17 (6 + q)).toNat, ?_, ?_⟩
      · unfold C_queue
        rw [g1, bnd_s, if_neg i10, ald_n (by omega) (by omega), if_neg (by decide), if_neg (by decide), if_neg (by decide), if_neg (by decide), if_neg (by decide), if_neg (by decide), if_neg (by decide), if_neg (by decide), if_neg (by decide), if_neg (by decide), if_neg (by decide), if_pos rfl, ix_nI (by omega), hS.F1 rfl ⟨hq, hn⟩, (bits_b hS.I.f (j := 6 + q) (by omega) C (R0 R)).1, bnd_s]
      · unfold R_queue
        rw [R_isNow_e, bnd_s, g2, bnd_s, if_neg i10, if_neg (by decide), if_neg (by decide), if_neg (by decide), if_neg (by decide), if_neg (by decide), if_neg (by decide), if_neg (by decide), if_neg (by decide), if_neg (by decide), if_neg (by decide), if_neg (by decide), if_pos rfl, show R_part (6 + nI q) (R0 R) = _ from R_part_m hB (6 + q) (nB_6 q) (by omega), bnd_s, (bits_b hS.I.f (j := 6 + q) (by omega) C (R0 R)).2, bnd_s]
    by_cases h12 : w = 12
    · subst h12
      refine ⟨nI (gF R 17 (12 + q)).toNat, ?_, ?_⟩
      · unfold C_queue
        rw [g1, bnd_s, if_neg i10, ald_n (by omega) (by omega), if_neg (by decide), if_neg (by decide), if_neg (by decide), if_neg (by decide), if_neg (by decide), if_neg (by decide), if_neg (by decide), if_neg (by decide), if_neg (by decide), if_neg (by decide), if_neg (by decide), if_neg (by decide), if_pos rfl, ix_nI (by omega), hS.F2 rfl ⟨hq, hn⟩, (bits_b hS.I.f (j := 12 + q) (by omega) C (R0 R)).1, bnd_s]
      · unfold R_queue
        rw [R_isNow_e, bnd_s, g2, bnd_s, if_neg i10, if_neg (by decide), if_neg (by decide), if_neg (by decide), if_neg (by decide), if_neg (by decide), if_neg (by decide), if_neg (by decide), if_neg (by decide), if_neg (by decide), if_neg (by decide), if_neg (by decide), if_neg (by decide), if_pos rfl, show R_part (12 + nI q) (R0 R) = _ from R_part_m hB (12 + q) (nB_12 q) (by omega), bnd_s, (bits_b hS.I.f (j := 12 + q) (by omega) C (R0 R)).2, bnd_s]
    refine ⟨-1, ?_, ?_⟩
    · unfold C_queue
      rw [g1, bnd_s, if_neg i10, ald_n (by omega) (by omega), if_neg h0, if_neg h1, if_neg h2, if_neg h3, if_neg h4, if_neg h5, if_neg h6, if_neg h7, if_neg h8, if_neg h9, if_neg h10, if_neg h11, if_neg h12]
    · unfold R_queue
      rw [R_isNow_e, bnd_s, g2, bnd_s, if_neg i10, if_neg h0, if_neg h1, if_neg h2, if_neg h3, if_neg h4, if_neg h5, if_neg h6, if_neg h7, if_neg h8, if_neg h9, if_neg h10, if_neg h11, if_neg h12]
end READ
