/-! PURE: disk(), the relation again -/
section DISK2
variable {n P Q : Nat} {C R : Mm}
theorem disk_sim (h : Rl n P Q C R) : ∃ a n' P' Q' C' R', C_disk C = some (a, C') ∧ R_disk R = some (a, R') ∧ Rl n' P' Q' C' R' := by
  obtain ⟨⟨p1, p2, p3, p4, p5⟩, ⟨l, l1, l2, l3, l4⟩, h3, h4, h5, h6, h7, h8, h9⟩ := h
  have hQ : Q = 1 ∨ Q = 10 := by omega
  have hP : P = 1 ∨ P = 10 := by omega
  have hPQ : P + 9 ≤ Q ∨ Q + 9 ≤ P := by omega
  obtain ⟨C4, c1, c2, c3, c4⟩ := clear_C hQ C
  have hw : ∀ i, i < l → gI R 13 i = nI (ix (gI R 13 i)) ∧ ix (gI R 13 i) < 256 := fun i hi => by
    have := isN_ix (l4 i hi).1 (by omega)
    exact ⟨this.2, this.1⟩
  have g4 : gdW 25 C4 = true := gdW_of (fun i hi => by show okW (C4.2.2.2 25 i) = true; rw [c4]; exact gdW_at p5 hi)
  obtain ⟨v, C8, R6, t1, t2, t3, t4, t5, t6, t7, t8⟩ := text_sim (Q := Q) (C := C4) (R := dk5 R) (l := l) (B := fun i => ix (gI R 13 i)) hQ l1 (fun i hi => (hw i hi).2) ((c3 _ _ (by omega)).trans l2) (fun i hi => ((c3 _ _ (by omega)).trans (l4 i hi).2).trans (hw i hi).1) g4 c2 l3 (fun i hi => (dk5_o (by omega)).trans (hw i hi).1) (fun i hi => (dk5_o (by omega)).trans (h3.2.2 i hi)) rfl rfl rfl
  have q4 : ∀ a i, gR C4 a i = gR C a i := fun a i => by show C4.2.2.2 a i = C.2.2.2 a i; rw [c4]
  have eC := diskC_e hQ hP p1 p2 c1 c4 t1 ((t5.2.2.2 _ _ (by omega) (by omega)).trans ((q4 _ _).trans p1)) ((t5.2.2.2 _ _ (by omega) (by omega)).trans ((q4 _ _).trans p2))
  have eR := diskR_e t2
  obtain ⟨C12, hC12⟩ : ∃ X, X = sI (sI (sI C8 19 1 0) 0 13 (gI C8 21 8)) 0 14 (gI C8 21 9) := ⟨_, rfl⟩
  obtain ⟨R9, hR9⟩ : ∃ X, X = sI (sI R6 0 41 (gI R6 0 46)) 0 42 (gI R6 0 47) := ⟨_, rfl⟩
  rw [← hC12] at eC
  rw [← hR9] at eR
  have d8 : ∀ a i, ¬ (a = 19 ∧ i = 1) → ¬ (a = 0 ∧ (i = 13 ∨ i = 14)) → gI C12 a i = gI C8 a i := fun a i q1 q2 => by rw [hC12, gw_n _ _ _ _ (by omega), gw_n _ _ _ _ (by omega), gw_n _ _ _ _ (by omega)]
  have cI : ∀ a i, ¬ (Q ≤ a ∧ a < Q + 9) → ¬ (21 ≤ a ∧ a ≤ 25) → ¬ (a = 19 ∧ i = 1) → ¬ (a = 0 ∧ (i = 13 ∨ i = 14)) → gI C12 a i = gI C a i := fun a i q1 q2 q3 q4 => by
    rw [d8 a i q3 q4, t5.1 _ _ q2 q1, c3 _ _ (by omega)]
  have cF : ∀ a i, gF C12 a i = gF C a i := fun a i => by
    have : gF C12 a i = gF C8 a i := by rw [hC12]; rfl
    rw [this, t5.2.1]
    show C4.2.1 a i = C.2.1 a i
    rw [c4]
  have cL : ∀ a i, gL C12 a i = gL C a i := fun a i => by
    have : gL C12 a i = gL C8 a i := by rw [hC12]; rfl
    rw [this, t5.2.2.1]
    show C4.2.2.1 a i = C.2.2.1 a i
    rw [c4]
  have cR : ∀ a i, a ≠ 25 → ¬ (a = 21 ∧ i = 5) → gR C12 a i = gR C a i := fun a i q1 q2 => by
    have : gR C12 a i = gR C8 a i := by rw [hC12]; rfl
    rw [this, t5.2.2.2 _ _ q1 q2, q4]
  have cW : gdW 25 C12 = true := by rw [hC12]; exact t7
  have c13 : gI C12 0 13 = gI C8 21 8 := by rw [hC12, gw_n _ _ _ _ (by omega), gw_s]
  have c14 : gI C12 0 14 = gI C8 21 9 := by rw [hC12, gw_s]
  have c19 : gI C12 19 1 = 0 := by rw [hC12, gw_n _ _ _ _ (by omega), gw_n _ _ _ _ (by omega), gw_s]
  have r9 : ∀ a i, ¬ (a = 0 ∧ (i = 41 ∨ i = 42)) → gI R9 a i = gI R6 a i := fun a i q => by rw [hR9, gw_n _ _ _ _ (by omega), gw_n _ _ _ _ (by omega)]
  have rI : ∀ a i, ¬ (a = 0 ∧ ((19 ≤ i ∧ i ≤ 31) ∨ i = 39 ∨ (41 ≤ i ∧ i ≤ 47))) → ¬ (7 ≤ a ∧ a ≤ 12) → gI R9 a i = gI R a i := fun a i q1 q2 => by
    rw [r9 _ _ (by omega), t6.1 _ _ (by omega) (by omega) q2, dk5_o (by omega)]
  have r2 : R9.2 = R.2 := by
    have : R9.2 = R6.2 := by rw [hR9]; rfl
    rw [this, t6.2]; rfl
  have r41 : gI R9 0 41 = gI R6 0 46 := by rw [hR9, gw_n _ _ _ _ (by omega), gw_s]
  have r42 : gI R9 0 42 = gI R6 0 47 := by rw [hR9, gw_s]
  have r39 : gI R9 0 39 = 0 := by
    rw [r9 _ _ (by omega), t6.1 _ _ (by omega) (by omega) (by omega)]; rfl
  have tp : Tp C12 R9 := ⟨0, by omega, c19, r39, fun i hi => absurd hi (by omega)⟩
  have fl : Fl C12 R9 := ⟨c13.trans (t3.trans r41.symm), c14.trans (t4.trans r42.symm), fun i hi => (rI _ _ (by omega) (by omega)).trans (h3.2.2 i hi)⟩
  have rf : Rf C12 R9 := h4.fr (fun a k e => cI a k (by omega) (by omega) (by omega) (by omega)) (fun a k e => rI a k (by omega) (by omega))
  have sd : Sd C12 R9 := h5.fr (cL _ _) (rI _ _ (by omega) (by omega))
  have pc : Pc C12 R9 := h6.fr (fun a k e => cI a k (by omega) (by omega) (by omega) (by omega)) (fun a k e => rI a k (by omega) (by omega))
  by_cases f8 : gI C8 21 8 = 0
  · obtain ⟨s, c, m, ⟨u1, u2, u3, ⟨lo, hi, u4, u5, u6, u7, u8⟩, u9, u10, u11, u12, u13, u14⟩, ⟨w1, w2, w3, w4, w5, w6, w7⟩, -⟩ := t8 f8
    obtain ⟨X, x1, x2, x3, x4, x5, x6, y0, y1, y2, y3, y4, y5, y6, y7, y8, y9, y10, y11, y12⟩ := tells_m (R := R9) (c := c) ((r9 _ _ (by omega)).trans w2) w3
    have y1' : gI X 0 1 = nI c := y1.trans ((r9 _ _ (by omega)).trans w2)
    have e20 : ∀ j, 19 ≤ j → j ≤ 30 → gI R9 0 j = gI R6 0 j := fun j q1 q2 => r9 _ _ (by omega)
    have a7 : ∀ a i, 7 ≤ a → a ≤ 12 → gI R9 a i = gI R6 a i := fun a i q1 q2 => r9 _ _ (by omega)
    obtain ⟨D, k1, k2, k3, k4, k5⟩ := dk_m (X := X) v y1' w3 (fun p hp => by rw [(x4 p hp).1, a7 _ _ (by omega) (by omega)]; exact (w6 p hp).2.2.1.2) (by rw [y11, e20 _ (by omega) (by omega)]; exact u9) (by rw [y12, e20 _ (by omega) (by omega)]; exact u10)
    obtain ⟨M16, hM16⟩ : ∃ Y, Y = sR (sR C12 0 0 (some Q)) 0 1 (some P) := ⟨_, rfl⟩
    rw [← hM16, if_pos f8] at eC
    obtain ⟨C20, b1, b2, b3, ⟨b4, b5, b6, b7, b8, b9, b10, b11, b12⟩, b13, b14, b15, b16, b17⟩ := begin_C hQ M16
    rw [b1, bnd_s] at eC
    rw [if_pos (t3.symm.trans f8), x1, bnd_s, k1] at eR
    have m16 : ∀ a i, gI M16 a i = gI C12 a i := fun a i => by rw [hM16]; rfl
    have m16r : ∀ a i, ¬ (a = 0 ∧ (i = 0 ∨ i = 1)) → gR M16 a i = gR C12 a i := fun a i q => by
      rw [hM16]
      show (if a = 0 ∧ i = 1 then some P else if a = 0 ∧ i = 0 then some Q else C12.2.2.2 a i) = C12.2.2.2 a i
      rw [if_neg (by omega), if_neg (by omega)]
    obtain ⟨C22, hC22⟩ : ∃ Y, Y = sI (sI C20 0 8 0) 67 2 0 := ⟨_, rfl⟩
    obtain ⟨F0, hF0⟩ : ∃ F : Nat → UInt32, F = updD (fun _ => FP.fconst0) 19 (FP.i2f (gI X 0 4)) := ⟨_, rfl⟩
    obtain ⟨R17, hR17⟩ : ∃ Y, Y = sI (sI (mkR X 0 D F0) 0 55 0) 0 61 0 := ⟨_, rfl⟩
    rw [← hC22] at eC
    rw [← hF0, ← hR17] at eR
    have z20 : ∀ a i, ¬ (a = 0 ∧ i = 8) → ¬ (a = 67 ∧ i = 2) → gI C22 a i = gI C20 a i := fun a i q1 q2 => by rw [hC22, gw_n _ _ _ _ (by omega), gw_n _ _ _ _ (by omega)]
    have zI : ∀ a i, a < 26 ∨ 46 ≤ a → ¬ (a = 0 ∧ i = 8) → ¬ (a = 67 ∧ i = 2) → gI C22 a i = gI C12 a i := fun a i q0 q1 q2 => by rw [z20 a i q1 q2, b14 _ _ q0, m16]
    have zF : ∀ a i, gF C22 a i = gF C20 a i := fun a i => by rw [hC22]; rfl
    have zL : ∀ a i, gL C22 a i = gL C12 a i := fun a i => by
      have : gL C22 a i = gL C20 a i := by rw [hC22]; rfl
      rw [this, b16, hM16]; rfl
    have zR : ∀ a i, gR C22 a i = gR C20 a i := fun a i => by rw [hC22]; rfl
    have rX : ∀ a i, ¬ (a = 0 ∧ (i = 53 ∨ i = 54 ∨ i = 55 ∨ i = 61)) → a ≠ 16 → gI R17 a i = gI X a i := fun a i q1 q2 => by
      rw [hR17, gw_n _ _ _ _ (by omega), gw_n _ _ _ _ (by omega), mkR_o _ _ _ _ q2 (by omega)]
    have rY : ∀ a i, ¬ (a = 0 ∧ (i ≤ 12 ∨ i = 53 ∨ i = 54 ∨ i = 55 ∨ i = 61)) → ¬ (1 ≤ a ∧ a ≤ 6) → a ≠ 16 → gI R17 a i = gI R9 a i := fun a i q1 q2 q3 => by rw [rX _ _ (by omega) q3, x3 _ _ (by omega) q2]
    have pl : ∀ r i, r < 9 → gI C22 (Q + r) i = gI (sbP Q C8) (7 + r) i := fun r i hr => by
      rw [zI _ _ (by omega) (by omega) (by omega), d8 _ _ (by omega) (by omega)]
      show gI C8 (Q + r) i = gI C8 (emP 21 Q (7 + r)) i
      unfold emP
      rw [if_neg (by omega), if_neg (by omega), show 7 + r - 7 = r by omega]
    have plj : ∀ j, j < 11 → gI C22 Q j = gI R6 0 (20 + j) := fun j hj => (pl 0 j (by omega)).trans (u1 j hj)
    have c20Q : ∀ i, gI M16 Q i = gI C22 Q i := fun i => by rw [m16, zI _ _ (by omega) (by omega) (by omega)]
    have c20R : ∀ r i, r < 9 → gI M16 (Q + r) i = gI C22 (Q + r) i := fun r i hr => by rw [m16, zI _ _ (by omega) (by omega) (by omega)]
    -- the reference's plan
    have f2 : gI R17 0 2 = gI R6 0 20 := by rw [rX _ _ (by omega) (by omega), y2, e20 _ (by omega) (by omega)]
    have f3 : gI R17 0 3 = gI R6 0 21 := by rw [rX _ _ (by omega) (by omega), y3, e20 _ (by omega) (by omega)]
    have f4 : gI R17 0 4 = gI R6 0 22 := by rw [rX _ _ (by omega) (by omega), y4, e20 _ (by omega) (by omega)]
    have f5 : gI R17 0 5 = gI R6 0 23 := by rw [rX _ _ (by omega) (by omega), y5, e20 _ (by omega) (by omega)]
    have f6 : gI R17 0 6 = gI R6 0 24 := by rw [rX _ _ (by omega) (by omega), y6, e20 _ (by omega) (by omega)]
    have f7 : gI R17 0 7 = gI R6 0 27 := by rw [rX _ _ (by omega) (by omega), y7, e20 _ (by omega) (by omega)]
    have f8' : gI R17 0 8 = gI R6 0 28 := by rw [rX _ _ (by omega) (by omega), y8, e20 _ (by omega) (by omega)]
    have f9 : gI R17 0 9 = gI R6 0 29 := by rw [rX _ _ (by omega) (by omega), y9, e20 _ (by omega) (by omega)]
    have f10 : gI R17 0 10 = gI R6 0 30 := by rw [rX _ _ (by omega) (by omega), y10, e20 _ (by omega) (by omega)]
    have f1 : gI R17 0 1 = nI c := by rw [rX _ _ (by omega) (by omega), y1']
    have fa : ∀ p, p < c → gI R17 1 p = gI R6 7 p ∧ gI R17 2 p = gI R6 8 p ∧ gI R17 3 p = gI R6 9 p ∧ gI R17 4 p = gI R6 10 p := fun p hp => by
      obtain ⟨s1, s2, s3, s4⟩ := x4 p hp
      rw [rX _ _ (by omega) (by omega), rX _ _ (by omega) (by omega), rX _ _ (by omega) (by omega), rX _ _ (by omega) (by omega), s1, s2, s3, s4, a7 _ _ (by omega) (by omega), a7 _ _ (by omega) (by omega), a7 _ _ (by omega) (by omega), a7 _ _ (by omega) (by omega)]
      exact ⟨rfl, rfl, rfl, rfl⟩
    have f5a : ∀ i, i < 108 → gI R17 5 i = gI R6 11 i := fun i hi => by rw [rX _ _ (by omega) (by omega), x5 i hi, a7 _ _ (by omega) (by omega)]
    have f6a : ∀ i, i < 36 → gI R17 6 i = gI R6 12 i := fun i hi => by rw [rX _ _ (by omega) (by omega), x6 i hi, a7 _ _ (by omega) (by omega)]
    have hK : PK R17 c s := by
      refine ⟨⟨f1, w3⟩, ⟨f2.trans w4, w5⟩, ?_, ?_, ⟨lo, hi, f5.trans u4, f6.trans u5, u6, u7, u8⟩, ?_, ?_, ?_, ?_, fun p hp => ?_⟩
      · rw [f3]; exact u2
      · rw [f4]; exact u3
      · rw [f7]; exact u11
      · rw [f8']; exact u12
      · rw [f9]; exact u13
      · rw [f10]; exact u14
      · obtain ⟨-, ⟨-, s2⟩, -, -, k, s3, s4, s5, s6, s7⟩ := w6 p hp
        rw [(fa p hp).2.2.1, (fa p hp).2.2.2]
        refine ⟨s2, k, s3, s4, s6, fun j hj => ?_⟩
        rw [f5a _ (by omega), f5a _ (by omega), f5a _ (by omega)]
        exact (s7 j hj).2.2.2
    have hL : PL R17 c (sbM (emS 26 Q) C22) := by
      have eE : ∀ r i, gI (sbM (emS 26 Q) C22) (20 + r) i = gI C22 (Q + r) i := fun r i => by rw [sb_I, em_hi (by omega), show 20 + r - 20 = r by omega]
      refine ⟨⟨?_, ?_, ?_, ?_, ?_, ?_, ?_, ?_, ?_, ?_⟩, fun p hp => ?_, fun p hp => ?_, fun p j hp hj hk => ?_⟩
      · rw [f2]; exact (eE 0 0).trans (plj 0 (by omega))
      · rw [f3]; exact (eE 0 1).trans (plj 1 (by omega))
      · rw [f4]; exact (eE 0 2).trans (plj 2 (by omega))
      · rw [f5]; exact (eE 0 3).trans (plj 3 (by omega))
      · rw [f6]; exact (eE 0 4).trans (plj 4 (by omega))
      · rw [f7]; exact (eE 0 7).trans (plj 7 (by omega))
      · rw [f8']; exact (eE 0 8).trans (plj 8 (by omega))
      · rw [f9]; exact (eE 0 9).trans (plj 9 (by omega))
      · rw [f10]; exact (eE 0 10).trans (plj 10 (by omega))
      · rw [f1]; exact (eE 0 11).trans ((pl 0 11 (by omega)).trans w1)
      · rw [(fa p hp).2.2.1, eE 2 p, pl 2 p (by omega)]
        exact (w6 p hp).2.1
      · obtain ⟨-, -, -, -, k, s3, s4, s5, s6, s7⟩ := w6 p hp
        rw [(fa p hp).2.2.2, eE 5 p, pl 5 p (by omega)]
        exact s5.trans s6.symm
      · obtain ⟨-, -, -, -, k, s3, s4, s5, s6, s7⟩ := w6 p hp
        rw [(fa p hp).2.2.2, s6] at hk
        have jk := (nI_ltI (by omega) (by omega)).mp hk
        rw [eE 6, eE 7, eE 8, pl 6 _ (by omega), pl 7 _ (by omega), pl 8 _ (by omega), f5a _ (by omega), f5a _ (by omega), f5a _ (by omega)]
        exact ⟨(s7 j jk).1, (s7 j jk).2.1, (s7 j jk).2.2.1⟩
    have e5 : gI R17 0 5 = gI X 0 5 := rX _ _ (by omega) (by omega)
    have e6 : gI R17 0 6 = gI X 0 6 := rX _ _ (by omega) (by omega)
    have e4 : gI R17 0 4 = gI X 0 4 := rX _ _ (by omega) (by omega)
    have hIni : Ini R17 c D := by
      unfold Ini at k2 ⊢
      rw [e5, e6]
      exact k2
    have bud : gI R17 0 5 = gI M16 Q 3 ∧ gI R17 0 6 = gI M16 Q 4 := by
      rw [f5, f6, c20Q, c20Q, plj 3 (by omega), plj 4 (by omega)]
      exact ⟨rfl, rfl⟩
    have hS : StR R17 c s 0 0 D F0 C22 26 Q := by
      have := ini_StR (P := Q) (C := C22) hK hL hIni (by rw [zR]; exact b13) (by rw [z20 _ _ (by omega) (by omega)]; exact b4) (by rw [z20 _ _ (by omega) (by omega)]; exact b5) (by rw [z20 _ _ (by omega) (by omega)]; exact b6) (by rw [z20 _ _ (by omega) (by omega), bud.2]; exact b7) (by
          rw [z20 _ _ (by omega) (by omega), k3, y11, e20 _ (by omega) (by omega), b8, c20Q, plj 5 (by omega)]) (by
          rw [z20 _ _ (by omega) (by omega), k4, y12, e20 _ (by omega) (by omega), b9, c20Q, plj 6 (by omega)]) (fun k hk => by rw [z20 _ _ (by omega) (by omega)]; exact b10 k hk) (fun p hp => by
          obtain ⟨s1, s2, s3, s4, s5⟩ := b2 p (by omega)
          obtain ⟨o1, o2, o3⟩ := k5 p hp
          have zz : ∀ k, gI C22 (34 + 2 * p) k = gI C20 (34 + 2 * p) k := fun k => z20 _ _ (by omega) (by omega)
          rw [zz, zz, zz, zz, o1, o2, o3, s1, s2, s3, s4, (x4 p hp).1, (x4 p hp).2.1, a7 _ _ (by omega) (by omega), a7 _ _ (by omega) (by omega), c20R 3 p (by omega), c20R 4 p (by omega), pl 3 p (by omega), pl 4 p (by omega)]
          exact ⟨(w6 p hp).2.2.1.1, rfl, (w6 p hp).2.2.2.1.1, rfl, fun k hk => (zz k).trans (s5 k hk)⟩) (fun p hp => by
          obtain ⟨s1, s2, s3⟩ := b3 p (by omega)
          have zz : ∀ k, gI C22 (35 + 2 * p) k = gI C20 (35 + 2 * p) k := fun k => z20 _ _ (by omega) (by omega)
          rw [zz, bud.1, bud.2]
          exact ⟨s1, fun k hk => (zz k).trans (s2 k hk), fun k hk => (zF _ _).trans (s3 k hk)⟩) (by rw [zF]; exact b11) (by rw [zF, f4, b12, c20Q, plj 2 (by omega)])
      rw [e4, ← hF0] at this
      exact this
    have hD16 : ∀ j, j < 758 → gI R17 16 j = D j := fun j hj => by
      rw [hR17, gw_n _ _ _ _ (by omega), gw_n _ _ _ _ (by omega)]
      have := mkR_16 X 0 D F0 hj
      rwa [Nat.zero_add] at this
    have hF17 : ∀ j, j < 20 → gF R17 17 j = F0 j := fun j hj => by
      rw [hR17]
      have := mkR_17 X 0 D F0 hj
      rw [show pB 0 + j = j from by show 0 + j = j; omega] at this
      exact this
    refine ⟨v, c, Q, P, C22, R17, eC, eR, ⟨?_, ?_, by omega, ?_, ?_⟩, ?_, ?_, ?_, ?_, ?_, ?_, Or.inr ⟨?_, ⟨s, 0, 0, by omega, ?_⟩, fun p k hp hk => ?_, fun p hp => ?_⟩, ?_⟩
    · rw [zR, b17 _ _ (by omega), hM16]; rfl
    · rw [zR, b17 _ _ (by omega), hM16]; rfl
    · rw [zR]; exact b13
    · refine gdW_of (fun i hi => ?_)
      rw [zR, b17 _ _ (by omega), m16r _ _ (by omega)]
      exact gdW_at cW hi
    · exact tp.fr (fun a k e => zI _ _ (by omega) (by omega) (by omega)) (fun a k e => rY _ _ (by omega) (by omega) (by omega))
    · exact fl.fr (fun a k e => zI _ _ (by omega) (by omega) (by omega)) (fun a k e => rY _ _ (by omega) (by omega) (by omega))
    · exact rf.fr (fun a k e => zI _ _ (by omega) (by omega) (by omega)) (fun a k e => rY _ _ (by omega) (by omega) (by omega))
    · exact sd.fr (zL _ _) (rY _ _ (by omega) (by omega) (by omega))
    · exact pc.fr (fun a k e => zI _ _ (by omega) (by omega) (by omega)) (fun a k e => rY _ _ (by omega) (by omega) (by omega))
    · exact ⟨0, by omega, by rw [hC22, gw_s]; rfl, by rw [hR17, gw_s]; rfl, fun i hi => absurd hi (by omega)⟩
    · rw [rX _ _ (by omega) (by omega)]; exact y0
    · exact hS.fr (SP.rf _) hD16 hF17 (fun a k e => rfl) (fun a k e => rfl) rfl
    · rw [pl 1 _ (by omega), f6a _ (by omega)]
      exact (w6 p hp).1 k hk
    · rw [pl 4 _ (by omega), (fa p hp).2.1]
      exact (w6 p hp).2.2.2.1.1
    · obtain ⟨u, pn, v1, v2, v3, v4, v5, v6⟩ := h9
      refine ⟨0, pn, by omega, v2, by rw [hC22, gw_n _ _ _ _ (by omega), gw_s]; rfl, ?_, by rw [hR17, gw_n _ _ _ _ (by omega), gw_s]; rfl, fun i hi => absurd hi (by omega)⟩
      rw [zI _ _ (by omega) (by omega) (by omega), cI _ _ (by omega) (by omega) (by omega) (by omega)]
      exact v4
  · rw [if_neg f8, C_ref_1, bnd_s] at eC
    rw [if_neg (fun e => f8 (t3.trans e)), R_ref_1, bnd_s] at eR
    have rl : Rl n P Q C12 R9 := by
      refine ⟨⟨(cR _ _ (by omega) (by omega)).trans p1, (cR _ _ (by omega) (by omega)).trans p2, p3, (cR _ _ (by omega) (by omega)).trans p4, cW⟩, tp, fl, rf, sd, pc, h7.fr (fun a k e => cI _ _ (by omega) (by omega) (by omega) (by omega)) (fun a k e => rI _ _ (by omega) (by omega)), ?_, h9.fr (fun a k e => cI _ _ (by omega) (by omega) (by omega) (by omega)) (fun a k e => cF _ _) (fun a e => cR _ _ (by omega) (by omega)) (fun a k e => rI _ _ (by omega) (by omega)) (fun k => by show R9.2.1 19 k = R.2.1 19 k; rw [r2])⟩
      rcases h8 with h8 | h8
      · exact Or.inl (h8.fr (fun a k e => cI _ _ (by omega) (by omega) (by omega) (by omega)) (fun a k e => rI _ _ (by omega) (by omega)))
      · exact Or.inr (h8.fr (fun a k e => cI _ _ (by omega) (by omega) (by omega) (by omega)) (fun a k e => cF _ _) (cR _ _ (by omega) (by omega)) (fun a k e => rI _ _ (by omega) (by omega)) (fun k e => by show R9.2.1 17 k = R.2.1 17 k; rw [r2]))
    exact ⟨-1, n, P, Q, _, _, eC, eR, rl.ref 1⟩
end DISK2
