/-! PURE: ticks, asking by hand, chance -/
section RUNS
variable {n P Q : Nat} {C X R : Mm}
theorem Rl.di1 (h : Rl n P Q C R) (h0 : gI R 0 0 = 1) : Di n P C R := by
  rcases h.2.2.2.2.2.2.2.1 with h8 | h8
  · exact absurd (h0.symm.trans h8.2.1) i10
  · exact h8
theorem R0_mk (m : Mm) (D : Nat → Int32) (F : Nat → UInt32) : R0 (mkR m 0 D F) = mkR m 0 D F := R0_self rfl rfl
theorem in_plan {B a k : Nat} {M' : Mm} (hB : B = 26 ∨ B = 46) (hP : P = 1 ∨ P = 10) (h1 : P ≤ a) (h2 : a < P + 9) : gI (inM (dmS B P) kpS C M') a k = gI M' (20 + (a - P)) k := by
  have h := (emS_ok B hB P hP (20 + (a - P)) (by omega)).2
  rw [em_hi (by omega), show P + (20 + (a - P) - 20) = a by omega] at h
  show (match dmS B P a with | some r => M'.1 r k | none => C.1 a k) = _
  rw [h]
  rfl
/-- back in the class after something of the state was done -/
theorem back_sim (h : Rl n P Q C X) (h8 : Di n P C X) {s t c : Nat} {D' : Nat → Int32} {F' : Nat → UInt32} {E' m1 : Mm} (hM : MR m1 n s t c D' F' E') (ht : t ≤ 9999) (hE : ∀ r k, 20 ≤ r → gI E' r k = gI (sbM (emS 26 P) C) r k) (r1 : ∀ a k, ¬ (a = 0 ∧ k = 56) → gI m1 a k = gI X a k) (r2 : m1.2 = X.2) : Rl n P Q (inM (dmS 26 P) kpS C (mkS n E' D' F')) (mkR m1 0 D' F') ∧ Di n P (inM (dmS 26 P) kpS C (mkS n E' D' F')) (mkR m1 0 D' F') := by
  have hPl := h.1.le
  have hPQ := h.PQ
  have hS := StR.back (MC := C) hM h.1.2.2.2.1 (Or.inl rfl) hPQ
  have h9 := h.st h8 hS ht (fun a k e => ?_) (fun a k e => in_F (by omega) (by omega)) (fun _ _ => in_L) (fun _ _ => in_R) r1 r2
  · refine ⟨h9, h9.di1 ?_⟩
    rw [mkR_o _ _ _ _ (by omega) (by omega), r1 _ _ (by omega)]
    exact h8.1
  · by_cases e2 : P ≤ a ∧ a < P + 9
    · rw [in_plan (Or.inl rfl) hPQ e2.1 e2.2, mkS_n _ _ _ (locI_hi (by omega) k), hE _ _ (by omega), sb_I, em_hi (by omega), show P + (20 + (a - P) - 20) = a by omega]
    · exact in_I (by omega) (by omega)
theorem run_sim (h : Rl n P Q C X) (h8 : Di n P C X) (hx : R0 X = X) {t N : Nat} (ht : gI X 16 0 = nI t) (ht2 : t < 20000) (htN : t + N ≤ 9999) : ∃ x R', S_run (nI N) (sbM (emS 26 P) C) = some x ∧ R_goesOnFor (nI N) X = some R' ∧ R0 R' = R' ∧ Rl n P Q (inM (dmS 26 P) kpS C x) R' ∧ Di n P (inM (dmS 26 P) kpS C x) R' ∧ gI R' 16 0 = nI (t + N) := by
  have h8' := h8
  obtain ⟨d0, ⟨s, t', c, ht', hS⟩, -, -⟩ := h8'
  have e : t' = t := (nI_eq (by omega) (by omega)).mp (hS.I.t0.symm.trans ht)
  subst e
  obtain ⟨v, D', F', E', c', a1, a2, a3, a4⟩ := run_main hS.1 (N := N) (by omega)
  rw [show mkR X 0 (gI X 16) (gF X 17) = X from hx] at a1
  rw [hS.mk] at a2
  obtain ⟨b1, b2⟩ := back_sim h h8 a3 htN a4 (fun a k e => gw_n _ _ _ _ (by omega)) rfl
  refine ⟨_, _, a2, a1, R0_mk _ _ _, b1, b2, ?_⟩
  have e := mkR_16 (sI X 0 56 v) 0 D' F' (j := 0) (by omega)
  exact e.trans a3.2.2.1.t0
theorem ticks_sim (h : Rl n P Q C R) (p : Int32) : ∃ a C' R', C_ticks p C = some (a, C') ∧ R_ticks p R = some (a, R') ∧ Rl n P Q C' R' := by
  have hB : BB 0 := Or.inl rfl
  have no : ∃ C' R', (bnd (C_refuse 2 C) fun r2 => some (r2.1, r2.2)) = some (-1, C') ∧ (bnd (R_refuses 2 (R0 R)) fun r2 => some (r2.1, r2.2)) = some (-1, R') ∧ Rl n P Q C' R' := by
    rw [C_ref_2, R_ref_2]
    exact ⟨_, _, rfl, rfl, h.r0.ref 2⟩
  obtain ⟨C', R', n1, n2, n3⟩ := no
  rcases h.hd with ⟨h8, g1, g2⟩ | ⟨h8, g1, g2⟩
  · refine ⟨-1, C', R', ?_, ?_, n3⟩
    · unfold C_ticks; rw [g1, bnd_s, lett_e, if_pos rfl]; exact n1
    · unfold R_ticks; rw [R_isNow_e, bnd_s, lett_e, show gI (R0 R) 0 0 = 0 from g2, if_pos rfl]; exact n2
  · rcases isIn_c (M := C) (M' := R0 R) p 1 200 1 200 rfl rfl (by omega) (by omega) with ⟨⟨f1, f2⟩, -⟩ | ⟨k, k1, k2, rfl, f1, f2⟩
    · refine ⟨-1, C', R', ?_, ?_, n3⟩
      · unfold C_ticks; rw [g1, bnd_s, lett_e, if_neg i10, f1, bnd_s, if_pos rfl]; exact n1
      · unfold R_ticks; rw [R_isNow_e, bnd_s, lett_e, show gI (R0 R) 0 0 = 1 from g2, if_neg i10, f2, bnd_s, if_pos rfl]; exact n2
    · have h8' := h8
      obtain ⟨d0, ⟨s, t, c, ht, hS⟩, -, -⟩ := h8'
      have i0 : R_its 0 (R0 R) = some (nI t) := (R_its_k0 hB).trans (congrArg some hS.I.t0)
      have c10 : gI C 26 10 = nI t := hS.g10.trans hS.I.t0
      by_cases e : t + k ≤ 9999
      · obtain ⟨C1, X, c1, x1, x2, r1, d1, x3, x4, c2⟩ := keep_sim h.r0 (h.sd0 h8)
        have tx : gI X 16 0 = nI t := by
          rw [x3 16 0 (by omega) (by omega) (by omega)]
          exact ((R0_s R).1 16 0 (by omega) (by omega) (by omega) (by omega) (by omega) (by omega)).trans hS.I.t0
        obtain ⟨x, R2, a1, a2, a3, a4, a5, a6⟩ := run_sim r1 d1 x2 tx (by omega) e
        refine ⟨nI (t + k), _, R2, ?_, ?_, a4⟩
        · unfold C_ticks
          rw [g1, bnd_s, lett_e, if_neg i10, f1, bnd_s, if_neg i10, c10, nI_add, if_pos (nle_t 9999 9999 rfl e (by omega)), c1, bnd_s, plnS_e _ r1.1.2.2.2.1 r1.PQ, a1, bnd_s, lett_e]
          obtain ⟨-, ⟨s', t', c', -, hS'⟩, -, -⟩ := a5
          rw [hS'.g10, a6]
        · unfold R_ticks
          rw [R_isNow_e, bnd_s, lett_e, show gI (R0 R) 0 0 = 1 from g2, if_neg i10, f2, bnd_s, if_neg i10, i0, bnd_s, nI_add, if_pos (nle_t 9999 9999 rfl e (by omega)), x1, bnd_s, a2, bnd_s]
          have := R_its_k0 hB (m0 := R2) (D := gI R2 16) (F := gF R2 17)
          rw [show mkR R2 0 (gI R2 16) (gF R2 17) = R2 from a3] at this
          rw [this, bnd_s, a6]
      · refine ⟨-1, C', R', ?_, ?_, n3⟩
        · unfold C_ticks; rw [g1, bnd_s, lett_e, if_neg i10, f1, bnd_s, if_neg i10, c10, nI_add, if_neg (nle_f 9999 9999 rfl (by omega) (by omega))]; exact n1
        · unfold R_ticks; rw [R_isNow_e, bnd_s, lett_e, show gI (R0 R) 0 0 = 1 from g2, if_neg i10, f2, bnd_s, if_neg i10, i0, bnd_s, nI_add, if_neg (nle_f 9999 9999 rfl (by omega) (by omega))]; exact n2
/-- may it be asked by hand -/
theorem can_sim {s t c : Nat} (hS : StR X n s t c (gI X 16) (gF X 17) C 26 P) (hx : R0 X = X) {q : Nat} (hq : q < n) (p2 p3 : Int32) : (S_canAskByHand (nI q) p2 p3 (sbM (emS 26 P) C) = some 0 ∧ R_canAsk (nI q) p2 p3 X = some 0) ∨ ∃ a b, p2 = nI a ∧ p3 = nI b ∧ a + b ≤ s ∧ 1 ≤ b ∧ b ≤ 64 ∧ (gI X 16 (18 + 14 * q + 5)).toInt ≤ 7 ∧ S_canAskByHand (nI q) p2 p3 (sbM (emS 26 P) C) = some 1 ∧ R_canAsk (nI q) p2 p3 X = some 1 := by
  have hB : BB 0 := Or.inl rfl
  have hn := hS.K.n6
  have e := hS.mk
  have e20 : gI (sbM (emS 26 P) C) 20 0 = nI s := hS.L.1.1.trans hS.K.s1
  have o5 : R_of (nI q) 5 X = some (gI X 16 (18 + 14 * q + 5)) := by
    have := R_of_m (m0 := X) (D := gI X 16) (F := gF X 17) hB (w := 5) q 5 rfl rfl (by omega)
    rwa [show mkR X 0 (gI X 16) (gF X 17) = X from hx] at this
  have c6 : gI (sbM (emS 26 P) C) (8 + 2 * q) 6 = gI X 16 (18 + 14 * q + 5) := by
    rw [← e]
    exact sP_6 _ _ _ ⟨hq, hn⟩
  have hs9 := hS.K.s9
  have hs64 := hS.K.s64
  have h8 : (8 : Int32).toInt = 8 := by decide
  have eC : S_canAskByHand (nI q) p2 p3 (sbM (emS 26 P) C) = if (8 : Int32) ≤ gI X 16 (18 + 14 * q + 5) then some 0 else if p3 < 1 then some 0 else if 64 < p3 then some 0 else if p2 < 0 then some 0 else if (nI s - p3) < p2 then some 0 else some 1 := by
    unfold S_canAskByHand
    rw [ald_n (by omega) (by omega), ix_nI (by omega), c6, e20]
  have eR : R_canAsk (nI q) p2 p3 X = if (8 : Int32) ≤ gI X 16 (18 + 14 * q + 5) then some 0 else bnd (R_isIn p3 1 64 X) fun r2 => if r2 = 0 then some 0 else bnd (R_isIn p2 0 (nI s - p3) X) fun r3 => if r3 = 0 then some 0 else some 1 := by
    unfold R_canAsk
    rw [o5, bnd_s, hS.K.s1]
  rw [eC, eR]
  by_cases h1 : (8 : Int32) ≤ gI X 16 (18 + 14 * q + 5)
  · rw [if_pos h1, if_pos h1]
    exact Or.inl ⟨rfl, rfl⟩
  · rw [if_neg h1, if_neg h1]
    have h7 : (gI X 16 (18 + 14 * q + 5)).toInt ≤ 7 := by
      rw [i32_le, h8] at h1
      omega
    rcases isIn_c (M := C) (M' := X) p3 1 64 1 64 rfl rfl (by omega) (by omega) with ⟨⟨f1, f2⟩, -⟩ | ⟨b, b1, b2, rfl, f1, f2⟩
    · refine Or.inl ⟨?_, by rw [f2]; rfl⟩
      unfold C_isWithin at f1
      by_cases g1 : p3 < 1
      · rw [if_pos g1]
      · rw [if_neg g1] at f1 ⊢
        by_cases g2 : 64 < p3
        · rw [if_pos g2]
        · rw [if_neg g2] at f1
          exact absurd (Option.some.inj f1) i10
    · rw [f2, bnd_s, if_neg i10, if_neg (nlt_f 1 1 rfl b1 (by omega)), if_neg (lt_f 64 64 rfl b2 (by omega)), pk_sub (by omega)]
      rcases isIn_c (M := C) (M' := X) p2 0 (nI (s - b)) 0 (s - b) rfl rfl (by omega) (by omega) with ⟨⟨f1, f2⟩, -⟩ | ⟨a, a1, a2, rfl, f1, f2⟩
      · refine Or.inl ⟨?_, by rw [f2]; rfl⟩
        unfold C_isWithin at f1
        by_cases g1 : p2 < 0
        · rw [if_pos g1]
        · rw [if_neg g1] at f1 ⊢
          by_cases g2 : nI (s - b) < p2
          · rw [if_pos g2]
          · rw [if_neg g2] at f1
            exact absurd (Option.some.inj f1) i10
      · refine Or.inr ⟨a, b, rfl, rfl, by omega, b1, b2, h7, ?_, by rw [f2]; rfl⟩
        rw [if_neg (nI_pos (by omega)), if_neg (fun e => by have := (nI_ltI (by omega) (by omega)).mp e; omega)]
/-- asking by hand, in both -/
theorem send_sim (h : Rl n P Q C X) (h8 : Di n P C X) (hx : R0 X = X) {q a b s : Nat} (hq : q < n) (hs : gI X 0 2 = nI s) (hs2 : s < 10000) (hab : a + b ≤ s) (hb : 1 ≤ b ∧ b ≤ 64) (h7 : (gI X 16 (18 + 14 * q + 5)).toInt ≤ 7) : ∃ r x R', S_send (nI q) (nI a) (nI b) (-1) (sbM (emS 26 P) C) = some (nI r, x) ∧ R_asks (nI q) (nI a) (nI b) 1 0 X = some R' ∧ R0 R' = R' ∧ Rl n P Q (inM (dmS 26 P) kpS C x) R' ∧ Di n P (inM (dmS 26 P) kpS C x) R' ∧ R_of (nI q) 6 R' = some (nI r) ∧ gI R' 16 0 = gI X 16 0 := by
  have hB : BB 0 := Or.inl rfl
  have h8' := h8
  obtain ⟨d0, ⟨s', t, c, ht, hS⟩, -, -⟩ := h8'
  have es : s' = s := (nI_eq (by have := hS.K.s9; omega) (by omega)).mp (hS.K.s1.symm.trans hs)
  subst es
  have hn := hS.K.n6
  have hc1 := hS.I.c1
  obtain ⟨r, hr, hc, hq1, a1, a2, g1, g2, g3, g4, g5, g6, g7, g8⟩ := ask_sim (hand := 1) (think := 0) hB hS.K hS.L hS.I hS.X hq hab hb ⟨1, by omega, rfl⟩ ⟨0, by omega, rfl⟩ (by omega)
  have sn := S_send_m (hand := 1) (think := 0) (th := -1) hS.K hS.L hS.I.f hS.I.g hS.I.p hS.I.q hq (by have := hS.K.s9; omega) hc hr hq1 (hS.X.2.1 r hr)
  rw [hS.mk] at sn
  rw [show mkR X 0 (gI X 16) (gF X 17) = X from hx] at a1
  have r6 : r < 6 := by omega
  have q6 : q < 6 := by omega
  have ck := ask_CF (D := gI X 16) (E := sbM (emS 26 P) C) (m0 := X) (c := c) (hand := 1) (think := 0) (sec := nI a) (many := nI b) (tick := gI X 16 0) (th := -1) q6 r6
  have kk := ask_KF (D := gI X 16) (E := sbM (emS 26 P) C) (m0 := X) (c := c) (hand := 1) (think := 0) (sec := nI a) (many := nI b) (tick := gI X 16 0) (th := -1) q6 r6 hc
  have lo : ∀ i, i < 18 → i ≠ 10 → aAskD X (gI X 16) c q r (nI a) (nI b) 1 0 i = gI X 16 i := fun i h1 h2 => aAskD_lo (by omega) (by omega) (by omega) (by omega) (by omega) (by omega) (by omega) (by omega) (by omega)
  have lw : ∀ k, k < n → aAskD X (gI X 16) c q r (nI a) (nI b) 1 0 (18 + 14 * k + 2) = gI X 16 (18 + 14 * k + 2) := fun k hk => aAskD_lo (by omega) (by omega) (by omega) (by omega) (by omega) (by omega) (by omega) (by omega) (by omega)
  have io : iO n (c + 1) (aAskD X (gI X 16) c q r (nI a) (nI b) 1 0) := by
    refine ask_iO hn hS.I hq hr rfl (fun _ _ => rfl) (fun k hk _ => lw k hk) ?_
    rw [lw q hq]
    obtain ⟨w, w1, w2⟩ := (hS.I.p q hq).2.1
    rw [w2, nI_toInt (by omega)]
    omega
  have hM : MR X n s' t (c + 1) (aAskD X (gI X 16) c q r (nI a) (nI b) 1 0) (aAskF X (gI X 16) (gF X 17) c q r (nI a) (nI b)) (eRow (sbM (emS 26 P) C) c q r (nI a) (nI b) (gI X 16 0) (-1)) := by
    refine ⟨hS.K, ask_L hS.L (by omega), ⟨g1, g2, g3, g4, g5, g6, io, g7⟩, g8, ⟨ck.2.2.2.1.trans hS.CT.1, fun p hp => ?_⟩, ?_⟩
    · obtain ⟨k1, k2, -⟩ := ck
      rw [k1 p 9 (by omega) (by omega) (by omega), k1 p 10 (by omega) (by omega) (by omega), k1 p 11 (by omega) (by omega) (by omega), k1 p 12 (by omega) (by omega) (by omega), k2 p 9 (by omega) (by omega) (by omega), k2 p 10 (by omega) (by omega) (by omega), k2 p 11 (by omega) (by omega) (by omega), k2 p 12 (by omega) (by omega) (by omega)]
      exact hS.CT.2 p hp
    · obtain ⟨k1, k2, k3, k4⟩ := kk
      obtain ⟨T, t1, t2, t3, t4⟩ := hS.KR
      refine ⟨T, k4.trans t1, t2, k1.trans t3, fun i w hi hw => ?_⟩
      rw [k3, k2 _ (by omega)]
      exact t4 i w hi hw
  obtain ⟨b1, b2⟩ := back_sim h h8 hM ht ck.2.2.2.2 (fun _ _ _ => rfl) rfl
  refine ⟨r, _, _, sn, a1, R0_mk _ _ _, b1, b2, ?_, ?_⟩
  · rw [show R_of (nI q) 6 (mkR X 0 (aAskD X (gI X 16) c q r (nI a) (nI b) 1 0) (aAskF X (gI X 16) (gF X 17) c q r (nI a) (nI b))) = _ from R_of_m hB q 6 rfl rfl (by omega), a2]
  · have e := mkR_16 X 0 (aAskD X (gI X 16) c q r (nI a) (nI b) 1 0) (aAskF X (gI X 16) (gF X 17) c q r (nI a) (nI b)) (j := 0) (by omega)
    exact e.trans (lo 0 (by omega) (by omega))
theorem ask_call (h : Rl n P Q C R) (p a b : Int32) : ∃ r C' R', C_ask p a b C = some (r, C') ∧ R_ask p a b R = some (r, R') ∧ Rl n P Q C' R' := by
  have no : ∃ C' R', (bnd (C_refuse 3 C) fun r2 => some (r2.1, r2.2)) = some (-1, C') ∧ (bnd (R_refuses 3 (R0 R)) fun r2 => some (r2.1, r2.2)) = some (-1, R') ∧ Rl n P Q C' R' := by
    rw [C_ref_3, R_ref_3]
    exact ⟨_, _, rfl, rfl, h.r0.ref 3⟩
  obtain ⟨C', R', n1, n2, n3⟩ := no
  rcases h.pr p (R0_1 R) with ⟨⟨g1, g2⟩, -⟩ | ⟨q, hq, rfl, g1, g2⟩
  · refine ⟨-1, C', R', ?_, ?_, n3⟩
    · unfold C_ask; rw [g1, bnd_s, lett_e, if_pos rfl]; exact n1
    · unfold R_ask; rw [R_isNow_e, bnd_s, g2, bnd_s, lett_e, if_pos rfl]; exact n2
  · have h8 := h.di hq
    have h80 := h.sd0 h8
    have h8' := h80
    obtain ⟨d0, ⟨s, t, c, ht, hS⟩, -, -⟩ := h8'
    rcases can_sim hS (R0_mk _ _ _) hq a b with ⟨f1, f2⟩ | ⟨x, y, rfl, rfl, xy, y1, y2, o7, f1, f2⟩
    · refine ⟨-1, C', R', ?_, ?_, n3⟩
      · unfold C_ask; rw [g1, bnd_s, lett_e, if_neg i10, plnS_e _ h.1.2.2.2.1 h.PQ, f1, bnd_s, if_pos rfl]; exact n1
      · unfold R_ask; rw [R_isNow_e, bnd_s, g2, bnd_s, lett_e, if_neg i10, f2, bnd_s, if_pos rfl]; exact n2
    · obtain ⟨C1, X, c1, x1, x2, r1, d1, x3, x4, c2⟩ := keep_sim h.r0 h80
      have hn := hS.K.n6
      obtain ⟨r, z, R2, a1, a2, a3, a4, a5, a6, -⟩ := send_sim r1 d1 x2 hq ((x3 0 2 (by omega) (by omega) (by omega)).trans hS.K.s1) hS.K.s9 xy ⟨y1, y2⟩ (by rw [x3 16 _ (by omega) (by omega) (by omega)]; exact o7)
      refine ⟨nI r, _, R2, ?_, ?_, a4⟩
      · unfold C_ask; rw [g1, bnd_s, lett_e, if_neg i10, plnS_e _ h.1.2.2.2.1 h.PQ, f1, bnd_s, if_neg i10, c1, bnd_s, plnS_e _ r1.1.2.2.2.1 r1.PQ, a1, bnd_s, lett_e]
      · unfold R_ask; rw [R_isNow_e, bnd_s, g2, bnd_s, lett_e, if_neg i10, f2, bnd_s, if_neg i10, x1, bnd_s, a2, bnd_s, a6, bnd_s]
end RUNS
