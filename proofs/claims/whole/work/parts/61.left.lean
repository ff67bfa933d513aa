/-! PURE: what is left of a request -/
theorem out_le {D : Nat → Int32} {p k : Nat} (h : ∀ q, q < k → (D (18 + 14 * q + 5)).toInt ≤ 9) : outS D k ≤ 9 * (k : Int) ∧ (p < k → outS D k ≤ (D (18 + 14 * p + 5)).toInt + 9 * (k : Int) - 9) := by
  induction k with
  | zero => exact ⟨by rw [outS_0]; omega, fun h => by omega⟩
  | succ k ih =>
    obtain ⟨i1, i2⟩ := ih (fun q hq => h q (by omega))
    have hk := h k (by omega)
    rw [outS_s]
    refine ⟨by omega, fun hp => ?_⟩
    by_cases e : p = k
    · subst e; omega
    · have := i2 (by omega)
      omega
theorem out_9 {m0 : Mm} {n c : Nat} {D : Nat → Int32} (hP : iP m0 n D) (hO : iO n c D) (q : Nat) (hq : q < n) : (D (18 + 14 * q + 5)).toInt ≤ 9 := by
  have h1 := hO.2 q hq
  obtain ⟨w, w1, w2⟩ := (hP q hq).2.1
  rw [w2, nI_toInt (by omega)] at h1
  omega
/-- one more was done of p -/
def CX (D D' : Nat → Int32) (E E' : Mm) (p : Nat) (many lat : Int32) : Prop := (D' (18 + 14 * p + 9) = D (18 + 14 * p + 9) + 1 ∧ D' (18 + 14 * p + 10) = D (18 + 14 * p + 10) + many ∧ D' (18 + 14 * p + 11) = D (18 + 14 * p + 11) + lat ∧ D' (18 + 14 * p + 12) = aGr lat (D (18 + 14 * p + 12))) ∧ (∀ q k, q < 6 → q ≠ p → 9 ≤ k → k ≤ 12 → D' (18 + 14 * q + k) = D (18 + 14 * q + k)) ∧ (∀ q k, q < 6 → 9 ≤ k → k ≤ 13 → gI E' (8 + 2 * q) k = gI (eCt E p many lat) (8 + 2 * q) k) ∧ gI E' 0 18 = mmaxI (gI E 0 18) lat ∧ gI E' 0 19 = gI E 0 19 ∧ ∀ r k, 20 ≤ r → gI E' r k = gI E r k
theorem CX.tr {D D' D2 : Nat → Int32} {E E' E2 : Mm} {p : Nat} {many lat : Int32} (hp : p < 6) (h : CX D D' E E' p many lat) (h' : CFr D' D2 E' E2) : CX D D2 E E2 p many lat := by
  obtain ⟨⟨a1, a2, a3, a4⟩, b, c, d, e, e2⟩ := h
  exact ⟨⟨(h'.1 p 9 hp (by omega) (by omega)).trans a1, (h'.1 p 10 hp (by omega) (by omega)).trans a2, (h'.1 p 11 hp (by omega) (by omega)).trans a3, (h'.1 p 12 hp (by omega) (by omega)).trans a4⟩, fun q k q1 q2 q3 q4 => (h'.1 q k q1 q3 q4).trans (b q k q1 q2 q3 q4), fun q k q1 q2 q3 => (h'.2.1 q k q1 q2 q3).trans (c q k q1 q2 q3), h'.2.2.1.trans d, h'.2.2.2.1.trans e, fun r k hr => (h'.2.2.2.2 r k hr).trans (e2 r k hr)⟩
theorem lgE_SP {m0 : Mm} {B x : Nat} (p lat many : Int32) : SP m0 (lgE m0 B x p lat many) := by
  unfold lgE
  split
  · exact SP.rf m0
  · exact (((((SP.rf m0).w _ (by omega)).w _ (by omega)).w _ (by omega)).w _ (by omega)).w _ (by omega)
section LEFT
variable {m0 : Mm} {B n s t c x a p : Nat} {D : Nat → Int32} {F : Nat → UInt32} {E : Mm}
theorem done_Inv (hK : PK m0 n s) (I : Inv m0 n s t t c D F) (h5 : 0 < D 5) (h : dH n s t (updD D 5 0) a p) : Inv m0 n s t t c (dU m0 (updD D 5 0) F c a p) (dF m0 (updD D 5 0) F c a n) := by
  have hn := hK.n6
  have hc1 := I.c1
  have hP1 : iP m0 n (updD D 5 0) := I.p.cg (fun q hq => by simp (disch := omega) only [updD_n, and_self])
  obtain ⟨-, -, hF⟩ := done_fl (c := c) hK hP1 I.f h
  obtain ⟨h2, han, h14, hpn, hrow, h0⟩ := h
  have h2' : D 2 = nI a := by rw [updD_n _ _ (by omega)] at h2; exact h2
  obtain ⟨q0, ⟨xx, b, b1, b2, b3, b4, b5⟩, q3, q4, q5, q6⟩ := (I.b h5).2
  have b4 : D 12 = nI xx := b4
  have b5 : D 13 = nI b := b5
  have hD : ∀ j, j ≠ 5 → updD D 5 0 j = D j := fun j hj => updD_n _ _ hj
  have e5 : dU m0 (updD D 5 0) F c a p 5 = 0 := by rw [dU_o (by omega) (by omega) (by omega) (by omega) (by omega), updD_s]
  have hn5 : ¬ 0 < dU m0 (updD D 5 0) F c a p 5 := by rw [e5]; decide
  have hs9 := hK.s9
  have e1 : dU m0 (updD D 5 0) F c a p 1 = nI (xx + b) := by
    rw [dU_W (by omega)]
    have : dB (updD D 5 0) a p 1 = nI (xx + b) := by
      unfold dB
      simp (disch := omega) only [updD_n, updD_s, b4, b5, nI_add]
    unfold dW
    split
    · rw [updD_n _ _ (by omega), updD_n _ _ (by omega)]; exact this
    · exact this
  have hout : dU m0 (updD D 5 0) F c a p (18 + 14 * p + 5) = D (18 + 14 * p + 5) - 1 := by
    rw [dU_W (by omega)]
    have : dB (updD D 5 0) a p (18 + 14 * p + 5) = D (18 + 14 * p + 5) - 1 := by
      unfold dB
      simp (disch := omega) only [updD_n, updD_s]
    unfold dW
    split
    · rw [updD_n _ _ (by omega), updD_n _ _ (by omega)]; exact this
    · exact this
  have hwt : dU m0 (updD D 5 0) F c a p (18 + 14 * p + 2) = 0 ∨ dU m0 (updD D 5 0) F c a p (18 + 14 * p + 2) = D (18 + 14 * p + 2) := by
    rw [dU_W (by omega)]
    unfold dW
    split
    · left; rw [updD_n _ _ (by omega), updD_s]
    · right; rw [dB_o (by omega) (by omega) (by omega) (by omega) (by omega) (by omega) (by omega) (by omega), hD _ (by omega)]
  have ho : ∀ q, q < n → q ≠ p → ∀ k, k < 14 → dU m0 (updD D 5 0) F c a p (18 + 14 * q + k) = D (18 + 14 * q + k) := fun q hq hqp k hk => by
    rw [dU_o (by omega) (by omega) (by omega) (by omega) (by omega), hD _ (by omega)]
  refine ⟨?_, ?_, ?_, ?_, fun h5 => absurd h5 hn5, ?_, ?_, hF⟩
  · obtain ⟨g1, g2, g3, g4, g5, g6, g7, g8, g9⟩ := I.g
    unfold iG
    rw [e1]
    simp (disch := omega) only [dU_o, updD_n]
    exact ⟨g1, ⟨xx + b, by omega, rfl⟩, g3, g4, g5, g6, g7, g8, g9⟩
  · intro q hq
    obtain ⟨p1, p2, p3, p4, p5, p6⟩ := I.p q hq
    by_cases e : q = p
    · subst e
      have : dU m0 (updD D 5 0) F c a q (18 + 14 * q + 0) = D (18 + 14 * q + 0) ∧ dU m0 (updD D 5 0) F c a q (18 + 14 * q + 3) = D (18 + 14 * q + 3) ∧ dU m0 (updD D 5 0) F c a q (18 + 14 * q + 4) = D (18 + 14 * q + 4) ∧ dU m0 (updD D 5 0) F c a q (18 + 14 * q + 6) = D (18 + 14 * q + 6) ∧ dU m0 (updD D 5 0) F c a q (18 + 14 * q + 8) = D (18 + 14 * q + 8) := by
        refine ⟨?_, ?_, ?_, ?_, ?_⟩ <;> rw [dU_o (by omega) (by omega) (by omega) (by omega) (by omega), hD _ (by omega)]
      obtain ⟨t1, t2, t3, t4, t5⟩ := this
      rw [t1, t2, t3, t4, t5]
      refine ⟨p1, ?_, p3, p4, p5, p6⟩
      rcases hwt with w | w
      · rw [w]; exact ⟨0, by omega, rfl⟩
      · rw [w]; exact p2
    · rw [ho q hq e 0 (by omega), ho q hq e 2 (by omega), ho q hq e 3 (by omega), ho q hq e 4 (by omega), ho q hq e 6 (by omega), ho q hq e 8 (by omega)]
      exact ⟨p1, p2, p3, p4, p5, p6⟩
  · intro q hq
    obtain ⟨q1, q2, q3, q4⟩ := I.q q hq
    by_cases e : q = a
    · subst e
      have e4 : dU m0 (updD D 5 0) F c q p (102 + 8 * q + 4) = nI t := by
        rw [dU_W (by omega)]
        have : dB (updD D 5 0) q p (102 + 8 * q + 4) = nI t := by
          unfold dB
          simp (disch := omega) only [updD_n, updD_s]
          exact I.t0
        unfold dW
        split
        · rw [updD_n _ _ (by omega), updD_n _ _ (by omega)]; exact this
        · exact this
      rw [e4]
      simp (disch := omega) only [dU_o, updD_n]
      exact ⟨q1, q2, q3, ⟨t, by omega, rfl⟩⟩
    · simp (disch := omega) only [dU_o, updD_n]
      exact ⟨q1, q2, q3, q4⟩
  · refine I.r.cg (fun j h1 h2 => ?_)
    simp (disch := omega) only [dU_o, updD_n]
  · intro i hi he
    have he : D 2 = nI i := by
      rw [dU_o (by omega) (by omega) (by omega) (by omega) (by omega), hD _ (by omega)] at he
      exact he
    have e : a = i := (nI_eq (by omega) (by omega)).mp (h2'.symm.trans he)
    subst e
    obtain ⟨a1, sv, a2, a3, a4⟩ := I.a a hi he
    obtain ⟨b', a5, a6⟩ := a4 h5
    have hbb : b' = b := (nI_eq (by omega) (by omega)).mp (a5.symm.trans b5)
    refine ⟨?_, sv + b, ?_, by omega, fun h5 => absurd h5 hn5⟩
    · rw [dU_o (by omega) (by omega) (by omega) (by omega) (by omega), hD _ (by omega)]; exact a1
    · rw [dU_W (by omega)]
      have : dB (updD D 5 0) a p (102 + 8 * a + 1) = nI (sv + b) := by
        unfold dB
        simp (disch := omega) only [updD_n, updD_s, a2, b5, nI_add]
      unfold dW
      split
      · rw [updD_n _ _ (by omega), updD_n _ _ (by omega)]; exact this
      · exact this
  · have hO := I.o
    have h9 := out_9 I.p hO
    have hl := (out_le (p := p) h9).2 hpn
    have hsum := hO.1
    rw [if_pos h5] at hsum
    have hdec : (D (18 + 14 * p + 5) - 1).toInt = (D (18 + 14 * p + 5)).toInt - 1 := i32_dec (by omega)
    refine ⟨?_, fun q hq => ?_⟩
    · rw [outS.cg (D := updD D (18 + 14 * p + 5) (D (18 + 14 * p + 5) - 1)) (fun q hq => ?_), outS.up hpn, hdec, hsum, if_neg hn5]
      · omega
      · by_cases e : q = p
        · subst e; rw [hout, updD_s]
        · rw [ho q hq e 5 (by omega), updD_n _ _ (by omega)]
    · by_cases e : q = p
      · subst e
        rw [hout, hdec]
        have := h9 q hq
        rcases hwt with w | w
        · rw [w]
          have : (0 : Int32).toInt = 0 := by decide
          omega
        · rw [w]
          have := hO.2 q hq
          omega
      · rw [ho q hq e 5 (by omega), ho q hq e 2 (by omega)]
        exact hO.2 q hq
theorem done_X (hn : n ≤ 6) (hX : XR n c E D) (hc : c ≤ 54) (h2 : D 2 = nI a) (han : a < n) (hpn : p < n) : XR n c (eDn E p (D 13) (D 0 - D 15)) (dU m0 (updD D 5 0) F c a p) := by
  obtain ⟨hW, hY, hB, hS⟩ := hX
  have e5 : dU m0 (updD D 5 0) F c a p 5 = 0 := by rw [dU_o (by omega) (by omega) (by omega) (by omega) (by omega), updD_s]
  refine ⟨fun i hi => ?_, fun i hi => ?_, fun h5 => ?_, fun i hi he => ?_⟩
  · obtain ⟨⟨w1, w2, w3, w4, w5⟩, w6⟩ := hW i hi
    unfold xRow
    dsimp only at w1 w2 w3 w4 w5 ⊢
    simp (disch := omega) only [eDn_o, dU_o, updD_n]
    exact ⟨⟨w1, w2, w3, w4, w5⟩, w6⟩
  · rw [eDn_o (by omega) (by omega), aLy_cg (D := D) (fun r hr => by rw [dU_o (by omega) (by omega) (by omega) (by omega) (by omega), updD_n _ _ (by omega)])]
    exact hY i hi
  · rw [e5] at h5
    exact absurd h5 (by decide)
  · have he : D 2 = nI i := by
      rw [dU_o (by omega) (by omega) (by omega) (by omega) (by omega), updD_n _ _ (by omega)] at he
      exact he
    have e : a = i := (nI_eq (by omega) (by omega)).mp (h2.symm.trans he)
    subst e
    have e13 : gI (eDn E p (D 13) (D 0 - D 15)) 0 13 = gI E 0 13 + D 13 := by
      unfold eDn eCt eC2 eC1
      split <;> (simp (disch := omega) only [gw_n]; rw [gw_s])
    rw [e13, hS a hi he, dU_W (by omega)]
    have : dB (updD D 5 0) a p (102 + 8 * a + 1) = D (102 + 8 * a + 1) + D 13 := by
      unfold dB
      simp (disch := omega) only [updD_n, updD_s]
    unfold dW
    split
    · rw [updD_n _ _ (by omega), updD_n _ _ (by omega)]; exact this.symm
    · exact this.symm
theorem done_L (hL : PL m0 n E) (hp : p < 5 + 1) {many lat : Int32} : PL m0 n (eDn E p many lat) := hL.to (fun x k hx => eDn_o (by omega) (by omega))
theorem left_sim (hB : BB B) (hK : PK m0 n s) (hL : PL m0 n E) (I : Inv m0 n s t t c D F) (hX : XR n c E D) (hx : B = 0 ∨ (gI m0 0 57 = nI x ∧ x ≤ 400)) : ∃ (m1 : Mm) (D' : Nat → Int32) (F' : Nat → UInt32) (E' : Mm), (∀ j : Mm → Option Mm, (if D 5 ≤ 0 then (j (mkR m0 B D F)) else (bnd (R_its (5 : Int32) (mkR m0 B D F)) fun r20 => bnd (R_puts (5 : Int32) (r20 - (1 : Int32)) (mkR m0 B D F)) fun M21 => bnd (R_its (5 : Int32) M21) fun r22 => if r22 = 0 then (bnd (R_isDone M21) fun M23 => j M23) else (j M21))) = j (mkR m1 B D' F')) ∧ (∀ j : Mm → Option Mm, (if D 5 ≤ 0 then (j (mkS n E D F)) else (lett (sI (mkS n E D F) 0 6 (D 5 - (1 : Int32))) fun M16 => if (gI M16 0 6) = 0 then (bnd (S_complete M16) fun M17 => j M17) else (j M16))) = j (mkS n E' D' F')) ∧ Inv m1 n s t t c D' F' ∧ XR n c E' D' ∧ PL m1 n E' ∧ SP m0 m1 ∧ KFr D D' E E' ∧ D' 0 = D 0 ∧ ((m1 = m0 ∧ CFr D D' E E') ∨ ∃ p l b, p < n ∧ 1 ≤ l ∧ l < 16000 ∧ 1 ≤ b ∧ b ≤ 64 ∧ m1 = lgE m0 B x (nI p) (nI l) (nI b) ∧ CX D D' E E' p (nI b) (nI l)) := by
  have hn := hK.n6
  have hc1 := I.c1
  have ht := I.t1
  by_cases h0 : D 5 ≤ 0
  · exact ⟨m0, D, F, E, fun j => by rw [if_pos h0], fun j => by rw [if_pos h0], I, hX, hL, SP.rf m0, KFr.rf D E, rfl, Or.inl ⟨rfl, CFr.rf D E⟩⟩
  · have h5 : 0 < D 5 := by rw [i32_lt]; rw [i32_le] at h0; omega
    by_cases h1 : D 5 - 1 = 0
    · obtain ⟨hac, hrow⟩ := I.b h5
      obtain ⟨a, han, h2⟩ := I.ac.resolve_left hac
      obtain ⟨q0, ⟨xx, b, b1, b2, b3, b4, b5⟩, ⟨p, hpn, h14⟩, ⟨as, as1, as2⟩, q5, q6⟩ := hrow
      have h14 : D 14 = nI p := h14
      have b5 : D 13 = nI b := b5
      have as2 : D 15 = nI as := as2
      have hH : dH n s t (updD D 5 0) a p := ⟨by rw [updD_n _ _ (by omega)]; exact h2, han, by rw [updD_n _ _ (by omega)]; exact h14, hpn, (I.b h5).2.cg (fun k hk => updD_n _ _ (by omega)), by rw [updD_n _ _ (by omega)]; exact I.t0⟩
      have hP1 : iP m0 n (updD D 5 0) := I.p.cg (fun q hq => by simp (disch := omega) only [updD_n, and_self])
      have hQ1 : iQ n t (updD D 5 0) := I.q.cg (fun q hq => by simp (disch := omega) only [updD_n, and_self])
      have hr := R_isDone_m (B := B) (c := c) (x := x) hB hK hP1 I.f hH (by rw [updD_n _ _ (by omega)]; exact I.c0) hc1 hx
      have hsx : xRow E 5 0 (fun k => updD D 5 0 (11 + k)) := by
        obtain ⟨w1, w2, w3, w4, w5⟩ := hX.2.2.1 h5
        unfold xRow
        dsimp only at w1 w2 w3 w4 w5 ⊢
        simp (disch := omega) only [updD_n]
        exact ⟨w1, w2, w3, w4, w5⟩
      have hsc := S_complete_m (c := c) hK hL hP1 hQ1 I.f hH hc1 (fun q hq => by rw [aLy_up (by omega)]; exact hX.2.1 q hq) hsx
      rw [updD_n _ _ (show 0 ≠ 5 by omega), updD_n _ _ (show 13 ≠ 5 by omega), updD_n _ _ (show 15 ≠ 5 by omega)] at hr hsc
      have hp6 : p < 6 := by omega
      have ha6 : a < 6 := by omega
      have sp := lgE_SP (m0 := m0) (B := B) (x := x) (nI p) (D 0 - D 15) (D 13)
      have hlat : D 0 - D 15 = nI (t - as) := by rw [I.t0, as2, pk_sub (by omega)]
      refine ⟨_, _, _, _, fun j => ?_, fun j => ?_, (done_Inv hK I h5 hH).sp sp, done_X hn hX hc1 h2 han hpn, (done_L hL hp6).sp sp, sp, ?_, ?_, Or.inr ⟨p, t - as, b, hpn, by omega, by omega, b1, b2, ?_, ?_⟩⟩
      · rw [if_neg h0, R_its_k5 hB, bnd_s, R_puts_k5 hB, bnd_s, R_its_k5 hB, bnd_s, updD_s, if_pos h1, h1, hr, bnd_s]
      · rw [if_neg h0, s0w_6, lett_e, s0_6, updD_s, if_pos h1, h1, hsc, bnd_s]
      · refine ⟨?_, fun j hj => ?_, fun k => eDn_o (by omega) (by omega), eDn_o (by omega) (by omega)⟩
        · rw [dU_o (by omega) (by omega) (by omega) (by omega) (by omega), updD_n _ _ (by omega)]
        · rw [dU_o (by omega) (by omega) (by omega) (by omega) (by omega), updD_n _ _ (by omega)]
      · rw [dU_o (by omega) (by omega) (by omega) (by omega) (by omega), updD_n _ _ (by omega)]
      · rw [hlat, b5]
      · rw [hlat, b5]
        have hdB : ∀ k, 9 ≤ k → k ≤ 12 → dU m0 (updD D 5 0) F c a p (18 + 14 * p + k) = dB (updD D 5 0) a p (18 + 14 * p + k) := fun k k1 k2 => by
          rw [dU_W (by omega)]
          unfold dW
          split
          · rw [updD_n _ _ (by omega), updD_n _ _ (by omega)]
          · rfl
        refine ⟨⟨?_, ?_, ?_, ?_⟩, fun q k q1 q2 q3 q4 => ?_, fun q k q1 q2 q3 => ?_, ?_, eDn_o (by omega) (by omega), fun r k hr => eDn_o (by omega) (by omega)⟩
        · rw [hdB 9 (by omega) (by omega)]; unfold dB; simp (disch := omega) only [updD_n, updD_s]
        · rw [hdB 10 (by omega) (by omega)]; unfold dB; simp (disch := omega) only [updD_n, updD_s]; rw [b5]
        · rw [hdB 11 (by omega) (by omega)]; unfold dB; simp (disch := omega) only [updD_n, updD_s]; rw [hlat]
        · rw [hdB 12 (by omega) (by omega)]; unfold dB; simp (disch := omega) only [updD_n, updD_s]; rw [hlat]
        · rw [dU_o (by omega) (by omega) (by omega) (by omega) (by omega), updD_n _ _ (by omega)]
        · unfold eDn eCt eC2 eC1
          rw [gw_n E 0 13 _ (show 8 + 2 * p ≠ 0 ∨ 9 ≠ 13 by omega), gw_n E 0 13 _ (show 8 + 2 * p ≠ 0 ∨ 10 ≠ 13 by omega), gw_n E 0 13 _ (show 8 + 2 * p ≠ 0 ∨ 11 ≠ 13 by omega), gw_n E 0 13 _ (show 8 + 2 * p ≠ 0 ∨ 12 ≠ 13 by omega), gw_n E 0 13 _ (show 8 + 2 * p ≠ 0 ∨ 13 ≠ 13 by omega), gw_n E 0 13 _ (show 0 ≠ 0 ∨ 18 ≠ 13 by omega), gw_n E 0 13 _ (show 0 ≠ 0 ∨ 19 ≠ 13 by omega)]
          split <;> simp only [gI_sI] <;> (repeat' split) <;> first | rfl | omega
        · unfold eDn eCt
          rw [gw_s, gw_n _ _ _ _ (by omega)]
    · have hinv : Inv m0 n s t t c (updD D 5 (D 5 - 1)) F := by
        have hpos : 0 < D 5 - 1 := by
          have e : (D 5 - 1).toInt = (D 5).toInt - 1 := i32_dec (by rw [i32_lt] at h5; have z : (0 : Int32).toInt = 0 := (by decide); omega)
          rw [i32_lt] at h5 ⊢
          have z : (0 : Int32).toInt = 0 := by decide
          have : (D 5 - 1).toInt ≠ 0 := fun h => h1 (Int32.toInt_inj.mp (h.trans z.symm))
          omega
        refine ⟨I.g.cg (fun j hj => updD_n _ _ (by omega)), I.p.cg (fun q hq => by simp (disch := omega) only [updD_n, and_self]), I.q.cg (fun q hq => by simp (disch := omega) only [updD_n, and_self]), I.r.cg (fun j h1 h2 => updD_n _ _ (by omega)), ?_, ?_, ?_, I.f⟩
        · intro _
          rw [updD_n _ _ (by omega)]
          exact ⟨(I.b h5).1, (I.b h5).2.cg (fun k hk => updD_n _ _ (by omega))⟩
        · intro i hi he
          rw [updD_n _ _ (by omega)] at he
          rw [updD_n D _ (show 3 ≠ 5 by omega), updD_n D _ (show 102 + 8 * i + 1 ≠ 5 by omega), updD_n D _ (show 13 ≠ 5 by omega)]
          obtain ⟨a1, sv, a2, a3, a4⟩ := I.a i hi he
          exact ⟨a1, sv, a2, a3, fun _ => a4 h5⟩
        · refine ⟨?_, fun q hq => ?_⟩
          · rw [outS.cg (D := D) (fun q hq => updD_n _ _ (by omega)), updD_s, if_pos hpos, I.o.1, if_pos h5]
          · rw [updD_n _ _ (by omega), updD_n _ _ (by omega)]; exact I.o.2 q hq
      refine ⟨m0, updD D 5 (D 5 - 1), F, E, fun j => ?_, fun j => ?_, hinv, ?_, hL, SP.rf m0, ⟨updD_n _ _ (by omega), fun j hj => updD_n _ _ (by omega), fun _ => rfl, rfl⟩, updD_n _ _ (by omega), Or.inl ⟨rfl, ⟨fun q k q1 q2 q3 => updD_n _ _ (by omega), fun _ _ _ _ _ => rfl, rfl, rfl, fun _ _ _ => rfl⟩⟩⟩
      · rw [if_neg h0, R_its_k5 hB, bnd_s, R_puts_k5 hB, bnd_s, R_its_k5 hB, bnd_s, updD_s, if_neg h1]
      · rw [if_neg h0, s0w_6, lett_e, s0_6, updD_s, if_neg h1]
      · obtain ⟨hW, hY, hBb, hS⟩ := hX
        refine ⟨fun i hi => ?_, fun i hi => ?_, fun _ => ?_, fun i hi he => ?_⟩
        · obtain ⟨⟨w1, w2, w3, w4, w5⟩, w6⟩ := hW i hi
          unfold xRow
          dsimp only at w1 w2 w3 w4 w5 ⊢
          simp (disch := omega) only [updD_n]
          exact ⟨⟨w1, w2, w3, w4, w5⟩, w6⟩
        · rw [aLy_up (by omega)]; exact hY i hi
        · obtain ⟨w1, w2, w3, w4, w5⟩ := hBb h5
          unfold xRow
          dsimp only at w1 w2 w3 w4 w5 ⊢
          simp (disch := omega) only [updD_n]
          exact ⟨w1, w2, w3, w4, w5⟩
        · rw [updD_n _ _ (by omega)] at he ⊢
          exact hS i hi he
end LEFT
