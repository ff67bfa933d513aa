/-! PURE: a request is done -/
def farN (v : Int32) : Int32 := itr (fun k x => x + ((v >>> (nI k &&& 31)) &&& 1)) 0 8
theorem aFar_N (D : Nat → Int32) (q : Nat) : aFar D q = farN (D (102 + 8 * q + 3)) := rfl
def mZ : Mm := (fun _ _ => 0, fun _ _ => 0, fun _ _ => 0, fun _ _ => none)
theorem bitCount_far {x : Nat} (hx : x < 256) (M : Mm) : S_bitCount_0f7a4 (nI x) M = some (farN (nI x)) := by
  have h : ((List.range 256).all fun x => decide (S_bitCount_0f7a4 (nI x) mZ = some (farN (nI x)))) = true := by decide +kernel
  exact of_decide_eq_true (List.all_eq_true.mp h x (List.mem_range.mpr hx))
def aSm (m0 : Mm) (D : Nat → Int32) (c a n : Nat) : Int32 := itr (fun o x => x + (if o = a ∨ cnt D (nI o) c ≠ 0 then aWt m0 D o else 0)) 0 n
theorem aSm_0 (m0 : Mm) (D : Nat → Int32) (c a : Nat) : aSm m0 D c a 0 = 0 := rfl
theorem aSm_s (m0 : Mm) (D : Nat → Int32) (c a i : Nat) : aSm m0 D c a (i + 1) = aSm m0 D c a i + (if i = a ∨ cnt D (nI i) c ≠ 0 then aWt m0 D i else 0) := rfl
theorem aSm_cg {m0 : Mm} {D D' : Nat → Int32} {c a : Nat} {n : Nat} (h : ∀ r, r < c → D' (150 + 7 * r) = D (150 + 7 * r)) (h2 : ∀ o, o < n → aWt m0 D' o = aWt m0 D o) : aSm m0 D' c a n = aSm m0 D c a n := by
  induction n with
  | zero => rw [aSm_0, aSm_0]
  | succ n ih => rw [aSm_s, aSm_s, ih (fun o ho => h2 o (by omega)), cnt_cg h, h2 n (by omega)]
def dB (D : Nat → Int32) (a p : Nat) : Nat → Int32 := updD (updD (updD (updD (updD (updD (updD (updD D 1 (D 12 + D 13)) (102 + 8 * a + 1) (D (102 + 8 * a + 1) + D 13)) (102 + 8 * a + 4) (D 0)) (18 + 14 * p + 5) (D (18 + 14 * p + 5) - 1)) (18 + 14 * p + 9) (D (18 + 14 * p + 9) + 1)) (18 + 14 * p + 10) (D (18 + 14 * p + 10) + D 13)) (18 + 14 * p + 11) (D (18 + 14 * p + 11) + (D 0 - D 15))) (18 + 14 * p + 12) (aGr (D 0 - D 15) (D (18 + 14 * p + 12)))
def dW (m0 : Mm) (D : Nat → Int32) (a p : Nat) : Nat → Int32 := if D 16 = 0 ∧ gI m0 3 p = 0 then updD (updD (dB D a p) (18 + 14 * p + 2) 0) (18 + 14 * p + 1) (D 17) else dB D a p
def dU (m0 : Mm) (D : Nat → Int32) (F : Nat → UInt32) (c a p : Nat) : Nat → Int32 := if aLy D (nI a) c = 0 then updD (dW m0 D a p) 4 (D 0 + (if gI m0 3 a = 0 ∧ ¬ (5 : Int32) ≤ aFar D a ∧ ¬ 0 < Op.cmpValue (FP.fcmp (F (12 + a)) (FP.i2f (D 6))) .g then D 6 else 0)) else dW m0 D a p
def dF (m0 : Mm) (D : Nat → Int32) (F : Nat → UInt32) (c a n : Nat) : Nat → UInt32 := updD F 18 (FP.fadd (F 18) (FP.fdiv (FP.i2f (D 13)) (FP.i2f (aSm m0 D c a n))))
def lgE (m0 : Mm) (B x : Nat) (p lat many : Int32) : Mm := if B = 0 then m0 else sI (sI (sI (sI (sI m0 20 (4 * x) (gI m0 0 56)) 20 (4 * x + 1) p) 20 (4 * x + 2) lat) 20 (4 * x + 3) many) 0 57 (nI (x + 1))
theorem dB_o {D : Nat → Int32} {a p j : Nat} (h1 : j ≠ 1) (h2 : j ≠ 102 + 8 * a + 1) (h3 : j ≠ 102 + 8 * a + 4) (h4 : j ≠ 18 + 14 * p + 5) (h5 : j ≠ 18 + 14 * p + 9) (h6 : j ≠ 18 + 14 * p + 10) (h7 : j ≠ 18 + 14 * p + 11) (h8 : j ≠ 18 + 14 * p + 12) : dB D a p j = D j := by
  unfold dB
  rw [updD_n _ _ h8, updD_n _ _ h7, updD_n _ _ h6, updD_n _ _ h5, updD_n _ _ h4, updD_n _ _ h3, updD_n _ _ h2, updD_n _ _ h1]
theorem dW_o {m0 : Mm} {D : Nat → Int32} {a p j : Nat} (h1 : j ≠ 1) (h2 : j ≠ 102 + 8 * a + 1) (h3 : j ≠ 102 + 8 * a + 4) (h4 : j < 18 + 14 * p ∨ 18 + 14 * p + 14 ≤ j ∨ j = 18 + 14 * p + 0 ∨ j = 18 + 14 * p + 3 ∨ j = 18 + 14 * p + 4 ∨ j = 18 + 14 * p + 6 ∨ j = 18 + 14 * p + 7 ∨ j = 18 + 14 * p + 8) : dW m0 D a p j = D j := by
  unfold dW
  split
  · rw [updD_n _ _ (by omega), updD_n _ _ (by omega)]
    exact dB_o h1 h2 h3 (by omega) (by omega) (by omega) (by omega) (by omega)
  · exact dB_o h1 h2 h3 (by omega) (by omega) (by omega) (by omega) (by omega)
theorem dU_W {m0 : Mm} {D : Nat → Int32} {F : Nat → UInt32} {c a p j : Nat} (h : j ≠ 4) : dU m0 D F c a p j = dW m0 D a p j := by
  unfold dU
  split
  · rw [updD_n _ _ h]
  · rfl
theorem dU_o {m0 : Mm} {D : Nat → Int32} {F : Nat → UInt32} {c a p j : Nat} (h0 : j ≠ 4) (h1 : j ≠ 1) (h2 : j ≠ 102 + 8 * a + 1) (h3 : j ≠ 102 + 8 * a + 4) (h4 : j < 18 + 14 * p ∨ 18 + 14 * p + 14 ≤ j ∨ j = 18 + 14 * p + 0 ∨ j = 18 + 14 * p + 3 ∨ j = 18 + 14 * p + 4 ∨ j = 18 + 14 * p + 6 ∨ j = 18 + 14 * p + 7 ∨ j = 18 + 14 * p + 8) : dU m0 D F c a p j = D j := (dU_W h0).trans (dW_o h1 h2 h3 h4)
section DONE
variable {m0 : Mm} {B n s t c a p : Nat} {D : Nat → Int32} {F : Nat → UInt32} {E : Mm}
theorem aSm_n (hK : PK m0 n s) (hP : iP m0 n D) (ha : a < n) : ∃ w, aSm m0 D c a n = nI w ∧ 1 ≤ w ∧ w ≤ 12000 := by
  have hn := hK.n6
  have key : ∀ i, i ≤ n → ∃ w, aSm m0 D c a i = nI w ∧ w ≤ 2000 * i ∧ (a < i → 1 ≤ w) := by
    intro i
    induction i with
    | zero => intro _; exact ⟨0, rfl, by omega, fun h => by omega⟩
    | succ i ih =>
      intro hi
      obtain ⟨w, w1, w2, w3⟩ := ih (by omega)
      rw [aSm_s, w1]
      obtain ⟨v, v1, v2, v3⟩ := aWt_n hK hP (q := i) (by omega)
      split
      · rw [v1, nI_add]
        exact ⟨w + v, rfl, by omega, fun _ => by omega⟩
      · rename_i h
        exact ⟨w, Int32.add_zero _, by omega, fun h2 => w3 (by omega)⟩
  obtain ⟨w, w1, w2, w3⟩ := key n (Nat.le_refl _)
  exact ⟨w, w1, w3 ha, by omega⟩
/-- what is needed when one is done: D has LEFT 0 already -/
def dH (n s t : Nat) (D : Nat → Int32) (a p : Nat) : Prop := D 2 = nI a ∧ a < n ∧ D 14 = nI p ∧ p < n ∧ okRow n s t (fun k => D (11 + k)) ∧ D 0 = nI t
theorem done_fl (hK : PK m0 n s) (hP : iP m0 n D) (hF : FB F) (h : dH n s t D a p) : (FP.fdiv (FP.i2f (D 13)) (FP.i2f (aSm m0 D c a n))) &&& 0x7fffffff ≤ 0x7f800000 ∧ (FP.fadd (F 18) (FP.fdiv (FP.i2f (D 13)) (FP.i2f (aSm m0 D c a n)))) &&& 0x7fffffff ≤ 0x7f800000 ∧ FB (dF m0 D F c a n) := by
  obtain ⟨w, w1, w2, w3⟩ := aSm_n (c := c) hK hP h.2.1
  obtain ⟨-, ⟨x, b, b1, b2, b3, b4, b5⟩, -⟩ := h.2.2.2.2.1
  have b5 : D 13 = nI b := b5
  unfold dF
  rw [w1, b5]
  have h2 := fl_add hF.2.2.1 (a := b) (w := w) (by omega) (by omega) (by omega)
  refine ⟨f_ok (fl_q (by omega) (by omega) (by omega)) (by decide), f_ok h2 (by decide), fun j hj => ?_, fun j hj => ?_, ?_, ?_⟩
  · rw [updD_n _ _ (by omega)]; exact hF.1 j hj
  · rw [updD_n _ _ (by omega)]; exact hF.2.1 j hj
  · rw [updD_s]; exact h2
  · rw [updD_n _ _ (by omega)]; exact hF.2.2.2
theorem R_isDone_m (hB : BB B) (hK : PK m0 n s) (hP : iP m0 n D) (hF : FB F) (h : dH n s t D a p) (hc : D 10 = nI c) (hc1 : c ≤ 54) {x : Nat} (hx : B = 0 ∨ (gI m0 0 57 = nI x ∧ x ≤ 400)) : R_isDone (mkR m0 B D F) = some (mkR (lgE m0 B x (nI p) (D 0 - D 15) (D 13)) B (dU m0 D F c a p) (dF m0 D F c a n)) := by
  have hn := hK.n6
  obtain ⟨g1, g2, -⟩ := done_fl (c := c) hK hP hF h
  obtain ⟨h2, han, h14, hpn, -, h0⟩ := h
  have ha6 : a < 6 := by omega
  have hp6 : p < 6 := by omega
  unfold R_isDone
  rw [R_its_k2 hB, bnd_s, lett_e, R_its_k13 hB, bnd_s, lett_e, R_its_k14 hB, bnd_s, lett_e, R_its_k0 hB, bnd_s, R_its_k15 hB, bnd_s, lett_e, R_its_k12 hB, bnd_s, R_puts_k1 hB, bnd_s, h2, h14, rq_1 hB ha6, bnd_s, rqs_1 hB ha6, bnd_s, updD_n D _ (show 102 + 8 * a + 1 ≠ 1 by omega), lett_e, lett_e, lett_e]
  have hD2 : ∀ j, j ≠ 1 → j ≠ 102 + 8 * a + 1 → updD (updD D 1 (D 12 + D 13)) (102 + 8 * a + 1) (D (102 + 8 * a + 1) + D 13) j = D j := fun j h1 h2 => by rw [updD_n _ _ h2, updD_n _ _ h1]
  refine loopR_seq (fun i => (aSm m0 D c a i, nI i)) n (fun i hi rec => ?_) (fun rec => ?_) 1000000 (by omega)
  · try dsimp only
    have hw : aWt m0 (updD (updD D 1 (D 12 + D 13)) (102 + 8 * a + 1) (D (102 + 8 * a + 1) + D 13)) i = aWt m0 D i := by
      unfold aWt
      rw [hD2 _ (by omega) (by omega), hD2 _ (by omega) (by omega), hD2 _ (by omega) (by omega)]
    have hl : aLy (updD (updD D 1 (D 12 + D 13)) (102 + 8 * a + 1) (D (102 + 8 * a + 1) + D 13)) (nI i) c = aLy D (nI i) c := aLy_cg (fun r hr => hD2 _ (by omega) (by omega))
    rw [mkR_0 _ _ _ _ (by decide), hK.n1, if_neg (nI_ge hi (by omega)), R_lying_m hB (n := c) (by rw [hD2 _ (by omega) (by omega)]; exact hc) (by omega), R_weightOf_m hB i rfl (by omega), hw, hl, aSm_s]
    simp only [lett_e, bnd_s, nA_1]
    by_cases e : i = a
    · rw [if_pos (by rw [e]), if_pos (Or.inl e)]
    · rw [if_neg (by rw [nI_eq (by omega) (by omega)]; exact e)]
      by_cases e0 : cnt D (nI i) c = 0
      · rw [if_pos ((cnt_0 D (nI i) hc1).1.mpr e0), if_neg (fun h => h.elim e (fun h => h e0))]
      · rw [if_neg (fun h => e0 ((cnt_0 D (nI i) hc1).1.mp h)), if_pos (Or.inr e0)]
  · try dsimp only
    rw [mkR_0 _ _ _ _ (by decide), hK.n1, if_pos (nI_le (Nat.le_refl _) (by omega)), R_part_k18 hB, bnd_s, grd_t g1, grd_t g2, R_setsPart_k18 hB, bnd_s, R_its_k0 hB, bnd_s, hD2 0 (by omega) (by omega), rqs_4 hB ha6, bnd_s]
    simp (disch := omega) only [ro_5 hB, rs_5 hB, ro_9 hB, rs_9 hB, ro_10 hB, rs_10 hB, ro_11 hB, rs_11 hB, ro_12 hB, rs_12 hB, bnd_s, R_gr_m, updD_n, R_its_k16 hB]
    rw [show updD F 18 (FP.fadd (F 18) (FP.fdiv (FP.i2f (D 13)) (FP.i2f (aSm m0 D c a n)))) = dF m0 D F c a n from rfl, show updD (updD (updD (updD (updD (updD (updD (updD D 1 (D 12 + D 13)) (102 + 8 * a + 1) (D (102 + 8 * a + 1) + D 13)) (102 + 8 * a + 4) (D 0)) (18 + 14 * p + 5) (D (18 + 14 * p + 5) - 1)) (18 + 14 * p + 9) (D (18 + 14 * p + 9) + 1)) (18 + 14 * p + 10) (D (18 + 14 * p + 10) + D 13)) (18 + 14 * p + 11) (D (18 + 14 * p + 11) + (D 0 - D 15))) (18 + 14 * p + 12) (aGr (D 0 - D 15) (D (18 + 14 * p + 12))) = dB D a p from rfl]
    have eF : dF m0 D F c a n (12 + a) = F (12 + a) := by unfold dF; rw [updD_n _ _ (by omega)]
    generalize dF m0 D F c a n = F1 at eF ⊢
    refine (lett_j (mkR m0 B (dW m0 D a p) F1) (fun j => ?_)).trans ?_
    · unfold dW
      have e17 : updD (dB D a p) (18 + 14 * p + 2) 0 17 = D 17 := by rw [updD_n _ _ (by omega), dB_o (by omega) (by omega) (by omega) (by omega) (by omega) (by omega) (by omega) (by omega)]
      rw [ald_n hp6 (by omega), mkR_3, ix_nI (by omega), rs_2 hB hp6, bnd_s, R_its_k17 hB, bnd_s, e17, rs_1 hB hp6, bnd_s]
      by_cases q1 : D 16 = 0
      · rw [if_pos q1]
        by_cases q2 : gI m0 3 p = 0
        · rw [if_pos q2, if_pos ⟨q1, q2⟩]
        · rw [if_neg q2, if_neg (fun h => q2 h.2)]
      · rw [if_neg q1, if_neg (fun h => q1 h.1)]
    · have hD6 : ∀ j, j ≠ 1 → j ≠ 102 + 8 * a + 1 → j ≠ 102 + 8 * a + 4 → (j < 18 + 14 * p ∨ 18 + 14 * p + 14 ≤ j) → dW m0 D a p j = D j := fun j q1 q2 q3 q4 => dW_o q1 q2 q3 (by omega)
      have hl : aLy (dW m0 D a p) (nI a) c = aLy D (nI a) c := aLy_cg (fun r hr => hD6 _ (by omega) (by omega) (by omega) (by omega))
      rw [R_lying_m hB (n := c) (by rw [hD6 _ (by omega) (by omega) (by omega) (by omega)]; exact hc) (by omega), bnd_s, hl]
      refine (lett_j (mkR m0 B (dU m0 D F c a p) F1) (fun j => ?_)).trans ?_
      · unfold dU
        by_cases q0 : aLy D (nI a) c = 0
        · rw [if_pos q0, if_pos q0, ald_n ha6 (by omega), mkR_3, ix_nI (by omega)]
          have eF2 : aFar (dW m0 D a p) a = aFar D a := by rw [aFar_N, aFar_N, hD6 _ (by omega) (by omega) (by omega) (by omega)]
          rw [R_far_m hB a rfl ha6, eF2, rf_12 hB ha6, eF, R_its_k6 hB, R_its_k0 hB, hD6 6 (by omega) (by omega) (by omega) (by omega), hD6 0 (by omega) (by omega) (by omega) (by omega)]
          simp only [bnd_s, lett_e, R_puts_k4 hB]
          by_cases q1 : gI m0 3 a = 0
          · rw [if_pos q1]
            by_cases q2 : (5 : Int32) ≤ aFar D a
            · rw [if_pos q2, if_pos trivial, if_neg (fun h => h.2.1 q2)]
            · rw [if_neg q2]
              by_cases q3 : 0 < Op.cmpValue (FP.fcmp (F (12 + a)) (FP.i2f (D 6))) .g
              · rw [if_pos q3, if_pos trivial, if_neg (fun h => h.2.2 q3)]
              · rw [if_neg q3, if_neg (by decide), if_pos ⟨q1, q2, q3⟩]
          · rw [if_neg q1, if_pos trivial, if_neg (fun h => q1 h.1)]
        · rw [if_neg q0, if_neg q0]
      · generalize dU m0 D F c a p = D'
        rw [mkR_53]
        unfold lgE
        by_cases hb0 : B = 0
        · rw [if_pos hb0, if_pos (by rw [hb0]; rfl)]
        · have hx := hx.resolve_left hb0
          have e57 : ∀ m : Mm, gI m 0 57 = gI m0 0 57 → gI (mkR m B D' F1) 0 57 = nI x := fun m hm => by rw [mkR_o _ _ _ _ (by omega) (by omega), hm, hx.1]
          rw [if_neg hb0, if_neg (by intro e; have := (nI_eq (by rcases hB with h | h <;> omega) (by decide)).mp (show nI B = nI 0 from e); exact hb0 this), e57 m0 rfl, nM_4, ald_n (by omega) (by omega), ix_nI (by omega), mkR_o _ _ _ _ (by omega) (by omega), mkR_skip _ _ _ _ _ (by omega) (by omega), lett_e, e57 _ (gw_n _ _ _ _ (by omega)), nM_4, nA_1, ald_n (by omega) (by omega), ix_nI (by omega), mkR_skip _ _ _ _ _ (by omega) (by omega), lett_e, e57 _ ((gw_n _ _ _ _ (by omega)).trans (gw_n _ _ _ _ (by omega))), nM_4, nA_2, ald_n (by omega) (by omega), ix_nI (by omega), mkR_skip _ _ _ _ _ (by omega) (by omega), lett_e, e57 _ ((gw_n _ _ _ _ (by omega)).trans ((gw_n _ _ _ _ (by omega)).trans (gw_n _ _ _ _ (by omega)))), nM_4, nA_3, ald_n (by omega) (by omega), ix_nI (by omega), mkR_skip _ _ _ _ _ (by omega) (by omega), lett_e, e57 _ ((gw_n _ _ _ _ (by omega)).trans ((gw_n _ _ _ _ (by omega)).trans ((gw_n _ _ _ _ (by omega)).trans (gw_n _ _ _ _ (by omega))))), nA_1, mkR_skip _ _ _ _ _ (by omega) (by omega), lett_e]
end DONE
