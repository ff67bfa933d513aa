/-! PURE: floats compared; what expiring keeps; frames -/
theorem fc_v {x y : UInt32} (hx : x.toNat ≤ 2139095040) (hy : y.toNat ≤ 2139095040) (op : CmpOp) : (x.toNat < y.toNat ∧ Op.cmpValue (FP.fcmp x y) op = -1) ∨ (x.toNat = y.toNat ∧ Op.cmpValue (FP.fcmp x y) op = 0) ∨ (y.toNat < x.toNat ∧ Op.cmpValue (FP.fcmp x y) op = 1) := by
  have h := FP.Core.fcmp_key (f_nn hx (Nat.le_refl _)) (f_nn hy (Nat.le_refl _))
  have kx : FP.Core.fkey x = (x.toNat : Int) := by unfold FP.Core.fkey; rw [if_neg (by omega)]
  have ky : FP.Core.fkey y = (y.toNat : Int) := by unfold FP.Core.fkey; rw [if_neg (by omega)]
  rw [kx, ky] at h
  rw [show FP.fcmp x y = FP.Core.fcmp x y from rfl, h]
  rcases Nat.lt_trichotomy x.toNat y.toNat with h1 | h1 | h1
  · left
    rw [(FP.Core.compare_lt_iff _ _).mpr (by omega)]
    exact ⟨h1, rfl⟩
  · right; left
    rw [(FP.Core.compare_eq_iff _ _).mpr (by omega)]
    exact ⟨h1, rfl⟩
  · right; right
    rw [(FP.Core.compare_gt_iff _ _).mpr (by omega)]
    exact ⟨h1, rfl⟩
theorem fc_le {x y : UInt32} (hx : x.toNat ≤ 2139095040) (hy : y.toNat ≤ 2139095040) (op : CmpOp) : Op.cmpValue (FP.fcmp x y) op ≤ 0 ↔ x.toNat ≤ y.toNat := by
  rcases fc_v hx hy op with ⟨h1, h2⟩ | ⟨h1, h2⟩ | ⟨h1, h2⟩ <;> rw [h2]
  · exact ⟨fun _ => by omega, fun _ => by decide⟩
  · exact ⟨fun _ => by omega, fun _ => by decide⟩
  · exact ⟨fun h => absurd h (by decide), fun h => by omega⟩
theorem fc_ge {x y : UInt32} (hx : x.toNat ≤ 2139095040) (hy : y.toNat ≤ 2139095040) (op : CmpOp) : 0 ≤ Op.cmpValue (FP.fcmp x y) op ↔ y.toNat ≤ x.toNat := by
  rcases fc_v hx hy op with ⟨h1, h2⟩ | ⟨h1, h2⟩ | ⟨h1, h2⟩ <;> rw [h2]
  · exact ⟨fun h => absurd h (by decide), fun h => by omega⟩
  · exact ⟨fun _ => by omega, fun _ => by decide⟩
  · exact ⟨fun _ => by omega, fun _ => by decide⟩
theorem fc_gt {x y : UInt32} (hx : x.toNat ≤ 2139095040) (hy : y.toNat ≤ 2139095040) (op : CmpOp) : 0 < Op.cmpValue (FP.fcmp x y) op ↔ y.toNat < x.toNat := by
  rcases fc_v hx hy op with ⟨h1, h2⟩ | ⟨h1, h2⟩ | ⟨h1, h2⟩ <;> rw [h2]
  · exact ⟨fun h => absurd h (by decide), fun h => by omega⟩
  · exact ⟨fun h => absurd h (by decide), fun h => by omega⟩
  · exact ⟨fun _ => by omega, fun _ => by decide⟩
theorem fc_lt {x y : UInt32} (hx : x.toNat ≤ 2139095040) (hy : y.toNat ≤ 2139095040) (op : CmpOp) : Op.cmpValue (FP.fcmp x y) op < 0 ↔ x.toNat < y.toNat := by
  rcases fc_v hx hy op with ⟨h1, h2⟩ | ⟨h1, h2⟩ | ⟨h1, h2⟩ <;> rw [h2]
  · exact ⟨fun _ => by omega, fun _ => by decide⟩
  · exact ⟨fun h => absurd h (by decide), fun h => by omega⟩
  · exact ⟨fun h => absurd h (by decide), fun h => by omega⟩
/-- what is kept stays -/
def KFr (D D' : Nat → Int32) (E E' : Mm) : Prop := D' 9 = D 9 ∧ (∀ j, 598 ≤ j → D' j = D j) ∧ (∀ k, gI E' 7 k = gI E 7 k) ∧ gI E' 6 1 = gI E 6 1
/-- what is counted stays -/
def CFr (D D' : Nat → Int32) (E E' : Mm) : Prop := (∀ p k, p < 6 → 9 ≤ k → k ≤ 12 → D' (18 + 14 * p + k) = D (18 + 14 * p + k)) ∧ (∀ p k, p < 6 → 9 ≤ k → k ≤ 13 → gI E' (8 + 2 * p) k = gI E (8 + 2 * p) k) ∧ gI E' 0 18 = gI E 0 18 ∧ gI E' 0 19 = gI E 0 19 ∧ ∀ r k, 20 ≤ r → gI E' r k = gI E r k
theorem KFr.rf (D : Nat → Int32) (E : Mm) : KFr D D E E := ⟨rfl, fun _ _ => rfl, fun _ => rfl, rfl⟩
theorem CFr.rf (D : Nat → Int32) (E : Mm) : CFr D D E E := ⟨fun _ _ _ _ _ => rfl, fun _ _ _ _ _ => rfl, rfl, rfl, fun _ _ _ => rfl⟩
theorem KFr.tr {D D' D2 : Nat → Int32} {E E' E2 : Mm} (h : KFr D D' E E') (h' : KFr D' D2 E' E2) : KFr D D2 E E2 := ⟨h'.1.trans h.1, fun j hj => (h'.2.1 j hj).trans (h.2.1 j hj), fun k => (h'.2.2.1 k).trans (h.2.2.1 k), h'.2.2.2.trans h.2.2.2⟩
theorem CFr.tr {D D' D2 : Nat → Int32} {E E' E2 : Mm} (h : CFr D D' E E') (h' : CFr D' D2 E' E2) : CFr D D2 E E2 := ⟨fun p k a b c => (h'.1 p k a b c).trans (h.1 p k a b c), fun p k a b c => (h'.2.1 p k a b c).trans (h.2.1 p k a b c), h'.2.2.1.trans h.2.2.1, h'.2.2.2.1.trans h.2.2.2.1, fun r k hr => (h'.2.2.2.2 r k hr).trans (h.2.2.2.2 r k hr)⟩
section FRS
variable {m0 : Mm} {n s t u c r a p q : Nat} {D : Nat → Int32} {F : Nat → UInt32} {E : Mm} {hand think how : Int32}
theorem aAskD_hi {j : Nat} {sec many : Int32} (hp : p < 6) (hq : q < 6) (hj : 150 + 7 * c + 7 ≤ j) : aAskD m0 D c p q sec many hand think j = D j := by
  unfold aAskD aRow
  simp (disch := omega) only [updD_n, aD4_o, aJ_o, aD2_o]
theorem ask_KF {sec many : Int32} {tick th : Int32} (hp : p < 6) (hq : q < 6) (hc : c < 54) : KFr D (aAskD m0 D c p q sec many hand think) E (eRow E c p q sec many tick th) := by
  refine ⟨aAskD_lo (by omega) (by omega) (by omega) (by omega) (by omega) (by omega) (by omega) (by omega) (by omega), fun j hj => aAskD_hi hp hq (by omega), fun k => ?_, ?_⟩
  · unfold eRow; simp (disch := omega) only [gw_n]
  · unfold eRow; simp (disch := omega) only [gw_n]
theorem ask_CF {sec many : Int32} {tick th : Int32} (hp : p < 6) (hq : q < 6) : CFr D (aAskD m0 D c p q sec many hand think) E (eRow E c p q sec many tick th) := by
  refine ⟨fun i k hi h1 h2 => aAskD_lo (by omega) (by omega) (by omega) (by omega) (by omega) (by omega) (by omega) (by omega) (by omega), fun i k hi h1 h2 => ?_, ?_, ?_, fun r k hr => ?_⟩
  · unfold eRow; simp (disch := omega) only [gw_n]
  · unfold eRow; simp (disch := omega) only [gw_n]
  · unfold eRow; simp (disch := omega) only [gw_n]
  · unfold eRow; simp (disch := omega) only [gw_n]
theorem go_KF (ha : a < 6) (hr : r < c) (hc : c ≤ 54) : KFr D (aGoD m0 D c r) E (eGo E c r a) := by
  refine ⟨aGoD_o (by omega) (by omega) (by omega) (by omega), fun j hj => ?_, fun k => ?_, ?_⟩
  · unfold aGoD; rw [if_neg (by omega), if_neg (by omega), if_neg (by omega), if_neg (by omega)]
  · unfold eGo; rw [gw_n _ _ _ _ (by omega), gcp_n _ _ _ _ _ _ _ (by omega), gcp_n _ _ _ _ _ _ _ (by omega)]
  · unfold eGo; rw [gw_n _ _ _ _ (by omega), gcp_n _ _ _ _ _ _ _ (by omega), gcp_n _ _ _ _ _ _ _ (by omega)]
theorem go_CF (ha : a < 6) : CFr D (aGoD m0 D c r) E (eGo E c r a) := by
  refine ⟨fun i k hi h1 h2 => aGoD_o (by omega) (by omega) (by omega) (by omega), fun i k hi h1 h2 => ?_, ?_, ?_, fun r k hr => ?_⟩
  · unfold eGo; rw [gw_n _ _ _ _ (by omega), gcp_n _ _ _ _ _ _ _ (by omega), gcp_n _ _ _ _ _ _ _ (by omega)]
  · unfold eGo; rw [gw_n _ _ _ _ (by omega), gcp_n _ _ _ _ _ _ _ (by omega), gcp_n _ _ _ _ _ _ _ (by omega)]
  · unfold eGo; rw [gw_n _ _ _ _ (by omega), gcp_n _ _ _ _ _ _ _ (by omega), gcp_n _ _ _ _ _ _ _ (by omega)]
  · unfold eGo; rw [gw_n _ _ _ _ (by omega), gcp_n _ _ _ _ _ _ _ (by omega), gcp_n _ _ _ _ _ _ _ (by omega)]
/-! expired -/
variable {k : Nat}
theorem aExD_o {j : Nat} (h1 : j ≠ 9) (h2 : j ≠ 8) (h3 : j ≠ 2) (h4 : j ≠ 102 + 8 * q + 0) (h5 : j ≠ 102 + 8 * q + 1) (h6 : j < 598) : aExD m0 D F q k how j = D j := by
  unfold aExD aX2
  rw [aWr_o h1 h6, updD_n _ _ h3, updD_n _ _ h5, updD_n _ _ h4, updD_n _ _ h2]
theorem aExD_2 : aExD m0 D F q k how 2 = -1 := by
  unfold aExD
  rw [aWr_o (by omega) (by omega), updD_s]
theorem ex_Inv (hK : PK m0 n s) (I : Inv m0 n s t u c D F) (h : xH n u t D q) (hl : ¬ 0 < D 5) : Inv m0 n s t (t + 1) c (aExD m0 D F q k how) (aExF m0 D F q c how) := by
  have hn := hK.n6
  have hc := I.c1
  have hq := h.2.1
  obtain ⟨-, ⟨x1, -⟩, x2, x3, ⟨-, -, x4⟩, -, -, x5⟩ := ex_fl hK I h how
  have e5 : aExD m0 D F q k how 5 = D 5 := aExD_o (by omega) (by omega) (by omega) (by omega) (by omega) (by omega)
  refine ⟨?_, ?_, ?_, ?_, ?_, ?_, ?_, ?_⟩
  · obtain ⟨g1, g2, g3, g4, g5, g6, g7, g8, g9⟩ := I.g
    unfold iG
    rw [aExD_2]
    have e8 : aExD m0 D F q k how 8 = aXT m0 D F q := by
      unfold aExD aX2
      rw [aWr_o (by omega) (by omega), updD_n _ _ (by omega), updD_n _ _ (by omega), updD_n _ _ (by omega), updD_s]
    rw [e8]
    simp (disch := omega) only [aExD_o]
    exact ⟨g1, g2, Or.inl trivial, g4, g5, x2, g7, g8, g9⟩
  · refine I.p.cg (fun p hp => ?_)
    simp (disch := omega) only [aExD_o, and_self]
  · intro i hi
    obtain ⟨q1, q2, q3, q4⟩ := I.q i hi
    by_cases e : i = q
    · subst e
      have e0 : aExD m0 D F i k how (102 + 8 * i + 0) = aLe (aXT m0 D F i) (aGr (gI m0 0 5) (aXN D i how)) := by
        unfold aExD aX2
        rw [aWr_o (by omega) (by omega), updD_n _ _ (by omega), updD_n _ _ (by omega), updD_s]
      rw [e0]
      simp (disch := omega) only [aExD_o]
      exact ⟨x3, q2, q3, q4⟩
    · simp (disch := omega) only [aExD_o]
      exact ⟨q1, q2, q3, q4⟩
  · refine I.r.cg (fun j h1 h2 => ?_)
    exact aExD_o (by omega) (by omega) (by omega) (by omega) (by omega) (by omega)
  · intro h5
    rw [e5] at h5
    exact absurd h5 hl
  · intro i hi h2
    rw [aExD_2] at h2
    exact absurd h2.symm (nI_neg1 (by omega))
  · refine I.o.cg e5 (fun p hp => ?_)
    simp (disch := omega) only [aExD_o, and_self]
  · unfold aExF
    refine ⟨fun j hj => ?_, fun j hj => ?_, ?_, ?_⟩
    · by_cases h : j = 6 + q
      · subst h; rw [updD_s]; exact x5
      · rw [updD_n _ _ h]
        by_cases h : j = 0 + q
        · subst h; rw [updD_s]; exact x4
        · rw [updD_n _ _ h, updD_n _ _ (by omega)]; exact I.f.1 j hj
    · rw [updD_n _ _ (by omega), updD_n _ _ (by omega), updD_n _ _ (by omega)]; exact I.f.2.1 j hj
    · rw [updD_n _ _ (by omega), updD_n _ _ (by omega), updD_n _ _ (by omega)]; exact I.f.2.2.1
    · rw [updD_n _ _ (by omega), updD_n _ _ (by omega), updD_s]; exact x1
theorem ex_X (hn : n ≤ 6) (hX : XR n c E D) (hq : q < n) (hc : c ≤ 54) (hl : ¬ 0 < D 5) {T : Nat} {tick qq sv : Int32} : XR n c (eKA E T tick qq how sv) (aExD m0 D F q k how) := by
  obtain ⟨hW, hY, hB, hS⟩ := hX
  have ge : ∀ x i, x ≠ 7 → x ≠ 6 → gI (eKA E T tick qq how sv) x i = gI E x i := fun x i h1 h2 => by
    unfold eKA; simp (disch := omega) only [gw_n]
  refine ⟨fun i hi => ?_, fun i hi => ?_, fun h5 => ?_, fun i hi h2 => ?_⟩
  · obtain ⟨⟨w1, w2, w3, w4, w5⟩, w6⟩ := hW i hi
    unfold xRow
    dsimp only at w1 w2 w3 w4 w5 ⊢
    simp (disch := omega) only [ge, aExD_o]
    exact ⟨⟨w1, w2, w3, w4, w5⟩, w6⟩
  · rw [ge _ _ (by omega) (by omega), aLy_cg (D := D) (fun r hr => aExD_o (by omega) (by omega) (by omega) (by omega) (by omega) (by omega))]
    exact hY i hi
  · rw [aExD_o (by omega) (by omega) (by omega) (by omega) (by omega) (by omega)] at h5
    exact absurd h5 hl
  · rw [aExD_2] at h2
    exact absurd h2.symm (nI_neg1 (by omega))
theorem ex_L (hL : PL m0 n E) {T : Nat} {tick qq sv : Int32} : PL m0 n (eKA E T tick qq how sv) := by
  unfold eKA
  exact (((((hL.w _ (by omega)).w _ (by omega)).w _ (by omega)).w _ (by omega)).w _ (by omega))
theorem ex_CF (hq : q < 6) {T : Nat} {tick qq sv : Int32} : CFr D (aExD m0 D F q k how) E (eKA E T tick qq how sv) := by
  have ge : ∀ x i, x ≠ 7 → x ≠ 6 → gI (eKA E T tick qq how sv) x i = gI E x i := fun x i h1 h2 => by
    unfold eKA; simp (disch := omega) only [gw_n]
  exact ⟨fun i k hi h1 h2 => aExD_o (by omega) (by omega) (by omega) (by omega) (by omega) (by omega), fun i k hi h1 h2 => ge _ _ (by omega) (by omega), ge _ _ (by omega) (by omega), ge _ _ (by omega) (by omega), fun r k hr => ge _ _ (by omega) (by omega)⟩
end FRS
