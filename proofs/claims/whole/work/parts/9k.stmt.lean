/-! PURE: a statement along the text -/
section STMT
variable {l T : Nat} {B : Nat → Nat} {M R M' R' : Mm}
def Pf (M R : Mm) : Prop := (∀ j, j < 11 → gI M 7 j = gI R 0 (20 + j)) ∧ isR 1 501 (gI R 0 21) ∧ isR 1 65 (gI R 0 22) ∧ (∃ lo hi, gI R 0 23 = nI lo ∧ gI R 0 24 = nI hi ∧ 1 ≤ lo ∧ lo ≤ hi ∧ hi < 1000) ∧ isN 21 (gI R 0 25) ∧ isR 1 201 (gI R 0 26) ∧ isN 1000 (gI R 0 27) ∧ isR 1 21 (gI R 0 28) ∧ isN 501 (gI R 0 29) ∧ isN 1000 (gI R 0 30)
def Pr (s c : Nat) (M R : Mm) : Prop := gI M 7 11 = nI c ∧ gI R 0 19 = nI c ∧ c ≤ 6 ∧ gI R 0 20 = nI s ∧ (64 ≤ s ∧ s < 10000) ∧ (∀ p, p < c → Prc s p M R) ∧ ∀ p i, c ≤ p → p < 6 → i < 6 → gI M 8 (6 * p + i) = 0
def mk2 (n : Nat) : Int32 := nI (n % 2 * 8 + n / 2 % 2 * 32 + n / 4 % 2 * 64 + n / 8 % 2 * 128 + n / 16 % 2 * 256)
def pop (n : Nat) : Nat := n % 2 + n / 2 % 2 + n / 4 % 2 + n / 8 % 2 + n / 16 % 2
def Pm (n : Nat) (M R : Mm) : Prop := gI M 0 7 = nI n ∧ gI R 0 31 = mk2 n ∧ n < 32
def Gd (s c n : Nat) (M R : Mm) : Prop := Pf M R ∧ Pr s c M R ∧ Pm n M R
theorem pop_5 (n : Nat) : pop n ≤ 5 := by unfold pop; omega
def bt2 (b : Nat) : Nat := [8, 32, 64, 128, 256].getD b 0
theorem once_d : ∀ n, n < 32 → ∀ b, b < 5 → (nI n &&& nI (2 ^ b) = 0 ∧ mk2 n &&& nI (bt2 b) = 0 ∧ n + 2 ^ b < 32 ∧ nI n ||| nI (2 ^ b) = nI (n + 2 ^ b) ∧ mk2 n ||| nI (bt2 b) = mk2 (n + 2 ^ b) ∧ pop (n + 2 ^ b) = pop n + 1) ∨ (¬ nI n &&& nI (2 ^ b) = 0 ∧ ¬ mk2 n &&& nI (bt2 b) = 0) := by decide +kernel
def MFq (M M' : Mm) : Prop := (∀ a i, ¬ (a = 0 ∧ 6 ≤ i ∧ i ≤ 9) → ¬ (7 ≤ a ∧ a ≤ 15) → gI M' a i = gI M a i) ∧ M'.2 = M.2
def RFq (R R' : Mm) : Prop := (∀ a i, ¬ (a = 0 ∧ 19 ≤ i ∧ i ≤ 31) → ¬ (a = 0 ∧ 44 ≤ i ∧ i ≤ 47) → ¬ (7 ≤ a ∧ a ≤ 12) → gI R' a i = gI R a i) ∧ R'.2 = R.2
theorem MFq.tr {M2 : Mm} (h : MFq M M') (h' : MFq M' M2) : MFq M M2 := ⟨fun a i e1 e2 => (h'.1 a i e1 e2).trans (h.1 a i e1 e2), h'.2.trans h.2⟩
theorem RFq.tr {R2 : Mm} (h : RFq R R') (h' : RFq R' R2) : RFq R R2 := ⟨fun a i e1 e2 e3 => (h'.1 a i e1 e2 e3).trans (h.1 a i e1 e2 e3), h'.2.trans h.2⟩
theorem MFq.p (h : PFr M M') : MFq M M' := ⟨fun a i e1 e2 => h.i (by omega), h.2⟩
theorem RFq.p (h : RFr R R') : RFq R R' := ⟨fun a i e1 e2 e3 => h.i e2, h.2⟩
theorem Prc.fr {s c : Nat} (h : Prc s c M R) (e : ∀ a i, 8 ≤ a ∧ a ≤ 15 → (a = 8 → 6 * c ≤ i ∧ i < 6 * c + 6) → (9 ≤ a ∧ a ≤ 12 → i = c) → (13 ≤ a → 6 * c ≤ i ∧ i < 6 * c + 6) → gI M' a i = gI M a i) (r : ∀ a i, 7 ≤ a ∧ a ≤ 12 → (a = 12 → 6 * c ≤ i ∧ i < 6 * c + 6) → (7 ≤ a ∧ a ≤ 10 → i = c) → (a = 11 → 3 * (6 * c) ≤ i ∧ i < 3 * (6 * c) + 18) → gI R' a i = gI R a i) : Prc s c M' R' := by
  obtain ⟨h1, h2, h3, h4, k, k1, k2, k3, h5, h6⟩ := h
  refine ⟨fun i hi => ?_, ?_, ?_, ?_, k, k1, k2, ?_, ?_, fun j hj => ?_⟩
  · rw [e _ _ (by omega) (by omega) (by omega) (by omega), r _ _ (by omega) (by omega) (by omega) (by omega)]; exact h1 i hi
  · rw [e _ _ (by omega) (by omega) (by omega) (by omega), r _ _ (by omega) (by omega) (by omega) (by omega)]; exact h2
  · rw [e _ _ (by omega) (by omega) (by omega) (by omega), r _ _ (by omega) (by omega) (by omega) (by omega)]; exact h3
  · rw [e _ _ (by omega) (by omega) (by omega) (by omega), r _ _ (by omega) (by omega) (by omega) (by omega)]; exact h4
  · rw [e _ _ (by omega) (by omega) (by omega) (by omega)]; exact k3
  · rw [r _ _ (by omega) (by omega) (by omega) (by omega)]; exact h5
  · rw [e 13 _ (by omega) (by omega) (by omega) (by omega), e 14 _ (by omega) (by omega) (by omega) (by omega), e 15 _ (by omega) (by omega) (by omega) (by omega), r _ _ (by omega) (by omega) (by omega) (by omega), r _ (3 * (6 * c + j) + 1) (by omega) (by omega) (by omega) (by omega), r _ (3 * (6 * c + j) + 2) (by omega) (by omega) (by omega) (by omega)]
    exact h6 j hj
theorem Pr.fr {s c : Nat} (h : Pr s c M R) (e : ∀ a i, (a = 7 ∧ i = 11) ∨ (8 ≤ a ∧ a ≤ 15) → gI M' a i = gI M a i) (r : ∀ a i, (a = 0 ∧ (i = 19 ∨ i = 20)) ∨ (7 ≤ a ∧ a ≤ 12) → gI R' a i = gI R a i) : Pr s c M' R' := by
  obtain ⟨h1, h2, h3, h4, h5, h6, h7⟩ := h
  exact ⟨(e _ _ (by omega)).trans h1, (r _ _ (by omega)).trans h2, h3, (r _ _ (by omega)).trans h4, h5, fun p hp => (h6 p hp).fr (fun a i q _ _ _ => e a i (by omega)) (fun a i q _ _ _ => r a i (by omega)), fun p i q1 q2 q3 => (e _ _ (by omega)).trans (h7 p i q1 q2 q3)⟩
theorem Pf.fr (h : Pf M R) (e : ∀ j, j < 11 → gI M' 7 j = gI M 7 j) (r : ∀ j, j < 11 → gI R' 0 (20 + j) = gI R 0 (20 + j)) : Pf M' R' := by
  unfold Pf at h ⊢
  rw [r 1 (by omega), r 2 (by omega), r 3 (by omega), r 4 (by omega), r 5 (by omega), r 6 (by omega), r 7 (by omega), r 8 (by omega), r 9 (by omega), r 10 (by omega)]
  exact ⟨fun j hj => by rw [e j hj, r j hj]; exact h.1 j hj, h.2⟩
theorem Gd.fr {s c n : Nat} (h : Gd s c n M R) (e : ∀ a i, (7 ≤ a ∧ a ≤ 15) ∨ (a = 0 ∧ i = 7) → gI M' a i = gI M a i) (r : ∀ a i, (a = 0 ∧ 19 ≤ i ∧ i ≤ 31) ∨ (7 ≤ a ∧ a ≤ 12) → gI R' a i = gI R a i) : Gd s c n M' R' := ⟨h.1.fr (fun j hj => e _ _ (by omega)) (fun j hj => r _ _ (by omega)), h.2.1.fr (fun a i q => e a i (by omega)) (fun a i q => r a i (by omega)), (e _ _ (by omega)).trans h.2.2.1, (r _ _ (by omega)).trans h.2.2.2.1, h.2.2.2.2⟩
theorem word_C (h : Zt l B T M R) (h8 : gI M 0 8 = 0) {k j : Nat} (k1 : k ≤ T) (k2 : gI M 0 6 = nI k) (hj : j < 20) (e : gR M 4 k = some (1000 + j)) : P_DExpectWord (1000 + j) M = some (sI M 0 6 (nI (k + 1))) := by
  have hT := h.2.1.1
  have ok := h.2.2.2.2.2.2 k (by omega)
  unfold P_DExpectWord
  rw [if_pos h8, k2, ald_n (by omega) (by omega), lett_e, ix_nI (by omega), grd_t ⟨ok, okW_20 hj⟩, if_pos e, lett_e, nI_1]
/-- what a statement leaves, before its sign -/
def Lf (l : Nat) (B : Nat → Nat) (T s c n : Nat) (M R M' R' : Mm) : Prop := Zt l B T M' R' ∧ MFq M M' ∧ RFq R R' ∧ (gI M' 0 8 = 0 → ∃ c' n', Gd s c' n' M' R' ∧ c' + pop n' = c + pop n + 1)
theorem Lf.fail {s c n k : Nat} (h : Zt l B T M R) {f p : Int32} (hf : ¬ f = 0) (hp : PFr M M') (hr : RFq R R') (k1 : k ≤ T) (k2 : gI M' 0 6 = nI k) (e1 : gI M' 0 8 = f) (e2 : gI M' 0 9 = p) (e3 : gI R' 0 46 = f) (e4 : gI R' 0 47 = p) : Lf l B T s c n M R M' R' := by
  have f4 : ∀ i, gR M' 4 i = gR M 4 i := fun i => hp.r
  refine ⟨⟨h.1.fr (fun a i q => hp.i (by omega)), h.2.1.fr (fun a i q => hp.i (by omega)) f4, h.2.2.1.fr (fun a i q => hr.1 a i (by omega) (by omega) (by omega)), ⟨k, k1, k2, fun h8 => absurd (e1.symm.trans h8) hf⟩, e1.trans e3.symm, e2.trans e4.symm, fun i hi => by rw [f4]; exact h.2.2.2.2.2.2 i hi⟩, .p hp, hr, fun h8 => absurd (e1.symm.trans h8) hf⟩
/-- a process -/
theorem proc_st (h : Zt l B T M R) (h8 : gI M 0 8 = 0) {s c n k s0 : Nat} (g : Gd s c n M R) (k1 : k < T) (k2 : gI M 0 6 = nI k) (ks : gI M 2 k = nI s0) {j : Nat} (hj : j = 14 ∨ j = 19) (e : gR M 4 k = some (1000 + j)) {R1 : Mm} (w1 : RFr R R1) (w2 : gI R1 0 45 = nI s0) (w3 : gI R1 0 46 = 0) (w4 : gI R1 0 47 = gI R 0 47) {pos : Nat} (w5 : gI R1 0 44 = nI pos) (w6 : AtT l B M T (k + 1) pos) : ∃ M' R', P_DReadProcess (1000 + j) M = some M' ∧ R_readsProcess (if j = 14 then 1 else 0) R1 = some R' ∧ Lf l B T s c n M R M' R' := by
  obtain ⟨g1, ⟨g2, g3, g4, g5, g6, g7, g8⟩, g9⟩ := g
  have hT := h.2.1.1
  have r19 : gI R1 0 19 = nI c := (w1.i (by omega)).trans g3
  have zh : Zt l B T (sI M 0 6 (nI (k + 1))) R1 := h.go (PFr.w (by omega)) w1 (k := k + 1) (by omega) (gw_s _ _ _ _) (fun _ => ⟨pos, w5, w6⟩) (by rw [gw_n _ _ _ _ (by omega), w3]; exact h8) (by rw [gw_n _ _ _ _ (by omega), w4]; exact h.2.2.2.2.2.1)
  have wC := word_C h h8 (by omega) k2 (by omega) e
  by_cases c6 : c = 6
  · subst c6
    refine ⟨sI (sI M 0 8 5) 0 9 (nI s0), sI (sI R1 0 46 5) 0 47 (nI s0), ?_, ?_, Lf.fail h (f := 5) (p := nI s0) (by decide) PFr.fail (.p (w1.tr RFr.fail)) (Nat.le_of_lt k1) (by rw [gw_n _ _ _ _ (by omega), gw_n _ _ _ _ (by omega)]; exact k2) (by rw [gw_n _ _ _ _ (by omega), gw_s]) (gw_s _ _ _ _) (by rw [gw_n _ _ _ _ (by omega), gw_s]) (gw_s _ _ _ _)⟩
    · unfold P_DReadProcess
      rw [lett_e, g2, if_neg (by decide), k2, ald_n (by omega) (by omega), ix_nI (by omega), ks, fail_P _ _ h8, bnd_s]
    · unfold R_readsProcess
      rw [lett_e, r19, if_pos (by decide), w2, fail_R _ _ w3, bnd_s]
      dsimp only
      rw [goes_f (by rw [gw_n _ _ _ _ (by omega), gw_s]; decide), bnd_s, if_pos rfl]
  · obtain ⟨wv, hw, hw1⟩ : ∃ wv : Int32, wv = (if j = 14 then 1 else 0) ∧ (wv = 0 ∨ wv = 1) := by
      refine ⟨_, rfl, ?_⟩
      split
      · exact Or.inr rfl
      · exact Or.inl rfl
    have g7' : ∀ x i, x < c → i < 6 → gI (sI M 0 6 (nI (k + 1))) 8 (6 * x + i) = gI R1 12 (6 * x + i) := fun x i hx hi => by
      rw [gw_n _ _ _ _ (by omega), w1.i (by omega)]
      exact (g7 x hx).1 i hi
    obtain ⟨M', R', a1, a2, a3, a4, a5, a6, a7, a8⟩ := proc_sim zh (by rw [gw_n _ _ _ _ (by omega)]; exact h8) (c := c) (s := s) (by omega) r19 g7' (fun i hi => by rw [gw_n _ _ _ _ (by omega)]; exact g8 c i (Nat.le_refl _) (by omega) hi) (by rw [gw_n _ _ _ _ (by omega)]; exact (g1.1 0 (by omega)).trans g5) ((w1.i (by omega)).trans g5) g6 hw1
    refine ⟨M', R', ?_, ?_, a3, ⟨fun a i q1 q2 => ?_, a4.2⟩, ⟨fun a i q1 q2 q3 => ?_, a5.2.trans w1.2⟩, fun f8 => ⟨c + 1, n, ⟨?_, ⟨a6, a7, by omega, ?_, g6, fun p hp => ?_, fun p i q1 q2 q3 => ?_⟩, ?_, ?_, g9.2.2⟩, by omega⟩⟩
    · refine Eq.trans ?_ a1
      unfold P_DReadProcess
      rw [lett_e, g2, if_pos (nlt_t 6 6 rfl (show c < 6 by omega) (by omega)), wC, bnd_s]
      unfold procC
      refine congrArg (bnd _) (funext fun M3 => ?_)
      rw [lett_e]
      refine Eq.trans ?_ (lett_e _ _).symm
      have jj : ∀ (g : Int32 → Option Mm), (lett g fun j69 => grd (okW (some (1000 + j)) = true ∧ okW (some 1014) = true) (if (some (1000 + j)) = (some 1014) then (j69 (1 : Int32)) else (j69 (0 : Int32)))) = g wv := fun g => by
        rw [lett_e, grd_t ⟨okW_20 (by omega), rfl⟩]
        rcases hj with hj | hj
        · subst hj
          rw [if_pos rfl, hw]
          rfl
        · subst hj
          rw [if_neg (by decide), hw]
          rfl
      refine (jj _).trans ?_
      exact grd_t hw1 _
    · refine Eq.trans ?_ a2
      unfold R_readsProcess
      rw [lett_e, r19, if_neg (neq_f 6 6 rfl c6 (by omega) (by omega))]
      dsimp only
      rw [goes_t w3, bnd_s, if_neg i10]
      unfold procR
      refine congrArg (bnd _) (funext fun M3 => ?_)
      have jj : ∀ (g : Int32 → Option Mm), (lett g fun j47 => if (if j = 14 then (1 : Int32) else 0) = 0 then (j47 (0 : Int32)) else (j47 (1 : Int32))) = g wv := fun g => by
        rw [lett_e]
        rcases hj with hj | hj
        · subst hj
          rw [hw]
          rfl
        · subst hj
          rw [hw]
          rfl
      refine (jj _).trans ?_
      unfold procR2 procR3 procR4
      rfl
    · rw [a4.1 _ _ (by omega) (by omega) (by omega) (by omega) (by omega), gw_n _ _ _ _ (by omega)]
    · rw [a5.1 _ _ q2 (by omega) (by omega) (by omega) (by omega), w1.i q2]
    · exact g1.fr (fun j hj => by rw [a4.1 _ _ (by omega) (by omega) (by omega) (by omega) (by omega), gw_n _ _ _ _ (by omega)]) (fun j hj => by rw [a5.1 _ _ (by omega) (by omega) (by omega) (by omega) (by omega), w1.i (by omega)])
    · rw [a5.1 _ _ (by omega) (by omega) (by omega) (by omega) (by omega), w1.i (by omega)]; exact g5
    · by_cases ep : p = c
      · subst ep
        exact a8 f8
      · exact (g7 p (by omega)).fr (fun a i q1 q2 q3 q4 => by rw [a4.1 _ _ (by omega) (by omega) (by omega) (by omega) (by omega), gw_n _ _ _ _ (by omega)]) (fun a i q1 q2 q3 q4 => by rw [a5.1 _ _ (by omega) (by omega) (by omega) (by omega) (by omega), w1.i (by omega)])
    · rw [a4.1 _ _ (by omega) (by omega) (by omega) (by omega) (by omega), gw_n _ _ _ _ (by omega)]; exact g8 p i (by omega) q2 q3
    · rw [a4.1 _ _ (by omega) (by omega) (by omega) (by omega) (by omega), gw_n _ _ _ _ (by omega)]; exact g9.1
    · rw [a5.1 _ _ (by omega) (by omega) (by omega) (by omega) (by omega), w1.i (by omega)]; exact g9.2.1
end STMT
