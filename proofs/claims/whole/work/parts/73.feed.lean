/-! PURE: feeding -/
theorem and255 (x : Int32) : isN 256 (x &&& 255) := by
  refine ⟨(x &&& 255).toBitVec.toNat, ?_, ?_⟩
  · rw [Int32.toBitVec_and, BitVec.toNat_and]
    exact Nat.lt_of_le_of_lt Nat.and_le_right (by decide)
  · refine Int32.toBitVec_inj.mp ?_
    show _ = (Int32.ofNat _).toBitVec
    rw [Int32.toBitVec_ofNat']
    simp
theorem byt (p : Int32) (k : Nat) (hk : k = 0 ∨ k = 8 ∨ k = 16 ∨ k = 24) : ((p.toUInt32 >>> ((nI k).toUInt32 &&& Int32.toUInt32 31)).toInt32) &&& (255 : Int32) = (p >>> ((nI k) &&& 31)) &&& (255 : Int32) := by
  refine Int32.toBitVec_inj.mp ?_
  rw [Int32.toBitVec_and, Int32.toBitVec_and]
  have h0 : (p >>> ((nI k) &&& 31)).toBitVec = p.toBitVec.sshiftRight' (((nI k) &&& 31).toBitVec.smod 32) := rfl
  have h1 : ((p.toUInt32 >>> ((nI k).toUInt32 &&& Int32.toUInt32 31)).toInt32).toBitVec = p.toBitVec >>> (((nI k).toUInt32 &&& Int32.toUInt32 31).toBitVec % 32) := rfl
  have e0 : (((nI k) &&& 31).toBitVec.smod 32).toNat = k := by rcases hk with rfl | rfl | rfl | rfl <;> decide
  have e1 : (((nI k).toUInt32 &&& Int32.toUInt32 31).toBitVec % 32).toNat = k := by rcases hk with rfl | rfl | rfl | rfl <;> decide
  rw [h0, h1, BitVec.sshiftRight_eq', BitVec.ushiftRight_eq', e0, e1]
  refine BitVec.eq_of_getLsbD_eq (fun i hi => ?_)
  rw [BitVec.getLsbD_and, BitVec.getLsbD_and, BitVec.getLsbD_sshiftRight, BitVec.getLsbD_ushiftRight]
  by_cases h : i < 8
  · have : k + i < 32 := by omega
    have h32 : decide (32 ≤ i) = false := decide_eq_false (by omega)
    rw [if_pos this, h32, Bool.not_false, Bool.true_and]
  · have : (255 : Int32).toBitVec.getLsbD i = false := by
      have hh : ∀ i, i < 32 → 8 ≤ i → (255 : Int32).toBitVec.getLsbD i = false := by decide
      exact hh i hi (by omega)
    rw [this]
    simp
def lay1 (M : Mm) (l : Nat) (b : Int32) : Mm := sI (sI M 20 l b) 19 1 (nI (l + 1))
def byC (p v : Int32) : Int32 := ((p.toUInt32 >>> (v.toUInt32 &&& Int32.toUInt32 31)).toInt32) &&& (255 : Int32)
def byR (p v : Int32) : Int32 := (p >>> (v &&& 31)) &&& (255 : Int32)
def aBody (p1 : Int32) (rec3 : (Int32 × Mm) → Option Mm) (x2 : Int32 × Mm) : Option Mm :=
 if x2.1 < 0 then
 (some x2.2)
 else
 (lett (fun (M_2 : Mm) =>
 lett (x2.1 + (-8 : Int32)) fun v4 =>
 rec3 (v4, M_2)) fun j43 =>
 if (1600 : Int32) ≤ (gI x2.2 19 1) then
 (j43 x2.2)
 else
 (ald (gI x2.2 19 1) 1600 (lett (sI x2.2 20 (ix (gI x2.2 19 1)) (byC p1 x2.1)) fun M5 =>
 lett (sI M5 19 1 ((gI M5 19 1) + (1 : Int32))) fun M6 =>
 j43 M6)))
theorem C_TAdd_e (p : Int32) (M : Mm) : C_TAddNumber p M = lett (24 : Int32) fun v1 => loopR (aBody p) 1000000 (v1, M) := rfl
theorem aBody_s {p v : Int32} {M : Mm} {l : Nat} (h : gI M 19 1 = nI l) (hl : l < 1600) (hv : ¬ v < 0) (rec) : aBody p rec (v, M) = rec (v + (-8), lay1 M l (byC p v)) := by
  unfold aBody
  dsimp only
  rw [if_neg hv, lett_e, h, if_neg (le_f 1600 1600 rfl hl (by omega)), ald_n hl (by omega), ix_nI (by omega), lett_e, gw_n _ _ _ _ (by omega), h, nA_1, lett_e]
  rfl
theorem lay1_l (M : Mm) (l : Nat) (b : Int32) : gI (lay1 M l b) 19 1 = nI (l + 1) := gw_s _ _ _ _
theorem C_TAdd_m {p : Int32} {M : Mm} {l : Nat} (h : gI M 19 1 = nI l) (hl : l + 4 ≤ 1600) : C_TAddNumber p M = some (lay1 (lay1 (lay1 (lay1 M l (byC p 24)) (l + 1) (byC p 16)) (l + 2) (byC p 8)) (l + 3) (byC p 0)) := by
  rw [C_TAdd_e, lett_e, show 1000000 = 999995 + 1 + 1 + 1 + 1 + 1 from rfl]
  rw [loopR_s, aBody_s h (by omega) (by decide), show (24 : Int32) + (-8) = 16 by decide]
  rw [loopR_s, aBody_s (lay1_l _ _ _) (by omega) (by decide), show (16 : Int32) + (-8) = 8 by decide]
  rw [loopR_s, aBody_s (lay1_l _ _ _) (by omega) (by decide), show (8 : Int32) + (-8) = 0 by decide]
  rw [loopR_s, aBody_s (lay1_l _ _ _) (by omega) (by decide), show (0 : Int32) + (-8) = -8 by decide]
  rw [loopR_s]
  unfold aBody
  dsimp only
  rw [if_pos (by decide)]
def lR (M : Mm) (p : Int32) (l : Nat) : Mm := sI (sI (sI (sI (sI M 13 l (byR p 24)) 13 (l + 1) (byR p 16)) 13 (l + 2) (byR p 8)) 13 (l + 3) (byR p 0)) 0 39 (nI (l + 4))
def rBody (p1 : Int32) (j37 : Mm → Option Mm) (rec2 : (Int32 × Mm) → Option Mm) (x4 : Int32 × Mm) : Option Mm :=
 if (4 : Int32) ≤ x4.1 then
 (j37 x4.2)
 else
 (ald ((gI x4.2 0 39) + x4.1) 1600 (lett (sI x4.2 13 (ix ((gI x4.2 0 39) + x4.1)) (byR p1 ((24 : Int32) - ((8 : Int32) * x4.1)))) fun M5 =>
 lett (x4.1 + (1 : Int32)) fun v6 =>
 rec2 (v6, M5)))
theorem R_lays_e (p : Int32) (M : Mm) : R_lays p M = lett (0 : Int32) fun v1 => lett (fun (M_1 : Mm) => lett (sI M_1 0 39 ((gI M_1 0 39) + (4 : Int32))) fun M3 => some M3) fun j37 => loopR (rBody p j37) 1000000 (v1, M) := rfl
theorem rBody_s {j37 : Mm → Option Mm} {p v : Int32} {M : Mm} {l i : Nat} (h : gI M 0 39 = nI l) (hl : l + i < 1600) (hv : v = nI i) (hi : i < 4) (rec) : rBody p j37 rec (v, M) = rec (nI (i + 1), sI M 13 (l + i) (byR p ((24 : Int32) - ((8 : Int32) * v)))) := by
  unfold rBody
  dsimp only
  rw [hv, if_neg (le_f 4 4 rfl hi (by omega)), h, nI_add, ald_n hl (by omega), ix_nI (by omega), lett_e, nA_1, lett_e]
theorem R_lays_m {p : Int32} {M : Mm} {l : Nat} (h : gI M 0 39 = nI l) (hl : l + 4 ≤ 1600) : R_lays p M = some (lR M p l) := by
  rw [R_lays_e, lett_e, lett_e, nL_0, show 1000000 = 999995 + 1 + 1 + 1 + 1 + 1 from rfl]
  rw [loopR_s, rBody_s (i := 0) h (by omega) rfl (by omega)]
  rw [loopR_s, rBody_s (i := 0 + 1) ((gw_n _ _ _ _ (by omega)).trans h) (by omega) rfl (by omega)]
  rw [loopR_s, rBody_s (i := 0 + 1 + 1) ((gw_n _ _ _ _ (by omega)).trans ((gw_n _ _ _ _ (by omega)).trans h)) (by omega) rfl (by omega)]
  rw [loopR_s, rBody_s (i := 0 + 1 + 1 + 1) ((gw_n _ _ _ _ (by omega)).trans ((gw_n _ _ _ _ (by omega)).trans ((gw_n _ _ _ _ (by omega)).trans h))) (by omega) rfl (by omega)]
  rw [loopR_s]
  unfold rBody
  dsimp only
  rw [if_pos (by decide)]
  simp (disch := omega) only [gw_n, lett_e]
  rw [h, nA_4]
  rfl
section FEED
variable {n P Q : Nat} {C R : Mm}
theorem lay_sim (h : Rl n P Q C R) {l : Nat} (h1 : gI C 19 1 = nI l) (hl : l + 4 ≤ 1600) (p : Int32) : ∃ C' R', C_TAddNumber p C = some C' ∧ R_lays p R = some R' ∧ Rl n P Q C' R' ∧ gI C' 19 1 = nI (l + 4) ∧ gI R' 0 39 = nI (l + 4) := by
  obtain ⟨l', t1, t2, t3, t4⟩ := h.2.1
  have : l' = l := (nI_eq (by omega) (by omega)).mp (t2.symm.trans h1)
  subst this
  refine ⟨_, _, C_TAdd_m h1 hl, R_lays_m t3 hl, h.tape ⟨l' + 4, by omega, gw_s _ _ _ _, gw_s _ _ _ _, fun i hi => ?_⟩ (fun a k e1 e2 => ?_) rfl (fun a k e1 e2 => ?_) rfl, gw_s _ _ _ _, gw_s _ _ _ _⟩
  · unfold lay1 lR
    rcases (show i < l' ∨ i = l' ∨ i = l' + 1 ∨ i = l' + 2 ∨ i = l' + 3 by omega) with e | rfl | rfl | rfl | rfl
    · simp (disch := omega) only [gw_n]
      exact t4 i e
    · simp (disch := omega) only [gw_n, gw_s]
      exact ⟨and255 _, byt p 24 (by omega)⟩
    · simp (disch := omega) only [gw_n, gw_s]
      exact ⟨and255 _, byt p 16 (by omega)⟩
    · simp (disch := omega) only [gw_n, gw_s]
      exact ⟨and255 _, byt p 8 (by omega)⟩
    · simp (disch := omega) only [gw_n, gw_s]
      exact ⟨and255 _, byt p 0 (by omega)⟩
  · unfold lay1
    simp (disch := omega) only [gw_n]
  · unfold lR
    simp (disch := omega) only [gw_n]
theorem feed_sim (h : Rl n P Q C R) (p1 p2 p3 p4 p5 : Int32) : ∃ a C' R', C_feed p1 p2 p3 p4 p5 C = some (a, C') ∧ R_feed p1 p2 p3 p4 p5 R = some (a, R') ∧ Rl n P Q C' R' := by
  obtain ⟨l, t1, t2, t3, t4⟩ := h.2.1
  by_cases hl : l + 20 ≤ 1600
  · obtain ⟨C1, R1, a1, b1, h1, c1, d1⟩ := lay_sim h t2 (by omega) p1
    obtain ⟨C2, R2, a2, b2, h2, c2, d2⟩ := lay_sim h1 c1 (by omega) p2
    obtain ⟨C3, R3, a3, b3, h3, c3, d3⟩ := lay_sim h2 c2 (by omega) p3
    obtain ⟨C4, R4, a4, b4, h4, c4, d4⟩ := lay_sim h3 c3 (by omega) p4
    obtain ⟨C5, R5, a5, b5, h5, c5, d5⟩ := lay_sim h4 c4 (by omega) p5
    refine ⟨nI (l + 4 + 4 + 4 + 4 + 4), C5, R5, ?_, ?_, h5⟩
    · unfold C_feed
      rw [t2, show (20 : Int32) = nI 20 from rfl, nI_add, if_pos (nle_t 1600 1600 rfl hl (by omega)), a1, bnd_s, a2, bnd_s, a3, bnd_s, a4, bnd_s, a5, bnd_s, c5]
    · unfold R_feed
      rw [t3, show (20 : Int32) = nI 20 from rfl, nI_add, if_pos (nle_t 1600 1600 rfl hl (by omega)), b1, bnd_s, b2, bnd_s, b3, bnd_s, b4, bnd_s, b5, bnd_s, d5]
  · refine ⟨-1, _, _, ?_, ?_, h.ref 0⟩
    · unfold C_feed
      rw [t2, show (20 : Int32) = nI 20 from rfl, nI_add, if_neg (nle_f 1600 1600 rfl (by omega) (by omega)), C_ref_0]
      rfl
    · unfold R_feed
      rw [t3, show (20 : Int32) = nI 20 from rfl, nI_add, if_neg (nle_f 1600 1600 rfl (by omega) (by omega)), R_ref_0]
      rfl
end FEED
