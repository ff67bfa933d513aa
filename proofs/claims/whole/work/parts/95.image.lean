/-! PURE: images -/
def imC (by' : Nat → Int32) (M : Mm) (i : Nat) : Mm := (fun a x => if a = 71 ∧ x < i then by' x else M.1 a x, M.2)
def imR (by' : Nat → Int32) (M : Mm) (i : Nat) : Mm := (fun a x => if a = 26 ∧ x < i then by' x else if a = 0 ∧ x = 68 then nI i else M.1 a x, M.2)
theorem imC_I (by' : Nat → Int32) (M : Mm) (i a x : Nat) : gI (imC by' M i) a x = if a = 71 ∧ x < i then by' x else gI M a x := rfl
theorem imR_I (by' : Nat → Int32) (M : Mm) (i a x : Nat) : gI (imR by' M i) a x = if a = 26 ∧ x < i then by' x else if a = 0 ∧ x = 68 then nI i else gI M a x := rfl
theorem imC_0 (by' : Nat → Int32) (M : Mm) : imC by' M 0 = M := by
  refine Prod.ext (funext fun a => funext fun k => ?_) rfl
  show gI (imC by' M 0) a k = gI M a k
  rw [imC_I, if_neg (by omega)]
theorem imC_s (by' : Nat → Int32) (M : Mm) (i : Nat) : sI (imC by' M i) 71 i (by' i) = imC by' M (i + 1) := by
  refine Prod.ext (funext fun a => funext fun k => ?_) rfl
  show gI (sI (imC by' M i) 71 i (by' i)) a k = gI (imC by' M (i + 1)) a k
  rw [gI_sI, imC_I, imC_I]
  by_cases h1 : a = 71 ∧ k = i
  · rw [if_pos h1, if_pos (by omega), h1.2]
  · rw [if_neg h1]
    by_cases h2 : a = 71 ∧ k < i
    · rw [if_pos h2, if_pos (by omega)]
    · rw [if_neg h2, if_neg (by omega)]
theorem imR_0 (by' : Nat → Int32) (M : Mm) : imR by' M 0 = sI M 0 68 0 := by
  refine Prod.ext (funext fun a => funext fun k => ?_) rfl
  show gI (imR by' M 0) a k = gI (sI M 0 68 0) a k
  rw [imR_I, if_neg (by omega), gI_sI]
  rfl
theorem says_s (by' : Nat → Int32) (M : Mm) {i : Nat} (hi : i < 15) : R_says (by' i) (imR by' M i) = some (imR by' M (i + 1)) := by
  have h68 : gI (imR by' M i) 0 68 = nI i := by rw [imR_I, if_neg (by omega), if_pos ⟨rfl, rfl⟩]
  unfold R_says
  rw [h68, ald_n hi (by omega), ix_nI (by omega), lett_e, lett_e, gw_n _ _ _ _ (by omega), h68, nI_1]
  refine congrArg some (Prod.ext (funext fun a => funext fun k => ?_) rfl)
  show gI (sI (sI (imR by' M i) 26 i (by' i)) 0 68 (nI (i + 1))) a k = gI (imR by' M (i + 1)) a k
  rw [gI_sI, gI_sI, imR_I, imR_I]
  by_cases h1 : a = 0 ∧ k = 68
  · rw [if_pos h1, if_neg (by omega), if_pos h1]
  · rw [if_neg h1, if_neg h1]
    by_cases h2 : a = 26 ∧ k = i
    · rw [if_pos h2, if_pos (by omega), h2.2]
    · rw [if_neg h2]
      by_cases h3 : a = 26 ∧ k < i
      · rw [if_pos h3, if_pos (by omega)]
      · rw [if_neg h3, if_neg (by omega), if_neg h1]
def dgI (by' : Nat → Int32) (i : Nat) : Int32 := itr (fun j u => ((3 : Int32) * u + by' j) - ((3 : Int32) * u + by' j) / 251 * 251) 163 i
theorem dgI_s (by' : Nat → Int32) (i : Nat) : dgI by' (i + 1) = ((3 : Int32) * dgI by' i + by' i) - ((3 : Int32) * dgI by' i + by' i) / 251 * 251 := rfl
theorem its_d {X : Mm} (h : gI X 0 53 = 0) {j : Nat} (hj : j < 758) : R_its (nI j) X = some (gI X 16 j) := by
  unfold R_its
  rw [h, show (0 : Int32) = nI 0 from rfl, nI_add, Nat.zero_add, ald_n (by omega) (by omega), ix_nI (by omega)]
theorem of_d {X : Mm} (h : gI X 0 53 = 0) {p k : Nat} (hp : p < 6) (hk : k < 14) : R_of (nI p) (nI k) X = some (gI X 16 (18 + 14 * p + k)) := by
  unfold R_of
  rw [nM_14, nB_18, nI_add, its_d h (by omega), bnd_s]
section IMAGE
variable {n P Q : Nat} {C R : Mm}
/-- settings and weights, the same in both -/
theorem Rl.sets (h : Rl n P Q C R) : gI C 26 16 = gI R 16 6 ∧ gI C 26 17 = gI R 16 7 ∧ ∀ p, p < n → gI C (34 + 2 * p) 0 = gI R 16 (18 + 14 * p + 0) ∧ gI C (34 + 2 * p) 1 = gI R 16 (18 + 14 * p + 8) ∧ (gI C (34 + 2 * p) 1 = 0 ∨ gI C (34 + 2 * p) 1 = 1) := by
  rcases h.2.2.2.2.2.2.2.1 with h8 | h8
  · obtain ⟨n0, d0, d1, ⟨r6, r7, r9, r61, r55⟩, ⟨q0, q11⟩, c6, c7, c10, c12, c14, c15, c16, c17, c11, c32⟩ := h8
    exact ⟨c16.trans r6.symm, c17.trans r7.symm, fun p hp => by omega⟩
  · obtain ⟨d0, ⟨s, t, c, ht, hS⟩, -, -⟩ := h8
    have hn := hS.K.n6
    refine ⟨hS.g16, hS.g17, fun p hp => ?_⟩
    have e0 := hS.P0 rfl ⟨hp, hn⟩
    have e1 := hS.P1 rfl ⟨hp, hn⟩
    refine ⟨e0, e1, ?_⟩
    have e2 : gI C (34 + 2 * p) 1 = gI R 16 (18 + 14 * p + 8) := e1
    rw [e2]
    obtain ⟨-, -, -, -, -, b8⟩ := hS.I.p p hp
    exact n2_01 b8
theorem image_sim (h : Rl n P Q C R) : ∃ a C' R', C_image C = some (a, C') ∧ R_image R = some (a, R') ∧ Rl n P Q C' R' := by
  obtain ⟨c1, c2, c3⟩ := h.cnt
  have hsh := shC_P h.PQ
  have hPl := h.1.le
  obtain ⟨s1, s2, s3⟩ := h.sets
  obtain ⟨by', hby⟩ : ∃ by' : Nat → Int32, ∀ x, by' x = if x = 0 then gI R 16 6 else if x = 1 then gI R 16 7 else if x % 2 = 0 then gI R 16 (18 + 14 * ((x - 2) / 2) + 0) else gI R 16 (18 + 14 * ((x - 2) / 2) + 8) := ⟨_, fun _ => rfl⟩
  have y0 : by' 0 = gI R 16 6 := by rw [hby, if_pos rfl]
  have y1 : by' 1 = gI R 16 7 := by rw [hby, if_neg (by omega), if_pos rfl]
  have ye : ∀ p, by' (2 + 2 * p) = gI R 16 (18 + 14 * p + 0) := fun p => by rw [hby, if_neg (by omega), if_neg (by omega), if_pos (by omega), show (2 + 2 * p - 2) / 2 = p by omega]
  have yo : ∀ p, by' (3 + 2 * p) = gI R 16 (18 + 14 * p + 8) := fun p => by rw [hby, if_neg (by omega), if_neg (by omega), if_neg (by omega), show (3 + 2 * p - 2) / 2 = p by omega]
  have z53 : ∀ i, gI (imR by' (R0 R) i) 0 53 = 0 := fun i => by rw [imR_I, if_neg (by omega), if_neg (by omega)]; rfl
  have z16 : ∀ i x, x < 758 → gI (imR by' (R0 R) i) 16 x = gI R 16 x := fun i x hx => by
    rw [imR_I, if_neg (by omega), if_neg (by omega)]
    exact (R0_s R).1 16 x (by omega) (by omega) (by omega) (by omega) (by omega) (by omega)
  have z1 : ∀ i, gI (imR by' (R0 R) i) 0 1 = nI n := fun i => by
    rw [imR_I, if_neg (by omega), if_neg (by omega)]
    exact (R0_1 R).trans c2
  have z68 : ∀ i, gI (imR by' (R0 R) i) 0 68 = nI i := fun i => by rw [imR_I, if_neg (by omega), if_pos ⟨rfl, rfl⟩]
  have z26 : ∀ i x, x < i → gI (imR by' (R0 R) i) 26 x = by' x := fun i x hx => by rw [imR_I, if_pos ⟨rfl, hx⟩]
  have w26 : ∀ i a x, a ≠ 71 → gI (imC by' C i) a x = gI C a x := fun i a x ha => by rw [imC_I, if_neg (by omega)]
  -- the last byte
  obtain ⟨dg, hdg⟩ : ∃ dg, dg = dgI by' (2 + 2 * n) := ⟨_, rfl⟩
  obtain ⟨b2, hb2⟩ : ∃ b2 : Nat → Int32, ∀ x, b2 x = if x = 2 + 2 * n then dg else by' x := ⟨_, fun _ => rfl⟩
  have bn : b2 (2 + 2 * n) = dg := by rw [hb2, if_pos rfl]
  have eR : imR by' (R0 R) (2 + 2 * n) = imR b2 (R0 R) (2 + 2 * n) := by
    refine Prod.ext (funext fun a => funext fun k => ?_) rfl
    show gI (imR by' (R0 R) (2 + 2 * n)) a k = gI (imR b2 (R0 R) (2 + 2 * n)) a k
    rw [imR_I, imR_I]
    split
    · rename_i e; rw [hb2, if_neg (by omega)]
    · rfl
  have eC : sI (sI (imC by' C (2 + 2 * n)) 70 1 (nI (3 + 2 * n))) 71 (2 + 2 * n) dg = sI (imC b2 C (3 + 2 * n)) 70 1 (nI (3 + 2 * n)) := by
    refine Prod.ext (funext fun a => funext fun k => ?_) rfl
    show gI (sI (sI (imC by' C (2 + 2 * n)) 70 1 (nI (3 + 2 * n))) 71 (2 + 2 * n) dg) a k = gI (sI (imC b2 C (3 + 2 * n)) 70 1 (nI (3 + 2 * n))) a k
    rw [gI_sI, gI_sI, gI_sI, imC_I, imC_I]
    by_cases e1 : a = 71 ∧ k = 2 + 2 * n
    · rw [if_pos e1, if_neg (by omega), if_pos (by omega), e1.2, bn]
    · rw [if_neg e1]
      by_cases e2 : a = 70 ∧ k = 1
      · rw [if_pos e2, if_pos e2]
      · rw [if_neg e2, if_neg e2]
        by_cases e3 : a = 71 ∧ k < 2 + 2 * n
        · rw [if_pos e3, if_pos (by omega), hb2, if_neg (by omega)]
        · rw [if_neg e3, if_neg (by omega)]
  refine ⟨nI (3 + 2 * n), sI (imC b2 C (3 + 2 * n)) 70 1 (nI (3 + 2 * n)), imR b2 (R0 R) (3 + 2 * n), ?_, ?_, ?_⟩
  · have iw : C_IWrite (nI n) C = some (sI (imC b2 C (3 + 2 * n)) 70 1 (nI (3 + 2 * n))) := by
      have m0 : sI C 71 0 (gI C 26 16) = imC by' C 1 := by
        rw [s1, ← y0, ← imC_s, imC_0]
      have m1 : sI (imC by' C 1) 71 1 (gI (imC by' C 1) 26 17) = imC by' C 2 := by
        rw [w26 _ _ _ (by omega), s2, ← y1]
        exact imC_s by' C 1
      unfold C_IWrite
      rw [show (ald (0 : Int32) 15 : Option Mm → Option Mm) = ald (nI 0) 15 from rfl, ald_n (by omega) (by omega), show ix (0 : Int32) = 0 from rfl, m0, lett_e, show (ald (1 : Int32) 15 : Option Mm → Option Mm) = ald (nI 1) 15 from rfl, ald_n (by omega) (by omega), show ix (1 : Int32) = 1 from rfl, m1, lett_e, lett_e, lett_e]
      refine loopR_sq (fun i => (nI i, imC by' C (2 + 2 * i))) n (by omega) rfl (fun i hi rec => ?_) (fun rec => ?_)
      · obtain ⟨e1, e2, e3⟩ := s3 i hi
        dsimp only
        rw [if_neg (nI_ge hi (by omega)), ald_n (by omega) (by omega), show (2 : Int32) = nI 2 from rfl, pk_mul, nI_add, ald_n (by omega) (by omega), ix_nI (by omega), ix_nI (by omega), w26 _ _ _ (by omega), e1, ← ye, imC_s, lett_e, ald_n (by omega) (by omega), lett_e, w26 _ _ _ (by omega), show (3 : Int32) = nI 3 from rfl, nI_add]
        have e4 : by' (2 + 2 * i + 1) = gI C (34 + 2 * i) 1 := by
          rw [show 2 + 2 * i + 1 = 3 + 2 * i by omega, yo, e2]
        have e5 : sI (imC by' C (2 + 2 * i + 1)) 71 (3 + 2 * i) (gI C (34 + 2 * i) 1) = imC by' C (2 + 2 * (i + 1)) := by
          rw [← e4, show 3 + 2 * i = 2 + 2 * i + 1 by omega, imC_s]
          rfl
        rcases e3 with e3 | e3
        · rw [if_pos e3]
          rw [e3] at e5
          dsimp only
          rw [ald_n (by omega) (by omega), ix_nI (by omega), lett_e, lett_e, nA_1, e5]
        · rw [if_neg (by rw [e3]; decide)]
          rw [e3] at e5
          dsimp only
          rw [ald_n (by omega) (by omega), ix_nI (by omega), lett_e, lett_e, nA_1, e5]
      · dsimp only
        rw [if_pos (nI_le (Nat.le_refl _) (by omega)), show (2 : Int32) = nI 2 from rfl, pk_mul, show (3 : Int32) = nI 3 from rfl, nI_add, lett_e, gw_s, nS_1 (by omega), show 3 + 2 * n - 1 = 2 + 2 * n by omega, lett_e, lett_e, lett_e]
        refine loopR_sq (fun i => (dgI by' i, nI i)) (2 + 2 * n) (by omega) rfl (fun i hi rec => ?_) (fun rec => ?_)
        · dsimp only
          rw [if_neg (nI_ge hi (by omega)), ald_n (by omega) (by omega), ix_nI (by omega), gw_n _ _ _ _ (by omega), imC_I, if_pos ⟨rfl, hi⟩, lett_e, lett_e, nA_1, dgI_s]
          rfl
        · dsimp only
          rw [if_pos (nI_le (Nat.le_refl _) (by omega)), ald_n (by omega) (by omega), ix_nI (by omega), lett_e, ← hdg, eC]
    unfold C_image
    rw [lett_e, h.p0, nn_s, grd_t hsh, c1, iw, bnd_s, gw_s]
  · unfold R_image
    have i6 : R_its 6 (imR by' (R0 R) 0) = some (by' 0) := by
      rw [show R_its 6 (imR by' (R0 R) 0) = R_its (nI 6) (imR by' (R0 R) 0) from rfl, its_d (z53 0) (by omega), z16 _ _ (by omega), y0]
    have i7 : R_its 7 (imR by' (R0 R) 1) = some (by' 1) := by
      rw [show R_its 7 (imR by' (R0 R) 1) = R_its (nI 7) (imR by' (R0 R) 1) from rfl, its_d (z53 1) (by omega), z16 _ _ (by omega), y1]
    rw [R_isNow_e, bnd_s, ← imR_0 by', lett_e, i6, bnd_s, says_s _ _ (by omega), bnd_s, i7, bnd_s, says_s _ _ (by omega), bnd_s, lett_e, lett_e]
    refine loopR_sq (fun i => (nI i, imR by' (R0 R) (2 + 2 * i))) n (by omega) rfl (fun i hi rec => ?_) (fun rec => ?_)
    · have o0 : R_of (nI i) 0 (imR by' (R0 R) (2 + 2 * i)) = some (by' (2 + 2 * i)) := by
        rw [show R_of (nI i) 0 (imR by' (R0 R) (2 + 2 * i)) = R_of (nI i) (nI 0) (imR by' (R0 R) (2 + 2 * i)) from rfl, of_d (z53 _) (by omega) (by omega), z16 _ _ (by omega), ye]
      have o8 : R_of (nI i) 8 (imR by' (R0 R) (2 + 2 * i + 1)) = some (by' (2 + 2 * i + 1)) := by
        rw [show R_of (nI i) 8 (imR by' (R0 R) (2 + 2 * i + 1)) = R_of (nI i) (nI 8) (imR by' (R0 R) (2 + 2 * i + 1)) from rfl, of_d (z53 _) (by omega) (by omega), z16 _ _ (by omega), show 2 + 2 * i + 1 = 3 + 2 * i by omega, yo]
      dsimp only
      rw [z1, if_neg (nI_ge hi (by omega)), o0, bnd_s, says_s _ _ (by omega), bnd_s, o8, bnd_s, says_s _ _ (by omega), bnd_s, lett_e, nA_1]
      rfl
    · dsimp only
      rw [z1, if_pos (nI_le (Nat.le_refl _) (by omega)), lett_e, lett_e, lett_e]
      refine loopR_sq (fun i => (dgI by' i, nI i)) (2 + 2 * n) (by omega) rfl (fun i hi rec => ?_) (fun rec => ?_)
      · dsimp only
        rw [z68, if_neg (nI_ge hi (by omega)), ald_n (by omega) (by omega), ix_nI (by omega), z26 _ _ hi, lett_e, lett_e, nA_1, dgI_s]
      · dsimp only
        rw [z68, if_pos (nI_le (Nat.le_refl _) (by omega)), ← hdg, ← bn, eR, says_s _ _ (by omega), bnd_s, imR_I, if_neg (by omega), if_pos ⟨rfl, rfl⟩, show 2 + 2 * n + 1 = 3 + 2 * n by omega]
  · have cI : ∀ a x, a ≠ 71 → ¬ (a = 70 ∧ x = 1) → gI (sI (imC b2 C (3 + 2 * n)) 70 1 (nI (3 + 2 * n))) a x = gI C a x := fun a x h1 h2 => by
      rw [gw_n _ _ _ _ (by omega), imC_I, if_neg (by omega)]
    have h' := h.r0
    have rI : ∀ a x, a ≠ 26 → ¬ (a = 0 ∧ x = 68) → gI (imR b2 (R0 R) (3 + 2 * n)) a x = gI (R0 R) a x := fun a x h1 h2 => by
      rw [imR_I, if_neg (by omega), if_neg h2]
    obtain ⟨h1, h2, h3, h4, h5, h6, h7, h8, h9⟩ := h'
    refine ⟨h1.fr (fun a k h => rfl), h2.fr (fun a k h => cI a k (by omega) (by omega)) (fun a k h => rI a k (by omega) (by omega)), h3.fr (fun a k h => cI a k (by omega) (by omega)) (fun a k h => rI a k (by omega) (by omega)), h4.fr (fun a k h => cI a k (by omega) (by omega)) (fun a k h => rI a k (by omega) (by omega)), h5.fr rfl (rI _ _ (by omega) (by omega)), ⟨3 + 2 * n, by omega, gw_s _ _ _ _, ?_, fun i hi => ?_⟩, h7.fr (fun a k h => cI a k (by omega) (by omega)) (fun a k h => rI a k (by omega) (by omega)), ?_, h9.fr (fun a k h => cI a k (by omega) (by omega)) (fun a k h => rfl) (fun a h => rfl) (fun a k h => rI a k (by omega) (by omega)) (fun k => rfl)⟩
    · rw [imR_I, if_neg (by omega), if_pos ⟨rfl, rfl⟩]
    · rw [gw_n _ _ _ _ (by omega), imC_I, if_pos ⟨rfl, hi⟩, imR_I, if_pos ⟨rfl, hi⟩]
    · rcases h8 with h8 | h8
      · exact Or.inl (h8.fr (fun a k h => cI a k (by omega) (by omega)) (fun a k h => rI a k (by omega) (by omega)))
      · exact Or.inr (h8.fr (fun a k h => cI a k (by omega) (by omega)) (fun a k h => rfl) rfl (fun a k h => rI a k (by omega) (by omega)) (fun k h => rfl))
end IMAGE
