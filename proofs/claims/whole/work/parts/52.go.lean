/-! PURE: it goes -/
def ups {α : Type} (a : Nat) (f : Nat → α) (D : Nat → α) (n : Nat) : Nat → α := itr (fun k X => updD X (a + k) (f k)) D n
theorem ups_0 {α : Type} (a : Nat) (f : Nat → α) (D : Nat → α) : ups a f D 0 = D := rfl
theorem ups_s {α : Type} (a : Nat) (f : Nat → α) (D : Nat → α) (n : Nat) : ups a f D (n + 1) = updD (ups a f D n) (a + n) (f n) := rfl
theorem ups_r {α : Type} (a : Nat) (f : Nat → α) (D : Nat → α) (n j : Nat) : ups a f D n j = if a ≤ j ∧ j < a + n then f (j - a) else D j := by
  induction n with
  | zero => rw [ups_0, if_neg (by omega)]
  | succ n ih =>
    rw [ups_s]
    by_cases h : j = a + n
    · subst h; rw [updD_s, if_pos (by omega), show a + n - a = n by omega]
    · rw [updD_n _ _ h, ih]
      by_cases h2 : a ≤ j ∧ j < a + n
      · rw [if_pos h2, if_pos (by omega)]
      · rw [if_neg h2, if_neg (by omega)]
def aUpD (x b : Int32) : Int32 := ((x + b) - 1) / b
def aLeft (m0 : Mm) (D : Nat → Int32) (r : Nat) : Int32 := aUpD (aAway (D (150 + 7 * r + 1)) (D 1)) (gI m0 0 3) + aUpD (D (150 + 7 * r + 2)) (gI m0 0 4)
def aGoD (m0 : Mm) (D : Nat → Int32) (c r : Nat) : Nat → Int32 := fun j => if j = 10 then nI (c - 1) else if 150 + 7 * r ≤ j ∧ j < 150 + 7 * (c - 1) then D (j + 7) else if j = 5 then aLeft m0 D r else if 11 ≤ j ∧ j < 18 then D (150 + 7 * r + (j - 11)) else D j
theorem R_up_m {x b : Int32} (hb : isR 1 501 b) (M : Mm) : R_up x b M = some (aUpD x b) := by
  obtain ⟨v, v1, v2, rfl⟩ := hb
  unfold R_up
  rw [grd_t (nI_ne0 (by omega) (by omega))]
  rfl
theorem isR.mono {a b b' : Nat} {x : Int32} (h : isR a b x) (hb : b ≤ b') : isR a b' x := by
  obtain ⟨v, v1, v2, v3⟩ := h
  exact ⟨v, v1, by omega, v3⟩
section GO1
variable {m0 : Mm} {B n s c r : Nat} {D : Nat → Int32} {F : Nat → UInt32}
theorem R_goesNext_m (hB : BB B) (hK : PK m0 n s) (hc : D 10 = nI c) (hc1 : c ≤ 54) (hr : r < c) : R_goesNext (nI r) (mkR m0 B D F) = some (mkR m0 B (aGoD m0 D c r) F) := by
  unfold R_goesNext
  rw [lett_e, lett_e]
  refine loopR_seq (fun i => (nI i, mkR m0 B (ups 11 (fun k => D (150 + 7 * r + k)) D i) F)) 7 (fun i hi rec => ?_) (fun rec => ?_) 1000000 (by decide)
  · try dsimp only
    rw [if_neg (show ¬ (7 : Int32) ≤ nI i from nI_ge hi (by decide)), R_ofRequest_m hB r i rfl rfl (by omega), bnd_s, nB_11, rpn hB (by omega), bnd_s, lett_e, nA_1, ups_s, ups_r 11, if_neg (by omega)]
  · try dsimp only
    have e1 : ∀ j, (j < 11 ∨ 18 ≤ j) → ups 11 (fun k => D (150 + 7 * r + k)) D 7 j = D j := fun j hj => by rw [ups_r, if_neg (by omega)]
    have e2 : ∀ j, ups 11 (fun k => D (150 + 7 * r + k)) D 7 j = if 11 ≤ j ∧ j < 18 then D (150 + 7 * r + (j - 11)) else D j := fun j => ups_r _ _ _ _ _
    generalize ups 11 (fun k => D (150 + 7 * r + k)) D 7 = D1 at e1 e2 ⊢
    rw [if_pos (show (7 : Int32) ≤ nI 7 by decide), rr_1 hB (by omega), bnd_s, R_its_k1 hB, bnd_s, R_away_m, bnd_s, mkR_0 _ _ _ _ (by decide), R_up_m hK.seek, bnd_s, rr_2 hB (by omega), bnd_s, mkR_0 _ _ _ _ (by decide), R_up_m (hK.rate.mono (by decide)), bnd_s, R_puts_k5 hB, bnd_s, lett_e, lett_e, nM_7, nB_150]
    have hL : aUpD (aAway (D1 (150 + 7 * r + 1)) (D1 1)) (gI m0 0 3) + aUpD (D1 (150 + 7 * r + 2)) (gI m0 0 4) = aLeft m0 D r := by
      unfold aLeft
      rw [e1 _ (by omega), e1 _ (by omega), e1 _ (by omega)]
    rw [hL]
    refine loopR_seq (fun i => (nI (150 + 7 * r + i), mkR m0 B (ups (150 + 7 * r) (fun k => D (150 + 7 * r + k + 7)) (updD D1 5 (aLeft m0 D r)) i) F)) (7 * (c - 1 - r)) (fun i hi rec => ?_) (fun rec => ?_) 1000000 (by omega)
    · try dsimp only
      have h10 : ups (150 + 7 * r) (fun k => D (150 + 7 * r + k + 7)) (updD D1 5 (aLeft m0 D r)) i 10 = nI c := by
        rw [ups_r, if_neg (by omega), updD_n _ _ (by omega), e1 _ (by omega), hc]
      rw [R_its_k10 hB, bnd_s, h10, nS_1 (by omega), nM_7, nB_150, if_neg (nI_ge (by omega) (by omega)), nA_7, rin hB (by omega), bnd_s, rpn hB (by omega), bnd_s, lett_e, nA_1, ups_s, ups_r (150 + 7 * r), if_neg (by omega), updD_n _ _ (by omega), e1 _ (by omega)]
      rfl
    · try dsimp only
      have h10 : ups (150 + 7 * r) (fun k => D (150 + 7 * r + k + 7)) (updD D1 5 (aLeft m0 D r)) (7 * (c - 1 - r)) 10 = nI c := by
        rw [ups_r, if_neg (by omega), updD_n _ _ (by omega), e1 _ (by omega), hc]
      rw [R_its_k10 hB, bnd_s, h10, nS_1 (by omega), nM_7, nB_150, if_pos (nI_le (by omega) (by omega)), bnd_s, nS_1 (by omega), R_puts_k10 hB, bnd_s]
      refine congrArg (fun x => some (mkR m0 B x F)) (funext fun j => ?_)
      unfold aGoD
      by_cases h1 : j = 10
      · rw [if_pos h1, h1, updD_s]
      · rw [updD_n _ _ h1, if_neg h1, ups_r]
        by_cases h2 : 150 + 7 * r ≤ j ∧ j < 150 + 7 * (c - 1)
        · rw [if_pos (by omega), if_pos h2, show 150 + 7 * r + (j - (150 + 7 * r)) + 7 = j + 7 by omega]
        · rw [if_neg (by omega), if_neg h2]
          by_cases h3 : j = 5
          · rw [if_pos h3, h3, updD_s]
          · rw [if_neg h3, updD_n _ _ h3]
            exact e2 j
end GO1
/-! in the class -/
theorem gcp_s (M : Mm) (a sp b dp n k : Nat) : gI (cpI M a sp b dp n) b k = if dp ≤ k ∧ k < dp + n then gI M a (sp + (k - dp)) else gI M b k := by
  rw [gI_cp]; rfl
theorem gcp_n (M : Mm) (a sp b dp n : Nat) {x : Nat} (k : Nat) (h : x ≠ b) : gI (cpI M a sp b dp n) x k = gI M x k := if_neg h
theorem mkS_cp {n' : Nat} (E : Mm) (D : Nat → Int32) (F : Nat → UInt32) {a sp b dp n : Nat} (ha : ∀ k, locI n' a k = none) (hb : ∀ k, locI n' b k = none) : cpI (mkS n' E D F) a sp b dp n = mkS n' (cpI E a sp b dp n) D F := by
  refine Prod.ext (funext fun x => funext fun k => ?_) rfl
  have e : ∀ y, (∀ k, locI n' y k = none) → (mkS n' E D F).1 y = E.1 y := fun y hy => funext fun k => by
    show selO (locI n' y k) D (E.1 y k) = E.1 y k
    rw [hy k]; rfl
  show (if x = b then va_cpy ((mkS n' E D F).1 a) ((mkS n' E D F).1 b) sp dp n k else (mkS n' E D F).1 x k) = selO (locI n' x k) D (if x = b then va_cpy (E.1 a) (E.1 b) sp dp n k else E.1 x k)
  by_cases h : x = b
  · subst h
    rw [if_pos rfl, if_pos rfl, e a ha, e x hb, hb k]; rfl
  · rw [if_neg h, if_neg h]; rfl
theorem acp_n {ρ : Type} {a b k n0 n1 : Nat} (h0 : a + k ≤ n0) (h1 : b + k ≤ n1) (h2 : n0 ≤ 100000) (h3 : n1 ≤ 100000) (o : Option ρ) : acp (nI a) (nI b) (nI k) n0 n1 o = o := by
  unfold acp
  rw [nI_toInt (by omega), nI_toInt (by omega), nI_toInt (by omega), if_pos (by omega)]
theorem mabs_n {a b : Nat} (ha : a < 2 ^ 30) (hb : b < 2 ^ 30) : mabsI (nI a - nI b) = aAway (nI a) (nI b) := by
  unfold mabsI aAway
  have e1 := pk_sub_toInt ha hb
  by_cases h : b ≤ a
  · rw [if_pos (nI_le h (by omega)), if_pos (by rw [i32_le, e1]; show (0 : Int) ≤ _; omega)]
  · rw [if_neg (nI_ge (by omega) (by omega)), if_neg (by rw [i32_le, e1]; show ¬ (0 : Int) ≤ _; omega)]
    refine Int32.toInt_inj.mp ?_
    rw [pk_sub_toInt hb ha, Int32.toInt_sub, e1, show (0 : Int32).toInt = 0 by decide, Int.bmod_eq_of_le (by omega) (by omega)]
    omega
def eGo (E : Mm) (c r a : Nat) : Mm := sI (cpI (cpI E 4 (6 * r) 5 0 6) 4 (6 * r + 6) 4 (6 * r) (c * 6 - (6 * r + 6))) (9 + 2 * a) 8 (gI E (9 + 2 * a) 8 - 1)
theorem S_rUp_m {x b : Int32} (hb : isR 1 501 b) (M : Mm) : S_roundedUp x b M = some (aUpD x b) := by
  obtain ⟨v, v1, v2, rfl⟩ := hb
  unfold S_roundedUp
  rw [if_pos (show (1 : Int32) ≤ nI v from nI_le v1 (by omega)), grd_t (nI_ne0 (by omega) (by omega))]
  rfl
section GO2
variable {m0 : Mm} {n s t c r a h : Nat} {D : Nat → Int32} {F : Nat → UInt32} {E : Mm}
theorem S_go_m (hK : PK m0 n s) (hL : PL m0 n E) (hX : xW c E D) (hR : iR n s t c D) (hc : D 10 = nI c) (hc1 : c ≤ 54) (hr : r < c) (ha : D 2 = nI a) (han : a < n) (hh : D 1 = nI h) (hh2 : h < 10064) : S_go (nI (6 * r)) (mkS n E D F) = some (mkS n (eGo E c r a) (aGoD m0 D c r) F) := by
  have hn := hK.n6
  have ha6 : a < 6 := by omega
  obtain ⟨⟨w1, w2, -⟩, -⟩ := hX r hr
  obtain ⟨-, ⟨x, y, y1, y2, xy, x1, x2⟩, -⟩ := hR r hr
  have hs := hK.s9
  dsimp only at w1 w2 x1 x2
  unfold S_go S_RMoveOut
  rw [if_neg (nI_pos (by omega)), s3_1, hc, nN_6, nA_6, if_pos (nI_le (by omega) (by omega)), show (0 : Int32) = nI 0 from rfl, show (6 : Int32) = nI 6 from rfl, acp_n (by omega) (by omega) (by decide) (by decide), ix_nI (by omega), ix_nI (by omega), ix_nI (by omega), mkS_cp E D F locI_4 locI_5, lett_e, lett_e, s3_1, hc, pk_mul, pk_sub (by omega), acp_n (by omega) (by omega) (by decide) (by decide), ix_nI (by omega), ix_nI (by omega), mkS_cp _ D F locI_4 locI_4, lett_e, s3_1, hc, s3w_1, lett_e, bnd_s, s0_11, updD_n _ _ (by omega), ha, ald_n ha6 (by omega), ix_nI (by omega), sQw_8 _ _ F ⟨han, hn⟩, sQ_8 _ _ F ⟨han, hn⟩, lett_e]
  rw [show nI 0 = (0 : Int32) from rfl]
  simp only [al_0_6, al_1_6, ixl_1, s5, s0_7, s20]
  rw [updD_n D _ (show 1 ≠ 10 by decide)]
  have g1 : ∀ k v, gI (sI (cpI (cpI E 4 (6 * r) 5 0 6) 4 (6 * r + 6) 4 (6 * r) (c * 6 - (6 * r + 6))) (9 + 2 * a) 8 v) 5 k = if 0 ≤ k ∧ k < 0 + 6 then gI E 4 (6 * r + (k - 0)) else gI E 5 k := fun k v => by
    rw [gw_n _ _ _ _ (by omega), gcp_n _ _ _ _ _ _ _ (by decide), gcp_s]
  have g2 : ∀ k v, gI (sI (cpI (cpI E 4 (6 * r) 5 0 6) 4 (6 * r + 6) 4 (6 * r) (c * 6 - (6 * r + 6))) (9 + 2 * a) 8 v) 20 k = gI E 20 k := fun k v => by
    rw [gw_n _ _ _ _ (by omega), gcp_n _ _ _ _ _ _ _ (by decide), gcp_n _ _ _ _ _ _ _ (by decide)]
  have g3 : gI (cpI (cpI E 4 (6 * r) 5 0 6) 4 (6 * r + 6) 4 (6 * r) (c * 6 - (6 * r + 6))) (9 + 2 * a) 8 = gI E (9 + 2 * a) 8 := by
    rw [gcp_n _ _ _ _ _ _ _ (by omega), gcp_n _ _ _ _ _ _ _ (by omega)]
  rw [g1, g1, g2, g2, g3, if_pos (by decide), if_pos (by decide), show 6 * r + (0 - 0) = 6 * r from rfl, show 6 * r + (1 - 0) = 6 * r + 1 from rfl, w1, w2, x1, x2, hh, lett_e, mabs_n (by omega) (by omega), hL.1.2.1, S_rUp_m hK.seek, bnd_s, hL.1.2.2.1, S_rUp_m (hK.rate.mono (by decide)), bnd_s, s0w_6, lett_e]
  have hLf : aUpD (aAway (nI x) (nI h)) (gI m0 0 3) + aUpD (nI y) (gI m0 0 4) = aLeft m0 D r := by
    unfold aLeft
    rw [x1, x2, hh]
  rw [hLf]
  refine congrArg some ?_
  refine mkS_ext (fun j hj => ?_)
  have h150 := dI_150 hj
  unfold aGoD
  have hb : ¬ (11 ≤ j ∧ j < 18) := by
    intro hb
    unfold dI at hj
    simp only [Bool.or_eq_true, Bool.and_eq_true, decide_eq_true_eq] at hj
    omega
  by_cases h5 : j = 5
  · rw [h5, updD_s, if_neg (by omega), if_neg (by omega), if_pos rfl]
  · rw [updD_n _ _ h5]
    by_cases h10 : j = 10
    · rw [h10, updD_s, if_pos rfl, nI_lit1, pk_sub (by omega)]
    · rw [updD_n _ _ h10, if_neg h10, if_neg (by omega), if_neg h5, if_neg hb]
end GO2
