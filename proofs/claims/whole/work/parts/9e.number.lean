/-! PURE: numbers and signs along the text -/
section NUMBER
variable {l T : Nat} {B : Nat → Nat} {M R M' R' : Mm}
def vlN (B : Nat → Nat) (s i : Nat) : Nat := itr (fun j x => 10 * x + (B (s + j) - 48)) 0 i
theorem vlN_s (B : Nat → Nat) (s i : Nat) : vlN B s (i + 1) = 10 * vlN B s i + (B (s + i) - 48) := rfl
theorem vlN_b {s n : Nat} (h : ∀ i, i < n → dgB l B (s + i) = true) : (n ≤ 1 → vlN B s n ≤ 9) ∧ (n ≤ 2 → vlN B s n ≤ 99) ∧ (n ≤ 3 → vlN B s n ≤ 999) ∧ (n ≤ 4 → vlN B s n ≤ 9999) := by
  have s1 : ∀ i, i < n → vlN B s (i + 1) ≤ 10 * vlN B s i + 9 := fun i hi => by
    have := dgB_i.mp (h i hi)
    rw [vlN_s]
    omega
  have z : vlN B s 0 = 0 := rfl
  rcases (show n = 0 ∨ n = 1 ∨ n = 2 ∨ n = 3 ∨ n = 4 ∨ 5 ≤ n by omega) with rfl | rfl | rfl | rfl | rfl | e
  · rw [z]; omega
  · have e1 : vlN B s 1 ≤ 10 * vlN B s 0 + 9 := s1 0 (by omega); omega
  · have e1 : vlN B s 1 ≤ 10 * vlN B s 0 + 9 := s1 0 (by omega); have e2 : vlN B s 2 ≤ 10 * vlN B s 1 + 9 := s1 1 (by omega); omega
  · have e1 : vlN B s 1 ≤ 10 * vlN B s 0 + 9 := s1 0 (by omega); have e2 : vlN B s 2 ≤ 10 * vlN B s 1 + 9 := s1 1 (by omega); have e3 : vlN B s 3 ≤ 10 * vlN B s 2 + 9 := s1 2 (by omega); omega
  · have e1 : vlN B s 1 ≤ 10 * vlN B s 0 + 9 := s1 0 (by omega); have e2 : vlN B s 2 ≤ 10 * vlN B s 1 + 9 := s1 1 (by omega); have e3 : vlN B s 3 ≤ 10 * vlN B s 2 + 9 := s1 2 (by omega); have e4 : vlN B s 4 ≤ 10 * vlN B s 3 + 9 := s1 3 (by omega); omega
  · omega
theorem vlN_i (x : Nat) {b : Nat} (hb : 48 ≤ b) : nI x * 10 + nI b - 48 = nI (10 * x + (b - 48)) := by
  rw [show (10 : Int32) = nI 10 from rfl, pk_mul, nI_add, show (48 : Int32) = nI 48 from rfl, pk_sub (by omega), show x * 10 + b - 48 = 10 * x + (b - 48) by omega]
theorem vlN_j (x : Nat) {b : Nat} (hb : 48 ≤ b) : 10 * nI x + nI b - 48 = nI (10 * x + (b - 48)) := by
  rw [show (10 : Int32) = nI 10 from rfl, pk_mul, nI_add, show (48 : Int32) = nI 48 from rfl, pk_sub (by omega), show 10 * x + b - 48 = 10 * x + (b - 48) by omega]
theorem exNum (h : Zt l B T M R) {p1 p2 q1 q2 : Int32} (hp : gI M 0 8 = 0 → p1 = q1 ∧ p2 = q2) : ∃ v w M' R', P_DExpectNumber p1 p2 M = some (v, M') ∧ R_number q1 q2 R = some (w, R') ∧ Zt l B T M' R' ∧ PFr M M' ∧ RFr R R' ∧ (gI M' 0 8 = 0 → gI M 0 8 = 0 ∧ gI M' 0 6 = gI M 0 6 + 1 ∧ v = w ∧ ∃ m, m ≤ 9999 ∧ v = nI m ∧ ¬ v < p1 ∧ v ≤ p2) := by
  by_cases h8 : gI M 0 8 = 0
  · obtain ⟨rfl, rfl⟩ := hp h8
    have hh := h
    obtain ⟨h1, h2, h3, ⟨k, k1, k2, k3⟩, h5, h6, h7⟩ := h
    obtain ⟨pos, a1, a2⟩ := k3 h8
    obtain ⟨s, s1, s2, s3, s4, s5⟩ := a2.s
    have l1 := h1.1
    have hT := h2.1
    have h46 : gI R 0 46 = 0 := h5.symm.trans h8
    obtain ⟨X, hX⟩ : ∃ X, X = sI (sI R 0 44 (nI s)) 0 45 (nI s) := ⟨_, rfl⟩
    have xr : RFr R X := by rw [hX]; exact (RFr.w (by omega)).tr (RFr.w (by omega))
    have xt : RT l B X := h3.fr (fun a i q => xr.1 a i (by omega))
    have x44 : gI X 0 44 = nI s := by rw [hX, gw_n _ _ _ _ (by omega), gw_s]
    have x45 : gI X 0 45 = nI s := by rw [hX, gw_s]
    have x46 : gI X 0 46 = 0 := by rw [hX, gw_n _ _ _ _ (by omega), gw_n _ _ _ _ (by omega)]; exact h46
    have x47 : gI X 0 47 = gI R 0 47 := by rw [hX, gw_n _ _ _ _ (by omega), gw_n _ _ _ _ (by omega)]
    -- no number there
    have bad : ∀ (hk : ¬ gI M 1 k = 2), (¬ dgB l B s = true ∨ (dgB l B s = true ∧ plB l B s = true)) → ∃ v w M' R', P_DExpectNumber p1 p2 M = some (v, M') ∧ R_number p1 p2 R = some (w, R') ∧ Zt l B T M' R' ∧ PFr M M' ∧ RFr R R' ∧ (gI M' 0 8 = 0 → gI M 0 8 = 0 ∧ gI M' 0 6 = gI M 0 6 + 1 ∧ v = w ∧ ∃ m, m ≤ 9999 ∧ v = nI m ∧ ¬ v < p1 ∧ v ≤ p2) := fun hk hc => by
      refine ⟨p1, 0, sI (sI M 0 8 1) 0 9 (nI s), sI (sI X 0 46 1) 0 47 (nI s), ?_, ?_, hh.fail (f := 1) (p := nI s) (by decide) PFr.fail (xr.tr RFr.fail) k1 (by rw [gw_n _ _ _ _ (by omega), gw_n _ _ _ _ (by omega)]; exact k2) (by rw [gw_n _ _ _ _ (by omega), gw_s]) (gw_s _ _ _ _) (by rw [gw_n _ _ _ _ (by omega), gw_s]) (gw_s _ _ _ _), PFr.fail, xr.tr RFr.fail, fun e => absurd e (by rw [gw_n _ _ _ _ (by omega), gw_s]; decide)⟩
      · unfold P_DExpectNumber
        rw [if_pos h8, k2, ald_n (by omega) (by omega), lett_e, ald_n (by omega) (by omega), ix_nI (by omega), if_neg hk, s1, fail_P _ _ h8]
        rfl
      · unfold R_number
        rw [goes_t h46, bnd_s, if_neg i10, here_m h3 a1 s3 s2 s4 s5, bnd_s, lett_e]
        dsimp only
        rw [gw_s, ← hX, x44, R_dg xt (by omega), bnd_s, lett_e]
        rcases hc with hc | ⟨hc, hd⟩
        · rw [b2I_f hc, if_pos rfl, fail_R _ _ x46]
          rfl
        · rw [b2I_t hc, if_neg i10, R_plt xt (by omega), bnd_s, b2I_t hd, if_neg i10, fail_R _ _ x46]
          rfl
    rcases a2 with ⟨c1, s', n, kd, wd, hTk, c3, c4⟩ | ⟨c1, c2, c3, c4, c5, c6⟩
    · have hTk' := hTk
      obtain ⟨t1, t2, t3, t4, ⟨t5, t6, t7, t8⟩, t9, t10, t11⟩ := hTk'
      have es : s' = s := (nI_eq (by omega) (by omega)).mp (t1.symm.trans s1)
      subst es
      rcases t11 with ⟨b1, b2, b3, b4⟩ | ⟨b1, b2, b3, b4, ⟨b5, b6⟩ | ⟨b5, b6⟩⟩ | ⟨b1, b2, b3, b4, b5⟩
      · refine bad ?_ (Or.inl (lt_dg b1))
        rcases b4 with ⟨-, b4, -⟩ | ⟨-, b4, -⟩ <;> rw [t3, b4] <;> decide
      · exact bad (by rw [t3, b6]; decide) (Or.inr ⟨b1, b5⟩)
      · -- a number
        have k12 : gI M 1 k = 2 := by rw [t3, b6]; rfl
        have pd : ¬ pdB l B s' = true := t10 b1
        have byd : ∀ i, i < n → byN l B (s' + i) = nI (B (s' + i)) ∧ 48 ≤ B (s' + i) := fun i hi => by
          have := dgB_i.mp (b2 i hi)
          exact ⟨by unfold byN; rw [if_pos this.1], this.2.1⟩
        have rhead : ∀ r, (loopR (fun (rec72 : (Int32 × Mm) → Option (Int32 × Mm)) (x15 : Int32 × Mm) =>
 bnd (R_isDigit (gI x15.2 0 44) x15.2) fun r16 =>
 if r16 = 0 then
 (bnd (R_isIn x15.1 p1 p2 x15.2) fun r11 =>
 lett (fun (M_11 : Mm) =>
 bnd (R_goes M_11) fun r13 =>
 if r13 = 0 then
 (some ((0 : Int32), M_11))
 else
 (some (x15.1, M_11))) fun j160 =>
 if r11 = 0 then
 (bnd (R_fails (2 : Int32) (gI x15.2 0 45) x15.2) fun M14 =>
 j160 M14)
 else
 (j160 x15.2))
 else
 (bnd (R_goes x15.2) fun r17 =>
 if r17 = 0 then
 (bnd (R_isIn x15.1 p1 p2 x15.2) fun r11 =>
 lett (fun (M_11 : Mm) =>
 bnd (R_goes M_11) fun r13 =>
 if r13 = 0 then
 (some ((0 : Int32), M_11))
 else
 (some (x15.1, M_11))) fun j160 =>
 if r11 = 0 then
 (bnd (R_fails (2 : Int32) (gI x15.2 0 45) x15.2) fun M14 =>
 j160 M14)
 else
 (j160 x15.2))
 else
 (lett (fun (M_17 : Mm) =>
 bnd (R_seen (gI M_17 0 44) M_17) fun r19 =>
 lett ((((10 : Int32) * x15.1) + r19) - (48 : Int32)) fun v20 =>
 lett (sI M_17 0 44 ((gI M_17 0 44) + (1 : Int32))) fun M21 =>
 rec72 (v20, M21)) fun j112 =>
 if ((gI x15.2 0 44) - (gI x15.2 0 45)) = (4 : Int32) then
 (bnd (R_fails (1 : Int32) (gI x15.2 0 44) x15.2) fun M22 =>
 j112 M22)
 else
 (j112 x15.2)))) 1000000 (0, X)) = r → R_number p1 p2 R = r := fun r hr => by
          unfold R_number
          rw [goes_t h46, bnd_s, if_neg i10, here_m h3 a1 s3 s2 s4 s5, bnd_s, lett_e]
          dsimp only
          rw [gw_s, ← hX, x44, R_dg xt (by omega), bnd_s, lett_e, b2I_t b1, if_neg i10, R_plt xt (by omega), bnd_s, b2I_f b5, if_pos rfl, R_pdg xt (by omega), bnd_s, b2I_f pd, if_pos rfl, lett_e, lett_e]
          exact hr
        -- the digits one by one
        have di : ∀ i, RT l B (sI X 0 44 (nI (s' + i))) ∧ gI (sI X 0 44 (nI (s' + i))) 0 45 = nI s' ∧ gI (sI X 0 44 (nI (s' + i))) 0 46 = 0 ∧ gI (sI X 0 44 (nI (s' + i))) 0 47 = gI R 0 47 := fun i => ⟨xt.fr (fun a i q => gw_n _ _ _ _ (by omega)), by rw [gw_n _ _ _ _ (by omega)]; exact x45, by rw [gw_n _ _ _ _ (by omega)]; exact x46, by rw [gw_n _ _ _ _ (by omega)]; exact x47⟩
        by_cases n4 : n ≤ 4
        · have vb := (vlN_b b2).2.2.2 n4
          -- the class
          have pc : ∀ r, (if nI (vlN B s' n) < p1 then
 (bnd (P_DFail (2 : Int32) (nI s') M) fun M7 => some (nI (vlN B s' n), sI M7 0 6 (gI M7 0 6 + 1)))
 else
 (if nI (vlN B s' n) ≤ p2 then
 (some (nI (vlN B s' n), sI M 0 6 (gI M 0 6 + 1)))
 else
 (bnd (P_DFail (2 : Int32) (nI s') M) fun M7 => some (nI (vlN B s' n), sI M7 0 6 (gI M7 0 6 + 1))))) = r → P_DExpectNumber p1 p2 M = r := fun r hr => by
            unfold P_DExpectNumber
            rw [if_pos h8, k2, ald_n (by omega) (by omega), lett_e, ald_n (by omega) (by omega), ix_nI (by omega), if_pos k12, s1, ald_n (by omega) (by omega), t2, if_pos (nle_t 4 4 rfl n4 (by omega)), lett_e, lett_e, lett_e]
            refine loopR_sq (fun i => (nI (vlN B s' i), nI i)) n (by omega) rfl (fun i hi rec => ?_) (fun rec => ?_)
            · obtain ⟨y1, y2⟩ := byd i hi
              dsimp only
              rw [ald_n (by omega) (by omega), if_neg (nI_ge hi (by omega)), nI_add, P_by h1 (by omega), bnd_s, y1, vlN_i _ y2, lett_e, lett_e, nA_1, vlN_s]
            · dsimp only
              rw [ald_n (by omega) (by omega), if_pos (nI_le (Nat.le_refl _) (by omega)), lett_e, lett_e]
              exact hr
          -- the reference
          have rc : ∀ r, (bnd (R_isIn (nI (vlN B s' n)) p1 p2 (sI X 0 44 (nI (s' + n)))) fun r11 =>
 lett (fun (M_11 : Mm) =>
 bnd (R_goes M_11) fun r13 =>
 if r13 = 0 then
 (some ((0 : Int32), M_11))
 else
 (some (nI (vlN B s' n), M_11))) fun j160 =>
 if r11 = 0 then
 (bnd (R_fails (2 : Int32) (gI (sI X 0 44 (nI (s' + n))) 0 45) (sI X 0 44 (nI (s' + n)))) fun M14 =>
 j160 M14)
 else
 (j160 (sI X 0 44 (nI (s' + n))))) = r → R_number p1 p2 R = r := fun r hr => by
            refine rhead _ (loopR_sq (fun i => (nI (vlN B s' i), sI X 0 44 (nI (s' + i)))) n (by omega) ?_ (fun i hi rec => ?_) (fun rec => ?_))
            · show ((0 : Int32), X) = (nI 0, sI X 0 44 (nI s'))
              rw [← x44, sI_self]; rfl
            · obtain ⟨d1, d2, d3, d4⟩ := di i
              obtain ⟨y1, y2⟩ := byd i hi
              dsimp only
              rw [gw_s, R_dg d1 (by omega), bnd_s, b2I_t (b2 i hi), if_neg i10, goes_t d3, bnd_s, if_neg i10, lett_e, d2, pk_sub (by omega), show s' + i - s' = i by omega, if_neg (neq_f 4 4 rfl (by omega) (by omega) (by omega))]
              dsimp only
              rw [gw_s, R_by d1 (by omega), bnd_s, y1, vlN_j _ y2, lett_e, lett_e, sI_sI, nA_1, vlN_s]
              rfl
            · obtain ⟨d1, d2, d3, d4⟩ := di n
              dsimp only
              rw [gw_s, R_dg d1 (by omega), bnd_s, b2I_f b3, if_pos rfl]
              exact hr
          obtain ⟨d1, d2, d3, d4⟩ := di n
          have fr1 : RFr R (sI X 0 44 (nI (s' + n))) := xr.tr (RFr.w (by omega))
          by_cases ok : ¬ nI (vlN B s' n) < p1 ∧ nI (vlN B s' n) ≤ p2
          · have ri : R_isIn (nI (vlN B s' n)) p1 p2 (sI X 0 44 (nI (s' + n))) = some 1 := by
              unfold R_isIn
              rw [if_neg ok.1, if_neg (fun e => nlt_le.mp e ok.2)]
            refine ⟨nI (vlN B s' n), nI (vlN B s' n), sI M 0 6 (gI M 0 6 + 1), sI X 0 44 (nI (s' + n)), pc _ (by rw [if_neg ok.1, if_pos ok.2]), rc _ ?_, hh.go (PFr.w (by omega)) fr1 (k := k + 1) (by omega) (by rw [gw_s, k2, nI_1]) (fun _ => ⟨s' + n, gw_s _ _ _ _, h2.2.2 k s' n kd wd c1 hTk⟩) ?_ ?_, PFr.w (by omega), fr1, fun _ => ⟨h8, gw_s _ _ _ _, rfl, _, vb, rfl, ok.1, ok.2⟩⟩
            · rw [ri, bnd_s, lett_e, if_neg i10]
              dsimp only
              rw [goes_t d3, bnd_s, if_neg i10]
            · rw [gw_n _ _ _ _ (by omega), d3]; exact h8
            · rw [gw_n _ _ _ _ (by omega), d4]; exact h6
          · have ri : R_isIn (nI (vlN B s' n)) p1 p2 (sI X 0 44 (nI (s' + n))) = some 0 := by
              unfold R_isIn
              by_cases e1 : nI (vlN B s' n) < p1
              · rw [if_pos e1]
              · rw [if_neg e1, if_pos (nlt_le.mpr (fun e2 => ok ⟨e1, e2⟩))]
            have pf : (bnd (P_DFail (2 : Int32) (nI s') M) fun M7 => some (nI (vlN B s' n), sI M7 0 6 (gI M7 0 6 + 1))) = some (nI (vlN B s' n), sI (sI (sI M 0 8 2) 0 9 (nI s')) 0 6 (nI (k + 1))) := by
              rw [fail_P _ _ h8, bnd_s, gw_n _ _ _ _ (by omega), gw_n _ _ _ _ (by omega), k2, nI_1]
            refine ⟨nI (vlN B s' n), 0, sI (sI (sI M 0 8 2) 0 9 (nI s')) 0 6 (nI (k + 1)), sI (sI (sI X 0 44 (nI (s' + n))) 0 46 2) 0 47 (nI s'), pc _ ?_, rc _ ?_, hh.fail (f := 2) (p := nI s') (by decide) (PFr.fail.tr (PFr.w (by omega))) (fr1.tr RFr.fail) (k := k + 1) (by omega) (gw_s _ _ _ _) (by rw [gw_n _ _ _ _ (by omega), gw_n _ _ _ _ (by omega), gw_s]) (by rw [gw_n _ _ _ _ (by omega), gw_s]) (by rw [gw_n _ _ _ _ (by omega), gw_s]) (gw_s _ _ _ _), PFr.fail.tr (PFr.w (by omega)), fr1.tr RFr.fail, fun e => absurd e (by rw [gw_n _ _ _ _ (by omega), gw_n _ _ _ _ (by omega), gw_s]; decide)⟩
            · by_cases e1 : nI (vlN B s' n) < p1
              · rw [if_pos e1, pf]
              · rw [if_neg e1, if_neg (fun e2 => ok ⟨e1, e2⟩), pf]
            · rw [ri, bnd_s, lett_e, if_pos rfl, d2, fail_R _ _ d3, bnd_s]
              dsimp only
              rw [goes_f (by rw [gw_n _ _ _ _ (by omega), gw_s]; decide), bnd_s, if_pos rfl]
        · -- a fifth digit
          obtain ⟨Y, hY⟩ : ∃ Y, Y = sI (sI (sI X 0 44 (nI (s' + 4))) 0 46 1) 0 47 (nI (s' + 4)) := ⟨_, rfl⟩
          have yr : RFr R (sI Y 0 44 (nI (s' + 5))) := by rw [hY]; exact ((xr.tr (RFr.w (by omega))).tr RFr.fail).tr (RFr.w (by omega))
          have yt : RT l B Y := by rw [hY]; exact xt.fr (fun a i q => by rw [gw_n _ _ _ _ (by omega), gw_n _ _ _ _ (by omega), gw_n _ _ _ _ (by omega)])
          have y44 : gI Y 0 44 = nI (s' + 4) := by rw [hY, gw_n _ _ _ _ (by omega), gw_n _ _ _ _ (by omega), gw_s]
          have z46 : gI (sI Y 0 44 (nI (s' + 5))) 0 46 = 1 := by rw [hY, gw_n _ _ _ _ (by omega), gw_n _ _ _ _ (by omega), gw_s]
          have z47 : gI (sI Y 0 44 (nI (s' + 5))) 0 47 = nI (s' + 4) := by rw [hY, gw_n _ _ _ _ (by omega), gw_s]
          have zt : RT l B (sI Y 0 44 (nI (s' + 5))) := yt.fr (fun a i q => gw_n _ _ _ _ (by omega))
          refine ⟨p1, 0, sI (sI M 0 8 1) 0 9 (nI (s' + 4)), sI Y 0 44 (nI (s' + 5)), ?_, rhead _ ?_, hh.fail (f := 1) (p := nI (s' + 4)) (by decide) PFr.fail yr k1 (by rw [gw_n _ _ _ _ (by omega), gw_n _ _ _ _ (by omega)]; exact k2) (by rw [gw_n _ _ _ _ (by omega), gw_s]) (gw_s _ _ _ _) z46 z47, PFr.fail, yr, fun e => absurd e (by rw [gw_n _ _ _ _ (by omega), gw_s]; decide)⟩
          · unfold P_DExpectNumber
            rw [if_pos h8, k2, ald_n (by omega) (by omega), lett_e, ald_n (by omega) (by omega), ix_nI (by omega), if_pos k12, s1, ald_n (by omega) (by omega), t2, if_neg (nle_f 4 4 rfl (by omega) (by omega)), nA_4, fail_P _ _ h8]
            rfl
          · refine loopR_sq (fun i => if i ≤ 4 then (nI (vlN B s' i), sI X 0 44 (nI (s' + i))) else (nI (vlN B s' 5), sI Y 0 44 (nI (s' + 5)))) 5 (by omega) ?_ (fun i hi rec => ?_) (fun rec => ?_)
            · rw [if_pos (by omega)]
              show ((0 : Int32), X) = (nI 0, sI X 0 44 (nI s'))
              rw [← x44, sI_self]; rfl
            · obtain ⟨d1, d2, d3, d4⟩ := di i
              obtain ⟨y1, y2⟩ := byd i (by omega)
              rw [if_pos (show i ≤ 4 by omega)]
              dsimp only
              rw [gw_s, R_dg d1 (by omega), bnd_s, b2I_t (b2 i (by omega)), if_neg i10, goes_t d3, bnd_s, if_neg i10, lett_e, d2, pk_sub (by omega), show s' + i - s' = i by omega]
              by_cases e4 : i = 4
              · subst e4
                rw [if_pos (by decide), fail_R _ _ d3, bnd_s, ← hY, if_neg (show ¬ 4 + 1 ≤ 4 by omega)]
                dsimp only
                rw [y44, R_by yt (by omega), bnd_s, y1, vlN_j _ y2, lett_e, lett_e, nA_1]
                rfl
              · rw [if_neg (neq_f 4 4 rfl e4 (by omega) (by omega)), if_pos (show i + 1 ≤ 4 by omega)]
                dsimp only
                rw [gw_s, R_by d1 (by omega), bnd_s, y1, vlN_j _ y2, lett_e, lett_e, sI_sI, nA_1, vlN_s]
                rfl
            · rw [if_neg (show ¬ 5 ≤ 4 by omega)]
              have g0 := goes_f (R := sI Y 0 44 (nI (s' + 5))) (by rw [z46]; decide)
              have fin : (bnd (R_isIn (nI (vlN B s' 5)) p1 p2 (sI Y 0 44 (nI (s' + 5)))) fun r11 =>
 lett (fun (M_11 : Mm) =>
 bnd (R_goes M_11) fun r13 =>
 if r13 = 0 then
 (some ((0 : Int32), M_11))
 else
 (some (nI (vlN B s' 5), M_11))) fun j160 =>
 if r11 = 0 then
 (bnd (R_fails (2 : Int32) (gI (sI Y 0 44 (nI (s' + 5))) 0 45) (sI Y 0 44 (nI (s' + 5)))) fun M14 =>
 j160 M14)
 else
 (j160 (sI Y 0 44 (nI (s' + 5))))) = some (0, sI Y 0 44 (nI (s' + 5))) := by
                have nf : ∀ f p, R_fails f p (sI Y 0 44 (nI (s' + 5))) = some (sI Y 0 44 (nI (s' + 5))) := fun f p => by
                  unfold R_fails
                  rw [if_neg (by rw [z46]; decide)]
                have two : ∀ r : Int32, (if r = 0 then (bnd (R_fails (2 : Int32) (gI (sI Y 0 44 (nI (s' + 5))) 0 45) (sI Y 0 44 (nI (s' + 5)))) fun M14 => (bnd (R_goes M14) fun r13 => if r13 = 0 then (some ((0 : Int32), M14)) else (some (nI (vlN B s' 5), M14)))) else (bnd (R_goes (sI Y 0 44 (nI (s' + 5)))) fun r13 => if r13 = 0 then (some ((0 : Int32), sI Y 0 44 (nI (s' + 5)))) else (some (nI (vlN B s' 5), sI Y 0 44 (nI (s' + 5)))))) = some (0, sI Y 0 44 (nI (s' + 5))) := fun r => by
                  rw [nf, bnd_s, g0, bnd_s, if_pos rfl, ite_self]
                unfold R_isIn
                split
                · rw [bnd_s, lett_e]; exact two 0
                · split
                  · rw [bnd_s, lett_e]; exact two 0
                  · rw [bnd_s, lett_e]; exact two 1
              dsimp only
              rw [gw_s, R_dg zt (by omega), bnd_s]
              by_cases e5 : dgB l B (s' + 5) = true
              · rw [b2I_t e5, if_neg i10, g0, bnd_s, if_pos rfl]
                exact fin
              · rw [b2I_f e5, if_pos rfl]
                exact fin
      · exact bad (by rw [t3, b4]; decide) (Or.inl b2)
    · have es : s = l := (nI_eq (by omega) (by omega)).mp (s1.symm.trans c3)
      exact bad (by rw [c2]; decide) (Or.inl (fun e => by have := (dgB_i.mp e).1; omega))
  · have h46 : ¬ gI R 0 46 = 0 := fun e => h8 (h.2.2.2.2.1.trans e)
    refine ⟨p1, 0, M, R, ?_, ?_, h, PFr.rf, RFr.rf, fun e => absurd e h8⟩
    · unfold P_DExpectNumber
      rw [if_neg h8]
    · unfold R_number
      rw [goes_f h46, bnd_s, if_pos rfl]
/-! signs -/
theorem isSign (h : Zt l B T M R) {c : Nat} (hc : c = 44 ∨ c = 59) (h8 : gI M 0 8 = 0) : ∃ k s R', k ≤ T ∧ gI M 0 6 = nI k ∧ gI M 2 k = nI s ∧ RFr R R' ∧ gI R' 0 46 = 0 ∧ gI R' 0 47 = gI R 0 47 ∧ ((P_DIsSign (nI c) M = some 1 ∧ R_passes (nI c) R = some (1, R') ∧ k < T ∧ gI R' 0 44 = nI (s + 1) ∧ AtT l B M T (k + 1) (s + 1)) ∨ (P_DIsSign (nI c) M = some 0 ∧ R_passes (nI c) R = some (0, R') ∧ gI R' 0 44 = nI s ∧ AtT l B M T k s)) := by
  obtain ⟨h1, h2, h3, ⟨k, k1, k2, k3⟩, h5, h6, h7⟩ := h
  obtain ⟨pos, a1, a2⟩ := k3 h8
  obtain ⟨s, s1, s2, s3, s4, s5⟩ := a2.s
  have l1 := h1.1
  have hT := h2.1
  have h46 : gI R 0 46 = 0 := h5.symm.trans h8
  have ps : ∀ r, (if gI M 1 k = 3 then (if byN l B s = nI c then some (1 : Int32) else some 0) else some 0) = r → P_DIsSign (nI c) M = r := fun r hr => by
    unfold P_DIsSign
    rw [k2, ald_n (by omega) (by omega), ix_nI (by omega), ald_n (by omega) (by omega), s1, P_by h1 (by omega), bnd_s]
    exact hr
  have rp : ∀ r, (if byN l B s = nI c then some ((1 : Int32), sI (sI R 0 44 (nI s)) 0 44 (nI s + 1)) else some (0, sI R 0 44 (nI s))) = r → R_passes (nI c) R = r := fun r hr => by
    unfold R_passes
    rw [goes_t h46, bnd_s, if_neg i10, here_m h3 a1 s3 s2 s4 s5, bnd_s]
    dsimp only
    rw [gw_s]
    exact hr
  have atk : AtT l B M T k s := by
    rcases a2 with ⟨c1, s', n, kd, wd, hTk, c3, c4⟩ | ⟨c1, c2, c3, c4, c5, c6⟩
    · have es : s' = s := (nI_eq (by have := hTk.2.2.2.2.1.1; omega) (by omega)).mp (hTk.1.symm.trans s1)
      subst es
      exact Or.inl ⟨c1, s', n, kd, wd, hTk, Nat.le_refl _, fun i x1 x2 => by omega⟩
    · have es : s = l := (nI_eq (by omega) (by omega)).mp (s1.symm.trans c3)
      exact Or.inr ⟨c1, c2, c3, c4, by omega, fun i x1 x2 => by omega⟩
  have no : ¬ (gI M 1 k = 3 ∧ byN l B s = nI c) → ¬ byN l B s = nI c → ∃ k s R', k ≤ T ∧ gI M 0 6 = nI k ∧ gI M 2 k = nI s ∧ RFr R R' ∧ gI R' 0 46 = 0 ∧ gI R' 0 47 = gI R 0 47 ∧ ((P_DIsSign (nI c) M = some 1 ∧ R_passes (nI c) R = some (1, R') ∧ k < T ∧ gI R' 0 44 = nI (s + 1) ∧ AtT l B M T (k + 1) (s + 1)) ∨ (P_DIsSign (nI c) M = some 0 ∧ R_passes (nI c) R = some (0, R') ∧ gI R' 0 44 = nI s ∧ AtT l B M T k s)) := fun e1 e2 => ⟨k, s, sI R 0 44 (nI s), k1, k2, s1, RFr.w (by omega), by rw [gw_n _ _ _ _ (by omega)]; exact h46, gw_n _ _ _ _ (by omega), Or.inr ⟨ps _ (by rw [if_neg e2, ite_self]), rp _ (by rw [if_neg e2]), gw_s _ _ _ _, atk⟩⟩
  by_cases e : byN l B s = nI c
  · have sl : s < l := by
      rcases Nat.lt_or_ge s l with q | q
      · exact q
      · unfold byN at e
        rw [if_neg (by omega)] at e
        exact absurd e.symm (nI_m1 (by omega))
    have eB : B s = c := by
      unfold byN at e
      rw [if_pos sl] at e
      have := h1.2.2.1 s sl
      exact (nI_eq (by omega) (by omega)).mp e
    rcases a2 with ⟨c1, s', n, kd, wd, hTk, c3, c4⟩ | ⟨c1, c2, c3, c4, c5, c6⟩
    · have hTk' := hTk
      obtain ⟨t1, t2, t3, t4, ⟨t5, t6, t7, t8⟩, t9, t10, t11⟩ := hTk'
      have es : s' = s := (nI_eq (by omega) (by omega)).mp (t1.symm.trans s1)
      subst es
      rcases t11 with ⟨b1, -⟩ | ⟨b1, -⟩ | ⟨b1, b2, b3, b4, b5⟩
      · have := ltB_i.mp b1; omega
      · have := dgB_i.mp b1; omega
      · have k13 : gI M 1 k = 3 := by rw [t3, b4]; rfl
        have nx := h2.2.2 k s' n kd wd c1 hTk
        rw [b3] at nx
        exact ⟨k, s', sI R 0 44 (nI (s' + 1)), k1, k2, s1, RFr.w (by omega), by rw [gw_n _ _ _ _ (by omega)]; exact h46, gw_n _ _ _ _ (by omega), Or.inl ⟨ps _ (by rw [if_pos k13, if_pos e]), rp _ (by rw [if_pos e, sI_sI, nI_1]), c1, gw_s _ _ _ _, nx⟩⟩
    · have es : s = l := (nI_eq (by omega) (by omega)).mp (s1.symm.trans c3)
      omega
  · exact no (fun q => e q.2) e
theorem exSign (h : Zt l B T M R) : ∃ M' R', P_DExpectSign 59 M = some M' ∧ R_endsWell R = some R' ∧ Zt l B T M' R' ∧ PFr M M' ∧ RFr R R' ∧ (gI M' 0 8 = 0 → gI M 0 8 = 0 ∧ gI M' 0 6 = gI M 0 6 + 1) := by
  by_cases h8 : gI M 0 8 = 0
  · have h46 : gI R 0 46 = 0 := h.2.2.2.2.1.symm.trans h8
    obtain ⟨k, s, R1, k1, k2, s1, r1, r2, r3, ⟨p1, p2, p3, p4, p5⟩ | ⟨p1, p2, p3, p4⟩⟩ := isSign h (c := 59) (Or.inr rfl) h8
    · refine ⟨sI M 0 6 (nI k + 1), R1, ?_, ?_, h.go (PFr.w (by omega)) r1 (k := k + 1) (by omega) (by rw [gw_s, nI_1]) (fun _ => ⟨s + 1, p4, p5⟩) ?_ ?_, PFr.w (by omega), r1, fun _ => ⟨h8, by rw [gw_s, k2]⟩⟩
      · unfold P_DExpectSign
        rw [if_pos h8, show P_DIsSign 59 M = _ from p1, bnd_s, if_neg i10, lett_e, k2]
      · unfold R_endsWell
        rw [goes_t h46, bnd_s, if_neg i10, show R_passes 59 R = _ from p2, bnd_s, if_neg i10]
      · rw [gw_n _ _ _ _ (by omega), r2]; exact h8
      · rw [gw_n _ _ _ _ (by omega), r3]; exact h.2.2.2.2.2.1
    · have hT := h.2.1.1
      refine ⟨sI (sI M 0 8 1) 0 9 (nI s), sI (sI R1 0 46 1) 0 47 (nI s), ?_, ?_, h.fail (f := 1) (p := nI s) (by decide) PFr.fail (r1.tr RFr.fail) k1 (by rw [gw_n _ _ _ _ (by omega), gw_n _ _ _ _ (by omega)]; exact k2) (by rw [gw_n _ _ _ _ (by omega), gw_s]) (gw_s _ _ _ _) (by rw [gw_n _ _ _ _ (by omega), gw_s]) (gw_s _ _ _ _), PFr.fail, r1.tr RFr.fail, fun e => absurd e (by rw [gw_n _ _ _ _ (by omega), gw_s]; decide)⟩
      · unfold P_DExpectSign
        rw [if_pos h8, show P_DIsSign 59 M = _ from p1, bnd_s, if_pos rfl, k2, ald_n (by omega) (by omega), ix_nI (by omega), s1, fail_P _ _ h8]
        rfl
      · unfold R_endsWell
        rw [goes_t h46, bnd_s, if_neg i10, show R_passes 59 R = _ from p2, bnd_s, if_pos rfl, p3, fail_R _ _ r2]
        rfl
  · have h46 : ¬ gI R 0 46 = 0 := fun e => h8 (h.2.2.2.2.1.trans e)
    refine ⟨M, R, ?_, ?_, h, PFr.rf, RFr.rf, fun e => absurd e h8⟩
    · unfold P_DExpectSign
      rw [if_neg h8]
    · unfold R_endsWell
      rw [goes_f h46, bnd_s, if_pos rfl]
end NUMBER
