/-! PURE: keeping and undoing, in both -/
theorem mmin_n {a b : Nat} {v : Int32} (hv : v = nI b) (ha : a < 2 ^ 31) (hb : b < 2 ^ 31) : mminI (nI a) v = nI (min a b) := by
  subst hv
  rw [le_mm]
  unfold aLe
  by_cases h : a ≤ b
  · rw [if_pos (nI_le h hb), Nat.min_eq_left h]
  · rw [if_neg (nI_ge (by omega) ha), Nat.min_eq_right (by omega)]
section KEEP
variable {n P Q : Nat} {C R : Mm}
theorem keep_sim (h : Rl n P Q C R) (h8 : Di n P C R) : ∃ C' X, C_keepPast C = some C' ∧ R_remembers R = some X ∧ R0 X = X ∧ Rl n P Q C' X ∧ Di n P C' X ∧ (∀ a k, a ≠ 18 → ¬ (a = 0 ∧ (k = 53 ∨ k = 54 ∨ k = 55)) → (a = 16 → k < 758) → gI X a k = gI R a k) ∧ (∀ a k, a ≠ 19 → gF X a k = gF R a k) ∧ (∀ a k, 1 ≤ a → a < 74 → gI C' a k = gI C a k) := by
  obtain ⟨h1, h2, h3, h4, h5, h6, h7, -, h9⟩ := h
  obtain ⟨u, pn, u1, u2, u3, u4, u5, u6⟩ := h9
  have h8' := h8
  obtain ⟨d0, ⟨s, t, c, ht, hS⟩, hnm, hfr⟩ := h8
  obtain ⟨X, x1, x2, x3, x4, x5, x6, x7⟩ := R_rem_m u5 u1
  have hPl := h1.le
  have hPQ := h1.PQ
  obtain ⟨pn', hpn⟩ : ∃ p, p = (pn + 1) % 20 := ⟨_, rfl⟩
  have hpl : pn' < 20 := by omega
  obtain ⟨th, hth⟩ : ∃ p, p = 74 + 20 * pn' := ⟨_, rfl⟩
  -- the class
  have s1 : StR R n s t c (gI R 16) (gF R 17) (sI C 0 7 (nI pn')) 26 P := hS.fr (SP.rf R) (fun _ _ => rfl) (fun _ _ => rfl) (fun a k e => gw_n _ _ _ _ (by omega)) (fun _ _ _ => rfl) rfl
  obtain ⟨M3, c1, c2, c3⟩ := s1.copyAll (th := th) (by unfold apt; omega) hPQ
  have o1 : ∀ x k, (x < th ∨ th + 20 ≤ x) → ¬ (x = 0 ∧ k = 7) → gI M3 x k = gI C x k := fun x k e1 e2 => (c3.1 x k e1).trans (gw_n _ _ _ _ (by omega))
  have ck : C_keepPast C = some (sI M3 0 8 (nI (min (u + 1) 20))) := by
    unfold C_keepPast
    rw [u4, nA_1, show (20 : Int32) = nI 20 from rfl, pk_rem (by omega) (by omega) (by omega), ← hpn, lett_e, gw_s, ald_n hpl (by omega), ix_nI (by omega), ← hth, c1, bnd_s, o1 0 8 (by omega) (by omega), u3, nA_1, mmin_n rfl (by omega) (by omega), lett_e]
  have oI : ∀ x k, (x < th ∨ th + 20 ≤ x) → ¬ (x = 0 ∧ (k = 7 ∨ k = 8)) → gI (sI M3 0 8 (nI (min (u + 1) 20))) x k = gI C x k := fun x k e1 e2 => (gw_n _ _ _ _ (by omega)).trans (o1 x k e1 (by omega))
  have oF : ∀ x k, (x < th ∨ th + 20 ≤ x) → gF (sI M3 0 8 (nI (min (u + 1) 20))) x k = gF C x k := fun x k e1 => (c3.2.1 x k e1)
  have oR : ∀ x k, (x ≠ th ∨ k ≠ 0) → gR (sI M3 0 8 (nI (min (u + 1) 20))) x k = gR C x k := fun x k e1 => (c3.2.2.2 x k e1)
  have sp : SP R X := SP.of (fun a k e => x6 a k (by omega) (by omega) (by omega))
  have dd : Di n P (sI M3 0 8 (nI (min (u + 1) 20))) X := h8'.fr (fun a k e => oI a k (by omega) (by omega)) (fun a k e => oF a k (by omega)) (oR _ _ (by omega)) (fun a k e => x6 a k (by omega) (by omega) (by omega)) (fun k hk => x7 _ _ (by omega))
  refine ⟨_, X, ck, x1, x2, ⟨h1.fr (fun a k e => oR a k (by omega)), h2.fr (fun a k e => oI a k (by omega) (by omega)) (fun a k e => x6 a k (by omega) (by omega) (by omega)), h3.fr (fun a k e => oI a k (by omega) (by omega)) (fun a k e => x6 a k (by omega) (by omega) (by omega)), h4.fr (fun a k e => oI a k (by omega) (by omega)) (fun a k e => x6 a k (by omega) (by omega) (by omega)), h5.fr (c3.2.2.1 _ _) (x6 _ _ (by omega) (by omega) (by omega)), h6.fr (fun a k e => oI a k (by omega) (by omega)) (fun a k e => x6 a k (by omega) (by omega) (by omega)), h7.fr (fun a k e => oI a k (by omega) (by omega)) (fun a k e => x6 a k (by omega) (by omega) (by omega)), Or.inr dd, ⟨min (u + 1) 20, pn', by omega, hpl, gw_s _ _ _ _, ?_, x3, fun i hi => ?_⟩⟩, dd, x6, x7, fun a k e1 e2 => oI a k (by omega) (by omega)⟩
  · rw [gw_n _ _ _ _ (by omega), c3.1 _ _ (by omega), gw_s]
  · by_cases e : i = min u 19
    · have ep : plc pn' (min (u + 1) 20) i = th := by unfold plc; omega
      rw [ep]
      refine ⟨s, t, c, ht, c2.fr sp (fun j hj => ?_) (fun j hj => ?_) (fun a k e => gw_n _ _ _ _ (by omega)) (fun _ _ _ => rfl) rfl⟩
      · rw [x4 i j hi hj, if_pos e]
      · rw [x5 i j hi hj, if_pos e]
    · obtain ⟨i0, hi0⟩ : ∃ i0, i0 = if u = 20 then i + 1 else i := ⟨_, rfl⟩
      have hi1 : i0 < u := by
        rw [hi0]
        split <;> omega
      have ep : plc pn' (min (u + 1) 20) i = plc pn u i0 := by
        rw [hi0]
        unfold plc
        split <;> omega
      have hi2 : u = 20 → 1 ≤ i0 := fun e => by rw [hi0, if_pos e]; omega
      have en : plc pn u i0 + 20 ≤ th ∨ th + 20 ≤ plc pn u i0 := by
        unfold plc
        omega
      have hb := plc_b pn u i0
      rw [ep]
      obtain ⟨s', t', c', ht', hS'⟩ := u6 i0 hi1
      refine ⟨s', t', c', ht', hS'.fr sp (fun j hj => ?_) (fun j hj => ?_) (fun a k e => oI a k (by omega) (by omega)) (fun a k e => oF a k (by omega)) (oR _ _ (by omega))⟩
      · rw [x4 i j hi hj, if_neg e, ← hi0]
      · rw [x5 i j hi hj, if_neg e, ← hi0]
/-- another state now -/
theorem Rl.st {s t c : Nat} {D : Nat → Int32} {F : Nat → UInt32} {C2 m1 : Mm} (h : Rl n P Q C R) (h8 : Di n P C R) (hS : StR m1 n s t c D F C2 26 P) (ht : t ≤ 9999) (hC : ∀ a k, (a < 26 ∨ 46 ≤ a) → gI C2 a k = gI C a k) (hF : ∀ a k, 46 ≤ a → gF C2 a k = gF C a k) (hL : ∀ a k, gL C2 a k = gL C a k) (hR : ∀ a k, gR C2 a k = gR C a k) (r1 : ∀ a k, ¬ (a = 0 ∧ k = 56) → gI m1 a k = gI R a k) (r2 : m1.2 = R.2) : Rl n P Q C2 (mkR m1 0 D F) := by
  obtain ⟨h1, h2, h3, h4, h5, h6, h7, -, h9⟩ := h
  have hPl := h1.le
  obtain ⟨d0, -, hnm, hfr⟩ := h8
  have rI : ∀ a k, a ≠ 16 → ¬ (a = 0 ∧ (k = 53 ∨ k = 54 ∨ k = 56)) → gI (mkR m1 0 D F) a k = gI R a k := fun a k e1 e2 => (mkR_o _ _ _ _ e1 (by omega)).trans (r1 a k (by omega))
  have rF : ∀ a k, a ≠ 17 → gF (mkR m1 0 D F) a k = gF R a k := fun a k e => by
    show (if a = 17 ∧ pB 0 ≤ k ∧ k < pB 0 + 20 then F (k - pB 0) else m1.2.1 a k) = R.2.1 a k
    rw [if_neg (by omega), r2]
  have e16 : ∀ j, j < 758 → gI (mkR m1 0 D F) 16 j = D j := fun j hj => by
    have := mkR_16 m1 0 D F hj
    rwa [Nat.zero_add] at this
  have e17 : ∀ j, j < 20 → gF (mkR m1 0 D F) 17 j = F j := fun j hj => by
    have := mkR_17 m1 0 D F hj
    rwa [show pB 0 + j = j from Nat.zero_add j] at this
  have sp : SP m1 (mkR m1 0 D F) := SP.of (fun a k e => mkR_o _ _ _ _ (by omega) (by omega))
  refine ⟨h1.fr (fun a k e => hR a k), h2.fr (fun a k e => hC a k (by omega)) (fun a k e => rI a k (by omega) (by omega)), h3.fr (fun a k e => hC a k (by omega)) (fun a k e => rI a k (by omega) (by omega)), h4.fr (fun a k e => hC a k (by omega)) (fun a k e => rI a k (by omega) (by omega)), h5.fr (hL _ _) (rI _ _ (by omega) (by omega)), h6.fr (fun a k e => hC a k (by omega)) (fun a k e => rI a k (by omega) (by omega)), h7.fr (fun a k e => hC a k (by omega)) (fun a k e => rI a k (by omega) (by omega)), Or.inr ⟨(rI _ _ (by omega) (by omega)).trans d0, ⟨s, t, c, ht, hS.fr sp e16 e17 (fun _ _ _ => rfl) (fun _ _ _ => rfl) rfl⟩, fun p k hp hk => ?_, fun p hp => ?_⟩, h9.fr (fun a k e => hC a k (by omega)) (fun a k e => hF a k (by omega)) (fun a e => hR a 0) (fun a k e => rI a k (by omega) (by omega)) (fun k => rF _ _ (by omega))⟩
  · rw [hC _ _ (by omega), rI _ _ (by omega) (by omega)]; exact hnm p k hp hk
  · rw [hC _ _ (by omega), rI _ _ (by omega) (by omega)]; exact hfr p hp
/-! undoing -/
def un16 (u : Nat) (M : Mm) (i : Nat) : Mm := (fun a k => if a = 16 ∧ k < i then M.1 18 (758 * u + k) else M.1 a k, M.2)
def un17 (u : Nat) (M : Mm) (i : Nat) : Mm := (M.1, fun a k => if a = 17 ∧ k < i then M.2.1 19 (20 * u + k) else M.2.1 a k, M.2.2)
theorem un16_I (u : Nat) (M : Mm) (i a k : Nat) : gI (un16 u M i) a k = if a = 16 ∧ k < i then gI M 18 (758 * u + k) else gI M a k := rfl
theorem un17_F (u : Nat) (M : Mm) (i a k : Nat) : gF (un17 u M i) a k = if a = 17 ∧ k < i then gF M 19 (20 * u + k) else gF M a k := rfl
theorem un16_0 (u : Nat) (M : Mm) : un16 u M 0 = M := by
  refine Prod.ext (funext fun a => funext fun k => ?_) rfl
  show (if _ then _ else _) = _
  rw [if_neg (by omega)]
theorem un17_0 (u : Nat) (M : Mm) : un17 u M 0 = M := by
  refine Prod.ext rfl (Prod.ext (funext fun a => funext fun k => ?_) rfl)
  show (if _ then _ else _) = _
  rw [if_neg (by omega)]
theorem un16_s (u : Nat) (M : Mm) (i : Nat) : sI (un16 u M i) 16 i (gI (un16 u M i) 18 (758 * u + i)) = un16 u M (i + 1) := by
  refine Prod.ext (funext fun a => funext fun k => ?_) rfl
  show gI (sI (un16 u M i) 16 i _) a k = gI (un16 u M (i + 1)) a k
  rw [gI_sI, un16_I, un16_I, un16_I]
  by_cases h1 : a = 16 ∧ k = i
  · rw [if_pos h1, if_neg (by omega), if_pos (by omega), h1.2]
  · rw [if_neg h1]
    by_cases h2 : a = 16 ∧ k < i
    · rw [if_pos h2, if_pos (by omega)]
    · rw [if_neg h2, if_neg (by omega)]
theorem un17_s (u : Nat) (M : Mm) (i : Nat) : sF (un17 u M i) 17 i (gF (un17 u M i) 19 (20 * u + i)) = un17 u M (i + 1) := by
  refine Prod.ext rfl (Prod.ext (funext fun a => funext fun k => ?_) rfl)
  show gF (sF (un17 u M i) 17 i _) a k = gF (un17 u M (i + 1)) a k
  rw [gF_sF', un17_F, un17_F, un17_F]
  by_cases h1 : a = 17 ∧ k = i
  · rw [if_pos h1, if_neg (by omega), if_pos (by omega), h1.2]
  · rw [if_neg h1]
    by_cases h2 : a = 17 ∧ k < i
    · rw [if_pos h2, if_pos (by omega)]
    · rw [if_neg h2, if_neg (by omega)]
theorem R_undo_m {u : Nat} (hu : gI R 0 55 = nI (u + 1)) (h20 : u < 20) : R_undo R = some (1, un17 u (un16 u (sI R 0 55 (nI u)) 758) 20) := by
  unfold R_undo
  rw [hu, if_neg (neq_f 0 0 rfl (by omega) (by omega) (by omega)), nS_1 (by omega), show u + 1 - 1 = u by omega, lett_e, lett_e, lett_e]
  refine loopR_sq (fun i => (nI i, un16 u (sI R 0 55 (nI u)) i)) 758 (by omega) ?_ (fun i hi rec => ?_) (fun rec => ?_)
  · show (nI 0, _) = (nI 0, un16 u _ 0)
    rw [un16_0]
  · dsimp only
    have e : gI (un16 u (sI R 0 55 (nI u)) i) 0 55 = nI u := by
      rw [un16_I, if_neg (by omega), gw_s]
    rw [if_neg (le_f 758 758 rfl (by omega) (by omega)), e, show (758 : Int32) = nI 758 from rfl, pk_mul, nI_add, ald_n (by omega) (by omega), ald_n (by omega) (by omega), ix_nI (by omega), ix_nI (by omega), lett_e, lett_e, nA_1, un16_s]
  · dsimp only
    rw [if_pos (by decide), lett_e]
    refine loopR_sq (fun i => (nI i, un17 u (un16 u (sI R 0 55 (nI u)) 758) i)) 20 (by omega) ?_ (fun i hi rec => ?_) (fun rec => ?_)
    · show (nI 0, _) = (nI 0, un17 u _ 0)
      rw [un17_0]
    · dsimp only
      have e : gI (un17 u (un16 u (sI R 0 55 (nI u)) 758) i) 0 55 = nI u := by
        show gI (un16 u (sI R 0 55 (nI u)) 758) 0 55 = nI u
        rw [un16_I, if_neg (by omega), gw_s]
      rw [if_neg (le_f 20 20 rfl (by omega) (by omega)), e, show (20 : Int32) = nI 20 from rfl, pk_mul, nI_add, ald_n (by omega) (by omega), ald_n (by omega) (by omega), ix_nI (by omega), ix_nI (by omega), lett_e, lett_e, nA_1, un17_s]
    · dsimp only
      rw [if_pos (by decide)]
theorem undo_sim (h : Rl n P Q C R) : ∃ a C' R', C_undo C = some (a, C') ∧ R_undo R = some (a, R') ∧ Rl n P Q C' R' := by
  have hh := h
  obtain ⟨h1, h2, h3, h4, h5, h6, h7, h8, h9⟩ := h
  obtain ⟨u, pn, u1, u2, u3, u4, u5, u6⟩ := h9
  by_cases e0 : u = 0
  · subst e0
    refine ⟨0, _, _, ?_, ?_, hh.ref 4⟩
    · unfold C_undo
      rw [u3, if_pos (by decide), C_ref_4]
      rfl
    · unfold R_undo
      rw [u5, if_pos (by decide), R_isr_4]
      rfl
  · obtain ⟨u, rfl⟩ : ∃ v, u = v + 1 := ⟨u - 1, by omega⟩
    have h8 : Di n P C R := by
      rcases h8 with h8 | h8
      · obtain ⟨-, -, -, ⟨-, -, -, -, e⟩, -⟩ := h8
        exact absurd ((nI_eq (a := u + 1) (b := 0) (by omega) (by omega)).mp (u5.symm.trans e)) (by omega)
      · exact h8
    have hPl := h1.le
    have hPQ := h1.PQ
    obtain ⟨d0, -, hnm, hfr⟩ := h8
    obtain ⟨s, t, c, ht, hS⟩ := u6 u (by omega)
    have ep : plc pn (u + 1) u = 74 + 20 * pn := by unfold plc; omega
    rw [ep] at hS
    obtain ⟨M3, c1, c2, c3⟩ := hS.copyAll (th := 26) (by unfold apt; omega) hPQ
    have ru := R_undo_m u5 (by omega)
    have o1 : ∀ x k, (x < 26 ∨ 46 ≤ x) → gI M3 x k = gI C x k := fun x k e1 => c3.1 x k (by omega)
    have cu : C_undo C = some (1, sI (sI M3 0 7 (nI ((pn + 19) % 20))) 0 8 (nI u)) := by
      unfold C_undo C_restorePast
      rw [u3, if_neg (neq_f 0 0 rfl (by omega) (by omega) (by omega)), u4, ald_n u2 (by omega), ix_nI (by omega), c1, bnd_s, o1 0 7 (by omega), u4, show (20 : Int32) = nI 20 from rfl, nI_add, nS_1 (by omega), show pn + 20 - 1 = pn + 19 by omega, pk_rem (by omega) (by omega) (by omega), lett_e, gw_n _ _ _ _ (by omega), o1 0 8 (by omega), u3, nS_1 (by omega), show u + 1 - 1 = u by omega]
      rfl
    have oI : ∀ x k, (x < 26 ∨ 46 ≤ x) → ¬ (x = 0 ∧ (k = 7 ∨ k = 8)) → gI (sI (sI M3 0 7 (nI ((pn + 19) % 20))) 0 8 (nI u)) x k = gI C x k := fun x k e1 e2 => (gw_n _ _ _ _ (by omega)).trans ((gw_n _ _ _ _ (by omega)).trans (o1 x k e1))
    have oF : ∀ x k, (x < 26 ∨ 46 ≤ x) → gF (sI (sI M3 0 7 (nI ((pn + 19) % 20))) 0 8 (nI u)) x k = gF C x k := fun x k e1 => c3.2.1 x k (by omega)
    have oR : ∀ x k, (x ≠ 26 ∨ k ≠ 0) → gR (sI (sI M3 0 7 (nI ((pn + 19) % 20))) 0 8 (nI u)) x k = gR C x k := fun x k e1 => c3.2.2.2 x k e1
    have oR2 : gR (sI (sI M3 0 7 (nI ((pn + 19) % 20))) 0 8 (nI u)) 26 0 = gR C 26 0 := c2.pl.trans h1.2.2.2.1.symm
    have oRR : ∀ x k, gR (sI (sI M3 0 7 (nI ((pn + 19) % 20))) 0 8 (nI u)) x k = gR C x k := fun x k => by
      by_cases e : x = 26 ∧ k = 0
      · rw [e.1, e.2]; exact oR2
      · exact oR x k (by omega)
    have xI : ∀ a k, gI (un17 u (un16 u (sI R 0 55 (nI u)) 758) 20) a k = if a = 16 ∧ k < 758 then gI (sI R 0 55 (nI u)) 18 (758 * u + k) else gI (sI R 0 55 (nI u)) a k := fun a k => rfl
    have xF : ∀ a k, gF (un17 u (un16 u (sI R 0 55 (nI u)) 758) 20) a k = if a = 17 ∧ k < 20 then gF R 19 (20 * u + k) else gF R a k := fun a k => rfl
    have rI : ∀ a k, a ≠ 16 → ¬ (a = 0 ∧ k = 55) → gI (un17 u (un16 u (sI R 0 55 (nI u)) 758) 20) a k = gI R a k := fun a k e1 e2 => by
      rw [xI, if_neg (by omega), gw_n _ _ _ _ (by omega)]
    have rF : ∀ a k, a ≠ 17 → gF (un17 u (un16 u (sI R 0 55 (nI u)) 758) 20) a k = gF R a k := fun a k e1 => by
      rw [xF, if_neg (by omega)]
    have sp : SP R (un17 u (un16 u (sI R 0 55 (nI u)) 758) 20) := SP.of (fun a k e => rI a k (by omega) (by omega))
    refine ⟨1, _, _, cu, ru, h1.fr (fun a k e => oRR a k), h2.fr (fun a k e => oI a k (by omega) (by omega)) (fun a k e => rI a k (by omega) (by omega)), h3.fr (fun a k e => oI a k (by omega) (by omega)) (fun a k e => rI a k (by omega) (by omega)), h4.fr (fun a k e => oI a k (by omega) (by omega)) (fun a k e => rI a k (by omega) (by omega)), h5.fr (c3.2.2.1 _ _) (rI _ _ (by omega) (by omega)), h6.fr (fun a k e => oI a k (by omega) (by omega)) (fun a k e => rI a k (by omega) (by omega)), h7.fr (fun a k e => oI a k (by omega) (by omega)) (fun a k e => rI a k (by omega) (by omega)), Or.inr ⟨(rI _ _ (by omega) (by omega)).trans d0, ⟨s, t, c, ht, c2.fr sp (fun j hj => ?_) (fun j hj => ?_) (fun a k e => ?_) (fun _ _ _ => rfl) rfl⟩, fun p k hp hk => ?_, fun p hp => ?_⟩, ⟨u, (pn + 19) % 20, by omega, by omega, gw_s _ _ _ _, ?_, ?_, fun i hi => ?_⟩⟩
    · rw [xI, if_pos ⟨rfl, hj⟩, gw_n _ _ _ _ (by omega)]
    · rw [xF, if_pos ⟨rfl, hj⟩]
    · exact (gw_n _ _ _ _ (by omega)).trans (gw_n _ _ _ _ (by omega))
    · rw [oI _ _ (by omega) (by omega), rI _ _ (by omega) (by omega)]; exact hnm p k hp hk
    · rw [oI _ _ (by omega) (by omega), rI _ _ (by omega) (by omega)]; exact hfr p hp
    · rw [gw_n _ _ _ _ (by omega), gw_s]
    · rw [xI, if_neg (by omega), gw_s]
    · obtain ⟨s', t', c', ht', hS'⟩ := u6 i (by omega)
      have ep : plc ((pn + 19) % 20) u i = plc pn (u + 1) i := by unfold plc; omega
      have hb := plc_b pn (u + 1) i
      rw [ep]
      exact ⟨s', t', c', ht', hS'.fr sp (fun j hj => rI _ _ (by omega) (by omega)) (fun j hj => rF _ _ (by omega)) (fun a k e => oI a k (by omega) (by omega)) (fun a k e => oF a k (by omega)) (oR _ _ (by omega))⟩
end KEEP
