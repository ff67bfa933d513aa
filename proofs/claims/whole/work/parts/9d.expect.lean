/-! PURE: what is expected along the text -/
section EXPECT
variable {l T : Nat} {B : Nat → Nat} {M R M' R' : Mm}
def PFr (M M' : Mm) : Prop := (∀ a i, ¬ (a = 0 ∧ (i = 6 ∨ i = 8 ∨ i = 9)) → gI M' a i = gI M a i) ∧ M'.2 = M.2
def RFr (R R' : Mm) : Prop := (∀ a i, ¬ (a = 0 ∧ 44 ≤ i ∧ i ≤ 47) → gI R' a i = gI R a i) ∧ R'.2 = R.2
theorem PFr.rf : PFr M M := ⟨fun _ _ _ => rfl, rfl⟩
theorem RFr.rf : RFr R R := ⟨fun _ _ _ => rfl, rfl⟩
theorem PFr.tr {M2 : Mm} (h : PFr M M') (h' : PFr M' M2) : PFr M M2 := ⟨fun a i e => (h'.1 a i e).trans (h.1 a i e), h'.2.trans h.2⟩
theorem RFr.tr {R2 : Mm} (h : RFr R R') (h' : RFr R' R2) : RFr R R2 := ⟨fun a i e => (h'.1 a i e).trans (h.1 a i e), h'.2.trans h.2⟩
theorem PFr.w {i : Nat} {v : Int32} (h : i = 6 ∨ i = 8 ∨ i = 9) : PFr M (sI M 0 i v) := ⟨fun a j e => gw_n _ _ _ _ (by omega), rfl⟩
theorem RFr.w {i : Nat} {v : Int32} (h : 44 ≤ i ∧ i ≤ 47) : RFr R (sI R 0 i v) := ⟨fun a j e => gw_n _ _ _ _ (by omega), rfl⟩
theorem TkD.fr {k s n kd : Nat} {wd : Option Nat} (h : TkD l B M k s n kd wd) (e : ∀ a i, 1 ≤ a ∧ a ≤ 3 → gI M' a i = gI M a i) (e4 : ∀ i, gR M' 4 i = gR M 4 i) : TkD l B M' k s n kd wd := ⟨(e _ _ (by omega)).trans h.1, (e _ _ (by omega)).trans h.2.1, (e _ _ (by omega)).trans h.2.2.1, (e4 _).trans h.2.2.2.1, h.2.2.2.2⟩
theorem AtT.fr {k pos : Nat} (h : AtT l B M T k pos) (e : ∀ a i, 1 ≤ a ∧ a ≤ 3 → gI M' a i = gI M a i) (e4 : ∀ i, gR M' 4 i = gR M 4 i) : AtT l B M' T k pos := by
  rcases h with ⟨h1, s, n, kd, wd, h2, h3⟩ | ⟨h1, h2, h3, h4, h5⟩
  · exact Or.inl ⟨h1, s, n, kd, wd, h2.fr e e4, h3⟩
  · exact Or.inr ⟨h1, (e _ _ (by omega)).trans h2, (e _ _ (by omega)).trans h3, (e4 _).trans h4, h5⟩
theorem TKS.fr (h : TKS l B M T) (e : ∀ a i, 1 ≤ a ∧ a ≤ 3 → gI M' a i = gI M a i) (e4 : ∀ i, gR M' 4 i = gR M 4 i) : TKS l B M' T := ⟨h.1, h.2.1.fr e e4, fun k s n kd wd hk ht => (h.2.2 k s n kd wd hk (ht.fr (fun a i q => (e a i q).symm) (fun i => (e4 i).symm))).fr e e4⟩
/-- the class's reader and the reference at the same place of the text, or at the same fault -/
def Zt (l : Nat) (B : Nat → Nat) (T : Nat) (M R : Mm) : Prop := PT l B M ∧ TKS l B M T ∧ RT l B R ∧ (∃ k, k ≤ T ∧ gI M 0 6 = nI k ∧ (gI M 0 8 = 0 → ∃ pos, gI R 0 44 = nI pos ∧ AtT l B M T k pos)) ∧ gI M 0 8 = gI R 0 46 ∧ gI M 0 9 = gI R 0 47 ∧ ∀ i, i < 1601 → okW (gR M 4 i) = true
theorem Zt.fr (h : Zt l B T M R) (e : ∀ a i, (1 ≤ a ∧ a ≤ 3) ∨ a = 5 ∨ a = 6 ∨ (a = 0 ∧ (i = 6 ∨ i = 8 ∨ i = 9)) → gI M' a i = gI M a i) (e4 : ∀ i, gR M' 4 i = gR M 4 i) (r : ∀ a i, (a = 0 ∧ (i = 43 ∨ i = 44 ∨ i = 46 ∨ i = 47)) ∨ a = 13 ∨ a = 15 → gI R' a i = gI R a i) : Zt l B T M' R' := by
  obtain ⟨h1, h2, h3, ⟨k, k1, k2, k3⟩, h5, h6, h7⟩ := h
  refine ⟨h1.fr (fun a i q => e a i (by omega)), h2.fr (fun a i q => e a i (by omega)) e4, h3.fr (fun a i q => r a i (by omega)), ⟨k, k1, (e _ _ (by omega)).trans k2, fun h8 => ?_⟩, ?_, ?_, fun i hi => by rw [e4]; exact h7 i hi⟩
  · obtain ⟨pos, p1, p2⟩ := k3 ((e _ _ (by omega)).symm.trans h8)
    exact ⟨pos, (r _ _ (by omega)).trans p1, p2.fr (fun a i q => e a i (by omega)) e4⟩
  · rw [e _ _ (by omega), r _ _ (by omega)]; exact h5
  · rw [e _ _ (by omega), r _ _ (by omega)]; exact h6
/-- one step of both -/
theorem Zt.go (h : Zt l B T M R) (hp : PFr M M') (hr : RFr R R') {k : Nat} (k1 : k ≤ T) (k2 : gI M' 0 6 = nI k) (k3 : gI M' 0 8 = 0 → ∃ pos, gI R' 0 44 = nI pos ∧ AtT l B M T k pos) (e8 : gI M' 0 8 = gI R' 0 46) (e9 : gI M' 0 9 = gI R' 0 47) : Zt l B T M' R' := by
  obtain ⟨h1, h2, h3, -, -, -, h7⟩ := h
  have f4 : ∀ i, gR M' 4 i = gR M 4 i := fun i => by show M'.2.2.2 4 i = M.2.2.2 4 i; rw [hp.2]
  refine ⟨h1.fr (fun a i q => hp.1 a i (by omega)), h2.fr (fun a i q => hp.1 a i (by omega)) f4, h3.fr (fun a i q => hr.1 a i (by omega)), ⟨k, k1, k2, fun h8 => ?_⟩, e8, e9, fun i hi => by rw [f4]; exact h7 i hi⟩
  obtain ⟨pos, p1, p2⟩ := k3 h8
  exact ⟨pos, p1, p2.fr (fun a i q => hp.1 a i (by omega)) f4⟩
theorem AtT.s {k pos : Nat} (h : AtT l B M T k pos) : ∃ s, gI M 2 k = nI s ∧ s ≤ l ∧ pos ≤ s ∧ (∀ i, pos ≤ i → i < s → blB l B i = true) ∧ ¬ blB l B s = true := by
  rcases h with ⟨h1, s, n, kd, wd, ⟨h2, h3, h4, h5, ⟨h6, h7, h8, h9⟩, -⟩, h10, h11⟩ | ⟨h1, h2, h3, h4, h5, h6⟩
  · exact ⟨s, h2, by omega, h10, h11, h9⟩
  · exact ⟨l, h3, Nat.le_refl _, h5, h6, fun e => by have := (blB_i.mp e).1; omega⟩
theorem fail_P (f p : Int32) (h : gI M 0 8 = 0) : P_DFail f p M = some (sI (sI M 0 8 f) 0 9 p) := by
  unfold P_DFail
  rw [if_pos h, lett_e, lett_e]
theorem fail_R (f p : Int32) (h : gI R 0 46 = 0) : R_fails f p R = some (sI (sI R 0 46 f) 0 47 p) := by
  unfold R_fails
  rw [if_pos h, lett_e, lett_e]
theorem goes_t (h : gI R 0 46 = 0) : R_goes R = some 1 := by unfold R_goes; rw [if_pos h]
theorem goes_f (h : ¬ gI R 0 46 = 0) : R_goes R = some 0 := by unfold R_goes; rw [if_neg h]
theorem PFr.fail {f p : Int32} : PFr M (sI (sI M 0 8 f) 0 9 p) := (PFr.w (by omega)).tr (PFr.w (by omega))
theorem RFr.fail {f p : Int32} : RFr R (sI (sI R 0 46 f) 0 47 p) := (RFr.w (by omega)).tr (RFr.w (by omega))
/-- a fault, the same in both -/
theorem Zt.fail (h : Zt l B T M R) {f p : Int32} (hf : ¬ f = 0) (hp : PFr M M') (hr : RFr R R') {k : Nat} (k1 : k ≤ T) (k2 : gI M' 0 6 = nI k) (e1 : gI M' 0 8 = f) (e2 : gI M' 0 9 = p) (e3 : gI R' 0 46 = f) (e4 : gI R' 0 47 = p) : Zt l B T M' R' := h.go hp hr k1 k2 (fun h8 => absurd (e1.symm.trans h8) hf) (e1.trans e3.symm) (e2.trans e4.symm)
/-- the reference reads a word -/
theorem word_R (h : Zt l B T M R) (h8 : gI M 0 8 = 0) : ∃ R' k s, k ≤ T ∧ gI M 0 6 = nI k ∧ gI M 2 k = nI s ∧ s ≤ l ∧ R_word R = some R' ∧ RFr R R' ∧ gI R' 0 45 = nI s ∧ ((∃ n, k < T ∧ TkD l B M k s n 1 (gR M 4 k) ∧ gR M 4 k = owN l B s n ∧ (∀ i, i < n → ltB l B (s + i) = true) ∧ gI R' 0 44 = nI (s + n) ∧ gI R' 0 46 = 0 ∧ gI R' 0 47 = gI R 0 47 ∧ R_own R' = some (ownI (gR M 4 k)) ∧ AtT l B M T (k + 1) (s + n)) ∨ (gR M 4 k = none ∧ ¬ gI M 1 k = 1 ∧ gI R' 0 46 = 1 ∧ gI R' 0 47 = nI s ∧ gI R' 0 44 = nI s)) := by
  obtain ⟨h1, h2, h3, ⟨k, k1, k2, k3⟩, h5, h6, h7⟩ := h
  obtain ⟨pos, p1, p2⟩ := k3 h8
  obtain ⟨s, s1, s2, s3, s4, s5⟩ := p2.s
  have l1 := h1.1
  have h46 : gI R 0 46 = 0 := h5.symm.trans h8
  obtain ⟨X, hX⟩ : ∃ X, X = sI (sI R 0 44 (nI s)) 0 45 (nI s) := ⟨_, rfl⟩
  have xr : RFr R X := by rw [hX]; exact (RFr.w (by omega)).tr (RFr.w (by omega))
  have xt : RT l B X := h3.fr (fun a i q => xr.1 a i (by omega))
  have x44 : gI X 0 44 = nI s := by rw [hX, gw_n _ _ _ _ (by omega), gw_s]
  have x45 : gI X 0 45 = nI s := by rw [hX, gw_s]
  have x46 : gI X 0 46 = 0 := by rw [hX, gw_n _ _ _ _ (by omega), gw_n _ _ _ _ (by omega)]; exact h46
  have x47 : gI X 0 47 = gI R 0 47 := by rw [hX, gw_n _ _ _ _ (by omega), gw_n _ _ _ _ (by omega)]
  have hd : ∀ r, (bnd (R_isSmall (gI X 0 44) X) fun r4 =>
 lett (fun (_ : Unit) =>
 bnd (R_fails (1 : Int32) (gI X 0 44) X) fun M5 =>
 some M5) fun j58 =>
 if r4 = 0 then
 (j58 ())
 else
 (bnd (R_isSmall ((gI X 0 44) - (1 : Int32)) X) fun r6 =>
 if r6 = 0 then
 (bnd (R_isDigit ((gI X 0 44) - (1 : Int32)) X) fun r7 =>
 if r7 = 0 then
 (loopR (fun (rec68 : Mm → Option Mm) (x8 : Mm) =>
 bnd (R_isSmall (gI x8 0 44) x8) fun r9 =>
 if r9 = 0 then
 (some x8)
 else
 (lett (sI x8 0 44 ((gI x8 0 44) + (1 : Int32))) fun M10 =>
 rec68 M10)) 1000000 X)
 else
 (j58 ()))
 else
 (j58 ()))) = r → R_word R = r := fun r hr => by
    unfold R_word
    rw [goes_t h46, bnd_s, if_neg i10, here_m h3 p1 s3 s2 s4 s5, bnd_s, lett_e]
    dsimp only
    rw [gw_s, ← hX]
    exact hr
  have bad : ∀ (hk1 : ¬ gI M 1 k = 1) (hw : gR M 4 k = none), R_word R = some (sI (sI X 0 46 1) 0 47 (nI s)) → ∃ R' k s, k ≤ T ∧ gI M 0 6 = nI k ∧ gI M 2 k = nI s ∧ s ≤ l ∧ R_word R = some R' ∧ RFr R R' ∧ gI R' 0 45 = nI s ∧ ((∃ n, k < T ∧ TkD l B M k s n 1 (gR M 4 k) ∧ gR M 4 k = owN l B s n ∧ (∀ i, i < n → ltB l B (s + i) = true) ∧ gI R' 0 44 = nI (s + n) ∧ gI R' 0 46 = 0 ∧ gI R' 0 47 = gI R 0 47 ∧ R_own R' = some (ownI (gR M 4 k)) ∧ AtT l B M T (k + 1) (s + n)) ∨ (gR M 4 k = none ∧ ¬ gI M 1 k = 1 ∧ gI R' 0 46 = 1 ∧ gI R' 0 47 = nI s ∧ gI R' 0 44 = nI s)) := fun hk1 hw e => ⟨_, k, s, k1, k2, s1, s2, e, xr.tr RFr.fail, by rw [gw_n _ _ _ _ (by omega), gw_n _ _ _ _ (by omega)]; exact x45, Or.inr ⟨hw, hk1, by rw [gw_n _ _ _ _ (by omega), gw_s], gw_s _ _ _ _, by rw [gw_n _ _ _ _ (by omega), gw_n _ _ _ _ (by omega)]; exact x44⟩⟩
  have fl : (bnd (R_fails (1 : Int32) (nI s) X) fun M5 => some M5) = some (sI (sI X 0 46 1) 0 47 (nI s)) := by rw [fail_R _ _ x46]; rfl
  rcases p2 with ⟨c1, s', n, kd, wd, hT, c3, c4⟩ | ⟨c1, c2, c3, c4, c5, c6⟩
  · have hT' := hT
    obtain ⟨t1, t2, t3, t4, ⟨t5, t6, t7, t8⟩, t9, t10, t11⟩ := hT'
    have es : s' = s := (nI_eq (by omega) (by omega)).mp (t1.symm.trans s1)
    subst es
    rcases t11 with ⟨a1, a2, a3, ⟨a4, a5, a6⟩ | ⟨a4, a5, a6⟩⟩ | ⟨a1, a2, a3, a4, a5⟩ | ⟨a1, a2, a3, a4, a5⟩
    · refine bad (by rw [t3, a5]; decide) (t4.trans a6) (hd _ ?_)
      rw [x44, R_lt xt (by omega), bnd_s, lett_e, b2I_t a1, if_neg i10, R_plt xt (by omega), bnd_s, b2I_f (t9 a1), if_pos rfl, R_pdg xt (by omega), bnd_s, b2I_t a4, if_neg i10]
      exact fl
    · have hk : gR M 4 k = owN l B s' n := t4.trans a6
      have nx : RFr R (sI X 0 44 (nI (s' + n))) := xr.tr (RFr.w (by omega))
      have nt : RT l B (sI X 0 44 (nI (s' + n))) := h3.fr (fun a i q => nx.1 a i (by omega))
      have n45 : gI (sI X 0 44 (nI (s' + n))) 0 45 = nI s' := by rw [gw_n _ _ _ _ (by omega)]; exact x45
      refine ⟨sI X 0 44 (nI (s' + n)), k, s', k1, k2, s1, s2, hd _ ?_, nx, n45, Or.inl ⟨n, c1, ?_, hk, a2, gw_s _ _ _ _, by rw [gw_n _ _ _ _ (by omega)]; exact x46, by rw [gw_n _ _ _ _ (by omega)]; exact x47, ?_, h2.2.2 k s' n kd wd c1 hT⟩⟩
      · rw [x44, R_lt xt (by omega), bnd_s, lett_e, b2I_t a1, if_neg i10, R_plt xt (by omega), bnd_s, b2I_f (t9 a1), if_pos rfl, R_pdg xt (by omega), bnd_s, b2I_f a4, if_pos rfl]
        refine loopR_sq (fun i => sI X 0 44 (nI (s' + i))) n (by omega) ?_ (fun i hi rec => ?_) (fun rec => ?_)
        · show X = sI X 0 44 (nI s')
          rw [← x44, sI_self]
        · have xi : RT l B (sI X 0 44 (nI (s' + i))) := xt.fr (fun a i q => gw_n _ _ _ _ (by omega))
          rw [gw_s, R_lt xi (by omega), bnd_s, b2I_t (a2 i hi), if_neg i10, lett_e, sI_sI, nA_1]
          rfl
        · rw [gw_s, R_lt nt (by omega), bnd_s, b2I_f a3, if_pos rfl]
      · rw [a5] at hT t3
        rw [t4]
        exact hT
      · rw [hk]
        exact own_m nt n45 (gw_s _ _ _ _) t7 a2
    · have nl : ¬ ltB l B s' = true := fun e => lt_dg e a1
      refine bad ?_ (t4.trans a4) (hd _ ?_)
      · rcases a5 with ⟨-, a5⟩ | ⟨-, a5⟩ <;> rw [t3, a5] <;> decide
      · rw [x44, R_lt xt (by omega), bnd_s, lett_e, b2I_f nl, if_pos rfl]
        exact fl
    · refine bad (by rw [t3, a4]; decide) (t4.trans a5) (hd _ ?_)
      rw [x44, R_lt xt (by omega), bnd_s, lett_e, b2I_f a1, if_pos rfl]
      exact fl
  · have es : s = l := (nI_eq (by omega) (by omega)).mp (s1.symm.trans c3)
    subst es
    have nl : ¬ ltB s B s = true := fun e => by have := (ltB_i.mp e).1; omega
    refine bad (by rw [c2]; decide) c4 (hd _ ?_)
    rw [x44, R_lt xt (by omega), bnd_s, lett_e, b2I_f nl, if_pos rfl]
    exact fl
theorem word_F (h : ¬ gI R 0 46 = 0) : R_word R = some R := by
  unfold R_word
  rw [goes_f h, bnd_s, if_pos rfl]
theorem okW_20 {j : Nat} (hj : j < 20) : okW (some (1000 + j)) = true := by
  show (Nat.ble 1000 (1000 + j) && Nat.blt (1000 + j) 1020) = true
  have a1 : Nat.ble 1000 (1000 + j) = true := Nat.ble_eq.mpr (by omega)
  have a2 : Nat.blt (1000 + j) 1020 = true := Nat.blt_eq.mpr (by omega)
  rw [a1, a2]; rfl
theorem ownI_j {j : Nat} {x : Option Nat} (hx : okW x = true) : ownI x = nI j ∧ j < 20 ↔ x = some (1000 + j) ∧ j < 20 := by
  cases x with
  | none => exact ⟨fun h => absurd h.1.symm (nI_m1 (by omega)), fun h => absurd h.1 (by simp)⟩
  | some w =>
    have h2 : (Nat.ble 1000 w && Nat.blt w 1020) = true := hx
    rw [Bool.and_eq_true] at h2
    have h3 : 1000 ≤ w := Nat.ble_eq.mp h2.1
    have h4 : w < 1020 := Nat.blt_eq.mp h2.2
    constructor
    · rintro ⟨h, hj⟩
      have e : nI (w - 1000) = nI j := h
      have := (nI_eq (by omega) (by omega)).mp e
      exact ⟨congrArg some (by omega), hj⟩
    · rintro ⟨h, hj⟩
      have e := Option.some.inj h
      refine ⟨?_, hj⟩
      show nI (w - 1000) = nI j
      rw [e, show 1000 + j - 1000 = j by omega]
/-- a word that must be there -/
theorem exWord (h : Zt l B T M R) {j : Nat} (hj : j < 20) : ∃ M' R', P_DExpectWord (1000 + j) M = some M' ∧ R_must (nI j) R = some R' ∧ Zt l B T M' R' ∧ PFr M M' ∧ RFr R R' ∧ (gI M' 0 8 = 0 → gI M 0 8 = 0 ∧ gI M' 0 6 = gI M 0 6 + 1) := by
  by_cases h8 : gI M 0 8 = 0
  · obtain ⟨R1, k, s, k1, k2, s1, s2, w1, w2, w3, w4⟩ := word_R h h8
    have hT := h.2.1.1
    have ok := h.2.2.2.2.2.2 k (by omega)
    have pe : ∀ r, (if gR M 4 k = some (1000 + j) then some (sI M 0 6 (nI k + 1)) else bnd (P_DFail 1 (nI s) M) fun M2 => some M2) = r → P_DExpectWord (1000 + j) M = r := fun r hr => by
      unfold P_DExpectWord
      rw [if_pos h8, k2, ald_n (by omega) (by omega), lett_e, ix_nI (by omega), grd_t ⟨ok, okW_20 hj⟩, ald_n (by omega) (by omega), lett_e, s1]
      exact hr
    rcases w4 with ⟨n, n1, n2, n3, n4, n5, n6, n7, n8, n9⟩ | ⟨n1, n2, n3, n4, n5⟩
    · by_cases e : gR M 4 k = some (1000 + j)
      · refine ⟨sI M 0 6 (nI k + 1), R1, pe _ (by rw [if_pos e]), ?_, h.go (PFr.w (by omega)) w2 (k := k + 1) (by omega) (by rw [gw_s, nI_1]) (fun _ => ⟨s + n, n5, n9⟩) ?_ ?_, PFr.w (by omega), w2, fun _ => ⟨h8, by rw [gw_s, k2]⟩⟩
        · unfold R_must
          rw [w1, bnd_s, goes_t n6, bnd_s, if_neg i10, n8, bnd_s, if_pos ((ownI_j ok).mpr ⟨e, hj⟩).1]
        · rw [gw_n _ _ _ _ (by omega), n6]; exact h8
        · rw [gw_n _ _ _ _ (by omega), n7]; exact h.2.2.2.2.2.1
      · refine ⟨sI (sI M 0 8 1) 0 9 (nI s), sI (sI R1 0 46 1) 0 47 (nI s), pe _ (by rw [if_neg e, fail_P _ _ h8]; rfl), ?_, h.fail (f := 1) (p := nI s) (by decide) PFr.fail (w2.tr RFr.fail) k1 (by rw [gw_n _ _ _ _ (by omega), gw_n _ _ _ _ (by omega)]; exact k2) (by rw [gw_n _ _ _ _ (by omega), gw_s]) (gw_s _ _ _ _) (by rw [gw_n _ _ _ _ (by omega), gw_s]) (gw_s _ _ _ _), PFr.fail, w2.tr RFr.fail, fun e => absurd e (by rw [gw_n _ _ _ _ (by omega), gw_s]; decide)⟩
        unfold R_must
        rw [w1, bnd_s, goes_t n6, bnd_s, if_neg i10, n8, bnd_s, if_neg (fun hh => e ((ownI_j ok).mp ⟨hh, hj⟩).1), w3, fail_R _ _ n6]
        rfl
    · refine ⟨sI (sI M 0 8 1) 0 9 (nI s), R1, pe _ (by rw [n1, if_neg (by simp), fail_P _ _ h8]; rfl), ?_, h.fail (f := 1) (p := nI s) (by decide) PFr.fail w2 k1 (by rw [gw_n _ _ _ _ (by omega), gw_n _ _ _ _ (by omega)]; exact k2) (by rw [gw_n _ _ _ _ (by omega), gw_s]) (gw_s _ _ _ _) n3 n4, PFr.fail, w2, fun e => absurd e (by rw [gw_n _ _ _ _ (by omega), gw_s]; decide)⟩
      unfold R_must
      rw [w1, bnd_s, goes_f (by rw [n3]; decide), bnd_s, if_pos rfl]
  · have h46 : ¬ gI R 0 46 = 0 := fun e => h8 (h.2.2.2.2.1.trans e)
    refine ⟨M, R, ?_, ?_, h, PFr.rf, RFr.rf, fun e => absurd e h8⟩
    · unfold P_DExpectWord
      rw [if_neg h8]
    · unfold R_must
      rw [word_F h46, bnd_s, goes_f h46, bnd_s, if_pos rfl]
end EXPECT
