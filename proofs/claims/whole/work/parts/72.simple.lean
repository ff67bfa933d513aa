/-! PURE: the simple calls -/
theorem int_c (p : Int32) : p < 0 ∨ ∃ k, k < 2 ^ 31 ∧ p = nI k := by
  by_cases h : p < 0
  · exact Or.inl h
  · refine Or.inr ⟨p.toInt.toNat, ?_, ?_⟩
    · have := p.toInt_lt
      omega
    · have h0 : 0 ≤ p.toInt := by
        rw [i32_lt] at h
        exact Int.not_lt.mp h
      have h1 := p.toInt_lt
      refine Int32.toInt_inj.mp ?_
      rw [nI_toInt (by omega)]
      omega
theorem neg_c {p : Int32} (h : p < 0) (k : Nat) (hk : k < 2 ^ 31) : ¬ p = nI k := fun e => nI_pos hk (e ▸ h)
theorem neg_lt {p : Int32} (h : p < 0) {k : Nat} (hk : k < 2 ^ 31) : p < nI k := by
  rw [i32_lt] at h ⊢
  rw [nI_toInt hk]
  have : (0 : Int32).toInt = 0 := by decide
  omega
section W
variable {M M' : Mm} (p lo hi : Int32)
theorem isIn_c (a b : Nat) (ha : lo = nI a) (hb : hi = nI b) (hab : a < 2 ^ 31) (hbb : b < 2 ^ 31) : ((C_isWithin p lo hi M = some 0 ∧ R_isIn p lo hi M' = some 0) ∧ ∀ k, a ≤ k → k ≤ b → ¬ p = nI k) ∨ ∃ k, a ≤ k ∧ k ≤ b ∧ p = nI k ∧ C_isWithin p lo hi M = some 1 ∧ R_isIn p lo hi M' = some 1 := by
  unfold C_isWithin R_isIn
  subst ha hb
  rcases int_c p with h | ⟨k, hk, rfl⟩
  · refine Or.inl ⟨⟨?_, ?_⟩, fun k h1 h2 => neg_c h k (by omega)⟩ <;> rw [if_pos (neg_lt h hab)]
  · by_cases h1 : k < a
    · refine Or.inl ⟨⟨?_, ?_⟩, fun j h1 h2 e => ?_⟩
      · rw [if_pos ((nI_ltI hk hab).mpr h1)]
      · rw [if_pos ((nI_ltI hk hab).mpr h1)]
      · have := (nI_eq hk (by omega)).mp e; omega
    · by_cases h2 : b < k
      · refine Or.inl ⟨⟨?_, ?_⟩, fun j h1 h2 e => ?_⟩
        · rw [if_neg (fun e => h1 ((nI_ltI hk hab).mp e)), if_pos ((nI_ltI hbb hk).mpr h2)]
        · rw [if_neg (fun e => h1 ((nI_ltI hk hab).mp e)), if_pos ((nI_ltI hbb hk).mpr h2)]
        · have := (nI_eq hk (by omega)).mp e; omega
      · refine Or.inr ⟨k, by omega, by omega, rfl, ?_, ?_⟩
        · rw [if_neg (fun e => h1 ((nI_ltI hk hab).mp e)), if_neg (fun e => h2 ((nI_ltI hbb hk).mp e))]
        · rw [if_neg (fun e => h1 ((nI_ltI hk hab).mp e)), if_neg (fun e => h2 ((nI_ltI hbb hk).mp e))]
end W
theorem shC_P {P : Nat} (h : P = 1 ∨ P = 10) : shC P = shCX2 := by
  rcases h with rfl | rfl <;> rfl
section SI
variable {n P Q : Nat} {C R : Mm}
theorem Rl.pn (h : Rl n P Q C R) : Pn P Q C := h.1
theorem Rl.p0 (h : Rl n P Q C R) : gR C 0 0 = some P := h.1.1
theorem Rl.PQ (h : Rl n P Q C R) : P = 1 ∨ P = 10 := h.1.PQ
theorem Rl.cnt (h : Rl n P Q C R) : gI C P 11 = nI n ∧ gI R 0 1 = nI n ∧ n ≤ 6 := by
  obtain ⟨h1, h2, h3, h4, h5, h6, h7, h8, h9⟩ := h
  rcases h8 with h8 | h8
  · obtain ⟨h0, -, e, -, ⟨-, e2⟩, -⟩ := h8
    subst h0
    exact ⟨e2, e, by omega⟩
  · obtain ⟨-, ⟨s, t, c, ht, hs⟩, -⟩ := h8
    obtain ⟨⟨hK, hL, -⟩, -⟩ := hs
    have e := hL.1.many
    rw [sb_I, em_hi (by omega), show P + (20 - 20) = P by omega] at e
    exact ⟨e.trans hK.n1, hK.n1, hK.n6⟩
theorem Rl.hd (h : Rl n P Q C R) : (No n P C R ∧ C_hasDisk C = some 0 ∧ gI R 0 0 = 0) ∨ (Di n P C R ∧ C_hasDisk C = some 1 ∧ gI R 0 0 = 1) := by
  have hp := h.p0
  have hq := shC_P h.PQ
  have e : C_hasDisk C = if gI C P 0 ≤ 0 then some 0 else some 1 := by
    unfold C_hasDisk
    rw [lett_e, hp, nn_s, grd_t hq]
  obtain ⟨h1, h2, h3, h4, h5, h6, h7, h8, h9⟩ := h
  rcases h8 with h8 | h8
  · refine Or.inl ⟨h8, ?_, h8.2.1⟩
    rw [e, h8.2.2.2.2.1.1]
    rfl
  · refine Or.inr ⟨h8, ?_, h8.1⟩
    obtain ⟨-, ⟨s, t, c, ht, hs⟩, -⟩ := h8
    obtain ⟨⟨hK, hL, -⟩, -⟩ := hs
    have e2 := hL.1.1
    rw [sb_I, em_hi (by omega), show P + (20 - 20) = P by omega] at e2
    rw [e, e2, hK.s1, if_neg]
    have := hK.s64
    have := hK.s9
    exact nI_ge (a := 0) (by omega) (by omega)
theorem Rl.pr (h : Rl n P Q C R) (p : Int32) {R' : Mm} (hR : gI R' 0 1 = gI R 0 1) : ((C_isProcess p C = some 0 ∧ R_isProcess p R' = some 0) ∧ ∀ k, k < n → ¬ p = nI k) ∨ ∃ k, k < n ∧ p = nI k ∧ C_isProcess p C = some 1 ∧ R_isProcess p R' = some 1 := by
  obtain ⟨c1, c2, c3⟩ := h.cnt
  have hp := h.p0
  have hq := shC_P h.PQ
  unfold C_isProcess R_isProcess R_isIn
  rw [hR, c2, lett_e, hp, nn_s, grd_t hq, c1]
  rcases int_c p with e | ⟨k, hk, rfl⟩
  · refine Or.inl ⟨⟨?_, ?_⟩, fun j hj => neg_c e j (by omega)⟩
    · rw [if_pos e]
    · rw [if_pos e, bnd_s, grd_t (Or.inl rfl)]
  · by_cases h1 : k < n
    · refine Or.inr ⟨k, h1, rfl, ?_, ?_⟩
      · rw [if_neg (nI_pos hk), if_neg (nI_ge h1 (by omega))]
      · rw [if_neg (nI_pos hk), nS_1 (by omega), if_neg (fun e => by have := (nI_ltI (by omega) hk).mp e; omega), bnd_s, grd_t (Or.inr rfl)]
    · refine Or.inl ⟨⟨?_, ?_⟩, fun j hj e => ?_⟩
      · rw [if_neg (nI_pos hk), if_pos (nI_le (by omega) hk)]
      · rw [if_neg (nI_pos hk)]
        by_cases h0 : n = 0
        · subst h0
          rw [if_pos]
          · rfl
          · have e1 : nI 0 - 1 = (-1 : Int32) := by decide
            rw [e1, i32_lt, nI_toInt hk]
            have : (-1 : Int32).toInt = -1 := by decide
            omega
        · rw [nS_1 (by omega), if_pos ((nI_ltI (by omega) hk).mpr (by omega))]
          rfl
      · have := (nI_eq hk (by omega)).mp e; omega
theorem C_refuse_e {p : Int32} (k : Nat) (hp : p = nI k) (hk : k < 6) : C_refuse p C = some (-1, sI C 72 k (gI C 72 k + 1)) := by
  subst hp
  unfold C_refuse
  rw [ald_n hk (by omega), ald_n hk (by omega), ix_nI (by omega), lett_e]
theorem R_refuses_e {p : Int32} (k : Nat) (hp : p = nI k) (hk : k < 6) : R_refuses p R = some (-1, sI R 14 k (gI R 14 k + 1)) := by
  subst hp
  unfold R_refuses
  rw [ald_n hk (by omega), ald_n hk (by omega), ix_nI (by omega), lett_e]
theorem R_isRefused_e {p : Int32} (k : Nat) (hp : p = nI k) (hk : k < 6) : R_isRefused p R = some (0, sI R 14 k (gI R 14 k + 1)) := by
  subst hp
  unfold R_isRefused
  rw [ald_n hk (by omega), ald_n hk (by omega), ix_nI (by omega), lett_e]
theorem C_ref_0 (C : Mm) : C_refuse 0 C = some (-1, sI C 72 0 (gI C 72 0 + 1)) := C_refuse_e 0 rfl (by omega)
theorem R_ref_0 (R : Mm) : R_refuses 0 R = some (-1, sI R 14 0 (gI R 14 0 + 1)) := R_refuses_e 0 rfl (by omega)
theorem R_isr_0 (R : Mm) : R_isRefused 0 R = some (0, sI R 14 0 (gI R 14 0 + 1)) := R_isRefused_e 0 rfl (by omega)
theorem C_ref_1 (C : Mm) : C_refuse 1 C = some (-1, sI C 72 1 (gI C 72 1 + 1)) := C_refuse_e 1 rfl (by omega)
theorem R_ref_1 (R : Mm) : R_refuses 1 R = some (-1, sI R 14 1 (gI R 14 1 + 1)) := R_refuses_e 1 rfl (by omega)
theorem R_isr_1 (R : Mm) : R_isRefused 1 R = some (0, sI R 14 1 (gI R 14 1 + 1)) := R_isRefused_e 1 rfl (by omega)
theorem C_ref_2 (C : Mm) : C_refuse 2 C = some (-1, sI C 72 2 (gI C 72 2 + 1)) := C_refuse_e 2 rfl (by omega)
theorem R_ref_2 (R : Mm) : R_refuses 2 R = some (-1, sI R 14 2 (gI R 14 2 + 1)) := R_refuses_e 2 rfl (by omega)
theorem R_isr_2 (R : Mm) : R_isRefused 2 R = some (0, sI R 14 2 (gI R 14 2 + 1)) := R_isRefused_e 2 rfl (by omega)
theorem C_ref_3 (C : Mm) : C_refuse 3 C = some (-1, sI C 72 3 (gI C 72 3 + 1)) := C_refuse_e 3 rfl (by omega)
theorem R_ref_3 (R : Mm) : R_refuses 3 R = some (-1, sI R 14 3 (gI R 14 3 + 1)) := R_refuses_e 3 rfl (by omega)
theorem R_isr_3 (R : Mm) : R_isRefused 3 R = some (0, sI R 14 3 (gI R 14 3 + 1)) := R_isRefused_e 3 rfl (by omega)
theorem C_ref_4 (C : Mm) : C_refuse 4 C = some (-1, sI C 72 4 (gI C 72 4 + 1)) := C_refuse_e 4 rfl (by omega)
theorem R_ref_4 (R : Mm) : R_refuses 4 R = some (-1, sI R 14 4 (gI R 14 4 + 1)) := R_refuses_e 4 rfl (by omega)
theorem R_isr_4 (R : Mm) : R_isRefused 4 R = some (0, sI R 14 4 (gI R 14 4 + 1)) := R_isRefused_e 4 rfl (by omega)
theorem C_ref_5 (C : Mm) : C_refuse 5 C = some (-1, sI C 72 5 (gI C 72 5 + 1)) := C_refuse_e 5 rfl (by omega)
theorem R_ref_5 (R : Mm) : R_refuses 5 R = some (-1, sI R 14 5 (gI R 14 5 + 1)) := R_refuses_e 5 rfl (by omega)
theorem R_isr_5 (R : Mm) : R_isRefused 5 R = some (0, sI R 14 5 (gI R 14 5 + 1)) := R_isRefused_e 5 rfl (by omega)
def Rx (C R : Mm) : Prop := ∃ n P Q, Rl n P Q C R
/-- another tape -/
theorem Rl.tape {C' R' : Mm} (h : Rl n P Q C R) (ht : Tp C' R') (c1 : ∀ a k, ¬ (a = 19 ∧ k = 1) → a ≠ 20 → gI C' a k = gI C a k) (c2 : C'.2 = C.2) (r1 : ∀ a k, ¬ (a = 0 ∧ k = 39) → a ≠ 13 → gI R' a k = gI R a k) (r2 : R'.2 = R.2) : Rl n P Q C' R' := by
  obtain ⟨h1, h2, h3, h4, h5, h6, h7, h8, h9⟩ := h
  have hp := h1.le
  have cf : ∀ a k, gF C' a k = gF C a k := fun a k => by unfold gF; rw [c2]
  have cl : ∀ a k, gL C' a k = gL C a k := fun a k => by unfold gL; rw [c2]
  have cr : ∀ a k, gR C' a k = gR C a k := fun a k => by unfold gR; rw [c2]
  have rf : ∀ a k, gF R' a k = gF R a k := fun a k => by unfold gF; rw [r2]
  refine ⟨h1.fr (fun a k h => cr a k), ht, h3.fr (fun a k h => c1 a k (by omega) (by omega)) (fun a k h => r1 a k (by omega) (by omega)), h4.fr (fun a k h => c1 a k (by omega) (by omega)) (fun a k h => r1 a k (by omega) (by omega)), h5.fr (cl _ _) (r1 _ _ (by omega) (by omega)), h6.fr (fun a k h => c1 a k (by omega) (by omega)) (fun a k h => r1 a k (by omega) (by omega)), h7.fr (fun a k h => c1 a k (by omega) (by omega)) (fun a k h => r1 a k (by omega) (by omega)), ?_, h9.fr (fun a k h => c1 a k (by omega) (by omega)) (fun a k h => cf a k) (fun a h => cr a 0) (fun a k h => r1 a k (by omega) (by omega)) (fun k => rf _ _)⟩
  rcases h8 with h8 | h8
  · exact Or.inl (h8.fr (fun a k h => c1 a k (by omega) (by omega)) (fun a k h => r1 a k (by omega) (by omega)))
  · exact Or.inr (h8.fr (fun a k h => c1 a k (by omega) (by omega)) (fun a k h => cf a k) (cr _ _) (fun a k h => r1 a k (by omega) (by omega)) (fun k h => rf _ _))
/-- the tape taken -/
theorem Rl.taken (h : Rl n P Q C R) : Rl n P Q (sI C 19 1 0) (sI R 0 39 0) := by
  refine h.tape ⟨0, by omega, gw_s _ _ _ _, gw_s _ _ _ _, fun i hi => by omega⟩ (fun a k h1 h2 => gw_n _ _ _ _ (by omega)) rfl (fun a k h1 h2 => gw_n _ _ _ _ (by omega)) rfl
theorem i10 : ¬ (1 : Int32) = 0 := by decide
theorem end_sim (h : Rl n P Q C R) (p : Int32) : ∃ a C' R', C_end p C = some (a, C') ∧ R_end p R = some (a, R') ∧ Rl n P Q C' R' := by
  obtain ⟨l, t1, t2, t3, t4⟩ := h.2.1
  have no : C_refuse 0 C = some (-1, sI C 72 0 (gI C 72 0 + 1)) := C_refuse_e 0 rfl (by omega)
  have no2 : R_isRefused 0 R = some (0, sI R 14 0 (gI R 14 0 + 1)) := R_isRefused_e 0 rfl (by omega)
  rcases int_c p with e | ⟨k, hk, rfl⟩
  · refine ⟨0, _, _, ?_, ?_, h.ref 0⟩
    · unfold C_end; rw [lett_e, if_pos e, no]; rfl
    · unfold R_end; rw [lett_e, if_pos e, no2]; rfl
  · by_cases h1 : k ≤ l
    · refine ⟨1, sI C 19 1 (nI k), sI R 0 39 (nI k), ?_, ?_, h.tape ⟨k, by omega, gw_s _ _ _ _, gw_s _ _ _ _, fun i hi => ?_⟩ (fun a k h1 h2 => gw_n _ _ _ _ (by omega)) rfl (fun a k h1 h2 => gw_n _ _ _ _ (by omega)) rfl⟩
      · unfold C_end; rw [lett_e, if_neg (nI_pos hk), t2, if_pos (nI_le h1 (by omega))]; rfl
      · unfold R_end; rw [lett_e, if_neg (nI_pos hk), t3, if_pos (nI_le h1 (by omega))]; rfl
      · rw [gw_n _ _ _ _ (by omega), gw_n _ _ _ _ (by omega)]
        exact t4 i (by omega)
    · refine ⟨0, _, _, ?_, ?_, h.ref 0⟩
      · unfold C_end; rw [lett_e, if_neg (nI_pos hk), t2, if_neg (nI_ge (by omega) hk), no]; rfl
      · unfold R_end; rw [lett_e, if_neg (nI_pos hk), t3, if_neg (nI_ge (by omega) hk), no2]; rfl
theorem fault_sim (h : Rl n P Q C R) (p : Int32) : ∃ a, C_fault p C = some a ∧ R_fault p R = some a := by
  obtain ⟨e1, e2, -⟩ := h.2.2.1
  unfold C_fault R_fault
  rw [e1, e2]
  split
  · exact ⟨_, rfl, rfl⟩
  · split
    · exact ⟨_, rfl, rfl⟩
    · exact ⟨_, rfl, rfl⟩
theorem status_sim (h : Rl n P Q C R) (p : Int32) : ∃ a, C_status p C = some a ∧ R_status p R = some a := by
  have e := h.2.2.2.1
  unfold C_status R_status
  rcases isIn_c (M := C) (M' := R) p 0 5 0 5 rfl rfl (by omega) (by omega) with ⟨⟨h1, h2⟩, -⟩ | ⟨k, k1, k2, rfl, h1, h2⟩
  · rw [h1, h2]
    exact ⟨_, rfl, rfl⟩
  · rw [h1, h2, bnd_s, bnd_s, if_neg (by decide), if_neg (by decide), ald_n (by omega) (by omega), ald_n (by omega) (by omega), ix_nI (by omega), e k (by omega)]
    exact ⟨_, rfl, rfl⟩
theorem octet_sim (h : Rl n P Q C R) (p : Int32) : ∃ a, C_octet p C = some a ∧ R_octet p R = some a := by
  obtain ⟨l, e1, e2, e3, e4⟩ := h.2.2.2.2.2.1
  unfold C_octet R_octet
  rw [lett_e, e2, e3]
  unfold R_isIn
  rcases int_c p with e | ⟨k, hk, rfl⟩
  · rw [if_pos e, if_pos e]
    exact ⟨_, rfl, rfl⟩
  · rw [if_neg (nI_pos hk), if_neg (nI_pos hk)]
    by_cases h1 : k < l
    · rw [if_pos ((nI_ltI hk (by omega)).mpr h1), nS_1 (by omega), if_neg (fun e => by have := (nI_ltI (by omega) hk).mp e; omega), bnd_s, if_neg (by decide), ald_n (by omega) (by omega), ald_n (by omega) (by omega), ix_nI hk, e4 k h1]
      exact ⟨_, rfl, rfl⟩
    · rw [if_neg (fun e => h1 ((nI_ltI hk (by omega)).mp e)), if_pos]
      · exact ⟨_, rfl, rfl⟩
      · by_cases h0 : l = 0
        · subst h0
          have e1 : nI 0 - 1 = (-1 : Int32) := by decide
          rw [e1, i32_lt, nI_toInt hk]
          have : (-1 : Int32).toInt = -1 := by decide
          omega
        · rw [nS_1 (by omega)]
          exact (nI_ltI (by omega) hk).mpr (by omega)
/-- another seed -/
theorem Rl.sdd (h : Rl n P Q C R) {a : Nat} (ha : a < 2 ^ 31) : Rl n P Q (sL C 0 15 (Int64.ofNat a)) (sI R 0 66 (nI a)) := by
  obtain ⟨h1, h2, h3, h4, h5, h6, h7, h8, h9⟩ := h
  have r1 : ∀ x k, ¬ (x = 0 ∧ k = 66) → gI (sI R 0 66 (nI a)) x k = gI R x k := fun x k h => gw_n _ _ _ _ (by omega)
  refine ⟨h1.fr (fun a k h => rfl), h2.fr (fun a k h => rfl) (fun a k h => r1 a k (by omega)), h3.fr (fun a k h => rfl) (fun a k h => r1 a k (by omega)), h4.fr (fun a k h => rfl) (fun a k h => r1 a k (by omega)), ⟨a, ha, ?_, gw_s _ _ _ _⟩, h6.fr (fun a k h => rfl) (fun a k h => r1 a k (by omega)), h7.fr (fun a k h => rfl) (fun a k h => r1 a k (by omega)), ?_, h9.fr (fun a k h => rfl) (fun a k h => rfl) (fun a h => rfl) (fun a k h => r1 a k (by omega)) (fun k => rfl)⟩
  · rw [gL_sL, if_pos ⟨rfl, rfl⟩]
  · rcases h8 with h8 | h8
    · exact Or.inl (h8.fr (fun a k h => rfl) (fun a k h => r1 a k (by omega)))
    · exact Or.inr (h8.fr (fun a k h => rfl) (fun a k h => rfl) rfl (fun a k h => r1 a k (by omega)) (fun k h => rfl))
theorem seed_sim (h : Rl n P Q C R) (p : Int32) : ∃ a C' R', C_seed p C = some (a, C') ∧ R_seed p R = some (a, R') ∧ Rl n P Q C' R' := by
  have no : C_refuse 5 C = some (-1, sI C 72 5 (gI C 72 5 + 1)) := C_refuse_e 5 rfl (by omega)
  have no2 : R_isRefused 5 R = some (0, sI R 14 5 (gI R 14 5 + 1)) := R_isRefused_e 5 rfl (by omega)
  unfold C_seed R_seed
  rcases int_c p with e | ⟨k, hk, rfl⟩
  · have : ¬ 0 ≤ p := by
      rw [i32_lt] at e
      rw [i32_le]
      omega
    rw [if_neg this, if_neg this, no, no2]
    exact ⟨_, _, _, rfl, rfl, h.ref 5⟩
  · rw [if_pos (nI_pos' hk), if_pos (nI_pos' hk), lett_e, lett_e, nI_l hk]
    exact ⟨_, _, _, rfl, rfl, h.sdd hk⟩
theorem letter_sim (h : Rl n P Q C R) (p k : Int32) : ∃ a, C_letter p k C = some a ∧ R_letter p k R = some a := by
  rcases h.pr p (R' := R) rfl with ⟨⟨h1, h2⟩, -⟩ | ⟨q, hq, rfl, h1, h2⟩
  · refine ⟨-1, ?_, ?_⟩
    · unfold C_letter; rw [h1]; rfl
    · unfold R_letter; rw [h2]; rfl
  · have hn := h.cnt.2.2
    rcases isIn_c (M := C) (M' := R) k 0 5 0 5 rfl rfl (by omega) (by omega) with ⟨⟨h3, h4⟩, h5⟩ | ⟨k, k1, k2, rfl, h3, h4⟩
    · refine ⟨-1, ?_, ?_⟩
      · unfold C_letter
        rw [h1, bnd_s, if_neg i10]
        rcases int_c k with e | ⟨k, hk, rfl⟩
        · rw [if_pos e]
        · have : ¬ k ≤ 5 := fun e => h5 k (by omega) e rfl
          rw [if_neg (nI_pos hk), if_neg (fun e => by have := (nI_ltI (b := 6) hk (by omega)).mp e; omega)]
      · unfold R_letter
        rw [h2, bnd_s, if_neg i10, h4]
        rfl
    · refine ⟨gI R 6 (6 * q + k), ?_, ?_⟩
      · unfold C_letter
        rw [h1, bnd_s, if_neg i10, if_neg (nI_pos (by omega)), if_pos (show nI k < (6 : Int32) from (nI_ltI (b := 6) (by omega) (by omega)).mpr (by omega)), lett_e, h.p0, nn_s, grd_t (shC_P h.PQ), nN_6, nI_add, ald_n (by omega) (by omega), ix_nI (by omega)]
        rcases h.2.2.2.2.2.2.2.1 with h8 | h8
        · have := h8.1; omega
        · rw [show q * 6 + k = 6 * q + k by omega, h8.2.2.1 q k hq (by omega)]
      · unfold R_letter
        rw [h2, bnd_s, if_neg i10, h4, bnd_s, if_neg i10, nM_6, nI_add, ald_n (by omega) (by omega), ix_nI (by omega)]
end SI
