/-! PURE: the state at first -/
def lob (n a k j : Nat) : Bool := decide ((a = 0 ∧ ((k = 6 ∧ j = 5) ∨ (k = 7 ∧ j = 1) ∨ (k = 10 ∧ j = 0) ∨ (k = 11 ∧ j = 2) ∨ (k = 12 ∧ j = 3) ∨ (k = 14 ∧ j = 4) ∨ (k = 15 ∧ j = 8) ∨ (k = 16 ∧ j = 6) ∨ (k = 17 ∧ j = 7))) ∨ (a = 3 ∧ k = 1 ∧ j = 10) ∨ (8 ≤ a ∧ a < 8 + 2 * n ∧ a % 2 = 0 ∧ ((k = 0 ∧ j = 18 + 14 * ((a - 8) / 2) + 0) ∨ (k = 1 ∧ j = 18 + 14 * ((a - 8) / 2) + 8) ∨ (2 ≤ k ∧ k ≤ 8 ∧ j = 18 + 14 * ((a - 8) / 2) + (k - 1)))) ∨ (8 ≤ a ∧ a < 8 + 2 * n ∧ a % 2 = 1 ∧ ((k = 3 ∧ j = 102 + 8 * ((a - 8) / 2) + 0) ∨ (4 ≤ k ∧ k ≤ 7 ∧ j = 102 + 8 * ((a - 8) / 2) + (k - 2)))))
def lofb (n a k j : Nat) : Bool := decide ((a = 0 ∧ ((k = 8 ∧ j = 18) ∨ (k = 9 ∧ j = 19))) ∨ (8 ≤ a ∧ a < 8 + 2 * n ∧ a % 2 = 1 ∧ k < 3 ∧ j < 18))
theorem lob_ok : ((List.range 7).all fun n => (List.range 20).all fun a => (List.range 20).all fun k => match locI n a k with | some j => lob n a k j | none => true) = true := by decide +kernel
theorem lofb_ok : ((List.range 7).all fun n => (List.range 20).all fun a => (List.range 20).all fun k => match locF n a k with | some j => lofb n a k j | none => true) = true := by decide +kernel
theorem locI_inv {n a k j : Nat} (hn : n ≤ 6) (h : locI n a k = some j) : (a = 0 ∧ ((k = 6 ∧ j = 5) ∨ (k = 7 ∧ j = 1) ∨ (k = 10 ∧ j = 0) ∨ (k = 11 ∧ j = 2) ∨ (k = 12 ∧ j = 3) ∨ (k = 14 ∧ j = 4) ∨ (k = 15 ∧ j = 8) ∨ (k = 16 ∧ j = 6) ∨ (k = 17 ∧ j = 7))) ∨ (a = 3 ∧ k = 1 ∧ j = 10) ∨ (∃ p, p < n ∧ a = 8 + 2 * p ∧ ((k = 0 ∧ j = 18 + 14 * p + 0) ∨ (k = 1 ∧ j = 18 + 14 * p + 8) ∨ (2 ≤ k ∧ k ≤ 8 ∧ j = 18 + 14 * p + (k - 1)))) ∨ (∃ p, p < n ∧ a = 9 + 2 * p ∧ ((k = 3 ∧ j = 102 + 8 * p + 0) ∨ (4 ≤ k ∧ k ≤ 7 ∧ j = 102 + 8 * p + (k - 2)))) := by
  have hl := locI_lt h
  have h1 := List.all_eq_true.mp (List.all_eq_true.mp (List.all_eq_true.mp lob_ok n (List.mem_range.mpr (by omega))) a (List.mem_range.mpr hl.1)) k (List.mem_range.mpr hl.2)
  rw [h] at h1
  have h2 : lob n a k j = true := h1
  rcases of_decide_eq_true h2 with h | h | ⟨h3, h4, h5, h⟩ | ⟨h3, h4, h5, h⟩
  · exact Or.inl h
  · exact Or.inr (Or.inl h)
  · exact Or.inr (Or.inr (Or.inl ⟨(a - 8) / 2, by omega, by omega, h⟩))
  · exact Or.inr (Or.inr (Or.inr ⟨(a - 8) / 2, by omega, by omega, h⟩))
theorem locF_inv {n a k j : Nat} (hn : n ≤ 6) (h : locF n a k = some j) : (a = 0 ∧ ((k = 8 ∧ j = 18) ∨ (k = 9 ∧ j = 19))) ∨ (∃ p, p < n ∧ a = 9 + 2 * p ∧ k < 3 ∧ j < 18) := by
  have hl := locF_lt h
  have h1 := List.all_eq_true.mp (List.all_eq_true.mp (List.all_eq_true.mp lofb_ok n (List.mem_range.mpr (by omega))) a (List.mem_range.mpr hl.1)) k (List.mem_range.mpr hl.2)
  rw [h] at h1
  have h2 : lofb n a k j = true := h1
  rcases of_decide_eq_true h2 with h | ⟨h3, h4, h5, h⟩
  · exact Or.inl h
  · exact Or.inr ⟨(a - 8) / 2, by omega, by omega, h⟩
section INI
variable {m C : Mm} {n s P : Nat} {D : Nat → Int32}
/-- the flat state at first -/
def Ini (m : Mm) (n : Nat) (D : Nat → Int32) : Prop := D 2 = -1 ∧ isN 21 (D 6) ∧ isR 1 201 (D 7) ∧ D 8 = gI m 0 6 ∧ (∀ p, p < n → isR 1 101 (D (18 + 14 * p + 0)) ∧ D (18 + 14 * p + 6) = nI p ∧ isN 2 (D (18 + 14 * p + 8)) ∧ D (102 + 8 * p + 0) = (gI m 0 5 + gI m 0 6) / 2) ∧ ∀ j, j ≠ 2 → j ≠ 6 → j ≠ 7 → j ≠ 8 → (∀ p, p < n → j ≠ 18 + 14 * p + 0 ∧ j ≠ 18 + 14 * p + 1 ∧ j ≠ 18 + 14 * p + 6 ∧ j ≠ 18 + 14 * p + 8 ∧ j ≠ 102 + 8 * p + 0) → D j = 0
theorem bud_ok (hK : PK m n s) : isR 1 1000 ((gI m 0 5 + gI m 0 6) / 2) := by
  obtain ⟨lo, hi, e1, e2, h1, h2, h3⟩ := hK.lohi
  refine ⟨(lo + hi) / 2, by omega, by omega, ?_⟩
  rw [e1, e2, nI_add]
  exact pk_div (d := 2) (by omega) (by omega) (by omega)
theorem outS_zz {D : Nat → Int32} (h : ∀ p, p < n → D (18 + 14 * p + 5) = 0) : outS D n = 0 := by
  have : ∀ i, i ≤ n → outS D i = 0 := by
    intro i
    induction i with
    | zero => intro _; rfl
    | succ i ih =>
      intro hi
      show outS D i + (D (18 + 14 * i + 5)).toInt = 0
      rw [ih (by omega), h i (by omega)]
      rfl
  exact this n (Nat.le_refl _)
theorem ini_Inv (hK : PK m n s) (h : Ini m n D) : Inv m n s 0 0 0 D (updD (fun _ => FP.fconst0) 19 (FP.i2f (gI m 0 4))) := by
  obtain ⟨d2, d6, d7, d8, dP, dz⟩ := h
  have hn := hK.n6
  obtain ⟨lo, hi, e1, e2, h1, h2, h3⟩ := hK.lohi
  have zp : ∀ p k, p < n → k < 14 → k ≠ 0 → k ≠ 1 → k ≠ 6 → k ≠ 8 → D (18 + 14 * p + k) = 0 := fun p k hp hk a1 a2 a3 a4 => dz _ (by omega) (by omega) (by omega) (by omega) (fun q hq => ⟨by omega, by omega, by omega, by omega, by omega⟩)
  have zq : ∀ p k, p < n → k < 8 → k ≠ 0 → D (102 + 8 * p + k) = 0 := fun p k hp hk a1 => dz _ (by omega) (by omega) (by omega) (by omega) (fun q hq => ⟨by omega, by omega, by omega, by omega, by omega⟩)
  have zl : ∀ j, j < 18 → j ≠ 2 → j ≠ 6 → j ≠ 7 → j ≠ 8 → D j = 0 := fun j hj a1 a2 a3 a4 => dz _ a1 a2 a3 a4 (fun q hq => ⟨by omega, by omega, by omega, by omega, by omega⟩)
  have z5 := zl 5 (by omega) (by omega) (by omega) (by omega) (by omega)
  have n0 : ∀ b, 0 < b → isN b (0 : Int32) := fun b hb => ⟨0, hb, rfl⟩
  refine ⟨⟨zl 0 (by omega) (by omega) (by omega) (by omega) (by omega), ?_, Or.inl d2, d6, d7, ?_, zl 10 (by omega) (by omega) (by omega) (by omega) (by omega), by omega, by omega⟩, fun p hp => ?_, fun q hq => ?_, fun r hr => absurd hr (by omega), fun h5 => ?_, fun a ha h2 => ?_, ⟨?_, fun p hp => ?_⟩, ?_⟩
  · rw [zl 1 (by omega) (by omega) (by omega) (by omega) (by omega)]; exact n0 _ (by omega)
  · rw [d8]; exact ⟨hi, by omega, h3, e2⟩
  · obtain ⟨p1, p2, p3, p4⟩ := dP p hp
    obtain ⟨-, k, k1, k2, k3, -⟩ := hK.proc p hp
    rw [zp p 2 hp (by omega) (by omega) (by omega) (by omega) (by omega), zp p 3 hp (by omega) (by omega) (by omega) (by omega) (by omega), zp p 4 hp (by omega) (by omega) (by omega) (by omega) (by omega), p2]
    exact ⟨p1, n0 _ (by omega), n0 _ (by omega), ⟨k, 0, k3, rfl, by omega, k2⟩, ⟨p, hp, rfl⟩, p3⟩
  · obtain ⟨p1, p2, p3, p4⟩ := dP q hq
    rw [zq q 2 hq (by omega) (by omega), zq q 3 hq (by omega) (by omega), zq q 4 hq (by omega) (by omega), p4]
    exact ⟨bud_ok hK, n0 _ (by omega), n0 _ (by omega), n0 _ (by omega)⟩
  · rw [z5] at h5; exact absurd h5 (by decide)
  · rw [d2] at h2; exact absurd h2.symm (nI_m1 (by omega))
  · rw [outS_zz (fun p hp => zp p 5 hp (by omega) (by omega) (by omega) (by omega) (by omega)), z5]
    rfl
  · rw [zp p 5 hp (by omega) (by omega) (by omega) (by omega) (by omega), zp p 2 hp (by omega) (by omega) (by omega) (by omega) (by omega)]
    decide
  · have f0 : ∀ j, j ≠ 19 → (updD (fun _ => FP.fconst0) 19 (FP.i2f (gI m 0 4)) j).toNat = 0 := fun j hj => by rw [updD_n _ _ hj]; exact c0_n
    obtain ⟨r, r1, r2, r3⟩ := hK.rate
    refine ⟨fun j hj => ?_, fun j hj => ?_, ?_, ?_⟩
    · rw [f0 j (by omega)]; omega
    · rw [f0 _ (by omega)]; omega
    · rw [f0 _ (by omega)]; omega
    · rw [updD_s, r3]
      exact i2f_le (by omega) (Nat.le_trans (Nat.mul_le_mul_right _ (show r ≤ 64 by omega)) (by decide +kernel))
theorem ini_StR (hK : PK m n s) (hL : PL m n (sbM (emS 26 P) C)) (h : Ini m n D) (hr : gR C 26 0 = some P) (c29 : gI C 29 1 = 0) (c32 : gI C 32 1 = 0) (c11 : gI C 26 11 = -1) (c15 : gI C 26 15 = gI m 0 6) (c16 : gI C 26 16 = D 6) (c17 : gI C 26 17 = D 7) (cz : ∀ k, k = 6 ∨ k = 7 ∨ k = 10 ∨ k = 12 ∨ k = 13 ∨ k = 14 ∨ k = 18 ∨ k = 19 → gI C 26 k = 0) (cP : ∀ p, p < n → gI C (34 + 2 * p) 0 = D (18 + 14 * p + 0) ∧ gI C (34 + 2 * p) 1 = D (18 + 14 * p + 8) ∧ gI C (34 + 2 * p) 2 = D (18 + 14 * p + 1) ∧ gI C (34 + 2 * p) 7 = nI p ∧ ∀ k, (3 ≤ k ∧ k ≤ 6) ∨ (8 ≤ k ∧ k ≤ 13) → gI C (34 + 2 * p) k = 0) (cQ : ∀ p, p < n → gI C (35 + 2 * p) 3 = (gI m 0 5 + gI m 0 6) / 2 ∧ (∀ k, 4 ≤ k ∧ k ≤ 8 → gI C (35 + 2 * p) k = 0) ∧ ∀ k, k < 3 → gF C (35 + 2 * p) k = FP.fconst0) (cf8 : gF C 26 8 = FP.fconst0) (cf9 : gF C 26 9 = FP.i2f (gI m 0 4)) : StR m n s 0 0 D (updD (fun _ => FP.fconst0) 19 (FP.i2f (gI m 0 4))) C 26 P := by
  have hI := ini_Inv hK h
  obtain ⟨d2, d6, d7, d8, dP, dz⟩ := h
  have hn := hK.n6
  have zp : ∀ p k, p < n → k < 14 → k ≠ 0 → k ≠ 1 → k ≠ 6 → k ≠ 8 → D (18 + 14 * p + k) = 0 := fun p k hp hk a1 a2 a3 a4 => dz _ (by omega) (by omega) (by omega) (by omega) (fun q hq => ⟨by omega, by omega, by omega, by omega, by omega⟩)
  have zq : ∀ p k, p < n → k < 8 → k ≠ 0 → D (102 + 8 * p + k) = 0 := fun p k hp hk a1 => dz _ (by omega) (by omega) (by omega) (by omega) (fun q hq => ⟨by omega, by omega, by omega, by omega, by omega⟩)
  have zl : ∀ j, j < 18 → j ≠ 2 → j ≠ 6 → j ≠ 7 → j ≠ 8 → D j = 0 := fun j hj a1 a2 a3 a4 => dz _ a1 a2 a3 a4 (fun q hq => ⟨by omega, by omega, by omega, by omega, by omega⟩)
  have eI : ∀ r k, r < 20 → gI (sbM (emS 26 P) C) r k = gI C (26 + r) k := fun r k h => by rw [sb_I, em_lo h]
  refine ⟨⟨hK, hL, hI, ⟨fun r hr => absurd hr (by omega), fun q hq => ?_, fun h5 => ?_, fun a ha h2 => ?_⟩, ⟨?_, fun p hp => ?_⟩, ⟨0, ?_, by omega, ?_, fun i w hi => absurd hi (by omega)⟩⟩, fun a k j hl => ?_, fun a k j hl => ?_, hr⟩
  · rw [eI _ _ (by omega), show 26 + (9 + 2 * q) = 35 + 2 * q by omega, (cQ q hq).2.1 8 (by omega)]
    rfl
  · rw [zl 5 (by omega) (by omega) (by omega) (by omega) (by omega)] at h5; exact absurd h5 (by decide)
  · rw [d2] at h2; exact absurd h2.symm (nI_m1 (by omega))
  · rw [eI _ _ (by omega)]; exact cz 19 (by omega)
  · have q : ∀ k, 9 ≤ k → k ≤ 12 → gI (sbM (emS 26 P) C) (8 + 2 * p) k = 0 := fun k h1 h2 => by
      rw [eI _ _ (by omega), show 26 + (8 + 2 * p) = 34 + 2 * p by omega]
      exact (cP p hp).2.2.2.2 k (by omega)
    have z : ∀ k, 9 ≤ k → k ≤ 12 → D (18 + 14 * p + k) = 0 := fun k h1 h2 => zp p k hp (by omega) (by omega) (by omega) (by omega) (by omega)
    rw [q 9 (by omega) (by omega), q 10 (by omega) (by omega), q 11 (by omega) (by omega), q 12 (by omega) (by omega), z 9 (by omega) (by omega), z 10 (by omega) (by omega), z 11 (by omega) (by omega), z 12 (by omega) (by omega)]
    exact ⟨⟨rfl, rfl, rfl, rfl⟩, 0, 0, rfl, rfl, by omega, by omega, by omega⟩
  · rw [eI _ _ (by omega)]; exact c32
  · exact zl 9 (by omega) (by omega) (by omega) (by omega) (by omega)
  · rcases locI_inv hn hl with ⟨rfl, hk⟩ | ⟨rfl, rfl, rfl⟩ | ⟨p, hp, rfl, hk⟩ | ⟨p, hp, rfl, hk⟩
    · rcases hk with ⟨rfl, rfl⟩ | ⟨rfl, rfl⟩ | ⟨rfl, rfl⟩ | ⟨rfl, rfl⟩ | ⟨rfl, rfl⟩ | ⟨rfl, rfl⟩ | ⟨rfl, rfl⟩ | ⟨rfl, rfl⟩ | ⟨rfl, rfl⟩
      · rw [zl 5 (by omega) (by omega) (by omega) (by omega) (by omega)]; exact cz 6 (by omega)
      · rw [zl 1 (by omega) (by omega) (by omega) (by omega) (by omega)]; exact cz 7 (by omega)
      · rw [zl 0 (by omega) (by omega) (by omega) (by omega) (by omega)]; exact cz 10 (by omega)
      · rw [d2]; exact c11
      · rw [zl 3 (by omega) (by omega) (by omega) (by omega) (by omega)]; exact cz 12 (by omega)
      · rw [zl 4 (by omega) (by omega) (by omega) (by omega) (by omega)]; exact cz 14 (by omega)
      · rw [d8]; exact c15
      · exact c16
      · exact c17
    · rw [zl 10 (by omega) (by omega) (by omega) (by omega) (by omega)]; exact c29
    · obtain ⟨e0, e1, e2, e7, ez⟩ := cP p hp
      rw [show 26 + (8 + 2 * p) = 34 + 2 * p by omega]
      rcases hk with ⟨rfl, rfl⟩ | ⟨rfl, rfl⟩ | ⟨h1, h2, rfl⟩
      · exact e0
      · exact e1
      · by_cases k2 : k = 2
        · subst k2; exact e2
        · by_cases k7 : k = 7
          · subst k7
            rw [e7]
            exact (dP p hp).2.1.symm
          · rw [ez k (by omega), zp p (k - 1) hp (by omega) (by omega) (by omega) (by omega) (by omega)]
    · obtain ⟨e3, ez, -⟩ := cQ p hp
      rw [show 26 + (9 + 2 * p) = 35 + 2 * p by omega]
      rcases hk with ⟨rfl, rfl⟩ | ⟨h1, h2, rfl⟩
      · rw [e3, (dP p hp).2.2.2]
      · rw [ez k (by omega), zq p (k - 2) hp (by omega) (by omega)]
  · rcases locF_inv hn hl with ⟨rfl, hk⟩ | ⟨p, hp, rfl, hk, hj⟩
    · rcases hk with ⟨rfl, rfl⟩ | ⟨rfl, rfl⟩
      · rw [updD_n _ _ (by omega)]; exact cf8
      · rw [updD_s]; exact cf9
    · rw [show 26 + (9 + 2 * p) = 35 + 2 * p by omega, (cQ p hp).2.2 k hk, updD_n _ _ (by omega)]
end INI
