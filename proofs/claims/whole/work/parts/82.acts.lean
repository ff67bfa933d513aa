/-! PURE: acts on the state -/
section SETS
variable {m0 m1 : Mm} {n s t u c B P : Nat} {D D' : Nat → Int32} {F : Nat → UInt32} {E E' C : Mm}
theorem XR.cgD2 (h : XR n c E D) (hn : n ≤ 6) (hD : ∀ j, (j = 2 ∨ j = 5 ∨ (11 ≤ j ∧ j < 18) ∨ 102 ≤ j) → D' j = D j) : XR n c E D' := by
  obtain ⟨hW, hY, hB, hS⟩ := h
  refine ⟨fun i hi => ?_, fun i hi => ?_, fun h5 => ?_, fun i hi he => ?_⟩
  · obtain ⟨⟨w1, w2, w3, w4, w5⟩, w6⟩ := hW i hi
    unfold xRow
    dsimp only at w1 w2 w3 w4 w5 ⊢
    simp (disch := omega) only [hD]
    exact ⟨⟨w1, w2, w3, w4, w5⟩, w6⟩
  · rw [aLy_cg (D := D) (fun r hr => hD _ (by omega))]; exact hY i hi
  · rw [hD _ (by omega)] at h5
    obtain ⟨w1, w2, w3, w4, w5⟩ := hB h5
    unfold xRow
    dsimp only at w1 w2 w3 w4 w5 ⊢
    simp (disch := omega) only [hD]
    exact ⟨w1, w2, w3, w4, w5⟩
  · rw [hD _ (by omega)] at he ⊢
    exact hS i hi he
theorem Inv.cgX (I : Inv m0 n s t u c D F) (hG : iG n t c D') (hP : iP m0 n D') (hn : n ≤ 6) (hD : ∀ j, (j = 2 ∨ j = 3 ∨ j = 5 ∨ (11 ≤ j ∧ j < 18) ∨ 102 ≤ j ∨ ∃ p, p < n ∧ (j = 18 + 14 * p + 5 ∨ j = 18 + 14 * p + 2)) → D' j = D j) : Inv m0 n s t u c D' F := by
  have q : ∀ j, 102 ≤ j → D' j = D j := fun j hj => hD j (Or.inr (Or.inr (Or.inr (Or.inr (Or.inl hj)))))
  refine ⟨hG, hP, I.q.cg (fun p hp => ?_), I.r.cg (fun j h1 h2 => q j (by omega)), I.b.cg (fun j hj => hD j (by omega)), I.a.cg (fun j hj => hD j (by omega)) (fun p hp => q _ (by omega)), I.o.cg (hD 5 (by omega)) (fun p hp => ⟨hD _ ?_, hD _ ?_⟩), I.f⟩
  · rw [q _ (by omega), q _ (by omega), q _ (by omega), q _ (by omega)]
    exact ⟨rfl, rfl, rfl, rfl⟩
  · exact Or.inr (Or.inr (Or.inr (Or.inr (Or.inr ⟨p, hp, Or.inl rfl⟩))))
  · exact Or.inr (Or.inr (Or.inr (Or.inr (Or.inr ⟨p, hp, Or.inr rfl⟩))))
theorem Inv.s6 (I : Inv m0 n s t u c D F) (hn : n ≤ 6) {v : Int32} (hv : isN 21 v) : Inv m0 n s t u c (updD D 6 v) F := by
  refine I.cgX ?_ (I.p.cg (fun p hp => ?_)) hn (fun j hj => updD_n _ _ (by omega))
  · obtain ⟨g1, g2, g3, g4, g5, g6, g7, g8, g9⟩ := I.g
    exact ⟨g1, g2, g3, hv, g5, g6, g7, g8, g9⟩
  · simp (disch := omega) only [updD_n, and_self]
theorem Inv.s7 (I : Inv m0 n s t u c D F) (hn : n ≤ 6) {v : Int32} (hv : isR 1 201 v) : Inv m0 n s t u c (updD D 7 v) F := by
  refine I.cgX ?_ (I.p.cg (fun p hp => ?_)) hn (fun j hj => updD_n _ _ (by omega))
  · obtain ⟨g1, g2, g3, g4, g5, g6, g7, g8, g9⟩ := I.g
    exact ⟨g1, g2, g3, g4, hv, g6, g7, g8, g9⟩
  · simp (disch := omega) only [updD_n, and_self]
theorem Inv.sW (I : Inv m0 n s t u c D F) (hn : n ≤ 6) {p : Nat} (hp : p < n) {v : Int32} (hv : isR 1 101 v) : Inv m0 n s t u c (updD D (18 + 14 * p + 0) v) F := by
  refine I.cgX (I.g.cg (fun j hj => updD_n _ _ (by omega))) (fun q hq => ?_) hn (fun j hj => updD_n _ _ ?_)
  · obtain ⟨p1, p2, p3, p4, p5, p6⟩ := I.p q hq
    by_cases e : q = p
    · subst e
      rw [updD_s]
      simp (disch := omega) only [updD_n]
      exact ⟨hv, p2, p3, p4, p5, p6⟩
    · simp (disch := omega) only [updD_n]
      exact ⟨p1, p2, p3, p4, p5, p6⟩
  · rcases hj with rfl | rfl | rfl | hj | hj | ⟨q, hq, hj⟩ <;> omega
theorem Inv.sO (I : Inv m0 n s t u c D F) (hn : n ≤ 6) {p : Nat} (hp : p < n) {v : Int32} (hv : isN 2 v) : Inv m0 n s t u c (updD D (18 + 14 * p + 8) v) F := by
  refine I.cgX (I.g.cg (fun j hj => updD_n _ _ (by omega))) (fun q hq => ?_) hn (fun j hj => updD_n _ _ ?_)
  · obtain ⟨p1, p2, p3, p4, p5, p6⟩ := I.p q hq
    by_cases e : q = p
    · subst e
      rw [updD_s]
      simp (disch := omega) only [updD_n]
      exact ⟨p1, p2, p3, p4, p5, hv⟩
    · simp (disch := omega) only [updD_n]
      exact ⟨p1, p2, p3, p4, p5, p6⟩
  · rcases hj with rfl | rfl | rfl | hj | hj | ⟨q, hq, hj⟩ <;> omega
/-- one number of the state set, in both -/
theorem StR.set (h : StR m0 n s t c D F C B P) (hB : 26 ≤ B) (hP : P ≤ 10) {a k j : Nat} {v : Int32} (hl : locI n a k = some j) (hI : Inv m0 n s t t c (updD D j v) F) (hak : (a = 0 ∧ (k = 16 ∨ k = 17)) ∨ ∃ p, p < n ∧ a = 8 + 2 * p ∧ (k = 0 ∨ k = 1)) (hj : j = 6 ∨ j = 7 ∨ ∃ p, p < n ∧ (j = 18 + 14 * p + 0 ∨ j = 18 + 14 * p + 8)) : StR m0 n s t c (updD D j v) F (sI C (B + a) k v) B P := by
  have hn := h.K.n6
  have ha20 := (locI_lt hl).1
  have hk : k ≤ 1 ∨ k = 16 ∨ k = 17 := by
    rcases hak with ⟨-, h⟩ | ⟨p, -, -, h⟩ <;> omega
  have hj2 : j = 6 ∨ j = 7 ∨ (18 ≤ j ∧ j < 102) := by
    rcases hj with h | h | ⟨p, h1, h2⟩ <;> omega
  have e : ∀ r k', r < 20 → (r ≠ a ∨ k' ≠ k) → gI (sbM (emS B P) (sI C (B + a) k v)) r k' = gI (sbM (emS B P) C) r k' := fun r k' h1 h2 => by
    rw [sb_I, sb_I, em_lo h1, gw_n _ _ _ _ (by omega)]
  refine ⟨⟨h.K, h.L.cgE (fun r k' e1 e2 => ?_), hI, (h.X.cgD2 hn (fun i hi => updD_n _ _ (by omega))).cg2 hn (fun r k' h1 => e r k' (by omega) ?_), ⟨(e 0 19 (by omega) (by omega)).trans h.CT.1, fun p hp => ?_⟩, ?_⟩, fun a' k' j' hl' => ?_, h.2.2.1, h.2.2.2⟩
  · rw [sb_I, sb_I, em_hi e1, gw_n _ _ _ _ (by omega)]
  · rcases h1 with ⟨rfl, h2⟩ | ⟨rfl, h2⟩ | ⟨rfl, rfl⟩ | ⟨q, hq, rfl, rfl⟩
    · rcases hak with ⟨h, -⟩ | ⟨p, -, h, -⟩ <;> omega
    · rcases hak with ⟨h, -⟩ | ⟨p, -, h, -⟩ <;> omega
    · omega
    · omega
  · rw [e _ 9 (by omega) (by omega), e _ 10 (by omega) (by omega), e _ 11 (by omega) (by omega), e _ 12 (by omega) (by omega)]
    have hne : ∀ w, 9 ≤ w → w ≤ 12 → 18 + 14 * p + w ≠ j := fun w h1 h2 => by
      rcases hj with h | h | ⟨q, h3, h4⟩ <;> omega
    rw [updD_n _ _ (hne 9 (by omega) (by omega)), updD_n _ _ (hne 10 (by omega) (by omega)), updD_n _ _ (hne 11 (by omega) (by omega)), updD_n _ _ (hne 12 (by omega) (by omega))]
    exact h.CT.2 p hp
  · obtain ⟨T, t1, t2, t3, t4⟩ := h.KR
    refine ⟨T, (e 6 1 (by omega) ?_).trans t1, t2, by rw [updD_n _ _ (by omega)]; exact t3, fun i w hi hw => ?_⟩
    · rcases hak with ⟨h, -⟩ | ⟨p, -, h, -⟩ <;> omega
    · rw [e 7 _ (by omega) (by rcases hak with ⟨h, -⟩ | ⟨p, -, h, -⟩ <;> omega), updD_n _ _ (by omega)]
      exact t4 i w hi hw
  · by_cases ee : a' = a ∧ k' = k
    · obtain ⟨rfl, rfl⟩ := ee
      rw [hl] at hl'
      cases hl'
      rw [gw_s, updD_s]
    · rw [gw_n _ _ _ _ (by omega), updD_n]
      · exact h.2.1 a' k' j' hl'
      · intro e3
        subst e3
        exact ee (locI_inj hl hl')
end SETS
section ACTS
variable {n P Q : Nat} {C R : Mm}
/-- an act: keep, then set one number -/
theorem set_sim (h : Rl n P Q C R) (h8 : Di n P C R) {a k j : Nat} {v : Int32} (hl : locI n a k = some j) (hj7 : j < 758) (hI : ∀ (m0 : Mm) (s t c : Nat) (D : Nat → Int32) (F : Nat → UInt32), n ≤ 6 → Inv m0 n s t t c D F → Inv m0 n s t t c (updD D j v) F) (hak : (a = 0 ∧ (k = 16 ∨ k = 17)) ∨ ∃ p, p < n ∧ a = 8 + 2 * p ∧ (k = 0 ∨ k = 1)) (hj : j = 6 ∨ j = 7 ∨ ∃ p, p < n ∧ (j = 18 + 14 * p + 0 ∨ j = 18 + 14 * p + 8)) : ∃ C' X R', C_keepPast C = some C' ∧ R_remembers R = some X ∧ R_puts (nI j) v X = some R' ∧ Rl n P Q (sI C' (26 + a) k v) R' := by
  obtain ⟨C', X, c1, x1, x2, r1, d1, x3, x4, c2⟩ := keep_sim h h8
  have hPl := h.1.le
  have ha20 := (locI_lt hl).1
  have hd := d1
  obtain ⟨d0, ⟨s, t, c, ht, hS⟩, -, -⟩ := hd
  have hn := hS.K.n6
  have s2 := hS.set (by omega) hPl.1 (v := v) hl (hI _ _ _ _ _ _ hn hS.I) hak hj
  refine ⟨C', X, mkR X 0 (updD (gI X 16) j v) (gF X 17), c1, x1, ?_, ?_⟩
  · have := rpn (m0 := X) (D := gI X 16) (F := gF X 17) (B := 0) (Or.inl rfl) hj7 v
    rwa [show mkR X 0 (gI X 16) (gF X 17) = X from x2] at this
  · exact r1.st d1 s2 ht (fun a' k' e => gw_n _ _ _ _ (by omega)) (fun _ _ _ => rfl) (fun _ _ => rfl) (fun _ _ => rfl) (fun _ _ _ => rfl) rfl
theorem Rl.r0 (h : Rl n P Q C R) : Rl n P Q C (R0 R) := h.sm CSm.rf (R0_s R)
theorem Rl.sd0 (h : Rl n P Q C R) (h8 : Di n P C R) : Di n P C (R0 R) := by
  have := R0_s R
  exact h8.fr (fun _ _ _ => rfl) (fun _ _ _ => rfl) rfl (fun a k e => this.1 a k (by omega) (by omega) (by omega) (by omega) (by omega) (by omega)) (fun k e => this.2 _ _ (by omega))
theorem idle_sim (h : Rl n P Q C R) (p : Int32) : ∃ a C' R', C_idle p C = some (a, C') ∧ R_idle p R = some (a, R') ∧ Rl n P Q C' R' := by
  have hB : BB 0 := Or.inl rfl
  have no : ∃ C' R', (bnd (C_refuse 3 C) fun r2 => some ((0 : Int32), r2.2)) = some (0, C') ∧ (bnd (R_isRefused 3 (R0 R)) fun r2 => grd (r2.1 = 0 ∨ r2.1 = 1) (some (r2.1, r2.2))) = some (0, R') ∧ Rl n P Q C' R' := by
    rw [C_ref_3, R_isr_3]
    exact ⟨_, _, rfl, rfl, h.r0.ref 3⟩
  obtain ⟨C', R', n1, n2, n3⟩ := no
  rcases h.hd with ⟨h8, g1, g2⟩ | ⟨h8, g1, g2⟩
  · refine ⟨0, C', R', ?_, ?_, n3⟩
    · unfold C_idle; rw [g1, bnd_s, lett_e, if_pos rfl]; exact n1
    · unfold R_idle; rw [R_isNow_e, bnd_s, lett_e, show gI (R0 R) 0 0 = 0 from g2, if_pos rfl]; exact n2
  · rcases isIn_c (M := C) (M' := R0 R) p 0 20 0 20 rfl rfl (by omega) (by omega) with ⟨⟨f1, f2⟩, -⟩ | ⟨k, k1, k2, rfl, f1, f2⟩
    · refine ⟨0, C', R', ?_, ?_, n3⟩
      · unfold C_idle; rw [g1, bnd_s, lett_e, if_neg i10, f1, bnd_s, if_pos rfl]; exact n1
      · unfold R_idle; rw [R_isNow_e, bnd_s, lett_e, show gI (R0 R) 0 0 = 1 from g2, if_neg i10, f2, bnd_s, if_pos rfl]; exact n2
    · have h8' := h8
      obtain ⟨d0, ⟨s, t, c, ht, hS⟩, -, -⟩ := h8'
      by_cases e : gI R 16 6 = nI k
      · refine ⟨0, C', R', ?_, ?_, n3⟩
        · unfold C_idle; rw [g1, bnd_s, lett_e, if_neg i10, f1, bnd_s, if_neg i10, hS.g16, if_pos e]; exact n1
        · unfold R_idle; rw [R_isNow_e, bnd_s, lett_e, show gI (R0 R) 0 0 = 1 from g2, if_neg i10, f2, bnd_s, if_neg i10, show R_its 6 (R0 R) = _ from R_its_k6 hB, bnd_s, if_pos e]; exact n2
      · obtain ⟨C1, X, R1, c1, x1, x2, r1⟩ := set_sim (v := nI k) h.r0 (h.sd0 h8) (a := 0) (k := 16) (j := 6) rfl (by omega) (fun m0 s t c D F hn I => I.s6 hn ⟨k, by omega, rfl⟩) (by omega) (by omega)
        refine ⟨1, _, R1, ?_, ?_, r1⟩
        · unfold C_idle; rw [g1, bnd_s, lett_e, if_neg i10, f1, bnd_s, if_neg i10, hS.g16, if_neg e, c1, bnd_s, lett_e]
        · unfold R_idle; rw [R_isNow_e, bnd_s, lett_e, show gI (R0 R) 0 0 = 1 from g2, if_neg i10, f2, bnd_s, if_neg i10, show R_its 6 (R0 R) = _ from R_its_k6 hB, bnd_s, if_neg e, x1, bnd_s, show R_puts 6 (nI k) X = _ from x2, bnd_s]
theorem slice_sim (h : Rl n P Q C R) (p : Int32) : ∃ a C' R', C_slice p C = some (a, C') ∧ R_slice p R = some (a, R') ∧ Rl n P Q C' R' := by
  have hB : BB 0 := Or.inl rfl
  have no : ∃ C' R', (bnd (C_refuse 3 C) fun r2 => some ((0 : Int32), r2.2)) = some (0, C') ∧ (bnd (R_isRefused 3 (R0 R)) fun r2 => grd (r2.1 = 0 ∨ r2.1 = 1) (some (r2.1, r2.2))) = some (0, R') ∧ Rl n P Q C' R' := by
    rw [C_ref_3, R_isr_3]
    exact ⟨_, _, rfl, rfl, h.r0.ref 3⟩
  obtain ⟨C', R', n1, n2, n3⟩ := no
  rcases h.hd with ⟨h8, g1, g2⟩ | ⟨h8, g1, g2⟩
  · refine ⟨0, C', R', ?_, ?_, n3⟩
    · unfold C_slice; rw [g1, bnd_s, lett_e, if_pos rfl]; exact n1
    · unfold R_slice; rw [R_isNow_e, bnd_s, lett_e, show gI (R0 R) 0 0 = 0 from g2, if_pos rfl]; exact n2
  · rcases isIn_c (M := C) (M' := R0 R) p 1 200 1 200 rfl rfl (by omega) (by omega) with ⟨⟨f1, f2⟩, -⟩ | ⟨k, k1, k2, rfl, f1, f2⟩
    · refine ⟨0, C', R', ?_, ?_, n3⟩
      · unfold C_slice; rw [g1, bnd_s, lett_e, if_neg i10, f1, bnd_s, if_pos rfl]; exact n1
      · unfold R_slice; rw [R_isNow_e, bnd_s, lett_e, show gI (R0 R) 0 0 = 1 from g2, if_neg i10, f2, bnd_s, if_pos rfl]; exact n2
    · have h8' := h8
      obtain ⟨d0, ⟨s, t, c, ht, hS⟩, -, -⟩ := h8'
      by_cases e : gI R 16 7 = nI k
      · refine ⟨0, C', R', ?_, ?_, n3⟩
        · unfold C_slice; rw [g1, bnd_s, lett_e, if_neg i10, f1, bnd_s, if_neg i10, hS.g17, if_pos e]; exact n1
        · unfold R_slice; rw [R_isNow_e, bnd_s, lett_e, show gI (R0 R) 0 0 = 1 from g2, if_neg i10, f2, bnd_s, if_neg i10, show R_its 7 (R0 R) = _ from R_its_k7 hB, bnd_s, if_pos e]; exact n2
      · obtain ⟨C1, X, R1, c1, x1, x2, r1⟩ := set_sim (v := nI k) h.r0 (h.sd0 h8) (a := 0) (k := 17) (j := 7) rfl (by omega) (fun m0 s t c D F hn I => I.s7 hn ⟨k, k1, by omega, rfl⟩) (by omega) (by omega)
        refine ⟨1, _, R1, ?_, ?_, r1⟩
        · unfold C_slice; rw [g1, bnd_s, lett_e, if_neg i10, f1, bnd_s, if_neg i10, hS.g17, if_neg e, c1, bnd_s, lett_e]
        · unfold R_slice; rw [R_isNow_e, bnd_s, lett_e, show gI (R0 R) 0 0 = 1 from g2, if_neg i10, f2, bnd_s, if_neg i10, show R_its 7 (R0 R) = _ from R_its_k7 hB, bnd_s, if_neg e, x1, bnd_s, show R_puts 7 (nI k) X = _ from x2, bnd_s]
theorem R_sets_p {M : Mm} {q k : Nat} {v : Int32} : R_sets (nI q) (nI k) v M = R_puts (nI (18 + 14 * q + k)) v M := by
  unfold R_sets
  rw [nM_14, nB_18, nI_add]
  cases R_puts (nI (18 + 14 * q + k)) v M <;> rfl
theorem weight_sim (h : Rl n P Q C R) (p w : Int32) : ∃ a C' R', C_weight p w C = some (a, C') ∧ R_weight p w R = some (a, R') ∧ Rl n P Q C' R' := by
  have hB : BB 0 := Or.inl rfl
  have no : ∃ C' R', (bnd (C_refuse 3 C) fun r2 => some ((0 : Int32), r2.2)) = some (0, C') ∧ (bnd (R_isRefused 3 (R0 R)) fun r2 => grd (r2.1 = 0 ∨ r2.1 = 1) (some (r2.1, r2.2))) = some (0, R') ∧ Rl n P Q C' R' := by
    rw [C_ref_3, R_isr_3]
    exact ⟨_, _, rfl, rfl, h.r0.ref 3⟩
  obtain ⟨C', R', n1, n2, n3⟩ := no
  rcases h.pr p (R0_1 R) with ⟨⟨g1, g2⟩, -⟩ | ⟨q, hq, rfl, g1, g2⟩
  · refine ⟨0, C', R', ?_, ?_, n3⟩
    · unfold C_weight; rw [g1, bnd_s, lett_e, if_pos rfl]; exact n1
    · unfold R_weight; rw [R_isNow_e, bnd_s, g2, bnd_s, lett_e, if_pos rfl]; exact n2
  · have h8 := h.di hq
    rcases isIn_c (M := C) (M' := R0 R) w 1 100 1 100 rfl rfl (by omega) (by omega) with ⟨⟨f1, f2⟩, -⟩ | ⟨k, k1, k2, rfl, f1, f2⟩
    · refine ⟨0, C', R', ?_, ?_, n3⟩
      · unfold C_weight; rw [g1, bnd_s, lett_e, if_neg i10, f1, bnd_s, if_pos rfl]; exact n1
      · unfold R_weight; rw [R_isNow_e, bnd_s, g2, bnd_s, lett_e, if_neg i10, f2, bnd_s, if_pos rfl]; exact n2
    · have h8' := h8
      obtain ⟨d0, ⟨s, t, c, ht, hS⟩, -, -⟩ := h8'
      have hn := hS.K.n6
      have o0 : R_of (nI q) 0 (R0 R) = some (gI R 16 (18 + 14 * q + 0)) := R_of_m hB q 0 rfl rfl (by omega)
      by_cases e : gI R 16 (18 + 14 * q + 0) = nI k
      · refine ⟨0, C', R', ?_, ?_, n3⟩
        · unfold C_weight; rw [g1, bnd_s, lett_e, if_neg i10, f1, bnd_s, if_neg i10, ald_n (by omega) (by omega), ix_nI (by omega), hS.P0 rfl ⟨hq, hn⟩, if_pos e]; exact n1
        · unfold R_weight; rw [R_isNow_e, bnd_s, g2, bnd_s, lett_e, if_neg i10, f2, bnd_s, if_neg i10, o0, bnd_s, if_pos e]; exact n2
      · obtain ⟨C1, X, R1, c1, x1, x2, r1⟩ := set_sim (v := nI k) h.r0 (h.sd0 h8) (a := 8 + 2 * q) (k := 0) (j := 18 + 14 * q + 0) (lP_0 ⟨hq, hn⟩) (by omega) (fun m0 s t c D F hn I => I.sW hn hq ⟨k, k1, by omega, rfl⟩) (Or.inr ⟨q, hq, rfl, Or.inl rfl⟩) (Or.inr (Or.inr ⟨q, hq, Or.inl rfl⟩))
        refine ⟨1, _, R1, ?_, ?_, r1⟩
        · unfold C_weight; rw [g1, bnd_s, lett_e, if_neg i10, f1, bnd_s, if_neg i10, ald_n (by omega) (by omega), ix_nI (by omega), hS.P0 rfl ⟨hq, hn⟩, if_neg e, c1, bnd_s, ald_n (by omega) (by omega), lett_e, show 34 + 2 * q = 26 + (8 + 2 * q) by omega]
        · unfold R_weight; rw [R_isNow_e, bnd_s, g2, bnd_s, lett_e, if_neg i10, f2, bnd_s, if_neg i10, o0, bnd_s, if_neg e, x1, bnd_s, show R_sets (nI q) 0 (nI k) X = _ from R_sets_p.trans x2, bnd_s]
theorem on_sim (h : Rl n P Q C R) (p : Int32) {w : Int32} (hw : w = 0 ∨ w = 1) : ∃ a C' R', C_on p w C = some (a, C') ∧ R_on p w R = some (a, R') ∧ Rl n P Q C' R' := by
  have hB : BB 0 := Or.inl rfl
  have no : ∃ C' R', (bnd (C_refuse 3 C) fun r2 => some ((0 : Int32), r2.2)) = some (0, C') ∧ (bnd (R_isRefused 3 (R0 R)) fun r2 => grd (r2.1 = 0 ∨ r2.1 = 1) (some (r2.1, r2.2))) = some (0, R') ∧ Rl n P Q C' R' := by
    rw [C_ref_3, R_isr_3]
    exact ⟨_, _, rfl, rfl, h.r0.ref 3⟩
  obtain ⟨C', R', n1, n2, n3⟩ := no
  have ew : (if w = 0 then (0 : Int32) else 1) = w := by rcases hw with rfl | rfl <;> rfl
  rcases h.pr p (R0_1 R) with ⟨⟨g1, g2⟩, -⟩ | ⟨q, hq, rfl, g1, g2⟩
  · refine ⟨0, C', R', ?_, ?_, n3⟩
    · unfold C_on; rw [g1, bnd_s, lett_e, if_pos rfl]; exact n1
    · unfold R_on; rw [R_isNow_e, bnd_s, lett_if, ew, lett_e, g2, bnd_s, lett_e, if_pos rfl]; exact n2
  · have h8 := h.di hq
    have h8' := h8
    obtain ⟨d0, ⟨s, t, c, ht, hS⟩, -, -⟩ := h8'
    have hn := hS.K.n6
    have o8 : R_of (nI q) 8 (R0 R) = some (gI R 16 (18 + 14 * q + 8)) := R_of_m hB q 8 rfl rfl (by omega)
    by_cases e : gI R 16 (18 + 14 * q + 8) = w
    · refine ⟨0, C', R', ?_, ?_, n3⟩
      · unfold C_on; rw [g1, bnd_s, lett_e, if_neg i10, ald_n (by omega) (by omega), ix_nI (by omega), hS.P1 rfl ⟨hq, hn⟩, if_pos e]; exact n1
      · unfold R_on; rw [R_isNow_e, bnd_s, lett_if, ew, lett_e, g2, bnd_s, lett_e, if_neg i10, o8, bnd_s, if_pos e]; exact n2
    · have hw2 : isN 2 w := by
        rcases hw with rfl | rfl
        · exact ⟨0, by omega, rfl⟩
        · exact ⟨1, by omega, rfl⟩
      obtain ⟨C1, X, R1, c1, x1, x2, r1⟩ := set_sim (v := w) h.r0 (h.sd0 h8) (a := 8 + 2 * q) (k := 1) (j := 18 + 14 * q + 8) (lP_1 ⟨hq, hn⟩) (by omega) (fun m0 s t c D F hn I => I.sO hn hq hw2) (Or.inr ⟨q, hq, rfl, Or.inr rfl⟩) (Or.inr (Or.inr ⟨q, hq, Or.inr rfl⟩))
      refine ⟨1, _, R1, ?_, ?_, r1⟩
      · unfold C_on; rw [g1, bnd_s, lett_e, if_neg i10, ald_n (by omega) (by omega), ix_nI (by omega), hS.P1 rfl ⟨hq, hn⟩, if_neg e, c1, bnd_s, ald_n (by omega) (by omega), grd_t hw, lett_e, show 34 + 2 * q = 26 + (8 + 2 * q) by omega]
      · unfold R_on; rw [R_isNow_e, bnd_s, lett_if, ew, lett_e, g2, bnd_s, lett_e, if_neg i10, o8, bnd_s, if_neg e, x1, bnd_s, show R_sets (nI q) 8 w X = _ from R_sets_p.trans x2, bnd_s]
end ACTS
