/-! PURE: what is told of ticks ahead: later, share, late, when -/
theorem LE.mkR {m : Mm} {ne : Nat} {ev : Evs} (h : LE m ne ev) (D : Nat → Int32) (F : Nat → UInt32) : LE (mkR m 758 D F) ne ev := by
  refine ⟨(mkR_o _ _ _ _ (by omega) (by omega)).trans h.1, fun j hj => ?_⟩
  rw [mkR_o _ _ _ _ (by omega) (by omega), mkR_o _ _ _ _ (by omega) (by omega), mkR_o _ _ _ _ (by omega) (by omega), mkR_o _ _ _ _ (by omega) (by omega)]
  exact h.2 j hj
theorem LX.mkR {m : Mm} {nx : Nat} {xv : Exs} (h : LX m nx xv) (D : Nat → Int32) (F : Nat → UInt32) : LX (mkR m 758 D F) nx xv := by
  refine ⟨(mkR_o _ _ _ _ (by omega) (by omega)).trans h.1, fun j hj => ?_⟩
  rw [mkR_o _ _ _ _ (by omega) (by omega), mkR_o _ _ _ _ (by omega) (by omega), mkR_o _ _ _ _ (by omega) (by omega), mkR_o _ _ _ _ (by omega) (by omega)]
  exact h.2 j hj
theorem nI_m1 {q : Nat} (h : q < 2 ^ 31) : ¬ nI q = -1 := fun e => by
  have h1 := congrArg Int32.toInt e
  rw [nI_toInt h, show (-1 : Int32).toInt = -1 from rfl] at h1
  omega
theorem ofE_w {ρ : Type} (j : Int32 → Option ρ) {M : Mm} {a i la mn w : Nat} {wI : Int32} (hw : w < 4) (hwI : wI = nI w) (g2 : gI M 20 (4 * i + 2) = nI la) (g3 : gI M 20 (4 * i + 3) = nI mn) (hi : i < 400) (ha : a < 2 ^ 31) (hl : la < 2 ^ 31) : (if wI = 3 then ald (nI (4 * i + 2)) 1604 (bnd (R_greatest (nI a) (gI M 20 (ix (nI (4 * i + 2)))) M) fun r8 => j r8) else if wI = 0 then j (nI (a + 1)) else if wI = 1 then ald (nI (4 * i + 3)) 1604 (j (nI a + gI M 20 (ix (nI (4 * i + 3))))) else ald (nI (4 * i + 2)) 1604 (j (nI a + gI M 20 (ix (nI (4 * i + 2)))))) = j (nI (if w = 3 then max a la else a + (if w = 0 then 1 else if w = 1 then mn else la))) := by
  subst hwI
  rcases (show w = 0 ∨ w = 1 ∨ w = 2 ∨ w = 3 by omega) with rfl | rfl | rfl | rfl
  · rw [if_neg (show ¬ nI 0 = 3 by decide), if_pos (show nI 0 = 0 by decide), if_neg (show ¬ (0 : Nat) = 3 by omega), if_pos (show (0 : Nat) = 0 from rfl)]
  · rw [if_neg (show ¬ nI 1 = 3 by decide), if_neg (show ¬ nI 1 = 0 by decide), if_pos (show nI 1 = 1 by decide), if_neg (show ¬ (1 : Nat) = 3 by omega), if_neg (show ¬ (1 : Nat) = 0 by omega), if_pos (show (1 : Nat) = 1 from rfl), ald_n (by omega) (by omega), ix_nI (by omega), g3, nI_add]
  · rw [if_neg (show ¬ nI 2 = 3 by decide), if_neg (show ¬ nI 2 = 0 by decide), if_neg (show ¬ nI 2 = 1 by decide), if_neg (show ¬ (2 : Nat) = 3 by omega), if_neg (show ¬ (2 : Nat) = 0 by omega), if_neg (show ¬ (2 : Nat) = 1 by omega), ald_n (by omega) (by omega), ix_nI (by omega), g2, nI_add]
  · rw [if_pos (show nI 3 = 3 by decide), if_pos (show (3 : Nat) = 3 from rfl), ald_n (by omega) (by omega), ix_nI (by omega), g2, R_gr_m, bnd_s, max_nI ha hl, Nat.max_comm]
theorem ofEvents_m {M : Mm} {n k ne : Nat} {ev : Evs} (hl : LE M ne ev) (hne : ne ≤ 400) (ho : ∀ j, j < ne → oke n k (ev j)) (hn : n ≤ 6) {p : Option Nat} {pI : Int32} (hp : (p = none ∧ pI = -1) ∨ (∃ q, q < 6 ∧ p = some q ∧ pI = nI q)) (w : Nat) {wI : Int32} (hw : w < 4) (hwI : wI = nI w) : R_ofEvents pI wI M = some (nI (fE ev p w ne)) := by
  unfold R_ofEvents
  rw [lett_e, lett_e]
  refine loopR_sq (fun i => (nI (fE ev p w i), nI i)) ne (by omega) rfl (fun i hi rec => ?_) (fun rec => ?_)
  · obtain ⟨l1, l2, l3, l4⟩ := hl.2 i hi
    obtain ⟨-, -, o1, o2, o3, o4, o5⟩ := ho i hi
    have hb : fE ev p w i ≤ 16000 * i := fE_le (fun j hj => ho j (by omega))
    simp only [lett_e, nM_4, nA_1, nA_2, nA_3]
    rw [hl.1, if_neg (nI_ge hi (by omega)), fE_s]
    rcases hp with ⟨rfl, rfl⟩ | ⟨q, hq, rfl, rfl⟩
    · rw [if_pos rfl, if_pos (Or.inl rfl)]
      exact ofE_w (fun u => rec (u, nI (i + 1))) hw hwI l3 l4 (by omega) (by omega) (by omega)
    · rw [if_neg (nI_m1 (by omega)), ald_n (by omega) (by omega), ix_nI (by omega), l2]
      by_cases e : (ev i).2.1 = q
      · rw [if_pos (congrArg nI e), if_pos (Or.inr (congrArg some e.symm))]
        exact ofE_w (fun u => rec (u, nI (i + 1))) hw hwI l3 l4 (by omega) (by omega) (by omega)
      · rw [if_neg (fun h => e ((nI_eq (by omega) (by omega)).mp h)), if_neg (by rintro (h | h); exact absurd h (by simp); exact e (Option.some.inj h).symm)]
  · dsimp only
    rw [hl.1, if_pos (nI_le (Nat.le_refl _) (by omega))]
/-- all sectors are those of each process -/
def smE (ev : Evs) (ne i : Nat) : Nat := itr (fun q a => a + fE ev (some q) 1 ne) 0 i
theorem smE_s (ev : Evs) (ne i : Nat) : smE ev ne (i + 1) = smE ev ne i + fE ev (some i) 1 ne := rfl
theorem fE1_s (ev : Evs) (i ne : Nat) : fE ev (some i) 1 (ne + 1) = fE ev (some i) 1 ne + (if (ev ne).2.1 = i then (ev ne).2.2.2 else 0) := by
  rw [fE_s]
  by_cases e : (ev ne).2.1 = i
  · rw [if_pos (Or.inr (congrArg some e.symm)), if_neg (show ¬ (1 : Nat) = 3 by omega), if_neg (show ¬ (1 : Nat) = 0 by omega), if_pos (show (1 : Nat) = 1 from rfl), if_pos e]
  · rw [if_neg (by rintro (h | h); exact absurd h (by simp); exact e (Option.some.inj h).symm), if_neg e, Nat.add_zero]
theorem smE_n (ev : Evs) (ne i : Nat) : smE ev (ne + 1) i = smE ev ne i + (if (ev ne).2.1 < i then (ev ne).2.2.2 else 0) := by
  induction i with
  | zero => rw [if_neg (by omega)]; rfl
  | succ i ih =>
    rw [smE_s, smE_s, ih, fE1_s]
    by_cases e : (ev ne).2.1 = i
    · rw [if_neg (by omega), if_pos e, if_pos (by omega)]; omega
    · by_cases e2 : (ev ne).2.1 < i
      · rw [if_pos e2, if_neg e, if_pos (by omega)]; omega
      · rw [if_neg e2, if_neg e, if_neg (by omega)]; omega
theorem smE_all {ev : Evs} {n k ne : Nat} (ho : ∀ j, j < ne → oke n k (ev j)) : smE ev ne n = fE ev none 1 ne := by
  induction ne with
  | zero =>
    rw [fE_0]
    clear ho
    induction n with
    | zero => rfl
    | succ n ih => rw [smE_s, ih, fE_0]
  | succ ne ih =>
    rw [smE_n, ih (fun j hj => ho j (by omega)), fE_s, if_pos (Or.inl rfl), if_neg (show ¬ (1 : Nat) = 3 by omega), if_neg (show ¬ (1 : Nat) = 0 by omega), if_pos (show (1 : Nat) = 1 from rfl), if_pos (ho ne (by omega)).2.2.1]
section TOLD
variable {n s t b k P Q c : Nat} {C C' R : Mm} {σ σ' : Sta}
theorem Ah.many (h : Ah n s t b k P C σ) : gI (sbM (emS 46 P) C) 20 11 = nI n := by
  have e := h.1.2.1.1.many
  rw [h.2.1] at e
  exact e.trans h.1.1.n1
theorem Ah.sectors (h : Ah n s t b k P C σ) : S_sectorsDone (sbM (emS 46 P) C) = some (nI (fE σ.ev none 1 σ.ne)) := by
  have hn := h.n6
  rw [← smE_all h.ne.2.2]
  unfold S_sectorsDone
  rw [lett_e, lett_e]
  refine loopR_sq (fun i => (nI (smE σ.ev σ.ne i), nI i)) n (by omega) rfl (fun i hi rec => ?_) (fun rec => ?_)
  · dsimp only
    have hc := (h.cnt hi).2.1
    rw [h.many, if_neg (nI_ge hi (by omega)), ald_n (by omega) (by omega), ix_nI (by omega), sb_I, em_lo (by omega), show 46 + (8 + 2 * i) = 54 + 2 * i by omega, hc, nI_add, lett_e, lett_e, nA_1]
    rfl
  · dsimp only
    rw [h.many, if_pos (nI_le (Nat.le_refl _) (by omega))]
theorem Ah.events (h : Ah n s t b k P C σ) (hk : k ≤ 400) {p : Option Nat} {pI : Int32} (hp : (p = none ∧ pI = -1) ∨ (∃ q, q < 6 ∧ p = some q ∧ pI = nI q)) (w : Nat) {wI : Int32} (hw : w < 4) (hwI : wI = nI w) : R_ofEvents pI wI (mkR σ.m 758 σ.D σ.F) = some (nI (fE σ.ev p w σ.ne)) := by
  have := h.ne.1
  exact ofEvents_m (h.le.mkR _ _) (by omega) h.ne.2.2 h.n6 hp w hw hwI
/-- the class's and the reference's run of some ticks -/
theorem runAhead_sim (hS : StR R n s t c (gI R 16) (gF R 17) C 26 P) (hP : P = 1 ∨ P = 10) (ht : t ≤ 9999) {N : Nat} (hN : N ≤ 400) : ∃ C2 σ M4, C_runAhead (nI N) C = some (46, C2) ∧ R_tries R = some M4 ∧ R_goesOnFor (nI N) M4 = some (mkR σ.m 758 σ.D σ.F) ∧ Ah n s t 0 N P C2 σ ∧ Fm R σ ∧ CSm C C2 := by
  obtain ⟨C1, σ, a1, a2, a3, a4, a5, -⟩ := start_ahead hS hP
  obtain ⟨z, σ', b1, b2, b3, b4, b5⟩ := run_ahead (R := R) a3 hP hN (by omega)
  refine ⟨_, σ', _, ?_, a2, b2, b3, b5 a4, a5.tr b4⟩
  unfold C_runAhead
  rw [a1, bnd_s, grd_t rfl, plnS_e _ a3.2.2.2.2 hP, b1, bnd_s, lett_e]
theorem later_sim (h : Rl n P Q C R) (p q w : Int32) : ∃ a C' R', C_later p q w C = some (a, C') ∧ R_later p q w R = some (a, R') ∧ Rl n P Q C' R' := by
  rcases h.pr q (R' := R) rfl with ⟨⟨g1, g2⟩, -⟩ | ⟨q, hq, rfl, g1, g2⟩
  · refine ⟨-1, C, R, ?_, ?_, h⟩
    · unfold C_later; rw [g1, bnd_s, if_pos rfl]
    · unfold R_later
      rcases isIn_c (M := C) (M' := R) p 0 400 0 400 rfl rfl (by omega) (by omega) with ⟨⟨f1, f2⟩, -⟩ | ⟨k, k1, k2, rfl, f1, f2⟩
      · rw [f2, bnd_s, if_pos rfl]
      · rw [f2, bnd_s, if_neg i10, g2, bnd_s, if_pos rfl]
  · rcases isIn_c (M := C) (M' := R) p 0 400 0 400 rfl rfl (by omega) (by omega) with ⟨⟨f1, f2⟩, -⟩ | ⟨N, N1, N2, rfl, f1, f2⟩
    · refine ⟨-1, C, R, ?_, ?_, h⟩
      · unfold C_later; rw [g1, bnd_s, if_neg i10, f1, bnd_s, if_pos rfl]
      · unfold R_later; rw [f2, bnd_s, if_pos rfl]
    · rcases isIn_c (M := C) (M' := R) w 0 3 0 3 rfl rfl (by omega) (by omega) with ⟨⟨e1, e2⟩, -⟩ | ⟨w, w1, w2, rfl, e1, e2⟩
      · refine ⟨-1, C, R, ?_, ?_, h⟩
        · unfold C_later; rw [g1, bnd_s, if_neg i10, f1, bnd_s, if_neg i10, e1, bnd_s, if_pos rfl]
        · unfold R_later; rw [f2, bnd_s, if_neg i10, g2, bnd_s, if_neg i10, e2, bnd_s, if_pos rfl]
      · obtain ⟨d0, ⟨s, t, c, ht, hS⟩, -, -⟩ := h.di hq
        obtain ⟨C2, σ, M4, a1, a2, a3, a4, a5, a6⟩ := runAhead_sim hS h.PQ ht N2
        have hn := a4.n6
        have ev := a4.events N2 (Or.inr ⟨q, by omega, rfl, rfl⟩) w (by omega) rfl
        obtain ⟨c9, c10, c11, c12, -⟩ := a4.cnt hq
        refine ⟨nI (fE σ.ev (some q) w σ.ne), C2, mkR σ.m 758 σ.D σ.F, ?_, ?_, h.sm a6 (a5.sm _ _)⟩
        · unfold C_later
          rw [g1, bnd_s, if_neg i10, f1, bnd_s, if_neg i10, e1, bnd_s, if_neg i10, a1, bnd_s, grd_t rfl, ald_n (by omega) (by omega), ix_nI (by omega), c9, c10, c11, c12]
          rcases (show w = 0 ∨ w = 1 ∨ w = 2 ∨ w = 3 by omega) with rfl | rfl | rfl | rfl
          · rw [if_pos (show nI 0 = 0 by decide)]
          · rw [if_neg (show ¬ nI 1 = 0 by decide), if_pos (show nI 1 = 1 by decide)]
          · rw [if_neg (show ¬ nI 2 = 0 by decide), if_neg (show ¬ nI 2 = 1 by decide), if_pos (show nI 2 = 2 by decide)]
          · rw [if_neg (show ¬ nI 3 = 0 by decide), if_neg (show ¬ nI 3 = 1 by decide), if_neg (show ¬ nI 3 = 2 by decide)]
        · unfold R_later
          rw [f2, bnd_s, if_neg i10, g2, bnd_s, if_neg i10, e2, bnd_s, if_neg i10, a2, bnd_s, a3, bnd_s, ev, bnd_s]
theorem share_sim (h : Rl n P Q C R) (p q : Int32) : ∃ a C' R', C_share p q C = some (a, C') ∧ R_share p q R = some (a, R') ∧ Rl n P Q C' R' := by
  rcases h.pr q (R' := R) rfl with ⟨⟨g1, g2⟩, -⟩ | ⟨q, hq, rfl, g1, g2⟩
  · refine ⟨-1, C, R, ?_, ?_, h⟩
    · unfold C_share; rw [g1, bnd_s, if_pos rfl]
    · unfold R_share
      rcases isIn_c (M := C) (M' := R) p 1 400 1 400 rfl rfl (by omega) (by omega) with ⟨⟨f1, f2⟩, -⟩ | ⟨k, k1, k2, rfl, f1, f2⟩
      · rw [f2, bnd_s, if_pos rfl]
      · rw [f2, bnd_s, if_neg i10, g2, bnd_s, if_pos rfl]
  · rcases isIn_c (M := C) (M' := R) p 1 400 1 400 rfl rfl (by omega) (by omega) with ⟨⟨f1, f2⟩, -⟩ | ⟨N, N1, N2, rfl, f1, f2⟩
    · refine ⟨-1, C, R, ?_, ?_, h⟩
      · unfold C_share; rw [g1, bnd_s, if_neg i10, f1, bnd_s, if_pos rfl]
      · unfold R_share; rw [f2, bnd_s, if_pos rfl]
    · obtain ⟨d0, ⟨s, t, c, ht, hS⟩, -, -⟩ := h.di hq
      obtain ⟨C2, σ, M4, a1, a2, a3, a4, a5, a6⟩ := runAhead_sim hS h.PQ ht N2
      have hn := a4.n6
      have ev1 := a4.events N2 (Or.inl ⟨rfl, rfl⟩) 1 (wI := 1) (by omega) rfl
      have ev2 := a4.events N2 (Or.inr ⟨q, by omega, rfl, rfl⟩) 1 (wI := 1) (by omega) rfl
      obtain ⟨c9, c10, c11, c12, -⟩ := a4.cnt hq
      have hb1 : fE σ.ev none 1 σ.ne ≤ 16000 * σ.ne := fE_le a4.ne.2.2
      have hne := a4.ne.1
      by_cases e0 : fE σ.ev none 1 σ.ne = 0
      · refine ⟨-1, C2, mkR σ.m 758 σ.D σ.F, ?_, ?_, h.sm a6 (a5.sm _ _)⟩
        · unfold C_share
          rw [g1, bnd_s, if_neg i10, f1, bnd_s, if_neg i10, a1, bnd_s, grd_t rfl, plnS_e _ a4.2.2.2.2 h.PQ, a4.sectors, bnd_s, lett_e, if_neg (lt_f 0 0 rfl (by omega) (by omega))]
        · unfold R_share
          rw [f2, bnd_s, if_neg i10, g2, bnd_s, if_neg i10, a2, bnd_s, a3, bnd_s, ev1, bnd_s, lett_e, e0, if_pos (by decide)]
      · refine ⟨nI (100 * fE σ.ev (some q) 1 σ.ne) / nI (fE σ.ev none 1 σ.ne), C2, mkR σ.m 758 σ.D σ.F, ?_, ?_, h.sm a6 (a5.sm _ _)⟩
        · unfold C_share
          rw [g1, bnd_s, if_neg i10, f1, bnd_s, if_neg i10, a1, bnd_s, grd_t rfl, plnS_e _ a4.2.2.2.2 h.PQ, a4.sectors, bnd_s, lett_e, if_pos (lt_t 0 0 rfl (by omega) (by omega)), ald_n (by omega) (by omega), grd_t (nI_ne0 (by omega) (by omega)), ix_nI (by omega), c10, show (100 : Int32) = nI 100 from rfl, pk_mul, Nat.mul_comm]
        · unfold R_share
          rw [f2, bnd_s, if_neg i10, g2, bnd_s, if_neg i10, a2, bnd_s, a3, bnd_s, ev1, bnd_s, lett_e, if_neg (nI_ne0 (by omega) (by omega)), ev2, bnd_s, grd_t (nI_ne0 (by omega) (by omega)), show (100 : Int32) = nI 100 from rfl, pk_mul]
/-- counting those above a bound -/
theorem late_loop {ρ : Type} {M : Mm} {n k ne b q : Nat} {ev : Evs} (hl : LE M ne ev) (hne : ne ≤ 400) (ho : ∀ j, j < ne → oke n k (ev j)) (hn : n ≤ 6) (hq : q < 6) (hb : b < 2 ^ 31) (j : Int32 → Option ρ) : loopR (fun (rec40 : (Int32 × Int32) → Option ρ) (x7 : Int32 × Int32) =>
 if (gI M 0 57) ≤ x7.2 then
 (j x7.1)
 else
 (ald (((4 : Int32) * x7.2) + (1 : Int32)) 1604 (lett (fun (w_7 : Int32) =>
 lett (x7.1 + w_7) fun v9 =>
 lett (x7.2 + (1 : Int32)) fun v10 =>
 rec40 (v9, v10)) fun j86 =>
 lett (fun (_ : Unit) =>
 j86 (0 : Int32)) fun j85 =>
 if (gI M 20 (ix (((4 : Int32) * x7.2) + (1 : Int32)))) = nI q then
 (ald (((4 : Int32) * x7.2) + (2 : Int32)) 1604 (if (gI M 20 (ix (((4 : Int32) * x7.2) + (2 : Int32)))) ≤ nI b then
 (j85 ())
 else
 (j86 (1 : Int32))))
 else
 (j85 ())))) 1000000 ((0 : Int32), (0 : Int32)) = j (nI (fA ev q b ne)) := by
  refine loopR_sq (fun i => (nI (fA ev q b i), nI i)) ne (by omega) rfl (fun i hi rec => ?_) (fun rec => ?_)
  · obtain ⟨l1, l2, l3, l4⟩ := hl.2 i hi
    obtain ⟨-, -, o1, o2, o3, o4, o5⟩ := ho i hi
    simp only [lett_e, nM_4, nA_0, nA_1, nA_2]
    rw [hl.1, if_neg (nI_ge hi (by omega)), ald_n (by omega) (by omega), ix_nI (by omega), l2, ald_n (by omega) (by omega), ix_nI (by omega), l3, fA_s]
    by_cases e : (ev i).2.1 = q
    · rw [if_pos (congrArg nI e)]
      by_cases e2 : b < (ev i).2.2.1
      · rw [if_neg (nI_ge e2 (by omega)), if_pos ⟨e, e2⟩]
      · rw [if_pos (nI_le (by omega) hb), if_neg (fun h => e2 h.2), Nat.add_zero]
    · rw [if_neg (fun h => e ((nI_eq (by omega) (by omega)).mp h)), if_neg (fun h => e h.1), Nat.add_zero]
  · dsimp only
    rw [hl.1, if_pos (nI_le (Nat.le_refl _) (by omega))]
theorem above_sim (hS : StR R n s t c (gI R 16) (gF R 17) C 26 P) (hP : P = 1 ∨ P = 10) (ht : t ≤ 9999) {N b : Nat} (hN : N ≤ 400) (hb : b < 2 ^ 31) : ∃ C2 σ M4, C_runAboveAhead (nI N) (nI b) C = some (46, C2) ∧ R_tries R = some M4 ∧ R_goesOnFor (nI N) M4 = some (mkR σ.m 758 σ.D σ.F) ∧ Ah n s t b N P C2 σ ∧ Fm R σ ∧ CSm C C2 := by
  obtain ⟨C1, σ, a1, a2, a3, a4, a5, -, a6, -⟩ := start_ahead hS hP
  have a7 := a3.bound (by omega) a6 hb
  obtain ⟨z, σ', b1, b2, b3, b4, b5⟩ := run_ahead (R := R) a7 hP hN (by omega)
  have c0 : CSm C1 (sI C1 46 19 (nI b)) := ⟨fun a k h => gw_n _ _ _ _ (by omega), fun _ _ _ => rfl, fun _ _ => rfl, fun _ _ _ => rfl⟩
  refine ⟨_, σ', _, ?_, a2, b2, b3, b5 a4, (a5.tr c0).tr b4⟩
  unfold C_runAboveAhead
  rw [a1, bnd_s, grd_t rfl, lett_e, plnS_e _ a7.2.2.2.2 hP, b1, bnd_s, lett_e]
theorem late_sim (h : Rl n P Q C R) (p q w : Int32) : ∃ a C' R', C_late p q w C = some (a, C') ∧ R_late p q w R = some (a, R') ∧ Rl n P Q C' R' := by
  rcases h.pr q (R' := R) rfl with ⟨⟨g1, g2⟩, -⟩ | ⟨q, hq, rfl, g1, g2⟩
  · refine ⟨-1, C, R, ?_, ?_, h⟩
    · unfold C_late; rw [g1, bnd_s, if_pos rfl]
    · unfold R_late
      rcases isIn_c (M := C) (M' := R) p 0 400 0 400 rfl rfl (by omega) (by omega) with ⟨⟨f1, f2⟩, -⟩ | ⟨k, k1, k2, rfl, f1, f2⟩
      · rw [f2, bnd_s, if_pos rfl]
      · rw [f2, bnd_s, if_neg i10, g2, bnd_s, if_pos rfl]
  · rcases isIn_c (M := C) (M' := R) p 0 400 0 400 rfl rfl (by omega) (by omega) with ⟨⟨f1, f2⟩, -⟩ | ⟨N, N1, N2, rfl, f1, f2⟩
    · refine ⟨-1, C, R, ?_, ?_, h⟩
      · unfold C_late; rw [g1, bnd_s, if_neg i10, f1, bnd_s, if_pos rfl]
      · unfold R_late; rw [f2, bnd_s, if_pos rfl]
    · rcases int_c w with e | ⟨b, hb, rfl⟩
      · have e' : ¬ 0 ≤ w := by
          rw [i32_lt] at e
          rw [i32_le]
          omega
        refine ⟨-1, C, R, ?_, ?_, h⟩
        · unfold C_late; rw [g1, bnd_s, if_neg i10, f1, bnd_s, if_neg i10, if_neg e']
        · unfold R_late; rw [f2, bnd_s, if_neg i10, g2, bnd_s, if_neg i10, if_neg e']
      · obtain ⟨d0, ⟨s, t, c, ht, hS⟩, -, -⟩ := h.di hq
        obtain ⟨C2, σ, M4, a1, a2, a3, a4, a5, a6⟩ := above_sim hS h.PQ ht N2 hb
        have hn := a4.n6
        have hne := a4.ne.1
        obtain ⟨-, -, -, -, c13⟩ := a4.cnt hq
        refine ⟨nI (fA σ.ev q b σ.ne), C2, mkR σ.m 758 σ.D σ.F, ?_, ?_, h.sm a6 (a5.sm _ _)⟩
        · unfold C_late
          rw [g1, bnd_s, if_neg i10, f1, bnd_s, if_neg i10, if_pos (nI_pos' hb), a1, bnd_s, grd_t rfl, ald_n (by omega) (by omega), ix_nI (by omega), c13]
        · unfold R_late
          rw [f2, bnd_s, if_neg i10, g2, bnd_s, if_neg i10, if_pos (nI_pos' hb), a2, bnd_s, a3, bnd_s, lett_e, lett_e]
          exact late_loop (a4.le.mkR _ _) (by omega) a4.ne.2.2 hn (by omega) hb (fun v => some (v, mkR σ.m 758 σ.D σ.F))
/-! when -/
theorem fE0_s (ev : Evs) (i ne : Nat) : fE ev (some i) 0 (ne + 1) = fE ev (some i) 0 ne + (if (ev ne).2.1 = i then 1 else 0) := by
  rw [fE_s]
  by_cases e : (ev ne).2.1 = i
  · rw [if_pos (Or.inr (congrArg some e.symm)), if_neg (show ¬ (0 : Nat) = 3 by omega), if_pos (show (0 : Nat) = 0 from rfl), if_pos e]
  · rw [if_neg (by rintro (h | h); exact absurd h (by simp); exact e (Option.some.inj h).symm), if_neg e, Nat.add_zero]
theorem fE0_mono (ev : Evs) (i : Nat) {a b : Nat} (h : a ≤ b) : fE ev (some i) 0 a ≤ fE ev (some i) 0 b := by
  induction b with
  | zero => rw [show a = 0 by omega]; omega
  | succ b ih =>
    by_cases e : a = b + 1
    · rw [e]; omega
    · have := ih (by omega)
      rw [fE0_s]
      omega
theorem fE0_le (ev : Evs) (i a : Nat) : fE ev (some i) 0 a ≤ a := by
  induction a with
  | zero => rw [fE_0]; omega
  | succ a ih => rw [fE0_s]; split <;> omega
theorem R_when_loop {M : Mm} {n k ne q p : Nat} {ev : Evs} (hl : LE M ne ev) (hne : ne ≤ 400) (ho : ∀ j, j < ne → oke n k (ev j)) (hn : n ≤ 6) (hq : q < 6) (hp : p < 1000) (N : Nat) (hN : N ≤ ne) (h1 : ∀ j, j < N → fE ev (some q) 0 (j + 1) < p) (r : Option (Int32 × Mm)) (hr : ∀ rec : (Int32 × Int32) → Option (Int32 × Mm), (if (gI M 0 57) ≤ nI N then
 (some ((-1 : Int32), M))
 else
 (ald (((4 : Int32) * nI N) + (1 : Int32)) 1604 (lett (fun (w_8 : Int32) =>
 lett (nI (fE ev (some q) 0 N) + w_8) fun v10 =>
 if v10 = nI p then
 (ald ((4 : Int32) * nI N) 1604 (some ((gI M 20 (ix ((4 : Int32) * nI N))), M)))
 else
 (lett (nI N + (1 : Int32)) fun v11 =>
 rec (v10, v11))) fun j66 =>
 if (gI M 20 (ix (((4 : Int32) * nI N) + (1 : Int32)))) = nI q then
 (j66 (1 : Int32))
 else
 (j66 (0 : Int32))))) = r) : (loopR (fun (rec36 : (Int32 × Int32) → Option (Int32 × Mm)) (x8 : Int32 × Int32) =>
 if (gI M 0 57) ≤ x8.2 then
 (some ((-1 : Int32), M))
 else
 (ald (((4 : Int32) * x8.2) + (1 : Int32)) 1604 (lett (fun (w_8 : Int32) =>
 lett (x8.1 + w_8) fun v10 =>
 if v10 = nI p then
 (ald ((4 : Int32) * x8.2) 1604 (some ((gI M 20 (ix ((4 : Int32) * x8.2))), M)))
 else
 (lett (x8.2 + (1 : Int32)) fun v11 =>
 rec36 (v10, v11))) fun j66 =>
 if (gI M 20 (ix (((4 : Int32) * x8.2) + (1 : Int32)))) = nI q then
 (j66 (1 : Int32))
 else
 (j66 (0 : Int32))))) 1000000 ((0 : Int32), (0 : Int32))) = r := by
  refine loopR_sq (fun i => (nI (fE ev (some q) 0 i), nI i)) N (by omega) rfl (fun i hi rec => ?_) (fun rec => hr rec)
  obtain ⟨l1, l2, l3, l4⟩ := hl.2 i (by omega)
  obtain ⟨-, -, o1, -⟩ := ho i (by omega)
  have hlt := h1 i hi
  have hs := fE0_s ev q i
  simp only [lett_e, nM_4, nA_0, nA_1]
  rw [hl.1, if_neg (nI_ge (show i < ne by omega) (by omega)), ald_n (by omega) (by omega), ix_nI (by omega), l2]
  by_cases e : (ev i).2.1 = q
  · rw [if_pos e] at hs
    rw [if_pos (congrArg nI e), if_neg (fun h => by have := (nI_eq (by omega) (by omega)).mp h; omega), hs]
  · rw [if_neg e] at hs
    rw [if_neg (fun h => e ((nI_eq (by omega) (by omega)).mp h)), if_neg (fun h => by have := (nI_eq (by omega) (by omega)).mp h; omega), hs, Nat.add_zero]
theorem when_sim (h : Rl n P Q C R) (p q : Int32) : ∃ a C' R', C_when p q C = some (a, C') ∧ R_when p q R = some (a, R') ∧ Rl n P Q C' R' := by
  rcases h.pr p (R' := R) rfl with ⟨⟨g1, g2⟩, -⟩ | ⟨p, hp, rfl, g1, g2⟩
  · refine ⟨-1, C, R, ?_, ?_, h⟩
    · unfold C_when; rw [g1, bnd_s, if_pos rfl]
    · unfold R_when
      rcases isIn_c (M := C) (M' := R) q 1 40 1 40 rfl rfl (by omega) (by omega) with ⟨⟨f1, f2⟩, -⟩ | ⟨k, k1, k2, rfl, f1, f2⟩
      · rw [f2, bnd_s, if_pos rfl]
      · rw [f2, bnd_s, if_neg i10, g2, bnd_s, if_pos rfl]
  · rcases isIn_c (M := C) (M' := R) q 1 40 1 40 rfl rfl (by omega) (by omega) with ⟨⟨f1, f2⟩, -⟩ | ⟨w, w1, w2, rfl, f1, f2⟩
    · refine ⟨-1, C, R, ?_, ?_, h⟩
      · unfold C_when; rw [g1, bnd_s, if_neg i10, f1, bnd_s, if_pos rfl]
      · unfold R_when; rw [f2, bnd_s, if_pos rfl]
    · obtain ⟨d0, ⟨s, t, c, ht, hS⟩, -, -⟩ := h.di hp
      obtain ⟨C1, σ, a1, a2, a3, a4, a5, -, a6, -⟩ := start_ahead hS h.PQ
      have hn := a3.n6
      obtain ⟨f, f0, fA, fS⟩ := chain_ahead a3 h.PQ 400 (by omega) (by omega)
      have fW : ∀ i, i < 400 → AW n i (f i).1 (f (i + 1)).1 := fun i hi => (fS i hi).1
      have e2 := R_for_ahead (f := fun i => (f i).1) fW (by omega)
      have e2' : R_goesOnFor 400 (mkR σ.m 758 σ.D σ.F) = some (mkR (f 400).1.m 758 (f 400).1.D (f 400).1.F) := by
        rw [f0] at e2
        exact e2
      have hfm : Fm R (f 400).1 := Fm.seq (f := fun i => (f i).1) (by rw [f0]; exact a4) fW
      have A4 := (fA 400 (Nat.le_refl _)).1
      have hl := A4.le.mkR (f 400).1.D (f 400).1.F
      obtain ⟨ne, hne⟩ : ∃ ne, ne = (f 400).1.ne := ⟨_, rfl⟩
      obtain ⟨ev, hev⟩ : ∃ ev, ev = (f 400).1.ev := ⟨_, rfl⟩
      have hno := A4.ne
      rw [← hne, ← hev] at hl hno
      have cn : ∀ i, i ≤ 400 → gI (f i).2 (54 + 2 * p) 9 = nI (fE ev (some p) 0 (f i).1.ne) ∧ (f i).1.ne ≤ ne ∧ (∀ j, j < (f i).1.ne → (ev j).1 ≤ i) ∧ ∀ j, (f i).1.ne ≤ j → j < ne → i < (ev j).1 := fun i hi => by
        have m := ev_mono (f := fun i => (f i).1) fW (i := i) (d := 400 - i) (by omega)
        rw [show i + (400 - i) = 400 by omega] at m
        obtain ⟨m1, m2, m3, -⟩ := m
        try dsimp only at m1 m2 m3
        rw [← hne, ← hev] at *
        have A := (fA i hi).1
        refine ⟨?_, m1, fun j hj => ?_, fun j h1 h2 => (m3 j h1 h2).1⟩
        · rw [(A.cnt hp).1, fE_cg (fun j hj => m2 j hj)]
        · rw [m2 j hj]
          exact (A.ne.2.2 j hj).2.1
      have rl : ∀ i, i ≤ 400 → Rl n P Q (f i).2 (mkR (f 400).1.m 758 (f 400).1.D (f 400).1.F) := fun i hi => h.sm (a5.tr (fA i hi).2) (hfm.sm _ _)
      -- the class stops at T or not at all
      have cls : ∀ (T : Nat) (r : Option (Int32 × Mm)), T ≤ 400 → (∀ i, i < T → fE ev (some p) 0 (f (i + 1)).1.ne < w) → (∀ rec : (Int32 × Mm) → Option (Int32 × Mm), (if (400 : Int32) < nI (T + 1) then
 (some ((-1 : Int32), (f T).2))
 else
 (plnS (f T).2 46 fun q8 =>
 bnd (S_run (1 : Int32) (sbM (emS 46 q8) (f T).2)) fun x7 =>
 lett (inM (dmS 46 q8) kpS (f T).2 x7) fun M10 =>
 if (gI M10 (54 + 2 * ix (nI p)) 9) < nI w then
 (lett (nI (T + 1) + (1 : Int32)) fun v11 =>
 rec (v11, M10))
 else
 (some (nI (T + 1), M10)))) = r) → C_when (nI p) (nI w) C = r := fun T r hT hlt hr => by
        unfold C_when
        rw [g1, bnd_s, if_neg i10, f1, bnd_s, if_neg i10, a1, bnd_s, grd_t rfl, ald_n (by omega) (by omega), lett_e]
        refine loopR_sq (fun i => (nI (i + 1), (f i).2)) T (by omega) (by rw [f0]; rfl) (fun i hi rec => ?_) (fun rec => hr rec)
        obtain ⟨-, z, z1, z2⟩ := fS i (by omega)
        have c1 := cn (i + 1) (by omega)
        have hlt1 := hlt i hi
        dsimp only
        rw [if_neg (lt_f 400 400 rfl (by omega) (by omega)), plnS_e _ (fA i (by omega)).1.2.2.2.2 h.PQ, z1, bnd_s, lett_e, ← z2, ix_nI (by omega), c1.1, if_pos ((nI_ltI (by omega) (by omega)).mpr hlt1), lett_e, nA_1]
      by_cases e : fE ev (some p) 0 ne < w
      · refine ⟨-1, (f 400).2, mkR (f 400).1.m 758 (f 400).1.D (f 400).1.F, ?_, ?_, rl 400 (Nat.le_refl _)⟩
        · refine cls 400 _ (Nat.le_refl _) (fun i hi => ?_) (fun rec => ?_)
          · have := fE0_mono ev p (cn (i + 1) (by omega)).2.1
            omega
          · rw [if_pos (by decide)]
        · unfold R_when
          rw [f2, bnd_s, if_neg i10, g2, bnd_s, if_neg i10, a2, bnd_s, e2', bnd_s, lett_e, lett_e, lett_e]
          refine R_when_loop hl (by omega) hno.2.2 hn (by omega) (by omega) ne (Nat.le_refl _) (fun j hj => ?_) _ (fun rec => ?_)
          · have := fE0_mono ev p (show j + 1 ≤ ne by omega)
            omega
          · rw [hl.1, if_pos (nI_le (Nat.le_refl _) (by omega))]
      · obtain ⟨J, hJ1, hJ2⟩ := pk_least (fun J => w ≤ fE ev (some p) 0 J) ⟨ne, by omega⟩
        have hJ0 : J ≠ 0 := by
          intro e0
          rw [e0, fE_0] at hJ1
          omega
        obtain ⟨j, rfl⟩ : ∃ j, J = j + 1 := ⟨J - 1, by omega⟩
        have hj : fE ev (some p) 0 j < w := by have := hJ2 j (by omega); omega
        have hs := fE0_s ev p j
        have hjne : j < ne := by
          rcases Nat.lt_or_ge j ne with h | h
          · exact h
          · have := fE0_mono ev p h
            omega
        have hev1 : (ev j).2.1 = p := by
          rcases Nat.decEq (ev j).2.1 p with h | h
          · rw [if_neg h] at hs
            omega
          · exact h
        rw [if_pos hev1] at hs
        obtain ⟨o1, o2, o3, -⟩ := hno.2.2 j hjne
        obtain ⟨l1, l2, l3, l4⟩ := hl.2 j hjne
        obtain ⟨T, hT⟩ : ∃ T, T + 1 = (ev j).1 := ⟨(ev j).1 - 1, by omega⟩
        refine ⟨nI (T + 1), (f (T + 1)).2, mkR (f 400).1.m 758 (f 400).1.D (f 400).1.F, ?_, ?_, rl (T + 1) (by omega)⟩
        · refine cls T _ (by omega) (fun i hi => ?_) (fun rec => ?_)
          · obtain ⟨-, c2, c3, -⟩ := cn (i + 1) (by omega)
            have hle : (f (i + 1)).1.ne ≤ j := by
              rcases Nat.lt_or_ge j (f (i + 1)).1.ne with h | h
              · have := c3 j h
                omega
              · exact h
            have := fE0_mono ev p hle
            omega
          · obtain ⟨-, z, z1, z2⟩ := fS T (by omega)
            obtain ⟨c1, c2, -, c4⟩ := cn (T + 1) (by omega)
            have hge : j + 1 ≤ (f (T + 1)).1.ne := by
              rcases Nat.lt_or_ge j (f (T + 1)).1.ne with h | h
              · exact h
              · have := c4 j h hjne
                omega
            have hm := fE0_mono ev p hge
            have hlim := fE0_le ev p (f (T + 1)).1.ne
            rw [if_neg (lt_f 400 400 rfl (by omega) (by omega)), plnS_e _ (fA T (by omega)).1.2.2.2.2 h.PQ, z1, bnd_s, lett_e, ← z2, ix_nI (by omega), c1, if_neg (nI_nlt (by omega) (by omega))]
        · unfold R_when
          rw [f2, bnd_s, if_neg i10, g2, bnd_s, if_neg i10, a2, bnd_s, e2', bnd_s, lett_e, lett_e, lett_e]
          refine R_when_loop hl (by omega) hno.2.2 hn (by omega) (by omega) j (by omega) (fun i hi => ?_) _ (fun rec => ?_)
          · have := fE0_mono ev p (show i + 1 ≤ j by omega)
            omega
          · simp only [lett_e, nM_4, nA_0, nA_1]
            rw [hl.1, if_neg (nI_ge hjne (by omega)), ald_n (by omega) (by omega), ix_nI (by omega), l2, if_pos (congrArg nI hev1), if_pos (congrArg nI (by omega)), ald_n (by omega) (by omega), ix_nI (by omega), l1, hT]
end TOLD
