/-! PURE: least, expiry, worst -/
theorem fE1_mono (ev : Evs) (i : Nat) {a b : Nat} (h : a ≤ b) : fE ev (some i) 1 a ≤ fE ev (some i) 1 b := by
  induction b with
  | zero => rw [show a = 0 by omega]; omega
  | succ b ih =>
    by_cases e : a = b + 1
    · rw [e]; omega
    · have := ih (by omega)
      rw [fE1_s]
      omega
section LEAST
variable {n s t b k P Q c : Nat} {C C' R : Mm} {σ σ' : Sta}
theorem reaches_sim (h : Rl n P Q C R) {q : Nat} (hq : q < n) {N w g : Nat} (hN : N ≤ 400) (hw : 1 ≤ w ∧ w ≤ 100) (hg : g < 2 ^ 31) : ∃ v C1 C' M5 M6 R', C_startAhead C = some (46, C1) ∧ C_reaches (nI N) (nI q) (nI g) (sI C1 (54 + 2 * q) 0 (nI w)) = some (if v < g then 0 else 1, C') ∧ R_tries R = some M5 ∧ R_sets (nI q) 0 (nI w) M5 = some M6 ∧ R_goesOnFor (nI N) M6 = some R' ∧ R_ofEvents (nI q) 1 R' = some (nI v) ∧ v < 2 ^ 30 ∧ Rl n P Q C' R' := by
  obtain ⟨d0, ⟨s, t, c, ht, hS⟩, -, -⟩ := h.di hq
  obtain ⟨C1, σ, a1, a2, a3, a4, a5, aD, a6, -⟩ := start_ahead hS h.PQ
  have hn := a3.n6
  have hPl := h.1.le
  have a7 := a3.set hPl.1 (a := 8 + 2 * q) (i := 0) (j := 18 + 14 * q + 0) (v := nI w) (lP_0 ⟨hq, hn⟩) (a3.1.2.2.1.sW hn hq ⟨w, hw.1, by omega, rfl⟩) (Or.inr ⟨q, hq, rfl, Or.inl rfl⟩) (Or.inr (Or.inr ⟨q, hq, Or.inl rfl⟩))
  have cs : CSm C1 (sI C1 (54 + 2 * q) 0 (nI w)) := by
    rw [show 54 + 2 * q = 46 + (8 + 2 * q) by omega]
    exact set_csm (by omega)
  rw [show 46 + (8 + 2 * q) = 54 + 2 * q by omega] at a7
  obtain ⟨f, f0, fI, fS⟩ := chain_ahead a7 h.PQ N hN (by omega)
  have fW : ∀ i, i < N → AW n i (f i).1 (f (i + 1)).1 := fun i hi => (fS i hi).1
  have e2 := R_for_ahead (f := fun i => (f i).1) fW hN
  have e2' : R_goesOnFor (nI N) (mkR σ.m 758 (updD σ.D (18 + 14 * q + 0) (nI w)) σ.F) = some (mkR (f N).1.m 758 (f N).1.D (f N).1.F) := by
    rw [f0] at e2
    exact e2
  have hfm : Fm R (f N).1 := Fm.seq (f := fun i => (f i).1) (by rw [f0]; exact a4) fW
  have A4 := (fI N (Nat.le_refl _)).1
  have hev := A4.events hN (Or.inr ⟨q, by omega, rfl, rfl⟩) 1 (wI := 1) (by omega) rfl
  have hb : fE (f N).1.ev (some q) 1 (f N).1.ne ≤ 16000 * (f N).1.ne := fE_le A4.ne.2.2
  have hne := A4.ne.1
  have cn : ∀ i, i ≤ N → gI (f i).2 (54 + 2 * q) 10 = nI (fE (f N).1.ev (some q) 1 (f i).1.ne) ∧ fE (f N).1.ev (some q) 1 (f i).1.ne ≤ fE (f N).1.ev (some q) 1 (f N).1.ne := fun i hi => by
    have m := ev_mono (f := fun i => (f i).1) fW (i := i) (d := N - i) (by omega)
    rw [show i + (N - i) = N by omega] at m
    obtain ⟨m1, m2, -⟩ := m
    try dsimp only at m1 m2
    have A := (fI i hi).1
    refine ⟨?_, fE1_mono _ _ m1⟩
    rw [(A.cnt hq).2.1, fE_cg (fun j hj => m2 j hj)]
  obtain ⟨T, hT1, hT2⟩ := pk_least (fun i => i = N ∨ g ≤ fE (f N).1.ev (some q) 1 (f i).1.ne) ⟨N, Or.inl rfl⟩
  have hT : T ≤ N := by
    rcases Nat.lt_or_ge N T with h | h
    · exact absurd (Or.inl rfl) (hT2 N h)
    · exact h
  refine ⟨fE (f N).1.ev (some q) 1 (f N).1.ne, C1, (f T).2, _, _, _, a1, ?_, a2, (R_sets_p (k := 0)).trans (rpn (Or.inr rfl) (by omega) _), e2', hev, by omega, h.sm ((a5.tr cs).tr (fI T hT).2) (hfm.sm _ _)⟩
  unfold C_reaches
  rw [ald_n (by omega) (by omega), lett_e, lett_e]
  refine loopR_sq (fun i => (nI i, (f i).2)) T (by omega) (by rw [f0]; rfl) (fun i hi rec => ?_) (fun rec => ?_)
  · obtain ⟨-, z, z1, z2⟩ := fS i (by omega)
    have hi2 := hT2 i hi
    have c1 := cn i (by omega)
    have h3 : fE (f N).1.ev (some q) 1 (f i).1.ne < g := by
      rcases Nat.lt_or_ge (fE (f N).1.ev (some q) 1 (f i).1.ne) g with h | h
      · exact h
      · exact absurd (Or.inr h) hi2
    dsimp only
    rw [if_neg (nI_ge (show i < N by omega) (by omega)), ix_nI (by omega), c1.1, if_neg (nI_ge h3 hg), plnS_e _ (fI i (by omega)).1.2.2.2.2 h.PQ, z1, bnd_s, lett_e, lett_e, nA_1, ← z2]
  · have c1 := cn T hT
    dsimp only
    rw [ix_nI (by omega), c1.1]
    by_cases e : T = N
    · rw [if_pos (nI_le (by omega) (by omega)), e]
      by_cases e3 : fE (f N).1.ev (some q) 1 (f N).1.ne < g
      · rw [if_pos ((nI_ltI (by omega) hg).mpr e3), if_pos e3]
      · rw [if_neg (nI_nlt (by omega) (by omega)), if_neg e3]
    · have h3 : g ≤ fE (f N).1.ev (some q) 1 (f T).1.ne := by
        rcases hT1 with h | h
        · exact absurd h e
        · exact h
      rw [if_neg (nI_ge (by omega) (by omega)), if_pos (nI_le h3 (by omega)), if_neg (nI_nlt h3 (by omega)), if_neg (show ¬ fE (f N).1.ev (some q) 1 (f N).1.ne < g by omega)]
theorem least_sim (h : Rl n P Q C R) (p q w : Int32) : ∃ a C' R', C_least p q w C = some (a, C') ∧ R_least p q w R = some (a, R') ∧ Rl n P Q C' R' := by
  rcases h.pr q (R' := R) rfl with ⟨⟨g1, g2⟩, -⟩ | ⟨q, hq, rfl, g1, g2⟩
  · refine ⟨-1, C, R, ?_, ?_, h⟩
    · unfold C_least; rw [g1, bnd_s, if_pos rfl]
    · unfold R_least
      rcases isIn_c (M := C) (M' := R) p 1 100 1 100 rfl rfl (by omega) (by omega) with ⟨⟨f1, f2⟩, -⟩ | ⟨k, k1, k2, rfl, f1, f2⟩
      · rw [f2, bnd_s, if_pos rfl]
      · rw [f2, bnd_s, if_neg i10, g2, bnd_s, if_pos rfl]
  · rcases isIn_c (M := C) (M' := R) p 1 100 1 100 rfl rfl (by omega) (by omega) with ⟨⟨f1, f2⟩, -⟩ | ⟨N, N1, N2, rfl, f1, f2⟩
    · refine ⟨-1, C, R, ?_, ?_, h⟩
      · unfold C_least; rw [g1, bnd_s, if_neg i10, f1, bnd_s, if_pos rfl]
      · unfold R_least; rw [f2, bnd_s, if_pos rfl]
    · by_cases hw : (1 : Int32) ≤ w
      · obtain ⟨g, hg0, hg, rfl⟩ : ∃ g, 1 ≤ g ∧ g < 2 ^ 31 ∧ w = nI g := by
          rcases int_c w with e | ⟨g, hg, rfl⟩
          · rw [i32_lt, show (0 : Int32).toInt = 0 from rfl] at e
            rw [i32_le, show (1 : Int32).toInt = 1 from rfl] at hw
            omega
          · refine ⟨g, ?_, hg, rfl⟩
            rw [i32_le, show (1 : Int32).toInt = 1 from rfl, nI_toInt hg] at hw
            omega
        have hn := h.cnt.2.2
        obtain ⟨f, f0, fI, fS⟩ := seqN (α := Nat × Mm × Mm) (fun i x => Rl n P Q x.2.1 x.2.2) (fun i x y => ∃ C1 M5 M6, C_startAhead x.2.1 = some (46, C1) ∧ C_reaches (nI N) (nI q) (nI g) (sI C1 (54 + 2 * q) 0 (nI (i + 1))) = some (if y.1 < g then 0 else 1, y.2.1) ∧ R_tries x.2.2 = some M5 ∧ R_sets (nI q) 0 (nI (i + 1)) M5 = some M6 ∧ R_goesOnFor (nI N) M6 = some y.2.2 ∧ R_ofEvents (nI q) 1 y.2.2 = some (nI y.1) ∧ y.1 < 2 ^ 30) (a := (0, C, R)) h 100 (fun i x hi hI => by
          obtain ⟨v, C1, C', M5, M6, R', d1, d2, d3, d4, d5, d6, d7, d8⟩ := reaches_sim hI hq (N := N) (w := i + 1) (g := g) (by omega) (by omega) hg
          exact ⟨(v, C', R'), ⟨C1, M5, M6, d1, d2, d3, d4, d5, d6, d7⟩, d8⟩)
        obtain ⟨T, hT1, hT2⟩ := pk_least (fun i => i = 100 ∨ g ≤ (f (i + 1)).1) ⟨100, Or.inl rfl⟩
        have hT : T ≤ 100 := by
          rcases Nat.lt_or_ge 100 T with h | h
          · exact absurd (Or.inl rfl) (hT2 100 h)
          · exact h
        have hlt : ∀ i, i < T → (f (i + 1)).1 < g := fun i hi => by
          rcases Nat.lt_or_ge (f (i + 1)).1 g with h | h
          · exact h
          · exact absurd (Or.inr h) (hT2 i hi)
        have cls : ∀ r, (∀ rec : (Int32 × Mm) → Option (Int32 × Mm), (if (100 : Int32) < nI (T + 1) then
 (some ((-1 : Int32), (f T).2.1))
 else
 (bnd (C_startAhead (f T).2.1) fun r5 =>
 grd (r5.1 = 46) (ald (nI q) 6 (lett (sI r5.2 (54 + 2 * ix (nI q)) 0 (nI (T + 1))) fun M7 =>
 bnd (C_reaches (nI N) (nI q) (nI g) M7) fun r8 =>
 if r8.1 = 0 then
 (lett (nI (T + 1) + (1 : Int32)) fun v9 =>
 rec (v9, r8.2))
 else
 (some (nI (T + 1), r8.2)))))) = r) → C_least (nI N) (nI q) (nI g) C = r := fun r hr => by
          unfold C_least
          rw [g1, bnd_s, if_neg i10, f1, bnd_s, if_neg i10, if_pos hw, lett_e]
          refine loopR_sq (fun i => (nI (i + 1), (f i).2.1)) T (by omega) (by rw [f0]; rfl) (fun i hi rec => ?_) (fun rec => hr rec)
          obtain ⟨C1, M5, M6, d1, d2, -⟩ := fS i (by omega)
          rw [if_pos (hlt i hi)] at d2
          dsimp only
          rw [if_neg (lt_f 100 100 rfl (by omega) (by omega)), d1, bnd_s, grd_t rfl, ald_n (by omega) (by omega), lett_e, ix_nI (by omega), d2, bnd_s, if_pos rfl, lett_e, nA_1]
        have rfr : ∀ r, (∀ rec : (Int32 × Mm) → Option (Int32 × Mm), (if (100 : Int32) < nI (T + 1) then
 (some ((-1 : Int32), (f T).2.2))
 else
 (bnd (R_tries (f T).2.2) fun M5 =>
 bnd (R_sets (nI q) (0 : Int32) (nI (T + 1)) M5) fun M6 =>
 bnd (R_goesOnFor (nI N) M6) fun M7 =>
 bnd (R_ofEvents (nI q) (1 : Int32) M7) fun r8 =>
 if r8 < nI g then
 (lett (nI (T + 1) + (1 : Int32)) fun v9 =>
 rec (v9, M7))
 else
 (some (nI (T + 1), M7)))) = r) → R_least (nI N) (nI q) (nI g) R = r := fun r hr => by
          unfold R_least
          rw [f2, bnd_s, if_neg i10, g2, bnd_s, if_neg i10, if_pos hw, lett_e]
          refine loopR_sq (fun i => (nI (i + 1), (f i).2.2)) T (by omega) (by rw [f0]; rfl) (fun i hi rec => ?_) (fun rec => hr rec)
          obtain ⟨C1, M5, M6, -, -, d3, d4, d5, d6, d7⟩ := fS i (by omega)
          dsimp only
          rw [if_neg (lt_f 100 100 rfl (by omega) (by omega)), d3, bnd_s, d4, bnd_s, d5, bnd_s, d6, bnd_s, if_pos ((nI_ltI (by omega) hg).mpr (hlt i hi)), lett_e, nA_1]
        by_cases e : T = 100
        · refine ⟨-1, (f T).2.1, (f T).2.2, cls _ (fun rec => ?_), rfr _ (fun rec => ?_), fI T hT⟩
          · rw [if_pos (lt_t 100 100 rfl (by omega) (by omega))]
          · rw [if_pos (lt_t 100 100 rfl (by omega) (by omega))]
        · have hge : g ≤ (f (T + 1)).1 := by
            rcases hT1 with h | h
            · exact absurd h e
            · exact h
          obtain ⟨C1, M5, M6, d1, d2, d3, d4, d5, d6, d7⟩ := fS T (by omega)
          rw [if_neg (show ¬ (f (T + 1)).1 < g by omega)] at d2
          refine ⟨nI (T + 1), (f (T + 1)).2.1, (f (T + 1)).2.2, cls _ (fun rec => ?_), rfr _ (fun rec => ?_), fI (T + 1) (by omega)⟩
          · rw [if_neg (lt_f 100 100 rfl (by omega) (by omega)), d1, bnd_s, grd_t rfl, ald_n (by omega) (by omega), lett_e, ix_nI (by omega), d2, bnd_s, if_neg i10]
          · rw [if_neg (lt_f 100 100 rfl (by omega) (by omega)), d3, bnd_s, d4, bnd_s, d5, bnd_s, d6, bnd_s, if_neg (nI_nlt hge (by omega))]
      · refine ⟨-1, C, R, ?_, ?_, h⟩
        · unfold C_least; rw [g1, bnd_s, if_neg i10, f1, bnd_s, if_neg i10, if_neg hw]
        · unfold R_least; rw [f2, bnd_s, if_neg i10, g2, bnd_s, if_neg i10, if_neg hw]
/-! expiry -/
theorem Ah.kt (h : Ah n s t b k P C σ) (hk4 : k ≤ 400) : gI C 52 1 = nI σ.nx ∧ (0 < σ.nx → ∀ w, 1 ≤ w → w ≤ 3 → S_KTell (nI (min σ.nx 40 - 1)) (nI w) (sbM (emS 46 P) C) = some (if w = 1 then (σ.xv (σ.nx - 1)).2.1 else if w = 2 then (σ.xv (σ.nx - 1)).2.2.1 else (σ.xv (σ.nx - 1)).2.2.2)) ∧ S_KTold (sbM (emS 46 P) C) = some (mminI (nI σ.nx) 40) := by
  obtain ⟨k1, k2⟩ := h.1.2.2.2.2.2.2.2.2.2.2.2.1
  rw [h.2.1] at k1 k2
  refine ⟨k1, fun h0 w w1 w2 => ?_, ?_⟩
  · obtain ⟨q1, q2, q3⟩ := k2 h0
    have hx := h.ne.2.1
    have hk : σ.nx < 2 ^ 30 := by omega
    unfold S_KTell S_KTold
    rw [if_neg (nI_pos (by omega)), if_pos (nlt_t 4 4 rfl (by omega) (by omega)), bnd_s, k1, told_n (by omega), pk_sub (by omega), nI_add, lett_e, show σ.nx - min σ.nx 40 + (min σ.nx 40 - 1) = σ.nx - 1 by omega, if_pos (nI_pos' (by omega)), show (40 : Int32) = nI 40 from rfl, pk_rem (by omega) (by omega) (by omega), show (4 : Int32) = nI 4 from rfl, pk_mul, nI_add, ald_n (by omega) (by omega), ix_nI (by omega)]
    rcases (show w = 1 ∨ w = 2 ∨ w = 3 by omega) with rfl | rfl | rfl
    · rw [q1, if_pos rfl]
    · rw [q2, if_neg (by omega), if_pos rfl]
    · rw [q3, if_neg (by omega), if_neg (by omega)]
  · unfold S_KTold
    rw [k1]
theorem expiry_sim (h : Rl n P Q C R) (p q : Int32) : ∃ a C' R', C_expiry p q C = some (a, C') ∧ R_expiry p q R = some (a, R') ∧ Rl n P Q C' R' := by
  rcases h.hd with ⟨h8, g1, g2⟩ | ⟨h8, g1, g2⟩
  · refine ⟨-1, C, R, ?_, ?_, h⟩
    · unfold C_expiry; rw [g1, bnd_s, if_pos rfl]
    · unfold R_expiry; rw [g2, if_pos rfl]
  · obtain ⟨d0, ⟨s, t, c, ht, hS⟩, -, -⟩ := h8
    obtain ⟨C1, σ, a1, a2, a3, a4, a5, -, -, a6⟩ := start_ahead hS h.PQ
    have hn := a3.n6
    obtain ⟨f, f0, fI, fS⟩ := chain_ahead a3 h.PQ 400 (by omega) (by omega)
    have fW : ∀ i, i < 400 → AW n i (f i).1 (f (i + 1)).1 := fun i hi => (fS i hi).1
    have e2 := R_for_ahead (f := fun i => (f i).1) fW (by omega)
    have e2' : R_goesOnFor 400 (mkR σ.m 758 σ.D σ.F) = some (mkR (f 400).1.m 758 (f 400).1.D (f 400).1.F) := by
      rw [f0] at e2
      exact e2
    have hfm : Fm R (f 400).1 := Fm.seq (f := fun i => (f i).1) (by rw [f0]; exact a4) fW
    have A4 := (fI 400 (Nat.le_refl _)).1
    have hl := A4.lx.mkR (f 400).1.D (f 400).1.F
    have hnx := A4.ne.2.1
    have rl : ∀ i, i ≤ 400 → Rl n P Q (f i).2 (mkR (f 400).1.m 758 (f 400).1.D (f 400).1.F) := fun i hi => h.sm (a5.tr (fI i hi).2) (hfm.sm _ _)
    rcases isIn_c (M := C) (M' := R) q 0 3 0 3 rfl rfl (by omega) (by omega) with ⟨⟨e1, e2⟩, -⟩ | ⟨q, q1, q2, rfl, e1, e2⟩
    · refine ⟨-1, C, R, ?_, ?_, h⟩
      · unfold C_expiry
        rcases isIn_c (M := C) (M' := R) p 0 400 0 400 rfl rfl (by omega) (by omega) with ⟨⟨f1, f2⟩, -⟩ | ⟨k, k1, k2, rfl, f1, f2⟩
        · rw [g1, bnd_s, if_neg i10, f1, bnd_s, if_pos rfl]
        · rw [g1, bnd_s, if_neg i10, f1, bnd_s, if_neg i10, e1, bnd_s, if_pos rfl]
      · unfold R_expiry; rw [g2, if_neg i10, e2, bnd_s, if_pos rfl]
    · rcases isIn_c (M := C) (M' := R) p 0 400 0 400 rfl rfl (by omega) (by omega) with ⟨⟨f1, f2⟩, f3⟩ | ⟨p, p1, p2, rfl, f1, f2⟩
      · rcases int_c p with hp | ⟨p, hp, rfl⟩
        · have e' : ¬ 0 ≤ p := by
            rw [i32_lt] at hp
            rw [i32_le]
            omega
          refine ⟨-1, C, R, ?_, ?_, h⟩
          · unfold C_expiry; rw [g1, bnd_s, if_neg i10, f1, bnd_s, if_pos rfl]
          · unfold R_expiry; rw [g2, if_neg i10, e2, bnd_s, if_neg i10, if_neg e']
        · have hp2 : 400 < p := by
            rcases Nat.lt_or_ge 400 p with h | h
            · exact h
            · exact absurd rfl (f3 p (by omega) h)
          refine ⟨-1, C, _, ?_, ?_, h.sm CSm.rf (hfm.sm (f 400).1.D (f 400).1.F)⟩
          · unfold C_expiry; rw [g1, bnd_s, if_neg i10, f1, bnd_s, if_pos rfl]
          · unfold R_expiry; rw [g2, if_neg i10, e2, bnd_s, if_neg i10, if_pos (nI_pos' hp), a2, bnd_s, e2', bnd_s, hl.1, if_pos (nI_le (by omega) hp)]
      · obtain ⟨T, hT1, hT2⟩ := pk_least (fun i => i = 400 ∨ p < (f (i + 1)).1.nx) ⟨400, Or.inl rfl⟩
        have hT : T ≤ 400 := by
          rcases Nat.lt_or_ge 400 T with h | h
          · exact absurd (Or.inl rfl) (hT2 400 h)
          · exact h
        have hle : ∀ i, i < T → (f (i + 1)).1.nx ≤ p := fun i hi => by
          rcases Nat.lt_or_ge p (f (i + 1)).1.nx with h | h
          · exact absurd (Or.inr h) (hT2 i hi)
          · exact h
        have cls : ∀ r, (∀ rec : (Int32 × Mm) → Option (Int32 × Mm), (if (400 : Int32) < nI (T + 1) then
 (some ((-1 : Int32), (f T).2))
 else
 (plnS (f T).2 46 fun q18 =>
 bnd (S_run (1 : Int32) (sbM (emS 46 q18) (f T).2)) fun x17 =>
 lett (inM (dmS 46 q18) kpS (f T).2 x17) fun M20 =>
 if (gI M20 52 1) ≤ nI p then
 (lett (nI (T + 1) + (1 : Int32)) fun v21 =>
 rec (v21, M20))
 else
 (if nI q = 0 then
 (some (nI (T + 1), M20))
 else
 (plnS M20 46 fun q9 =>
 bnd (S_KTold (sbM (emS 46 q9) M20)) fun r8 =>
 plnS M20 46 fun q13 =>
 bnd (S_KTell (r8 - (1 : Int32)) (nI q) (sbM (emS 46 q13) M20)) fun r12 =>
 some (r12, M20))))) = r) → C_expiry (nI p) (nI q) C = r := fun r hr => by
          unfold C_expiry
          rw [g1, bnd_s, if_neg i10, f1, bnd_s, if_neg i10, e1, bnd_s, if_neg i10, a1, bnd_s, grd_t rfl, lett_e, lett_e]
          refine loopR_sq (fun i => (nI (i + 1), (f i).2)) T (by omega) (by rw [f0]; rfl) (fun i hi rec => ?_) (fun rec => hr rec)
          obtain ⟨-, z, z1, z2⟩ := fS i (by omega)
          have c1 := ((fI (i + 1) (by omega)).1.kt (by omega)).1
          dsimp only
          rw [if_neg (lt_f 400 400 rfl (by omega) (by omega)), plnS_e _ (fI i (by omega)).1.2.2.2.2 h.PQ, z1, bnd_s, lett_e, ← z2, c1, if_pos (nI_le (hle i hi) (by omega)), lett_e, nA_1]
        by_cases e : T = 400
        · have h4 : (f 400).1.nx ≤ p := by
            have := hle 399 (by omega)
            exact this
          refine ⟨-1, (f T).2, _, cls _ (fun rec => ?_), ?_, rl T hT⟩
          · rw [if_pos (lt_t 400 400 rfl (by omega) (by omega))]
          · unfold R_expiry; rw [g2, if_neg i10, e2, bnd_s, if_neg i10, if_pos (nI_pos' (by omega)), a2, bnd_s, e2', bnd_s, hl.1, if_pos (nI_le h4 (by omega))]
        · have hgt : p < (f (T + 1)).1.nx := by
            rcases hT1 with h | h
            · exact absurd h e
            · exact h
          have hTn : (f T).1.nx ≤ p := by
            by_cases e0 : T = 0
            · rw [e0, f0]
              show σ.nx ≤ p
              omega
            · have := hle (T - 1) (by omega)
              rwa [show T - 1 + 1 = T by omega] at this
          obtain ⟨w0, z, z1, z2⟩ := fS T (by omega)
          have hx : (f (T + 1)).1.nx = p + 1 ∧ ((f (T + 1)).1.xv p).1 = T + 1 := by
            obtain ⟨-, -, -, hx, -⟩ := w0
            rcases hx with ⟨x1, x2⟩ | ⟨x1, e, x2, x3⟩
            · omega
            · have : (f T).1.nx = p := by omega
              refine ⟨by omega, ?_⟩
              rw [x3, this, updD_s, x2]
          have m := ev_mono (f := fun i => (f i).1) fW (i := T + 1) (d := 400 - (T + 1)) (by omega)
          rw [show T + 1 + (400 - (T + 1)) = 400 by omega] at m
          obtain ⟨-, -, -, m4, m5, -⟩ := m
          try dsimp only at m4 m5
          have hxp := m5 p (by omega)
          obtain ⟨l1, l2, l3, l4⟩ := hl.2 p (by omega)
          rw [hxp] at l1 l2 l3 l4
          have kt := (fI (T + 1) (by omega)).1.kt (by omega)
          rw [hx.1] at kt
          obtain ⟨t1, t2, t3⟩ := kt
          rw [show p + 1 - 1 = p by omega] at t2
          have Ap := (fI (T + 1) (by omega)).1.2.2.2.2
          have rr : R_expiry (nI p) (nI q) R = some (gI (mkR (f 400).1.m 758 (f 400).1.D (f 400).1.F) 21 (4 * p + q), mkR (f 400).1.m 758 (f 400).1.D (f 400).1.F) := by
            unfold R_expiry; rw [g2, if_neg i10, e2, bnd_s, if_neg i10, if_pos (nI_pos' (by omega)), a2, bnd_s, e2', bnd_s, hl.1, if_neg (nI_ge (by omega) (by omega)), nM_4, nI_add, ald_n (by omega) (by omega), ix_nI (by omega)]
          refine ⟨_, (f (T + 1)).2, _, cls _ (fun rec => ?_), rr, rl (T + 1) (by omega)⟩
          rw [if_neg (lt_f 400 400 rfl (by omega) (by omega)), plnS_e _ (fI T (by omega)).1.2.2.2.2 h.PQ, z1, bnd_s, lett_e, ← z2, t1, if_neg (nI_ge (by omega) (by omega))]
          by_cases q0 : q = 0
          · rw [if_pos (by rw [q0]; rfl), q0, show 4 * p + 0 = 4 * p from rfl, l1, hx.2]
          · rw [if_neg (nI_ne0 (by omega) (by omega)), plnS_e _ Ap h.PQ, t3, bnd_s, plnS_e _ Ap h.PQ, told_n (by omega), nS_1 (by omega), t2 (by omega) q (by omega) q2, bnd_s]
            rcases (show q = 1 ∨ q = 2 ∨ q = 3 by omega) with rfl | rfl | rfl
            · rw [l2, if_pos rfl]
            · rw [l3, if_neg (by omega), if_pos rfl]
            · rw [l4, if_neg (by omega), if_neg (by omega)]
end LEAST
