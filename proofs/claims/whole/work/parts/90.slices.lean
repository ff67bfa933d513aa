/-! PURE: slicing, apart -/
section SLICES
variable {n s t b k P Q c : Nat} {C C' R : Mm} {σ σ' : Sta}
theorem Ah.top (h : Ah n s t b k P C σ) : gI C 46 18 = nI (fE σ.ev none 3 σ.ne) := by
  have hc := h.1.2.2.2.2.2.2.2.2.2.2.1.2.2.1
  rw [h.2.1] at hc
  exact hc
theorem slc_sim (h : Rl n P Q C R) (h8 : Di n P C R) {N x : Nat} (hN : N ≤ 400) (hx : 1 ≤ x ∧ x ≤ 200) : ∃ V, V < 2 ^ 24 ∧ (∀ L, L < 2 ^ 31 → ∃ v C', C_greatestBySlice (nI N) (nI x) (nI L) C = some (nI v, C') ∧ CSm C C' ∧ (v = V ∨ (L ≤ v ∧ v ≤ V))) ∧ ∃ M3 M4 R', R_tries R = some M3 ∧ R_puts 7 (nI x) M3 = some M4 ∧ R_goesOnFor (nI N) M4 = some R' ∧ R_ofEvents (-1) 3 R' = some (nI V) ∧ RSm R R' := by
  obtain ⟨d0, ⟨s, t, c, ht, hS⟩, -, -⟩ := h8
  obtain ⟨C1, σ, a1, a2, a3, a4, a5, aD, a6, -⟩ := start_ahead hS h.PQ
  have hn := a3.n6
  have hPl := h.1.le
  have a7 : Ah n s t 0 0 P (sI C1 46 17 (nI x)) _ := a3.set hPl.1 (a := 0) (i := 17) (j := 7) (v := nI x) rfl (a3.1.2.2.1.s7 hn ⟨x, hx.1, by omega, rfl⟩) (by omega) (by omega)
  obtain ⟨f, f0, fI, fS⟩ := chain_ahead a7 h.PQ N hN (by omega)
  have fW : ∀ i, i < N → AW n i (f i).1 (f (i + 1)).1 := fun i hi => (fS i hi).1
  have e2 := R_for_ahead (f := fun i => (f i).1) fW hN
  have e2' : R_goesOnFor (nI N) (mkR σ.m 758 (updD σ.D 7 (nI x)) σ.F) = some (mkR (f N).1.m 758 (f N).1.D (f N).1.F) := by
    rw [f0] at e2
    exact e2
  have hfm : Fm R (f N).1 := Fm.seq (f := fun i => (f i).1) (by rw [f0]; exact a4) fW
  have A4 := (fI N (Nat.le_refl _)).1
  have hev := A4.events hN (Or.inl ⟨rfl, rfl⟩) 3 (wI := 3) (by omega) rfl
  have hb : fE (f N).1.ev none 3 (f N).1.ne ≤ 16000 * (f N).1.ne := fE_le A4.ne.2.2
  have hne := A4.ne.1
  have cn : ∀ i, i ≤ N → gI (f i).2 46 18 = nI (fE (f N).1.ev none 3 (f i).1.ne) ∧ fE (f N).1.ev none 3 (f i).1.ne ≤ fE (f N).1.ev none 3 (f N).1.ne := fun i hi => by
    have m := ev_mono (f := fun i => (f i).1) fW (i := i) (d := N - i) (by omega)
    rw [show i + (N - i) = N by omega] at m
    obtain ⟨m1, m2, -⟩ := m
    try dsimp only at m1 m2
    have A := (fI i hi).1
    refine ⟨?_, fE3_mono _ _ m1⟩
    rw [A.top, fE_cg (fun j hj => m2 j hj)]
  refine ⟨fE (f N).1.ev none 3 (f N).1.ne, by omega, fun L hL => ?_, _, _, _, a2, rpn (Or.inr rfl) (show 7 < 758 by omega) _, e2', hev, hfm.sm _ _⟩
  obtain ⟨T, hT1, hT2⟩ := pk_least (fun i => i = N ∨ L ≤ fE (f N).1.ev none 3 (f i).1.ne) ⟨N, Or.inl rfl⟩
  have hT : T ≤ N := by
    rcases Nat.lt_or_ge N T with h | h
    · exact absurd (Or.inl rfl) (hT2 N h)
    · exact h
  refine ⟨fE (f N).1.ev none 3 (f T).1.ne, (f T).2, ?_, (a5.tr (set_csm (a := 0) (by omega))).tr (fI T hT).2, ?_⟩
  · unfold C_greatestBySlice
    rw [a1, bnd_s, grd_t rfl, lett_e, lett_e]
    refine loopR_sq (fun i => (nI i, (f i).2)) T (by omega) (by rw [f0]; rfl) (fun i hi rec => ?_) (fun rec => ?_)
    · obtain ⟨-, z, z1, z2⟩ := fS i (by omega)
      have hi2 := hT2 i hi
      have c1 := cn i (by omega)
      have h3 : fE (f N).1.ev none 3 (f i).1.ne < L := by
        rcases Nat.lt_or_ge (fE (f N).1.ev none 3 (f i).1.ne) L with h | h
        · exact h
        · exact absurd (Or.inr h) hi2
      dsimp only
      rw [if_neg (nI_ge (show i < N by omega) (by omega)), c1.1, if_neg (nI_ge h3 hL), plnS_e _ (fI i (by omega)).1.2.2.2.2 h.PQ, z1, bnd_s, lett_e, lett_e, nA_1, ← z2]
    · have c1 := cn T hT
      dsimp only
      rw [c1.1]
      by_cases e : T = N
      · rw [if_pos (nI_le (by omega) (by omega))]
      · have h3 : L ≤ fE (f N).1.ev none 3 (f T).1.ne := by
          rcases hT1 with h | h
          · exact absurd h e
          · exact h
        rw [if_neg (nI_ge (by omega) (by omega)), if_pos (nI_le h3 (by omega))]
  · rcases hT1 with h | h
    · rw [h]; exact Or.inl rfl
    · exact Or.inr ⟨h, (cn T hT).2⟩
/-- one value a slice, wherever it is asked -/
theorem slc_key (h : Rl n P Q C R) (h0 : 0 < n) {N x : Nat} (hN : N ≤ 400) (hx : 1 ≤ x ∧ x ≤ 200) : ∃ V, V < 2 ^ 24 ∧ (∀ C', CSm C C' → ∀ L, L < 2 ^ 31 → ∃ v C'', C_greatestBySlice (nI N) (nI x) (nI L) C' = some (nI v, C'') ∧ CSm C C'' ∧ (v = V ∨ (L ≤ v ∧ v ≤ V))) ∧ ∀ R', RSm R R' → ∃ M3 M4 R'', R_tries R' = some M3 ∧ R_puts 7 (nI x) M3 = some M4 ∧ R_goesOnFor (nI N) M4 = some R'' ∧ R_ofEvents (-1) 3 R'' = some (nI V) ∧ RSm R R'' := by
  obtain ⟨V, v1, v2, M3, M4, R1, v3, v4, v5, v6, v7⟩ := slc_sim h (h.di h0) hN hx
  refine ⟨V, v1, fun C' hc L hL => ?_, fun R' hr => ?_⟩
  · have h' := h.sm hc RSm.rf
    obtain ⟨V', w1, w2, N3, N4, R2, w3, w4, w5, w6, w7⟩ := slc_sim h' (h'.di h0) hN hx
    rw [v3] at w3
    cases w3
    rw [v4] at w4
    cases w4
    rw [v5] at w5
    cases w5
    rw [v6] at w6
    have e : V = V' := (nI_eq (by omega) (by omega)).mp (Option.some.inj w6)
    subst e
    obtain ⟨v, C'', y1, y2, y3⟩ := w2 L hL
    exact ⟨v, C'', y1, hc.tr y2, y3⟩
  · have h' := h.sm CSm.rf hr
    obtain ⟨V', w1, w2, N3, N4, R2, w3, w4, w5, w6, w7⟩ := slc_sim h' (h'.di h0) hN hx
    obtain ⟨a, C1, y1, -, y3⟩ := v2 2147483647 (by omega)
    obtain ⟨a', C1', z1, -, z3⟩ := w2 2147483647 (by omega)
    rw [y1] at z1
    have e := congrArg Prod.fst (Option.some.inj z1)
    have e1 : a = a' := (nI_eq (by omega) (by omega)).mp e
    have e2 : V' = V := by omega
    rw [e2] at w6
    exact ⟨N3, N4, R2, w3, w4, w5, w6, hr.tr w7⟩
theorem slicing_sim (h : Rl n P Q C R) (p q : Int32) : ∃ a C' R', C_slicing p q C = some (a, C') ∧ R_slicing p q R = some (a, R') ∧ Rl n P Q C' R' := by
  obtain ⟨c1, c2, c3⟩ := h.cnt
  have hsh := shC_P h.PQ
  have no : ∀ (e1 : C_slicing p q C = some (-1, C)) (e2 : R_slicing p q R = some (-1, R)), ∃ a C' R', C_slicing p q C = some (a, C') ∧ R_slicing p q R = some (a, R') ∧ Rl n P Q C' R' := fun e1 e2 => ⟨-1, C, R, e1, e2, h⟩
  have cC : ∀ {ρ : Type} (A B : Option ρ), (if nI n = 0 then A else B) = if n = 0 then A else B := fun A B => by
    by_cases e : n = 0
    · rw [if_pos e, if_pos (by rw [e]; rfl)]
    · rw [if_neg e, if_neg (nI_ne0 (by omega) (by omega))]
  rcases isIn_c (M := C) (M' := R) p 1 100 1 100 rfl rfl (by omega) (by omega) with ⟨⟨f1, f2⟩, -⟩ | ⟨N, N1, N2, rfl, f1, f2⟩
  · refine no ?_ ?_
    · unfold C_slicing
      rw [lett_e, h.p0, nn_s, grd_t hsh, c1, cC, f1, bnd_s, if_pos rfl, ite_self]
    · unfold R_slicing; rw [f2, bnd_s, if_pos rfl]
  · by_cases h0 : n = 0
    · refine no ?_ ?_
      · unfold C_slicing
        rw [lett_e, h.p0, nn_s, grd_t hsh, c1, cC, if_pos h0]
      · unfold R_slicing; rw [f2, bnd_s, if_neg i10, c2, cC, if_pos h0]
    · rcases isIn_c (M := C) (M' := R) q 0 1 0 1 rfl rfl (by omega) (by omega) with ⟨⟨e1, e2⟩, -⟩ | ⟨q, q1, q2, rfl, e1, e2⟩
      · refine no ?_ ?_
        · unfold C_slicing
          rw [lett_e, h.p0, nn_s, grd_t hsh, c1, cC, if_neg h0, f1, bnd_s, if_neg i10, e1, bnd_s, if_pos rfl]
        · unfold R_slicing; rw [f2, bnd_s, if_neg i10, c2, cC, if_neg h0, e2, bnd_s, if_pos rfl]
      · clear no
        have k2 : ∀ x : Nat, ∃ V, 1 ≤ x ∧ x ≤ 200 → V < 2 ^ 24 ∧ (∀ C', CSm C C' → ∀ L, L < 2 ^ 31 → ∃ v C'', C_greatestBySlice (nI N) (nI x) (nI L) C' = some (nI v, C'') ∧ CSm C C'' ∧ (v = V ∨ (L ≤ v ∧ v ≤ V))) ∧ ∀ R', RSm R R' → ∃ M3 M4 R'', R_tries R' = some M3 ∧ R_puts 7 (nI x) M3 = some M4 ∧ R_goesOnFor (nI N) M4 = some R'' ∧ R_ofEvents (-1) 3 R'' = some (nI V) ∧ RSm R R'' := fun x => by
          by_cases hx : 1 ≤ x ∧ x ≤ 200
          · obtain ⟨V, hV⟩ := slc_key h (by omega) (N := N) (by omega) hx
            exact ⟨V, fun _ => hV⟩
          · exact ⟨0, fun e => absurd e hx⟩
        obtain ⟨V, hV⟩ := Classical.skolem.mp k2
        obtain ⟨v0, C0, u1, u2, u3⟩ := (hV 200 (by omega)).2.1 C CSm.rf 2147483647 (by omega)
        have hv200 := (hV 200 (by omega)).1
        have ev0 : v0 = V 200 := by omega
        subst ev0
        obtain ⟨f, f0, fI, fS⟩ := seqN (α := (Nat × Nat) × Mm) (fun i x => CSm C x.2 ∧ (199 - i < x.1.1 ∧ x.1.1 ≤ 200) ∧ V x.1.1 = x.1.2 ∧ ∀ y, 199 - i < y → y ≤ 200 → x.1.2 ≤ V y ∧ (V y = x.1.2 → y ≤ x.1.1)) (fun i x y => ∃ u, C_greatestBySlice (nI N) (nI (199 - i)) (nI x.1.2) x.2 = some (nI u, y.2) ∧ u < 2 ^ 24 ∧ ((x.1.2 ≤ u ∧ y.1 = x.1) ∨ (u < x.1.2 ∧ y.1 = (199 - i, u)))) (a := ((200, V 200), C0)) ⟨u2, ⟨by show 199 - 0 < 200; omega, Nat.le_refl _⟩, rfl, fun y h1 h2 => by
            rw [show y = 200 by omega]
            exact ⟨Nat.le_refl _, fun _ => Nat.le_refl _⟩⟩ 199 (fun i x hi hI => by
          obtain ⟨b1, b2, b3, b4⟩ := hI
          obtain ⟨k1, k2, -⟩ := hV (199 - i) (by omega)
          have k3 := (hV x.1.1 (by omega)).1
          obtain ⟨u, C2, w1, w2, w3⟩ := k2 x.2 b1 x.1.2 (by omega)
          by_cases e : x.1.2 ≤ u
          · refine ⟨(x.1, C2), ⟨u, w1, by omega, Or.inl ⟨e, rfl⟩⟩, w2, ⟨by show 199 - (i + 1) < x.1.1; omega, b2.2⟩, b3, fun y h1 h2 => ?_⟩
            by_cases ey : y = 199 - i
            · show x.1.2 ≤ V y ∧ (V y = x.1.2 → y ≤ x.1.1)
              rw [ey]
              exact ⟨by omega, fun _ => by omega⟩
            · exact b4 y (by omega) h2
          · have eu : u = V (199 - i) := by omega
            refine ⟨((199 - i, u), C2), ⟨u, w1, by omega, Or.inr ⟨by omega, rfl⟩⟩, w2, ⟨by show 199 - (i + 1) < 199 - i; omega, by show 199 - i ≤ 200; omega⟩, eu.symm, fun y h1 h2 => ?_⟩
            show u ≤ V y ∧ (V y = u → y ≤ 199 - i)
            by_cases ey : y = 199 - i
            · rw [ey]
              exact ⟨by omega, fun _ => Nat.le_refl _⟩
            · have := (b4 y (by omega) h2).1
              exact ⟨by omega, fun _ => by omega⟩)
        obtain ⟨T, hT1, hT2⟩ := pk_least (fun i => i = 199 ∨ (f i).1.2 = 0) ⟨199, Or.inl rfl⟩
        have hT : T ≤ 199 := by
          rcases Nat.lt_or_ge 199 T with h | h
          · exact absurd (Or.inl rfl) (hT2 199 h)
          · exact h
        obtain ⟨A1, A2, A3, A4⟩ := fI T hT
        have fin : ∀ y, 1 ≤ y → y ≤ 200 → (f T).1.2 ≤ V y ∧ (V y = (f T).1.2 → y ≤ (f T).1.1) := fun y h1 h2 => by
          by_cases e : 199 - T < y
          · exact A4 y e h2
          · have hz : (f T).1.2 = 0 := by
              rcases hT1 with h | h
              · omega
              · exact h
            exact ⟨by omega, fun _ => by omega⟩
        have hvT := (hV (f T).1.1 (by omega)).1
        -- the reference goes up
        obtain ⟨g, g0, gI', gS⟩ := seqN (α := (Int32 × Nat) × Mm) (fun i x => RSm R x.2 ∧ (i = 0 → x.1 = (-1, 1000000000)) ∧ (1 ≤ i → ∃ s, x.1.1 = nI s ∧ 1 ≤ s ∧ s ≤ i ∧ V s = x.1.2 ∧ ∀ y, 1 ≤ y → y ≤ i → x.1.2 ≤ V y ∧ (V y = x.1.2 → y ≤ s))) (fun i x y => ∃ M3 M4, R_tries x.2 = some M3 ∧ R_puts 7 (nI (i + 1)) M3 = some M4 ∧ R_goesOnFor (nI N) M4 = some y.2 ∧ R_ofEvents (-1) 3 y.2 = some (nI (V (i + 1))) ∧ ((V (i + 1) ≤ x.1.2 ∧ y.1 = (nI (i + 1), V (i + 1))) ∨ (x.1.2 < V (i + 1) ∧ y.1 = x.1))) (a := ((-1, 1000000000), R)) ⟨RSm.rf, fun _ => rfl, fun e => absurd e (by omega)⟩ 200 (fun i x hi hI => by
          obtain ⟨b1, b2, b3⟩ := hI
          obtain ⟨k1, -, k3⟩ := hV (i + 1) (by omega)
          obtain ⟨M3, M4, R2, w1, w2, w3, w4, w5⟩ := k3 x.2 b1
          by_cases e : V (i + 1) ≤ x.1.2
          · refine ⟨((nI (i + 1), V (i + 1)), R2), ⟨M3, M4, w1, w2, w3, w4, Or.inl ⟨e, rfl⟩⟩, w5, fun e => absurd e (by omega), fun _ => ⟨i + 1, rfl, by omega, by omega, rfl, fun y h1 h2 => ?_⟩⟩
            show V (i + 1) ≤ V y ∧ (V y = V (i + 1) → y ≤ i + 1)
            by_cases ey : y = i + 1
            · rw [ey]; exact ⟨Nat.le_refl _, fun _ => Nat.le_refl _⟩
            · obtain ⟨s, -, -, -, -, s5⟩ := b3 (by omega)
              have := (s5 y h1 (by omega)).1
              exact ⟨by omega, fun _ => by omega⟩
          · by_cases i0 : i = 0
            · rw [b2 i0] at e
              exact absurd (show V (i + 1) ≤ 1000000000 by omega) e
            · obtain ⟨s, s1, s2, s3, s4, s5⟩ := b3 (by omega)
              refine ⟨(x.1, R2), ⟨M3, M4, w1, w2, w3, w4, Or.inr ⟨by omega, rfl⟩⟩, w5, fun e => absurd e (by omega), fun _ => ⟨s, s1, s2, by omega, s4, fun y h1 h2 => ?_⟩⟩
              by_cases ey : y = i + 1
              · show x.1.2 ≤ V y ∧ (V y = x.1.2 → y ≤ s)
                rw [ey]
                exact ⟨by omega, fun h => by omega⟩
              · exact s5 y h1 (by omega))
        obtain ⟨B1, -, B3⟩ := gI' 200 (Nat.le_refl _)
        obtain ⟨s', s1, s2, s3, s4, s5⟩ := B3 (by omega)
        have ev : (g 200).1.2 = (f T).1.2 := by
          have h1 := (s5 (f T).1.1 (by omega) A2.2).1
          have h2 := (fin s' s2 s3).1
          omega
        have es : s' = (f T).1.1 := by
          have h1 := (s5 (f T).1.1 (by omega) A2.2).2 (by omega)
          have h2 := (fin s' s2 s3).2 (by omega)
          omega
        refine ⟨if nI q = 0 then nI (f T).1.1 else nI (f T).1.2, (f T).2, (g 200).2, ?_, ?_, h.sm A1 B1⟩
        · unfold C_slicing
          rw [lett_e, h.p0, nn_s, grd_t hsh, c1, cC, if_neg h0, f1, bnd_s, if_neg i10, e1, bnd_s, if_neg i10, lett_e, show C_greatestBySlice (nI N) 200 2147483647 C = _ from u1, bnd_s, lett_e, lett_e, lett_e]
          refine loopR_sq (fun i => (nI (f i).1.1, nI (f i).1.2, nI (199 - i), (f i).2)) T (by omega) (by rw [f0]; rfl) (fun i hi rec => ?_) (fun rec => ?_)
          · obtain ⟨u, w1, w2, w3⟩ := fS i (by omega)
            have hnz := hT2 i hi
            have hi0 : 0 < (f i).1.2 := by
              rcases Nat.eq_zero_or_pos (f i).1.2 with h | h
              · exact absurd (Or.inr h) hnz
              · exact h
            have hvi := (hV (f i).1.1 (by have := (fI i (by omega)).2.1; omega)).1
            rw [(fI i (by omega)).2.2.1] at hvi
            have hs1 : nI (199 - i) + (-1) = nI (199 - (i + 1)) := by rw [show 199 - i = 199 - (i + 1) + 1 by omega, pk_m1]
            dsimp only
            rw [if_neg (nlt_f 1 1 rfl (by omega) (by omega)), if_neg (nI_nle hi0 (by omega)), w1, bnd_s, lett_e, lett_e]
            rcases w3 with ⟨w3, w4⟩ | ⟨w3, w4⟩
            · rw [if_pos (nI_le w3 (by omega))]
              simp only [lett_e, hs1, w4]
            · rw [if_neg (nI_ge w3 (by omega))]
              simp only [lett_e, hs1, w4]
          · dsimp only
            by_cases e : T = 199
            · rw [if_pos (by rw [e]; decide)]
              split <;> rfl
            · have hz : (f T).1.2 = 0 := by
                rcases hT1 with h | h
                · exact absurd h e
                · exact h
              rw [if_neg (nlt_f 1 1 rfl (by omega) (by omega)), if_pos (by rw [hz]; decide)]
              split <;> rfl
        · unfold R_slicing
          rw [f2, bnd_s, if_neg i10, c2, cC, if_neg h0, e2, bnd_s, if_neg i10, lett_e, lett_e, lett_e, lett_e]
          refine loopR_sq (fun i => ((g i).1.1, nI (g i).1.2, nI (i + 1), (g i).2)) 200 (by omega) (by rw [g0]; rfl) (fun i hi rec => ?_) (fun rec => ?_)
          · obtain ⟨M3, M4, w1, w2, w3, w4, w5⟩ := gS i hi
            have k1 := (hV (i + 1) (by omega)).1
            have hgi : (g i).1.2 < 2 ^ 31 := by
              obtain ⟨-, z1, z2⟩ := gI' i (by omega)
              by_cases i0 : i = 0
              · rw [z1 i0]; show 1000000000 < 2 ^ 31; omega
              · obtain ⟨s, y1, y2, y3, y4, -⟩ := z2 (by omega)
                have := (hV s (by omega)).1
                omega
            dsimp only
            rw [if_neg (lt_f 200 200 rfl (by omega) (by omega)), w1, bnd_s, w2, bnd_s, w3, bnd_s, w4, bnd_s, lett_e, lett_e]
            rcases w5 with ⟨w5, w6⟩ | ⟨w5, w6⟩
            · rw [if_pos (nI_le w5 hgi)]
              simp only [lett_e, nA_1, w6]
            · rw [if_neg (nI_ge w5 (by omega))]
              simp only [lett_e, nA_1, w6]
          · dsimp only
            rw [if_pos (by decide), s1, es, ev]
            split <;> rfl
/-! apart -/
theorem fl_s {a w : Nat} (ha : a ≤ 16777216) (hw : 0 < w) (hw2 : w < 2 ^ 31) : (FP.fdiv (FP.i2f (nI a)) (FP.i2f (nI w))).toNat ≤ 1266679808 := fdivI_le (by omega) hw2 hw (by decide) (Nat.le_trans (Nat.mul_le_mul_right _ ha) (by decide +kernel))
def apQ (ev : Evs) (ne : Nat) (D : Nat → Int32) (i : Nat) : UInt32 := FP.fdiv (FP.i2f (nI (fE ev (some i) 1 ne))) (FP.i2f (D (18 + 14 * i + 0)))
def apS (q : Nat → UInt32) (i : Nat) : UInt32 × UInt32 := itr (fun j x => (if (Op.cmpValue (FP.fcmp (q (j + 1)) x.1) .l) ≤ 0 then x.1 else q (j + 1), if 0 ≤ (Op.cmpValue (FP.fcmp (q (j + 1)) x.2) .g) then x.2 else q (j + 1))) (q 0, q 0) i
theorem apS_s (q : Nat → UInt32) (i : Nat) : apS q (i + 1) = (if (Op.cmpValue (FP.fcmp (q (i + 1)) (apS q i).1) .l) ≤ 0 then (apS q i).1 else q (i + 1), if 0 ≤ (Op.cmpValue (FP.fcmp (q (i + 1)) (apS q i).2) .g) then (apS q i).2 else q (i + 1)) := rfl
theorem apS_b {q : Nat → UInt32} {i : Nat} (h : ∀ j, j ≤ i → (q j).toNat < 2139095040) : (apS q i).1.toNat < 2139095040 ∧ (apS q i).2.toNat < 2139095040 := by
  induction i with
  | zero => exact ⟨h 0 (Nat.le_refl _), h 0 (Nat.le_refl _)⟩
  | succ i ih =>
    obtain ⟨i1, i2⟩ := ih (fun j hj => h j (by omega))
    rw [apS_s]
    constructor
    · show (if _ then _ else _ : UInt32).toNat < _
      split
      · exact i1
      · exact h _ (Nat.le_refl _)
    · show (if _ then _ else _ : UInt32).toNat < _
      split
      · exact i2
      · exact h _ (Nat.le_refl _)
theorem Ah.byW (h : Ah n s t b k P C σ) (hk : k ≤ 400) {i : Nat} (hi : i < n) : (apQ σ.ev σ.ne σ.D i).toNat ≤ 1266679808 ∧ S_sectorsByWeight (nI i) (sbM (emS 46 P) C) = some (apQ σ.ev σ.ne σ.D i) := by
  have hn := h.n6
  have hne := h.ne.1
  have hb : fE σ.ev (some i) 1 σ.ne ≤ 16000 * σ.ne := fE_le h.ne.2.2
  obtain ⟨w, w1, w2, w3⟩ := (h.1.2.2.1.p i hi).1
  have hf : (apQ σ.ev σ.ne σ.D i).toNat ≤ 1266679808 := by
    unfold apQ
    rw [w3]
    exact fl_s (by omega) (by omega) (by omega)
  refine ⟨hf, ?_⟩
  have e0 : gI (sbM (emS 46 P) C) (8 + 2 * i) 0 = σ.D (18 + 14 * i + 0) := by
    rw [sb_I, em_lo (by omega)]
    exact h.2.2.1 _ _ _ (lP_0 ⟨hi, hn⟩)
  have e1 : gI (sbM (emS 46 P) C) (8 + 2 * i) 10 = nI (fE σ.ev (some i) 1 σ.ne) := by
    rw [sb_I, em_lo (by omega), show 46 + (8 + 2 * i) = 54 + 2 * i by omega]
    exact (h.cnt hi).2.1
  unfold S_sectorsByWeight
  rw [ald_n (by omega) (by omega), lett_e, ix_nI (by omega), e0, e1, if_pos (show (1 : Int32) ≤ σ.D (18 + 14 * i + 0) by rw [w3]; exact le_t 1 1 rfl (by omega) (by omega)), ald_n (by omega) (by omega)]
  exact grd_t (f_ok hf (by omega)) _
theorem apart_sim (h : Rl n P Q C R) (p : Int32) : ∃ a C' R', C_apart p C = some (a, C') ∧ R_apart p R = some (a, R') ∧ Rl n P Q C' R' := by
  obtain ⟨c1, c2, c3⟩ := h.cnt
  have hsh := shC_P h.PQ
  have cC : ∀ {ρ : Type} (A B : Option ρ), (if nI n = 0 then A else B) = if n = 0 then A else B := fun A B => by
    by_cases e : n = 0
    · rw [if_pos e, if_pos (by rw [e]; rfl)]
    · rw [if_neg e, if_neg (nI_ne0 (by omega) (by omega))]
  rcases isIn_c (M := C) (M' := R) p 1 400 1 400 rfl rfl (by omega) (by omega) with ⟨⟨f1, f2⟩, -⟩ | ⟨N, N1, N2, rfl, f1, f2⟩
  · refine ⟨-1, C, R, ?_, ?_, h⟩
    · unfold C_apart
      rw [lett_e, h.p0, nn_s, grd_t hsh, c1, cC, f1, bnd_s, if_pos rfl, ite_self]
    · unfold R_apart; rw [f2, bnd_s, if_pos rfl]
  · by_cases h0 : n = 0
    · refine ⟨-1, C, R, ?_, ?_, h⟩
      · unfold C_apart
        rw [lett_e, h.p0, nn_s, grd_t hsh, c1, cC, if_pos h0]
      · unfold R_apart; rw [f2, bnd_s, if_neg i10, c2, cC, if_pos h0]
    · obtain ⟨d0, ⟨s, t, c, ht, hS⟩, -, -⟩ := h.di (k := 0) (by omega)
      obtain ⟨C2, σ, M4, a1, a2, a3, a4, a5, a6⟩ := runAhead_sim hS h.PQ ht N2
      have hn := a4.n6
      have rl := h.sm a6 (a5.sm σ.D σ.F)
      have hq : ∀ i, i < n → (apQ σ.ev σ.ne σ.D i).toNat ≤ 1266679808 ∧ S_sectorsByWeight (nI i) (sbM (emS 46 P) C2) = some (apQ σ.ev σ.ne σ.D i) := fun i hi => a4.byW N2 hi
      obtain ⟨b1, b2⟩ := apS_b (q := apQ σ.ev σ.ne σ.D) (i := n - 1) (fun j hj => by have := (hq j (by omega)).1; omega)
      obtain ⟨m1, v, m2, m3⟩ := sub_bits b1 b2 C2 (mkR σ.m 758 σ.D σ.F)
      refine ⟨v, C2, mkR σ.m 758 σ.D σ.F, ?_, ?_, rl⟩
      · unfold C_apart
        rw [lett_e, h.p0, nn_s, grd_t hsh, c1, cC, if_neg h0, f1, bnd_s, if_neg i10, a1, bnd_s, grd_t rfl, plnS_e _ a4.2.2.2.2 h.PQ, show S_sectorsByWeight 0 (sbM (emS 46 P) C2) = _ from (hq 0 (by omega)).2, bnd_s, lett_e, lett_e, lett_e, lett_e]
        refine loopR_sq (fun i => ((apS (apQ σ.ev σ.ne σ.D) i).1, (apS (apQ σ.ev σ.ne σ.D) i).2, nI (i + 1))) (n - 1) (by omega) rfl (fun i hi rec => ?_) (fun rec => ?_)
        · dsimp only
          rw [lett_e, rl.p0, nn_s, grd_t hsh, rl.cnt.1, if_neg (nI_ge (by omega) (by omega)), plnS_e _ a4.2.2.2.2 h.PQ, (hq (i + 1) (by omega)).2, bnd_s, lett_e, lett_e, apS_s]
          by_cases e : (Op.cmpValue (FP.fcmp (apQ σ.ev σ.ne σ.D (i + 1)) (apS (apQ σ.ev σ.ne σ.D) i).1) .l) ≤ 0
          · by_cases e2 : 0 ≤ (Op.cmpValue (FP.fcmp (apQ σ.ev σ.ne σ.D (i + 1)) (apS (apQ σ.ev σ.ne σ.D) i).2) .g)
            · simp only [lett_e, nA_1, if_pos e, if_pos e2]
            · simp only [lett_e, nA_1, if_pos e, if_neg e2]
          · by_cases e2 : 0 ≤ (Op.cmpValue (FP.fcmp (apQ σ.ev σ.ne σ.D (i + 1)) (apS (apQ σ.ev σ.ne σ.D) i).2) .g)
            · simp only [lett_e, nA_1, if_neg e, if_pos e2]
            · simp only [lett_e, nA_1, if_neg e, if_neg e2]
        · dsimp only
          rw [lett_e, rl.p0, nn_s, grd_t hsh, rl.cnt.1, if_pos (nI_le (by omega) (by omega)), grd_t m1, m2, bnd_s]
      · unfold R_apart
        rw [f2, bnd_s, if_neg i10, c2, cC, if_neg h0, a2, bnd_s, a3, bnd_s, lett_e, lett_e, lett_e, lett_e]
        have ev1 : ∀ i, i < n → R_ofEvents (nI i) 1 (mkR σ.m 758 σ.D σ.F) = some (nI (fE σ.ev (some i) 1 σ.ne)) := fun i hi => a4.events N2 (Or.inr ⟨i, by omega, rfl, rfl⟩) 1 (by omega) rfl
        have of0 : ∀ i, i < n → R_of (nI i) 0 (mkR σ.m 758 σ.D σ.F) = some (σ.D (18 + 14 * i + 0)) := fun i hi => R_of_m (Or.inr rfl) i 0 rfl rfl (by omega)
        have gq : ∀ i, i < n → (FP.fdiv (FP.i2f (nI (fE σ.ev (some i) 1 σ.ne))) (FP.i2f (σ.D (18 + 14 * i + 0)))) &&& 0x7fffffff ≤ 0x7f800000 := fun i hi => f_ok (hq i hi).1 (by omega)
        refine loopR_sq (fun i => (if i = 0 then (FP.fconst0, FP.fconst0, nI 0) else ((apS (apQ σ.ev σ.ne σ.D) (i - 1)).1, (apS (apQ σ.ev σ.ne σ.D) (i - 1)).2, nI i) : UInt32 × UInt32 × Int32)) n (by omega) (by rw [if_pos rfl]; rfl) (fun i hi rec => ?_) (fun rec => ?_)
        · by_cases i0 : i = 0
          · subst i0
            dsimp only
            rw [if_pos (show (0 : Nat) = 0 from rfl), if_neg (show ¬ 0 + 1 = 0 by omega), show 0 + 1 - 1 = 0 from rfl]
            dsimp only
            rw [rl.cnt.2.1, if_neg (nI_ge hi (by omega)), ev1 0 hi, bnd_s, of0 0 hi, bnd_s, grd_t (gq 0 hi)]
            simp only [lett_e, if_pos nI_0, nA_1]
            rfl
          · obtain ⟨j, rfl⟩ : ∃ j, i = j + 1 := ⟨i - 1, by omega⟩
            dsimp only
            rw [if_neg (show ¬ j + 1 = 0 by omega), if_neg (show ¬ j + 1 + 1 = 0 by omega), show j + 1 - 1 = j by omega, show j + 1 + 1 - 1 = j + 1 by omega]
            dsimp only
            have nz : ¬ nI (j + 1) = 0 := nI_ne0 (by omega) (by omega)
            have eq : FP.fdiv (FP.i2f (nI (fE σ.ev (some (j + 1)) 1 σ.ne))) (FP.i2f (σ.D (18 + 14 * (j + 1) + 0))) = apQ σ.ev σ.ne σ.D (j + 1) := rfl
            rw [rl.cnt.2.1, if_neg (nI_ge hi (by omega)), ev1 (j + 1) hi, bnd_s, of0 (j + 1) hi, bnd_s, grd_t (gq (j + 1) hi), eq, apS_s]
            by_cases e : (Op.cmpValue (FP.fcmp (apQ σ.ev σ.ne σ.D (j + 1)) (apS (apQ σ.ev σ.ne σ.D) j).1) .l) ≤ 0
            · by_cases e2 : 0 ≤ (Op.cmpValue (FP.fcmp (apQ σ.ev σ.ne σ.D (j + 1)) (apS (apQ σ.ev σ.ne σ.D) j).2) .g)
              · simp only [lett_e, nA_1, if_neg nz, if_pos e, if_pos e2]
              · simp only [lett_e, nA_1, if_neg nz, if_pos e, if_neg e2]
            · by_cases e2 : 0 ≤ (Op.cmpValue (FP.fcmp (apQ σ.ev σ.ne σ.D (j + 1)) (apS (apQ σ.ev σ.ne σ.D) j).2) .g)
              · simp only [lett_e, nA_1, if_neg nz, if_neg e, if_pos e2]
              · simp only [lett_e, nA_1, if_neg nz, if_neg e, if_neg e2]
        · dsimp only
          rw [if_neg h0]
          dsimp only
          rw [rl.cnt.2.1, if_pos (nI_le (Nat.le_refl _) (by omega)), grd_t m1, m3, bnd_s]
end SLICES
