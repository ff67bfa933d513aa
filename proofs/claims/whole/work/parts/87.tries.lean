/-! PURE: tries: alone, idling, gain, latest, least -/
theorem nlt_le {x y : Int32} : x < y ↔ ¬ y ≤ x := by
  rw [i32_lt, i32_le]
  omega
theorem updD_id {α : Type} (D : Nat → α) (j : Nat) : updD D j (D j) = D := by
  funext k
  unfold updD
  split
  · rename_i e; rw [e]
  · rfl
section TRIES
variable {n s t b k P Q c : Nat} {C C' R : Mm} {σ σ' : Sta}
theorem set_csm {a i : Nat} {v : Int32} (h : a < 20) : CSm C (sI C (46 + a) i v) := ⟨fun x k h => gw_n _ _ _ _ (by omega), fun _ _ _ => rfl, fun _ _ => rfl, fun _ _ _ => rfl⟩
theorem alone_sim (h : Rl n P Q C R) (p q : Int32) : ∃ a C' R', C_alone p q C = some (a, C') ∧ R_alone p q R = some (a, R') ∧ Rl n P Q C' R' := by
  rcases h.pr q (R' := R) rfl with ⟨⟨g1, g2⟩, -⟩ | ⟨q, hq, rfl, g1, g2⟩
  · refine ⟨-1, C, R, ?_, ?_, h⟩
    · unfold C_alone; rw [g1, bnd_s, if_pos rfl]
    · unfold R_alone
      rcases isIn_c (M := C) (M' := R) p 0 400 0 400 rfl rfl (by omega) (by omega) with ⟨⟨f1, f2⟩, -⟩ | ⟨k, k1, k2, rfl, f1, f2⟩
      · rw [f2, bnd_s, if_pos rfl]
      · rw [f2, bnd_s, if_neg i10, g2, bnd_s, if_pos rfl]
  · rcases isIn_c (M := C) (M' := R) p 0 400 0 400 rfl rfl (by omega) (by omega) with ⟨⟨f1, f2⟩, -⟩ | ⟨N, N1, N2, rfl, f1, f2⟩
    · refine ⟨-1, C, R, ?_, ?_, h⟩
      · unfold C_alone; rw [g1, bnd_s, if_neg i10, f1, bnd_s, if_pos rfl]
      · unfold R_alone; rw [f2, bnd_s, if_pos rfl]
    · obtain ⟨d0, ⟨s, t, c, ht, hS⟩, -, -⟩ := h.di hq
      obtain ⟨C1, σ, a1, a2, a3, a4, a5, -, a6, -⟩ := start_ahead hS h.PQ
      have hn := a3.n6
      have hPl := h.1.le
      have hsh := shC_P h.PQ
      obtain ⟨f, f0, fI, fS⟩ := seqN (α := Sta × Mm) (fun i x => Ah n s t 0 0 P x.2 x.1 ∧ CSm C x.2 ∧ Fm R x.1) (fun i x y => y.2 = sI x.2 (54 + 2 * i) 1 (if i = q then 1 else 0) ∧ R_sets (nI i) 8 (if i = q then 1 else 0) (mkR x.1.m 758 x.1.D x.1.F) = some (mkR y.1.m 758 y.1.D y.1.F)) (a := (σ, C1)) ⟨a3, a5, a4⟩ n (fun i x hi hI => by
        obtain ⟨b1, b2, b3⟩ := hI
        have hv : isN 2 (if i = q then (1 : Int32) else 0) := by
          split
          · exact ⟨1, by omega, rfl⟩
          · exact ⟨0, by omega, rfl⟩
        have b4 := b1.set hPl.1 (a := 8 + 2 * i) (i := 1) (j := 18 + 14 * i + 8) (v := if i = q then 1 else 0) (lP_1 ⟨hi, hn⟩) (b1.1.2.2.1.sO hn hi hv) (Or.inr ⟨i, hi, rfl, Or.inr rfl⟩) (Or.inr (Or.inr ⟨i, hi, Or.inr rfl⟩))
        rw [show 46 + (8 + 2 * i) = 54 + 2 * i by omega] at b4
        refine ⟨(_, _), ⟨rfl, ?_⟩, b4, b2.tr ?_, b3⟩
        · exact (R_sets_p (k := 8)).trans (rpn (Or.inr rfl) (by omega) _)
        · rw [show 54 + 2 * i = 46 + (8 + 2 * i) by omega]
          exact set_csm (by omega))
      obtain ⟨A1, A2, A3⟩ := fI n (Nat.le_refl _)
      obtain ⟨z, σ', b1, b2, b3, b4, b5⟩ := run_ahead (R := R) A1 h.PQ N2 (by omega)
      have ev := b3.events N2 (Or.inr ⟨q, by omega, rfl, rfl⟩) 1 (wI := 1) (by omega) rfl
      obtain ⟨c9, c10, c11, c12, -⟩ := b3.cnt hq
      refine ⟨nI (fE σ'.ev (some q) 1 σ'.ne), _, mkR σ'.m 758 σ'.D σ'.F, ?_, ?_, h.sm (A2.tr b4) ((b5 A3).sm _ _)⟩
      · unfold C_alone
        rw [g1, bnd_s, if_neg i10, f1, bnd_s, if_neg i10, a1, bnd_s, grd_t rfl, lett_e, lett_e]
        refine loopR_sq (fun i => (nI i, (f i).2)) n (by omega) (by rw [f0]; rfl) (fun i hi rec => ?_) (fun rec => ?_)
        · obtain ⟨B1, B2, B3⟩ := fI i (by omega)
          have rl := h.sm B2 RSm.rf
          obtain ⟨s1, -⟩ := fS i hi
          dsimp only
          rw [lett_e, rl.p0, nn_s, grd_t hsh, rl.cnt.1, if_neg (nI_ge hi (by omega)), ald_n (by omega) (by omega), lett_e, ix_nI (by omega), s1]
          by_cases e : i = q
          · rw [if_pos (congrArg nI e), if_pos e]
            try simp only [lett_e, nA_1]
            exact grd_t (Or.inr trivial) _
          · rw [if_neg (fun h => e ((nI_eq (by omega) (by omega)).mp h)), if_neg e]
            try simp only [lett_e, nA_1]
            exact grd_t (Or.inl trivial) _
        · have rl := h.sm A2 RSm.rf
          dsimp only
          rw [lett_e, rl.p0, nn_s, grd_t hsh, rl.cnt.1, if_pos (nI_le (Nat.le_refl _) (by omega)), plnS_e _ A1.2.2.2.2 h.PQ, b1, bnd_s, lett_e, ald_n (by omega) (by omega), ix_nI (by omega), c10]
      · unfold R_alone
        rw [f2, bnd_s, if_neg i10, g2, bnd_s, if_neg i10, a2, bnd_s, lett_e, lett_e]
        refine loopR_sq (fun i => (nI i, mkR (f i).1.m 758 (f i).1.D (f i).1.F)) n (by omega) (by rw [f0]; rfl) (fun i hi rec => ?_) (fun rec => ?_)
        · obtain ⟨B1, B2, B3⟩ := fI i (by omega)
          obtain ⟨-, s2⟩ := fS i hi
          dsimp only
          rw [mkR_o _ _ _ _ (by omega) (by omega), B1.1.1.n1, if_neg (nI_ge hi (by omega)), lett_e]
          by_cases e : i = q
          · rw [if_pos e] at s2
            rw [if_pos (congrArg nI e)]
            simp only [s2, bnd_s, lett_e, nA_1]
          · rw [if_neg e] at s2
            rw [if_neg (fun h => e ((nI_eq (by omega) (by omega)).mp h))]
            simp only [s2, bnd_s, lett_e, nA_1]
        · dsimp only
          rw [mkR_o _ _ _ _ (by omega) (by omega), A1.1.1.n1, if_pos (nI_le (Nat.le_refl _) (by omega)), b2, bnd_s, ev, bnd_s]
theorem sectors_sim (h : Rl n P Q C R) (h8 : Di n P C R) {N w : Nat} (hN : N ≤ 400) (hw : w ≤ 20) : ∃ v C' M3 M4 R', C_sectorsByIdle (nI N) (nI w) C = some (nI v, C') ∧ R_tries R = some M3 ∧ R_puts 6 (nI w) M3 = some M4 ∧ R_goesOnFor (nI N) M4 = some R' ∧ R_ofEvents (-1) 1 R' = some (nI v) ∧ v < 2 ^ 30 ∧ Rl n P Q C' R' ∧ (gI R 16 6 = nI w → M4 = M3) := by
  obtain ⟨d0, ⟨s, t, c, ht, hS⟩, -, -⟩ := h8
  obtain ⟨C1, σ, a1, a2, a3, a4, a5, aD, a6, -⟩ := start_ahead hS h.PQ
  have hn := a3.n6
  have hPl := h.1.le
  have a7 : Ah n s t 0 0 P (sI C1 46 16 (nI w)) _ := a3.set hPl.1 (a := 0) (i := 16) (j := 6) (v := nI w) rfl (a3.1.2.2.1.s6 hn ⟨w, by omega, rfl⟩) (by omega) (by omega)
  obtain ⟨z, σ', b1, b2, b3, b4, b5⟩ := run_ahead (R := R) a7 h.PQ hN (by omega)
  have ev := b3.events hN (Or.inl ⟨rfl, rfl⟩) 1 (wI := 1) (by omega) rfl
  have hb : fE σ'.ev none 1 σ'.ne ≤ 16000 * σ'.ne := fE_le b3.ne.2.2
  have hne := b3.ne.1
  refine ⟨_, _, _, _, _, ?_, a2, rpn (Or.inr rfl) (show 6 < 758 by omega) _, b2, ev, by omega, h.sm ((a5.tr (set_csm (a := 0) (by omega))).tr b4) ((b5 a4).sm _ _), fun e => ?_⟩
  · unfold C_sectorsByIdle
    rw [a1, bnd_s, grd_t rfl, lett_e, plnS_e _ a7.2.2.2.2 h.PQ, b1, bnd_s, lett_e, plnS_e _ b3.2.2.2.2 h.PQ, b3.sectors, bnd_s]
  · rw [← e, ← aD, updD_id]
theorem idling_sim (h : Rl n P Q C R) (p q : Int32) : ∃ a C' R', C_idling p q C = some (a, C') ∧ R_idling p q R = some (a, R') ∧ Rl n P Q C' R' := by
  obtain ⟨c1, c2, c3⟩ := h.cnt
  have hsh := shC_P h.PQ
  have no : ∀ (e1 : C_idling p q C = some (-1, C)) (e2 : R_idling p q R = some (-1, R)), ∃ a C' R', C_idling p q C = some (a, C') ∧ R_idling p q R = some (a, R') ∧ Rl n P Q C' R' := fun e1 e2 => ⟨-1, C, R, e1, e2, h⟩
  have cC : ∀ {ρ : Type} (A B : Option ρ), (if nI n = 0 then A else B) = if n = 0 then A else B := fun A B => by
    by_cases e : n = 0
    · rw [if_pos e, if_pos (by rw [e]; rfl)]
    · rw [if_neg e, if_neg (nI_ne0 (by omega) (by omega))]
  rcases isIn_c (M := C) (M' := R) p 1 200 1 200 rfl rfl (by omega) (by omega) with ⟨⟨f1, f2⟩, -⟩ | ⟨N, N1, N2, rfl, f1, f2⟩
  · refine no ?_ ?_
    · unfold C_idling
      rw [lett_e, h.p0, nn_s, grd_t hsh, c1, cC, f1, bnd_s, if_pos rfl, ite_self]
    · unfold R_idling; rw [f2, bnd_s, if_pos rfl]
  · by_cases h0 : n = 0
    · refine no ?_ ?_
      · unfold C_idling
        rw [lett_e, h.p0, nn_s, grd_t hsh, c1, cC, if_pos h0]
      · unfold R_idling; rw [f2, bnd_s, if_neg i10, c2, cC, if_pos h0]
    · rcases isIn_c (M := C) (M' := R) q 0 1 0 1 rfl rfl (by omega) (by omega) with ⟨⟨e1, e2⟩, -⟩ | ⟨q, q1, q2, rfl, e1, e2⟩
      · refine no ?_ ?_
        · unfold C_idling
          rw [lett_e, h.p0, nn_s, grd_t hsh, c1, cC, if_neg h0, f1, bnd_s, if_neg i10, e1, bnd_s, if_pos rfl]
        · unfold R_idling; rw [f2, bnd_s, if_neg i10, c2, cC, if_neg h0, e2, bnd_s, if_pos rfl]
      · clear no
        obtain ⟨f, f0, fI, fS⟩ := seqN (α := (Int32 × Int32 × Int32) × Mm × Mm) (fun i x => Rl n P Q x.2.1 x.2.2 ∧ (i = 0 → x.1.2.2 = -1) ∧ (1 ≤ i → x.1.1 = x.1.2.1)) (fun i x y => ∃ v M3 M4, C_sectorsByIdle (nI N) (nI i) x.2.1 = some (nI v, y.2.1) ∧ R_tries x.2.2 = some M3 ∧ R_puts 6 (nI i) M3 = some M4 ∧ R_goesOnFor (nI N) M4 = some y.2.2 ∧ R_ofEvents (-1) 1 y.2.2 = some (nI v) ∧ ((nI v ≤ x.1.2.2 ∧ y.1 = x.1) ∨ (¬ nI v ≤ x.1.2.2 ∧ y.1 = (nI i, nI i, nI v)))) (a := ((0, -1, -1), C, R)) ⟨h, fun _ => rfl, fun e => absurd e (by omega)⟩ 21 (fun i x hi hI => by
          obtain ⟨b1, b2, b3⟩ := hI
          obtain ⟨v, C', M3, M4, R', d1, d2, d3, d4, d5, d6, d7, -⟩ := sectors_sim b1 (b1.di (k := 0) (by omega)) (N := N) (w := i) (by omega) (by omega)
          by_cases e : nI v ≤ x.1.2.2
          · refine ⟨(x.1, C', R'), ⟨v, M3, M4, d1, d2, d3, d4, d5, Or.inl ⟨e, rfl⟩⟩, d7, fun e => absurd e (by omega), fun _ => ?_⟩
            by_cases i0 : i = 0
            · rw [b2 i0, i32_le, nI_toInt (by omega), show (-1 : Int32).toInt = -1 from rfl] at e
              omega
            · exact b3 (by omega)
          · exact ⟨((nI i, nI i, nI v), C', R'), ⟨v, M3, M4, d1, d2, d3, d4, d5, Or.inr ⟨e, rfl⟩⟩, d7, fun e => absurd e (by omega), fun _ => rfl⟩)
        obtain ⟨A1, -, A3⟩ := fI 21 (Nat.le_refl _)
        have A4 := A3 (by omega)
        refine ⟨if nI q = 0 then (f 21).1.1 else (f 21).1.2.2, (f 21).2.1, (f 21).2.2, ?_, ?_, A1⟩
        · unfold C_idling
          rw [lett_e, h.p0, nn_s, grd_t hsh, c1, cC, if_neg h0, f1, bnd_s, if_neg i10, e1, bnd_s, if_neg i10, lett_e, lett_e, lett_e, lett_e]
          refine loopR_sq (fun i => ((f i).1.1, (f i).1.2.2, nI i, (f i).2.1)) 21 (by omega) (by rw [f0]; rfl) (fun i hi rec => ?_) (fun rec => ?_)
          · obtain ⟨v, M3, M4, d1, -, -, -, -, d6⟩ := fS i hi
            dsimp only
            rw [if_neg (lt_f 20 20 rfl (by omega) (by omega)), d1, bnd_s, lett_e, lett_e]
            rcases d6 with ⟨d6, d7⟩ | ⟨d6, d7⟩
            · rw [if_pos d6]
              simp only [lett_e, nA_1, d7]
            · rw [if_neg d6]
              simp only [lett_e, nA_1, d7]
          · dsimp only
            rw [if_pos (by decide)]
            split <;> rfl
        · unfold R_idling
          rw [f2, bnd_s, if_neg i10, c2, cC, if_neg h0, e2, bnd_s, if_neg i10, lett_e, lett_e, lett_e, lett_e]
          refine loopR_sq (fun i => ((f i).1.2.1, (f i).1.2.2, nI i, (f i).2.2)) 21 (by omega) (by rw [f0]; rfl) (fun i hi rec => ?_) (fun rec => ?_)
          · obtain ⟨v, M3, M4, -, d2, d3, d4, d5, d6⟩ := fS i hi
            dsimp only
            rw [if_neg (lt_f 20 20 rfl (by omega) (by omega)), d2, bnd_s, d3, bnd_s, d4, bnd_s, d5, bnd_s, lett_e, lett_e]
            rcases d6 with ⟨d6, d7⟩ | ⟨d6, d7⟩
            · rw [if_neg (fun h => nlt_le.mp h d6)]
              simp only [lett_e, nA_1, d7]
            · rw [if_pos (nlt_le.mpr d6)]
              simp only [lett_e, nA_1, d7]
          · dsimp only
            rw [if_pos (by decide), A4]
            split <;> rfl
theorem gain_sim (h : Rl n P Q C R) (p q : Int32) : ∃ a C' R', C_gain p q C = some (a, C') ∧ R_gain p q R = some (a, R') ∧ Rl n P Q C' R' := by
  rcases h.hd with ⟨h8, g1, g2⟩ | ⟨h8, g1, g2⟩
  · refine ⟨-1, C, R, ?_, ?_, h⟩
    · unfold C_gain; rw [g1, bnd_s, if_pos rfl]
    · unfold R_gain; rw [g2, if_pos rfl]
  · rcases isIn_c (M := C) (M' := R) p 1 200 1 200 rfl rfl (by omega) (by omega) with ⟨⟨f1, f2⟩, -⟩ | ⟨N, N1, N2, rfl, f1, f2⟩
    · refine ⟨-1, C, R, ?_, ?_, h⟩
      · unfold C_gain; rw [g1, bnd_s, if_neg i10, f1, bnd_s, if_pos rfl]
      · unfold R_gain; rw [g2, if_neg i10, f2, bnd_s, if_pos rfl]
    · rcases isIn_c (M := C) (M' := R) q 0 1 0 1 rfl rfl (by omega) (by omega) with ⟨⟨e1, e2⟩, -⟩ | ⟨q, q1, q2, rfl, e1, e2⟩
      · refine ⟨-1, C, R, ?_, ?_, h⟩
        · unfold C_gain; rw [g1, bnd_s, if_neg i10, f1, bnd_s, if_neg i10, e1, bnd_s, if_pos rfl]
        · unfold R_gain; rw [g2, if_neg i10, f2, bnd_s, if_neg i10, e2, bnd_s, if_pos rfl]
      · rcases (show q = 0 ∨ q = 1 by omega) with rfl | rfl
        · have h8' := h8
          obtain ⟨d0, ⟨s, t, c, ht, hS⟩, -, -⟩ := h8'
          obtain ⟨w, w1, w2⟩ := hS.I.g.2.2.2.1
          obtain ⟨v, C', M3, M4, R', d1, d2, d3, d4, d5, d6, d7, d8⟩ := sectors_sim h h8 (N := N) (w := w) (by omega) (by omega)
          have d9 := d8 w2
          subst d9
          refine ⟨nI v, C', R', ?_, ?_, d7⟩
          · unfold C_gain; rw [g1, bnd_s, if_neg i10, f1, bnd_s, if_neg i10, e1, bnd_s, if_neg i10, lett_e, if_pos (show nI 0 = 0 by decide)]
            simp only [hS.g16, w2, d1, bnd_s]
          · unfold R_gain; rw [g2, if_neg i10, f2, bnd_s, if_neg i10, e2, bnd_s, if_neg i10, d2, bnd_s, lett_e, if_neg (show ¬ nI 0 = 1 by decide)]
            simp only [d4, bnd_s, d5]
        · obtain ⟨v, C', M3, M4, R', d1, d2, d3, d4, d5, d6, d7, d8⟩ := sectors_sim h h8 (N := N) (w := 0) (by omega) (by omega)
          refine ⟨nI v, C', R', ?_, ?_, d7⟩
          · unfold C_gain; rw [g1, bnd_s, if_neg i10, f1, bnd_s, if_neg i10, e1, bnd_s, if_neg i10, lett_e, if_neg (show ¬ nI 1 = 0 by decide)]
            try simp only [lett_e, nA_1]
            rw [show C_sectorsByIdle (nI N) 0 C = _ from d1, bnd_s]
          · unfold R_gain; rw [g2, if_neg i10, f2, bnd_s, if_neg i10, e2, bnd_s, if_neg i10, d2, bnd_s, lett_e, if_pos (show nI 1 = 1 by decide)]
            try simp only [lett_e, nA_1]
            rw [show R_puts 6 0 M3 = _ from d3, bnd_s, d4, bnd_s, d5, bnd_s]
/-! latest -/
def bst (g : Nat → Nat) (i : Nat) : Int32 × Nat := itr (fun j x => if x.2 < g j then (nI j, g j) else x) (-1, 0) i
theorem bst_s (g : Nat → Nat) (i : Nat) : bst g (i + 1) = if (bst g i).2 < g i then (nI i, g i) else bst g i := rfl
theorem bst_b {g : Nat → Nat} {i : Nat} (hg : ∀ j, g j < 1000) : (bst g i).2 < 1000 ∧ ((bst g i).1 = -1 ∨ ∃ q, q < i ∧ (bst g i).1 = nI q) := by
  induction i with
  | zero => exact ⟨by show (0 : Nat) < 1000; omega, Or.inl rfl⟩
  | succ i ih =>
    rw [bst_s]
    split
    · exact ⟨hg i, Or.inr ⟨i, by omega, rfl⟩⟩
    · obtain ⟨h1, h2 | ⟨q, h2, h3⟩⟩ := ih
      · exact ⟨h1, Or.inl h2⟩
      · exact ⟨h1, Or.inr ⟨q, by omega, h3⟩⟩
theorem latest_sim (h : Rl n P Q C R) (p w q : Int32) : ∃ a C' R', C_latest p w q C = some (a, C') ∧ R_latest p w q R = some (a, R') ∧ Rl n P Q C' R' := by
  obtain ⟨c1, c2, c3⟩ := h.cnt
  have hsh := shC_P h.PQ
  have no : ∀ (e1 : C_latest p w q C = some (-1, C)) (e2 : R_latest p w q R = some (-1, R)), ∃ a C' R', C_latest p w q C = some (a, C') ∧ R_latest p w q R = some (a, R') ∧ Rl n P Q C' R' := fun e1 e2 => ⟨-1, C, R, e1, e2, h⟩
  have rN : gI R 0 0 = 0 → R_latest p w q R = some (-1, R) := fun e => by unfold R_latest; rw [e, if_pos rfl]
  have r0 : ∀ X, (gI R 0 0 = 1 → R_latest p w q R = X) → (gI R 0 0 = 0 → X = some (-1, R)) → R_latest p w q R = X := fun X h1 h2 => by
    rcases h.hd with ⟨-, -, g2⟩ | ⟨-, -, g2⟩
    · rw [h2 g2, rN g2]
    · exact h1 g2
  rcases isIn_c (M := C) (M' := R) p 1 400 1 400 rfl rfl (by omega) (by omega) with ⟨⟨f1, f2⟩, -⟩ | ⟨N, N1, N2, rfl, f1, f2⟩
  · refine no ?_ (r0 _ (fun g2 => ?_) (fun _ => rfl))
    · unfold C_latest; rw [f1, bnd_s, if_pos rfl]
    · unfold R_latest; rw [g2, if_neg i10, f2, bnd_s, if_pos rfl]
  · rcases int_c w with hw | ⟨b, hb, rfl⟩
    · refine no ?_ (r0 _ (fun g2 => ?_) (fun _ => rfl))
      · unfold C_latest; rw [f1, bnd_s, if_neg i10, if_pos hw]
      · unfold R_latest; rw [g2, if_neg i10, f2, bnd_s, if_neg i10, if_pos hw]
    · rcases isIn_c (M := C) (M' := R) q 0 1 0 1 rfl rfl (by omega) (by omega) with ⟨⟨e1, e2⟩, -⟩ | ⟨q, q1, q2, rfl, e1, e2⟩
      · refine no ?_ (r0 _ (fun g2 => ?_) (fun _ => rfl))
        · unfold C_latest; rw [f1, bnd_s, if_neg i10, if_neg (nI_pos hb), e1, bnd_s, if_pos rfl]
        · unfold R_latest; rw [g2, if_neg i10, f2, bnd_s, if_neg i10, if_neg (nI_pos hb), e2, bnd_s, if_pos rfl]
      · rcases h.hd with ⟨h8, -, g2⟩ | ⟨h8, -, g2⟩
        · refine no ?_ (rN g2)
          unfold C_latest
          rw [f1, bnd_s, if_neg i10, if_neg (nI_pos hb), e1, bnd_s, if_neg i10, lett_e, h.p0, nn_s, grd_t hsh, c1, h8.1, if_pos nI_0]
        · obtain ⟨d0, ⟨s, t, c, ht, hS⟩, -, -⟩ := h8
          obtain ⟨C2, σ, M4, a1, a2, a3, a4, a5, a6⟩ := above_sim hS h.PQ ht N2 hb
          have hn := a4.n6
          have hne := a4.ne.1
          have rl := h.sm a6 (a5.sm σ.D σ.F)
          have hg : ∀ j, fA σ.ev j b σ.ne < 1000 := fun j => by
            have := fA_le (ev := σ.ev) (p := j) (b := b) (i := σ.ne)
            omega
          have hbst := bst_b (g := fun j => fA σ.ev j b σ.ne) (i := n) hg
          obtain ⟨B, hB⟩ : ∃ B, B = bst (fun j => fA σ.ev j b σ.ne) n := ⟨_, rfl⟩
          rw [← hB] at hbst
          have rr : R_latest (nI N) (nI b) (nI q) R = some (if B.1 = -1 then -1 else if nI q = 0 then B.1 else nI B.2, mkR σ.m 758 σ.D σ.F) := by
            unfold R_latest
            rw [g2, if_neg i10, f2, bnd_s, if_neg i10, if_neg (nI_pos hb), e2, bnd_s, if_neg i10, a2, bnd_s, a3, bnd_s, lett_e, lett_e, lett_e, lett_e]
            refine loopR_sq (fun i => ((bst (fun j => fA σ.ev j b σ.ne) i).1, nI (bst (fun j => fA σ.ev j b σ.ne) i).2, nI i)) n (by omega) rfl (fun i hi rec => ?_) (fun rec => ?_)
            · dsimp only
              have hb2 := (bst_b (g := fun j => fA σ.ev j b σ.ne) (i := i) hg).1
              rw [rl.cnt.2.1, if_neg (nI_ge hi (by omega)), lett_e, lett_e, lett_e]
              refine (late_loop (a4.le.mkR _ _) (by omega) a4.ne.2.2 hn (show i < 6 by omega) hb (fun v => lett (fun (u_13 : Int32) (u_14 : Int32) =>
 lett (nI i + (1 : Int32)) fun v16 =>
 rec (u_13, u_14, v16)) fun j140 =>
 if nI (bst (fun j => fA σ.ev j b σ.ne) i).2 < v then
 (lett (nI i) fun v17 =>
 lett v fun v18 =>
 j140 v17 v18)
 else
 (j140 (bst (fun j => fA σ.ev j b σ.ne) i).1 (nI (bst (fun j => fA σ.ev j b σ.ne) i).2)))).trans ?_
              have hgi := hg i
              rw [lett_e, bst_s]
              by_cases e : (bst (fun j => fA σ.ev j b σ.ne) i).2 < fA σ.ev i b σ.ne
              · rw [if_pos ((nI_ltI (by omega) (by omega)).mpr e), if_pos e]
                simp only [lett_e, nA_1]
              · rw [if_neg (nI_nlt (by omega) (by omega)), if_neg e]
                simp only [lett_e, nA_1]
            · dsimp only
              rw [rl.cnt.2.1, if_pos (nI_le (Nat.le_refl _) (by omega)), lett_e, ← hB]
              split
              · rename_i e; rw [e]
              · split <;> rfl
          by_cases h0 : n = 0
          · have hB1 : B.1 = -1 := by rw [hB, h0]; rfl
            rw [if_pos hB1] at rr
            refine ⟨-1, C, _, ?_, rr, h.sm CSm.rf (a5.sm _ _)⟩
            unfold C_latest
            rw [f1, bnd_s, if_neg i10, if_neg (nI_pos hb), e1, bnd_s, if_neg i10, lett_e, h.p0, nn_s, grd_t hsh, c1, h0, if_pos nI_0]
          · refine ⟨_, C2, _, ?_, rr, rl⟩
            unfold C_latest
            rw [f1, bnd_s, if_neg i10, if_neg (nI_pos hb), e1, bnd_s, if_neg i10, lett_e, h.p0, nn_s, grd_t hsh, c1, if_neg (nI_ne0 (by omega) (by omega)), a1, bnd_s, grd_t rfl, lett_e, lett_e, lett_e, lett_e]
            refine loopR_sq (fun i => ((bst (fun j => fA σ.ev j b σ.ne) i).1, nI (bst (fun j => fA σ.ev j b σ.ne) i).2, nI i)) n (by omega) rfl (fun i hi rec => ?_) (fun rec => ?_)
            · dsimp only
              have hb2 := (bst_b (g := fun j => fA σ.ev j b σ.ne) (i := i) hg).1
              have hgi := hg i
              rw [lett_e, rl.p0, nn_s, grd_t hsh, rl.cnt.1, if_neg (nI_ge hi (by omega)), ald_n (by omega) (by omega), lett_e, ix_nI (by omega), (a4.cnt hi).2.2.2.2, bst_s]
              by_cases e : (bst (fun j => fA σ.ev j b σ.ne) i).2 < fA σ.ev i b σ.ne
              · rw [if_neg (nI_ge e (by omega)), if_pos e]
                try simp only [lett_e, nA_1]
                rw [ald_n (by omega) (by omega)]
              · rw [if_pos (nI_le (by omega) (by omega)), if_neg e]
                simp only [lett_e, nA_1]
            · dsimp only
              rw [lett_e, rl.p0, nn_s, grd_t hsh, rl.cnt.1, if_pos (nI_le (Nat.le_refl _) (by omega)), ← hB]
              rcases hbst.2 with e | ⟨x, x1, e⟩
              · rw [e, if_neg (by decide), if_pos rfl]
              · rw [e, if_pos (nI_pos' (by omega)), if_neg (nI_m1 (by omega))]
                split <;> rfl
end TRIES
