/-! PURE: worst, slicing, apart -/
theorem fE3_s (ev : Evs) (p : Option Nat) (i : Nat) : fE ev p 3 (i + 1) = if p = none ∨ p = some (ev i).2.1 then max (fE ev p 3 i) (ev i).2.2.1 else fE ev p 3 i := by
  rw [fE_s, if_pos (show (3 : Nat) = 3 from rfl)]
theorem fE3_mono (ev : Evs) (p : Option Nat) {a b : Nat} (h : a ≤ b) : fE ev p 3 a ≤ fE ev p 3 b := by
  induction b with
  | zero => rw [show a = 0 by omega]; omega
  | succ b ih =>
    by_cases e : a = b + 1
    · rw [e]; omega
    · have := ih (by omega)
      rw [fE3_s]
      split <;> omega
theorem fE3_ub {ev : Evs} {p : Option Nat} {ne j : Nat} (hj : j < ne) (hp : p = none ∨ p = some (ev j).2.1) : (ev j).2.2.1 ≤ fE ev p 3 ne := by
  have h1 := fE3_mono ev p (show j + 1 ≤ ne by omega)
  rw [fE3_s, if_pos hp] at h1
  omega
theorem fE0_ub {ev : Evs} {ne j : Nat} (hj : j < ne) : 1 ≤ fE ev (some (ev j).2.1) 0 ne := by
  have h1 := fE0_mono ev (ev j).2.1 (show j + 1 ≤ ne by omega)
  rw [fE0_s, if_pos rfl] at h1
  omega
theorem fE3_at {ev : Evs} {p : Option Nat} {ne : Nat} (h : 0 < fE ev p 3 ne) : ∃ j, j < ne ∧ (p = none ∨ p = some (ev j).2.1) ∧ (ev j).2.2.1 = fE ev p 3 ne := by
  induction ne with
  | zero => rw [fE_0] at h; omega
  | succ ne ih =>
    rw [fE3_s] at h ⊢
    by_cases e : p = none ∨ p = some (ev ne).2.1
    · rw [if_pos e] at h ⊢
      rcases Nat.lt_or_ge (fE ev p 3 ne) (ev ne).2.2.1 with h1 | h1
      · exact ⟨ne, by omega, e, by omega⟩
      · obtain ⟨j, j1, j2, j3⟩ := ih (by omega)
        exact ⟨j, by omega, j2, by omega⟩
    · rw [if_neg e] at h ⊢
      obtain ⟨j, j1, j2, j3⟩ := ih h
      exact ⟨j, by omega, j2, j3⟩
theorem fE0_at {ev : Evs} {p ne : Nat} (h : 0 < fE ev (some p) 0 ne) : ∃ j, j < ne ∧ (ev j).2.1 = p := by
  induction ne with
  | zero => rw [fE_0] at h; omega
  | succ ne ih =>
    by_cases e : (ev ne).2.1 = p
    · exact ⟨ne, by omega, e⟩
    · rw [fE0_s, if_neg e] at h
      obtain ⟨j, j1, j2⟩ := ih (by omega)
      exact ⟨j, by omega, j2⟩
/-- the least process with the worst -/
def mnP (ev : Evs) (V i : Nat) : Nat := itr (fun j a => if (ev j).2.2.1 = V then min a (ev j).2.1 else a) 6 i
theorem mnP_s (ev : Evs) (V i : Nat) : mnP ev V (i + 1) = if (ev i).2.2.1 = V then min (mnP ev V i) (ev i).2.1 else mnP ev V i := rfl
theorem mnP_p {ev : Evs} {V i : Nat} : mnP ev V i ≤ 6 ∧ (mnP ev V i < 6 → ∃ j, j < i ∧ (ev j).2.2.1 = V ∧ (ev j).2.1 = mnP ev V i) ∧ ∀ j, j < i → (ev j).2.2.1 = V → mnP ev V i ≤ (ev j).2.1 := by
  induction i with
  | zero => exact ⟨Nat.le_refl 6, fun h => absurd h (Nat.lt_irrefl 6), fun j hj => by omega⟩
  | succ i ih =>
    obtain ⟨i1, i2, i3⟩ := ih
    rw [mnP_s]
    by_cases e : (ev i).2.2.1 = V
    · rw [if_pos e]
      refine ⟨by omega, fun h => ?_, fun j hj h => ?_⟩
      · rcases Nat.lt_or_ge (ev i).2.1 (mnP ev V i) with h1 | h1
        · exact ⟨i, by omega, e, by omega⟩
        · obtain ⟨j, j1, j2, j3⟩ := i2 (by omega)
          exact ⟨j, by omega, j2, by omega⟩
      · by_cases ej : j = i
        · rw [ej]; omega
        · have := i3 j (by omega) h
          omega
    · rw [if_neg e]
      refine ⟨i1, fun h => ?_, fun j hj h => ?_⟩
      · obtain ⟨j, j1, j2, j3⟩ := i2 h
        exact ⟨j, by omega, j2, j3⟩
      · by_cases ej : j = i
        · rw [ej] at h; exact absurd h e
        · exact i3 j (by omega) h
def encP (x : Option Nat) : Int32 := match x with | none => -1 | some b => nI b
theorem min_nI {a b : Nat} (ha : a < 2 ^ 31) (hb : b < 2 ^ 31) : aLe (nI a) (nI b) = nI (min a b) := by
  unfold aLe
  by_cases h : b ≤ a
  · rw [if_pos (nI_le h ha), Nat.min_eq_right h]
  · rw [if_neg (nI_ge (show a < b by omega) hb), Nat.min_eq_left (by omega)]
section WORST
variable {n s t b k P Q c : Nat} {C C' R : Mm} {σ σ' : Sta}
theorem Ah.worst (h : Ah n s t b k P C σ) (hk : k ≤ 400) : ∃ x : Option Nat, S_worstProcess (sbM (emS 46 P) C) = some (encP x) ∧ ((x = none ∧ ∀ j, j < n → fE σ.ev (some j) 0 σ.ne = 0) ∨ (∃ b, b < n ∧ x = some b ∧ 0 < fE σ.ev (some b) 0 σ.ne ∧ ∀ j, j < n → 0 < fE σ.ev (some j) 0 σ.ne → fE σ.ev (some j) 3 σ.ne ≤ fE σ.ev (some b) 3 σ.ne ∧ (j < b → fE σ.ev (some j) 3 σ.ne < fE σ.ev (some b) 3 σ.ne))) := by
  have hn := h.n6
  obtain ⟨hne, -, ho⟩ := h.ne
  have hb0 : ∀ p w, fE σ.ev p w σ.ne ≤ 16000 * σ.ne := fun p w => fE_le ho
  obtain ⟨f, f0, fI, fS⟩ := seqN (α := Option Nat) (fun i x => (x = none ∧ ∀ j, j < i → fE σ.ev (some j) 0 σ.ne = 0) ∨ (∃ b, b < i ∧ x = some b ∧ 0 < fE σ.ev (some b) 0 σ.ne ∧ ∀ j, j < i → 0 < fE σ.ev (some j) 0 σ.ne → fE σ.ev (some j) 3 σ.ne ≤ fE σ.ev (some b) 3 σ.ne ∧ (j < b → fE σ.ev (some j) 3 σ.ne < fE σ.ev (some b) 3 σ.ne))) (fun i x y => (fE σ.ev (some i) 0 σ.ne = 0 ∧ y = x) ∨ (0 < fE σ.ev (some i) 0 σ.ne ∧ ((x = none ∧ y = some i) ∨ ∃ b, b < i ∧ x = some b ∧ ((fE σ.ev (some i) 3 σ.ne ≤ fE σ.ev (some b) 3 σ.ne ∧ y = x) ∨ (fE σ.ev (some b) 3 σ.ne < fE σ.ev (some i) 3 σ.ne ∧ y = some i))))) (a := none) (Or.inl ⟨rfl, fun j hj => by omega⟩) n (fun i x hi hI => by
    by_cases e0 : fE σ.ev (some i) 0 σ.ne = 0
    · refine ⟨x, Or.inl ⟨e0, rfl⟩, ?_⟩
      rcases hI with ⟨i1, i2⟩ | ⟨b, b1, b2, b3, b4⟩
      · refine Or.inl ⟨i1, fun j hj => ?_⟩
        by_cases e : j = i
        · rw [e]; exact e0
        · exact i2 j (by omega)
      · refine Or.inr ⟨b, by omega, b2, b3, fun j hj hc => ?_⟩
        by_cases e : j = i
        · rw [e] at hc; omega
        · exact b4 j (by omega) hc
    · rcases hI with ⟨i1, i2⟩ | ⟨b, b1, b2, b3, b4⟩
      · refine ⟨some i, Or.inr ⟨by omega, Or.inl ⟨i1, rfl⟩⟩, Or.inr ⟨i, by omega, rfl, by omega, fun j hj hc => ?_⟩⟩
        by_cases e : j = i
        · rw [e]; exact ⟨Nat.le_refl _, fun h => absurd h (Nat.lt_irrefl _)⟩
        · have := i2 j (by omega); omega
      · by_cases e3 : fE σ.ev (some i) 3 σ.ne ≤ fE σ.ev (some b) 3 σ.ne
        · refine ⟨x, Or.inr ⟨by omega, Or.inr ⟨b, b1, b2, Or.inl ⟨e3, rfl⟩⟩⟩, Or.inr ⟨b, by omega, b2, b3, fun j hj hc => ?_⟩⟩
          by_cases e : j = i
          · rw [e]; exact ⟨e3, fun h => by omega⟩
          · exact b4 j (by omega) hc
        · refine ⟨some i, Or.inr ⟨by omega, Or.inr ⟨b, b1, b2, Or.inr ⟨by omega, rfl⟩⟩⟩, Or.inr ⟨i, by omega, rfl, by omega, fun j hj hc => ?_⟩⟩
          by_cases e : j = i
          · rw [e]; exact ⟨Nat.le_refl _, fun h => absurd h (Nat.lt_irrefl _)⟩
          · have := (b4 j (by omega) hc).1
            exact ⟨by omega, fun _ => by omega⟩)
  refine ⟨f n, ?_, fI n (Nat.le_refl _)⟩
  unfold S_worstProcess
  rw [lett_e, lett_e]
  refine loopR_sq (fun i => (encP (f i), nI i)) n (by omega) (by rw [f0]; rfl) (fun i hi rec => ?_) (fun rec => ?_)
  · have cc : ∀ j, j < n → gI (sbM (emS 46 P) C) (8 + 2 * j) 9 = nI (fE σ.ev (some j) 0 σ.ne) ∧ gI (sbM (emS 46 P) C) (8 + 2 * j) 12 = nI (fE σ.ev (some j) 3 σ.ne) := fun j hj => by
      obtain ⟨c9, -, -, c12, -⟩ := h.cnt hj
      rw [sb_I, sb_I, em_lo (by omega), show 46 + (8 + 2 * j) = 54 + 2 * j by omega]
      exact ⟨c9, c12⟩
    have b0 := hb0 (some i) 0
    have b3 := hb0 (some i) 3
    simp only [lett_e, nA_1]
    rw [h.many, if_neg (nI_ge hi (by omega)), ald_n (by omega) (by omega), ix_nI (by omega), (cc i hi).1, (cc i hi).2, ald_n (by omega) (by omega)]
    rcases fS i hi with ⟨s1, s2⟩ | ⟨s1, s2⟩
    · rw [s1, if_pos (by decide), s2]
    · rw [if_neg (nI_nle s1 (by omega))]
      rcases s2 with ⟨s2, s3⟩ | ⟨b, b1, s2, s3⟩
      · rw [s2, s3, if_pos (show encP none < 0 by decide)]
        rfl
      · have bb := hb0 (some b) 3
        rw [s2, show encP (some b) = nI b from rfl, if_neg (nI_pos (by omega)), ald_n (by omega) (by omega), ix_nI (by omega), (cc b (by omega)).2]
        rcases s3 with ⟨s3, s4⟩ | ⟨s3, s4⟩
        · rw [if_pos (nI_le s3 (by omega)), s4, s2]
          rfl
        · rw [if_neg (nI_ge s3 (by omega)), s4]
          rfl
  · dsimp only
    rw [h.many, if_pos (nI_le (Nat.le_refl _) (by omega))]
theorem worst_sim (h : Rl n P Q C R) (p q : Int32) : ∃ a C' R', C_worst p q C = some (a, C') ∧ R_worst p q R = some (a, R') ∧ Rl n P Q C' R' := by
  obtain ⟨c1, c2, c3⟩ := h.cnt
  have hsh := shC_P h.PQ
  have no : ∀ (e1 : C_worst p q C = some (-1, C)) (e2 : R_worst p q R = some (-1, R)), ∃ a C' R', C_worst p q C = some (a, C') ∧ R_worst p q R = some (a, R') ∧ Rl n P Q C' R' := fun e1 e2 => ⟨-1, C, R, e1, e2, h⟩
  have rN : gI R 0 0 = 0 → R_worst p q R = some (-1, R) := fun e => by unfold R_worst; rw [e, if_pos rfl]
  have r0 : ∀ X, (gI R 0 0 = 1 → R_worst p q R = X) → (gI R 0 0 = 0 → X = some (-1, R)) → R_worst p q R = X := fun X h1 h2 => by
    rcases h.hd with ⟨-, -, g2⟩ | ⟨-, -, g2⟩
    · rw [h2 g2, rN g2]
    · exact h1 g2
  rcases isIn_c (M := C) (M' := R) p 1 400 1 400 rfl rfl (by omega) (by omega) with ⟨⟨f1, f2⟩, -⟩ | ⟨N, N1, N2, rfl, f1, f2⟩
  · refine no ?_ (r0 _ (fun g2 => ?_) (fun _ => rfl))
    · unfold C_worst; rw [f1, bnd_s, if_pos rfl]
    · unfold R_worst; rw [g2, if_neg i10, f2, bnd_s, if_pos rfl]
  · rcases isIn_c (M := C) (M' := R) q 0 1 0 1 rfl rfl (by omega) (by omega) with ⟨⟨e1, e2⟩, -⟩ | ⟨q, q1, q2, rfl, e1, e2⟩
    · refine no ?_ (r0 _ (fun g2 => ?_) (fun _ => rfl))
      · unfold C_worst; rw [f1, bnd_s, if_neg i10, e1, bnd_s, if_pos rfl]
      · unfold R_worst; rw [g2, if_neg i10, f2, bnd_s, if_neg i10, e2, bnd_s, if_pos rfl]
    · rcases h.hd with ⟨h8, -, g2⟩ | ⟨h8, -, g2⟩
      · refine no ?_ (rN g2)
        unfold C_worst
        rw [f1, bnd_s, if_neg i10, e1, bnd_s, if_neg i10, lett_e, h.p0, nn_s, grd_t hsh, c1, h8.1, if_pos nI_0]
      · obtain ⟨d0, ⟨s, t, c, ht, hS⟩, -, -⟩ := h8
        obtain ⟨C2, σ, M4, a1, a2, a3, a4, a5, a6⟩ := runAhead_sim hS h.PQ ht N2
        have hn := a4.n6
        obtain ⟨hne, -, ho⟩ := a4.ne
        have rl := h.sm a6 (a5.sm σ.D σ.F)
        have hl := a4.le.mkR σ.D σ.F
        have hb0 : ∀ p w, fE σ.ev p w σ.ne ≤ 16000 * σ.ne := fun p w => fE_le ho
        obtain ⟨x, x1, x2⟩ := a4.worst N2
        by_cases e0 : σ.ne = 0
        · have rr : R_worst (nI N) (nI q) R = some (-1, mkR σ.m 758 σ.D σ.F) := by
            unfold R_worst
            rw [g2, if_neg i10, f2, bnd_s, if_neg i10, e2, bnd_s, if_neg i10, a2, bnd_s, a3, bnd_s, hl.1, e0, if_pos nI_0]
          by_cases h0 : n = 0
          · refine ⟨-1, C, _, ?_, rr, h.sm CSm.rf (a5.sm _ _)⟩
            unfold C_worst
            rw [f1, bnd_s, if_neg i10, e1, bnd_s, if_neg i10, lett_e, h.p0, nn_s, grd_t hsh, c1, h0, if_pos nI_0]
          · refine ⟨-1, C2, _, ?_, rr, rl⟩
            have hx : x = none := by
              rcases x2 with ⟨x2, -⟩ | ⟨b, b1, b2, b3, -⟩
              · exact x2
              · rw [e0, fE_0] at b3; omega
            unfold C_worst
            rw [f1, bnd_s, if_neg i10, e1, bnd_s, if_neg i10, lett_e, h.p0, nn_s, grd_t hsh, c1, if_neg (nI_ne0 (by omega) (by omega)), a1, bnd_s, grd_t rfl, plnS_e _ a4.2.2.2.2 h.PQ, x1, bnd_s, lett_e, hx, if_neg (show ¬ 0 ≤ encP none by decide)]
        · obtain ⟨o1, o2, o3, o4, o5, -⟩ := ho 0 (by omega)
          have hV0 : 0 < fE σ.ev none 3 σ.ne := by
            have := fE3_ub (ev := σ.ev) (p := none) (ne := σ.ne) (j := 0) (by omega) (Or.inl rfl)
            omega
          have hx : ∃ b, b < n ∧ x = some b ∧ fE σ.ev (some b) 3 σ.ne = fE σ.ev none 3 σ.ne ∧ mnP σ.ev (fE σ.ev none 3 σ.ne) σ.ne = b := by
            rcases x2 with ⟨-, x3⟩ | ⟨b, b1, b2, b3, b4⟩
            · have h1 := fE0_ub (ev := σ.ev) (ne := σ.ne) (j := 0) (by omega)
              have h2 := x3 _ o3
              omega
            · obtain ⟨j, j1, -, j3⟩ := fE3_at hV0
              have k1 := fE0_ub (ev := σ.ev) j1
              have k2 := fE3_ub (ev := σ.ev) j1 (Or.inr rfl)
              have k3 := (b4 _ (ho j j1).2.2.1 k1).1
              obtain ⟨jb, jb1, jb2⟩ := fE0_at b3
              have k0 : 0 < fE σ.ev (some b) 3 σ.ne := by
                have h1 := fE3_ub (ev := σ.ev) (p := some b) jb1 (Or.inr (congrArg some jb2.symm))
                have h2 := (ho jb jb1).2.2.2.1
                omega
              obtain ⟨i, i1, i2, i3⟩ := fE3_at k0
              have i4 := fE3_ub (ev := σ.ev) (p := none) i1 (Or.inl rfl)
              have eV : fE σ.ev (some b) 3 σ.ne = fE σ.ev none 3 σ.ne := by omega
              have i5 : b = (σ.ev i).2.1 := by
                rcases i2 with h | h
                · exact absurd h (by simp)
                · exact Option.some.inj h
              obtain ⟨m1, m2, m3⟩ := mnP_p (ev := σ.ev) (V := fE σ.ev none 3 σ.ne) (i := σ.ne)
              have m4 := m3 i i1 (by omega)
              refine ⟨b, b1, b2, eV, ?_⟩
              obtain ⟨y, y1, y2, y3⟩ := m2 (by omega)
              have z1 := fE0_ub (ev := σ.ev) y1
              have z2 := fE3_ub (ev := σ.ev) y1 (Or.inr rfl)
              rw [y3] at z1 z2
              have z3 := (b4 _ (by omega) z1).2
              rcases Nat.lt_or_ge (mnP σ.ev (fE σ.ev none 3 σ.ne) σ.ne) b with h1 | h1
              · have := z3 h1
                omega
              · omega
          obtain ⟨b, b1, b2, b3, b4⟩ := hx
          have hV := hb0 none 3
          have ev3 := a4.events N2 (Or.inl ⟨rfl, rfl⟩) 3 (wI := 3) (by omega) rfl
          refine ⟨if q = 0 then nI b else nI (fE σ.ev none 3 σ.ne), C2, mkR σ.m 758 σ.D σ.F, ?_, ?_, rl⟩
          · unfold C_worst
            rw [f1, bnd_s, if_neg i10, e1, bnd_s, if_neg i10, lett_e, h.p0, nn_s, grd_t hsh, c1, if_neg (nI_ne0 (by omega) (by omega)), a1, bnd_s, grd_t rfl, plnS_e _ a4.2.2.2.2 h.PQ, x1, bnd_s, lett_e, b2, show encP (some b) = nI b from rfl, if_pos (nI_pos' (by omega))]
            by_cases q0 : q = 0
            · rw [if_pos (by rw [q0]; rfl), if_pos q0]
            · rw [if_neg (nI_ne0 (by omega) (by omega)), if_neg q0, ald_n (by omega) (by omega), ix_nI (by omega), (a4.cnt b1).2.2.2.1, b3]
          · unfold R_worst
            rw [g2, if_neg i10, f2, bnd_s, if_neg i10, e2, bnd_s, if_neg i10, a2, bnd_s, a3, bnd_s, hl.1, if_neg (nI_ne0 (by omega) (by omega)), ev3, bnd_s, lett_e]
            by_cases q0 : q = 0
            · rw [if_neg (by rw [q0]; decide), if_pos q0, lett_e, lett_e]
              refine loopR_sq (fun i => (nI (mnP σ.ev (fE σ.ev none 3 σ.ne) i), nI i)) σ.ne (by omega) rfl (fun i hi rec => ?_) (fun rec => ?_)
              · obtain ⟨l1, l2, l3, l4⟩ := hl.2 i hi
                obtain ⟨-, -, u1, u2, u3, -⟩ := ho i hi
                have um := (mnP_p (ev := σ.ev) (V := fE σ.ev none 3 σ.ne) (i := i)).1
                simp only [lett_e, nM_4, nA_1, nA_2]
                rw [if_neg (nI_ge hi (by omega)), ald_n (by omega) (by omega), ix_nI (by omega), l3, mnP_s]
                by_cases e : (σ.ev i).2.2.1 = fE σ.ev none 3 σ.ne
                · rw [if_pos (congrArg nI e), if_pos e, ald_n (by omega) (by omega), ix_nI (by omega), l2, R_le_m, bnd_s, min_nI (by omega) (by omega)]
                · rw [if_neg (fun h => e ((nI_eq (by omega) (by omega)).mp h)), if_neg e]
              · dsimp only
                rw [if_pos (nI_le (Nat.le_refl _) (by omega)), b4]
            · rw [if_pos (by rw [show q = 1 by omega]; rfl), if_neg q0]
end WORST
