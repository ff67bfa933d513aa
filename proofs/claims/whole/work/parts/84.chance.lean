/-! PURE: chance -/
theorem seqN {α : Type} (I : Nat → α → Prop) (St : Nat → α → α → Prop) {a : α} (h0 : I 0 a) (N : Nat) (hs : ∀ i x, i < N → I i x → ∃ y, St i x y ∧ I (i + 1) y) : ∃ f : Nat → α, f 0 = a ∧ (∀ i, i ≤ N → I i (f i)) ∧ ∀ i, i < N → St i (f i) (f (i + 1)) := by
  induction N with
  | zero => exact ⟨fun _ => a, rfl, fun i hi => by rw [show i = 0 by omega]; exact h0, fun i hi => by omega⟩
  | succ N ih =>
    obtain ⟨f, f0, f1, f2⟩ := ih (fun i x hi => hs i x (by omega))
    obtain ⟨y, g1, g2⟩ := hs N (f N) (by omega) (f1 N (Nat.le_refl _))
    refine ⟨fun i => if i ≤ N then f i else y, ?_, fun i hi => ?_, fun i hi => ?_⟩
    · show (if 0 ≤ N then f 0 else y) = a
      rw [if_pos (by omega)]; exact f0
    · show I i (if i ≤ N then f i else y)
      by_cases e : i ≤ N
      · rw [if_pos e]; exact f1 i e
      · rw [if_neg e, show i = N + 1 by omega]; exact g2
    · show St i (if i ≤ N then f i else y) (if i + 1 ≤ N then f (i + 1) else y)
      rw [if_pos (by omega)]
      by_cases e : i + 1 ≤ N
      · rw [if_pos e]; exact f2 i (by omega)
      · rw [if_neg e, show i = N by omega]; exact g1
section CHANCE
variable {n P Q : Nat} {C X R : Mm}
def drw (a : Nat) : Nat := (1103515245 * a + 12345) % 2147483648
theorem drw_lt (a : Nat) : drw a < 2147483648 := Nat.mod_lt _ (by omega)
theorem drw_e {a : Nat} (ha : a < 2 ^ 31) : (1103515245 : Int64) * lN a + 12345 - ((1103515245 : Int64) * lN a + 12345) / 2147483648 * 2147483648 = lN (drw a) := by
  rw [show (1103515245 : Int64) = lN 1103515245 from rfl, show (12345 : Int64) = lN 12345 from rfl, show (2147483648 : Int64) = lN 2147483648 from rfl, lN_mul, lN_add, pk_lRem (by omega) (by omega) (by omega)]
  rfl
theorem C_draw_m {M : Mm} {a k : Nat} (ha : a < 2 ^ 31) (h : gL M 0 15 = lN a) (hk : 1 ≤ k) (hk2 : k < 2 ^ 31) : C_draw (nI k) M = some (nI (drw a / 64 % k), sL M 0 15 (lN (drw a))) := by
  have hd := drw_lt a
  unfold C_draw
  rw [h, drw_e ha, lett_e, if_pos (lt_t 0 0 rfl (by omega) hk2), nI_l hk2, gL_sL, if_pos ⟨rfl, rfl⟩, show (64 : Int64) = lN 64 from rfl, pk_lDiv (by omega) (by omega) (by omega), pk_lRem (by omega) (by omega) (by omega), lN_i, grd_t]
  rw [show (0 : Int64) = lN 0 from rfl, pk_lEQ (by omega) (by omega)]
  omega
theorem R_draw_m {M : Mm} {a k : Nat} (ha : a < 2 ^ 31) (h : gI M 0 66 = nI a) (hk : 1 ≤ k) (hk2 : k < 2 ^ 31) : R_draw (nI k) M = some (nI (drw a / 64 % k), sI M 0 66 (nI (drw a))) := by
  have hd := drw_lt a
  unfold R_draw
  rw [h, nI_l ha, drw_e ha, lN_i, lett_e, gw_s, show (64 : Int32) = nI 64 from rfl, pk_div (by omega) (by omega) (by omega), pk_rem (by omega) (by omega) (by omega), grd_t (nI_ne0 (by omega) hk2)]
theorem draw_sim (h : Rl n P Q C X) {k : Nat} (hk : 1 ≤ k) (hk2 : k < 2 ^ 31) : ∃ v C' X', v < k ∧ C_draw (nI k) C = some (nI v, C') ∧ R_draw (nI k) X = some (nI v, X') ∧ Rl n P Q C' X' ∧ (∀ a j, ¬ (a = 0 ∧ j = 66) → gI X' a j = gI X a j) ∧ (R0 X = X → R0 X' = X') := by
  obtain ⟨a, a1, a2, a3⟩ := h.2.2.2.2.1
  refine ⟨_, _, _, Nat.mod_lt _ (by omega), C_draw_m a1 a2 hk hk2, R_draw_m a1 a3 hk hk2, h.sdd (drw_lt a), fun x j e => gw_n _ _ _ _ (by omega), fun e => ?_⟩
  refine R0_self ?_ ?_
  · rw [gw_n _ _ _ _ (by omega), ← e]; rfl
  · rw [gw_n _ _ _ _ (by omega), ← e]; rfl
theorem chance_ask (h : Rl n P Q C X) (hx : R0 X = X) (h0 : 0 < n) : ∃ C1 X1, C_askByChance C = some C1 ∧ (∀ {ρ : Type} (k : Mm → Option ρ), (bnd (R_draw (gI X 0 1) X) fun r10 =>
 lett r10.1 fun v11 =>
 bnd (R_draw (gI r10.2 0 2) r10.2) fun r12 =>
 lett r12.1 fun v13 =>
 bnd (R_draw (16 : Int32) r12.2) fun r14 =>
 lett (r14.1 + (1 : Int32)) fun v15 =>
 bnd (R_canAsk v11 v13 v15 r14.2) fun r16 =>
 lett k fun j106 =>
 if r16 = 0 then
 (j106 r14.2)
 else
 (bnd (R_asks v11 v13 v15 (1 : Int32) (0 : Int32) r14.2) fun M21 =>
 j106 M21)) = k X1) ∧ Rl n P Q C1 X1 ∧ R0 X1 = X1 ∧ gI X1 16 0 = gI X 16 0 := by
  obtain ⟨c1, c2, c3⟩ := h.cnt
  have hq := shC_P h.PQ
  obtain ⟨q, C2, X2, q1, d1, d2, r2, x2, z2⟩ := draw_sim h (k := n) h0 (by omega)
  obtain ⟨-, ⟨s, t, c, ht, hS⟩, -, -⟩ := r2.di h0
  have e20 : gI C2 P 0 = nI s := by
    have e := hS.L.1.1.trans hS.K.s1
    rwa [sb_I, em_hi (by omega), show P + (20 - 20) = P by omega] at e
  have hs9 := hS.K.s9
  have hs64 := hS.K.s64
  have es : gI X2 0 2 = nI s := hS.K.s1
  obtain ⟨a, C3, X3, a1, d3, d4, r3, x3, z3⟩ := draw_sim r2 (k := s) (by omega) (by omega)
  obtain ⟨b, C4, X4, b1, d5, d6, r4, x4, z4⟩ := draw_sim r3 (k := 16) (by omega) (by omega)
  have h8 := r4.di h0
  have h8' := h8
  obtain ⟨-, ⟨s', t', c', ht', hS'⟩, -, -⟩ := h8'
  have hx4 := z4 (z3 (z2 hx))
  have x16 : gI X4 16 0 = gI X 16 0 := by rw [x4 _ _ (by omega), x3 _ _ (by omega), x2 _ _ (by omega)]
  have d5' : C_draw 16 C3 = some (nI b, C4) := d5
  have d6' : R_draw 16 X3 = some (nI b, X4) := d6
  rcases can_sim hS' hx4 q1 (nI a) (nI (b + 1)) with ⟨f1, f2⟩ | ⟨a', b', ea, eb, ab, b2, b3, o7, f1, f2⟩
  · refine ⟨C4, X4, ?_, fun k => ?_, r4, hx4, x16⟩
    · unfold C_askByChance
      rw [lett_e, h.p0, nn_s, grd_t hq, c1, d1, bnd_s, lett_e, lett_e, r2.p0, nn_s, grd_t hq, e20, d3, bnd_s, lett_e, d5', bnd_s, lett_e, nI_1, plnS_e _ r4.1.2.2.2.1 r4.PQ, f1, bnd_s, if_pos rfl]
    · rw [c2, d2, bnd_s, lett_e, es, d4, bnd_s, lett_e, d6', bnd_s, lett_e, nI_1, f2, bnd_s, lett_e, if_pos rfl]
  · have hs9' := hS'.K.s9
    have e1 : a = a' := (nI_eq (by omega) (by omega)).mp ea
    have e2 : b + 1 = b' := (nI_eq (by omega) (by omega)).mp eb
    subst e1
    obtain ⟨r, z, R2, g1, g2, g3, g4, g5, g6, g7⟩ := send_sim r4 h8 hx4 q1 hS'.K.s1 hs9' (b := b + 1) (a := a) (by omega) ⟨by omega, by omega⟩ o7
    refine ⟨_, R2, ?_, fun k => ?_, g4, g3, g7.trans x16⟩
    · unfold C_askByChance
      rw [lett_e, h.p0, nn_s, grd_t hq, c1, d1, bnd_s, lett_e, lett_e, r2.p0, nn_s, grd_t hq, e20, d3, bnd_s, lett_e, d5', bnd_s, lett_e, nI_1, plnS_e _ r4.1.2.2.2.1 r4.PQ, f1, bnd_s, if_neg i10, plnS_e _ r4.1.2.2.2.1 r4.PQ, g1, bnd_s, lett_e]
    · rw [c2, d2, bnd_s, lett_e, es, d4, bnd_s, lett_e, d6', bnd_s, lett_e, nI_1, f2, bnd_s, lett_e, if_neg i10, g2, bnd_s]
theorem chance_sim (h : Rl n P Q C R) (p : Int32) : ∃ a C' R', C_chance p C = some (a, C') ∧ R_chance p R = some (a, R') ∧ Rl n P Q C' R' := by
  have hB : BB 0 := Or.inl rfl
  have hp := shC_P h.PQ
  have no : ∃ C' R', (bnd (C_refuse 2 C) fun r2 => some (r2.1, r2.2)) = some (-1, C') ∧ (bnd (R_refuses 2 (R0 R)) fun r2 => some (r2.1, r2.2)) = some (-1, R') ∧ Rl n P Q C' R' := by
    rw [C_ref_2, R_ref_2]
    exact ⟨_, _, rfl, rfl, h.r0.ref 2⟩
  obtain ⟨C', R', n1, n2, n3⟩ := no
  obtain ⟨c1, c2, c3⟩ := h.cnt
  have c2' : gI (R0 R) 0 1 = nI n := (R0_1 R).trans c2
  by_cases h0 : n = 0
  · refine ⟨-1, C', R', ?_, ?_, n3⟩
    · unfold C_chance; rw [lett_e, h.p0, nn_s, grd_t hp, lett_e, c1, h0, if_pos nI_0]; exact n1
    · unfold R_chance; rw [R_isNow_e, bnd_s, lett_e, c2', h0, if_pos nI_0]; exact n2
  · have h0' : 0 < n := by omega
    rcases isIn_c (M := C) (M' := R0 R) p 1 40 1 40 rfl rfl (by omega) (by omega) with ⟨⟨f1, f2⟩, -⟩ | ⟨k, k1, k2, rfl, f1, f2⟩
    · refine ⟨-1, C', R', ?_, ?_, n3⟩
      · unfold C_chance; rw [lett_e, h.p0, nn_s, grd_t hp, lett_e, c1, if_neg (nI_ne0 h0' (by omega)), f1, bnd_s, if_pos rfl]; exact n1
      · unfold R_chance; rw [R_isNow_e, bnd_s, lett_e, c2', if_neg (nI_ne0 h0' (by omega)), f2, bnd_s, if_pos rfl]; exact n2
    · have h8 := h.di h0'
      have h8' := h8
      obtain ⟨d0, ⟨s, t, c, ht, hS⟩, -, -⟩ := h8'
      have i0 : R_its 0 (R0 R) = some (nI t) := (R_its_k0 hB).trans (congrArg some hS.I.t0)
      have c10 : gI C 26 10 = nI t := hS.g10.trans hS.I.t0
      by_cases e : t + 7 * k ≤ 9999
      · obtain ⟨C1, X, y1, x1, x2, r1, d1, x3, x4, y2⟩ := keep_sim h.r0 (h.sd0 h8)
        have tx : gI X 16 0 = nI t := by
          rw [x3 16 0 (by omega) (by omega) (by omega)]
          exact ((R0_s R).1 16 0 (by omega) (by omega) (by omega) (by omega) (by omega) (by omega)).trans hS.I.t0
        obtain ⟨f, f0, fI, fS⟩ := seqN (α := Mm × Mm) (fun i x => Rl n P Q x.1 x.2 ∧ R0 x.2 = x.2 ∧ ∃ t', t' ≤ t + 7 * i ∧ gI x.2 16 0 = nI t') (fun i x y => ∃ M9 v M10 z X9 X10, C_askByChance x.1 = some M9 ∧ C_draw 8 M9 = some (nI v, M10) ∧ gR M10 26 0 = some P ∧ S_run (nI v) (sbM (emS 26 P) M10) = some z ∧ y.1 = inM (dmS 26 P) kpS M10 z ∧ (∀ {ρ : Type} (k : Mm → Option ρ), (bnd (R_draw (gI x.2 0 1) x.2) fun r10 =>
 lett r10.1 fun v11 =>
 bnd (R_draw (gI r10.2 0 2) r10.2) fun r12 =>
 lett r12.1 fun v13 =>
 bnd (R_draw (16 : Int32) r12.2) fun r14 =>
 lett (r14.1 + (1 : Int32)) fun v15 =>
 bnd (R_canAsk v11 v13 v15 r14.2) fun r16 =>
 lett k fun j106 =>
 if r16 = 0 then
 (j106 r14.2)
 else
 (bnd (R_asks v11 v13 v15 (1 : Int32) (0 : Int32) r14.2) fun M21 =>
 j106 M21)) = k X9) ∧ R_draw 8 X9 = some (nI v, X10) ∧ R_goesOnFor (nI v) X10 = some y.2) (a := (C1, X)) ⟨r1, x2, t, by omega, tx⟩ k (fun i x hi hI => by
          obtain ⟨g1, g2, t', g3, g4⟩ := hI
          obtain ⟨M9, X9, a1, a2, a3, a4, a5⟩ := chance_ask g1 g2 h0'
          obtain ⟨v, M10, X10, v1, b1, b2, b3, b4, b5⟩ := draw_sim a3 (k := 8) (by omega) (by omega)
          have tt : gI X10 16 0 = nI t' := by rw [b4 _ _ (by omega), a5]; exact g4
          obtain ⟨z, R2, e1, e2, e3, e4, e5, e6⟩ := run_sim b3 (b3.di h0') (b5 a4) tt (by omega) (N := v) (by omega)
          exact ⟨(_, R2), ⟨M9, v, M10, z, X9, X10, a1, b1, b3.1.2.2.2.1, e1, rfl, a2, b2, e2⟩, e4, e3, t' + v, by omega, e6⟩)
        obtain ⟨g1, g2, t', g3, g4⟩ := fI k (Nat.le_refl _)
        refine ⟨nI t', (f k).1, (f k).2, ?_, ?_, g1⟩
        · unfold C_chance
          rw [lett_e, h.p0, nn_s, grd_t hp, lett_e, c1, if_neg (nI_ne0 h0' (by omega)), f1, bnd_s, if_neg i10, c10, show (7 : Int32) = nI 7 from rfl, pk_mul, nI_add, if_pos (nle_t 9999 9999 rfl e (by omega)), y1, bnd_s, lett_e]
          refine loopR_sq (fun i => (nI i, (f i).1)) k (by omega) ?_ (fun i hi rec => ?_) (fun rec => ?_)
          · show (nI 0, C1) = (nI 0, (f 0).1)
            rw [f0]
          · obtain ⟨M9, v, M10, z, X9, X10, s1, s2, s3, s4, s5, -⟩ := fS i hi
            dsimp only
            rw [if_neg (nI_ge hi (by omega)), s1, bnd_s, s2, bnd_s, plnS_e _ s3 h.PQ, s4, bnd_s, lett_e, lett_e, nA_1, s5]
          · dsimp only
            obtain ⟨-, ⟨s', t2, c', -, hS'⟩, -, -⟩ := g1.di h0'
            rw [if_pos (nI_le (Nat.le_refl _) (by omega)), hS'.g10, g4]
        · unfold R_chance
          rw [R_isNow_e, bnd_s, lett_e, c2', if_neg (nI_ne0 h0' (by omega)), f2, bnd_s, if_neg i10, i0, bnd_s, show (7 : Int32) = nI 7 from rfl, pk_mul, nI_add, if_pos (nle_t 9999 9999 rfl e (by omega)), x1, bnd_s, lett_e, lett_e]
          refine loopR_sq (fun i => (nI i, (f i).2)) k (by omega) ?_ (fun i hi rec => ?_) (fun rec => ?_)
          · show (nI 0, X) = (nI 0, (f 0).2)
            rw [f0]
          · obtain ⟨M9, v, M10, z, X9, X10, -, -, -, -, -, s6, s7, s8⟩ := fS i hi
            dsimp only
            rw [if_neg (nI_ge hi (by omega)), s6, s7, bnd_s, s8, bnd_s, lett_e, nA_1]
          · dsimp only
            have := R_its_k0 hB (m0 := (f k).2) (D := gI (f k).2 16) (F := gF (f k).2 17)
            rw [show mkR (f k).2 0 (gI (f k).2 16) (gF (f k).2 17) = (f k).2 from g2] at this
            rw [if_pos (nI_le (Nat.le_refl _) (by omega)), this, bnd_s, g4]
      · refine ⟨-1, C', R', ?_, ?_, n3⟩
        · unfold C_chance; rw [lett_e, h.p0, nn_s, grd_t hp, lett_e, c1, if_neg (nI_ne0 h0' (by omega)), f1, bnd_s, if_neg i10, c10, show (7 : Int32) = nI 7 from rfl, pk_mul, nI_add, if_neg (nle_f 9999 9999 rfl (by omega) (by omega))]; exact n1
        · unfold R_chance; rw [R_isNow_e, bnd_s, lett_e, c2', if_neg (nI_ne0 h0' (by omega)), f2, bnd_s, if_neg i10, i0, bnd_s, show (7 : Int32) = nI 7 from rfl, pk_mul, nI_add, if_neg (nle_f 9999 9999 rfl (by omega) (by omega))]; exact n2
end CHANCE
