/-! PURE: ahead: where it starts, how it runs, in both -/
def Ah (n s t b k P : Nat) (C : Mm) (σ : Sta) : Prop := AR n s t b k σ ∧ σ.E = sbM (emS 46 P) C ∧ (∀ a i j, locI n a i = some j → gI C (46 + a) i = σ.D j) ∧ (∀ a i j, locF n a i = some j → gF C (46 + a) i = σ.F j) ∧ gR C 46 0 = some P
def Fm (R : Mm) (σ : Sta) : Prop := (∀ a i, a ≠ 20 → a ≠ 21 → a ≠ 0 ∨ i < 56 ∨ 58 < i → gI σ.m a i = gI R a i) ∧ σ.m.2 = R.2
section AHS
variable {n s t b k P Q c : Nat} {C C' R : Mm} {σ σ' : Sta}
theorem Fm.w (h : Fm R σ) (w : AW n k σ σ') : Fm R σ' := ⟨fun a i h1 h2 h3 => (w.2.2.2.2.1 a i h1 h2 h3).trans (h.1 a i h1 h2 h3), w.2.2.2.2.2.trans h.2⟩
theorem Fm.seq {f : Nat → Sta} {N : Nat} (h : Fm R (f 0)) (hf : ∀ i, i < N → AW n i (f i) (f (i + 1))) : Fm R (f N) := by
  induction N with
  | zero => exact h
  | succ N ih => exact (ih (fun i hi => hf i (by omega))).w (hf N (by omega))
theorem Fm.sm (h : Fm R σ) (D : Nat → Int32) (F : Nat → UInt32) : RSm R (mkR σ.m 758 D F) := by
  refine ⟨fun a k h1 h2 h3 h4 _ _ => ?_, fun a k h1 => ?_⟩
  · rw [← h.1 a k h3 h4 (by omega)]
    show (if a = 16 ∧ 758 ≤ k ∧ k < 758 + 758 then D (k - 758) else if a = 0 ∧ k = 53 then nI 758 else if a = 0 ∧ k = 54 then nI (pB 758) else σ.m.1 a k) = σ.m.1 a k
    rw [if_neg (by omega), if_neg (by omega), if_neg (by omega)]
  · show (if a = 17 ∧ pB 758 ≤ k ∧ k < pB 758 + 20 then F (k - pB 758) else σ.m.2.1 a k) = R.2.1 a k
    rw [h.2, show pB 758 = 20 from rfl, if_neg (by omega)]
theorem start_ahead (hS : StR R n s t c (gI R 16) (gF R 17) C 26 P) (hP : P = 1 ∨ P = 10) : ∃ C1 σ, C_startAhead C = some (46, C1) ∧ R_tries R = some (mkR σ.m 758 σ.D σ.F) ∧ Ah n s t 0 0 P C1 σ ∧ Fm R σ ∧ CSm C C1 ∧ σ.D = gI R 16 ∧ σ.ne = 0 ∧ σ.nx = 0 := by
  obtain ⟨e1, e2, e3, e4, e5⟩ := hS.pre
  obtain ⟨C1, a1, a2, ⟨a3, a4, a5⟩, a6, a7, a8⟩ := copyFor_m (th := 46) (p1 := 26) (by unfold apt; omega) hP hS.pl e1 e2 e3 e4 e5
  have hn := hS.K.n6
  have hi : ∀ r k, mvI n c r k → r < 20 → gI (sbM (emS 46 P) C1) r k = gI (sbM (emS 26 P) C) r k := fun r k h4 h5 => by
    rw [sb_I, sb_I, em_lo h5, em_lo h5]; exact a2 r k h4
  have hl : ∀ r k, r < 20 → gI (sbM (emS 46 P) C1) r k = gI C1 (46 + r) k := fun r k h => by rw [sb_I, em_lo h]
  have sp : SP R (R8 R) := SP.of (fun a k e => (gw_n _ _ _ _ (by omega)).trans ((gw_n _ _ _ _ (by omega)).trans (gw_n _ _ _ _ (by omega))))
  obtain ⟨T, t1, t2, t3, t4⟩ := hS.KR
  refine ⟨C1, (R8 R, gI R 16, gF R 17, sbM (emS 46 P) C1, c, 0, fun _ => (0, 0, 0, 0), 0, fun _ => (0, 0, 0, 0)), ?_, R_tries_e R, ⟨⟨hS.K.sp sp, (hS.L.cgE ?_).sp sp, hS.I.sp sp, hS.X.cg2 hn ?_, rfl, ⟨rfl, fun j hj => absurd hj (Nat.not_lt_zero j)⟩, ⟨rfl, fun j hj => absurd hj (Nat.not_lt_zero j)⟩, Nat.le_refl _, Nat.le_refl _, fun j hj => absurd hj (Nat.not_lt_zero j), ⟨?_, by omega, ?_, fun p hp => ?_⟩, ⟨?_, fun h => absurd h (Nat.lt_irrefl 0)⟩, _, t3, Nat.min_le_right _ _⟩, rfl, ?_, ?_, a7⟩, ⟨?_, rfl⟩, ?_, rfl, rfl, rfl⟩
  · unfold C_startAhead
    rw [a1, bnd_s]
  · intro r k e1 e2
    show gI (sbM (emS 46 P) C1) r k = _
    rw [sb_I, sb_I, em_hi e1, em_hi e1]
    exact a8.1 _ _ (by omega)
  · intro r k e
    refine hi r k ?_ (by omega)
    rcases e with ⟨rfl, e⟩ | ⟨rfl, e⟩ | ⟨rfl, rfl⟩ | ⟨q, hq, rfl, rfl⟩ <;> unfold mvI <;> omega
  · exact (hi 0 19 (by unfold mvI; omega) (by omega)).trans hS.CT.1
  · exact (hl 0 18 (by omega)).trans a4
  · have z : ∀ k, 9 ≤ k → k < 14 → gI (sbM (emS 46 P) C1) (8 + 2 * p) k = 0 := fun k h1 h2 => (hl _ k (by omega)).trans (a5 p k hp h1 h2)
    exact ⟨z 9 (by omega) (by omega), z 10 (by omega) (by omega), z 11 (by omega) (by omega), z 12 (by omega) (by omega), z 13 (by omega) (by omega)⟩
  · exact (hl 6 1 (by omega)).trans a3
  · exact fun a i j hj => (a2 a i (locI_mv hn hj)).trans (hS.2.1 a i j hj)
  · exact fun a i j hj => (a6 a i (locF_mv hn hj)).trans (hS.2.2.1 a i j hj)
  · exact fun a i h1 h2 h3 => (gw_n _ _ _ _ (by omega)).trans ((gw_n _ _ _ _ (by omega)).trans (gw_n _ _ _ _ (by omega)))
  · exact ⟨fun a k h => a8.1 a k (by omega), fun a k h => a8.2.1 a k (by omega), fun a k => a8.2.2.1 a k, fun a k h => a8.2.2.2 a k (by omega)⟩
theorem AR.ofS {E' : Mm} (h : AR n s t b k σ) (hE : ∀ r j, r < 29 → gI E' r j = gI (mkS n σ.E σ.D σ.F) r j) : AR n s t b k (σ.m, σ.D, σ.F, E', σ.c, σ.ne, σ.ev, σ.nx, σ.xv) := by
  obtain ⟨hK, hL, I, hX, h56, hl, hx, h1, h2, h3, ⟨c1, c2, c3, c4⟩, ⟨k1, k2⟩, h9⟩ := h
  have hn := hK.n6
  refine ⟨hK, hL.cgE (fun r k h1 h2 => (hE r k h2).trans (mkS_n _ _ _ (locI_hi h1 k))), I, hX.cgE hn (fun r k h => ?_), h56, hl, hx, h1, h2, h3, ⟨((hE 0 19 (by omega)).trans (s0_19 _ _ _)).trans c1, c2, ((hE 0 18 (by omega)).trans (s0_18 _ _ _)).trans c3, fun p hp => ?_⟩, ⟨((hE 6 1 (by omega)).trans (s6 _ _ _)).trans k1, fun h => ?_⟩, h9⟩
  · show gI E' r k = gI σ.E r k
    rcases h with rfl | rfl | ⟨rfl, rfl⟩ | ⟨q, hq, rfl, rfl⟩
    · exact (hE _ _ (by omega)).trans (s4 _ _ _ k)
    · exact (hE _ _ (by omega)).trans (s5 _ _ _ k)
    · exact (hE _ _ (by omega)).trans (s0_13 _ _ _)
    · exact (hE _ _ (by omega)).trans (sQ_8 _ _ _ (by omega))
  · obtain ⟨p1, p2, p3, p4, p5⟩ := c4 p hp
    exact ⟨((hE (8 + 2 * p) 9 (by omega)).trans (sP_9 _ _ _ (by omega))).trans p1, ((hE (8 + 2 * p) 10 (by omega)).trans (sP_10 _ _ _ (by omega))).trans p2, ((hE (8 + 2 * p) 11 (by omega)).trans (sP_11 _ _ _ (by omega))).trans p3, ((hE (8 + 2 * p) 12 (by omega)).trans (sP_12 _ _ _ (by omega))).trans p4, ((hE (8 + 2 * p) 13 (by omega)).trans (sP_13 _ _ _ (by omega))).trans p5⟩
  · have e7 : ∀ i, gI E' 7 i = gI σ.E 7 i := fun i => (hE 7 i (by omega)).trans (s7 _ _ _ i)
    obtain ⟨q1, q2, q3⟩ := k2 h
    exact ⟨(e7 _).trans q1, (e7 _).trans q2, (e7 _).trans q3⟩
theorem Ah.mk (h : Ah n s t b k P C σ) : mkS n σ.E σ.D σ.F = sbM (emS 46 P) C := by
  obtain ⟨-, hE, h1, h2, -⟩ := h
  rw [hE]
  refine mkS_self (fun a k j hj => ?_) (fun a k j hj => ?_)
  · rw [sb_I, em_lo (locI_lt hj).1]; exact h1 a k j hj
  · rw [sb_F, em_lo (locF_lt hj).1]; exact h2 a k j hj
theorem Ah.back (hA : AR n s t b k σ) (hr : gR C 46 0 = some P) (hP : P = 1 ∨ P = 10) : Ah n s t b k P (inM (dmS 46 P) kpS C (mkS n σ.E σ.D σ.F)) (σ.m, σ.D, σ.F, sbM (emS 46 P) (inM (dmS 46 P) kpS C (mkS n σ.E σ.D σ.F)), σ.c, σ.ne, σ.ev, σ.nx, σ.xv) := by
  have hI : ∀ r k, r < 29 → gI (inM (dmS 46 P) kpS C (mkS n σ.E σ.D σ.F)) (emS 46 P r) k = gI (mkS n σ.E σ.D σ.F) r k := fun r k hr => by
    show (match dmS 46 P (emS 46 P r) with | some r => (mkS n σ.E σ.D σ.F).1 r k | none => C.1 (emS 46 P r) k) = _
    rw [(emS_ok 46 (Or.inr rfl) P hP r hr).2]
    rfl
  have hf : ∀ r k, r < 29 → gF (inM (dmS 46 P) kpS C (mkS n σ.E σ.D σ.F)) (emS 46 P r) k = gF (mkS n σ.E σ.D σ.F) r k := fun r k hr => by
    show (match dmS 46 P (emS 46 P r) with | some r => (mkS n σ.E σ.D σ.F).2.1 r k | none => C.2.1 (emS 46 P r) k) = _
    rw [(emS_ok 46 (Or.inr rfl) P hP r hr).2]
    rfl
  refine ⟨hA.ofS (fun r k hr => ?_), rfl, fun a k j hl => ?_, fun a k j hl => ?_, in_R.trans hr⟩
  · rw [sb_I]; exact hI r k hr
  · have := (locI_lt hl).1
    rw [← em_lo (B := 46) (P := P) this, hI _ _ (by omega)]; exact mkS_r _ _ _ hl
  · have := (locF_lt hl).1
    rw [← em_lo (B := 46) (P := P) this, hf _ _ (by omega)]; exact mkS_f _ _ _ hl
theorem run_csm {E' : Mm} {D : Nat → Int32} {F : Nat → UInt32} (hP : P = 1 ∨ P = 10) (hE : ∀ r j, 20 ≤ r → gI E' r j = gI (sbM (emS 46 P) C) r j) : CSm C (inM (dmS 46 P) kpS C (mkS n E' D F)) := by
  refine ⟨fun a k h => ?_, fun a k h => in_F (by omega) (by omega), fun _ _ => in_L, fun _ _ _ => in_R⟩
  by_cases e2 : P ≤ a ∧ a < P + 9
  · rw [in_plan (Or.inr rfl) hP e2.1 e2.2, mkS_n _ _ _ (locI_hi (by omega) k), hE _ _ (by omega), sb_I, em_hi (by omega), show P + (20 + (a - P) - 20) = a by omega]
  · exact in_I (by omega) (by omega)
theorem one_ahead (h : Ah n s t b k P C σ) (hP : P = 1 ∨ P = 10) (ht : t + k + 1 < 16000) (hk : k < 400) : ∃ z σ', S_run 1 (sbM (emS 46 P) C) = some z ∧ AW n k σ σ' ∧ Ah n s t b (k + 1) P (inM (dmS 46 P) kpS C z) σ' ∧ CSm C (inM (dmS 46 P) kpS C z) := by
  obtain ⟨σ1, a1, a2⟩ := tick_ahead h.1 ht hk
  have e := S_one a1
  rw [h.mk] at e
  have w := a1.w
  refine ⟨_, _, e, ?_, Ah.back a2 h.2.2.2.2 hP, run_csm hP (fun r j hr => ?_)⟩
  · exact w
  · rw [a1.2.2.2.2.2.2.2 r j hr, h.2.1]
/-- some ticks at once -/
theorem run_ahead (h : Ah n s t b 0 P C σ) (hP : P = 1 ∨ P = 10) {N : Nat} (hN : N ≤ 400) (ht : t + N < 16000) : ∃ z σ', S_run (nI N) (sbM (emS 46 P) C) = some z ∧ R_goesOnFor (nI N) (mkR σ.m 758 σ.D σ.F) = some (mkR σ'.m 758 σ'.D σ'.F) ∧ Ah n s t b N P (inM (dmS 46 P) kpS C z) σ' ∧ CSm C (inM (dmS 46 P) kpS C z) ∧ (Fm R σ → Fm R σ') := by
  obtain ⟨f, f0, f1, f2⟩ := seq_ahead h.1 N hN ht
  have e := S_run_ahead f2 hN
  have e2 := R_for_ahead (fun i hi => (f2 i hi).w) hN
  rw [f0] at e e2
  rw [h.mk] at e
  have fr : ∀ i, i ≤ N → ∀ r j, 20 ≤ r → gI (f i).E r j = gI σ.E r j := by
    intro i
    induction i with
    | zero => intro _ r j _; rw [f0]
    | succ i ih =>
      intro hi r j hr
      rw [(f2 i (by omega)).2.2.2.2.2.2.2 r j hr]
      exact ih (by omega) r j hr
  refine ⟨_, _, e, ?_, Ah.back (f1 N (Nat.le_refl _)) h.2.2.2.2 hP, run_csm hP (fun r j hr => ?_), fun hf => ?_⟩
  · exact e2
  · rw [fr N (Nat.le_refl _) r j hr, h.2.1]
  · have := Fm.seq (R := R) (f := f) (N := N) (by rw [f0]; exact hf) (fun i hi => (f2 i hi).w)
    exact this
/-- tick by tick -/
theorem chain_ahead (h : Ah n s t b 0 P C σ) (hP : P = 1 ∨ P = 10) (N : Nat) (hN : N ≤ 400) (ht : t + N < 16000) : ∃ f : Nat → Sta × Mm, f 0 = (σ, C) ∧ (∀ i, i ≤ N → Ah n s t b i P (f i).2 (f i).1 ∧ CSm C (f i).2) ∧ ∀ i, i < N → AW n i (f i).1 (f (i + 1)).1 ∧ ∃ z, S_run 1 (sbM (emS 46 P) (f i).2) = some z ∧ (f (i + 1)).2 = inM (dmS 46 P) kpS (f i).2 z := by
  refine seqN (α := Sta × Mm) (fun i x => Ah n s t b i P x.2 x.1 ∧ CSm C x.2) (fun i x y => AW n i x.1 y.1 ∧ ∃ z, S_run 1 (sbM (emS 46 P) x.2) = some z ∧ y.2 = inM (dmS 46 P) kpS x.2 z) ⟨h, CSm.rf⟩ N (fun i x hi hI => ?_)
  obtain ⟨z, σ', a1, a2, a3, a4⟩ := one_ahead hI.1 hP (by omega) (by omega)
  exact ⟨(σ', _), ⟨a2, z, a1, rfl⟩, a3, hI.2.tr a4⟩
/-- what the class counts ahead -/
theorem Ah.cnt (h : Ah n s t b k P C σ) {p : Nat} (hp : p < n) : gI C (54 + 2 * p) 9 = nI (fE σ.ev (some p) 0 σ.ne) ∧ gI C (54 + 2 * p) 10 = nI (fE σ.ev (some p) 1 σ.ne) ∧ gI C (54 + 2 * p) 11 = nI (fE σ.ev (some p) 2 σ.ne) ∧ gI C (54 + 2 * p) 12 = nI (fE σ.ev (some p) 3 σ.ne) ∧ gI C (54 + 2 * p) 13 = nI (fA σ.ev p b σ.ne) := by
  have hn := h.1.1.n6
  have hc := h.1.2.2.2.2.2.2.2.2.2.2.1.2.2.2 p hp
  rw [h.2.1, sb_I, sb_I, sb_I, sb_I, sb_I, em_lo (by omega), show 46 + (8 + 2 * p) = 54 + 2 * p by omega] at hc
  exact hc
theorem Ah.ne (h : Ah n s t b k P C σ) : σ.ne ≤ k ∧ σ.nx ≤ k ∧ ∀ j, j < σ.ne → oke n k (σ.ev j) := ⟨h.1.2.2.2.2.2.2.2.1, h.1.2.2.2.2.2.2.2.2.1, h.1.2.2.2.2.2.2.2.2.2.1⟩
theorem Ah.le (h : Ah n s t b k P C σ) : LE σ.m σ.ne σ.ev := h.1.2.2.2.2.2.1
theorem Ah.lx (h : Ah n s t b k P C σ) : LX σ.m σ.nx σ.xv := h.1.2.2.2.2.2.2.1
theorem Ah.n6 (h : Ah n s t b k P C σ) : n ≤ 6 := h.1.1.n6
/-- one number set before it runs -/
theorem Ah.set (h : Ah n s t b k P C σ) (hP : P ≤ 10) {a i j : Nat} {v : Int32} (hl : locI n a i = some j) (hI : Inv σ.m n s (t + k) (t + k) σ.c (updD σ.D j v) σ.F) (hak : (a = 0 ∧ (i = 16 ∨ i = 17)) ∨ ∃ p, p < n ∧ a = 8 + 2 * p ∧ (i = 0 ∨ i = 1)) (hj : j = 6 ∨ j = 7 ∨ ∃ p, p < n ∧ (j = 18 + 14 * p + 0 ∨ j = 18 + 14 * p + 8)) : Ah n s t b k P (sI C (46 + a) i v) (σ.m, updD σ.D j v, σ.F, sbM (emS 46 P) (sI C (46 + a) i v), σ.c, σ.ne, σ.ev, σ.nx, σ.xv) := by
  obtain ⟨⟨hK, hL, I, hX, h56, le, lx, h1, h2, h3, ⟨c1, c2, c3, c4⟩, ⟨k1, k2⟩, k9, h9, h9'⟩, hE, l1, l2, l3⟩ := h
  have hn := hK.n6
  have ha20 := (locI_lt hl).1
  have hk : i ≤ 1 ∨ i = 16 ∨ i = 17 := by
    rcases hak with ⟨-, h⟩ | ⟨p, -, -, h⟩ <;> omega
  have hj2 : j = 6 ∨ j = 7 ∨ (18 ≤ j ∧ j < 102) := by
    rcases hj with h | h | ⟨p, h1, h2⟩ <;> omega
  have ha2 : a = 0 ∨ (8 ≤ a ∧ a % 2 = 0) := by
    rcases hak with ⟨h, -⟩ | ⟨p, -, h, -⟩ <;> omega
  have e : ∀ r i', r < 20 → (r ≠ a ∨ i' ≠ i) → gI (sbM (emS 46 P) (sI C (46 + a) i v)) r i' = gI σ.E r i' := fun r i' h1 h2 => by
    rw [hE, sb_I, sb_I, em_lo h1, gw_n _ _ _ _ (by omega)]
  refine ⟨⟨hK, hL.cgE (fun r i' e1 e2 => ?_), hI, (hX.cgD2 hn (fun i hi => updD_n _ _ (by omega))).cg2 hn (fun r i' h1 => e r i' (by omega) ?_), h56, le, lx, h1, h2, h3, ⟨(e 0 19 (by omega) (by omega)).trans c1, c2, (e 0 18 (by omega) (by omega)).trans c3, fun p hp => ?_⟩, ⟨(e 6 1 (by omega) (by omega)).trans k1, fun h => ?_⟩, k9, (updD_n _ _ (by omega)).trans h9, h9'⟩, rfl, fun a' i' j' hl' => ?_, l2, l3⟩
  · show gI (sbM (emS 46 P) (sI C (46 + a) i v)) r i' = gI σ.E r i'
    rw [hE, sb_I, sb_I, em_hi e1, gw_n _ _ _ _ (by omega)]
  · rcases h1 with ⟨rfl, h2⟩ | ⟨rfl, h2⟩ | ⟨rfl, rfl⟩ | ⟨q, hq, rfl, rfl⟩ <;> omega
  · obtain ⟨p1, p2, p3, p4, p5⟩ := c4 p hp
    exact ⟨(e _ 9 (by omega) (by omega)).trans p1, (e _ 10 (by omega) (by omega)).trans p2, (e _ 11 (by omega) (by omega)).trans p3, (e _ 12 (by omega) (by omega)).trans p4, (e _ 13 (by omega) (by omega)).trans p5⟩
  · obtain ⟨q1, q2, q3⟩ := k2 h
    exact ⟨(e 7 _ (by omega) (by omega)).trans q1, (e 7 _ (by omega) (by omega)).trans q2, (e 7 _ (by omega) (by omega)).trans q3⟩
  · show gI (sI C (46 + a) i v) (46 + a') i' = updD σ.D j v j'
    by_cases ee : a' = a ∧ i' = i
    · obtain ⟨rfl, rfl⟩ := ee
      rw [hl] at hl'
      cases hl'
      rw [gw_s, updD_s]
    · rw [gw_n _ _ _ _ (by omega), updD_n]
      · exact l1 a' i' j' hl'
      · intro e3
        subst e3
        exact ee (locI_inj hl hl')
/-- the bound above which is counted -/
theorem Ah.bound (h : Ah n s t b k P C σ) (hP : P ≤ 10) (h0 : σ.ne = 0) {b' : Nat} (hb : b' < 2 ^ 31) : Ah n s t b' k P (sI C 46 19 (nI b')) (σ.m, σ.D, σ.F, sbM (emS 46 P) (sI C 46 19 (nI b')), σ.c, σ.ne, σ.ev, σ.nx, σ.xv) := by
  obtain ⟨⟨hK, hL, I, hX, h56, le, lx, h1, h2, h3, ⟨c1, c2, c3, c4⟩, ⟨k1, k2⟩, h9⟩, hE, l1, l2, l3⟩ := h
  have hn := hK.n6
  have e : ∀ r i', r < 20 → (r ≠ 0 ∨ i' ≠ 19) → gI (sbM (emS 46 P) (sI C 46 19 (nI b'))) r i' = gI σ.E r i' := fun r i' h1 h2 => by
    rw [hE, sb_I, sb_I, em_lo h1, gw_n _ _ _ _ (by omega)]
  refine ⟨⟨hK, hL.cgE (fun r i' e1 e2 => ?_), I, hX.cg2 hn (fun r i' h1 => e r i' (by omega) ?_), h56, le, lx, h1, h2, h3, ⟨?_, hb, (e 0 18 (by omega) (by omega)).trans c3, fun p hp => ?_⟩, ⟨(e 6 1 (by omega) (by omega)).trans k1, fun h => ?_⟩, h9⟩, rfl, fun a' i' j' hl' => ?_, l2, l3⟩
  · show gI (sbM (emS 46 P) (sI C 46 19 (nI b'))) r i' = gI σ.E r i'
    rw [hE, sb_I, sb_I, em_hi e1, gw_n _ _ _ _ (by omega)]
  · rcases h1 with ⟨rfl, h2⟩ | ⟨rfl, h2⟩ | ⟨rfl, rfl⟩ | ⟨q, hq, rfl, rfl⟩ <;> omega
  · show gI (sbM (emS 46 P) (sI C 46 19 (nI b'))) 0 19 = nI b'
    rw [sb_I, em_lo (by omega)]
    exact gw_s _ _ _ _
  · obtain ⟨p1, p2, p3, p4, p5⟩ := c4 p hp
    refine ⟨(e _ 9 (by omega) (by omega)).trans p1, (e _ 10 (by omega) (by omega)).trans p2, (e _ 11 (by omega) (by omega)).trans p3, (e _ 12 (by omega) (by omega)).trans p4, (e _ 13 (by omega) (by omega)).trans (p5.trans ?_)⟩
    show nI (fA σ.ev p b σ.ne) = nI (fA σ.ev p b' σ.ne)
    rw [h0]
    rfl
  · obtain ⟨q1, q2, q3⟩ := k2 h
    exact ⟨(e 7 _ (by omega) (by omega)).trans q1, (e 7 _ (by omega) (by omega)).trans q2, (e 7 _ (by omega) (by omega)).trans q3⟩
  · have hne : ¬ (a' = 0 ∧ i' = 19) := by
      rintro ⟨rfl, rfl⟩
      exact absurd hl' (by rw [show locI n 0 19 = none from rfl]; exact fun h => nomatch h)
    show gI (sI C 46 19 (nI b')) (46 + a') i' = σ.D j'
    rw [gw_n _ _ _ _ (by omega)]
    exact l1 a' i' j' hl'
end AHS
