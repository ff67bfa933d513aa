/-! PURE: all steps of a process -/
section STEPS
variable {l T : Nat} {B : Nat → Nat} {M R M' R' : Mm}
theorem isSignF (h : Zt l B T M R) (c : Int32) : ∃ k r, k ≤ T ∧ gI M 0 6 = nI k ∧ P_DIsSign c M = some r ∧ (r = 0 ∨ (r = 1 ∧ k < T)) := by
  obtain ⟨h1, h2, h3, ⟨k, k1, k2, k3⟩, h5, h6, h7⟩ := h
  have hT := h2.1
  by_cases e : k < T
  · have : ∃ s n kd wd, TkD l B M k s n kd wd := by
      have key : ∀ j, j ≤ T → ∃ pos, AtT l B M T j pos := by
        intro j
        induction j with
        | zero => intro _; exact ⟨0, h2.2.1⟩
        | succ j ih =>
          intro hj
          obtain ⟨pos, hp⟩ := ih (by omega)
          rcases hp with ⟨q1, s, n, kd, wd, q2, -⟩ | ⟨q1, -⟩
          · exact ⟨_, h2.2.2 j s n kd wd q1 q2⟩
          · omega
      obtain ⟨pos, hp⟩ := key k k1
      rcases hp with ⟨q1, s, n, kd, wd, q2, -⟩ | ⟨q1, -⟩
      · exact ⟨s, n, kd, wd, q2⟩
      · omega
    obtain ⟨s, n, kd, wd, q1, -, -, -, ⟨q2, -⟩, -⟩ := this
    have l1 := h1.1
    unfold P_DIsSign
    rw [k2, ald_n (by omega) (by omega), ix_nI (by omega), ald_n (by omega) (by omega), q1, P_by h1 (by omega), bnd_s]
    by_cases e1 : gI M 1 k = 3
    · rw [if_pos e1]
      by_cases e2 : byN l B s = c
      · rw [if_pos e2]; exact ⟨k, 1, k1, rfl, rfl, Or.inr ⟨rfl, e⟩⟩
      · rw [if_neg e2]; exact ⟨k, 0, k1, rfl, rfl, Or.inl rfl⟩
    · rw [if_neg e1]; exact ⟨k, 0, k1, rfl, rfl, Or.inl rfl⟩
  · have ek : k = T := by omega
    have k0 : gI M 1 k = 0 := by
      have key : ∀ j, j ≤ T → ∃ pos, AtT l B M T j pos := by
        intro j
        induction j with
        | zero => intro _; exact ⟨0, h2.2.1⟩
        | succ j ih =>
          intro hj
          obtain ⟨pos, hp⟩ := ih (by omega)
          rcases hp with ⟨q1, s, n, kd, wd, q2, -⟩ | ⟨q1, -⟩
          · exact ⟨_, h2.2.2 j s n kd wd q1 q2⟩
          · omega
      obtain ⟨pos, hp⟩ := key k k1
      rcases hp with ⟨q1, -⟩ | ⟨-, q2, -⟩
      · omega
      · exact q2
    refine ⟨k, 0, k1, k2, ?_, Or.inl rfl⟩
    unfold P_DIsSign
    rw [k2, ald_n (by omega) (by omega), ix_nI (by omega), k0, if_neg (by decide)]
/-- what a process has of steps -/
def Sp (s c i : Nat) (M R : Mm) : Prop := gI R 10 c = nI i ∧ ∀ j, j < i → gI M 13 (6 * c + j) = gI R 11 (3 * (6 * c + j)) ∧ gI M 14 (6 * c + j) = gI R 11 (3 * (6 * c + j) + 1) ∧ gI M 15 (6 * c + j) = gI R 11 (3 * (6 * c + j) + 2) ∧ okStep s (gI R 11 (3 * (6 * c + j))) (gI R 11 (3 * (6 * c + j) + 1)) (gI R 11 (3 * (6 * c + j) + 2))
def MFs (c : Nat) (M M' : Mm) : Prop := (∀ a i, ¬ (a = 0 ∧ (i = 6 ∨ i = 8 ∨ i = 9)) → ¬ (13 ≤ a ∧ a ≤ 15 ∧ 6 * c ≤ i ∧ i < 6 * c + 6) → gI M' a i = gI M a i) ∧ M'.2 = M.2
def RFs (c : Nat) (R R' : Mm) : Prop := (∀ a i, ¬ (a = 0 ∧ 44 ≤ i ∧ i ≤ 47) → ¬ (a = 11 ∧ 3 * (6 * c) ≤ i ∧ i < 3 * (6 * c) + 18) → ¬ (a = 10 ∧ i = c) → gI R' a i = gI R a i) ∧ R'.2 = R.2
theorem steps_sim (h : Zt l B T M R) (h8 : gI M 0 8 = 0) {c s : Nat} (hc : c < 6) (h19 : gI R 0 19 = nI c) (h10 : gI R 10 c = 0) (h9 : gI M 9 c = gI R 9 c) (h9' : gI R 9 c = 0 ∨ gI R 9 c = 1) (m70 : gI M 7 0 = nI s) (r20 : gI R 0 20 = nI s) (hs : 64 ≤ s ∧ s < 10000) : ∃ e M' R', 1 ≤ e ∧ e ≤ 7 ∧ Zt l B T M' R' ∧ MFs c M M' ∧ RFs c R R' ∧ (gI M' 0 8 = 0 → e ≤ 6 ∧ Sp s c e M' R') ∧ (∀ (jE : Int32 → Mm → Option Mm), loopR (fun (rec129 : (Int32 × Int32 × Mm) → Option Mm) (x19 : Int32 × Int32 × Mm) =>
 if (gI x19.2.2 0 8) = 0 then
 (if x19.2.1 = 0 then
 (jE x19.1 x19.2.2)
 else
 (if (6 : Int32) < x19.1 then
 (jE x19.1 x19.2.2)
 else
 (bnd (P_DReadStep (nI c) x19.1 x19.2.2) fun M20 =>
 lett (x19.1 + (1 : Int32)) fun v21 =>
 bnd (P_DIsSign (44 : Int32) M20) fun r22 =>
 lett r22 fun v23 =>
 lett (fun (w_23 : Int32) =>
 lett (sI M20 0 6 ((gI M20 0 6) + w_23)) fun M25 =>
 rec129 (v21, v23, M25)) fun j179 =>
 if v23 = 0 then
 (j179 (0 : Int32))
 else
 (j179 (1 : Int32)))))
 else
 (jE x19.1 x19.2.2)) 1000000 ((0 : Int32), (1 : Int32), M) = jE (nI e) M') ∧ ∀ (kE : Mm → Option Mm), (bnd (R_readsStep R) fun M12 =>
 loopR (fun (rec105 : Mm → Option Mm) (x15 : Mm) =>
 bnd (R_passes (44 : Int32) x15) fun r16 =>
 if r16.1 = 0 then
 (kE r16.2)
 else
 (bnd (R_readsStep r16.2) fun M17 =>
 rec105 M17)) 1000000 M12) = kE R' := by
  obtain ⟨g, g0, gI', gS⟩ := seqN (α := (Mm × Mm) × Bool) (fun i x => x.2 = true → i ≤ 6 ∧ Zt l B T x.1.1 x.1.2 ∧ gI x.1.1 0 8 = 0 ∧ MFs c M x.1.1 ∧ RFs c R x.1.2 ∧ Sp s c i x.1.1 x.1.2) (fun i x y => x.2 = true → ∃ (Ms Rs : Mm) (v : Int32), P_DReadStep (nI c) (nI i) x.1.1 = some Ms ∧ R_readsStep x.1.2 = some Rs ∧ P_DIsSign 44 Ms = some v ∧ (v = 0 ∨ v = 1) ∧ y.1.1 = sI Ms 0 6 (gI Ms 0 6 + v) ∧ ((y.2 = true ∧ v = 1 ∧ R_passes 44 Rs = some (1, y.1.2)) ∨ (y.2 = false ∧ (v = 0 ∨ ¬ gI y.1.1 0 8 = 0) ∧ R_passes 44 Rs = some (0, y.1.2) ∧ Zt l B T y.1.1 y.1.2 ∧ MFs c M y.1.1 ∧ RFs c R y.1.2 ∧ (gI y.1.1 0 8 = 0 → i + 1 ≤ 6 ∧ Sp s c (i + 1) y.1.1 y.1.2)))) (a := ((M, R), true)) (fun _ => ⟨Nat.zero_le _, h, h8, ⟨fun _ _ _ _ => rfl, rfl⟩, ⟨fun _ _ _ _ _ => rfl, rfl⟩, h10, fun j hj => absurd hj (Nat.not_lt_zero j)⟩) 7 (fun i x hi hI => by
    by_cases xb : x.2 = true
    · obtain ⟨i6, z, z8, mf, rf, sp⟩ := hI xb
      obtain ⟨Ms, Rs, a1, a2, a3, a4, a5, a6, a7, a8⟩ := exStep z z8 hc i6 ((rf.1 _ _ (by omega) (by omega) (by omega)).trans h19) sp.1 (by rw [mf.1 _ _ (by omega) (by omega), rf.1 _ _ (by omega) (by omega) (by omega)]; exact h9) (by rw [rf.1 _ _ (by omega) (by omega) (by omega)]; exact h9') ((mf.1 _ _ (by omega) (by omega)).trans m70) ((rf.1 _ _ (by omega) (by omega) (by omega)).trans r20) hs
      have mf2 : MFs c M Ms := ⟨fun a k q1 q2 => (a4 a k q1 (by omega)).trans (mf.1 a k q1 q2), a5.trans mf.2⟩
      have rf2 : RFs c R Rs := ⟨fun a k q1 q2 q3 => (a6 a k q1 (by omega) q3).trans (rf.1 a k q1 q2 q3), a7.trans rf.2⟩
      by_cases s8 : gI Ms 0 8 = 0
      · obtain ⟨j6, b1, b2, b3, b4, b5⟩ := a8 s8
        have sp2 : Sp s c (i + 1) Ms Rs := ⟨b1, fun j hj => by
          by_cases e : j = i
          · subst e; exact ⟨b2, b3, b4, b5⟩
          · rw [a4 _ _ (by omega) (by omega), a4 _ _ (by omega) (by omega), a4 _ _ (by omega) (by omega), a6 _ _ (by omega) (by omega) (by omega), a6 _ _ (by omega) (by omega) (by omega), a6 _ _ (by omega) (by omega) (by omega)]
            exact sp.2 j (by omega)⟩
        obtain ⟨k, st, R2, k1, k2, k3, r1, r2, r3, ⟨p1, p2, p3, p4, p5⟩ | ⟨p1, p2, p3, p4⟩⟩ := isSign a3 (c := 44) (Or.inl rfl) s8
        · have mm : ∀ a i', ¬ (a = 0 ∧ i' = 6) → gI (sI Ms 0 6 (gI Ms 0 6 + 1)) a i' = gI Ms a i' := fun a i' q => gw_n _ _ _ _ (by omega)
          refine ⟨((sI Ms 0 6 (gI Ms 0 6 + 1), R2), true), fun _ => ⟨Ms, Rs, 1, a1, a2, p1, Or.inr rfl, rfl, Or.inl ⟨rfl, rfl, p2⟩⟩, fun _ => ⟨by omega, a3.go (PFr.w (by omega)) r1 (k := k + 1) (by omega) (by rw [gw_s, k2, nI_1]) (fun _ => ⟨st + 1, p4, p5⟩) ?_ ?_, ?_, ⟨fun a i' q1 q2 => (mm a i' (by omega)).trans (mf2.1 a i' q1 q2), mf2.2⟩, ⟨fun a i' q1 q2 q3 => (r1.i q1).trans (rf2.1 a i' q1 q2 q3), r1.2.trans rf2.2⟩, ⟨(r1.i (by omega)).trans sp2.1, fun j hj => ?_⟩⟩⟩
          · rw [mm _ _ (by omega), r2]; exact s8
          · rw [mm _ _ (by omega), r3]; exact a3.2.2.2.2.2.1
          · exact (mm _ _ (by omega)).trans s8
          · rw [mm _ _ (by omega), mm _ _ (by omega), mm _ _ (by omega), r1.i (by omega), r1.i (by omega), r1.i (by omega)]
            exact sp2.2 j hj
        · have mm : ∀ a i', ¬ (a = 0 ∧ i' = 6) → gI (sI Ms 0 6 (gI Ms 0 6 + 0)) a i' = gI Ms a i' := fun a i' q => gw_n _ _ _ _ (by omega)
          refine ⟨((sI Ms 0 6 (gI Ms 0 6 + 0), R2), false), fun _ => ⟨Ms, Rs, 0, a1, a2, p1, Or.inl rfl, rfl, Or.inr ⟨rfl, Or.inl rfl, p2, a3.go (PFr.w (by omega)) r1 k1 (by rw [gw_s, k2, nA_0]; rfl) (fun _ => ⟨st, p3, p4⟩) ?_ ?_, ⟨fun a i' q1 q2 => (mm a i' (by omega)).trans (mf2.1 a i' q1 q2), mf2.2⟩, ⟨fun a i' q1 q2 q3 => (r1.i q1).trans (rf2.1 a i' q1 q2 q3), r1.2.trans rf2.2⟩, fun _ => ⟨by omega, (r1.i (by omega)).trans sp2.1, fun j hj => ?_⟩⟩⟩, fun e => absurd e (show ¬ false = true by decide)⟩
          · rw [mm _ _ (by omega), r2]; exact s8
          · rw [mm _ _ (by omega), r3]; exact a3.2.2.2.2.2.1
          · rw [mm _ _ (by omega), mm _ _ (by omega), mm _ _ (by omega), r1.i (by omega), r1.i (by omega), r1.i (by omega)]
            exact sp2.2 j hj
      · obtain ⟨k, r, k1, k2, k3, k4⟩ := isSignF a3 44
        have r46 : ¬ gI Rs 0 46 = 0 := fun e => s8 (a3.2.2.2.2.1.trans e)
        have mm : ∀ a i', ¬ (a = 0 ∧ i' = 6) → gI (sI Ms 0 6 (gI Ms 0 6 + r)) a i' = gI Ms a i' := fun a i' q => gw_n _ _ _ _ (by omega)
        have k5 : ∃ k', k' ≤ T ∧ gI (sI Ms 0 6 (gI Ms 0 6 + r)) 0 6 = nI k' := by
          rcases k4 with e | ⟨e, e2⟩
          · exact ⟨k, k1, by rw [gw_s, k2, e, nA_0]; rfl⟩
          · exact ⟨k + 1, by omega, by rw [gw_s, k2, e, nI_1]⟩
        obtain ⟨k', k6, k7⟩ := k5
        have f8 : ¬ gI (sI Ms 0 6 (gI Ms 0 6 + r)) 0 8 = 0 := by rw [mm _ _ (by omega)]; exact s8
        refine ⟨((sI Ms 0 6 (gI Ms 0 6 + r), Rs), false), fun _ => ⟨Ms, Rs, r, a1, a2, k3, k4.imp id (fun e => e.1), rfl, Or.inr ⟨rfl, Or.inr f8, ?_, a3.go (PFr.w (by omega)) RFr.rf k6 k7 (fun e => absurd e f8) ?_ ?_, ⟨fun a i' q1 q2 => (mm a i' (by omega)).trans (mf2.1 a i' q1 q2), mf2.2⟩, rf2, fun e => absurd e f8⟩⟩, fun e => absurd e (show ¬ false = true by decide)⟩
        · unfold R_passes
          rw [goes_f r46, bnd_s, if_pos rfl]
        · rw [mm _ _ (by omega)]; exact a3.2.2.2.2.1
        · rw [mm _ _ (by omega)]; exact a3.2.2.2.2.2.1
    · exact ⟨x, fun e => absurd e xb, fun e => absurd e xb⟩)
  obtain ⟨E, hE1, hE2⟩ := pk_least (fun i => i ≤ 7 ∧ (g i).2 = false) ⟨7, Nat.le_refl _, by
    cases e : (g 7).2 with
    | false => rfl
    | true => have := (gI' 7 (Nat.le_refl _) e).1; omega⟩
  have hE0 : E ≠ 0 := fun e => by
    have := hE1.2
    rw [e, g0] at this
    exact absurd this (show ¬ true = false by decide)
  have run : ∀ i, i < E → (g i).2 = true := fun i hi => by
    cases e : (g i).2 with
    | true => rfl
    | false => exact absurd ⟨by omega, e⟩ (hE2 i hi)
  obtain ⟨e, rfl⟩ : ∃ e, E = e + 1 := ⟨E - 1, by omega⟩
  obtain ⟨Ms, Rs, v, a1, a2, a3, a4, a5, a6⟩ := gS e (by omega) (run e (by omega))
  have a7 : (v = 0 ∨ ¬ gI (g (e + 1)).1.1 0 8 = 0) ∧ R_passes 44 Rs = some (0, (g (e + 1)).1.2) ∧ Zt l B T (g (e + 1)).1.1 (g (e + 1)).1.2 ∧ MFs c M (g (e + 1)).1.1 ∧ RFs c R (g (e + 1)).1.2 ∧ (gI (g (e + 1)).1.1 0 8 = 0 → e + 1 ≤ 6 ∧ Sp s c (e + 1) (g (e + 1)).1.1 (g (e + 1)).1.2) := by
    rcases a6 with ⟨q, -⟩ | ⟨-, q⟩
    · rw [hE1.2] at q; exact absurd q (by decide)
    · exact q
  obtain ⟨b1, b2, b3, b4, b5, b6⟩ := a7
  refine ⟨e + 1, (g (e + 1)).1.1, (g (e + 1)).1.2, by omega, hE1.1, b3, b4, b5, b6, fun jE => ?_, fun kE => ?_⟩
  · -- the class
    have st : ∀ i, i ≤ e → ∃ Ms v, P_DReadStep (nI c) (nI i) (g i).1.1 = some Ms ∧ P_DIsSign 44 Ms = some v ∧ (v = 0 ∨ v = 1) ∧ (g (i + 1)).1.1 = sI Ms 0 6 (gI Ms 0 6 + v) ∧ (i < e → v = 1) := fun i hi => by
      obtain ⟨Ms, Rs, v, a1, a2, a3, a4, a5, a6⟩ := gS i (by omega) (run i (by omega))
      refine ⟨Ms, v, a1, a3, a4, a5, fun q => ?_⟩
      rcases a6 with ⟨-, q2, -⟩ | ⟨q2, -⟩
      · exact q2
      · rw [run (i + 1) (by omega)] at q2; exact absurd q2 (by decide)
    obtain ⟨fl, hfl⟩ : ∃ fl : Nat → Int32, ∀ i, i ≤ e → fl 0 = 1 ∧ (∃ Ms, P_DReadStep (nI c) (nI i) (g i).1.1 = some Ms ∧ P_DIsSign 44 Ms = some (fl (i + 1)) ∧ (fl (i + 1) = 0 ∨ fl (i + 1) = 1) ∧ (g (i + 1)).1.1 = sI Ms 0 6 (gI Ms 0 6 + fl (i + 1))) ∧ (i < e → fl (i + 1) = 1) ∧ (i = e → fl (i + 1) = v) := by
      refine ⟨fun i => if i = 0 then 1 else if i ≤ e then 1 else v, fun i hi => ⟨rfl, ?_, fun q => ?_, fun q => ?_⟩⟩
      · obtain ⟨Ms', v', c1, c2, c3, c4, c5⟩ := st i hi
        by_cases q : i < e
        · have c5' := c5 q
          rw [c5'] at c2 c4
          exact ⟨Ms', c1, by dsimp only; rw [if_neg (by omega), if_pos (by omega)]; exact c2, by dsimp only; rw [if_neg (by omega), if_pos (by omega)]; exact Or.inr rfl, by dsimp only; rw [if_neg (by omega), if_pos (by omega)]; exact c4⟩
        · have : i = e := by omega
          subst this
          exact ⟨Ms, a1, by dsimp only; rw [if_neg (by omega), if_neg (by omega)]; exact a3, by dsimp only; rw [if_neg (by omega), if_neg (by omega)]; exact a4, by dsimp only; rw [if_neg (by omega), if_neg (by omega)]; exact a5⟩
      · show (if i + 1 = 0 then (1 : Int32) else if i + 1 ≤ e then 1 else v) = 1
        rw [if_neg (by omega), if_pos (by omega)]
      · show (if i + 1 = 0 then (1 : Int32) else if i + 1 ≤ e then 1 else v) = v
        rw [if_neg (by omega), if_neg (by omega)]
    have fl1 : ∀ i, i ≤ e → fl i = 1 := fun i hi => by
      cases i with
      | zero => exact (hfl 0 (by omega)).1
      | succ i => exact (hfl i (by omega)).2.2.1 (by omega)
    refine loopR_sq (fun i => (nI i, fl i, (g i).1.1)) (e + 1) (by omega) ?_ (fun i hi rec => ?_) (fun rec => ?_)
    · rw [g0, (hfl 0 (by omega)).1]; rfl
    · obtain ⟨-, z, z8, -⟩ := gI' i (by omega) (run i (by omega))
      obtain ⟨-, ⟨Ms', c1, c2, c3, c4⟩, -⟩ := hfl i (by omega)
      dsimp only
      rw [if_pos z8, fl1 i (by omega), if_neg i10, if_neg (lt_f 6 6 rfl (by omega) (by omega)), c1, bnd_s, lett_e, c2, bnd_s, lett_e, lett_e, c4]
      rcases c3 with c3 | c3
      · rw [if_pos c3, c3]
        simp only [lett_e, nA_1]
      · rw [if_neg (by rw [c3]; decide), c3]
        simp only [lett_e, nA_1]
    · have fe := (hfl e (by omega)).2.2.2 rfl
      dsimp only
      by_cases q8 : gI (g (e + 1)).1.1 0 8 = 0
      · rw [if_pos q8, fe]
        rcases b1 with q | q
        · rw [if_pos q]
        · exact absurd q8 q
      · rw [if_neg q8]
  · -- the reference
    have st : ∀ i, i < e → ∃ Rs, R_readsStep (g i).1.2 = some Rs ∧ R_passes 44 Rs = some (1, (g (i + 1)).1.2) := fun i hi => by
      obtain ⟨Ms, Rs, v, a1, a2, a3, a4, a5, a6⟩ := gS i (by omega) (run i (by omega))
      refine ⟨Rs, a2, ?_⟩
      rcases a6 with ⟨-, -, q2⟩ | ⟨q2, -⟩
      · exact q2
      · rw [run (i + 1) (by omega)] at q2; exact absurd q2 (by decide)
    obtain ⟨rs, hrs⟩ : ∃ rs : Nat → Mm, ∀ i, i ≤ e → R_readsStep (g i).1.2 = some (rs i) ∧ (i < e → R_passes 44 (rs i) = some (1, (g (i + 1)).1.2)) ∧ (i = e → rs i = Rs) := by
      obtain ⟨rs, hrs⟩ := Classical.skolem.mp (show ∀ i : Nat, ∃ Rs', i < e → R_readsStep (g i).1.2 = some Rs' ∧ R_passes 44 Rs' = some (1, (g (i + 1)).1.2) from fun i => by
        by_cases q : i < e
        · obtain ⟨Rs', c1, c2⟩ := st i q
          exact ⟨Rs', fun _ => ⟨c1, c2⟩⟩
        · exact ⟨Rs, fun q2 => absurd q2 q⟩)
      refine ⟨fun i => if i < e then rs i else Rs, fun i hi => ?_⟩
      dsimp only
      by_cases q : i < e
      · rw [if_pos q]
        exact ⟨(hrs i q).1, fun _ => (hrs i q).2, fun q2 => absurd q2 (by omega)⟩
      · have : i = e := by omega
        subst this
        rw [if_neg q]
        exact ⟨a2, fun q2 => absurd q2 q, fun _ => rfl⟩
    have e0 : R_readsStep R = some (rs 0) := by
      have := (hrs 0 (by omega)).1
      rw [g0] at this
      exact this
    rw [e0, bnd_s]
    refine loopR_sq (fun i => rs i) e (by omega) rfl (fun i hi rec => ?_) (fun rec => ?_)
    · rw [(hrs i (by omega)).2.1 hi, bnd_s]
      dsimp only
      rw [if_neg i10, (hrs (i + 1) (by omega)).1, bnd_s]
    · rw [(hrs e (by omega)).2.2 rfl, b2, bnd_s]
      dsimp only
      rw [if_pos rfl]
end STEPS
