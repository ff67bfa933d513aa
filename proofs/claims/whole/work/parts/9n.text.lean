/-! PURE: the whole text -/
section TEXT
variable {l T Q : Nat} {B : Nat → Nat} {C R : Mm}
def sbP (Q : Nat) (C : Mm) : Mm := sbM (emP 21 Q) C
def inP (Q : Nat) (C x : Mm) : Mm := inM (dmP 21 Q) kpP C x
theorem in_P (hQ : Q = 1 ∨ Q = 10) (C x : Mm) {a : Nat} (ha : a < 16) (i : Nat) : gI (sbP Q (inP Q C x)) a i = gI x a i := by
  show (match dmP 21 Q (emP 21 Q a) with | some r => x.1 r i | none => C.1 (emP 21 Q a) i) = x.1 a i
  rw [(emP_ok 21 Q hQ a ha).2]
theorem in_P4 (hQ : Q = 1 ∨ Q = 10) (C x : Mm) (i : Nat) : gR (sbP Q (inP Q C x)) 4 i = gR x 4 i := by
  show (match dmP 21 Q (emP 21 Q 4) with | some r => (if kpP (emP 21 Q 4) = true then x.2.2.2 r i else C.2.2.2 (emP 21 Q 4) i) | none => C.2.2.2 (emP 21 Q 4) i) = x.2.2.2 4 i
  rw [(emP_ok 21 Q hQ 4 (by omega)).2]
  rfl
theorem dmP_n {a : Nat} (h1 : ¬ (19 ≤ a ∧ a < 26)) (h2 : ¬ (Q ≤ a ∧ a < Q + 9)) : dmP 21 Q a = none := by
  unfold dmP
  rw [if_neg (by omega), if_neg (by omega), if_neg h2]
theorem in_o (hQ : Q = 1 ∨ Q = 10) {x : Mm} {a : Nat} (h2 : ¬ (Q ≤ a ∧ a < Q + 9)) (h1 : ¬ (21 ≤ a ∧ a ≤ 25)) (i : Nat) (hx : ∀ r j, r = 5 ∨ r = 6 → gI x r j = gI (sbP Q C) r j) : gI (inP Q C x) a i = gI C a i := by
  show (match dmP 21 Q a with | some r => x.1 r i | none => C.1 a i) = C.1 a i
  by_cases h : 19 ≤ a ∧ a < 26
  · have e : dmP 21 Q a = some (a - 14) := by
      unfold dmP
      rw [if_neg (by omega), if_pos (by omega)]
    rw [e]
    show gI x (a - 14) i = gI C a i
    rw [hx _ _ (by omega)]
    show gI C (emP 21 Q (a - 14)) i = gI C a i
    unfold emP
    rw [if_neg (by omega), if_pos (by omega), show 14 + (a - 14) = a by omega]
  · rw [dmP_n h h2]
theorem in_F2 {x : Mm} (hx : x.2.1 = (sbP Q C).2.1) (a i : Nat) : gF (inP Q C x) a i = gF C a i := by
  show (match dmP 21 Q a with | some r => x.2.1 r i | none => C.2.1 a i) = C.2.1 a i
  cases e : dmP 21 Q a with
  | none => rfl
  | some r =>
    show x.2.1 r i = C.2.1 a i
    rw [hx]
    show C.2.1 (emP 21 Q r) i = C.2.1 a i
    rw [(dmP_ok e).2]
theorem in_R2 {x : Mm} {a : Nat} (h : a ≠ 25) (i : Nat) : gR (inP Q C x) a i = gR C a i := by
  show (match dmP 21 Q a with | some r => (if kpP a = true then x.2.2.2 r i else C.2.2.2 a i) | none => C.2.2.2 a i) = C.2.2.2 a i
  cases e : dmP 21 Q a with
  | none => rfl
  | some r =>
    have k : kpP a = false := by unfold kpP; exact beq_eq_false_iff_ne.mpr h
    show (if kpP a = true then x.2.2.2 r i else C.2.2.2 a i) = C.2.2.2 a i
    rw [k]; rfl
/-- what the reading of a text leaves of the class's memory -/
def CFq (Q : Nat) (C C' : Mm) : Prop := (∀ a i, ¬ (21 ≤ a ∧ a ≤ 25) → ¬ (Q ≤ a ∧ a < Q + 9) → gI C' a i = gI C a i) ∧ (∀ a i, gF C' a i = gF C a i) ∧ (∀ a i, gL C' a i = gL C a i) ∧ ∀ a i, a ≠ 25 → ¬ (a = 21 ∧ i = 5) → gR C' a i = gR C a i
theorem CFq.tr {C' C2 : Mm} (h : CFq Q C C') (h' : CFq Q C' C2) : CFq Q C C2 := ⟨fun a i e1 e2 => (h'.1 a i e1 e2).trans (h.1 a i e1 e2), fun a i => (h'.2.1 a i).trans (h.2.1 a i), fun a i => (h'.2.2.1 a i).trans (h.2.2.1 a i), fun a i e1 e2 => (h'.2.2.2 a i e1 e2).trans (h.2.2.2 a i e1 e2)⟩
theorem CFq.in (hQ : Q = 1 ∨ Q = 10) {x : Mm} (h : MFq (sbP Q C) x) : CFq Q C (inP Q C x) := ⟨fun a i e1 e2 => in_o hQ e2 e1 i (fun r j q => h.1 r j (by omega) (by omega)), fun a i => in_F2 (by rw [h.2]) a i, fun a i => rfl, fun a i e1 e2 => in_R2 e1 i⟩
theorem Zt.in (hQ : Q = 1 ∨ Q = 10) {x : Mm} (h : Zt l B T x R) : Zt l B T (sbP Q (inP Q C x)) R := h.fr (fun a i q => in_P hQ C x (by omega) i) (fun i => in_P4 hQ C x i) (fun a i q => rfl)
theorem Gd.in (hQ : Q = 1 ∨ Q = 10) {s c n : Nat} {x : Mm} (h : Gd s c n x R) : Gd s c n (sbP Q (inP Q C x)) R := h.fr (fun a i q => in_P hQ C x (by omega) i) (fun a i q => rfl)
theorem gdW_of {a : Nat} {M : Mm} (h : ∀ i, i < 1601 → okW (gR M a i) = true) : gdW a M = true := List.all_eq_true.mpr (fun i hi => h i (List.mem_range.mp hi))
theorem sb_8 (C : Mm) (i : Nat) : gI (sbP Q C) 0 i = gI C 21 i := rfl
def lpC (rec35 : (Int32 × Mm) → Option (Int32 × Mm)) (x15 : Int32 × Mm) : Option (Int32 × Mm) :=
 if (gI x15.2 21 8) = 0 then
 (ald (gI x15.2 21 6) 1601 (if (gI x15.2 22 (ix (gI x15.2 21 6))) = 0 then
 (some (x15.1, x15.2))
 else
 (if (1600 : Int32) ≤ x15.1 then
 (some (x15.1, x15.2))
 else
 (plnP x15.2 21 fun q17 =>
 bnd (P_DReadStatement (sbM (emP 21 q17) x15.2)) fun x16 =>
 grd (gdW 4 x16 = true) (lett (inM (dmP 21 q17) kpP x15.2 x16) fun M19 =>
 lett (x15.1 + (1 : Int32)) fun v20 =>
 rec35 (v20, M19))))))
 else
 (some (x15.1, x15.2))
def lpR (rec101 : (Int32 × Mm) → Option (Int32 × Mm)) (x19 : Int32 × Mm) : Option (Int32 × Mm) :=
 bnd (R_goes x19.2) fun r20 =>
 if r20 = 0 then
 (some (x19.1, x19.2))
 else
 (bnd (R_here x19.2) fun r21 =>
 if r21.1 = (-1 : Int32) then
 (some (x19.1, r21.2))
 else
 (bnd (R_word r21.2) fun M22 =>
 bnd (R_goes M22) fun r23 =>
 lett (fun (M_23 : Mm) =>
 bnd (R_endsWell M_23) fun M25 =>
 lett (x19.1 + (1 : Int32)) fun v26 =>
 rec101 (v26, M25)) fun j135 =>
 if r23 = 0 then
 (j135 M22)
 else
 (bnd (R_own M22) fun r27 =>
 bnd (R_readsOne r27 M22) fun M28 =>
 j135 M28)))
theorem lp_sim (hQ : Q = 1 ∨ Q = 10) {s : Nat} : ∀ (d N : Nat) (C R : Mm) (c n : Nat), 12 ≤ c + pop n + d → d + 2 ≤ N → Zt l B T (sbP Q C) R → gI C 21 8 = 0 → Gd s c n (sbP Q C) R → gR C 21 5 = some Q → ∃ v C' R', loopR lpC N (nI (1 + (c + pop n)), C) = some (v, C') ∧ loopR lpR N (nI (1 + (c + pop n)), R) = some (v, R') ∧ Zt l B T (sbP Q C') R' ∧ CFq Q C C' ∧ RFq R R' ∧ (gI C' 21 8 = 0 → ∃ c n, Gd s c n (sbP Q C') R') := by
  intro d
  induction d with
  | zero =>
    intro N C R c n h1 h2 hz h8 gd hr
    have := gd.2.1.2.2.1
    have := pop_5 n
    omega
  | succ d ih =>
    intro N C R c n h1 h2 hz h8 gd hr
    obtain ⟨N, rfl⟩ : ∃ m, N = m + 2 := ⟨N - 2, by omega⟩
    have c6 := gd.2.1.2.2.1
    have p5 := pop_5 n
    have hz' := hz
    obtain ⟨z1, z2, z3, ⟨k, k1, k2, k3⟩, z5, z6, z7⟩ := hz
    obtain ⟨pos, q1, q2⟩ := k3 h8
    obtain ⟨s0, ks, s2, s3, s4, s5⟩ := q2.s
    have l1 := z1.1
    have hT := z2.1
    have h46 : gI R 0 46 = 0 := z5.symm.trans h8
    have k2' : gI C 21 6 = nI k := k2
    have hh := here_m z3 q1 s3 s2 s4 s5
    have hw : RFr R (sI R 0 44 (nI s0)) := RFr.w (by omega)
    have eC : ∀ r, (if (gI C 22 k) = 0 then some (nI (1 + (c + pop n)), C) else (bnd (P_DReadStatement (sbP Q C)) fun x16 => grd (gdW 4 x16 = true) (loopR lpC (N + 1) (nI (1 + (c + pop n) + 1), inP Q C x16)))) = r → loopR lpC (N + 2) (nI (1 + (c + pop n)), C) = r := fun r hr' => by
      rw [loopR_s, lpC]
      dsimp only
      rw [if_pos h8, k2', ald_n (by omega) (by omega), ix_nI (by omega), if_neg (le_f 1600 1600 rfl (show 1 + (c + pop n) < 1600 by omega) (by omega))]
      unfold plnP
      rw [hr, nn_s, grd_t ⟨hQ, gdW_of (fun i hi => z7 i hi)⟩]
      simp only [lett_e, nI_1]
      exact hr'
    have eR : ∀ r, (if byN l B s0 = -1 then some (nI (1 + (c + pop n)), sI R 0 44 (nI s0)) else (bnd (stR (sI R 0 44 (nI s0))) fun M25 => loopR lpR (N + 1) (nI (1 + (c + pop n) + 1), M25))) = r → loopR lpR (N + 2) (nI (1 + (c + pop n)), R) = r := fun r hr' => by
      rw [loopR_s, lpR]
      dsimp only
      rw [goes_t h46, bnd_s, if_neg i10, hh, bnd_s]
      dsimp only
      rw [st_k (sI R 0 44 (nI s0)) (fun M25 => lett (nI (1 + (c + pop n)) + 1) fun v26 => loopR lpR (N + 1) (v26, M25))]
      simp only [lett_e, nI_1]
      exact hr'
    rcases q2 with ⟨b1, s', n', kd, wd, hTk, b3, b4⟩ | ⟨b1, b2, b3, b4, b5, b6⟩
    · have es : s' = s0 := (nI_eq (by have := hTk.2.2.2.2.1.1; omega) (by omega)).mp (hTk.1.symm.trans ks)
      subst es
      have sl := hTk.2.2.2.2.1.1
      have kd0 : ¬ gI C 22 k = 0 := by
        have e1 : gI C 22 k = nI kd := hTk.2.2.1
        have e2 : 1 ≤ kd ∧ kd ≤ 3 := by
          obtain ⟨-, -, -, -, -, -, -, t⟩ := hTk
          rcases t with ⟨-, -, -, ⟨-, t, -⟩ | ⟨-, t, -⟩⟩ | ⟨-, -, -, -, ⟨-, t⟩ | ⟨-, t⟩⟩ | ⟨-, -, -, t, -⟩ <;> omega
        rw [e1]
        exact fun e => by have := (nI_eq (by omega) (by omega)).mp (show nI kd = nI 0 from e); omega
      have b0 : ¬ byN l B s' = -1 := by
        unfold byN
        rw [if_pos sl]
        exact fun e => nI_m1 (by have := z1.2.2.1 s' sl; omega) e
      have zh : Zt l B T (sbP Q C) (sI R 0 44 (nI s')) := hz'.go PFr.rf hw k1 k2 (fun _ => ⟨s', gw_s _ _ _ _, Or.inl ⟨b1, s', n', kd, wd, hTk, Nat.le_refl _, fun i x1 x2 => by omega⟩⟩) (by rw [gw_n _ _ _ _ (by omega)]; exact z5) (by rw [gw_n _ _ _ _ (by omega)]; exact z6)
      obtain ⟨x, R1, a1, a2, a3, a4, a5, a6⟩ := stmt_sim zh h8 (gd.fr (fun a i q => rfl) (fun a i q => gw_n _ _ _ _ (by omega)))
      have e1 := eC (loopR lpC (N + 1) (nI (1 + (c + pop n) + 1), inP Q C x)) (by rw [if_neg kd0, a1, bnd_s, grd_t (gdW_of a3.2.2.2.2.2.2)])
      have e2 := eR (loopR lpR (N + 1) (nI (1 + (c + pop n) + 1), R1)) (by rw [if_neg b0, a2, bnd_s])
      have x8 : gI (inP Q C x) 21 8 = gI x 0 8 := in_P (a := 0) hQ C x (by omega) 8
      have cf : CFq Q C (inP Q C x) := .in hQ a4
      have rf : RFq R R1 := (RFq.p hw).tr a5
      by_cases f8 : gI x 0 8 = 0
      · obtain ⟨c', m, g1, g2⟩ := a6 f8
        have r5 : gR (inP Q C x) 21 5 = some Q := (in_R2 (by omega) 5).trans hr
        obtain ⟨v, C', R', d1, d2, d3, d4, d5, d6⟩ := ih (N + 1) (inP Q C x) R1 c' m (by omega) (by omega) (a3.in hQ) (x8.trans f8) (g1.in hQ) r5
        rw [show 1 + (c' + pop m) = 1 + (c + pop n) + 1 by omega] at d1 d2
        exact ⟨v, C', R', e1.trans d1, e2.trans d2, d3, cf.tr d4, rf.tr d5, d6⟩
      · refine ⟨nI (1 + (c + pop n) + 1), inP Q C x, R1, e1.trans ?_, e2.trans ?_, a3.in hQ, cf, rf, fun e => absurd (x8.symm.trans e) f8⟩
        · rw [loopR_s, lpC]
          dsimp only
          rw [if_neg (fun e => f8 (x8.symm.trans e))]
        · rw [loopR_s, lpR]
          dsimp only
          rw [goes_f (fun e => f8 (a3.2.2.2.2.1.trans e)), bnd_s, if_pos rfl]
    · have es : s0 = l := (nI_eq (by omega) (by omega)).mp (ks.symm.trans b3)
      subst es
      have bm : byN s0 B s0 = -1 := by unfold byN; rw [if_neg (by omega)]
      refine ⟨_, C, _, eC _ (by rw [if_pos (show gI C 22 k = 0 from b2)]), eR _ (by rw [if_pos bm]), hz'.go PFr.rf hw k1 k2 (fun _ => ⟨s0, gw_s _ _ _ _, Or.inr ⟨b1, b2, b3, b4, Nat.le_refl _, fun i x1 x2 => by omega⟩⟩) (by rw [gw_n _ _ _ _ (by omega)]; exact z5) (by rw [gw_n _ _ _ _ (by omega)]; exact z6), ⟨fun _ _ _ _ => rfl, fun _ _ => rfl, fun _ _ => rfl, fun _ _ _ _ => rfl⟩, .p hw, fun _ => ⟨c, n, gd.fr (fun a i q => rfl) (fun a i q => gw_n _ _ _ _ (by omega))⟩⟩
end TEXT
