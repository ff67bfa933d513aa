/-! PURE: fits and tells -/
section TELLS
variable {n s t c w P Q : Nat} {C C' R R' : Mm} {f : Nat → Sta × Mm}
theorem rows_fit {ρ : Type} {X : Mm} {k : Nat} {τ : Nat → Nat} {q A : Nat → Int32} (h61 : gI X 0 61 = nI k) (k16 : k ≤ 16) (h22 : ∀ i, i < k → gI X 22 i = nI (τ i) ∧ 1 ≤ τ i ∧ τ i < 61) (h23 : ∀ i, i < k → gI X 23 i = q i) (h24 : ∀ t', 1 ≤ t' → t' ≤ 60 → gI X 24 (61 * w + t') = A t') (hw : w ≤ 20) (j : Mm → Option ρ) : loopR (fun (rec78 : (Int32 × Mm) → Option ρ) (x13 : Int32 × Mm) =>
 if (gI x13.2 0 61) ≤ x13.1 then
 (j x13.2)
 else
 (ald x13.1 16 (ald (((61 : Int32) * nI w) + (gI x13.2 22 (ix x13.1))) 1281 (ald x13.1 16 (lett (fun (w_13 : Int32) =>
 ald (nI w) 21 (lett (sI x13.2 25 (ix (nI w)) w_13) fun M15 =>
 lett (x13.1 + (1 : Int32)) fun v16 =>
 rec78 (v16, M15))) fun j126 =>
 if (gI x13.2 24 (ix (((61 : Int32) * nI w) + (gI x13.2 22 (ix x13.1))))) = (gI x13.2 23 (ix x13.1)) then
 (ald (nI w) 21 (j126 (gI x13.2 25 (ix (nI w)))))
 else
 (j126 (0 : Int32))))))) 1000000 ((0 : Int32), sI X 25 w 1) = j (sI X 25 w (pfI (fun i => A (τ i)) q k)) := by
  refine loopR_sq (fun i => (nI i, sI X 25 w (pfI (fun i => A (τ i)) q i))) k (by omega) rfl (fun i hi rec => ?_) (fun rec => ?_)
  · obtain ⟨a1, a2, a3⟩ := h22 i hi
    have x61 : ∀ v, gI (sI X 25 w v) 0 61 = nI k := fun v => (gw_n _ _ _ _ (by omega)).trans h61
    have x22 : ∀ v, gI (sI X 25 w v) 22 i = nI (τ i) := fun v => (gw_n _ _ _ _ (by omega)).trans a1
    have x23 : ∀ v, gI (sI X 25 w v) 23 i = q i := fun v => (gw_n _ _ _ _ (by omega)).trans (h23 i hi)
    have x24 : ∀ v, gI (sI X 25 w v) 24 (61 * w + τ i) = A (τ i) := fun v => (gw_n _ _ _ _ (by omega)).trans (h24 _ a2 (by omega))
    dsimp only
    rw [x61, if_neg (nI_ge hi (by omega)), ald_n (by omega) (by omega), ix_nI (by omega), x22, show (61 : Int32) = nI 61 from rfl, pk_mul, nI_add, ald_n (by omega) (by omega), ald_n (by omega) (by omega), lett_e, ix_nI (by omega), x24, x23, pfI_s]
    by_cases e : A (τ i) = q i
    · rw [if_pos e, if_pos e, ald_n (by omega) (by omega)]
      dsimp only
      rw [ald_n (by omega) (by omega), ix_nI (by omega), gw_s, lett_e, lett_e, sI_sI, nA_1]
    · rw [if_neg e, if_neg e]
      dsimp only
      rw [ald_n (by omega) (by omega), ix_nI (by omega), lett_e, lett_e, sI_sI, nA_1]
  · dsimp only
    rw [gw_n _ _ _ _ (by omega), h61, if_pos (nI_le (Nat.le_refl _) (by omega))]
def fitJ {ρ : Type} (w : Nat) (cnt : Int32) (rec : (Int32 × Int32 × Mm) → Option ρ) (M_6 : Mm) : Option ρ :=
 ald (nI w) 21 (lett (sI M_6 25 (ix (nI w)) (1 : Int32)) fun M8 =>
 lett (0 : Int32) fun v9 =>
 lett (fun (M_9 : Mm) =>
 ald (nI w) 21 (lett (cnt + (gI M_9 25 (ix (nI w)))) fun v11 =>
 lett (nI w + (1 : Int32)) fun v12 =>
 rec (v11, v12, M_9))) fun j133 =>
 loopR (fun (rec78 : (Int32 × Mm) → Option ρ) (x13 : Int32 × Mm) =>
 if (gI x13.2 0 61) ≤ x13.1 then
 (j133 x13.2)
 else
 (ald x13.1 16 (ald (((61 : Int32) * nI w) + (gI x13.2 22 (ix x13.1))) 1281 (ald x13.1 16 (lett (fun (w_13 : Int32) =>
 ald (nI w) 21 (lett (sI x13.2 25 (ix (nI w)) w_13) fun M15 =>
 lett (x13.1 + (1 : Int32)) fun v16 =>
 rec78 (v16, M15))) fun j126 =>
 if (gI x13.2 24 (ix (((61 : Int32) * nI w) + (gI x13.2 22 (ix x13.1))))) = (gI x13.2 23 (ix x13.1)) then
 (ald (nI w) 21 (j126 (gI x13.2 25 (ix (nI w)))))
 else
 (j126 (0 : Int32))))))) 1000000 (v9, M8))
/-- one idling, in the reference -/
theorem fit_R (hb : KB n s t P w C R f) (hS : StR R n s t c (gI R 16) (gF R 17) C 26 P) (hP : P = 1 ∨ P = 10) (ht : t ≤ 9999) (hw : w ≤ 20) (hr : RSm R R') {k : Nat} {τ : Nat → Nat} {q : Nat → Int32} (h61 : gI R 0 61 = nI k) (k16 : k ≤ 16) (h22 : ∀ i, i < k → gI R 22 i = nI (τ i) ∧ 1 ≤ τ i ∧ τ i < 61) (h23 : ∀ i, i < k → gI R 23 i = q i) : ∃ Y, RSm R Y ∧ (∀ t', 1 ≤ t' → t' ≤ 60 → gI Y 24 (61 * w + t') = kd ((f t').1.D 2)) ∧ (∀ x, (x < 61 * w + 1 ∨ 61 * w + 60 < x) → gI Y 24 x = gI R' 24 x) ∧ gI Y 25 w = pfI (fun i => kd ((f (τ i)).1.D 2)) q k ∧ (∀ x, x ≠ w → gI Y 25 x = gI R' 25 x) ∧ ∀ {ρ : Type} (cnt : Int32) (rec : (Int32 × Int32 × Mm) → Option ρ), (bnd (R_tries R') fun M4 =>
 bnd (R_puts (6 : Int32) (nI w) M4) fun M5 =>
 lett (1 : Int32) fun v6 =>
 lett (fun (M_6 : Mm) =>
 ald (nI w) 21 (lett (sI M_6 25 (ix (nI w)) (1 : Int32)) fun M8 =>
 lett (0 : Int32) fun v9 =>
 lett (fun (M_9 : Mm) =>
 ald (nI w) 21 (lett (cnt + (gI M_9 25 (ix (nI w)))) fun v11 =>
 lett (nI w + (1 : Int32)) fun v12 =>
 rec (v11, v12, M_9))) fun j133 =>
 loopR (fun (rec78 : (Int32 × Mm) → Option ρ) (x13 : Int32 × Mm) =>
 if (gI x13.2 0 61) ≤ x13.1 then
 (j133 x13.2)
 else
 (ald x13.1 16 (ald (((61 : Int32) * nI w) + (gI x13.2 22 (ix x13.1))) 1281 (ald x13.1 16 (lett (fun (w_13 : Int32) =>
 ald (nI w) 21 (lett (sI x13.2 25 (ix (nI w)) w_13) fun M15 =>
 lett (x13.1 + (1 : Int32)) fun v16 =>
 rec78 (v16, M15))) fun j126 =>
 if (gI x13.2 24 (ix (((61 : Int32) * nI w) + (gI x13.2 22 (ix x13.1))))) = (gI x13.2 23 (ix x13.1)) then
 (ald (nI w) 21 (j126 (gI x13.2 25 (ix (nI w)))))
 else
 (j126 (0 : Int32))))))) 1000000 (v9, M8))) fun j69 =>
 loopR (fun (rec23 : (Int32 × Mm) → Option ρ) (x17 : Int32 × Mm) =>
 if (60 : Int32) < x17.1 then
 (j69 x17.2)
 else
 (bnd (R_goesOn x17.2) fun M18 =>
 bnd (R_its (2 : Int32) M18) fun r19 =>
 lett (fun (w_19 : Int32) =>
 ald (((61 : Int32) * nI w) + x17.1) 1281 (lett (sI M18 24 (ix (((61 : Int32) * nI w) + x17.1)) w_19) fun M21 =>
 lett (x17.1 + (1 : Int32)) fun v22 =>
 rec23 (v22, M21))) fun j62 =>
 if r19 = (-1 : Int32) then
 (j62 (6 : Int32))
 else
 (bnd (R_its (2 : Int32) M18) fun r23 =>
 j62 r23))) 1000000 (v6, M5)) = rec (cnt + pfI (fun i => kd ((f (τ i)).1.D 2)) q k, nI (w + 1), Y) := by
  obtain ⟨X, M4, M5, b1, b2, b3, b4, b5, b6, b7⟩ := tick_R hb hS hP ht hw hr
  have x61 : gI X 0 61 = nI k := (b3.1 _ _ (by omega) (by omega) (by omega) (by omega) (by omega) (by omega)).trans h61
  have x22 : ∀ i, i < k → gI X 22 i = nI (τ i) ∧ 1 ≤ τ i ∧ τ i < 61 := fun i hi => ⟨(b3.1 _ _ (by omega) (by omega) (by omega) (by omega) (by omega) (by omega)).trans (h22 i hi).1, (h22 i hi).2⟩
  have x23 : ∀ i, i < k → gI X 23 i = q i := fun i hi => (b3.1 _ _ (by omega) (by omega) (by omega) (by omega) (by omega) (by omega)).trans (h23 i hi)
  refine ⟨sI X 25 w (pfI (fun i => kd ((f (τ i)).1.D 2)) q k), ⟨fun a i h1 h2 h3 h4 h5 h6 => (gw_n _ _ _ _ (by omega)).trans (b3.1 a i h1 h2 h3 h4 h5 h6), b3.2⟩, fun t' h1 h2 => (gw_n _ _ _ _ (by omega)).trans (b4 t' h1 h2), fun x hx => (gw_n _ _ _ _ (by omega)).trans (b5 x hx), gw_s _ _ _ _, fun x hx => (gw_n _ _ _ _ (by omega)).trans (b6 x), fun cnt rec => ?_⟩
  rw [b1, bnd_s, b2, bnd_s, lett_e, lett_e]
  refine (b7 (fitJ w cnt rec)).trans ?_
  unfold fitJ
  rw [ald_n (by omega) (by omega), ix_nI (by omega), lett_e, lett_e, lett_e]
  have e := rows_fit (w := w) (A := fun t' => kd ((f t').1.D 2)) x61 k16 x22 x23 b4 hw (fun (M_9 : Mm) =>
 ald (nI w) 21 (lett (cnt + (gI M_9 25 (ix (nI w)))) fun v11 =>
 lett (nI w + (1 : Int32)) fun v12 =>
 rec (v11, v12, M_9)))
  rw [ix_nI (by omega)] at e
  refine e.trans ?_
  rw [ald_n (by omega) (by omega), gw_s, lett_e, lett_e, nA_1]
def smN (ft : Nat → Nat) (i : Nat) : Nat := itr (fun j x => x + ft j) 0 i
theorem smN_s (ft : Nat → Nat) (i : Nat) : smN ft (i + 1) = smN ft i + ft i := rfl
theorem smN_le {ft : Nat → Nat} (h : ∀ j, ft j ≤ 1) (i : Nat) : smN ft i ≤ i := by
  induction i with
  | zero => exact Nat.le_refl 0
  | succ i ih =>
    rw [smN_s]
    have := h i
    omega
theorem sm_bt (ft : Nat → Nat) (i : Nat) : smN ft i = 0 ↔ btN ft i = 0 := by
  induction i with
  | zero => exact ⟨fun _ => rfl, fun _ => rfl⟩
  | succ i ih =>
    rw [smN_s, btN_s]
    have h2 : ft i * 2 ^ i = 0 ↔ ft i = 0 := by
      have := Nat.two_pow_pos i
      rw [Nat.mul_eq_zero]
      omega
    omega
/-- all idlings, in both -/
theorem fits_main (h : Rl n P Q C R) (hS : StR R n s t c (gI R 16) (gF R 17) C 26 P) (ht : t ≤ 9999) : ∃ (F : Nat → Nat → Sta × Mm) (ft : Nat → Nat) (C' R' : Mm), (∀ w, w ≤ 20 → KB n s t P w C R (F w)) ∧ (∀ w, ft w ≤ 1) ∧ C_fitting C = some (nI (btN ft 21), C') ∧ R_laysFits R = some (nI (smN ft 21), R') ∧ CSm C C' ∧ RSm R R' ∧ (∀ w t', w ≤ 20 → 1 ≤ t' → t' ≤ 60 → gI R' 24 (61 * w + t') = kd ((F w t').1.D 2)) ∧ ∀ w, w ≤ 20 → gI R' 25 w = nI (ft w) := by
  have hP := h.PQ
  obtain ⟨k, k16, s67, s61, srow⟩ := h.2.2.2.2.2.2.1
  obtain ⟨τ, hτ⟩ := Classical.skolem.mp (show ∀ i : Nat, ∃ a : Nat, i < k → 1 ≤ a ∧ a < 61 ∧ gI R 22 i = nI a from fun i => by
    by_cases hi : i < k
    · obtain ⟨-, -, ⟨a, a1, a2, a3⟩, -⟩ := srow i hi
      exact ⟨a, fun _ => ⟨a1, a2, a3⟩⟩
    · exact ⟨0, fun e => absurd e hi⟩)
  obtain ⟨F, hF⟩ := Classical.skolem.mp (show ∀ w : Nat, ∃ f : Nat → Sta × Mm, w ≤ 20 → KB n s t P w C R f from fun w => by
    by_cases hw : w ≤ 20
    · obtain ⟨f, hf⟩ := kin_base hS hP ht hw
      exact ⟨f, fun _ => hf⟩
    · exact ⟨fun _ => ((C, fun _ => 0, fun _ => 0, C, 0, 0, fun _ => (0, 0, 0, 0), 0, fun _ => (0, 0, 0, 0)), C), fun e => absurd e hw⟩)
  have h22 : ∀ i, i < k → gI R 22 i = nI (τ i) ∧ 1 ≤ τ i ∧ τ i < 61 := fun i hi => ⟨(hτ i hi).2.2, (hτ i hi).1, (hτ i hi).2.1⟩
  have h68 : ∀ i, i < k → gI C 68 i = nI (τ i) ∧ 1 ≤ τ i ∧ τ i < 61 := fun i hi => ⟨(srow i hi).1.trans (hτ i hi).2.2, (hτ i hi).1, (hτ i hi).2.1⟩
  have h69 : ∀ i, i < k → gI C 69 i = gI R 23 i := fun i hi => (srow i hi).2.1
  obtain ⟨L, L60, Lτ, hL⟩ := last_m s67 k16 (fun i hi => ⟨(h68 i hi).1, (h68 i hi).2.2⟩)
  obtain ⟨ft, hft⟩ : ∃ ft : Nat → Nat, ∀ w, ft w = if pfI (fun i => kd ((F w (τ i)).1.D 2)) (gI R 23) k = 1 then 1 else 0 := ⟨_, fun _ => rfl⟩
  have ft1 : ∀ w, ft w ≤ 1 := fun w => by
    rw [hft]
    split <;> omega
  have ftn : ∀ w, nI (ft w) = pfI (fun i => kd ((F w (τ i)).1.D 2)) (gI R 23) k := fun w => by
    rw [hft]
    rcases (pfI_p (fun i => kd ((F w (τ i)).1.D 2)) (gI R 23) k).1 with e | e
    · rw [e, if_neg (by decide)]; rfl
    · rw [e, if_pos rfl]; rfl
  -- the class
  obtain ⟨g, g0, gI', gS⟩ := seqN (α := Mm) (fun _ x => CSm C x) (fun w x y => ∃ u : Int32, (u = 0 ∨ u = 1) ∧ (u = 1 ↔ ∀ i, i < k → kd ((F w (τ i)).1.D 2) = gI R 23 i) ∧ ∀ {ρ : Type} (j : Int32 → Mm → Option ρ), (bnd (C_startAhead x) fun r6 =>
 grd (r6.1 = 46) (lett (sI r6.2 46 16 (nI w)) fun M7 =>
 lett (1 : Int32) fun v8 =>
 lett (1 : Int32) fun v9 =>
 lett j fun j78 =>
 loopR (fun (rec36 : (Int32 × Int32 × Mm) → Option ρ) (x15 : Int32 × Int32 × Mm) =>
 if nI L < x15.2.1 then
 (j78 x15.1 x15.2.2)
 else
 (if x15.1 = 0 then
 (j78 x15.1 x15.2.2)
 else
 (plnS x15.2.2 46 fun q17 =>
 bnd (S_run (1 : Int32) (sbM (emS 46 q17) x15.2.2)) fun x16 =>
 lett (inM (dmS 46 q17) kpS x15.2.2 x16) fun M19 =>
 bnd (C_kindOf (gI M19 46 11) M19) fun r20 =>
 bnd (C_NAllows x15.2.1 r20 M19) fun r21 =>
 lett r21 fun v22 =>
 lett (x15.2.1 + (1 : Int32)) fun v23 =>
 rec36 (v22, v23, M19)))) 1000000 (v8, v9, M7))) = j u y) (a := C) CSm.rf 21 (fun w x hw hI => by
    obtain ⟨u, C2, u1, u2, u3, u4⟩ := fit_C (hF w (by omega)) hS hP ht (by omega) hI s67 k16 h68 h69 L60 Lτ
    exact ⟨C2, ⟨u, u1, u2, u4⟩, u3⟩)
  -- the reference
  obtain ⟨r, r0, rI, rS⟩ := seqN (α := Mm) (fun w x => RSm R x ∧ (∀ w' t', w' < w → 1 ≤ t' → t' ≤ 60 → gI x 24 (61 * w' + t') = kd ((F w' t').1.D 2)) ∧ ∀ w', w' < w → gI x 25 w' = nI (ft w')) (fun w x y => ∀ (cnt : Int32) (rec : (Int32 × Int32 × Mm) → Option (Int32 × Mm)), (bnd (R_tries x) fun M4 =>
 bnd (R_puts (6 : Int32) (nI w) M4) fun M5 =>
 lett (1 : Int32) fun v6 =>
 lett (fun (M_6 : Mm) =>
 ald (nI w) 21 (lett (sI M_6 25 (ix (nI w)) (1 : Int32)) fun M8 =>
 lett (0 : Int32) fun v9 =>
 lett (fun (M_9 : Mm) =>
 ald (nI w) 21 (lett (cnt + (gI M_9 25 (ix (nI w)))) fun v11 =>
 lett (nI w + (1 : Int32)) fun v12 =>
 rec (v11, v12, M_9))) fun j133 =>
 loopR (fun (rec78 : (Int32 × Mm) → Option (Int32 × Mm)) (x13 : Int32 × Mm) =>
 if (gI x13.2 0 61) ≤ x13.1 then
 (j133 x13.2)
 else
 (ald x13.1 16 (ald (((61 : Int32) * nI w) + (gI x13.2 22 (ix x13.1))) 1281 (ald x13.1 16 (lett (fun (w_13 : Int32) =>
 ald (nI w) 21 (lett (sI x13.2 25 (ix (nI w)) w_13) fun M15 =>
 lett (x13.1 + (1 : Int32)) fun v16 =>
 rec78 (v16, M15))) fun j126 =>
 if (gI x13.2 24 (ix (((61 : Int32) * nI w) + (gI x13.2 22 (ix x13.1))))) = (gI x13.2 23 (ix x13.1)) then
 (ald (nI w) 21 (j126 (gI x13.2 25 (ix (nI w)))))
 else
 (j126 (0 : Int32))))))) 1000000 (v9, M8))) fun j69 =>
 loopR (fun (rec23 : (Int32 × Mm) → Option (Int32 × Mm)) (x17 : Int32 × Mm) =>
 if (60 : Int32) < x17.1 then
 (j69 x17.2)
 else
 (bnd (R_goesOn x17.2) fun M18 =>
 bnd (R_its (2 : Int32) M18) fun r19 =>
 lett (fun (w_19 : Int32) =>
 ald (((61 : Int32) * nI w) + x17.1) 1281 (lett (sI M18 24 (ix (((61 : Int32) * nI w) + x17.1)) w_19) fun M21 =>
 lett (x17.1 + (1 : Int32)) fun v22 =>
 rec23 (v22, M21))) fun j62 =>
 if r19 = (-1 : Int32) then
 (j62 (6 : Int32))
 else
 (bnd (R_its (2 : Int32) M18) fun r23 =>
 j62 r23))) 1000000 (v6, M5)) = rec (cnt + nI (ft w), nI (w + 1), y)) (a := R) ⟨RSm.rf, fun w' t' h => absurd h (by omega), fun w' h => absurd h (by omega)⟩ 21 (fun w x hw hI => by
    obtain ⟨i1, i2, i3⟩ := hI
    obtain ⟨Y, y1, y2, y3, y4, y5, y6⟩ := fit_R (hF w (by omega)) hS hP ht (by omega) i1 s61 k16 h22 (fun i hi => (rfl : gI R 23 i = gI R 23 i))
    refine ⟨Y, fun cnt rec => ?_, y1, fun w' t' h1 h2 h3 => ?_, fun w' h1 => ?_⟩
    · rw [ftn]
      exact y6 cnt rec
    · by_cases e : w' = w
      · rw [e]; exact y2 t' h2 h3
      · rw [y3 _ (by omega)]
        exact i2 w' t' (by omega) h2 h3
    · by_cases e : w' = w
      · rw [e, ftn]; exact y4
      · rw [y5 _ e]
        exact i3 w' (by omega))
  obtain ⟨A1, A2, A3⟩ := rI 21 (Nat.le_refl _)
  refine ⟨F, ft, g 21, r 21, hF, ft1, ?_, ?_, gI' 21 (Nat.le_refl _), A1, fun w t' h1 h2 h3 => A2 w t' (by omega) h2 h3, fun w hw => A3 w (by omega)⟩
  · unfold C_fitting
    rw [hL, bnd_s, lett_e, lett_e, lett_e]
    refine loopR_sq (fun i => (nI (btN ft i), nI i, g i)) 21 (by omega) (by rw [g0]; rfl) (fun w hw rec => ?_) (fun rec => ?_)
    · obtain ⟨u, u1, u2, u3⟩ := gS w hw
      have hb := bit_s ft1 (show w ≤ 20 by omega)
      dsimp only
      rw [if_neg (lt_f 20 20 rfl (by omega) (by omega))]
      refine (u3 _).trans ?_
      rcases u1 with u1 | u1
      · have f0 : nI (ft w) = 0 := by
          rcases (pfI_p (fun i => kd ((F w (τ i)).1.D 2)) (gI R 23) k).1 with e | e
          · rw [ftn, e]
          · have := u2.mpr ((pfI_p _ _ k).2.mp e)
            rw [u1] at this
            exact absurd this (by decide)
        rw [f0, bit_0 (by omega)] at hb
        rw [lett_e, if_pos u1]
        simp only [lett_e, hb, nA_1]
      · have f1 : nI (ft w) = 1 := by
          rw [ftn]
          exact (pfI_p _ _ k).2.mpr (u2.mp u1)
        rw [f1] at hb
        rw [lett_e, if_neg (by rw [u1]; decide)]
        simp only [lett_e, hb, nA_1]
    · dsimp only
      rw [if_pos (by decide)]
  · unfold R_laysFits
    rw [lett_e, lett_e]
    refine loopR_sq (fun i => (nI (smN ft i), nI i, r i)) 21 (by omega) (by rw [r0]; rfl) (fun w hw rec => ?_) (fun rec => ?_)
    · dsimp only
      rw [if_neg (lt_f 20 20 rfl (by omega) (by omega))]
      refine (rS w hw _ rec).trans ?_
      rw [nI_add]
      rfl
    · dsimp only
      rw [if_pos (by decide)]
theorem fits_sim (h : Rl n P Q C R) : ∃ a C' R', C_fits C = some (a, C') ∧ R_fits R = some (a, R') ∧ Rl n P Q C' R' := by
  rcases h.hd with ⟨h8, g1, g2⟩ | ⟨h8, g1, g2⟩
  · refine ⟨-1, C, R, ?_, ?_, h⟩
    · unfold C_fits; rw [g1, bnd_s, if_pos rfl]
    · unfold R_fits; rw [g2, if_pos rfl]
  · obtain ⟨d0, ⟨s, t, c, ht, hS⟩, -, -⟩ := h8
    obtain ⟨F, ft, C', R', a1, a2, a3, a4, a5, a6, a7, a8⟩ := fits_main h hS ht
    refine ⟨nI (btN ft 21), C', R', ?_, ?_, h.sm a5 a6⟩
    · unfold C_fits; rw [g1, bnd_s, if_neg i10, a3, bnd_s]
    · unfold R_fits
      rw [g2, if_neg i10, a4, bnd_s, lett_e, lett_e]
      refine loopR_sq (fun i => (nI (btN ft i), nI i)) 21 (by omega) rfl (fun i hi rec => ?_) (fun rec => ?_)
      · dsimp only
        rw [if_neg (lt_f 20 20 rfl (by omega) (by omega)), ald_n (by omega) (by omega), ix_nI (by omega), a8 i (by omega), bit_s a2 (by omega), lett_e, lett_e, nA_1]
      · dsimp only
        rw [if_pos (by decide)]
/-! tells -/
def ctN (K : Nat → Nat → Int32) (ft : Nat → Nat) (t q m : Nat) : Nat := itr (fun j x => x + (if ft j = 1 ∧ K j t = nI q then 1 else 0)) 0 m
theorem ctN_s (K : Nat → Nat → Int32) (ft : Nat → Nat) (t q m : Nat) : ctN K ft t q (m + 1) = ctN K ft t q m + (if ft m = 1 ∧ K m t = nI q then 1 else 0) := rfl
theorem ctN_le (K : Nat → Nat → Int32) (ft : Nat → Nat) (t q m : Nat) : ctN K ft t q m ≤ m := by
  induction m with
  | zero => exact Nat.le_refl 0
  | succ m ih =>
    rw [ctN_s]
    split <;> omega
def mxN (K : Nat → Nat → Int32) (ft : Nat → Nat) (t i : Nat) : Nat := itr (fun q x => max x (ctN K ft t q 21)) 0 i
theorem mxN_s (K : Nat → Nat → Int32) (ft : Nat → Nat) (t i : Nat) : mxN K ft t (i + 1) = max (mxN K ft t i) (ctN K ft t i 21) := rfl
theorem mxN_le (K : Nat → Nat → Int32) (ft : Nat → Nat) (t i : Nat) : mxN K ft t i ≤ 21 := by
  induction i with
  | zero => exact Nat.zero_le _
  | succ i ih =>
    rw [mxN_s]
    have := ctN_le K ft t i 21
    omega
theorem most_R {K : Nat → Nat → Int32} {ft : Nat → Nat} {X : Mm} {t : Nat} (ht : 1 ≤ t ∧ t ≤ 60) (h24 : ∀ w, w ≤ 20 → gI X 24 (61 * w + t) = K w t) (h25 : ∀ w, w ≤ 20 → gI X 25 w = nI (ft w)) (ft1 : ∀ w, ft w ≤ 1) : R_mostBy (nI t) X = some (nI (mxN K ft t 7)) := by
  unfold R_mostBy
  rw [lett_e, lett_e]
  refine loopR_sq (fun i => (nI (mxN K ft t i), nI i)) 7 (by omega) rfl (fun i hi rec => ?_) (fun rec => ?_)
  · dsimp only
    rw [if_neg (lt_f 6 6 rfl (by omega) (by omega)), lett_e, lett_e, lett_e]
    refine loopR_sq (fun w => (nI (ctN K ft t i w), nI w)) 21 (by omega) rfl (fun w hw rec2 => ?_) (fun rec2 => ?_)
    · have h1 := ft1 w
      simp only [lett_e, nA_0, nA_1]
      rw [if_neg (lt_f 20 20 rfl (by omega) (by omega)), ald_n (by omega) (by omega), ix_nI (by omega), h25 w (by omega), show (61 : Int32) = nI 61 from rfl, pk_mul, nI_add, ald_n (by omega) (by omega), ix_nI (by omega), h24 w (by omega), ctN_s]
      by_cases e1 : ft w = 1
      · rw [if_pos (by rw [e1]; rfl)]
        by_cases e2 : K w t = nI i
        · rw [if_pos e2, if_pos ⟨e1, e2⟩]
        · rw [if_neg e2, if_neg (fun h => e2 h.2), Nat.add_zero]
      · rw [if_neg (by rw [show ft w = 0 by omega]; decide), if_neg (fun h => e1 h.1), Nat.add_zero]
    · have h1 := ctN_le K ft t i 21
      have h2 := mxN_le K ft t i
      dsimp only
      rw [if_pos (by decide), R_gr_m, bnd_s, max_nI (by omega) (by omega), lett_e, lett_e, nA_1, Nat.max_comm]
      rfl
  · dsimp only
    rw [if_pos (by decide)]
theorem most_C {K : Nat → Nat → Int32} {ft : Nat → Nat} {M : Mm} {t : Nat} (ht : 1 ≤ t ∧ t ≤ 60) (h73 : ∀ q, q < 7 → gI M 73 (t * 7 + q) = nI (ctN K ft t q 21)) : C_mostLeftAt (nI t) M = some (nI (mxN K ft t 7)) := by
  unfold C_mostLeftAt
  rw [lett_e, lett_e]
  refine loopR_sq (fun i => (nI (mxN K ft t i), nI i)) 7 (by omega) rfl (fun i hi rec => ?_) (fun rec => ?_)
  · have h1 := ctN_le K ft t i 21
    have h2 := mxN_le K ft t i
    dsimp only
    rw [if_neg (le_f 7 7 rfl (by omega) (by omega)), show (7 : Int32) = nI 7 from rfl, pk_mul, nI_add, ald_n (by omega) (by omega), ix_nI (by omega), h73 i hi, mmax_n (by omega) (by omega), lett_e, lett_e, nA_1]
    rfl
  · dsimp only
    rw [if_pos (by decide)]
def zrC (M : Mm) (i : Nat) : Mm := (fun a x => if a = 73 ∧ x < i then 0 else M.1 a x, M.2)
theorem zrC_I (M : Mm) (i a x : Nat) : gI (zrC M i) a x = if a = 73 ∧ x < i then 0 else gI M a x := rfl
theorem zrC_0 (M : Mm) : zrC M 0 = M := by
  refine Prod.ext (funext fun a => funext fun k => ?_) rfl
  show gI (zrC M 0) a k = gI M a k
  rw [zrC_I, if_neg (by omega)]
theorem zrC_s (M : Mm) (i : Nat) : sI (zrC M i) 73 i 0 = zrC M (i + 1) := by
  refine Prod.ext (funext fun a => funext fun k => ?_) rfl
  show gI (sI (zrC M i) 73 i 0) a k = gI (zrC M (i + 1)) a k
  rw [gI_sI, zrC_I, zrC_I]
  by_cases h1 : a = 73 ∧ k = i
  · rw [if_pos h1, if_pos (by omega)]
  · rw [if_neg h1]
    by_cases h2 : a = 73 ∧ k < i
    · rw [if_pos h2, if_pos (by omega)]
    · rw [if_neg h2, if_neg (by omega)]
theorem start73 (hS : StR R n s t c (gI R 16) (gF R 17) C 26 P) (hP : P = 1 ∨ P = 10) {C1 : Mm} (e : C_startAhead C = some (46, C1)) (k : Nat) : gI C1 73 k = gI C 73 k := by
  obtain ⟨e1, e2, e3, e4, e5⟩ := hS.pre
  obtain ⟨C2, a1, -, -, -, -, a8⟩ := copyFor_m (th := 46) (p1 := 26) (by unfold apt; omega) hP hS.pl e1 e2 e3 e4 e5
  unfold C_startAhead at e
  rw [a1, bnd_s] at e
  have e9 : C2 = C1 := congrArg Prod.snd (Option.some.inj e)
  rw [← e9]
  exact a8.1 _ _ (by omega)
/-- one idling that fits is counted by the ticks -/
theorem grp_C (hb : KB n s t P w C R f) (hS : StR R n s t c (gI R 16) (gF R 17) C 26 P) (hP : P = 1 ∨ P = 10) (ht : t ≤ 9999) (hw : w ≤ 20) (hc : CSm C C') : ∃ Y, CSm C Y ∧ (∀ t' q, t' ≤ 60 → q < 7 → gI Y 73 (t' * 7 + q) = gI C' 73 (t' * 7 + q) + (if 1 ≤ t' ∧ kd ((f t').1.D 2) = nI q then 1 else 0)) ∧ ∀ {ρ : Type} (j : Mm → Option ρ), (bnd (C_startAhead C') fun r7 =>
 grd (r7.1 = 46) (lett (sI r7.2 46 16 (nI w)) fun M8 =>
 lett (1 : Int32) fun v9 =>
 loopR (fun (rec54 : (Int32 × Mm) → Option ρ) (x10 : Int32 × Mm) =>
 if (60 : Int32) < x10.1 then
 (j x10.2)
 else
 (plnS x10.2 46 fun q12 =>
 bnd (S_run (1 : Int32) (sbM (emS 46 q12) x10.2)) fun x11 =>
 lett (inM (dmS 46 q12) kpS x10.2 x11) fun M14 =>
 bnd (C_kindOf (gI M14 46 11) M14) fun r15 =>
 ald ((x10.1 * (7 : Int32)) + r15) 427 (ald ((x10.1 * (7 : Int32)) + r15) 427 (lett (sI M14 73 (ix ((x10.1 * (7 : Int32)) + r15)) ((gI M14 73 (ix ((x10.1 * (7 : Int32)) + r15))) + (1 : Int32))) fun M16 =>
 lett (x10.1 + (1 : Int32)) fun v17 =>
 rec54 (v17, M16))))) 1000000 (v9, M8))) = j Y := by
  have hS' : StR R n s t c (gI R 16) (gF R 17) C' 26 P := hS.fr (SP.rf R) (fun _ _ => rfl) (fun _ _ => rfl) (fun a k e => hc.1 a k (by omega)) (fun a k e => hc.2.1 a k (by omega)) (hc.2.2.2 _ _ (by omega))
  obtain ⟨C1, σ, a1, a2, a3, a4⟩ := hb.c0 hS hP hw hc
  have hn := a2.n6
  have s73 := start73 hS' hP a1
  obtain ⟨g, g0, gI', gS⟩ := seqN (α := Mm) (fun i x => (∃ σ, Ah n s t 0 i P x σ ∧ mkR σ.m 758 σ.D σ.F = mkR (f i).1.m 758 (f i).1.D (f i).1.F) ∧ CSm C x ∧ ∀ t' q, t' ≤ 60 → q < 7 → gI x 73 (t' * 7 + q) = gI C' 73 (t' * 7 + q) + (if 1 ≤ t' ∧ t' ≤ i ∧ kd ((f t').1.D 2) = nI q then 1 else 0)) (fun i x y => ∃ z q, q < 7 ∧ gR x 46 0 = some P ∧ S_run 1 (sbM (emS 46 P) x) = some z ∧ C_kindOf (gI (inM (dmS 46 P) kpS x z) 46 11) (inM (dmS 46 P) kpS x z) = some (nI q) ∧ y = sI (inM (dmS 46 P) kpS x z) 73 ((i + 1) * 7 + q) (gI (inM (dmS 46 P) kpS x z) 73 ((i + 1) * 7 + q) + 1)) (a := sI C1 46 16 (nI w)) ⟨⟨σ, a2, a3⟩, a4, fun t' q h1 h2 => by
      rw [gw_n _ _ _ _ (by omega), s73, if_neg (by omega)]
      exact (Int32.add_zero _).symm⟩ 60 (fun i x hi hI => by
    obtain ⟨⟨σ', b1, b2⟩, b3, b4⟩ := hI
    obtain ⟨z, σ'', d1, d2, d3, d4, d5⟩ := hb.cs hP ht b1 b2 hi
    obtain ⟨kk, q, q7, hq⟩ := kindOf_m hn (hb.act (show i + 1 ≤ 60 by omega)) (inM (dmS 46 P) kpS x z)
    have in73 : ∀ k, gI (inM (dmS 46 P) kpS x z) 73 k = gI x 73 k := fun k => in_I (by omega) (by omega)
    refine ⟨_, ⟨z, q, q7, b1.2.2.2.2, d1, ?_, rfl⟩, ⟨_, d2.co (fun a k e => gw_n _ _ _ _ (by omega)) (fun _ _ _ => rfl) rfl, ?_⟩, (b3.tr d4).tr ⟨fun a k e => gw_n _ _ _ _ (by omega), fun _ _ _ => rfl, fun _ _ => rfl, fun _ _ _ => rfl⟩, fun t' q' h1 h2 => ?_⟩
    · rw [d5, kk, hq]
    · exact d3
    · by_cases e : t' = i + 1 ∧ q' = q
      · obtain ⟨rfl, rfl⟩ := e
        rw [gw_s, in73, b4 _ _ h1 h2, if_neg (by omega), if_pos ⟨by omega, by omega, hq⟩, Int32.add_zero]
      · rw [gw_n _ _ _ _ (by omega), in73, b4 _ _ h1 h2]
        by_cases e2 : t' = i + 1
        · subst e2
          have : ¬ kd ((f (i + 1)).1.D 2) = nI q' := fun h => e ⟨rfl, (nI_eq (by omega) (by omega)).mp (h.symm.trans hq)⟩
          rw [if_neg (fun h => by omega), if_neg (fun h => this h.2.2)]
        · by_cases e3 : 1 ≤ t' ∧ t' ≤ i ∧ kd ((f t').1.D 2) = nI q'
          · rw [if_pos e3, if_pos ⟨e3.1, by omega, e3.2.2⟩]
          · rw [if_neg e3, if_neg (fun h => e3 ⟨h.1, by omega, h.2.2⟩)])
  obtain ⟨A1, A2, A3⟩ := gI' 60 (Nat.le_refl _)
  refine ⟨g 60, A2, fun t' q h1 h2 => ?_, fun j => ?_⟩
  · rw [A3 t' q h1 h2]
    by_cases e : 1 ≤ t' ∧ kd ((f t').1.D 2) = nI q
    · rw [if_pos e, if_pos ⟨e.1, h1, e.2⟩]
    · rw [if_neg e, if_neg (fun h => e ⟨h.1, h.2.2⟩)]
  · rw [a1, bnd_s, grd_t rfl, lett_e, lett_e]
    refine loopR_sq (fun i => (nI (i + 1), g i)) 60 (by omega) (by rw [g0]; rfl) (fun i hi rec => ?_) (fun rec => ?_)
    · obtain ⟨z, q, q7, s1, s2, s3, s4⟩ := gS i hi
      dsimp only
      rw [if_neg (lt_f 60 60 rfl (by omega) (by omega)), plnS_e _ s1 hP, s2, bnd_s, lett_e, s3, bnd_s, show (7 : Int32) = nI 7 from rfl, pk_mul, nI_add, ald_n (by omega) (by omega), ald_n (by omega) (by omega), ix_nI (by omega), lett_e, lett_e, nA_1, ← s4]
    · dsimp only
      rw [if_pos (by decide)]
theorem group_m (hS : StR R n s t c (gI R 16) (gF R 17) C 26 P) (hP : P = 1 ∨ P = 10) (ht : t ≤ 9999) {F : Nat → Nat → Sta × Mm} {ft : Nat → Nat} (hF : ∀ w, w ≤ 20 → KB n s t P w C R (F w)) (ft1 : ∀ w, ft w ≤ 1) (hc : CSm C C') : ∃ Y, C_groupByTick (nI (btN ft 21)) C' = some Y ∧ CSm C Y ∧ ∀ t' q, 1 ≤ t' → t' ≤ 60 → q < 7 → gI Y 73 (t' * 7 + q) = nI (ctN (fun w t' => kd ((F w t').1.D 2)) ft t' q 21) := by
  have hB := btN_lt ft1 21
  obtain ⟨g, g0, gI', gS⟩ := seqN (α := Mm) (fun m x => CSm C x ∧ ∀ t' q, 1 ≤ t' → t' ≤ 60 → q < 7 → gI x 73 (t' * 7 + q) = nI (ctN (fun w t' => kd ((F w t').1.D 2)) ft t' q m)) (fun m x y => (ft m = 0 ∧ y = x) ∨ (ft m = 1 ∧ ∀ {ρ : Type} (j : Mm → Option ρ), (bnd (C_startAhead x) fun r7 =>
 grd (r7.1 = 46) (lett (sI r7.2 46 16 (nI m)) fun M8 =>
 lett (1 : Int32) fun v9 =>
 loopR (fun (rec54 : (Int32 × Mm) → Option ρ) (x10 : Int32 × Mm) =>
 if (60 : Int32) < x10.1 then
 (j x10.2)
 else
 (plnS x10.2 46 fun q12 =>
 bnd (S_run (1 : Int32) (sbM (emS 46 q12) x10.2)) fun x11 =>
 lett (inM (dmS 46 q12) kpS x10.2 x11) fun M14 =>
 bnd (C_kindOf (gI M14 46 11) M14) fun r15 =>
 ald ((x10.1 * (7 : Int32)) + r15) 427 (ald ((x10.1 * (7 : Int32)) + r15) 427 (lett (sI M14 73 (ix ((x10.1 * (7 : Int32)) + r15)) ((gI M14 73 (ix ((x10.1 * (7 : Int32)) + r15))) + (1 : Int32))) fun M16 =>
 lett (x10.1 + (1 : Int32)) fun v17 =>
 rec54 (v17, M16))))) 1000000 (v9, M8))) = j y)) (a := zrC C' 427) ⟨hc.tr ⟨fun a k e => by rw [zrC_I, if_neg (by omega)], fun _ _ _ => rfl, fun _ _ => rfl, fun _ _ _ => rfl⟩, fun t' q h1 h2 h3 => by rw [zrC_I, if_pos ⟨rfl, by omega⟩]; rfl⟩ 21 (fun m x hm hI => by
    obtain ⟨i1, i2⟩ := hI
    have h1 := ft1 m
    by_cases e : ft m = 1
    · obtain ⟨Y, y1, y2, y3⟩ := grp_C (hF m (by omega)) hS hP ht (by omega) i1
      refine ⟨Y, Or.inr ⟨e, y3⟩, y1, fun t' q h1 h2 h3 => ?_⟩
      rw [y2 t' q h2 h3, i2 t' q h1 h2 h3, ctN_s]
      by_cases e2 : kd ((F m t').1.D 2) = nI q
      · rw [if_pos ⟨h1, e2⟩, if_pos ⟨e, e2⟩, nA_1]
      · rw [if_neg (fun h => e2 h.2), if_neg (fun h => e2 h.2), nA_0]
    · refine ⟨x, Or.inl ⟨by omega, rfl⟩, i1, fun t' q h1 h2 h3 => ?_⟩
      rw [i2 t' q h1 h2 h3, ctN_s, if_neg (fun h => e h.1), Nat.add_zero])
  obtain ⟨A1, A2⟩ := gI' 21 (Nat.le_refl _)
  refine ⟨g 21, ?_, A1, A2⟩
  unfold C_groupByTick
  rw [lett_e, lett_e]
  refine loopR_sq (fun i => (nI i, zrC C' i)) 427 (by omega) (by rw [zrC_0]; rfl) (fun i hi rec => ?_) (fun rec => ?_)
  · dsimp only
    rw [if_neg (le_f 427 427 rfl (by omega) (by omega)), ald_n (by omega) (by omega), ix_nI (by omega), lett_e, lett_e, nA_1, zrC_s]
  · dsimp only
    rw [if_pos (by decide), lett_e]
    refine loopR_sq (fun i => (nI i, g i)) 21 (by omega) (by rw [g0]; rfl) (fun m hm rec => ?_) (fun rec => ?_)
    · have hbt := btN_bit ft1 (show m < 21 by omega)
      dsimp only
      rw [if_neg (lt_f 20 20 rfl (by omega) (by omega)), lett_e, bit_t (by omega) (by omega), hbt]
      rcases gS m hm with ⟨s1, s2⟩ | ⟨s1, s2⟩
      · rw [s1, if_neg (by decide), s2]
        dsimp only
        rw [lett_e, nA_1]
      · rw [s1, if_pos (by decide)]
        refine (s2 (fun (M_4 : Mm) => lett (nI m + (1 : Int32)) fun v6 => rec (v6, M_4))).trans ?_
        rw [lett_e, nA_1]
    · dsimp only
      rw [if_pos (by decide)]
theorem tells_sim (h : Rl n P Q C R) (p : Int32) : ∃ a C' R', C_tells p C = some (a, C') ∧ R_tells p R = some (a, R') ∧ Rl n P Q C' R' := by
  rcases h.hd with ⟨h8, g1, g2⟩ | ⟨h8, g1, g2⟩
  · refine ⟨-1, C, R, ?_, ?_, h⟩
    · unfold C_tells; rw [g1, bnd_s, if_pos rfl]
    · unfold R_tells; rw [g2, if_pos rfl]
  · rcases isIn_c (M := C) (M' := R) p 0 1 0 1 rfl rfl (by omega) (by omega) with ⟨⟨f1, f2⟩, -⟩ | ⟨p, p1, p2, rfl, f1, f2⟩
    · refine ⟨-1, C, R, ?_, ?_, h⟩
      · unfold C_tells; rw [g1, bnd_s, if_neg i10, f1, bnd_s, if_pos rfl]
      · unfold R_tells; rw [g2, if_neg i10, f2, bnd_s, if_pos rfl]
    · obtain ⟨d0, ⟨s, t, c, ht, hS⟩, -, -⟩ := h8
      obtain ⟨F, ft, C1, R1, a1, a2, a3, a4, a5, a6, a7, a8⟩ := fits_main h hS ht
      have hB := btN_lt a2 21
      have hsm := smN_le a2 21
      have hsb := sm_bt ft 21
      by_cases e0 : btN ft 21 = 0
      · refine ⟨-1, C1, R1, ?_, ?_, h.sm a5 a6⟩
        · unfold C_tells; rw [g1, bnd_s, if_neg i10, f1, bnd_s, if_neg i10, a3, bnd_s, lett_e, e0, if_pos nI_0]
        · unfold R_tells; rw [g2, if_neg i10, f2, bnd_s, if_neg i10, a4, bnd_s, hsb.mpr e0, if_pos nI_0]
      · have e1 : smN ft 21 ≠ 0 := fun h => e0 (hsb.mp h)
        obtain ⟨Y, y1, y2, y3⟩ := group_m hS h.PQ ht a1 a2 a5
        obtain ⟨g, g0, gI', gS⟩ := seqN (α := Int32 × Int32 × Int32 × Int32) (fun i x => (i = 0 → x = (0, 2147483647, -1, 1000000000)) ∧ (1 ≤ i → x.1 = x.2.2.1 ∧ x.2.1 = x.2.2.2)) (fun i x y => (x.2.1 ≤ nI (mxN (fun w t' => kd ((F w t').1.D 2)) ft (i + 1) 7) ∧ ¬ nI (mxN (fun w t' => kd ((F w t').1.D 2)) ft (i + 1) 7) < x.2.2.2 ∧ y = x) ∨ (¬ x.2.1 ≤ nI (mxN (fun w t' => kd ((F w t').1.D 2)) ft (i + 1) 7) ∧ nI (mxN (fun w t' => kd ((F w t').1.D 2)) ft (i + 1) 7) < x.2.2.2 ∧ y = (nI (i + 1), nI (mxN (fun w t' => kd ((F w t').1.D 2)) ft (i + 1) 7), nI (i + 1), nI (mxN (fun w t' => kd ((F w t').1.D 2)) ft (i + 1) 7)))) (a := ((0 : Int32), (2147483647 : Int32), (-1 : Int32), (1000000000 : Int32))) ⟨fun _ => rfl, fun e => absurd e (by omega)⟩ 60 (fun i x hi hI => by
          obtain ⟨i1, i2⟩ := hI
          have hm := mxN_le (fun w t' => kd ((F w t').1.D 2)) ft (i + 1) 7
          by_cases i0 : i = 0
          · rw [i1 i0]
            refine ⟨_, Or.inr ⟨?_, ?_, rfl⟩, fun e => absurd e (by omega), fun _ => ⟨rfl, rfl⟩⟩
            · exact le_f 2147483647 2147483647 rfl (by omega) (by omega)
            · exact nlt_t 1000000000 1000000000 rfl (by omega) (by omega)
          · obtain ⟨j1, j2⟩ := i2 (by omega)
            by_cases e : x.2.1 ≤ nI (mxN (fun w t' => kd ((F w t').1.D 2)) ft (i + 1) 7)
            · refine ⟨x, Or.inl ⟨e, fun h => ?_, rfl⟩, fun e => absurd e (by omega), fun _ => ⟨j1, j2⟩⟩
              rw [← j2] at h
              exact nlt_le.mp h e
            · refine ⟨_, Or.inr ⟨e, ?_, rfl⟩, fun e => absurd e (by omega), fun _ => ⟨rfl, rfl⟩⟩
              rw [← j2]
              exact nlt_le.mpr e)
        obtain ⟨-, A2⟩ := gI' 60 (Nat.le_refl _)
        obtain ⟨B1, B2⟩ := A2 (by omega)
        refine ⟨if nI p = 0 then (g 60).1 else (g 60).2.1, Y, R1, ?_, ?_, h.sm y2 a6⟩
        · unfold C_tells
          rw [g1, bnd_s, if_neg i10, f1, bnd_s, if_neg i10, a3, bnd_s, lett_e, if_neg (nI_ne0 (by omega) (by omega)), y1, bnd_s, lett_e, lett_e, lett_e, lett_e]
          refine loopR_sq (fun i => ((g i).1, (g i).2.1, nI (i + 1))) 60 (by omega) (by rw [g0]; rfl) (fun i hi rec => ?_) (fun rec => ?_)
          · have mc := most_C (K := fun w t' => kd ((F w t').1.D 2)) (ft := ft) (M := Y) (t := i + 1) (by omega) (fun q hq => y3 (i + 1) q (by omega) (by omega) hq)
            dsimp only
            rw [if_neg (lt_f 60 60 rfl (by omega) (by omega)), mc, bnd_s, lett_e, lett_e]
            rcases gS i hi with ⟨s1, -, s3⟩ | ⟨s1, -, s3⟩
            · rw [if_pos s1]
              simp only [lett_e, nA_1, s3]
            · rw [if_neg s1]
              simp only [lett_e, nA_1, s3]
          · dsimp only
            rw [if_pos (by decide)]
            split <;> rfl
        · unfold R_tells
          rw [g2, if_neg i10, f2, bnd_s, if_neg i10, a4, bnd_s, if_neg (nI_ne0 (by omega) (by omega)), lett_e, lett_e, lett_e, lett_e]
          refine loopR_sq (fun i => ((g i).2.2.1, (g i).2.2.2, nI (i + 1))) 60 (by omega) (by rw [g0]; rfl) (fun i hi rec => ?_) (fun rec => ?_)
          · have mc := most_R (K := fun w t' => kd ((F w t').1.D 2)) (ft := ft) (X := R1) (t := i + 1) (by omega) (fun w hw => a7 w (i + 1) hw (by omega) (by omega)) a8 a2
            dsimp only
            rw [if_neg (lt_f 60 60 rfl (by omega) (by omega)), mc, bnd_s, lett_e, lett_e]
            rcases gS i hi with ⟨-, s2, s3⟩ | ⟨-, s2, s3⟩
            · rw [if_neg s2]
              simp only [lett_e, nA_1, s3]
            · rw [if_pos s2]
              simp only [lett_e, nA_1, s3]
          · dsimp only
            rw [if_pos (by decide), B1, B2]
            split <;> rfl
end TELLS
