/-! PURE: an image taken -/
section TAKE
variable {n P Q : Nat} {C R X : Mm}
def okIm (R : Mm) (p : Nat) : Prop := isR 1 101 (gI R 13 (2 + 2 * p)) ∧ isN 2 (gI R 13 (3 + 2 * p))
def okSt (n : Nat) (R : Mm) : Prop := isN 21 (gI R 13 0) ∧ isR 1 201 (gI R 13 1) ∧ ∀ p, p < n → okIm R p
/-- the class's settings -/
theorem settings_C {l : Nat} (hl : gI C 19 1 = nI l) (hb : l = 3 + 2 * n) (hn : n ≤ 6) (hB : ∀ i, i < l → isN 256 (gI R 13 i) ∧ gI C 20 i = gI R 13 i) : (okSt n R ∧ C_IAreSettings (nI n) C = some 1) ∨ (¬ okSt n R ∧ C_IAreSettings (nI n) C = some 0) := by
  have tb : ∀ i, i < l → C_TByteAt (nI i) C = some (gI R 13 i) := fun i hi => by rw [C_TB_m hl hi (by omega), (hB i hi).2]
  have t0 : C_TByteAt 0 C = some (gI R 13 0) := tb 0 (by omega)
  have t1 : C_TByteAt 1 C = some (gI R 13 1) := tb 1 (by omega)
  rcases isIn_c (M := C) (M' := C) (gI R 13 0) 0 20 0 20 rfl rfl (by omega) (by omega) with ⟨⟨f1, -⟩, f3⟩ | ⟨a, a1, a2, a3, f1, -⟩
  · refine Or.inr ⟨fun h => ?_, ?_⟩
    · obtain ⟨x, x1, x2⟩ := h.1
      exact f3 x (by omega) (by omega) x2
    · unfold C_IAreSettings
      rw [t0, bnd_s, f1, bnd_s, if_pos rfl]
  · rcases isIn_c (M := C) (M' := C) (gI R 13 1) 1 200 1 200 rfl rfl (by omega) (by omega) with ⟨⟨g1, -⟩, g3⟩ | ⟨b, b1, b2, b3, g1, -⟩
    · refine Or.inr ⟨fun h => ?_, ?_⟩
      · obtain ⟨x, x1, x2, x3⟩ := h.2.1
        exact g3 x (by omega) (by omega) x3
      · unfold C_IAreSettings
        rw [t0, bnd_s, f1, bnd_s, if_neg i10, t1, bnd_s, g1, bnd_s, if_pos rfl]
    · -- process by process
      have row : ∀ p, p < n → ∀ (j : Option Int32), (okIm R p → (bnd (C_TByteAt ((2 : Int32) + ((2 : Int32) * nI p)) C) fun r7 =>
 bnd (C_isWithin r7 (1 : Int32) (100 : Int32) C) fun r8 =>
 if r8 = 0 then
 (some (0 : Int32))
 else
 (bnd (C_TByteAt ((3 : Int32) + ((2 : Int32) * nI p)) C) fun r9 =>
 bnd (C_isWithin r9 (0 : Int32) (1 : Int32) C) fun r10 =>
 if r10 = 0 then
 (some (0 : Int32))
 else
 j)) = j) ∧ (¬ okIm R p → (bnd (C_TByteAt ((2 : Int32) + ((2 : Int32) * nI p)) C) fun r7 =>
 bnd (C_isWithin r7 (1 : Int32) (100 : Int32) C) fun r8 =>
 if r8 = 0 then
 (some (0 : Int32))
 else
 (bnd (C_TByteAt ((3 : Int32) + ((2 : Int32) * nI p)) C) fun r9 =>
 bnd (C_isWithin r9 (0 : Int32) (1 : Int32) C) fun r10 =>
 if r10 = 0 then
 (some (0 : Int32))
 else
 j)) = some 0) := fun p hp j => by
        have e2 : C_TByteAt ((2 : Int32) + ((2 : Int32) * nI p)) C = some (gI R 13 (2 + 2 * p)) := by
          rw [show (2 : Int32) = nI 2 from rfl, pk_mul, nI_add]; exact tb _ (by omega)
        have e3 : C_TByteAt ((3 : Int32) + ((2 : Int32) * nI p)) C = some (gI R 13 (3 + 2 * p)) := by
          rw [show (2 : Int32) = nI 2 from rfl, show (3 : Int32) = nI 3 from rfl, pk_mul, nI_add]; exact tb _ (by omega)
        rw [e2, bnd_s, e3]
        rcases isIn_c (M := C) (M' := C) (gI R 13 (2 + 2 * p)) 1 100 1 100 rfl rfl (by omega) (by omega) with ⟨⟨u1, -⟩, u3⟩ | ⟨x, x1, x2, x3, u1, -⟩
        · rw [u1, bnd_s, if_pos rfl]
          refine ⟨fun h => ?_, fun _ => rfl⟩
          obtain ⟨y, y1, y2, y3⟩ := h.1
          exact absurd y3 (u3 y (by omega) (by omega))
        · rw [u1, bnd_s, if_neg i10, bnd_s]
          rcases isIn_c (M := C) (M' := C) (gI R 13 (3 + 2 * p)) 0 1 0 1 rfl rfl (by omega) (by omega) with ⟨⟨w1, -⟩, w3⟩ | ⟨y, y1, y2, y3, w1, -⟩
          · rw [w1, bnd_s, if_pos rfl]
            refine ⟨fun h => ?_, fun _ => rfl⟩
            obtain ⟨z, z1, z2⟩ := h.2
            exact absurd z2 (w3 z (by omega) (by omega))
          · rw [w1, bnd_s, if_neg i10]
            exact ⟨fun _ => rfl, fun h => absurd ⟨⟨x, x1, by omega, x3⟩, y, by omega, y3⟩ h⟩
      obtain ⟨T, hT1, hT2⟩ := pk_least (fun i => i = n ∨ ¬ okIm R i) ⟨n, Or.inl rfl⟩
      have hT : T ≤ n := by
        rcases Nat.lt_or_ge n T with h | h
        · exact absurd (Or.inl rfl) (hT2 _ h)
        · exact h
      have hok : ∀ i, i < T → okIm R i := fun i hi => Classical.byContradiction fun h => hT2 i hi (Or.inr h)
      have step : ∀ r, (∀ rec : Int32 → Option Int32, (if nI n ≤ nI T then
 (some (1 : Int32))
 else
 (bnd (C_TByteAt ((2 : Int32) + ((2 : Int32) * nI T)) C) fun r7 =>
 bnd (C_isWithin r7 (1 : Int32) (100 : Int32) C) fun r8 =>
 if r8 = 0 then
 (some (0 : Int32))
 else
 (bnd (C_TByteAt ((3 : Int32) + ((2 : Int32) * nI T)) C) fun r9 =>
 bnd (C_isWithin r9 (0 : Int32) (1 : Int32) C) fun r10 =>
 if r10 = 0 then
 (some (0 : Int32))
 else
 (lett (nI T + (1 : Int32)) fun v11 =>
 rec v11)))) = r) → C_IAreSettings (nI n) C = r := fun r hr => by
        unfold C_IAreSettings
        rw [t0, bnd_s, f1, bnd_s, if_neg i10, t1, bnd_s, g1, bnd_s, if_neg i10, lett_e]
        refine loopR_sq (fun i => nI i) T (by omega) rfl (fun i hi rec => ?_) (fun rec => hr rec)
        rw [if_neg (nI_ge (show i < n by omega) (by omega)), (row i (by omega) _).1 (hok i hi), lett_e, nA_1]
      by_cases e4 : T = n
      · refine Or.inl ⟨⟨⟨a, by omega, a3⟩, ⟨b, b1, by omega, b3⟩, fun i hi => hok i (by omega)⟩, step _ (fun rec => ?_)⟩
        rw [if_pos (nI_le (by omega) (by omega))]
      · have e5 : ¬ okIm R T := by
          rcases hT1 with h | h
          · exact absurd h e4
          · exact h
        refine Or.inr ⟨fun h => e5 (h.2.2 T (by omega)), step _ (fun rec => ?_)⟩
        rw [if_neg (nI_ge (show T < n by omega) (by omega)), (row T (by omega) _).2 e5]
/-- the class: is it an image -/
theorem isOne_C {l : Nat} (hl : gI C 19 1 = nI l) (l1 : l ≤ 1600) (hn : n ≤ 6) (hB : ∀ i, i < l → isN 256 (gI R 13 i) ∧ gI C 20 i = gI R 13 i) : ((l = 3 + 2 * n ∧ gI R 13 (2 + 2 * n) = dgI (gI R 13) (2 + 2 * n) ∧ okSt n R) ∧ C_IIsOne (nI n) C = some 1) ∨ (¬ (l = 3 + 2 * n ∧ gI R 13 (2 + 2 * n) = dgI (gI R 13) (2 + 2 * n) ∧ okSt n R) ∧ C_IIsOne (nI n) C = some 0) := by
  have e0 : (3 : Int32) + (2 : Int32) * nI n = nI (3 + 2 * n) := by
    rw [show (2 : Int32) = nI 2 from rfl, show (3 : Int32) = nI 3 from rfl, pk_mul, nI_add]
  by_cases e : l = 3 + 2 * n
  · have hr : ∀ r, (if dgI (gI R 13) (2 + 2 * n) = gI R 13 (2 + 2 * n) then
 (bnd (C_IAreSettings (nI n) C) fun r5 =>
 if r5 = 0 then
 (some (0 : Int32))
 else
 (some (1 : Int32)))
 else
 (some (0 : Int32))) = r → C_IIsOne (nI n) C = r := fun r hr => by
      unfold C_IIsOne
      rw [hl, e0, if_pos (by rw [e]), nS_1 (by omega), show l - 1 = 2 + 2 * n by omega, lett_e, lett_e, lett_e]
      refine loopR_sq (fun i => (dgI (gI R 13) i, nI i)) (2 + 2 * n) (by omega) rfl (fun i hi rec => ?_) (fun rec => ?_)
      · dsimp only
        rw [if_neg (nI_ge hi (by omega)), C_TB_m hl (by omega) l1, bnd_s, (hB i (by omega)).2, lett_e, lett_e, nA_1, dgI_s]
      · dsimp only
        rw [if_pos (nI_le (Nat.le_refl _) (by omega)), C_TB_m hl (by omega) l1, bnd_s, (hB _ (by omega)).2]
        exact hr
    by_cases e2 : gI R 13 (2 + 2 * n) = dgI (gI R 13) (2 + 2 * n)
    · rcases settings_C hl e hn hB with ⟨s1, s2⟩ | ⟨s1, s2⟩
      · refine Or.inl ⟨⟨e, e2, s1⟩, hr _ ?_⟩
        rw [if_pos e2.symm, s2, bnd_s, if_neg i10]
      · refine Or.inr ⟨fun h => s1 h.2.2, hr _ ?_⟩
        rw [if_pos e2.symm, s2, bnd_s, if_pos rfl]
    · refine Or.inr ⟨fun h => e2 h.2.1, hr _ ?_⟩
      rw [if_neg (fun h => e2 h.symm)]
  · refine Or.inr ⟨fun h => e h.1, ?_⟩
    unfold C_IIsOne
    rw [hl, e0, if_neg (fun h => e ((nI_eq (by omega) (by omega)).mp h))]
/-- the reference's settings, process by process -/
theorem settings_R {l : Nat} (hX : ∀ k, gI X 13 k = gI R 13 k) (h1 : gI X 0 1 = nI n) (hb : l = 3 + 2 * n) (hn : n ≤ 6) (hB : ∀ i, i < l → isN 256 (gI R 13 i)) {w : Int32} (hw : w = 0 ∨ w = 1) : ((w = 1 ∧ ∀ p, p < n → okIm R p) → loopR (fun (rec103 : (Int32 × Int32) → Option Int32) (x7 : Int32 × Int32) =>
 if x7.1 = 0 then
 (grd (x7.1 = 0 ∨ x7.1 = 1) (some x7.1))
 else
 (if (gI X 0 1) ≤ x7.2 then
 (grd (x7.1 = 0 ∨ x7.1 = 1) (some x7.1))
 else
 (ald ((2 : Int32) + ((2 : Int32) * x7.2)) 1600 (bnd (R_isIn (gI X 13 (ix ((2 : Int32) + ((2 : Int32) * x7.2)))) (1 : Int32) (100 : Int32) X) fun r8 =>
 lett (fun (w_8 : Int32) =>
 lett w_8 fun v10 =>
 lett (x7.2 + (1 : Int32)) fun v11 =>
 rec103 (v10, v11)) fun j156 =>
 lett (fun (_ : Unit) =>
 j156 (0 : Int32)) fun j155 =>
 if r8 = 0 then
 (j155 ())
 else
 (ald ((3 : Int32) + ((2 : Int32) * x7.2)) 1600 (if (1 : Int32) < (gI X 13 (ix ((3 : Int32) + ((2 : Int32) * x7.2)))) then
 (j155 ())
 else
 (j156 (1 : Int32)))))))) 1000000 (w, (0 : Int32)) = some 1) ∧ (¬ (w = 1 ∧ ∀ p, p < n → okIm R p) → loopR (fun (rec103 : (Int32 × Int32) → Option Int32) (x7 : Int32 × Int32) =>
 if x7.1 = 0 then
 (grd (x7.1 = 0 ∨ x7.1 = 1) (some x7.1))
 else
 (if (gI X 0 1) ≤ x7.2 then
 (grd (x7.1 = 0 ∨ x7.1 = 1) (some x7.1))
 else
 (ald ((2 : Int32) + ((2 : Int32) * x7.2)) 1600 (bnd (R_isIn (gI X 13 (ix ((2 : Int32) + ((2 : Int32) * x7.2)))) (1 : Int32) (100 : Int32) X) fun r8 =>
 lett (fun (w_8 : Int32) =>
 lett w_8 fun v10 =>
 lett (x7.2 + (1 : Int32)) fun v11 =>
 rec103 (v10, v11)) fun j156 =>
 lett (fun (_ : Unit) =>
 j156 (0 : Int32)) fun j155 =>
 if r8 = 0 then
 (j155 ())
 else
 (ald ((3 : Int32) + ((2 : Int32) * x7.2)) 1600 (if (1 : Int32) < (gI X 13 (ix ((3 : Int32) + ((2 : Int32) * x7.2)))) then
 (j155 ())
 else
 (j156 (1 : Int32)))))))) 1000000 (w, (0 : Int32)) = some 0) := by
  have row : ∀ p, p < n → ∀ (j : Int32 → Option Int32), (okIm R p → (ald ((2 : Int32) + ((2 : Int32) * nI p)) 1600 (bnd (R_isIn (gI X 13 (ix ((2 : Int32) + ((2 : Int32) * nI p)))) (1 : Int32) (100 : Int32) X) fun r8 =>
 lett j fun j156 =>
 lett (fun (_ : Unit) =>
 j156 (0 : Int32)) fun j155 =>
 if r8 = 0 then
 (j155 ())
 else
 (ald ((3 : Int32) + ((2 : Int32) * nI p)) 1600 (if (1 : Int32) < (gI X 13 (ix ((3 : Int32) + ((2 : Int32) * nI p)))) then
 (j155 ())
 else
 (j156 (1 : Int32)))))) = j 1) ∧ (¬ okIm R p → (ald ((2 : Int32) + ((2 : Int32) * nI p)) 1600 (bnd (R_isIn (gI X 13 (ix ((2 : Int32) + ((2 : Int32) * nI p)))) (1 : Int32) (100 : Int32) X) fun r8 =>
 lett j fun j156 =>
 lett (fun (_ : Unit) =>
 j156 (0 : Int32)) fun j155 =>
 if r8 = 0 then
 (j155 ())
 else
 (ald ((3 : Int32) + ((2 : Int32) * nI p)) 1600 (if (1 : Int32) < (gI X 13 (ix ((3 : Int32) + ((2 : Int32) * nI p)))) then
 (j155 ())
 else
 (j156 (1 : Int32)))))) = j 0) := fun p hp j => by
    have e2 : (2 : Int32) + ((2 : Int32) * nI p) = nI (2 + 2 * p) := by
      rw [show (2 : Int32) = nI 2 from rfl, pk_mul, nI_add]
    have e3 : (3 : Int32) + ((2 : Int32) * nI p) = nI (3 + 2 * p) := by
      rw [show (2 : Int32) = nI 2 from rfl, show (3 : Int32) = nI 3 from rfl, pk_mul, nI_add]
    obtain ⟨y, y1, y2⟩ := hB (3 + 2 * p) (by omega)
    rw [e2, e3, ald_n (by omega) (by omega), ix_nI (by omega), ix_nI (by omega), hX, hX]
    rcases isIn_c (M := X) (M' := X) (gI R 13 (2 + 2 * p)) 1 100 1 100 rfl rfl (by omega) (by omega) with ⟨⟨-, u2⟩, u3⟩ | ⟨x, x1, x2, x3, -, u2⟩
    · rw [u2, bnd_s, lett_e, lett_e, if_pos rfl]
      refine ⟨fun h => ?_, fun _ => rfl⟩
      obtain ⟨z, z1, z2, z3⟩ := h.1
      exact absurd z3 (u3 z (by omega) (by omega))
    · rw [u2, bnd_s, lett_e, lett_e, if_neg i10, ald_n (by omega) (by omega), y2]
      by_cases e : y ≤ 1
      · rw [if_neg (lt_f 1 1 rfl e (by omega))]
        exact ⟨fun _ => rfl, fun h => absurd ⟨⟨x, x1, by omega, x3⟩, y, by omega, y2⟩ h⟩
      · rw [if_pos (lt_t 1 1 rfl (by omega) (by omega))]
        refine ⟨fun h => ?_, fun _ => rfl⟩
        obtain ⟨z, z1, z2⟩ := h.2
        have := (nI_eq (by omega) (by omega)).mp (y2.symm.trans z2)
        omega
  refine ⟨fun ⟨h1', hok⟩ => ?_, fun hno => ?_⟩
  · subst h1'
    refine loopR_sq (fun i => ((1 : Int32), nI i)) n (by omega) rfl (fun i hi rec => ?_) (fun rec => ?_)
    · dsimp only
      rw [if_neg i10, h1, if_neg (nI_ge hi (by omega)), (row i hi _).1 (hok i hi)]
      simp only [lett_e, nA_1]
    · dsimp only
      rw [if_neg i10, h1, if_pos (nI_le (Nat.le_refl _) (by omega)), grd_t (Or.inr rfl)]
  · rcases hw with rfl | rfl
    · refine loopR_sq (fun _ => ((0 : Int32), (0 : Int32))) 0 (by omega) rfl (fun i hi => by omega) (fun rec => ?_)
      dsimp only
      rw [if_pos rfl, grd_t (Or.inl rfl)]
    · obtain ⟨T, hT1, hT2⟩ := pk_least (fun i => i < n ∧ ¬ okIm R i) (Classical.byContradiction fun h => hno ⟨rfl, fun i hi => Classical.byContradiction fun h2 => h ⟨i, hi, h2⟩⟩)
      have hok : ∀ i, i < T → okIm R i := fun i hi => Classical.byContradiction fun h => hT2 i hi ⟨by omega, h⟩
      refine loopR_sq (fun i => ((if i ≤ T then 1 else 0 : Int32), nI i)) (T + 1) (by omega) (by rw [if_pos (by omega)]; rfl) (fun i hi rec => ?_) (fun rec => ?_)
      · dsimp only
        rw [if_pos (show i ≤ T by omega), if_neg i10, h1, if_neg (nI_ge (show i < n by omega) (by omega))]
        by_cases e : i = T
        · rw [(row i (by omega) _).2 (by rw [e]; exact hT1.2), if_neg (show ¬ i + 1 ≤ T by omega)]
          simp only [lett_e, nA_1]
        · rw [(row i (by omega) _).1 (hok i (by omega)), if_pos (show i + 1 ≤ T by omega)]
          simp only [lett_e, nA_1]
      · dsimp only
        rw [if_neg (show ¬ T + 1 ≤ T by omega), if_pos rfl, grd_t (Or.inl rfl)]
theorem isOne_R {l : Nat} (hX : ∀ k, gI X 13 k = gI R 13 k) (h0 : gI X 0 0 = 1) (h1 : gI X 0 1 = nI n) (l1 : l ≤ 1600) (hn : n ≤ 6) (hB : ∀ i, i < l → isN 256 (gI R 13 i)) : ((l = 3 + 2 * n ∧ gI R 13 (2 + 2 * n) = dgI (gI R 13) (2 + 2 * n) ∧ okSt n R) → R_isImage (nI l) X = some 1) ∧ (¬ (l = 3 + 2 * n ∧ gI R 13 (2 + 2 * n) = dgI (gI R 13) (2 + 2 * n) ∧ okSt n R) → R_isImage (nI l) X = some 0) := by
  have e0 : (3 : Int32) + (2 : Int32) * nI n = nI (3 + 2 * n) := by
    rw [show (2 : Int32) = nI 2 from rfl, show (3 : Int32) = nI 3 from rfl, pk_mul, nI_add]
  by_cases e : l = 3 + 2 * n
  · obtain ⟨a, a1, a2⟩ := hB 0 (by omega)
    have go : ∀ r, (∀ (j99 : Int32 → Option Int32), (∀ w, j99 w = loopR (fun (rec103 : (Int32 × Int32) → Option Int32) (x7 : Int32 × Int32) =>
 if x7.1 = 0 then
 (grd (x7.1 = 0 ∨ x7.1 = 1) (some x7.1))
 else
 (if (gI X 0 1) ≤ x7.2 then
 (grd (x7.1 = 0 ∨ x7.1 = 1) (some x7.1))
 else
 (ald ((2 : Int32) + ((2 : Int32) * x7.2)) 1600 (bnd (R_isIn (gI X 13 (ix ((2 : Int32) + ((2 : Int32) * x7.2)))) (1 : Int32) (100 : Int32) X) fun r8 =>
 lett (fun (w_8 : Int32) =>
 lett w_8 fun v10 =>
 lett (x7.2 + (1 : Int32)) fun v11 =>
 rec103 (v10, v11)) fun j156 =>
 lett (fun (_ : Unit) =>
 j156 (0 : Int32)) fun j155 =>
 if r8 = 0 then
 (j155 ())
 else
 (ald ((3 : Int32) + ((2 : Int32) * x7.2)) 1600 (if (1 : Int32) < (gI X 13 (ix ((3 : Int32) + ((2 : Int32) * x7.2)))) then
 (j155 ())
 else
 (j156 (1 : Int32)))))))) 1000000 (w, (0 : Int32))) → (if gI R 13 (2 + 2 * n) = dgI (gI R 13) (2 + 2 * n) then
 (if (20 : Int32) < gI R 13 0 then
 j99 0
 else
 (bnd (R_isIn (gI R 13 1) (1 : Int32) (200 : Int32) X) fun r12 =>
 if r12 = 0 then
 j99 0
 else
 j99 1))
 else
 j99 0) = r) → R_isImage (nI l) X = r := fun r hr => by
      unfold R_isImage
      rw [h0, if_neg i10, h1, e0, if_pos (by rw [e]), nS_1 (by omega), show l - 1 = 2 + 2 * n by omega, lett_e, lett_e, lett_e]
      refine loopR_sq (fun i => (dgI (gI R 13) i, nI i)) (2 + 2 * n) (by omega) rfl (fun i hi rec => ?_) (fun rec => ?_)
      · dsimp only
        rw [if_neg (nI_ge hi (by omega)), ald_n (by omega) (by omega), ix_nI (by omega), hX, lett_e, lett_e, nA_1, dgI_s]
      · dsimp only
        rw [if_pos (nI_le (Nat.le_refl _) (by omega)), ald_n (by omega) (by omega), ix_nI (by omega), hX, show ix (0 : Int32) = 0 from rfl, show ix (1 : Int32) = 1 from rfl, hX, hX, lett_e, lett_e, show (ald (0 : Int32) 1600 : Option Int32 → Option Int32) = ald (nI 0) 1600 from rfl, ald_n (by omega) (by omega), show (ald (1 : Int32) 1600 : Option Int32 → Option Int32) = ald (nI 1) 1600 from rfl, ald_n (by omega) (by omega)]
        rw [h1] at hr
        exact hr _ (fun w => rfl)
    refine ⟨fun ⟨_, e2, s0, s1, s2⟩ => go _ (fun j99 hj => ?_), fun hno => go _ (fun j99 hj => ?_)⟩
    · obtain ⟨x, x1, x2⟩ := s0
      obtain ⟨y, y1, y2, y3⟩ := s1
      have r1 : R_isIn (gI R 13 1) 1 200 X = some 1 := by
        unfold R_isIn
        rw [y3, if_neg (nlt_f 1 1 rfl y1 (by omega)), if_neg (lt_f 200 200 rfl (by omega) (by omega))]
      rw [if_pos e2, x2, if_neg (lt_f 20 20 rfl (by omega) (by omega)), r1, bnd_s, if_neg i10, hj]
      exact (settings_R hX h1 e hn hB (Or.inr rfl)).1 ⟨rfl, s2⟩
    · have z0 : j99 0 = some 0 := by
        rw [hj]
        exact (settings_R hX h1 e hn hB (Or.inl rfl)).2 (fun h => absurd h.1 (by decide))
      by_cases e2 : gI R 13 (2 + 2 * n) = dgI (gI R 13) (2 + 2 * n)
      · rw [if_pos e2, a2]
        by_cases e3 : a ≤ 20
        · rw [if_neg (lt_f 20 20 rfl e3 (by omega))]
          rcases isIn_c (M := X) (M' := X) (gI R 13 1) 1 200 1 200 rfl rfl (by omega) (by omega) with ⟨⟨-, u2⟩, u3⟩ | ⟨x, x1, x2, x3, -, u2⟩
          · rw [u2, bnd_s, if_pos rfl, z0]
          · rw [u2, bnd_s, if_neg i10, hj]
            exact (settings_R hX h1 e hn hB (Or.inr rfl)).2 (fun h => hno ⟨e, e2, ⟨a, by omega, a2⟩, ⟨x, x1, by omega, x3⟩, h.2⟩)
        · rw [if_pos (lt_t 20 20 rfl (by omega) (by omega)), z0]
      · rw [if_neg e2, z0]
  · refine ⟨fun h => absurd h.1 e, fun _ => ?_⟩
    unfold R_isImage
    rw [h0, if_neg i10, h1, e0, if_neg (fun h => e ((nI_eq (by omega) (by omega)).mp h))]
end TAKE
