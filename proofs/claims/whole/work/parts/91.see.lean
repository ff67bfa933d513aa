/-! PURE: what is seen -/
def rdC (M : Mm) (i : Nat) : Mm := (fun a x => if a = 68 ∧ x < i then M.1 20 (2 * x) else if a = 69 ∧ x < i then M.1 20 (2 * x + 1) else M.1 a x, M.2)
def rdR (M : Mm) (i : Nat) : Mm := (fun a x => if a = 22 ∧ x < i then M.1 13 (2 * x) else if a = 23 ∧ x < i then M.1 13 (2 * x + 1) else M.1 a x, M.2)
theorem rdC_I (M : Mm) (i a x : Nat) : gI (rdC M i) a x = if a = 68 ∧ x < i then gI M 20 (2 * x) else if a = 69 ∧ x < i then gI M 20 (2 * x + 1) else gI M a x := rfl
theorem rdR_I (M : Mm) (i a x : Nat) : gI (rdR M i) a x = if a = 22 ∧ x < i then gI M 13 (2 * x) else if a = 23 ∧ x < i then gI M 13 (2 * x + 1) else gI M a x := rfl
theorem rdC_0 (M : Mm) : rdC M 0 = M := by
  refine Prod.ext (funext fun a => funext fun k => ?_) rfl
  show gI (rdC M 0) a k = gI M a k
  rw [rdC_I, if_neg (by omega), if_neg (by omega)]
theorem rdR_0 (M : Mm) : rdR M 0 = M := by
  refine Prod.ext (funext fun a => funext fun k => ?_) rfl
  show gI (rdR M 0) a k = gI M a k
  rw [rdR_I, if_neg (by omega), if_neg (by omega)]
theorem rdC_s (M : Mm) (i : Nat) : sI (sI (rdC M i) 68 i (gI M 20 (2 * i))) 69 i (gI M 20 (2 * i + 1)) = rdC M (i + 1) := by
  refine Prod.ext (funext fun a => funext fun k => ?_) rfl
  show gI (sI (sI (rdC M i) 68 i (gI M 20 (2 * i))) 69 i (gI M 20 (2 * i + 1))) a k = gI (rdC M (i + 1)) a k
  rw [gI_sI, gI_sI, rdC_I, rdC_I]
  by_cases h1 : a = 69 ∧ k = i
  · rw [if_pos h1, if_neg (by omega), if_pos (by omega), h1.2]
  · rw [if_neg h1]
    by_cases h2 : a = 68 ∧ k = i
    · rw [if_pos h2, if_pos (by omega), h2.2]
    · rw [if_neg h2]
      by_cases h3 : a = 68 ∧ k < i
      · rw [if_pos h3, if_pos (show a = 68 ∧ k < i + 1 by omega)]
      · rw [if_neg h3, if_neg (show ¬ (a = 68 ∧ k < i + 1) by omega)]
        by_cases h4 : a = 69 ∧ k < i
        · rw [if_pos h4, if_pos (show a = 69 ∧ k < i + 1 by omega)]
        · rw [if_neg h4, if_neg (show ¬ (a = 69 ∧ k < i + 1) by omega)]
theorem rdR_s (M : Mm) (i : Nat) : sI (sI (rdR M i) 22 i (gI M 13 (2 * i))) 23 i (gI M 13 (2 * i + 1)) = rdR M (i + 1) := by
  refine Prod.ext (funext fun a => funext fun k => ?_) rfl
  show gI (sI (sI (rdR M i) 22 i (gI M 13 (2 * i))) 23 i (gI M 13 (2 * i + 1))) a k = gI (rdR M (i + 1)) a k
  rw [gI_sI, gI_sI, rdR_I, rdR_I]
  by_cases h1 : a = 23 ∧ k = i
  · rw [if_pos h1, if_neg (by omega), if_pos (by omega), h1.2]
  · rw [if_neg h1]
    by_cases h2 : a = 22 ∧ k = i
    · rw [if_pos h2, if_pos (by omega), h2.2]
    · rw [if_neg h2]
      by_cases h3 : a = 22 ∧ k < i
      · rw [if_pos h3, if_pos (show a = 22 ∧ k < i + 1 by omega)]
      · rw [if_neg h3, if_neg (show ¬ (a = 22 ∧ k < i + 1) by omega)]
        by_cases h4 : a = 23 ∧ k < i
        · rw [if_pos h4, if_pos (show a = 23 ∧ k < i + 1 by omega)]
        · rw [if_neg h4, if_neg (show ¬ (a = 23 ∧ k < i + 1) by omega)]
theorem C_TB_m {M : Mm} {l i : Nat} (hl : gI M 19 1 = nI l) (h : i < l) (hb : l ≤ 1600) : C_TByteAt (nI i) M = some (gI M 20 i) := by
  unfold C_TByteAt
  rw [lett_e, if_neg (nI_pos (by omega)), hl, if_pos ((nI_ltI (by omega) (by omega)).mpr h), ald_n (by omega) (by omega), ix_nI (by omega)]
def okr (n : Nat) (R : Mm) (i : Nat) : Prop := isR 1 61 (gI R 13 (2 * i)) ∧ (isN n (gI R 13 (2 * i + 1)) ∨ gI R 13 (2 * i + 1) = 6)
def seeJ (X : Mm) (v2 u_5 : Int32) : Option (Int32 × Mm) :=
 if u_5 = 0 then
 (bnd (R_refuses (5 : Int32) X) fun r13 =>
 some (r13.1, r13.2))
 else
 (lett (sI X 0 61 (v2 / (2 : Int32))) fun M7 =>
 lett (0 : Int32) fun v8 =>
 loopR (fun (rec119 : (Int32 × Mm) → Option (Int32 × Mm)) (x9 : Int32 × Mm) =>
 if (gI x9.2 0 61) ≤ x9.1 then
 (some ((gI x9.2 0 61), x9.2))
 else
 (ald ((2 : Int32) * x9.1) 1600 (ald x9.1 16 (lett (sI x9.2 22 (ix x9.1) (gI x9.2 13 (ix ((2 : Int32) * x9.1)))) fun M10 =>
 ald (((2 : Int32) * x9.1) + (1 : Int32)) 1600 (ald x9.1 16 (lett (sI M10 23 (ix x9.1) (gI M10 13 (ix (((2 : Int32) * x9.1) + (1 : Int32))))) fun M11 =>
 lett (x9.1 + (1 : Int32)) fun v12 =>
 rec119 (v12, M11))))))) 1000000 (v8, M7))
section SEE
variable {n P Q : Nat} {C R : Mm}
theorem row_C {ρ : Type} {l i : Nat} (hl : gI C 19 1 = nI l) (hb : l ≤ 1600) (hB : ∀ i, i < l → isN 256 (gI R 13 i) ∧ gI C 20 i = gI R 13 i) (hi : 2 * i + 1 < l) (hn : n ≤ 6) [Decidable (okr n R i)] (z j : Option ρ) : (bnd (C_TByteAt (nI (2 * i)) C) fun r3 =>
 lett r3 fun v4 =>
 bnd (C_TByteAt (nI (2 * i + 1)) C) fun r5 =>
 lett r5 fun v6 =>
 if v4 < (1 : Int32) then
 z
 else
 (if (60 : Int32) < v4 then
 z
 else
 (lett (fun (_ : Unit) => j) fun j79 =>
 if v6 < nI n then
 (j79 ())
 else
 (if v6 = (6 : Int32) then
 (j79 ())
 else
 z)))) = (if okr n R i then j else z) := by
  obtain ⟨⟨a, a1, a2⟩, a3⟩ := hB (2 * i) (by omega)
  obtain ⟨⟨b, b1, b2⟩, b3⟩ := hB (2 * i + 1) hi
  rw [C_TB_m hl (by omega) hb, bnd_s, lett_e, C_TB_m hl hi hb, bnd_s, lett_e, lett_e, a3, b3, a2, b2]
  by_cases e1 : 1 ≤ a ∧ a ≤ 60
  · rw [if_neg (nlt_f 1 1 rfl (by omega) (by omega)), if_neg (lt_f 60 60 rfl (by omega) (by omega))]
    by_cases e2 : b < n
    · rw [if_pos ((nI_ltI (by omega) (by omega)).mpr e2), if_pos ⟨⟨a, by omega, by omega, a2⟩, Or.inl ⟨b, e2, b2⟩⟩]
    · rw [if_neg (nI_nlt (by omega) (by omega))]
      by_cases e3 : b = 6
      · rw [if_pos (by rw [e3]; rfl), if_pos ⟨⟨a, by omega, by omega, a2⟩, Or.inr (by rw [b2, e3]; rfl)⟩]
      · rw [if_neg (neq_f 6 6 rfl e3 (by omega) (by omega)), if_neg]
        rintro ⟨-, ⟨x, x1, x2⟩ | x⟩
        · have := (nI_eq (by omega) (by omega)).mp (b2.symm.trans x2); omega
        · exact e3 ((nI_eq (by omega) (by omega)).mp (b2.symm.trans x))
  · have e2 : ¬ okr n R i := by
      rintro ⟨⟨x, x1, x2, x3⟩, -⟩
      have := (nI_eq (by omega) (by omega)).mp (a2.symm.trans x3); omega
    rw [if_neg e2]
    by_cases e3 : a < 1
    · rw [if_pos (nlt_t 1 1 rfl e3 (by omega))]
    · rw [if_neg (nlt_f 1 1 rfl (by omega) (by omega)), if_pos (lt_t 60 60 rfl (by omega) (by omega))]
theorem row_R {ρ : Type} {X : Mm} {l i : Nat} (hX : ∀ k, gI X 13 k = gI R 13 k) (h1 : gI X 0 1 = nI n) (hb : l ≤ 1600) (hB : ∀ i, i < l → isN 256 (gI R 13 i)) (hi : 2 * i + 1 < l) (hn : n ≤ 6) [Decidable (okr n R i)] (j : Int32 → Option ρ) : (ald (nI (2 * i)) 1600 (bnd (R_isIn (gI X 13 (ix (nI (2 * i)))) (1 : Int32) (60 : Int32) X) fun r15 =>
 lett j fun j93 =>
 lett (fun (_ : Unit) =>
 j93 (0 : Int32)) fun j92 =>
 if r15 = 0 then
 (j92 ())
 else
 (ald (nI (2 * i + 1)) 1600 (lett (fun (_ : Unit) =>
 j93 (1 : Int32)) fun j88 =>
 if (gI X 13 (ix (nI (2 * i + 1)))) = (6 : Int32) then
 (j88 ())
 else
 (ald (nI (2 * i + 1)) 1600 (bnd (R_isProcess (gI X 13 (ix (nI (2 * i + 1)))) X) fun r19 =>
 if r19 = 0 then
 (j92 ())
 else
 (j88 ()))))))) = j (if okr n R i then 1 else 0) := by
  obtain ⟨a, a1, a2⟩ := hB (2 * i) (by omega)
  obtain ⟨b, b1, b2⟩ := hB (2 * i + 1) hi
  rw [ald_n (by omega) (by omega), ix_nI (by omega), ix_nI (by omega), hX, hX, a2, b2]
  by_cases e1 : 1 ≤ a ∧ a ≤ 60
  · have r1 : R_isIn (nI a) 1 60 X = some 1 := by
      unfold R_isIn
      rw [if_neg (nlt_f 1 1 rfl (by omega) (by omega)), if_neg (lt_f 60 60 rfl (by omega) (by omega))]
    rw [r1, bnd_s, lett_e, lett_e, if_neg i10, ald_n (by omega) (by omega), lett_e, ald_n (by omega) (by omega)]
    by_cases e3 : b = 6
    · rw [if_pos (by rw [e3]; rfl), if_pos ⟨⟨a, by omega, by omega, a2⟩, Or.inr (by rw [b2, e3]; rfl)⟩]
    · rw [if_neg (neq_f 6 6 rfl e3 (by omega) (by omega))]
      unfold R_isProcess R_isIn
      rw [h1, if_neg (nI_pos (by omega))]
      by_cases e2 : b < n
      · rw [if_neg (by rw [show nI n - 1 = nI (n - 1) from nS_1 (by omega)]; exact nI_nlt (by omega) (by omega)), bnd_s, grd_t (Or.inr rfl), bnd_s, if_neg i10, if_pos ⟨⟨a, by omega, by omega, a2⟩, Or.inl ⟨b, e2, b2⟩⟩]
      · have hlt : nI n - 1 < nI b := by
          rw [i32_lt, nI_toInt (by omega)]
          by_cases e0 : n = 0
          · rw [e0]; show (-1 : Int) < _; omega
          · rw [nS_1 (by omega), nI_toInt (by omega)]; omega
        rw [if_pos hlt, bnd_s, grd_t (Or.inl rfl), bnd_s, if_pos rfl, if_neg]
        rintro ⟨-, ⟨x, x1, x2⟩ | x⟩
        · have := (nI_eq (by omega) (by omega)).mp (b2.symm.trans x2); omega
        · exact e3 ((nI_eq (by omega) (by omega)).mp (b2.symm.trans x))
  · have e2 : ¬ okr n R i := by
      rintro ⟨⟨x, x1, x2, x3⟩, -⟩
      have := (nI_eq (by omega) (by omega)).mp (a2.symm.trans x3); omega
    have r1 : R_isIn (nI a) 1 60 X = some 0 := by
      unfold R_isIn
      by_cases e3 : a < 1
      · rw [if_pos (nlt_t 1 1 rfl e3 (by omega))]
      · rw [if_neg (nlt_f 1 1 rfl (by omega) (by omega)), if_pos (lt_t 60 60 rfl (by omega) (by omega))]
    rw [r1, bnd_s, lett_e, lett_e, if_pos rfl, if_neg e2]
/-- the class's rows -/
theorem rows_C {l : Nat} (hl : gI C 19 1 = nI l) (hb : l ≤ 1600) (hB : ∀ i, i < l → isN 256 (gI R 13 i) ∧ gI C 20 i = gI R 13 i) (hn : n ≤ 6) : ((2 ≤ l ∧ l ≤ 32 ∧ l % 2 = 0 ∧ ∀ i, i < l / 2 → okr n R i) ∧ C_NAreRows (nI n) C = some 1) ∨ (¬ (2 ≤ l ∧ l ≤ 32 ∧ l % 2 = 0 ∧ ∀ i, i < l / 2 → okr n R i) ∧ C_NAreRows (nI n) C = some 0) := by
  by_cases e1 : l < 2
  · refine Or.inr ⟨fun h => by omega, ?_⟩
    unfold C_NAreRows
    rw [hl, if_pos (nlt_t 2 2 rfl e1 (by omega))]
  · by_cases e2 : 32 < l
    · refine Or.inr ⟨fun h => by omega, ?_⟩
      unfold C_NAreRows
      rw [hl, if_neg (nlt_f 2 2 rfl (by omega) (by omega)), if_pos (lt_t 32 32 rfl e2 (by omega))]
    · by_cases e3 : l % 2 = 0
      · have hd : ∀ r, loopR (fun (rec30 : Int32 → Option Int32) (x2 : Int32) =>
 if (gI C 19 1) ≤ x2 then
 (some (1 : Int32))
 else
 (bnd (C_TByteAt x2 C) fun r3 =>
 lett r3 fun v4 =>
 bnd (C_TByteAt (x2 + (1 : Int32)) C) fun r5 =>
 lett r5 fun v6 =>
 if v4 < (1 : Int32) then
 (some (0 : Int32))
 else
 (if (60 : Int32) < v4 then
 (some (0 : Int32))
 else
 (lett (fun (_ : Unit) =>
 lett (x2 + (2 : Int32)) fun v7 =>
 rec30 v7) fun j79 =>
 if v6 < nI n then
 (j79 ())
 else
 (if v6 = (6 : Int32) then
 (j79 ())
 else
 (some (0 : Int32))))))) 1000000 0 = r → C_NAreRows (nI n) C = r := fun r hr => by
          unfold C_NAreRows
          rw [hl, if_neg (nlt_f 2 2 rfl (by omega) (by omega)), if_neg (lt_f 32 32 rfl (by omega) (by omega)), show (2 : Int32) = nI 2 from rfl, pk_rem (by omega) (by omega) (by omega), e3, if_pos (by decide), lett_e]
          rw [hl] at hr
          exact hr
        obtain ⟨T, hT1, hT2⟩ := pk_least (fun i => i = l / 2 ∨ ¬ okr n R i) ⟨l / 2, Or.inl rfl⟩
        have hT : T ≤ l / 2 := by
          rcases Nat.lt_or_ge (l / 2) T with h | h
          · exact absurd (Or.inl rfl) (hT2 _ h)
          · exact h
        have hok : ∀ i, i < T → okr n R i := fun i hi => Classical.byContradiction fun h => hT2 i hi (Or.inr h)
        have step : ∀ r, (∀ rec : Int32 → Option Int32, (if nI l ≤ nI (2 * T) then
 (some (1 : Int32))
 else
 (bnd (C_TByteAt (nI (2 * T)) C) fun r3 =>
 lett r3 fun v4 =>
 bnd (C_TByteAt (nI (2 * T) + (1 : Int32)) C) fun r5 =>
 lett r5 fun v6 =>
 if v4 < (1 : Int32) then
 (some (0 : Int32))
 else
 (if (60 : Int32) < v4 then
 (some (0 : Int32))
 else
 (lett (fun (_ : Unit) =>
 lett (nI (2 * T) + (2 : Int32)) fun v7 =>
 rec v7) fun j79 =>
 if v6 < nI n then
 (j79 ())
 else
 (if v6 = (6 : Int32) then
 (j79 ())
 else
 (some (0 : Int32))))))) = r) → C_NAreRows (nI n) C = r := fun r hr => by
          refine hd r (loopR_sq (fun i => nI (2 * i)) T (by omega) rfl (fun i hi rec => ?_) (fun rec => by rw [hl]; exact hr rec))
          haveI := Classical.propDecidable (okr n R i)
          rw [hl, if_neg (nI_ge (by omega) (by omega)), nA_1, nA_2, row_C hl hb hB (by omega) hn, if_pos (hok i hi), lett_e]
          rfl
        by_cases e4 : T = l / 2
        · refine Or.inl ⟨⟨by omega, by omega, e3, fun i hi => hok i (by omega)⟩, step _ (fun rec => ?_)⟩
          rw [if_pos (nI_le (by omega) (by omega))]
        · have e5 : ¬ okr n R T := by
            rcases hT1 with h | h
            · exact absurd h e4
            · exact h
          refine Or.inr ⟨fun h => e5 (h.2.2.2 T (by omega)), step _ (fun rec => ?_)⟩
          haveI := Classical.propDecidable (okr n R T)
          rw [if_neg (nI_ge (by omega) (by omega)), nA_1, nA_2, row_C hl hb hB (by omega) hn, if_neg e5]
      · refine Or.inr ⟨fun h => e3 h.2.2.1, ?_⟩
        unfold C_NAreRows
        rw [hl, if_neg (nlt_f 2 2 rfl (by omega) (by omega)), if_neg (lt_f 32 32 rfl (by omega) (by omega)), show (2 : Int32) = nI 2 from rfl, pk_rem (by omega) (by omega) (by omega), if_neg (nI_ne0 (by omega) (by omega))]
/-- the reference's rows -/
theorem rows_R {ρ : Type} {X : Mm} {l : Nat} (hX : ∀ k, gI X 13 k = gI R 13 k) (h1 : gI X 0 1 = nI n) (hb : l ≤ 32) (he : l % 2 = 0) (hB : ∀ i, i < l → isN 256 (gI R 13 i)) (hn : n ≤ 6) (j : Int32 → Option ρ) : ((∀ i, i < l / 2 → okr n R i) ∨ ¬ (∀ i, i < l / 2 → okr n R i)) ∧ ((∀ i, i < l / 2 → okr n R i) → loopR (fun (rec36 : (Int32 × Int32) → Option ρ) (x14 : Int32 × Int32) =>
 if x14.1 = 0 then
 (j x14.1)
 else
 (if nI l ≤ x14.2 then
 (j x14.1)
 else
 (ald x14.2 1600 (bnd (R_isIn (gI X 13 (ix x14.2)) (1 : Int32) (60 : Int32) X) fun r15 =>
 lett (fun (w_15 : Int32) =>
 lett w_15 fun v17 =>
 lett (x14.2 + (2 : Int32)) fun v18 =>
 rec36 (v17, v18)) fun j93 =>
 lett (fun (_ : Unit) =>
 j93 (0 : Int32)) fun j92 =>
 if r15 = 0 then
 (j92 ())
 else
 (ald (x14.2 + (1 : Int32)) 1600 (lett (fun (_ : Unit) =>
 j93 (1 : Int32)) fun j88 =>
 if (gI X 13 (ix (x14.2 + (1 : Int32)))) = (6 : Int32) then
 (j88 ())
 else
 (ald (x14.2 + (1 : Int32)) 1600 (bnd (R_isProcess (gI X 13 (ix (x14.2 + (1 : Int32)))) X) fun r19 =>
 if r19 = 0 then
 (j92 ())
 else
 (j88 ()))))))))) 1000000 ((1 : Int32), (0 : Int32)) = j 1) ∧ (¬ (∀ i, i < l / 2 → okr n R i) → loopR (fun (rec36 : (Int32 × Int32) → Option ρ) (x14 : Int32 × Int32) =>
 if x14.1 = 0 then
 (j x14.1)
 else
 (if nI l ≤ x14.2 then
 (j x14.1)
 else
 (ald x14.2 1600 (bnd (R_isIn (gI X 13 (ix x14.2)) (1 : Int32) (60 : Int32) X) fun r15 =>
 lett (fun (w_15 : Int32) =>
 lett w_15 fun v17 =>
 lett (x14.2 + (2 : Int32)) fun v18 =>
 rec36 (v17, v18)) fun j93 =>
 lett (fun (_ : Unit) =>
 j93 (0 : Int32)) fun j92 =>
 if r15 = 0 then
 (j92 ())
 else
 (ald (x14.2 + (1 : Int32)) 1600 (lett (fun (_ : Unit) =>
 j93 (1 : Int32)) fun j88 =>
 if (gI X 13 (ix (x14.2 + (1 : Int32)))) = (6 : Int32) then
 (j88 ())
 else
 (ald (x14.2 + (1 : Int32)) 1600 (bnd (R_isProcess (gI X 13 (ix (x14.2 + (1 : Int32)))) X) fun r19 =>
 if r19 = 0 then
 (j92 ())
 else
 (j88 ()))))))))) 1000000 ((1 : Int32), (0 : Int32)) = j 0) := by
  refine ⟨Classical.em _, fun hok => ?_, fun hno => ?_⟩
  · refine loopR_sq (fun i => ((1 : Int32), nI (2 * i))) (l / 2) (by omega) rfl (fun i hi rec => ?_) (fun rec => ?_)
    · haveI := Classical.propDecidable (okr n R i)
      dsimp only
      rw [if_neg i10, if_neg (nI_ge (by omega) (by omega)), nA_1, nA_2]
      refine (row_R hX h1 (show l ≤ 1600 by omega) hB (by omega) hn (fun w => lett w fun v17 => lett (nI (2 * i + 2)) fun v18 => rec (v17, v18))).trans ?_
      rw [if_pos (hok i hi), lett_e, lett_e]
      rfl
    · dsimp only
      rw [if_neg i10, if_pos (nI_le (by omega) (by omega))]
  · obtain ⟨T, hT1, hT2⟩ := pk_least (fun i => i < l / 2 ∧ ¬ okr n R i) (Classical.byContradiction fun h => hno fun i hi => Classical.byContradiction fun h2 => h ⟨i, hi, h2⟩)
    have hok : ∀ i, i < T → okr n R i := fun i hi => Classical.byContradiction fun h => hT2 i hi ⟨by omega, h⟩
    refine loopR_sq (fun i => ((if i ≤ T then 1 else 0 : Int32), nI (2 * i))) (T + 1) (by omega) (by rw [if_pos (by omega)]; rfl) (fun i hi rec => ?_) (fun rec => ?_)
    · haveI := Classical.propDecidable (okr n R i)
      dsimp only
      rw [if_pos (show i ≤ T by omega), if_neg i10, if_neg (nI_ge (by omega) (by omega)), nA_1, nA_2]
      refine (row_R hX h1 (show l ≤ 1600 by omega) hB (by omega) hn (fun w => lett w fun v17 => lett (nI (2 * i + 2)) fun v18 => rec (v17, v18))).trans ?_
      rw [lett_e, lett_e]
      by_cases e : i = T
      · rw [if_neg (by rw [e]; exact hT1.2), if_neg (by omega)]
        rfl
      · rw [if_pos (hok i (by omega)), if_pos (by omega)]
        rfl
    · dsimp only
      rw [if_neg (show ¬ T + 1 ≤ T by omega), if_pos rfl]
theorem see_sim (h : Rl n P Q C R) : ∃ a C' R', C_see C = some (a, C') ∧ R_see R = some (a, R') ∧ Rl n P Q C' R' := by
  obtain ⟨c1, c2, c3⟩ := h.cnt
  have hsh := shC_P h.PQ
  have hPl := h.1.le
  obtain ⟨l, l1, t2, t3, t4⟩ := h.2.1
  have tk : R_taken R = some (nI l, sI R 0 39 0) := by
    unfold R_taken
    rw [lett_e, lett_e, t3]
  have hX : ∀ k, gI (sI R 0 39 0) 13 k = gI R 13 k := fun k => gw_n _ _ _ _ (by omega)
  have hX1 : gI (sI R 0 39 0) 0 1 = nI n := (gw_n _ _ _ _ (by omega)).trans c2
  have rf := h.taken.ref 5
  have hr2 : nI l - nI l / 2 * 2 = nI (l % 2) := pk_rem (d := 2) (by omega) (by omega) (by omega)
  have hd2 : nI l / 2 = nI (l / 2) := pk_div (d := 2) (by omega) (by omega) (by omega)
  have noC : (bnd (C_refuse 5 (sI C 19 1 0)) fun r6 => some (r6.1, r6.2)) = some (-1, sI (sI C 19 1 0) 72 5 (gI (sI C 19 1 0) 72 5 + 1)) := by rw [C_ref_5]; rfl
  have noR : (bnd (R_refuses 5 (sI R 0 39 0)) fun r6 => some (r6.1, r6.2)) = some (-1, sI (sI R 0 39 0) 14 5 (gI (sI R 0 39 0) 14 5 + 1)) := by rw [R_ref_5]; rfl
  rcases h.hd with ⟨h8, g1, g2⟩ | ⟨h8, g1, g2⟩
  · refine ⟨-1, _, _, ?_, ?_, rf⟩
    · unfold C_see
      rw [g1, bnd_s, lett_e, lett_e, if_pos rfl]
      dsimp only
      rw [lett_e, lett_e, if_pos rfl]
      exact noC
    · unfold R_see
      rw [tk, bnd_s, lett_e, lett_e, lett_e, show gI (sI R 0 39 0) 0 0 = 0 from (gw_n _ _ _ _ (by omega)).trans g2, if_pos rfl]
      dsimp only
      rw [lett_e, lett_e, lett_e]
      refine loopR_sq (fun _ => ((0 : Int32), (0 : Int32))) 0 (by omega) rfl (fun i hi => by omega) (fun rec => ?_)
      dsimp only
      rw [if_pos rfl, if_pos rfl]
      exact noR
  · have g2' : gI (sI R 0 39 0) 0 0 = 1 := (gw_n _ _ _ _ (by omega)).trans g2
    -- refused
    have badC : C_NAreRows (nI n) C = some 0 → C_see C = some (-1, sI (sI C 19 1 0) 72 5 (gI (sI C 19 1 0) 72 5 + 1)) := fun e => by
      unfold C_see C_NReadRows
      rw [g1, bnd_s, lett_e, lett_e, if_neg i10, lett_e, h.p0, nn_s, grd_t hsh, c1, e, bnd_s, if_pos rfl, bnd_s, if_pos rfl]
      dsimp only
      rw [lett_e, lett_e, if_pos rfl]
      exact noC
    rcases rows_C t2 l1 t4 c3 with ⟨⟨q1, q2, q3, q4⟩, e⟩ | ⟨q, e⟩
    · obtain ⟨k, hk⟩ : ∃ k, k = l / 2 := ⟨_, rfl⟩
      have hk16 : k ≤ 16 := by omega
      refine ⟨nI k, sI (rdC (sI C 67 2 (nI k)) k) 19 1 0, rdR (sI (sI R 0 39 0) 0 61 (nI k)) k, ?_, ?_, ?_⟩
      · have rr : C_NReadRows (nI n) C = some (1, rdC (sI C 67 2 (nI k)) k) := by
          unfold C_NReadRows
          rw [e, bnd_s, if_neg i10, t2, hd2, ← hk, lett_e, lett_e]
          refine loopR_sq (fun i => (nI i, rdC (sI C 67 2 (nI k)) i)) k (by omega) (by rw [rdC_0]; rfl) (fun i hi rec => ?_) (fun rec => ?_)
          · have a19 : ∀ i, gI (rdC (sI C 67 2 (nI k)) i) 19 1 = nI l := fun i => by
              rw [rdC_I, if_neg (by omega), if_neg (by omega), gw_n _ _ _ _ (by omega)]
              exact t2
            have a20 : ∀ i x, gI (rdC (sI C 67 2 (nI k)) i) 20 x = gI (sI C 67 2 (nI k)) 20 x := fun i x => by
              rw [rdC_I, if_neg (by omega), if_neg (by omega)]
            have a67 : gI (rdC (sI C 67 2 (nI k)) i) 67 2 = nI k := by
              rw [rdC_I, if_neg (by omega), if_neg (by omega), gw_s]
            have b19 : ∀ v, gI (sI (rdC (sI C 67 2 (nI k)) i) 68 i v) 19 1 = nI l := fun v => (gw_n _ _ _ _ (by omega)).trans (a19 i)
            have b20 : ∀ v x, gI (sI (rdC (sI C 67 2 (nI k)) i) 68 i v) 20 x = gI (sI C 67 2 (nI k)) 20 x := fun v x => (gw_n _ _ _ _ (by omega)).trans (a20 i x)
            dsimp only
            rw [a67, if_neg (nI_ge hi (by omega)), nM_2, nA_1, C_TB_m (a19 i) (by omega) l1, bnd_s, a20, ald_n (by omega) (by omega), ix_nI (by omega), lett_e, C_TB_m (b19 _) (by omega) l1, bnd_s, b20, ald_n (by omega) (by omega), lett_e, lett_e, nA_1, rdC_s]
          · have a67 : gI (rdC (sI C 67 2 (nI k)) k) 67 2 = nI k := by
              rw [rdC_I, if_neg (by omega), if_neg (by omega), gw_s]
            dsimp only
            rw [a67, if_pos (nI_le (Nat.le_refl _) (by omega))]
        unfold C_see
        rw [g1, bnd_s, lett_e, lett_e, if_neg i10, lett_e, h.p0, nn_s, grd_t hsh, c1, rr, bnd_s, if_neg i10]
        dsimp only
        rw [lett_e, lett_e, if_neg i10, gw_n _ _ _ _ (by omega), rdC_I, if_neg (by omega), if_neg (by omega), gw_s]
      · unfold R_see
        rw [tk, bnd_s, lett_e, lett_e, lett_e, g2', if_neg i10]
        dsimp only
        rw [if_neg (nI_nle (by omega) (by omega)), hr2, q3, if_pos (by decide), if_neg (lt_f 32 32 rfl (by omega) (by omega))]
        rw [lett_e, lett_e, lett_e]
        refine ((rows_R hX hX1 q2 q3 (fun i hi => (t4 i hi).1) c3 (seeJ (sI R 0 39 0) (nI l))).2.1 q4).trans ?_
        unfold seeJ
        rw [if_neg i10, hd2, ← hk, lett_e, lett_e]
        refine loopR_sq (fun i => (nI i, rdR (sI (sI R 0 39 0) 0 61 (nI k)) i)) k (by omega) (by rw [rdR_0]; rfl) (fun i hi rec => ?_) (fun rec => ?_)
        · have a13 : ∀ i x, gI (rdR (sI (sI R 0 39 0) 0 61 (nI k)) i) 13 x = gI (sI (sI R 0 39 0) 0 61 (nI k)) 13 x := fun i x => by
            rw [rdR_I, if_neg (by omega), if_neg (by omega)]
          have a61 : gI (rdR (sI (sI R 0 39 0) 0 61 (nI k)) i) 0 61 = nI k := by
            rw [rdR_I, if_neg (by omega), if_neg (by omega), gw_s]
          have b13 : ∀ v x, gI (sI (rdR (sI (sI R 0 39 0) 0 61 (nI k)) i) 22 i v) 13 x = gI (sI (sI R 0 39 0) 0 61 (nI k)) 13 x := fun v x => (gw_n _ _ _ _ (by omega)).trans (a13 i x)
          dsimp only
          rw [a61, if_neg (nI_ge hi (by omega)), nM_2, nA_1, ald_n (by omega) (by omega), ald_n (by omega) (by omega), ix_nI (by omega), ix_nI (by omega), a13, lett_e, ald_n (by omega) (by omega), ald_n (by omega) (by omega), ix_nI (by omega), b13, lett_e, lett_e, nA_1, rdR_s]
        · have a61 : gI (rdR (sI (sI R 0 39 0) 0 61 (nI k)) k) 0 61 = nI k := by
            rw [rdR_I, if_neg (by omega), if_neg (by omega), gw_s]
          dsimp only
          rw [a61, if_pos (nI_le (Nat.le_refl _) (by omega))]
      · have cI : ∀ a x, a ≠ 68 → a ≠ 69 → ¬ (a = 67 ∧ x = 2) → ¬ (a = 19 ∧ x = 1) → gI (sI (rdC (sI C 67 2 (nI k)) k) 19 1 0) a x = gI C a x := fun a x h1 h2 h3 h4 => by
          rw [gw_n _ _ _ _ (by omega), rdC_I, if_neg (by omega), if_neg (by omega), gw_n _ _ _ _ (by omega)]
        have rI : ∀ a x, a ≠ 22 → a ≠ 23 → ¬ (a = 0 ∧ (x = 61 ∨ x = 39)) → gI (rdR (sI (sI R 0 39 0) 0 61 (nI k)) k) a x = gI R a x := fun a x h1 h2 h3 => by
          rw [rdR_I, if_neg (by omega), if_neg (by omega), gw_n _ _ _ _ (by omega), gw_n _ _ _ _ (by omega)]
        have r39 : gI (rdR (sI (sI R 0 39 0) 0 61 (nI k)) k) 0 39 = 0 := by
          rw [rdR_I, if_neg (by omega), if_neg (by omega), gw_n _ _ _ _ (by omega), gw_s]
        have r61 : gI (rdR (sI (sI R 0 39 0) 0 61 (nI k)) k) 0 61 = nI k := by
          rw [rdR_I, if_neg (by omega), if_neg (by omega), gw_s]
        obtain ⟨h1, h2, h3, h4, h5, h6, h7, -, h9⟩ := h
        refine ⟨h1.fr (fun a k h => rfl), ⟨0, by omega, gw_s _ _ _ _, r39, fun i hi => by omega⟩, h3.fr (fun a k h => cI a k (by omega) (by omega) (by omega) (by omega)) (fun a k h => rI a k (by omega) (by omega) (by omega)), h4.fr (fun a k h => cI a k (by omega) (by omega) (by omega) (by omega)) (fun a k h => rI a k (by omega) (by omega) (by omega)), h5.fr rfl (rI _ _ (by omega) (by omega) (by omega)), h6.fr (fun a k h => cI a k (by omega) (by omega) (by omega) (by omega)) (fun a k h => rI a k (by omega) (by omega) (by omega)), ⟨k, hk16, ?_, r61, fun i hi => ?_⟩, Or.inr (h8.fr (fun a k h => cI a k (by omega) (by omega) (by omega) (by omega)) (fun a k h => rfl) rfl (fun a k h => rI a k (by omega) (by omega) (by omega)) (fun k h => rfl)), h9.fr (fun a k h => cI a k (by omega) (by omega) (by omega) (by omega)) (fun a k h => rfl) (fun a h => rfl) (fun a k h => rI a k (by omega) (by omega) (by omega)) (fun k => rfl)⟩
        · rw [gw_n _ _ _ _ (by omega), rdC_I, if_neg (by omega), if_neg (by omega), gw_s]
        · have x1 : gI (sI (rdC (sI C 67 2 (nI k)) k) 19 1 0) 68 i = gI R 13 (2 * i) := by
            rw [gw_n _ _ _ _ (by omega), rdC_I, if_pos ⟨rfl, hi⟩, gw_n _ _ _ _ (by omega)]
            exact (t4 _ (by omega)).2
          have x2 : gI (sI (rdC (sI C 67 2 (nI k)) k) 19 1 0) 69 i = gI R 13 (2 * i + 1) := by
            rw [gw_n _ _ _ _ (by omega), rdC_I, if_neg (by omega), if_pos ⟨rfl, hi⟩, gw_n _ _ _ _ (by omega)]
            exact (t4 _ (by omega)).2
          have y1 : gI (rdR (sI (sI R 0 39 0) 0 61 (nI k)) k) 22 i = gI R 13 (2 * i) := by
            rw [rdR_I, if_pos ⟨rfl, hi⟩, gw_n _ _ _ _ (by omega), gw_n _ _ _ _ (by omega)]
          have y2 : gI (rdR (sI (sI R 0 39 0) 0 61 (nI k)) k) 23 i = gI R 13 (2 * i + 1) := by
            rw [rdR_I, if_neg (by omega), if_pos ⟨rfl, hi⟩, gw_n _ _ _ _ (by omega), gw_n _ _ _ _ (by omega)]
          rw [x1, x2, y1, y2]
          obtain ⟨o1, o2⟩ := q4 i (by omega)
          exact ⟨rfl, rfl, o1, o2⟩
    · refine ⟨-1, _, _, badC e, ?_, rf⟩
      have lp : ∀ {A : Option (Int32 × Mm)} (bdy : ((Int32 × Int32) → Option (Int32 × Mm)) → (Int32 × Int32) → Option (Int32 × Mm)), (∀ rec, bdy rec (0, 0) = A) → loopR bdy 1000000 ((0 : Int32), (0 : Int32)) = A := fun bdy hb => loopR_sq (fun _ => ((0 : Int32), (0 : Int32))) 0 (by omega) rfl (fun i hi => by omega) hb
      unfold R_see
      rw [tk, bnd_s, lett_e, lett_e, lett_e, g2', if_neg i10]
      dsimp only
      by_cases e0 : l = 0
      · rw [e0, if_pos (by decide)]
        rw [lett_e, lett_e, lett_e]
        refine lp _ (fun rec => ?_)
        dsimp only
        rw [if_pos rfl, if_pos rfl]
        exact noR
      · rw [if_neg (nI_nle (by omega) (by omega)), hr2]
        by_cases e3 : l % 2 = 0
        · rw [e3, if_pos (by decide)]
          by_cases e2 : 32 < l
          · rw [if_pos (lt_t 32 32 rfl e2 (by omega)), lett_e, lett_e, lett_e]
            refine lp _ (fun rec => ?_)
            dsimp only
            rw [if_pos rfl, if_pos rfl]
            exact noR
          · rw [if_neg (lt_f 32 32 rfl (by omega) (by omega)), lett_e, lett_e, lett_e]
            refine ((rows_R hX hX1 (by omega) e3 (fun i hi => (t4 i hi).1) c3 (seeJ (sI R 0 39 0) (nI l))).2.2 (fun h => q ⟨by omega, by omega, e3, h⟩)).trans ?_
            unfold seeJ
            rw [if_pos rfl]
            exact noR
        · rw [if_neg (nI_ne0 (by omega) (by omega)), lett_e, lett_e, lett_e]
          refine lp _ (fun rec => ?_)
          dsimp only
          rw [if_pos rfl, if_pos rfl]
          exact noR
end SEE
