/-! PURE: fits -/
theorem mmax_n {a b : Nat} (ha : a < 2 ^ 31) (hb : b < 2 ^ 31) : mmaxI (nI a) (nI b) = nI (max a b) := by
  rw [gr_mm', max_nI ha hb, Nat.max_comm]
theorem mkR_s {m : Mm} {B : Nat} {D : Nat → Int32} {F : Nat → UInt32} {a x : Nat} {v : Int32} (h1 : a ≠ 16) (h2 : a ≠ 0) : sI (mkR m B D F) a x v = mkR (sI m a x v) B D F := by
  refine Prod.ext (funext fun y => funext fun k => ?_) rfl
  show (if y = a ∧ k = x then v else if y = 16 ∧ B ≤ k ∧ k < B + 758 then D (k - B) else if y = 0 ∧ k = 53 then nI B else if y = 0 ∧ k = 54 then nI (pB B) else m.1 y k) = if y = 16 ∧ B ≤ k ∧ k < B + 758 then D (k - B) else if y = 0 ∧ k = 53 then nI B else if y = 0 ∧ k = 54 then nI (pB B) else if y = a ∧ k = x then v else m.1 y k
  by_cases e : y = a ∧ k = x
  · rw [if_pos e, if_neg (by omega), if_neg (by omega), if_neg (by omega), if_pos e]
  · rw [if_neg e, if_neg e]
section FITS
variable {n s t c w P Q : Nat} {C C' R R' : Mm} {f : Nat → Sta × Mm}
theorem allows_m {M : Mm} {k : Nat} {τ : Nat → Nat} {q : Nat → Int32} (hk : gI M 67 2 = nI k) (k16 : k ≤ 16) (h68 : ∀ i, i < k → gI M 68 i = nI (τ i) ∧ τ i < 61) (h69 : ∀ i, i < k → gI M 69 i = q i) {x : Nat} (hx : x < 61) (v : Int32) : ((∀ i, i < k → τ i = x → q i = v) ∧ C_NAllows (nI x) v M = some 1) ∨ (¬ (∀ i, i < k → τ i = x → q i = v) ∧ C_NAllows (nI x) v M = some 0) := by
  obtain ⟨T, hT1, hT2⟩ := pk_least (fun i => i = k ∨ (τ i = x ∧ q i ≠ v)) ⟨k, Or.inl rfl⟩
  have hT : T ≤ k := by
    rcases Nat.lt_or_ge k T with h | h
    · exact absurd (Or.inl rfl) (hT2 _ h)
    · exact h
  have hok : ∀ i, i < T → τ i = x → q i = v := fun i hi e => Classical.byContradiction fun h => hT2 i hi (Or.inr ⟨e, h⟩)
  have step : ∀ r, (∀ rec : Int32 → Option Int32, (if nI k ≤ nI T then
 (some (1 : Int32))
 else
 (ald (nI T) 16 (lett (fun (_ : Unit) =>
 lett (nI T + (1 : Int32)) fun v3 =>
 rec v3) fun j32 =>
 if (gI M 68 (ix (nI T))) = nI x then
 (ald (nI T) 16 (if (gI M 69 (ix (nI T))) = v then
 (j32 ())
 else
 (some (0 : Int32))))
 else
 (j32 ())))) = r) → C_NAllows (nI x) v M = r := fun r hr => by
    unfold C_NAllows
    rw [lett_e]
    refine loopR_sq (fun i => nI i) T (by omega) rfl (fun i hi rec => ?_) (fun rec => by rw [hk]; exact hr rec)
    obtain ⟨a1, a2⟩ := h68 i (by omega)
    rw [hk, if_neg (nI_ge (by omega) (by omega)), ald_n (by omega) (by omega), lett_e, lett_e, nA_1, ix_nI (by omega), a1, h69 i (by omega), ald_n (by omega) (by omega)]
    by_cases e : τ i = x
    · rw [if_pos (congrArg nI e), if_pos (hok i hi e)]
    · rw [if_neg (fun h => e ((nI_eq (by omega) (by omega)).mp h))]
  by_cases e4 : T = k
  · refine Or.inl ⟨fun i hi => hok i (by omega), step _ (fun rec => ?_)⟩
    rw [if_pos (nI_le (by omega) (by omega))]
  · have e5 : τ T = x ∧ q T ≠ v := by
      rcases hT1 with h | h
      · exact absurd h e4
      · exact h
    refine Or.inr ⟨fun h => e5.2 (h T (by omega) e5.1), step _ (fun rec => ?_)⟩
    obtain ⟨a1, a2⟩ := h68 T (by omega)
    rw [if_neg (nI_ge (by omega) (by omega)), ald_n (by omega) (by omega), lett_e, ix_nI (by omega), a1, h69 T (by omega), ald_n (by omega) (by omega), if_pos (congrArg nI e5.1), if_neg e5.2]
theorem last_m {M : Mm} {k : Nat} {τ : Nat → Nat} (hk : gI M 67 2 = nI k) (k16 : k ≤ 16) (h68 : ∀ i, i < k → gI M 68 i = nI (τ i) ∧ τ i < 61) : ∃ L, L ≤ 60 ∧ (∀ i, i < k → τ i ≤ L) ∧ C_NLastTick M = some (nI L) := by
  have key : ∀ i, i ≤ k → itr (fun j x => max x (τ j)) 0 i ≤ 60 ∧ ∀ j, j < i → τ j ≤ itr (fun j x => max x (τ j)) 0 i := by
    intro i
    induction i with
    | zero => exact fun _ => ⟨Nat.zero_le _, fun j hj => by omega⟩
    | succ i ih =>
      intro hi
      obtain ⟨i1, i2⟩ := ih (by omega)
      have a2 := (h68 i (by omega)).2
      refine ⟨?_, fun j hj => ?_⟩
      · show max (itr (fun j x => max x (τ j)) 0 i) (τ i) ≤ 60
        omega
      · show τ j ≤ max (itr (fun j x => max x (τ j)) 0 i) (τ i)
        by_cases e : j = i
        · rw [e]; omega
        · have := i2 j (by omega)
          omega
  obtain ⟨k1, k2⟩ := key k (Nat.le_refl _)
  refine ⟨_, k1, k2, ?_⟩
  unfold C_NLastTick
  rw [lett_e, lett_e]
  refine loopR_sq (fun i => (nI (itr (fun j x => max x (τ j)) 0 i), nI i)) k (by omega) rfl (fun i hi rec => ?_) (fun rec => ?_)
  · obtain ⟨a1, a2⟩ := h68 i hi
    have := (key i (by omega)).1
    dsimp only
    rw [hk, if_neg (nI_ge hi (by omega)), ald_n (by omega) (by omega), ix_nI (by omega), a1, mmax_n (by omega) (by omega), lett_e, lett_e, nA_1]
    rfl
  · dsimp only
    rw [hk, if_pos (nI_le (Nat.le_refl _) (by omega))]
/-- one idling, in the class -/
theorem fit_C (hb : KB n s t P w C R f) (hS : StR R n s t c (gI R 16) (gF R 17) C 26 P) (hP : P = 1 ∨ P = 10) (ht : t ≤ 9999) (hw : w ≤ 20) (hc : CSm C C') {k : Nat} {τ : Nat → Nat} {q : Nat → Int32} (hk : gI C 67 2 = nI k) (k16 : k ≤ 16) (h68 : ∀ i, i < k → gI C 68 i = nI (τ i) ∧ 1 ≤ τ i ∧ τ i < 61) (h69 : ∀ i, i < k → gI C 69 i = q i) {L : Nat} (L60 : L ≤ 60) (Lτ : ∀ i, i < k → τ i ≤ L) : ∃ u C'', (u = 0 ∨ u = 1) ∧ (u = 1 ↔ ∀ i, i < k → kd ((f (τ i)).1.D 2) = q i) ∧ CSm C C'' ∧ ∀ {ρ : Type} (j : Int32 → Mm → Option ρ), (bnd (C_startAhead C') fun r6 =>
 grd (r6.1 = 46) (lett (sI r6.2 46 16 (nI w)) fun M7 =>
 lett (1 : Int32) fun v8 =>
 lett (1 : Int32) fun v9 =>
 lett j fun j78 =>
 loopR (fun (rec36 : (Int32 × Int32 × Mm) → Option ρ) (x15 : Int32 × Int32 × Mm) =>
 if nI L < x15.2.1 then
 (j78 x15.1 x15.2.2)
 else
 (if x15.1 = 0 then
 (j78 x15.1 x15.2.2)
 else
 (plnS x15.2.2 46 fun q17 =>
 bnd (S_run (1 : Int32) (sbM (emS 46 q17) x15.2.2)) fun x16 =>
 lett (inM (dmS 46 q17) kpS x15.2.2 x16) fun M19 =>
 bnd (C_kindOf (gI M19 46 11) M19) fun r20 =>
 bnd (C_NAllows x15.2.1 r20 M19) fun r21 =>
 lett r21 fun v22 =>
 lett (x15.2.1 + (1 : Int32)) fun v23 =>
 rec36 (v22, v23, M19)))) 1000000 (v8, v9, M7))) = j u C'' := by
  obtain ⟨C1, σ, a1, a2, a3, a4⟩ := hb.c0 hS hP hw hc
  have hn := a2.n6
  obtain ⟨g, g0, gI', gS⟩ := seqN (α := Int32 × Mm) (fun i x => (∃ σ, Ah n s t 0 i P x.2 σ ∧ mkR σ.m 758 σ.D σ.F = mkR (f i).1.m 758 (f i).1.D (f i).1.F) ∧ CSm C x.2 ∧ (x.1 = 0 ∨ x.1 = 1) ∧ (i = 0 → x.1 = 1) ∧ (1 ≤ i → (x.1 = 1 ↔ ∀ j, j < k → τ j = i → q j = kd ((f i).1.D 2)))) (fun i x y => ∃ z v, gR x.2 46 0 = some P ∧ S_run 1 (sbM (emS 46 P) x.2) = some z ∧ y.2 = inM (dmS 46 P) kpS x.2 z ∧ C_kindOf (gI y.2 46 11) y.2 = some v ∧ C_NAllows (nI (i + 1)) v y.2 = some y.1) (a := ((1 : Int32), sI C1 46 16 (nI w))) ⟨⟨σ, a2, a3⟩, a4, Or.inr rfl, fun _ => rfl, fun e => absurd e (by omega)⟩ L (fun i x hi hI => by
    obtain ⟨⟨σ', b1, b2⟩, b3, -, -, -⟩ := hI
    obtain ⟨z, σ'', d1, d2, d3, d4, d5⟩ := hb.cs hP ht b1 b2 (by omega)
    have e1 := b3.tr d4
    have kk := kindOf_m hn (hb.act (show i + 1 ≤ 60 by omega)) (inM (dmS 46 P) kpS x.2 z)
    have m67 : gI (inM (dmS 46 P) kpS x.2 z) 67 2 = nI k := (e1.1 _ _ (by omega)).trans hk
    have m68 : ∀ i, i < k → gI (inM (dmS 46 P) kpS x.2 z) 68 i = nI (τ i) ∧ τ i < 61 := fun i hi => ⟨(e1.1 _ _ (by omega)).trans (h68 i hi).1, (h68 i hi).2.2⟩
    have m69 : ∀ i, i < k → gI (inM (dmS 46 P) kpS x.2 z) 69 i = q i := fun i hi => (e1.1 _ _ (by omega)).trans (h69 i hi)
    have kk' : C_kindOf (gI (inM (dmS 46 P) kpS x.2 z) 46 11) (inM (dmS 46 P) kpS x.2 z) = some (kd ((f (i + 1)).1.D 2)) := by rw [d5]; exact kk.1
    rcases allows_m m67 k16 m68 m69 (x := i + 1) (by omega) (kd ((f (i + 1)).1.D 2)) with ⟨u1, u2⟩ | ⟨u1, u2⟩
    · exact ⟨(1, inM (dmS 46 P) kpS x.2 z), ⟨z, _, b1.2.2.2.2, d1, rfl, kk', u2⟩, ⟨σ'', d2, d3⟩, e1, Or.inr rfl, fun e => absurd e (by omega), fun _ => ⟨fun _ => u1, fun _ => rfl⟩⟩
    · exact ⟨(0, inM (dmS 46 P) kpS x.2 z), ⟨z, _, b1.2.2.2.2, d1, rfl, kk', u2⟩, ⟨σ'', d2, d3⟩, e1, Or.inl rfl, fun e => absurd e (by omega), fun _ => ⟨fun h => absurd h (show ¬ (0 : Int32) = 1 by decide), fun h => absurd h u1⟩⟩)
  obtain ⟨T, hT1, hT2⟩ := pk_least (fun i => i = L ∨ (g i).1 = 0) ⟨L, Or.inl rfl⟩
  have hT : T ≤ L := by
    rcases Nat.lt_or_ge L T with h | h
    · exact absurd (Or.inl rfl) (hT2 _ h)
    · exact h
  obtain ⟨A1, A2, A3, A4, A5⟩ := gI' T hT
  refine ⟨(g T).1, (g T).2, A3, ⟨fun h i hi => ?_, fun h => ?_⟩, A2, fun j => ?_⟩
  · have eT : T = L := by
      rcases hT1 with h1 | h1
      · exact h1
      · rw [h1] at h; exact absurd h (by decide)
    obtain ⟨p1, p2, p3⟩ := h68 i hi
    have p4 := Lτ i hi
    have fl : (g (τ i)).1 = 1 := by
      by_cases e : τ i = T
      · rw [e]; exact h
      · have h2 := hT2 (τ i) (by omega)
        rcases (gI' (τ i) p4).2.2.1 with h3 | h3
        · exact absurd (Or.inr h3) h2
        · exact h3
    exact (((gI' (τ i) p4).2.2.2.2 p2).mp fl i hi rfl).symm
  · by_cases e : T = 0
    · exact A4 e
    · exact (A5 (by omega)).mpr (fun j hj e => by rw [← e]; exact (h j hj).symm)
  · rw [a1, bnd_s, grd_t rfl, lett_e, lett_e, lett_e, lett_e]
    refine loopR_sq (fun i => ((g i).1, nI (i + 1), (g i).2)) T (by omega) (by rw [g0]; rfl) (fun i hi rec => ?_) (fun rec => ?_)
    · obtain ⟨z, v, s1, s2, s3, s4, s5⟩ := gS i (by omega)
      have h2 := hT2 i hi
      dsimp only
      rw [if_neg (nI_nlt (by omega) (by omega)), if_neg (fun h => h2 (Or.inr h)), plnS_e _ s1 hP, s2, bnd_s, lett_e, ← s3, s4, bnd_s, s5, bnd_s, lett_e, lett_e, nA_1]
    · dsimp only
      by_cases e : T = L
      · rw [if_pos ((nI_ltI (by omega) (by omega)).mpr (by omega))]
      · have h1 : (g T).1 = 0 := by
          rcases hT1 with h1 | h1
          · exact absurd h1 e
          · exact h1
        rw [if_neg (nI_nlt (by omega) (by omega)), if_pos h1]
/-- what stays in the reference -/
def Fq (R : Mm) (σ : Sta) : Prop := (∀ a i, a ≠ 20 → a ≠ 21 → a ≠ 24 → a ≠ 25 → a ≠ 0 ∨ i < 56 ∨ 58 < i → gI σ.m a i = gI R a i) ∧ σ.m.2 = R.2
theorem Fq.stp {k : Nat} {σ σ' : Sta} (h : Fq R σ) (w : AW n k σ σ') : Fq R σ' := ⟨fun a i h1 h2 h3 h4 h5 => (w.2.2.2.2.1 a i h1 h2 h5).trans (h.1 a i h1 h2 h3 h4 h5), w.2.2.2.2.2.trans h.2⟩
theorem Fq.sm {σ : Sta} (h : Fq R σ) (D : Nat → Int32) (F : Nat → UInt32) : RSm R (mkR σ.m 758 D F) := by
  refine ⟨fun a k h1 h2 h3 h4 h5 h6 => ?_, fun a k h1 => ?_⟩
  · rw [← h.1 a k h3 h4 h5 h6 (by omega)]
    show (if a = 16 ∧ 758 ≤ k ∧ k < 758 + 758 then D (k - 758) else if a = 0 ∧ k = 53 then nI 758 else if a = 0 ∧ k = 54 then nI (pB 758) else σ.m.1 a k) = σ.m.1 a k
    rw [if_neg (by omega), if_neg (by omega), if_neg (by omega)]
  · show (if a = 17 ∧ pB 758 ≤ k ∧ k < pB 758 + 20 then F (k - pB 758) else σ.m.2.1 a k) = R.2.1 a k
    rw [h.2, show pB 758 = 20 from rfl, if_neg (by omega)]
def pfI (A B : Nat → Int32) (i : Nat) : Int32 := itr (fun j x => if A j = B j then x else 0) 1 i
theorem pfI_s (A B : Nat → Int32) (i : Nat) : pfI A B (i + 1) = if A i = B i then pfI A B i else 0 := rfl
theorem pfI_p (A B : Nat → Int32) (i : Nat) : (pfI A B i = 0 ∨ pfI A B i = 1) ∧ (pfI A B i = 1 ↔ ∀ j, j < i → A j = B j) := by
  induction i with
  | zero => exact ⟨Or.inr rfl, fun _ j hj => by omega, fun _ => rfl⟩
  | succ i ih =>
    rw [pfI_s]
    by_cases e : A i = B i
    · rw [if_pos e]
      refine ⟨ih.1, fun h j hj => ?_, fun h => ih.2.mpr (fun j hj => h j (by omega))⟩
      by_cases ej : j = i
      · rw [ej]; exact e
      · exact ih.2.mp h j (by omega)
    · rw [if_neg e]
      exact ⟨Or.inl rfl, fun h => absurd h (by decide), fun h => absurd (h i (by omega)) e⟩
/-- one idling, in the reference: its ticks -/
theorem tick_R (hb : KB n s t P w C R f) (hS : StR R n s t c (gI R 16) (gF R 17) C 26 P) (hP : P = 1 ∨ P = 10) (ht : t ≤ 9999) (hw : w ≤ 20) (hr : RSm R R') : ∃ X M4 M5, R_tries R' = some M4 ∧ R_puts 6 (nI w) M4 = some M5 ∧ RSm R X ∧ (∀ t', 1 ≤ t' → t' ≤ 60 → gI X 24 (61 * w + t') = kd ((f t').1.D 2)) ∧ (∀ x, (x < 61 * w + 1 ∨ 61 * w + 60 < x) → gI X 24 x = gI R' 24 x) ∧ (∀ x, gI X 25 x = gI R' 25 x) ∧ ∀ {ρ : Type} (j : Mm → Option ρ), loopR (fun (rec23 : (Int32 × Mm) → Option ρ) (x17 : Int32 × Mm) =>
 if (60 : Int32) < x17.1 then
 (j x17.2)
 else
 (bnd (R_goesOn x17.2) fun M18 =>
 bnd (R_its (2 : Int32) M18) fun r19 =>
 lett (fun (w_19 : Int32) =>
 ald (((61 : Int32) * nI w) + x17.1) 1281 (lett (sI M18 24 (ix (((61 : Int32) * nI w) + x17.1)) w_19) fun M21 =>
 lett (x17.1 + (1 : Int32)) fun v22 =>
 rec23 (v22, M21))) fun j62 =>
 if r19 = (-1 : Int32) then
 (j62 (6 : Int32))
 else
 (bnd (R_its (2 : Int32) M18) fun r23 =>
 j62 r23))) 1000000 ((1 : Int32), M5) = j X := by
  obtain ⟨σ, M4, b1, b2, b3, b4⟩ := hb.r0 hS hP hw hr
  obtain ⟨g, g0, gI', gS⟩ := seqN (α := Sta) (fun i σ => Ah n s t 0 i P (f i).2 σ ∧ Fq R' σ ∧ (∀ t', 1 ≤ t' → t' ≤ i → gI σ.m 24 (61 * w + t') = kd ((f t').1.D 2)) ∧ (∀ x, (x < 61 * w + 1 ∨ 61 * w + i < x) → gI σ.m 24 x = gI R' 24 x) ∧ ∀ x, gI σ.m 25 x = gI R' 25 x) (fun i σ τ => ∃ σ' : Sta, R_goesOn (mkR σ.m 758 σ.D σ.F) = some (mkR σ'.m 758 σ'.D σ'.F) ∧ mkR τ.m 758 τ.D τ.F = sI (mkR σ'.m 758 σ'.D σ'.F) 24 (61 * w + (i + 1)) (kd (σ'.D 2))) (a := σ) ⟨b3, ⟨fun a i h1 h2 h3 h4 h5 => b4.1 a i h1 h2 h5, b4.2⟩, fun t' h1 h2 => by omega, fun x hx => b4.1 _ _ (by omega) (by omega) (by omega), fun x => b4.1 _ _ (by omega) (by omega) (by omega)⟩ 60 (fun i x hi hI => by
    obtain ⟨i1, i2, i3, i4, i5⟩ := hI
    obtain ⟨σ', d1, d2, d3, d4⟩ := hb.rs hP ht i1 hi
    have e24 : ∀ x', gI σ'.m 24 x' = gI x.m 24 x' := fun x' => d4.2.2.2.2.1 _ _ (by omega) (by omega) (by omega)
    have e25 : ∀ x', gI σ'.m 25 x' = gI x.m 25 x' := fun x' => d4.2.2.2.2.1 _ _ (by omega) (by omega) (by omega)
    have i2' := i2.stp d4
    refine ⟨_, ⟨σ', d1, ?_⟩, d2.mo (m := sI σ'.m 24 (61 * w + (i + 1)) (kd (σ'.D 2))) (fun a i h1 h2 => gw_n _ _ _ _ (by omega)), ⟨fun a i h1 h2 h3 h4 h5 => ?_, i2'.2⟩, fun t' h1 h2 => ?_, fun x' hx => ?_, fun x' => ?_⟩
    · exact (mkR_s (by omega) (by omega)).symm
    · exact (gw_n _ _ _ _ (by omega)).trans (i2'.1 a i h1 h2 h3 h4 h5)
    · show gI (sI σ'.m 24 (61 * w + (i + 1)) (kd (σ'.D 2))) 24 (61 * w + t') = _
      by_cases e : t' = i + 1
      · subst e
        rw [gw_s, d3]
      · rw [gw_n _ _ _ _ (by omega), e24]
        exact i3 t' h1 (by omega)
    · show gI (sI σ'.m 24 (61 * w + (i + 1)) (kd (σ'.D 2))) 24 x' = _
      rw [gw_n _ _ _ _ (by omega), e24]
      exact i4 x' (by omega)
    · show gI (sI σ'.m 24 (61 * w + (i + 1)) (kd (σ'.D 2))) 25 x' = _
      rw [gw_n _ _ _ _ (by omega), e25]
      exact i5 x')
  obtain ⟨A1, A2, A3, A4, A5⟩ := gI' 60 (Nat.le_refl _)
  refine ⟨mkR (g 60).m 758 (g 60).D (g 60).F, M4, _, b1, b2, hr.tr (A2.sm _ _), fun t' h1 h2 => ?_, fun x hx => ?_, fun x => ?_, fun j => ?_⟩
  · rw [mkR_o _ _ _ _ (by omega) (by omega)]; exact A3 t' h1 h2
  · rw [mkR_o _ _ _ _ (by omega) (by omega)]; exact A4 x hx
  · rw [mkR_o _ _ _ _ (by omega) (by omega)]; exact A5 x
  · refine loopR_sq (fun i => (nI (i + 1), mkR (g i).m 758 (g i).D (g i).F)) 60 (by omega) (by rw [g0]; rfl) (fun i hi rec => ?_) (fun rec => ?_)
    · obtain ⟨σ', s1, s2⟩ := gS i hi
      have r2 : R_its 2 (mkR σ'.m 758 σ'.D σ'.F) = some (σ'.D 2) := R_its_k2 (Or.inr rfl)
      dsimp only
      rw [if_neg (lt_f 60 60 rfl (by omega) (by omega)), s1, bnd_s, r2, bnd_s, lett_e, bnd_s, show (61 : Int32) = nI 61 from rfl, pk_mul, nI_add, s2]
      unfold kd
      by_cases e : σ'.D 2 = -1
      · rw [if_pos e, if_pos e]
        dsimp only
        rw [ald_n (by omega) (by omega), ix_nI (by omega), lett_e, lett_e, nA_1]
      · rw [if_neg e, if_neg e]
        dsimp only
        rw [ald_n (by omega) (by omega), ix_nI (by omega), lett_e, lett_e, nA_1]
    · dsimp only
      rw [if_pos (by decide)]
end FITS
