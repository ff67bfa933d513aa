/-! PURE: the class's memory and the reference's, all together -/
theorem sb_I (em : Nat → Nat) (M : Mm) (r k : Nat) : gI (sbM em M) r k = gI M (em r) k := rfl
theorem sb_F (em : Nat → Nat) (M : Mm) (r k : Nat) : gF (sbM em M) r k = gF M (em r) k := rfl
theorem em_lo {B P r : Nat} (h : r < 20) : emS B P r = B + r := if_pos h
theorem em_hi {B P r : Nat} (h : 20 ≤ r) : emS B P r = P + (r - 20) := if_neg (by omega)
theorem mkS_self {n : Nat} {E : Mm} {D : Nat → Int32} {F : Nat → UInt32} (h1 : ∀ a k j, locI n a k = some j → gI E a k = D j) (h2 : ∀ a k j, locF n a k = some j → gF E a k = F j) : mkS n E D F = E := by
  refine Prod.ext (funext fun a => funext fun k => ?_) (Prod.ext (funext fun a => funext fun k => ?_) rfl)
  · show selO (locI n a k) D (E.1 a k) = E.1 a k
    cases h : locI n a k with
    | none => rfl
    | some j => exact (h1 a k j h).symm
  · show selO (locF n a k) F (E.2.1 a k) = E.2.1 a k
    cases h : locF n a k with
    | none => rfl
    | some j => exact (h2 a k j h).symm
section TRS
variable {m0 m1 : Mm} {n s t u c : Nat} {D D' : Nat → Int32} {F F' : Nat → UInt32} {E E' : Mm}
theorem Inv.cgD (I : Inv m0 n s t u c D F) (hn : n ≤ 6) (hD : ∀ j, j < 758 → D' j = D j) (hF : ∀ j, j < 20 → F' j = F j) : Inv m0 n s t u c D' F' := by
  have hc := I.c1
  refine ⟨I.g.cg (fun j hj => hD j (by omega)), I.p.cg (fun p hp => ?_), I.q.cg (fun p hp => ?_), I.r.cg (fun j h1 h2 => hD j (by omega)), I.b.cg (fun j hj => hD j (by omega)), I.a.cg (fun j hj => hD j (by omega)) (fun p hp => hD _ (by omega)), I.o.cg (hD 5 (by omega)) (fun p hp => ⟨hD _ (by omega), hD _ (by omega)⟩), ?_⟩
  · simp (disch := omega) only [hD, and_self]
  · simp (disch := omega) only [hD, and_self]
  · obtain ⟨f1, f2, f3, f4⟩ := I.f
    exact ⟨fun j hj => by rw [hF j (by omega)]; exact f1 j hj, fun j hj => by rw [hF _ (by omega)]; exact f2 j hj, by rw [hF 18 (by omega)]; exact f3, by rw [hF 19 (by omega)]; exact f4⟩
theorem XR.cgD (h : XR n c E D) (hn : n ≤ 6) (hc : c ≤ 54) (hD : ∀ j, j < 758 → D' j = D j) : XR n c E D' := by
  obtain ⟨hW, hY, hB, hS⟩ := h
  refine ⟨fun i hi => ?_, fun i hi => ?_, fun h5 => ?_, fun i hi he => ?_⟩
  · obtain ⟨⟨w1, w2, w3, w4, w5⟩, w6⟩ := hW i hi
    unfold xRow
    dsimp only at w1 w2 w3 w4 w5 ⊢
    simp (disch := omega) only [hD]
    exact ⟨⟨w1, w2, w3, w4, w5⟩, w6⟩
  · rw [aLy_cg (D := D) (fun r hr => hD _ (by omega))]; exact hY i hi
  · rw [hD _ (by omega)] at h5
    obtain ⟨w1, w2, w3, w4, w5⟩ := hB h5
    unfold xRow
    dsimp only at w1 w2 w3 w4 w5 ⊢
    simp (disch := omega) only [hD]
    exact ⟨w1, w2, w3, w4, w5⟩
  · rw [hD _ (by omega)] at he ⊢
    exact hS i hi he
theorem XR.cgE (h : XR n c E D) (hn : n ≤ 6) (hE : ∀ r k, (r = 4 ∨ r = 5 ∨ (r = 0 ∧ k = 13) ∨ (∃ q, q < n ∧ r = 9 + 2 * q ∧ k = 8)) → gI E' r k = gI E r k) : XR n c E' D := by
  obtain ⟨hW, hY, hB, hS⟩ := h
  refine ⟨fun i hi => ?_, fun i hi => ?_, fun h5 => ?_, fun i hi he => ?_⟩
  · obtain ⟨⟨w1, w2, w3, w4, w5⟩, w6⟩ := hW i hi
    unfold xRow
    rw [hE _ _ (Or.inl rfl), hE _ _ (Or.inl rfl), hE _ _ (Or.inl rfl), hE _ _ (Or.inl rfl), hE _ _ (Or.inl rfl), hE _ _ (Or.inl rfl)]
    exact ⟨⟨w1, w2, w3, w4, w5⟩, w6⟩
  · rw [hE _ _ (Or.inr (Or.inr (Or.inr ⟨i, hi, rfl, rfl⟩)))]; exact hY i hi
  · obtain ⟨w1, w2, w3, w4, w5⟩ := hB h5
    unfold xRow
    rw [hE _ _ (Or.inr (Or.inl rfl)), hE _ _ (Or.inr (Or.inl rfl)), hE _ _ (Or.inr (Or.inl rfl)), hE _ _ (Or.inr (Or.inl rfl)), hE _ _ (Or.inr (Or.inl rfl))]
    exact ⟨w1, w2, w3, w4, w5⟩
  · rw [hE _ _ (Or.inr (Or.inr (Or.inl ⟨rfl, rfl⟩)))]
    exact hS i hi he
theorem PL.cgE (h : PL m0 n E) (hE : ∀ r k, 20 ≤ r → r < 29 → gI E' r k = gI E r k) : PL m0 n E' := by
  obtain ⟨h1, h2, h3, h4⟩ := h
  refine ⟨?_, ?_, ?_, ?_⟩
  · unfold PE at h1 ⊢
    simpa only [hE 20 _ (Nat.le_refl _) (by omega)] using h1
  · intro p hp
    rw [hE 22 _ (by omega) (by omega)]
    exact h2 p hp
  · intro p hp
    rw [hE 25 _ (by omega) (by omega)]
    exact h3 p hp
  · intro p j hp hj hk
    rw [hE 26 _ (by omega) (by omega), hE 27 _ (by omega) (by omega), hE 28 _ (by omega) (by omega)]
    exact h4 p j hp hj hk
theorem CTR.cg (h : CTR n t D E) (hn : n ≤ 6) (hD : ∀ j, j < 758 → D' j = D j) (h19 : gI E' 0 19 = gI E 0 19) (hE : ∀ p k, p < n → 9 ≤ k → k ≤ 12 → gI E' (8 + 2 * p) k = gI E (8 + 2 * p) k) : CTR n t D' E' := by
  refine ⟨h19.trans h.1, fun p hp => ?_⟩
  rw [hE p 9 hp (by omega) (by omega), hE p 10 hp (by omega) (by omega), hE p 11 hp (by omega) (by omega), hE p 12 hp (by omega) (by omega), hD _ (by omega), hD _ (by omega), hD _ (by omega), hD _ (by omega)]
  exact h.2 p hp
theorem KR.cg (h : KR t D E) (hD : ∀ j, j < 758 → D' j = D j) (h6 : gI E' 6 1 = gI E 6 1) (hE : ∀ k, gI E' 7 k = gI E 7 k) : KR t D' E' := by
  obtain ⟨T, h1, h2, h3, h4⟩ := h
  refine ⟨T, h6.trans h1, h2, by rw [hD 9 (by omega)]; exact h3, fun i w hi hw => ?_⟩
  rw [hE, hD _ (by omega)]
  exact h4 i w hi hw
theorem MR.cg (h : MR m0 n s t c D F E) (sp : SP m0 m1) (hD : ∀ j, j < 758 → D' j = D j) (hF : ∀ j, j < 20 → F' j = F j) (hE : ∀ r k, r < 29 → gI E' r k = gI E r k) : MR m1 n s t c D' F' E' := by
  obtain ⟨hK, hL, I, hX, hC, hR⟩ := h
  have hn := hK.n6
  refine ⟨hK.sp sp, (hL.cgE (fun r k h1 h2 => hE r k h2)).sp sp, (I.cgD hn hD hF).sp sp, (hX.cgD hn I.c1 hD).cgE hn (fun r k h => hE r k ?_), hC.cg hn hD (hE _ _ (by omega)) (fun p k h1 h2 h3 => hE _ _ (by omega)), hR.cg hD (hE _ _ (by omega)) (fun k => hE _ _ (by omega))⟩
  rcases h with h | h | ⟨h, -⟩ | ⟨q, h, h2, -⟩ <;> omega
/-- what lies beside the direct numbers, out of mkS -/
theorem MR.ofS (h : MR m0 n s t c D F E) (hE : ∀ r k, r < 29 → gI E' r k = gI (mkS n E D F) r k) : MR m0 n s t c D F E' := by
  obtain ⟨hK, hL, I, hX, hC, hR⟩ := h
  have hn := hK.n6
  refine ⟨hK, hL.cgE (fun r k h1 h2 => (hE r k h2).trans (mkS_n E D F (locI_hi h1 k))), I, hX.cgE hn (fun r k h => ?_), hC.cg hn (fun _ _ => rfl) ((hE _ _ (by omega)).trans (s0_19 E D F)) (fun p k h1 h2 h3 => ?_), hR.cg (fun _ _ => rfl) ((hE _ _ (by omega)).trans (s6 E D F)) (fun k => (hE _ _ (by omega)).trans (s7 E D F k))⟩
  · rcases h with rfl | rfl | ⟨rfl, rfl⟩ | ⟨q, hq, rfl, rfl⟩
    · exact (hE _ _ (by omega)).trans (s4 E D F k)
    · exact (hE _ _ (by omega)).trans (s5 E D F k)
    · exact (hE _ _ (by omega)).trans (s0_13 E D F)
    · exact (hE _ _ (by omega)).trans (sQ_8 E D F (by omega))
  · rw [hE _ _ (by omega)]
    rcases (show k = 9 ∨ k = 10 ∨ k = 11 ∨ k = 12 by omega) with rfl | rfl | rfl | rfl
    · exact sP_9 E D F (by omega)
    · exact sP_10 E D F (by omega)
    · exact sP_11 E D F (by omega)
    · exact sP_12 E D F (by omega)
end TRS
/-- a state of the class at B with the plan at P is the flat state -/
def StR (m0 : Mm) (n s t c : Nat) (D : Nat → Int32) (F : Nat → UInt32) (MC : Mm) (B P : Nat) : Prop := MR m0 n s t c D F (sbM (emS B P) MC) ∧ (∀ a k j, locI n a k = some j → gI MC (B + a) k = D j) ∧ (∀ a k j, locF n a k = some j → gF MC (B + a) k = F j) ∧ gR MC B 0 = some P
section STR
variable {m0 m1 : Mm} {n s t c B P : Nat} {D D' : Nat → Int32} {F F' : Nat → UInt32} {MC MC' : Mm}
theorem StR.mk (h : StR m0 n s t c D F MC B P) : mkS n (sbM (emS B P) MC) D F = sbM (emS B P) MC := by
  obtain ⟨-, h1, h2, -⟩ := h
  refine mkS_self (fun a k j hj => ?_) (fun a k j hj => ?_)
  · rw [sb_I, em_lo (locI_lt hj).1]; exact h1 a k j hj
  · rw [sb_F, em_lo (locF_lt hj).1]; exact h2 a k j hj
theorem StR.fr (h : StR m0 n s t c D F MC B P) (sp : SP m0 m1) (hD : ∀ j, j < 758 → D' j = D j) (hF : ∀ j, j < 20 → F' j = F j) (hI : ∀ a k, (B ≤ a ∧ a < B + 20) ∨ (P ≤ a ∧ a < P + 9) → gI MC' a k = gI MC a k) (hf : ∀ a k, B ≤ a ∧ a < B + 20 → gF MC' a k = gF MC a k) (hr : gR MC' B 0 = gR MC B 0) : StR m1 n s t c D' F' MC' B P := by
  obtain ⟨h1, h2, h3, h4⟩ := h
  have hj : ∀ a k j, locI n a k = some j → j < 758 := fun a k j hj => by have := dI_150 (locI_dI hj); omega
  have hjf : ∀ a k j, locF n a k = some j → j < 20 := fun a k j hj => by
    have h := locF_6 hj
    have hc := locF_lt h
    have h2 : ((List.range 20).all fun c => (List.range 20).all fun k => match locF 6 c k with | some j => decide (j < 20) | none => true) = true := by decide +kernel
    have h3 := List.all_eq_true.mp (List.all_eq_true.mp h2 a (List.mem_range.mpr hc.1)) k (List.mem_range.mpr hc.2)
    rw [h] at h3
    exact of_decide_eq_true h3
  refine ⟨h1.cg sp hD hF (fun r k hr => ?_), fun a k j hl => ?_, fun a k j hl => ?_, hr.trans h4⟩
  · rw [sb_I, sb_I]
    by_cases e : r < 20
    · rw [em_lo e]; exact hI _ _ (by omega)
    · rw [em_hi (by omega)]; exact hI _ _ (by omega)
  · have := (locI_lt hl).1
    rw [hI _ _ (by omega), hD j (hj a k j hl)]; exact h2 a k j hl
  · have := (locF_lt hl).1
    rw [hf _ _ (by omega), hF j (hjf a k j hl)]; exact h3 a k j hl
/-- back from a run of the state -/
theorem StR.back {E' : Mm} {t' c' : Nat} (h : MR m1 n s t' c' D' F' E') (hP : gR MC B 0 = some P) (hB : B = 26 ∨ B = 46) (hPP : P = 1 ∨ P = 10) : StR m1 n s t' c' D' F' (inM (dmS B P) kpS MC (mkS n E' D' F')) B P := by
  have hI : ∀ r k, r < 29 → gI (inM (dmS B P) kpS MC (mkS n E' D' F')) (emS B P r) k = gI (mkS n E' D' F') r k := fun r k hr => by
    show (match dmS B P (emS B P r) with | some r => (mkS n E' D' F').1 r k | none => MC.1 (emS B P r) k) = _
    rw [(emS_ok B hB P hPP r hr).2]
    rfl
  have hf : ∀ r k, r < 29 → gF (inM (dmS B P) kpS MC (mkS n E' D' F')) (emS B P r) k = gF (mkS n E' D' F') r k := fun r k hr => by
    show (match dmS B P (emS B P r) with | some r => (mkS n E' D' F').2.1 r k | none => MC.2.1 (emS B P r) k) = _
    rw [(emS_ok B hB P hPP r hr).2]
    rfl
  refine ⟨h.ofS (fun r k hr => ?_), fun a k j hl => ?_, fun a k j hl => ?_, ?_⟩
  · rw [sb_I]; exact hI r k hr
  · have := (locI_lt hl).1
    rw [← em_lo (B := B) (P := P) this, hI _ _ (by omega)]; exact mkS_r _ _ _ hl
  · have := (locF_lt hl).1
    rw [← em_lo (B := B) (P := P) this, hf _ _ (by omega)]; exact mkS_f _ _ _ hl
  · show (match dmS B P B with | some r => (if kpS B = true then (mkS n E' D' F').2.2.2 r 0 else MC.2.2.2 B 0) | none => MC.2.2.2 B 0) = some P
    have : dmS B P B = some 0 := by
      have := (emS_ok B hB P hPP 0 (by omega)).2
      rwa [em_lo (by omega), Nat.add_zero] at this
    rw [this]
    exact hP
/-- elsewhere nothing changes -/
theorem in_I {M' : Mm} {a k : Nat} (h1 : a < B ∨ B + 20 ≤ a) (h2 : a < P ∨ P + 9 ≤ a) : gI (inM (dmS B P) kpS MC M') a k = gI MC a k := by
  show (match dmS B P a with | some r => M'.1 r k | none => MC.1 a k) = _
  unfold dmS
  rw [if_neg (by omega), if_neg (by omega)]
  rfl
theorem in_F {M' : Mm} {a k : Nat} (h1 : a < B ∨ B + 20 ≤ a) (h2 : a < P ∨ P + 9 ≤ a) : gF (inM (dmS B P) kpS MC M') a k = gF MC a k := by
  show (match dmS B P a with | some r => M'.2.1 r k | none => MC.2.1 a k) = _
  unfold dmS
  rw [if_neg (by omega), if_neg (by omega)]
  rfl
theorem in_L {M' : Mm} {a k : Nat} : gL (inM (dmS B P) kpS MC M') a k = gL MC a k := rfl
theorem in_R {M' : Mm} {a k : Nat} : gR (inM (dmS B P) kpS MC M') a k = gR MC a k := by
  show (match dmS B P a with | some r => (if kpS a = true then M'.2.2.2 r k else MC.2.2.2 a k) | none => MC.2.2.2 a k) = _
  cases dmS B P a with
  | none => rfl
  | some r => rfl
end STR
