/-! PURE: ticks one behind another, now -/
theorem sI_sI (M : Mm) (a k : Nat) (v w : Int32) : sI (sI M a k v) a k w = sI M a k w := by
  refine Prod.ext (funext fun x => funext fun y => ?_) rfl
  show (if x = a ∧ y = k then w else if x = a ∧ y = k then v else M.1 x y) = if x = a ∧ y = k then w else M.1 x y
  split <;> rfl
theorem sI_self (M : Mm) (a k : Nat) : sI M a k (gI M a k) = M := by
  refine Prod.ext (funext fun x => funext fun y => ?_) rfl
  show (if x = a ∧ y = k then M.1 a k else M.1 x y) = M.1 x y
  split
  · rename_i h; rw [h.1, h.2]
  · rfl
section ECT
variable {E : Mm} {p : Nat} {many lat : Int32}
theorem eCt_9 : gI (eCt E p many lat) (8 + 2 * p) 9 = gI E (8 + 2 * p) 9 + 1 := by
  unfold eCt eC2 eC1
  split <;> simp (disch := omega) only [gw_n, gw_s]
theorem eCt_10 : gI (eCt E p many lat) (8 + 2 * p) 10 = gI E (8 + 2 * p) 10 + many := by
  unfold eCt eC2 eC1
  split <;> simp (disch := omega) only [gw_n, gw_s]
theorem eCt_11 : gI (eCt E p many lat) (8 + 2 * p) 11 = gI E (8 + 2 * p) 11 + lat := by
  unfold eCt eC2 eC1
  split <;> simp (disch := omega) only [gw_n, gw_s]
theorem eCt_12 : gI (eCt E p many lat) (8 + 2 * p) 12 = aGr lat (gI E (8 + 2 * p) 12) := by
  unfold eCt eC2 eC1
  rw [← gr_mm]
  split <;> simp (disch := omega) only [gw_n, gw_s]
theorem eCt_13 : gI (eCt E p many lat) (8 + 2 * p) 13 = if lat ≤ gI E 0 19 then gI E (8 + 2 * p) 13 else gI E (8 + 2 * p) 13 + 1 := by
  unfold eCt eC2 eC1
  split <;> simp (disch := omega) only [gw_n, gw_s]
theorem eCt_o {q k : Nat} (h : q ≠ p) : gI (eCt E p many lat) (8 + 2 * q) k = gI E (8 + 2 * q) k := by
  unfold eCt eC2 eC1
  split <;> simp (disch := omega) only [gw_n]
end ECT
/-- counts: the class's are the reference's -/
def CTR (n t : Nat) (D : Nat → Int32) (E : Mm) : Prop := gI E 0 19 = 0 ∧ ∀ p, p < n → (gI E (8 + 2 * p) 9 = D (18 + 14 * p + 9) ∧ gI E (8 + 2 * p) 10 = D (18 + 14 * p + 10) ∧ gI E (8 + 2 * p) 11 = D (18 + 14 * p + 11) ∧ gI E (8 + 2 * p) 12 = D (18 + 14 * p + 12)) ∧ ∃ d l, D (18 + 14 * p + 9) = nI d ∧ D (18 + 14 * p + 11) = nI l ∧ d ≤ l ∧ d ≤ t ∧ l ≤ 16000 * t
/-- what is kept: the class's ring is the reference's row -/
def KR (t : Nat) (D : Nat → Int32) (E : Mm) : Prop := ∃ T, gI E 6 1 = nI T ∧ T ≤ t ∧ D 9 = nI (min T 40) ∧ ∀ i w, i < min T 40 → w < 4 → gI E 7 ((T - min T 40 + i) % 40 * 4 + w) = D (598 + 4 * i + w)
section RUN
variable {m0 : Mm} {n s t c : Nat} {D D' : Nat → Int32} {F : Nat → UInt32} {E E' : Mm}
theorem CTR.tick (hn : n ≤ 6) (h : CTR n t D E) {ev : Option (Nat × Nat × Nat)} (hc : Cef n ev D D' E E') : CTR n (t + 1) D' E' := by
  obtain ⟨h19, h⟩ := h
  have e19 : gI E' 0 19 = 0 := by
    match ev, hc with
    | none, hc => exact hc.2.2.2.1.trans h19
    | some (q, la, b), hc => exact hc.2.2.2.2.2.2.2.2.2.1.trans h19
  refine ⟨e19, fun p hp => ?_⟩
  obtain ⟨⟨a1, a2, a3, a4⟩, d, l, d1, l1, dl, dt, lt⟩ := h p hp
  match ev, hc with
  | none, hc =>
    obtain ⟨c1, c2, -, -⟩ := hc
    rw [c1 p 9 (by omega) (by omega) (by omega), c1 p 10 (by omega) (by omega) (by omega), c1 p 11 (by omega) (by omega) (by omega), c1 p 12 (by omega) (by omega) (by omega), c2 p 9 (by omega) (by omega) (by omega), c2 p 10 (by omega) (by omega) (by omega), c2 p 11 (by omega) (by omega) (by omega), c2 p 12 (by omega) (by omega) (by omega)]
    exact ⟨⟨a1, a2, a3, a4⟩, d, l, d1, l1, dl, by omega, by omega⟩
  | some (q, la, b), ⟨hq, l1', l2', b1, b2, ⟨x1, x2, x3, x4⟩, y, z, _, _⟩ =>
    rw [z p 9 (by omega) (by omega) (by omega), z p 10 (by omega) (by omega) (by omega), z p 11 (by omega) (by omega) (by omega), z p 12 (by omega) (by omega) (by omega)]
    by_cases e : p = q
    · subst e
      rw [eCt_9, eCt_10, eCt_11, eCt_12, x1, x2, x3, x4, a1, a2, a3, a4, d1, l1, nI_add, nI_1]
      exact ⟨⟨rfl, rfl, rfl, rfl⟩, d + 1, l + la, rfl, rfl, by omega, by omega, by omega⟩
    · rw [eCt_o e, eCt_o e, eCt_o e, eCt_o e, y p 9 (by omega) e (by omega) (by omega), y p 10 (by omega) e (by omega) (by omega), y p 11 (by omega) e (by omega) (by omega), y p 12 (by omega) e (by omega) (by omega)]
      exact ⟨⟨a1, a2, a3, a4⟩, d, l, d1, l1, dl, by omega, by omega⟩
theorem aWr_new {k : Nat} {q how sv : Int32} {w : Nat} (hw : w < 4) : aWr D k q how sv (598 + 4 * aWrK k + w) = if w = 0 then D 0 else if w = 1 then q else if w = 2 then how else sv := by
  unfold aWr
  rcases (show w = 0 ∨ w = 1 ∨ w = 2 ∨ w = 3 by omega) with rfl | rfl | rfl | rfl
  · rw [if_pos rfl]; simp (disch := omega) only [updD_n, Nat.add_zero, updD_s]
  · rw [if_neg (by omega), if_pos rfl]; simp (disch := omega) only [updD_n, updD_s]
  · rw [if_neg (by omega), if_neg (by omega), if_pos rfl]; simp (disch := omega) only [updD_n, updD_s]
  · rw [if_neg (by omega), if_neg (by omega), if_neg (by omega)]; simp (disch := omega) only [updD_n, updD_s]
theorem aWr_old {k i w : Nat} {q how sv : Int32} (hk : k ≤ 40) (hi : i < aWrK k) (hw : w < 4) : aWr D k q how sv (598 + 4 * i + w) = D (598 + 4 * (if k = 40 then i + 1 else i) + w) := by
  unfold aWr
  simp (disch := omega) only [updD_n]
  unfold aWr1
  unfold aWrK at hi
  by_cases e : k = 40
  · rw [if_pos e] at hi
    rw [if_pos e, if_pos e, updD_n _ _ (by omega), ups_r, if_pos (by omega)]
    show D (598 + (598 + 4 * i + w - 598) + 4) = _
    rw [show 598 + (598 + 4 * i + w - 598) + 4 = 598 + 4 * (i + 1) + w by omega]
  · rw [if_neg e, if_neg e]
theorem aWr_9 {k : Nat} {q how sv : Int32} : aWr D k q how sv 9 = nI (aWrK k + 1) := by
  unfold aWr
  rw [updD_s]
theorem eKA_new {T w : Nat} {tick q how sv : Int32} (hw : w < 4) : gI (eKA E T tick q how sv) 7 (T % 40 * 4 + w) = if w = 0 then tick else if w = 1 then q else if w = 2 then how else sv := by
  unfold eKA
  rw [gw_n _ _ _ _ (by omega)]
  rcases (show w = 0 ∨ w = 1 ∨ w = 2 ∨ w = 3 by omega) with rfl | rfl | rfl | rfl
  · rw [if_pos rfl]; simp (disch := omega) only [gw_n, Nat.add_zero, gw_s]
  · rw [if_neg (by omega), if_pos rfl]; simp (disch := omega) only [gw_n, gw_s]
  · rw [if_neg (by omega), if_neg (by omega), if_pos rfl]; simp (disch := omega) only [gw_n, gw_s]
  · rw [if_neg (by omega), if_neg (by omega), if_neg (by omega)]; simp (disch := omega) only [gw_n, gw_s]
theorem eKA_old {T i : Nat} {tick q how sv : Int32} (h : i < T % 40 * 4 ∨ T % 40 * 4 + 4 ≤ i) : gI (eKA E T tick q how sv) 7 i = gI E 7 i := by
  unfold eKA
  simp (disch := omega) only [gw_n]
theorem KR.tick (h : KR t D E) {ex : Option (Int32 × Int32 × Int32)} (hk : ∀ T, gI E 6 1 = nI T → T ≤ t → D 9 = nI (min T 40) → Kef (min T 40) T ex D D' E E') : KR (t + 1) D' E' := by
  obtain ⟨T, h1, h2, h3, h4⟩ := h
  have hc := hk T h1 h2 h3
  match ex, hc with
  | none, hc =>
    obtain ⟨c1, c2, c3, c4⟩ := hc
    refine ⟨T, c4.trans h1, by omega, c1.trans h3, fun i w hi hw => ?_⟩
    rw [c3, c2 _ (by omega)]
    exact h4 i w hi hw
  | some (q, how, sv), ⟨c1, c2, c3⟩ =>
    refine ⟨T + 1, c3, by omega, ?_, fun i w hi hw => ?_⟩
    · rw [c1 9 (Or.inl rfl), aWr_9]
      unfold aWrK
      congr 1
      split <;> omega
    · rw [c2, c1 _ (Or.inr (by omega))]
      by_cases e : i = aWrK (min T 40)
      · have e2 : (T + 1 - min (T + 1) 40 + i) % 40 = T % 40 := by
          rw [e]
          unfold aWrK
          by_cases h40 : T < 40
          · rw [Nat.min_eq_left (by omega), Nat.min_eq_left (by omega), if_neg (by omega)]
            congr 1; omega
          · rw [Nat.min_eq_right (by omega), Nat.min_eq_right (by omega), if_pos rfl]
            congr 1; omega
        rw [e2, eKA_new hw, e, aWr_new hw]
      · have hi' : i < aWrK (min T 40) := by
          unfold aWrK at e ⊢
          split <;> (rename_i h5; first | rw [if_pos h5] at e | rw [if_neg h5] at e) <;> omega
        rw [aWr_old (by omega) hi' hw]
        by_cases h40 : T < 40
        · rw [Nat.min_eq_left (show T ≤ 40 by omega)] at hi' ⊢
          rw [if_neg (by omega)]
          unfold aWrK at hi'
          rw [if_neg (by omega)] at hi'
          have := h4 i w (by omega) hw
          rw [Nat.min_eq_left (show T ≤ 40 by omega), show T - T + i = i by omega, Nat.mod_eq_of_lt (by omega)] at this
          rw [Nat.min_eq_left (show T + 1 ≤ 40 by omega), show T + 1 - (T + 1) + i = i by omega, Nat.mod_eq_of_lt (show i < 40 by omega), eKA_old (by rw [Nat.mod_eq_of_lt h40]; omega)]
          exact this
        · rw [Nat.min_eq_right (show 40 ≤ T by omega)] at hi' ⊢
          rw [if_pos rfl]
          unfold aWrK at hi'
          rw [if_pos rfl] at hi'
          have := h4 (i + 1) w (by omega) hw
          rw [Nat.min_eq_right (show 40 ≤ T by omega)] at this
          rw [Nat.min_eq_right (show 40 ≤ T + 1 by omega), show T + 1 - 40 + i = T - 40 + (i + 1) by omega, eKA_old (by omega)]
          exact this
/-- the state now, in both -/
def MR (m0 : Mm) (n s t c : Nat) (D : Nat → Int32) (F : Nat → UInt32) (E : Mm) : Prop := PK m0 n s ∧ PL m0 n E ∧ Inv m0 n s t t c D F ∧ XR n c E D ∧ CTR n t D E ∧ KR t D E
theorem tick_now (h : MR m0 n s t c D F E) (ht : t + 1 < 16000) : ∃ (D' : Nat → Int32) (F' : Nat → UInt32) (E' : Mm) (c' : Nat), R_goesOn (mkR m0 0 D F) = some (mkR (sI m0 0 56 (gI m0 0 56 + 1)) 0 D' F') ∧ (∀ j, StickT (mkS n E D F) j = j (mkS n E' D' F')) ∧ MR (sI m0 0 56 (gI m0 0 56 + 1)) n s (t + 1) c' D' F' E' ∧ ∀ r k, 20 ≤ r → gI E' r k = gI E r k := by
  obtain ⟨hK, hL, I, hX, hC, hKR⟩ := h
  obtain ⟨T, h1, h2, h3, h4⟩ := hKR
  obtain ⟨D', F', E', c', ev, ex, a1, a2, a3, a4, a5, a6, a7, a8⟩ := tick_sim (B := 0) (x := 0) (y := 0) (Or.inl rfl) hK hL I hX ht h1 (by omega) h3 (by omega) (Or.inl rfl) (Or.inl rfl)
  have e : logT m0 0 0 0 ev ex = sI m0 0 56 (gI m0 0 56 + 1) := by
    unfold logT
    match ev, ex with
    | none, none => rfl
    | some (_, _, _), none => rfl
    | none, some (_, _, _) => rfl
    | some (_, _, _), some (_, _, _) => rfl
  rw [e] at a1 a3 a5 a6
  have hfr : ∀ r k, 20 ≤ r → gI E' r k = gI E r k := by
    match ev, a7 with
    | none, hc => exact hc.2.2.2.2
    | some (_, _, _), hc => exact hc.2.2.2.2.2.2.2.2.2.2
  refine ⟨D', F', E', c', a1, a2, ⟨hK.sp a6, a5, a3, a4, hC.tick hK.n6 a7, KR.tick (ex := ex) ⟨T, h1, h2, h3, h4⟩ (fun T' t1 t2 t3 => ?_)⟩, hfr⟩
  have : T' = T := (nI_eq (by omega) (by omega)).mp (t1.symm.trans h1)
  rw [this]
  exact a8
theorem run_now (N : Nat) : ∀ (i t c : Nat) (m0 : Mm) (D : Nat → Int32) (F : Nat → UInt32) (E : Mm), MR m0 n s t c D F E → t + N < 16000 → i + N < 100000 → ∃ (v : Int32) (D' : Nat → Int32) (F' : Nat → UInt32) (E' : Mm) (c' : Nat), (∀ f, N < f → loopR (fun (rec2 : (Int32 × Mm) → Option Mm) (x2 : Int32 × Mm) => if nI (i + N) ≤ x2.1 then (some x2.2) else (bnd (R_goesOn x2.2) fun M3 => lett (x2.1 + (1 : Int32)) fun v4 => rec2 (v4, M3))) f (nI i, mkR m0 0 D F) = some (mkR (sI m0 0 56 v) 0 D' F')) ∧ (∀ f, N < f → loopR (fun (rec2 : (Int32 × Mm) → Option Mm) (x2 : Int32 × Mm) => if nI (i + N) ≤ x2.1 then some x2.2 else StickT x2.2 (fun M7 => lett (x2.1 + (1 : Int32)) fun v8 => rec2 (v8, M7))) f (nI i, mkS n E D F) = some (mkS n E' D' F')) ∧ MR (sI m0 0 56 v) n s (t + N) c' D' F' E' ∧ ∀ r k, 20 ≤ r → gI E' r k = gI E r k := by
  induction N with
  | zero =>
    intro i t c m0 D F E h ht hi
    refine ⟨gI m0 0 56, D, F, E, c, fun f hf => ?_, fun f hf => ?_, ?_⟩
    · obtain ⟨f, rfl⟩ : ∃ g, f = g + 1 := ⟨f - 1, by omega⟩
      rw [loopR_s, sI_self]
      dsimp only
      rw [if_pos (nI_le (by omega) (by omega))]
    · obtain ⟨f, rfl⟩ : ∃ g, f = g + 1 := ⟨f - 1, by omega⟩
      rw [loopR_s]
      dsimp only
      rw [if_pos (nI_le (by omega) (by omega))]
    · rw [sI_self]; exact ⟨h, fun _ _ _ => rfl⟩
  | succ N ih =>
    intro i t c m0 D F E h ht hi
    obtain ⟨D1, F1, E1, c1, a1, a2, a3, a4⟩ := tick_now h (by omega)
    obtain ⟨v, D', F', E', c', b1, b2, b3, b4⟩ := ih (i + 1) (t + 1) c1 _ D1 F1 E1 a3 (by omega) (by omega)
    rw [sI_sI] at b1 b3
    rw [show i + 1 + N = i + (N + 1) by omega] at b1 b2
    rw [show t + 1 + N = t + (N + 1) by omega] at b3
    refine ⟨v, D', F', E', c', fun f hf => ?_, fun f hf => ?_, b3, fun r k hr => (b4 r k hr).trans (a4 r k hr)⟩
    · obtain ⟨f, rfl⟩ : ∃ g, f = g + 1 := ⟨f - 1, by omega⟩
      rw [loopR_s]
      dsimp only
      rw [if_neg (nI_ge (by omega) (by omega)), a1, bnd_s, lett_e, nA_1]
      exact b1 f (by omega)
    · obtain ⟨f, rfl⟩ : ∃ g, f = g + 1 := ⟨f - 1, by omega⟩
      rw [loopR_s]
      dsimp only
      rw [if_neg (nI_ge (by omega) (by omega)), a2, lett_e, nA_1]
      exact b2 f (by omega)
theorem run_main (h : MR m0 n s t c D F E) {N : Nat} (hN : t + N < 16000) : ∃ (v : Int32) (D' : Nat → Int32) (F' : Nat → UInt32) (E' : Mm) (c' : Nat), R_goesOnFor (nI N) (mkR m0 0 D F) = some (mkR (sI m0 0 56 v) 0 D' F') ∧ S_run (nI N) (mkS n E D F) = some (mkS n E' D' F') ∧ MR (sI m0 0 56 v) n s (t + N) c' D' F' E' ∧ ∀ r k, 20 ≤ r → gI E' r k = gI E r k := by
  obtain ⟨v, D', F', E', c', b1, b2, b3⟩ := run_now N 0 t c m0 D F E h hN (by omega)
  refine ⟨v, D', F', E', c', ?_, ?_, b3⟩
  · unfold R_goesOnFor
    rw [lett_e]
    have := b1 1000000 (by omega)
    rw [Nat.zero_add] at this
    exact this
  · rw [S_run_e, lett_e]
    have := b2 1000000 (by omega)
    rw [Nat.zero_add] at this
    exact this
end RUN
