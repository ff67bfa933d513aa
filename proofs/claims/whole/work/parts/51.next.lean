/-! PURE: which request is next, in the class -/
def aBest (D : Nat → Int32) (r : Nat) (x : Option Nat) : Option Nat := match x with
  | none => some r
  | some y => if D (150 + 7 * y + 1) ≤ D (150 + 7 * r + 1) then some y else some r
def aUp (D : Nat → Int32) (q h : Int32) (n : Nat) : Option Nat := itr (fun r x => if D (150 + 7 * r) = q ∧ ¬ D (150 + 7 * r + 1) < h then aBest D r x else x) none n
def aLow (D : Nat → Int32) (q : Int32) (n : Nat) : Option Nat := itr (fun r x => if D (150 + 7 * r) = q then aBest D r x else x) none n
theorem aUp_0 (D : Nat → Int32) (q h : Int32) : aUp D q h 0 = none := rfl
theorem aLow_0 (D : Nat → Int32) (q : Int32) : aLow D q 0 = none := rfl
theorem aNx_0 (D : Nat → Int32) (q : Int32) : aNx D q 0 = none := rfl
theorem aUp_s (D : Nat → Int32) (q h : Int32) (i : Nat) : aUp D q h (i + 1) = if D (150 + 7 * i) = q ∧ ¬ D (150 + 7 * i + 1) < h then aBest D i (aUp D q h i) else aUp D q h i := rfl
theorem aLow_s (D : Nat → Int32) (q : Int32) (i : Nat) : aLow D q (i + 1) = if D (150 + 7 * i) = q then aBest D i (aLow D q i) else aLow D q i := rfl
theorem aNx_s (D : Nat → Int32) (q : Int32) (i : Nat) : aNx D q (i + 1) = if D (150 + 7 * i) = q then (match aNx D q i with | none => some i | some y => if aWay D y ≤ aWay D i then some y else some i) else aNx D q i := rfl
theorem aBest_cases (D : Nat → Int32) (r : Nat) (x : Option Nat) : aBest D r x = some r ∨ ∃ y, x = some y ∧ aBest D r x = some y := by
  cases x with
  | none => exact Or.inl rfl
  | some y =>
    unfold aBest
    try dsimp only
    split
    · exact Or.inr ⟨y, rfl, rfl⟩
    · exact Or.inl rfl
/-- sectors of the first c rows -/
def secs (c : Nat) (D : Nat → Int32) : Prop := ∀ r, r < c → isN 10064 (D (150 + 7 * r + 1))
section NEXT
variable {D : Nat → Int32} {q : Int32} {c h : Nat}
theorem way_lt {c : Nat} (hs : secs c D) (hh : D 1 = nI h) (h2 : h < 10064) {y i : Nat} (hy : y < c) (hi : i < c) :
    (¬ D (150 + 7 * y + 1) < D 1 → ¬ D (150 + 7 * i + 1) < D 1 → (aWay D y ≤ aWay D i ↔ D (150 + 7 * y + 1) ≤ D (150 + 7 * i + 1))) ∧
    (D (150 + 7 * y + 1) < D 1 → D (150 + 7 * i + 1) < D 1 → (aWay D y ≤ aWay D i ↔ D (150 + 7 * y + 1) ≤ D (150 + 7 * i + 1))) ∧
    (¬ D (150 + 7 * y + 1) < D 1 → D (150 + 7 * i + 1) < D 1 → aWay D y ≤ aWay D i) ∧
    (D (150 + 7 * y + 1) < D 1 → ¬ D (150 + 7 * i + 1) < D 1 → ¬ aWay D y ≤ aWay D i) := by
  obtain ⟨a, a1, a2⟩ := hs y hy
  obtain ⟨b, b1, b2⟩ := hs i hi
  unfold aWay
  rw [a2, b2, hh, nA_100000, nA_100000]
  refine ⟨fun x1 x2 => ?_, fun x1 x2 => ?_, fun x1 x2 => ?_, fun x1 x2 => ?_⟩
  · rw [if_neg x1, if_neg x2]
  · rw [if_pos x1, if_pos x2, nI_leI (by omega) (by omega), nI_leI (by omega) (by omega)]; omega
  · rw [if_neg x1, if_pos x2, nI_leI (by omega) (by omega)]; omega
  · rw [if_pos x1, if_neg x2, nI_leI (by omega) (by omega)]; omega
theorem nx_up (hs : secs c D) (hh : D 1 = nI h) (h2 : h < 10064) (i : Nat) (hi : i ≤ c) : (aUp D q (D 1) i = none → aNx D q i = aLow D q i ∧ ∀ y, aLow D q i = some y → y < i ∧ D (150 + 7 * y + 1) < D 1) ∧ (∀ y, aUp D q (D 1) i = some y → aNx D q i = some y ∧ y < i ∧ ¬ D (150 + 7 * y + 1) < D 1) ∧ (∀ y, aLow D q i = some y → y < i) := by
  induction i with
  | zero =>
    rw [aUp_0, aLow_0, aNx_0]
    exact ⟨fun _ => ⟨rfl, fun y h => absurd h (by simp)⟩, ⟨fun y h => absurd h (by simp), fun y h => absurd h (by simp)⟩⟩
  | succ i ih =>
    obtain ⟨i1, i2, i3⟩ := ih (by omega)
    rw [aUp_s, aLow_s, aNx_s]
    have hl : ∀ y, (if D (150 + 7 * i) = q then aBest D i (aLow D q i) else aLow D q i) = some y → y < i + 1 := by
      intro y
      split
      · intro hy
        rcases aBest_cases D i (aLow D q i) with e | ⟨z, e1, e2⟩
        · rw [e] at hy; cases hy; omega
        · rw [e2] at hy; cases hy; have := i3 _ e1; omega
      · intro hy; have := i3 y hy; omega
    by_cases hq : D (150 + 7 * i) = q
    · rw [if_pos hq] at hl ⊢
      rw [if_pos hq]
      by_cases hu : D (150 + 7 * i + 1) < D 1
      · rw [if_neg (fun x => x.2 hu)]
        refine ⟨fun hn => ?_, fun y hy => ?_, hl⟩
        · obtain ⟨e1, e2⟩ := i1 hn
          rw [e1]
          cases hx : aLow D q i with
          | none => exact ⟨rfl, fun y hy => by cases hy; exact ⟨by omega, hu⟩⟩
          | some z =>
            obtain ⟨z1, z2⟩ := e2 z hx
            have w := (way_lt hs hh h2 (y := z) (i := i) (by omega) (by omega)).2.1 z2 hu
            unfold aBest
            try dsimp only
            by_cases hw : aWay D z ≤ aWay D i
            · rw [if_pos hw, if_pos (w.mp hw)]
              exact ⟨rfl, fun y hy => by cases hy; exact ⟨by omega, z2⟩⟩
            · rw [if_neg hw, if_neg (fun h => hw (w.mpr h))]
              exact ⟨rfl, fun y hy => by cases hy; exact ⟨by omega, hu⟩⟩
        · obtain ⟨e1, e2, e3⟩ := i2 y hy
          have w := (way_lt hs hh h2 (y := y) (i := i) (by omega) (by omega)).2.2.1 e3 hu
          rw [e1]
          try dsimp only
          rw [if_pos w]
          exact ⟨rfl, by omega, e3⟩
      · rw [if_pos ⟨hq, hu⟩]
        cases hx : aUp D q (D 1) i with
        | none =>
          obtain ⟨e1, e2⟩ := i1 hx
          refine ⟨(fun hn => by cases hn), fun y hy => ?_, hl⟩
          have hy : some i = some y := hy
          cases hy
          rw [e1]
          cases hz : aLow D q i with
          | none => exact ⟨rfl, by omega, hu⟩
          | some z =>
            obtain ⟨z1, z2⟩ := e2 z hz
            have w := (way_lt hs hh h2 (y := z) (i := i) (by omega) (by omega)).2.2.2 z2 hu
            try dsimp only
            rw [if_neg w]
            exact ⟨rfl, by omega, hu⟩
        | some z =>
          obtain ⟨e1, e2, e3⟩ := i2 z hx
          have w := (way_lt hs hh h2 (y := z) (i := i) (by omega) (by omega)).1 e3 hu
          rw [e1]
          unfold aBest
          try dsimp only
          by_cases hw : aWay D z ≤ aWay D i
          · rw [if_pos hw, if_pos (w.mp hw)]
            exact ⟨(fun hn => by cases hn), (fun y hy => by cases hy; exact ⟨rfl, by omega, e3⟩), hl⟩
          · rw [if_neg hw, if_neg (fun h => hw (w.mpr h))]
            exact ⟨(fun hn => by cases hn), (fun y hy => by cases hy; exact ⟨rfl, by omega, hu⟩), hl⟩
    · rw [if_neg hq] at hl ⊢
      rw [if_neg (fun x => hq x.1), if_neg hq]
      exact ⟨fun hn => ⟨(i1 hn).1, fun y hy => ⟨hl y hy, ((i1 hn).2 y hy).2⟩⟩, fun y hy => ⟨(i2 y hy).1, by have := (i2 y hy).2.1; omega, (i2 y hy).2.2⟩, hl⟩
def oS (x : Option Nat) : Int32 := match x with
  | none => -1
  | some r => nI (6 * r)
theorem S_next_m {E : Mm} {F : Nat → UInt32} {n : Nat} (hX : xW c E D) (hc : c ≤ 54) (hc0 : D 10 = nI c) (hs : secs c D) (hh : D 1 = nI h) (h2 : h < 10064) : S_RNextOf q (D 1) (mkS n E D F) = some (oS (aNx D q c)) := by
  unfold S_RNextOf
  rw [lett_e, lett_e, lett_e, lett_e]
  refine loopR_seq (fun i => (oS (aUp D q (D 1) i), oS (aLow D q i), nI (6 * i))) c (fun i hi rec => ?_) (fun rec => ?_) 1000000 (by omega)
  · try dsimp only
    obtain ⟨⟨r1, -⟩, r6⟩ := hX i hi
    obtain ⟨-, u2, u3⟩ := nx_up (q := q) hs hh h2 i (by omega)
    have hup : ∀ y, aUp D q (D 1) i = some y → y < c := fun y hy => by have := (u2 y hy).2.1; omega
    have hlo : ∀ y, aLow D q i = some y → y < c := fun y hy => by have := u3 y hy; omega
    have hcell : ∀ y, y < c → gI (mkS n E D F) 4 (ix (nI (6 * y) + 0)) = D (150 + 7 * y + 1) := fun y hy => by
      rw [nA_0, ix_nI (by omega), s4]
      exact (hX y hy).1.1
    rw [s3_1, hc0, nN_6, if_neg (nI_ge (by omega) (by omega)), nA_5, ald_n (by omega) (by omega), ix_nI (by omega), s4, r6, hcell i hi, aUp_s, aLow_s]
    simp only [lett_e, nA_6, show 6 * (i + 1) = 6 * i + 6 by omega]
    by_cases hq : D (150 + 7 * i) = q
    · rw [if_pos hq, if_pos hq, nA_0, ald_n (by omega) (by omega)]
      have step : ∀ (k : Int32 → Option Int32), (if oS (aLow D q i) < 0 then k (nI (6 * i)) else ald (oS (aLow D q i) + 0) 324 (if gI (mkS n E D F) 4 (ix (oS (aLow D q i) + 0)) ≤ D (150 + 7 * i + 1) then k (oS (aLow D q i)) else k (nI (6 * i)))) = k (oS (aBest D i (aLow D q i))) := by
        intro k
        cases hx : aLow D q i with
        | none => rfl
        | some y =>
          have hy := hlo y hx
          rw [show oS (some y) = nI (6 * y) from rfl, if_neg (nI_pos (by omega)), hcell y hy, nA_0, ald_n (by omega) (by omega)]
          unfold aBest
          try dsimp only
          split <;> rfl
      have step2 : ∀ (k : Int32 → Option Int32), (if oS (aUp D q (D 1) i) < 0 then k (nI (6 * i)) else ald (oS (aUp D q (D 1) i) + 0) 324 (if gI (mkS n E D F) 4 (ix (oS (aUp D q (D 1) i) + 0)) ≤ D (150 + 7 * i + 1) then k (oS (aUp D q (D 1) i)) else k (nI (6 * i)))) = k (oS (aBest D i (aUp D q (D 1) i))) := by
        intro k
        cases hx : aUp D q (D 1) i with
        | none => rfl
        | some y =>
          have hy := hup y hx
          rw [show oS (some y) = nI (6 * y) from rfl, if_neg (nI_pos (by omega)), hcell y hy, nA_0, ald_n (by omega) (by omega)]
          unfold aBest
          try dsimp only
          split <;> rfl
      refine (step (fun w => if D (150 + 7 * i + 1) < D 1 then rec (oS (aUp D q (D 1) i), w, nI (6 * i + 6)) else (if oS (aUp D q (D 1) i) < 0 then rec (nI (6 * i), w, nI (6 * i + 6)) else ald (oS (aUp D q (D 1) i) + 0) 324 (if gI (mkS n E D F) 4 (ix (oS (aUp D q (D 1) i) + 0)) ≤ D (150 + 7 * i + 1) then rec (oS (aUp D q (D 1) i), w, nI (6 * i + 6)) else rec (nI (6 * i), w, nI (6 * i + 6)))))).trans ?_
      by_cases hu : D (150 + 7 * i + 1) < D 1
      · rw [if_pos hu, if_neg (fun x => x.2 hu)]
      · rw [if_neg hu, if_pos (show D (150 + 7 * i) = q ∧ ¬ D (150 + 7 * i + 1) < D 1 from ⟨hq, hu⟩)]
        exact step2 (fun w => rec (w, oS (aBest D i (aLow D q i)), nI (6 * i + 6)))
    · rw [if_neg hq, if_neg hq, if_neg (fun x => hq x.1)]
  · try dsimp only
    obtain ⟨u1, u2, u3⟩ := nx_up (q := q) hs hh h2 c (Nat.le_refl _)
    rw [s3_1, hc0, nN_6, if_pos (nI_le (by omega) (by omega))]
    cases hx : aUp D q (D 1) c with
    | none => rw [(u1 hx).1]; rfl
    | some y =>
      rw [(u2 y hx).1, show oS (some y) = nI (6 * y) from rfl, if_pos (nI_pos' (by have := (u2 y hx).2.1; omega))]
end NEXT
