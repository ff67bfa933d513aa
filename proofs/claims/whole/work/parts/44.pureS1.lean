/-! PURE, THE STATE: where a request goes -/
def isN (b : Nat) (x : Int32) : Prop := ∃ a, a < b ∧ x = nI a
/-- the plan of the state is the reference's -/
def PE (m0 E : Mm) : Prop := gI E 20 0 = gI m0 0 2 ∧ gI E 20 1 = gI m0 0 3 ∧ gI E 20 2 = gI m0 0 4 ∧ gI E 20 3 = gI m0 0 5 ∧ gI E 20 4 = gI m0 0 6 ∧ gI E 20 7 = gI m0 0 7 ∧ gI E 20 8 = gI m0 0 8 ∧ gI E 20 9 = gI m0 0 9 ∧ gI E 20 10 = gI m0 0 10 ∧ gI E 20 11 = gI m0 0 1
theorem PE.near {m0 E : Mm} (h : PE m0 E) : gI E 20 7 = gI m0 0 7 := h.2.2.2.2.2.1
theorem PE.raise {m0 E : Mm} (h : PE m0 E) : gI E 20 8 = gI m0 0 8 := h.2.2.2.2.2.2.1
theorem PE.rFor {m0 E : Mm} (h : PE m0 E) : gI E 20 9 = gI m0 0 9 := h.2.2.2.2.2.2.2.1
theorem PE.rest {m0 E : Mm} (h : PE m0 E) : gI E 20 10 = gI m0 0 10 := h.2.2.2.2.2.2.2.2.1
theorem PE.many {m0 E : Mm} (h : PE m0 E) : gI E 20 11 = gI m0 0 1 := h.2.2.2.2.2.2.2.2.2
/-- who streams -/
def PS (m0 E : Mm) (n : Nat) : Prop := ∀ p, p < n → gI E 22 p = gI m0 3 p ∧ (gI m0 3 p = 0 ∨ gI m0 3 p = 1)
theorem i32_le {x y : Int32} : x ≤ y ↔ x.toInt ≤ y.toInt := Int32.le_iff_toInt_le
theorem i32_lt {x y : Int32} : x < y ↔ x.toInt < y.toInt := Int32.lt_iff_toInt_lt
theorem aAway_n {a b : Nat} (ha : a < 2 ^ 30) (hb : b < 2 ^ 30) : aAway (nI a) (nI b) = nI ((a - b) + (b - a)) := by
  unfold aAway
  by_cases h : b ≤ a
  · rw [if_pos (nI_le h (by omega)), pk_sub h, show b - a = 0 by omega, Nat.add_zero]
  · rw [if_neg (nI_ge (by omega) (by omega)), pk_sub (by omega), show a - b = 0 by omega, Nat.zero_add]
theorem S_QIsFar_m {M : Mm} {th a b d : Nat} (ha : a < 2 ^ 30) (hb : b < 2 ^ 30) (hd : d < 2 ^ 30) (he : gI M th 4 = nI b) : S_QIsFar th (nI a) (nI d) M = some (if aAway (nI a) (nI b) ≤ nI d then 0 else 1) := by
  unfold S_QIsFar
  rw [he, lett_e, aAway_n ha hb]
  have e1 := pk_sub_toInt ha hb
  have e2 := pk_sub_toInt hb ha
  have e3 := nI_toInt (n := d) (by omega)
  have e4 := nI_toInt (n := (a - b) + (b - a)) (by omega)
  by_cases h1 : nI d < nI a - nI b
  · rw [if_pos h1, if_neg]
    rw [i32_lt, e1, e3] at h1
    rw [i32_le, e3, e4]
    omega
  · rw [if_neg h1]
    rw [i32_lt, e1, e3] at h1
    by_cases h2 : nI b - nI a ≤ nI d
    · rw [if_pos h2, if_pos]
      rw [i32_le, e2, e3] at h2
      rw [i32_le, e3, e4]
      omega
    · rw [if_neg h2, if_neg]
      rw [i32_le, e2, e3] at h2
      rw [i32_le, e3, e4]
      omega
section S1
variable {n : Nat} {m0 E : Mm} {D : Nat → Int32} {F : Nat → UInt32}
theorem S_weightOf_m (hE : PE m0 E) {q : Nat} (hq : q < n ∧ n ≤ 6) : S_weightOf (nI q) (mkS n E D F) = some (aWt m0 D q) := by
  unfold S_weightOf aWt
  rw [ald_n (by omega) (by omega), lett_e, ald_n (by omega) (by omega), ix_nI (by omega), sP_0 E D F hq, sQ_7 E D F hq, s0_10, s20, hE.raise, Int32.mul_one]
  split <;> rfl
theorem S_mayMerge_m {p : Nat} (hn : n ≤ 6) (hS : PS m0 E n) (hp : p < n) (ha : D 2 = -1 ∨ isN n (D 2)) : S_mayMerge (nI p) (mkS n E D F) = some (if D 2 = -1 then 0 else if D 2 = nI p then 0 else if gI m0 3 p = 1 then 0 else if gI m0 3 (ix (D 2)) = 1 then 0 else 1) := by
  unfold S_mayMerge
  rw [s0_11]
  rcases ha with h | ⟨a, ha, h⟩
  · rw [h, if_pos (by decide), if_pos rfl]
  · rw [h, if_neg (nI_pos (by omega)), if_neg (nI_neg1 (by omega)), ald_n (by omega) (by omega), ald_n (by omega) (by omega), ix_nI (by omega), ix_nI (by omega), s22, s22, (hS p hp).1, (hS a ha).1]
    by_cases h1 : nI a = nI p
    · rw [if_pos h1, if_pos h1]
    · rw [if_neg h1, if_neg h1]
      rcases (hS p hp).2 with h2 | h2 <;> rcases (hS a ha).2 with h3 | h3 <;> rw [h2, h3] <;> rfl
theorem S_route_m {p sec : Nat} (hn : n ≤ 6) (hE : PE m0 E) (hS : PS m0 E n) (hp : p < n) (ha : D 2 = -1 ∨ isN n (D 2)) (hv : isN n (D (18 + 14 * p + 6))) (hs : sec < 20000) (hr : isN 1000 (gI m0 0 7)) (he : ∀ q, q < n → isN 20000 (D (102 + 8 * q + 2))) : S_route (nI p) (nI sec) (mkS n E D F) = some (mkS n E (aRt m0 D p (nI sec)).2 F) := by
  have hp6 : p < 6 := by omega
  obtain ⟨d, hd, hd2⟩ := hr
  obtain ⟨v, hv1, hv2⟩ := hv
  unfold S_route aRt
  rw [ald_n hp6 (by omega), ix_nI (by omega), sP_7 E D F ⟨hp, hn⟩, s0_11, s20, hE.near, S_mayMerge_m hn hS hp ha, bnd_s, hd2]
  by_cases h1 : D (18 + 14 * p + 6) = nI p
  · rw [if_pos h1, if_pos h1]
    rcases ha with h2 | ⟨a, ha, h2⟩
    · rw [if_pos h2, if_pos h2, if_pos rfl]
    · have e := he a ha
      obtain ⟨b, hb, hb2⟩ := e
      rw [h2, if_neg (nI_neg1 (by omega)), if_neg (nI_neg1 (by omega)), ix_nI (by omega), ald_n (by omega) (by omega), S_QIsFar_m (by omega) (b := b) (by omega) (by omega) ((sQ_4 E D F (by omega)).trans hb2), bnd_s, hb2]
      by_cases h3 : nI a = nI p
      · rw [if_pos h3, if_pos h3, if_pos rfl]
      · rw [if_neg h3, if_neg h3]
        by_cases h4 : gI m0 3 p = 1
        · rw [if_pos h4, if_pos h4, if_pos rfl]
        · rw [if_neg h4, if_neg h4]
          by_cases h5 : gI m0 3 a = 1
          · rw [if_pos h5, if_pos h5, if_pos rfl]
          · rw [if_neg h5, if_neg h5, if_neg (by decide)]
            by_cases h6 : aAway (nI sec) (nI b) ≤ nI d
            · rw [if_pos h6, if_pos h6, if_pos rfl, lett_e, sPw_7 E D F ⟨hp, hn⟩, lett_e, sPw_8 E _ F ⟨hp, hn⟩]
            · rw [if_neg h6, if_neg h6, if_neg (by decide)]
  · obtain ⟨b, hb, hb2⟩ := he v hv1
    rw [if_neg h1, if_neg h1, hv2, ix_nI (by omega), ald_n (by omega) (by omega), S_QIsFar_m (by omega) (b := b) (by omega) (by omega) ((sQ_4 E D F (by omega)).trans hb2), bnd_s, hb2]
    by_cases h6 : aAway (nI sec) (nI b) ≤ nI d
    · rw [if_pos h6, if_pos h6, if_pos rfl, lett_e, sPw_8 E D F ⟨hp, hn⟩]
    · rw [if_neg h6, if_neg h6, if_neg (by decide), lett_e, sP_8 E D F ⟨hp, hn⟩, sPw_8 E D F ⟨hp, hn⟩, sP_8 E _ F ⟨hp, hn⟩, updD_s]
      by_cases h7 : 3 ≤ D (18 + 14 * p + 7) + 1
      · rw [if_pos h7, if_neg (by rw [i32_lt]; rw [i32_le] at h7; omega), lett_e, sPw_7 E _ F ⟨hp, hn⟩, lett_e, sPw_8 E _ F ⟨hp, hn⟩, updD_c _ _ _ (show 18 + 14 * p + 6 ≠ 18 + 14 * p + 7 by omega)]
      · rw [if_neg h7, if_pos (by rw [i32_lt]; rw [i32_le] at h7; omega)]
end S1
