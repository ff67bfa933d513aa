/-! PURE: what going keeps -/
section GONE
variable {m0 : Mm} {n s t u c r a : Nat} {D : Nat → Int32} {F : Nat → UInt32} {E : Mm}
theorem aGoD_o {j : Nat} (h1 : j ≠ 10) (h2 : j ≠ 5) (h3 : j < 11 ∨ 18 ≤ j) (h4 : j < 150 + 7 * r) : aGoD m0 D c r j = D j := by
  unfold aGoD
  rw [if_neg h1, if_neg (by omega), if_neg h2, if_neg (by omega)]
theorem aGoD_b {k : Nat} (hk : k < 7) : aGoD m0 D c r (11 + k) = D (150 + 7 * r + k) := by
  unfold aGoD
  rw [if_neg (by omega), if_neg (by omega), if_neg (by omega), if_pos (by omega), show 11 + k - 11 = k by omega]
theorem aGoD_5 : aGoD m0 D c r 5 = aLeft m0 D r := by
  unfold aGoD
  rw [if_neg (by omega), if_neg (by omega), if_pos rfl]
theorem aGoD_10 : aGoD m0 D c r 10 = nI (c - 1) := by
  unfold aGoD
  rw [if_pos rfl]
theorem aGoD_r {j : Nat} (h1 : 150 + 7 * r ≤ j) (h2 : j < 150 + 7 * (c - 1)) : aGoD m0 D c r j = D (j + 7) := by
  unfold aGoD
  rw [if_neg (by omega), if_pos ⟨h1, h2⟩]
theorem aUpD_n {x b : Nat} (hx : x < 2 ^ 30) (hb : 0 < b) (hb2 : b < 2 ^ 30) : aUpD (nI x) (nI b) = nI ((x + b - 1) / b) := by
  unfold aUpD
  rw [nI_add, nI_lit1, pk_sub (by omega), pk_div (by omega) hb (by omega)]
theorem aLeft_pos (hK : PK m0 n s) (hR : iR n s t c D) (hr : r < c) (hh : isN 10064 (D 1)) : 0 < aLeft m0 D r := by
  obtain ⟨-, ⟨x, y, y1, y2, xy, x1, x2⟩, -⟩ := hR r hr
  obtain ⟨h, h1, h2⟩ := hh
  obtain ⟨sk, k1, k2, k3⟩ := hK.seek
  obtain ⟨rt, l1, l2, l3⟩ := hK.rate
  have hs := hK.s9
  dsimp only at x1 x2
  unfold aLeft
  rw [x1, x2, h2, k3, l3, aAway_n (by omega) (by omega), aUpD_n (by omega) (by omega) (by omega), aUpD_n (by omega) (by omega) (by omega), nI_add]
  have e1 : 1 ≤ (y + rt - 1) / rt := (Nat.le_div_iff_mul_le (by omega)).mpr (by omega)
  have e2 : (y + rt - 1) / rt ≤ y + rt - 1 := Nat.div_le_self _ _
  have e3 : (x - h + (h - x) + sk - 1) / sk ≤ x - h + (h - x) + sk - 1 := Nat.div_le_self _ _
  rw [show (0 : Int32) = nI 0 from rfl, nI_ltI (by omega) (by omega)]
  exact Nat.lt_of_lt_of_le (Nat.lt_of_lt_of_le Nat.zero_lt_one e1) (Nat.le_add_left _ _)
theorem go_Inv (hK : PK m0 n s) (I : Inv m0 n s t u c D F) (hu : u ≤ t + 1) (hr : r < c) (ha : D 2 = nI a) (han : a < n) (hl : ¬ 0 < D 5) {sv b : Nat} (hsv : D (102 + 8 * a + 1) = nI sv) (hb : D (150 + 7 * r + 2) = nI b) (hsb : sv + b ≤ 999) : Inv m0 n s t (t + 1) (c - 1) (aGoD m0 D c r) F := by
  have hn := hK.n6
  have hc1 := I.c1
  have hLp : 0 < aGoD m0 D c r 5 := by rw [aGoD_5]; exact aLeft_pos hK I.r hr I.hd
  refine ⟨?_, ?_, ?_, ?_, ?_, ?_, ?_, I.f⟩
  · obtain ⟨g1, g2, g3, g4, g5, g6, g7, g8, g9⟩ := I.g
    unfold iG
    rw [aGoD_10]
    simp (disch := omega) only [aGoD_o]
    exact ⟨g1, g2, g3, g4, g5, g6, trivial, by omega, g9⟩
  · refine I.p.cg (fun p hp => ?_)
    simp (disch := omega) only [aGoD_o, and_self]
  · refine I.q.cg (fun p hp => ?_)
    simp (disch := omega) only [aGoD_o, and_self]
  · intro k hk
    by_cases h : k < r
    · refine (I.r k (by omega)).cg (fun i hi => ?_)
      rw [aGoD_o (by omega) (by omega) (by omega) (by omega)]
    · refine (I.r (k + 1) (by omega)).cg (fun i hi => ?_)
      try dsimp only
      rw [aGoD_r (by omega) (by omega)]
      congr 1
      omega
  · intro h5
    refine ⟨?_, (I.r r hr).cg (fun k hk => aGoD_b hk)⟩
    rw [aGoD_o (by omega) (by omega) (by omega) (by omega), ha]
    exact nI_neg1 (by omega)
  · intro k hk h2
    rw [aGoD_o (by omega) (by omega) (by omega) (by omega)] at h2
    obtain ⟨i1, sv', i2, i3, -⟩ := I.a k hk h2
    have e : k = a := (nI_eq (by omega) (by omega)).mp (h2.symm.trans ha)
    subst e
    refine ⟨?_, sv, ?_, by omega, fun _ => ⟨b, ?_, hsb⟩⟩
    · rw [aGoD_o (by omega) (by omega) (by omega) (by omega)]; exact i1.mono hu
    · rw [aGoD_o (by omega) (by omega) (by omega) (by omega)]; exact hsv
    · rw [show 13 = 11 + 2 from rfl, aGoD_b (by omega)]; exact hb
  · refine ⟨?_, fun p hp => ?_⟩
    · rw [outS.cg (D := D) (fun p hp => aGoD_o (by omega) (by omega) (by omega) (by omega)), I.o.1, if_pos hLp, if_neg hl]
      omega
    · rw [aGoD_o (by omega) (by omega) (by omega) (by omega), aGoD_o (by omega) (by omega) (by omega) (by omega)]
      exact I.o.2 p hp
theorem cnt_go (q : Int32) (hr : r < c) (d : Nat) (h : r + d ≤ c - 1) : cnt (aGoD m0 D c r) q (r + d) + (if D (150 + 7 * r) = q then 1 else 0) = cnt D q (r + d + 1) := by
  induction d with
  | zero =>
    rw [Nat.add_zero, cnt_cg (D := D) (fun k hk => aGoD_o (by omega) (by omega) (by omega) (by omega)), cnt_s]
  | succ d ih =>
    have := ih (by omega)
    rw [show r + (d + 1) = r + d + 1 from rfl, cnt_s, aGoD_r (by omega) (by omega), show 150 + 7 * (r + d) + 7 = 150 + 7 * (r + d + 1) by omega, cnt_s D q (r + d + 1)]
    omega
theorem go_X (hn : n ≤ 6) (hX : XR n c E D) (hr : r < c) (han : a < n) (hc : c ≤ 54) (hq : D (150 + 7 * r) = nI a) : XR n (c - 1) (eGo E c r a) (aGoD m0 D c r) := by
  obtain ⟨hW, hY, hB, hS⟩ := hX
  refine ⟨fun k hk => ?_, fun q hq' => ?_, fun h5 => ?_, fun k hk h2 => ?_⟩
  · have ge : ∀ i, gI (eGo E c r a) 4 i = if 6 * r ≤ i ∧ i < 6 * r + (c * 6 - (6 * r + 6)) then gI E 4 (6 * r + 6 + (i - 6 * r)) else gI E 4 i := fun i => by
      unfold eGo
      rw [gw_n _ _ _ _ (by omega), gcp_s, gcp_n _ _ _ _ _ _ _ (by decide), gcp_n _ _ _ _ _ _ _ (by decide)]
    by_cases h : k < r
    · obtain ⟨⟨w1, w2, w3, w4, w5⟩, w6⟩ := hW k (by omega)
      unfold xRow
      dsimp only at w1 w2 w3 w4 w5 ⊢
      rw [ge, ge, ge, ge, ge, ge, if_neg (by omega), if_neg (by omega), if_neg (by omega), if_neg (by omega), if_neg (by omega), if_neg (by omega)]
      simp (disch := omega) only [aGoD_o]
      exact ⟨⟨w1, w2, w3, w4, w5⟩, w6⟩
    · obtain ⟨⟨w1, w2, w3, w4, w5⟩, w6⟩ := hW (k + 1) (by omega)
      unfold xRow
      dsimp only at w1 w2 w3 w4 w5 ⊢
      rw [ge, ge, ge, ge, ge, ge, if_pos (by omega), if_pos (by omega), if_pos (by omega), if_pos (by omega), if_pos (by omega), if_pos (by omega)]
      simp (disch := omega) only [aGoD_r]
      rw [show 6 * r + 6 + (6 * k - 6 * r) = 6 * (k + 1) by omega, show 6 * r + 6 + (6 * k + 1 - 6 * r) = 6 * (k + 1) + 1 by omega, show 6 * r + 6 + (6 * k + 2 - 6 * r) = 6 * (k + 1) + 2 by omega, show 6 * r + 6 + (6 * k + 3 - 6 * r) = 6 * (k + 1) + 3 by omega, show 6 * r + 6 + (6 * k + 4 - 6 * r) = 6 * (k + 1) + 4 by omega, show 6 * r + 6 + (6 * k + 5 - 6 * r) = 6 * (k + 1) + 5 by omega, show 150 + 7 * k + 1 + 7 = 150 + 7 * (k + 1) + 1 by omega, show 150 + 7 * k + 2 + 7 = 150 + 7 * (k + 1) + 2 by omega, show 150 + 7 * k + 3 + 7 = 150 + 7 * (k + 1) + 3 by omega, show 150 + 7 * k + 4 + 7 = 150 + 7 * (k + 1) + 4 by omega, show 150 + 7 * k + 5 + 7 = 150 + 7 * (k + 1) + 5 by omega, show 150 + 7 * k + 6 + 7 = 150 + 7 * (k + 1) + 6 by omega, show 150 + 7 * k + 7 = 150 + 7 * (k + 1) by omega]
      exact ⟨⟨w1, w2, w3, w4, w5⟩, w6⟩
  · have h1 := cnt_go (m0 := m0) (D := D) (nI q) hr (c - 1 - r) (by omega)
    rw [show r + (c - 1 - r) = c - 1 by omega, show c - 1 + 1 = c by omega, hq] at h1
    have h2 := hY q hq'
    rw [aLy_cnt] at h2 ⊢
    by_cases e : q = a
    · subst e
      unfold eGo
      rw [if_pos rfl] at h1
      rw [gw_s, h2, ← h1, nI_pred]
    · rw [if_neg (by rw [nI_eq (by omega) (by omega)]; omega)] at h1
      unfold eGo
      rw [gw_n _ _ _ _ (by omega), gcp_n _ _ _ _ _ _ _ (by omega), gcp_n _ _ _ _ _ _ _ (by omega), h2, ← h1, Nat.add_zero]
  · obtain ⟨⟨w1, w2, w3, w4, w5⟩, w6⟩ := hW r hr
    have ge : ∀ i, i < 6 → gI (eGo E c r a) 5 i = gI E 4 (6 * r + i) := fun i hi => by
      unfold eGo
      rw [gw_n _ _ _ _ (by omega), gcp_n _ _ _ _ _ _ _ (by decide), gcp_s, if_pos (by omega), Nat.sub_zero]
    unfold xRow
    dsimp only at w1 w2 w3 w4 w5 ⊢
    rw [ge _ (by omega), ge _ (by omega), ge _ (by omega), ge _ (by omega), ge _ (by omega), aGoD_b (by omega), aGoD_b (by omega), aGoD_b (by omega), aGoD_b (by omega), aGoD_b (by omega), aGoD_b (by omega)]
    exact ⟨w1, w2, w3, w4, w5⟩
  · rw [aGoD_o (by omega) (by omega) (by omega) (by omega)] at h2 ⊢
    unfold eGo
    rw [gw_n _ _ _ _ (by omega), gcp_n _ _ _ _ _ _ _ (by omega), gcp_n _ _ _ _ _ _ _ (by omega)]
    exact hS k hk h2
theorem go_L (hL : PL m0 n E) (ha : a < 5 + 1) : PL m0 n (eGo E c r a) := by
  unfold eGo
  refine PL.w ?_ _ (by omega)
  exact hL.to (fun x k hx => by rw [gcp_n _ _ _ _ _ _ _ (by omega), gcp_n _ _ _ _ _ _ _ (by omega)])
/-- the next one is one of that queue -/
theorem aNx_q (D : Nat → Int32) (q : Int32) (n r : Nat) (h : aNx D q n = some r) : D (150 + 7 * r) = q := by
  induction n generalizing r with
  | zero => cases h
  | succ n ih =>
    rw [aNx_s] at h
    by_cases h1 : D (150 + 7 * n) = q
    · rw [if_pos h1] at h
      cases hx : aNx D q n with
      | none => rw [hx] at h; cases h; exact h1
      | some y =>
        rw [hx] at h
        dsimp only at h
        split at h
        · cases h; exact ih _ hx
        · cases h; exact h1
    · rw [if_neg h1] at h
      exact ih r h
theorem aNx_none (D : Nat → Int32) (q : Int32) (n : Nat) : aNx D q n = none ↔ cnt D q n = 0 := by
  induction n with
  | zero => rw [aNx_0]; exact ⟨fun _ => rfl, fun _ => rfl⟩
  | succ n ih =>
    rw [aNx_s, cnt_s]
    by_cases h1 : D (150 + 7 * n) = q
    · rw [if_pos h1, if_pos h1]
      refine ⟨fun h => ?_, fun h => by omega⟩
      cases hx : aNx D q n with
      | none => rw [hx] at h; cases h
      | some y =>
        rw [hx] at h
        dsimp only at h
        split at h <;> cases h
    · rw [if_neg h1, if_neg h1, Nat.add_zero]
      exact ih
end GONE
