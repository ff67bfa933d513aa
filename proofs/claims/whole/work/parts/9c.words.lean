/-! PURE: words along the text -/
section WORDS
variable {l T : Nat} {B : Nat → Nat} {M R : Mm}
theorem RT.fr {R' : Mm} (h : RT l B R) (e : ∀ a i, (a = 0 ∧ i = 43) ∨ a = 13 ∨ a = 15 → gI R' a i = gI R a i) : RT l B R' := ⟨h.1, (e _ _ (by omega)).trans h.2.1, h.2.2.1, fun i hi => (e _ _ (by omega)).trans (h.2.2.2.1 i hi), fun i hi => (e _ _ (by omega)).trans (h.2.2.2.2 i hi)⟩
theorem here_m (h : RT l B R) {pos s : Nat} (h44 : gI R 0 44 = nI pos) (h1 : pos ≤ s) (h2 : s ≤ l) (h3 : ∀ i, pos ≤ i → i < s → blB l B i = true) (h4 : ¬ blB l B s = true) : R_here R = some (byN l B s, sI R 0 44 (nI s)) := by
  have l1 := h.1
  have rt : ∀ v, RT l B (sI R 0 44 v) := fun v => h.fr (fun a i e => gw_n _ _ _ _ (by omega))
  unfold R_here
  rw [lett_e]
  refine loopR_sq (fun i => sI R 0 44 (nI (pos + i))) (s - pos) (by omega) ?_ (fun i hi rec => ?_) (fun rec => ?_)
  · show R = sI R 0 44 (nI pos)
    rw [← h44, sI_self]
  · have hb := blB_i.mp (h3 (pos + i) (by omega) (by omega))
    have by1 : byN l B (pos + i) = nI (B (pos + i)) := by unfold byN; rw [if_pos hb.1]
    have b256 := h.2.2.1 _ hb.1
    rw [gw_s, R_by (rt _) (by omega), bnd_s, lett_e, lett_e, bnd_s, sI_sI, nA_1, by1]
    rcases hb.2 with e | e
    · rw [if_pos (by rw [e]; rfl)]
      rfl
    · rw [if_neg (by rw [e]; decide), if_pos (by rw [e]; rfl)]
      rfl
  · rw [show pos + (s - pos) = s by omega, gw_s, R_by (rt _) (by omega), bnd_s, lett_e, bnd_s]
    have n10 : ¬ byN l B s = 10 := fun e => by
      unfold byN at e
      by_cases c : s < l
      · have b256 := h.2.2.1 _ c
        rw [if_pos c] at e
        exact h4 (blB_i.mpr ⟨c, Or.inl ((nI_eq (by omega) (by omega)).mp e)⟩)
      · rw [if_neg c] at e; exact absurd e (by decide)
    have n32 : ¬ byN l B s = 32 := fun e => by
      unfold byN at e
      by_cases c : s < l
      · have b256 := h.2.2.1 _ c
        rw [if_pos c] at e
        exact h4 (blB_i.mpr ⟨c, Or.inr ((nI_eq (by omega) (by omega)).mp e)⟩)
      · rw [if_neg c] at e; exact absurd e (by decide)
    rw [if_neg n10, if_neg n32]
    dsimp only
    rw [gw_s, R_by (rt _) (by omega), bnd_s]
/-! the OWN WORDS, in the reference -/
def offW : List Nat := [0, 5, 10, 15, 22, 25, 30, 36, 41, 47, 51, 56, 63, 68, 73, 80, 83, 86, 91, 97, 105]
def off (j : Nat) : Nat := offW.getD j 0
def lenW (j : Nat) : Nat := (wTxt j).length
def chW (j i : Nat) : Int32 := (wTxt j).getD i 0
theorem own_ok : ((List.range 20).all fun j => decide (off (j + 1) = off j + lenW j + 1 ∧ off j + lenW j < 105 ∧ 1 ≤ lenW j ∧ lenW j ≤ 7 ∧ ownL (off j + lenW j) = 0) && (List.range (lenW j)).all fun i => decide (97 ≤ chW j i ∧ chW j i ≤ 122 ∧ ownL (off j + i) = chW j i - 96)) = true := by decide +kernel
theorem own_w {j : Nat} (hj : j < 20) : off (j + 1) = off j + lenW j + 1 ∧ off j + lenW j < 105 ∧ 1 ≤ lenW j ∧ lenW j ≤ 7 ∧ ownL (off j + lenW j) = 0 := by
  have h := List.all_eq_true.mp own_ok j (List.mem_range.mpr hj)
  rw [Bool.and_eq_true] at h
  exact of_decide_eq_true h.1
theorem own_c {j i : Nat} (hj : j < 20) (hi : i < lenW j) : ∃ c, 97 ≤ c ∧ c ≤ 122 ∧ chW j i = nI c ∧ ownL (off j + i) = nI (c - 96) := by
  have h := List.all_eq_true.mp own_ok j (List.mem_range.mpr hj)
  rw [Bool.and_eq_true] at h
  have h2 := of_decide_eq_true (List.all_eq_true.mp h.2 i (List.mem_range.mpr hi))
  obtain ⟨a1, a2, a3⟩ := h2
  rcases int_c (chW j i) with e | ⟨c, hc, e⟩
  · rw [i32_lt, show (0 : Int32).toInt = 0 from rfl] at e
    rw [i32_le, show (97 : Int32).toInt = 97 from rfl] at a1
    omega
  · rw [e, i32_le, nI_toInt hc, show (97 : Int32).toInt = 97 from rfl] at a1
    rw [e, i32_le, nI_toInt hc, show (122 : Int32).toInt = 122 from rfl] at a2
    refine ⟨c, by omega, by omega, e, ?_⟩
    rw [a3, e]
    exact pk_sub (b := 96) (by omega)
theorem stL_i (c : List Int32) : ∀ s, stL l B c s = true ↔ ∀ i, i < c.length → byN l B (s + i) = c.getD i 0 := by
  induction c with
  | nil => exact fun s => ⟨fun _ i hi => absurd hi (Nat.not_lt_zero i), fun _ => rfl⟩
  | cons c t ih =>
    intro s
    show (decide (byN l B s = c) && stL l B t (s + 1)) = true ↔ _
    rw [Bool.and_eq_true, decide_eq_true_iff, ih (s + 1)]
    constructor
    · rintro ⟨h1, h2⟩ i hi
      cases i with
      | zero => exact h1
      | succ i =>
        have := h2 i (by have : (c :: t).length = t.length + 1 := rfl; omega)
        rw [show s + 1 + i = s + (i + 1) by omega] at this
        exact this
    · intro h
      refine ⟨h 0 (by show 0 < t.length + 1; omega), fun i hi => ?_⟩
      have := h (i + 1) (by show i + 1 < t.length + 1; omega)
      rw [show s + (i + 1) = s + 1 + i by omega] at this
      exact this
theorem stW_i {j s n : Nat} : stW l B j s n = true ↔ lenW j = n ∧ ∀ i, i < n → byN l B (s + i) = chW j i := by
  unfold stW
  rw [Bool.and_eq_true, decide_eq_true_iff, stL_i]
  unfold lenW chW
  constructor
  · rintro ⟨h1, h2⟩
    exact ⟨h1, fun i hi => h2 i (by omega)⟩
  · rintro ⟨h1, h2⟩
    exact ⟨h1, fun i hi => h2 i (by omega)⟩
theorem owL_least {s n : Nat} : ∀ (m a : Nat), (∀ j, j < a → ¬ stW l B j s n = true) → (owL l B s n (List.range' a m) = none ∧ ∀ j, j < a + m → ¬ stW l B j s n = true) ∨ ∃ k, k < a + m ∧ owL l B s n (List.range' a m) = some (1000 + k) ∧ stW l B k s n = true ∧ ∀ j, j < k → ¬ stW l B j s n = true := by
  intro m
  induction m with
  | zero => exact fun a h => Or.inl ⟨rfl, h⟩
  | succ m ih =>
    intro a h
    rw [List.range'_succ]
    show ((if stW l B a s n = true then some (1000 + a) else owL l B s n (List.range' (a + 1) m)) = none ∧ _) ∨ ∃ k, k < a + (m + 1) ∧ (if stW l B a s n = true then some (1000 + a) else owL l B s n (List.range' (a + 1) m)) = some (1000 + k) ∧ _
    by_cases e : stW l B a s n = true
    · rw [if_pos e]
      exact Or.inr ⟨a, by omega, rfl, e, h⟩
    · rw [if_neg e]
      have h' : ∀ j, j < a + 1 → ¬ stW l B j s n = true := fun j hj => by
        by_cases ej : j = a
        · rw [ej]; exact e
        · exact h j (by omega)
      rcases ih (a + 1) h' with ⟨i1, i2⟩ | ⟨k, k1, k2, k3, k4⟩
      · exact Or.inl ⟨i1, fun j hj => i2 j (by omega)⟩
      · exact Or.inr ⟨k, by omega, k2, k3, k4⟩
theorem owN_least {s n : Nat} : (owN l B s n = none ∧ ∀ j, j < 20 → ¬ stW l B j s n = true) ∨ ∃ k, k < 20 ∧ owN l B s n = some (1000 + k) ∧ stW l B k s n = true ∧ ∀ j, j < k → ¬ stW l B j s n = true := by
  have := owL_least (l := l) (B := B) (s := s) (n := n) 20 0 (fun j hj => absurd hj (Nat.not_lt_zero j))
  rw [← List.range_eq_range', Nat.zero_add] at this
  exact this
def ownI (x : Option Nat) : Int32 := match x with | none => -1 | some w => nI (w - 1000)
theorem own_m (h : RT l B R) {s n : Nat} (h45 : gI R 0 45 = nI s) (h44 : gI R 0 44 = nI (s + n)) (hs : s + n ≤ l) (hl : ∀ i, i < n → ltB l B (s + i) = true) : R_own R = some (ownI (owN l B s n)) := by
  have l1 := h.1
  have o15 := h.2.2.2.2
  have bt : ∀ i, i < n → ∃ b, 97 ≤ b ∧ b ≤ 122 ∧ byN l B (s + i) = nI b ∧ gI R 13 (s + i) = nI b := fun i hi => by
    obtain ⟨e1, e2, e3⟩ := ltB_i.mp (hl i hi)
    exact ⟨B (s + i), e2, e3, by unfold byN; rw [if_pos e1], h.2.2.2.1 _ e1⟩
  -- one word: is it, or on to the next
  have one : ∀ j, j < 20 → ∀ (f g : Option Int32), (lett (0 : Int32) fun v4 =>
 lett (fun (u_4 : Int32) =>
 ald (nI (off j) + u_4) 105 (lett (fun (_ : Unit) => g) fun j93 =>
 if (gI R 15 (ix (nI (off j) + u_4))) = 0 then
 (if (gI R 0 45 + u_4) = (gI R 0 44) then
 f
 else
 (j93 ()))
 else
 (j93 ()))) fun j67 =>
 loopR (fun (rec12 : Int32 → Option Int32) (x11 : Int32) =>
 ald (nI (off j) + x11) 105 (if (gI R 15 (ix (nI (off j) + x11))) = 0 then
 (j67 x11)
 else
 (if (gI R 0 44) ≤ ((gI R 0 45) + x11) then
 (j67 x11)
 else
 (ald ((gI R 0 45) + x11) 1600 (ald (nI (off j) + x11) 105 (if ((gI R 13 (ix ((gI R 0 45) + x11))) - (96 : Int32)) = (gI R 15 (ix (nI (off j) + x11))) then
 (lett (x11 + (1 : Int32)) fun v12 =>
 rec12 v12)
 else
 (j67 x11))))))) 1000000 v4) = if stW l B j s n = true then f else g := fun j hj f g => by
    obtain ⟨w1, w2, w3, w4, w5⟩ := own_w hj
    rw [lett_e, lett_e]
    obtain ⟨u, u1, u2⟩ := pk_least (fun i => i = lenW j ∨ i = n ∨ byN l B (s + i) ≠ chW j i) ⟨lenW j, Or.inl rfl⟩
    have hu : u ≤ lenW j := by
      rcases Nat.lt_or_ge (lenW j) u with hh | hh
      · exact absurd (Or.inl rfl) (u2 _ hh)
      · exact hh
    have hun : u ≤ n := by
      rcases Nat.lt_or_ge n u with hh | hh
      · exact absurd (Or.inr (Or.inl rfl)) (u2 _ hh)
      · exact hh
    have eqs : ∀ i, i < u → byN l B (s + i) = chW j i := fun i hi => Classical.byContradiction fun hh => u2 i hi (Or.inr (Or.inr hh))
    refine loopR_sq (fun i => nI i) u (by omega) rfl (fun i hi rec => ?_) (fun rec => ?_)
    · obtain ⟨c, c1, c2, c3, c4⟩ := own_c hj (show i < lenW j by omega)
      obtain ⟨b, b1, b2, b3, b4⟩ := bt i (by omega)
      have e := eqs i hi
      rw [b3, c3] at e
      have ebc := (nI_eq (by omega) (by omega)).mp e
      rw [nI_add, ald_n (by omega) (by omega), ix_nI (by omega), o15 _ (by omega), c4, if_neg (nI_ne0 (by omega) (by omega)), h44, h45, nI_add, if_neg (nI_ge (by omega) (by omega)), ald_n (by omega) (by omega), ald_n (by omega) (by omega), ix_nI (by omega), b4, if_pos (by rw [ebc]; exact pk_sub (b := 96) (by omega)), lett_e, nA_1]
    · have key : (ald (nI (off j) + nI u) 105 (lett (fun (_ : Unit) => g) fun j93 =>
 if (gI R 15 (ix (nI (off j) + nI u))) = 0 then
 (if (gI R 0 45 + nI u) = (gI R 0 44) then
 f
 else
 (j93 ()))
 else
 (j93 ()))) = if stW l B j s n = true then f else g := by
        rw [nI_add, ald_n (by omega) (by omega), lett_e, ix_nI (by omega), o15 _ (by omega), h45, h44, nI_add]
        by_cases e1 : u = lenW j
        · rw [e1, w5, if_pos rfl]
          by_cases e2 : lenW j = n
          · rw [if_pos (by rw [e2]), if_pos (stW_i.mpr ⟨e2, fun i hi => eqs i (by omega)⟩)]
          · rw [if_neg (fun hh => e2 (by have := (nI_eq (by omega) (by omega)).mp hh; omega)), if_neg (fun hh => e2 (stW_i.mp hh).1)]
        · obtain ⟨c, c1, c2, c3, c4⟩ := own_c hj (show u < lenW j by omega)
          rw [c4, if_neg (nI_ne0 (by omega) (by omega)), if_neg]
          intro hh
          obtain ⟨q1, q2⟩ := stW_i.mp hh
          rcases u1 with e | e | e
          · exact e1 e
          · omega
          · exact e (q2 u (by omega))
      rw [nI_add, ald_n (by omega) (by omega), ix_nI (by omega), o15 _ (by omega)]
      by_cases e1 : u = lenW j
      · rw [if_pos (by rw [e1, w5])]
        exact key
      · obtain ⟨c, c1, c2, c3, c4⟩ := own_c hj (show u < lenW j by omega)
        rw [if_neg (by rw [c4]; exact nI_ne0 (by omega) (by omega)), h44, h45, nI_add]
        rw [h44, h45] at key
        by_cases e2 : u = n
        · rw [if_pos (nI_le (by omega) (by omega))]
          exact key
        · obtain ⟨b, b1, b2, b3, b4⟩ := bt u (by omega)
          have ne : byN l B (s + u) ≠ chW j u := by
            rcases u1 with e | e | e
            · exact absurd e e1
            · exact absurd e e2
            · exact e
          rw [if_neg (nI_ge (by omega) (by omega)), ald_n (by omega) (by omega), ald_n (by omega) (by omega), ix_nI (by omega), b4, if_neg]
          · exact key
          · intro hh
            rw [c4, show nI b - 96 = nI (b - 96) from pk_sub (b := 96) (by omega)] at hh
            have := (nI_eq (by omega) (by omega)).mp hh
            exact ne (by rw [b3, c3, show b = c by omega])
  have skip : ∀ j, j < 20 → ∀ (k : Int32 → Option Int32), loopR (fun (rec93 : Int32 → Option Int32) (x9 : Int32) =>
 ald x9 105 (if (gI R 15 (ix x9)) = 0 then
 (k x9)
 else
 (lett (x9 + (1 : Int32)) fun v10 =>
 rec93 v10))) 1000000 (nI (off j)) = k (nI (off j + lenW j)) := fun j hj k => by
    obtain ⟨w1, w2, w3, w4, w5⟩ := own_w hj
    refine loopR_sq (fun i => nI (off j + i)) (lenW j) (by omega) rfl (fun i hi rec => ?_) (fun rec => ?_)
    · obtain ⟨c, c1, c2, c3, c4⟩ := own_c hj hi
      rw [ald_n (by omega) (by omega), ix_nI (by omega), o15 _ (by omega), c4, if_neg (nI_ne0 (by omega) (by omega)), lett_e, nA_1]
      rfl
    · rw [ald_n (by omega) (by omega), ix_nI (by omega), o15 _ (by omega), w5, if_pos rfl]
  have step : ∀ (Tj : Nat), Tj ≤ 20 → (∀ j, j < Tj → ¬ stW l B j s n = true) → ∀ r, ((Tj = 20 ∧ r = some (-1)) ∨ (Tj < 20 ∧ stW l B Tj s n = true ∧ r = some (nI Tj))) → R_own R = r := fun Tj hT hno r hr => by
    unfold R_own
    rw [lett_e, lett_e]
    refine loopR_sq (fun j => (nI (off j), nI j)) Tj (by omega) rfl (fun j hj rec => ?_) (fun rec => ?_)
    · obtain ⟨w1, w2, w3, w4, w5⟩ := own_w (show j < 20 by omega)
      dsimp only
      rw [if_neg (le_f 105 105 rfl (by omega) (by omega))]
      refine (one j (by omega) _ _).trans ?_
      rw [if_neg (hno j hj), lett_e]
      refine (skip j (by omega) (fun u_5 => lett (u_5 + (1 : Int32)) fun v7 => lett (nI j + (1 : Int32)) fun v8 => rec (v7, v8))).trans ?_
      rw [lett_e, lett_e, nA_1, nA_1, w1]
    · dsimp only
      rcases hr with ⟨e1, e2⟩ | ⟨e1, e2, e3⟩
      · rw [e1, if_pos (by decide), e2]
      · obtain ⟨w1, w2, w3, w4, w5⟩ := own_w e1
        rw [if_neg (le_f 105 105 rfl (by omega) (by omega))]
        refine (one Tj e1 _ _).trans ?_
        rw [if_pos e2, e3]
  rcases owN_least (l := l) (B := B) (s := s) (n := n) with ⟨e1, e2⟩ | ⟨k, k1, k2, k3, k4⟩
  · rw [e1]
    exact step 20 (Nat.le_refl _) e2 _ (Or.inl ⟨rfl, rfl⟩)
  · rw [k2]
    refine step k (by omega) k4 _ (Or.inr ⟨k1, k3, ?_⟩)
    show some (nI (1000 + k - 1000)) = _
    rw [show 1000 + k - 1000 = k by omega]
end WORDS
