/-! PURE, THE REFERENCE: what its small methods do to the flat state -/
def aAway (a b : Int32) : Int32 := if b ≤ a then a - b else b - a
def aLy (D : Nat → Int32) (q : Int32) (n : Nat) : Int32 := itr (fun r x => x + (if D (150 + 7 * r) = q then 1 else 0)) 0 n
def aWt (m0 : Mm) (D : Nat → Int32) (q : Nat) : Int32 := if D (102 + 8 * q + 5) ≤ D 0 then D (18 + 14 * q + 0) * 1 else D (18 + 14 * q + 0) * gI m0 0 8
def aFar (D : Nat → Int32) (q : Nat) : Int32 := itr (fun k x => x + ((D (102 + 8 * q + 3) >>> (nI k &&& 31)) &&& 1)) 0 8
/-- the way to a request -/
def aWay (D : Nat → Int32) (r : Nat) : Int32 := if D (150 + 7 * r + 1) < D 1 then D (150 + 7 * r + 1) + 100000 else D (150 + 7 * r + 1)
section R1
variable {m0 : Mm} {B : Nat} {D : Nat → Int32} {F : Nat → UInt32}
theorem R_away_m (a b : Int32) (M : Mm) : R_away a b M = some (aAway a b) := by
  unfold R_away aAway
  split <;> rfl
theorem R_lying_m (hB : BB B) {q : Int32} {n : Nat} (hn : D 10 = nI n) (hn2 : n ≤ 64) : R_lying q (mkR m0 B D F) = some (aLy D q n) := by
  unfold R_lying
  rw [lett_e, lett_e]
  refine loopR_for (fun r x => x + (if D (150 + 7 * r) = q then 1 else 0)) 0 n (by omega) (fun i x rec hi => ?_) (fun rec => ?_)
  · dsimp only
    rw [R_its_k10 hB, bnd_s, hn, if_neg (nI_ge hi (by omega)), R_ofRequest_k0 hB i rfl (by omega), bnd_s]
    simp only [lett_e, Nat.add_zero]
    by_cases h : D (150 + 7 * i) = q
    · rw [if_pos h, if_pos h, nI_1]
    · rw [if_neg h, if_neg h, nI_1]
  · dsimp only
    rw [R_its_k10 hB, bnd_s, hn, if_pos (nI_le (Nat.le_refl _) (by omega))]
    rfl
theorem R_weightOf_m (hB : BB B) {p : Int32} (q : Nat) (hp : p = nI q) (hq : q < 6) : R_weightOf p (mkR m0 B D F) = some (aWt m0 D q) := by
  unfold R_weightOf aWt
  rw [R_of_k0 hB q hp hq, bnd_s, R_its_k0 hB, bnd_s, R_ofQueue_k5 hB q hp hq, bnd_s, mkR_o _ _ _ _ (by decide) (by decide)]
  split <;> rfl
theorem R_far_m (hB : BB B) {p : Int32} (q : Nat) (hp : p = nI q) (hq : q < 6) : R_far p (mkR m0 B D F) = some (aFar D q) := by
  unfold R_far
  rw [lett_e, lett_e]
  refine loopR_for (fun k x => x + ((D (102 + 8 * q + 3) >>> (nI k &&& 31)) &&& 1)) 0 8 (by omega) (fun i x rec hi => ?_) (fun rec => ?_)
  · dsimp only
    rw [show (8 : Int32) = nI 8 from rfl, if_neg (nI_ge hi (by omega)), R_ofQueue_k3 hB q hp hq, bnd_s, lett_e, lett_e, nI_1]
  · rfl
theorem R_wayTo_m (hB : BB B) {p : Int32} (r : Nat) (hp : p = nI r) (hr : r < 64) : R_wayTo p (mkR m0 B D F) = some (aWay D r) := by
  unfold R_wayTo aWay
  rw [R_ofRequest_k1 hB r hp hr, bnd_s, lett_e, R_its_k1 hB, bnd_s]
  split <;> rfl
/-- which request of a queue is next, up to n: none or its row -/
def aNx (D : Nat → Int32) (q : Int32) (n : Nat) : Option Nat := itr (fun r x => if D (150 + 7 * r) = q then (match x with | none => some r | some y => if aWay D y ≤ aWay D r then some y else some r) else x) none n
def oI (x : Option Nat) : Int32 := match x with
  | none => -1
  | some r => nI r
theorem oI_neg {x : Option Nat} : oI x = -1 ↔ x = none ∨ ∃ r, x = some r ∧ nI r = -1 := by
  cases x with
  | none => simp [oI]
  | some r => simp [oI]
theorem nI_neg1 {r : Nat} (h : r < 2 ^ 31) : ¬ nI r = -1 := by
  intro h1
  have := congrArg Int32.toInt h1
  rw [nI_toInt h] at this
  have h2 : (-1 : Int32).toInt = -1 := by decide
  rw [h2] at this
  omega
theorem aNx_lt (D : Nat → Int32) (q : Int32) : ∀ (n r : Nat), aNx D q n = some r → r < n
  | 0, r, h => by cases h
  | n + 1, r, h => by
    have h : (if D (150 + 7 * n) = q then (match aNx D q n with | none => some n | some y => if aWay D y ≤ aWay D n then some y else some n) else aNx D q n) = some r := h
    have ih := aNx_lt D q n
    by_cases h1 : D (150 + 7 * n) = q
    · rw [if_pos h1] at h
      cases hx : aNx D q n with
      | none => rw [hx] at h; cases h; omega
      | some y =>
        rw [hx] at h
        have hy := ih y hx
        by_cases h2 : aWay D y ≤ aWay D n
        · simp only [if_pos h2] at h; cases h; omega
        · simp only [if_neg h2] at h; cases h; omega
    · rw [if_neg h1] at h
      have := ih r h
      omega
theorem R_nextOf_m (hB : BB B) {q : Int32} {n : Nat} (hn : D 10 = nI n) (hn2 : n ≤ 64) : R_nextOf q (mkR m0 B D F) = some (oI (aNx D q n)) := by
  unfold R_nextOf
  rw [lett_e, lett_e]
  refine loopR_seq (fun i => (oI (aNx D q i), nI i)) n (fun i hi rec => ?_) (fun rec => ?_) 1000000 (by omega)
  · dsimp only
    rw [R_its_k10 hB, bnd_s, hn, if_neg (nI_ge hi (by omega)), R_ofRequest_k0 hB i rfl (by omega), bnd_s]
    simp only [lett_e, Nat.add_zero, nI_1]
    have e : aNx D q (i + 1) = (if D (150 + 7 * i) = q then (match aNx D q i with | none => some i | some y => if aWay D y ≤ aWay D i then some y else some i) else aNx D q i) := rfl
    by_cases h : D (150 + 7 * i) = q
    · rw [if_pos h]
      rw [if_pos h] at e
      cases hx : aNx D q i with
      | none =>
        rw [hx] at e
        rw [e, if_pos (show oI none = -1 from rfl)]
        rfl
      | some y =>
        rw [hx] at e
        have hy := aNx_lt D q i y hx
        rw [if_neg (show ¬ oI (some y) = -1 from nI_neg1 (by omega)), R_wayTo_m hB i rfl (by omega), bnd_s, R_wayTo_m hB y (show oI (some y) = nI y from rfl) (by omega), bnd_s, e]
        by_cases h2 : aWay D y ≤ aWay D i
        · rw [if_pos h2]; simp only [if_pos h2]
        · rw [if_neg h2]; simp only [if_neg h2]; rfl
    · rw [if_neg h]
      rw [if_neg h] at e
      rw [e]
  · dsimp only
    rw [R_its_k10 hB, bnd_s, hn, if_pos (nI_le (Nat.le_refl _) (by omega))]
end R1
