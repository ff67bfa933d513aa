/-! PURE: requests that lie, and the next of a queue -/
theorem first_r (p : Nat → Bool) : ∀ c : Nat, (∃ r, r < c ∧ p r = true ∧ ∀ i, i < r → p i = false) ∨ ∀ i, i < c → p i = false
  | 0 => Or.inr (fun i hi => by omega)
  | c + 1 => by
    rcases first_r p c with ⟨r, h1, h2, h3⟩ | h
    · exact Or.inl ⟨r, by omega, h2, h3⟩
    · cases e : p c with
      | true => exact Or.inl ⟨c, by omega, e, h⟩
      | false => exact Or.inr (fun i hi => by
          rcases (show i < c ∨ i = c by omega) with h1 | rfl
          · exact h i h1
          · exact e)
/-- is row r the k-th of queue q -/
def isK (D : Nat → Int32) (q k : Int32) (r : Nat) : Bool := decide (D (150 + 7 * r) = q ∧ nI (cnt D q r) = k)
section RQ
variable {n P Q s t c : Nat} {C R m0 : Mm} {D : Nat → Int32} {F : Nat → UInt32}
theorem isK_t {q k : Int32} {r : Nat} (h : isK D q k r = true) : D (150 + 7 * r) = q ∧ nI (cnt D q r) = k := of_decide_eq_true h
theorem isK_f {q k : Int32} {r : Nat} (h : isK D q k r = false) (h1 : D (150 + 7 * r) = q) : ¬ nI (cnt D q r) = k := fun h2 => of_decide_eq_false h ⟨h1, h2⟩
theorem R_place_s {q k : Int32} (hc0 : D 10 = nI c) (hc : c ≤ 54) {i : Nat} (hi : i < c) (hk : isK D q k i = false) (j35 : Int32 → Option Int32) (rec5 : (Int32 × Int32) → Option Int32) : (bnd (R_its (10 : Int32) (mkR m0 0 D F)) fun r5 =>
 if r5 ≤ nI i then
 (some (-1 : Int32))
 else
 (bnd (R_ofRequest (nI i) (0 : Int32) (mkR m0 0 D F)) fun r6 =>
 lett (fun (u_6 : Int32) =>
 lett (nI i + (1 : Int32)) fun v8 =>
 rec5 (u_6, v8)) fun j48 =>
 if r6 = q then
 (if nI (cnt D q i) = k then
 (j35 (nI i))
 else
 (lett (nI (cnt D q i) + (1 : Int32)) fun v9 =>
 j48 v9))
 else
 (j48 (nI (cnt D q i))))) = rec5 (nI (cnt D q (i + 1)), nI (i + 1)) := by
  have hB : BB 0 := Or.inl rfl
  rw [R_its_k10 hB, bnd_s, hc0, if_neg (nI_ge hi (by omega)), show R_ofRequest (nI i) 0 (mkR m0 0 D F) = some (D (150 + 7 * i)) from R_ofRequest_m hB i 0 rfl rfl (by omega), bnd_s, lett_e, cnt_s, nA_1]
  by_cases e : D (150 + 7 * i) = q
  · rw [if_pos e, if_neg (isK_f hk e), if_pos e, lett_e, nA_1]
    rfl
  · rw [if_neg e, if_neg e, Nat.add_zero, nA_1]
    rfl
theorem R_place_n {q k : Int32} (hc0 : D 10 = nI c) (hc : c ≤ 54) (h : ∀ i, i < c → isK D q k i = false) : R_place q k (mkR m0 0 D F) = some (-1) := by
  have hB : BB 0 := Or.inl rfl
  unfold R_place
  rw [lett_e, lett_e, lett_e]
  refine loopR_sq (fun i => (nI (cnt D q i), nI i)) c (by omega) rfl (fun i hi rec => ?_) (fun rec => ?_)
  · dsimp only
    exact R_place_s hc0 hc hi (h i hi) (fun u => some ((150 : Int32) + ((7 : Int32) * u))) rec
  · dsimp only
    rw [R_its_k10 hB, bnd_s, hc0, if_pos (nI_le (Nat.le_refl _) (by omega))]
theorem R_place_r {q k : Int32} (hc0 : D 10 = nI c) (hc : c ≤ 54) {r : Nat} (hr : r < c) (h1 : isK D q k r = true) (h : ∀ i, i < r → isK D q k i = false) : R_place q k (mkR m0 0 D F) = some (nI (150 + 7 * r)) := by
  have hB : BB 0 := Or.inl rfl
  unfold R_place
  rw [lett_e, lett_e, lett_e]
  refine loopR_sq (fun i => (nI (cnt D q i), nI i)) r (by omega) rfl (fun i hi rec => ?_) (fun rec => ?_)
  · dsimp only
    exact R_place_s hc0 hc (by omega) (h i hi) (fun u => some ((150 : Int32) + ((7 : Int32) * u))) rec
  · dsimp only
    obtain ⟨k1, k2⟩ := isK_t h1
    rw [R_its_k10 hB, bnd_s, hc0, if_neg (nI_ge hr (by omega)), show R_ofRequest (nI r) 0 (mkR m0 0 D F) = some (D (150 + 7 * r)) from R_ofRequest_m hB r 0 rfl rfl (by omega), bnd_s, lett_e, if_pos k1, if_pos k2, nM_7, nB_150]
section CL
variable {E : Mm}
theorem S_place_s {q k : Int32} (hX : xW c E D) (hc0 : D 10 = nI c) (hc : c ≤ 54) {i : Nat} (hi : i < c) (hk : isK D q k i = false) (rec5 : (Int32 × Int32) → Option Int32) : (if ((gI (mkS n E D F) 3 1) * (6 : Int32)) ≤ nI (6 * i) then
 (some (-1 : Int32))
 else
 (ald (nI (6 * i) + (5 : Int32)) 324 (lett (fun (u_3 : Int32) =>
 lett (nI (6 * i) + (6 : Int32)) fun v5 =>
 rec5 (u_3, v5)) fun j41 =>
 if (gI (mkS n E D F) 4 (ix (nI (6 * i) + (5 : Int32)))) = q then
 (if nI (cnt D q i) = k then
 (some (nI (6 * i)))
 else
 (lett (nI (cnt D q i) + (1 : Int32)) fun v6 =>
 j41 v6))
 else
 (j41 (nI (cnt D q i)))))) = rec5 (nI (cnt D q (i + 1)), nI (6 * (i + 1))) := by
  rw [s3_1, hc0, nN_6, if_neg (nI_ge (by omega) (by omega)), nA_5, ald_n (by omega) (by omega), ix_nI (by omega), s4, (hX i hi).2, lett_e, cnt_s, nA_6]
  by_cases e : D (150 + 7 * i) = q
  · rw [if_pos e, if_neg (isK_f hk e), if_pos e, lett_e, nA_1]
    rfl
  · rw [if_neg e, if_neg e, Nat.add_zero]
    rfl
theorem S_place_n {q k : Int32} (hX : xW c E D) (hc0 : D 10 = nI c) (hc : c ≤ 54) (h : ∀ i, i < c → isK D q k i = false) : S_RPlaceOf q k (mkS n E D F) = some (-1) := by
  unfold S_RPlaceOf
  rw [lett_e, lett_e]
  refine loopR_sq (fun i => (nI (cnt D q i), nI (6 * i))) c (by omega) rfl (fun i hi rec => ?_) (fun rec => ?_)
  · dsimp only
    exact S_place_s hX hc0 hc hi (h i hi) rec
  · dsimp only
    rw [s3_1, hc0, nN_6, if_pos (nI_le (by omega) (by omega))]
theorem S_place_r {q k : Int32} (hX : xW c E D) (hc0 : D 10 = nI c) (hc : c ≤ 54) {r : Nat} (hr : r < c) (h1 : isK D q k r = true) (h : ∀ i, i < r → isK D q k i = false) : S_RPlaceOf q k (mkS n E D F) = some (nI (6 * r)) := by
  unfold S_RPlaceOf
  rw [lett_e, lett_e]
  refine loopR_sq (fun i => (nI (cnt D q i), nI (6 * i))) r (by omega) rfl (fun i hi rec => ?_) (fun rec => ?_)
  · dsimp only
    exact S_place_s hX hc0 hc (by omega) (h i hi) rec
  · dsimp only
    obtain ⟨k1, k2⟩ := isK_t h1
    rw [s3_1, hc0, nN_6, if_neg (nI_ge (by omega) (by omega)), nA_5, ald_n (by omega) (by omega), ix_nI (by omega), s4, (hX r hr).2, lett_e, if_pos k1, if_pos k2]
theorem S_rank_m (hX : xW c E D) (hc : c ≤ 54) {r : Nat} (hr : r < c) : S_RRankOf (nI (6 * r)) (mkS n E D F) = some (nI (cnt D (D (150 + 7 * r)) r)) := by
  unfold S_RRankOf
  rw [lett_e, lett_e]
  refine loopR_sq (fun i => (nI (cnt D (D (150 + 7 * r)) i), nI (6 * i))) r (by omega) rfl (fun i hi rec => ?_) (fun rec => ?_)
  · dsimp only
    rw [if_neg (nI_ge (by omega) (by omega)), nA_5, nA_5, nA_6, nA_1, ald_n (by omega) (by omega), ald_n (by omega) (by omega), ix_nI (by omega), ix_nI (by omega), s4, s4, (hX i (by omega)).2, (hX r hr).2, lett_e, cnt_s]
    by_cases e : D (150 + 7 * i) = D (150 + 7 * r)
    · rw [if_pos e, if_pos e, lett_e]
      rfl
    · rw [if_neg e, if_neg e, Nat.add_zero]
      rfl
  · dsimp only
    rw [if_pos (nI_le (by omega) (by omega))]
end CL
theorem tell_m {a b N : Nat} {f : Nat → Int32} (hx : xRow C a b f) (h5 : isN 2 (f 5)) (h6 : isN 201 (f 6)) {j : Nat} (hj : j ≤ 4) (hb : b + 5 ≤ N) (hN : N ≤ 324) : C_RTell a N (nI b) (nI j) C = some (f (1 + j)) := by
  obtain ⟨x1, x2, x3, x4, x5⟩ := hx
  unfold C_RTell
  rcases (show j = 0 ∨ j = 1 ∨ j = 2 ∨ j = 3 ∨ j = 4 by omega) with rfl | rfl | rfl | rfl | rfl
  · rw [if_pos (by decide), nA_0, ald_n (by omega) (by omega), ix_nI (by omega), Nat.add_zero, x1]
  · rw [if_neg (by decide), if_pos (by decide), nA_1, ald_n (by omega) (by omega), ix_nI (by omega), x2]
  · rw [if_neg (by decide), if_neg (by decide), if_pos (by decide), nA_2, ald_n (by omega) (by omega), ix_nI (by omega), x3]
  · rw [if_neg (by decide), if_neg (by decide), if_neg (by decide), if_pos (by decide), nA_3, ald_n (by omega) (by omega), ix_nI (by omega), x4]
  · rw [if_neg (by decide), if_neg (by decide), if_neg (by decide), if_neg (by decide), if_pos (by decide), nA_4, ald_n (by omega) (by omega), ix_nI (by omega), x5]
    unfold tk
    obtain ⟨v, v1, v2⟩ := h6
    rcases n2_01 h5 with e | e
    · rw [e, if_pos rfl, v2, if_neg (nI_neg1 (by omega))]
    · rw [e, if_neg i10, if_pos rfl]
theorem tell_no {a N : Nat} {b w : Int32} (f3 : ∀ k, 0 ≤ k → k ≤ 4 → ¬ w = nI k) : C_RTell a N b w C = some (-1) := by
  unfold C_RTell
  rw [if_neg (show ¬ w = (0 : Int32) from f3 0 (by omega) (by omega)), if_neg (show ¬ w = (1 : Int32) from f3 1 (by omega) (by omega)), if_neg (show ¬ w = (2 : Int32) from f3 2 (by omega) (by omega)), if_neg (show ¬ w = (3 : Int32) from f3 3 (by omega) (by omega)), if_neg (show ¬ w = (4 : Int32) from f3 4 (by omega) (by omega))]
theorem request_sim (h : Rl n P Q C R) (p k w : Int32) : ∃ a, C_request p k w C = some a ∧ R_request p k w R = some (a, R0 R) := by
  have hB : BB 0 := Or.inl rfl
  rcases h.2.2.2.2.2.2.2.1 with h8 | h8
  · have c6 := h8.2.2.2.2.2.1
    have n0 := h8.1
    refine ⟨-1, ?_, ?_⟩
    · unfold C_request
      by_cases e : p = -1
      · rw [if_pos e]
        by_cases e2 : k = 0
        · rw [if_pos e2, c6, if_neg (by decide)]
        · rw [if_neg e2]
      · rw [if_neg e]
        rcases h.pr p (R' := R) rfl with ⟨⟨g1, g2⟩, -⟩ | ⟨q, hq, -, -, -⟩
        · rw [g1, bnd_s, if_pos rfl]
        · omega
    · unfold R_request
      rw [R_isNow_e, bnd_s, show gI (R0 R) 0 0 = 0 from h8.2.1, if_pos rfl]
  · obtain ⟨d0, ⟨s, t, c, ht, hS⟩, -, -⟩ := h8
    have hn := hS.K.n6
    have hc := hS.I.c1
    have e0 : gI (R0 R) 0 0 = 1 := d0
    have em := hS.mk
    have hplR := fun (q k : Int32) (h : ∀ i, i < c → isK (gI R 16) q k i = false) => R_place_n (m0 := R) (F := gF R 17) (q := q) (k := k) hS.I.c0 hc h
    have key : ∀ (w : Int32), (C_RTell 31 6 0 w C = some (-1) ∧ R_isIn w 0 4 (R0 R) = some 0 ∧ ∀ v, C_RTell 30 324 v w C = some (-1)) ∨ ∃ j, j ≤ 4 ∧ w = nI j ∧ R_isIn w 0 4 (R0 R) = some 1 := fun w => by
      rcases isIn_c (M := C) (M' := R0 R) w 0 4 0 4 rfl rfl (by omega) (by omega) with ⟨⟨-, f2⟩, f3⟩ | ⟨j, j1, j2, rfl, -, f2⟩
      · exact Or.inl ⟨tell_no f3, f2, fun v => tell_no f3⟩
      · exact Or.inr ⟨j, j2, rfl, f2⟩
    by_cases e : p = -1
    · subst e
      by_cases e2 : k = 0
      · subst e2
        by_cases e5 : 0 < gI R 16 5
        · rcases key w with ⟨t1, t2, -⟩ | ⟨j, j1, rfl, t2⟩
          · refine ⟨-1, ?_, ?_⟩
            · unfold C_request
              rw [if_pos rfl, if_pos rfl, hS.g6, if_pos e5, t1, bnd_s]
            · unfold R_request
              rw [R_isNow_e, bnd_s, e0, if_neg i10, t2, bnd_s, if_pos rfl]
          · obtain ⟨-, -, -, -, -, b5, b6⟩ := hS.I.b e5
            have hx := hS.X.2.2.1 e5
            have t1 := tell_m (C := C) (a := 31) (b := 0) (N := 6) (f := fun k => gI R 16 (11 + k)) hx b5 b6 (j := j) j1 (by omega) (by omega)
            refine ⟨gI R 16 (11 + (1 + j)), ?_, ?_⟩
            · unfold C_request
              rw [if_pos rfl, if_pos rfl, hS.g6, if_pos e5, show C_RTell 31 6 0 (nI j) C = _ from t1, bnd_s]
            · unfold R_request
              rw [R_isNow_e, bnd_s, e0, if_neg i10, t2, bnd_s, if_neg i10]
              simp only [lett_e, ite_true]
              rw [show R_its 5 (R0 R) = _ from R_its_k5 hB, bnd_s, if_neg (fun x => by rw [i32_lt] at e5; rw [i32_le] at x; omega), if_neg (by decide), show (11 : Int32) + 1 = nI 12 from rfl, nI_add, show R_its (nI (12 + j)) (R0 R) = _ from rin hB (by omega), bnd_s, show 12 + j = 11 + (1 + j) by omega]
        · refine ⟨-1, ?_, ?_⟩
          · unfold C_request
            rw [if_pos rfl, if_pos rfl, hS.g6, if_neg e5]
          · unfold R_request
            rw [R_isNow_e, bnd_s, e0, if_neg i10]
            rcases key w with ⟨t1, t2, -⟩ | ⟨j, j1, rfl, t2⟩
            · rw [t2, bnd_s, if_pos rfl]
            · rw [t2, bnd_s, if_neg i10]
              simp only [lett_e, ite_true]
              rw [show R_its 5 (R0 R) = _ from R_its_k5 hB, bnd_s, if_pos (by rw [i32_lt] at e5; rw [i32_le]; omega)]
      · refine ⟨-1, ?_, ?_⟩
        · unfold C_request
          rw [if_pos rfl, if_neg e2]
        · unfold R_request
          rw [R_isNow_e, bnd_s, e0, if_neg i10]
          rcases key w with ⟨t1, t2, -⟩ | ⟨j, j1, rfl, t2⟩
          · rw [t2, bnd_s, if_pos rfl]
          · rw [t2, bnd_s, if_neg i10]
            simp only [lett_e, ite_true]
            rw [if_neg e2]
    · rcases h.pr p (R0_1 R) with ⟨⟨g1, g2⟩, -⟩ | ⟨q, hq, rfl, g1, g2⟩
      · refine ⟨-1, ?_, ?_⟩
        · unfold C_request
          rw [if_neg e, g1, bnd_s, if_pos rfl]
        · unfold R_request
          rw [R_isNow_e, bnd_s, e0, if_neg i10]
          rcases key w with ⟨t1, t2, -⟩ | ⟨j, j1, rfl, t2⟩
          · rw [t2, bnd_s, if_pos rfl]
          · rw [t2, bnd_s, if_neg i10]
            simp only [lett_e, ite_true]
            rw [if_neg e, g2, bnd_s, if_pos rfl]
      · rcases first_r (isK (gI R 16) (nI q) k) c with ⟨r, r1, r2, r3⟩ | hno
        · have kk := (isK_t r2).2
          have hcl := cnt_le (gI R 16) (nI q) r
          have k0 : 0 ≤ k := kk ▸ nI_pos' (by omega)
          have sp : S_RPlaceOf (nI q) k (sbM (emS 26 P) C) = some (nI (6 * r)) := by
            have := S_place_r (n := n) (F := gF R 17) hS.X.1 hS.I.c0 hc r1 r2 r3
            rwa [em] at this
          have rp : R_place (nI q) k (R0 R) = some (nI (150 + 7 * r)) := R_place_r hS.I.c0 hc r1 r2 r3
          rcases key w with ⟨-, t2, t3⟩ | ⟨j, j1, rfl, t2⟩
          · refine ⟨-1, ?_, ?_⟩
            · unfold C_request
              rw [if_neg e, g1, bnd_s, if_neg i10, if_pos k0, plnS_e _ h.1.2.2.2.1 h.PQ, sp, bnd_s, lett_e, if_pos (nI_pos' (by omega)), t3, bnd_s]
            · unfold R_request
              rw [R_isNow_e, bnd_s, e0, if_neg i10, t2, bnd_s, if_pos rfl]
          · obtain ⟨-, -, -, -, b5, b6⟩ := hS.I.r r r1
            have hx := (hS.X.1 r r1).1
            have t1 := tell_m (C := C) (a := 30) (b := 6 * r) (N := 324) (f := fun k => gI R 16 (150 + 7 * r + k)) hx b5 b6 (j := j) j1 (by omega) (by omega)
            refine ⟨gI R 16 (150 + 7 * r + (1 + j)), ?_, ?_⟩
            · unfold C_request
              rw [if_neg e, g1, bnd_s, if_neg i10, if_pos k0, plnS_e _ h.1.2.2.2.1 h.PQ, sp, bnd_s, lett_e, if_pos (nI_pos' (by omega)), t1, bnd_s]
            · unfold R_request
              rw [R_isNow_e, bnd_s, e0, if_neg i10, t2, bnd_s, if_neg i10]
              simp only [lett_e]
              rw [if_neg e, g2, bnd_s, if_neg i10, rp, bnd_s, if_neg (nI_neg1 (by omega)), nA_1, nI_add, show R_its (nI (150 + 7 * r + 1 + j)) (R0 R) = _ from rin hB (by omega), bnd_s, show 150 + 7 * r + 1 + j = 150 + 7 * r + (1 + j) by omega]
        · have sp : S_RPlaceOf (nI q) k (sbM (emS 26 P) C) = some (-1) := by
            have := S_place_n (n := n) (F := gF R 17) hS.X.1 hS.I.c0 hc hno
            rwa [em] at this
          have rp : R_place (nI q) k (R0 R) = some (-1) := R_place_n hS.I.c0 hc hno
          refine ⟨-1, ?_, ?_⟩
          · unfold C_request
            rw [if_neg e, g1, bnd_s, if_neg i10]
            by_cases k0 : 0 ≤ k
            · rw [if_pos k0, plnS_e _ h.1.2.2.2.1 h.PQ, sp, bnd_s, lett_e, if_neg (by decide)]
            · rw [if_neg k0]
          · unfold R_request
            rw [R_isNow_e, bnd_s, e0, if_neg i10]
            rcases key w with ⟨t1, t2, -⟩ | ⟨j, j1, rfl, t2⟩
            · rw [t2, bnd_s, if_pos rfl]
            · rw [t2, bnd_s, if_neg i10]
              simp only [lett_e]
              rw [if_neg e, g2, bnd_s, if_neg i10, rp, bnd_s, if_pos rfl]
theorem next_sim (h : Rl n P Q C R) (p : Int32) : ∃ a, C_next p C = some a ∧ R_next p R = some (a, R0 R) := by
  have hB : BB 0 := Or.inl rfl
  rcases h.pr p (R0_1 R) with ⟨⟨g1, g2⟩, -⟩ | ⟨q, hq, rfl, g1, g2⟩
  · refine ⟨-1, ?_, ?_⟩
    · unfold C_next; rw [g1, bnd_s, if_pos rfl]
    · unfold R_next; rw [R_isNow_e, bnd_s, g2, bnd_s, if_pos rfl]
  · obtain ⟨d0, ⟨s, t, c, ht, hS⟩, -, -⟩ := h.di hq
    have hn := hS.K.n6
    have hc := hS.I.c1
    have em := hS.mk
    obtain ⟨hd, hd1, hd2⟩ := hS.I.hd
    have hs : secs c (gI R 16) := fun i hi => by
      obtain ⟨-, ⟨x, y, -, -, xy, x1, -⟩, -⟩ := hS.I.r i hi
      have := hS.K.s9
      exact ⟨x, by omega, x1⟩
    have sn : S_RNextOf (nI q) (gI C 26 7) (sbM (emS 26 P) C) = some (oS (aNx (gI R 16) (nI q) c)) := by
      have := S_next_m (q := nI q) (F := gF R 17) (n := n) hS.X.1 hc hS.I.c0 hs hd2 hd1
      rw [em] at this
      rw [hS.g7]
      exact this
    have rn : R_nextOf (nI q) (R0 R) = some (oI (aNx (gI R 16) (nI q) c)) := R_nextOf_m hB hS.I.c0 (by omega)
    cases e : aNx (gI R 16) (nI q) c with
    | none =>
      have sn : S_RNextOf (nI q) (gI C 26 7) (sbM (emS 26 P) C) = some (-1) := by rw [sn, e]; rfl
      have rn : R_nextOf (nI q) (R0 R) = some (-1) := by rw [rn, e]; rfl
      refine ⟨-1, ?_, ?_⟩
      · unfold C_next
        rw [g1, bnd_s, if_neg i10, plnS_e _ h.1.2.2.2.1 h.PQ, sn, bnd_s, lett_e, if_neg (by decide)]
      · unfold R_next
        rw [R_isNow_e, bnd_s, g2, bnd_s, if_neg i10, rn, bnd_s, lett_e, if_pos rfl]
    | some r =>
      have hr := aNx_lt _ _ _ _ e
      have hq2 := aNx_q _ _ _ _ e
      have sn : S_RNextOf (nI q) (gI C 26 7) (sbM (emS 26 P) C) = some (nI (6 * r)) := by rw [sn, e]; rfl
      have rn : R_nextOf (nI q) (R0 R) = some (nI r) := by rw [rn, e]; rfl
      have rk : S_RRankOf (nI (6 * r)) (sbM (emS 26 P) C) = some (nI (cnt (gI R 16) (nI q) r)) := by
        have := S_rank_m (n := n) (F := gF R 17) hS.X.1 hc hr
        rw [em, hq2] at this
        exact this
      refine ⟨nI (cnt (gI R 16) (nI q) r), ?_, ?_⟩
      · unfold C_next
        rw [g1, bnd_s, if_neg i10, plnS_e _ h.1.2.2.2.1 h.PQ, sn, bnd_s, lett_e, if_pos (nI_pos' (by omega)), plnS_e _ h.1.2.2.2.1 h.PQ, rk, bnd_s]
      · unfold R_next
        rw [R_isNow_e, bnd_s, g2, bnd_s, if_neg i10, rn, bnd_s, lett_e, if_neg (nI_neg1 (by omega)), lett_e, lett_e]
        refine loopR_sq (fun i => (nI (cnt (gI R 16) (nI q) i), nI i)) r (by omega) rfl (fun i hi rec => ?_) (fun rec => ?_)
        · dsimp only
          rw [if_neg (nI_ge hi (by omega)), show R_ofRequest (nI i) 0 (R0 R) = some (gI R 16 (150 + 7 * i)) from R_ofRequest_m hB i 0 rfl rfl (by omega), bnd_s, lett_e, cnt_s]
          by_cases e2 : gI R 16 (150 + 7 * i) = nI q
          · rw [if_pos e2, if_pos e2]
            simp only [lett_e]
            rw [nA_1, nA_1]
          · rw [if_neg e2, if_neg e2]
            simp only [lett_e]
            rw [nA_0, nA_1]
        · dsimp only
          rw [if_pos (nI_le (Nat.le_refl _) (by omega))]
end RQ
