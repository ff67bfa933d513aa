/-! PURE: any statement -/
section ANY
variable {l T : Nat} {B : Nat → Nat} {M R M' R' : Mm}
def stR (R : Mm) : Option Mm := bnd (R_word R) fun M22 => bnd (R_goes M22) fun r23 => if r23 = 0 then R_endsWell M22 else (bnd (R_own M22) fun r27 => bnd (R_readsOne r27 M22) fun M28 => R_endsWell M28)
theorem st_k {β : Type} (R : Mm) (k : Mm → Option β) : (bnd (R_word R) fun M22 => bnd (R_goes M22) fun r23 => lett (fun (M_23 : Mm) => bnd (R_endsWell M_23) fun M25 => k M25) fun j135 => if r23 = 0 then (j135 M22) else (bnd (R_own M22) fun r27 => bnd (R_readsOne r27 M22) fun M28 => j135 M28)) = bnd (stR R) k := by
  unfold stR
  cases R_word R with
  | none => rfl
  | some M22 =>
    rw [bnd_s, bnd_s]
    cases R_goes M22 with
    | none => rfl
    | some r =>
      rw [bnd_s, bnd_s, lett_e]
      by_cases e : r = 0
      · rw [if_pos e, if_pos e]
      · rw [if_neg e, if_neg e]
        cases R_own M22 with
        | none => rfl
        | some r27 =>
          rw [bnd_s, bnd_s]
          cases R_readsOne r27 M22 with
          | none => rfl
          | some M28 => rw [bnd_s, bnd_s]
theorem Lf.sign {s c n : Nat} {M1 R1 : Mm} (h : Lf l B T s c n M R M1 R1) : ∃ M' R', P_DExpectSign 59 M1 = some M' ∧ R_endsWell R1 = some R' ∧ Lf l B T s c n M R M' R' := by
  obtain ⟨h1, h2, h3, h4⟩ := h
  obtain ⟨M', R', a1, a2, a3, a4, a5, a6⟩ := exSign h1
  refine ⟨M', R', a1, a2, a3, h2.tr (.p a4), h3.tr (.p a5), fun e => ?_⟩
  obtain ⟨c', n', b1, b2⟩ := h4 (a6 e).1
  exact ⟨c', n', b1.fr (fun a i q => a4.i (by omega)) (fun a i q => a5.i (by omega)), b2⟩
theorem one_other {j : Nat} (hj : j < 20) (h1 : ¬ (j = 14 ∨ j = 19)) (h2 : ¬ (j = 3 ∨ j = 5 ∨ j = 6 ∨ j = 7 ∨ j = 8)) (R1 : Mm) : R_readsOne (nI j) R1 = bnd (R_fails 1 (gI R1 0 45) R1) fun M20 => some M20 := by
  have : j = 0 ∨ j = 1 ∨ j = 2 ∨ j = 4 ∨ j = 9 ∨ j = 10 ∨ j = 11 ∨ j = 12 ∨ j = 13 ∨ j = 15 ∨ j = 16 ∨ j = 17 ∨ j = 18 := by omega
  rcases this with e | e | e | e | e | e | e | e | e | e | e | e | e <;> subst e <;> rfl
theorem once_w {j : Nat} (hj : j < 20) : (wOnce (1000 + j) = 0 ↔ ¬ (j = 3 ∨ j = 5 ∨ j = 6 ∨ j = 7 ∨ j = 8)) := by
  have : ∀ j, j < 20 → (wOnce (1000 + j) = 0 ↔ ¬ (j = 3 ∨ j = 5 ∨ j = 6 ∨ j = 7 ∨ j = 8)) := by decide +kernel
  exact this j hj
theorem stmt_sim (h : Zt l B T M R) (h8 : gI M 0 8 = 0) {s c n : Nat} (gd : Gd s c n M R) : ∃ M' R', P_DReadStatement M = some M' ∧ stR R = some R' ∧ Lf l B T s c n M R M' R' := by
  obtain ⟨R1, k, s0, k1, k2, ks, s2, w1, w2, w3, w4⟩ := word_R h h8
  have hT := h.2.1.1
  have ok := h.2.2.2.2.2.2 k (by omega)
  have pc : ∀ r, (if gR M 4 k = none then (bnd (P_DFail 1 (nI s0) M) fun M9 => bnd (P_DExpectSign 59 M9) fun M3 => some M3) else (nn (gR M 4 k) fun c4 => grd (isW c4) (if wOnce c4 = 0 then (lett (fun (_ : Unit) => bnd (P_DReadProcess c4 M) fun M6 => bnd (P_DExpectSign 59 M6) fun M3 => some M3) fun j60 => grd (okW (some c4) = true ∧ okW (some 1019) = true) (if (some c4) = (some 1019) then (j60 ()) else (grd (okW (some c4) = true ∧ okW (some 1014) = true) (if (some c4) = (some 1014) then (j60 ()) else (bnd (P_DFail 1 (nI s0) M) fun M7 => bnd (P_DExpectSign 59 M7) fun M3 => some M3))))) else (bnd (P_DReadSetting c4 M) fun M8 => bnd (P_DExpectSign 59 M8) fun M3 => some M3)))) = r → P_DReadStatement M = r := fun r hr => by
    unfold P_DReadStatement
    rw [k2, ald_n (by omega) (by omega), ix_nI (by omega), lett_e, lett_e, ald_n (by omega) (by omega), ks]
    simp only [ald_n (show k < 1601 by omega) (by omega)]
    exact hr
  have fl : ∀ (R2 : Mm), RFr R R2 → gI R2 0 46 = 1 → gI R2 0 47 = nI s0 → ∃ M' R', (bnd (P_DFail 1 (nI s0) M) fun M9 => bnd (P_DExpectSign 59 M9) fun M3 => some M3) = some M' ∧ R_endsWell R2 = some R' ∧ Lf l B T s c n M R M' R' := fun R2 q1 q2 q3 => by
    obtain ⟨M', R', b1, b2, b3⟩ := (Lf.fail (M' := sI (sI M 0 8 1) 0 9 (nI s0)) (R' := R2) (s := s) (c := c) (n := n) h (f := 1) (p := nI s0) (by decide) PFr.fail (.p q1) k1 (by rw [gw_n _ _ _ _ (by omega), gw_n _ _ _ _ (by omega)]; exact k2) (by rw [gw_n _ _ _ _ (by omega), gw_s]) (gw_s _ _ _ _) q2 q3).sign
    exact ⟨M', R', by rw [fail_P _ _ h8, bnd_s, b1, bnd_s], b2, b3⟩
  rcases w4 with ⟨n1, a1, a2, a3, a4, a5, a6, a7, a8, a9⟩ | ⟨a1, a2, a3, a4, a5⟩
  · have rc : ∀ r, (bnd (R_readsOne (ownI (gR M 4 k)) R1) fun M28 => R_endsWell M28) = r → stR R = r := fun r hr => by
      unfold stR
      rw [w1, bnd_s, goes_t a6, bnd_s, if_neg i10, a8, bnd_s]
      exact hr
    have fl2 : ∃ M' R', (bnd (P_DFail 1 (nI s0) M) fun M9 => bnd (P_DExpectSign 59 M9) fun M3 => some M3) = some M' ∧ (bnd (bnd (R_fails 1 (gI R1 0 45) R1) fun M20 => some M20) fun M28 => R_endsWell M28) = some R' ∧ Lf l B T s c n M R M' R' := by
      obtain ⟨M', R', b1, b2, b3⟩ := fl (sI (sI R1 0 46 1) 0 47 (nI s0)) (w2.tr RFr.fail) (by rw [gw_n _ _ _ _ (by omega), gw_s]) (gw_s _ _ _ _)
      exact ⟨M', R', b1, by rw [w3, fail_R _ _ a6, bnd_s, bnd_s, b2], b3⟩
    cases hy : gR M 4 k with
    | none =>
      obtain ⟨M', R', b1, b2, b3⟩ := fl2
      refine ⟨M', R', pc _ (by rw [hy, if_pos rfl]; exact b1), rc _ ?_, b3⟩
      rw [hy]
      exact b2
    | some wv =>
      obtain ⟨j, hj, ej⟩ : ∃ j, j < 20 ∧ wv = 1000 + j := by
        rw [hy] at ok
        have h2 : (Nat.ble 1000 wv && Nat.blt wv 1020) = true := ok
        rw [Bool.and_eq_true] at h2
        have h3 : 1000 ≤ wv := Nat.ble_eq.mp h2.1
        have h4 : wv < 1020 := Nat.blt_eq.mp h2.2
        exact ⟨wv - 1000, by omega, by omega⟩
      subst ej
      have eo : ownI (some (1000 + j)) = nI j := by
        show nI (1000 + j - 1000) = nI j
        rw [show 1000 + j - 1000 = j by omega]
      have iw : isW (1000 + j) := ⟨by omega, by omega⟩
      have o1 := okW_20 hj
      by_cases hs : j = 3 ∨ j = 5 ∨ j = 6 ∨ j = 7 ∨ j = 8
      · obtain ⟨M1, R2, b1, b2, b3⟩ := sets_st h h8 gd a1 k2 ks hs hy w2 w3 a6 a7 a5 a9
        obtain ⟨M', R', c1, c2, c3⟩ := b3.sign
        refine ⟨M', R', pc _ ?_, rc _ ?_, c3⟩
        · rw [hy, if_neg (by simp), nn_s, grd_t iw, if_neg (fun q => (once_w hj).mp q hs), b1, bnd_s, c1, bnd_s]
        · rw [hy, eo, b2, bnd_s, c2]
      · by_cases hp : j = 14 ∨ j = 19
        · obtain ⟨M1, R2, b1, b2, b3⟩ := proc_st h h8 gd a1 k2 ks hp hy w2 w3 a6 a7 a5 a9
          obtain ⟨M', R', c1, c2, c3⟩ := b3.sign
          refine ⟨M', R', pc _ ?_, rc _ ?_, c3⟩
          · rw [hy, if_neg (by simp), nn_s, grd_t iw, if_pos ((once_w hj).mpr hs), lett_e, grd_t ⟨o1, rfl⟩]
            have fin : (bnd (P_DReadProcess (1000 + j) M) fun M6 => bnd (P_DExpectSign 59 M6) fun M3 => some M3) = some M' := by rw [b1, bnd_s, c1, bnd_s]
            rcases hp with hp | hp
            · subst hp
              rw [if_neg (by decide), grd_t ⟨rfl, rfl⟩, if_pos rfl]
              exact fin
            · subst hp
              rw [if_pos rfl]
              exact fin
          · rw [hy, eo]
            rcases hp with hp | hp
            · subst hp
              rw [if_pos rfl] at b2
              show (bnd (bnd (R_readsProcess 1 R1) fun M2 => some M2) fun M28 => R_endsWell M28) = some R'
              rw [b2, bnd_s, bnd_s, c2]
            · subst hp
              rw [if_neg (by omega)] at b2
              show (bnd (bnd (R_readsProcess 0 R1) fun M2 => some M2) fun M28 => R_endsWell M28) = some R'
              rw [b2, bnd_s, bnd_s, c2]
        · obtain ⟨M', R', b1, b2, b3⟩ := fl2
          refine ⟨M', R', pc _ ?_, rc _ ?_, b3⟩
          · rw [hy, if_neg (by simp), nn_s, grd_t iw, if_pos ((once_w hj).mpr hs), lett_e, grd_t ⟨o1, rfl⟩, if_neg (fun q => by have := Option.some.inj q; omega), grd_t ⟨o1, rfl⟩, if_neg (fun q => by have := Option.some.inj q; omega)]
            exact b1
          · rw [hy, eo, one_other hj hp hs]
            exact b2
  · obtain ⟨M', R', b1, b2, b3⟩ := fl R1 w2 a3 a4
    refine ⟨M', R', pc _ (by rw [if_pos a1]; exact b1), ?_, b3⟩
    unfold stR
    rw [w1, bnd_s, goes_f (by rw [a3]; decide), bnd_s, if_pos rfl]
    exact b2
end ANY
