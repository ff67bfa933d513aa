/-! PURE: settings as statements, and any statement -/
section STMT2
variable {l T : Nat} {B : Nat → Nat} {M R M' R' : Mm}
theorem once_R {R1 : Mm} {n b s0 : Nat} {p1 : Int32} (w3 : gI R1 0 46 = 0) (w2 : gI R1 0 45 = nI s0) (h31 : gI R1 0 31 = mk2 n) (hn : n < 32) (hb5 : b < 5) (hb : (1 : Int32) <<< (p1 &&& 31) = nI (bt2 b)) : (nI n &&& nI (2 ^ b) = 0 ∧ n + 2 ^ b < 32 ∧ nI n ||| nI (2 ^ b) = nI (n + 2 ^ b) ∧ pop (n + 2 ^ b) = pop n + 1 ∧ R_once p1 R1 = some (1, sI R1 0 31 (mk2 (n + 2 ^ b)))) ∨ (¬ nI n &&& nI (2 ^ b) = 0 ∧ ∃ v, R_once p1 R1 = some (0, sI (sI (sI R1 0 46 5) 0 47 (nI s0)) 0 31 v)) := by
  rcases once_d n hn b hb5 with ⟨a1, a2, a3, a4, a5, a6⟩ | ⟨a1, a2⟩
  · refine Or.inl ⟨a1, a3, a4, a6, ?_⟩
    unfold R_once
    rw [goes_t w3, bnd_s, if_neg i10, lett_e, lett_e, hb, h31, if_pos a2]
    dsimp only
    rw [lett_e, h31, a5, goes_t (by rw [gw_n _ _ _ _ (by omega)]; exact w3), bnd_s, grd_t (Or.inr rfl)]
  · refine Or.inr ⟨a1, gI (sI (sI R1 0 46 5) 0 47 (nI s0)) 0 31 ||| nI (bt2 b), ?_⟩
    unfold R_once
    rw [goes_t w3, bnd_s, if_neg i10, lett_e, lett_e, hb, h31, if_neg a2, w2, fail_R _ _ w3, bnd_s]
    dsimp only
    rw [lett_e, goes_f (by rw [gw_n _ _ _ _ (by omega), gw_n _ _ _ _ (by omega), gw_s]; decide), bnd_s, grd_t (Or.inl rfl)]
theorem set_st (h : Zt l B T M R) (h8 : gI M 0 8 = 0) {s c n k s0 : Nat} (gd : Gd s c n M R) (k1 : k < T) (k2 : gI M 0 6 = nI k) (ks : gI M 2 k = nI s0) {j : Nat} (hj : j < 20) (e : gR M 4 k = some (1000 + j)) {R1 : Mm} (w1 : RFr R R1) (w2 : gI R1 0 45 = nI s0) (w3 : gI R1 0 46 = 0) (w4 : gI R1 0 47 = gI R 0 47) {pos : Nat} (w5 : gI R1 0 44 = nI pos) (w6 : AtT l B M T (k + 1) pos) {b f g : Nat} (hb5 : b < 5) (hb : (1 : Int32) <<< (nI j &&& 31) = nI (bt2 b)) (hfg : 3 ≤ f ∧ g ≤ 10) (sC sR : Mm → Option Mm) (hC : P_DReadSetting (1000 + j) M = if gI M 0 7 &&& nI (2 ^ b) = 0 then (bnd (P_DExpectWord (1000 + j) (sI M 0 7 (gI M 0 7 ||| nI (2 ^ b)))) fun M2 => sC M2) else ald (gI M 0 6) 1601 (bnd (P_DFail 5 (gI M 2 (ix (gI M 0 6))) M) fun M22 => some M22)) (hR : R_readsOne (nI j) R1 = bnd (R_once (nI j) R1) fun r3 => if r3.1 = 0 then some r3.2 else sR r3.2) (hS : ∀ M R, Zt l B T M R → ∃ M' R', sC M = some M' ∧ sR R = some R' ∧ Zt l B T M' R' ∧ MFf f g M M' ∧ RFf f g R R' ∧ (gI M' 0 8 = 0 → Pf M R → Pf M' R')) : ∃ M' R', P_DReadSetting (1000 + j) M = some M' ∧ R_readsOne (nI j) R1 = some R' ∧ Lf l B T s c n M R M' R' := by
  obtain ⟨g1, g2, g3, g4, g5⟩ := gd
  have hT := h.2.1.1
  rw [g3] at hC
  rcases once_R (p1 := nI j) w3 w2 ((w1.i (by omega)).trans g4) g5 hb5 hb with ⟨o1, o2, o3, o4, o5⟩ | ⟨o1, v, o2⟩
  · rw [if_pos o1, o3] at hC
    rw [o5, bnd_s, if_neg i10] at hR
    have z1 : Zt l B T (sI M 0 7 (nI (n + 2 ^ b))) R := h.fr (fun a i q => gw_n _ _ _ _ (by omega)) (fun i => rfl) (fun a i q => rfl)
    rw [word_C z1 (by rw [gw_n _ _ _ _ (by omega)]; exact h8) (Nat.le_of_lt k1) (by rw [gw_n _ _ _ _ (by omega)]; exact k2) hj e, bnd_s] at hC
    have z2 : Zt l B T (sI M 0 6 (nI (k + 1))) R1 := h.go (PFr.w (by omega)) w1 (k := k + 1) (by omega) (gw_s _ _ _ _) (fun _ => ⟨pos, w5, w6⟩) (by rw [gw_n _ _ _ _ (by omega), w3]; exact h8) (by rw [gw_n _ _ _ _ (by omega), w4]; exact h.2.2.2.2.2.1)
    have z3 : Zt l B T (sI (sI M 0 7 (nI (n + 2 ^ b))) 0 6 (nI (k + 1))) (sI R1 0 31 (mk2 (n + 2 ^ b))) := z2.fr (fun a i q => by rw [gI_sI, gI_sI, gI_sI, if_neg (show ¬ (a = 0 ∧ i = 7) by omega)]) (fun i => rfl) (fun a i q => gw_n _ _ _ _ (by omega))
    obtain ⟨M', R', a1, a2, a3, a4, a5, a6⟩ := hS _ _ z3
    refine ⟨M', R', hC.trans a1, hR.trans a2, a3, ⟨fun a i q1 q2 => ?_, a4.2⟩, ⟨fun a i q1 q2 q3 => ?_, a5.2.trans w1.2⟩, fun f8 => ⟨c, n + 2 ^ b, ⟨a6 f8 ?_, ?_, ?_, ?_, o2⟩, by omega⟩⟩
    · rw [a4.1 _ _ (by omega) (by omega), gw_n _ _ _ _ (by omega), gw_n _ _ _ _ (by omega)]
    · rw [a5.1 _ _ (by omega) (by omega), gw_n _ _ _ _ (by omega), w1.i q2]
    · exact g1.fr (fun j hj => by rw [gw_n _ _ _ _ (by omega), gw_n _ _ _ _ (by omega)]) (fun j hj => by rw [gw_n _ _ _ _ (by omega), w1.i (by omega)])
    · exact g2.fr (fun a i q => by rw [a4.1 _ _ (by omega) (by omega), gw_n _ _ _ _ (by omega), gw_n _ _ _ _ (by omega)]) (fun a i q => by rw [a5.1 _ _ (by omega) (by omega), gw_n _ _ _ _ (by omega), w1.i (by omega)])
    · rw [a4.1 _ _ (by omega) (by omega), gw_n _ _ _ _ (by omega), gw_s]
    · rw [a5.1 _ _ (by omega) (by omega), gw_s]
  · rw [if_neg o1, k2, ald_n (by omega) (by omega), ix_nI (by omega), ks, fail_P _ _ h8, bnd_s] at hC
    rw [o2, bnd_s, if_pos rfl] at hR
    refine ⟨_, _, hC, hR, Lf.fail h (f := 5) (p := nI s0) (by decide) PFr.fail ⟨fun a i q1 q2 q3 => ?_, ?_⟩ (Nat.le_of_lt k1) (by rw [gw_n _ _ _ _ (by omega), gw_n _ _ _ _ (by omega)]; exact k2) (by rw [gw_n _ _ _ _ (by omega), gw_s]) (gw_s _ _ _ _) (by rw [gw_n _ _ _ _ (by omega), gw_n _ _ _ _ (by omega), gw_s]) (by rw [gw_n _ _ _ _ (by omega), gw_s])⟩
    · rw [gw_n _ _ _ _ (by omega), gw_n _ _ _ _ (by omega), gw_n _ _ _ _ (by omega), w1.i q2]
    · exact w1.2
theorem Pf.up {f g : Nat} (h : Pf M R) (a4 : MFf f g M M') (a5 : RFf f g R R') (hv : ∀ j, f ≤ j → j ≤ g → gI M' 7 j = gI R' 0 (20 + j)) (hf : 1 ≤ f) (x1 : f ≤ 1 → 1 ≤ g → isR 1 501 (gI R' 0 21)) (x2 : f ≤ 2 → 2 ≤ g → isR 1 65 (gI R' 0 22)) (x3 : ¬ (g < 3 ∨ 4 < f) → ∃ lo hi, gI R' 0 23 = nI lo ∧ gI R' 0 24 = nI hi ∧ 1 ≤ lo ∧ lo ≤ hi ∧ hi < 1000) (x5 : f ≤ 5 → 5 ≤ g → isN 21 (gI R' 0 25)) (x6 : f ≤ 6 → 6 ≤ g → isR 1 201 (gI R' 0 26)) (x7 : f ≤ 7 → 7 ≤ g → isN 1000 (gI R' 0 27)) (x8 : f ≤ 8 → 8 ≤ g → isR 1 21 (gI R' 0 28)) (x9 : f ≤ 9 → 9 ≤ g → isN 501 (gI R' 0 29)) (x10 : f ≤ 10 → 10 ≤ g → isN 1000 (gI R' 0 30)) : Pf M' R' := by
  obtain ⟨h1, h2, h3, h4, h5, h6, h7, h8, h9, h10⟩ := h
  have ro : ∀ j, j < 11 → ¬ (f ≤ j ∧ j ≤ g) → gI R' 0 (20 + j) = gI R 0 (20 + j) := fun j q1 q2 => a5.1 _ _ (by omega) (by omega)
  have cas : ∀ (j : Nat) (Q : Int32 → Prop), j < 11 → Q (gI R 0 (20 + j)) → (f ≤ j → j ≤ g → Q (gI R' 0 (20 + j))) → Q (gI R' 0 (20 + j)) := fun j Q q1 q2 q3 => by
    by_cases q : f ≤ j ∧ j ≤ g
    · exact q3 q.1 q.2
    · rw [ro j q1 q]; exact q2
  refine ⟨fun j hj => ?_, cas 1 _ (by omega) h2 x1, cas 2 _ (by omega) h3 x2, ?_, cas 5 _ (by omega) h5 x5, cas 6 _ (by omega) h6 x6, cas 7 _ (by omega) h7 x7, cas 8 _ (by omega) h8 x8, cas 9 _ (by omega) h9 x9, cas 10 _ (by omega) h10 x10⟩
  · by_cases q : f ≤ j ∧ j ≤ g
    · exact hv j q.1 q.2
    · rw [ro j hj q, a4.1 _ _ (by omega) (by omega)]; exact h1 j hj
  · by_cases q : g < 3 ∨ 4 < f
    · have e3 : gI R' 0 23 = gI R 0 23 := ro 3 (by omega) (by omega)
      have e4 : gI R' 0 24 = gI R 0 24 := ro 4 (by omega) (by omega)
      rw [e3, e4]; exact h4
    · exact x3 q
theorem hS3 (M R : Mm) (h : Zt l B T M R) : ∃ M' R', set3C M = some M' ∧ set3R R = some R' ∧ Zt l B T M' R' ∧ MFf 3 4 M M' ∧ RFf 3 4 R R' ∧ (gI M' 0 8 = 0 → Pf M R → Pf M' R') := by
  obtain ⟨M', R', a1, a2, a3, a4, a5, a6⟩ := set3 h
  refine ⟨M', R', a1, a2, a3, a4, a5, fun e p => ?_⟩
  obtain ⟨b1, b2, b3, b4⟩ := a6 e
  exact p.up a4 a5 (fun j q1 q2 => by
    obtain rfl | rfl : j = 3 ∨ j = 4 := by omega
    · exact b2
    · exact b3) (by omega) (by omega) (by omega) (fun _ => b4) (by omega) (by omega) (by omega) (by omega) (by omega) (by omega)
theorem hS8 (M R : Mm) (h : Zt l B T M R) : ∃ M' R', set8C M = some M' ∧ set8R R = some R' ∧ Zt l B T M' R' ∧ MFf 8 10 M M' ∧ RFf 8 10 R R' ∧ (gI M' 0 8 = 0 → Pf M R → Pf M' R') := by
  obtain ⟨M', R', a1, a2, a3, a4, a5, a6⟩ := set8 h
  refine ⟨M', R', a1, a2, a3, a4, a5, fun e p => ?_⟩
  obtain ⟨b1, b2, b3, b4⟩ := a6 e
  exact p.up a4 a5 (fun j q1 q2 => by
    obtain rfl | rfl | rfl : j = 8 ∨ j = 9 ∨ j = 10 := by omega
    · exact b2.1
    · exact b3.1
    · exact b4.1) (by omega) (by omega) (by omega) (by omega) (by omega) (by omega) (by omega) (fun _ _ => b2.2) (fun _ _ => b3.2) (fun _ _ => b4.2)
theorem hS5 (M R : Mm) (h : Zt l B T M R) : ∃ M' R', (bnd (P_DExpectNumber (0 : Int32) (20 : Int32) M) fun r15 => lett (sI r15.2 7 5 r15.1) fun M16 => some M16) = some M' ∧ (bnd (R_number (0 : Int32) (20 : Int32) R) fun r14 => lett (sI r14.2 0 25 r14.1) fun M15 => some M15) = some R' ∧ Zt l B T M' R' ∧ MFf 5 5 M M' ∧ RFf 5 5 R R' ∧ (gI M' 0 8 = 0 → Pf M R → Pf M' R') := by
  obtain ⟨M', R', a1, a2, a3, a4, a5, a6⟩ := set1 h (p1 := 0) (p2 := 20) (f := 5) (by omega) (lo := 0) (hi := 20) rfl rfl (by omega) (by omega)
  refine ⟨M', R', a1, a2, a3, a4, a5, fun e p => ?_⟩
  obtain ⟨b1, b2, b3⟩ := a6 e
  exact p.up a4 a5 (fun j q1 q2 => by
    obtain rfl : j = 5 := by omega
    exact b2) (by omega) (by omega) (by omega) (by omega) (fun _ _ => b3.n) (by omega) (by omega) (by omega) (by omega) (by omega)
theorem hS6 (M R : Mm) (h : Zt l B T M R) : ∃ M' R', (bnd (P_DExpectNumber (1 : Int32) (200 : Int32) M) fun r13 => lett (sI r13.2 7 6 r13.1) fun M14 => some M14) = some M' ∧ (bnd (R_number (1 : Int32) (200 : Int32) R) fun r12 => lett (sI r12.2 0 26 r12.1) fun M13 => some M13) = some R' ∧ Zt l B T M' R' ∧ MFf 6 6 M M' ∧ RFf 6 6 R R' ∧ (gI M' 0 8 = 0 → Pf M R → Pf M' R') := by
  obtain ⟨M', R', a1, a2, a3, a4, a5, a6⟩ := set1 h (p1 := 1) (p2 := 200) (f := 6) (by omega) (lo := 1) (hi := 200) rfl rfl (by omega) (by omega)
  refine ⟨M', R', a1, a2, a3, a4, a5, fun e p => ?_⟩
  obtain ⟨b1, b2, b3⟩ := a6 e
  exact p.up a4 a5 (fun j q1 q2 => by
    obtain rfl : j = 6 := by omega
    exact b2) (by omega) (by omega) (by omega) (by omega) (by omega) (fun _ _ => b3) (by omega) (by omega) (by omega) (by omega)
theorem hS7 (M R : Mm) (h : Zt l B T M R) : ∃ M' R', (bnd (P_DExpectNumber (0 : Int32) (999 : Int32) M) fun r11 => lett (sI r11.2 7 7 r11.1) fun M12 => some M12) = some M' ∧ (bnd (R_number (0 : Int32) (999 : Int32) R) fun r10 => lett (sI r10.2 0 27 r10.1) fun M11 => some M11) = some R' ∧ Zt l B T M' R' ∧ MFf 7 7 M M' ∧ RFf 7 7 R R' ∧ (gI M' 0 8 = 0 → Pf M R → Pf M' R') := by
  obtain ⟨M', R', a1, a2, a3, a4, a5, a6⟩ := set1 h (p1 := 0) (p2 := 999) (f := 7) (by omega) (lo := 0) (hi := 999) rfl rfl (by omega) (by omega)
  refine ⟨M', R', a1, a2, a3, a4, a5, fun e p => ?_⟩
  obtain ⟨b1, b2, b3⟩ := a6 e
  exact p.up a4 a5 (fun j q1 q2 => by
    obtain rfl : j = 7 := by omega
    exact b2) (by omega) (by omega) (by omega) (by omega) (by omega) (by omega) (fun _ _ => b3.n) (by omega) (by omega) (by omega)
theorem sets_st (h : Zt l B T M R) (h8 : gI M 0 8 = 0) {s c n k s0 : Nat} (gd : Gd s c n M R) (k1 : k < T) (k2 : gI M 0 6 = nI k) (ks : gI M 2 k = nI s0) {j : Nat} (hj : j = 3 ∨ j = 5 ∨ j = 6 ∨ j = 7 ∨ j = 8) (e : gR M 4 k = some (1000 + j)) {R1 : Mm} (w1 : RFr R R1) (w2 : gI R1 0 45 = nI s0) (w3 : gI R1 0 46 = 0) (w4 : gI R1 0 47 = gI R 0 47) {pos : Nat} (w5 : gI R1 0 44 = nI pos) (w6 : AtT l B M T (k + 1) pos) : ∃ M' R', P_DReadSetting (1000 + j) M = some M' ∧ R_readsOne (nI j) R1 = some R' ∧ Lf l B T s c n M R M' R' := by
  have rr : ∀ j, j < 20 → okW (some (1000 + j)) = true := fun j hj => okW_20 hj
  rcases hj with hj | hj | hj | hj | hj
  · subst hj
    refine set_st h h8 gd k1 k2 ks (by omega) e w1 w2 w3 w4 w5 w6 (b := 0) (by omega) (by decide) (by omega) set3C set3R ?_ ?_ hS3
    · unfold P_DReadSetting
      simp only [lett_e, grd_t (show okW (some (1000 + 3)) = true ∧ okW (some 1003) = true from ⟨rfl, rfl⟩), if_true]
      rfl
    · rfl
  · subst hj
    refine set_st h h8 gd k1 k2 ks (by omega) e w1 w2 w3 w4 w5 w6 (b := 1) (by omega) (by decide) (by omega) _ _ ?_ ?_ hS5
    · rfl
    · rfl
  · subst hj
    refine set_st h h8 gd k1 k2 ks (by omega) e w1 w2 w3 w4 w5 w6 (b := 2) (by omega) (by decide) (by omega) _ _ ?_ ?_ hS6
    · rfl
    · rfl
  · subst hj
    refine set_st h h8 gd k1 k2 ks (by omega) e w1 w2 w3 w4 w5 w6 (b := 3) (by omega) (by decide) (by omega) _ _ ?_ ?_ hS7
    · rfl
    · rfl
  · subst hj
    refine set_st h h8 gd k1 k2 ks (by omega) e w1 w2 w3 w4 w5 w6 (b := 4) (by omega) (by decide) (by omega) set8C set8R ?_ ?_ hS8
    · rfl
    · rfl
end STMT2
