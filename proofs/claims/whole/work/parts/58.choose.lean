/-! PURE: it chooses -/
theorem aWr_cg {D D1 : Nat → Int32} {k : Nat} {q how sv : Int32} (h0 : D1 0 = D 0) (h : ∀ j, 598 ≤ j → D1 j = D j) (hk : k ≤ 40) {j : Nat} (hj : j = 9 ∨ 598 ≤ j) : aWr D1 k q how sv j = aWr D k q how sv j := by
  have e : ∀ j, 598 ≤ j → aWr1 D1 k j = aWr1 D k j := fun j hj => by
    unfold aWr1
    split
    · rw [updD_n _ _ (by omega), updD_n _ _ (by omega), ups_r, ups_r]
      split
      · exact h _ (by omega)
      · exact h j hj
    · exact h j hj
  unfold aWr
  rw [h0]
  by_cases h9 : j = 9
  · rw [h9, updD_s, updD_s]
  · rw [updD_n _ _ h9, updD_n _ _ h9]
    have hj : 598 ≤ j := by omega
    by_cases e3 : j = 598 + 4 * aWrK k + 3
    · rw [e3, updD_s, updD_s]
    · rw [updD_n _ _ e3, updD_n _ _ e3]
      by_cases e2 : j = 598 + 4 * aWrK k + 2
      · rw [e2, updD_s, updD_s]
      · rw [updD_n _ _ e2, updD_n _ _ e2]
        by_cases e1 : j = 598 + 4 * aWrK k + 1
        · rw [e1, updD_s, updD_s]
        · rw [updD_n _ _ e1, updD_n _ _ e1]
          by_cases e0 : j = 598 + 4 * aWrK k
          · rw [e0, updD_s, updD_s]
          · rw [updD_n _ _ e0, updD_n _ _ e0]
            exact e j hj
/-- a row more is kept -/
def KX (D D' : Nat → Int32) (E E' : Mm) (k T : Nat) (q how sv : Int32) : Prop := (∀ j, (j = 9 ∨ 598 ≤ j) → D' j = aWr D k q how sv j) ∧ (∀ i, gI E' 7 i = gI (eKA E T (D 0) q how sv) 7 i) ∧ gI E' 6 1 = nI (T + 1)
theorem KX.tr {D D' D2 : Nat → Int32} {E E' E2 : Mm} {k T : Nat} {q how sv : Int32} (h : KX D D' E E' k T q how sv) (h' : KFr D' D2 E' E2) : KX D D2 E E2 k T q how sv := ⟨fun j hj => by
    rcases hj with rfl | hj
    · rw [h'.1]; exact h.1 9 (Or.inl rfl)
    · rw [h'.2.1 j hj]; exact h.1 j (Or.inr hj), fun i => (h'.2.2.1 i).trans (h.2.1 i), h'.2.2.2.trans h.2.2⟩
theorem KX.tr' {D D' D2 : Nat → Int32} {E E' E2 : Mm} {k T : Nat} {q how sv : Int32} (h' : KFr D D' E E') (h0 : D' 0 = D 0) (hk : k ≤ 40) (h : KX D' D2 E' E2 k T q how sv) : KX D D2 E E2 k T q how sv := ⟨fun j hj => (h.1 j hj).trans (aWr_cg h0 h'.2.1 hk hj), fun i => by
    rw [h.2.1 i]
    unfold eKA
    rw [gI_sI, gI_sI, gI_sI, gI_sI, gI_sI, gI_sI, gI_sI, gI_sI, gI_sI, gI_sI, h0, h'.2.2.1], h.2.2⟩
section CHO
variable {m0 : Mm} {B n s t u c k T y : Nat} {D : Nat → Int32} {F : Nat → UInt32} {E : Mm}
theorem aAc_o {b j : Nat} (h1 : j ≠ 2) (h2 : j ≠ 3) (h3 : j ≠ 102 + 8 * b + 1) : aAc D b j = D j := by unfold aAc; rw [updD_n _ _ h3, updD_n _ _ h2, updD_n _ _ h1]
theorem lgX_SP (q how sv : Int32) : SP m0 (lgX m0 B y q how sv) := by
  unfold lgX
  split
  · exact SP.rf m0
  · exact (((((SP.rf m0).w _ (by omega)).w _ (by omega)).w _ (by omega)).w _ (by omega)).w _ (by omega)
theorem act_sim (hB : BB B) (hK : PK m0 n s) (hL : PL m0 n E) (I : Inv m0 n s t (t + 1) c D F) (hX : XR n c E D) (hl : ¬ 0 < D 5) (h2 : D 2 = -1) : ∃ (D' : Nat → Int32) (F' : Nat → UInt32) (E' : Mm) (c' : Nat), R_act (mkR m0 B D F) = some (mkR m0 B D' F') ∧ S_activate (mkS n E D F) = some (mkS n E' D' F') ∧ Inv m0 n s t (t + 1) c' D' F' ∧ XR n c' E' D' ∧ PL m0 n E' ∧ KFr D D' E E' ∧ CFr D D' E E' := by
  have hn := hK.n6
  have hc1 := I.c1
  obtain ⟨r1, r2⟩ := R_act_m (B := B) hB hK I.c0 hc1 I.f
  obtain ⟨s1, s2⟩ := S_act_m hK hL hX I
  cases hs : aSoon D F c n with
  | none => exact ⟨D, F, E, c, r1 hs, s1 hs, I, hX, hL, KFr.rf D E, CFr.rf D E⟩
  | some z =>
    have hz := (aSoon_p D F c n).1 z hs
    have hF1 := aNow_fb I.f (y := z) (by omega)
    cases hb : aBst D (aNow F z) c n with
    | none =>
      have h1 := (aBst_p D (aNow F z) c n).2 hb z hz.1
      have h3 := aNow_18 F z
      rw [aNow_o F z (show 0 + z ≠ 18 by omega)] at h1
      omega
    | some b =>
      obtain ⟨hbn, hbc⟩ := (aBst_p D (aNow F z) c n).1 b hb
      have hb6 : b < 6 := by omega
      have hcb : cnt (aAc D b) (nI b) c ≠ 0 := by rw [cnt_cg (D := D) (fun r hr => aAc_o (by omega) (by omega) (by omega))]; exact hbc
      cases hr : aNx (aAc D b) (nI b) c with
      | none => exact absurd ((aNx_none _ _ _).mp hr) hcb
      | some r =>
        have hrc := aNx_lt _ _ _ _ hr
        have hrq := aNx_q _ _ _ _ hr
        have a2 : aAc D b 2 = nI b := by unfold aAc; rw [updD_n _ _ (by omega), updD_n _ _ (by omega), updD_s]
        have a3 : aAc D b 3 = nI t := by unfold aAc; rw [updD_n _ _ (by omega), updD_s]; exact I.t0
        have a1 : aAc D b (102 + 8 * b + 1) = nI 0 := by unfold aAc; rw [updD_s]; rfl
        have hl' : ¬ 0 < aAc D b 5 := by rw [aAc_o (by omega) (by omega) (by omega)]; exact hl
        have I1 : Inv m0 n s t (t + 1) c (aAc D b) (aNow F z) := by
          refine ⟨?_, ?_, ?_, ?_, ?_, ?_, ?_, hF1⟩
          · obtain ⟨g1, g2, g3, g4, g5, g6, g7, g8, g9⟩ := I.g
            unfold iG
            rw [a2]
            simp (disch := omega) only [aAc_o]
            exact ⟨g1, g2, Or.inr ⟨b, hbn, rfl⟩, g4, g5, g6, g7, g8, g9⟩
          · exact I.p.cg (fun p hp => by simp (disch := omega) only [aAc_o, and_self])
          · exact I.q.cg (fun p hp => by simp (disch := omega) only [aAc_o, and_self])
          · exact I.r.cg (fun j h1 h2 => aAc_o (by omega) (by omega) (by omega))
          · exact fun h5 => absurd h5 hl'
          · intro a ha he
            rw [a2] at he
            have e : b = a := (nI_eq (by omega) (by omega)).mp he
            subst e
            exact ⟨⟨t, by omega, a3⟩, 0, a1, by omega, fun h5 => absurd h5 hl'⟩
          · exact I.o.cg (aAc_o (by omega) (by omega) (by omega)) (fun p hp => by simp (disch := omega) only [aAc_o, and_self])
        have X1 : XR n c (sI E 0 13 0) (aAc D b) := by
          obtain ⟨hW, hY, hBb, hS⟩ := hX
          refine ⟨fun i hi => ?_, fun i hi => ?_, fun h5 => absurd h5 hl', fun i hi he => ?_⟩
          · obtain ⟨⟨w1, w2, w3, w4, w5⟩, w6⟩ := hW i hi
            unfold xRow
            dsimp only at w1 w2 w3 w4 w5 ⊢
            simp (disch := omega) only [gw_n, aAc_o]
            exact ⟨⟨w1, w2, w3, w4, w5⟩, w6⟩
          · rw [gw_n _ _ _ _ (by omega), aLy_cg (D := D) (fun r hr => aAc_o (by omega) (by omega) (by omega))]
            exact hY i hi
          · rw [a2] at he
            have e : b = i := (nI_eq (by omega) (by omega)).mp he
            subst e
            rw [gw_s, a1]; rfl
        obtain ⟨-, ⟨x, yy, q1, q2, q3, q4, q5⟩, -⟩ := I1.r r hrc
        have I2 := go_Inv hK I1 (Nat.le_refl _) hrc a2 hbn hl' a1 q5 (by omega)
        have X2 := go_X (m0 := m0) hn X1 hrc hbn hc1 hrq
        refine ⟨_, _, _, c - 1, r2 z b r hs hb hr, s2 z b r hs hb hr, I2, X2, go_L (hL.w _ (by omega)) hb6, ?_, ?_⟩
        · refine KFr.tr (D' := aAc D b) (E' := sI E 0 13 0) ⟨aAc_o (by omega) (by omega) (by omega), fun j hj => aAc_o (by omega) (by omega) (by omega), fun i => gw_n _ _ _ _ (by omega), gw_n _ _ _ _ (by omega)⟩ (go_KF hb6 hrc hc1)
        · refine CFr.tr (D' := aAc D b) (E' := sI E 0 13 0) ⟨fun p i h1 h2 h3 => aAc_o (by omega) (by omega) (by omega), fun p i h1 h2 h3 => gw_n _ _ _ _ (by omega), gw_n _ _ _ _ (by omega), gw_n _ _ _ _ (by omega), fun r k hr => gw_n _ _ _ _ (by omega)⟩ (go_CF hb6)
theorem Inv.up {D : Nat → Int32} (I : Inv m0 n s t u c D F) {u' : Nat} (h : u ≤ u') : Inv m0 n s t u' c D F := ⟨I.g, I.p, I.q, I.r, fun h5 => ⟨(I.b h5).1, (I.b h5).2.mono h⟩, fun a ha h2 => ⟨(I.a a ha h2).1.mono h, (I.a a ha h2).2⟩, I.o, I.f⟩
theorem Inv.sp {m1 : Mm} (I : Inv m0 n s t u c D F) (e : SP m0 m1) : Inv m1 n s t u c D F := ⟨I.g, fun p hp => by rw [e.2 4 _ (by omega) (by omega)]; exact I.p p hp, I.q, I.r, I.b, I.a, I.o, I.f⟩
/-- one expires, and another comes -/
theorem exp_sim (hB : BB B) (hK : PK m0 n s) (hL : PL m0 n E) (I : Inv m0 n s t t c D F) (hX : XR n c E D) (hl : ¬ 0 < D 5) (hT : gI E 6 1 = nI T) (hT2 : T < 2 ^ 30) (hk : D 9 = nI k) (hk2 : k ≤ 40) (hy : B = 0 ∨ (gI m0 0 58 = nI y ∧ y ≤ 400)) {q : Nat} (h : xH n t t D q) (how : Int32) : ∃ (m1 : Mm) (D' : Nat → Int32) (F' : Nat → UInt32) (E' : Mm) (c' : Nat) (M1 : Mm) (S1 : Mm), R_expires (nI q) how (mkR m0 B D F) = some M1 ∧ R_act M1 = some (mkR m1 B D' F') ∧ S_expire (9 + 2 * q) how (mkS n E D F) = some S1 ∧ S_activate S1 = some (mkS n E' D' F') ∧ Inv m1 n s t (t + 1) c' D' F' ∧ XR n c' E' D' ∧ PL m1 n E' ∧ SP m0 m1 ∧ CFr D D' E E' ∧ m1 = lgX m0 B y (nI q) how (D (102 + 8 * q + 1)) ∧ KX D D' E E' k T (nI q) how (D (102 + 8 * q + 1)) := by
  have hn := hK.n6
  have hq := h.2.1
  have e1 := R_expires_m (how := how) hB hK I h hk hk2 hy
  have e2 := S_expire_m (how := how) (k := k) hK hL I h hX hT hT2
  have sp := lgX_SP (m0 := m0) (B := B) (y := y) (nI q) how (D (102 + 8 * q + 1))
  have I1 := (ex_Inv (how := how) (k := k) hK I h hl).sp sp
  have X1 := ex_X (m0 := m0) (F := F) (how := how) (k := k) (T := T) (tick := D 0) (qq := nI q) (sv := D (102 + 8 * q + 1)) hn hX hq I.c1 hl
  have L1 := (ex_L (how := how) (T := T) (tick := D 0) (qq := nI q) (sv := D (102 + 8 * q + 1)) hL).sp sp
  have l1 : ¬ 0 < aExD m0 D F q k how 5 := by rw [aExD_o (by omega) (by omega) (by omega) (by omega) (by omega) (by omega)]; exact hl
  obtain ⟨D', F', E', c', a1, a2, a3, a4, a5, a6, a7⟩ := act_sim hB (hK.sp sp) L1 I1 X1 l1 aExD_2
  refine ⟨_, D', F', E', c', _, _, e1, a1, e2, a2, a3, a4, a5, sp, (ex_CF (by omega)).tr a7, rfl, KX.tr ⟨fun j hj => ?_, fun i => rfl, ?_⟩ a6⟩
  · unfold aExD
    refine aWr_cg ?_ (fun i hi => ?_) hk2 hj
    · unfold aX2; simp (disch := omega) only [updD_n]
    · unfold aX2; simp (disch := omega) only [updD_n]
  · unfold eKA; rw [gw_s]
theorem choose_sim (hB : BB B) (hK : PK m0 n s) (hL : PL m0 n E) (I : Inv m0 n s t t c D F) (hX : XR n c E D) (hl : ¬ 0 < D 5) (hT : gI E 6 1 = nI T) (hT2 : T < 2 ^ 30) (hk : D 9 = nI k) (hk2 : k ≤ 40) (hy : B = 0 ∨ (gI m0 0 58 = nI y ∧ y ≤ 400)) : ∃ (m1 : Mm) (D' : Nat → Int32) (F' : Nat → UInt32) (E' : Mm) (c' : Nat), R_chooses (mkR m0 B D F) = some (mkR m1 B D' F') ∧ S_choose (mkS n E D F) = some (mkS n E' D' F') ∧ Inv m1 n s t (t + 1) c' D' F' ∧ XR n c' E' D' ∧ PL m1 n E' ∧ SP m0 m1 ∧ CFr D D' E E' ∧ ((m1 = m0 ∧ KFr D D' E E') ∨ ∃ q how sv, m1 = lgX m0 B y q how sv ∧ KX D D' E E' k T q how sv) := by
  have hn := hK.n6
  have hc1 := I.c1
  have ht := I.t1
  unfold S_choose
  rw [R_chooses_e, R_its_k2 hB, bnd_s, s0_11, lett_e]
  rcases I.ac with h2 | ⟨a, han, h2⟩
  · obtain ⟨D', F', E', c', a1, a2, a3, a4, a5, a6, a7⟩ := act_sim hB hK hL (I.up (by omega)) hX hl h2
    rw [h2, if_pos rfl, if_pos (by decide), a1]
    dsimp only
    rw [a2, bnd_s]
    exact ⟨m0, D', F', E', c', rfl, rfl, a3, a4, a5, SP.rf m0, a7, Or.inl ⟨rfl, a6⟩⟩
  · have ha6 : a < 6 := by omega
    obtain ⟨⟨bg, bg1, bg2⟩, sv, sv1, sv2, -⟩ := I.a a han h2
    have hH : xH n t t D a := ⟨h2, han, sv, bg, sv1, sv2, bg2, bg1⟩
    obtain ⟨hd, hd1, hd2⟩ := I.hd
    have hs : secs c D := fun i hi => by
      obtain ⟨-, ⟨x, y, -, -, xy, x1, -⟩, -⟩ := I.r i hi
      have := hK.s9
      exact ⟨x, by omega, x1⟩
    unfold R_keepsOn
    rw [h2, if_neg (nI_neg1 (by omega)), bnd_s, if_neg (nI_pos (by omega)), ald_n ha6 (by omega), ix_nI (by omega), R_nextOf_m hB I.c0 (by omega), bnd_s, lett_e, s0_7, S_next_m (n := n) hX.1 hc1 I.c0 hs hd2 hd1, bnd_s, lett_e]
    have fin : ∀ how : Int32, ∃ (m1 : Mm) (D' : Nat → Int32) (F' : Nat → UInt32) (E' : Mm) (c' : Nat), (bnd (bnd (R_expires (nI a) how (mkR m0 B D F)) fun M15 => some ((0 : Int32), M15)) fun r37 => if r37.1 = 0 then R_act r37.2 else some r37.2) = some (mkR m1 B D' F') ∧ (bnd (S_expire (9 + 2 * a) how (mkS n E D F)) fun M6 => (fun M_0 => bnd (S_activate M_0) fun M2 => some M2) M6) = some (mkS n E' D' F') ∧ Inv m1 n s t (t + 1) c' D' F' ∧ XR n c' E' D' ∧ PL m1 n E' ∧ SP m0 m1 ∧ CFr D D' E E' ∧ ((m1 = m0 ∧ KFr D D' E E') ∨ ∃ q how sv, m1 = lgX m0 B y q how sv ∧ KX D D' E E' k T q how sv) := by
      intro how
      obtain ⟨m1, D', F', E', c', M1, S1, x1, x2, x3, x4, x5, x6, x7, x8, x9, x10, x11⟩ := exp_sim hB hK hL I hX hl hT hT2 hk hk2 hy hH how
      refine ⟨m1, D', F', E', c', ?_, ?_, x5, x6, x7, x8, x9, Or.inr ⟨_, _, _, x10, x11⟩⟩
      · rw [x1, bnd_s, bnd_s]
        exact x2
      · rw [x3, bnd_s]
        show (bnd (S_activate S1) fun M2 => some M2) = _
        rw [x4, bnd_s]
    cases hx : aNx D (nI a) c with
    | none =>
      rw [show oI none = -1 from rfl, if_pos rfl, R_its_k0 hB, bnd_s, R_its_k4 hB, bnd_s, show oS none = -1 from rfl, if_pos (show (-1 : Int32) < 0 by decide), s0_14, s0_10]
      by_cases hu : D 4 ≤ D 0
      · rw [if_pos hu, if_pos hu]
        exact fin 2
      · rw [if_neg hu, if_neg hu, bnd_s]
        exact ⟨m0, D, F, E, c, rfl, rfl, I.up (by omega), hX, hL, SP.rf m0, CFr.rf D E, Or.inl ⟨rfl, KFr.rf D E⟩⟩
    | some r =>
      have hrc := aNx_lt _ _ _ _ hx
      have hrq := aNx_q _ _ _ _ hx
      obtain ⟨-, ⟨x, b, b1, b2, b3, b4, b5⟩, -⟩ := I.r r hrc
      dsimp only at b4 b5
      obtain ⟨⟨-, w2, -⟩, -⟩ := hX.1 r hrc
      dsimp only at w2
      have hserved : gI E 0 13 = D (102 + 8 * a + 1) := hX.2.2.2 a han h2
      obtain ⟨bu, bu1, bu2, bu3⟩ := (I.q a han).1
      rw [show oI (some r) = nI r from rfl, if_neg (nI_neg1 (by omega)), rq_1 hB ha6, bnd_s, show oS (some r) = nI (6 * r) from rfl, if_neg (nI_pos (by omega)), s0_10, s0_12, s0_17, s0_13, hserved]
      have gojs : ¬ (sv ≠ 0 ∧ bu < sv + b) → ∃ (m1 : Mm) (D' : Nat → Int32) (F' : Nat → UInt32) (E' : Mm) (c' : Nat), (bnd (bnd (R_its (0 : Int32) (mkR m0 B D F)) fun r4 => bnd (R_its (3 : Int32) (mkR m0 B D F)) fun r5 => bnd (R_its (7 : Int32) (mkR m0 B D F)) fun r6 => if (r4 - r5) < r6 then (bnd (R_goesNext (nI r) (mkR m0 B D F)) fun M7 => some ((1 : Int32), M7)) else (bnd (R_expires (nI a) (1 : Int32) (mkR m0 B D F)) fun M8 => some ((0 : Int32), M8))) fun r37 => if r37.1 = 0 then R_act r37.2 else some r37.2) = some (mkR m1 B D' F') ∧ (if D 0 - D 3 < D 7 then (bnd (S_go (nI (6 * r)) (mkS n E D F)) fun M7 => some M7) else (bnd (S_expire (9 + 2 * a) (1 : Int32) (mkS n E D F)) fun M8 => (fun M_0 => bnd (S_activate M_0) fun M2 => some M2) M8)) = some (mkS n E' D' F') ∧ Inv m1 n s t (t + 1) c' D' F' ∧ XR n c' E' D' ∧ PL m1 n E' ∧ SP m0 m1 ∧ CFr D D' E E' ∧ ((m1 = m0 ∧ KFr D D' E E') ∨ ∃ q how sv, m1 = lgX m0 B y q how sv ∧ KX D D' E E' k T q how sv) := by
        intro hns
        rw [R_its_k0 hB, bnd_s, R_its_k3 hB, bnd_s, R_its_k7 hB, bnd_s]
        by_cases hsl : D 0 - D 3 < D 7
        · rw [if_pos hsl, if_pos hsl, R_goesNext_m hB hK I.c0 hc1 hrc, bnd_s, bnd_s, S_go_m hK hL hX.1 I.r I.c0 hc1 hrc h2 han hd2 hd1, bnd_s]
          exact ⟨m0, _, F, _, c - 1, rfl, rfl, go_Inv hK I (by omega) hrc h2 han hl sv1 b5 (by omega), go_X hn hX hrc han hc1 hrq, go_L hL ha6, SP.rf m0, go_CF ha6, Or.inl ⟨rfl, go_KF ha6 hrc hc1⟩⟩
        · rw [if_neg hsl, if_neg hsl]
          exact fin 1
      by_cases h0 : D (102 + 8 * a + 1) = 0
      · have hz : sv = 0 := by
          rw [sv1] at h0
          exact (nI_eq (by omega) (by decide)).mp (show nI sv = nI 0 from h0)
        obtain ⟨m1, D', F', E', c', y1, y2, y3⟩ := gojs (by omega)
        refine ⟨m1, D', F', E', c', ?_, ?_, y3⟩
        · rw [lett_e, if_pos h0]; exact y1
        · rw [lett_e, if_pos h0]; exact y2
      · have hz : sv ≠ 0 := by
          rintro rfl
          exact h0 sv1
        rw [lett_e, if_neg h0, lett_e, if_neg h0, rr_2 hB (by omega), bnd_s, bnd_s, rq_0 hB ha6, bnd_s, nA_1, ald_n (by omega) (by omega), ix_nI (by omega), s4, w2, sQ_3 _ _ _ ⟨han, hn⟩, sv1, b5, bu3, nI_add]
        by_cases hle : nI (sv + b) ≤ nI bu
        · have hle' := (nI_leI (by omega) (by omega)).mp hle
          obtain ⟨m1, D', F', E', c', y1, y2, y3⟩ := gojs (by omega)
          refine ⟨m1, D', F', E', c', ?_, ?_, y3⟩
          · rw [if_pos hle]; exact y1
          · rw [if_pos hle]; exact y2
        · rw [if_neg hle, if_neg hle]
          exact fin 0
end CHO
