/-! PURE: a process's turn in a tick -/
section STEP
variable {m0 : Mm} {B n s t c : Nat} {D : Nat → Int32} {F : Nat → UInt32} {E : Mm}
theorem room_c (hn : n ≤ 6) (hP : iP m0 n D) (hO : iO n c D) {p : Nat} (hp : p < n) (h8 : (D (18 + 14 * p + 5)).toInt ≤ 8) : c < 54 := by
  have h9 := out_9 hP hO
  have hl := (out_le (p := p) h9).2 hp
  have hs := hO.1
  split at hs <;> omega
/-- asking, all together: by hand or by a step -/
theorem ask_sim (hB : BB B) (hK : PK m0 n s) (hL : PL m0 n E) (I : Inv m0 n s t t c D F) (hX : XR n c E D) {p a b : Nat} {hand think : Int32} (hp : p < n) (hab : a + b ≤ s) (hb : 1 ≤ b ∧ b ≤ 64) (hh : isN 2 hand) (hth : isN 201 think) (h8 : (D (18 + 14 * p + 5)).toInt ≤ 8) : ∃ (q : Nat), q < n ∧ c < 54 ∧ (aRt m0 (updD D (18 + 14 * p + 3) (nI a + nI b)) p (nI a)).1 = nI q ∧ R_asks (nI p) (nI a) (nI b) hand think (mkR m0 B D F) = some (mkR m0 B (aAskD m0 D c p q (nI a) (nI b) hand think) (aAskF m0 D F c p q (nI a) (nI b))) ∧ aAskD m0 D c p q (nI a) (nI b) hand think (18 + 14 * p + 6) = nI q ∧ iG n t (c + 1) (aAskD m0 D c p q (nI a) (nI b) hand think) ∧ iP m0 n (aAskD m0 D c p q (nI a) (nI b) hand think) ∧ iQ n t (aAskD m0 D c p q (nI a) (nI b) hand think) ∧ iR n s t (c + 1) (aAskD m0 D c p q (nI a) (nI b) hand think) ∧ iB n s t (aAskD m0 D c p q (nI a) (nI b) hand think) ∧ iA n t (aAskD m0 D c p q (nI a) (nI b) hand think) ∧ FB (aAskF m0 D F c p q (nI a) (nI b)) ∧ XR n (c + 1) (eRow E c p q (nI a) (nI b) (D 0) (tk hand think)) (aAskD m0 D c p q (nI a) (nI b) hand think) := by
  have hn := hK.n6
  have hs9 := hK.s9
  have hc := room_c hn I.p I.o hp h8
  have hv : isN n (updD D (18 + 14 * p + 3) (nI a + nI b) (18 + 14 * p + 6)) := by rw [updD_n _ _ (by omega)]; exact (I.p p hp).2.2.2.2.1
  obtain ⟨q, hq, hq1⟩ := aRt_q (m0 := m0) (sec := nI a) hp hv (by rw [updD_n _ _ (by omega)]; exact I.ac)
  have e6 : aAskD m0 D c p q (nI a) (nI b) hand think (18 + 14 * p + 6) = nI q := by
    unfold aAskD aRow
    simp (disch := omega) only [updD_n, aD4_o, aJ_o]
    exact aRt_6.trans hq1
  exact ⟨q, hq, hc, hq1, R_asks_m hB hK I.f I.g I.p I.q hp (by omega) hc hq hq1, e6, ask_G hn I.g hp hq hc, ask_P hn I.p hp hq (by omega) hq1, ask_Q hn I.q hp (by omega), ask_R hn I.g I.r hp hq hb hab hh hth, ask_B hn I.b hp, ask_A hn I.a hp, ask_F hK I.f I.g I.p I.q hp hq (by omega), ask_X hn hX hp hq⟩
/-- what a turn of p changes in who is out -/
theorem ask_iO (hn : n ≤ 6) (I : Inv m0 n s t t c D F) {p q : Nat} (hp : p < n) (hq : q < n) {sec many hand think : Int32} {D' : Nat → Int32} (h5 : D' 5 = aAskD m0 D c p q sec many hand think 5) (ho : ∀ k, k < n → D' (18 + 14 * k + 5) = aAskD m0 D c p q sec many hand think (18 + 14 * k + 5)) (hw : ∀ k, k < n → k ≠ p → D' (18 + 14 * k + 2) = D (18 + 14 * k + 2)) (hwp : (D (18 + 14 * p + 5)).toInt + 1 ≤ 8 + (D' (18 + 14 * p + 2)).toInt) : iO n (c + 1) D' := by
  obtain ⟨o1, o2⟩ := ask_O (sec := sec) (many := many) (hand := hand) (think := think) hn I.p I.o hp hq
  refine ⟨?_, fun k hk => ?_⟩
  · rw [outS.cg ho, h5]; exact o1
  · rw [ho k hk, (o2 k hk).2]
    by_cases e : k = p
    · subst e; rw [if_pos rfl]; exact hwp
    · rw [if_neg e, hw k hk e]
      have := I.o.2 k hk
      omega
def askD (m0 : Mm) (D : Nat → Int32) (c p q : Nat) (sec many think st : Int32) (str : Prop) [Decidable str] : Nat → Int32 := updD (updD (aAskD m0 D c p q sec many 0 think) (18 + 14 * p + 4) st) (if str then 18 + 14 * p + 1 else 18 + 14 * p + 2) (if str then think else 1)
theorem step_sim (hB : BB B) (hK : PK m0 n s) (hL : PL m0 n E) (I : Inv m0 n s t t c D F) (hX : XR n c E D) {p : Nat} (hp : p < n) (hwt : D (18 + 14 * p + 2) ≠ 1) : ∃ (D' : Nat → Int32) (F' : Nat → UInt32) (E' : Mm) (c' : Nat), R_asksByStep (nI p) (mkR m0 B D F) = some (mkR m0 B D' F') ∧ S_askByStep (nI p) (8 + 2 * p) (mkS n E D F) = some (mkS n E' D' F') ∧ Inv m0 n s t t c' D' F' ∧ XR n c' E' D' ∧ PL m0 n E' ∧ KFr D D' E E' ∧ CFr D D' E E' ∧ D' 0 = D 0 := by
  have hn := hK.n6
  have hs9 := hK.s9
  have hs64 := hK.s64
  have hp6 : p < 6 := by omega
  obtain ⟨hstr, k, k1, k2, k3, k4⟩ := hK.proc p hp
  obtain ⟨-, w2, ⟨pl, pl1, pl2⟩, ⟨k', st, st1, st2, st3, st4⟩, hsd, -⟩ := I.p p hp
  have hkk : k' = k := (nI_eq (by omega) (by omega)).mp (st1.symm.trans k3)
  subst hkk
  have hw0 : D (18 + 14 * p + 2) = 0 := by
    obtain ⟨w, w1, w2⟩ := w2
    have : w ≠ 1 := fun e => hwt (by rw [w2, e]; rfl)
    have : w = 0 := by omega
    rw [w2, this]; rfl
  obtain ⟨ks, ⟨mn, mn1, mn2, mn3⟩, ⟨th, th1, th2⟩⟩ := k4 st st3
  have hplan := hL.2.2.2 p st hp (by omega) (by rw [k3]; exact nI_lt st3 (by omega))
  have hpc := hL.2.2.1 p hp
  have hps := (hL.2.1 p hp).1
  -- the sector
  have hsec : ∃ a, a + mn ≤ s ∧ (if gI m0 5 (3 * (6 * p + st)) = -1 then (if nI pl + nI mn ≤ nI s then nI pl else 0) else gI m0 5 (3 * (6 * p + st))) = nI a := by
    rcases ks with e | ⟨x, y, e1, e2, e3⟩
    · rw [if_pos e, nI_add]
      by_cases h : nI (pl + mn) ≤ nI s
      · rw [if_pos h]
        exact ⟨pl, (nI_leI (by omega) (by omega)).mp h, rfl⟩
      · rw [if_neg h]
        exact ⟨0, by omega, rfl⟩
    · have : y = mn := (nI_eq (by omega) (by omega)).mp (e2.symm.trans mn3)
      subst this
      rw [e1, if_neg (nI_neg1 (by omega))]
      exact ⟨x, e3, rfl⟩
  obtain ⟨a, ha, hsec⟩ := hsec
  have h0 : isN 2 (0 : Int32) := ⟨0, by omega, rfl⟩
  -- when it asks
  have hgo : (D (18 + 14 * p + 5)).toInt ≤ 8 → (gI m0 3 p = 1 → (D (18 + 14 * p + 5)).toInt < 4) → ∃ (D' : Nat → Int32) (F' : Nat → UInt32) (E' : Mm) (c' : Nat), (bnd (R_of (nI p) (4 : Int32) (mkR m0 B D F)) fun r1 => lett ((3 : Int32) * (((6 : Int32) * nI p) + r1)) fun v2 => ald (v2 + (1 : Int32)) 108 (lett (gI (mkR m0 B D F) 5 (ix (v2 + (1 : Int32)))) fun v3 => ald v2 108 (lett (fun (w_3 : Int32) => lett w_3 fun v5 => ald (v2 + (2 : Int32)) 108 (bnd (R_asks (nI p) v5 v3 (0 : Int32) (gI (mkR m0 B D F) 5 (ix (v2 + (2 : Int32)))) (mkR m0 B D F)) fun M6 => bnd (R_of (nI p) (4 : Int32) M6) fun r7 => ald (nI p) 6 (lett (fun (w_7 : Int32) => bnd (R_sets (nI p) (4 : Int32) w_7 M6) fun M9 => ald (nI p) 6 (if (gI M9 3 (ix (nI p))) = (1 : Int32) then (ald (v2 + (2 : Int32)) 108 (bnd (R_sets (nI p) (1 : Int32) (gI M9 5 (ix (v2 + (2 : Int32)))) M9) fun M11 => some M11)) else (bnd (R_sets (nI p) (2 : Int32) (1 : Int32) M9) fun M10 => some M10))) fun j139 => if (r7 + (1 : Int32)) = (gI M6 4 (ix (nI p))) then (j139 (0 : Int32)) else (bnd (R_of (nI p) (4 : Int32) M6) fun r12 => j139 (r12 + (1 : Int32)))))) fun j88 => if (gI (mkR m0 B D F) 5 (ix v2)) = (-1 : Int32) then (bnd (R_of (nI p) (3 : Int32) (mkR m0 B D F)) fun r13 => if (r13 + v3) ≤ (gI (mkR m0 B D F) 0 2) then (bnd (R_of (nI p) (3 : Int32) (mkR m0 B D F)) fun r14 => j88 r14) else (j88 (0 : Int32))) else (ald v2 108 (j88 (gI (mkR m0 B D F) 5 (ix v2))))))) = some (mkR m0 B D' F') ∧ (lett ((nI p * (6 : Int32)) + D (18 + 14 * p + 4)) fun v3 => ald v3 36 (lett (gI (mkS n E D F) 27 (ix v3)) fun v4 => ald v3 36 (lett (gI (mkS n E D F) 28 (ix v3)) fun v5 => ald v3 36 (lett (gI (mkS n E D F) 26 (ix v3)) fun v6 => lett (fun (u_6 : Int32) => lett (fun (w_7 : Int32) => lett (sI (mkS n E D F) (8 + 2 * p) 5 w_7) fun M9 => lett (fun (M_9 : Mm) => bnd (S_send (nI p) u_6 v4 v5 M_9) fun r11 => some r11.2) fun j162 => if gI m0 3 p = 0 then (lett (sI M9 (8 + 2 * p) 3 (1 : Int32)) fun M12 => j162 M12) else (lett (sI M9 (8 + 2 * p) 2 v5) fun M13 => j162 M13)) fun j141 => if nI k' ≤ (D (18 + 14 * p + 4) + (1 : Int32)) then (j141 (0 : Int32)) else (j141 (D (18 + 14 * p + 4) + (1 : Int32)))) fun j119 => if 0 ≤ v6 then (j119 v6) else (lett (fun (w_13 : Int32) => lett w_13 fun v15 => j119 v15) fun j117 => if (D (18 + 14 * p + 3) + v4) ≤ nI s then (j117 (D (18 + 14 * p + 3))) else (j117 (0 : Int32))))))) = some (mkS n E' D' F') ∧ Inv m0 n s t t c' D' F' ∧ XR n c' E' D' ∧ PL m0 n E' ∧ KFr D D' E E' ∧ CFr D D' E E' ∧ D' 0 = D 0 := by
    intro h8 h4
    obtain ⟨q, hq, hc, hq1, hR, e6, g1, g2, g3, g4, g5, g6, g7, g8⟩ := ask_sim (think := nI th) hB hK hL I hX hp ha ⟨mn1, by omega⟩ h0 ⟨th, th1, rfl⟩ h8
    have hq6 : q < 6 := by omega
    have hst4 : aAskD m0 D c p q (nI a) (nI mn) 0 (nI th) (18 + 14 * p + 4) = nI st := by rw [aAskD_lo (by omega) (by omega) (by omega) (by omega) (by omega) (by omega) (by omega) (by omega) (by omega)]; exact st2
    -- the next step
    have hnx : ∃ st', st' < k' ∧ (if nI (st + 1) = nI k' then (0 : Int32) else nI (st + 1)) = nI st' ∧ (if nI k' ≤ nI (st + 1) then (0 : Int32) else nI (st + 1)) = nI st' := by
      by_cases e : st + 1 = k'
      · refine ⟨0, by omega, ?_, ?_⟩
        · rw [if_pos (by rw [e])]; rfl
        · rw [if_pos (by rw [e]; exact nI_le (Nat.le_refl _) (by omega))]; rfl
      · refine ⟨st + 1, by omega, ?_, ?_⟩
        · rw [if_neg (by rw [nI_eq (by omega) (by omega)]; exact e)]
        · rw [if_neg (nI_ge (by omega) (by omega))]
    obtain ⟨st', n1, n2, n3⟩ := hnx
    have hd2 : ix (D 2) < 6 := by
      rcases I.ac with e | ⟨a, ha, e⟩
      · rw [e]; decide
      · rw [e, ix_nI (by omega)]; omega
    have hv6 : ix (D (18 + 14 * p + 6)) < 6 := by
      obtain ⟨v, v1, v2⟩ := hsd
      rw [v2, ix_nI (by omega)]; omega
    have hj : ∀ j, (j = 18 + 14 * p + 1 ∨ j = 18 + 14 * p + 2 ∨ j = 18 + 14 * p + 4) → 18 ≤ j ∧ j < 102 ∧ j ≠ 18 + 14 * p + 6 ∧ j ≠ 18 + 14 * p + 7 ∧ j ≠ 18 + 14 * p + 3 ∧ j ≠ 18 + 14 * p + 5 ∧ j ≠ 18 + 14 * q + 0 := fun j hj => by omega
    -- both end in the same
    have fin : ∀ (j : Nat) (v : Int32), (j = 18 + 14 * p + 1 ∨ j = 18 + 14 * p + 2) → (j = 18 + 14 * p + 2 → v = 1) → (j = 18 + 14 * p + 1 → (D (18 + 14 * p + 5)).toInt ≤ 7) → Inv m0 n s t t (c + 1) (updD (updD (aAskD m0 D c p q (nI a) (nI mn) 0 (nI th)) (18 + 14 * p + 4) (nI st')) j v) (aAskF m0 D F c p q (nI a) (nI mn)) ∧ XR n (c + 1) (eRow E c p q (nI a) (nI mn) (D 0) (nI th)) (updD (updD (aAskD m0 D c p q (nI a) (nI mn) 0 (nI th)) (18 + 14 * p + 4) (nI st')) j v) ∧ PL m0 n (eRow E c p q (nI a) (nI mn) (D 0) (nI th)) ∧ KFr D (updD (updD (aAskD m0 D c p q (nI a) (nI mn) 0 (nI th)) (18 + 14 * p + 4) (nI st')) j v) E (eRow E c p q (nI a) (nI mn) (D 0) (nI th)) ∧ CFr D (updD (updD (aAskD m0 D c p q (nI a) (nI mn) 0 (nI th)) (18 + 14 * p + 4) (nI st')) j v) E (eRow E c p q (nI a) (nI mn) (D 0) (nI th)) ∧ updD (updD (aAskD m0 D c p q (nI a) (nI mn) 0 (nI th)) (18 + 14 * p + 4) (nI st')) j v 0 = D 0 ∧ (∀ Z G, S_send (nI p) (nI a) (nI mn) (nI th) (mkS n E Z G) = S_send (nI p) (nI a) (nI mn) (nI th) (mkS n E (updD (updD D (18 + 14 * p + 4) (nI st')) j v) F) → S_send (nI p) (nI a) (nI mn) (nI th) (mkS n E Z G) = some (nI q, mkS n (eRow E c p q (nI a) (nI mn) (D 0) (nI th)) (updD (updD (aAskD m0 D c p q (nI a) (nI mn) 0 (nI th)) (18 + 14 * p + 4) (nI st')) j v) (aAskF m0 D F c p q (nI a) (nI mn)))) := by
      intro j v hj1 hj2 hj3
      have hj' := hj j (by omega)
      have hj4 := hj (18 + 14 * p + 4) (by omega)
      have hD0 : ∀ i, i ≠ j → i ≠ 18 + 14 * p + 4 → updD (updD (aAskD m0 D c p q (nI a) (nI mn) 0 (nI th)) (18 + 14 * p + 4) (nI st')) j v i = aAskD m0 D c p q (nI a) (nI mn) 0 (nI th) i := fun i h1 h2 => by rw [updD_n _ _ h1, updD_n _ _ h2]
      have hwp : updD (updD (aAskD m0 D c p q (nI a) (nI mn) 0 (nI th)) (18 + 14 * p + 4) (nI st')) j v (18 + 14 * p + 2) = if j = 18 + 14 * p + 2 then 1 else 0 := by
        by_cases e : j = 18 + 14 * p + 2
        · rw [if_pos e, e, updD_s, hj2 e]
        · rw [if_neg e, hD0 _ (Ne.symm e) (by omega), aAskD_lo (by omega) (by omega) (by omega) (by omega) (by omega) (by omega) (by omega) (by omega) (by omega)]; exact hw0
      refine ⟨⟨g1.cg (fun i hi => hD0 i (by omega) (by omega)), ?_, g3.cg (fun i hi => ?_), g4.cg (fun i h1 h2 => hD0 i (by omega) (by omega)), g5.cg (fun i hi => hD0 i (by omega) (by omega)), g6.cg (fun i hi => hD0 i (by omega) (by omega)) (fun i hi => hD0 _ (by omega) (by omega)), ?_, g7⟩, ?_, ask_L hL (by omega), ?_, ?_, ?_, ?_⟩
      · intro i hi
        obtain ⟨p1, p2, p3, p4, p5, p6⟩ := g2 i hi
        by_cases e : i = p
        · subst e
          rw [hwp, hD0 (18 + 14 * i + 0) (by omega) (by omega), hD0 (18 + 14 * i + 3) (by omega) (by omega), hD0 (18 + 14 * i + 6) (by omega) (by omega), hD0 (18 + 14 * i + 8) (by omega) (by omega), updD_n _ _ (show 18 + 14 * i + 4 ≠ j by omega), updD_s]
          refine ⟨p1, ?_, p3, ⟨k', st', st1, rfl, n1, k2⟩, p5, p6⟩
          split
          · exact ⟨1, by omega, rfl⟩
          · exact ⟨0, by omega, rfl⟩
        · rw [hD0 _ (by omega) (by omega), hD0 _ (by omega) (by omega), hD0 _ (by omega) (by omega), hD0 _ (by omega) (by omega), hD0 _ (by omega) (by omega), hD0 _ (by omega) (by omega)]
          exact ⟨p1, p2, p3, p4, p5, p6⟩
      · rw [hD0 _ (by omega) (by omega), hD0 _ (by omega) (by omega), hD0 _ (by omega) (by omega), hD0 _ (by omega) (by omega)]
        exact ⟨rfl, rfl, rfl, rfl⟩
      · refine ask_iO hn I hp hq (hD0 5 (by omega) (by omega)) (fun i hi => hD0 _ (by omega) (by omega)) (fun i hi e => ?_) ?_
        · rw [hD0 _ (by omega) (by omega), aAskD_lo (by omega) (by omega) (by omega) (by omega) (by omega) (by omega) (by omega) (by omega) (by omega)]
        · rw [hwp]
          split
          · have : (1 : Int32).toInt = 1 := by decide
            omega
          · have z : (0 : Int32).toInt = 0 := by decide
            have := hj3 (by omega)
            omega
      · obtain ⟨hW, hY, hBb, hS⟩ := g8
        have e0 : tk 0 (nI th) = nI th := by unfold tk; rw [if_pos rfl]
        rw [e0] at hW hY hBb hS
        refine ⟨fun i hi => ?_, fun i hi => ?_, fun h5 => ?_, fun i hi he => ?_⟩
        · obtain ⟨⟨w1, w2, w3, w4, w5⟩, w6⟩ := hW i hi
          unfold xRow
          dsimp only at w1 w2 w3 w4 w5 ⊢
          simp (disch := omega) only [hD0]
          exact ⟨⟨w1, w2, w3, w4, w5⟩, w6⟩
        · rw [aLy_cg (D := aAskD m0 D c p q (nI a) (nI mn) 0 (nI th)) (fun r hr => hD0 _ (by omega) (by omega))]
          exact hY i hi
        · rw [hD0 _ (by omega) (by omega)] at h5
          obtain ⟨w1, w2, w3, w4, w5⟩ := hBb h5
          unfold xRow
          dsimp only at w1 w2 w3 w4 w5 ⊢
          simp (disch := omega) only [hD0]
          exact ⟨w1, w2, w3, w4, w5⟩
        · rw [hD0 _ (by omega) (by omega)] at he ⊢
          exact hS i hi he
      · refine (ask_KF hp6 hq6 hc).tr ⟨hD0 _ (by omega) (by omega), fun i hi => hD0 _ (by omega) (by omega), fun _ => rfl, rfl⟩
      · refine (ask_CF hp6 hq6).tr ⟨fun i l i1 i2 i3 => hD0 _ (by omega) (by omega), fun _ _ _ _ _ => rfl, rfl, rfl, fun _ _ _ => rfl⟩
      · rw [hD0 _ (by omega) (by omega), aAskD_lo (by omega) (by omega) (by omega) (by omega) (by omega) (by omega) (by omega) (by omega) (by omega)]
      · intro Z G hZ
        rw [hZ]
        have u1 := aD2_up (m0 := m0) (D := updD D (18 + 14 * p + 4) (nI st')) (v := v) (p := p) (sec := nI a) (many := nI mn) hj'.2.2.1 hj'.2.2.2.1 (by omega) hj'.2.2.2.2.1 (by omega) (by rw [updD_n _ _ (by omega)]; exact hd2) (by rw [updD_n _ _ (by omega)]; exact hv6)
        have u2 := aD2_up (m0 := m0) (D := D) (v := nI st') (p := p) (sec := nI a) (many := nI mn) hj4.2.2.1 hj4.2.2.2.1 (by omega) hj4.2.2.2.2.1 (by omega) hd2 hv6
        have hG : iG n t c (updD (updD D (18 + 14 * p + 4) (nI st')) j v) := I.g.cg (fun i hi => by rw [updD_n _ _ (by omega), updD_n _ _ (by omega)])
        have hQ : iQ n t (updD (updD D (18 + 14 * p + 4) (nI st')) j v) := I.q.cg (fun i hi => by simp (disch := omega) only [updD_n, and_self])
        have hP' : iP m0 n (updD (updD D (18 + 14 * p + 4) (nI st')) j v) := by
          intro i hi
          obtain ⟨p1, p2, p3, p4, p5, p6⟩ := I.p i hi
          by_cases e : i = p
          · subst e
            rw [updD_n _ _ (show 18 + 14 * i + 0 ≠ j by omega), updD_n _ _ (show 18 + 14 * i + 0 ≠ 18 + 14 * i + 4 by omega), updD_n _ _ (show 18 + 14 * i + 3 ≠ j by omega), updD_n _ _ (show 18 + 14 * i + 3 ≠ 18 + 14 * i + 4 by omega), updD_n _ _ (show 18 + 14 * i + 6 ≠ j by omega), updD_n _ _ (show 18 + 14 * i + 6 ≠ 18 + 14 * i + 4 by omega), updD_n _ _ (show 18 + 14 * i + 8 ≠ j by omega), updD_n _ _ (show 18 + 14 * i + 8 ≠ 18 + 14 * i + 4 by omega), updD_n _ _ (show 18 + 14 * i + 4 ≠ j by omega), updD_s]
            refine ⟨p1, ?_, p3, ⟨k', st', st1, rfl, n1, k2⟩, p5, p6⟩
            by_cases e : j = 18 + 14 * i + 2
            · rw [e, updD_s, hj2 e]; exact ⟨1, by omega, rfl⟩
            · rw [updD_n _ _ (Ne.symm e), updD_n _ _ (by omega)]; exact p2
          · simp (disch := omega) only [updD_n]
            exact ⟨p1, p2, p3, p4, p5, p6⟩
        have hs := S_send_m (hand := 0) (think := nI th) (th := nI th) (D := updD (updD D (18 + 14 * p + 4) (nI st')) j v) hK hL I.f hG hP' hQ hp (a := a) (b := mn) (by omega) hc hq (by rw [u1.2, u2.2]; exact hq1) (by rw [aLy_up (by omega), aLy_up (by omega)]; exact hX.2.1 q hq)
        rw [hs, updD_n _ _ (by omega), updD_n _ _ (by omega), aAskD_up ⟨by omega, by omega⟩ hj'.2.2.1 hj'.2.2.2.1 hj'.2.2.2.2.1 hj'.2.2.2.2.2.1 (by rw [updD_n _ _ (by omega)]; exact hd2) (by rw [updD_n _ _ (by omega)]; exact hv6), aAskD_up ⟨by omega, by omega⟩ hj4.2.2.1 hj4.2.2.2.1 hj4.2.2.2.2.1 hj4.2.2.2.2.2.1 hd2 hv6, aAskF_up ⟨by omega, by omega⟩ hj'.2.2.1 hj'.2.2.2.1 hj'.2.2.2.2.1 hj'.2.2.2.2.2.2 (by rw [updD_n _ _ (by omega)]; exact hd2) (by rw [updD_n _ _ (by omega)]; exact hv6), aAskF_up ⟨by omega, by omega⟩ hj4.2.2.1 hj4.2.2.2.1 hj4.2.2.2.2.1 hj4.2.2.2.2.2.2 hd2 hv6]
    -- the reference's text
    have m5 : ∀ (Z : Nat → Int32) (G : Nat → UInt32) i, gI (mkR m0 B Z G) 5 i = gI m0 5 i := fun Z G i => mkR_o _ _ _ _ (by decide) (Or.inl (by decide))
    have m4 : ∀ (Z : Nat → Int32) (G : Nat → UInt32) i, gI (mkR m0 B Z G) 4 i = gI m0 4 i := fun Z G i => mkR_o _ _ _ _ (by decide) (Or.inl (by decide))
    have hRt : ∀ Rst : Option Mm, (bnd (R_of (nI p) (4 : Int32) (mkR m0 B (aAskD m0 D c p q (nI a) (nI mn) 0 (nI th)) (aAskF m0 D F c p q (nI a) (nI mn)))) fun r7 => lett (fun (w_7 : Int32) => bnd (R_sets (nI p) (4 : Int32) w_7 (mkR m0 B (aAskD m0 D c p q (nI a) (nI mn) 0 (nI th)) (aAskF m0 D F c p q (nI a) (nI mn)))) fun M9 => (if (gI M9 3 p) = (1 : Int32) then (bnd (R_sets (nI p) (1 : Int32) (gI M9 5 (3 * (6 * p + st) + 2)) M9) fun M11 => some M11) else (bnd (R_sets (nI p) (2 : Int32) (1 : Int32) M9) fun M10 => some M10))) fun j139 => if (r7 + (1 : Int32)) = nI k' then (j139 (0 : Int32)) else (bnd (R_of (nI p) (4 : Int32) (mkR m0 B (aAskD m0 D c p q (nI a) (nI mn) 0 (nI th)) (aAskF m0 D F c p q (nI a) (nI mn)))) fun r12 => j139 (r12 + (1 : Int32)))) = some (mkR m0 B (updD (updD (aAskD m0 D c p q (nI a) (nI mn) 0 (nI th)) (18 + 14 * p + 4) (nI st')) (if gI m0 3 p = 1 then 18 + 14 * p + 1 else 18 + 14 * p + 2) (if gI m0 3 p = 1 then nI th else 1)) (aAskF m0 D F c p q (nI a) (nI mn))) := by
      intro _
      simp only [ro_4 hB hp6, bnd_s, hst4, nA_1]
      rw [lett_if, n2, rs_4 hB hp6, bnd_s, mkR_3, m5, th2]
      by_cases e : gI m0 3 p = 1
      · rw [if_pos e, if_pos e, if_pos e, rs_1 hB hp6, bnd_s]
      · rw [if_neg e, if_neg e, if_neg e, rs_2 hB hp6, bnd_s]
    have hall := fin (if gI m0 3 p = 1 then 18 + 14 * p + 1 else 18 + 14 * p + 2) (if gI m0 3 p = 1 then nI th else 1) (by split; exact Or.inl rfl; exact Or.inr rfl) (by split; exact fun e => absurd e (by omega); exact fun _ => rfl) (by
      split
      · rename_i e; intro _; have := h4 e; omega
      · exact fun e => absurd e (by omega))
    obtain ⟨f1, f2, f3, f4, f5, f6, f7⟩ := hall
    refine ⟨_, _, _, _, ?_, ?_, f1, f2, f3, f4, f5, f6⟩
    · rw [ro_4 hB hp6, bnd_s, st2, nM_6, nI_add, nM_3, lett_e, nA_1, nA_2, ald_n (by omega) (by omega), ix_nI (by omega), m5, mn3, lett_e, ald_n (by omega) (by omega), ix_nI (by omega), m5]
      refine (lett_j (nI a) (fun j => ?_)).trans ?_
      · rw [ro_3 hB hp6, bnd_s, bnd_s, pl2, mkR_0 _ _ _ _ (by decide), hK.s1, ald_n (by omega) (by omega), ix_nI (by omega), m5, ← hsec]
        by_cases e : gI m0 5 (3 * (6 * p + st)) = -1
        · rw [if_pos e, if_pos e]
          by_cases e2 : nI pl + nI mn ≤ nI s
          · rw [if_pos e2, if_pos e2]
          · rw [if_neg e2, if_neg e2]
        · rw [if_neg e, if_neg e]
      · rw [lett_e, ald_n (by omega) (by omega), th2, hR, bnd_s]
        simp only [m5, m4, th2, k3, ald_n hp6 (show 6 ≤ 100000 by decide), ald_n (show 3 * (6 * p + st) + 2 < 108 by omega) (show 108 ≤ 100000 by decide), ix_nI (show p < 2 ^ 31 by omega), ix_nI (show 3 * (6 * p + st) + 2 < 2 ^ 31 by omega)]
        exact hRt none
    · rw [st2, nN_6, nI_add, lett_e, show p * 6 + st = 6 * p + st by omega, ald_n (by omega) (by omega), ix_nI (by omega), s27, hplan.2.1, mn3, lett_e, ald_n (by omega) (by omega), s28, hplan.2.2, th2, lett_e, ald_n (by omega) (by omega), s26, hplan.1, lett_e, pl2, nA_1]
      refine (lett_j (nI a) (fun j => ?_)).trans ?_
      · rw [lett_if, lett_e, ← hsec]
        rcases ks with e | ⟨x, y, e1, e2, e3⟩
        · rw [e, if_neg (by decide), if_pos rfl]
        · rw [e1, if_pos (nI_pos' (by omega)), if_neg (nI_neg1 (by omega))]
      · rw [lett_if, n3, sPw_5 _ _ _ ⟨hp, hn⟩, lett_e, sPw_3 _ _ _ ⟨hp, hn⟩, sPw_2 _ _ _ ⟨hp, hn⟩]
        refine (lett_j (mkS n E (updD (updD D (18 + 14 * p + 4) (nI st')) (if gI m0 3 p = 1 then 18 + 14 * p + 1 else 18 + 14 * p + 2) (if gI m0 3 p = 1 then nI th else 1)) F) (fun j => ?_)).trans ?_
        · simp only [lett_e]
          rcases hstr with e | e
          · rw [e, if_pos rfl, if_neg (by decide), if_neg (by decide)]
          · rw [e, if_neg (by decide), if_pos rfl, if_pos rfl]
        · rw [f7 _ _ rfl, bnd_s]
  have h9 := I.o.2 p hp
  rw [hw0] at h9
  have z : (0 : Int32).toInt = 0 := by decide
  rcases hstr with e | e
  · obtain ⟨D', F', E', c', x1, x2, x3⟩ := hgo (by omega) (fun h => by rw [e] at h; exact absurd h (by decide))
    refine ⟨D', F', E', c', ?_, ?_, x3⟩
    · unfold R_asksByStep
      rw [ald_n hp6 (by omega), lett_e, if_neg (show ¬ gI (mkR m0 B D F) 3 (ix (nI p)) = 1 by rw [mkR_3, ix_nI (by omega), e]; decide)]
      exact x1
    · unfold S_askByStep
      rw [ald_n hp6 (by omega), ix_nI (by omega), s22, hps, lett_e, ald_n hp6 (by omega), s25, hpc, k3, lett_e, if_neg (show ¬ nI k' < 1 from nI_nlt k1 (by omega)), s20, hL.1.1, hK.s1, sP_5 _ _ _ ⟨hp, hn⟩, sP_4 _ _ _ ⟨hp, hn⟩, lett_e, if_pos e]
      exact x2
  · by_cases h4 : D (18 + 14 * p + 5) < 4
    · have h4' : (D (18 + 14 * p + 5)).toInt < 4 := by
        rw [i32_lt] at h4
        have : (4 : Int32).toInt = 4 := by decide
        omega
      obtain ⟨D', F', E', c', x1, x2, x3⟩ := hgo (by omega) (fun _ => h4')
      refine ⟨D', F', E', c', ?_, ?_, x3⟩
      · unfold R_asksByStep
        rw [ald_n hp6 (by omega), lett_e, if_pos (show gI (mkR m0 B D F) 3 (ix (nI p)) = 1 by rw [mkR_3, ix_nI (by omega), e]), ro_5 hB hp6, bnd_s, if_pos h4]
        exact x1
      · unfold S_askByStep
        rw [ald_n hp6 (by omega), ix_nI (by omega), s22, hps, lett_e, ald_n hp6 (by omega), s25, hpc, k3, lett_e, if_neg (show ¬ nI k' < 1 from nI_nlt k1 (by omega)), s20, hL.1.1, hK.s1, sP_5 _ _ _ ⟨hp, hn⟩, sP_4 _ _ _ ⟨hp, hn⟩, sP_6 _ _ _ ⟨hp, hn⟩, lett_e, if_neg (show ¬ gI m0 3 p = 0 by rw [e]; decide), if_pos h4]
        exact x2
    · refine ⟨D, F, E, c, ?_, ?_, I, hX, hL, KFr.rf D E, CFr.rf D E, rfl⟩
      · unfold R_asksByStep
        rw [ald_n hp6 (by omega), lett_e, if_pos (show gI (mkR m0 B D F) 3 (ix (nI p)) = 1 by rw [mkR_3, ix_nI (by omega), e]), ro_5 hB hp6, bnd_s, if_neg h4]
      · unfold S_askByStep
        rw [ald_n hp6 (by omega), ix_nI (by omega), s22, hps, lett_e, ald_n hp6 (by omega), s25, hpc, k3, lett_e, if_neg (show ¬ nI k' < 1 from nI_nlt k1 (by omega)), sP_6 _ _ _ ⟨hp, hn⟩, lett_e, if_neg (show ¬ gI m0 3 p = 0 by rw [e]; decide), if_neg h4]
end STEP
