/-! PURE: a tick -/
section TICK
variable {m0 : Mm} {B n s t u c k T x y : Nat} {D : Nat → Int32} {F : Nat → UInt32} {E : Mm}
theorem thinks_ok (I : Inv m0 n s t t c D F) (hX : XR n c E D) {p : Nat} (hn : n ≤ 6) (hp : p < n) (v : Int32) : Inv m0 n s t t c (updD D (18 + 14 * p + 1) v) F ∧ XR n c E (updD D (18 + 14 * p + 1) v) ∧ KFr D (updD D (18 + 14 * p + 1) v) E E ∧ CFr D (updD D (18 + 14 * p + 1) v) E E ∧ updD D (18 + 14 * p + 1) v 0 = D 0 := by
  have hc := I.c1
  have hD : ∀ j, j ≠ 18 + 14 * p + 1 → updD D (18 + 14 * p + 1) v j = D j := fun j hj => updD_n _ _ hj
  refine ⟨⟨I.g.cg (fun j hj => hD j (by omega)), I.p.cg (fun q hq => ?_), I.q.cg (fun q hq => ?_), I.r.cg (fun j h1 h2 => hD j (by omega)), I.b.cg (fun j hj => hD j (by omega)), I.a.cg (fun j hj => hD j (by omega)) (fun q hq => hD _ (by omega)), I.o.cg (hD _ (by omega)) (fun q hq => ?_), I.f⟩, ?_, ⟨hD _ (by omega), fun j hj => hD j (by omega), fun _ => rfl, rfl⟩, ⟨fun q k a b c => hD _ (by omega), fun _ _ _ _ _ => rfl, rfl, rfl, fun _ _ _ => rfl⟩, hD _ (by omega)⟩
  · simp (disch := omega) only [hD, and_self]
  · simp (disch := omega) only [hD, and_self]
  · simp (disch := omega) only [hD, and_self]
  · obtain ⟨hW, hY, hB, hS⟩ := hX
    refine ⟨fun i hi => ?_, fun i hi => ?_, fun h5 => ?_, fun i hi he => ?_⟩
    · obtain ⟨⟨w1, w2, w3, w4, w5⟩, w6⟩ := hW i hi
      unfold xRow
      dsimp only at w1 w2 w3 w4 w5 ⊢
      simp (disch := omega) only [hD]
      exact ⟨⟨w1, w2, w3, w4, w5⟩, w6⟩
    · rw [aLy_up (by omega)]; exact hY i hi
    · rw [hD _ (by omega)] at h5
      obtain ⟨w1, w2, w3, w4, w5⟩ := hB h5
      unfold xRow
      dsimp only at w1 w2 w3 w4 w5 ⊢
      simp (disch := omega) only [hD]
      exact ⟨w1, w2, w3, w4, w5⟩
    · rw [hD _ (by omega)] at he ⊢
      exact hS i hi he
def RturnT (p : Nat) (M : Mm) (j106 : Mm → Option Mm) : Option Mm := bnd (R_of (nI p) (8 : Int32) M) fun r12 => if r12 = 0 then (j106 M) else (bnd (R_of (nI p) (2 : Int32) M) fun r15 => if r15 = (1 : Int32) then (j106 M) else (bnd (R_of (nI p) (1 : Int32) M) fun r16 => if r16 ≤ 0 then (bnd (R_asksByStep (nI p) M) fun M17 => j106 M17) else (bnd (R_of (nI p) (1 : Int32) M) fun r18 => bnd (R_sets (nI p) (1 : Int32) (r18 - (1 : Int32)) M) fun M19 => j106 M19)))
def SturnT (p : Nat) (M : Mm) (j101 : Mm → Option Mm) : Option Mm := if (gI M (8 + 2 * ix (nI p)) 1) = 0 then (j101 M) else (if (gI M (8 + 2 * ix (nI p)) 3) = 0 then (if (gI M (8 + 2 * ix (nI p)) 2) ≤ 0 then (bnd (S_askByStep (nI p) (8 + 2 * ix (nI p)) M) fun M14 => j101 M14) else (lett (sI M (8 + 2 * ix (nI p)) 2 ((gI M (8 + 2 * ix (nI p)) 2) - (1 : Int32))) fun M15 => j101 M15)) else (j101 M))
theorem turn_sim (hB : BB B) (hK : PK m0 n s) (hL : PL m0 n E) (I : Inv m0 n s t t c D F) (hX : XR n c E D) {p : Nat} (hp : p < n) : ∃ (D' : Nat → Int32) (F' : Nat → UInt32) (E' : Mm) (c' : Nat), (∀ j, RturnT p (mkR m0 B D F) j = j (mkR m0 B D' F')) ∧ (∀ j, SturnT p (mkS n E D F) j = j (mkS n E' D' F')) ∧ Inv m0 n s t t c' D' F' ∧ XR n c' E' D' ∧ PL m0 n E' ∧ KFr D D' E E' ∧ CFr D D' E E' ∧ D' 0 = D 0 := by
  have hn := hK.n6
  have hp6 : p < 6 := by omega
  obtain ⟨-, ⟨w, w1, w2⟩, -, -, -, -⟩ := I.p p hp
  have same : ∃ (D' : Nat → Int32) (F' : Nat → UInt32) (E' : Mm) (c' : Nat), (∀ j : Mm → Option Mm, j (mkR m0 B D F) = j (mkR m0 B D' F')) ∧ (∀ j : Mm → Option Mm, j (mkS n E D F) = j (mkS n E' D' F')) ∧ Inv m0 n s t t c' D' F' ∧ XR n c' E' D' ∧ PL m0 n E' ∧ KFr D D' E E' ∧ CFr D D' E E' ∧ D' 0 = D 0 := ⟨D, F, E, c, fun _ => rfl, fun _ => rfl, I, hX, hL, KFr.rf D E, CFr.rf D E, rfl⟩
  unfold RturnT SturnT
  rw [ro_8 hB hp6, ro_2 hB hp6, ro_1 hB hp6, ix_nI (by omega), sP_1 _ _ _ ⟨hp, hn⟩, sP_3 _ _ _ ⟨hp, hn⟩, sP_2 _ _ _ ⟨hp, hn⟩]
  simp only [bnd_s]
  by_cases h8 : D (18 + 14 * p + 8) = 0
  · simp only [if_pos h8]
    exact same
  · simp only [if_neg h8]
    by_cases h2 : D (18 + 14 * p + 2) = 1
    · have h2' : ¬ D (18 + 14 * p + 2) = 0 := by rw [h2]; decide
      simp only [if_pos h2, if_neg h2']
      exact same
    · have h2' : D (18 + 14 * p + 2) = 0 := by
        have : w ≠ 1 := fun e => h2 (by rw [w2, e]; rfl)
        have : w = 0 := by omega
        rw [w2, this]; rfl
      simp only [if_neg h2, if_pos h2']
      by_cases h1 : D (18 + 14 * p + 1) ≤ 0
      · obtain ⟨D', F', E', c', a1, a2, a3⟩ := step_sim hB hK hL I hX hp h2
        simp only [if_pos h1]
        refine ⟨D', F', E', c', fun j => ?_, fun j => ?_, a3⟩
        · rw [a1, bnd_s]
        · rw [a2, bnd_s]
      · simp only [if_neg h1]
        obtain ⟨a1, a2, a3, a4, a5⟩ := thinks_ok I hX hn hp (D (18 + 14 * p + 1) - 1)
        refine ⟨_, F, E, c, fun j => ?_, fun j => ?_, a1, a2, hL, a3, a4, a5⟩
        · rw [rs_1 hB hp6, bnd_s]
        · rw [sPw_2 _ _ _ ⟨hp, hn⟩, lett_e]
def RprocB (j112 : Mm → Option Mm) : ((Int32 × Mm) → Option Mm) → (Int32 × Mm) → Option Mm := fun (rec44 : (Int32 × Mm) → Option Mm) (x11 : Int32 × Mm) =>
 if (gI x11.2 0 1) ≤ x11.1 then
 (j112 x11.2)
 else
 (bnd (R_of x11.1 (8 : Int32) x11.2) fun r12 =>
 lett (fun (M_12 : Mm) =>
 lett (x11.1 + (1 : Int32)) fun v14 =>
 rec44 (v14, M_12)) fun j106 =>
 if r12 = 0 then
 (j106 x11.2)
 else
 (bnd (R_of x11.1 (2 : Int32) x11.2) fun r15 =>
 if r15 = (1 : Int32) then
 (j106 x11.2)
 else
 (bnd (R_of x11.1 (1 : Int32) x11.2) fun r16 =>
 if r16 ≤ 0 then
 (bnd (R_asksByStep x11.1 x11.2) fun M17 =>
 j106 M17)
 else
 (bnd (R_of x11.1 (1 : Int32) x11.2) fun r18 =>
 bnd (R_sets x11.1 (1 : Int32) (r18 - (1 : Int32)) x11.2) fun M19 =>
 j106 M19))))
def SprocB (j107 : Mm → Option Mm) : ((Int32 × Mm) → Option Mm) → (Int32 × Mm) → Option Mm := fun (rec37 : (Int32 × Mm) → Option Mm) (x10 : Int32 × Mm) =>
 if (gI x10.2 20 11) ≤ x10.1 then
 (j107 x10.2)
 else
 (ald x10.1 6 (lett (fun (M_11 : Mm) =>
 lett (x10.1 + (1 : Int32)) fun v13 =>
 rec37 (v13, M_11)) fun j101 =>
 if (gI x10.2 (8 + 2 * ix x10.1) 1) = 0 then
 (j101 x10.2)
 else
 (if (gI x10.2 (8 + 2 * ix x10.1) 3) = 0 then
 (if (gI x10.2 (8 + 2 * ix x10.1) 2) ≤ 0 then
 (bnd (S_askByStep x10.1 (8 + 2 * ix x10.1) x10.2) fun M14 =>
 j101 M14)
 else
 (lett (sI x10.2 (8 + 2 * ix x10.1) 2 ((gI x10.2 (8 + 2 * ix x10.1) 2) - (1 : Int32))) fun M15 =>
 j101 M15))
 else
 (j101 x10.2))))
theorem loopR_s {σ ρ : Type} (b : (σ → Option ρ) → σ → Option ρ) (n : Nat) (x : σ) : loopR b (n + 1) x = b (loopR b n) x := rfl
theorem procs_sim (hB : BB B) (hK : PK m0 n s) (d : Nat) : ∀ (i c : Nat) (D : Nat → Int32) (F : Nat → UInt32) (E : Mm), i + d = n → PL m0 n E → Inv m0 n s t t c D F → XR n c E D → ∃ (D' : Nat → Int32) (F' : Nat → UInt32) (E' : Mm) (c' : Nat), (∀ (j : Mm → Option Mm) (f : Nat), d < f → loopR (RprocB j) f (nI i, mkR m0 B D F) = j (mkR m0 B D' F')) ∧ (∀ (j : Mm → Option Mm) (f : Nat), d < f → loopR (SprocB j) f (nI i, mkS n E D F) = j (mkS n E' D' F')) ∧ Inv m0 n s t t c' D' F' ∧ XR n c' E' D' ∧ PL m0 n E' ∧ KFr D D' E E' ∧ CFr D D' E E' ∧ D' 0 = D 0 := by
  have hn := hK.n6
  induction d with
  | zero =>
    intro i c D F E hi hL I hX
    refine ⟨D, F, E, c, fun j f hf => ?_, fun j f hf => ?_, I, hX, hL, KFr.rf D E, CFr.rf D E, rfl⟩
    · obtain ⟨f, rfl⟩ : ∃ g, f = g + 1 := ⟨f - 1, by omega⟩
      rw [loopR_s]
      show (if gI (mkR m0 B D F) 0 1 ≤ nI i then _ else _) = _
      rw [if_pos (by rw [mkR_0 _ _ _ _ (by decide), hK.n1]; exact nI_le (by omega) (by omega))]
    · obtain ⟨f, rfl⟩ : ∃ g, f = g + 1 := ⟨f - 1, by omega⟩
      rw [loopR_s]
      show (if gI (mkS n E D F) 20 11 ≤ nI i then _ else _) = _
      rw [if_pos (by rw [s20, hL.1.many, hK.n1]; exact nI_le (by omega) (by omega))]
  | succ d ih =>
    intro i c D F E hi hL I hX
    obtain ⟨D1, F1, E1, c1, a1, a2, a3, a4, a5, a6, a7, a8⟩ := turn_sim hB hK hL I hX (p := i) (by omega)
    obtain ⟨D', F', E', c', b1, b2, b3, b4, b5, b6, b7, b8⟩ := ih (i + 1) c1 D1 F1 E1 (by omega) a5 a3 a4
    refine ⟨D', F', E', c', fun j f hf => ?_, fun j f hf => ?_, b3, b4, b5, a6.tr b6, a7.tr b7, b8.trans a8⟩
    · obtain ⟨f, rfl⟩ : ∃ g, f = g + 1 := ⟨f - 1, by omega⟩
      rw [loopR_s]
      show (if gI (mkR m0 B D F) 0 1 ≤ nI i then _ else RturnT i (mkR m0 B D F) (fun M => loopR (RprocB j) f (nI i + 1, M))) = _
      rw [if_neg (by rw [mkR_0 _ _ _ _ (by decide), hK.n1]; exact nI_ge (by omega) (by omega)), a1, nA_1]
      exact b1 j f (by omega)
    · obtain ⟨f, rfl⟩ : ∃ g, f = g + 1 := ⟨f - 1, by omega⟩
      rw [loopR_s]
      show (if gI (mkS n E D F) 20 11 ≤ nI i then _ else ald (nI i) 6 (SturnT i (mkS n E D F) (fun M => loopR (SprocB j) f (nI i + 1, M)))) = _
      rw [if_neg (by rw [s20, hL.1.many, hK.n1]; exact nI_ge (by omega) (by omega)), ald_n (by omega) (by omega), a2, nA_1]
      exact b2 j f (by omega)
/-- what happens in a tick: a request is done (process, latency, how many), one expires (queue, how, served) -/
def logT (m0 : Mm) (B x y : Nat) (ev : Option (Nat × Nat × Nat)) (ex : Option (Int32 × Int32 × Int32)) : Mm :=
  (match ex with
  | none => fun m => m
  | some (q, h, v) => fun m => lgX m B y q h v) ((match ev with
  | none => fun m => m
  | some (p, l, b) => fun m => lgE m B x (nI p) (nI l) (nI b)) (sI m0 0 56 (gI m0 0 56 + 1)))
def Cef (n : Nat) (ev : Option (Nat × Nat × Nat)) (D D' : Nat → Int32) (E E' : Mm) : Prop := match ev with
  | none => CFr D D' E E'
  | some (p, l, b) => p < n ∧ 1 ≤ l ∧ l < 16000 ∧ 1 ≤ b ∧ b ≤ 64 ∧ CX D D' E E' p (nI b) (nI l)
def Kef (k T : Nat) (ex : Option (Int32 × Int32 × Int32)) (D D' : Nat → Int32) (E E' : Mm) : Prop := match ex with
  | none => KFr D D' E E'
  | some (q, h, v) => KX D D' E E' k T q h v
def StickT (M : Mm) (k : Mm → Option Mm) : Option Mm :=
 lett (fun (M_2 : Mm) =>
 lett (0 : Int32) fun v4 =>
 lett (fun (M_4 : Mm) =>
 lett (fun (M_5 : Mm) =>
 lett (sI M_5 0 10 ((gI M_5 0 10) + (1 : Int32))) fun M7 =>
 k M7) fun j118 =>
 if (gI M_4 0 6) = 0 then
 (bnd (S_choose M_4) fun M9 =>
 j118 M9)
 else
 (j118 M_4)) fun j107 =>
 loopR (SprocB j107) 1000000 (v4, M_2)) fun j35 =>
 if (gI M 0 6) ≤ 0 then
 (j35 M)
 else
 (lett (sI M 0 6 ((gI M 0 6) - (1 : Int32))) fun M16 =>
 if (gI M16 0 6) = 0 then
 (bnd (S_complete M16) fun M17 =>
 j35 M17)
 else
 (j35 M16))
theorem S_run_e (p1 : Int32) (M : Mm) : S_run p1 M = lett (0 : Int32) fun v1 => loopR (fun (rec2 : (Int32 × Mm) → Option Mm) (x2 : Int32 × Mm) => if p1 ≤ x2.1 then some x2.2 else StickT x2.2 (fun M7 => lett (x2.1 + (1 : Int32)) fun v8 => rec2 (v8, M7))) 1000000 (v1, M) := rfl
theorem R_goesOn_e (M : Mm) : R_goesOn M = lett (sI M 0 56 ((gI M 0 56) + (1 : Int32))) fun M1 => bnd (R_its (5 : Int32) M1) fun r2 => lett (fun (M_2 : Mm) => lett (0 : Int32) fun v4 => lett (fun (M_4 : Mm) => bnd (R_its (5 : Int32) M_4) fun r6 => lett (fun (M_6 : Mm) => bnd (R_its (0 : Int32) M_6) fun r8 => bnd (R_puts (0 : Int32) (r8 + (1 : Int32)) M_6) fun M9 => some M9) fun j124 => if r6 = 0 then (bnd (R_chooses M_4) fun M10 => j124 M10) else (j124 M_4)) fun j112 => loopR (RprocB j112) 1000000 (v4, M_2)) fun j42 => if r2 ≤ 0 then (j42 M1) else (bnd (R_its (5 : Int32) M1) fun r20 => bnd (R_puts (5 : Int32) (r20 - (1 : Int32)) M1) fun M21 => bnd (R_its (5 : Int32) M21) fun r22 => if r22 = 0 then (bnd (R_isDone M21) fun M23 => j42 M23) else (j42 M21)) := rfl
theorem tick_on (I : Inv m0 n s t (t + 1) c D F) (ht : t + 1 < 16000) : Inv m0 n s (t + 1) (t + 1) c (updD D 0 (nI (t + 1))) F := by
  have hD : ∀ j, j ≠ 0 → updD D 0 (nI (t + 1)) j = D j := fun j hj => updD_n _ _ hj
  refine ⟨?_, I.p.cg (fun q hq => ?_), fun q hq => ?_, fun r hr => ?_, I.b.cg (fun j hj => hD j (by omega)), I.a.cg (fun j hj => hD j (by omega)) (fun q hq => hD _ (by omega)), I.o.cg (hD _ (by omega)) (fun q hq => ?_), I.f⟩
  · obtain ⟨g1, g2, g3, g4, g5, g6, g7, g8, g9⟩ := I.g
    unfold iG
    rw [updD_s]
    simp (disch := omega) only [hD]
    exact ⟨trivial, g2, g3, g4, g5, g6, g7, g8, ht⟩
  · simp (disch := omega) only [hD, and_self]
  · obtain ⟨q1, q2, q3, q4⟩ := I.q q hq
    simp (disch := omega) only [hD]
    exact ⟨q1, q2, q3, q4.mono (by omega)⟩
  · exact ((I.r r hr).mono (by omega)).cg (fun j hj => hD _ (by omega))
  · simp (disch := omega) only [hD, and_self]
theorem tick_X (hX : XR n c E D) (v : Int32) : XR n c E (updD D 0 v) ∧ KFr D (updD D 0 v) E E ∧ CFr D (updD D 0 v) E E := by
  have hD : ∀ j, j ≠ 0 → updD D 0 v j = D j := fun j hj => updD_n _ _ hj
  refine ⟨?_, ⟨hD _ (by omega), fun j hj => hD j (by omega), fun _ => rfl, rfl⟩, ⟨fun q k a b c => hD _ (by omega), fun _ _ _ _ _ => rfl, rfl, rfl, fun _ _ _ => rfl⟩⟩
  obtain ⟨hW, hY, hB, hS⟩ := hX
  refine ⟨fun i hi => ?_, fun i hi => ?_, fun h5 => ?_, fun i hi he => ?_⟩
  · obtain ⟨⟨w1, w2, w3, w4, w5⟩, w6⟩ := hW i hi
    unfold xRow
    dsimp only at w1 w2 w3 w4 w5 ⊢
    simp (disch := omega) only [hD]
    exact ⟨⟨w1, w2, w3, w4, w5⟩, w6⟩
  · rw [aLy_up (by omega)]; exact hY i hi
  · rw [hD _ (by omega)] at h5
    obtain ⟨w1, w2, w3, w4, w5⟩ := hB h5
    unfold xRow
    dsimp only at w1 w2 w3 w4 w5 ⊢
    simp (disch := omega) only [hD]
    exact ⟨w1, w2, w3, w4, w5⟩
  · rw [hD _ (by omega)] at he ⊢
    exact hS i hi he
theorem CX.tr' {D D' D2 : Nat → Int32} {E E' E2 : Mm} {p : Nat} {many lat : Int32} (hp : p < 6) (h : CFr D D' E E') (h' : CX D' D2 E' E2 p many lat) : CX D D2 E E2 p many lat := by
  obtain ⟨⟨a1, a2, a3, a4⟩, b, c, d, e, e2⟩ := h'
  obtain ⟨x1, x2, x3, x4, x5⟩ := h
  rw [x1 p 9 hp (by omega) (by omega)] at a1
  rw [x1 p 10 hp (by omega) (by omega)] at a2
  rw [x1 p 11 hp (by omega) (by omega)] at a3
  rw [x1 p 12 hp (by omega) (by omega)] at a4
  refine ⟨⟨a1, a2, a3, a4⟩, fun q k q1 q2 q3 q4 => (b q k q1 q2 q3 q4).trans (x1 q k q1 q3 q4), fun q k q1 q2 q3 => ?_, by rw [d, x3], e.trans x4, fun r k hr => (e2 r k hr).trans (x5 r k hr)⟩
  rw [c q k q1 q2 q3]
  unfold eCt eC2 eC1
  rw [x2 p 9 hp (by omega) (by omega), x2 p 10 hp (by omega) (by omega), x2 p 11 hp (by omega) (by omega), x2 p 12 hp (by omega) (by omega), x2 p 13 hp (by omega) (by omega), x3, x4]
  have := x2 q k q1 q2 q3
  split <;> simp only [gI_sI, this]
theorem tick_sim (hB : BB B) (hK : PK m0 n s) (hL : PL m0 n E) (I : Inv m0 n s t t c D F) (hX : XR n c E D) (ht : t + 1 < 16000) (hT : gI E 6 1 = nI T) (hT2 : T < 2 ^ 30) (hk : D 9 = nI k) (hk2 : k ≤ 40) (hx : B = 0 ∨ (gI m0 0 57 = nI x ∧ x ≤ 400)) (hy : B = 0 ∨ (gI m0 0 58 = nI y ∧ y ≤ 400)) : ∃ (D' : Nat → Int32) (F' : Nat → UInt32) (E' : Mm) (c' : Nat) (ev : Option (Nat × Nat × Nat)) (ex : Option (Int32 × Int32 × Int32)), R_goesOn (mkR m0 B D F) = some (mkR (logT m0 B x y ev ex) B D' F') ∧ (∀ j, StickT (mkS n E D F) j = j (mkS n E' D' F')) ∧ Inv (logT m0 B x y ev ex) n s (t + 1) (t + 1) c' D' F' ∧ XR n c' E' D' ∧ PL (logT m0 B x y ev ex) n E' ∧ SP m0 (logT m0 B x y ev ex) ∧ Cef n ev D D' E E' ∧ Kef k T ex D D' E E' := by
  have hn := hK.n6
  have sp0 : SP m0 (sI m0 0 56 (gI m0 0 56 + 1)) := (SP.rf m0).w _ (by omega)
  -- what is left
  obtain ⟨m1, D1, F1, E1, a1, a2, a3, a4, a5, a6, a7, a8, a9⟩ := left_sim (x := x) hB (hK.sp sp0) (hL.sp sp0) (I.sp sp0) hX (hx.imp id (fun h => ⟨by rw [gw_n _ _ _ _ (by omega)]; exact h.1, h.2⟩))
  have K1 := (hK.sp sp0).sp a6
  -- the processes
  obtain ⟨D2, F2, E2, c2, b1, b2, b3, b4, b5, b6, b7, b8⟩ := procs_sim (t := t) hB K1 n 0 c D1 F1 E1 (by omega) a5 a3 a4
  have hk2' : D2 9 = nI k := by rw [b6.1, a7.1]; exact hk
  have hT' : gI E2 6 1 = nI T := by rw [b6.2.2.2, a7.2.2.2]; exact hT
  have hy1 : B = 0 ∨ (gI m1 0 58 = nI y ∧ y ≤ 400) := by
    refine hy.imp id (fun h => ⟨?_, h.2⟩)
    rcases a9 with ⟨e, -⟩ | ⟨p, l, b, -, -, -, -, -, e, -⟩
    · rw [e, gw_n _ _ _ _ (by omega)]; exact h.1
    · rw [e]
      unfold lgE
      split
      · rw [gw_n _ _ _ _ (by omega)]; exact h.1
      · simp (disch := omega) only [gw_n]; exact h.1
  have h02 : D2 0 = D 0 := b8.trans a8
  have kf2 : KFr D D2 E E2 := a7.tr b6
  -- it chooses
  have hch : ∃ (m3 : Mm) (D3 : Nat → Int32) (F3 : Nat → UInt32) (E3 : Mm) (c3 : Nat), (∀ j : Mm → Option Mm, (if D2 5 = 0 then (bnd (R_chooses (mkR m1 B D2 F2)) fun M10 => j M10) else j (mkR m1 B D2 F2)) = j (mkR m3 B D3 F3)) ∧ (∀ j : Mm → Option Mm, (if D2 5 = 0 then (bnd (S_choose (mkS n E2 D2 F2)) fun M9 => j M9) else j (mkS n E2 D2 F2)) = j (mkS n E3 D3 F3)) ∧ Inv m3 n s t (t + 1) c3 D3 F3 ∧ XR n c3 E3 D3 ∧ PL m3 n E3 ∧ SP m1 m3 ∧ CFr D2 D3 E2 E3 ∧ ((m3 = m1 ∧ KFr D2 D3 E2 E3) ∨ ∃ q how sv, m3 = lgX m1 B y q how sv ∧ KX D2 D3 E2 E3 k T q how sv) := by
    by_cases h5 : D2 5 = 0
    · obtain ⟨m3, D3, F3, E3, c3, x1, x2, x3, x4, x5, x6, x7, x8⟩ := choose_sim hB K1 b5 b3 b4 (by rw [h5]; decide) hT' hT2 hk2' hk2 hy1
      refine ⟨m3, D3, F3, E3, c3, fun j => ?_, fun j => ?_, x3, x4, x5, x6, x7, x8⟩
      · rw [if_pos h5, x1, bnd_s]
      · rw [if_pos h5, x2, bnd_s]
    · exact ⟨m1, D2, F2, E2, c2, fun j => by rw [if_neg h5], fun j => by rw [if_neg h5], b3.up (by omega), b4, b5, SP.rf m1, CFr.rf D2 E2, Or.inl ⟨rfl, KFr.rf D2 E2⟩⟩
  obtain ⟨m3, D3, F3, E3, c3, x1, x2, x3, x4, x5, x6, x7, x8⟩ := hch
  have I4 := tick_on x3 ht
  obtain ⟨X4, kf4, cf4⟩ := tick_X x4 (nI (t + 1))
  have hsp : SP m0 m3 := (sp0.tr a6).tr x6
  have h03 : D3 0 = nI t := x3.t0
  have hRg : R_goesOn (mkR m0 B D F) = some (mkR m3 B (updD D3 0 (nI (t + 1))) F3) := by
    rw [R_goesOn_e, mkR_skip _ _ _ _ _ (by omega) (by omega), mkR_o _ _ _ _ (by omega) (by omega), lett_e, R_its_k5 hB, bnd_s]
    refine (lett_j (mkR m1 B D1 F1) (fun j => by have h := a1 j; rw [R_its_k5 hB] at h; exact h)).trans ?_
    rw [lett_e]
    refine (lett_e _ _).trans ?_
    rw [show (0 : Int32) = nI 0 from rfl, b1 _ 1000000 (by omega), R_its_k5 hB, bnd_s]
    refine (lett_j (mkR m3 B D3 F3) (fun j => x1 j)).trans ?_
    rw [show nI 0 = (0 : Int32) from rfl, R_its_k0 hB, bnd_s, h03, nA_1, R_puts_k0 hB, bnd_s]
  have hSg : ∀ j, StickT (mkS n E D F) j = j (mkS n E3 (updD D3 0 (nI (t + 1))) F3) := by
    intro j
    unfold StickT
    rw [s0_6]
    refine (lett_j (mkS n E1 D1 F1) (fun j => a2 j)).trans ?_
    rw [lett_e]
    refine (lett_e _ _).trans ?_
    rw [show (0 : Int32) = nI 0 from rfl, b2 _ 1000000 (by omega), s0_6]
    refine (lett_j (mkS n E3 D3 F3) (fun j => x2 j)).trans ?_
    rw [s0_10, h03, nA_1, s0w_10, lett_e]
  -- what happened
  obtain ⟨ev, e1, e2⟩ : ∃ ev : Option (Nat × Nat × Nat), m1 = (match ev with | none => fun m => m | some (p, l, b) => fun m => lgE m B x (nI p) (nI l) (nI b)) (sI m0 0 56 (gI m0 0 56 + 1)) ∧ Cef n ev D (updD D3 0 (nI (t + 1))) E E3 := by
    rcases a9 with ⟨e, h⟩ | ⟨p, l, b, h1, h2, h3, h4, h5, e, h⟩
    · exact ⟨none, e, ((h.tr b7).tr x7).tr cf4⟩
    · exact ⟨some (p, l, b), e, h1, h2, h3, h4, h5, CX.tr (by omega) h ((b7.tr x7).tr cf4)⟩
  obtain ⟨ex, e3, e4⟩ : ∃ ex : Option (Int32 × Int32 × Int32), m3 = (match ex with | none => fun m => m | some (q, h, v) => fun m => lgX m B y q h v) m1 ∧ Kef k T ex D (updD D3 0 (nI (t + 1))) E E3 := by
    rcases x8 with ⟨e, h⟩ | ⟨q, how, sv, e, h⟩
    · exact ⟨none, e, (kf2.tr h).tr kf4⟩
    · exact ⟨some (q, how, sv), e, (KX.tr' kf2 h02 hk2 h).tr kf4⟩
  have em : m3 = logT m0 B x y ev ex := by rw [e3, e1]; rfl
  rw [em] at hRg I4 x5 hsp
  exact ⟨_, F3, E3, c3, ev, ex, hRg, hSg, I4, X4, x5, hsp, e2, e4⟩
end TICK
