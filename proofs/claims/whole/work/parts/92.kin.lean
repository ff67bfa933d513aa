/-! PURE: which queue is active ahead, by which idling -/
def kd (x : Int32) : Int32 := if x = -1 then 6 else x
theorem kindOf_m {n : Nat} (hn : n ≤ 6) {x : Int32} (hx : x = -1 ∨ isN n x) (M : Mm) : C_kindOf x M = some (kd x) ∧ isN 7 (kd x) := by
  unfold C_kindOf kd
  rcases hx with rfl | ⟨q, q1, rfl⟩
  · rw [if_pos rfl]
    exact ⟨rfl, 6, by omega, rfl⟩
  · rw [if_neg (nI_m1 (by omega))]
    refine ⟨?_, q, by omega, rfl⟩
    unfold C_isWithin
    rw [if_neg (nI_pos (by omega)), if_neg (lt_f 5 5 rfl (by omega) (by omega)), bnd_s, if_neg i10]
section KIN
variable {n s t b k w P Q c : Nat} {C C' R R' : Mm} {σ σ' : Sta} {f : Nat → Sta × Mm}
def KB (n s t P w : Nat) (C R : Mm) (f : Nat → Sta × Mm) : Prop := (∃ C1 M4, C_startAhead C = some (46, C1) ∧ (f 0).2 = sI C1 46 16 (nI w) ∧ R_tries R = some M4 ∧ R_puts 6 (nI w) M4 = some (mkR (f 0).1.m 758 (f 0).1.D (f 0).1.F)) ∧ (∀ i, i ≤ 60 → Ah n s t 0 i P (f i).2 (f i).1) ∧ ∀ i, i < 60 → AW n i (f i).1 (f (i + 1)).1 ∧ ∃ z, S_run 1 (sbM (emS 46 P) (f i).2) = some z ∧ (f (i + 1)).2 = inM (dmS 46 P) kpS (f i).2 z
theorem kin_base (hS : StR R n s t c (gI R 16) (gF R 17) C 26 P) (hP : P = 1 ∨ P = 10) (ht : t ≤ 9999) (hw : w ≤ 20) : ∃ f, KB n s t P w C R f := by
  obtain ⟨C1, σ, a1, a2, a3, a4, a5, aD, a6, -⟩ := start_ahead hS hP
  have hn := a3.n6
  have a7 : Ah n s t 0 0 P (sI C1 46 16 (nI w)) _ := a3.set (by omega) (a := 0) (i := 16) (j := 6) (v := nI w) rfl (a3.1.2.2.1.s6 hn ⟨w, by omega, rfl⟩) (by omega) (by omega)
  obtain ⟨f, f0, fI, fS⟩ := chain_ahead a7 hP 60 (by omega) (by omega)
  refine ⟨f, ⟨C1, _, a1, by rw [f0], a2, ?_⟩, fun i hi => (fI i hi).1, fS⟩
  rw [f0]
  exact rpn (Or.inr rfl) (show 6 < 758 by omega) _
theorem KB.act (hb : KB n s t P w C R f) {i : Nat} (hi : i ≤ 60) : (f i).1.D 2 = -1 ∨ isN n ((f i).1.D 2) := (hb.2.1 i hi).1.2.2.1.g.2.2.1
/-- the class starts -/
theorem KB.c0 (hb : KB n s t P w C R f) (hS : StR R n s t c (gI R 16) (gF R 17) C 26 P) (hP : P = 1 ∨ P = 10) (hw : w ≤ 20) (hc : CSm C C') : ∃ C1 σ, C_startAhead C' = some (46, C1) ∧ Ah n s t 0 0 P (sI C1 46 16 (nI w)) σ ∧ mkR σ.m 758 σ.D σ.F = mkR (f 0).1.m 758 (f 0).1.D (f 0).1.F ∧ CSm C (sI C1 46 16 (nI w)) := by
  have hS' : StR R n s t c (gI R 16) (gF R 17) C' 26 P := hS.fr (SP.rf R) (fun _ _ => rfl) (fun _ _ => rfl) (fun a k e => hc.1 a k (by omega)) (fun a k e => hc.2.1 a k (by omega)) (hc.2.2.2 _ _ (by omega))
  obtain ⟨C1, σ, a1, a2, a3, a4, a5, aD, a6, -⟩ := start_ahead hS' hP
  have hn := a3.n6
  have a7 : Ah n s t 0 0 P (sI C1 46 16 (nI w)) _ := a3.set (by omega) (a := 0) (i := 16) (j := 6) (v := nI w) rfl (a3.1.2.2.1.s6 hn ⟨w, by omega, rfl⟩) (by omega) (by omega)
  refine ⟨C1, _, a1, a7, ?_, (hc.tr a5).tr (set_csm (a := 0) (by omega))⟩
  obtain ⟨⟨C1', M4, b1, b2, b3, b4⟩, -⟩ := hb
  rw [a2] at b3
  cases b3
  have e := rpn (m0 := σ.m) (D := σ.D) (F := σ.F) (B := 758) (Or.inr rfl) (show 6 < 758 by omega) (nI w)
  exact Option.some.inj (e.symm.trans b4)
/-- the class's tick -/
theorem KB.cs (hb : KB n s t P w C R f) (hP : P = 1 ∨ P = 10) (ht : t ≤ 9999) {i : Nat} (hA : Ah n s t 0 i P C' σ) (he : mkR σ.m 758 σ.D σ.F = mkR (f i).1.m 758 (f i).1.D (f i).1.F) (hi : i < 60) : ∃ z σ', S_run 1 (sbM (emS 46 P) C') = some z ∧ Ah n s t 0 (i + 1) P (inM (dmS 46 P) kpS C' z) σ' ∧ mkR σ'.m 758 σ'.D σ'.F = mkR (f (i + 1)).1.m 758 (f (i + 1)).1.D (f (i + 1)).1.F ∧ CSm C' (inM (dmS 46 P) kpS C' z) ∧ gI (inM (dmS 46 P) kpS C' z) 46 11 = (f (i + 1)).1.D 2 := by
  obtain ⟨z, σ', b1, b2, b3, b4⟩ := one_ahead hA hP (by omega) (by omega)
  have e1 := b2.1
  rw [he, (hb.2.2 i hi).1.1] at e1
  have e2 := (Option.some.inj e1).symm
  refine ⟨z, σ', b1, b3, e2, b4, ?_⟩
  have e3 : gI (inM (dmS 46 P) kpS C' z) 46 11 = σ'.D 2 := b3.2.2.1 0 11 2 rfl
  rw [e3, ← mkR_16 σ'.m 758 σ'.D σ'.F (show 2 < 758 by omega), e2, mkR_16 _ _ _ _ (show 2 < 758 by omega)]
/-- what lies elsewhere in the class doesn't count -/
theorem Ah.co (h : Ah n s t b k P C σ) (hI : ∀ a i, (46 ≤ a ∧ a < 66) ∨ (P ≤ a ∧ a < P + 9) → gI C' a i = gI C a i) (hF : ∀ a i, 46 ≤ a ∧ a < 66 → gF C' a i = gF C a i) (hr : gR C' 46 0 = gR C 46 0) : Ah n s t b k P C' (σ.m, σ.D, σ.F, sbM (emS 46 P) C', σ.c, σ.ne, σ.ev, σ.nx, σ.xv) := by
  refine ⟨h.1.ofS (fun r j hr' => ?_), rfl, fun a i j hl => ?_, fun a i j hl => ?_, hr.trans h.2.2.2.2⟩
  · rw [h.mk, sb_I, sb_I]
    by_cases e : r < 20
    · rw [em_lo e]; exact hI _ _ (by omega)
    · rw [em_hi (by omega)]; exact hI _ _ (by omega)
  · have := (locI_lt hl).1
    exact (hI _ _ (by omega)).trans (h.2.2.1 a i j hl)
  · have := (locF_lt hl).1
    exact (hF _ _ (by omega)).trans (h.2.2.2.1 a i j hl)
/-- nor what the reference writes of what was active -/
theorem Ah.mo (h : Ah n s t b k P C σ) {m : Mm} (hm : ∀ a i, a ≠ 24 → a ≠ 25 → gI m a i = gI σ.m a i) : Ah n s t b k P C (m, σ.D, σ.F, σ.E, σ.c, σ.ne, σ.ev, σ.nx, σ.xv) := by
  obtain ⟨⟨hK, hL, I, hX, h56, ⟨le1, le2⟩, ⟨lx1, lx2⟩, h1, h2, h3, h4, h5, h6⟩, hE, l1, l2, l3⟩ := h
  have sp : SP σ.m m := SP.of (fun a k e => hm a k (by omega) (by omega))
  refine ⟨⟨hK.sp sp, hL.sp sp, I.sp sp, hX, (hm _ _ (by omega) (by omega)).trans h56, ⟨(hm _ _ (by omega) (by omega)).trans le1, fun j hj => ?_⟩, ⟨(hm _ _ (by omega) (by omega)).trans lx1, fun j hj => ?_⟩, h1, h2, h3, h4, h5, h6⟩, hE, l1, l2, l3⟩
  · show gI m 20 _ = _ ∧ gI m 20 _ = _ ∧ gI m 20 _ = _ ∧ gI m 20 _ = _
    rw [hm _ _ (by omega) (by omega), hm _ _ (by omega) (by omega), hm _ _ (by omega) (by omega), hm _ _ (by omega) (by omega)]
    exact le2 j hj
  · show gI m 21 _ = _ ∧ gI m 21 _ = _ ∧ gI m 21 _ = _ ∧ gI m 21 _ = _
    rw [hm _ _ (by omega) (by omega), hm _ _ (by omega) (by omega), hm _ _ (by omega) (by omega), hm _ _ (by omega) (by omega)]
    exact lx2 j hj
/-- the reference starts -/
theorem KB.r0 (hb : KB n s t P w C R f) (hS : StR R n s t c (gI R 16) (gF R 17) C 26 P) (hP : P = 1 ∨ P = 10) (hw : w ≤ 20) (hr : RSm R R') : ∃ σ M4, R_tries R' = some M4 ∧ R_puts 6 (nI w) M4 = some (mkR σ.m 758 σ.D σ.F) ∧ Ah n s t 0 0 P (f 0).2 σ ∧ Fm R' σ := by
  have hS' : StR R' n s t c (gI R' 16) (gF R' 17) C 26 P := hS.fr (SP.of (fun a k e => hr.1 a k (by omega) (by omega) (by omega) (by omega) (by omega) (by omega))) (fun j hj => hr.1 _ _ (by omega) (by omega) (by omega) (by omega) (by omega) (by omega)) (fun j hj => hr.2 _ _ (by omega)) (fun _ _ _ => rfl) (fun _ _ _ => rfl) rfl
  obtain ⟨C1, σ, a1, a2, a3, a4, a5, aD, a6, -⟩ := start_ahead hS' hP
  have hn := a3.n6
  have a7 : Ah n s t 0 0 P (sI C1 46 16 (nI w)) _ := a3.set (by omega) (a := 0) (i := 16) (j := 6) (v := nI w) rfl (a3.1.2.2.1.s6 hn ⟨w, by omega, rfl⟩) (by omega) (by omega)
  obtain ⟨⟨C1', M4, b1, b2, b3, b4⟩, -⟩ := hb
  rw [a1] at b1
  have e : C1 = C1' := congrArg Prod.snd (Option.some.inj b1)
  subst e
  rw [← b2] at a7
  refine ⟨_, _, a2, ?_, a7, a4⟩
  exact rpn (Or.inr rfl) (show 6 < 758 by omega) _
/-- the reference's tick -/
theorem KB.rs (hb : KB n s t P w C R f) (hP : P = 1 ∨ P = 10) (ht : t ≤ 9999) {i : Nat} (hA : Ah n s t 0 i P (f i).2 σ) (hi : i < 60) : ∃ σ', R_goesOn (mkR σ.m 758 σ.D σ.F) = some (mkR σ'.m 758 σ'.D σ'.F) ∧ Ah n s t 0 (i + 1) P (f (i + 1)).2 σ' ∧ σ'.D 2 = (f (i + 1)).1.D 2 ∧ AW n i σ σ' := by
  obtain ⟨z, σ', b1, b2, b3, b4⟩ := one_ahead hA hP (by omega) (by omega)
  obtain ⟨-, z', z1, z2⟩ := hb.2.2 i hi
  rw [b1] at z1
  cases z1
  rw [← z2] at b3
  refine ⟨σ', b2.1, b3, ?_, b2⟩
  exact (b3.2.2.1 0 11 2 rfl).symm.trans ((hb.2.1 (i + 1) (by omega)).2.2.1 0 11 2 rfl)
end KIN
/-! bits -/
theorem nI_or {a b : Nat} (ha : a < 2 ^ 32) (hb : b < 2 ^ 32) : nI a ||| nI b = nI (a ||| b) := by
  have h : (nI a ||| nI b).toBitVec.toNat = (nI (a ||| b)).toBitVec.toNat := by
    rw [Int32.toBitVec_or, BitVec.toNat_or, pk_tn ha, pk_tn hb, pk_tn (Nat.or_lt_two_pow ha hb)]
  exact Int32.toBitVec_inj.mp (BitVec.eq_of_toNat_eq h)
theorem sh_ok : ((List.range 21).all fun i => decide (((nI i &&& 31).toBitVec.smod 32).toNat = i)) = true := by decide +kernel
theorem sh_i {i : Nat} (hi : i ≤ 20) : ((nI i &&& 31).toBitVec.smod 32).toNat = i := of_decide_eq_true (List.all_eq_true.mp sh_ok i (List.mem_range.mpr (by omega)))
def btN (ft : Nat → Nat) (i : Nat) : Nat := itr (fun j x => x + ft j * 2 ^ j) 0 i
theorem btN_s (ft : Nat → Nat) (i : Nat) : btN ft (i + 1) = btN ft i + ft i * 2 ^ i := rfl
theorem btN_lt {ft : Nat → Nat} (h : ∀ j, ft j ≤ 1) (i : Nat) : btN ft i < 2 ^ i := by
  induction i with
  | zero => exact Nat.lt_succ_self 0
  | succ i ih =>
    rw [btN_s, Nat.pow_succ]
    have := Nat.mul_le_mul_right (2 ^ i) (h i)
    omega
theorem p2_20 {i : Nat} (h : i ≤ 21) : 2 ^ i ≤ 2097152 := Nat.pow_le_pow_right (by omega) h
/-- one more bit -/
theorem bit_s {ft : Nat → Nat} (h : ∀ j, ft j ≤ 1) {i : Nat} (hi : i ≤ 20) : nI (btN ft i) ||| (nI (ft i) <<< (nI i &&& 31)) = nI (btN ft (i + 1)) := by
  have h1 := btN_lt h i
  have h2 := p2_20 (show i ≤ 21 by omega)
  have h3 := h i
  have h4 : ft i * 2 ^ i ≤ 2 ^ i := by
    have := Nat.mul_le_mul_right (2 ^ i) h3
    omega
  rw [pk_shlN _ i (sh_i hi) (by omega), nI_or (by omega) (by omega), btN_s]
  have e := Nat.two_pow_add_eq_or_of_lt h1 (ft i)
  rw [Nat.or_comm, Nat.mul_comm (ft i), ← e, Nat.add_comm]
theorem bit_0 {i : Nat} (hi : i ≤ 20) : (0 : Int32) <<< (nI i &&& 31) = 0 := by
  have := pk_shlN (n := 0) (nI i &&& 31) i (sh_i hi) (by rw [Nat.zero_mul]; omega)
  rw [Nat.zero_mul] at this
  exact this
theorem btN_bit {ft : Nat → Nat} (h : ∀ j, ft j ≤ 1) {w i : Nat} (hw : w < i) : btN ft i / 2 ^ w % 2 = ft w := by
  induction i with
  | zero => omega
  | succ i ih =>
    rw [btN_s]
    have hp : 0 < 2 ^ w := Nat.two_pow_pos w
    by_cases e : w = i
    · subst e
      rw [Nat.add_mul_div_right _ _ hp, Nat.div_eq_of_lt (btN_lt h w), Nat.zero_add]
      exact Nat.mod_eq_of_lt (by have := h w; omega)
    · have e2 : ft i * 2 ^ i = (ft i * 2 ^ (i - w - 1) * 2) * 2 ^ w := by
        rw [Nat.mul_assoc, Nat.mul_assoc, ← Nat.pow_succ', ← Nat.pow_add, show i - w - 1 + w.succ = i by omega]
      rw [e2, Nat.add_mul_div_right _ _ hp, Nat.add_mul_mod_self_right]
      exact ih (by omega)
theorem bit_t {B w : Nat} (hB : B < 2 ^ 31) (hw : w ≤ 20) : (nI B >>> (nI w &&& 31)) &&& (1 : Int32) = nI (B / 2 ^ w % 2) := by
  have h : B / 2 ^ w ≤ B := Nat.div_le_self _ _
  rw [pk_shrN hB _ w (sh_i hw), pk_andN (by omega) 1 (by decide)]
