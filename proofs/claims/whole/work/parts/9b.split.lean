/-! PURE: the text is split -/
section SPLIT
variable {l : Nat} {B : Nat → Nat} {M R : Mm}
def TkOk (l : Nat) (B : Nat → Nat) (s n kd : Nat) (wd : Option Nat) : Prop := (s < l ∧ 1 ≤ n ∧ s + n ≤ l ∧ ¬ blB l B s = true) ∧ (ltB l B s = true → ¬ plB l B s = true) ∧ (dgB l B s = true → ¬ pdB l B s = true) ∧ ((ltB l B s = true ∧ (∀ i, i < n → ltB l B (s + i) = true) ∧ ¬ ltB l B (s + n) = true ∧ ((pdB l B s = true ∧ kd = 3 ∧ wd = none) ∨ (¬ pdB l B s = true ∧ kd = 1 ∧ wd = owN l B s n))) ∨ (dgB l B s = true ∧ (∀ i, i < n → dgB l B (s + i) = true) ∧ ¬ dgB l B (s + n) = true ∧ wd = none ∧ ((plB l B s = true ∧ kd = 3) ∨ (¬ plB l B s = true ∧ kd = 2))) ∨ (¬ ltB l B s = true ∧ ¬ dgB l B s = true ∧ n = 1 ∧ kd = 3 ∧ wd = none))
def Bd (l : Nat) (B : Nat → Nat) (p : Nat) : Prop := (ltB l B p = true → ¬ plB l B p = true) ∧ (dgB l B p = true → ¬ pdB l B p = true)
theorem pl_s {p : Nat} : plB l B (p + 1) = ltB l B p := by rw [pl_e, if_neg (by omega), show p + 1 - 1 = p by omega]
theorem pd_s {p : Nat} : pdB l B (p + 1) = dgB l B p := by rw [pd_e, if_neg (by omega), show p + 1 - 1 = p by omega]
theorem lt_dg {p : Nat} (h : ltB l B p = true) : ¬ dgB l B p = true := fun h2 => by
  have := ltB_i.mp h
  have := dgB_i.mp h2
  omega
theorem bl_no {p : Nat} (h : blB l B p = true) : ¬ ltB l B p = true ∧ ¬ dgB l B p = true := by
  have := blB_i.mp h
  exact ⟨fun h2 => by have := ltB_i.mp h2; omega, fun h2 => by have := dgB_i.mp h2; omega⟩
/-- behind a token a fresh one may begin -/
theorem Bd_n {s n kd : Nat} {wd : Option Nat} (h : TkOk l B s n kd wd) : Bd l B (s + n) := by
  obtain ⟨⟨h1, h2, h3, h4⟩, -, -, h5⟩ := h
  obtain ⟨m, rfl⟩ : ∃ m, n = m + 1 := ⟨n - 1, by omega⟩
  unfold Bd
  rw [show s + (m + 1) = s + m + 1 by omega, pl_s, pd_s]
  rcases h5 with ⟨-, a2, a3, -⟩ | ⟨-, a2, a3, -⟩ | ⟨a1, a2, a3, -⟩
  · exact ⟨fun h => absurd h a3, fun _ h => lt_dg (a2 m (by omega)) h⟩
  · exact ⟨fun _ h => lt_dg h (a2 m (by omega)), fun h => absurd h a3⟩
  · have : m = 0 := by omega
    subst this
    exact ⟨fun _ => a1, fun _ => a2⟩
theorem PT.fr {M' : Mm} (h : PT l B M) (e : ∀ a i, a = 5 ∨ a = 6 → gI M' a i = gI M a i) : PT l B M' := ⟨h.1, (e _ _ (by omega)).trans h.2.1, h.2.2.1, fun i hi => (e _ _ (by omega)).trans (h.2.2.2 i hi)⟩
/-- what one token writes -/
def tkW (M : Mm) (k : Nat) (s n kd : Int32) (wd : Option Nat) : Mm := sI (sR (sI (sI M 2 k s) 1 k kd) 4 k wd) 3 k n
theorem tkW_I {k : Nat} {s n kd : Int32} {wd : Option Nat} (a i : Nat) (h : ¬ (1 ≤ a ∧ a ≤ 3 ∧ i = k)) : gI (tkW M k s n kd wd) a i = gI M a i := by
  unfold tkW
  rw [gw_n _ _ _ _ (by omega), gI_sR, gw_n _ _ _ _ (by omega), gw_n _ _ _ _ (by omega)]
theorem tkW_v {k : Nat} {s n kd : Int32} {wd : Option Nat} : gI (tkW M k s n kd wd) 1 k = kd ∧ gI (tkW M k s n kd wd) 2 k = s ∧ gI (tkW M k s n kd wd) 3 k = n ∧ gR (tkW M k s n kd wd) 4 k = wd := by
  unfold tkW
  refine ⟨?_, ?_, gw_s _ _ _ _, ?_⟩
  · rw [gw_n _ _ _ _ (by omega), gI_sR, gw_s]
  · rw [gw_n _ _ _ _ (by omega), gI_sR, gw_n _ _ _ _ (by omega), gw_s]
  · rw [gR_sI, gR_sR, if_pos ⟨rfl, rfl⟩]
theorem tkW_R {k : Nat} {s n kd : Int32} {wd : Option Nat} (a i : Nat) (h : ¬ (a = 4 ∧ i = k)) : gR (tkW M k s n kd wd) a i = gR M a i := by
  unfold tkW
  rw [gR_sI, gR_sR, if_neg h, gR_sI, gR_sI]
theorem token_m (h : PT l B M) {k s : Nat} (hk : k ≤ 1600) (hs : s < l) (hb : ¬ blB l B s = true) (hd : Bd l B s) : ∃ n kd wd, P_DSplitToken (nI k) (nI s) M = some (nI n, tkW M k (nI s) (nI n) (nI kd) wd) ∧ TkOk l B s n kd wd := by
  have l1 := h.1
  obtain ⟨M4, hM4⟩ : ∃ M4, M4 = sI (sR (sI M 2 k (nI s)) 4 k none) 1 k 3 := ⟨_, rfl⟩
  have pt : PT l B M4 := h.fr (fun a i e => by rw [hM4, gw_n _ _ _ _ (by omega), gI_sR, gw_n _ _ _ _ (by omega)])
  have fin : ∀ (n : Int32) (kd : Int32) (wd : Option Nat), sI (sR (sI M4 1 k kd) 4 k wd) 3 k n = tkW M k (nI s) n kd wd := fun n kd wd => by
    rw [hM4]
    unfold tkW
    refine Prod.ext (funext fun a => funext fun i => ?_) (Prod.ext rfl (Prod.ext rfl (funext fun a => funext fun i => ?_)))
    · show gI (sI (sR (sI (sI (sR (sI M 2 k (nI s)) 4 k none) 1 k 3) 1 k kd) 4 k wd) 3 k n) a i = gI (sI (sR (sI (sI M 2 k (nI s)) 1 k kd) 4 k wd) 3 k n) a i
      rw [gI_sI, gI_sI, gI_sR, gI_sR, gI_sI, gI_sI, gI_sI, gI_sR]
      by_cases e1 : a = 3 ∧ i = k
      · rw [if_pos e1, if_pos e1]
      · rw [if_neg e1, if_neg e1]
        by_cases e2 : a = 1 ∧ i = k
        · rw [if_pos e2, if_pos e2]
        · rw [if_neg e2, if_neg e2, if_neg e2]
    · show gR (sI (sR (sI (sI (sR (sI M 2 k (nI s)) 4 k none) 1 k 3) 1 k kd) 4 k wd) 3 k n) a i = gR (sI (sR (sI (sI M 2 k (nI s)) 1 k kd) 4 k wd) 3 k n) a i
      rw [gR_sI, gR_sI, gR_sR, gR_sR, gR_sI, gR_sI, gR_sR, gR_sI, gR_sI, gR_sI]
      by_cases e1 : a = 4 ∧ i = k
      · rw [if_pos e1, if_pos e1]
      · rw [if_neg e1, if_neg e1, if_neg e1]
  have self : sR M4 4 k none = M4 := by
    refine Prod.ext rfl (Prod.ext rfl (Prod.ext rfl (funext fun a => funext fun i => ?_)))
    show gR (sR M4 4 k none) a i = gR M4 a i
    rw [gR_sR]
    by_cases e1 : a = 4 ∧ i = k
    · rw [if_pos e1, hM4, gR_sI, gR_sR, if_pos e1]
    · rw [if_neg e1]
  have self1 : sI M4 1 k 3 = M4 := by
    rw [hM4, sI_sI]
  have fin3 : ∀ n : Int32, sI M4 3 k n = tkW M k (nI s) n 3 none := fun n => by
    rw [← fin n 3 none, self1, self]
  have head : ∀ r, (bnd (P_TIsLetter (nI s) M4) fun r5 =>
 lett (fun (u_5 : Int32) (M_6 : Mm) =>
 ald (nI k) 1601 (lett (sI M_6 3 (ix (nI k)) u_5) fun M8 =>
 some (u_5, M8))) fun j121 =>
 if r5 = 0 then
 (bnd (P_TIsDigit (nI s) M4) fun r9 =>
 if r9 = 0 then
 (j121 1 M4)
 else
 (bnd (P_TDigitCount (nI s) M4) fun r10 =>
 lett r10 fun v11 =>
 bnd (P_TIsLetter (nI s - (1 : Int32)) M4) fun r12 =>
 if r12 = 0 then
 (ald (nI k) 1601 (lett (sI M4 1 (ix (nI k)) (2 : Int32)) fun M13 =>
 j121 v11 M13))
 else
 (j121 v11 M4)))
 else
 (bnd (P_TLetterCount (nI s) M4) fun r14 =>
 lett r14 fun v15 =>
 bnd (P_TIsDigit (nI s - (1 : Int32)) M4) fun r16 =>
 if r16 = 0 then
 (ald (nI k) 1601 (lett (sI M4 1 (ix (nI k)) (1 : Int32)) fun M17 =>
 bnd (P_WFind (nI s) v15 M17) fun r18 =>
 grd (okW r18 = true) (ald (nI k) 1601 (lett (sR M17 4 (ix (nI k)) r18) fun M19 =>
 j121 v15 M19))))
 else
 (j121 v15 M4))) = r → P_DSplitToken (nI k) (nI s) M = r := fun r hr => by
    unfold P_DSplitToken
    rw [lett_e, ald_n (by omega) (by omega), lett_e, grd_t (show okW none = true from rfl), ald_n (by omega) (by omega), lett_e, ald_n (by omega) (by omega), lett_e, ix_nI (by omega), ← hM4]
    rw [ix_nI (by omega)] at hr
    exact hr
  by_cases c1 : ltB l B s = true
  · obtain ⟨n, n1, n2, n3⟩ := run_ex (l := l) (ltB l B) (fun k hk => (ltB_i.mp hk).1) s
    have n4 := n3 (by omega)
    have n5 : 1 ≤ n := by
      rcases Nat.eq_zero_or_pos n with e | e
      · rw [e] at n2; exact absurd c1 n2
      · exact e
    by_cases c2 : pdB l B s = true
    · refine ⟨n, 3, none, head _ ?_, ⟨hs, n5, n4, hb⟩, hd.1, hd.2, Or.inl ⟨c1, n1, n2, Or.inl ⟨c2, rfl, rfl⟩⟩⟩
      rw [P_lt pt (by omega), bnd_s, lett_e, b2I_t c1, if_neg i10, P_letters pt (by omega) n1 n2 n4, bnd_s, lett_e, P_pdg pt (by omega), bnd_s, b2I_t c2, if_neg i10]
      dsimp only
      rw [ald_n (by omega) (by omega), lett_e, ix_nI (by omega), fin3]
      rfl
    · refine ⟨n, 1, owN l B s n, head _ ?_, ⟨hs, n5, n4, hb⟩, hd.1, hd.2, Or.inl ⟨c1, n1, n2, Or.inr ⟨c2, rfl, rfl⟩⟩⟩
      have pt2 : PT l B (sI M4 1 k 1) := pt.fr (fun a i e => gw_n _ _ _ _ (by omega))
      rw [P_lt pt (by omega), bnd_s, lett_e, b2I_t c1, if_neg i10, P_letters pt (by omega) n1 n2 n4, bnd_s, lett_e, P_pdg pt (by omega), bnd_s, b2I_f c2, if_pos rfl, ald_n (by omega) (by omega), lett_e, ix_nI (by omega), owN_m pt2 (by omega) (by omega), bnd_s, grd_t okW_ow, ald_n (by omega) (by omega), lett_e]
      dsimp only
      rw [ald_n (by omega) (by omega), lett_e]
      exact congrArg (fun x => some (nI n, x)) (fin (nI n) 1 (owN l B s n))
  · by_cases c3 : dgB l B s = true
    · obtain ⟨n, n1, n2, n3⟩ := run_ex (l := l) (dgB l B) (fun k hk => (dgB_i.mp hk).1) s
      have n4 := n3 (by omega)
      have n5 : 1 ≤ n := by
        rcases Nat.eq_zero_or_pos n with e | e
        · rw [e] at n2; exact absurd c3 n2
        · exact e
      by_cases c2 : plB l B s = true
      · refine ⟨n, 3, none, head _ ?_, ⟨hs, n5, n4, hb⟩, hd.1, hd.2, Or.inr (Or.inl ⟨c3, n1, n2, rfl, Or.inl ⟨c2, rfl⟩⟩)⟩
        rw [P_lt pt (by omega), bnd_s, lett_e, b2I_f c1, if_pos rfl, P_dg pt (by omega), bnd_s, b2I_t c3, if_neg i10, P_digits pt (by omega) n1 n2 n4, bnd_s, lett_e, P_plt pt (by omega), bnd_s, b2I_t c2, if_neg i10]
        dsimp only
        rw [ald_n (by omega) (by omega), lett_e, ix_nI (by omega), fin3]
        rfl
      · refine ⟨n, 2, none, head _ ?_, ⟨hs, n5, n4, hb⟩, hd.1, hd.2, Or.inr (Or.inl ⟨c3, n1, n2, rfl, Or.inr ⟨c2, rfl⟩⟩)⟩
        rw [P_lt pt (by omega), bnd_s, lett_e, b2I_f c1, if_pos rfl, P_dg pt (by omega), bnd_s, b2I_t c3, if_neg i10, P_digits pt (by omega) n1 n2 n4, bnd_s, lett_e, P_plt pt (by omega), bnd_s, b2I_f c2, if_pos rfl, ald_n (by omega) (by omega), lett_e]
        dsimp only
        rw [ald_n (by omega) (by omega), lett_e, ix_nI (by omega)]
        have e := fin (nI n) 2 none
        have s2 : sR (sI M4 1 k 2) 4 k none = sI M4 1 k 2 := by
          refine Prod.ext rfl (Prod.ext rfl (Prod.ext rfl (funext fun a => funext fun i => ?_)))
          have := congrFun (congrFun (congrArg (fun m : Mm => m.2.2.2) self) a) i
          exact this
        rw [s2] at e
        exact congrArg (fun x => some (nI n, x)) e
    · refine ⟨1, 3, none, head _ ?_, ⟨hs, by omega, by omega, hb⟩, hd.1, hd.2, Or.inr (Or.inr ⟨c1, c3, rfl, rfl, rfl⟩)⟩
      rw [P_lt pt (by omega), bnd_s, lett_e, b2I_f c1, if_pos rfl, P_dg pt (by omega), bnd_s, b2I_f c3, if_pos rfl]
      dsimp only
      rw [ald_n (by omega) (by omega), lett_e, ix_nI (by omega), fin3]
      rfl
/-! all tokens -/
def TkD (l : Nat) (B : Nat → Nat) (M : Mm) (k s n kd : Nat) (wd : Option Nat) : Prop := gI M 2 k = nI s ∧ gI M 3 k = nI n ∧ gI M 1 k = nI kd ∧ gR M 4 k = wd ∧ TkOk l B s n kd wd
def AtT (l : Nat) (B : Nat → Nat) (M : Mm) (T k pos : Nat) : Prop := (k < T ∧ ∃ s n kd wd, TkD l B M k s n kd wd ∧ pos ≤ s ∧ ∀ i, pos ≤ i → i < s → blB l B i = true) ∨ (k = T ∧ gI M 1 k = 0 ∧ gI M 2 k = nI l ∧ gR M 4 k = none ∧ pos ≤ l ∧ ∀ i, pos ≤ i → i < l → blB l B i = true)
def TKS (l : Nat) (B : Nat → Nat) (M : Mm) (T : Nat) : Prop := T ≤ 1600 ∧ AtT l B M T 0 0 ∧ ∀ k s n kd wd, k < T → TkD l B M k s n kd wd → AtT l B M T (k + 1) (s + n)
theorem split_m (h : PT l B M) (hw : ∀ i, i < 1601 → okW (gR M 4 i) = true) : ∃ M' T, P_DSplitText M = some M' ∧ TKS l B M' T ∧ (∀ a i, ¬ (1 ≤ a ∧ a ≤ 3) → gI M' a i = gI M a i) ∧ (∀ a i, a ≠ 4 → gR M' a i = gR M a i) ∧ (∀ i, i < 1601 → okW (gR M' 4 i) = true) ∧ M'.2.1 = M.2.1 ∧ M'.2.2.1 = M.2.2.1 := by
  have l1 := h.1
  obtain ⟨g, g0, gI', gS⟩ := seqN (α := Nat × Nat × Mm) (fun c x => x.2.1 ≤ l ∧ x.1 ≤ x.2.1 ∧ (c ≤ x.2.1 ∨ x.2.1 = l) ∧ PT l B x.2.2 ∧ Bd l B x.2.1 ∧ (∃ (st ln kd : Nat → Nat) (wd : Nat → Option Nat) (e : Nat), (∀ j, j < x.1 → TkD l B x.2.2 j (st j) (ln j) (kd j) (wd j)) ∧ (0 < x.1 → ∀ i, i < st 0 → blB l B i = true) ∧ (∀ j, j + 1 < x.1 → st j + ln j ≤ st (j + 1) ∧ ∀ i, st j + ln j ≤ i → i < st (j + 1) → blB l B i = true) ∧ (x.1 = 0 → e = 0) ∧ (0 < x.1 → e = st (x.1 - 1) + ln (x.1 - 1)) ∧ e ≤ x.2.1 ∧ ∀ i, e ≤ i → i < x.2.1 → blB l B i = true) ∧ (∀ a i, ¬ (1 ≤ a ∧ a ≤ 3) → gI x.2.2 a i = gI M a i) ∧ (∀ a i, a ≠ 4 → gR x.2.2 a i = gR M a i) ∧ (∀ i, i < 1601 → okW (gR x.2.2 4 i) = true) ∧ x.2.2.2.1 = M.2.1 ∧ x.2.2.2.2.1 = M.2.2.1) (fun c x y => (x.2.1 = l ∧ y = x) ∨ (x.2.1 < l ∧ blB l B x.2.1 = true ∧ y = (x.1, x.2.1 + 1, x.2.2)) ∨ (x.2.1 < l ∧ ¬ blB l B x.2.1 = true ∧ ∃ n, P_DSplitToken (nI x.1) (nI x.2.1) x.2.2 = some (nI n, y.2.2) ∧ y.1 = x.1 + 1 ∧ y.2.1 = x.2.1 + n)) (a := (0, 0, M)) ⟨by show 0 ≤ l; omega, Nat.le_refl _, Or.inl (Nat.le_refl _), h, ⟨fun _ h => by rw [pl_e, if_pos rfl] at h; exact absurd h (by decide), fun _ h => by rw [pd_e, if_pos rfl] at h; exact absurd h (by decide)⟩, ⟨fun _ => 0, fun _ => 0, fun _ => 0, fun _ => none, 0, fun j hj => absurd hj (Nat.not_lt_zero j), fun h => absurd h (Nat.lt_irrefl 0), fun j hj => absurd hj (Nat.not_lt_zero _), fun _ => rfl, fun h => absurd h (Nat.lt_irrefl 0), Nat.le_refl _, fun i _ h2 => absurd h2 (Nat.not_lt_zero i)⟩, fun _ _ _ => rfl, fun _ _ _ => rfl, hw, rfl, rfl⟩ l (fun c x hc hI => by
    obtain ⟨i1, i2, i3, i4, i5, ⟨st, ln, kd, wd, e, t1, t2, t3, t4, t5, t6, t7⟩, i6, i7, i8, i9, i10'⟩ := hI
    by_cases e1 : x.2.1 = l
    · exact ⟨x, Or.inl ⟨e1, rfl⟩, i1, i2, Or.inr e1, i4, i5, ⟨st, ln, kd, wd, e, t1, t2, t3, t4, t5, t6, t7⟩, i6, i7, i8, i9, i10'⟩
    · by_cases e2 : blB l B x.2.1 = true
      · refine ⟨(x.1, x.2.1 + 1, x.2.2), Or.inr (Or.inl ⟨by omega, e2, rfl⟩), by show x.2.1 + 1 ≤ l; omega, by show x.1 ≤ x.2.1 + 1; omega, Or.inl (by show c + 1 ≤ x.2.1 + 1; omega), i4, ?_, ⟨st, ln, kd, wd, e, t1, t2, t3, t4, t5, by show e ≤ x.2.1 + 1; omega, fun i h1 h2 => ?_⟩, i6, i7, i8, i9, i10'⟩
        · show Bd l B (x.2.1 + 1)
          unfold Bd
          rw [pl_s, pd_s]
          exact ⟨fun _ => (bl_no e2).1, fun _ => (bl_no e2).2⟩
        · have h2' : i < x.2.1 + 1 := h2
          by_cases e3 : i = x.2.1
          · rw [e3]; exact e2
          · exact t7 i h1 (by omega)
      · obtain ⟨n, kd1, wd1, a1, a2⟩ := token_m i4 (k := x.1) (s := x.2.1) (by omega) (by omega) e2 i5
        have a2' := a2
        obtain ⟨⟨q1, q2, q3, q4⟩, -⟩ := a2'
        refine ⟨(x.1 + 1, x.2.1 + n, tkW x.2.2 x.1 (nI x.2.1) (nI n) (nI kd1) wd1), Or.inr (Or.inr ⟨by omega, e2, n, a1, rfl, rfl⟩), q3, by show x.1 + 1 ≤ x.2.1 + n; omega, Or.inl (by show c + 1 ≤ x.2.1 + n; omega), i4.fr (fun a i e => tkW_I a i (by omega)), Bd_n a2, ?_, fun a i h => (tkW_I a i (by omega)).trans (i6 a i h), fun a i h => (tkW_R a i (by omega)).trans (i7 a i h), fun i hi => ?_, i9, i10'⟩
        · obtain ⟨v1, v2, v3, v4⟩ := tkW_v (M := x.2.2) (k := x.1) (s := nI x.2.1) (n := nI n) (kd := nI kd1) (wd := wd1)
          refine ⟨updD st x.1 x.2.1, updD ln x.1 n, updD kd x.1 kd1, updD wd x.1 wd1, x.2.1 + n, fun j hj => ?_, fun _ i hi => ?_, fun j hj => ?_, fun h => absurd h (by show ¬ x.1 + 1 = 0; omega), fun _ => ?_, Nat.le_refl _, fun i h1 h2 => absurd h2 (by show ¬ i < x.2.1 + n; omega)⟩
          · have hj' : j < x.1 + 1 := hj
            by_cases e3 : j = x.1
            · subst e3
              rw [updD_s, updD_s, updD_s, updD_s]
              exact ⟨v2, v3, v1, v4, a2⟩
            · rw [updD_n _ _ e3, updD_n _ _ e3, updD_n _ _ e3, updD_n _ _ e3]
              obtain ⟨w1, w2, w3, w4, w5⟩ := t1 j (by omega)
              exact ⟨(tkW_I _ _ (by omega)).trans w1, (tkW_I _ _ (by omega)).trans w2, (tkW_I _ _ (by omega)).trans w3, (tkW_R _ _ (by omega)).trans w4, w5⟩
          · by_cases e3 : x.1 = 0
            · rw [e3, updD_s] at hi
              exact t7 i (by rw [t4 e3]; omega) hi
            · rw [updD_n _ _ (by omega)] at hi
              exact t2 (by omega) i hi
          · have hj' : j + 1 < x.1 + 1 := hj
            by_cases e3 : j + 1 = x.1
            · have t5' := t5 (by omega)
              rw [show x.1 - 1 = j by omega] at t5'
              rw [e3, updD_s, updD_n _ _ (by omega), updD_n _ _ (by omega), ← t5']
              exact ⟨t6, t7⟩
            · rw [updD_n _ _ (by omega), updD_n _ _ (by omega), updD_n _ _ (by omega)]
              exact t3 j (by omega)
          · show x.2.1 + n = updD st x.1 x.2.1 (x.1 + 1 - 1) + updD ln x.1 n (x.1 + 1 - 1)
            rw [show x.1 + 1 - 1 = x.1 by omega, updD_s, updD_s]
        · show okW (gR (tkW x.2.2 x.1 (nI x.2.1) (nI n) (nI kd1) wd1) 4 i) = true
          by_cases e3 : i = x.1
          · subst e3
            rw [tkW_v.2.2.2]
            rcases a2.2.2.2 with ⟨-, -, -, ⟨-, -, u⟩ | ⟨-, -, u⟩⟩ | ⟨-, -, -, u, -⟩ | ⟨-, -, -, -, u⟩
            · rw [u]; rfl
            · rw [u]; exact okW_ow
            · rw [u]; rfl
            · rw [u]; rfl
          · rw [tkW_R _ _ (by omega)]
            exact i8 i hi)
  obtain ⟨T, hT1, hT2⟩ := pk_least (fun c => (g c).2.1 = l) ⟨l, by
    obtain ⟨i1, -, i3, -⟩ := gI' l (Nat.le_refl _)
    omega⟩
  have hT : T ≤ l := by
    rcases Nat.lt_or_ge l T with h1 | h1
    · obtain ⟨i1, -, i3, -⟩ := gI' l (Nat.le_refl _)
      exact absurd (by omega) (hT2 l h1)
    · exact h1
  obtain ⟨i1, i2, -, i4, i5, ⟨st, ln, kd, wd, e, t1, t2, t3, t4, t5, t6, t7⟩, i6, i7, i8, i9, i10'⟩ := gI' T hT
  have hpos : (g T).2.1 = l := hT1
  obtain ⟨X, hX⟩ : ∃ X, X = sR (sI (sI (g T).2.2 1 (g T).1 0) 2 (g T).1 (nI l)) 4 (g T).1 none := ⟨_, rfl⟩
  have xI : ∀ a i, ¬ ((a = 1 ∨ a = 2) ∧ i = (g T).1) → gI X a i = gI (g T).2.2 a i := fun a i hh => by rw [hX, gI_sR, gw_n _ _ _ _ (by omega), gw_n _ _ _ _ (by omega)]
  have xR : ∀ a i, ¬ (a = 4 ∧ i = (g T).1) → gR X a i = gR (g T).2.2 a i := fun a i hh => by rw [hX, gR_sR, if_neg hh, gR_sI, gR_sI]
  have x1 : gI X 1 (g T).1 = 0 := by rw [hX, gI_sR, gw_n _ _ _ _ (by omega), gw_s]
  have x2 : gI X 2 (g T).1 = nI l := by rw [hX, gI_sR, gw_s]
  have x4 : gR X 4 (g T).1 = none := by rw [hX, gR_sR, if_pos ⟨rfl, rfl⟩]
  have xT : ∀ j, j < (g T).1 → TkD l B X j (st j) (ln j) (kd j) (wd j) := fun j hj => by
    obtain ⟨w1, w2, w3, w4, w5⟩ := t1 j hj
    exact ⟨(xI _ _ (by omega)).trans w1, (xI _ _ (by omega)).trans w2, (xI _ _ (by omega)).trans w3, (xR _ _ (by omega)).trans w4, w5⟩
  have uq : ∀ j s n kd' wd', j < (g T).1 → TkD l B X j s n kd' wd' → s = st j ∧ n = ln j := fun j s n kd' wd' hj hh => by
    obtain ⟨w1, w2, -, -, ⟨w5, w6, w7, -⟩, -⟩ := xT j hj
    obtain ⟨y1, y2, -, -, ⟨y5, y6, y7, -⟩, -⟩ := hh
    exact ⟨(nI_eq (by omega) (by omega)).mp (y1.symm.trans w1), (nI_eq (by omega) (by omega)).mp (y2.symm.trans w2)⟩
  have at' : ∀ k, k ≤ (g T).1 → AtT l B X (g T).1 k (if k = 0 then 0 else st (k - 1) + ln (k - 1)) := fun k hk => by
    by_cases e1 : k < (g T).1
    · refine Or.inl ⟨e1, st k, ln k, kd k, wd k, xT k e1, ?_⟩
      by_cases e2 : k = 0
      · subst e2
        rw [if_pos rfl]
        exact ⟨by omega, fun i _ h2 => t2 e1 i h2⟩
      · rw [if_neg e2]
        have := t3 (k - 1) (by omega)
        rw [show k - 1 + 1 = k by omega] at this
        exact this
    · have e1' : k = (g T).1 := by omega
      refine Or.inr ⟨e1', by rw [e1']; exact x1, by rw [e1']; exact x2, by rw [e1']; exact x4, ?_⟩
      by_cases e2 : k = 0
      · rw [if_pos e2]
        have t4' := t4 (by omega)
        rw [t4', hpos] at t7
        exact ⟨by omega, fun i h1 h2 => t7 i h1 h2⟩
      · rw [if_neg e2, e1', ← t5 (by omega)]
        rw [hpos] at t6 t7
        exact ⟨t6, t7⟩
  refine ⟨X, (g T).1, ?_, ⟨by omega, ?_, fun k s n kd' wd' hk hh => ?_⟩, fun a i hh => ?_, fun a i hh => ?_, fun i hi => ?_, ?_, ?_⟩
  · unfold P_DSplitText
    rw [lett_e, lett_e, lett_e]
    refine loopR_sq (fun c => (nI (g c).1, nI (g c).2.1, (g c).2.2)) T (by omega) (by rw [g0]; rfl) (fun c hc rec => ?_) (fun rec => ?_)
    · have ne : (g c).2.1 ≠ l := hT2 c hc
      obtain ⟨j1, j2, -, j4, -⟩ := gI' c (by omega)
      dsimp only
      rw [j4.2.1, if_neg (nI_ge (by omega) (by omega)), if_neg (le_f 1600 1600 rfl (by omega) (by omega)), P_bl j4 (by omega), bnd_s]
      rcases gS c (by omega) with ⟨s1, -⟩ | ⟨s1, s2, s3⟩ | ⟨s1, s2, n, s3, s4, s5⟩
      · exact absurd s1 ne
      · rw [b2I_t s2, if_neg i10, lett_e, nA_1, s3]
      · rw [b2I_f s2, if_pos rfl, s3, bnd_s, lett_e, lett_e, nI_add, nA_1, s4, s5]
    · dsimp only
      rw [i4.2.1, hpos, if_pos (nI_le (Nat.le_refl _) (by omega)), ald_n (by omega) (by omega), lett_e, ald_n (by omega) (by omega), lett_e, grd_t (show okW none = true from rfl), ald_n (by omega) (by omega), lett_e, ix_nI (by omega), gw_n _ _ _ _ (by omega), i4.2.1, hX]
  · have := at' 0 (by omega)
    rw [if_pos rfl] at this
    exact this
  · obtain ⟨u1, u2⟩ := uq k s n kd' wd' hk hh
    have := at' (k + 1) (by omega)
    rw [if_neg (by omega), show k + 1 - 1 = k by omega, ← u1, ← u2] at this
    exact this
  · rw [xI _ _ (by omega)]; exact i6 a i hh
  · rw [xR _ _ (by omega)]; exact i7 a i hh
  · by_cases e1 : i = (g T).1
    · rw [e1, x4]; rfl
    · rw [xR _ _ (by omega)]; exact i8 i hi
  · rw [hX]; exact i9
  · rw [hX]; exact i10'
end SPLIT
