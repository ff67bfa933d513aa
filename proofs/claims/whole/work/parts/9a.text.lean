/-! PURE: the text, its tokens -/
section TEXT
variable {l : Nat} {B : Nat → Nat}
def byN (l : Nat) (B : Nat → Nat) (k : Nat) : Int32 := if k < l then nI (B k) else -1
def pvN (l : Nat) (B : Nat → Nat) (k : Nat) : Int32 := if k = 0 then -1 else byN l B (k - 1)
def ltB (l : Nat) (B : Nat → Nat) (k : Nat) : Bool := decide (k < l ∧ 97 ≤ B k ∧ B k ≤ 122)
def dgB (l : Nat) (B : Nat → Nat) (k : Nat) : Bool := decide (k < l ∧ 48 ≤ B k ∧ B k ≤ 57)
def blB (l : Nat) (B : Nat → Nat) (k : Nat) : Bool := decide (k < l ∧ (B k = 10 ∨ B k = 32))
def plB (l : Nat) (B : Nat → Nat) (k : Nat) : Bool := decide (k ≠ 0) && ltB l B (k - 1)
def pdB (l : Nat) (B : Nat → Nat) (k : Nat) : Bool := decide (k ≠ 0) && dgB l B (k - 1)
def b2I (b : Bool) : Int32 := if b = true then 1 else 0
theorem ltB_i {k : Nat} : ltB l B k = true ↔ k < l ∧ 97 ≤ B k ∧ B k ≤ 122 := by unfold ltB; exact decide_eq_true_iff
theorem dgB_i {k : Nat} : dgB l B k = true ↔ k < l ∧ 48 ≤ B k ∧ B k ≤ 57 := by unfold dgB; exact decide_eq_true_iff
theorem blB_i {k : Nat} : blB l B k = true ↔ k < l ∧ (B k = 10 ∨ B k = 32) := by unfold blB; exact decide_eq_true_iff
/-- the text in the reader's memory, in the reference's -/
def PT (l : Nat) (B : Nat → Nat) (M : Mm) : Prop := l ≤ 1600 ∧ gI M 5 1 = nI l ∧ (∀ i, i < l → B i < 256) ∧ ∀ i, i < l → gI M 6 i = nI (B i)
def RT (l : Nat) (B : Nat → Nat) (R : Mm) : Prop := l ≤ 1600 ∧ gI R 0 43 = nI l ∧ (∀ i, i < l → B i < 256) ∧ (∀ i, i < l → gI R 13 i = nI (B i)) ∧ ∀ i, i < 105 → gI R 15 i = ownL i
variable {M R : Mm}
theorem P_by (h : PT l B M) {k : Nat} (hk : k < 2 ^ 31) : P_TByteAt (nI k) M = some (byN l B k) := by
  obtain ⟨h1, h2, -, h3⟩ := h
  unfold P_TByteAt byN
  rw [lett_e, if_neg (nI_pos hk), h2]
  by_cases e : k < l
  · rw [if_pos ((nI_ltI hk (by omega)).mpr e), if_pos e, ald_n (by omega) (by omega), ix_nI hk, h3 k e]
  · rw [if_neg (nI_nlt (by omega) hk), if_neg e]
theorem nI_dec0 : nI 0 - 1 = -1 := rfl
theorem P_pv (h : PT l B M) {k : Nat} (hk : k < 2 ^ 31) : P_TByteAt (nI k - 1) M = some (pvN l B k) := by
  unfold pvN
  by_cases e : k = 0
  · subst e
    rw [if_pos rfl, nI_dec0]
    unfold P_TByteAt
    rw [lett_e, if_pos (by decide)]
  · rw [if_neg e, nS_1 (by omega)]
    exact P_by h (by omega)
theorem R_by (h : RT l B R) {k : Nat} (hk : k < 2 ^ 31) : R_seen (nI k) R = some (byN l B k) := by
  obtain ⟨h1, h2, -, h3, -⟩ := h
  unfold R_seen byN
  rw [if_neg (nI_pos hk), h2]
  by_cases e : k < l
  · rw [if_neg (nI_ge e (by omega)), if_pos e, ald_n (by omega) (by omega), ix_nI hk, h3 k e]
  · rw [if_pos (nI_le (by omega) hk), if_neg e]
theorem R_pv (h : RT l B R) {k : Nat} (hk : k < 2 ^ 31) : R_seen (nI k - 1) R = some (pvN l B k) := by
  unfold pvN
  by_cases e : k = 0
  · subst e
    rw [if_pos rfl, nI_dec0]
    unfold R_seen
    rw [if_pos (by decide)]
  · rw [if_neg e, nS_1 (by omega)]
    exact R_by h (by omega)
theorem cl_lt (hB : ∀ i, i < l → B i < 256) {k : Nat} : (if byN l B k < 97 then some (0 : Int32) else if 122 < byN l B k then some 0 else some 1) = some (b2I (ltB l B k)) := by
  unfold byN b2I
  by_cases e : k < l
  · have := hB k e
    rw [if_pos e]
    by_cases e1 : 97 ≤ B k ∧ B k ≤ 122
    · rw [if_neg (nlt_f 97 97 rfl e1.1 (by omega)), if_neg (lt_f 122 122 rfl e1.2 (by omega)), if_pos (ltB_i.mpr ⟨e, e1⟩)]
    · rw [if_neg (fun h => e1 (ltB_i.mp h).2)]
      by_cases e2 : B k < 97
      · rw [if_pos (nlt_t 97 97 rfl e2 (by omega))]
      · rw [if_neg (nlt_f 97 97 rfl (by omega) (by omega)), if_pos (lt_t 122 122 rfl (by omega) (by omega))]
  · rw [if_neg e, if_pos (by decide), if_neg (fun h => e (ltB_i.mp h).1)]
theorem cl_dg (hB : ∀ i, i < l → B i < 256) {k : Nat} : (if byN l B k < 48 then some (0 : Int32) else if 57 < byN l B k then some 0 else some 1) = some (b2I (dgB l B k)) := by
  unfold byN b2I
  by_cases e : k < l
  · have := hB k e
    rw [if_pos e]
    by_cases e1 : 48 ≤ B k ∧ B k ≤ 57
    · rw [if_neg (nlt_f 48 48 rfl e1.1 (by omega)), if_neg (lt_f 57 57 rfl e1.2 (by omega)), if_pos (dgB_i.mpr ⟨e, e1⟩)]
    · rw [if_neg (fun h => e1 (dgB_i.mp h).2)]
      by_cases e2 : B k < 48
      · rw [if_pos (nlt_t 48 48 rfl e2 (by omega))]
      · rw [if_neg (nlt_f 48 48 rfl (by omega) (by omega)), if_pos (lt_t 57 57 rfl (by omega) (by omega))]
  · rw [if_neg e, if_pos (by decide), if_neg (fun h => e (dgB_i.mp h).1)]
theorem pl_e {k : Nat} : plB l B k = (if k = 0 then false else ltB l B (k - 1)) := by
  unfold plB
  by_cases e : k = 0
  · rw [if_pos e, e]; rfl
  · rw [if_neg e]
    simp [e]
theorem pd_e {k : Nat} : pdB l B k = (if k = 0 then false else dgB l B (k - 1)) := by
  unfold pdB
  by_cases e : k = 0
  · rw [if_pos e, e]; rfl
  · rw [if_neg e]
    simp [e]
theorem pv_lt (hB : ∀ i, i < l → B i < 256) {k : Nat} : (if pvN l B k < 97 then some (0 : Int32) else if 122 < pvN l B k then some 0 else some 1) = some (b2I (plB l B k)) := by
  rw [pl_e]
  unfold pvN
  by_cases e : k = 0
  · rw [if_pos e, if_pos e, if_pos (by decide)]; rfl
  · rw [if_neg e, if_neg e]; exact cl_lt hB
theorem pv_dg (hB : ∀ i, i < l → B i < 256) {k : Nat} : (if pvN l B k < 48 then some (0 : Int32) else if 57 < pvN l B k then some 0 else some 1) = some (b2I (pdB l B k)) := by
  rw [pd_e]
  unfold pvN
  by_cases e : k = 0
  · rw [if_pos e, if_pos e, if_pos (by decide)]; rfl
  · rw [if_neg e, if_neg e]; exact cl_dg hB
theorem P_lt (h : PT l B M) {k : Nat} (hk : k < 2 ^ 31) : P_TIsLetter (nI k) M = some (b2I (ltB l B k)) := by
  unfold P_TIsLetter
  rw [P_by h hk, bnd_s, lett_e]
  exact cl_lt h.2.2.1
theorem P_dg (h : PT l B M) {k : Nat} (hk : k < 2 ^ 31) : P_TIsDigit (nI k) M = some (b2I (dgB l B k)) := by
  unfold P_TIsDigit
  rw [P_by h hk, bnd_s, lett_e]
  exact cl_dg h.2.2.1
theorem P_plt (h : PT l B M) {k : Nat} (hk : k < 2 ^ 31) : P_TIsLetter (nI k - 1) M = some (b2I (plB l B k)) := by
  unfold P_TIsLetter
  rw [P_pv h hk, bnd_s, lett_e]
  exact pv_lt h.2.2.1
theorem P_pdg (h : PT l B M) {k : Nat} (hk : k < 2 ^ 31) : P_TIsDigit (nI k - 1) M = some (b2I (pdB l B k)) := by
  unfold P_TIsDigit
  rw [P_pv h hk, bnd_s, lett_e]
  exact pv_dg h.2.2.1
theorem P_bl (h : PT l B M) {k : Nat} (hk : k < 2 ^ 31) : P_TIsBlank (nI k) M = some (b2I (blB l B k)) := by
  unfold P_TIsBlank
  rw [P_by h hk, bnd_s, lett_e, lett_e]
  unfold byN b2I
  by_cases e : k < l
  · have := h.2.2.1 k e
    rw [if_pos e]
    by_cases e1 : B k = 10
    · rw [if_pos (by rw [e1]; rfl), if_pos (blB_i.mpr ⟨e, Or.inl e1⟩)]
    · rw [if_neg (neq_f 10 10 rfl e1 (by omega) (by omega))]
      by_cases e2 : B k = 32
      · rw [if_pos (by rw [e2]; rfl), if_pos (blB_i.mpr ⟨e, Or.inr e2⟩)]
      · rw [if_neg (neq_f 32 32 rfl e2 (by omega) (by omega)), if_neg (fun h => by have := (blB_i.mp h).2; omega)]
  · rw [if_neg e, if_neg (by decide), if_neg (by decide), if_neg (fun h => e (blB_i.mp h).1)]
theorem R_lt (h : RT l B R) {k : Nat} (hk : k < 2 ^ 31) : R_isSmall (nI k) R = some (b2I (ltB l B k)) := by
  unfold R_isSmall
  rw [R_by h hk, bnd_s, bnd_s]
  exact cl_lt h.2.2.1
theorem R_dg (h : RT l B R) {k : Nat} (hk : k < 2 ^ 31) : R_isDigit (nI k) R = some (b2I (dgB l B k)) := by
  unfold R_isDigit
  rw [R_by h hk, bnd_s, bnd_s]
  exact cl_dg h.2.2.1
theorem R_plt (h : RT l B R) {k : Nat} (hk : k < 2 ^ 31) : R_isSmall (nI k - 1) R = some (b2I (plB l B k)) := by
  unfold R_isSmall
  rw [R_pv h hk, bnd_s, bnd_s]
  exact pv_lt h.2.2.1
theorem R_pdg (h : RT l B R) {k : Nat} (hk : k < 2 ^ 31) : R_isDigit (nI k - 1) R = some (b2I (pdB l B k)) := by
  unfold R_isDigit
  rw [R_pv h hk, bnd_s, bnd_s]
  exact pv_dg h.2.2.1
theorem b2I_t {b : Bool} (h : b = true) : b2I b = 1 := by rw [h]; rfl
theorem b2I_f {b : Bool} (h : ¬ b = true) : b2I b = 0 := by unfold b2I; rw [if_neg h]
/-- a run from a place on -/
theorem run_ex (f : Nat → Bool) (hf : ∀ k, f k = true → k < l) (p : Nat) : ∃ n, (∀ i, i < n → f (p + i) = true) ∧ ¬ f (p + n) = true ∧ (p ≤ l → p + n ≤ l) := by
  obtain ⟨n, n1, n2⟩ := pk_least (fun n => ¬ f (p + n) = true) ⟨l, fun h => by have := hf _ h; omega⟩
  have n2' : ∀ i, i < n → f (p + i) = true := fun i hi => Classical.byContradiction fun h => n2 i hi h
  refine ⟨n, n2', n1, fun hp => ?_⟩
  rcases Nat.eq_zero_or_pos n with h | h
  · omega
  · have := hf _ (n2' (n - 1) (by omega))
    omega
theorem P_letters (h : PT l B M) {p n : Nat} (hp : p ≤ l) (h1 : ∀ i, i < n → ltB l B (p + i) = true) (h2 : ¬ ltB l B (p + n) = true) (h3 : p + n ≤ l) : P_TLetterCount (nI p) M = some (nI n) := by
  have l1 := h.1
  unfold P_TLetterCount
  rw [lett_e]
  refine loopR_sq (fun i => nI i) n (by omega) rfl (fun i hi rec => ?_) (fun rec => ?_)
  · have := (ltB_i.mp (h1 i hi)).1
    rw [h.2.1, nI_add, if_neg (nI_ge (by omega) (by omega)), P_lt h (by omega), bnd_s, b2I_t (h1 i hi), if_neg i10, lett_e, nA_1]
  · rw [h.2.1, nI_add]
    by_cases e : l ≤ p + n
    · rw [if_pos (nI_le e (by omega))]
    · rw [if_neg (nI_ge (by omega) (by omega)), P_lt h (by omega), bnd_s, b2I_f h2, if_pos rfl]
theorem P_digits (h : PT l B M) {p n : Nat} (hp : p ≤ l) (h1 : ∀ i, i < n → dgB l B (p + i) = true) (h2 : ¬ dgB l B (p + n) = true) (h3 : p + n ≤ l) : P_TDigitCount (nI p) M = some (nI n) := by
  have l1 := h.1
  unfold P_TDigitCount
  rw [lett_e]
  refine loopR_sq (fun i => nI i) n (by omega) rfl (fun i hi rec => ?_) (fun rec => ?_)
  · have := (dgB_i.mp (h1 i hi)).1
    rw [h.2.1, nI_add, if_neg (nI_ge (by omega) (by omega)), P_dg h (by omega), bnd_s, b2I_t (h1 i hi), if_neg i10, lett_e, nA_1]
  · rw [h.2.1, nI_add]
    by_cases e : l ≤ p + n
    · rw [if_pos (nI_le e (by omega))]
    · rw [if_neg (nI_ge (by omega) (by omega)), P_dg h (by omega), bnd_s, b2I_f h2, if_pos rfl]
/-! the OWN WORDS -/
def stL (l : Nat) (B : Nat → Nat) : List Int32 → Nat → Bool
  | [], _ => true
  | c :: t, i => decide (byN l B i = c) && stL l B t (i + 1)
def stW (l : Nat) (B : Nat → Nat) (k s n : Nat) : Bool := decide ((wTxt k).length = n) && stL l B (wTxt k) s
def owL (l : Nat) (B : Nat → Nat) (s n : Nat) : List Nat → Option Nat
  | [] => none
  | k :: t => if stW l B k s n = true then some (1000 + k) else owL l B s n t
def owN (l : Nat) (B : Nat → Nat) (s n : Nat) : Option Nat := owL l B s n (List.range 20)
theorem stL_m (h : PT l B M) (c : List Int32) : ∀ i, i + c.length < 2 ^ 31 → P_WStandsL c (nI i) M = some (b2I (stL l B c i)) := by
  induction c with
  | nil => intro i _; rfl
  | cons c t ih =>
    intro i hi
    have hl : (c :: t).length = t.length + 1 := rfl
    show (bnd (P_TByteAt (nI i) M) fun b => if b = c then P_WStandsL t (nI i + 1) M else some 0) = some (b2I (decide (byN l B i = c) && stL l B t (i + 1)))
    rw [P_by h (by omega), bnd_s]
    by_cases e : byN l B i = c
    · rw [if_pos e, nA_1, ih (i + 1) (by omega)]
      simp [e]
    · rw [if_neg e]
      simp [e]
      rfl
theorem wTxt_len {k : Nat} (hk : k < 20) : (wTxt k).length ≤ 7 := by
  have h : ((List.range 20).all fun k => decide ((wTxt k).length ≤ 7)) = true := by decide +kernel
  exact of_decide_eq_true (List.all_eq_true.mp h k (List.mem_range.mpr hk))
theorem stW_m (h : PT l B M) {k s n : Nat} (hk : k < 20) (hs : s ≤ 2000) (hn : n ≤ 2000) : P_WStands k (nI s) (nI n) M = some (b2I (stW l B k s n)) := by
  have := wTxt_len hk
  unfold P_WStands stW
  by_cases e : (wTxt k).length = n
  · rw [if_pos (by rw [e]), stL_m h _ s (by omega)]
    simp [e]
  · rw [if_neg (fun h => e ((nI_eq (by omega) (by omega)).mp h))]
    simp [e]
    rfl
theorem owL_m (h : PT l B M) {s n : Nat} (hs : s ≤ 2000) (hn : n ≤ 2000) (L : List Nat) (hL : ∀ k, k ∈ L → k < 20) : P_WFindL (nI s) (nI n) M L = some (owL l B s n L) := by
  induction L with
  | nil => rfl
  | cons k t ih =>
    show (bnd (P_WStands k (nI s) (nI n) M) fun r => if r = 0 then P_WFindL (nI s) (nI n) M t else some (some (1000 + k))) = some (if stW l B k s n = true then some (1000 + k) else owL l B s n t)
    rw [stW_m h (hL k (List.mem_cons_self ..)) hs hn, bnd_s]
    by_cases e : stW l B k s n = true
    · rw [b2I_t e, if_neg i10, if_pos e]
    · rw [b2I_f e, if_pos rfl, if_neg e, ih (fun k hk => hL k (List.mem_cons_of_mem _ hk))]
theorem owN_m (h : PT l B M) {s n : Nat} (hs : s ≤ 2000) (hn : n ≤ 2000) : P_WFind (nI s) (nI n) M = some (owN l B s n) := owL_m h hs hn _ (fun k hk => List.mem_range.mp hk)
theorem owL_ok {s n : Nat} (L : List Nat) (hL : ∀ k, k ∈ L → k < 20) : owL l B s n L = none ∨ ∃ k, k < 20 ∧ owL l B s n L = some (1000 + k) ∧ stW l B k s n = true := by
  induction L with
  | nil => exact Or.inl rfl
  | cons k t ih =>
    show (if stW l B k s n = true then some (1000 + k) else owL l B s n t) = none ∨ ∃ k', k' < 20 ∧ (if stW l B k s n = true then some (1000 + k) else owL l B s n t) = some (1000 + k') ∧ stW l B k' s n = true
    by_cases e : stW l B k s n = true
    · rw [if_pos e]
      exact Or.inr ⟨k, hL k (List.mem_cons_self ..), rfl, e⟩
    · rw [if_neg e]
      exact ih (fun k hk => hL k (List.mem_cons_of_mem _ hk))
theorem owN_ok {s n : Nat} : owN l B s n = none ∨ ∃ k, k < 20 ∧ owN l B s n = some (1000 + k) ∧ stW l B k s n = true := owL_ok _ (fun k hk => List.mem_range.mp hk)
theorem okW_ow {s n : Nat} : okW (owN l B s n) = true := by
  rcases owN_ok (l := l) (B := B) (s := s) (n := n) with e | ⟨k, k1, e, -⟩
  · rw [e]; rfl
  · rw [e]
    show (Nat.ble 1000 (1000 + k) && Nat.blt (1000 + k) 1020) = true
    have a1 : Nat.ble 1000 (1000 + k) = true := Nat.ble_eq.mpr (by omega)
    have a2 : Nat.blt (1000 + k) 1020 = true := Nat.blt_eq.mpr (by omega)
    rw [a1, a2]; rfl
end TEXT
