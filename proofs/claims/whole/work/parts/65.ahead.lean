/-! PURE: ticks ahead: what is done and what expires, written down and counted -/
abbrev Evs : Type := Nat → Nat × Nat × Nat × Nat
abbrev Exs : Type := Nat → Nat × Int32 × Int32 × Int32
/-- the reference's log: ne events (ticks ahead, process, latency, how many), nx that expired (ticks ahead, queue, how, served) -/
def LE (m : Mm) (ne : Nat) (ev : Evs) : Prop := gI m 0 57 = nI ne ∧ ∀ j, j < ne → gI m 20 (4 * j) = nI (ev j).1 ∧ gI m 20 (4 * j + 1) = nI (ev j).2.1 ∧ gI m 20 (4 * j + 2) = nI (ev j).2.2.1 ∧ gI m 20 (4 * j + 3) = nI (ev j).2.2.2
def LX (m : Mm) (nx : Nat) (xv : Exs) : Prop := gI m 0 58 = nI nx ∧ ∀ j, j < nx → gI m 21 (4 * j) = nI (xv j).1 ∧ gI m 21 (4 * j + 1) = (xv j).2.1 ∧ gI m 21 (4 * j + 2) = (xv j).2.2.1 ∧ gI m 21 (4 * j + 3) = (xv j).2.2.2
def oke (n k : Nat) (e : Nat × Nat × Nat × Nat) : Prop := 1 ≤ e.1 ∧ e.1 ≤ k ∧ e.2.1 < n ∧ 1 ≤ e.2.2.1 ∧ e.2.2.1 < 16000 ∧ 1 ≤ e.2.2.2 ∧ e.2.2.2 ≤ 64
/-- of events of a process (none: of any): 0 how many, 1 sectors, 2 latencies, 3 the greatest -/
def fE (ev : Evs) (p : Option Nat) (w i : Nat) : Nat := itr (fun j a => if p = none ∨ p = some (ev j).2.1 then (if w = 3 then max a (ev j).2.2.1 else a + (if w = 0 then 1 else if w = 1 then (ev j).2.2.2 else (ev j).2.2.1)) else a) 0 i
def fA (ev : Evs) (p b i : Nat) : Nat := itr (fun j a => a + (if (ev j).2.1 = p ∧ b < (ev j).2.2.1 then 1 else 0)) 0 i
theorem fE_0 (ev : Evs) (p : Option Nat) (w : Nat) : fE ev p w 0 = 0 := rfl
theorem fE_s (ev : Evs) (p : Option Nat) (w i : Nat) : fE ev p w (i + 1) = if p = none ∨ p = some (ev i).2.1 then (if w = 3 then max (fE ev p w i) (ev i).2.2.1 else fE ev p w i + (if w = 0 then 1 else if w = 1 then (ev i).2.2.2 else (ev i).2.2.1)) else fE ev p w i := rfl
theorem fA_0 (ev : Evs) (p b : Nat) : fA ev p b 0 = 0 := rfl
theorem fA_s (ev : Evs) (p b i : Nat) : fA ev p b (i + 1) = fA ev p b i + (if (ev i).2.1 = p ∧ b < (ev i).2.2.1 then 1 else 0) := rfl
theorem fE_cg {ev ev' : Evs} {p : Option Nat} {w i : Nat} (h : ∀ j, j < i → ev' j = ev j) : fE ev' p w i = fE ev p w i := by
  induction i with
  | zero => rw [fE_0, fE_0]
  | succ i ih => rw [fE_s, fE_s, ih (fun j hj => h j (by omega)), h i (by omega)]
theorem fA_cg {ev ev' : Evs} {p b i : Nat} (h : ∀ j, j < i → ev' j = ev j) : fA ev' p b i = fA ev p b i := by
  induction i with
  | zero => rw [fA_0, fA_0]
  | succ i ih => rw [fA_s, fA_s, ih (fun j hj => h j (by omega)), h i (by omega)]
theorem fE_le {ev : Evs} {n k : Nat} {p : Option Nat} {w i : Nat} (h : ∀ j, j < i → oke n k (ev j)) : fE ev p w i ≤ 16000 * i := by
  induction i with
  | zero => rw [fE_0]; omega
  | succ i ih =>
    have i1 := ih (fun j hj => h j (by omega))
    obtain ⟨-, -, -, h1, h2, h3, h4⟩ := h i (by omega)
    rw [fE_s]
    split
    · split
      · rw [Nat.max_def]; split <;> omega
      · split
        · omega
        · split <;> omega
    · omega
theorem fA_le {ev : Evs} {p b i : Nat} : fA ev p b i ≤ i := by
  induction i with
  | zero => rw [fA_0]; omega
  | succ i ih => rw [fA_s]; split <;> omega
/-- the class's counts ahead -/
def CTA (n b : Nat) (E : Mm) (ne : Nat) (ev : Evs) : Prop := gI E 0 19 = nI b ∧ b < 2 ^ 31 ∧ gI E 0 18 = nI (fE ev none 3 ne) ∧ ∀ p, p < n → gI E (8 + 2 * p) 9 = nI (fE ev (some p) 0 ne) ∧ gI E (8 + 2 * p) 10 = nI (fE ev (some p) 1 ne) ∧ gI E (8 + 2 * p) 11 = nI (fE ev (some p) 2 ne) ∧ gI E (8 + 2 * p) 12 = nI (fE ev (some p) 3 ne) ∧ gI E (8 + 2 * p) 13 = nI (fA ev p b ne)
def KTA (E : Mm) (nx : Nat) (xv : Exs) : Prop := gI E 6 1 = nI nx ∧ (0 < nx → gI E 7 ((nx - 1) % 40 * 4 + 1) = (xv (nx - 1)).2.1 ∧ gI E 7 ((nx - 1) % 40 * 4 + 2) = (xv (nx - 1)).2.2.1 ∧ gI E 7 ((nx - 1) % 40 * 4 + 3) = (xv (nx - 1)).2.2.2)
/-- a state ahead: reference's memory, numbers, floats, the class's memory, how many lie, events, what expired -/
abbrev Sta : Type := Mm × (Nat → Int32) × (Nat → UInt32) × Mm × Nat × Nat × Evs × Nat × Exs
def Sta.m (σ : Sta) : Mm := σ.1
def Sta.D (σ : Sta) : Nat → Int32 := σ.2.1
def Sta.F (σ : Sta) : Nat → UInt32 := σ.2.2.1
def Sta.E (σ : Sta) : Mm := σ.2.2.2.1
def Sta.c (σ : Sta) : Nat := σ.2.2.2.2.1
def Sta.ne (σ : Sta) : Nat := σ.2.2.2.2.2.1
def Sta.ev (σ : Sta) : Evs := σ.2.2.2.2.2.2.1
def Sta.nx (σ : Sta) : Nat := σ.2.2.2.2.2.2.2.1
def Sta.xv (σ : Sta) : Exs := σ.2.2.2.2.2.2.2.2
def AR (n s t b k : Nat) (σ : Sta) : Prop := PK σ.m n s ∧ PL σ.m n σ.E ∧ Inv σ.m n s (t + k) (t + k) σ.c σ.D σ.F ∧ XR n σ.c σ.E σ.D ∧ gI σ.m 0 56 = nI k ∧ LE σ.m σ.ne σ.ev ∧ LX σ.m σ.nx σ.xv ∧ σ.ne ≤ k ∧ σ.nx ≤ k ∧ (∀ j, j < σ.ne → oke n k (σ.ev j)) ∧ CTA n b σ.E σ.ne σ.ev ∧ KTA σ.E σ.nx σ.xv ∧ (∃ k9, σ.D 9 = nI k9 ∧ k9 ≤ 40)
/-- one tick ahead -/
def AS (n k : Nat) (σ σ' : Sta) : Prop := R_goesOn (mkR σ.m 758 σ.D σ.F) = some (mkR σ'.m 758 σ'.D σ'.F) ∧ (∀ j, StickT (mkS n σ.E σ.D σ.F) j = j (mkS n σ'.E σ'.D σ'.F)) ∧ SP σ.m σ'.m ∧ ((σ'.ne = σ.ne ∧ σ'.ev = σ.ev) ∨ (σ'.ne = σ.ne + 1 ∧ ∃ e, e.1 = k + 1 ∧ σ'.ev = updD σ.ev σ.ne e)) ∧ ((σ'.nx = σ.nx ∧ σ'.xv = σ.xv) ∨ (σ'.nx = σ.nx + 1 ∧ ∃ e, e.1 = k + 1 ∧ σ'.xv = updD σ.xv σ.nx e)) ∧ (∀ a i, a ≠ 20 → a ≠ 21 → a ≠ 0 ∨ i < 56 ∨ 58 < i → gI σ'.m a i = gI σ.m a i) ∧ σ'.m.2 = σ.m.2 ∧ ∀ r i, 20 ≤ r → gI σ'.E r i = gI σ.E r i
theorem max_nI {a b : Nat} (ha : a < 2 ^ 31) (hb : b < 2 ^ 31) : aGr (nI a) (nI b) = nI (max b a) := by
  unfold aGr
  by_cases h : a ≤ b
  · rw [if_pos (nI_le h hb), Nat.max_eq_left h]
  · rw [if_neg (nI_ge (by omega) ha), Nat.max_eq_right (by omega)]
section AHEAD
variable {n s t b k : Nat} {σ : Sta}
theorem tick_ahead (h : AR n s t b k σ) (ht : t + k + 1 < 16000) (hk : k < 400) : ∃ σ', AS n k σ σ' ∧ AR n s t b (k + 1) σ' := by
  obtain ⟨hK, hL, I, hX, h56, ⟨l57, lev⟩, ⟨l58, lxv⟩, hne, hnx, hok, ⟨c19, hb31, c18, cp⟩, ⟨k61, kl⟩, k9, h9, h9'⟩ := h
  have hn := hK.n6
  obtain ⟨D', F', E', c', ev, ex, a1, a2, a3, a4, a5, a6, a7, a8⟩ := tick_sim (B := 758) (x := σ.ne) (y := σ.nx) (Or.inr rfl) hK hL I hX (by omega) k61 (by omega) h9 h9' (Or.inr ⟨l57, by omega⟩) (Or.inr ⟨l58, by omega⟩)
  -- events
  have he : ∃ (m1 : Mm) (ne' : Nat) (ev' : Evs), m1 = (match ev with | none => fun m => m | some (p, l, b) => fun m => lgE m 758 σ.ne (nI p) (nI l) (nI b)) (sI σ.m 0 56 (gI σ.m 0 56 + 1)) ∧ LE m1 ne' ev' ∧ ne' ≤ k + 1 ∧ (∀ j, j < ne' → oke n (k + 1) (ev' j)) ∧ CTA n b E' ne' ev' ∧ gI m1 0 56 = nI (k + 1) ∧ gI m1 0 58 = gI σ.m 0 58 ∧ (∀ i, gI m1 21 i = gI σ.m 21 i) ∧ ((ne' = σ.ne ∧ ev' = σ.ev) ∨ (ne' = σ.ne + 1 ∧ ∃ e, e.1 = k + 1 ∧ ev' = updD σ.ev σ.ne e)) ∧ (∀ a i, a ≠ 20 → a ≠ 21 → a ≠ 0 ∨ i < 56 ∨ 58 < i → gI m1 a i = gI σ.m a i) ∧ m1.2 = σ.m.2 := by
    match ev, a7 with
    | none, ⟨f1, f2, f3, f4, _⟩ =>
      refine ⟨_, σ.ne, σ.ev, rfl, ⟨?_, fun j hj => ?_⟩, by omega, fun j hj => ?_, ⟨f4.trans c19, hb31, f3.trans c18, fun p hp => ?_⟩, ?_, gw_n _ _ _ _ (by omega), fun i => gw_n _ _ _ _ (by omega), Or.inl ⟨rfl, rfl⟩, fun a i h1 h2 h3 => gw_n _ _ _ _ (by omega), rfl⟩
      · show gI (sI σ.m 0 56 _) 0 57 = _
        rw [gw_n _ _ _ _ (by omega)]; exact l57
      · show gI (sI σ.m 0 56 _) 20 _ = _ ∧ gI (sI σ.m 0 56 _) 20 _ = _ ∧ gI (sI σ.m 0 56 _) 20 _ = _ ∧ gI (sI σ.m 0 56 _) 20 _ = _
        rw [gw_n _ _ _ _ (by omega), gw_n _ _ _ _ (by omega), gw_n _ _ _ _ (by omega), gw_n _ _ _ _ (by omega)]
        exact lev j hj
      · obtain ⟨o1, o2, o3⟩ := hok j hj
        exact ⟨o1, by omega, o3⟩
      · rw [f2 p 9 (by omega) (by omega) (by omega), f2 p 10 (by omega) (by omega) (by omega), f2 p 11 (by omega) (by omega) (by omega), f2 p 12 (by omega) (by omega) (by omega), f2 p 13 (by omega) (by omega) (by omega)]
        exact cp p hp
      · show gI (sI σ.m 0 56 _) 0 56 = _
        rw [gw_s, h56, nI_1]
    | some (p, l, mn), ⟨hp, g1, g2, g3, g4, _, _, gz, g18, g19, _⟩ =>
      have hfe : ∀ q w i, i ≤ σ.ne → fE (updD σ.ev σ.ne (k + 1, p, l, mn)) q w i = fE σ.ev q w i := fun q w i hi => fE_cg (fun j hj => updD_n _ _ (by omega))
      have hfa : ∀ q w i, i ≤ σ.ne → fA (updD σ.ev σ.ne (k + 1, p, l, mn)) q w i = fA σ.ev q w i := fun q w i hi => fA_cg (fun j hj => updD_n _ _ (by omega))
      have hle : ∀ q w, fE σ.ev q w σ.ne ≤ 16000 * σ.ne := fun q w => fE_le hok
      have hla : ∀ q w, fA σ.ev q w σ.ne ≤ σ.ne := fun q w => fA_le
      refine ⟨_, σ.ne + 1, updD σ.ev σ.ne (k + 1, p, l, mn), rfl, ⟨?_, fun j hj => ?_⟩, by omega, fun j hj => ?_, ⟨g19.trans c19, hb31, ?_, fun q hq => ?_⟩, ?_, ?_, fun i => ?_, Or.inr ⟨rfl, _, rfl, rfl⟩, fun a i h1 h2 h3 => ?_, ?_⟩
      · show gI (lgE _ 758 _ _ _ _) 0 57 = _
        unfold lgE
        rw [if_neg (by decide), gw_s]
      · show gI (lgE _ 758 _ _ _ _) 20 _ = _ ∧ gI (lgE _ 758 _ _ _ _) 20 _ = _ ∧ gI (lgE _ 758 _ _ _ _) 20 _ = _ ∧ gI (lgE _ 758 _ _ _ _) 20 _ = _
        unfold lgE
        rw [if_neg (by decide)]
        by_cases e : j = σ.ne
        · subst e
          rw [updD_s]
          simp (disch := omega) only [gw_n, gw_s]
          exact ⟨by rw [h56, nI_1], trivial, trivial, trivial⟩
        · rw [updD_n _ _ e]
          simp (disch := omega) only [gw_n]
          exact lev j (by omega)
      · by_cases e : j = σ.ne
        · subst e
          rw [updD_s]
          exact ⟨by show 1 ≤ k + 1; omega, by show k + 1 ≤ k + 1; omega, hp, g1, g2, g3, g4⟩
        · rw [updD_n _ _ e]
          obtain ⟨o1, o2, o3⟩ := hok j (by omega)
          exact ⟨o1, by omega, o3⟩
      · rw [g18, c18, fE_s, hfe none 3 _ (Nat.le_refl _), updD_s, if_pos (Or.inl rfl), if_pos rfl, gr_mm]
        have := hle none 3
        exact max_nI (by omega) (by omega)
      · obtain ⟨p1, p2, p3, p4, p5⟩ := cp q hq
        rw [gz q 9 (by omega) (by omega) (by omega), gz q 10 (by omega) (by omega) (by omega), gz q 11 (by omega) (by omega) (by omega), gz q 12 (by omega) (by omega) (by omega), gz q 13 (by omega) (by omega) (by omega), fE_s, fE_s, fE_s, fE_s, fA_s, hfe (some q) 0 _ (Nat.le_refl _), hfe (some q) 1 _ (Nat.le_refl _), hfe (some q) 2 _ (Nat.le_refl _), hfe (some q) 3 _ (Nat.le_refl _), hfa q b _ (Nat.le_refl _), updD_s]
        dsimp only
        by_cases e : q = p
        · subst e
          have l3 := hle (some q) 3
          have la := hla q b
          rw [eCt_9, eCt_10, eCt_11, eCt_12, eCt_13, p1, p2, p3, p4, p5, c19, if_pos (Or.inr rfl), if_pos (Or.inr rfl), if_pos (Or.inr rfl), if_pos (Or.inr rfl), max_nI (by omega) (by omega), nI_add, nI_add, nI_1]
          refine ⟨rfl, rfl, rfl, rfl, ?_⟩
          by_cases e2 : l ≤ b
          · rw [if_pos (nI_le e2 (by omega)), if_neg (by omega)]; rfl
          · rw [if_neg (nI_ge (by omega) (by omega)), if_pos (by omega), nI_1]
        · rw [eCt_o e, eCt_o e, eCt_o e, eCt_o e, eCt_o e, if_neg (by simp [e]), if_neg (by simp [e]), if_neg (by simp [e]), if_neg (by simp [e]), if_neg (fun h => e h.1.symm)]
          exact ⟨p1, p2, p3, p4, p5⟩
      · show gI (lgE _ 758 _ _ _ _) 0 56 = _
        unfold lgE
        rw [if_neg (by decide)]
        simp (disch := omega) only [gw_n, gw_s]
        rw [h56, nI_1]
      · show gI (lgE _ 758 _ _ _ _) 0 58 = _
        unfold lgE
        rw [if_neg (by decide)]
        simp (disch := omega) only [gw_n]
      · show gI (lgE _ 758 _ _ _ _) 21 i = _
        unfold lgE
        rw [if_neg (by decide)]
        simp (disch := omega) only [gw_n]
      · show gI (lgE _ 758 _ _ _ _) a i = _
        unfold lgE
        rw [if_neg (by decide)]
        simp (disch := omega) only [gw_n]
      · show (lgE _ 758 _ _ _ _).2 = _
        unfold lgE
        rw [if_neg (by decide)]
        rfl
  obtain ⟨m1, ne', ev', e1, e2, e3, e4, e5, e6, e7, e8, e9, e10, e11⟩ := he
  -- what expires
  have hx : ∃ (m2 : Mm) (nx' : Nat) (xv' : Exs), m2 = (match ex with | none => fun m => m | some (q, h, v) => fun m => lgX m 758 σ.nx q h v) m1 ∧ LE m2 ne' ev' ∧ LX m2 nx' xv' ∧ nx' ≤ k + 1 ∧ KTA E' nx' xv' ∧ gI m2 0 56 = nI (k + 1) ∧ (∃ k9, D' 9 = nI k9 ∧ k9 ≤ 40) ∧ ((nx' = σ.nx ∧ xv' = σ.xv) ∨ (nx' = σ.nx + 1 ∧ ∃ e, e.1 = k + 1 ∧ xv' = updD σ.xv σ.nx e)) ∧ (∀ a i, a ≠ 20 → a ≠ 21 → a ≠ 0 ∨ i < 56 ∨ 58 < i → gI m2 a i = gI σ.m a i) ∧ m2.2 = σ.m.2 := by
    match ex, a8 with
    | none, ⟨f1, f2, f3, f4⟩ =>
      refine ⟨_, σ.nx, σ.xv, rfl, e2, ⟨e7.trans l58, fun j hj => ?_⟩, by omega, ⟨f4.trans k61, fun h => ?_⟩, e6, ⟨k9, f1.trans h9, h9'⟩, Or.inl ⟨rfl, rfl⟩, e10, e11⟩
      · show gI m1 21 _ = _ ∧ gI m1 21 _ = _ ∧ gI m1 21 _ = _ ∧ gI m1 21 _ = _
        rw [e8, e8, e8, e8]
        exact lxv j hj
      · rw [f3, f3, f3]
        exact kl h
    | some (q, hw, v), ⟨f1, f2, f3⟩ =>
      have hg : ∀ a i, a ≠ 21 → (a ≠ 0 ∨ i ≠ 58) → gI (lgX m1 758 σ.nx q hw v) a i = gI m1 a i := fun a i h1 h2 => by
        unfold lgX
        rw [if_neg (by decide)]
        simp (disch := omega) only [gw_n]
      refine ⟨_, σ.nx + 1, updD σ.xv σ.nx (k + 1, q, hw, v), rfl, ⟨?_, fun j hj => ?_⟩, ⟨?_, fun j hj => ?_⟩, by omega, ⟨f3, fun _ => ?_⟩, ?_, ⟨_, (f1 9 (Or.inl rfl)).trans aWr_9, ?_⟩, Or.inr ⟨rfl, _, rfl, rfl⟩, fun a i h1 h2 h3 => ?_, ?_⟩
      · show gI (lgX m1 758 σ.nx q hw v) 0 57 = _
        rw [hg _ _ (by omega) (by omega)]; exact e2.1
      · show gI (lgX m1 758 σ.nx q hw v) 20 _ = _ ∧ gI (lgX m1 758 σ.nx q hw v) 20 _ = _ ∧ gI (lgX m1 758 σ.nx q hw v) 20 _ = _ ∧ gI (lgX m1 758 σ.nx q hw v) 20 _ = _
        rw [hg _ _ (by omega) (by omega), hg _ _ (by omega) (by omega), hg _ _ (by omega) (by omega), hg _ _ (by omega) (by omega)]
        exact e2.2 j hj
      · show gI (lgX m1 758 σ.nx q hw v) 0 58 = _
        unfold lgX
        rw [if_neg (by decide), gw_s]
      · show gI (lgX m1 758 σ.nx q hw v) 21 _ = _ ∧ gI (lgX m1 758 σ.nx q hw v) 21 _ = _ ∧ gI (lgX m1 758 σ.nx q hw v) 21 _ = _ ∧ gI (lgX m1 758 σ.nx q hw v) 21 _ = _
        unfold lgX
        rw [if_neg (by decide)]
        by_cases e : j = σ.nx
        · subst e
          rw [updD_s]
          simp (disch := omega) only [gw_n, gw_s]
          exact ⟨e6, trivial, trivial, trivial⟩
        · rw [updD_n _ _ e]
          simp (disch := omega) only [gw_n]
          rw [e8, e8, e8, e8]
          exact lxv j (by omega)
      · rw [f2, f2, f2, show σ.nx + 1 - 1 = σ.nx by omega, eKA_new (by omega), eKA_new (by omega), eKA_new (by omega), updD_s]
        exact ⟨rfl, rfl, rfl⟩
      · show gI (lgX m1 758 σ.nx q hw v) 0 56 = _
        rw [hg _ _ (by omega) (by omega)]; exact e6
      · unfold aWrK; split <;> omega
      · show gI (lgX m1 758 σ.nx q hw v) a i = _
        rw [hg _ _ (by omega) (by omega)]; exact e10 a i h1 h2 h3
      · show (lgX m1 758 σ.nx q hw v).2 = _
        unfold lgX
        rw [if_neg (by decide)]
        exact e11
  obtain ⟨m2, nx', xv', y1, y2, y3, y4, y5, y6, y7, y8, y9, y10⟩ := hx
  have hfr : ∀ r i, 20 ≤ r → gI E' r i = gI σ.E r i := by
    match ev, a7 with
    | none, hc => exact hc.2.2.2.2
    | some (_, _, _), hc => exact hc.2.2.2.2.2.2.2.2.2.2
  have em : m2 = logT σ.m 758 σ.ne σ.nx ev ex := by rw [y1, e1]; rfl
  refine ⟨(m2, D', F', E', c', ne', ev', nx', xv'), ⟨?_, a2, ?_, e9, y8, y9, y10, hfr⟩, ?_, ?_, ?_, a4, y6, y2, y3, e3, y4, e4, e5, y5, y7⟩
  · show _ = some (mkR m2 758 D' F')
    rw [em]; exact a1
  · show SP σ.m m2
    rw [em]; exact a6
  · show PK m2 n s
    rw [em]; exact hK.sp a6
  · show PL m2 n E'
    rw [em]; exact a5
  · show Inv m2 n s (t + (k + 1)) (t + (k + 1)) c' D' F'
    rw [em]; exact a3
/-- all ticks ahead -/
theorem seq_ahead (h : AR n s t b 0 σ) (N : Nat) (hN : N ≤ 400) (ht : t + N < 16000) : ∃ f : Nat → Sta, f 0 = σ ∧ (∀ i, i ≤ N → AR n s t b i (f i)) ∧ ∀ i, i < N → AS n i (f i) (f (i + 1)) := by
  induction N with
  | zero => exact ⟨fun _ => σ, rfl, fun i hi => by rw [show i = 0 by omega]; exact h, fun i hi => by omega⟩
  | succ N ih =>
    obtain ⟨f, f0, f1, f2⟩ := ih (by omega) (by omega)
    obtain ⟨σ', g1, g2⟩ := tick_ahead (f1 N (Nat.le_refl _)) (by omega) (by omega)
    refine ⟨fun i => if i ≤ N then f i else σ', ?_, fun i hi => ?_, fun i hi => ?_⟩
    · show (if 0 ≤ N then f 0 else σ') = σ
      rw [if_pos (by omega)]; exact f0
    · show AR n s t b i (if i ≤ N then f i else σ')
      by_cases e : i ≤ N
      · rw [if_pos e]; exact f1 i e
      · rw [if_neg e, show i = N + 1 by omega]; exact g2
    · show AS n i (if i ≤ N then f i else σ') (if i + 1 ≤ N then f (i + 1) else σ')
      rw [if_pos (by omega)]
      by_cases e : i + 1 ≤ N
      · rw [if_pos e]; exact f2 i (by omega)
      · rw [if_neg e, show i = N by omega]; exact g1
/-- what the reference does in a tick, and what it writes down -/
def AW (n k : Nat) (σ σ' : Sta) : Prop := R_goesOn (mkR σ.m 758 σ.D σ.F) = some (mkR σ'.m 758 σ'.D σ'.F) ∧ SP σ.m σ'.m ∧ ((σ'.ne = σ.ne ∧ σ'.ev = σ.ev) ∨ (σ'.ne = σ.ne + 1 ∧ ∃ e, e.1 = k + 1 ∧ σ'.ev = updD σ.ev σ.ne e)) ∧ ((σ'.nx = σ.nx ∧ σ'.xv = σ.xv) ∨ (σ'.nx = σ.nx + 1 ∧ ∃ e, e.1 = k + 1 ∧ σ'.xv = updD σ.xv σ.nx e)) ∧ (∀ a i, a ≠ 20 → a ≠ 21 → a ≠ 0 ∨ i < 56 ∨ 58 < i → gI σ'.m a i = gI σ.m a i) ∧ σ'.m.2 = σ.m.2
theorem AS.w {σ σ' : Sta} {k : Nat} (h : AS n k σ σ') : AW n k σ σ' := ⟨h.1, h.2.2.1, h.2.2.2.1, h.2.2.2.2.1, h.2.2.2.2.2.1, h.2.2.2.2.2.2.1⟩
theorem R_for_ahead {N : Nat} {f : Nat → Sta} (hf : ∀ i, i < N → AW n i (f i) (f (i + 1))) (hN : N ≤ 400) : R_goesOnFor (nI N) (mkR (f 0).m 758 (f 0).D (f 0).F) = some (mkR (f N).m 758 (f N).D (f N).F) := by
  unfold R_goesOnFor
  rw [lett_e]
  refine loopR_seq (fun i => (nI i, mkR (f i).m 758 (f i).D (f i).F)) N (fun i hi rec => ?_) (fun rec => ?_) 1000000 (by omega)
  · dsimp only
    rw [if_neg (nI_ge hi (by omega)), (hf i hi).1, bnd_s, lett_e, nA_1]
  · dsimp only
    rw [if_pos (nI_le (Nat.le_refl _) (by omega))]
theorem S_run_ahead {N : Nat} {f : Nat → Sta} (hf : ∀ i, i < N → AS n i (f i) (f (i + 1))) (hN : N ≤ 400) : S_run (nI N) (mkS n (f 0).E (f 0).D (f 0).F) = some (mkS n (f N).E (f N).D (f N).F) := by
  rw [S_run_e, lett_e]
  refine loopR_seq (fun i => (nI i, mkS n (f i).E (f i).D (f i).F)) N (fun i hi rec => ?_) (fun rec => ?_) 1000000 (by omega)
  · dsimp only
    rw [if_neg (nI_ge hi (by omega)), (hf i hi).2.1, lett_e, nA_1]
  · dsimp only
    rw [if_pos (nI_le (Nat.le_refl _) (by omega))]
theorem S_one {i : Nat} {σ σ' : Sta} (h : AS n i σ σ') : S_run 1 (mkS n σ.E σ.D σ.F) = some (mkS n σ'.E σ'.D σ'.F) := by
  rw [S_run_e, lett_e]
  refine loopR_seq (fun i => (nI i, if i = 0 then mkS n σ.E σ.D σ.F else mkS n σ'.E σ'.D σ'.F)) 1 (fun i hi rec => ?_) (fun rec => ?_) 1000000 (by omega)
  · have : i = 0 := by omega
    subst this
    dsimp only
    rw [if_neg (by decide), if_pos rfl, h.2.1, lett_e, nA_1, if_neg (by decide)]
  · dsimp only
    rw [if_pos (by decide), if_neg (by decide)]
/-- earlier events stay -/
theorem ev_mono {N : Nat} {f : Nat → Sta} (hf : ∀ i, i < N → AW n i (f i) (f (i + 1))) {i d : Nat} (hi : i + d ≤ N) : (f i).ne ≤ (f (i + d)).ne ∧ (∀ j, j < (f i).ne → (f (i + d)).ev j = (f i).ev j) ∧ (∀ j, (f i).ne ≤ j → j < (f (i + d)).ne → i < ((f (i + d)).ev j).1 ∧ ((f (i + d)).ev j).1 ≤ i + d) ∧ (f i).nx ≤ (f (i + d)).nx ∧ (∀ j, j < (f i).nx → (f (i + d)).xv j = (f i).xv j) ∧ (∀ j, (f i).nx ≤ j → j < (f (i + d)).nx → i < ((f (i + d)).xv j).1 ∧ ((f (i + d)).xv j).1 ≤ i + d) := by
  induction d with
  | zero => exact ⟨Nat.le_refl _, fun _ _ => rfl, fun j h1 h2 => absurd h2 (by rw [Nat.add_zero]; omega), Nat.le_refl _, fun _ _ => rfl, fun j h1 h2 => absurd h2 (by rw [Nat.add_zero]; omega)⟩
  | succ d ih =>
    obtain ⟨i1, i2, i3, i4, i5, i6⟩ := ih (by omega)
    obtain ⟨-, -, he, hx, -⟩ := hf (i + d) (by omega)
    rw [show i + (d + 1) = i + d + 1 from rfl]
    refine ⟨?_, ?_, ?_, ?_, ?_, ?_⟩
    · rcases he with ⟨e1, e2⟩ | ⟨e1, e, e3, e4⟩ <;> omega
    · intro j hj
      rcases he with ⟨e1, e2⟩ | ⟨e1, e, e3, e4⟩
      · rw [e2]; exact i2 j hj
      · rw [e4, updD_n _ _ (by omega)]; exact i2 j hj
    · intro j h1 h2
      rcases he with ⟨e1, e2⟩ | ⟨e1, e, e3, e4⟩
      · rw [e2]
        have := i3 j h1 (by omega)
        omega
      · rw [e4]
        by_cases hj : j = (f (i + d)).ne
        · rw [hj, updD_s, e3]; omega
        · rw [updD_n _ _ hj]
          have := i3 j h1 (by omega)
          omega
    · rcases hx with ⟨e1, e2⟩ | ⟨e1, e, e3, e4⟩ <;> omega
    · intro j hj
      rcases hx with ⟨e1, e2⟩ | ⟨e1, e, e3, e4⟩
      · rw [e2]; exact i5 j hj
      · rw [e4, updD_n _ _ (by omega)]; exact i5 j hj
    · intro j h1 h2
      rcases hx with ⟨e1, e2⟩ | ⟨e1, e, e3, e4⟩
      · rw [e2]
        have := i6 j h1 (by omega)
        omega
      · rw [e4]
        by_cases hj : j = (f (i + d)).nx
        · rw [hj, updD_s, e3]; omega
        · rw [updD_n _ _ hj]
          have := i6 j h1 (by omega)
          omega
end AHEAD
