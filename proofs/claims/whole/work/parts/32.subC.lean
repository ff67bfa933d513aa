/-! THE STATE AND ITS PLAN, THE READER WITH TAPE AND PLAN, within the class -/
def emS (B P r : Nat) : Nat := if r < 20 then B + r else P + (r - 20)
def dmS (B P a : Nat) : Option Nat := if B ≤ a ∧ a < B + 20 then some (a - B) else if P ≤ a ∧ a < P + 9 then some (a - P + 20) else none
def kpS (_ : Nat) : Bool := false
def plnS {ρ : Type} (M : Mm) (B : Nat) (g : Nat → Option ρ) : Option ρ := nn (gR M B 0) fun P => grd (P = 1 ∨ P = 10) (g P)
def entS (Y : Sys) (s : Shp) (M : Mm) (a : Nat) : va_E := match s.1 with
  | 0 => .inr (s.2.1, fvs Y.ad M a 0 s.2.2.2)
  | 1 => .inl (Y.c s.2.1, s.2.2.1, .inl (gI M a))
  | 2 => .inl (Y.c s.2.1, s.2.2.1, .inr (.inr (.inl (gF M a))))
  | 3 => .inl (Y.c s.2.1, s.2.2.1, .inr (.inr (.inr (.inr (fun i => (gR M a i).map Y.ad)))))
  | _ => .inl (Y.c s.2.1, s.2.2.1, .inr (.inr (.inr (.inr (fun i => some (Y.ad (a + (s.2.2.2.headD (0, 0)).1 + (s.2.2.2.headD (0, 0)).2 * i)))))))
theorem ent_S (Y : Sys) (M : Mm) (a : Nat) : ent Y M a = entS Y (Y.sh a) M a := rfl
/-- every second code -/
theorem lt6 {p : Nat → Prop} (h : p 0 ∧ p 1 ∧ p 2 ∧ p 3 ∧ p 4 ∧ p 5) : ∀ i, i < 6 → p i := by
  intro i hi
  rcases (show i = 0 ∨ i = 1 ∨ i = 2 ∨ i = 3 ∨ i = 4 ∨ i = 5 by omega) with rfl | rfl | rfl | rfl | rfl | rfl
  · exact h.1
  · exact h.2.1
  · exact h.2.2.1
  · exact h.2.2.2.1
  · exact h.2.2.2.2.1
  · exact h.2.2.2.2.2
theorem shS_lt {r : Nat} (h : (shS r).1 < 9) : r < 29 := by
  refine Nat.lt_of_not_le (fun hn => ?_)
  have : shS r = (99, 0, 0, []) := by
    unfold shS
    rw [List.getD_eq_getElem?_getD, List.getElem?_eq_none (by simpa using hn)]
    rfl
  rw [this] at h
  exact absurd h (by decide)
def SB (B P : Nat) : Prop := (B = 26 ∨ B = 46) ∧ (P = 1 ∨ P = 10)
theorem emS_ok : ∀ B, (B = 26 ∨ B = 46) → ∀ P, (P = 1 ∨ P = 10) → ∀ r, r < 29 → emS B P r < 474 ∧ dmS B P (emS B P r) = some r := by
  intro B hB P hP r hr
  unfold emS dmS
  by_cases h : r < 20
  · rw [if_pos h]
    refine ⟨by omega, ?_⟩
    rw [if_pos (by omega), show B + r - B = r by omega]
  · rw [if_neg h]
    refine ⟨by omega, ?_⟩
    rw [if_neg (by omega), if_pos (by omega), show P + (r - 20) - P + 20 = r by omega]
theorem dmS_ok {B P a r : Nat} (h : dmS B P a = some r) : r < 29 ∧ emS B P r = a := by
  unfold dmS at h
  by_cases h1 : B ≤ a ∧ a < B + 20
  · rw [if_pos h1] at h
    cases h
    refine ⟨by omega, ?_⟩
    unfold emS
    rw [if_pos (by omega)]; omega
  · rw [if_neg h1] at h
    by_cases h2 : P ≤ a ∧ a < P + 9
    · rw [if_pos h2] at h
      cases h
      refine ⟨by omega, ?_⟩
      unfold emS
      rw [if_neg (by omega)]; omega
    · rw [if_neg h2] at h; cases h
theorem at_eq {D : va_G} {q : Nat} {e e' : va_E} {H : Heap} (h : e = e') : va_at D vwCl (q, e) H → va_at D vwCl (q, e') H := by rw [h]; exact id
theorem at_arr {D : va_G} {q n : Nat} {c : ClassId} {f g : Nat → Option Nat} {H : Heap} (h : ∀ i, i < n → f i = g i) : va_at D vwCl (q, .inl (c, n, .inr (.inr (.inr (.inr f))))) H → va_at D vwCl (q, .inl (c, n, .inr (.inr (.inr (.inr g))))) H := by
  intro ha
  have ha : H[q]? = some (vp_cell c (n, .inr (.inr (.inr (.inr f))))) := ha
  show H[q]? = some (vp_cell c (n, .inr (.inr (.inr (.inr g)))))
  rw [ha]
  congr 1
  have : (fun j : Fin n => va_rf (f j.val)) = fun j : Fin n => va_rf (g j.val) := funext fun j => by rw [h j.val j.isLt]
  show ({ cls := c, slots := Array.ofFn (n := n) fun j => va_rf (f j.val), vm := .none } : Cell) = { cls := c, slots := Array.ofFn (n := n) fun j => va_rf (g j.val), vm := .none }
  rw [this]
theorem YS_ad (Y : Sys) (B P r : Nat) (h : r < 20) : (YS Y (emS B P) 29 shS).ad r = Y.ad (B + r) := by
  show (if r < 1000 then Y.ad (emS B P r) else Y.ad r) = _
  rw [if_pos (by omega), emS, if_pos h]
set_option maxHeartbeats 8000000 in
set_option maxRecDepth 100000 in
theorem entS_to (Y : Sys) (M : Mm) (B P : Nat) (hB : B = 26 ∨ B = 46) (hP : P = 1 ∨ P = 10) (h : gR M B 0 = some P) : ∀ r, r < 29 → ∀ (D : va_G) (q : Nat) (H : Heap), va_at D vwCl (q, entS Y (shC (emS B P r)) M (emS B P r)) H → va_at D vwCl (q, entS (YS Y (emS B P) 29 shS) (shS r) (sbM (emS B P) M) r) H := by
  intro r hr D q H
  rcases (show r = 0 ∨ r = 1 ∨ r = 2 ∨ (2 < r ∧ r < 29) by omega) with rfl | rfl | rfl | ⟨h3, -⟩
  · refine at_eq ?_
    rcases hB with rfl | rfl <;> rcases hP with rfl | rfl <;> first | (show Sum.inr (8, va_rf ((gR M 26 0).map Y.ad) :: _) = (_ : va_E); rw [h]; rfl) | (show Sum.inr (8, va_rf ((gR M 46 0).map Y.ad) :: _) = (_ : va_E); rw [h]; rfl)
  · have hh : shC (emS B P 1) = shS 1 := by rcases hB with rfl | rfl <;> rcases hP with rfl | rfl <;> rfl
    rw [hh]
    refine at_arr (fun i hi => ?_)
    show some (Y.ad (emS B P 1 + 7 + 2 * i)) = some ((YS Y (emS B P) 29 shS).ad (1 + 7 + 2 * i))
    have hi : i < 6 := hi
    rw [YS_ad _ _ _ _ (by omega), show emS B P 1 = B + 1 from rfl, show B + 1 + 7 + 2 * i = B + (1 + 7 + 2 * i) by omega]
  · have hh : shC (emS B P 2) = shS 2 := by rcases hB with rfl | rfl <;> rcases hP with rfl | rfl <;> rfl
    rw [hh]
    refine at_arr (fun i hi => ?_)
    show some (Y.ad (emS B P 2 + 7 + 2 * i)) = some ((YS Y (emS B P) 29 shS).ad (2 + 7 + 2 * i))
    have hi : i < 6 := hi
    rw [YS_ad _ _ _ _ (by omega), show emS B P 2 = B + 2 from rfl, show B + 2 + 7 + 2 * i = B + (2 + 7 + 2 * i) by omega]
  · refine at_eq ?_
    have h29 : r = 3 ∨ r = 4 ∨ r = 5 ∨ r = 6 ∨ r = 7 ∨ r = 8 ∨ r = 9 ∨ r = 10 ∨ r = 11 ∨ r = 12 ∨ r = 13 ∨ r = 14 ∨ r = 15 ∨ r = 16 ∨ r = 17 ∨ r = 18 ∨ r = 19 ∨ r = 20 ∨ r = 21 ∨ r = 22 ∨ r = 23 ∨ r = 24 ∨ r = 25 ∨ r = 26 ∨ r = 27 ∨ r = 28 := by omega
    rcases hB with rfl | rfl <;> rcases hP with rfl | rfl <;> rcases h29 with rfl | rfl | rfl | rfl | rfl | rfl | rfl | rfl | rfl | rfl | rfl | rfl | rfl | rfl | rfl | rfl | rfl | rfl | rfl | rfl | rfl | rfl | rfl | rfl | rfl | rfl <;> rfl
set_option maxHeartbeats 8000000 in
set_option maxRecDepth 100000 in
theorem entS_fr (Y : Sys) (M M' : Mm) (B P : Nat) (hB : B = 26 ∨ B = 46) (hP : P = 1 ∨ P = 10) (h : gR M B 0 = some P) : ∀ r, r < 29 → ∀ (D : va_G) (q : Nat) (H : Heap), va_at D vwCl (q, entS (YS Y (emS B P) 29 shS) (shS r) M' r) H → va_at D vwCl (q, entS Y (shC (emS B P r)) (inM (dmS B P) kpS M M') (emS B P r)) H := by
  intro r hr D q H
  rcases (show r = 0 ∨ r = 1 ∨ r = 2 ∨ (2 < r ∧ r < 29) by omega) with rfl | rfl | rfl | ⟨h3, -⟩
  · refine at_eq ?_
    rcases hB with rfl | rfl <;> rcases hP with rfl | rfl <;> first | (show (_ : va_E) = Sum.inr (8, va_rf ((gR M 26 0).map Y.ad) :: _); rw [h]; rfl) | (show (_ : va_E) = Sum.inr (8, va_rf ((gR M 46 0).map Y.ad) :: _); rw [h]; rfl)
  · have hh : shC (emS B P 1) = shS 1 := by rcases hB with rfl | rfl <;> rcases hP with rfl | rfl <;> rfl
    rw [hh]
    refine at_arr (fun i hi => ?_)
    show some ((YS Y (emS B P) 29 shS).ad (1 + 7 + 2 * i)) = some (Y.ad (emS B P 1 + 7 + 2 * i))
    have hi : i < 6 := hi
    rw [YS_ad _ _ _ _ (by omega), show emS B P 1 = B + 1 from rfl, show B + 1 + 7 + 2 * i = B + (1 + 7 + 2 * i) by omega]
  · have hh : shC (emS B P 2) = shS 2 := by rcases hB with rfl | rfl <;> rcases hP with rfl | rfl <;> rfl
    rw [hh]
    refine at_arr (fun i hi => ?_)
    show some ((YS Y (emS B P) 29 shS).ad (2 + 7 + 2 * i)) = some (Y.ad (emS B P 2 + 7 + 2 * i))
    have hi : i < 6 := hi
    rw [YS_ad _ _ _ _ (by omega), show emS B P 2 = B + 2 from rfl, show B + 2 + 7 + 2 * i = B + (2 + 7 + 2 * i) by omega]
  · refine at_eq ?_
    have h29 : r = 3 ∨ r = 4 ∨ r = 5 ∨ r = 6 ∨ r = 7 ∨ r = 8 ∨ r = 9 ∨ r = 10 ∨ r = 11 ∨ r = 12 ∨ r = 13 ∨ r = 14 ∨ r = 15 ∨ r = 16 ∨ r = 17 ∨ r = 18 ∨ r = 19 ∨ r = 20 ∨ r = 21 ∨ r = 22 ∨ r = 23 ∨ r = 24 ∨ r = 25 ∨ r = 26 ∨ r = 27 ∨ r = 28 := by omega
    rcases hB with rfl | rfl <;> rcases hP with rfl | rfl <;> rcases h29 with rfl | rfl | rfl | rfl | rfl | rfl | rfl | rfl | rfl | rfl | rfl | rfl | rfl | rfl | rfl | rfl | rfl | rfl | rfl | rfl | rfl | rfl | rfl | rfl | rfl | rfl <;> rfl
theorem subS_ok {E : Cx} {cc : ByteArray} {own : String} {ret : Option FieldType} {rm : Room} {nL : Nat} (hE : CxOk E cc own shC ret rm nL) {M : Mm} {B P : Nat} (hB : B = 26 ∨ B = 46) (hP : P = 1 ∨ P = 10) (h : gR M B 0 = some P) : SubOk E (emS B P) (dmS B P) kpS 29 shS (fun _ => True) M := by
  refine ⟨by decide, fun r hr => ⟨?_, (emS_ok B hB P hP r hr).2⟩, fun a r hd => dmS_ok hd, fun r hr => shS_lt hr, fun r hr q H => ?_, fun M' r _ hr q H => ?_⟩
  · refine hE.sys.2.2.2 _ ?_
    have h1 := (emS_ok B hB P hP r hr).1
    exact co_dec (P := fun a => (shC a).1 < 9) (by decide +kernel) h1
  · rw [ent_S, ent_S, hE.sys.1]
    exact entS_to E.Y M B P hB hP h r hr _ q H
  · rw [ent_S, ent_S, hE.sys.1]
    exact entS_fr E.Y M M' B P hB hP h r hr _ q H
/-! the reader -/
def emP (_ P r : Nat) : Nat := if r < 5 then 21 + r else if r < 7 then 14 + r else P + (r - 7)
def dmP (_ P a : Nat) : Option Nat := if 21 ≤ a ∧ a < 26 then some (a - 21) else if 19 ≤ a ∧ a < 21 then some (a - 14) else if P ≤ a ∧ a < P + 9 then some (a - P + 7) else none
def kpP (a : Nat) : Bool := a == 25
/-- the words that are kept at a cell are words -/
def gdW (a : Nat) (M : Mm) : Bool := (List.range 1601).all (fun i => okW (gR M a i))
theorem gdW_at {a : Nat} {M : Mm} (h : gdW a M = true) {i : Nat} (hi : i < 1601) : okW (gR M a i) = true := List.all_eq_true.mp h i (List.mem_range.mpr hi)
def plnP {ρ : Type} (M : Mm) (_ : Nat) (g : Nat → Option ρ) : Option ρ := nn (gR M 21 5) fun P => grd ((P = 1 ∨ P = 10) ∧ gdW 25 M = true) (g P)
theorem shP_lt {r : Nat} (h : (shP r).1 < 9) : r < 16 := by
  refine Nat.lt_of_not_le (fun hn => ?_)
  have : shP r = (99, 0, 0, []) := by
    unfold shP
    rw [List.getD_eq_getElem?_getD, List.getElem?_eq_none (by simpa using hn)]
    rfl
  rw [this] at h
  exact absurd h (by decide)
theorem emP_ok (B P : Nat) (hP : P = 1 ∨ P = 10) : ∀ r, r < 16 → emP B P r < 474 ∧ dmP B P (emP B P r) = some r := by
  intro r hr
  unfold emP dmP
  by_cases h : r < 5
  · rw [if_pos h]
    refine ⟨by omega, ?_⟩
    rw [if_pos (by omega), show 21 + r - 21 = r by omega]
  · rw [if_neg h]
    by_cases h2 : r < 7
    · rw [if_pos h2]
      refine ⟨by omega, ?_⟩
      rw [if_neg (by omega), if_pos (by omega), show 14 + r - 14 = r by omega]
    · rw [if_neg h2]
      refine ⟨by omega, ?_⟩
      rw [if_neg (by omega), if_neg (by omega), if_pos (by omega), show P + (r - 7) - P + 7 = r by omega]
theorem dmP_ok {B P a r : Nat} (h : dmP B P a = some r) : r < 16 ∧ emP B P r = a := by
  unfold dmP at h
  by_cases h1 : 21 ≤ a ∧ a < 26
  · rw [if_pos h1] at h
    cases h
    refine ⟨by omega, ?_⟩
    unfold emP
    rw [if_pos (by omega)]; omega
  · rw [if_neg h1] at h
    by_cases h2 : 19 ≤ a ∧ a < 21
    · rw [if_pos h2] at h
      cases h
      refine ⟨by omega, ?_⟩
      unfold emP
      rw [if_neg (by omega), if_pos (by omega)]; omega
    · rw [if_neg h2] at h
      by_cases h3 : P ≤ a ∧ a < P + 9
      · rw [if_pos h3] at h
        cases h
        refine ⟨by omega, ?_⟩
        unfold emP
        rw [if_neg (by omega), if_neg (by omega)]; omega
      · rw [if_neg h3] at h; cases h
theorem okW_ad {Y : Sys} {em : Nat → Nat} {T : Nat} {sg : Nat → Shp} {x : Option Nat} (h : okW x = true) : x.map (YS Y em T sg).ad = x.map Y.ad := by
  cases x with
  | none => rfl
  | some w =>
    obtain ⟨k, hk, rfl⟩ := okW_some h
    show some (if 1000 + k < 1000 then Y.ad (em (1000 + k)) else Y.ad (1000 + k)) = _
    rw [if_neg (by omega)]; rfl
set_option maxHeartbeats 8000000 in
set_option maxRecDepth 100000 in
theorem entP_to (Y : Sys) (M : Mm) (B P : Nat) (hP : P = 1 ∨ P = 10) (h : gR M 21 5 = some P) (hg : gdW 25 M = true) : ∀ r, r < 16 → ∀ (D : va_G) (q : Nat) (H : Heap), va_at D vwCl (q, entS Y (shC (emP B P r)) M (emP B P r)) H → va_at D vwCl (q, entS (YS Y (emP B P) 16 shP) (shP r) (sbM (emP B P) M) r) H := by
  intro r hr D q H
  rcases (show r = 0 ∨ r = 4 ∨ (r ≠ 0 ∧ r ≠ 4 ∧ r < 16) by omega) with rfl | rfl | ⟨h3, h4, -⟩
  · refine at_eq ?_
    rcases hP with rfl | rfl <;> (show Sum.inr (5, _ :: _ :: _ :: _ :: _ :: va_rf ((gR M 21 5).map Y.ad) :: _) = (_ : va_E); rw [h]; rfl)
  · refine at_arr (fun i hi => ?_)
    exact (okW_ad (gdW_at hg hi)).symm
  · refine at_eq ?_
    have h29 : r = 1 ∨ r = 2 ∨ r = 3 ∨ r = 5 ∨ r = 6 ∨ r = 7 ∨ r = 8 ∨ r = 9 ∨ r = 10 ∨ r = 11 ∨ r = 12 ∨ r = 13 ∨ r = 14 ∨ r = 15 := by omega
    rcases hP with rfl | rfl <;> rcases h29 with rfl | rfl | rfl | rfl | rfl | rfl | rfl | rfl | rfl | rfl | rfl | rfl | rfl | rfl <;> rfl
set_option maxHeartbeats 8000000 in
set_option maxRecDepth 100000 in
theorem entP_fr (Y : Sys) (M M' : Mm) (B P : Nat) (hP : P = 1 ∨ P = 10) (h : gR M 21 5 = some P) (hg : gdW 4 M' = true) : ∀ r, r < 16 → ∀ (D : va_G) (q : Nat) (H : Heap), va_at D vwCl (q, entS (YS Y (emP B P) 16 shP) (shP r) M' r) H → va_at D vwCl (q, entS Y (shC (emP B P r)) (inM (dmP B P) kpP M M') (emP B P r)) H := by
  intro r hr D q H
  rcases (show r = 0 ∨ r = 4 ∨ (r ≠ 0 ∧ r ≠ 4 ∧ r < 16) by omega) with rfl | rfl | ⟨h3, h4, -⟩
  · refine at_eq ?_
    rcases hP with rfl | rfl <;> (show (_ : va_E) = Sum.inr (5, _ :: _ :: _ :: _ :: _ :: va_rf ((gR M 21 5).map Y.ad) :: _); rw [h]; rfl)
  · refine at_arr (fun i hi => ?_)
    exact okW_ad (gdW_at hg hi)
  · refine at_eq ?_
    have h29 : r = 1 ∨ r = 2 ∨ r = 3 ∨ r = 5 ∨ r = 6 ∨ r = 7 ∨ r = 8 ∨ r = 9 ∨ r = 10 ∨ r = 11 ∨ r = 12 ∨ r = 13 ∨ r = 14 ∨ r = 15 := by omega
    rcases hP with rfl | rfl <;> rcases h29 with rfl | rfl | rfl | rfl | rfl | rfl | rfl | rfl | rfl | rfl | rfl | rfl | rfl | rfl <;> rfl
theorem subP_ok {E : Cx} {cc : ByteArray} {own : String} {ret : Option FieldType} {rm : Room} {nL : Nat} (hE : CxOk E cc own shC ret rm nL) {M : Mm} {B P : Nat} (hP : P = 1 ∨ P = 10) (h : gR M 21 5 = some P) (hg : gdW 25 M = true) : SubOk E (emP B P) (dmP B P) kpP 16 shP (fun M' => gdW 4 M' = true) M := by
  refine ⟨by decide, fun r hr => ⟨?_, (emP_ok B P hP r hr).2⟩, fun a r hd => dmP_ok hd, fun r hr => shP_lt hr, fun r hr q H => ?_, fun M' r hg' hr q H => ?_⟩
  · refine hE.sys.2.2.2 _ ?_
    have h1 := (emP_ok B P hP r hr).1
    exact co_dec (P := fun a => (shC a).1 < 9) (by decide +kernel) h1
  · rw [ent_S, ent_S, hE.sys.1]
    exact entP_to E.Y M B P hP h hg r hr _ q H
  · rw [ent_S, ent_S, hE.sys.1]
    exact entP_fr E.Y M M' B P hP h hg' r hr _ q H
section WRAPX
variable {ρ : Type} {E : Cx} {cc : ByteArray} {own : String} {sf : Nat → Shp} {ret : Option FieldType} {rm : Room} {nL pc : Nat} {lv : List (Nat × Value)} {st st0 : List Value} {M : Mm} {o : Option ρ} {K : ρ → Prop}
variable {em : Nat → Nat} {dm : Nat → Option Nat} {kp : Nat → Bool} {T : Nat} {sg : Nat → Shp} {a rr idx ci n maxL z N : Nat} {fs : List (Nat × Nat)} {y : MethodName} {bytes : ByteArray} {retc : Option FieldType} {C : String} {T0 : u_T}
theorem ok_plnS (hE : CxOk E cc own shC ret rm nL) {B : Nat} {g : Nat → Option ρ} (k : ∀ P, SubOk E (emS B P) (dmS B P) kpS 29 shS (fun _ => True) M → Ok E pc lv st M (g P) K) (hB : (B == 26 || B == 46) = true := by rfl) : Ok E pc lv st M (plnS M B g) K := by
  intro r hr hK
  unfold plnS at hr
  cases hp : gR M B 0 with
  | none => rw [hp] at hr; cases hr
  | some P =>
    rw [hp] at hr
    have hr : grd (P = 1 ∨ P = 10) (g P) = some r := hr
    unfold grd at hr
    by_cases hc : P = 1 ∨ P = 10
    · rw [if_pos hc] at hr
      have hB' : B = 26 ∨ B = 46 := by simpa using hB
      exact k P (subS_ok hE hB' hc hp) r hr hK
    · rw [if_neg hc] at hr; cases hr
theorem ok_xI (hE : CxOk E cc own sf ret rm nL) {fo : Option (Int32 × Mm)} {f : Int32 × Mm → Mm → Option ρ} (rmc : Room) (As rest : List Value) (hst : st0 = As.reverse ++ .ref (E.Y.ad a) :: rest) (cv : CallV own idx C y bytes maxL retc n) (hsh : sf a = (0, ci, z, fs)) (hci : vwCl[ci]? = some (C, T0, N)) (hS : SubOk E em dm kp T sg (fun _ => True) M) (hq : (YS E.Y em T sg).ad rr = E.Y.ad a) (hM : SysOk (YS E.Y em T sg) T sg → ∀ x, fo = some x → Cm E.l (YS E.Y em T sg) T y (WS y bytes maxL retc) rmc (.ref ((YS E.Y em T sg).ad rr) :: As) (sbM em M) (enI x)) (hR : rmc.cells = 0 ∧ rmc.slots = 0 ∧ Nat.ble (rmc.frames + 1) rm.frames = true ∧ Nat.ble (8 + (maxL + 11) + rmc.locals) rm.locals = true) (hn : As.length = n) (hW : Nat.ble ((rest.map fun v => v.category).sum) 8 = true) (hd : decode cc pc = .ok (.invokevirtual idx, 3)) (kk : ∀ (x : Int32 × Mm) (M2 : Mm), Ok E (pc + 3) lv (.int x.1 :: rest) M2 (f x M2) K) : Ok E pc lv st0 M (bnd fo fun x => lett (inM dm kp M x.2) (f x)) K := ok_xcall hE enI hS hst cv hsh hci (by rw [← hq]; exact hM) (fun _ _ => trivial) hR hn hW hd (fun x => kk x _)
theorem ok_xF (hE : CxOk E cc own sf ret rm nL) {fo : Option (UInt32 × Mm)} {f : UInt32 × Mm → Mm → Option ρ} (rmc : Room) (As rest : List Value) (hst : st0 = As.reverse ++ .ref (E.Y.ad a) :: rest) (cv : CallV own idx C y bytes maxL retc n) (hsh : sf a = (0, ci, z, fs)) (hci : vwCl[ci]? = some (C, T0, N)) (hS : SubOk E em dm kp T sg (fun _ => True) M) (hq : (YS E.Y em T sg).ad rr = E.Y.ad a) (hM : SysOk (YS E.Y em T sg) T sg → ∀ x, fo = some x → Cm E.l (YS E.Y em T sg) T y (WS y bytes maxL retc) rmc (.ref ((YS E.Y em T sg).ad rr) :: As) (sbM em M) (enF x)) (hR : rmc.cells = 0 ∧ rmc.slots = 0 ∧ Nat.ble (rmc.frames + 1) rm.frames = true ∧ Nat.ble (8 + (maxL + 11) + rmc.locals) rm.locals = true) (hn : As.length = n) (hW : Nat.ble ((rest.map fun v => v.category).sum) 8 = true) (hd : decode cc pc = .ok (.invokevirtual idx, 3)) (kk : ∀ (x : UInt32 × Mm) (M2 : Mm), Ok E (pc + 3) lv (.float x.1 :: rest) M2 (f x M2) K) : Ok E pc lv st0 M (bnd fo fun x => lett (inM dm kp M x.2) (f x)) K := ok_xcall hE enF hS hst cv hsh hci (by rw [← hq]; exact hM) (fun _ _ => trivial) hR hn hW hd (fun x => kk x _)
theorem ok_xV (hE : CxOk E cc own sf ret rm nL) {fo : Option (Mm)} {f : Mm → Mm → Option ρ} (rmc : Room) (As rest : List Value) (hst : st0 = As.reverse ++ .ref (E.Y.ad a) :: rest) (cv : CallV own idx C y bytes maxL retc n) (hsh : sf a = (0, ci, z, fs)) (hci : vwCl[ci]? = some (C, T0, N)) (hS : SubOk E em dm kp T sg (fun _ => True) M) (hq : (YS E.Y em T sg).ad rr = E.Y.ad a) (hM : SysOk (YS E.Y em T sg) T sg → ∀ x, fo = some x → Cm E.l (YS E.Y em T sg) T y (WS y bytes maxL retc) rmc (.ref ((YS E.Y em T sg).ad rr) :: As) (sbM em M) (enV x)) (hR : rmc.cells = 0 ∧ rmc.slots = 0 ∧ Nat.ble (rmc.frames + 1) rm.frames = true ∧ Nat.ble (8 + (maxL + 11) + rmc.locals) rm.locals = true) (hn : As.length = n) (hW : Nat.ble ((rest.map fun v => v.category).sum) 8 = true) (hd : decode cc pc = .ok (.invokevirtual idx, 3)) (kk : ∀ (x : Mm) (M2 : Mm), Ok E (pc + 3) lv (rest) M2 (f x M2) K) : Ok E pc lv st0 M (bnd fo fun x => lett (inM dm kp M x) (f x)) K := ok_xcall hE enV hS hst cv hsh hci (by rw [← hq]; exact hM) (fun _ _ => trivial) hR hn hW hd (fun x => kk x _)
theorem ok_xIp (hE : CxOk E cc own sf ret rm nL) {fo : Option (Int32)} {f : Int32 → Option ρ} (rmc : Room) (As rest : List Value) (hst : st0 = As.reverse ++ .ref (E.Y.ad a) :: rest) (cv : CallV own idx C y bytes maxL retc n) (hsh : sf a = (0, ci, z, fs)) (hci : vwCl[ci]? = some (C, T0, N)) (hS : SubOk E em dm kp T sg (fun _ => True) M) (hq : (YS E.Y em T sg).ad rr = E.Y.ad a) (hM : SysOk (YS E.Y em T sg) T sg → ∀ x, fo = some x → Cm E.l (YS E.Y em T sg) T y (WS y bytes maxL retc) rmc (.ref ((YS E.Y em T sg).ad rr) :: As) (sbM em M) (some (.int x), sbM em M)) (hR : rmc.cells = 0 ∧ rmc.slots = 0 ∧ Nat.ble (rmc.frames + 1) rm.frames = true ∧ Nat.ble (8 + (maxL + 11) + rmc.locals) rm.locals = true) (hn : As.length = n) (hW : Nat.ble ((rest.map fun v => v.category).sum) 8 = true) (hd : decode cc pc = .ok (.invokevirtual idx, 3)) (kk : ∀ x : Int32, Ok E (pc + 3) lv (.int x :: rest) M (f x) K) : Ok E pc lv st0 M (bnd fo f) K := ok_xcall hE (fun x : Int32 => (some (.int x), sbM em M)) hS hst cv hsh hci (by rw [← hq]; exact hM) (fun _ _ => trivial) hR hn hW hd (fun x => by rw [show inM dm kp M ((some _, sbM em M) : Option Value × Mm).2 = M from sub_same hS]; exact kk x)
theorem ok_xFp (hE : CxOk E cc own sf ret rm nL) {fo : Option (UInt32)} {f : UInt32 → Option ρ} (rmc : Room) (As rest : List Value) (hst : st0 = As.reverse ++ .ref (E.Y.ad a) :: rest) (cv : CallV own idx C y bytes maxL retc n) (hsh : sf a = (0, ci, z, fs)) (hci : vwCl[ci]? = some (C, T0, N)) (hS : SubOk E em dm kp T sg (fun _ => True) M) (hq : (YS E.Y em T sg).ad rr = E.Y.ad a) (hM : SysOk (YS E.Y em T sg) T sg → ∀ x, fo = some x → Cm E.l (YS E.Y em T sg) T y (WS y bytes maxL retc) rmc (.ref ((YS E.Y em T sg).ad rr) :: As) (sbM em M) (some (.float x), sbM em M)) (hR : rmc.cells = 0 ∧ rmc.slots = 0 ∧ Nat.ble (rmc.frames + 1) rm.frames = true ∧ Nat.ble (8 + (maxL + 11) + rmc.locals) rm.locals = true) (hn : As.length = n) (hW : Nat.ble ((rest.map fun v => v.category).sum) 8 = true) (hd : decode cc pc = .ok (.invokevirtual idx, 3)) (kk : ∀ x : UInt32, Ok E (pc + 3) lv (.float x :: rest) M (f x) K) : Ok E pc lv st0 M (bnd fo f) K := ok_xcall hE (fun x : UInt32 => (some (.float x), sbM em M)) hS hst cv hsh hci (by rw [← hq]; exact hM) (fun _ _ => trivial) hR hn hW hd (fun x => by rw [show inM dm kp M ((some _, sbM em M) : Option Value × Mm).2 = M from sub_same hS]; exact kk x)
theorem ok_plnP (hE : CxOk E cc own shC ret rm nL) {B : Nat} {g : Nat → Option ρ} (k : ∀ P, SubOk E (emP B P) (dmP B P) kpP 16 shP (fun M' => gdW 4 M' = true) M → Ok E pc lv st M (g P) K) : Ok E pc lv st M (plnP M B g) K := by
  intro r hr hK
  unfold plnP at hr
  cases hp : gR M 21 5 with
  | none => rw [hp] at hr; cases hr
  | some P =>
    rw [hp] at hr
    have hr : grd ((P = 1 ∨ P = 10) ∧ gdW 25 M = true) (g P) = some r := hr
    unfold grd at hr
    by_cases hc : (P = 1 ∨ P = 10) ∧ gdW 25 M = true
    · rw [if_pos hc] at hr
      exact k P (subP_ok hE hc.1 hp hc.2) r hr hK
    · rw [if_neg hc] at hr; cases hr
theorem ok_yV (hE : CxOk E cc own sf ret rm nL) {gd : Mm → Bool} {fo : Option Mm} {f : Mm → Mm → Option ρ} (rmc : Room) (As rest : List Value) (hst : st0 = As.reverse ++ .ref (E.Y.ad a) :: rest) (cv : CallV own idx C y bytes maxL retc n) (hsh : sf a = (0, ci, z, fs)) (hci : vwCl[ci]? = some (C, T0, N)) (hS : SubOk E em dm kp T sg (fun M' => gd M' = true) M) (hq : (YS E.Y em T sg).ad rr = E.Y.ad a) (hM : SysOk (YS E.Y em T sg) T sg → ∀ x, fo = some x → Cm E.l (YS E.Y em T sg) T y (WS y bytes maxL retc) rmc (.ref ((YS E.Y em T sg).ad rr) :: As) (sbM em M) (enV x)) (hR : rmc.cells = 0 ∧ rmc.slots = 0 ∧ Nat.ble (rmc.frames + 1) rm.frames = true ∧ Nat.ble (8 + (maxL + 11) + rmc.locals) rm.locals = true) (hn : As.length = n) (hW : Nat.ble ((rest.map fun v => v.category).sum) 8 = true) (hd : decode cc pc = .ok (.invokevirtual idx, 3)) (kk : ∀ (x M2 : Mm), Ok E (pc + 3) lv rest M2 (f x M2) K) : Ok E pc lv st0 M (bnd fo fun x => grd (gd x = true) (lett (inM dm kp M x) (f x))) K := by
  intro r hr hK
  cases hfo : fo with
  | none => rw [hfo] at hr; cases hr
  | some x =>
    have hr0 := hr
    rw [hfo] at hr
    have hr : grd (gd x = true) (lett (inM dm kp M x) (f x)) = some r := hr
    unfold grd at hr
    by_cases hg : gd x = true
    · exact ok_xcall hE enV hS hst cv hsh hci (by rw [← hq]; exact hM) (fun x' hx' => by rw [hfo] at hx'; cases hx'; exact hg) hR hn hW hd (fun x => ok_grd (fun _ => kk x _)) r hr0 hK
    · rw [if_neg hg] at hr; cases hr
end WRAPX
theorem adS_e {Y : Sys} {P : Nat} {i : Int32} (h : vp_in i 6) : (YS Y (emS 26 P) 29 shS).ad (9 + 2 * ix i) = Y.ad (35 + 2 * ix i) := by
  obtain ⟨j, hj, rfl⟩ := vp_in_of h (by decide)
  rw [show ix (nI j) = j from nI_clamp (by omega)]
  show (if 9 + 2 * j < 1000 then Y.ad (emS 26 P (9 + 2 * j)) else Y.ad (9 + 2 * j)) = _
  rw [if_pos (by omega), emS, if_pos (by omega), show 26 + (9 + 2 * j) = 35 + 2 * j by omega]
