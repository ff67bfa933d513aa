/-! THE MEMORY OF A SYSTEM, its shapes, its world, the judgement 'Ok' -/
abbrev Mm : Type := (Nat → Nat → Int32) × (Nat → Nat → UInt32) × (Nat → Nat → Int64) × (Nat → Nat → Option Nat)
def up2 {α : Type} (f : Nat → Nat → α) (a k : Nat) (v : α) : Nat → Nat → α := fun a' k' => if a' = a ∧ k' = k then v else f a' k'
def gI (M : Mm) (a k : Nat) : Int32 := M.1 a k
def gF (M : Mm) (a k : Nat) : UInt32 := M.2.1 a k
def gL (M : Mm) (a k : Nat) : Int64 := M.2.2.1 a k
def gR (M : Mm) (a k : Nat) : Option Nat := M.2.2.2 a k
def sI (M : Mm) (a k : Nat) (v : Int32) : Mm := (up2 M.1 a k v, M.2)
def sF (M : Mm) (a k : Nat) (v : UInt32) : Mm := (M.1, up2 M.2.1 a k v, M.2.2)
def sL (M : Mm) (a k : Nat) (v : Int64) : Mm := (M.1, M.2.1, up2 M.2.2.1 a k v, M.2.2.2)
def sR (M : Mm) (a k : Nat) (v : Option Nat) : Mm := (M.1, M.2.1, M.2.2.1, up2 M.2.2.2 a k v)
/-- rows of ints copied: from cell a, place sp on, to cell b, place dp on, n of them -/
def cpI (M : Mm) (a sp b dp n : Nat) : Mm := (fun x k => if x = b then va_cpy (M.1 a) (M.1 b) sp dp n k else M.1 x k, M.2)
/-- a cell's shape: kind (0 object, 1 ints, 2 floats, 3 references, 4 constant references), its class or array class, length, fields (0 int, 1 float, 2 long, 3 reference, 4 constant reference beside itself, 5 constant reference) -/
abbrev Shp : Type := Nat × Nat × Nat × List (Nat × Nat)
def Sys : Type := (Nat → ClassId) × va_G × (Nat → Nat) × (Nat → Shp) × (Nat → Prop)
def Sys.c (Y : Sys) : Nat → ClassId := Y.1
def Sys.D (Y : Sys) : va_G := Y.2.1
def Sys.ad (Y : Sys) : Nat → Nat := Y.2.2.1
def Sys.sh (Y : Sys) : Nat → Shp := Y.2.2.2.1
def Sys.A (Y : Sys) : Nat → Prop := Y.2.2.2.2
def tys7 (c : Nat → ClassId) : List (ClassId × FieldType) := [(c 0, .int), (c 1, .float), (c 2, .boolean), (c 3, .object RX3), (c 4, .object RX4), (c 5, .object RX8), (c 6, .object RX10)]
def fv (ad : Nat → Nat) (M : Mm) (a k : Nat) (q : Nat × Nat) : Value := match q.1 with
  | 0 => .int (gI M a k)
  | 1 => .float (gF M a k)
  | 2 => .long (gL M a k)
  | 3 => va_rf ((gR M a k).map ad)
  | 4 => .ref (ad (a + q.2))
  | _ => .ref (ad q.2)
def fvs (ad : Nat → Nat) (M : Mm) (a : Nat) : Nat → List (Nat × Nat) → List Value
  | _, [] => []
  | k, q :: qs => fv ad M a k q :: fvs ad M a (k + 1) qs
def ent (Y : Sys) (M : Mm) (a : Nat) : va_E := match (Y.sh a).1 with
  | 0 => .inr ((Y.sh a).2.1, fvs Y.ad M a 0 (Y.sh a).2.2.2)
  | 1 => .inl (Y.c (Y.sh a).2.1, (Y.sh a).2.2.1, .inl (gI M a))
  | 2 => .inl (Y.c (Y.sh a).2.1, (Y.sh a).2.2.1, .inr (.inr (.inl (gF M a))))
  | 3 => .inl (Y.c (Y.sh a).2.1, (Y.sh a).2.2.1, .inr (.inr (.inr (.inr (fun i => (gR M a i).map Y.ad)))))
  | _ => .inl (Y.c (Y.sh a).2.1, (Y.sh a).2.2.1, .inr (.inr (.inr (.inr (fun i => some (Y.ad (a + ((Y.sh a).2.2.2.headD (0, 0)).1 + ((Y.sh a).2.2.2.headD (0, 0)).2 * i)))))))
def wld (Y : Sys) (t : Nat) (M : Mm) : va_W := (List.range t).map (fun a => (Y.ad a, ent Y M a))
theorem wld_get (Y : Sys) {t : Nat} (M : Mm) {a : Nat} (h : a < t) : (wld Y t M)[a]? = some (Y.ad a, ent Y M a) := by
  simp [wld, h]
theorem wld_len (Y : Sys) (t : Nat) (M : Mm) : (wld Y t M).length = t := by simp [wld]
theorem wld_set (Y : Sys) {t : Nat} (M M' : Mm) {a : Nat} {e : va_E} (he : ent Y M' a = e) (ho : ∀ b, b ≠ a → ent Y M' b = ent Y M b) : (wld Y t M).set a (Y.ad a, e) = wld Y t M' := by
  apply List.ext_getElem?
  intro i
  rw [List.getElem?_set]
  by_cases hi : a = i
  · subst hi
    rw [if_pos rfl]
    by_cases hl : a < t
    · rw [if_pos (by rw [wld_len]; exact hl), wld_get Y M' hl, he]
    · rw [if_neg (by rw [wld_len]; exact hl)]
      symm
      rw [List.getElem?_eq_none_iff, wld_len]
      omega
  · rw [if_neg hi]
    by_cases hl : i < t
    · rw [wld_get Y M hl, wld_get Y M' hl, ho i (fun h => hi h.symm)]
    · rw [List.getElem?_eq_none_iff.mpr (by rw [wld_len]; omega), List.getElem?_eq_none_iff.mpr (by rw [wld_len]; omega)]
theorem fvs_get (ad : Nat → Nat) (M : Mm) (a : Nat) : ∀ (fs : List (Nat × Nat)) (k j : Nat), (fvs ad M a j fs)[k]? = (fs[k]?).map (fv ad M a (j + k))
  | [], k, j => by simp [fvs]
  | q :: qs, 0, j => by simp [fvs]
  | q :: qs, k + 1, j => by
    rw [fvs, List.getElem?_cons_succ, List.getElem?_cons_succ, fvs_get ad M a qs k (j + 1), show j + 1 + k = j + (k + 1) by omega]
theorem fvs_len (ad : Nat → Nat) (M : Mm) (a : Nat) : ∀ (fs : List (Nat × Nat)) (j : Nat), (fvs ad M a j fs).length = fs.length
  | [], j => rfl
  | q :: qs, j => by rw [fvs, List.length_cons, List.length_cons, fvs_len ad M a qs (j + 1)]
theorem fvs_ext (ad : Nat → Nat) (M M' : Mm) (a : Nat) (fs : List (Nat × Nat)) (h : ∀ k q, fs[k]? = some q → fv ad M' a k q = fv ad M a k q) : fvs ad M' a 0 fs = fvs ad M a 0 fs := by
  apply List.ext_getElem?
  intro k
  rw [fvs_get, fvs_get, Nat.zero_add]
  cases hk : fs[k]? with
  | none => rfl
  | some q => simp only [Option.map_some]; rw [h k q hk]
theorem fvs_set (ad : Nat → Nat) (M M' : Mm) (a k : Nat) (fs : List (Nat × Nat)) {q : Nat × Nat} {v : Value} (hq : fs[k]? = some q) (hv : fv ad M' a k q = v) (h : ∀ j r, j ≠ k → fs[j]? = some r → fv ad M' a j r = fv ad M a j r) : (fvs ad M a 0 fs).set k v = fvs ad M' a 0 fs := by
  apply List.ext_getElem?
  intro j
  rw [List.getElem?_set, fvs_get, fvs_get, Nat.zero_add]
  by_cases hj : k = j
  · subst hj
    have hl : k < fs.length := (List.getElem?_eq_some_iff.mp hq).1
    rw [if_pos rfl, if_pos (by rw [fvs_len]; exact hl), hq]
    simp only [Option.map_some]; rw [hv]
  · rw [if_neg hj]
    cases hk : fs[j]? with
    | none => rfl
    | some r => simp only [Option.map_some]; rw [h j r (fun e => hj e.symm) hk]
theorem ent_row (Y : Sys) (M M' : Mm) (b : Nat) (h1 : ∀ k, gI M' b k = gI M b k) (h2 : ∀ k, gF M' b k = gF M b k) (h3 : ∀ k, gL M' b k = gL M b k) (h4 : ∀ k, gR M' b k = gR M b k) : ent Y M' b = ent Y M b := by
  have e1 : gI M' b = gI M b := funext h1
  have e2 : gF M' b = gF M b := funext h2
  have e4 : gR M' b = gR M b := funext h4
  have e5 : fvs Y.ad M' b 0 (Y.sh b).2.2.2 = fvs Y.ad M b 0 (Y.sh b).2.2.2 := fvs_ext _ _ _ _ _ (fun k q _ => by simp only [fv, h1, h2, h3, h4])
  simp only [ent, e1, e2, e4, e5]
theorem gI_sI (M : Mm) (a k : Nat) (v : Int32) (a' k' : Nat) : gI (sI M a k v) a' k' = if a' = a ∧ k' = k then v else gI M a' k' := rfl
theorem gF_sF (M : Mm) (a k : Nat) (v : UInt32) (a' k' : Nat) : gF (sF M a k v) a' k' = if a' = a ∧ k' = k then v else gF M a' k' := rfl
theorem gL_sL (M : Mm) (a k : Nat) (v : Int64) (a' k' : Nat) : gL (sL M a k v) a' k' = if a' = a ∧ k' = k then v else gL M a' k' := rfl
theorem gR_sR (M : Mm) (a k : Nat) (v : Option Nat) (a' k' : Nat) : gR (sR M a k v) a' k' = if a' = a ∧ k' = k then v else gR M a' k' := rfl
theorem gF_sI (M : Mm) (a k : Nat) (v : Int32) (a' k' : Nat) : gF (sI M a k v) a' k' = gF M a' k' := rfl
theorem gL_sI (M : Mm) (a k : Nat) (v : Int32) (a' k' : Nat) : gL (sI M a k v) a' k' = gL M a' k' := rfl
theorem gR_sI (M : Mm) (a k : Nat) (v : Int32) (a' k' : Nat) : gR (sI M a k v) a' k' = gR M a' k' := rfl
theorem gI_sF (M : Mm) (a k : Nat) (v : UInt32) (a' k' : Nat) : gI (sF M a k v) a' k' = gI M a' k' := rfl
theorem gL_sF (M : Mm) (a k : Nat) (v : UInt32) (a' k' : Nat) : gL (sF M a k v) a' k' = gL M a' k' := rfl
theorem gR_sF (M : Mm) (a k : Nat) (v : UInt32) (a' k' : Nat) : gR (sF M a k v) a' k' = gR M a' k' := rfl
theorem gI_sL (M : Mm) (a k : Nat) (v : Int64) (a' k' : Nat) : gI (sL M a k v) a' k' = gI M a' k' := rfl
theorem gF_sL (M : Mm) (a k : Nat) (v : Int64) (a' k' : Nat) : gF (sL M a k v) a' k' = gF M a' k' := rfl
theorem gR_sL (M : Mm) (a k : Nat) (v : Int64) (a' k' : Nat) : gR (sL M a k v) a' k' = gR M a' k' := rfl
theorem gI_sR (M : Mm) (a k : Nat) (v : Option Nat) (a' k' : Nat) : gI (sR M a k v) a' k' = gI M a' k' := rfl
theorem gF_sR (M : Mm) (a k : Nat) (v : Option Nat) (a' k' : Nat) : gF (sR M a k v) a' k' = gF M a' k' := rfl
theorem gL_sR (M : Mm) (a k : Nat) (v : Option Nat) (a' k' : Nat) : gL (sR M a k v) a' k' = gL M a' k' := rfl
/-! what the law's start gave: the state from which all goes on, its old cells unchanged since -/
def wordNames : List String := ["DISK", "SEEK", "RATE", "BUDGET", "TO", "IDLE", "SLICE", "NEAR", "RAISE", "FOR", "REST", "WEIGHT", "FROM", "DOES", "STREAM", "AT", "ON", "TAKE", "THINK", "PROCESS"]
def Xf (Y : Sys) (s : State) : Prop := ∃ (s0 : State) (a0 : Array Value), (∀ w ∈ lw_tbl, w.before a0 s0 = true) ∧ (Jvm.Cond.and given_1 narrow_1).before a0 s0 = true ∧ s0.WarmedH s.vm ∧ s0.heap.size ≤ s.heap.size ∧ (∀ q : Nat, q < s0.heap.size → s.heap[q]? = s0.heap[q]?) ∧ (∀ q : Nat, Y.A q → s0.heap.size ≤ q) ∧ ∀ k : Nat, k < 20 → (Term.static RX10 (wordNames.getD k "") "LDiskBudgets$Word;").eval a0 s0 none [] s0 = some (.ref (Y.ad (1000 + k)))
theorem Xf.go {Y : Sys} {s U : State} (h : Xf Y s) (hW : s.WarmedH U.vm) (hz : s.heap.size ≤ U.heap.size) (hk : ∀ q : Nat, q < s.heap.size → ¬ Y.A q → U.heap[q]? = s.heap[q]?) : Xf Y U := by
  obtain ⟨s0, a0, h1, h2, h3, h4, h5, h6, h7⟩ := h
  refine ⟨s0, a0, h1, h2, State.WarmedH.trans h3 hW, Nat.le_trans h4 hz, fun q hq => ?_, h6, h7⟩
  rw [hk q (Nat.lt_of_lt_of_le hq h4) (fun hA => absurd (h6 q hA) (Nat.not_le.mpr hq))]
  exact h5 q hq
