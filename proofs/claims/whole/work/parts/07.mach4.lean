/-! FIELDS, ARRAYS, CALLS: rows for the judgement Ok -/
theorem Xf.nestF {Y : Sys} {s : State} (hX : Xf Y s) {a b n d h : String} {i : Nat} (hw : Cond.fieldLinkNest a i b n d h ∈ lw_tbl) {args : Array Value} : (Cond.fieldLinkNest a i b n d h).before args s = true := by
  obtain ⟨s0, a0, h1, -, hW, -⟩ := hX
  exact va_Nw.use rfl (va_Nw.warmF hW (va_Nw.of rfl (h1 _ hw)))
theorem Xf.nestM {Y : Sys} {s : State} (hX : Xf Y s) {a h : String} {x : MethodName} {i : Nat} (hw : Cond.methodLinkNest a i x h ∈ lw_tbl) : va_Nw (.methodLinkNest a i x h) s := by
  obtain ⟨s0, a0, h1, -, hW, -⟩ := hX
  exact va_Nw.warmM hW (va_Nw.of rfl (h1 _ hw))
def FldOk (own : String) (idx ci k : Nat) (ty : FieldType) (fin : Bool) : Prop := ∃ (C : String) (T : u_T) (N : Nat) (ty0 : Nat → FieldType), vwCl[ci]? = some (C, T, N) ∧ (∀ w ∈ u_ws C T N, w ∈ lw_good) ∧ (∀ k, k < N → parseFieldDescriptor (T k).2.2.1 = some (ty0 k)) ∧ (∀ a, a < N → ∀ b, b < N → a ≠ b → (T a).2.1 ≠ (T b).2.1) ∧ k < N ∧ ty0 k = ty ∧ (T k).2.2.2 = fin ∧ (Cond.fieldLink own idx (T k).1 (T k).2.1 (T k).2.2.1 ∈ lw_good ∨ ∃ host : String, Cond.fieldLinkNest own idx (T k).1 (T k).2.1 (T k).2.2.1 host ∈ lw_tbl)
section MEMO
variable {ρ : Type} {E : Cx} {cc : ByteArray} {own : String} {sf : Nat → Shp} {ret : Option FieldType} {rm : Room} {nL pc : Nat} {lv : List (Nat × Value)} {st : List Value} {M : Mm} {o : Option ρ} {K : ρ → Prop}
theorem CxOk.lt (hE : CxOk E cc own sf ret rm nL) {a kd : Nat} {x : Nat × Nat × List (Nat × Nat)} (h : sf a = (kd, x)) (hk : kd < 9) : a < E.t := hE.sys.2.2.2 a (by rw [h]; exact hk)
theorem CxOk.shp (hE : CxOk E cc own sf ret rm nL) (a : Nat) : E.Y.sh a = sf a := by rw [hE.sys.1]
theorem CxOk.d (hE : CxOk E cc own sf ret rm nL) (M : Mm) : va_D E.Y.A (wld E.Y E.t M) := by
  refine ⟨fun i j x y hx hy hxy => ?_, fun k q hq => ?_⟩
  · have hi : i < E.t := by rw [← wld_len E.Y E.t M]; exact (List.getElem?_eq_some_iff.mp hx).1
    have hj : j < E.t := by rw [← wld_len E.Y E.t M]; exact (List.getElem?_eq_some_iff.mp hy).1
    rw [wld_get E.Y M hi] at hx
    rw [wld_get E.Y M hj] at hy
    cases hx; cases hy
    exact hE.sys.2.1 i j hi hj hxy
  · have hk : k < E.t := by rw [← wld_len E.Y E.t M]; exact (List.getElem?_eq_some_iff.mp hq).1
    rw [wld_get E.Y M hk] at hq
    cases hq
    exact hE.sys.2.2.1 k hk
theorem CxOk.obj (hE : CxOk E cc own sf ret rm nL) {a ci n : Nat} {fs : List (Nat × Nat)} (hsh : sf a = (0, ci, n, fs)) (M : Mm) : (wld E.Y E.t M)[a]? = some (E.Y.ad a, .inr (ci, fvs E.Y.ad M a 0 fs)) := by
  rw [wld_get E.Y M (hE.lt hsh (by decide))]
  simp only [ent, hE.shp, hsh]
theorem ok_get (hE : CxOk E cc own sf ret rm nL) {a k idx ci n : Nat} {fs : List (Nat × Nat)} {q : Nat × Nat} {ty : FieldType} {fin : Bool} {v : Value} (f : FldOk own idx ci k ty fin) (hsh : sf a = (0, ci, n, fs)) (hq : fs[k]? = some q) (hv : fv E.Y.ad M a k q = v) (hd : decode cc pc = .ok (.getfield idx, 3)) (kk : Ok E (pc + 3) lv (v :: st) M o K) : Ok E pc lv (.ref (E.Y.ad a) :: st) M o K := by
  intro r hr hK ls H locs h1 h2 h3
  obtain ⟨C, T, N, ty0, hc, hin, hty, hnm, hkN, -, -, hl⟩ := f
  have he := hE.obj hsh M
  have hfv : (fvs E.Y.ad M a 0 fs)[k]? = some v := by rw [fvs_get, hq, Nat.zero_add, Option.map_some, hv]
  rcases hl with hl | ⟨host, hl⟩
  · exact va_get hE.1.1 hE.1.2.1 hE.2.1 hin hE.1.2.2.2.1 hE.2.2.1 h2 a he hc k hkN (hE.2.1 _ hl) (fun _ h => h) hfv hd (kk r hr hK ls H locs h1 h2 h3)
  · exact va_getN hE.1.1 hE.1.2.1 hE.2.1 hin hE.1.2.2.2.1 hE.2.2.1 h2 a he hc k hkN (hE.2.2.2.2.1.nestF hl) (fun _ h => h) hfv hd (kk r hr hK ls H locs h1 h2 h3)
theorem ok_getI (hE : CxOk E cc own sf ret rm nL) {a k idx ci n x : Nat} {fs : List (Nat × Nat)} {ty : FieldType} {fin : Bool} (f : FldOk own idx ci k ty fin) (hsh : sf a = (0, ci, n, fs)) (hq : fs[k]? = some (0, x)) (hd : decode cc pc = .ok (.getfield idx, 3)) (kk : Ok E (pc + 3) lv (.int (gI M a k) :: st) M o K) : Ok E pc lv (.ref (E.Y.ad a) :: st) M o K := ok_get hE f hsh hq rfl hd kk
theorem ok_getF (hE : CxOk E cc own sf ret rm nL) {a k idx ci n x : Nat} {fs : List (Nat × Nat)} {ty : FieldType} {fin : Bool} (f : FldOk own idx ci k ty fin) (hsh : sf a = (0, ci, n, fs)) (hq : fs[k]? = some (1, x)) (hd : decode cc pc = .ok (.getfield idx, 3)) (kk : Ok E (pc + 3) lv (.float (gF M a k) :: st) M o K) : Ok E pc lv (.ref (E.Y.ad a) :: st) M o K := ok_get hE f hsh hq rfl hd kk
theorem ok_getL (hE : CxOk E cc own sf ret rm nL) {a k idx ci n x : Nat} {fs : List (Nat × Nat)} {ty : FieldType} {fin : Bool} (f : FldOk own idx ci k ty fin) (hsh : sf a = (0, ci, n, fs)) (hq : fs[k]? = some (2, x)) (hd : decode cc pc = .ok (.getfield idx, 3)) (kk : Ok E (pc + 3) lv (.long (gL M a k) :: st) M o K) : Ok E pc lv (.ref (E.Y.ad a) :: st) M o K := ok_get hE f hsh hq rfl hd kk
theorem ok_getR (hE : CxOk E cc own sf ret rm nL) {a k idx ci n x : Nat} {fs : List (Nat × Nat)} {ty : FieldType} {fin : Bool} (f : FldOk own idx ci k ty fin) (hsh : sf a = (0, ci, n, fs)) (hq : fs[k]? = some (3, x)) (hd : decode cc pc = .ok (.getfield idx, 3)) (kk : Ok E (pc + 3) lv (va_rf ((gR M a k).map E.Y.ad) :: st) M o K) : Ok E pc lv (.ref (E.Y.ad a) :: st) M o K := ok_get hE f hsh hq rfl hd kk
theorem ok_getC (hE : CxOk E cc own sf ret rm nL) {a k idx ci n x : Nat} {fs : List (Nat × Nat)} {ty : FieldType} {fin : Bool} (f : FldOk own idx ci k ty fin) (hsh : sf a = (0, ci, n, fs)) (hq : fs[k]? = some (4, x)) (hd : decode cc pc = .ok (.getfield idx, 3)) (kk : Ok E (pc + 3) lv (.ref (E.Y.ad (a + x)) :: st) M o K) : Ok E pc lv (.ref (E.Y.ad a) :: st) M o K := ok_get hE f hsh hq rfl hd kk
theorem ok_getA (hE : CxOk E cc own sf ret rm nL) {a k idx ci n x : Nat} {fs : List (Nat × Nat)} {ty : FieldType} {fin : Bool} (f : FldOk own idx ci k ty fin) (hsh : sf a = (0, ci, n, fs)) (hq : fs[k]? = some (5, x)) (hd : decode cc pc = .ok (.getfield idx, 3)) (kk : Ok E (pc + 3) lv (.ref (E.Y.ad x) :: st) M o K) : Ok E pc lv (.ref (E.Y.ad a) :: st) M o K := ok_get hE f hsh hq rfl hd kk
/-- a reference that may be null, looked at: it is one of a kind -/
def nn {ρ : Type} (x : Option Nat) (f : Nat → Option ρ) : Option ρ := match x with
  | none => none
  | some a => f a
theorem ok_nn {x : Option Nat} {f : Nat → Option ρ} (h : ∀ a, x = some a → Ok E pc lv (.ref (E.Y.ad a) :: st) M (f a) K) : Ok E pc lv (va_rf (x.map E.Y.ad) :: st) M (nn x f) K := by
  intro r hr hK
  cases x with
  | none => cases hr
  | some a => exact h a rfl r hr hK
theorem ok_put (hE : CxOk E cc own sf ret rm nL) {a k idx ci n : Nat} {fs : List (Nat × Nat)} {q : Nat × Nat} {ty : FieldType} {v : Value} {M1 : Mm} (f : FldOk own idx ci k ty false) (hsh : sf a = (0, ci, n, fs)) (hq : fs[k]? = some q) (hn : narrow ty v = v) (hfit : fits ty v = true) (hv : fv E.Y.ad M1 a k q = v) (hM : ∀ j x, j ≠ k → fv E.Y.ad M1 a j x = fv E.Y.ad M a j x) (hR : ∀ b, b ≠ a → ent E.Y M1 b = ent E.Y M b) (hd : decode cc pc = .ok (.putfield idx, 3)) (kk : Ok E (pc + 3) lv st M1 o K) : Ok E pc lv (v :: .ref (E.Y.ad a) :: st) M o K := by
  intro r hr hK ls H locs h1 h2 h3
  obtain ⟨C, T, N, ty0, hc, hin, hty, hnm, hkN, hte, hfi, hl⟩ := f
  have he := hE.obj hsh M
  have hset : (wld E.Y E.t M).set a (E.Y.ad a, .inr (ci, (fvs E.Y.ad M a 0 fs).set k v)) = wld E.Y E.t M1 := by
    refine wld_set E.Y M M1 ?_ hR
    simp only [ent, hE.shp, hsh]
    rw [fvs_set E.Y.ad M M1 a k fs hq hv (fun j x hj _ => hM j x hj)]
  have hkl : k < (fvs E.Y.ad M a 0 fs).length := by rw [fvs_len]; exact (List.getElem?_eq_some_iff.mp hq).1
  have hpd : parseFieldDescriptor (T k).2.2.1 = some ty := by rw [hty k hkN, hte]
  rcases hl with hl | ⟨host, hl⟩
  · refine va_put hE.1.1 hE.1.2.1 hE.2.1 hin ty0 hty hnm hE.1.2.2.2.1 hE.2.2.1 h2 (hE.d M) h3 a he hc k hkN (hE.2.1 _ hl) (fun _ h => h) hfi hpd hn hfit hkl hd (fun H1 locs1 hP hD hS => ?_)
    rw [hset] at hP
    exact kk r hr hK ls H1 locs1 h1 hP hS
  · refine va_putN hE.1.1 hE.1.2.1 hE.2.1 hin ty0 hty hnm hE.1.2.2.2.1 hE.2.2.1 h2 (hE.d M) h3 a he hc k hkN (hE.2.2.2.2.1.nestF hl) (fun _ h => h) hfi hpd hn hfit hkl hd (fun H1 locs1 hP hD hS => ?_)
    rw [hset] at hP
    exact kk r hr hK ls H1 locs1 h1 hP hS
theorem ent_sI (Y : Sys) (M : Mm) (a k : Nat) (v : Int32) (b : Nat) (h : b ≠ a) : ent Y (sI M a k v) b = ent Y M b := ent_row Y _ _ b (fun j => by rw [gI_sI, if_neg (fun q => h q.1)]) (fun _ => rfl) (fun _ => rfl) (fun _ => rfl)
theorem ent_sF (Y : Sys) (M : Mm) (a k : Nat) (v : UInt32) (b : Nat) (h : b ≠ a) : ent Y (sF M a k v) b = ent Y M b := ent_row Y _ _ b (fun _ => rfl) (fun j => by rw [gF_sF, if_neg (fun q => h q.1)]) (fun _ => rfl) (fun _ => rfl)
theorem ent_sL (Y : Sys) (M : Mm) (a k : Nat) (v : Int64) (b : Nat) (h : b ≠ a) : ent Y (sL M a k v) b = ent Y M b := ent_row Y _ _ b (fun _ => rfl) (fun _ => rfl) (fun j => by rw [gL_sL, if_neg (fun q => h q.1)]) (fun _ => rfl)
theorem ent_sR (Y : Sys) (M : Mm) (a k : Nat) (v : Option Nat) (b : Nat) (h : b ≠ a) : ent Y (sR M a k v) b = ent Y M b := ent_row Y _ _ b (fun _ => rfl) (fun _ => rfl) (fun _ => rfl) (fun j => by rw [gR_sR, if_neg (fun q => h q.1)])
theorem fv_sI (ad : Nat → Nat) (M : Mm) (a k : Nat) (v : Int32) (j : Nat) (x : Nat × Nat) (h : j ≠ k) : fv ad (sI M a k v) a j x = fv ad M a j x := by
  simp only [fv, gI_sI, gF_sI, gL_sI, gR_sI, true_and, if_neg h]
theorem fv_sF (ad : Nat → Nat) (M : Mm) (a k : Nat) (v : UInt32) (j : Nat) (x : Nat × Nat) (h : j ≠ k) : fv ad (sF M a k v) a j x = fv ad M a j x := by
  simp only [fv, gI_sF, gF_sF, gL_sF, gR_sF, true_and, if_neg h]
theorem fv_sL (ad : Nat → Nat) (M : Mm) (a k : Nat) (v : Int64) (j : Nat) (x : Nat × Nat) (h : j ≠ k) : fv ad (sL M a k v) a j x = fv ad M a j x := by
  simp only [fv, gI_sL, gF_sL, gL_sL, gR_sL, true_and, if_neg h]
theorem fv_sR (ad : Nat → Nat) (M : Mm) (a k : Nat) (v : Option Nat) (j : Nat) (x : Nat × Nat) (h : j ≠ k) : fv ad (sR M a k v) a j x = fv ad M a j x := by
  simp only [fv, gI_sR, gF_sR, gL_sR, gR_sR, true_and, if_neg h]
theorem ok_putI (hE : CxOk E cc own sf ret rm nL) {a k idx ci n x : Nat} {fs : List (Nat × Nat)} {v : Int32} {f' : Mm → Option ρ} (f : FldOk own idx ci k .int false) (hsh : sf a = (0, ci, n, fs)) (hq : fs[k]? = some (0, x)) (hd : decode cc pc = .ok (.putfield idx, 3)) (kk : ∀ M1, Ok E (pc + 3) lv st M1 (f' M1) K) : Ok E pc lv (.int v :: .ref (E.Y.ad a) :: st) M (lett (sI M a k v) f') K :=
  ok_put hE f hsh hq rfl rfl (by simp [fv, gI_sI]) (fun j x hj => fv_sI _ _ _ _ _ _ _ hj) (fun b hb => ent_sI _ _ _ _ _ _ hb) hd (kk (sI M a k v))
theorem ok_putZ (hE : CxOk E cc own sf ret rm nL) {a k idx ci n x : Nat} {fs : List (Nat × Nat)} {v : Int32} {f' : Mm → Option ρ} (hz : v = 0 ∨ v = 1) (f : FldOk own idx ci k .boolean false) (hsh : sf a = (0, ci, n, fs)) (hq : fs[k]? = some (0, x)) (hd : decode cc pc = .ok (.putfield idx, 3)) (kk : ∀ M1, Ok E (pc + 3) lv st M1 (f' M1) K) : Ok E pc lv (.int v :: .ref (E.Y.ad a) :: st) M (lett (sI M a k v) f') K :=
  ok_put hE f hsh hq (by rcases hz with rfl | rfl <;> rfl) (by rcases hz with rfl | rfl <;> rfl) (by simp [fv, gI_sI]) (fun j x hj => fv_sI _ _ _ _ _ _ _ hj) (fun b hb => ent_sI _ _ _ _ _ _ hb) hd (kk (sI M a k v))
theorem ok_putZG (hE : CxOk E cc own sf ret rm nL) {a k idx ci n x : Nat} {fs : List (Nat × Nat)} {v : Int32} {f' : Mm → Option ρ} (f : FldOk own idx ci k .boolean false) (hsh : sf a = (0, ci, n, fs)) (hq : fs[k]? = some (0, x)) (hd : decode cc pc = .ok (.putfield idx, 3)) (kk : ∀ M1, Ok E (pc + 3) lv st M1 (f' M1) K) : Ok E pc lv (.int v :: .ref (E.Y.ad a) :: st) M (grd (v = 0 ∨ v = 1) (lett (sI M a k v) f')) K := ok_grd (fun hz => ok_putZ hE hz f hsh hq hd kk)
theorem ok_putF (hE : CxOk E cc own sf ret rm nL) {a k idx ci n x : Nat} {fs : List (Nat × Nat)} {v : UInt32} {f' : Mm → Option ρ} (f : FldOk own idx ci k .float false) (hsh : sf a = (0, ci, n, fs)) (hq : fs[k]? = some (1, x)) (hd : decode cc pc = .ok (.putfield idx, 3)) (kk : ∀ M1, Ok E (pc + 3) lv st M1 (f' M1) K) : Ok E pc lv (.float v :: .ref (E.Y.ad a) :: st) M (lett (sF M a k v) f') K :=
  ok_put hE f hsh hq rfl rfl (by simp [fv, gF_sF]) (fun j x hj => fv_sF _ _ _ _ _ _ _ hj) (fun b hb => ent_sF _ _ _ _ _ _ hb) hd (kk (sF M a k v))
theorem ok_putL (hE : CxOk E cc own sf ret rm nL) {a k idx ci n x : Nat} {fs : List (Nat × Nat)} {v : Int64} {f' : Mm → Option ρ} (f : FldOk own idx ci k .long false) (hsh : sf a = (0, ci, n, fs)) (hq : fs[k]? = some (2, x)) (hd : decode cc pc = .ok (.putfield idx, 3)) (kk : ∀ M1, Ok E (pc + 3) lv st M1 (f' M1) K) : Ok E pc lv (.long v :: .ref (E.Y.ad a) :: st) M (lett (sL M a k v) f') K :=
  ok_put hE f hsh hq rfl rfl (by simp [fv, gL_sL]) (fun j x hj => fv_sL _ _ _ _ _ _ _ hj) (fun b hb => ent_sL _ _ _ _ _ _ hb) hd (kk (sL M a k v))
theorem ok_putR (hE : CxOk E cc own sf ret rm nL) {a k idx ci n x b : Nat} {fs : List (Nat × Nat)} {C : String} {f' : Mm → Option ρ} (f : FldOk own idx ci k (.object C) false) (hsh : sf a = (0, ci, n, fs)) (hq : fs[k]? = some (3, x)) (hd : decode cc pc = .ok (.putfield idx, 3)) (kk : ∀ M1, Ok E (pc + 3) lv st M1 (f' M1) K) : Ok E pc lv (.ref (E.Y.ad b) :: .ref (E.Y.ad a) :: st) M (lett (sR M a k (some b)) f') K :=
  ok_put hE f hsh hq rfl rfl (by simp [fv, gR_sR, va_rf]) (fun j x hj => fv_sR _ _ _ _ _ _ _ hj) (fun b hb => ent_sR _ _ _ _ _ _ hb) hd (kk (sR M a k (some b)))
end MEMO
