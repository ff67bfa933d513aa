/-! ARRAYS, THE LIBRARY'S SMALL METHODS, CALLS -/
def CallV (own : String) (idx : Nat) (C : String) (y : MethodName) (bytes : ByteArray) (maxL : Nat) (ret : Option FieldType) (n : Nat) : Prop :=
  (Cond.methodLink own idx y ∈ lw_good ∨ ∃ host : String, Cond.methodLinkNest own idx y host ∈ lw_tbl) ∧ Cond.instanceMethod y ∈ lw_good ∧ Cond.selects C y y ∈ lw_good ∧ Cond.initialized y.cls ∈ lw_good ∧ Cond.code y bytes maxL ret ∈ lw_good ∧ y.cls ≠ "java/lang/invoke/MethodHandle" ∧ y.cls ≠ "java/lang/invoke/VarHandle" ∧ (parseMethodDescriptor y.desc).map (fun d => d.parameters.length) = some n
def CallS (own : String) (idx : Nat) (y : MethodName) (bytes : ByteArray) (maxL : Nat) (ret : Option FieldType) (n : Nat) : Prop :=
  (Cond.methodLink own idx y ∈ lw_good ∨ ∃ host : String, Cond.methodLinkNest own idx y host ∈ lw_tbl) ∧ Cond.static y ∈ lw_good ∧ Cond.initialized y.cls ∈ lw_good ∧ Cond.code y bytes maxL ret ∈ lw_good ∧ y.cls ≠ "java/lang/invoke/MethodHandle" ∧ y.cls ≠ "java/lang/invoke/VarHandle" ∧ (parseMethodDescriptor y.desc).map (fun d => d.parameters.length) = some n
theorem lw_S {q : MethodName × Nat} (i : Nat) (h : lw_privs[i]? = some q) (hg : goodWord (Cond.selects q.1.cls q.1 q.1) = true) : Cond.selects q.1.cls q.1 q.1 ∈ lw_good := lw_mg (List.mem_append_left _ (List.mem_map.mpr ⟨q, List.mem_of_getElem? h, rfl⟩)) hg
/-- a caller's memory goes on behind a call -/
def mcat (v : Option Value) (st : List Value) : List Value := match v with
  | none => st
  | some x => x :: st
section CALLS
variable {ρ : Type} {E : Cx} {cc : ByteArray} {own : String} {sf : Nat → Shp} {ret : Option FieldType} {rm : Room} {nL pc : Nat} {lv : List (Nat × Value)} {st st0 : List Value} {M : Mm} {o : Option ρ} {K : ρ → Prop}
theorem CxOk.ar1 (hE : CxOk E cc own sf ret rm nL) {a ti n : Nat} {fs : List (Nat × Nat)} (hsh : sf a = (1, ti, n, fs)) (M : Mm) : (wld E.Y E.t M)[a]? = some (E.Y.ad a, .inl (E.Y.c ti, n, .inl (gI M a))) := by
  rw [wld_get E.Y M (hE.lt hsh (by decide))]
  simp only [ent, hE.shp, hsh]
theorem CxOk.ar2 (hE : CxOk E cc own sf ret rm nL) {a ti n : Nat} {fs : List (Nat × Nat)} (hsh : sf a = (2, ti, n, fs)) (M : Mm) : (wld E.Y E.t M)[a]? = some (E.Y.ad a, .inl (E.Y.c ti, n, .inr (.inr (.inl (gF M a))))) := by
  rw [wld_get E.Y M (hE.lt hsh (by decide))]
  simp only [ent, hE.shp, hsh]
theorem CxOk.ar3 (hE : CxOk E cc own sf ret rm nL) {a ti n : Nat} {fs : List (Nat × Nat)} (hsh : sf a = (3, ti, n, fs)) (M : Mm) : (wld E.Y E.t M)[a]? = some (E.Y.ad a, .inl (E.Y.c ti, n, .inr (.inr (.inr (.inr (fun i => (gR M a i).map E.Y.ad)))))) := by
  rw [wld_get E.Y M (hE.lt hsh (by decide))]
  simp only [ent, hE.shp, hsh]
theorem CxOk.ar4 (hE : CxOk E cc own sf ret rm nL) {a ti n x y : Nat} (hsh : sf a = (4, ti, n, [(x, y)])) (M : Mm) : (wld E.Y E.t M)[a]? = some (E.Y.ad a, .inl (E.Y.c ti, n, .inr (.inr (.inr (.inr (fun i => some (E.Y.ad (a + x + y * i)))))))) := by
  rw [wld_get E.Y M (hE.lt hsh (by decide))]
  simp only [ent, hE.shp, hsh, List.headD_cons]
theorem gI_upd (M : Mm) (a k : Nat) (v : Int32) : gI (sI M a k v) a = upd (gI M a) k v := by
  funext j
  simp [gI_sI, upd]
theorem gF_upd (M : Mm) (a k : Nat) (v : UInt32) : gF (sF M a k v) a = vf_upd (gF M a) k v := by
  funext j
  simp [gF_sF, vf_upd]
theorem ok_iaload (hE : CxOk E cc own sf ret rm nL) {a n : Nat} {fs : List (Nat × Nat)} {i : Int32} (hsh : sf a = (1, 0, n, fs)) (hd : decode cc pc = .ok (.iaload, 1)) (k : Ok E (pc + 1) lv (.int (gI M a (ix i)) :: st) M o K) : Ok E pc lv (.int i :: .ref (E.Y.ad a) :: st) M (ald i n o) K :=
  ok_ald (fun hin => fun r hr hK ls H locs h1 h2 h3 => va_iald hE.1.1 hE.1.2.1 hE.2.2.1 h2 a 0 (hE.ar1 hsh M) rfl hin hd (k r hr hK ls H locs h1 h2 h3))
theorem ok_baload (hE : CxOk E cc own sf ret rm nL) {a n : Nat} {fs : List (Nat × Nat)} {i : Int32} (hsh : sf a = (1, 2, n, fs)) (hd : decode cc pc = .ok (.baload, 1)) (k : Ok E (pc + 1) lv (.int (gI M a (ix i)) :: st) M o K) : Ok E pc lv (.int i :: .ref (E.Y.ad a) :: st) M (ald i n o) K :=
  ok_ald (fun hin => fun r hr hK ls H locs h1 h2 h3 => va_zald hE.1.1 hE.1.2.1 hE.2.2.1 h2 a 2 (hE.ar1 hsh M) rfl hin hd (k r hr hK ls H locs h1 h2 h3))
theorem ok_faload (hE : CxOk E cc own sf ret rm nL) {a n : Nat} {fs : List (Nat × Nat)} {i : Int32} (hsh : sf a = (2, 1, n, fs)) (hd : decode cc pc = .ok (.faload, 1)) (k : Ok E (pc + 1) lv (.float (gF M a (ix i)) :: st) M o K) : Ok E pc lv (.int i :: .ref (E.Y.ad a) :: st) M (ald i n o) K :=
  ok_ald (fun hin => fun r hr hK ls H locs h1 h2 h3 => va_fald hE.1.1 hE.1.2.1 hE.2.2.1 h2 a 1 (hE.ar2 hsh M) rfl hin hd (k r hr hK ls H locs h1 h2 h3))
theorem ok_aaloadC (hE : CxOk E cc own sf ret rm nL) {C : String} {a ti n x y : Nat} {i : Int32} (hsh : sf a = (4, ti, n, [(x, y)])) (hti : (tys7 E.Y.c)[ti]? = some (E.Y.c ti, .object C)) (hd : decode cc pc = .ok (.aaload, 1)) (k : Ok E (pc + 1) lv (.ref (E.Y.ad (a + x + y * ix i)) :: st) M o K) : Ok E pc lv (.int i :: .ref (E.Y.ad a) :: st) M (ald i n o) K :=
  ok_ald (fun hin => fun r hr hK ls H locs h1 h2 h3 => va_aldq hE.1.1 hE.1.2.1 hE.2.2.1 h2 a ti (hE.ar4 hsh M) hti hin hd (k r hr hK ls H locs h1 h2 h3))
theorem ok_aaloadR (hE : CxOk E cc own sf ret rm nL) {C : String} {a ti n : Nat} {fs : List (Nat × Nat)} {i : Int32} (hsh : sf a = (3, ti, n, fs)) (hti : (tys7 E.Y.c)[ti]? = some (E.Y.c ti, .object C)) (hd : decode cc pc = .ok (.aaload, 1)) (k : Ok E (pc + 1) lv (va_rf ((gR M a (ix i)).map E.Y.ad) :: st) M o K) : Ok E pc lv (.int i :: .ref (E.Y.ad a) :: st) M (ald i n o) K :=
  ok_ald (fun hin => fun r hr hK ls H locs h1 h2 h3 => va_aldq hE.1.1 hE.1.2.1 hE.2.2.1 h2 a ti (hE.ar3 hsh M) hti hin hd (k r hr hK ls H locs h1 h2 h3))
theorem ok_iastore (hE : CxOk E cc own sf ret rm nL) {a n : Nat} {fs : List (Nat × Nat)} {i x : Int32} {f : Mm → Option ρ} (hsh : sf a = (1, 0, n, fs)) (hd : decode cc pc = .ok (.iastore, 1)) (k : ∀ M1, Ok E (pc + 1) lv st M1 (f M1) K) : Ok E pc lv (.int x :: .int i :: .ref (E.Y.ad a) :: st) M (ald i n (lett (sI M a (ix i) x) f)) K := by
  refine ok_ald (fun hin => fun r hr hK ls H locs h1 h2 h3 => ?_)
  refine va_iast hE.1.1 hE.1.2.1 hE.2.2.1 h2 (hE.d M) h3 a 0 (hE.ar1 hsh M) rfl hin hd (fun H1 locs1 hP hD hS => ?_)
  rw [wld_set E.Y M (sI M a (ix i) x) (by simp only [ent, hE.shp, hsh]; rw [gI_upd]; rfl) (fun b hb => ent_sI _ _ _ _ _ _ hb)] at hP
  exact k (sI M a (ix i) x) r hr hK ls H1 locs1 h1 hP hS
theorem ok_bastoreG (hE : CxOk E cc own sf ret rm nL) {a n : Nat} {fs : List (Nat × Nat)} {i x : Int32} {f : Mm → Option ρ} (hsh : sf a = (1, 2, n, fs)) (hd : decode cc pc = .ok (.bastore, 1)) (k : ∀ M1, Ok E (pc + 1) lv st M1 (f M1) K) : Ok E pc lv (.int x :: .int i :: .ref (E.Y.ad a) :: st) M (grd (x = 0 ∨ x = 1) (ald i n (lett (sI M a (ix i) x) f))) K := by
  refine ok_grd (fun hz => ok_ald (fun hin => fun r hr hK ls H locs h1 h2 h3 => ?_))
  have hnar : vp_nar .boolean x = x := by rcases hz with rfl | rfl <;> rfl
  refine va_zast hE.1.1 hE.1.2.1 hE.2.2.1 h2 (hE.d M) h3 a 2 (hE.ar1 hsh M) rfl hin hd (fun H1 locs1 hP hD hS => ?_)
  rw [hnar, wld_set E.Y M (sI M a (ix i) x) (by simp only [ent, hE.shp, hsh]; rw [gI_upd]; rfl) (fun b hb => ent_sI _ _ _ _ _ _ hb)] at hP
  exact k (sI M a (ix i) x) r hr hK ls H1 locs1 h1 hP hS
theorem ok_fastore (hE : CxOk E cc own sf ret rm nL) {a n : Nat} {fs : List (Nat × Nat)} {i : Int32} {x : UInt32} {f : Mm → Option ρ} (hsh : sf a = (2, 1, n, fs)) (hd : decode cc pc = .ok (.fastore, 1)) (k : ∀ M1, Ok E (pc + 1) lv st M1 (f M1) K) : Ok E pc lv (.float x :: .int i :: .ref (E.Y.ad a) :: st) M (ald i n (lett (sF M a (ix i) x) f)) K := by
  refine ok_ald (fun hin => fun r hr hK ls H locs h1 h2 h3 => ?_)
  refine va_fast hE.1.1 hE.1.2.1 hE.2.2.1 h2 (hE.d M) h3 a 1 (hE.ar2 hsh M) rfl hin hd (fun H1 locs1 hP hD hS => ?_)
  rw [wld_set E.Y M (sF M a (ix i) x) (by simp only [ent, hE.shp, hsh]; rw [gF_upd]; rfl) (fun b hb => ent_sF _ _ _ _ _ _ hb)] at hP
  exact k (sF M a (ix i) x) r hr hK ls H1 locs1 h1 hP hS
theorem ok_alen (hE : CxOk E cc own sf ret rm nL) {a n : Nat} {fs : List (Nat × Nat)} (v : Int32) (hv : Int32.ofNat n = v) (hsh : sf a = (1, 0, n, fs)) (hd : decode cc pc = .ok (.arraylength, 1)) (k : Ok E (pc + 1) lv (.int v :: st) M o K) : Ok E pc lv (.ref (E.Y.ad a) :: st) M o K :=
  fun r hr hK ls H locs h1 h2 h3 => va_alen hE.1.1 hE.1.2.1 hE.2.2.1 h2 a 0 (ty := .int) (hE.ar1 hsh M) rfl hv hd (k r hr hK ls H locs h1 h2 h3)
def mmaxI (x y : Int32) : Int32 := if x < y then y else x
def mminI (x y : Int32) : Int32 := if y < x then y else x
def mabsI (x : Int32) : Int32 := if 0 ≤ x then x else 0 - x
theorem ok_mmax (hE : CxOk E cc own sf ret rm nL) {idx : Nat} {x y : Int32} (hw : Cond.methodLink own idx Lib.Math.max.name ∈ lw_good ∧ Cond.static Lib.Math.max.name ∈ lw_good ∧ Cond.initialized "java/lang/Math" ∈ lw_good ∧ Cond.code Lib.Math.max.name Lib.Math.max.code 2 (some .int) ∈ lw_good) (hR : Nat.ble 1 rm.frames = true ∧ Nat.ble ((st.map fun v => v.category).sum + 13) rm.locals = true) (hd : decode cc pc = .ok (.invokestatic idx, 3)) (k : Ok E (pc + 3) lv (.int (mmaxI x y) :: st) M o K) : Ok E pc lv (.int y :: .int x :: st) M o K :=
  fun r hr hK ls H locs h1 h2 h3 => va_mmax hE.1.1 hE.1.2.1 (by rw [hE.1.2.2.1, h1.1]) hE.1.2.2.2.1 (hE.2.1 _ hw.1) (hE.2.1 _ hw.2.1) (hE.2.1 _ hw.2.2.1) (hE.2.1 _ hw.2.2.2) (by rw [hE.1.2.2.2.2.2.2]; exact Nat.le_of_ble_eq_true hR.1) (by rw [hE.1.2.2.2.2.2.2]; exact Nat.le_of_ble_eq_true hR.2) (Nat.zero_le _) (Nat.zero_le _) hd (k r hr hK ls H locs h1 h2 h3)
theorem ok_mmin (hE : CxOk E cc own sf ret rm nL) {idx : Nat} {x y : Int32} (hw : Cond.methodLink own idx Lib.Math.min.name ∈ lw_good ∧ Cond.static Lib.Math.min.name ∈ lw_good ∧ Cond.initialized "java/lang/Math" ∈ lw_good ∧ Cond.code Lib.Math.min.name Lib.Math.min.code 2 (some .int) ∈ lw_good) (hR : Nat.ble 1 rm.frames = true ∧ Nat.ble ((st.map fun v => v.category).sum + 13) rm.locals = true) (hd : decode cc pc = .ok (.invokestatic idx, 3)) (k : Ok E (pc + 3) lv (.int (mminI x y) :: st) M o K) : Ok E pc lv (.int y :: .int x :: st) M o K :=
  fun r hr hK ls H locs h1 h2 h3 => va_mmin hE.1.1 hE.1.2.1 (by rw [hE.1.2.2.1, h1.1]) hE.1.2.2.2.1 (hE.2.1 _ hw.1) (hE.2.1 _ hw.2.1) (hE.2.1 _ hw.2.2.1) (hE.2.1 _ hw.2.2.2) (by rw [hE.1.2.2.2.2.2.2]; exact Nat.le_of_ble_eq_true hR.1) (by rw [hE.1.2.2.2.2.2.2]; exact Nat.le_of_ble_eq_true hR.2) (Nat.zero_le _) (Nat.zero_le _) hd (k r hr hK ls H locs h1 h2 h3)
theorem ok_mabs (hE : CxOk E cc own sf ret rm nL) {idx : Nat} {x : Int32} (hw : Cond.methodLink own idx Lib.Math.abs.name ∈ lw_good ∧ Cond.static Lib.Math.abs.name ∈ lw_good ∧ Cond.initialized "java/lang/Math" ∈ lw_good ∧ Cond.code Lib.Math.abs.name Lib.Math.abs.code 1 (some .int) ∈ lw_good) (hR : Nat.ble 1 rm.frames = true ∧ Nat.ble ((st.map fun v => v.category).sum + 13) rm.locals = true) (hd : decode cc pc = .ok (.invokestatic idx, 3)) (k : Ok E (pc + 3) lv (.int (mabsI x) :: st) M o K) : Ok E pc lv (.int x :: st) M o K :=
  fun r hr hK ls H locs h1 h2 h3 => va_mabs hE.1.1 hE.1.2.1 (by rw [hE.1.2.2.1, h1.1]) hE.1.2.2.2.1 (hE.2.1 _ hw.1) (hE.2.1 _ hw.2.1) (hE.2.1 _ hw.2.2.1) (hE.2.1 _ hw.2.2.2) (by rw [hE.1.2.2.2.2.2.2]; exact Nat.le_of_ble_eq_true hR.1) (by rw [hE.1.2.2.2.2.2.2]; exact Nat.le_of_ble_eq_true hR.2) (Nat.zero_le _) (Nat.zero_le _) hd (k r hr hK ls H locs h1 h2 h3)
/-- System.arraycopy of ints: all is tested before -/
def acp {ρ : Type} (sp dp n : Int32) (n0 n1 : Nat) (o : Option ρ) : Option ρ := if 0 ≤ sp.toInt ∧ 0 ≤ dp.toInt ∧ 0 ≤ n.toInt ∧ sp.toInt + n.toInt ≤ (n0 : Int) ∧ dp.toInt + n.toInt ≤ (n1 : Int) then o else none
theorem nneg_of {x : Int32} (h : 0 ≤ x.toInt) : ¬ x < 0 := by
  rw [Int32.lt_iff_toInt_lt, Int32.toInt_zero]; omega
theorem gI_cp (M : Mm) (a sp b dp n : Nat) : gI (cpI M a sp b dp n) b = va_cpy (gI M a) (gI M b) sp dp n := by
  funext k
  show (if b = b then va_cpy (M.1 a) (M.1 b) sp dp n k else M.1 b k) = _
  rw [if_pos rfl]; rfl
theorem ent_cp (Y : Sys) (M : Mm) (a sp b dp n x : Nat) (h : x ≠ b) : ent Y (cpI M a sp b dp n) x = ent Y M x := ent_row Y _ _ x (fun k => by simp [cpI, gI, h]) (fun _ => rfl) (fun _ => rfl) (fun _ => rfl)
theorem ok_acopy (hE : CxOk E cc own sf ret rm nL) {idx a b n0 n1 : Nat} {fs gs : List (Nat × Nat)} {sp dp n : Int32} {f : Mm → Option ρ} (hw : Cond.methodLink own idx arraycopyName ∈ lw_good ∧ Cond.native arraycopyName ∈ lw_good ∧ Cond.static arraycopyName ∈ lw_good ∧ Cond.initialized "java/lang/System" ∈ lw_good) (hs0 : sf a = (1, 0, n0, fs)) (hs1 : sf b = (1, 0, n1, gs)) (hR : Nat.ble 1 rm.frames = true ∧ Nat.ble ((st.map fun v => v.category).sum + (nativeFrameWords "java/lang/System" "arraycopy" 5 + 11)) rm.locals = true) (hd : decode cc pc = .ok (.invokestatic idx, 3)) (k : ∀ M1, Ok E (pc + 3) lv st M1 (f M1) K) : Ok E pc lv (.int n :: .int dp :: .ref (E.Y.ad b) :: .int sp :: .ref (E.Y.ad a) :: st) M (acp sp dp n n0 n1 (lett (cpI M a (ix sp) b (ix dp) (ix n)) f)) K := by
  intro r hr hK ls H locs h1 h2 h3
  unfold acp at hr
  by_cases hc : 0 ≤ sp.toInt ∧ 0 ≤ dp.toInt ∧ 0 ≤ n.toInt ∧ sp.toInt + n.toInt ≤ (n0 : Int) ∧ dp.toInt + n.toInt ≤ (n1 : Int)
  · rw [if_pos hc] at hr
    obtain ⟨c1, c2, c3, c4, c5⟩ := hc
    refine va_copyi hE.1.1 hE.1.2.1 (by rw [hE.1.2.2.1, h1.1]) hE.1.2.2.2.1 (hE.2.1 _ hw.1) (hE.2.1 _ hw.2.1) (hE.2.1 _ hw.2.2.1) (hE.2.1 _ hw.2.2.2) hE.2.2.1 h2 (hE.d M) h3 a b 0 0 (hE.ar1 hs0 M) (hE.ar1 hs1 M) rfl rfl rfl (nneg_of c1) (nneg_of c2) (nneg_of c3) (by show sp.toInt.toNat + n.toInt.toNat ≤ n0; omega) (by show dp.toInt.toNat + n.toInt.toNat ≤ n1; omega) (fun _ _ => rfl) (by rw [hE.1.2.2.2.2.2.2]; exact Nat.le_of_ble_eq_true hR.1) (by rw [hE.1.2.2.2.2.2.2]; exact Nat.le_of_ble_eq_true hR.2) hd (fun H1 locs1 hP hD hS => ?_)
    rw [wld_set E.Y M (cpI M a (ix sp) b (ix dp) (ix n)) (by simp only [ent, hE.shp, hs1]; rw [gI_cp]; rfl) (fun x hx => ent_cp _ _ _ _ _ _ _ _ hx)] at hP
    exact k _ r hr hK ls H1 locs1 h1 hP hS
  · rw [if_neg hc] at hr; cases hr
theorem W_run {p : Program} {l : Launch} {e : Env} {R : Room} {s : State} {m : MethodId} {args : Array Value} {below : List Frame} {meth : Method} {c : Code} {H : Heap} {locs : List Loc} {Q : State → Prop} {Y : Sys} {t : Nat} {r : Option Value × Mm} {ls : Array Slot} {rest : List Value} {av : Array Value} (hr : va_Run p l e R s m args below meth c H locs 0 0 0 0 (F0 m pc ls st0) rest (Qp Y t r av) Y.A) (hS : va_S Y.A s.heap H locs)
    (kk : ∀ (H1 : Heap) (locs1 : List Loc), va_P Y.D vwCl (wld Y t r.2) H1 → va_S Y.A s.heap H1 locs1 → W p l e R s m args below meth c H1 locs1 0 0 Q (F0 m (pc + 3) ls (r.1.toList ++ rest))) : W p l e R s m args below meth c H locs 0 0 Q (F0 m pc ls st0) := by
  intro T hT X
  obtain ⟨v, st₀, u, T', L, h0, X', hL, e1, e2, ⟨hv, hP, hz, hk⟩, stp⟩ := hr T hT X
  cases hv
  rw [h0] at hz hk
  rw [← e1] at hP
  obtain ⟨t2, a1, b1⟩ := kk T'.heap (locs ++ L) hP ⟨Nat.le_trans hS.1 (by rw [e1]; exact hz), fun q h1 h2 => by rw [e1, hk q (Nat.lt_of_lt_of_le h1 hS.1) h2]; exact hS.2.1 q h1 h2, fun q hq => by
      rcases List.mem_append.mp hq with h | h
      · exact hS.2.2 q h
      · exact hL q h⟩ T' rfl X'
  exact ⟨t2, stp t2 a1, b1⟩
theorem pre_blind {Y : Sys} {t : Nat} {As : List Value} : FrameBlind (va_Pc As (Pre Y t M)) := by
  intro a U g mk ⟨q0, qP, qK, qX⟩
  exact ⟨q0, qP, va_K.moved (u := U) (U := U.calling g mk a) (Vm.Alike.refl U.vm) qK, qX.go (U := U.calling g mk a) (State.WarmedH.refl U) (Nat.le_refl _) (fun _ _ _ => rfl)⟩
theorem pre_at (hE : CxOk E cc own sf ret rm nL) {H : Heap} {locs : List Loc} (h2 : va_P E.Y.D vwCl (wld E.Y E.t M) H) (h3 : va_S E.Y.A E.s.heap H locs) (As : List Value) : ∀ U : State, U.heap = H → E.s.WarmedH U.vm → va_Pc As (Pre E.Y E.t M) As.toArray U := by
  intro U hU hW
  refine ⟨rfl, by rw [hU]; exact h2, va_K.moved hW.alike hE.2.2.1, hE.2.2.2.2.1.go hW (by rw [hU]; exact h3.1) (fun q h1 h2 => by rw [hU]; exact h3.2.1 q h1 h2)⟩
theorem ok_callV (hE : CxOk E cc own sf ret rm nL) {α : Type} (enc : α → Option Value × Mm) {fo : Option α} {f : α → Option ρ} {a idx ci n maxL z N : Nat} {fs : List (Nat × Nat)} {As rest : List Value} {y : MethodName} {bytes : ByteArray} {retc : Option FieldType} {rmc : Room} {C : String} {T : u_T} (hst : st0 = As.reverse ++ .ref (E.Y.ad a) :: rest) (cv : CallV own idx C y bytes maxL retc n) (hsh : sf a = (0, ci, z, fs)) (hci : vwCl[ci]? = some (C, T, N)) (hM : ∀ x, fo = some x → Cm E.l E.Y E.t y (WS y bytes maxL retc) rmc (.ref (E.Y.ad a) :: As) M (enc x))
    (hR : rmc.cells = 0 ∧ rmc.slots = 0 ∧ Nat.ble (rmc.frames + 1) rm.frames = true ∧ Nat.ble (8 + (maxL + 11) + rmc.locals) rm.locals = true) (hn : As.length = n) (hW : Nat.ble ((rest.map fun v => v.category).sum) 8 = true) (hd : decode cc pc = .ok (.invokevirtual idx, 3)) (kk : ∀ x, Ok E (pc + 3) lv ((enc x).1.toList ++ rest) (enc x).2 (f x) K) : Ok E pc lv st0 M (bnd fo f) K := by
  intro r hr hK ls H locs h1 h2 h3
  cases hfo : fo with
  | none => rw [hfo] at hr; cases hr
  | some x =>
    rw [hfo] at hr
    obtain ⟨hl, hin, hse, hini, hco, hy1, hy2, hlen⟩ := cv
    have hrm := hE.1.2.2.2.2.2.2
    have hrec := va_recv hE.2.2.1 h2 hci (hE.obj hsh M)
    have hp : PreV E.s H C (E.Y.ad a) (va_Pc (.ref (E.Y.ad a) :: As) (Pre E.Y E.t M)) As := ⟨pre_blind, hrec, pre_at hE h2 h3 _⟩
    have hroom : rmc.frames + 1 ≤ E.R.frames ∧ 8 + (maxL + 11) + rmc.locals ≤ E.R.locals := by rw [hrm]; exact ⟨Nat.le_of_ble_eq_true hR.2.2.1, Nat.le_of_ble_eq_true hR.2.2.2⟩
    have hfix : CallFix E.p E.m E.c cc E.nL E.s E.args lw_good own := ⟨hE.1.1, hE.1.2.1, hE.1.2.2.1, hE.1.2.2.2.1, hE.2.1⟩
    rcases hl with hl | ⟨host, hl⟩
    · exact W_run (Y := E.Y) (t := E.t) (r := enc x) (va_runV hfix (hM x hfo) ⟨callB_of n hE.2.1 (WS_good hco) rfl hR.1 hR.2.1 (hE.2.1 _ hini) (hE.2.1 _ hl) ⟨hy1, hy2, hlen⟩ hroom, hE.2.1 _ hin, hE.2.1 _ hse⟩ hp rfl hn h1.1 hst (lv_room (Nat.le_of_ble_eq_true hW)) hd ⟨Nat.zero_le _, Nat.zero_le _⟩) h3 (fun H1 locs1 hP hS => kk x r hr hK ls H1 locs1 h1 hP hS)
    · exact W_run (Y := E.Y) (t := E.t) (r := enc x) (va_runVN hfix (hM x hfo) ⟨va_cnB n hE.2.1 (WS_good hco) rfl hR.1 hR.2.1 (hE.2.2.2.2.1.nestM hl) (hE.2.1 _ hini) ⟨hy1, hy2, hlen⟩ hroom, hE.2.1 _ hin, hE.2.1 _ hse⟩ hp rfl hn h1.1 hst (lv_room (Nat.le_of_ble_eq_true hW)) hd ⟨Nat.zero_le _, Nat.zero_le _⟩) h3 (fun H1 locs1 hP hS => kk x r hr hK ls H1 locs1 h1 hP hS)
theorem ok_callS (hE : CxOk E cc own sf ret rm nL) {α : Type} (enc : α → Option Value × Mm) {fo : Option α} {f : α → Option ρ} {idx n maxL : Nat} {As rest : List Value} {y : MethodName} {bytes : ByteArray} {retc : Option FieldType} {rmc : Room} (hst : st0 = As.reverse ++ rest) (cv : CallS own idx y bytes maxL retc n) (hM : ∀ x, fo = some x → Cm E.l E.Y E.t y (WS y bytes maxL retc) rmc As M (enc x))
    (hR : rmc.cells = 0 ∧ rmc.slots = 0 ∧ Nat.ble (rmc.frames + 1) rm.frames = true ∧ Nat.ble (8 + (maxL + 11) + rmc.locals) rm.locals = true) (hn : As.length = n) (hW : Nat.ble ((rest.map fun v => v.category).sum) 8 = true) (hd : decode cc pc = .ok (.invokestatic idx, 3)) (kk : ∀ x, Ok E (pc + 3) lv ((enc x).1.toList ++ rest) (enc x).2 (f x) K) : Ok E pc lv st0 M (bnd fo f) K := by
  intro r hr hK ls H locs h1 h2 h3
  cases hfo : fo with
  | none => rw [hfo] at hr; cases hr
  | some x =>
    rw [hfo] at hr
    obtain ⟨hl, hsta, hini, hco, hy1, hy2, hlen⟩ := cv
    have hrm := hE.1.2.2.2.2.2.2
    have hp : PreS E.s H (va_Pc As (Pre E.Y E.t M)) As := ⟨pre_blind, pre_at hE h2 h3 _⟩
    have hroom : rmc.frames + 1 ≤ E.R.frames ∧ 8 + (maxL + 11) + rmc.locals ≤ E.R.locals := by rw [hrm]; exact ⟨Nat.le_of_ble_eq_true hR.2.2.1, Nat.le_of_ble_eq_true hR.2.2.2⟩
    have hfix : CallFix E.p E.m E.c cc E.nL E.s E.args lw_good own := ⟨hE.1.1, hE.1.2.1, hE.1.2.2.1, hE.1.2.2.2.1, hE.2.1⟩
    rcases hl with hl | ⟨host, hl⟩
    · exact W_run (Y := E.Y) (t := E.t) (r := enc x) (va_runS hfix (hM x hfo) ⟨callB_of n hE.2.1 (WS_good hco) rfl hR.1 hR.2.1 (hE.2.1 _ hini) (hE.2.1 _ hl) ⟨hy1, hy2, hlen⟩ hroom, hE.2.1 _ hsta⟩ hp rfl hn h1.1 hst (lv_room (Nat.le_of_ble_eq_true hW)) hd ⟨Nat.zero_le _, Nat.zero_le _⟩) h3 (fun H1 locs1 hP hS => kk x r hr hK ls H1 locs1 h1 hP hS)
    · exact W_run (Y := E.Y) (t := E.t) (r := enc x) (va_runSN hfix (hM x hfo) ⟨va_cnB n hE.2.1 (WS_good hco) rfl hR.1 hR.2.1 (hE.2.2.2.2.1.nestM hl) (hE.2.1 _ hini) ⟨hy1, hy2, hlen⟩ hroom, hE.2.1 _ hsta, trivial⟩ hp rfl hn h1.1 hst (lv_room (Nat.le_of_ble_eq_true hW)) hd ⟨Nat.zero_le _, Nat.zero_le _⟩) h3 (fun H1 locs1 hP hS => kk x r hr hK ls H1 locs1 h1 hP hS)
end CALLS
def enI (x : Int32 × Mm) : Option Value × Mm := (some (.int x.1), x.2)
def enF (x : UInt32 × Mm) : Option Value × Mm := (some (.float x.1), x.2)
def enL (x : Int64 × Mm) : Option Value × Mm := (some (.long x.1), x.2)
def enV (x : Mm) : Option Value × Mm := (none, x)
def enA (ad : Nat → Nat) (x : Nat × Mm) : Option Value × Mm := (some (.ref (ad x.1)), x.2)
def enN (ad : Nat → Nat) (x : Option Nat × Mm) : Option Value × Mm := (some (va_rf (x.1.map ad)), x.2)
section WRAP
variable {ρ : Type} {E : Cx} {cc : ByteArray} {own : String} {sf : Nat → Shp} {ret : Option FieldType} {rm : Room} {nL pc : Nat} {lv : List (Nat × Value)} {st st0 : List Value} {M : Mm} {o : Option ρ} {K : ρ → Prop}
variable {a idx ci n maxL z N : Nat} {fs : List (Nat × Nat)} {y : MethodName} {bytes : ByteArray} {retc : Option FieldType} {C : String} {T : u_T}
theorem ok_cvI (hE : CxOk E cc own sf ret rm nL) {fo : Option (Int32 × Mm)} {f : Int32 × Mm → Option ρ} (rmc : Room) (As rest : List Value) (hst : st0 = As.reverse ++ .ref (E.Y.ad a) :: rest) (cv : CallV own idx C y bytes maxL retc n) (hsh : sf a = (0, ci, z, fs)) (hci : vwCl[ci]? = some (C, T, N)) (hM : ∀ x, fo = some x → Cm E.l E.Y E.t y (WS y bytes maxL retc) rmc (.ref (E.Y.ad a) :: As) M (enI x)) (hR : rmc.cells = 0 ∧ rmc.slots = 0 ∧ Nat.ble (rmc.frames + 1) rm.frames = true ∧ Nat.ble (8 + (maxL + 11) + rmc.locals) rm.locals = true) (hn : As.length = n) (hW : Nat.ble ((rest.map fun v => v.category).sum) 8 = true) (hd : decode cc pc = .ok (.invokevirtual idx, 3)) (kk : ∀ x : Int32 × Mm, Ok E (pc + 3) lv (.int x.1 :: rest) x.2 (f x) K) : Ok E pc lv st0 M (bnd fo f) K := ok_callV hE enI hst cv hsh hci hM hR hn hW hd kk
theorem ok_csI (hE : CxOk E cc own sf ret rm nL) {fo : Option (Int32 × Mm)} {f : Int32 × Mm → Option ρ} (rmc : Room) (As rest : List Value) (hst : st0 = As.reverse ++ rest) (cv : CallS own idx y bytes maxL retc n) (hM : ∀ x, fo = some x → Cm E.l E.Y E.t y (WS y bytes maxL retc) rmc As M (enI x)) (hR : rmc.cells = 0 ∧ rmc.slots = 0 ∧ Nat.ble (rmc.frames + 1) rm.frames = true ∧ Nat.ble (8 + (maxL + 11) + rmc.locals) rm.locals = true) (hn : As.length = n) (hW : Nat.ble ((rest.map fun v => v.category).sum) 8 = true) (hd : decode cc pc = .ok (.invokestatic idx, 3)) (kk : ∀ x : Int32 × Mm, Ok E (pc + 3) lv (.int x.1 :: rest) x.2 (f x) K) : Ok E pc lv st0 M (bnd fo f) K := ok_callS hE enI hst cv hM hR hn hW hd kk
theorem ok_cvF (hE : CxOk E cc own sf ret rm nL) {fo : Option (UInt32 × Mm)} {f : UInt32 × Mm → Option ρ} (rmc : Room) (As rest : List Value) (hst : st0 = As.reverse ++ .ref (E.Y.ad a) :: rest) (cv : CallV own idx C y bytes maxL retc n) (hsh : sf a = (0, ci, z, fs)) (hci : vwCl[ci]? = some (C, T, N)) (hM : ∀ x, fo = some x → Cm E.l E.Y E.t y (WS y bytes maxL retc) rmc (.ref (E.Y.ad a) :: As) M (enF x)) (hR : rmc.cells = 0 ∧ rmc.slots = 0 ∧ Nat.ble (rmc.frames + 1) rm.frames = true ∧ Nat.ble (8 + (maxL + 11) + rmc.locals) rm.locals = true) (hn : As.length = n) (hW : Nat.ble ((rest.map fun v => v.category).sum) 8 = true) (hd : decode cc pc = .ok (.invokevirtual idx, 3)) (kk : ∀ x : UInt32 × Mm, Ok E (pc + 3) lv (.float x.1 :: rest) x.2 (f x) K) : Ok E pc lv st0 M (bnd fo f) K := ok_callV hE enF hst cv hsh hci hM hR hn hW hd kk
theorem ok_csF (hE : CxOk E cc own sf ret rm nL) {fo : Option (UInt32 × Mm)} {f : UInt32 × Mm → Option ρ} (rmc : Room) (As rest : List Value) (hst : st0 = As.reverse ++ rest) (cv : CallS own idx y bytes maxL retc n) (hM : ∀ x, fo = some x → Cm E.l E.Y E.t y (WS y bytes maxL retc) rmc As M (enF x)) (hR : rmc.cells = 0 ∧ rmc.slots = 0 ∧ Nat.ble (rmc.frames + 1) rm.frames = true ∧ Nat.ble (8 + (maxL + 11) + rmc.locals) rm.locals = true) (hn : As.length = n) (hW : Nat.ble ((rest.map fun v => v.category).sum) 8 = true) (hd : decode cc pc = .ok (.invokestatic idx, 3)) (kk : ∀ x : UInt32 × Mm, Ok E (pc + 3) lv (.float x.1 :: rest) x.2 (f x) K) : Ok E pc lv st0 M (bnd fo f) K := ok_callS hE enF hst cv hM hR hn hW hd kk
theorem ok_cvL (hE : CxOk E cc own sf ret rm nL) {fo : Option (Int64 × Mm)} {f : Int64 × Mm → Option ρ} (rmc : Room) (As rest : List Value) (hst : st0 = As.reverse ++ .ref (E.Y.ad a) :: rest) (cv : CallV own idx C y bytes maxL retc n) (hsh : sf a = (0, ci, z, fs)) (hci : vwCl[ci]? = some (C, T, N)) (hM : ∀ x, fo = some x → Cm E.l E.Y E.t y (WS y bytes maxL retc) rmc (.ref (E.Y.ad a) :: As) M (enL x)) (hR : rmc.cells = 0 ∧ rmc.slots = 0 ∧ Nat.ble (rmc.frames + 1) rm.frames = true ∧ Nat.ble (8 + (maxL + 11) + rmc.locals) rm.locals = true) (hn : As.length = n) (hW : Nat.ble ((rest.map fun v => v.category).sum) 8 = true) (hd : decode cc pc = .ok (.invokevirtual idx, 3)) (kk : ∀ x : Int64 × Mm, Ok E (pc + 3) lv (.long x.1 :: rest) x.2 (f x) K) : Ok E pc lv st0 M (bnd fo f) K := ok_callV hE enL hst cv hsh hci hM hR hn hW hd kk
theorem ok_csL (hE : CxOk E cc own sf ret rm nL) {fo : Option (Int64 × Mm)} {f : Int64 × Mm → Option ρ} (rmc : Room) (As rest : List Value) (hst : st0 = As.reverse ++ rest) (cv : CallS own idx y bytes maxL retc n) (hM : ∀ x, fo = some x → Cm E.l E.Y E.t y (WS y bytes maxL retc) rmc As M (enL x)) (hR : rmc.cells = 0 ∧ rmc.slots = 0 ∧ Nat.ble (rmc.frames + 1) rm.frames = true ∧ Nat.ble (8 + (maxL + 11) + rmc.locals) rm.locals = true) (hn : As.length = n) (hW : Nat.ble ((rest.map fun v => v.category).sum) 8 = true) (hd : decode cc pc = .ok (.invokestatic idx, 3)) (kk : ∀ x : Int64 × Mm, Ok E (pc + 3) lv (.long x.1 :: rest) x.2 (f x) K) : Ok E pc lv st0 M (bnd fo f) K := ok_callS hE enL hst cv hM hR hn hW hd kk
theorem ok_cvV (hE : CxOk E cc own sf ret rm nL) {fo : Option (Mm)} {f : Mm → Option ρ} (rmc : Room) (As rest : List Value) (hst : st0 = As.reverse ++ .ref (E.Y.ad a) :: rest) (cv : CallV own idx C y bytes maxL retc n) (hsh : sf a = (0, ci, z, fs)) (hci : vwCl[ci]? = some (C, T, N)) (hM : ∀ x, fo = some x → Cm E.l E.Y E.t y (WS y bytes maxL retc) rmc (.ref (E.Y.ad a) :: As) M (enV x)) (hR : rmc.cells = 0 ∧ rmc.slots = 0 ∧ Nat.ble (rmc.frames + 1) rm.frames = true ∧ Nat.ble (8 + (maxL + 11) + rmc.locals) rm.locals = true) (hn : As.length = n) (hW : Nat.ble ((rest.map fun v => v.category).sum) 8 = true) (hd : decode cc pc = .ok (.invokevirtual idx, 3)) (kk : ∀ x : Mm, Ok E (pc + 3) lv (rest) x (f x) K) : Ok E pc lv st0 M (bnd fo f) K := ok_callV hE enV hst cv hsh hci hM hR hn hW hd kk
theorem ok_csV (hE : CxOk E cc own sf ret rm nL) {fo : Option (Mm)} {f : Mm → Option ρ} (rmc : Room) (As rest : List Value) (hst : st0 = As.reverse ++ rest) (cv : CallS own idx y bytes maxL retc n) (hM : ∀ x, fo = some x → Cm E.l E.Y E.t y (WS y bytes maxL retc) rmc As M (enV x)) (hR : rmc.cells = 0 ∧ rmc.slots = 0 ∧ Nat.ble (rmc.frames + 1) rm.frames = true ∧ Nat.ble (8 + (maxL + 11) + rmc.locals) rm.locals = true) (hn : As.length = n) (hW : Nat.ble ((rest.map fun v => v.category).sum) 8 = true) (hd : decode cc pc = .ok (.invokestatic idx, 3)) (kk : ∀ x : Mm, Ok E (pc + 3) lv (rest) x (f x) K) : Ok E pc lv st0 M (bnd fo f) K := ok_callS hE enV hst cv hM hR hn hW hd kk
theorem ok_cvA (hE : CxOk E cc own sf ret rm nL) {fo : Option (Nat × Mm)} {f : Nat × Mm → Option ρ} (rmc : Room) (As rest : List Value) (hst : st0 = As.reverse ++ .ref (E.Y.ad a) :: rest) (cv : CallV own idx C y bytes maxL retc n) (hsh : sf a = (0, ci, z, fs)) (hci : vwCl[ci]? = some (C, T, N)) (hM : ∀ x, fo = some x → Cm E.l E.Y E.t y (WS y bytes maxL retc) rmc (.ref (E.Y.ad a) :: As) M ((enA E.Y.ad) x)) (hR : rmc.cells = 0 ∧ rmc.slots = 0 ∧ Nat.ble (rmc.frames + 1) rm.frames = true ∧ Nat.ble (8 + (maxL + 11) + rmc.locals) rm.locals = true) (hn : As.length = n) (hW : Nat.ble ((rest.map fun v => v.category).sum) 8 = true) (hd : decode cc pc = .ok (.invokevirtual idx, 3)) (kk : ∀ x : Nat × Mm, Ok E (pc + 3) lv (.ref (E.Y.ad x.1) :: rest) x.2 (f x) K) : Ok E pc lv st0 M (bnd fo f) K := ok_callV hE (enA E.Y.ad) hst cv hsh hci hM hR hn hW hd kk
theorem ok_csA (hE : CxOk E cc own sf ret rm nL) {fo : Option (Nat × Mm)} {f : Nat × Mm → Option ρ} (rmc : Room) (As rest : List Value) (hst : st0 = As.reverse ++ rest) (cv : CallS own idx y bytes maxL retc n) (hM : ∀ x, fo = some x → Cm E.l E.Y E.t y (WS y bytes maxL retc) rmc As M ((enA E.Y.ad) x)) (hR : rmc.cells = 0 ∧ rmc.slots = 0 ∧ Nat.ble (rmc.frames + 1) rm.frames = true ∧ Nat.ble (8 + (maxL + 11) + rmc.locals) rm.locals = true) (hn : As.length = n) (hW : Nat.ble ((rest.map fun v => v.category).sum) 8 = true) (hd : decode cc pc = .ok (.invokestatic idx, 3)) (kk : ∀ x : Nat × Mm, Ok E (pc + 3) lv (.ref (E.Y.ad x.1) :: rest) x.2 (f x) K) : Ok E pc lv st0 M (bnd fo f) K := ok_callS hE (enA E.Y.ad) hst cv hM hR hn hW hd kk
theorem ok_cvN (hE : CxOk E cc own sf ret rm nL) {fo : Option (Option Nat × Mm)} {f : Option Nat × Mm → Option ρ} (rmc : Room) (As rest : List Value) (hst : st0 = As.reverse ++ .ref (E.Y.ad a) :: rest) (cv : CallV own idx C y bytes maxL retc n) (hsh : sf a = (0, ci, z, fs)) (hci : vwCl[ci]? = some (C, T, N)) (hM : ∀ x, fo = some x → Cm E.l E.Y E.t y (WS y bytes maxL retc) rmc (.ref (E.Y.ad a) :: As) M ((enN E.Y.ad) x)) (hR : rmc.cells = 0 ∧ rmc.slots = 0 ∧ Nat.ble (rmc.frames + 1) rm.frames = true ∧ Nat.ble (8 + (maxL + 11) + rmc.locals) rm.locals = true) (hn : As.length = n) (hW : Nat.ble ((rest.map fun v => v.category).sum) 8 = true) (hd : decode cc pc = .ok (.invokevirtual idx, 3)) (kk : ∀ x : Option Nat × Mm, Ok E (pc + 3) lv (va_rf (x.1.map E.Y.ad) :: rest) x.2 (f x) K) : Ok E pc lv st0 M (bnd fo f) K := ok_callV hE (enN E.Y.ad) hst cv hsh hci hM hR hn hW hd kk
theorem ok_csN (hE : CxOk E cc own sf ret rm nL) {fo : Option (Option Nat × Mm)} {f : Option Nat × Mm → Option ρ} (rmc : Room) (As rest : List Value) (hst : st0 = As.reverse ++ rest) (cv : CallS own idx y bytes maxL retc n) (hM : ∀ x, fo = some x → Cm E.l E.Y E.t y (WS y bytes maxL retc) rmc As M ((enN E.Y.ad) x)) (hR : rmc.cells = 0 ∧ rmc.slots = 0 ∧ Nat.ble (rmc.frames + 1) rm.frames = true ∧ Nat.ble (8 + (maxL + 11) + rmc.locals) rm.locals = true) (hn : As.length = n) (hW : Nat.ble ((rest.map fun v => v.category).sum) 8 = true) (hd : decode cc pc = .ok (.invokestatic idx, 3)) (kk : ∀ x : Option Nat × Mm, Ok E (pc + 3) lv (va_rf (x.1.map E.Y.ad) :: rest) x.2 (f x) K) : Ok E pc lv st0 M (bnd fo f) K := ok_callS hE (enN E.Y.ad) hst cv hM hR hn hW hd kk
end WRAP
