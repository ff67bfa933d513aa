/-! CONSTRUCTORS: cells that come. The judgement Wv over a list of cells; rows for it -/
def Xn (s : State) : Prop := ∃ (s0 : State) (a0 : Array Value), (∀ w ∈ lw_tbl, w.before a0 s0 = true) ∧ s0.WarmedH s.vm
theorem Xn.go {s U : State} (h : Xn s) (hW : s.WarmedH U.vm) : Xn U := by
  obtain ⟨s0, a0, h1, h2⟩ := h
  exact ⟨s0, a0, h1, State.WarmedH.trans h2 hW⟩
theorem Xn.nestM {s : State} (hX : Xn s) {a h : String} {x : MethodName} {i : Nat} (hw : Cond.methodLinkNest a i x h ∈ lw_tbl) : va_Nw (.methodLinkNest a i x h) s := by
  obtain ⟨s0, a0, h1, hW⟩ := hX
  exact va_Nw.warmM hW (va_Nw.of rfl (h1 _ hw))
theorem Xn.over {s : State} (hX : Xn s) {C : String} (hw : Cond.arrayOver (.object C) ∈ lw_tbl) : va_AO C s := by
  obtain ⟨s0, a0, h1, hW⟩ := hX
  exact (va_AO.of (h1 _ hw)).moved hW.alike
def CvOk (E : Cx) (cc : ByteArray) (own : String) (rm : Room) (nL : Nat) : Prop :=
  (E.p.tables.exec = Jvm.exec ∧ E.c.code = cc ∧ E.c.maxLocals = E.nL ∧ E.s.vm.findClass own = some E.m.cls ∧ E.meth.sig.returnType = none ∧ E.meth.locks = false ∧ E.R = rm ∧ E.meth.name = "<init>") ∧ (∀ w ∈ lw_good, w.before E.args E.s = true) ∧ va_K E.Y.D vwCl (tys7 E.Y.c) E.s ∧ E.nL = nL ∧ Xn E.s ∧ ∀ q : Nat, E.s.heap.size ≤ q → E.Y.A q
def Wv (E : Cx) (pc : Nat) (lv : List (Nat × Value)) (st : List Value) (cs sl : Nat) (ws : va_W) : Prop :=
  ∀ (ls : Array Slot) (H : Heap) (locs : List Loc), lv_has ls E.nL lv → va_P E.Y.D vwCl ws H → va_D E.Y.A ws → va_S E.Y.A E.s.heap H locs → W E.p E.l E.e E.R E.s E.m E.args E.below E.meth E.c H locs cs sl E.Q (F0 E.m pc ls st)
def NewOk (own : String) (idx ci N : Nat) (fs : List Value) : Prop := ∃ (C : String) (T : u_T) (ty : Nat → FieldType), vwCl[ci]? = some (C, T, N) ∧ (∀ w ∈ u_ws C T N, w ∈ lw_good) ∧ (∀ k, k < N → parseFieldDescriptor (T k).2.2.1 = some (ty k)) ∧ Cond.classLink own idx C ∈ lw_good ∧ Cond.instantiable C N ∈ lw_good ∧ Cond.initialized C ∈ lw_good ∧ ∀ j, j < N → defaultValue (ty j) = vp_V fs j
def FldF (own : String) (idx ci k : Nat) (ty : FieldType) : Prop := ∃ (C : String) (T : u_T) (N : Nat) (ty0 : Nat → FieldType), vwCl[ci]? = some (C, T, N) ∧ (∀ w ∈ u_ws C T N, w ∈ lw_good) ∧ (∀ k, k < N → parseFieldDescriptor (T k).2.2.1 = some (ty0 k)) ∧ (∀ a, a < N → ∀ b, b < N → a ≠ b → (T a).2.1 ≠ (T b).2.1) ∧ k < N ∧ ty0 k = ty ∧ (T k).2.2.2 = true ∧ Cond.fieldLink own idx (T k).1 (T k).2.1 (T k).2.2.1 ∈ lw_good ∧ (T k).1 = own
/-- a constructor's contract: its cells come, the block blk at addresses q -/
def Qn (D : va_G) (h0 sz : Nat) (ci : Nat) (dfl : List Value) (blk : (Nat → Nat) → va_W) : Array Value → State → Outcome → State → Prop := fun _ st oc u => oc = .returned none ∧ (∃ q : Nat → Nat, q 0 = h0 ∧ va_P D vwCl (blk q) u.heap ∧ va_D (va_A [(h0, .inr (ci, dfl))] sz) (blk q)) ∧ va_F (va_A [(h0, .inr (ci, dfl))] sz) st u
def Pn0 (D : va_G) (c : Nat → ClassId) (h0 sz ci : Nat) (dfl : List Value) (U : State) : Prop := U.heap.size = sz ∧ va_P D vwCl [(h0, .inr (ci, dfl))] U.heap ∧ va_K D vwCl (tys7 c) U ∧ Xn U
def Ci (l : Launch) (D : va_G) (c : Nat → ClassId) (y : MethodName) (wsy : List Cond) (rm : Room) (As : List Value) (ci : Nat) (dfl : List Value) (blk : (Nat → Nat) → va_W) : Prop := ∀ h0 sz : Nat, Met l y wsy rm (va_Pc (.ref h0 :: As) (Pn0 D c h0 sz ci dfl)) (Qn D h0 sz ci dfl blk) rm.cells rm.slots (va_A [(h0, .inr (ci, dfl))] sz)
section WV
variable {E : Cx} {cc : ByteArray} {own : String} {rm : Room} {nL pc cs sl : Nat} {lv : List (Nat × Value)} {st : List Value} {ws : va_W}
theorem CvOk.nl (h : CvOk E cc own rm nL) : E.nL = nL := h.2.2.2.1
theorem CvOk.r (h : CvOk E cc own rm nL) : E.R = rm := h.1.2.2.2.2.2.2.1
theorem wv_iconst (hE : CvOk E cc own rm nL) {n : Int} (v : Int32) (hv : Int32.ofInt n = v) (hd : decode cc pc = .ok (.iconst n, 1)) (k : Wv E (pc + 1) lv (.int v :: st) cs sl ws) : Wv E pc lv st cs sl ws := fun ls H locs h1 h2 h3 h4 => lv_iconst hE.1.1 hE.1.2.1 hd hv (k ls H locs h1 h2 h3 h4)
theorem wv_bipush (hE : CvOk E cc own rm nL) {n : Int} (v : Int32) (hv : (Int8.ofInt n).toInt32 = v) (hd : decode cc pc = .ok (.bipush n, 2)) (k : Wv E (pc + 2) lv (.int v :: st) cs sl ws) : Wv E pc lv st cs sl ws := fun ls H locs h1 h2 h3 h4 => lv_bipush hE.1.1 hE.1.2.1 hd hv (k ls H locs h1 h2 h3 h4)
theorem wv_sipush (hE : CvOk E cc own rm nL) {n : Int} (v : Int32) (hv : (Int16.ofInt n).toInt32 = v) (hd : decode cc pc = .ok (.sipush n, 3)) (k : Wv E (pc + 3) lv (.int v :: st) cs sl ws) : Wv E pc lv st cs sl ws := fun ls H locs h1 h2 h3 h4 => lv_sipush hE.1.1 hE.1.2.1 hd hv (k ls H locs h1 h2 h3 h4)
theorem wv_lconst (hE : CvOk E cc own rm nL) {n : Fin 2} (v : Int64) (hv : Int64.ofNat (n : Nat) = v) (hd : decode cc pc = .ok (.lconst n, 1)) (k : Wv E (pc + 1) lv (.long v :: st) cs sl ws) : Wv E pc lv st cs sl ws := fun ls H locs h1 h2 h3 h4 => lv_lconst hE.1.1 hE.1.2.1 hd hv (k ls H locs h1 h2 h3 h4)
theorem wv_fconst0 (hE : CvOk E cc own rm nL) (hd : decode cc pc = .ok (.fconst 0, 1)) (k : Wv E (pc + 1) lv (.float FP.fconst0 :: st) cs sl ws) : Wv E pc lv st cs sl ws := fun ls H locs h1 h2 h3 h4 => lv_fconst0 hE.1.1 hE.1.2.1 hd (k ls H locs h1 h2 h3 h4)
theorem wv_aload_n (hE : CvOk E cc own rm nL) (k0 : Nat) {j : Fin 4} {x : Nat} (hl : lv[k0]? = some ((j : Nat), .ref x)) (hd : decode cc pc = .ok (.aload_n j, 1)) (k : Wv E (pc + 1) lv (.ref x :: st) cs sl ws) : Wv E pc lv st cs sl ws := fun ls H locs h1 h2 h3 h4 => lv_aload_n hE.1.1 hE.1.2.1 hd rfl (lv_at h1 k0 hl) (k ls H locs h1 h2 h3 h4)
theorem wv_iload_n (hE : CvOk E cc own rm nL) (k0 : Nat) {j : Fin 4} {x : Int32} (hl : lv[k0]? = some ((j : Nat), .int x)) (hd : decode cc pc = .ok (.iload_n j, 1)) (k : Wv E (pc + 1) lv (.int x :: st) cs sl ws) : Wv E pc lv st cs sl ws := fun ls H locs h1 h2 h3 h4 => lv_iload_n hE.1.1 hE.1.2.1 hd rfl (lv_at h1 k0 hl) (k ls H locs h1 h2 h3 h4)
theorem wv_istore_n (hE : CvOk E cc own rm nL) {j : Fin 4} {x : Int32} (lv1 : List (Nat × Value)) (hl : ((j : Nat), Value.int x) :: lv.filter (fun q => !(q.1 == (j : Nat)) && !(q.1 + 1 == (j : Nat) && q.2.category == 2)) = lv1) (hn : Nat.ble ((j : Nat) + 1) nL = true) (hd : decode cc pc = .ok (.istore_n j, 1)) (k : Wv E (pc + 1) lv1 st cs sl ws) : Wv E pc lv (.int x :: st) cs sl ws := fun ls H locs h1 h2 h3 h4 => lv_istore_n hE.1.1 hE.1.2.1 hd rfl h1 (by rw [hE.nl]; exact Nat.le_of_ble_eq_true hn) hl (fun ls h1 => k ls H locs h1 h2 h3 h4)
theorem wv_iinc (hE : CvOk E cc own rm nL) (k0 : Nat) {j : Nat} {n : Int} {x : Int32} (v : Int32) (hv : x + Int32.ofInt n = v) (lv1 : List (Nat × Value)) (hk : lv[k0]? = some (j, .int x)) (hl : (j, Value.int v) :: lv.filter (fun q => !(q.1 == j) && !(q.1 + 1 == j && q.2.category == 2)) = lv1) (hn : Nat.ble (j + 1) nL = true) (hd : decode cc pc = .ok (.iinc j n, 3)) (k : Wv E (pc + 3) lv1 st cs sl ws) : Wv E pc lv st cs sl ws := fun ls H locs h1 h2 h3 h4 => lv_iinc hE.1.1 hE.1.2.1 hd h1 hk hv (by rw [hE.nl]; exact Nat.le_of_ble_eq_true hn) hl (fun ls h1 => k ls H locs h1 h2 h3 h4)
theorem wv_dup (hE : CvOk E cc own rm nL) {va : Value} (hva : va.category = 1) (hd : decode cc pc = .ok (.dup, 1)) (k : Wv E (pc + 1) lv (va :: va :: st) cs sl ws) : Wv E pc lv (va :: st) cs sl ws := fun ls H locs h1 h2 h3 h4 => lv_dup hE.1.1 hE.1.2.1 hd hva (k ls H locs h1 h2 h3 h4)
theorem wv_goto (hE : CvOk E cc own rm nL) {off : Int} (tgt : Nat) (ht : (pc : Int) + off = (tgt : Int)) (hd : decode cc pc = .ok (.goto off, 3)) (k : Wv E tgt lv st cs sl ws) : Wv E pc lv st cs sl ws := fun ls H locs h1 h2 h3 h4 => lv_goto hE.1.1 hE.1.2.1 hd ht (k ls H locs h1 h2 h3 h4)
theorem wv_icmp_ge (hE : CvOk E cc own rm nL) {x y : Int32} {off : Int} (tgt : Nat) (ht : (pc : Int) + off = (tgt : Int)) (hd : decode cc pc = .ok (.if_icmp .ge off, 3)) (k1 : y ≤ x → Wv E tgt lv st cs sl ws) (k2 : ¬ y ≤ x → Wv E (pc + 3) lv st cs sl ws) : Wv E pc lv (.int y :: .int x :: st) cs sl ws := fun ls H locs h1 h2 h3 h4 => lv_icmp_ge hE.1.1 hE.1.2.1 hd ht (fun hc => k1 hc ls H locs h1 h2 h3 h4) (fun hc => k2 hc ls H locs h1 h2 h3 h4)
theorem lw_obj : Cond.instanceMethod Lib.objectInit ∈ lw_good ∧ Cond.code Lib.objectInit ⟨#[0xb1]⟩ 1 none ∈ lw_good := ⟨lw_TG 30 (by decide +kernel) (by decide +kernel), lw_TG 31 rfl (by decide +kernel)⟩
theorem wv_obj (hE : CvOk E cc own rm nL) {idx a : Nat} (hw : Cond.methodLink own idx Lib.objectInit ∈ lw_good) (hR : Nat.ble 1 rm.frames = true ∧ Nat.ble 12 rm.locals = true) (hd : decode cc pc = .ok (.invokespecial idx, 3)) (k : Wv E (pc + 3) lv [] cs sl ws) : Wv E pc lv [.ref a] cs sl ws := by
  intro ls H locs h1 h2 h3 h4
  refine W.objInit hE.1.1 hE.1.2.1 hE.1.2.2.2.1 (hE.2.1 _ hw) (hE.2.1 _ lw_obj.1) (hE.2.1 _ lw_obj.2) rfl (by rw [hE.1.2.2.1]; exact h1.1) rfl hd (by rw [hE.r]; exact Nat.le_of_ble_eq_true hR.1) (by rw [hE.r]; exact Nat.le_of_ble_eq_true hR.2) ?_
  exact k ls H locs h1 h2 h3 h4
theorem wv_new (hE : CvOk E cc own rm nL) {idx ci N : Nat} {fs : List Value} (nw : NewOk own idx ci N fs) (hc : Nat.ble (cs + 1) rm.cells = true) (hs : Nat.ble (sl + N) rm.slots = true) (hd : decode cc pc = .ok (.new idx, 3)) (k : ∀ q : Nat, Wv E (pc + 3) lv (.ref q :: st) (cs + 1) (sl + N) (ws ++ [(q, .inr (ci, fs))])) : Wv E pc lv st cs sl ws := by
  intro ls H locs h1 h2 h3 h4
  obtain ⟨C, T, ty, n1, n2, n3, n4, n5, n6, n7⟩ := nw
  exact va_new hE.1.1 hE.1.2.1 hE.2.1 n2 ty n3 hE.1.2.2.2.1 (hE.2.1 _ n4) (hE.2.1 _ n5) (hE.2.1 _ n6) hE.2.2.1 h2 h3 h4 hE.2.2.2.2.2 n1 n7 (by rw [hE.r]; exact Nat.le_of_ble_eq_true hc) (by rw [hE.r]; exact Nat.le_of_ble_eq_true hs) hd (fun q H1 hP hD hS => k q ls H1 locs h1 hP hD hS)
theorem wv_newi (hE : CvOk E cc own rm nL) {n : Int32} (N : Nat) (hw : Cond.arrayClass .int ∈ lw_good) (hn : ¬ n < 0) (hN : n.toNatClampNeg = N) (hb : Nat.ble (N * 4) 536870912 = true) (hc : Nat.ble (cs + 1) rm.cells = true) (hs : Nat.ble (sl + N) rm.slots = true) (hd : decode cc pc = .ok (.newarray .int, 2)) (k : ∀ q : Nat, Wv E (pc + 2) lv (.ref q :: st) (cs + 1) (sl + N) (ws ++ [(q, .inl (E.Y.c 0, N, .inl (fun _ => 0)))])) : Wv E pc lv (.int n :: st) cs sl ws := by
  intro ls H locs h1 h2 h3 h4
  refine va_newa (atype := .int) (ty := .int) (a0 := (N, .inl (fun _ => 0))) hE.1.1 hE.1.2.1 (hE.2.1 _ hw) rfl hE.2.2.1 h2 h3 h4 hE.2.2.2.2.2 (fun _ => rfl) hn hN (Nat.le_of_ble_eq_true hb) (by rw [hE.r]; exact Nat.le_of_ble_eq_true hc) (by rw [hE.r]; exact Nat.le_of_ble_eq_true hs) hd (fun q cA H1 hK hP hD hS => ?_)
  have e : cA = E.Y.c 0 := Option.some.inj (((hK.2 7 _ rfl).2 : va_RA E.s cA .int).symm.trans (hK.2 0 _ rfl).2)
  subst e
  exact k q ls H1 locs h1 hP hD hS
theorem wv_newf (hE : CvOk E cc own rm nL) {n : Int32} (N : Nat) (hw : Cond.arrayClass .float ∈ lw_good) (hn : ¬ n < 0) (hN : n.toNatClampNeg = N) (hb : Nat.ble (N * 4) 536870912 = true) (hc : Nat.ble (cs + 1) rm.cells = true) (hs : Nat.ble (sl + N) rm.slots = true) (hd : decode cc pc = .ok (.newarray .float, 2)) (k : ∀ q : Nat, Wv E (pc + 2) lv (.ref q :: st) (cs + 1) (sl + N) (ws ++ [(q, .inl (E.Y.c 1, N, .inr (.inr (.inl (fun _ => FP.fconst0)))))])) : Wv E pc lv (.int n :: st) cs sl ws := by
  intro ls H locs h1 h2 h3 h4
  refine va_newa (atype := .float) (ty := .float) (a0 := (N, .inr (.inr (.inl (fun _ => FP.fconst0))))) hE.1.1 hE.1.2.1 (hE.2.1 _ hw) rfl hE.2.2.1 h2 h3 h4 hE.2.2.2.2.2 (fun _ => rfl) hn hN (Nat.le_of_ble_eq_true hb) (by rw [hE.r]; exact Nat.le_of_ble_eq_true hc) (by rw [hE.r]; exact Nat.le_of_ble_eq_true hs) hd (fun q cA H1 hK hP hD hS => ?_)
  have e : cA = E.Y.c 1 := Option.some.inj (((hK.2 7 _ rfl).2 : va_RA E.s cA .float).symm.trans (hK.2 1 _ rfl).2)
  subst e
  exact k q ls H1 locs h1 hP hD hS
theorem wv_newz (hE : CvOk E cc own rm nL) {n : Int32} (N : Nat) (hw : Cond.arrayClass .boolean ∈ lw_good) (hn : ¬ n < 0) (hN : n.toNatClampNeg = N) (hb : Nat.ble (N * 1) 536870912 = true) (hc : Nat.ble (cs + 1) rm.cells = true) (hs : Nat.ble (sl + N) rm.slots = true) (hd : decode cc pc = .ok (.newarray .boolean, 2)) (k : ∀ q : Nat, Wv E (pc + 2) lv (.ref q :: st) (cs + 1) (sl + N) (ws ++ [(q, .inl (E.Y.c 2, N, .inl (fun _ => 0)))])) : Wv E pc lv (.int n :: st) cs sl ws := by
  intro ls H locs h1 h2 h3 h4
  refine va_newa (atype := .boolean) (ty := .boolean) (a0 := (N, .inl (fun _ => 0))) hE.1.1 hE.1.2.1 (hE.2.1 _ hw) rfl hE.2.2.1 h2 h3 h4 hE.2.2.2.2.2 (fun _ => rfl) hn hN (Nat.le_of_ble_eq_true hb) (by rw [hE.r]; exact Nat.le_of_ble_eq_true hc) (by rw [hE.r]; exact Nat.le_of_ble_eq_true hs) hd (fun q cA H1 hK hP hD hS => ?_)
  have e : cA = E.Y.c 2 := Option.some.inj (((hK.2 7 _ rfl).2 : va_RA E.s cA .boolean).symm.trans (hK.2 2 _ rfl).2)
  subst e
  exact k q ls H1 locs h1 hP hD hS
theorem wv_newr (hE : CvOk E cc own rm nL) {n : Int32} (N ti : Nat) {C : String} {idx : Nat} (hti : (tys7 E.Y.c)[ti]? = some (E.Y.c ti, .object C)) (hw : Cond.classLink own idx C ∈ lw_good) (ho : Cond.arrayOver (.object C) ∈ lw_tbl) (hn : ¬ n < 0) (hN : n.toNatClampNeg = N) (hb : Nat.ble (N * 4) 536870912 = true) (hc : Nat.ble (cs + 1) rm.cells = true) (hs : Nat.ble (sl + N) rm.slots = true) (hd : decode cc pc = .ok (.anewarray idx, 3)) (k : ∀ q : Nat, Wv E (pc + 3) lv (.ref q :: st) (cs + 1) (sl + N) (ws ++ [(q, .inl (E.Y.c ti, N, .inr (.inr (.inr (.inr (fun _ => none))))))])) : Wv E pc lv (.int n :: st) cs sl ws := by
  intro ls H locs h1 h2 h3 h4
  refine va_newq hE.1.1 hE.1.2.1 hE.1.2.2.2.1 (hE.2.1 _ hw) (hE.2.2.2.2.1.over ho) hE.2.2.1 h2 h3 h4 hE.2.2.2.2.2 hn hN (Nat.le_of_ble_eq_true hb) (by rw [hE.r]; exact Nat.le_of_ble_eq_true hc) (by rw [hE.r]; exact Nat.le_of_ble_eq_true hs) hd (fun q cA H1 hK hP hD hS => ?_)
  obtain ⟨_, _, _, _, _, f1⟩ := (hK.2 7 _ rfl).2
  obtain ⟨_, _, _, _, _, f2⟩ := (hE.2.2.1.2 ti _ hti).2
  have e : cA = E.Y.c ti := Option.some.inj (f1.symm.trans f2)
  subst e
  exact k q ls H1 locs h1 hP hD hS
theorem wv_put (hE : CvOk E cc own rm nL) (q0 : Nat) {a k idx ci : Nat} {fs : List Value} {ty : FieldType} {v : Value} (f : FldOk own idx ci k ty false) (hq : ws[q0]? = some (a, .inr (ci, fs))) (hl : Nat.ble (k + 1) fs.length = true) (hn : narrow ty v = v) (hfit : fits ty v = true) (hd : decode cc pc = .ok (.putfield idx, 3)) (hlink : ∀ (T : u_T) (N : Nat) (C : String), vwCl[ci]? = some (C, T, N) → Cond.fieldLink own idx (T k).1 (T k).2.1 (T k).2.2.1 ∈ lw_good) (kk : Wv E (pc + 3) lv st cs sl (ws.set q0 (a, .inr (ci, fs.set k v)))) : Wv E pc lv (v :: .ref a :: st) cs sl ws := by
  intro ls H locs h1 h2 h3 h4
  obtain ⟨C, T, N, ty0, hc, hin, hty, hnm, hkN, hte, hfi, -⟩ := f
  exact va_put hE.1.1 hE.1.2.1 hE.2.1 hin ty0 hty hnm hE.1.2.2.2.1 hE.2.2.1 h2 h3 h4 q0 hq hc k hkN (hE.2.1 _ (hlink T N C hc)) (fun _ h => h) hfi (by rw [hty k hkN, hte]) hn hfit (Nat.le_of_ble_eq_true hl) hd (fun H1 locs1 hP hD hS => kk ls H1 locs1 h1 hP hD hS)
theorem wv_putF (hE : CvOk E cc own rm nL) (q0 : Nat) {a k idx ci : Nat} {fs : List Value} {ty : FieldType} {v : Value} (f : FldF own idx ci k ty) (hq : ws[q0]? = some (a, .inr (ci, fs))) (hl : Nat.ble (k + 1) fs.length = true) (hn : narrow ty v = v) (hfit : fits ty v = true) (hd : decode cc pc = .ok (.putfield idx, 3)) (kk : Wv E (pc + 3) lv st cs sl (ws.set q0 (a, .inr (ci, fs.set k v)))) : Wv E pc lv (v :: .ref a :: st) cs sl ws := by
  intro ls H locs h1 h2 h3 h4
  obtain ⟨C, T, N, ty0, hc, hin, hty, hnm, hkN, hte, hfi, hlk, hdc⟩ := f
  exact va_putF hE.1.1 hE.1.2.1 hE.2.1 hin ty0 hty hnm hE.1.2.2.2.1 hE.2.2.1 h2 h3 h4 q0 hq hc k hkN (hE.2.1 _ hlk) (fun _ h => h) hfi hE.1.2.2.2.2.2.2.2 hdc (by rw [hty k hkN, hte]) hn hfit (Nat.le_of_ble_eq_true hl) hd (fun H1 locs1 hP hD hS => kk ls H1 locs1 h1 hP hD hS)
theorem wv_get (hE : CvOk E cc own rm nL) (q0 : Nat) {a k idx ci : Nat} {fs : List Value} {ty : FieldType} {fin : Bool} {v : Value} (f : FldOk own idx ci k ty fin) (hlink : ∀ (T : u_T) (N : Nat) (C : String), vwCl[ci]? = some (C, T, N) → Cond.fieldLink own idx (T k).1 (T k).2.1 (T k).2.2.1 ∈ lw_good) (hq : ws[q0]? = some (a, .inr (ci, fs))) (hv : fs[k]? = some v) (hd : decode cc pc = .ok (.getfield idx, 3)) (kk : Wv E (pc + 3) lv (v :: st) cs sl ws) : Wv E pc lv (.ref a :: st) cs sl ws := by
  intro ls H locs h1 h2 h3 h4
  obtain ⟨C, T, N, ty0, hc, hin, hty, hnm, hkN, hte, hfi, -⟩ := f
  exact va_get hE.1.1 hE.1.2.1 hE.2.1 hin hE.1.2.2.2.1 hE.2.2.1 h2 q0 hq hc k hkN (hE.2.1 _ (hlink T N C hc)) (fun _ h => h) hv hd (kk ls H locs h1 h2 h3 h4)
theorem wv_iast (hE : CvOk E cc own rm nL) (q0 : Nat) {a N : Nat} {f : Nat → Int32} {i x : Int32} (hq : ws[q0]? = some (a, .inl (E.Y.c 0, N, .inl f))) (hi : vp_in i N) (hd : decode cc pc = .ok (.iastore, 1)) (kk : Wv E (pc + 1) lv st cs sl (ws.set q0 (a, .inl (E.Y.c 0, N, .inl (upd f i.toNatClampNeg x))))) : Wv E pc lv (.int x :: .int i :: .ref a :: st) cs sl ws := by
  intro ls H locs h1 h2 h3 h4
  exact va_iast hE.1.1 hE.1.2.1 hE.2.2.1 h2 h3 h4 q0 0 hq rfl hi hd (fun H1 locs1 hP hD hS => kk ls H1 locs1 h1 hP hD hS)
theorem wv_aast (hE : CvOk E cc own rm nL) (q0 qk ti ci : Nat) {a v N : Nat} {r : vw_C} {vs : List Value} {f : Nat → Option Nat} {i : Int32} (hti : (tys7 E.Y.c)[ti]? = some (E.Y.c ti, .object r.1)) (hq : ws[q0]? = some (a, .inl (E.Y.c ti, N, .inr (.inr (.inr (.inr f)))))) (hv : ws[qk]? = some (v, .inr (ci, vs))) (hc : vwCl[ci]? = some r) (hi : vp_in i N) (hd : decode cc pc = .ok (.aastore, 1)) (kk : Wv E (pc + 1) lv st cs sl (ws.set q0 (a, .inl (E.Y.c ti, N, .inr (.inr (.inr (.inr (va_up f i.toNatClampNeg (some v))))))))) : Wv E pc lv (.ref v :: .int i :: .ref a :: st) cs sl ws := by
  intro ls H locs h1 h2 h3 h4
  exact va_astq hE.1.1 hE.1.2.1 hE.2.2.1 h2 h3 h4 q0 ti qk ci hq hti hv hc hi hd (fun H1 locs1 hP hD hS => kk ls H1 locs1 h1 hP hD hS)
theorem wv_ret (hE : CvOk E cc own rm nL) {Qc : Array Value → State → Outcome → State → Prop} (hQ : E.Q = MQ E.below Qc E.args E.s cs sl E.Y.A) (hq : ∀ t : State, va_P E.Y.D vwCl ws t.heap → va_D E.Y.A ws → va_F E.Y.A E.s t → Qc E.args E.s (.returned none) t) (hd : decode cc pc = .ok (.return_, 1)) : Wv E pc lv [] cs sl ws := by
  intro ls H locs h1 h2 h3 h4
  rw [hQ]
  exact W.vret hE.1.1 hE.1.2.1 hE.1.2.2.2.2.1 (fun t ht hW => hq t (by rw [ht]; exact h2) h3 (h4.F ht)) h4.2.2 hd hE.1.2.2.2.2.2.1
end WV
