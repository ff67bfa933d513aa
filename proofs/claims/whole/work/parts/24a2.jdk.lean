/-! READERS OF CONSTANTS: String.length and String.charAt of the JDK over a constant text -/
def noA : Nat → Prop := fun _ => False
def Qr (v : Option Value) : Array Value → State → Outcome → State → Prop := fun _ st oc u => oc = .returned v ∧ va_F noA st u
def KS (A : Nat → Prop) (x v n : Nat) (f : Nat → Int32) (U : State) (H : Heap) : Prop := va_O "java/lang/String" x A U H ∧ va_OF "java/lang/String" "coder" "B" (.int 0) x A U H ∧ va_OF "java/lang/String" "value" "[B" (.ref v) x A U H ∧ va_T .byte v n (fun j => .int (f j)) A U H ∧ va_Z "java/lang/String" "COMPACT_STRINGS" "Z" (.int 1) A U H ∧ va_Zq "jdk/internal/util/Preconditions" "SIOOBE_FORMATTER" "Ljava/util/function/BiFunction;" A U H
section KSS
variable {A B : Nat → Prop} {x v n : Nat} {f : Nat → Int32} {s U : State} {H H1 : Heap}
theorem KS.moved (hvm : s.vm.Alike U.vm) (h : KS A x v n f s H) : KS A x v n f U H := by
  obtain ⟨h1, h2, h3, h4, h5, h6⟩ := h
  exact ⟨h1.moved hvm, h2.moved hvm, h3.moved hvm, h4.moved hvm, h5.moved hvm, h6.moved hvm⟩
theorem KS.kept (h : KS A x v n f s H) (hq : ∀ a : Nat, a < H.size → ¬ A a → H1[a]? = H[a]?) : KS A x v n f s H1 := by
  obtain ⟨h1, h2, h3, h4, h5, h6⟩ := h
  exact ⟨h1.kept hq, h2.kept hq, h3.kept hq, h4.kept hq, h5.kept hq, h6.kept hq⟩
theorem KS.narrow (h : KS A x v n f s H) (hAB : ∀ q, B q → A q) : KS B x v n f s H := by
  obtain ⟨h1, h2, h3, h4, h5, h6⟩ := h
  exact ⟨h1.narrow hAB, h2.narrow hAB, h3.narrow hAB, h4.narrow hAB, h5.narrow hAB, h6.narrow hAB⟩
def Bk (x v n : Nat) (f : Nat → Int32) (U : State) : Prop := KS noA x v n f U U.heap
theorem bk_blind {As : List Value} : FrameBlind (va_Pc As (Bk x v n f)) := by
  intro a U g mk ⟨q0, q1⟩
  exact ⟨q0, KS.moved (s := U) (U := U.calling g mk a) (Vm.Alike.refl U.vm) q1⟩
theorem bk_at {locs : List Loc} (h : KS A x v n f s s.heap) (hS : va_S A s.heap H locs) (As : List Value) : ∀ U : State, U.heap = H → s.WarmedH U.vm → va_Pc As (Bk x v n f) As.toArray U := by
  intro U hU hW
  refine ⟨rfl, ?_⟩
  show KS noA x v n f U U.heap
  rw [hU]
  exact ((h.moved hW.alike).kept hS.2.1).narrow (fun _ h => h.elim)
end KSS
def CsOk (E : Cx) (cc : ByteArray) (own : String) (ret : Option FieldType) (rm : Room) (nL : Nat) : Prop :=
  (E.p.tables.exec = Jvm.exec ∧ E.c.code = cc ∧ E.c.maxLocals = E.nL ∧ E.s.vm.findClass own = some E.m.cls ∧ E.meth.sig.returnType = ret ∧ E.meth.locks = false ∧ E.R = rm) ∧ (∀ w ∈ lw_good, w.before E.args E.s = true) ∧ E.nL = nL
def Ws (E : Cx) (pc : Nat) (lv : List (Nat × Value)) (st : List Value) : Prop :=
  ∀ (ls : Array Slot) (H : Heap) (locs : List Loc), lv_has ls E.nL lv → va_S noA E.s.heap H locs → W E.p E.l E.e E.R E.s E.m E.args E.below E.meth E.c H locs 0 0 E.Q (F0 E.m pc ls st)
def CallVL (own : String) (idx : Nat) (C : String) (y : MethodName) (bytes : ByteArray) (maxL : Nat) (ret : Option FieldType) (n : Nat) : Prop :=
  Cond.methodLink own idx y ∈ lw_good ∧ Cond.instanceMethod y ∈ lw_good ∧ Cond.selects C y y ∈ lw_good ∧ Cond.initialized y.cls ∈ lw_good ∧ Cond.code y bytes maxL ret ∈ lw_good ∧ y.cls ≠ "java/lang/invoke/MethodHandle" ∧ y.cls ≠ "java/lang/invoke/VarHandle" ∧ (parseMethodDescriptor y.desc).map (fun d => d.parameters.length) = some n
def CallSL (own : String) (idx : Nat) (y : MethodName) (bytes : ByteArray) (maxL : Nat) (ret : Option FieldType) (n : Nat) : Prop :=
  Cond.methodLink own idx y ∈ lw_good ∧ Cond.static y ∈ lw_good ∧ Cond.initialized y.cls ∈ lw_good ∧ Cond.code y bytes maxL ret ∈ lw_good ∧ y.cls ≠ "java/lang/invoke/MethodHandle" ∧ y.cls ≠ "java/lang/invoke/VarHandle" ∧ (parseMethodDescriptor y.desc).map (fun d => d.parameters.length) = some n
theorem W_runR {p : Program} {l : Launch} {e : Env} {R : Room} {s : State} {m : MethodId} {args : Array Value} {below : List Frame} {meth : Method} {c : Code} {H : Heap} {locs : List Loc} {pc : Nat} {Q : State → Prop} {A0 : Nat → Prop} {v : Option Value} {ls : Array Slot} {st0 rest : List Value} {av : Array Value} (hr : va_Run p l e R s m args below meth c H locs 0 0 0 0 (F0 m pc ls st0) rest (Qr v av) noA) (hS : va_S A0 s.heap H locs)
    (kk : ∀ (H1 : Heap) (locs1 : List Loc), (∀ q : Nat, q < H.size → H1[q]? = H[q]?) → va_S A0 s.heap H1 locs1 → W p l e R s m args below meth c H1 locs1 0 0 Q (F0 m (pc + 3) ls (v.toList ++ rest))) : W p l e R s m args below meth c H locs 0 0 Q (F0 m pc ls st0) := by
  intro T0 hT X
  obtain ⟨w, st₀, u, T', L, h0, X', hL, e1, e2, ⟨hv, hz, hk⟩, stp⟩ := hr T0 hT X
  cases hv
  rw [h0] at hz hk
  obtain ⟨t2, a1, b1⟩ := kk T'.heap (locs ++ L) (fun q h1 => by rw [e1]; exact hk q h1 (fun h => h)) ⟨Nat.le_trans hS.1 (by rw [e1]; exact hz), fun q h1 h2 => by rw [e1, hk q (Nat.lt_of_lt_of_le h1 hS.1) (fun h => h)]; exact hS.2.1 q h1 h2, fun q hq => by
      rcases List.mem_append.mp hq with h | h
      · exact hS.2.2 q h
      · exact (hL q h).elim⟩ T' rfl X'
  exact ⟨t2, stp t2 a1, b1⟩
section WSS
variable {E : Cx} {cc : ByteArray} {own : String} {ret : Option FieldType} {rm : Room} {nL pc : Nat} {lv : List (Nat × Value)} {st st0 : List Value} {x v n : Nat} {f : Nat → Int32}
theorem ws_aload_n (hE : CsOk E cc own ret rm nL) (k0 : Nat) {j : Fin 4} {x : Nat} (hl : lv[k0]? = some ((j : Nat), .ref x)) (hd : decode cc pc = .ok (.aload_n j, 1)) (k : Ws E (pc + 1) lv (.ref x :: st)) : Ws E pc lv st := fun ls H locs h1 h2 => lv_aload_n hE.1.1 hE.1.2.1 hd rfl (lv_at h1 k0 hl) (k ls H locs h1 h2)
theorem ws_iload_n (hE : CsOk E cc own ret rm nL) (k0 : Nat) {j : Fin 4} {x : Int32} (hl : lv[k0]? = some ((j : Nat), .int x)) (hd : decode cc pc = .ok (.iload_n j, 1)) (k : Ws E (pc + 1) lv (.int x :: st)) : Ws E pc lv st := fun ls H locs h1 h2 => lv_iload_n hE.1.1 hE.1.2.1 hd rfl (lv_at h1 k0 hl) (k ls H locs h1 h2)
theorem ws_iconst (hE : CsOk E cc own ret rm nL) {n : Int} (v : Int32) (hv : Int32.ofInt n = v) (hd : decode cc pc = .ok (.iconst n, 1)) (k : Ws E (pc + 1) lv (.int v :: st)) : Ws E pc lv st := fun ls H locs h1 h2 => lv_iconst hE.1.1 hE.1.2.1 hd hv (k ls H locs h1 h2)
theorem ws_sipush (hE : CsOk E cc own ret rm nL) {n : Int} (v : Int32) (hv : (Int16.ofInt n).toInt32 = v) (hd : decode cc pc = .ok (.sipush n, 3)) (k : Ws E (pc + 3) lv (.int v :: st)) : Ws E pc lv st := fun ls H locs h1 h2 => lv_sipush hE.1.1 hE.1.2.1 hd hv (k ls H locs h1 h2)
theorem ws_goto (hE : CsOk E cc own ret rm nL) {off : Int} (tgt : Nat) (ht : (pc : Int) + off = (tgt : Int)) (hd : decode cc pc = .ok (.goto off, 3)) (k : Ws E tgt lv st) : Ws E pc lv st := fun ls H locs h1 h2 => lv_goto hE.1.1 hE.1.2.1 hd ht (k ls H locs h1 h2)
theorem ws_ishr (hE : CsOk E cc own ret rm nL) {x y : Int32} (hd : decode cc pc = .ok (.ishr, 1)) (k : Ws E (pc + 1) lv (.int (x >>> (y &&& 31)) :: st)) : Ws E pc lv (.int y :: .int x :: st) := fun ls H locs h1 h2 => lv_ishr hE.1.1 hE.1.2.1 hd (k ls H locs h1 h2)
theorem ws_iand (hE : CsOk E cc own ret rm nL) {x y : Int32} (hd : decode cc pc = .ok (.iand, 1)) (k : Ws E (pc + 1) lv (.int (x &&& y) :: st)) : Ws E pc lv (.int y :: .int x :: st) := fun ls H locs h1 h2 => lv_iand hE.1.1 hE.1.2.1 hd (k ls H locs h1 h2)
theorem ws_i2c (hE : CsOk E cc own ret rm nL) {x : Int32} (v : Int32) (hv : (x.toUInt32 % 65536).toInt32 = v) (hd : decode cc pc = .ok (.i2c, 1)) (k : Ws E (pc + 1) lv (.int v :: st)) : Ws E pc lv (.int x :: st) := fun ls H locs h1 h2 => lv_i2c hE.1.1 hE.1.2.1 hd hv (k ls H locs h1 h2)
theorem ws_pop (hE : CsOk E cc own ret rm nL) {va : Value} (hva : va.category = 1) (hd : decode cc pc = .ok (.pop, 1)) (k : Ws E (pc + 1) lv st) : Ws E pc lv (va :: st) := fun ls H locs h1 h2 => lv_pop hE.1.1 hE.1.2.1 hd hva (k ls H locs h1 h2)
theorem ws_if_eq (hE : CsOk E cc own ret rm nL) {x : Int32} {off : Int} (tgt : Nat) (ht : (pc : Int) + off = (tgt : Int)) (hd : decode cc pc = .ok (.ifCond .eq off, 3)) (k1 : x = 0 → Ws E tgt lv st) (k2 : ¬ x = 0 → Ws E (pc + 3) lv st) : Ws E pc lv (.int x :: st) := fun ls H locs h1 h2 => lv_if_eq hE.1.1 hE.1.2.1 hd ht (fun hc => k1 hc ls H locs h1 h2) (fun hc => k2 hc ls H locs h1 h2)
theorem ws_if_ne (hE : CsOk E cc own ret rm nL) {x : Int32} {off : Int} (tgt : Nat) (ht : (pc : Int) + off = (tgt : Int)) (hd : decode cc pc = .ok (.ifCond .ne off, 3)) (k1 : ¬ x = 0 → Ws E tgt lv st) (k2 : x = 0 → Ws E (pc + 3) lv st) : Ws E pc lv (.int x :: st) := fun ls H locs h1 h2 => lv_if_ne hE.1.1 hE.1.2.1 hd ht (fun hc => k1 hc ls H locs h1 h2) (fun hc => k2 hc ls H locs h1 h2)
theorem ws_if_lt (hE : CsOk E cc own ret rm nL) {x : Int32} {off : Int} (tgt : Nat) (ht : (pc : Int) + off = (tgt : Int)) (hd : decode cc pc = .ok (.ifCond .lt off, 3)) (k1 : x < 0 → Ws E tgt lv st) (k2 : ¬ x < 0 → Ws E (pc + 3) lv st) : Ws E pc lv (.int x :: st) := fun ls H locs h1 h2 => lv_if_lt hE.1.1 hE.1.2.1 hd ht (fun hc => k1 hc ls H locs h1 h2) (fun hc => k2 hc ls H locs h1 h2)
theorem ws_icmp_lt (hE : CsOk E cc own ret rm nL) {x y : Int32} {off : Int} (tgt : Nat) (ht : (pc : Int) + off = (tgt : Int)) (hd : decode cc pc = .ok (.if_icmp .lt off, 3)) (k1 : x < y → Ws E tgt lv st) (k2 : ¬ x < y → Ws E (pc + 3) lv st) : Ws E pc lv (.int y :: .int x :: st) := fun ls H locs h1 h2 => lv_icmp_lt hE.1.1 hE.1.2.1 hd ht (fun hc => k1 hc ls H locs h1 h2) (fun hc => k2 hc ls H locs h1 h2)
theorem ws_gets (hE : CsOk E cc own ret rm nL) {C n d : String} {w : Value} {idx : Nat} (hZ : va_Z C n d w noA E.s E.s.heap) (hl : Cond.fieldLink own idx C n d ∈ lw_good) (hd : decode cc pc = .ok (.getstatic idx, 3)) (k : Ws E (pc + 3) lv (w :: st)) : Ws E pc lv st := fun ls H locs h1 h2 => va_gets hE.1.1 hE.1.2.1 hZ h2 hE.1.2.2.2.1 (hE.2.1 _ hl) (fun _ h => h) hd (k ls H locs h1 h2)
theorem ws_getf (hE : CsOk E cc own ret rm nL) {o n d : String} {w : Value} {q idx : Nat} (hF : va_OF o n d w q noA E.s E.s.heap) (hl : Cond.fieldLink own idx o n d ∈ lw_good) (hd : decode cc pc = .ok (.getfield idx, 3)) (k : Ws E (pc + 3) lv (w :: st)) : Ws E pc lv (.ref q :: st) := fun ls H locs h1 h2 => vk_getf hE.1.1 hE.1.2.1 hF h2 hE.1.2.2.2.1 (hE.2.1 _ hl) (fun _ h => h) hd (k ls H locs h1 h2)
theorem ws_tlen (hE : CsOk E cc own ret rm nL) {ty : FieldType} {t N : Nat} {g : Nat → Value} (hT : va_T ty t N g noA E.s E.s.heap) (hd : decode cc pc = .ok (.arraylength, 1)) (k : Ws E (pc + 1) lv (.int (nI N) :: st)) : Ws E pc lv (.ref t :: st) := fun ls H locs h1 h2 => va_tlen hE.1.1 hE.1.2.1 hT h2 (v := nI N) rfl hd (k ls H locs h1 h2)
theorem ws_tb (hE : CsOk E cc own ret rm nL) {t N : Nat} {g : Nat → Value} (hT : va_T .byte t N g noA E.s E.s.heap) {i : Int32} (hi : vp_in i N) {w : Value} (hw : g i.toNatClampNeg = w) (hd : decode cc pc = .ok (.baload, 1)) (k : Ws E (pc + 1) lv (w :: st)) : Ws E pc lv (.int i :: .ref t :: st) := fun ls H locs h1 h2 => va_tb hE.1.1 hE.1.2.1 hT h2 hi hw hd (k ls H locs h1 h2)
theorem ws_zret {ty : FieldType} (hE : CsOk E cc own (some ty) rm nL) {w : Int32} (hQ : E.Q = MQ E.below (Qr (some (.int w))) E.args E.s 0 0 noA) (hn : narrow ty (.int w) = .int w) (hd : decode cc pc = .ok (.ireturn, 1)) : Ws E pc lv [.int w] := by
  intro ls H locs h1 h2
  rw [hQ]
  exact W.zret (v := w) (ty := ty) hE.1.1 hE.1.2.1 hE.1.2.2.2.2.1 hn (fun t ht hW => ⟨rfl, h2.F ht⟩) h2.2.2 hd hE.1.2.2.2.2.2.1
theorem ws_vret (hE : CsOk E cc own none rm nL) (hQ : E.Q = MQ E.below (Qr none) E.args E.s 0 0 noA) (hd : decode cc pc = .ok (.return_, 1)) : Ws E pc lv [] := by
  intro ls H locs h1 h2
  rw [hQ]
  exact W.vret hE.1.1 hE.1.2.1 hE.1.2.2.2.2.1 (fun t ht hW => ⟨rfl, h2.F ht⟩) h2.2.2 hd hE.1.2.2.2.2.2.1
theorem ws_callV (hE : CsOk E cc own ret rm nL) (hK : Bk x v n f E.s) {idx maxL a nn : Nat} {As rest : List Value} {y : MethodName} {bytes : ByteArray} {retc : Option FieldType} {rmc : Room} {val : Option Value} {C : String} (cv : CallVL own idx C y bytes maxL retc nn) (hO : va_O C a noA E.s E.s.heap) (hM : Met E.l y (WS y bytes maxL retc) rmc (va_Pc (.ref a :: As) (Bk x v n f)) (Qr val) 0 0 noA) (hst : st0 = As.reverse ++ .ref a :: rest) (hR : rmc.cells = 0 ∧ rmc.slots = 0 ∧ Nat.ble (rmc.frames + 1) rm.frames = true ∧ Nat.ble (8 + (maxL + 11) + rmc.locals) rm.locals = true) (hn : As.length = nn) (hW : Nat.ble ((rest.map fun v => v.category).sum) 8 = true) (hd : decode cc pc = .ok (.invokevirtual idx, 3)) (kk : Ws E (pc + 3) lv (val.toList ++ rest)) : Ws E pc lv st0 := by
  intro ls H locs h1 h2
  obtain ⟨hl, hin, hse, hini, hco, hy1, hy2, hlen⟩ := cv
  obtain ⟨cell, c1, c2, c3, -⟩ := hO.kept h2.2.1
  have hp : PreV E.s H C a (va_Pc (.ref a :: As) (Bk x v n f)) As := ⟨bk_blind, ⟨cell, c1, c2, c3⟩, bk_at hK h2 _⟩
  have hroom : rmc.frames + 1 ≤ E.R.frames ∧ 8 + (maxL + 11) + rmc.locals ≤ E.R.locals := by rw [hE.1.2.2.2.2.2.2]; exact ⟨Nat.le_of_ble_eq_true hR.2.2.1, Nat.le_of_ble_eq_true hR.2.2.2⟩
  have hfix : CallFix E.p E.m E.c cc E.nL E.s E.args lw_good own := ⟨hE.1.1, hE.1.2.1, hE.1.2.2.1, hE.1.2.2.2.1, hE.2.1⟩
  exact W_runR (v := val) (va_runV hfix hM ⟨callB_of nn hE.2.1 (WS_good hco) rfl hR.1 hR.2.1 (hE.2.1 _ hini) (hE.2.1 _ hl) ⟨hy1, hy2, hlen⟩ hroom, hE.2.1 _ hin, hE.2.1 _ hse⟩ hp rfl hn h1.1 hst (lv_room (Nat.le_of_ble_eq_true hW)) hd ⟨Nat.zero_le _, Nat.zero_le _⟩) h2 (fun H1 locs1 _ hS1 => kk ls H1 locs1 h1 hS1)
theorem ws_callS (hE : CsOk E cc own ret rm nL) (hK : Bk x v n f E.s) {idx maxL nn : Nat} {As rest : List Value} {y : MethodName} {bytes : ByteArray} {retc : Option FieldType} {rmc : Room} {val : Option Value} (cv : CallSL own idx y bytes maxL retc nn) (hM : Met E.l y (WS y bytes maxL retc) rmc (va_Pc As (Bk x v n f)) (Qr val) 0 0 noA) (hst : st0 = As.reverse ++ rest) (hR : rmc.cells = 0 ∧ rmc.slots = 0 ∧ Nat.ble (rmc.frames + 1) rm.frames = true ∧ Nat.ble (8 + (maxL + 11) + rmc.locals) rm.locals = true) (hn : As.length = nn) (hW : Nat.ble ((rest.map fun v => v.category).sum) 8 = true) (hd : decode cc pc = .ok (.invokestatic idx, 3)) (kk : Ws E (pc + 3) lv (val.toList ++ rest)) : Ws E pc lv st0 := by
  intro ls H locs h1 h2
  obtain ⟨hl, hst0, hini, hco, hy1, hy2, hlen⟩ := cv
  have hp : PreS E.s H (va_Pc As (Bk x v n f)) As := ⟨bk_blind, bk_at hK h2 _⟩
  have hroom : rmc.frames + 1 ≤ E.R.frames ∧ 8 + (maxL + 11) + rmc.locals ≤ E.R.locals := by rw [hE.1.2.2.2.2.2.2]; exact ⟨Nat.le_of_ble_eq_true hR.2.2.1, Nat.le_of_ble_eq_true hR.2.2.2⟩
  have hfix : CallFix E.p E.m E.c cc E.nL E.s E.args lw_good own := ⟨hE.1.1, hE.1.2.1, hE.1.2.2.1, hE.1.2.2.2.1, hE.2.1⟩
  exact W_runR (v := val) (va_runS hfix hM ⟨callB_of nn hE.2.1 (WS_good hco) rfl hR.1 hR.2.1 (hE.2.1 _ hini) (hE.2.1 _ hl) ⟨hy1, hy2, hlen⟩ hroom, hE.2.1 _ hst0⟩ hp rfl hn h1.1 hst (lv_room (Nat.le_of_ble_eq_true hW)) hd ⟨Nat.zero_le _, Nat.zero_le _⟩) h2 (fun H1 locs1 _ hS1 => kk ls H1 locs1 h1 hS1)
theorem rd_of {l : Launch} {y : MethodName} {maxL : Nat} {As : List Value} {val : Option Value} (hy : plainName y.cls = true) (hc : y.cls = own) (hlen : (lg_sl As).length ≤ maxL) (body : ∀ E : Cx, CsOk E cc own ret rm maxL → Bk x v n f E.s → E.Q = MQ E.below (Qr val) E.args E.s 0 0 noA → E.l = l → Ws E 0 (lv_args 0 As) []) : Met l y (WS y cc maxL ret) rm (va_Pc As (Bk x v n f)) (Qr val) 0 0 noA := by
  refine Met.ofW (cc := cc) (maxL := maxL) (ret := ret) hy rfl ?_
  intro p e s m args below meth cd s₁ B hml hv
  obtain ⟨rfl, hK⟩ := hv
  have hts := atoms_spec (ws := WS y cc maxL ret) B.pre
  have hown : s.vm.findClass own = some m.cls := by rw [← hc]; exact findClass_of_methodNamed B.named
  rw [lg_entry_eq]
  have h := body (((fun _ => m.cls), ((fun _ => m.cls), fun _ _ => 0), (fun _ => 0), (fun _ => (99, 0, 0, [])), noA), 0, p, l, e, rm, s, m, As.toArray, below, meth, cd, maxL, MQ below (Qr val) As.toArray s 0 0 noA, (none, (fun _ _ => 0, fun _ _ => 0, fun _ _ => 0, fun _ _ => none))) ⟨⟨B.exec, B.bytes, hml, hown, B.returns, B.notSynchronized, rfl⟩, fun w hw => hts w (List.mem_cons_of_mem _ hw), rfl⟩ hK rfl rfl
  exact h _ _ _ (lv_entry As hlen) va_S.rf
end WSS
abbrev rmJ0 : Room := { frames := 0, cells := 0, slots := 0, locals := 0 }
abbrev rmJ1 : Room := { frames := 1, cells := 0, slots := 0, locals := 22 }
abbrev rmJ2 : Room := { frames := 2, cells := 0, slots := 0, locals := 43 }
abbrev rmJ3 : Room := { frames := 3, cells := 0, slots := 0, locals := 64 }
theorem cj_coder : CallVL "java/lang/String" 335 "java/lang/String" yJ0_coder_7d493 cJ0_coder_7d493 1 (some .byte) 0 := ⟨lw_TG 599 (by decide +kernel) (by decide +kernel), lw_TG 600 (by decide +kernel) (by decide +kernel), lw_TG 601 (by decide +kernel) (by decide +kernel), lw_TG 15 (by decide +kernel) (by decide +kernel), lw_TG 602 (by decide +kernel) (by decide +kernel), by decide +kernel, by decide +kernel, by decide +kernel⟩
theorem cj_latin : CallVL "java/lang/String" 492 "java/lang/String" yJ0_isLatin1_aae02 cJ0_isLatin1_aae02 1 (some .boolean) 0 := ⟨lw_TG 610 (by decide +kernel) (by decide +kernel), lw_TG 611 (by decide +kernel) (by decide +kernel), lw_TG 612 (by decide +kernel) (by decide +kernel), lw_TG 15 (by decide +kernel) (by decide +kernel), lw_TG 613 (by decide +kernel) (by decide +kernel), by decide +kernel, by decide +kernel, by decide +kernel⟩
theorem cj_latAt : CallSL "java/lang/String" 495 yJ1_charAt_3b067 cJ1_charAt_3b067 2 (some .char) 2 := ⟨lw_TG 614 (by decide +kernel) (by decide +kernel), lw_TG 615 (by decide +kernel) (by decide +kernel), lw_TG 16 (by decide +kernel) (by decide +kernel), lw_TG 616 (by decide +kernel) (by decide +kernel), by decide +kernel, by decide +kernel, by decide +kernel⟩
theorem cj_check : CallSL "java/lang/StringLatin1" 9 yJ0_checkIndex_df160 cJ0_checkIndex_df160 2 none 2 := ⟨lw_TG 617 (by decide +kernel) (by decide +kernel), lw_TG 618 (by decide +kernel) (by decide +kernel), lw_TG 15 (by decide +kernel) (by decide +kernel), lw_TG 619 (by decide +kernel) (by decide +kernel), by decide +kernel, by decide +kernel, by decide +kernel⟩
theorem cj_pre : CallSL "java/lang/String" 1059 yJ3_checkIndex_8e157 cJ3_checkIndex_8e157 3 (some .int) 3 := ⟨lw_TG 622 (by decide +kernel) (by decide +kernel), lw_TG 623 (by decide +kernel) (by decide +kernel), lw_TG 17 (by decide +kernel) (by decide +kernel), lw_TG 624 (by decide +kernel) (by decide +kernel), by decide +kernel, by decide +kernel, by decide +kernel⟩
theorem fj_comp : Cond.fieldLink "java/lang/String" 38 "java/lang/String" "COMPACT_STRINGS" "Z" ∈ lw_good := lw_TG 603 (by decide +kernel) (by decide +kernel)
theorem fj_form : Cond.fieldLink "java/lang/String" 1053 "jdk/internal/util/Preconditions" "SIOOBE_FORMATTER" "Ljava/util/function/BiFunction;" ∈ lw_good := lw_TG 620 (by decide +kernel) (by decide +kernel)
theorem fj_val : Cond.fieldLink "java/lang/String" 9 "java/lang/String" "value" "[B" ∈ lw_good := lw_TG 1953 (by decide +kernel) (by decide +kernel)
theorem fj_cod : Cond.fieldLink "java/lang/String" 15 "java/lang/String" "coder" "B" ∈ lw_good := lw_TG 1954 (by decide +kernel) (by decide +kernel)
section JDK
variable {l : Launch} {x v n : Nat} {f : Nat → Int32}
theorem mj_coder : Met l yJ0_coder_7d493 (WS yJ0_coder_7d493 cJ0_coder_7d493 1 (some .byte)) rmJ0 (va_Pc [.ref x] (Bk x v n f)) (Qr (some (.int 0))) 0 0 noA := by
  refine rd_of (own := "java/lang/String") (by decide) rfl (Nat.le_of_ble_eq_true rfl) (fun E hE hK hQ _ => ?_)
  refine ws_gets hE hK.2.2.2.2.1 fj_comp dJ0_coder_7d493_0 ?_
  refine ws_if_eq hE 13 rfl dJ0_coder_7d493_3 (fun h => absurd h (by decide)) (fun _ => ?_)
  refine ws_aload_n hE 0 rfl dJ0_coder_7d493_6 ?_
  refine ws_getf hE hK.2.1 fj_cod dJ0_coder_7d493_7 ?_
  refine ws_goto hE 14 rfl dJ0_coder_7d493_10 ?_
  exact ws_zret hE hQ rfl dJ0_coder_7d493_14
theorem mj_latin : Met l yJ0_isLatin1_aae02 (WS yJ0_isLatin1_aae02 cJ0_isLatin1_aae02 1 (some .boolean)) rmJ0 (va_Pc [.ref x] (Bk x v n f)) (Qr (some (.int 1))) 0 0 noA := by
  refine rd_of (own := "java/lang/String") (by decide) rfl (Nat.le_of_ble_eq_true rfl) (fun E hE hK hQ _ => ?_)
  refine ws_gets hE hK.2.2.2.2.1 fj_comp dJ0_isLatin1_aae02_0 ?_
  refine ws_if_eq hE 17 rfl dJ0_isLatin1_aae02_3 (fun h => absurd h (by decide)) (fun _ => ?_)
  refine ws_aload_n hE 0 rfl dJ0_isLatin1_aae02_6 ?_
  refine ws_getf hE hK.2.1 fj_cod dJ0_isLatin1_aae02_7 ?_
  refine ws_if_ne hE 17 rfl dJ0_isLatin1_aae02_10 (fun h => absurd rfl h) (fun _ => ?_)
  refine ws_iconst hE 1 rfl dJ0_isLatin1_aae02_13 ?_
  refine ws_goto hE 18 rfl dJ0_isLatin1_aae02_14 ?_
  exact ws_zret hE hQ rfl dJ0_isLatin1_aae02_18
theorem mj_pre {i m : Int32} {q : Value} (hq : q = .null ∨ ∃ t, q = .ref t) (h0 : ¬ i < 0) (h1 : i < m) : Met l yJ3_checkIndex_8e157 (WS yJ3_checkIndex_8e157 cJ3_checkIndex_8e157 3 (some .int)) rmJ0 (va_Pc [.int i, .int m, q] (Bk x v n f)) (Qr (some (.int i))) 0 0 noA := by
  rcases hq with rfl | ⟨t, rfl⟩
  · refine rd_of (own := "jdk/internal/util/Preconditions") (by decide) rfl (Nat.le_of_ble_eq_true rfl) (fun E hE hK hQ _ => ?_)
    refine ws_iload_n hE 0 rfl dJ3_checkIndex_8e157_0 ?_
    refine ws_if_lt hE 9 rfl dJ3_checkIndex_8e157_1 (fun h => absurd h h0) (fun _ => ?_)
    refine ws_iload_n hE 0 rfl dJ3_checkIndex_8e157_4 ?_
    refine ws_iload_n hE 1 rfl dJ3_checkIndex_8e157_5 ?_
    refine ws_icmp_lt hE 16 rfl dJ3_checkIndex_8e157_6 (fun _ => ?_) (fun h => absurd h1 h)
    refine ws_iload_n hE 0 rfl dJ3_checkIndex_8e157_16 ?_
    exact ws_zret hE hQ rfl dJ3_checkIndex_8e157_17
  · refine rd_of (own := "jdk/internal/util/Preconditions") (by decide) rfl (Nat.le_of_ble_eq_true rfl) (fun E hE hK hQ _ => ?_)
    refine ws_iload_n hE 0 rfl dJ3_checkIndex_8e157_0 ?_
    refine ws_if_lt hE 9 rfl dJ3_checkIndex_8e157_1 (fun h => absurd h h0) (fun _ => ?_)
    refine ws_iload_n hE 0 rfl dJ3_checkIndex_8e157_4 ?_
    refine ws_iload_n hE 1 rfl dJ3_checkIndex_8e157_5 ?_
    refine ws_icmp_lt hE 16 rfl dJ3_checkIndex_8e157_6 (fun _ => ?_) (fun h => absurd h1 h)
    refine ws_iload_n hE 0 rfl dJ3_checkIndex_8e157_16 ?_
    exact ws_zret hE hQ rfl dJ3_checkIndex_8e157_17
theorem mj_check {i m : Int32} (h0 : ¬ i < 0) (h1 : i < m) : Met l yJ0_checkIndex_df160 (WS yJ0_checkIndex_df160 cJ0_checkIndex_df160 2 none) rmJ1 (va_Pc [.int i, .int m] (Bk x v n f)) (Qr none) 0 0 noA := by
  refine rd_of (own := "java/lang/String") (by decide) rfl (Nat.le_of_ble_eq_true rfl) (fun E hE hK hQ hl => ?_)
  subst hl
  refine ws_iload_n hE 0 rfl dJ0_checkIndex_df160_0 ?_
  refine ws_iload_n hE 1 rfl dJ0_checkIndex_df160_1 ?_
  rcases hK.2.2.2.2.2 with hz | ⟨t, hz⟩
  · refine ws_gets hE hz fj_form dJ0_checkIndex_df160_2 ?_
    refine ws_callS (val := some (.int i)) (rest := []) hE hK cj_pre (mj_pre (Or.inl rfl) h0 h1) rfl ⟨rfl, rfl, rfl, rfl⟩ rfl rfl dJ0_checkIndex_df160_5 ?_
    refine ws_pop hE rfl dJ0_checkIndex_df160_8 ?_
    exact ws_vret hE hQ dJ0_checkIndex_df160_9
  · refine ws_gets hE hz fj_form dJ0_checkIndex_df160_2 ?_
    refine ws_callS (val := some (.int i)) (rest := []) hE hK cj_pre (mj_pre (Or.inr ⟨t, rfl⟩) h0 h1) rfl ⟨rfl, rfl, rfl, rfl⟩ rfl rfl dJ0_checkIndex_df160_5 ?_
    refine ws_pop hE rfl dJ0_checkIndex_df160_8 ?_
    exact ws_vret hE hQ dJ0_checkIndex_df160_9
theorem mj_latAt {j : Nat} (hj : j < n) (hn : n < 2 ^ 31) : Met l yJ1_charAt_3b067 (WS yJ1_charAt_3b067 cJ1_charAt_3b067 2 (some .char)) rmJ2 (va_Pc [.ref v, .int (nI j)] (Bk x v n f)) (Qr (some (.int (f j &&& 255)))) 0 0 noA := by
  refine rd_of (own := "java/lang/StringLatin1") (by decide) rfl (Nat.le_of_ble_eq_true rfl) (fun E hE hK hQ hl => ?_)
  subst hl
  refine ws_iload_n hE 1 rfl dJ1_charAt_3b067_0 ?_
  refine ws_aload_n hE 0 rfl dJ1_charAt_3b067_1 ?_
  refine ws_tlen hE hK.2.2.2.1 dJ1_charAt_3b067_2 ?_
  refine ws_callS (val := none) (rest := []) hE hK cj_check (mj_check (i := nI j) (m := nI n) (nI_pos (by omega)) (nI_lt hj hn)) rfl ⟨rfl, rfl, rfl, rfl⟩ rfl rfl dJ1_charAt_3b067_3 ?_
  refine ws_aload_n hE 0 rfl dJ1_charAt_3b067_6 ?_
  refine ws_iload_n hE 1 rfl dJ1_charAt_3b067_7 ?_
  refine ws_tb hE hK.2.2.2.1 (vp_in_nI hj hn) (w := .int (f j)) (by rw [nI_clamp (by omega)]) dJ1_charAt_3b067_8 ?_
  refine ws_sipush hE 255 rfl dJ1_charAt_3b067_9 ?_
  refine ws_iand hE dJ1_charAt_3b067_12 ?_
  refine ws_i2c hE (f j &&& 255) (sc_c2 _) dJ1_charAt_3b067_13 ?_
  exact ws_zret hE hQ (sc_nar _) dJ1_charAt_3b067_14
theorem mj_charAt {j : Nat} (hj : j < n) (hn : n < 2 ^ 31) : Met l yJ0_charAt_5068e (WS yJ0_charAt_5068e cJ0_charAt_5068e 2 (some .char)) rmJ3 (va_Pc [.ref x, .int (nI j)] (Bk x v n f)) (Qr (some (.int (f j &&& 255)))) 0 0 noA := by
  refine rd_of (own := "java/lang/String") (by decide) rfl (Nat.le_of_ble_eq_true rfl) (fun E hE hK hQ hl => ?_)
  subst hl
  refine ws_aload_n hE 0 rfl dJ0_charAt_5068e_0 ?_
  refine ws_callV (val := some (.int 1)) (rest := []) (As := []) hE hK cj_latin hK.1 mj_latin rfl ⟨rfl, rfl, rfl, rfl⟩ rfl rfl dJ0_charAt_5068e_1 ?_
  refine ws_if_eq hE 16 rfl dJ0_charAt_5068e_4 (fun h => absurd h (by decide)) (fun _ => ?_)
  refine ws_aload_n hE 0 rfl dJ0_charAt_5068e_7 ?_
  refine ws_getf hE hK.2.2.1 fj_val dJ0_charAt_5068e_8 ?_
  refine ws_iload_n hE 1 rfl dJ0_charAt_5068e_11 ?_
  refine ws_callS (val := some (.int (f j &&& 255))) (rest := []) hE hK cj_latAt (mj_latAt hj hn) rfl ⟨rfl, rfl, rfl, rfl⟩ rfl rfl dJ0_charAt_5068e_12 ?_
  exact ws_zret hE hQ (sc_nar _) dJ0_charAt_5068e_15
theorem mj_length (hn : n < 2 ^ 31) : Met l yJ0_length_8abf5 (WS yJ0_length_8abf5 cJ0_length_8abf5 1 (some .int)) rmJ1 (va_Pc [.ref x] (Bk x v n f)) (Qr (some (.int (nI n)))) 0 0 noA := by
  refine rd_of (own := "java/lang/String") (by decide) rfl (Nat.le_of_ble_eq_true rfl) (fun E hE hK hQ hl => ?_)
  subst hl
  refine ws_aload_n hE 0 rfl dJ0_length_8abf5_0 ?_
  refine ws_getf hE hK.2.2.1 fj_val dJ0_length_8abf5_1 ?_
  refine ws_tlen hE hK.2.2.2.1 dJ0_length_8abf5_4 ?_
  refine ws_aload_n hE 0 rfl dJ0_length_8abf5_5 ?_
  refine ws_callV (val := some (.int 0)) (rest := [.int (nI n)]) (As := []) hE hK cj_coder hK.1 mj_coder rfl ⟨rfl, rfl, rfl, rfl⟩ rfl rfl dJ0_length_8abf5_6 ?_
  refine ws_ishr hE dJ0_length_8abf5_9 ?_
  rw [sc_shr0 hn]
  exact ws_zret hE hQ rfl dJ0_length_8abf5_10
end JDK
