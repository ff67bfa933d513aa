/-! THE LAW: rows of its walk over both systems -/
def Wl (E : Cx) (YR : Sys) (pc : Nat) (lv : List (Nat × Value)) (st : List Value) (C R : Mm) : Prop :=
  ∀ (ls : Array Slot) (H : Heap) (locs : List Loc), lv_has ls E.nL lv → va_P E.Y.D vwCl (wld E.Y 474 C) H → va_P YR.D vwCl (wld YR 27 R) H → va_S (fun q => E.s.heap.size ≤ q) E.s.heap H locs → W E.p E.l E.e E.R E.s E.m E.args E.below E.meth E.c H locs 600000 7302250 E.Q (F0 E.m pc ls st)
def ClOk (E : Cx) (YR : Sys) (b L : Nat) (xs : Nat → Int32) : Prop :=
  (E.p.tables.exec = Jvm.exec ∧ E.c.code = cL_law ∧ E.c.maxLocals = E.nL ∧ E.nL = 4 ∧ E.s.vm.findClass RL = some E.m.cls ∧ E.R = room_1) ∧ (∀ w ∈ lw_good, w.before E.args E.s = true) ∧ (va_X b L xs E.s E.s.heap ∧ b < E.s.heap.size ∧ L ≤ 3072) ∧ (SysOk E.Y 474 shC ∧ va_K E.Y.D vwCl (tys7 E.Y.c) E.s ∧ Xf E.Y E.s ∧ (∀ q, E.Y.A q → E.s.heap.size ≤ q) ∧ ∀ r, r < 27 → ¬ E.Y.A (YR.ad r)) ∧ SysOk YR 27 shR ∧ va_K YR.D vwCl (tys7 YR.c) E.s ∧ Xf YR E.s ∧ (∀ q, YR.A q → E.s.heap.size ≤ q) ∧ ∀ r, r < 474 → ¬ YR.A (E.Y.ad r)
def lvL (E : Cx) (YR : Sys) (b i : Nat) : List (Nat × Value) := [(3, .int (nI i)), (2, .ref (YR.ad 0)), (1, .ref (E.Y.ad 0)), (0, .ref b)]
def z01 (x : Int32) : Int32 := if x = 0 then 0 else 1
theorem bl01 (x : Int32) : z01 x = 0 ∨ z01 x = 1 := by
  by_cases h : x = 0
  · exact Or.inl (if_pos h)
  · exact Or.inr (if_neg h)
theorem W_runZ {p : Program} {l : Launch} {e : Env} {Ro : Room} {s : State} {m : MethodId} {args : Array Value} {below : List Frame} {meth : Method} {c : Code} {H : Heap} {locs : List Loc} {cs sl pc : Nat} {Q : State → Prop} {Z : Sys} {T : Nat} {A0 : Nat → Prop} {r : Option Value × Mm} {ls : Array Slot} {st0 rest : List Value} {av : Array Value} (hA : ∀ q, Z.A q → A0 q) (hr : va_Run p l e Ro s m args below meth c H locs cs sl 0 0 (F0 m pc ls st0) rest (Qp Z T r av) Z.A) (hS : va_S A0 s.heap H locs)
    (kk : ∀ (H1 : Heap) (locs1 : List Loc), va_P Z.D vwCl (wld Z T r.2) H1 → (∀ q : Nat, q < H.size → ¬ Z.A q → H1[q]? = H[q]?) → va_S A0 s.heap H1 locs1 → W p l e Ro s m args below meth c H1 locs1 cs sl Q (F0 m (pc + 3) ls (r.1.toList ++ rest))) : W p l e Ro s m args below meth c H locs cs sl Q (F0 m pc ls st0) := by
  intro T0 hT X
  obtain ⟨v, st₀, u, T', L, h0, X', hL, e1, e2, ⟨hv, hP, hz, hk⟩, stp⟩ := hr T0 hT X
  cases hv
  rw [h0] at hz hk
  rw [← e1] at hP
  obtain ⟨t2, a1, b1⟩ := kk T'.heap (locs ++ L) hP (fun q h1 h2 => by rw [e1]; exact hk q h1 h2) ⟨Nat.le_trans hS.1 (by rw [e1]; exact hz), fun q h1 h2 => by rw [e1, hk q (Nat.lt_of_lt_of_le h1 hS.1) (fun h => h2 (hA q h))]; exact hS.2.1 q h1 h2, fun q hq => by
      rcases List.mem_append.mp hq with h | h
      · exact hS.2.2 q h
      · exact hA _ (hL q h)⟩ T' rfl X'
  exact ⟨t2, stp t2 a1, b1⟩
theorem wld_kept {Y Z : Sys} {T : Nat} {M : Mm} {H H1 : Heap} (h : va_P Y.D vwCl (wld Y T M) H) (hn : ∀ r, r < T → ¬ Z.A (Y.ad r)) (hk : ∀ q : Nat, q < H.size → ¬ Z.A q → H1[q]? = H[q]?) : va_P Y.D vwCl (wld Y T M) H1 := by
  intro k q hq
  have hkt : k < T := by rw [← wld_len Y T M]; exact (List.getElem?_eq_some_iff.mp hq).1
  have h7 := h k q hq
  rw [wld_get _ _ hkt] at hq
  cases hq
  exact h7.kept (hk _ h7.lt (hn k hkt))
section LAW
variable {E : Cx} {YR : Sys} {b L pc : Nat} {xs : Nat → Int32} {lv : List (Nat × Value)} {st st0 : List Value} {C R : Mm}
theorem wl_pre {Y : Sys} {T : Nat} {M : Mm} (hK : va_K Y.D vwCl (tys7 Y.c) E.s) (hX : Xf Y E.s) {H : Heap} {locs : List Loc} (h2 : va_P Y.D vwCl (wld Y T M) H) (h4 : va_S (fun q => E.s.heap.size ≤ q) E.s.heap H locs) (As : List Value) : ∀ U : State, U.heap = H → E.s.WarmedH U.vm → va_Pc As (Pre Y T M) As.toArray U := by
  intro U hU hW
  exact ⟨rfl, by rw [hU]; exact h2, va_K.moved hW.alike hK, hX.go hW (by rw [hU]; exact h4.1) (fun q h1 _ => by rw [hU]; exact h4.2.1 q h1 (Nat.not_le.mpr h1))⟩
theorem wl_callC (hE : ClOk E YR b L xs) {idx n maxL : Nat} {As rest : List Value} {y : MethodName} {bytes : ByteArray} {retc : Option FieldType} {rmc : Room} {v : Option Value} {C' : Mm} (cv : CallV RL idx RX11 y bytes maxL retc n) (hM : Cm E.l E.Y 474 y (WS y bytes maxL retc) rmc (.ref (E.Y.ad 0) :: As) C (v, C')) (hst : st0 = As.reverse ++ .ref (E.Y.ad 0) :: rest)
    (hR : rmc.cells = 0 ∧ rmc.slots = 0 ∧ Nat.ble (rmc.frames + 1) 13 = true ∧ Nat.ble (8 + (maxL + 11) + rmc.locals) 486 = true) (hn : As.length = n) (hW : Nat.ble ((rest.map fun v => v.category).sum) 8 = true) (hd : decode cL_law pc = .ok (.invokevirtual idx, 3)) (kk : Wl E YR (pc + 3) lv (v.toList ++ rest) C' R) : Wl E YR pc lv st0 C R := by
  intro ls H locs h1 h2 h3 h4
  obtain ⟨hl, hin, hse, hini, hco, hy1, hy2, hlen⟩ := cv
  obtain ⟨⟨e1, e2, e3, e4, e5, e6⟩, hg, -, ⟨hY, hK, hX, hA, hN⟩, -⟩ := hE
  have hob : (wld E.Y 474 C)[0]? = some (E.Y.ad 0, .inr (10, fvs E.Y.ad C 0 0 shCX11.2.2.2)) := by
    rw [wld_get E.Y C (by decide)]
    simp only [ent, hY.1, shC_0]
  have hrec := va_recv hK h2 (show vwCl[10]? = some (RX11, TX11, 16) from rfl) hob
  have hp : PreV E.s H RX11 (E.Y.ad 0) (va_Pc (.ref (E.Y.ad 0) :: As) (Pre E.Y 474 C)) As := ⟨pre_blind, hrec, wl_pre hK hX h2 h4 _⟩
  have hroom : rmc.frames + 1 ≤ E.R.frames ∧ 8 + (maxL + 11) + rmc.locals ≤ E.R.locals := by rw [e6]; exact ⟨Nat.le_of_ble_eq_true hR.2.2.1, Nat.le_of_ble_eq_true hR.2.2.2⟩
  have hfix : CallFix E.p E.m E.c cL_law E.nL E.s E.args lw_good RL := ⟨e1, e2, e3, e5, hg⟩
  have hf : 600000 + 0 ≤ E.R.cells ∧ 7302250 + 0 ≤ E.R.slots := by rw [e6]; exact ⟨Nat.le_refl _, Nat.le_refl _⟩
  rcases hl with hl | ⟨host, hl⟩
  · exact W_runZ (Z := E.Y) (T := 474) (r := (v, C')) hA (va_runV hfix hM ⟨callB_of n hg (WS_good hco) rfl hR.1 hR.2.1 (hg _ hini) (hg _ hl) ⟨hy1, hy2, hlen⟩ hroom, hg _ hin, hg _ hse⟩ hp rfl hn h1.1 hst (lv_room (Nat.le_of_ble_eq_true hW)) hd hf) h4 (fun H1 locs1 hP hk hS1 => kk ls H1 locs1 h1 hP (wld_kept h3 hN hk) hS1)
  · exact W_runZ (Z := E.Y) (T := 474) (r := (v, C')) hA (va_runVN hfix hM ⟨va_cnB n hg (WS_good hco) rfl hR.1 hR.2.1 (hX.nestM hl) (hg _ hini) ⟨hy1, hy2, hlen⟩ hroom, hg _ hin, hg _ hse⟩ hp rfl hn h1.1 hst (lv_room (Nat.le_of_ble_eq_true hW)) hd hf) h4 (fun H1 locs1 hP hk hS1 => kk ls H1 locs1 h1 hP (wld_kept h3 hN hk) hS1)
theorem wl_callR (hE : ClOk E YR b L xs) {idx n maxL : Nat} {As rest : List Value} {y : MethodName} {bytes : ByteArray} {retc : Option FieldType} {rmc : Room} {v : Option Value} {R' : Mm} (cv : CallV RL idx RX12 y bytes maxL retc n) (hM : Cm E.l YR 27 y (WS y bytes maxL retc) rmc (.ref (YR.ad 0) :: As) R (v, R')) (hst : st0 = As.reverse ++ .ref (YR.ad 0) :: rest)
    (hR : rmc.cells = 0 ∧ rmc.slots = 0 ∧ Nat.ble (rmc.frames + 1) 13 = true ∧ Nat.ble (8 + (maxL + 11) + rmc.locals) 486 = true) (hn : As.length = n) (hW : Nat.ble ((rest.map fun v => v.category).sum) 8 = true) (hd : decode cL_law pc = .ok (.invokevirtual idx, 3)) (kk : Wl E YR (pc + 3) lv (v.toList ++ rest) C R') : Wl E YR pc lv st0 C R := by
  intro ls H locs h1 h2 h3 h4
  obtain ⟨hl, hin, hse, hini, hco, hy1, hy2, hlen⟩ := cv
  obtain ⟨⟨e1, e2, e3, e4, e5, e6⟩, hg, -, -, hY, hK, hX, hA, hN⟩ := hE
  have hob : (wld YR 27 R)[0]? = some (YR.ad 0, .inr (11, fvs YR.ad R 0 0 (shR 0).2.2.2)) := by
    rw [wld_get YR R (by decide)]
    simp only [ent, hY.1]
    rfl
  have hrec := va_recv hK h3 (show vwCl[11]? = some (RX12, TX12, 69) from rfl) hob
  have hp : PreV E.s H RX12 (YR.ad 0) (va_Pc (.ref (YR.ad 0) :: As) (Pre YR 27 R)) As := ⟨pre_blind, hrec, wl_pre hK hX h3 h4 _⟩
  have hroom : rmc.frames + 1 ≤ E.R.frames ∧ 8 + (maxL + 11) + rmc.locals ≤ E.R.locals := by rw [e6]; exact ⟨Nat.le_of_ble_eq_true hR.2.2.1, Nat.le_of_ble_eq_true hR.2.2.2⟩
  have hfix : CallFix E.p E.m E.c cL_law E.nL E.s E.args lw_good RL := ⟨e1, e2, e3, e5, hg⟩
  have hf : 600000 + 0 ≤ E.R.cells ∧ 7302250 + 0 ≤ E.R.slots := by rw [e6]; exact ⟨Nat.le_refl _, Nat.le_refl _⟩
  rcases hl with hl | ⟨host, hl⟩
  · exact W_runZ (Z := YR) (T := 27) (r := (v, R')) hA (va_runV hfix hM ⟨callB_of n hg (WS_good hco) rfl hR.1 hR.2.1 (hg _ hini) (hg _ hl) ⟨hy1, hy2, hlen⟩ hroom, hg _ hin, hg _ hse⟩ hp rfl hn h1.1 hst (lv_room (Nat.le_of_ble_eq_true hW)) hd hf) h4 (fun H1 locs1 hP hk hS1 => kk ls H1 locs1 h1 (wld_kept h2 hN hk) hP hS1)
  · exact W_runZ (Z := YR) (T := 27) (r := (v, R')) hA (va_runVN hfix hM ⟨va_cnB n hg (WS_good hco) rfl hR.1 hR.2.1 (hX.nestM hl) (hg _ hini) ⟨hy1, hy2, hlen⟩ hroom, hg _ hin, hg _ hse⟩ hp rfl hn h1.1 hst (lv_room (Nat.le_of_ble_eq_true hW)) hd hf) h4 (fun H1 locs1 hP hk hS1 => kk ls H1 locs1 h1 (wld_kept h2 hN hk) hP hS1)
theorem wl_aload_n (hE : ClOk E YR b L xs) (k0 : Nat) {j : Fin 4} {x : Nat} (hl : lv[k0]? = some ((j : Nat), .ref x)) (hd : decode cL_law pc = .ok (.aload_n j, 1)) (k : Wl E YR (pc + 1) lv (.ref x :: st) C R) : Wl E YR pc lv st C R := fun ls H locs h1 h2 h3 h4 => lv_aload_n hE.1.1 hE.1.2.1 hd rfl (lv_at h1 k0 hl) (k ls H locs h1 h2 h3 h4)
theorem wl_iload_n (hE : ClOk E YR b L xs) (k0 : Nat) {j : Fin 4} {x : Int32} (hl : lv[k0]? = some ((j : Nat), .int x)) (hd : decode cL_law pc = .ok (.iload_n j, 1)) (k : Wl E YR (pc + 1) lv (.int x :: st) C R) : Wl E YR pc lv st C R := fun ls H locs h1 h2 h3 h4 => lv_iload_n hE.1.1 hE.1.2.1 hd rfl (lv_at h1 k0 hl) (k ls H locs h1 h2 h3 h4)
theorem wl_iconst (hE : ClOk E YR b L xs) {n : Int} (v : Int32) (hv : Int32.ofInt n = v) (hd : decode cL_law pc = .ok (.iconst n, 1)) (k : Wl E YR (pc + 1) lv (.int v :: st) C R) : Wl E YR pc lv st C R := fun ls H locs h1 h2 h3 h4 => lv_iconst hE.1.1 hE.1.2.1 hd hv (k ls H locs h1 h2 h3 h4)
theorem wl_bipush (hE : ClOk E YR b L xs) {n : Int} (v : Int32) (hv : (Int8.ofInt n).toInt32 = v) (hd : decode cL_law pc = .ok (.bipush n, 2)) (k : Wl E YR (pc + 2) lv (.int v :: st) C R) : Wl E YR pc lv st C R := fun ls H locs h1 h2 h3 h4 => lv_bipush hE.1.1 hE.1.2.1 hd hv (k ls H locs h1 h2 h3 h4)
theorem wl_iadd (hE : ClOk E YR b L xs) {x y : Int32} (hd : decode cL_law pc = .ok (.iadd, 1)) (k : Wl E YR (pc + 1) lv (.int (x + y) :: st) C R) : Wl E YR pc lv (.int y :: .int x :: st) C R := fun ls H locs h1 h2 h3 h4 => lv_iadd hE.1.1 hE.1.2.1 hd (k ls H locs h1 h2 h3 h4)
theorem wl_isub (hE : ClOk E YR b L xs) {x y : Int32} (hd : decode cL_law pc = .ok (.isub, 1)) (k : Wl E YR (pc + 1) lv (.int (x - y) :: st) C R) : Wl E YR pc lv (.int y :: .int x :: st) C R := fun ls H locs h1 h2 h3 h4 => lv_isub hE.1.1 hE.1.2.1 hd (k ls H locs h1 h2 h3 h4)
theorem wl_iand (hE : ClOk E YR b L xs) {x y : Int32} (hd : decode cL_law pc = .ok (.iand, 1)) (k : Wl E YR (pc + 1) lv (.int (x &&& y) :: st) C R) : Wl E YR pc lv (.int y :: .int x :: st) C R := fun ls H locs h1 h2 h3 h4 => lv_iand hE.1.1 hE.1.2.1 hd (k ls H locs h1 h2 h3 h4)
theorem wl_goto (hE : ClOk E YR b L xs) {off : Int} (tgt : Nat) (ht : (pc : Int) + off = (tgt : Int)) (hd : decode cL_law pc = .ok (.goto off, 3)) (k : Wl E YR tgt lv st C R) : Wl E YR pc lv st C R := fun ls H locs h1 h2 h3 h4 => lv_goto hE.1.1 hE.1.2.1 hd ht (k ls H locs h1 h2 h3 h4)
theorem wl_same (hE : ClOk E YR b L xs) {x : Int32} {off : Int} (tgt : Nat) (ht : (pc : Int) + off = (tgt : Int)) (hd : decode cL_law pc = .ok (.if_icmp .eq off, 3)) (k : Wl E YR tgt lv st C R) : Wl E YR pc lv (.int x :: .int x :: st) C R := fun ls H locs h1 h2 h3 h4 => lv_icmp_eq hE.1.1 hE.1.2.1 hd ht (fun _ => k ls H locs h1 h2 h3 h4) (fun hc => absurd rfl hc)
theorem wl_if_eq (hE : ClOk E YR b L xs) {x : Int32} {off : Int} (tgt : Nat) (ht : (pc : Int) + off = (tgt : Int)) (hd : decode cL_law pc = .ok (.ifCond .eq off, 3)) (k1 : x = 0 → Wl E YR tgt lv st C R) (k2 : ¬ x = 0 → Wl E YR (pc + 3) lv st C R) : Wl E YR pc lv (.int x :: st) C R := fun ls H locs h1 h2 h3 h4 => lv_if_eq hE.1.1 hE.1.2.1 hd ht (fun hc => k1 hc ls H locs h1 h2 h3 h4) (fun hc => k2 hc ls H locs h1 h2 h3 h4)
theorem wl_icmp_gt (hE : ClOk E YR b L xs) {x y : Int32} {off : Int} (tgt : Nat) (ht : (pc : Int) + off = (tgt : Int)) (hd : decode cL_law pc = .ok (.if_icmp .gt off, 3)) (k1 : y < x → Wl E YR tgt lv st C R) (k2 : ¬ y < x → Wl E YR (pc + 3) lv st C R) : Wl E YR pc lv (.int y :: .int x :: st) C R := fun ls H locs h1 h2 h3 h4 => lv_icmp_gt hE.1.1 hE.1.2.1 hd ht (fun hc => k1 hc ls H locs h1 h2 h3 h4) (fun hc => k2 hc ls H locs h1 h2 h3 h4)
theorem wl_lcmp (hE : ClOk E YR b L xs) {x y : Int64} (hd : decode cL_law pc = .ok (.lcmp, 1)) (k : Wl E YR (pc + 1) lv (.int (lg_cmp x y) :: st) C R) : Wl E YR pc lv (.long y :: .long x :: st) C R := fun ls H locs h1 h2 h3 h4 => W.lcmp hE.1.1 hE.1.2.1 hd (k ls H locs h1 h2 h3 h4)
theorem wl_sld (hE : ClOk E YR b L xs) {i : Nat} (hi : i < L) (hd : decode cL_law pc = .ok (.iaload, 1)) (k : Wl E YR (pc + 1) lv (.int (xs i) :: st) C R) : Wl E YR pc lv (.int (nI i) :: .ref b :: st) C R := fun ls H locs h1 h2 h3 h4 => by
  obtain ⟨hX, hb, hL⟩ := hE.2.2.1
  exact va_sld hE.1.1 hE.1.2.1 hX hb (Nat.not_le.mpr hb) h4 (vp_in_nI hi (by omega)) hd (by rw [nI_clamp (by omega)]; exact k ls H locs h1 h2 h3 h4)
theorem wl_slen (hE : ClOk E YR b L xs) (hd : decode cL_law pc = .ok (.arraylength, 1)) (k : Wl E YR (pc + 1) lv (.int (nI L) :: st) C R) : Wl E YR pc lv (.ref b :: st) C R := fun ls H locs h1 h2 h3 h4 => va_slen hE.1.1 hE.1.2.1 hE.2.2.1.1 hE.2.2.1.2.1 (Nat.not_le.mpr hE.2.2.1.2.1) h4 hd (k ls H locs h1 h2 h3 h4)
theorem wl_tbl (hE : ClOk E YR b L xs) {dflt lo hi : Int} {offs : Array Int} {len : Nat} {x : Int32} {off : Int} (tgt : Nat) (hd : decode cL_law pc = .ok (.tableswitch dflt lo hi offs, len)) (h1 : ¬ x.toInt < lo) (h2 : ¬ hi < x.toInt) (ho : offs[(x.toInt - lo).toNat]? = some off) (ht : (pc : Int) + off = (tgt : Int)) (k : Wl E YR tgt lv st C R) : Wl E YR pc lv (.int x :: st) C R := fun ls H locs g1 g2 g3 g4 => lv_tableIn hE.1.1 hE.1.2.1 hd h1 h2 ho ht (k ls H locs g1 g2 g3 g4)
theorem wl_tblO (hE : ClOk E YR b L xs) {dflt lo hi : Int} {offs : Array Int} {len : Nat} {x : Int32} (tgt : Nat) (hd : decode cL_law pc = .ok (.tableswitch dflt lo hi offs, len)) (h : x.toInt < lo ∨ hi < x.toInt) (ht : (pc : Int) + dflt = (tgt : Int)) (k : Wl E YR tgt lv st C R) : Wl E YR pc lv (.int x :: st) C R := fun ls H locs g1 g2 g3 g4 => lv_tableOut hE.1.1 hE.1.2.1 hd h ht (k ls H locs g1 g2 g3 g4)
theorem wl_iinc (hE : ClOk E YR b L xs) {i : Nat} (hd : decode cL_law pc = .ok (.iinc 3 6, 3)) (k : Wl E YR (pc + 3) (lvL E YR b (i + 6)) st C R) : Wl E YR pc (lvL E YR b i) st C R := fun ls H locs h1 h2 h3 h4 => lv_iinc (k := 0) (v := nI (i + 6)) hE.1.1 hE.1.2.1 hd h1 rfl (nA_6 i) (by rw [hE.1.2.2.2.1]; decide) rfl (fun ls h1 => k ls H locs h1 h2 h3 h4)
/-- an argument: script[i + j] -/
theorem wl_arg (hE : ClOk E YR b L xs) {i : Nat} (hi : i + 6 ≤ L) (j : Nat) {n : Int} (v : Int32) (hv : Int32.ofInt n = v) (hj : j < 6) (ha : nI i + v = nI (i + j)) (d0 : decode cL_law pc = .ok (.aload_n 0, 1)) (d1 : decode cL_law (pc + 1) = .ok (.iload_n 3, 1)) (d2 : decode cL_law (pc + 2) = .ok (.iconst n, 1)) (d3 : decode cL_law (pc + 3) = .ok (.iadd, 1)) (d4 : decode cL_law (pc + 4) = .ok (.iaload, 1)) (k : Wl E YR (pc + 5) (lvL E YR b i) (.int (xs (i + j)) :: st) C R) : Wl E YR pc (lvL E YR b i) st C R := by
  refine wl_aload_n hE 3 rfl d0 ?_
  refine wl_iload_n hE 0 rfl d1 ?_
  refine wl_iconst hE v hv d2 ?_
  refine wl_iadd hE d3 ?_
  rw [ha]
  exact wl_sld hE (by omega) d4 k
theorem lg_cmp_rf (x : Int64) : lg_cmp x x = 0 := by
  unfold lg_cmp
  simp
theorem wl_bool (hE : ClOk E YR b L xs) {x : Int32} (d0 : decode cL_law pc = .ok (.ifCond .eq 7, 3)) (d1 : decode cL_law (pc + 3) = .ok (.iconst 1, 1)) (d2 : decode cL_law (pc + 4) = .ok (.goto 4, 3)) (d3 : decode cL_law (pc + 7) = .ok (.iconst 0, 1)) (k : Wl E YR (pc + 8) lv (.int (z01 x) :: st) C R) : Wl E YR pc lv (.int x :: st) C R := by
  refine wl_if_eq hE (pc + 7) (by omega) d0 (fun hc => ?_) (fun hc => ?_)
  · refine wl_iconst hE 0 rfl d3 ?_
    have e : z01 x = 0 := if_pos hc
    rw [e] at k
    exact k
  · refine wl_iconst hE 1 rfl d1 ?_
    refine wl_goto hE (pc + 8) (by omega) d2 ?_
    have e : z01 x = 1 := if_neg hc
    rw [e] at k
    exact k
end LAW
theorem and63 (x : Int32) : ∃ k, k < 64 ∧ x &&& 63 = nI k := by
  refine ⟨(x &&& 63).toBitVec.toNat, ?_, ?_⟩
  · rw [Int32.toBitVec_and, BitVec.toNat_and]
    exact Nat.lt_of_le_of_lt Nat.and_le_right (by decide)
  · apply Int32.toBitVec_inj.mp
    show _ = (Int32.ofNat _).toBitVec
    rw [Int32.toBitVec_ofNat']
    simp
