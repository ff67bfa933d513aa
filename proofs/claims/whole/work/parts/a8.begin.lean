/-! THE LAW: its beginning, what the start gives (tools/gen8.py) -/
theorem nk_L_7 : NewOk RL 7 10 16 [.null, .null, .null, .null, .null, .null, .null, .int 0, .int 0, .null, .null, .null, .null, .int 0, .int 0, .long 0] := ⟨RX11, TX11, tyX11, rfl, inG11, tyX11_ok, (lw_TG 24 (by decide +kernel) (by decide +kernel)), (lw_TG 25 (by decide +kernel) (by decide +kernel)), (lw_TG 1 (by decide +kernel) (by decide +kernel)), fun j hj => match j, hj with | 0, _ => rfl | 1, _ => rfl | 2, _ => rfl | 3, _ => rfl | 4, _ => rfl | 5, _ => rfl | 6, _ => rfl | 7, _ => rfl | 8, _ => rfl | 9, _ => rfl | 10, _ => rfl | 11, _ => rfl | 12, _ => rfl | 13, _ => rfl | 14, _ => rfl | 15, _ => rfl | (n + 16), h => absurd h (by omega)⟩
theorem nk_L_10 : NewOk RL 10 11 69 [.int 0, .int 0, .int 0, .int 0, .int 0, .int 0, .int 0, .int 0, .int 0, .int 0, .int 0, .int 0, .int 0, .null, .null, .null, .null, .null, .null, .int 0, .int 0, .int 0, .int 0, .int 0, .int 0, .int 0, .int 0, .int 0, .int 0, .int 0, .int 0, .int 0, .null, .null, .null, .null, .null, .null, .null, .int 0, .null, .int 0, .int 0, .int 0, .int 0, .int 0, .int 0, .int 0, .null, .null, .null, .null, .null, .int 0, .int 0, .int 0, .int 0, .int 0, .int 0, .null, .null, .int 0, .null, .null, .null, .null, .int 0, .null, .int 0] := ⟨RX12, TX12, tyX12, rfl, inG12, tyX12_ok, (lw_TG 1270 (by decide +kernel) (by decide +kernel)), (lw_TG 1271 (by decide +kernel) (by decide +kernel)), (lw_TG 12 (by decide +kernel) (by decide +kernel)), fun j hj => match j, hj with | 0, _ => rfl | 1, _ => rfl | 2, _ => rfl | 3, _ => rfl | 4, _ => rfl | 5, _ => rfl | 6, _ => rfl | 7, _ => rfl | 8, _ => rfl | 9, _ => rfl | 10, _ => rfl | 11, _ => rfl | 12, _ => rfl | 13, _ => rfl | 14, _ => rfl | 15, _ => rfl | 16, _ => rfl | 17, _ => rfl | 18, _ => rfl | 19, _ => rfl | 20, _ => rfl | 21, _ => rfl | 22, _ => rfl | 23, _ => rfl | 24, _ => rfl | 25, _ => rfl | 26, _ => rfl | 27, _ => rfl | 28, _ => rfl | 29, _ => rfl | 30, _ => rfl | 31, _ => rfl | 32, _ => rfl | 33, _ => rfl | 34, _ => rfl | 35, _ => rfl | 36, _ => rfl | 37, _ => rfl | 38, _ => rfl | 39, _ => rfl | 40, _ => rfl | 41, _ => rfl | 42, _ => rfl | 43, _ => rfl | 44, _ => rfl | 45, _ => rfl | 46, _ => rfl | 47, _ => rfl | 48, _ => rfl | 49, _ => rfl | 50, _ => rfl | 51, _ => rfl | 52, _ => rfl | 53, _ => rfl | 54, _ => rfl | 55, _ => rfl | 56, _ => rfl | 57, _ => rfl | 58, _ => rfl | 59, _ => rfl | 60, _ => rfl | 61, _ => rfl | 62, _ => rfl | 63, _ => rfl | 64, _ => rfl | 65, _ => rfl | 66, _ => rfl | 67, _ => rfl | 68, _ => rfl | (n + 69), h => absurd h (by omega)⟩
theorem ik_L_9 : InitOk RL 9 yX11_init cX11_init 2 0 := ⟨Or.inl (lw_TG 26 (by decide +kernel) (by decide +kernel)), (lw_TG 27 (by decide +kernel) (by decide +kernel)), (lw_TG 1 (by decide +kernel) (by decide +kernel)), (lw_TG 28 (by decide +kernel) (by decide +kernel)), by decide, by decide, by decide +kernel, rfl⟩
set_option maxRecDepth 100000 in
set_option maxHeartbeats 4000000 in
theorem ik_L_12 : InitOk RL 12 yX12_init cX12_init 1 0 := ⟨Or.inl (lw_TG 1272 (by decide +kernel) (by decide +kernel)), (lw_TG 1273 (by decide +kernel) (by decide +kernel)), (lw_TG 12 (by decide +kernel) (by decide +kernel)), (lw_TG 1274 rfl (by decide +kernel)), by decide, by decide, by decide +kernel, rfl⟩
def CuOk (E : Cx) (cc : ByteArray) (own : String) (rm : Room) (nL : Nat) : Prop :=
  (E.p.tables.exec = Jvm.exec ∧ E.c.code = cc ∧ E.c.maxLocals = E.nL ∧ E.s.vm.findClass own = some E.m.cls ∧ True ∧ True ∧ E.R = rm ∧ True) ∧ (∀ w ∈ lw_good, w.before E.args E.s = true) ∧ va_K E.Y.D vwCl (tys7 E.Y.c) E.s ∧ E.nL = nL ∧ Xn E.s ∧ ∀ q : Nat, E.s.heap.size ≤ q → E.Y.A q
section WU
variable {E : Cx} {cc : ByteArray} {own : String} {rm : Room} {nL pc cs sl : Nat} {lv : List (Nat × Value)} {st st0 : List Value} {ws : va_W}
theorem CuOk.nl (h : CuOk E cc own rm nL) : E.nL = nL := h.2.2.2.1
theorem CuOk.r (h : CuOk E cc own rm nL) : E.R = rm := h.1.2.2.2.2.2.2.1
theorem wu_iconst (hE : CuOk E cc own rm nL) {n : Int} (v : Int32) (hv : Int32.ofInt n = v) (hd : decode cc pc = .ok (.iconst n, 1)) (k : Wv E (pc + 1) lv (.int v :: st) cs sl ws) : Wv E pc lv st cs sl ws := fun ls H locs h1 h2 h3 h4 => lv_iconst hE.1.1 hE.1.2.1 hd hv (k ls H locs h1 h2 h3 h4)
theorem wu_dup (hE : CuOk E cc own rm nL) {va : Value} (hva : va.category = 1) (hd : decode cc pc = .ok (.dup, 1)) (k : Wv E (pc + 1) lv (va :: va :: st) cs sl ws) : Wv E pc lv (va :: st) cs sl ws := fun ls H locs h1 h2 h3 h4 => lv_dup hE.1.1 hE.1.2.1 hd hva (k ls H locs h1 h2 h3 h4)
theorem wu_istore_n (hE : CuOk E cc own rm nL) {j : Fin 4} {x : Int32} (lv1 : List (Nat × Value)) (hl : ((j : Nat), Value.int x) :: lv.filter (fun q => !(q.1 == (j : Nat)) && !(q.1 + 1 == (j : Nat) && q.2.category == 2)) = lv1) (hn : Nat.ble ((j : Nat) + 1) nL = true) (hd : decode cc pc = .ok (.istore_n j, 1)) (k : Wv E (pc + 1) lv1 st cs sl ws) : Wv E pc lv (.int x :: st) cs sl ws := fun ls H locs h1 h2 h3 h4 => lv_istore_n hE.1.1 hE.1.2.1 hd rfl h1 (by rw [hE.nl]; exact Nat.le_of_ble_eq_true hn) hl (fun ls h1 => k ls H locs h1 h2 h3 h4)
theorem wu_new (hE : CuOk E cc own rm nL) {idx ci N : Nat} {fs : List Value} (nw : NewOk own idx ci N fs) (hc : Nat.ble (cs + 1) rm.cells = true) (hs : Nat.ble (sl + N) rm.slots = true) (hd : decode cc pc = .ok (.new idx, 3)) (k : ∀ q : Nat, Wv E (pc + 3) lv (.ref q :: st) (cs + 1) (sl + N) (ws ++ [(q, .inr (ci, fs))])) : Wv E pc lv st cs sl ws := by
  intro ls H locs h1 h2 h3 h4
  obtain ⟨C, T, ty, n1, n2, n3, n4, n5, n6, n7⟩ := nw
  exact va_new hE.1.1 hE.1.2.1 hE.2.1 n2 ty n3 hE.1.2.2.2.1 (hE.2.1 _ n4) (hE.2.1 _ n5) (hE.2.1 _ n6) hE.2.2.1 h2 h3 h4 hE.2.2.2.2.2 n1 n7 (by rw [hE.r]; exact Nat.le_of_ble_eq_true hc) (by rw [hE.r]; exact Nat.le_of_ble_eq_true hs) hd (fun q H1 hP hD hS => k q ls H1 locs h1 hP hD hS)
theorem wu_init (hE : CuOk E cc own rm nL) (ws0 : va_W) {h idx ci n maxL : Nat} {dfl As rest : List Value} {y : MethodName} {bytes : ByteArray} {rmc : Room} {blk : (Nat → Nat) → va_W} (hM : Ci E.l E.Y.D E.Y.c y (WS y bytes maxL none) rmc As ci dfl blk) (io : InitOk own idx y bytes maxL n) (hst : st0 = As.reverse ++ .ref h :: rest) (hn : As.length = n) (hR : Nat.ble (rmc.frames + 1) rm.frames = true ∧ Nat.ble (8 + (maxL + 11) + rmc.locals) rm.locals = true) (hW : Nat.ble ((rest.map fun v => v.category).sum) 8 = true) (hc : Nat.ble (cs + rmc.cells) rm.cells = true) (hs : Nat.ble (sl + rmc.slots) rm.slots = true) (hd : decode cc pc = .ok (.invokespecial idx, 3)) (kk : ∀ q : Nat → Nat, q 0 = h → Wv E (pc + 3) lv rest (cs + rmc.cells) (sl + rmc.slots) (ws0 ++ blk q)) : Wv E pc lv st0 cs sl (ws0 ++ [(h, .inr (ci, dfl))]) := by
  intro ls H locs h1 h2 h3 h4
  obtain ⟨hl, hin, hini, hco, hy1, hy2, hlen, hnm⟩ := io
  have hlast : (ws0 ++ [(h, .inr (ci, dfl))])[ws0.length]? = some (h, .inr (ci, dfl)) := by rw [List.getElem?_append_right (Nat.le_refl _), Nat.sub_self]; rfl
  have hfst : ∀ k x, ws0[k]? = some x → (ws0 ++ [(h, .inr (ci, dfl))])[k]? = some x := fun k x hk => by rw [List.getElem?_append_left (List.getElem?_eq_some_iff.mp hk).1]; exact hk
  have hPh : va_P E.Y.D vwCl [(h, .inr (ci, dfl))] H := fun k x hk => by
    cases k with
    | zero => cases hk; exact h2 _ _ hlast
    | succ k => cases hk
  have hroom : rmc.frames + 1 ≤ E.R.frames ∧ 8 + (maxL + 11) + rmc.locals ≤ E.R.locals := by rw [hE.r]; exact ⟨Nat.le_of_ble_eq_true hR.1, Nat.le_of_ble_eq_true hR.2⟩
  have hfix : CallFix E.p E.m E.c cc E.nL E.s E.args lw_good own := ⟨hE.1.1, hE.1.2.1, hE.1.2.2.1, hE.1.2.2.2.1, hE.2.1⟩
  have hp : PreS E.s H (va_Pc (.ref h :: As) (Pn0 E.Y.D E.Y.c h H.size ci dfl)) (.ref h :: As) := ⟨pn0_blind, fun U hU hWm => ⟨rfl, by rw [hU], by rw [hU]; exact hPh, va_K.moved hWm.alike hE.2.2.1, hE.2.2.2.2.1.go hWm⟩⟩
  have hf : cs + rmc.cells ≤ E.R.cells ∧ sl + rmc.slots ≤ E.R.slots := by rw [hE.r]; exact ⟨Nat.le_of_ble_eq_true hc, Nat.le_of_ble_eq_true hs⟩
  have hrun : va_Run E.p E.l E.e E.R E.s E.m E.args E.below E.meth E.c H locs cs sl rmc.cells rmc.slots (F0 E.m pc ls st0) rest (Qn E.Y.D h H.size ci dfl blk (Value.ref h :: As).toArray) (va_A [(h, .inr (ci, dfl))] H.size) := by
    rcases hl with hl | ⟨host, hl⟩
    · exact va_runI hfix (hM h H.size) ⟨callB_of n hE.2.1 (WS_good hco) rfl rfl rfl (hE.2.1 _ hini) (hE.2.1 _ hl) ⟨hy1, hy2, hlen⟩ hroom, hnm, hE.2.1 _ hin⟩ hp rfl hn h1.1 hst (lv_room (Nat.le_of_ble_eq_true hW)) hd hf
    · exact va_runIN hfix (hM h H.size) ⟨va_cnB n hE.2.1 (WS_good hco) rfl rfl rfl (hE.2.2.2.2.1.nestM hl) (hE.2.1 _ hini) ⟨hy1, hy2, hlen⟩ hroom, hnm, hE.2.1 _ hin⟩ hp rfl hn h1.1 hst (lv_room (Nat.le_of_ble_eq_true hW)) hd hf
  intro T hT X
  obtain ⟨v, st₀, u, T', L, g0, X', hL, e1, e2, ⟨hv, ⟨q, q0, hP, hD⟩, hz, hk⟩, stp⟩ := hrun T hT X
  cases hv
  rw [g0] at hz hk
  have hAq : ∀ x, va_A [(h, .inr (ci, dfl))] H.size x → E.Y.A x := fun x hx => by
    rcases A_or hx with rfl | hx
    · exact h3.2 _ _ hlast
    · exact hE.2.2.2.2.2 x (Nat.le_trans h4.1 hx)
  have hap : ∀ (k : Nat) (x : Nat × va_E), ws0[k]? = some x → x.1 < H.size ∧ ¬ va_A [(h, .inr (ci, dfl))] H.size x.1 := fun k x hkx => by
    have hlt := (h2 _ _ (hfst k x hkx)).lt
    refine ⟨hlt, A_not (fun e => ?_) hlt⟩
    have := h3.1 k ws0.length x (h, .inr (ci, dfl)) (hfst k x hkx) hlast e
    have := (List.getElem?_eq_some_iff.mp hkx).1
    omega
  have nP : va_P E.Y.D vwCl (ws0 ++ blk q) T'.heap := va_P.app (fun k x hkx => (h2 _ _ (hfst k x hkx)).kept (by rw [e1]; exact hk _ (hap k x hkx).1 (hap k x hkx).2)) (by rw [e1]; exact hP)
  have nD : va_D E.Y.A (ws0 ++ blk q) := va_D.app ⟨fun i j a b ha hb hab => h3.1 i j a b (hfst i a ha) (hfst j b hb) hab, fun k x hkx => h3.2 k x (hfst k x hkx)⟩ (hD.weaken (fun k x _ hx => hAq _ hx)) (fun i j a b ha hb hab => (hap i a ha).2 (by rw [hab]; exact hD.2 j b hb))
  obtain ⟨t2, a1, b1⟩ := kk q q0 ls T'.heap (locs ++ L) h1 nP nD ⟨Nat.le_trans h4.1 (by rw [e1]; exact hz), fun x hx1 hx2 => by rw [e1, hk x (Nat.lt_of_lt_of_le hx1 h4.1) (fun hA => hx2 (hAq x hA))]; exact h4.2.1 x hx1 hx2, fun x hx => by
      rcases List.mem_append.mp hx with hx | hx
      · exact h4.2.2 x hx
      · exact hAq _ (hL x hx)⟩ T' rfl X'
  exact ⟨t2, stp t2 a1, b1⟩
theorem wu_astore_n (hE : CuOk E cc own rm nL) {j : Fin 4} {x : Nat} (lv1 : List (Nat × Value)) (hl : ((j : Nat), Value.ref x) :: lv.filter (fun q => !(q.1 == (j : Nat)) && !(q.1 + 1 == (j : Nat) && q.2.category == 2)) = lv1) (hn : Nat.ble ((j : Nat) + 1) nL = true) (hd : decode cc pc = .ok (.astore_n j, 1)) (k : Wv E (pc + 1) lv1 st cs sl ws) : Wv E pc lv (.ref x :: st) cs sl ws := fun ls H locs h1 h2 h3 h4 => lv_astore_n hE.1.1 hE.1.2.1 hd rfl h1 (by rw [hE.nl]; exact Nat.le_of_ble_eq_true hn) hl (fun ls h1 => k ls H locs h1 h2 h3 h4)
end WU
theorem law_begin {E : Cx} {b : Nat} (aw : Nat → Nat) (hE : CuOk E cL_law RL room_1 4) (kk : ∀ r1 r2 : Nat → Nat, Wv E 18 [(3, .int 0), (2, .ref (r2 0)), (1, .ref (r1 0)), (0, .ref b)] [] 501 47310 (wld (YI E.Y.c E.Y.D aw r1) 474 C0m ++ blkX12 E.Y.c r2)) : Wv E 0 [(0, .ref b)] [] 0 0 [] := by
  refine wu_new hE nk_L_7 rfl rfl dL_law_0 (fun q1 => ?_)
  refine wu_dup hE rfl dL_law_3 ?_
  refine wu_init (cs := 1) (sl := 16) hE [] (ciX11 aw E.l E.Y.D E.Y.c) ik_L_9 (rest := [.ref q1]) rfl rfl ⟨rfl, rfl⟩ rfl rfl rfl dL_law_4 (fun r1 hr1 => ?_)
  subst hr1
  refine wu_astore_n hE [(1, .ref (r1 0)), (0, .ref b)] rfl rfl dL_law_7 ?_
  refine wu_new hE nk_L_10 rfl rfl dL_law_8 (fun q2 => ?_)
  refine wu_dup hE rfl dL_law_11 ?_
  refine wu_init (cs := 475) (sl := 23590) hE ([] ++ wld (YI E.Y.c E.Y.D aw r1) 474 C0m) (ciX12 E.l E.Y.D E.Y.c) ik_L_12 (rest := [.ref q2]) rfl rfl ⟨rfl, rfl⟩ rfl rfl rfl dL_law_12 (fun r2 hr2 => ?_)
  subst hr2
  refine wu_astore_n hE [(2, .ref (r2 0)), (1, .ref (r1 0)), (0, .ref b)] rfl rfl dL_law_15 ?_
  refine wu_iconst hE 0 rfl dL_law_16 ?_
  refine wu_istore_n hE [(3, .int 0), (2, .ref (r2 0)), (1, .ref (r1 0)), (0, .ref b)] rfl rfl dL_law_17 ?_
  exact kk r1 r2
theorem known_cl {a0 : Array Value} {s : State} (hg : ∀ w ∈ lw_good, w.before a0 s = true) : ∃ D : va_G, ∀ (k : Nat) (q : vw_C), vwCl[k]? = some q → u_Kn s q.1 q.2.1 q.2.2 (D.1 k) (D.2 k) := by
  obtain ⟨c0, i0, h0⟩ := u_known (C := RX0) (T := TX0) (N := 2) (n := 2) hg inG0 (hg _ (lw_TG 466 (by decide +kernel) (by decide +kernel)))
  obtain ⟨c1, i1, h1⟩ := u_known (C := RX1) (T := TX1) (N := 2) (n := 2) hg inG1 (hg _ (lw_TG 226 (by decide +kernel) (by decide +kernel)))
  obtain ⟨c2, i2, h2⟩ := u_known (C := RX2) (T := TX2) (N := 20) (n := 20) hg inG2 (hg _ (lw_TG 33 (by decide +kernel) (by decide +kernel)))
  obtain ⟨c3, i3, h3⟩ := u_known (C := RX3) (T := TX3) (N := 14) (n := 14) hg inG3 (hg _ (lw_TG 240 (by decide +kernel) (by decide +kernel)))
  obtain ⟨c4, i4, h4⟩ := u_known (C := RX4) (T := TX4) (N := 9) (n := 9) hg inG4 (hg _ (lw_TG 316 (by decide +kernel) (by decide +kernel)))
  obtain ⟨c5, i5, h5⟩ := u_known (C := RX5) (T := TX5) (N := 10) (n := 10) hg inG5 (hg _ (lw_TG 159 (by decide +kernel) (by decide +kernel)))
  obtain ⟨c6, i6, h6⟩ := u_known (C := RX6) (T := TX6) (N := 2) (n := 2) hg inG6 (hg _ (lw_TG 210 (by decide +kernel) (by decide +kernel)))
  obtain ⟨c7, i7, h7⟩ := u_known (C := RX7) (T := TX7) (N := 3) (n := 3) hg inG7 (hg _ (lw_TG 449 (by decide +kernel) (by decide +kernel)))
  obtain ⟨c8, i8, h8⟩ := u_known (C := RX8) (T := TX8) (N := 20) (n := 20) hg inG8 (hg _ (lw_TG 200 (by decide +kernel) (by decide +kernel)))
  obtain ⟨c9, i9, h9⟩ := u_known (C := RX9) (T := TX9) (N := 2) (n := 2) hg inG9 (hg _ (lw_TG 142 (by decide +kernel) (by decide +kernel)))
  obtain ⟨c10, i10, h10⟩ := u_known (C := RX11) (T := TX11) (N := 16) (n := 16) hg inG11 (hg _ (lw_TG 25 (by decide +kernel) (by decide +kernel)))
  obtain ⟨c11, i11, h11⟩ := u_known (C := RX12) (T := TX12) (N := 69) (n := 69) hg inG12 (hg _ (lw_TG 1271 (by decide +kernel) (by decide +kernel)))
  refine ⟨(fun k => [c0, c1, c2, c3, c4, c5, c6, c7, c8, c9, c10, c11].getD k c0, fun k => [i0, i1, i2, i3, i4, i5, i6, i7, i8, i9, i10, i11].getD k i0), ?_⟩
  intro k q hq
  match k, hq with
  | 0, hq => cases hq; exact h0
  | 1, hq => cases hq; exact h1
  | 2, hq => cases hq; exact h2
  | 3, hq => cases hq; exact h3
  | 4, hq => cases hq; exact h4
  | 5, hq => cases hq; exact h5
  | 6, hq => cases hq; exact h6
  | 7, hq => cases hq; exact h7
  | 8, hq => cases hq; exact h8
  | 9, hq => cases hq; exact h9
  | 10, hq => cases hq; exact h10
  | 11, hq => cases hq; exact h11
  | k + 12, hq => cases hq
theorem arr_prim {a0 : Array Value} {s : State} {ty : FieldType} (h : (Cond.arrayClass ty).before a0 s = true) : ∃ cA : ClassId, ArrOfT s cA ty ∧ s.vm.findClass ("[" ++ ty.toString) = some cA := by
  obtain ⟨c, k, comp, h1, h2, h3⟩ := Cond.arrayClass_spec h
  exact ⟨c, fun n z => ⟨fun k h => (by cases h), k, h2, comp, h3⟩, h1⟩
theorem arr_obj {a0 : Array Value} {s : State} {C : String} (h : (Cond.arrayOver (.object C)).before a0 s = true) : ∃ cA : ClassId, ArrOfT s cA (.object C) ∧ va_RA s cA (.object C) := by
  obtain ⟨comp, c, k, h1, h2, h3, h4, h5⟩ := Cond.arrayOver_spec h
  exact ⟨c, fun n z => ⟨fun k h => (by cases h), k, h3, comp, h4⟩, k, comp, h3, h4, h1, h5⟩
theorem known_ar {a0 : Array Value} {s : State} (hts : ∀ w ∈ lw_tbl, w.before a0 s = true) : ∃ c : Nat → ClassId, ∀ (k : Nat) (q : ClassId × FieldType), (tys7 c)[k]? = some q → ArrOfT s q.1 q.2 ∧ va_RA s q.1 q.2 := by
  obtain ⟨c0, a0, b0⟩ := arr_prim (hts (.arrayClass .int) (lw_T 139 (by decide +kernel)))
  obtain ⟨c1, a1, b1⟩ := arr_prim (hts (.arrayClass .float) (lw_T 1484 (by decide +kernel)))
  obtain ⟨c2, a2, b2⟩ := arr_prim (hts (.arrayClass .boolean) (lw_T 140 (by decide +kernel)))
  obtain ⟨c3, a3, b3⟩ := arr_obj (hts (.arrayOver (.object RX3)) (lw_T 206 (by decide +kernel)))
  obtain ⟨c4, a4, b4⟩ := arr_obj (hts (.arrayOver (.object RX4)) (lw_T 208 (by decide +kernel)))
  obtain ⟨c5, a5, b5⟩ := arr_obj (hts (.arrayOver (.object RX8)) (lw_T 447 (by decide +kernel)))
  obtain ⟨c6, a6, b6⟩ := arr_obj (hts (.arrayOver (.object RX10)) (lw_T 165 (by decide +kernel)))
  refine ⟨fun k => [c0, c1, c2, c3, c4, c5, c6].getD k c0, ?_⟩
  intro k q hq
  match k, hq with
  | 0, hq => cases hq; exact ⟨a0, b0⟩
  | 1, hq => cases hq; exact ⟨a1, b1⟩
  | 2, hq => cases hq; exact ⟨a2, b2⟩
  | 3, hq => cases hq; exact ⟨a3, b3⟩
  | 4, hq => cases hq; exact ⟨a4, b4⟩
  | 5, hq => cases hq; exact ⟨a5, b5⟩
  | 6, hq => cases hq; exact ⟨a6, b6⟩
  | k + 7, hq => cases hq
theorem known_wd {a0 : Array Value} {s : State} (h : (Jvm.Cond.and given_1 narrow_1).before a0 s = true) : ∃ aw : Nat → Nat, ∀ k : Nat, k < 20 → (Term.static RX10 (wordNames.getD k "") "LDiskBudgets$Word;").eval a0 s none [] s = some (.ref (aw k)) := by
  have hf := flat_of_before _ h
  have h0 : ∀ k : Nat, ∃ a : Nat, k < 20 → (Term.static RX10 (wordNames.getD k "") "LDiskBudgets$Word;").eval a0 s none [] s = some (.ref a) := by
    intro k
    by_cases hk : k < 20
    · obtain ⟨a, c, cA, kA, q1, -⟩ := Cond.exactly_spec (args := a0) (first := s) (o := none) (s := s) (idx := []) (t := .static RX10 (wordNames.getD k "") "LDiskBudgets$Word;") (cls := RX10) (hf _ (fl_exW hk))
      exact ⟨a, fun _ => q1⟩
    · exact ⟨0, fun h => absurd h hk⟩
  obtain ⟨aw, haw⟩ := Classical.axiomOfChoice h0
  exact ⟨aw, haw⟩
theorem both_ok {A : Nat → Prop} {c : Nat → ClassId} {D : va_G} {aw r1 r2 : Nat → Nat} (h3 : va_D A (wld (YI c D aw r1) 474 C0m ++ blkX12 c r2)) : (SysOk (YI c D aw r1) 474 shC ∧ (∀ q, (YI c D aw r1).A q → A q) ∧ ∀ r, r < 27 → ¬ (YI c D aw r1).A ((YJ c D aw r2).ad r)) ∧ SysOk (YJ c D aw r2) 27 shR ∧ (∀ q, (YJ c D aw r2).A q → A q) ∧ ∀ r, r < 474 → ¬ (YJ c D aw r2).A ((YI c D aw r1).ad r) := by
  rw [← mdl_wld c D aw r2] at h3
  have g1 : ∀ i, i < 474 → (wld (YI c D aw r1) 474 C0m ++ wld (YJ c D aw r2) 27 R0m)[i]? = some ((YI c D aw r1).ad i, ent (YI c D aw r1) C0m i) := fun i hi => get_left (wld_get _ _ hi)
  have g2 : ∀ i, i < 27 → (wld (YI c D aw r1) 474 C0m ++ wld (YJ c D aw r2) 27 R0m)[474 + i]? = some ((YJ c D aw r2).ad i, ent (YJ c D aw r2) R0m i) := fun i hi => by
    rw [List.getElem?_append_right (by rw [wld_len]; omega), wld_len, show 474 + i - 474 = i by omega]
    exact wld_get _ _ hi
  have d1 : ∀ a r, a < 474 → r < 27 → (YI c D aw r1).ad a ≠ (YJ c D aw r2).ad r := fun a r ha hr e => by
    have := h3.1 a (474 + r) _ _ (g1 a ha) (g2 r hr) e
    omega
  refine ⟨⟨⟨rfl, fun a b ha hb e => h3.1 a b _ _ (g1 a ha) (g1 b hb) e, fun a ha => ⟨a, ha, rfl⟩, fun a h => shC_lt h⟩, ?_, ?_⟩, ⟨rfl, fun a b ha hb e => ?_, fun a ha => ⟨a, ha, rfl⟩, ?_⟩, ?_, ?_⟩
  · rintro q ⟨r, hr, rfl⟩
    exact h3.2 r _ (g1 r hr)
  · rintro r hr ⟨a, ha, e⟩
    exact d1 a r ha hr e.symm
  · have := h3.1 (474 + a) (474 + b) _ _ (g2 a ha) (g2 b hb) e
    omega
  · intro a h
    refine Nat.lt_of_not_le (fun hn => ?_)
    have e : shR a = (99, 0, 0, []) := by
      unfold shR
      rw [List.getD_eq_getElem?_getD, List.getElem?_eq_none (by simpa using hn)]
      rfl
    rw [e] at h
    exact absurd h (by decide)
  · rintro q ⟨r, hr, rfl⟩
    exact h3.2 (474 + r) _ (g2 r hr)
  · rintro a ha ⟨r, hr, e⟩
    exact d1 a r ha hr e
theorem xf_of {s : State} {b : Nat} {Y : Sys} (hts : ∀ w ∈ lw_tbl, w.before #[Value.ref b] s = true) (hgv : (Jvm.Cond.and given_1 narrow_1).before #[Value.ref b] s = true) {aw q : Nat → Nat} (haw : ∀ k : Nat, k < 20 → (Term.static RX10 (wordNames.getD k "") "LDiskBudgets$Word;").eval #[Value.ref b] s none [] s = some (.ref (aw k))) (hY : Y.ad = adW aw q) (hA : ∀ x, Y.A x → s.heap.size ≤ x) : Xf Y s := by
  refine ⟨s, #[Value.ref b], hts, hgv, State.WarmedH.refl s, Nat.le_refl _, fun _ _ => rfl, hA, fun k hk => ?_⟩
  rw [haw k hk, hY]
  unfold adW
  rw [if_neg (by omega), show 1000 + k - 1000 = k by omega]
