/-! CONSTRUCTORS: calls of constructors, contracts out of bodies -/
theorem A_not {h sz x : Nat} {e : va_E} (h1 : x ≠ h) (h2 : x < sz) : ¬ va_A [(h, e)] sz x := by
  rintro (⟨k, e', hk⟩ | hk)
  · cases k with
    | zero => exact h1 (congrArg Prod.fst (Option.some.inj hk)).symm
    | succ k => cases hk
  · omega
theorem A_or {h sz x : Nat} {e : va_E} (h1 : va_A [(h, e)] sz x) : x = h ∨ sz ≤ x := by
  rcases h1 with ⟨k, e', hk⟩ | hk
  · cases k with
    | zero => exact Or.inl (congrArg Prod.fst (Option.some.inj hk)).symm
    | succ k => cases hk
  · exact Or.inr hk
def InitOk (own : String) (idx : Nat) (y : MethodName) (bytes : ByteArray) (maxL n : Nat) : Prop :=
  (Cond.methodLink own idx y ∈ lw_good ∨ ∃ host : String, Cond.methodLinkNest own idx y host ∈ lw_tbl) ∧ Cond.instanceMethod y ∈ lw_good ∧ Cond.initialized y.cls ∈ lw_good ∧ Cond.code y bytes maxL none ∈ lw_good ∧ y.cls ≠ "java/lang/invoke/MethodHandle" ∧ y.cls ≠ "java/lang/invoke/VarHandle" ∧ (parseMethodDescriptor y.desc).map (fun d => d.parameters.length) = some n ∧ y.name = "<init>"
theorem pn0_blind {D : va_G} {c : Nat → ClassId} {h0 sz ci : Nat} {dfl : List Value} {As : List Value} : FrameBlind (va_Pc As (Pn0 D c h0 sz ci dfl)) := by
  intro a U g mk ⟨q0, q1, qP, qK, qX⟩
  exact ⟨q0, q1, qP, va_K.moved (u := U) (U := U.calling g mk a) (Vm.Alike.refl U.vm) qK, qX.go (U := U.calling g mk a) (State.WarmedH.refl U)⟩
section WV2
variable {E : Cx} {cc : ByteArray} {own : String} {rm : Room} {nL pc cs sl : Nat} {lv : List (Nat × Value)} {st st0 : List Value} {ws : va_W}
theorem wv_init (hE : CvOk E cc own rm nL) (ws0 : va_W) {h idx ci n maxL : Nat} {dfl As rest : List Value} {y : MethodName} {bytes : ByteArray} {rmc : Room} {blk : (Nat → Nat) → va_W} (hM : Ci E.l E.Y.D E.Y.c y (WS y bytes maxL none) rmc As ci dfl blk) (io : InitOk own idx y bytes maxL n) (hst : st0 = As.reverse ++ .ref h :: rest) (hn : As.length = n) (hR : Nat.ble (rmc.frames + 1) rm.frames = true ∧ Nat.ble (8 + (maxL + 11) + rmc.locals) rm.locals = true) (hW : Nat.ble ((rest.map fun v => v.category).sum) 8 = true) (hc : Nat.ble (cs + rmc.cells) rm.cells = true) (hs : Nat.ble (sl + rmc.slots) rm.slots = true) (hd : decode cc pc = .ok (.invokespecial idx, 3)) (kk : ∀ q : Nat → Nat, q 0 = h → Wv E (pc + 3) lv rest (cs + rmc.cells) (sl + rmc.slots) (ws0 ++ blk q)) : Wv E pc lv st0 cs sl (ws0 ++ [(h, .inr (ci, dfl))]) := by
  intro ls H locs h1 h2 h3 h4
  obtain ⟨hl, hin, hini, hco, hy1, hy2, hlen, hnm⟩ := io
  have hlast : (ws0 ++ [(h, .inr (ci, dfl))])[ws0.length]? = some (h, .inr (ci, dfl)) := by rw [List.getElem?_append_right (Nat.le_refl _), Nat.sub_self]; rfl
  have hfst : ∀ k x, ws0[k]? = some x → (ws0 ++ [(h, .inr (ci, dfl))])[k]? = some x := fun k x hk => by rw [List.getElem?_append_left (List.getElem?_eq_some_iff.mp hk).1]; exact hk
  have hPh : va_P E.Y.D vwCl [(h, .inr (ci, dfl))] H := fun k x hk => by
    cases k with
    | zero => cases hk; exact h2 _ _ hlast
    | succ k => cases hk
  have hroom : rmc.frames + 1 ≤ E.R.frames ∧ 8 + (maxL + 11) + rmc.locals ≤ E.R.locals := by rw [hE.r]; exact ⟨Nat.le_of_ble_eq_true hR.1, Nat.le_of_ble_eq_true hR.2⟩
  have hfix : CallFix E.p E.m E.c cc E.nL E.s E.args lw_good own := ⟨hE.1.1, hE.1.2.1, hE.1.2.2.1, hE.1.2.2.2.1, hE.2.1⟩
  have hp : PreS E.s H (va_Pc (.ref h :: As) (Pn0 E.Y.D E.Y.c h H.size ci dfl)) (.ref h :: As) := ⟨pn0_blind, fun U hU hWm => ⟨rfl, by rw [hU], by rw [hU]; exact hPh, va_K.moved hWm.alike hE.2.2.1, hE.2.2.2.2.1.go hWm⟩⟩
  have hf : cs + rmc.cells ≤ E.R.cells ∧ sl + rmc.slots ≤ E.R.slots := by rw [hE.r]; exact ⟨Nat.le_of_ble_eq_true hc, Nat.le_of_ble_eq_true hs⟩
  have hrun : va_Run E.p E.l E.e E.R E.s E.m E.args E.below E.meth E.c H locs cs sl rmc.cells rmc.slots (F0 E.m pc ls st0) rest (Qn E.Y.D h H.size ci dfl blk (Value.ref h :: As).toArray) (va_A [(h, .inr (ci, dfl))] H.size) := by
    rcases hl with hl | ⟨host, hl⟩
    · exact va_runI hfix (hM h H.size) ⟨callB_of n hE.2.1 (WS_good hco) rfl rfl rfl (hE.2.1 _ hini) (hE.2.1 _ hl) ⟨hy1, hy2, hlen⟩ hroom, hnm, hE.2.1 _ hin⟩ hp rfl hn h1.1 hst (lv_room (Nat.le_of_ble_eq_true hW)) hd hf
    · exact va_runIN hfix (hM h H.size) ⟨va_cnB n hE.2.1 (WS_good hco) rfl rfl rfl (hE.2.2.2.2.1.nestM hl) (hE.2.1 _ hini) ⟨hy1, hy2, hlen⟩ hroom, hnm, hE.2.1 _ hin⟩ hp rfl hn h1.1 hst (lv_room (Nat.le_of_ble_eq_true hW)) hd hf
  intro T hT X
  obtain ⟨v, st₀, u, T', L, g0, X', hL, e1, e2, ⟨hv, ⟨q, q0, hP, hD⟩, hz, hk⟩, stp⟩ := hrun T hT X
  cases hv
  rw [g0] at hz hk
  have hAq : ∀ x, va_A [(h, .inr (ci, dfl))] H.size x → E.Y.A x := fun x hx => by
    rcases A_or hx with rfl | hx
    · exact h3.2 _ _ hlast
    · exact hE.2.2.2.2.2 x (Nat.le_trans h4.1 hx)
  have hap : ∀ (k : Nat) (x : Nat × va_E), ws0[k]? = some x → x.1 < H.size ∧ ¬ va_A [(h, .inr (ci, dfl))] H.size x.1 := fun k x hkx => by
    have hlt := (h2 _ _ (hfst k x hkx)).lt
    refine ⟨hlt, A_not (fun e => ?_) hlt⟩
    have := h3.1 k ws0.length x (h, .inr (ci, dfl)) (hfst k x hkx) hlast e
    have := (List.getElem?_eq_some_iff.mp hkx).1
    omega
  have nP : va_P E.Y.D vwCl (ws0 ++ blk q) T'.heap := va_P.app (fun k x hkx => (h2 _ _ (hfst k x hkx)).kept (by rw [e1]; exact hk _ (hap k x hkx).1 (hap k x hkx).2)) (by rw [e1]; exact hP)
  have nD : va_D E.Y.A (ws0 ++ blk q) := va_D.app ⟨fun i j a b ha hb hab => h3.1 i j a b (hfst i a ha) (hfst j b hb) hab, fun k x hkx => h3.2 k x (hfst k x hkx)⟩ (hD.weaken (fun k x _ hx => hAq _ hx)) (fun i j a b ha hb hab => (hap i a ha).2 (by rw [hab]; exact hD.2 j b hb))
  obtain ⟨t2, a1, b1⟩ := kk q q0 ls T'.heap (locs ++ L) h1 nP nD ⟨Nat.le_trans h4.1 (by rw [e1]; exact hz), fun x hx1 hx2 => by rw [e1, hk x (Nat.lt_of_lt_of_le hx1 h4.1) (fun hA => hx2 (hAq x hA))]; exact h4.2.1 x hx1 hx2, fun x hx => by
      rcases List.mem_append.mp hx with hx | hx
      · exact h4.2.2 x hx
      · exact hAq _ (hL x hx)⟩ T' rfl X'
  exact ⟨t2, stp t2 a1, b1⟩
/-- the contents of a row of references, only where it has places -/
theorem wv_row (q0 : Nat) {a N : Nat} {cA : ClassId} {f : Nat → Option Nat} (g : Nat → Option Nat) (hq : ws[q0]? = some (a, .inl (cA, N, .inr (.inr (.inr (.inr f)))))) (hfg : ∀ i, i < N → f i = g i) (k : Wv E pc lv st cs sl (ws.set q0 (a, .inl (cA, N, .inr (.inr (.inr (.inr g))))))) : Wv E pc lv st cs sl ws := by
  intro ls H locs h1 h2 h3 h4
  refine k ls H locs h1 (h2.set h3 hq ?_ (fun _ _ => rfl)) (h3.set hq) h4
  have e : H[a]? = some (vp_cell cA (N, .inr (.inr (.inr (.inr f))))) := h2 _ _ hq
  show H[a]? = some (vp_cell cA (N, .inr (.inr (.inr (.inr g)))))
  rw [e, vp_cell_q, vp_cell_q]
  unfold arrV
  congr 3
  funext j
  show va_rf (f j.val) = va_rf (g j.val)
  rw [hfg j.val j.isLt]
theorem ci_of {l : Launch} {D : va_G} {c : Nat → ClassId} {y : MethodName} {bytes : ByteArray} {maxL : Nat} {As : List Value} {ci : Nat} {dfl : List Value} {blk : (Nat → Nat) → va_W} (hy : plainName y.cls = true) (hc : y.cls = own) (hnm : y.name = "<init>") (hlen : ∀ h0, (lg_sl (.ref h0 :: As)).length ≤ maxL) (body : ∀ (E : Cx) (h0 : Nat), CvOk E bytes own rm maxL → E.Y.D = D → E.Y.c = c → E.l = l → E.Q = MQ E.below (Qn D h0 E.s.heap.size ci dfl blk) E.args E.s rm.cells rm.slots E.Y.A → E.Y.A = va_A [(h0, .inr (ci, dfl))] E.s.heap.size → Wv E 0 (lv_args 0 (.ref h0 :: As)) [] 0 0 [(h0, .inr (ci, dfl))]) : Ci l D c y (WS y bytes maxL none) rm As ci dfl blk := by
  intro h0 sz
  refine Met.ofW (cc := bytes) (maxL := maxL) (ret := none) hy rfl ?_
  intro p e s m args below meth cd s₁ B hml hv
  obtain ⟨rfl, hsz, hP, hK, hX⟩ := hv
  subst hsz
  have hts := atoms_spec (ws := WS y bytes maxL none) B.pre
  have hown : s.vm.findClass own = some m.cls := by rw [← hc]; exact findClass_of_methodNamed B.named
  have hin : meth.name = "<init>" := (name_of_methodNamed B.named B.method).1.trans hnm
  rw [lg_entry_eq]
  have h := body ((c, D, (fun _ => 0), (fun _ => (99, 0, 0, [])), va_A [(h0, .inr (ci, dfl))] s.heap.size), 0, p, l, e, rm, s, m, (Value.ref h0 :: As).toArray, below, meth, cd, maxL, MQ below (Qn D h0 s.heap.size ci dfl blk) (Value.ref h0 :: As).toArray s rm.cells rm.slots (va_A [(h0, .inr (ci, dfl))] s.heap.size), (none, (fun _ _ => 0, fun _ _ => 0, fun _ _ => 0, fun _ _ => none))) h0 ⟨⟨B.exec, B.bytes, hml, hown, B.returns, B.notSynchronized, rfl, hin⟩, fun w hw => hts w (List.mem_cons_of_mem _ hw), hK, rfl, hX, fun q hq => Or.inr hq⟩ rfl rfl rfl rfl rfl
  refine h _ _ _ (lv_entry (.ref h0 :: As) (hlen h0)) hP ⟨fun i j a b ha hb _ => ?_, fun k x hk => ?_⟩ va_S.rf
  · cases i with
    | zero => cases j with
      | zero => rfl
      | succ j => cases hb
    | succ i => cases ha
  · cases k with
    | zero => cases hk; exact Or.inl ⟨0, _, rfl⟩
    | succ k => cases hk
end WV2
