/-! A SYSTEM WITHIN A SYSTEM: a state and its plan, or the reader with its tape and plan, within the whole class -/
def sbM (em : Nat → Nat) (M : Mm) : Mm := (fun r k => M.1 (em r) k, fun r k => M.2.1 (em r) k, fun r k => M.2.2.1 (em r) k, fun r k => M.2.2.2 (em r) k)
def inM (dm : Nat → Option Nat) (kp : Nat → Bool) (M M' : Mm) : Mm := (fun a k => match dm a with | some r => M'.1 r k | none => M.1 a k, fun a k => match dm a with | some r => M'.2.1 r k | none => M.2.1 a k, M.2.2.1, fun a k => match dm a with | some r => (if kp a = true then M'.2.2.2 r k else M.2.2.2 a k) | none => M.2.2.2 a k)
def YS (Y : Sys) (em : Nat → Nat) (T : Nat) (sf : Nat → Shp) : Sys := (Y.c, Y.D, (fun r => if r < 1000 then Y.ad (em r) else Y.ad r), sf, (fun q => ∃ r : Nat, r < T ∧ q = Y.ad (em r)))
theorem YS_Xf {Y : Sys} {em : Nat → Nat} {T : Nat} {sf : Nat → Shp} {s : State} (hA : ∀ r : Nat, r < T → Y.A (Y.ad (em r))) (h : Xf Y s) : Xf (YS Y em T sf) s := by
  obtain ⟨s0, a0, h1, h2, h3, h4, h5, h6, h7⟩ := h
  refine ⟨s0, a0, h1, h2, h3, h4, h5, fun q hq => ?_, fun k hk => ?_⟩
  · obtain ⟨r, hr, rfl⟩ := hq
    exact h6 _ (hA r hr)
  · rw [h7 k hk]
    show _ = some (Value.ref (if 1000 + k < 1000 then Y.ad (em (1000 + k)) else Y.ad (1000 + k)))
    rw [if_neg (by omega)]
section SUBS
variable {ρ α : Type} {E : Cx} {cc : ByteArray} {own : String} {sf : Nat → Shp} {ret : Option FieldType} {rm : Room} {nL pc : Nat} {lv : List (Nat × Value)} {st st0 : List Value} {M : Mm} {o : Option ρ} {K : ρ → Prop}
/-- the system within: its codes are codes of the whole, apart; its cells are those of the whole -/
def SubOk (E : Cx) (em : Nat → Nat) (dm : Nat → Option Nat) (kp : Nat → Bool) (T : Nat) (sg : Nat → Shp) (gd : Mm → Prop) (M : Mm) : Prop :=
  T ≤ 1000 ∧ (∀ r, r < T → em r < E.t ∧ dm (em r) = some r) ∧ (∀ a r, dm a = some r → r < T ∧ em r = a) ∧ (∀ r, (sg r).1 < 9 → r < T) ∧ (∀ r, r < T → ∀ (q : Nat) (H : Heap), va_at E.Y.D vwCl (q, ent E.Y M (em r)) H → va_at E.Y.D vwCl (q, ent (YS E.Y em T sg) (sbM em M) r) H) ∧ ∀ M' r, gd M' → r < T → ∀ (q : Nat) (H : Heap), va_at E.Y.D vwCl (q, ent (YS E.Y em T sg) M' r) H → va_at E.Y.D vwCl (q, ent E.Y (inM dm kp M M') (em r)) H
theorem sub_sys (hE : CxOk E cc own sf ret rm nL) {em : Nat → Nat} {dm : Nat → Option Nat} {kp : Nat → Bool} {T : Nat} {sg : Nat → Shp} {gd : Mm → Prop} (hS : SubOk E em dm kp T sg gd M) : SysOk (YS E.Y em T sg) T sg := by
  obtain ⟨hT, h1, h2, h3, h4, h5⟩ := hS
  refine ⟨rfl, fun a b ha hb hab => ?_, fun a ha => ⟨a, ha, ?_⟩, h3⟩
  · have hab : (if a < 1000 then E.Y.ad (em a) else E.Y.ad a) = (if b < 1000 then E.Y.ad (em b) else E.Y.ad b) := hab
    rw [if_pos (by omega), if_pos (by omega)] at hab
    have he := hE.sys.2.1 _ _ (h1 a ha).1 (h1 b hb).1 hab
    have e1 := (h1 a ha).2
    rw [he, (h1 b hb).2] at e1
    exact (Option.some.inj e1).symm
  · show (if a < 1000 then E.Y.ad (em a) else E.Y.ad a) = _
    rw [if_pos (by omega)]
theorem sub_P {em : Nat → Nat} {dm : Nat → Option Nat} {kp : Nat → Bool} {T : Nat} {sg : Nat → Shp} {gd : Mm → Prop} (hS : SubOk E em dm kp T sg gd M) {H : Heap} (h : va_P E.Y.D vwCl (wld E.Y E.t M) H) : va_P E.Y.D vwCl (wld (YS E.Y em T sg) T (sbM em M)) H := by
  obtain ⟨hT, h1, h2, h3, h4, h5⟩ := hS
  intro k q hq
  have hk : k < T := by rw [← wld_len (YS E.Y em T sg) T (sbM em M)]; exact (List.getElem?_eq_some_iff.mp hq).1
  rw [wld_get _ _ hk] at hq
  cases hq
  have := h (em k) _ (wld_get E.Y M (h1 k hk).1)
  show va_at E.Y.D vwCl ((if k < 1000 then E.Y.ad (em k) else E.Y.ad k), _) H
  rw [if_pos (by omega)]
  exact h4 k hk _ _ this
theorem sub_back (hE : CxOk E cc own sf ret rm nL) {em : Nat → Nat} {dm : Nat → Option Nat} {kp : Nat → Bool} {T : Nat} {sg : Nat → Shp} {gd : Mm → Prop} (hS : SubOk E em dm kp T sg gd M) {M' : Mm} (hG : gd M') {H H1 : Heap} (h : va_P E.Y.D vwCl (wld E.Y E.t M) H) (h' : va_P E.Y.D vwCl (wld (YS E.Y em T sg) T M') H1) (hk : ∀ q : Nat, q < H.size → ¬ (YS E.Y em T sg).A q → H1[q]? = H[q]?) : va_P E.Y.D vwCl (wld E.Y E.t (inM dm kp M M')) H1 := by
  obtain ⟨hT, h1, h2, h3, h4, h5⟩ := hS
  intro k q hq
  have hkt : k < E.t := by rw [← wld_len E.Y E.t (inM dm kp M M')]; exact (List.getElem?_eq_some_iff.mp hq).1
  rw [wld_get _ _ hkt] at hq
  cases hq
  cases hd : dm k with
  | some r =>
    obtain ⟨hr, he⟩ := h2 k r hd
    have h6 := h5 M' r hG hr (E.Y.ad k) H1
    rw [he] at h6
    refine h6 ?_
    have h7 := h' r _ (wld_get _ M' hr)
    have h8 : (YS E.Y em T sg).ad r = E.Y.ad k := by
      show (if r < 1000 then E.Y.ad (em r) else E.Y.ad r) = _
      rw [if_pos (by omega), he]
    rw [h8] at h7
    exact h7
  | none =>
    have h6 : ent E.Y (inM dm kp M M') k = ent E.Y M k := ent_row E.Y _ _ k (fun j => by simp only [gI, inM, hd]) (fun j => by simp only [gF, inM, hd]) (fun j => rfl) (fun j => by simp only [gR, inM, hd])
    rw [h6]
    have h7 := h k _ (wld_get E.Y M hkt)
    refine h7.kept (hk _ h7.lt ?_)
    intro ⟨r, hr, hq⟩
    have he := hE.sys.2.1 _ _ hkt (h1 r hr).1 hq
    have e1 := (h1 r hr).2
    rw [← he, hd] at e1
    cases e1
theorem sub_same {em : Nat → Nat} {dm : Nat → Option Nat} {kp : Nat → Bool} {T : Nat} {sg : Nat → Shp} {gd : Mm → Prop} (hS : SubOk E em dm kp T sg gd M) : inM dm kp M (sbM em M) = M := by
  obtain ⟨hT, h1, h2, h3, h4, h5⟩ := hS
  refine Prod.ext (funext fun a => funext fun k => ?_) (Prod.ext (funext fun a => funext fun k => ?_) (Prod.ext rfl (funext fun a => funext fun k => ?_)))
  · simp only [inM, sbM]
    cases hd : dm a with
    | none => rfl
    | some r => simp only [(h2 a r hd).2]
  · simp only [inM, sbM]
    cases hd : dm a with
    | none => rfl
    | some r => simp only [(h2 a r hd).2]
  · simp only [inM, sbM]
    cases hd : dm a with
    | none => rfl
    | some r => simp only [(h2 a r hd).2]; split <;> rfl
theorem W_runX {p : Program} {l : Launch} {e : Env} {R : Room} {s : State} {m : MethodId} {args : Array Value} {below : List Frame} {meth : Method} {c : Code} {H : Heap} {locs : List Loc} {Q : State → Prop} {Z : Sys} {T : Nat} {A0 : Nat → Prop} {r : Option Value × Mm} {ls : Array Slot} {rest : List Value} {av : Array Value} (hA : ∀ q, Z.A q → A0 q) (hr : va_Run p l e R s m args below meth c H locs 0 0 0 0 (F0 m pc ls st0) rest (Qp Z T r av) Z.A) (hS : va_S A0 s.heap H locs)
    (kk : ∀ (H1 : Heap) (locs1 : List Loc), va_P Z.D vwCl (wld Z T r.2) H1 → (∀ q : Nat, q < H.size → ¬ Z.A q → H1[q]? = H[q]?) → va_S A0 s.heap H1 locs1 → W p l e R s m args below meth c H1 locs1 0 0 Q (F0 m (pc + 3) ls (r.1.toList ++ rest))) : W p l e R s m args below meth c H locs 0 0 Q (F0 m pc ls st0) := by
  intro T0 hT X
  obtain ⟨v, st₀, u, T', L, h0, X', hL, e1, e2, ⟨hv, hP, hz, hk⟩, stp⟩ := hr T0 hT X
  cases hv
  rw [h0] at hz hk
  rw [← e1] at hP
  obtain ⟨t2, a1, b1⟩ := kk T'.heap (locs ++ L) hP (fun q h1 h2 => by rw [e1]; exact hk q h1 h2) ⟨Nat.le_trans hS.1 (by rw [e1]; exact hz), fun q h1 h2 => by rw [e1, hk q (Nat.lt_of_lt_of_le h1 hS.1) (fun h => h2 (hA q h))]; exact hS.2.1 q h1 h2, fun q hq => by
      rcases List.mem_append.mp hq with h | h
      · exact hS.2.2 q h
      · exact hA _ (hL q h)⟩ T' rfl X'
  exact ⟨t2, stp t2 a1, b1⟩
theorem ok_xcall (hE : CxOk E cc own sf ret rm nL) (enc : α → Option Value × Mm) {em : Nat → Nat} {dm : Nat → Option Nat} {kp : Nat → Bool} {T : Nat} {sg : Nat → Shp} {gd : Mm → Prop} (hS : SubOk E em dm kp T sg gd M) {fo : Option α} {f : α → Option ρ} {a idx ci n maxL z N : Nat} {fs : List (Nat × Nat)} {As rest : List Value} {y : MethodName} {bytes : ByteArray} {retc : Option FieldType} {rmc : Room} {C : String} {T0 : u_T} (hst : st0 = As.reverse ++ .ref (E.Y.ad a) :: rest) (cv : CallV own idx C y bytes maxL retc n) (hsh : sf a = (0, ci, z, fs)) (hci : vwCl[ci]? = some (C, T0, N))
    (hM : SysOk (YS E.Y em T sg) T sg → ∀ x, fo = some x → Cm E.l (YS E.Y em T sg) T y (WS y bytes maxL retc) rmc (.ref (E.Y.ad a) :: As) (sbM em M) (enc x)) (hG : ∀ x, fo = some x → gd (enc x).2)
    (hR : rmc.cells = 0 ∧ rmc.slots = 0 ∧ Nat.ble (rmc.frames + 1) rm.frames = true ∧ Nat.ble (8 + (maxL + 11) + rmc.locals) rm.locals = true) (hn : As.length = n) (hW : Nat.ble ((rest.map fun v => v.category).sum) 8 = true) (hd : decode cc pc = .ok (.invokevirtual idx, 3)) (kk : ∀ x, Ok E (pc + 3) lv ((enc x).1.toList ++ rest) (inM dm kp M (enc x).2) (f x) K) : Ok E pc lv st0 M (bnd fo f) K := by
  intro r hr hK ls H locs h1 h2 h3
  cases hfo : fo with
  | none => rw [hfo] at hr; cases hr
  | some x =>
    rw [hfo] at hr
    obtain ⟨hl, hin, hse, hini, hco, hy1, hy2, hlen⟩ := cv
    have hrm := hE.1.2.2.2.2.2.2
    have hrec := va_recv hE.2.2.1 h2 hci (hE.obj hsh M)
    have hA : ∀ q, (YS E.Y em T sg).A q → E.Y.A q := fun q ⟨r, hr, hq⟩ => by rw [hq]; exact hE.sys.2.2.1 _ (hS.2.1 r hr).1
    have hpre : ∀ U : State, U.heap = H → E.s.WarmedH U.vm → va_Pc (.ref (E.Y.ad a) :: As) (Pre (YS E.Y em T sg) T (sbM em M)) (Value.ref (E.Y.ad a) :: As).toArray U := by
      intro U hU hW
      obtain ⟨-, q1, q2, q3⟩ := pre_at hE h2 h3 (.ref (E.Y.ad a) :: As) U hU hW
      exact ⟨rfl, sub_P hS q1, q2, YS_Xf (fun r hr => hE.sys.2.2.1 _ (hS.2.1 r hr).1) q3⟩
    have hp : PreV E.s H C (E.Y.ad a) (va_Pc (.ref (E.Y.ad a) :: As) (Pre (YS E.Y em T sg) T (sbM em M))) As := ⟨pre_blind, hrec, hpre⟩
    have hroom : rmc.frames + 1 ≤ E.R.frames ∧ 8 + (maxL + 11) + rmc.locals ≤ E.R.locals := by rw [hrm]; exact ⟨Nat.le_of_ble_eq_true hR.2.2.1, Nat.le_of_ble_eq_true hR.2.2.2⟩
    have hfix : CallFix E.p E.m E.c cc E.nL E.s E.args lw_good own := ⟨hE.1.1, hE.1.2.1, hE.1.2.2.1, hE.1.2.2.2.1, hE.2.1⟩
    have hm := hM (sub_sys hE hS) x hfo
    rcases hl with hl | ⟨host, hl⟩
    · exact W_runX (Z := YS E.Y em T sg) (T := T) (r := enc x) hA (va_runV hfix hm ⟨callB_of n hE.2.1 (WS_good hco) rfl hR.1 hR.2.1 (hE.2.1 _ hini) (hE.2.1 _ hl) ⟨hy1, hy2, hlen⟩ hroom, hE.2.1 _ hin, hE.2.1 _ hse⟩ hp rfl hn h1.1 hst (lv_room (Nat.le_of_ble_eq_true hW)) hd ⟨Nat.zero_le _, Nat.zero_le _⟩) h3 (fun H1 locs1 hP hk hS1 => kk x r hr hK ls H1 locs1 h1 (sub_back hE hS (hG x hfo) h2 hP hk) hS1)
    · exact W_runX (Z := YS E.Y em T sg) (T := T) (r := enc x) hA (va_runVN hfix hm ⟨va_cnB n hE.2.1 (WS_good hco) rfl hR.1 hR.2.1 (hE.2.2.2.2.1.nestM hl) (hE.2.1 _ hini) ⟨hy1, hy2, hlen⟩ hroom, hE.2.1 _ hin, hE.2.1 _ hse⟩ hp rfl hn h1.1 hst (lv_room (Nat.le_of_ble_eq_true hW)) hd ⟨Nat.zero_le _, Nat.zero_le _⟩) h3 (fun H1 locs1 hP hk hS1 => kk x r hr hK ls H1 locs1 h1 (sub_back hE hS (hG x hfo) h2 hP hk) hS1)
end SUBS
