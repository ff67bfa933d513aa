/-! THE JUDGEMENT: Wx (the machine goes well from here), Ok (it does, for whatever the pure text 'o' answers) -/
def Cx : Type := Sys × Nat × Program × Launch × Env × Room × State × MethodId × Array Value × List Frame × Method × Code × Nat × (State → Prop) × (Option Value × Mm)
def Cx.Y (E : Cx) : Sys := E.1
def Cx.t (E : Cx) : Nat := E.2.1
def Cx.p (E : Cx) : Program := E.2.2.1
def Cx.l (E : Cx) : Launch := E.2.2.2.1
def Cx.e (E : Cx) : Env := E.2.2.2.2.1
def Cx.R (E : Cx) : Room := E.2.2.2.2.2.1
def Cx.s (E : Cx) : State := E.2.2.2.2.2.2.1
def Cx.m (E : Cx) : MethodId := E.2.2.2.2.2.2.2.1
def Cx.args (E : Cx) : Array Value := E.2.2.2.2.2.2.2.2.1
def Cx.below (E : Cx) : List Frame := E.2.2.2.2.2.2.2.2.2.1
def Cx.meth (E : Cx) : Method := E.2.2.2.2.2.2.2.2.2.2.1
def Cx.c (E : Cx) : Code := E.2.2.2.2.2.2.2.2.2.2.2.1
def Cx.nL (E : Cx) : Nat := E.2.2.2.2.2.2.2.2.2.2.2.2.1
def Cx.Q (E : Cx) : State → Prop := E.2.2.2.2.2.2.2.2.2.2.2.2.2.1
def Cx.r0 (E : Cx) : Option Value × Mm := E.2.2.2.2.2.2.2.2.2.2.2.2.2.2
def Cx.ad (E : Cx) : Nat → Nat := E.Y.ad
def lw_good : List Cond := lw_tbl.filter goodWord
def WS (y : MethodName) (cc : ByteArray) (maxL : Nat) (ret : Option FieldType) : List Cond := Cond.code y cc maxL ret :: lw_good
theorem lw_mg {w : Cond} (h : w ∈ lw_tbl) (hg : goodWord w = true) : w ∈ lw_good := List.mem_filter.mpr ⟨h, hg⟩
theorem lw_T {w : Cond} (i : Nat) (h : tables_1[i]? = some w) : w ∈ lw_tbl := List.mem_append_right _ (List.mem_of_getElem? h)
theorem lw_TG {w : Cond} (i : Nat) (h : tables_1[i]? = some w) (hg : goodWord w = true) : w ∈ lw_good := lw_mg (lw_T i h) hg
theorem lw_good_in : GoodIn lw_good lw_good := fun w h => ⟨h, good_of_word (List.mem_filter.mp h).2⟩
theorem WS_good {y : MethodName} {cc : ByteArray} {maxL : Nat} {ret : Option FieldType} (h : Cond.code y cc maxL ret ∈ lw_good) : GoodIn lw_good (WS y cc maxL ret) := by
  intro w hw
  rcases List.mem_cons.mp hw with h1 | h1
  · subst h1; exact lw_good_in _ h
  · exact lw_good_in _ h1
def Pre (Y : Sys) (t : Nat) (M : Mm) (U : State) : Prop := va_P Y.D vwCl (wld Y t M) U.heap ∧ va_K Y.D vwCl (tys7 Y.c) U ∧ Xf Y U
def Qp (Y : Sys) (t : Nat) (r0 : Option Value × Mm) : Array Value → State → Outcome → State → Prop := fun _ st oc u => oc = .returned r0.1 ∧ va_P Y.D vwCl (wld Y t r0.2) u.heap ∧ va_F Y.A st u
/-- a contract: from the memory M, with these arguments, the method answers r.1 and leaves the memory r.2 -/
def Cm (l : Launch) (Y : Sys) (t : Nat) (y : MethodName) (ws : List Cond) (rm : Room) (As : List Value) (M : Mm) (r : Option Value × Mm) : Prop := Met l y ws rm (va_Pc As (Pre Y t M)) (Qp Y t r) 0 0 Y.A
/-- the system's own facts -/
def SysOk (Y : Sys) (t : Nat) (sf : Nat → Shp) : Prop := Y.sh = sf ∧ (∀ a b : Nat, a < t → b < t → Y.ad a = Y.ad b → a = b) ∧ (∀ a : Nat, a < t → Y.A (Y.ad a)) ∧ ∀ a : Nat, (sf a).1 < 9 → a < t
def CxOk (E : Cx) (cc : ByteArray) (own : String) (sf : Nat → Shp) (ret : Option FieldType) (rm : Room) (nL : Nat) : Prop :=
  (E.p.tables.exec = Jvm.exec ∧ E.c.code = cc ∧ E.c.maxLocals = E.nL ∧ E.s.vm.findClass own = some E.m.cls ∧ E.meth.sig.returnType = ret ∧ E.meth.locks = false ∧ E.R = rm) ∧ (∀ w ∈ lw_good, w.before E.args E.s = true) ∧ va_K E.Y.D vwCl (tys7 E.Y.c) E.s ∧ SysOk E.Y E.t sf ∧ Xf E.Y E.s ∧ E.nL = nL ∧ E.Q = MQ E.below (Qp E.Y E.t E.r0) E.args E.s 0 0 E.Y.A
theorem CxOk.nl {E : Cx} {cc : ByteArray} {own : String} {sf : Nat → Shp} {ret : Option FieldType} {rm : Room} {nL : Nat} (h : CxOk E cc own sf ret rm nL) : E.nL = nL := h.2.2.2.2.2.1
theorem CxOk.q {E : Cx} {cc : ByteArray} {own : String} {sf : Nat → Shp} {ret : Option FieldType} {rm : Room} {nL : Nat} (h : CxOk E cc own sf ret rm nL) : E.Q = MQ E.below (Qp E.Y E.t E.r0) E.args E.s 0 0 E.Y.A := h.2.2.2.2.2.2
theorem CxOk.sys {E : Cx} {cc : ByteArray} {own : String} {sf : Nat → Shp} {ret : Option FieldType} {rm : Room} {nL : Nat} (h : CxOk E cc own sf ret rm nL) : SysOk E.Y E.t sf := h.2.2.2.1
def Wx (E : Cx) (pc : Nat) (lv : List (Nat × Value)) (st : List Value) (M : Mm) : Prop :=
  ∀ (ls : Array Slot) (H : Heap) (locs : List Loc), lv_has ls E.nL lv → va_P E.Y.D vwCl (wld E.Y E.t M) H → va_S E.Y.A E.s.heap H locs → W E.p E.l E.e E.R E.s E.m E.args E.below E.meth E.c H locs 0 0 E.Q (F0 E.m pc ls st)
def Ok {ρ : Type} (E : Cx) (pc : Nat) (lv : List (Nat × Value)) (st : List Value) (M : Mm) (o : Option ρ) (K : ρ → Prop) : Prop := ∀ r, o = some r → K r → Wx E pc lv st M
def lett {α β : Type} (x : α) (f : α → β) : β := f x
def grd {ρ : Type} (c : Prop) [Decidable c] (o : Option ρ) : Option ρ := if c then o else none
def bnd {α β : Type} (x : Option α) (f : α → Option β) : Option β := x.bind f
def loopR {σ ρ : Type} (b : (σ → Option ρ) → σ → Option ρ) : Nat → σ → Option ρ
  | 0, _ => none
  | n + 1, x => b (loopR b n) x
def ix (i : Int32) : Nat := i.toInt.toNat
def ald {ρ : Type} (i : Int32) (n : Nat) (o : Option ρ) : Option ρ := if 0 ≤ i.toInt ∧ i.toInt < (n : Int) then o else none
def KI (E : Cx) (r : Int32 × Mm) : Prop := (some (.int r.1), r.2) = E.r0
def KF (E : Cx) (r : UInt32 × Mm) : Prop := (some (.float r.1), r.2) = E.r0
def KL (E : Cx) (r : Int64 × Mm) : Prop := (some (.long r.1), r.2) = E.r0
def KA (E : Cx) (r : Nat × Mm) : Prop := (some (.ref (E.Y.ad r.1)), r.2) = E.r0
def KN (E : Cx) (r : Option Nat × Mm) : Prop := (some (va_rf (r.1.map E.Y.ad)), r.2) = E.r0
def KV (E : Cx) (r : Mm) : Prop := (none, r) = E.r0
section MACH
variable {ρ : Type} {E : Cx} {cc : ByteArray} {own : String} {sf : Nat → Shp} {ret : Option FieldType} {rm : Room} {nL pc : Nat} {lv : List (Nat × Value)} {st : List Value} {M : Mm} {o : Option ρ} {K : ρ → Prop}
theorem ok_grd {c : Prop} [Decidable c] (h : c → Ok E pc lv st M o K) : Ok E pc lv st M (grd c o) K := by
  intro r hr hK
  unfold grd at hr
  by_cases hc : c
  · rw [if_pos hc] at hr; exact h hc r hr hK
  · rw [if_neg hc] at hr; cases hr
theorem ok_ald {i : Int32} {n : Nat} (h : vp_in i n → Ok E pc lv st M o K) : Ok E pc lv st M (ald i n o) K := by
  intro r hr hK
  unfold ald at hr
  by_cases hc : 0 ≤ i.toInt ∧ i.toInt < (n : Int)
  · rw [if_pos hc] at hr; exact h (vp_in_iff.mpr hc) r hr hK
  · rw [if_neg hc] at hr; cases hr
theorem ok_lett {α : Type} {x : α} {f : α → Option ρ} (h : ∀ y, Ok E pc lv st M (f y) K) : Ok E pc lv st M (lett x f) K := fun r hr hK => h x r hr hK
theorem ok_fun {α : Type} {x : α} {f : α → Option ρ} (P : α → Prop) (hx : P x) (h : ∀ y, P y → Ok E pc lv st M (f y) K) : Ok E pc lv st M (lett x f) K := fun r hr hK => h x hx r hr hK
theorem ok_ite {c : Prop} [Decidable c] {o1 o2 : Option ρ} (h1 : c → Ok E pc lv st M o1 K) (h2 : ¬ c → Ok E pc lv st M o2 K) : Ok E pc lv st M (if c then o1 else o2) K := by
  intro r hr hK
  by_cases hc : c
  · rw [if_pos hc] at hr; exact h1 hc r hr hK
  · rw [if_neg hc] at hr; exact h2 hc r hr hK
theorem ok_loop {σ : Type} {b : (σ → Option ρ) → σ → Option ρ} (pcF : Nat) (lvF : σ → List (Nat × Value)) (MF : σ → Mm) (h : ∀ rec : σ → Option ρ, (∀ y, Ok E pcF (lvF y) [] (MF y) (rec y) K) → ∀ x, Ok E pcF (lvF x) [] (MF x) (b rec x) K) : ∀ (n : Nat) (x : σ), Ok E pcF (lvF x) [] (MF x) (loopR b n x) K
  | 0, x => fun r hr => by cases hr
  | n + 1, x => h (loopR b n) (ok_loop pcF lvF MF h n) x
theorem ok_sub (ks : List Nat) {lv' : List (Nat × Value)} (hl : lv_pick lv ks = lv') (h : Ok E pc lv' st M o K) : Ok E pc lv st M o K := by
  intro r hr hK ls H locs h1 h2 h3
  exact h r hr hK ls H locs (lv_sub h1 ks hl) h2 h3
theorem cm_of {l : Launch} {Y : Sys} {t : Nat} {y : MethodName} {maxL : Nat} {As : List Value} {r : Option Value × Mm} (hY : SysOk Y t sf) (hy : plainName y.cls = true) (hc : y.cls = own) (hlen : (lg_sl As).length ≤ maxL)
    (body : ∀ E : Cx, CxOk E cc own sf ret rm maxL → E.Y = Y → E.t = t → E.l = l → E.r0 = r → Wx E 0 (lv_args 0 As) [] M) : Cm l Y t y (WS y cc maxL ret) rm As M r := by
  refine Met.ofW (cc := cc) (maxL := maxL) (ret := ret) hy rfl ?_
  intro p e s m args below meth c s₁ B hml hv
  obtain ⟨rfl, hP, hK, hX⟩ := hv
  have hts := atoms_spec (ws := WS y cc maxL ret) B.pre
  have hown : s.vm.findClass own = some m.cls := by rw [← hc]; exact findClass_of_methodNamed B.named
  rw [lg_entry_eq]
  have h := body (Y, t, p, l, e, rm, s, m, As.toArray, below, meth, c, maxL, MQ below (Qp Y t r) As.toArray s 0 0 Y.A, r) ⟨⟨B.exec, B.bytes, hml, hown, B.returns, B.notSynchronized, rfl⟩, fun w hw => hts w (List.mem_cons_of_mem _ hw), hK, hY, hX, rfl, rfl⟩ rfl rfl rfl rfl
  exact h _ _ _ (lv_entry As hlen) hP va_S.rf
end MACH
