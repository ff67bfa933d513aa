/-! THE WORDS: constants of the enum, at codes 1000 .. 1019 -/
abbrev isW (w : Nat) : Prop := 1000 ≤ w ∧ w < 1020
def okW (x : Option Nat) : Bool := match x with
  | none => true
  | some w => Nat.ble 1000 w && Nat.blt w 1020
def wOnces : List Int32 := [0, 0, 0, 1, 0, 2, 4, 8, 16, 0, 0, 0, 0, 0, 0, 0, 0, 0, 0, 0]
def wOnce (w : Nat) : Int32 := wOnces.getD (w - 1000) 0
theorem isW_0 : isW 1000 := by decide
theorem isW_1 : isW 1001 := by decide
theorem isW_2 : isW 1002 := by decide
theorem isW_3 : isW 1003 := by decide
theorem isW_4 : isW 1004 := by decide
theorem isW_5 : isW 1005 := by decide
theorem isW_6 : isW 1006 := by decide
theorem isW_7 : isW 1007 := by decide
theorem isW_8 : isW 1008 := by decide
theorem isW_9 : isW 1009 := by decide
theorem isW_10 : isW 1010 := by decide
theorem isW_11 : isW 1011 := by decide
theorem isW_12 : isW 1012 := by decide
theorem isW_13 : isW 1013 := by decide
theorem isW_14 : isW 1014 := by decide
theorem isW_15 : isW 1015 := by decide
theorem isW_16 : isW 1016 := by decide
theorem isW_17 : isW 1017 := by decide
theorem isW_18 : isW 1018 := by decide
theorem isW_19 : isW 1019 := by decide
theorem okW_some {w : Nat} (h : okW (some w) = true) : ∃ k, k < 20 ∧ w = 1000 + k := by
  have h : (Nat.ble 1000 w && Nat.blt w 1020) = true := h
  rw [Bool.and_eq_true] at h
  have h1 := Nat.le_of_ble_eq_true h.1
  have h2 : w < 1020 := Nat.le_of_ble_eq_true h.2
  exact ⟨w - 1000, by omega, by omega⟩
theorem Xf.at0 {Y : Sys} {s : State} (hX : Xf Y s) : ∃ (s0 : State) (a0 : Array Value), (∀ w ∈ lw_tbl, w.before a0 s0 = true) ∧ (∀ c ∈ flatC (Jvm.Cond.and given_1 narrow_1), c.before a0 s0 = true) ∧ s0.vm.Alike s.vm ∧ (∀ a : Nat, a < s0.heap.size → ¬ Y.A a → s.heap[a]? = s0.heap[a]?) ∧ (∀ a : Nat, a < s0.heap.size → ¬ Y.A a) ∧ ∀ k : Nat, k < 20 → (Term.static RX10 (wordNames.getD k "") "LDiskBudgets$Word;").eval a0 s0 none [] s0 = some (.ref (Y.ad (1000 + k))) := by
  obtain ⟨s0, a0, h1, h2, h3, h4, h5, h6, h7⟩ := hX
  exact ⟨s0, a0, h1, flat_of_before _ h2, h3.alike, fun a ha _ => h5 a ha, fun a ha hA => absurd (h6 a hA) (by omega), h7⟩
theorem lw_stat {k : Nat} (hk : k < 20) : Cond.laysStatic RX10 (wordNames.getD k "") "LDiskBudgets$Word;" ∈ lw_tbl := co_dec (P := fun k => Cond.laysStatic RX10 (wordNames.getD k "") "LDiskBudgets$Word;" ∈ lw_tbl) (by decide +kernel) hk
theorem lw_iniW : Cond.initialized RX10 ∈ lw_tbl := by decide +kernel
theorem fl_once {k : Nat} (hk : k < 20) : Cond.eq (.field (.static RX10 (wordNames.getD k "") "LDiskBudgets$Word;") RX10 "once" "I") (.int (wOnce (1000 + k))) ∈ flatC (Jvm.Cond.and given_1 narrow_1) := co_dec (P := fun k => Cond.eq (.field (.static RX10 (wordNames.getD k "") "LDiskBudgets$Word;") RX10 "once" "I") (.int (wOnce (1000 + k))) ∈ flatC (Jvm.Cond.and given_1 narrow_1)) (by decide +kernel) hk
theorem fl_ord {k : Nat} (hk : k < 20) : Cond.eq (.field (.static RX10 (wordNames.getD k "") "LDiskBudgets$Word;") "java/lang/Enum" "ordinal" "I") (.int (nI k)) ∈ flatC (Jvm.Cond.and given_1 narrow_1) := co_dec (P := fun k => Cond.eq (.field (.static RX10 (wordNames.getD k "") "LDiskBudgets$Word;") "java/lang/Enum" "ordinal" "I") (.int (nI k)) ∈ flatC (Jvm.Cond.and given_1 narrow_1)) (by decide +kernel) hk
theorem fl_exW {k : Nat} (hk : k < 20) : Cond.exactly (.static RX10 (wordNames.getD k "") "LDiskBudgets$Word;") RX10 ∈ flatC (Jvm.Cond.and given_1 narrow_1) := co_dec (P := fun k => Cond.exactly (.static RX10 (wordNames.getD k "") "LDiskBudgets$Word;") RX10 ∈ flatC (Jvm.Cond.and given_1 narrow_1)) (by decide +kernel) hk
theorem Xf.stat {Y : Sys} {s : State} (hX : Xf Y s) {k : Nat} (hk : k < 20) : va_Z RX10 (wordNames.getD k "") "LDiskBudgets$Word;" (.ref (Y.ad (1000 + k))) Y.A s s.heap := by
  obtain ⟨s0, a0, h1, h2, h3, h4, h5, h6⟩ := hX.at0
  exact ((va_Zof (A := Y.A) (h1 _ (lw_stat hk)) (h1 _ lw_iniW) (h6 k hk) h5).moved h3).kept h4
theorem Xf.once {Y : Sys} {s : State} (hX : Xf Y s) {k : Nat} (hk : k < 20) : va_OF RX10 "once" "I" (.int (wOnce (1000 + k))) (Y.ad (1000 + k)) Y.A s s.heap := by
  obtain ⟨s0, a0, h1, h2, h3, h4, h5, h6⟩ := hX.at0
  exact ((vk_OFof (A := Y.A) (h6 k hk) (va_eqt (h2 _ (fl_once hk))) h5).moved h3).kept h4
theorem Xf.ord {Y : Sys} {s : State} (hX : Xf Y s) {k : Nat} (hk : k < 20) : va_OF "java/lang/Enum" "ordinal" "I" (.int (nI k)) (Y.ad (1000 + k)) Y.A s s.heap := by
  obtain ⟨s0, a0, h1, h2, h3, h4, h5, h6⟩ := hX.at0
  exact ((vk_OFof (A := Y.A) (h6 k hk) (va_eqt (h2 _ (fl_ord hk))) h5).moved h3).kept h4
theorem Xf.objW {Y : Sys} {s : State} (hX : Xf Y s) {k : Nat} (hk : k < 20) : va_O RX10 (Y.ad (1000 + k)) Y.A s s.heap := by
  obtain ⟨s0, a0, h1, h2, h3, h4, h5, h6⟩ := hX.at0
  exact ((va_Oof (A := Y.A) (h2 _ (fl_exW hk)) (h6 k hk) h5).moved h3).kept h4
theorem Xf.injW {Y : Sys} {s : State} (hX : Xf Y s) {i j : Nat} (hi : i < 20) (hj : j < 20) (h : Y.ad (1000 + i) = Y.ad (1000 + j)) : i = j := by
  obtain ⟨cf, k, fi, f, cell, q1, q2, q3, q4, q5, q6⟩ := hX.ord hi
  obtain ⟨cf', k', fi', f', cell', r1, r2, r3, r4, r5, r6⟩ := hX.ord hj
  rw [q1] at r1
  cases r1
  rw [← h, q3] at r3
  cases r3
  rw [q5] at r5
  have : nI i = nI j := by injection r5 with e; injection e
  exact (nI_eq (by omega) (by omega)).mp this
theorem Xf.mapW {Y : Sys} {s : State} (hX : Xf Y s) {x y : Option Nat} (hx : okW x = true) (hy : okW y = true) : x.map Y.ad = y.map Y.ad ↔ x = y := by
  refine ⟨fun h => ?_, fun h => by rw [h]⟩
  cases x with
  | none => cases y with
    | none => rfl
    | some b => cases h
  | some a => cases y with
    | none => cases h
    | some b =>
      obtain ⟨i, hi, rfl⟩ := okW_some hx
      obtain ⟨j, hj, rfl⟩ := okW_some hy
      rw [hX.injW hi hj (Option.some.inj h)]
section ROWSW
variable {ρ : Type} {E : Cx} {cc : ByteArray} {own : String} {sf : Nat → Shp} {ret : Option FieldType} {rm : Room} {nL pc : Nat} {lv : List (Nat × Value)} {st : List Value} {M : Mm} {o o1 o2 : Option ρ} {K : ρ → Prop}
theorem ok_wget (hE : CxOk E cc own sf ret rm nL) {idx k : Nat} (hw : Cond.fieldLink own idx RX10 (wordNames.getD k "") "LDiskBudgets$Word;" ∈ lw_good) (hk : k < 20) (hd : decode cc pc = .ok (.getstatic idx, 3)) (kk : Ok E (pc + 3) lv (.ref (E.Y.ad (1000 + k)) :: st) M o K) : Ok E pc lv st M o K :=
  fun r hr hK ls H locs h1 h2 h3 => va_gets hE.1.1 hE.1.2.1 (hE.2.2.2.2.1.stat hk) h3 hE.1.2.2.2.1 (hE.2.1 _ hw) (fun _ h => h) hd (kk r hr hK ls H locs h1 h2 h3)
theorem ok_wonce (hE : CxOk E cc own sf ret rm nL) {idx w : Nat} {host : String} (hw : Cond.fieldLinkNest own idx RX10 "once" "I" host ∈ lw_tbl) (hk : isW w) (hd : decode cc pc = .ok (.getfield idx, 3)) (kk : Ok E (pc + 3) lv (.int (wOnce w) :: st) M o K) : Ok E pc lv (.ref (E.Y.ad w) :: st) M o K := by
  intro r hr hK ls H locs h1 h2 h3
  have hw1 : w = 1000 + (w - 1000) := by omega
  have h0 := hE.2.2.2.2.1.once (k := w - 1000) (by omega)
  rw [← hw1] at h0
  obtain ⟨cf, k, fi, f, cell, q1, q2, q3, q4, q5, q6⟩ := h0.kept h3.2.1
  exact va_Wgetf hE.1.1 hE.1.2.1 hE.1.2.2.2.1 (hE.2.2.2.2.1.nestF hw) q1 q2 q3 q4 (v := .int (wOnce w)) q5 rfl rfl hd (kk r hr hK ls H locs h1 h2 h3)
theorem ok_acmp_eq (hE : CxOk E cc own sf ret rm nL) {x y : Option Nat} {off : Int} (tgt : Nat) (ht : (pc : Int) + off = (tgt : Int)) (hd : decode cc pc = .ok (.if_acmp .eq off, 3)) (k1 : Ok E tgt lv st M o1 K) (k2 : Ok E (pc + 3) lv st M o2 K) : Ok E pc lv (va_rf (y.map E.Y.ad) :: va_rf (x.map E.Y.ad) :: st) M (grd (okW x = true ∧ okW y = true) (if x = y then o1 else o2)) K :=
  ok_grd (fun hw => fun r hr hK ls H locs h1 h2 h3 => lv_acmp_eq hE.1.1 hE.1.2.1 hd ht (fun hc => k1 r ((if_pos ((hE.2.2.2.2.1.mapW hw.1 hw.2).mp hc)).symm.trans hr) hK ls H locs h1 h2 h3) (fun hc => k2 r ((if_neg (fun q => hc ((hE.2.2.2.2.1.mapW hw.1 hw.2).mpr q))).symm.trans hr) hK ls H locs h1 h2 h3))
theorem ok_acmp_ne (hE : CxOk E cc own sf ret rm nL) {x y : Option Nat} {off : Int} (tgt : Nat) (ht : (pc : Int) + off = (tgt : Int)) (hd : decode cc pc = .ok (.if_acmp .ne off, 3)) (k1 : Ok E tgt lv st M o1 K) (k2 : Ok E (pc + 3) lv st M o2 K) : Ok E pc lv (va_rf (y.map E.Y.ad) :: va_rf (x.map E.Y.ad) :: st) M (grd (okW x = true ∧ okW y = true) (if x = y then o2 else o1)) K :=
  ok_grd (fun hw => fun r hr hK ls H locs h1 h2 h3 => lv_acmp_ne hE.1.1 hE.1.2.1 hd ht (fun hc => k1 r ((if_neg (fun q => hc ((hE.2.2.2.2.1.mapW hw.1 hw.2).mpr q))).symm.trans hr) hK ls H locs h1 h2 h3) (fun hc => k2 r ((if_pos ((hE.2.2.2.2.1.mapW hw.1 hw.2).mp hc)).symm.trans hr) hK ls H locs h1 h2 h3))
theorem ok_ifnull (hE : CxOk E cc own sf ret rm nL) {x : Option Nat} {off : Int} (tgt : Nat) (ht : (pc : Int) + off = (tgt : Int)) (hd : decode cc pc = .ok (.ifnull off, 3)) (k1 : Ok E tgt lv st M o1 K) (k2 : Ok E (pc + 3) lv st M o2 K) : Ok E pc lv (va_rf (x.map E.Y.ad) :: st) M (if x = none then o1 else o2) K := by
  intro r hr hK ls H locs h1 h2 h3
  cases x with
  | none => exact lv_ifnullN hE.1.1 hE.1.2.1 hd ht (k1 r ((if_pos rfl).symm.trans hr) hK ls H locs h1 h2 h3)
  | some a => exact lv_ifnull hE.1.1 hE.1.2.1 hd (k2 r ((if_neg (fun h => by cases h)).symm.trans hr) hK ls H locs h1 h2 h3)
theorem ok_ifnonnull (hE : CxOk E cc own sf ret rm nL) {x : Option Nat} {off : Int} (tgt : Nat) (ht : (pc : Int) + off = (tgt : Int)) (hd : decode cc pc = .ok (.ifnonnull off, 3)) (k1 : Ok E tgt lv st M o1 K) (k2 : Ok E (pc + 3) lv st M o2 K) : Ok E pc lv (va_rf (x.map E.Y.ad) :: st) M (if x = none then o2 else o1) K := by
  intro r hr hK ls H locs h1 h2 h3
  cases x with
  | none => exact lv_ifnonnullN hE.1.1 hE.1.2.1 hd (k2 r ((if_pos rfl).symm.trans hr) hK ls H locs h1 h2 h3)
  | some a => exact lv_ifnonnull hE.1.1 hE.1.2.1 hd ht (k1 r ((if_neg (fun h => by cases h)).symm.trans hr) hK ls H locs h1 h2 h3)
theorem gR_upd (ad : Nat → Nat) (M : Mm) (a k : Nat) (v : Option Nat) : (fun i => (gR (sR M a k v) a i).map ad) = va_up (fun i => (gR M a i).map ad) k (v.map ad) := by
  funext j
  by_cases h : j = k <;> simp [gR_sR, va_up, h]
theorem ok_aastoreW (hE : CxOk E cc own sf ret rm nL) {a n : Nat} {fs : List (Nat × Nat)} {i : Int32} {x : Option Nat} {f : Mm → Option ρ} (hsh : sf a = (3, 6, n, fs)) (hd : decode cc pc = .ok (.aastore, 1)) (k : ∀ M1, Ok E (pc + 1) lv st M1 (f M1) K) : Ok E pc lv (va_rf (x.map E.Y.ad) :: .int i :: .ref (E.Y.ad a) :: st) M (grd (okW x = true) (ald i n (lett (sR M a (ix i) x) f))) K := by
  refine ok_grd (fun hw => ok_ald (fun hin => fun r hr hK ls H locs h1 h2 h3 => ?_))
  cases x with
  | none =>
    refine va_astqN hE.1.1 hE.1.2.1 hE.2.2.1 h2 (hE.d M) h3 a 6 (hE.ar3 hsh M) rfl hin hd (fun H1 locs1 hP hD hS => ?_)
    rw [wld_set E.Y M (sR M a (ix i) none) (by simp only [ent, hE.shp, hsh]; rw [gR_upd]; rfl) (fun b hb => ent_sR _ _ _ _ _ _ hb)] at hP
    exact k _ r hr hK ls H1 locs1 h1 hP hS
  | some w =>
    obtain ⟨kk, hkk, rfl⟩ := okW_some hw
    obtain ⟨cell, q1, q2, q3, q4⟩ := (hE.2.2.2.2.1.objW hkk).kept h3.2.1
    obtain ⟨kC, hkC, -⟩ := Vm.findClass_spec q3
    refine va_astqM hE.1.1 hE.1.2.1 hE.2.2.1 h2 (hE.d M) h3 a 6 (E := RX10) (hE.ar3 hsh M) rfl ⟨cell, q1, q2, ⟨kC, hkC⟩, fun comp hc => by rw [Option.some.inj (hc.symm.trans q3)]; exact va_asg _ _⟩ hin hd (fun H1 locs1 hP hD hS => ?_)
    rw [wld_set E.Y M (sR M a (ix i) (some (1000 + kk))) (by simp only [ent, hE.shp, hsh]; rw [gR_upd]; rfl) (fun b hb => ent_sR _ _ _ _ _ _ hb)] at hP
    exact k _ r hr hK ls H1 locs1 h1 hP hS
end ROWSW
