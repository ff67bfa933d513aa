/-! PURE: joins; bounds of floats; the plan; the invariant -/
theorem lett_if {α ρ : Type} (f : α → ρ) (c : Prop) [Decidable c] (a b : α) : (lett f fun j => if c then j a else j b) = f (if c then a else b) := by
  show (if c then f a else f b) = _
  split <;> rfl
theorem lett_j {α ρ : Type} {f : α → ρ} {T : (α → ρ) → ρ} (a : α) (h : ∀ j, T j = j a) : lett f T = f a := h f
theorem ite_some {α : Type} {c : Prop} [Decidable c] (a b : α) : (if c then some a else some b) = some (if c then a else b) := by split <;> rfl
def isR (a b : Nat) (x : Int32) : Prop := ∃ v, a ≤ v ∧ v < b ∧ x = nI v
theorem isR.n {a b : Nat} {x : Int32} (h : isR a b x) : isN b x := by
  obtain ⟨v, h1, h2, h3⟩ := h
  exact ⟨v, h2, h3⟩
theorem isN.mono {a b : Nat} {x : Int32} (h : isN a x) (hab : a ≤ b) : isN b x := by
  obtain ⟨v, h1, h2⟩ := h
  exact ⟨v, by omega, h2⟩
theorem nI_isN {a b : Nat} (h : a < b) : isN b (nI a) := ⟨a, h, rfl⟩
theorem isN_ix {b : Nat} {x : Int32} (h : isN b x) (hb : b ≤ 2 ^ 31) : ix x < b ∧ x = nI (ix x) := by
  obtain ⟨a, ha, rfl⟩ := h
  rw [ix_nI (by omega)]
  exact ⟨ha, rfl⟩
/-! floats -/
def FB (F : Nat → UInt32) : Prop := (∀ j, j < 12 → (F j).toNat ≤ 1358954496) ∧ (∀ j, j < 6 → (F (12 + j)).toNat ≤ 1182793728) ∧ (F 18).toNat ≤ 1358954496 ∧ (F 19).toNat ≤ 1149239296
theorem fl_i {d : Nat} (hd : d ≤ 16384) : (FP.i2f (nI d)).toNat ≤ 1182793728 := i2f_le (by omega) (Nat.le_trans (Nat.mul_le_mul_right _ hd) (by decide +kernel))
theorem fl_mean1 {x : UInt32} (hx : x.toNat ≤ 1182793728) : (FP.fmul x 1063256064).toNat ≤ 1180696576 := fmul_le hx (b := 1063256064) (by decide) (by decide) (by decide) (by decide +kernel)
theorem fl_mean2 {d : Nat} (hd : d ≤ 16384) : (FP.fmul (FP.i2f (nI d)) 1040187392).toNat ≤ 1157627904 := fmul_le (fl_i hd) (b := 1040187392) (by decide) (by decide) (by decide) (by decide +kernel)
theorem fl_mean {x : UInt32} {d : Nat} (hx : x.toNat ≤ 1182793728) (hd : d ≤ 16384) : (FP.fadd (FP.fmul x 1063256064) (FP.fmul (FP.i2f (nI d)) 1040187392)).toNat ≤ 1182793728 := fadd_le (fl_mean1 hx) (fl_mean2 hd) (by decide) (by decide) (by decide +kernel)
theorem fl_q {a w : Nat} (ha : a ≤ 1024) (hw : 0 < w) (hw2 : w < 2 ^ 31) : (FP.fdiv (FP.i2f (nI a)) (FP.i2f (nI w))).toNat ≤ 1149239296 := fdivI_le (by omega) hw2 hw (by decide) (Nat.le_trans (Nat.mul_le_mul_right _ ha) (by decide +kernel))
theorem fl_add {x : UInt32} {a w : Nat} (hx : x.toNat ≤ 1358954496) (ha : a ≤ 1024) (hw : 0 < w) (hw2 : w < 2 ^ 31) : (FP.fadd x (FP.fdiv (FP.i2f (nI a)) (FP.i2f (nI w)))).toNat ≤ 1358954496 := fadd_st hx (fl_q ha hw hw2) (by decide) (by decide) (by decide +kernel)
theorem fl_rate1 {x : UInt32} (hx : x.toNat ≤ 1149239296) : (FP.fmul x 1063256064).toNat ≤ 1147142144 := fmul_le hx (b := 1063256064) (by decide) (by decide) (by decide) (by decide +kernel)
theorem fl_rate2 {x : UInt32} (hx : x.toNat ≤ 1149239296) : (FP.fmul x 1040187392).toNat ≤ 1124073472 := fmul_le hx (b := 1040187392) (by decide) (by decide) (by decide) (by decide +kernel)
theorem fl_rate {x y : UInt32} (hx : x.toNat ≤ 1149239296) (hy : y.toNat ≤ 1149239296) : (FP.fadd (FP.fmul x 1063256064) (FP.fmul y 1040187392)).toNat ≤ 1149239296 := fadd_le (fl_rate1 hx) (fl_rate2 hy) (by decide) (by decide) (by decide +kernel)
theorem fl_top {x : UInt32} {d : Nat} (hx : x.toNat ≤ 1149239296) (hd : d ≤ 16384) : (FP.fmul x (FP.i2f (nI d))).toNat ≤ 1266679808 := fmul_le hx (fl_i hd) (by decide) (by decide) (by decide +kernel)
/-! the plan -/
def okStep (s : Nat) (a b c : Int32) : Prop := (a = -1 ∨ ∃ x y, a = nI x ∧ b = nI y ∧ x + y ≤ s) ∧ isR 1 65 b ∧ isN 201 c
def PK (m0 : Mm) (n s : Nat) : Prop := (gI m0 0 1 = nI n ∧ n ≤ 6) ∧ (gI m0 0 2 = nI s ∧ 64 ≤ s ∧ s < 10000) ∧ isR 1 501 (gI m0 0 3) ∧ isR 1 65 (gI m0 0 4) ∧ (∃ lo hi, gI m0 0 5 = nI lo ∧ gI m0 0 6 = nI hi ∧ 1 ≤ lo ∧ lo ≤ hi ∧ hi < 1000) ∧ isN 1000 (gI m0 0 7) ∧ isR 1 21 (gI m0 0 8) ∧ isN 501 (gI m0 0 9) ∧ isN 1000 (gI m0 0 10) ∧
  (∀ p, p < n → (gI m0 3 p = 0 ∨ gI m0 3 p = 1) ∧ ∃ k, 1 ≤ k ∧ k ≤ 6 ∧ gI m0 4 p = nI k ∧ ∀ j, j < k → okStep s (gI m0 5 (3 * (6 * p + j))) (gI m0 5 (3 * (6 * p + j) + 1)) (gI m0 5 (3 * (6 * p + j) + 2)))
section PKS
variable {m0 : Mm} {n s : Nat}
theorem PK.n1 (h : PK m0 n s) : gI m0 0 1 = nI n := h.1.1
theorem PK.n6 (h : PK m0 n s) : n ≤ 6 := h.1.2
theorem PK.s1 (h : PK m0 n s) : gI m0 0 2 = nI s := h.2.1.1
theorem PK.s64 (h : PK m0 n s) : 64 ≤ s := h.2.1.2.1
theorem PK.s9 (h : PK m0 n s) : s < 10000 := h.2.1.2.2
theorem PK.seek (h : PK m0 n s) : isR 1 501 (gI m0 0 3) := h.2.2.1
theorem PK.rate (h : PK m0 n s) : isR 1 65 (gI m0 0 4) := h.2.2.2.1
theorem PK.lohi (h : PK m0 n s) : ∃ lo hi, gI m0 0 5 = nI lo ∧ gI m0 0 6 = nI hi ∧ 1 ≤ lo ∧ lo ≤ hi ∧ hi < 1000 := h.2.2.2.2.1
theorem PK.near (h : PK m0 n s) : isN 1000 (gI m0 0 7) := h.2.2.2.2.2.1
theorem PK.raise (h : PK m0 n s) : isR 1 21 (gI m0 0 8) := h.2.2.2.2.2.2.1
theorem PK.rFor (h : PK m0 n s) : isN 501 (gI m0 0 9) := h.2.2.2.2.2.2.2.1
theorem PK.rest (h : PK m0 n s) : isN 1000 (gI m0 0 10) := h.2.2.2.2.2.2.2.2.1
theorem PK.proc (h : PK m0 n s) : ∀ p, p < n → (gI m0 3 p = 0 ∨ gI m0 3 p = 1) ∧ ∃ k, 1 ≤ k ∧ k ≤ 6 ∧ gI m0 4 p = nI k ∧ ∀ j, j < k → okStep s (gI m0 5 (3 * (6 * p + j))) (gI m0 5 (3 * (6 * p + j) + 1)) (gI m0 5 (3 * (6 * p + j) + 2)) := h.2.2.2.2.2.2.2.2.2
end PKS
/-- the class's plan (cells 20 to 28 of a state's memory) is the reference's -/
def PL (m0 : Mm) (n : Nat) (E : Mm) : Prop := PE m0 E ∧ PS m0 E n ∧ (∀ p, p < n → gI E 25 p = gI m0 4 p) ∧ ∀ p j, p < n → j < 6 → nI j < gI m0 4 p → gI E 26 (6 * p + j) = gI m0 5 (3 * (6 * p + j)) ∧ gI E 27 (6 * p + j) = gI m0 5 (3 * (6 * p + j) + 1) ∧ gI E 28 (6 * p + j) = gI m0 5 (3 * (6 * p + j) + 2)
theorem PL.to {m0 : Mm} {n : Nat} {E E' : Mm} (h : PL m0 n E) (he : ∀ c k, 20 ≤ c → gI E' c k = gI E c k) : PL m0 n E' := by
  obtain ⟨h1, h2, h3, h4⟩ := h
  refine ⟨?_, ?_, ?_, ?_⟩
  · unfold PE at h1 ⊢
    simpa only [he 20 _ (Nat.le_refl _)] using h1
  · intro p hp
    rw [he 22 _ (by omega)]
    exact h2 p hp
  · intro p hp
    rw [he 25 _ (by omega)]
    exact h3 p hp
  · intro p j hp hj hk
    rw [he 26 _ (by omega), he 27 _ (by omega), he 28 _ (by omega)]
    exact h4 p j hp hj hk
theorem PL.w {m0 : Mm} {n : Nat} {E : Mm} (h : PL m0 n E) {c k : Nat} (v : Int32) (hc : c < 20) : PL m0 n (sI E c k v) := h.to (fun a b ha => by rw [gI_sI, if_neg (by omega)])
/-- another reference memory with the same plan -/
def SP (m0 m1 : Mm) : Prop := (∀ k, k < 13 → gI m1 0 k = gI m0 0 k) ∧ ∀ a k, 1 ≤ a → a < 7 → gI m1 a k = gI m0 a k
theorem SP.rf (m0 : Mm) : SP m0 m0 := ⟨fun _ _ => rfl, fun _ _ _ _ => rfl⟩
theorem SP.tr {a b c : Mm} (h : SP a b) (h' : SP b c) : SP a c := ⟨fun k hk => (h'.1 k hk).trans (h.1 k hk), fun x k h1 h2 => (h'.2 x k h1 h2).trans (h.2 x k h1 h2)⟩
theorem SP.w {m0 m1 : Mm} (h : SP m0 m1) {a k : Nat} (v : Int32) (ha : 16 ≤ a ∨ (a = 0 ∧ 53 ≤ k)) : SP m0 (sI m1 a k v) := ⟨fun j hj => by rw [gI_sI, if_neg (by omega)]; exact h.1 j hj, fun x j h1 h2 => by rw [gI_sI, if_neg (by omega)]; exact h.2 x j h1 h2⟩
theorem PK.sp {m0 m1 : Mm} {n s : Nat} (h : PK m0 n s) (e : SP m0 m1) : PK m1 n s := by
  unfold PK at h ⊢
  simp only [e.1 1 (by omega), e.1 2 (by omega), e.1 3 (by omega), e.1 4 (by omega), e.1 5 (by omega), e.1 6 (by omega), e.1 7 (by omega), e.1 8 (by omega), e.1 9 (by omega), e.1 10 (by omega), e.2 3 _ (by omega) (by omega), e.2 4 _ (by omega) (by omega), e.2 5 _ (by omega) (by omega)]
  exact h
theorem PL.sp {m0 m1 : Mm} {n : Nat} {E : Mm} (h : PL m0 n E) (e : SP m0 m1) : PL m1 n E := by
  unfold PL PE PS at h ⊢
  simp only [e.1 1 (by omega), e.1 2 (by omega), e.1 3 (by omega), e.1 4 (by omega), e.1 5 (by omega), e.1 6 (by omega), e.1 7 (by omega), e.1 8 (by omega), e.1 9 (by omega), e.1 10 (by omega), e.2 3 _ (by omega) (by omega), e.2 4 _ (by omega) (by omega), e.2 5 _ (by omega) (by omega)]
  exact h
/-! the invariant of the flat state -/
def okRow (n s t : Nat) (f : Nat → Int32) : Prop := isN n (f 0) ∧ (∃ a b, 1 ≤ b ∧ b ≤ 64 ∧ a + b ≤ s ∧ f 1 = nI a ∧ f 2 = nI b) ∧ isN n (f 3) ∧ isN t (f 4) ∧ isN 2 (f 5) ∧ isN 201 (f 6)
theorem okRow.mono {n s t t' : Nat} {f : Nat → Int32} (h : okRow n s t f) (ht : t ≤ t') : okRow n s t' f := ⟨h.1, h.2.1, h.2.2.1, h.2.2.2.1.mono ht, h.2.2.2.2.1, h.2.2.2.2.2⟩
def iG (n t c : Nat) (D : Nat → Int32) : Prop := D 0 = nI t ∧ isN 10064 (D 1) ∧ (D 2 = -1 ∨ isN n (D 2)) ∧ isN 21 (D 6) ∧ isR 1 201 (D 7) ∧ isR 1 1000 (D 8) ∧ D 10 = nI c ∧ c ≤ 54 ∧ t < 16000
def iP (m0 : Mm) (n : Nat) (D : Nat → Int32) : Prop := ∀ p, p < n → isR 1 101 (D (18 + 14 * p + 0)) ∧ isN 2 (D (18 + 14 * p + 2)) ∧ isN 10064 (D (18 + 14 * p + 3)) ∧ (∃ k st, gI m0 4 p = nI k ∧ D (18 + 14 * p + 4) = nI st ∧ st < k ∧ k ≤ 6) ∧ isN n (D (18 + 14 * p + 6)) ∧ isN 2 (D (18 + 14 * p + 8))
def iQ (n t : Nat) (D : Nat → Int32) : Prop := ∀ q, q < n → isR 1 1000 (D (102 + 8 * q + 0)) ∧ isN 10064 (D (102 + 8 * q + 2)) ∧ isN 256 (D (102 + 8 * q + 3)) ∧ isN (t + 1) (D (102 + 8 * q + 4))
def iR (n s t c : Nat) (D : Nat → Int32) : Prop := ∀ r, r < c → okRow n s (t + 1) (fun k => D (150 + 7 * r + k))
def iB (n s u : Nat) (D : Nat → Int32) : Prop := 0 < D 5 → D 2 ≠ -1 ∧ okRow n s u (fun k => D (11 + k))
def iA (n u : Nat) (D : Nat → Int32) : Prop := ∀ a, a < n → D 2 = nI a → isN u (D 3) ∧ ∃ sv, D (102 + 8 * a + 1) = nI sv ∧ sv ≤ 999 ∧ (0 < D 5 → ∃ b, D 13 = nI b ∧ sv + b ≤ 999)
def outS (D : Nat → Int32) (n : Nat) : Int := itr (fun p x => x + (D (18 + 14 * p + 5)).toInt) 0 n
def iO (n c : Nat) (D : Nat → Int32) : Prop := outS D n = (c : Int) + (if 0 < D 5 then 1 else 0) ∧ ∀ p, p < n → (D (18 + 14 * p + 5)).toInt ≤ 8 + (D (18 + 14 * p + 2)).toInt
def Inv (m0 : Mm) (n s t u c : Nat) (D : Nat → Int32) (F : Nat → UInt32) : Prop := iG n t c D ∧ iP m0 n D ∧ iQ n t D ∧ iR n s t c D ∧ iB n s u D ∧ iA n u D ∧ iO n c D ∧ FB F
section CG
variable {m0 : Mm} {n s t u c : Nat} {D D' : Nat → Int32}
theorem iG.cg (h : iG n t c D) (e : ∀ j, (j ≤ 2 ∨ (6 ≤ j ∧ j ≤ 8) ∨ j = 10) → D' j = D j) : iG n t c D' := by
  unfold iG at h ⊢
  rw [e 0 (by omega), e 1 (by omega), e 2 (by omega), e 6 (by omega), e 7 (by omega), e 8 (by omega), e 10 (by omega)]
  exact h
theorem iP.cg (h : iP m0 n D) (e : ∀ p, p < n → D' (18 + 14 * p + 0) = D (18 + 14 * p + 0) ∧ D' (18 + 14 * p + 2) = D (18 + 14 * p + 2) ∧ D' (18 + 14 * p + 3) = D (18 + 14 * p + 3) ∧ D' (18 + 14 * p + 4) = D (18 + 14 * p + 4) ∧ D' (18 + 14 * p + 6) = D (18 + 14 * p + 6) ∧ D' (18 + 14 * p + 8) = D (18 + 14 * p + 8)) : iP m0 n D' := by
  intro p hp
  obtain ⟨e1, e2, e3, e4, e5, e6⟩ := e p hp
  rw [e1, e2, e3, e4, e5, e6]
  exact h p hp
theorem iQ.cg (h : iQ n t D) (e : ∀ q, q < n → D' (102 + 8 * q + 0) = D (102 + 8 * q + 0) ∧ D' (102 + 8 * q + 2) = D (102 + 8 * q + 2) ∧ D' (102 + 8 * q + 3) = D (102 + 8 * q + 3) ∧ D' (102 + 8 * q + 4) = D (102 + 8 * q + 4)) : iQ n t D' := by
  intro q hq
  obtain ⟨e1, e2, e3, e4⟩ := e q hq
  rw [e1, e2, e3, e4]
  exact h q hq
theorem okRow.cg {f g : Nat → Int32} (h : okRow n s t f) (e : ∀ k, k < 7 → g k = f k) : okRow n s t g := by
  unfold okRow at h ⊢
  rw [e 0 (by omega), e 1 (by omega), e 2 (by omega), e 3 (by omega), e 4 (by omega), e 5 (by omega), e 6 (by omega)]
  exact h
theorem iR.cg (h : iR n s t c D) (e : ∀ j, 150 ≤ j → j < 150 + 7 * c → D' j = D j) : iR n s t c D' := fun r hr => (h r hr).cg (fun k hk => e _ (by omega) (by omega))
theorem iB.cg (h : iB n s u D) (e : ∀ j, (j = 2 ∨ j = 5 ∨ (11 ≤ j ∧ j < 18)) → D' j = D j) : iB n s u D' := by
  unfold iB at h ⊢
  rw [e 5 (by omega), e 2 (by omega)]
  exact fun h5 => ⟨(h h5).1, (h h5).2.cg (fun k hk => e _ (by omega))⟩
theorem iA.cg (h : iA n u D) (e : ∀ j, (j = 2 ∨ j = 3 ∨ j = 5 ∨ j = 13) → D' j = D j) (e1 : ∀ a, a < n → D' (102 + 8 * a + 1) = D (102 + 8 * a + 1)) : iA n u D' := by
  intro a ha
  rw [e 2 (by omega), e 3 (by omega), e 5 (by omega), e 13 (by omega), e1 a ha]
  exact h a ha
theorem outS_0 (D : Nat → Int32) : outS D 0 = 0 := rfl
theorem outS_s (D : Nat → Int32) (k : Nat) : outS D (k + 1) = outS D k + (D (18 + 14 * k + 5)).toInt := rfl
theorem outS.cg {k : Nat} (e : ∀ p, p < k → D' (18 + 14 * p + 5) = D (18 + 14 * p + 5)) : outS D' k = outS D k := by
  induction k with
  | zero => rw [outS_0, outS_0]
  | succ k ih =>
    have h1 := ih (fun p hp => e p (Nat.lt_succ_of_lt hp))
    have h2 := e k (Nat.lt_succ_self k)
    exact (outS_s D' k).trans ((congr (congrArg HAdd.hAdd h1) (congrArg Int32.toInt h2)).trans (outS_s D k).symm)
theorem iO.cg (h : iO n c D) (e5 : D' 5 = D 5) (e : ∀ p, p < n → D' (18 + 14 * p + 5) = D (18 + 14 * p + 5) ∧ D' (18 + 14 * p + 2) = D (18 + 14 * p + 2)) : iO n c D' := by
  refine ⟨?_, fun p hp => ?_⟩
  · rw [outS.cg (fun p hp => (e p hp).1), e5]; exact h.1
  · rw [(e p hp).1, (e p hp).2]; exact h.2 p hp
/-- one number of the sum another -/
theorem outS.up {p k : Nat} {v : Int32} (h : p < k) : outS (updD D (18 + 14 * p + 5) v) k = outS D k - (D (18 + 14 * p + 5)).toInt + v.toInt := by
  induction k with
  | zero => omega
  | succ k ih =>
    rw [outS_s, outS_s]
    by_cases hk : p = k
    · subst hk
      rw [outS.cg (D := D) (fun q hq => updD_n _ _ (by omega)), updD_s]
      omega
    · rw [ih (by omega), updD_n _ _ (by omega)]
      omega
end CG
section IV
variable {m0 : Mm} {n s t u c : Nat} {D : Nat → Int32} {F : Nat → UInt32}
theorem Inv.g (h : Inv m0 n s t u c D F) : iG n t c D := h.1
theorem Inv.p (h : Inv m0 n s t u c D F) : iP m0 n D := h.2.1
theorem Inv.q (h : Inv m0 n s t u c D F) : iQ n t D := h.2.2.1
theorem Inv.r (h : Inv m0 n s t u c D F) : iR n s t c D := h.2.2.2.1
theorem Inv.b (h : Inv m0 n s t u c D F) : iB n s u D := h.2.2.2.2.1
theorem Inv.a (h : Inv m0 n s t u c D F) : iA n u D := h.2.2.2.2.2.1
theorem Inv.o (h : Inv m0 n s t u c D F) : iO n c D := h.2.2.2.2.2.2.1
theorem Inv.f (h : Inv m0 n s t u c D F) : FB F := h.2.2.2.2.2.2.2
theorem Inv.t0 (h : Inv m0 n s t u c D F) : D 0 = nI t := h.1.1
theorem Inv.t1 (h : Inv m0 n s t u c D F) : t < 16000 := h.1.2.2.2.2.2.2.2.2
theorem Inv.hd (h : Inv m0 n s t u c D F) : isN 10064 (D 1) := h.1.2.1
theorem Inv.ac (h : Inv m0 n s t u c D F) : D 2 = -1 ∨ isN n (D 2) := h.1.2.2.1
theorem Inv.idle (h : Inv m0 n s t u c D F) : isN 21 (D 6) := h.1.2.2.2.1
theorem Inv.slice (h : Inv m0 n s t u c D F) : isR 1 201 (D 7) := h.1.2.2.2.2.1
theorem Inv.top (h : Inv m0 n s t u c D F) : isR 1 1000 (D 8) := h.1.2.2.2.2.2.1
theorem Inv.c0 (h : Inv m0 n s t u c D F) : D 10 = nI c := h.1.2.2.2.2.2.2.1
theorem Inv.c1 (h : Inv m0 n s t u c D F) : c ≤ 54 := h.1.2.2.2.2.2.2.2.1
theorem aWt_n (hK : PK m0 n s) (hP : iP m0 n D) {q : Nat} (hq : q < n) : ∃ w, aWt m0 D q = nI w ∧ 1 ≤ w ∧ w ≤ 2000 := by
  obtain ⟨x, x1, x2, x3⟩ := (hP q hq).1
  obtain ⟨y, y1, y2, y3⟩ := hK.raise
  unfold aWt
  rw [x3, y3]
  split
  · exact ⟨x, by rw [Int32.mul_one], x1, by omega⟩
  · refine ⟨x * y, pk_mul x y, Nat.mul_le_mul x1 y1, ?_⟩
    exact Nat.le_trans (Nat.mul_le_mul (Nat.le_of_lt_succ x2) (Nat.le_of_lt_succ y2)) (by decide)
end IV
