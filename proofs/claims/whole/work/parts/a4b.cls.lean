/-! THE CONSTRUCTOR of the class, whole (tools/gen11.py) -/
theorem past_glue (F : Nat → Nat → va_W) (hF : ∀ lo n m, F lo (n + m) = F lo n ++ F (lo + n) m) (h0 : F 74 0 = []) {c : Nat → ClassId} {a : Nat} {r : Nat → Nat → Nat} (hb : ∀ k, k < 20 → EqL (blkX8 c a (r k)) (F (74 + 20 * k) 20)) : ∀ k, k ≤ 20 → EqL (pst c a r k) (F 74 (20 * k))
  | 0, _ => by
    rw [Nat.mul_zero, h0]
    exact trivial
  | k + 1, hk => by
    rw [Nat.mul_succ, hF]
    exact EqL.app (past_glue F hF h0 hb k (by omega)) (hb k (by omega))
def EqM (a b : va_W) : Prop := EqL a b ∧ True
theorem EqM.P {D : va_G} {a b : va_W} {H : Heap} (h : EqM a b) (hP : va_P D vwCl a H) : va_P D vwCl b H := h.1.P hP
theorem EqM.D {A : Nat → Prop} {a b : va_W} (h : EqM a b) (hD : va_D A a) : va_D A b := h.1.D hD
theorem past_glueM (F : Nat → Nat → va_W) (hF : ∀ lo n m, F lo (n + m) = F lo n ++ F (lo + n) m) (h0 : F 74 0 = []) {c : Nat → ClassId} {a : Nat} {r : Nat → Nat → Nat} (hb : ∀ k, k < 20 → EqL (blkX8 c a (r k)) (F (74 + 20 * k) 20)) (k : Nat) (hk : k ≤ 20) : EqM (pst c a r k) (F 74 (20 * k)) := ⟨past_glue F hF h0 hb k hk, trivial⟩
theorem cls_glueM (F : Nat → Nat → va_W) (hF : ∀ lo n m, F lo (n + m) = F lo n ++ F (lo + n) m) {B0 B1 B2 B3 B4 B5 B6 B8 B9 B10 B11 P : va_W} {x : Nat × va_E} (g0 : EqL B0 (F 0 1)) (g1 : EqL B1 (F 1 9)) (g2 : EqL B2 (F 10 9)) (g3 : EqL B3 (F 19 2)) (g4 : EqL B4 (F 21 5)) (g5 : EqL B5 (F 26 20)) (g6 : EqL B6 (F 46 20)) (g7 : EqL [x] (F 66 1)) (g8 : EqL B8 (F 67 3)) (g9 : EqL B9 (F 70 2)) (g10 : EqL B10 (F 72 1)) (g11 : EqL B11 (F 73 1)) (gp : EqM P (F 74 400)) : EqM ((B0 ++ B1 ++ B2 ++ B3 ++ B4 ++ B5 ++ B6) ++ x :: ((B8 ++ B9 ++ B10 ++ B11) ++ P)) (F 0 474) := ⟨cls_glue F hF g0 g1 g2 g3 g4 g5 g6 g7 g8 g9 g10 g11 gp.1, trivial⟩
theorem cls_wld (c : Nat → ClassId) (D : va_G) (aw : Nat → Nat) (h0 q7 q10 q11 : Nat) (r1 r2 r3 r4 r5 r6 r7 r8 : Nat → Nat) (r : Nat → Nat → Nat) : EqM (([(h0, .inr (10, [.ref (r1 0), .ref (r2 0), .ref (r3 0), .ref (r4 0), .ref (r5 0), .ref (r6 0), .ref q7, .int 0, .int 0, .ref (r7 0), .ref (r8 0), .ref q10, .ref q11, .int 0, .int (-1), .long 1]))] ++ blkX2 c r1 ++ blkX2 c r2 ++ blkX9 c r3 ++ blkX5 c ((r3 0)) ((r2 0)) r4 ++ blkX8 c ((r1 0)) r5 ++ blkX8 c ((r1 0)) r6) ++ (q7, .inl (c 5, 20, .inr (.inr (.inr (.inr (pf r 20)))))) :: ((blkX7 c r7 ++ blkX0 c r8 ++ [(q10, .inl (c 0, 6, .inl (fun _ => 0)))] ++ [(q11, .inl (c 0, 427, .inl (fun _ => 0)))]) ++ pst c (r1 0) r 20)) (wld (YI c D aw (qC h0 q7 q10 q11 r1 r2 r3 r4 r5 r6 r7 r8 r)) 474 C0m) := by
  have hb : ∀ k, k < 20 → EqL (blkX8 c (r1 0) (r k)) (wldR (YI c D aw (qC h0 q7 q10 q11 r1 r2 r3 r4 r5 r6 r7 r8 r)) C0m (74 + 20 * k) 20) := cb_past c D aw h0 q7 q10 q11 r1 r2 r3 r4 r5 r6 r7 r8 r
  have e0 := cb_0 c D aw h0 q7 q10 q11 r1 r2 r3 r4 r5 r6 r7 r8 r
  have e1 := cb_1 c D aw h0 q7 q10 q11 r1 r2 r3 r4 r5 r6 r7 r8 r
  have e10 := cb_10 c D aw h0 q7 q10 q11 r1 r2 r3 r4 r5 r6 r7 r8 r
  have e19 := cb_19 c D aw h0 q7 q10 q11 r1 r2 r3 r4 r5 r6 r7 r8 r
  have e21 := cb_21 c D aw h0 q7 q10 q11 r1 r2 r3 r4 r5 r6 r7 r8 r
  have e26 := cb_26 c D aw h0 q7 q10 q11 r1 r2 r3 r4 r5 r6 r7 r8 r
  have e46 := cb_46 c D aw h0 q7 q10 q11 r1 r2 r3 r4 r5 r6 r7 r8 r
  have e66 := cb_66 c D aw h0 q7 q10 q11 r1 r2 r3 r4 r5 r6 r7 r8 r
  have e67 := cb_67 c D aw h0 q7 q10 q11 r1 r2 r3 r4 r5 r6 r7 r8 r
  have e70 := cb_70 c D aw h0 q7 q10 q11 r1 r2 r3 r4 r5 r6 r7 r8 r
  have e72 := cb_72 c D aw h0 q7 q10 q11 r1 r2 r3 r4 r5 r6 r7 r8 r
  have e73 := cb_73 c D aw h0 q7 q10 q11 r1 r2 r3 r4 r5 r6 r7 r8 r
  rw [wld_R]
  have hF := wldR_add (YI c D aw (qC h0 q7 q10 q11 r1 r2 r3 r4 r5 r6 r7 r8 r)) C0m
  have hz : wldR (YI c D aw (qC h0 q7 q10 q11 r1 r2 r3 r4 r5 r6 r7 r8 r)) C0m 74 0 = [] := rfl
  generalize wldR (YI c D aw (qC h0 q7 q10 q11 r1 r2 r3 r4 r5 r6 r7 r8 r)) C0m = F at *
  have h74 := past_glueM (c := c) (a := r1 0) (r := r) F hF hz hb 20 (Nat.le_refl _)
  exact cls_glueM F hF e0 e1 e10 e19 e21 e26 e46 e66 e67 e70 e72 e73 h74
