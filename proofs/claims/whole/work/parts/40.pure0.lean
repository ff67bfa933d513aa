/-! PURE: how the texts are read -/
theorem lett_e {α β : Type} (x : α) (f : α → β) : lett x f = f x := rfl
theorem bnd_s {α β : Type} (x : α) (f : α → Option β) : bnd (some x) f = f x := rfl
theorem bnd_n {α β : Type} (f : α → Option β) : bnd none f = none := rfl
theorem grd_t {ρ : Type} {c : Prop} [Decidable c] (h : c) (o : Option ρ) : grd c o = o := if_pos h
theorem ald_t {ρ : Type} {i : Int32} {n : Nat} (h : 0 ≤ i.toInt ∧ i.toInt < (n : Int)) (o : Option ρ) : ald i n o = o := if_pos h
theorem nn_s {ρ : Type} (a : Nat) (f : Nat → Option ρ) : nn (some a) f = f a := rfl
theorem ix_nI {n : Nat} (h : n < 2 ^ 31) : ix (nI n) = n := nI_clamp h
theorem ald_n {ρ : Type} {j n : Nat} (h : j < n) (hn : n ≤ 100000) (o : Option ρ) : ald (nI j) n o = o := ald_t (by rw [nI_toInt (by omega)]; omega) o
/-- a loop that goes through x 0, x 1, .., x N and ends there -/
theorem loopR_seq {σ ρ : Type} {b : (σ → Option ρ) → σ → Option ρ} {r : Option ρ} (x : Nat → σ) (N : Nat) (hs : ∀ i, i < N → ∀ rec, b rec (x i) = rec (x (i + 1))) (he : ∀ rec, b rec (x N) = r) : ∀ (n : Nat), N < n → loopR b n (x 0) = r := by
  have key : ∀ (k i n : Nat), i + k = N → k < n → loopR b n (x i) = r := by
    intro k
    induction k with
    | zero =>
      intro i n hi hn
      obtain ⟨n, rfl⟩ : ∃ m, n = m + 1 := ⟨n - 1, by omega⟩
      have : i = N := by omega
      subst this
      exact he _
    | succ k ih =>
      intro i n hi hn
      obtain ⟨n, rfl⟩ : ∃ m, n = m + 1 := ⟨n - 1, by omega⟩
      show b (loopR b n) (x i) = r
      rw [hs i (by omega)]
      exact ih (i + 1) n (by omega) (by omega)
  intro n hn
  exact key N 0 n (by omega) hn
/-- steps one behind another -/
def itr {α : Type} (f : Nat → α → α) (a : α) : Nat → α
  | 0 => a
  | n + 1 => f n (itr f a n)
theorem itr_ext {α : Type} {f g : Nat → α → α} {a : α} : ∀ {n : Nat}, (∀ i x, i < n → f i x = g i x) → itr f a n = itr g a n
  | 0, _ => rfl
  | n + 1, h => by
    rw [itr, itr, itr_ext (n := n) (fun i x hi => h i x (by omega)), h n _ (by omega)]
/-- the loop 'for (i = 0; i < N; i++)' with one number carried along -/
theorem loopR_for {α ρ : Type} {b : (α × Int32 → Option ρ) → α × Int32 → Option ρ} {r : Option ρ} (f : Nat → α → α) (a : α) (N : Nat) (hN : N ≤ 100000) (hs : ∀ i x rec, i < N → b rec (x, nI i) = rec (f i x, nI (i + 1))) (he : ∀ rec, b rec (itr f a N, nI N) = r) : loopR b 1000000 (a, nI 0) = r :=
  loopR_seq (fun i => (itr f a i, nI i)) N (fun i hi rec => hs i _ rec hi) he 1000000 (by omega)
/-- the same, the counter ahead -/
theorem loopR_for' {α ρ : Type} {b : (Int32 × α → Option ρ) → Int32 × α → Option ρ} {r : Option ρ} (f : Nat → α → α) (a : α) (N : Nat) (hN : N ≤ 100000) (hs : ∀ i x rec, i < N → b rec (nI i, x) = rec (nI (i + 1), f i x)) (he : ∀ rec, b rec (nI N, itr f a N) = r) : loopR b 1000000 (nI 0, a) = r :=
  loopR_seq (fun i => (nI i, itr f a i)) N (fun i hi rec => hs i _ rec hi) he 1000000 (by omega)
theorem nI_lt_iff {a b : Nat} (ha : a < 2 ^ 31) (hb : b < 2 ^ 31) : nI a < nI b ↔ a < b := nI_ltI ha hb
theorem nI_lit0 : (0 : Int32) = nI 0 := rfl
theorem nI_lit1 : (1 : Int32) = nI 1 := rfl
/-! the reference's own state: flat numbers and floats, at a base of its rows -/
def updD {α : Type} (D : Nat → α) (j : Nat) (v : α) : Nat → α := fun k => if k = j then v else D k
theorem updD_s {α : Type} (D : Nat → α) (j : Nat) (v : α) : updD D j v j = v := if_pos rfl
theorem updD_n {α : Type} (D : Nat → α) {j k : Nat} (v : α) (h : k ≠ j) : updD D j v k = D k := if_neg h
theorem updD_c {α : Type} (D : Nat → α) {j k : Nat} (v w : α) (h : j ≠ k) : updD (updD D j v) k w = updD (updD D k w) j v := by
  funext x
  unfold updD
  by_cases h1 : x = j <;> by_cases h2 : x = k <;> simp [h1, h2, h, Ne.symm h]
/-- where floats of a base lie -/
def pB (B : Nat) : Nat := if B = 0 then 0 else 20
/-- the memory m0 of the reference, but base B, its 758 numbers D and its 20 floats F -/
def mkR (m0 : Mm) (B : Nat) (D : Nat → Int32) (F : Nat → UInt32) : Mm :=
  (fun a k => if a = 16 ∧ B ≤ k ∧ k < B + 758 then D (k - B) else if a = 0 ∧ k = 53 then nI B else if a = 0 ∧ k = 54 then nI (pB B) else m0.1 a k, fun a k => if a = 17 ∧ pB B ≤ k ∧ k < pB B + 20 then F (k - pB B) else m0.2.1 a k, m0.2.2)
theorem mkR_53 (m0 : Mm) (B : Nat) (D : Nat → Int32) (F : Nat → UInt32) : gI (mkR m0 B D F) 0 53 = nI B := rfl
theorem mkR_54 (m0 : Mm) (B : Nat) (D : Nat → Int32) (F : Nat → UInt32) : gI (mkR m0 B D F) 0 54 = nI (pB B) := rfl
theorem mkR_o (m0 : Mm) (B : Nat) (D : Nat → Int32) (F : Nat → UInt32) {a k : Nat} (h1 : a ≠ 16) (h2 : a ≠ 0 ∨ (k ≠ 53 ∧ k ≠ 54)) : gI (mkR m0 B D F) a k = gI m0 a k := by
  show (if a = 16 ∧ B ≤ k ∧ k < B + 758 then D (k - B) else if a = 0 ∧ k = 53 then nI B else if a = 0 ∧ k = 54 then nI (pB B) else m0.1 a k) = m0.1 a k
  rw [if_neg (fun h => h1 h.1), if_neg (by omega), if_neg (by omega)]
theorem mkR_16 (m0 : Mm) (B : Nat) (D : Nat → Int32) (F : Nat → UInt32) {j : Nat} (h : j < 758) : gI (mkR m0 B D F) 16 (B + j) = D j := by
  show (if 16 = 16 ∧ B ≤ B + j ∧ B + j < B + 758 then D (B + j - B) else _) = D j
  rw [if_pos (by omega), show B + j - B = j by omega]
theorem mkR_17 (m0 : Mm) (B : Nat) (D : Nat → Int32) (F : Nat → UInt32) {j : Nat} (h : j < 20) : gF (mkR m0 B D F) 17 (pB B + j) = F j := by
  show (if 17 = 17 ∧ pB B ≤ pB B + j ∧ pB B + j < pB B + 20 then F (pB B + j - pB B) else _) = F j
  rw [if_pos (by omega), show pB B + j - pB B = j by omega]
theorem mkR_s16 (m0 : Mm) (B : Nat) (D : Nat → Int32) (F : Nat → UInt32) {j : Nat} (v : Int32) (h : j < 758) : sI (mkR m0 B D F) 16 (B + j) v = mkR m0 B (updD D j v) F := by
  refine Prod.ext (funext fun a => funext fun k => ?_) rfl
  show (if a = 16 ∧ k = B + j then v else (mkR m0 B D F).1 a k) = (mkR m0 B (updD D j v) F).1 a k
  show (if a = 16 ∧ k = B + j then v else if a = 16 ∧ B ≤ k ∧ k < B + 758 then D (k - B) else if a = 0 ∧ k = 53 then nI B else if a = 0 ∧ k = 54 then nI (pB B) else m0.1 a k) = (if a = 16 ∧ B ≤ k ∧ k < B + 758 then updD D j v (k - B) else if a = 0 ∧ k = 53 then nI B else if a = 0 ∧ k = 54 then nI (pB B) else m0.1 a k)
  by_cases h1 : a = 16 ∧ k = B + j
  · rw [if_pos h1, if_pos (by omega), show k - B = j by omega, updD_s]
  · rw [if_neg h1]
    by_cases h2 : a = 16 ∧ B ≤ k ∧ k < B + 758
    · rw [if_pos h2, if_pos h2, updD_n]
      omega
    · rw [if_neg h2, if_neg h2]
theorem mkR_s17 (m0 : Mm) (B : Nat) (D : Nat → Int32) (F : Nat → UInt32) {j : Nat} (v : UInt32) (h : j < 20) : sF (mkR m0 B D F) 17 (pB B + j) v = mkR m0 B D (updD F j v) := by
  refine Prod.ext rfl (Prod.ext (funext fun a => funext fun k => ?_) rfl)
  show (if a = 17 ∧ k = pB B + j then v else if a = 17 ∧ pB B ≤ k ∧ k < pB B + 20 then F (k - pB B) else m0.2.1 a k) = (if a = 17 ∧ pB B ≤ k ∧ k < pB B + 20 then updD F j v (k - pB B) else m0.2.1 a k)
  by_cases h1 : a = 17 ∧ k = pB B + j
  · rw [if_pos h1, if_pos (by omega), show k - pB B = j by omega, updD_s]
  · rw [if_neg h1]
    by_cases h2 : a = 17 ∧ pB B ≤ k ∧ k < pB B + 20
    · rw [if_pos h2, if_pos h2, updD_n]
      omega
    · rw [if_neg h2, if_neg h2]
def BB (B : Nat) : Prop := B = 0 ∨ B = 758
theorem pB_lt {B : Nat} : pB B ≤ 20 := by unfold pB; split <;> omega
section RACC
variable {m0 : Mm} {B : Nat} {D : Nat → Int32} {F : Nat → UInt32}
theorem R_its_m (hB : BB B) {k : Int32} (j : Nat) (hk : k = nI j) (hj : j < 758) : R_its k (mkR m0 B D F) = some (D j) := by
  subst hk
  unfold R_its
  rw [mkR_53, nI_add, ald_n (by rcases hB with rfl | rfl <;> omega) (by omega), ix_nI (by rcases hB with rfl | rfl <;> omega), mkR_16 _ _ _ _ hj]
theorem R_puts_m (hB : BB B) {k v : Int32} (j : Nat) (hk : k = nI j) (hj : j < 758) : R_puts k v (mkR m0 B D F) = some (mkR m0 B (updD D j v) F) := by
  subst hk
  unfold R_puts
  rw [mkR_53, nI_add, ald_n (by rcases hB with rfl | rfl <;> omega) (by omega), ix_nI (by rcases hB with rfl | rfl <;> omega), mkR_s16 _ _ _ _ _ hj]
  rfl
theorem R_part_m (hB : BB B) {k : Int32} (j : Nat) (hk : k = nI j) (hj : j < 20) : R_part k (mkR m0 B D F) = some (F j) := by
  subst hk
  have := pB_lt (B := B)
  unfold R_part
  rw [mkR_54, nI_add, ald_n (by omega) (by omega), ix_nI (by omega), mkR_17 _ _ _ _ hj]
theorem R_setsPart_m (hB : BB B) {k : Int32} {v : UInt32} (j : Nat) (hk : k = nI j) (hj : j < 20) : R_setsPart k v (mkR m0 B D F) = some (mkR m0 B D (updD F j v)) := by
  subst hk
  have := pB_lt (B := B)
  unfold R_setsPart
  rw [mkR_54, nI_add, ald_n (by omega) (by omega), ix_nI (by omega), mkR_s17 _ _ _ _ _ hj]
  rfl
theorem R_of_m (hB : BB B) {p w : Int32} (i k : Nat) (hp : p = nI i) (hw : w = nI k) (hj : 18 + 14 * i + k < 758) : R_of p w (mkR m0 B D F) = some (D (18 + 14 * i + k)) := by
  subst hp hw
  unfold R_of
  rw [R_its_m hB (18 + 14 * i + k) (by rw [show (14 : Int32) = nI 14 from rfl, show (18 : Int32) = nI 18 from rfl, pk_mul, nI_add, nI_add]) hj]
  rfl
theorem R_sets_m (hB : BB B) {p w v : Int32} (i k : Nat) (hp : p = nI i) (hw : w = nI k) (hj : 18 + 14 * i + k < 758) : R_sets p w v (mkR m0 B D F) = some (mkR m0 B (updD D (18 + 14 * i + k) v) F) := by
  subst hp hw
  unfold R_sets
  rw [R_puts_m hB (18 + 14 * i + k) (by rw [show (14 : Int32) = nI 14 from rfl, show (18 : Int32) = nI 18 from rfl, pk_mul, nI_add, nI_add]) hj]
  rfl
theorem R_ofQueue_m (hB : BB B) {p w : Int32} (i k : Nat) (hp : p = nI i) (hw : w = nI k) (hj : 102 + 8 * i + k < 758) : R_ofQueue p w (mkR m0 B D F) = some (D (102 + 8 * i + k)) := by
  subst hp hw
  unfold R_ofQueue
  rw [R_its_m hB (102 + 8 * i + k) (by rw [show (8 : Int32) = nI 8 from rfl, show (102 : Int32) = nI 102 from rfl, pk_mul, nI_add, nI_add]) hj]
  rfl
theorem R_setsQueue_m (hB : BB B) {p w v : Int32} (i k : Nat) (hp : p = nI i) (hw : w = nI k) (hj : 102 + 8 * i + k < 758) : R_setsQueue p w v (mkR m0 B D F) = some (mkR m0 B (updD D (102 + 8 * i + k) v) F) := by
  subst hp hw
  unfold R_setsQueue
  rw [R_puts_m hB (102 + 8 * i + k) (by rw [show (8 : Int32) = nI 8 from rfl, show (102 : Int32) = nI 102 from rfl, pk_mul, nI_add, nI_add]) hj]
  rfl
theorem R_ofRequest_m (hB : BB B) {p w : Int32} (i k : Nat) (hp : p = nI i) (hw : w = nI k) (hj : 150 + 7 * i + k < 758) : R_ofRequest p w (mkR m0 B D F) = some (D (150 + 7 * i + k)) := by
  subst hp hw
  unfold R_ofRequest
  rw [R_its_m hB (150 + 7 * i + k) (by rw [show (7 : Int32) = nI 7 from rfl, show (150 : Int32) = nI 150 from rfl, pk_mul, nI_add, nI_add]) hj]
  rfl
end RACC
