/-! PURE: accessors for simp, written numbers -/
section ACC
variable {m0 : Mm} {B : Nat} {D : Nat → Int32} {F : Nat → UInt32}
theorem ro_0 (hB : BB B) {i : Nat} (hi : i < 6) : R_of (nI i) 0 (mkR m0 B D F) = some (D (18 + 14 * i + 0)) := R_of_k0 hB i rfl hi
theorem rs_0 (hB : BB B) {i : Nat} (hi : i < 6) (v : Int32) : R_sets (nI i) 0 v (mkR m0 B D F) = some (mkR m0 B (updD D (18 + 14 * i + 0) v) F) := R_sets_k0 hB i rfl hi v
theorem ro_1 (hB : BB B) {i : Nat} (hi : i < 6) : R_of (nI i) 1 (mkR m0 B D F) = some (D (18 + 14 * i + 1)) := R_of_k1 hB i rfl hi
theorem rs_1 (hB : BB B) {i : Nat} (hi : i < 6) (v : Int32) : R_sets (nI i) 1 v (mkR m0 B D F) = some (mkR m0 B (updD D (18 + 14 * i + 1) v) F) := R_sets_k1 hB i rfl hi v
theorem ro_2 (hB : BB B) {i : Nat} (hi : i < 6) : R_of (nI i) 2 (mkR m0 B D F) = some (D (18 + 14 * i + 2)) := R_of_k2 hB i rfl hi
theorem rs_2 (hB : BB B) {i : Nat} (hi : i < 6) (v : Int32) : R_sets (nI i) 2 v (mkR m0 B D F) = some (mkR m0 B (updD D (18 + 14 * i + 2) v) F) := R_sets_k2 hB i rfl hi v
theorem ro_3 (hB : BB B) {i : Nat} (hi : i < 6) : R_of (nI i) 3 (mkR m0 B D F) = some (D (18 + 14 * i + 3)) := R_of_k3 hB i rfl hi
theorem rs_3 (hB : BB B) {i : Nat} (hi : i < 6) (v : Int32) : R_sets (nI i) 3 v (mkR m0 B D F) = some (mkR m0 B (updD D (18 + 14 * i + 3) v) F) := R_sets_k3 hB i rfl hi v
theorem ro_4 (hB : BB B) {i : Nat} (hi : i < 6) : R_of (nI i) 4 (mkR m0 B D F) = some (D (18 + 14 * i + 4)) := R_of_k4 hB i rfl hi
theorem rs_4 (hB : BB B) {i : Nat} (hi : i < 6) (v : Int32) : R_sets (nI i) 4 v (mkR m0 B D F) = some (mkR m0 B (updD D (18 + 14 * i + 4) v) F) := R_sets_k4 hB i rfl hi v
theorem ro_5 (hB : BB B) {i : Nat} (hi : i < 6) : R_of (nI i) 5 (mkR m0 B D F) = some (D (18 + 14 * i + 5)) := R_of_k5 hB i rfl hi
theorem rs_5 (hB : BB B) {i : Nat} (hi : i < 6) (v : Int32) : R_sets (nI i) 5 v (mkR m0 B D F) = some (mkR m0 B (updD D (18 + 14 * i + 5) v) F) := R_sets_k5 hB i rfl hi v
theorem ro_6 (hB : BB B) {i : Nat} (hi : i < 6) : R_of (nI i) 6 (mkR m0 B D F) = some (D (18 + 14 * i + 6)) := R_of_k6 hB i rfl hi
theorem rs_6 (hB : BB B) {i : Nat} (hi : i < 6) (v : Int32) : R_sets (nI i) 6 v (mkR m0 B D F) = some (mkR m0 B (updD D (18 + 14 * i + 6) v) F) := R_sets_k6 hB i rfl hi v
theorem ro_7 (hB : BB B) {i : Nat} (hi : i < 6) : R_of (nI i) 7 (mkR m0 B D F) = some (D (18 + 14 * i + 7)) := R_of_k7 hB i rfl hi
theorem rs_7 (hB : BB B) {i : Nat} (hi : i < 6) (v : Int32) : R_sets (nI i) 7 v (mkR m0 B D F) = some (mkR m0 B (updD D (18 + 14 * i + 7) v) F) := R_sets_k7 hB i rfl hi v
theorem ro_8 (hB : BB B) {i : Nat} (hi : i < 6) : R_of (nI i) 8 (mkR m0 B D F) = some (D (18 + 14 * i + 8)) := R_of_k8 hB i rfl hi
theorem rs_8 (hB : BB B) {i : Nat} (hi : i < 6) (v : Int32) : R_sets (nI i) 8 v (mkR m0 B D F) = some (mkR m0 B (updD D (18 + 14 * i + 8) v) F) := R_sets_k8 hB i rfl hi v
theorem ro_9 (hB : BB B) {i : Nat} (hi : i < 6) : R_of (nI i) 9 (mkR m0 B D F) = some (D (18 + 14 * i + 9)) := R_of_k9 hB i rfl hi
theorem rs_9 (hB : BB B) {i : Nat} (hi : i < 6) (v : Int32) : R_sets (nI i) 9 v (mkR m0 B D F) = some (mkR m0 B (updD D (18 + 14 * i + 9) v) F) := R_sets_k9 hB i rfl hi v
theorem ro_10 (hB : BB B) {i : Nat} (hi : i < 6) : R_of (nI i) 10 (mkR m0 B D F) = some (D (18 + 14 * i + 10)) := R_of_k10 hB i rfl hi
theorem rs_10 (hB : BB B) {i : Nat} (hi : i < 6) (v : Int32) : R_sets (nI i) 10 v (mkR m0 B D F) = some (mkR m0 B (updD D (18 + 14 * i + 10) v) F) := R_sets_k10 hB i rfl hi v
theorem ro_11 (hB : BB B) {i : Nat} (hi : i < 6) : R_of (nI i) 11 (mkR m0 B D F) = some (D (18 + 14 * i + 11)) := R_of_k11 hB i rfl hi
theorem rs_11 (hB : BB B) {i : Nat} (hi : i < 6) (v : Int32) : R_sets (nI i) 11 v (mkR m0 B D F) = some (mkR m0 B (updD D (18 + 14 * i + 11) v) F) := R_sets_k11 hB i rfl hi v
theorem ro_12 (hB : BB B) {i : Nat} (hi : i < 6) : R_of (nI i) 12 (mkR m0 B D F) = some (D (18 + 14 * i + 12)) := R_of_k12 hB i rfl hi
theorem rs_12 (hB : BB B) {i : Nat} (hi : i < 6) (v : Int32) : R_sets (nI i) 12 v (mkR m0 B D F) = some (mkR m0 B (updD D (18 + 14 * i + 12) v) F) := R_sets_k12 hB i rfl hi v
theorem rq_0 (hB : BB B) {i : Nat} (hi : i < 6) : R_ofQueue (nI i) 0 (mkR m0 B D F) = some (D (102 + 8 * i + 0)) := R_ofQueue_k0 hB i rfl hi
theorem rqs_0 (hB : BB B) {i : Nat} (hi : i < 6) (v : Int32) : R_setsQueue (nI i) 0 v (mkR m0 B D F) = some (mkR m0 B (updD D (102 + 8 * i + 0) v) F) := R_setsQueue_k0 hB i rfl hi v
theorem rq_1 (hB : BB B) {i : Nat} (hi : i < 6) : R_ofQueue (nI i) 1 (mkR m0 B D F) = some (D (102 + 8 * i + 1)) := R_ofQueue_k1 hB i rfl hi
theorem rqs_1 (hB : BB B) {i : Nat} (hi : i < 6) (v : Int32) : R_setsQueue (nI i) 1 v (mkR m0 B D F) = some (mkR m0 B (updD D (102 + 8 * i + 1) v) F) := R_setsQueue_k1 hB i rfl hi v
theorem rq_2 (hB : BB B) {i : Nat} (hi : i < 6) : R_ofQueue (nI i) 2 (mkR m0 B D F) = some (D (102 + 8 * i + 2)) := R_ofQueue_k2 hB i rfl hi
theorem rqs_2 (hB : BB B) {i : Nat} (hi : i < 6) (v : Int32) : R_setsQueue (nI i) 2 v (mkR m0 B D F) = some (mkR m0 B (updD D (102 + 8 * i + 2) v) F) := R_setsQueue_k2 hB i rfl hi v
theorem rq_3 (hB : BB B) {i : Nat} (hi : i < 6) : R_ofQueue (nI i) 3 (mkR m0 B D F) = some (D (102 + 8 * i + 3)) := R_ofQueue_k3 hB i rfl hi
theorem rqs_3 (hB : BB B) {i : Nat} (hi : i < 6) (v : Int32) : R_setsQueue (nI i) 3 v (mkR m0 B D F) = some (mkR m0 B (updD D (102 + 8 * i + 3) v) F) := R_setsQueue_k3 hB i rfl hi v
theorem rq_4 (hB : BB B) {i : Nat} (hi : i < 6) : R_ofQueue (nI i) 4 (mkR m0 B D F) = some (D (102 + 8 * i + 4)) := R_ofQueue_k4 hB i rfl hi
theorem rqs_4 (hB : BB B) {i : Nat} (hi : i < 6) (v : Int32) : R_setsQueue (nI i) 4 v (mkR m0 B D F) = some (mkR m0 B (updD D (102 + 8 * i + 4) v) F) := R_setsQueue_k4 hB i rfl hi v
theorem rq_5 (hB : BB B) {i : Nat} (hi : i < 6) : R_ofQueue (nI i) 5 (mkR m0 B D F) = some (D (102 + 8 * i + 5)) := R_ofQueue_k5 hB i rfl hi
theorem rqs_5 (hB : BB B) {i : Nat} (hi : i < 6) (v : Int32) : R_setsQueue (nI i) 5 v (mkR m0 B D F) = some (mkR m0 B (updD D (102 + 8 * i + 5) v) F) := R_setsQueue_k5 hB i rfl hi v
theorem rr_0 (hB : BB B) {i : Nat} (hi : i < 64) : R_ofRequest (nI i) 0 (mkR m0 B D F) = some (D (150 + 7 * i + 0)) := R_ofRequest_k0 hB i rfl hi
theorem rr_1 (hB : BB B) {i : Nat} (hi : i < 64) : R_ofRequest (nI i) 1 (mkR m0 B D F) = some (D (150 + 7 * i + 1)) := R_ofRequest_k1 hB i rfl hi
theorem rr_2 (hB : BB B) {i : Nat} (hi : i < 64) : R_ofRequest (nI i) 2 (mkR m0 B D F) = some (D (150 + 7 * i + 2)) := R_ofRequest_k2 hB i rfl hi
theorem rr_3 (hB : BB B) {i : Nat} (hi : i < 64) : R_ofRequest (nI i) 3 (mkR m0 B D F) = some (D (150 + 7 * i + 3)) := R_ofRequest_k3 hB i rfl hi
theorem rr_4 (hB : BB B) {i : Nat} (hi : i < 64) : R_ofRequest (nI i) 4 (mkR m0 B D F) = some (D (150 + 7 * i + 4)) := R_ofRequest_k4 hB i rfl hi
theorem rr_5 (hB : BB B) {i : Nat} (hi : i < 64) : R_ofRequest (nI i) 5 (mkR m0 B D F) = some (D (150 + 7 * i + 5)) := R_ofRequest_k5 hB i rfl hi
theorem rr_6 (hB : BB B) {i : Nat} (hi : i < 64) : R_ofRequest (nI i) 6 (mkR m0 B D F) = some (D (150 + 7 * i + 6)) := R_ofRequest_k6 hB i rfl hi
theorem rf_0 (hB : BB B) {i : Nat} (hi : i < 6) : R_part (0 + nI i) (mkR m0 B D F) = some (F (0 + i)) := R_part_q0 hB i rfl hi
theorem rfs_0 (hB : BB B) {i : Nat} (hi : i < 6) (v : UInt32) : R_setsPart (0 + nI i) v (mkR m0 B D F) = some (mkR m0 B D (updD F (0 + i) v)) := R_setsPart_q0 hB i rfl hi v
theorem rf_6 (hB : BB B) {i : Nat} (hi : i < 6) : R_part (6 + nI i) (mkR m0 B D F) = some (F (6 + i)) := R_part_q6 hB i rfl hi
theorem rfs_6 (hB : BB B) {i : Nat} (hi : i < 6) (v : UInt32) : R_setsPart (6 + nI i) v (mkR m0 B D F) = some (mkR m0 B D (updD F (6 + i) v)) := R_setsPart_q6 hB i rfl hi v
theorem rf_12 (hB : BB B) {i : Nat} (hi : i < 6) : R_part (12 + nI i) (mkR m0 B D F) = some (F (12 + i)) := R_part_q12 hB i rfl hi
theorem rfs_12 (hB : BB B) {i : Nat} (hi : i < 6) (v : UInt32) : R_setsPart (12 + nI i) v (mkR m0 B D F) = some (mkR m0 B D (updD F (12 + i) v)) := R_setsPart_q12 hB i rfl hi v
theorem rin (hB : BB B) {j : Nat} (hj : j < 758) : R_its (nI j) (mkR m0 B D F) = some (D j) := R_its_m hB j rfl hj
theorem rpn (hB : BB B) {j : Nat} (hj : j < 758) (v : Int32) : R_puts (nI j) v (mkR m0 B D F) = some (mkR m0 B (updD D j v) F) := R_puts_m hB j rfl hj
end ACC
theorem al_0_6 {ρ : Type} (o : Option ρ) : ald (0 : Int32) 6 o = o := ald_t (by decide) o
theorem al_1_6 {ρ : Type} (o : Option ρ) : ald (1 : Int32) 6 o = o := ald_t (by decide) o
theorem al_2_6 {ρ : Type} (o : Option ρ) : ald (2 : Int32) 6 o = o := ald_t (by decide) o
theorem al_3_6 {ρ : Type} (o : Option ρ) : ald (3 : Int32) 6 o = o := ald_t (by decide) o
theorem al_4_6 {ρ : Type} (o : Option ρ) : ald (4 : Int32) 6 o = o := ald_t (by decide) o
theorem al_5_6 {ρ : Type} (o : Option ρ) : ald (5 : Int32) 6 o = o := ald_t (by decide) o
theorem al_0_15 {ρ : Type} (o : Option ρ) : ald (0 : Int32) 15 o = o := ald_t (by decide) o
theorem al_1_15 {ρ : Type} (o : Option ρ) : ald (1 : Int32) 15 o = o := ald_t (by decide) o
theorem al_2_15 {ρ : Type} (o : Option ρ) : ald (2 : Int32) 15 o = o := ald_t (by decide) o
theorem al_3_15 {ρ : Type} (o : Option ρ) : ald (3 : Int32) 15 o = o := ald_t (by decide) o
theorem al_4_15 {ρ : Type} (o : Option ρ) : ald (4 : Int32) 15 o = o := ald_t (by decide) o
theorem al_5_15 {ρ : Type} (o : Option ρ) : ald (5 : Int32) 15 o = o := ald_t (by decide) o
theorem al_0_36 {ρ : Type} (o : Option ρ) : ald (0 : Int32) 36 o = o := ald_t (by decide) o
theorem al_1_36 {ρ : Type} (o : Option ρ) : ald (1 : Int32) 36 o = o := ald_t (by decide) o
theorem al_2_36 {ρ : Type} (o : Option ρ) : ald (2 : Int32) 36 o = o := ald_t (by decide) o
theorem al_3_36 {ρ : Type} (o : Option ρ) : ald (3 : Int32) 36 o = o := ald_t (by decide) o
theorem al_4_36 {ρ : Type} (o : Option ρ) : ald (4 : Int32) 36 o = o := ald_t (by decide) o
theorem al_5_36 {ρ : Type} (o : Option ρ) : ald (5 : Int32) 36 o = o := ald_t (by decide) o
theorem ixl_0 : ix (0 : Int32) = 0 := rfl
theorem ixl_1 : ix (1 : Int32) = 1 := rfl
theorem ixl_2 : ix (2 : Int32) = 2 := rfl
theorem ixl_3 : ix (3 : Int32) = 3 := rfl
theorem ixl_4 : ix (4 : Int32) = 4 := rfl
theorem ixl_5 : ix (5 : Int32) = 5 := rfl
theorem ixl_6 : ix (6 : Int32) = 6 := rfl
theorem nA_0 (a : Nat) : nI a + (0 : Int32) = nI (a + 0) := nI_add a 0
theorem nA_1 (a : Nat) : nI a + (1 : Int32) = nI (a + 1) := nI_add a 1
theorem nA_2 (a : Nat) : nI a + (2 : Int32) = nI (a + 2) := nI_add a 2
theorem nA_3 (a : Nat) : nI a + (3 : Int32) = nI (a + 3) := nI_add a 3
theorem nA_4 (a : Nat) : nI a + (4 : Int32) = nI (a + 4) := nI_add a 4
theorem nA_5 (a : Nat) : nI a + (5 : Int32) = nI (a + 5) := nI_add a 5
theorem nA_6 (a : Nat) : nI a + (6 : Int32) = nI (a + 6) := nI_add a 6
theorem nA_7 (a : Nat) : nI a + (7 : Int32) = nI (a + 7) := nI_add a 7
theorem nA_8 (a : Nat) : nI a + (8 : Int32) = nI (a + 8) := nI_add a 8
theorem nA_9 (a : Nat) : nI a + (9 : Int32) = nI (a + 9) := nI_add a 9
theorem nA_32 (a : Nat) : nI a + (32 : Int32) = nI (a + 32) := nI_add a 32
theorem nA_100000 (a : Nat) : nI a + (100000 : Int32) = nI (a + 100000) := nI_add a 100000
theorem nM_1 (a : Nat) : (1 : Int32) * nI a = nI (1 * a) := pk_mul 1 a
theorem nM_2 (a : Nat) : (2 : Int32) * nI a = nI (2 * a) := pk_mul 2 a
theorem nM_3 (a : Nat) : (3 : Int32) * nI a = nI (3 * a) := pk_mul 3 a
theorem nM_4 (a : Nat) : (4 : Int32) * nI a = nI (4 * a) := pk_mul 4 a
theorem nM_6 (a : Nat) : (6 : Int32) * nI a = nI (6 * a) := pk_mul 6 a
theorem nM_7 (a : Nat) : (7 : Int32) * nI a = nI (7 * a) := pk_mul 7 a
theorem nM_8 (a : Nat) : (8 : Int32) * nI a = nI (8 * a) := pk_mul 8 a
theorem nM_14 (a : Nat) : (14 : Int32) * nI a = nI (14 * a) := pk_mul 14 a
theorem nM_61 (a : Nat) : (61 : Int32) * nI a = nI (61 * a) := pk_mul 61 a
theorem nN_2 (a : Nat) : nI a * (2 : Int32) = nI (a * 2) := pk_mul a 2
theorem nN_4 (a : Nat) : nI a * (4 : Int32) = nI (a * 4) := pk_mul a 4
theorem nN_6 (a : Nat) : nI a * (6 : Int32) = nI (a * 6) := pk_mul a 6
theorem nN_7 (a : Nat) : nI a * (7 : Int32) = nI (a * 7) := pk_mul a 7
theorem nB_0 (a : Nat) : (0 : Int32) + nI a = nI (0 + a) := nI_add 0 a
theorem nB_1 (a : Nat) : (1 : Int32) + nI a = nI (1 + a) := nI_add 1 a
theorem nB_2 (a : Nat) : (2 : Int32) + nI a = nI (2 + a) := nI_add 2 a
theorem nB_3 (a : Nat) : (3 : Int32) + nI a = nI (3 + a) := nI_add 3 a
theorem nB_6 (a : Nat) : (6 : Int32) + nI a = nI (6 + a) := nI_add 6 a
theorem nB_11 (a : Nat) : (11 : Int32) + nI a = nI (11 + a) := nI_add 11 a
theorem nB_12 (a : Nat) : (12 : Int32) + nI a = nI (12 + a) := nI_add 12 a
theorem nB_18 (a : Nat) : (18 : Int32) + nI a = nI (18 + a) := nI_add 18 a
theorem nB_20 (a : Nat) : (20 : Int32) + nI a = nI (20 + a) := nI_add 20 a
theorem nB_102 (a : Nat) : (102 : Int32) + nI a = nI (102 + a) := nI_add 102 a
theorem nB_150 (a : Nat) : (150 : Int32) + nI a = nI (150 + a) := nI_add 150 a
theorem nB_598 (a : Nat) : (598 : Int32) + nI a = nI (598 + a) := nI_add 598 a
theorem nB_758 (a : Nat) : (758 : Int32) + nI a = nI (758 + a) := nI_add 758 a
theorem nS_0 {a : Nat} (h : 0 ≤ a) : nI a - (0 : Int32) = nI (a - 0) := pk_sub (a := a) (b := 0) h
theorem nS_1 {a : Nat} (h : 1 ≤ a) : nI a - (1 : Int32) = nI (a - 1) := pk_sub (a := a) (b := 1) h
theorem nS_2 {a : Nat} (h : 2 ≤ a) : nI a - (2 : Int32) = nI (a - 2) := pk_sub (a := a) (b := 2) h
theorem nS_3 {a : Nat} (h : 3 ≤ a) : nI a - (3 : Int32) = nI (a - 3) := pk_sub (a := a) (b := 3) h
theorem nS_4 {a : Nat} (h : 4 ≤ a) : nI a - (4 : Int32) = nI (a - 4) := pk_sub (a := a) (b := 4) h
theorem nS_5 {a : Nat} (h : 5 ≤ a) : nI a - (5 : Int32) = nI (a - 5) := pk_sub (a := a) (b := 5) h
theorem nS_6 {a : Nat} (h : 6 ≤ a) : nI a - (6 : Int32) = nI (a - 6) := pk_sub (a := a) (b := 6) h
theorem nS_7 {a : Nat} (h : 7 ≤ a) : nI a - (7 : Int32) = nI (a - 7) := pk_sub (a := a) (b := 7) h
theorem nL_0 : (0 : Int32) = nI 0 := rfl
theorem nL_1 : (1 : Int32) = nI 1 := rfl
theorem nL_2 : (2 : Int32) = nI 2 := rfl
theorem nL_3 : (3 : Int32) = nI 3 := rfl
theorem nL_4 : (4 : Int32) = nI 4 := rfl
theorem nL_5 : (5 : Int32) = nI 5 := rfl
theorem nL_6 : (6 : Int32) = nI 6 := rfl
theorem nL_7 : (7 : Int32) = nI 7 := rfl
theorem nL_8 : (8 : Int32) = nI 8 := rfl
theorem nL_39 : (39 : Int32) = nI 39 := rfl
theorem nL_40 : (40 : Int32) = nI 40 := rfl
theorem nL_156 : (156 : Int32) = nI 156 := rfl
theorem nL_758 : (758 : Int32) = nI 758 := rfl
