abbrev shCX0 : Shp := (0, 0, 0, [(4, 1), (0, 0)])
abbrev shCX1 : Shp := (0, 1, 0, [(4, 1), (0, 0)])
abbrev shCX2 : Shp := (0, 2, 0, [(0, 0), (0, 0), (0, 0), (0, 0), (0, 0), (0, 0), (0, 0), (0, 0), (0, 0), (0, 0), (0, 0), (0, 0), (4, 1), (4, 2), (4, 3), (4, 4), (4, 5), (4, 6), (4, 7), (4, 8)])
abbrev shCX3 : Shp := (0, 3, 0, [(0, 0), (0, 0), (0, 0), (0, 0), (0, 0), (0, 0), (0, 0), (0, 0), (0, 0), (0, 0), (0, 0), (0, 0), (0, 0), (0, 0)])
abbrev shCX4 : Shp := (0, 4, 0, [(1, 0), (1, 0), (1, 0), (0, 0), (0, 0), (0, 0), (0, 0), (0, 0), (0, 0)])
abbrev shCX5 : Shp := (0, 5, 0, [(5, 19), (4, 1), (4, 2), (4, 3), (4, 4), (3, 0), (0, 0), (0, 0), (0, 0), (0, 0)])
abbrev shCX6 : Shp := (0, 6, 0, [(4, 1), (0, 0)])
abbrev shCX7 : Shp := (0, 7, 0, [(4, 1), (4, 2), (0, 0)])
abbrev shCX8 : Shp := (0, 8, 0, [(3, 0), (4, 1), (4, 2), (4, 3), (4, 5), (4, 6), (0, 0), (0, 0), (1, 0), (1, 0), (0, 0), (0, 0), (0, 0), (0, 0), (0, 0), (0, 0), (0, 0), (0, 0), (0, 0), (0, 0)])
abbrev shCX9 : Shp := (0, 9, 0, [(4, 1), (0, 0)])
abbrev shCX11 : Shp := (0, 10, 0, [(3, 0), (3, 0), (5, 19), (5, 21), (5, 26), (5, 46), (5, 66), (0, 0), (0, 0), (5, 67), (5, 70), (5, 72), (5, 73), (0, 0), (0, 0), (2, 0)])
def shC_t : List Shp := [shCX11, shCX2, (1, 0, 36, []), (1, 2, 6, []), (1, 0, 6, []), (1, 0, 6, []), (1, 0, 6, []), (1, 0, 36, []), (1, 0, 36, []), (1, 0, 36, []), shCX2, (1, 0, 36, []), (1, 2, 6, []), (1, 0, 6, []), (1, 0, 6, []), (1, 0, 6, []), (1, 0, 36, []), (1, 0, 36, []), (1, 0, 36, []), shCX9, (1, 0, 1600, []), shCX5, (1, 0, 1601, []), (1, 0, 1601, []), (1, 0, 1601, []), (3, 6, 1601, []), shCX8, (4, 3, 6, [(7, 2)]), (4, 4, 6, [(7, 2)]), shCX6, (1, 0, 324, []), (1, 0, 6, []), shCX1, (1, 0, 160, []), shCX3, shCX4, shCX3, shCX4, shCX3, shCX4, shCX3, shCX4, shCX3, shCX4, shCX3, shCX4, shCX8, (4, 3, 6, [(7, 2)]), (4, 4, 6, [(7, 2)]), shCX6, (1, 0, 324, []), (1, 0, 6, []), shCX1, (1, 0, 160, []), shCX3, shCX4, shCX3, shCX4, shCX3, shCX4, shCX3, shCX4, shCX3, shCX4, shCX3, shCX4, (4, 5, 20, [(8, 20)]), shCX7, (1, 0, 16, []), (1, 0, 16, []), shCX0, (1, 0, 15, []), (1, 0, 6, []), (1, 0, 427, [])]
def shC_s : List Shp := [shCX8, (4, 3, 6, [(7, 2)]), (4, 4, 6, [(7, 2)]), shCX6, (1, 0, 324, []), (1, 0, 6, []), shCX1, (1, 0, 160, []), shCX3, shCX4, shCX3, shCX4, shCX3, shCX4, shCX3, shCX4, shCX3, shCX4, shCX3, shCX4]
def shC (a : Nat) : Shp := if a < 74 then shC_t.getD a (99, 0, 0, []) else if a < 474 then shC_s.getD ((a - 74) % 20) (99, 0, 0, []) else (99, 0, 0, [])
theorem shC_0 : shC 0 = shCX11 := by decide +kernel
theorem shC_19 : shC 19 = shCX9 := by decide +kernel
theorem shC_20 : shC 20 = (1, 0, 1600, []) := by decide +kernel
theorem shC_21 : shC 21 = shCX5 := by decide +kernel
theorem shC_22 : shC 22 = (1, 0, 1601, []) := by decide +kernel
theorem shC_26 : shC 26 = shCX8 := by decide +kernel
theorem shC_27 : shC 27 = (4, 3, 6, [(7, 2)]) := by decide +kernel
theorem shC_28 : shC 28 = (4, 4, 6, [(7, 2)]) := by decide +kernel
theorem shC_29 : shC 29 = shCX6 := by decide +kernel
theorem shC_30 : shC 30 = (1, 0, 324, []) := by decide +kernel
theorem shC_31 : shC 31 = (1, 0, 6, []) := by decide +kernel
theorem shC_32 : shC 32 = shCX1 := by decide +kernel
theorem shC_46 : shC 46 = shCX8 := by decide +kernel
theorem shC_47 : shC 47 = (4, 3, 6, [(7, 2)]) := by decide +kernel
theorem shC_52 : shC 52 = shCX1 := by decide +kernel
theorem shC_66 : shC 66 = (4, 5, 20, [(8, 20)]) := by decide +kernel
theorem shC_67 : shC 67 = shCX7 := by decide +kernel
theorem shC_68 : shC 68 = (1, 0, 16, []) := by decide +kernel
theorem shC_69 : shC 69 = (1, 0, 16, []) := by decide +kernel
theorem shC_70 : shC 70 = shCX0 := by decide +kernel
theorem shC_71 : shC 71 = (1, 0, 15, []) := by decide +kernel
theorem shC_72 : shC 72 = (1, 0, 6, []) := by decide +kernel
theorem shC_73 : shC 73 = (1, 0, 427, []) := by decide +kernel
theorem shC_lt {a : Nat} (h : (shC a).1 < 9) : a < 474 := by
  refine Nat.lt_of_not_le (fun hn => ?_)
  rw [shC, if_neg (by omega), if_neg (by omega)] at h
  exact absurd h (by decide)
theorem shC_f_1_0 {a : Nat} (h : shC a = shCX1) : shC (a + 1) = (1, 0, 160, []) := co_dec (P := fun a => shC a = shCX1 → shC (a + 1) = (1, 0, 160, [])) (by decide +kernel) (shC_lt (by rw [h]; decide)) h
theorem shC_f_2_12 {a : Nat} (h : shC a = shCX2) : shC (a + 1) = (1, 0, 36, []) := co_dec (P := fun a => shC a = shCX2 → shC (a + 1) = (1, 0, 36, [])) (by decide +kernel) (shC_lt (by rw [h]; decide)) h
theorem shC_f_2_14 {a : Nat} (h : shC a = shCX2) : shC (a + 3) = (1, 0, 6, []) := co_dec (P := fun a => shC a = shCX2 → shC (a + 3) = (1, 0, 6, [])) (by decide +kernel) (shC_lt (by rw [h]; decide)) h
theorem shC_f_2_15 {a : Nat} (h : shC a = shCX2) : shC (a + 4) = (1, 0, 6, []) := co_dec (P := fun a => shC a = shCX2 → shC (a + 4) = (1, 0, 6, [])) (by decide +kernel) (shC_lt (by rw [h]; decide)) h
theorem shC_f_6_0 {a : Nat} (h : shC a = shCX6) : shC (a + 1) = (1, 0, 324, []) := co_dec (P := fun a => shC a = shCX6 → shC (a + 1) = (1, 0, 324, [])) (by decide +kernel) (shC_lt (by rw [h]; decide)) h
theorem shC_f_8_1 {a : Nat} (h : shC a = shCX8) : shC (a + 1) = (4, 3, 6, [(7, 2)]) := co_dec (P := fun a => shC a = shCX8 → shC (a + 1) = (4, 3, 6, [(7, 2)])) (by decide +kernel) (shC_lt (by rw [h]; decide)) h
theorem shC_f_8_2 {a : Nat} (h : shC a = shCX8) : shC (a + 2) = (4, 4, 6, [(7, 2)]) := co_dec (P := fun a => shC a = shCX8 → shC (a + 2) = (4, 4, 6, [(7, 2)])) (by decide +kernel) (shC_lt (by rw [h]; decide)) h
theorem shC_f_8_3 {a : Nat} (h : shC a = shCX8) : shC (a + 3) = shCX6 := co_dec (P := fun a => shC a = shCX8 → shC (a + 3) = shCX6) (by decide +kernel) (shC_lt (by rw [h]; decide)) h
theorem shC_f_8_4 {a : Nat} (h : shC a = shCX8) : shC (a + 5) = (1, 0, 6, []) := co_dec (P := fun a => shC a = shCX8 → shC (a + 5) = (1, 0, 6, [])) (by decide +kernel) (shC_lt (by rw [h]; decide)) h
theorem shC_f_8_5 {a : Nat} (h : shC a = shCX8) : shC (a + 6) = shCX1 := co_dec (P := fun a => shC a = shCX8 → shC (a + 6) = shCX1) (by decide +kernel) (shC_lt (by rw [h]; decide)) h
theorem shC_e_27 {i : Int32} (h : vp_in i 6) : shC (34 + 2 * ix i) = shCX3 := by
  obtain ⟨j, hj, rfl⟩ := vp_in_of h (by decide)
  rw [show ix (nI j) = j from nI_clamp (by omega)]
  exact co_dec (P := fun j => shC (34 + 2 * j) = shCX3) (by decide +kernel) hj
theorem shC_e_28 {i : Int32} (h : vp_in i 6) : shC (35 + 2 * ix i) = shCX4 := by
  obtain ⟨j, hj, rfl⟩ := vp_in_of h (by decide)
  rw [show ix (nI j) = j from nI_clamp (by omega)]
  exact co_dec (P := fun j => shC (35 + 2 * j) = shCX4) (by decide +kernel) hj
theorem shC_e_47 {i : Int32} (h : vp_in i 6) : shC (54 + 2 * ix i) = shCX3 := by
  obtain ⟨j, hj, rfl⟩ := vp_in_of h (by decide)
  rw [show ix (nI j) = j from nI_clamp (by omega)]
  exact co_dec (P := fun j => shC (54 + 2 * j) = shCX3) (by decide +kernel) hj
theorem shC_e_48 {i : Int32} (h : vp_in i 6) : shC (55 + 2 * ix i) = shCX4 := by
  obtain ⟨j, hj, rfl⟩ := vp_in_of h (by decide)
  rw [show ix (nI j) = j from nI_clamp (by omega)]
  exact co_dec (P := fun j => shC (55 + 2 * j) = shCX4) (by decide +kernel) hj
theorem shC_e_66 {i : Int32} (h : vp_in i 20) : shC (74 + 20 * ix i) = shCX8 := by
  obtain ⟨j, hj, rfl⟩ := vp_in_of h (by decide)
  rw [show ix (nI j) = j from nI_clamp (by omega)]
  exact co_dec (P := fun j => shC (74 + 20 * j) = shCX8) (by decide +kernel) hj
theorem shC_eld_3 {a : Nat} (h : shC a = (4, 3, 6, [(7, 2)])) {j : Nat} (hj : j < 6) : shC (a + 7 + 2 * j) = shCX3 := co_dec (P := fun j => shC (a + 7 + 2 * j) = shCX3) (co_dec (P := fun a => shC a = (4, 3, 6, [(7, 2)]) → (List.range 6).all (fun i => decide (shC (a + 7 + 2 * i) = shCX3)) = true) (by decide +kernel) (shC_lt (by rw [h]; decide)) h) hj
theorem shC_el_3 {a : Nat} {i : Int32} (h : shC a = (4, 3, 6, [(7, 2)])) (hi : vp_in i 6) : shC (a + 7 + 2 * ix i) = shCX3 := by
  obtain ⟨j, hj, rfl⟩ := vp_in_of hi (by decide)
  rw [show ix (nI j) = j from nI_clamp (by omega)]
  exact shC_eld_3 h hj
theorem shC_eld_4 {a : Nat} (h : shC a = (4, 4, 6, [(7, 2)])) {j : Nat} (hj : j < 6) : shC (a + 7 + 2 * j) = shCX4 := co_dec (P := fun j => shC (a + 7 + 2 * j) = shCX4) (co_dec (P := fun a => shC a = (4, 4, 6, [(7, 2)]) → (List.range 6).all (fun i => decide (shC (a + 7 + 2 * i) = shCX4)) = true) (by decide +kernel) (shC_lt (by rw [h]; decide)) h) hj
theorem shC_el_4 {a : Nat} {i : Int32} (h : shC a = (4, 4, 6, [(7, 2)])) (hi : vp_in i 6) : shC (a + 7 + 2 * ix i) = shCX4 := by
  obtain ⟨j, hj, rfl⟩ := vp_in_of hi (by decide)
  rw [show ix (nI j) = j from nI_clamp (by omega)]
  exact shC_eld_4 h hj
