/-! PURE: a state copied into another -/
def pcp (a b : Nat) (M : Mm) : Mm := (fun x k => if x = a ∧ k < 9 then M.1 b k else M.1 x k, M.2)
def qcp (a b : Nat) (M : Mm) : Mm := (fun x k => if x = a ∧ 3 ≤ k ∧ k < 9 then M.1 b k else M.1 x k, fun x k => if x = a ∧ k < 3 then M.2.1 b k else M.2.1 x k, M.2.2)
def ccp (a b : Nat) (M : Mm) : Mm := (fun x k => if x = a ∧ 9 ≤ k ∧ k < 14 then M.1 b k else M.1 x k, M.2)
def czp (a : Nat) (M : Mm) : Mm := (fun x k => if x = a ∧ 9 ≤ k ∧ k < 14 then 0 else M.1 x k, M.2)
theorem pcp_e {a b : Nat} {M : Mm} (hab : a ≠ b) (h1 : gI M b 1 = 0 ∨ gI M b 1 = 1) (h3 : gI M b 3 = 0 ∨ gI M b 3 = 1) : C_PCopyStanding a b M = some (pcp a b M) := by
  have hba := Ne.symm hab
  unfold C_PCopyStanding
  simp (disch := omega) only [lett_e, gw_n]
  rw [grd_t h1, grd_t h3]
  refine congrArg some (Prod.ext (funext fun x => funext fun k => ?_) rfl)
  show gI _ x k = if x = a ∧ k < 9 then gI M b k else gI M x k
  by_cases hx : x = a
  · subst hx
    rcases (show k = 0 ∨ k = 1 ∨ k = 2 ∨ k = 3 ∨ k = 4 ∨ k = 5 ∨ k = 6 ∨ k = 7 ∨ k = 8 ∨ 9 ≤ k by omega) with rfl | rfl | rfl | rfl | rfl | rfl | rfl | rfl | rfl | hk
    · rw [if_pos (by omega)]; simp (disch := omega) only [gw_n, gw_s]
    · rw [if_pos (by omega)]; simp (disch := omega) only [gw_n, gw_s]
    · rw [if_pos (by omega)]; simp (disch := omega) only [gw_n, gw_s]
    · rw [if_pos (by omega)]; simp (disch := omega) only [gw_n, gw_s]
    · rw [if_pos (by omega)]; simp (disch := omega) only [gw_n, gw_s]
    · rw [if_pos (by omega)]; simp (disch := omega) only [gw_n, gw_s]
    · rw [if_pos (by omega)]; simp (disch := omega) only [gw_n, gw_s]
    · rw [if_pos (by omega)]; simp (disch := omega) only [gw_n, gw_s]
    · rw [if_pos (by omega)]; simp (disch := omega) only [gw_n, gw_s]
    · rw [if_neg (by omega)]; simp (disch := omega) only [gw_n]
  · rw [if_neg (by omega)]; simp (disch := omega) only [gw_n]
theorem gfw_n (M : Mm) (a k : Nat) (v : UInt32) {a' k' : Nat} (h : a' ≠ a ∨ k' ≠ k) : gF (sF M a k v) a' k' = gF M a' k' := by
  show (if a' = a ∧ k' = k then v else M.2.1 a' k') = M.2.1 a' k'
  rw [if_neg (by omega)]
theorem gfw_s (M : Mm) (a k : Nat) (v : UInt32) : gF (sF M a k v) a k = v := by
  show (if a = a ∧ k = k then v else M.2.1 a k) = v
  rw [if_pos ⟨rfl, rfl⟩]
theorem qcp_e {a b : Nat} {M : Mm} (hab : a ≠ b) : C_QCopy a b M = some (qcp a b M) := by
  have hba := Ne.symm hab
  unfold C_QCopy
  simp (disch := omega) only [lett_e, gw_n, gfw_n, gI_sF]
  refine congrArg some (Prod.ext (funext fun x => funext fun k => ?_) (Prod.ext (funext fun x => funext fun k => ?_) rfl))
  · show gI _ x k = if x = a ∧ 3 ≤ k ∧ k < 9 then gI M b k else gI M x k
    by_cases hx : x = a
    · subst hx
      rcases (show k < 3 ∨ k = 3 ∨ k = 4 ∨ k = 5 ∨ k = 6 ∨ k = 7 ∨ k = 8 ∨ 9 ≤ k by omega) with hk | rfl | rfl | rfl | rfl | rfl | rfl | hk
      · rw [if_neg (by omega)]; simp (disch := omega) only [gw_n, gI_sF]
      · rw [if_pos (by omega)]; simp (disch := omega) only [gw_n, gw_s]
      · rw [if_pos (by omega)]; simp (disch := omega) only [gw_n, gw_s]
      · rw [if_pos (by omega)]; simp (disch := omega) only [gw_n, gw_s]
      · rw [if_pos (by omega)]; simp (disch := omega) only [gw_n, gw_s]
      · rw [if_pos (by omega)]; simp (disch := omega) only [gw_n, gw_s]
      · rw [if_pos (by omega)]; simp (disch := omega) only [gw_n, gw_s]
      · rw [if_neg (by omega)]; simp (disch := omega) only [gw_n, gI_sF]
    · rw [if_neg (by omega)]; simp (disch := omega) only [gw_n, gI_sF]
  · show gF (sF (sF (sF M a 0 _) a 1 _) a 2 _) x k = if x = a ∧ k < 3 then gF M b k else gF M x k
    by_cases hx : x = a
    · subst hx
      rcases (show k = 0 ∨ k = 1 ∨ k = 2 ∨ 3 ≤ k by omega) with rfl | rfl | rfl | hk
      · rw [if_pos (by omega)]; simp (disch := omega) only [gfw_n, gfw_s]
      · rw [if_pos (by omega)]; simp (disch := omega) only [gfw_n, gfw_s]
      · rw [if_pos (by omega)]; simp (disch := omega) only [gfw_n, gfw_s]
      · rw [if_neg (by omega)]; simp (disch := omega) only [gfw_n]
    · rw [if_neg (by omega)]; simp (disch := omega) only [gfw_n]
theorem ccp_e {a b : Nat} {M : Mm} (hab : a ≠ b) : C_PCopyCounts a b M = some (ccp a b M) := by
  have hba := Ne.symm hab
  unfold C_PCopyCounts
  simp (disch := omega) only [lett_e, gw_n]
  refine congrArg some (Prod.ext (funext fun x => funext fun k => ?_) rfl)
  show gI _ x k = if x = a ∧ 9 ≤ k ∧ k < 14 then gI M b k else gI M x k
  by_cases hx : x = a
  · subst hx
    rcases (show k < 9 ∨ k = 9 ∨ k = 10 ∨ k = 11 ∨ k = 12 ∨ k = 13 ∨ 14 ≤ k by omega) with hk | rfl | rfl | rfl | rfl | rfl | hk
    · rw [if_neg (by omega)]; simp (disch := omega) only [gw_n]
    · rw [if_pos (by omega)]; simp (disch := omega) only [gw_n, gw_s]
    · rw [if_pos (by omega)]; simp (disch := omega) only [gw_n, gw_s]
    · rw [if_pos (by omega)]; simp (disch := omega) only [gw_n, gw_s]
    · rw [if_pos (by omega)]; simp (disch := omega) only [gw_n, gw_s]
    · rw [if_pos (by omega)]; simp (disch := omega) only [gw_n, gw_s]
    · rw [if_neg (by omega)]; simp (disch := omega) only [gw_n]
  · rw [if_neg (by omega)]; simp (disch := omega) only [gw_n]
theorem czp_e {a : Nat} {M : Mm} : C_PClearCounts a M = some (czp a M) := by
  unfold C_PClearCounts
  simp only [lett_e]
  refine congrArg some (Prod.ext (funext fun x => funext fun k => ?_) rfl)
  show gI _ x k = if x = a ∧ 9 ≤ k ∧ k < 14 then 0 else gI M x k
  by_cases hx : x = a
  · subst hx
    rcases (show k < 9 ∨ k = 9 ∨ k = 10 ∨ k = 11 ∨ k = 12 ∨ k = 13 ∨ 14 ≤ k by omega) with hk | rfl | rfl | rfl | rfl | rfl | hk
    · rw [if_neg (by omega)]; simp (disch := omega) only [gw_n]
    · rw [if_pos (by omega)]; simp (disch := omega) only [gw_n, gw_s]
    · rw [if_pos (by omega)]; simp (disch := omega) only [gw_n, gw_s]
    · rw [if_pos (by omega)]; simp (disch := omega) only [gw_n, gw_s]
    · rw [if_pos (by omega)]; simp (disch := omega) only [gw_n, gw_s]
    · rw [if_pos (by omega)]; simp (disch := omega) only [gw_n, gw_s]
    · rw [if_neg (by omega)]; simp (disch := omega) only [gw_n]
  · rw [if_neg (by omega)]; simp (disch := omega) only [gw_n]
/-- processes and queues below i copied -/
def cpm (th p1 i : Nat) (M : Mm) : Mm := (fun x k => if th + 8 ≤ x ∧ x < th + 8 + 2 * i ∧ k < 9 ∧ ((x - th) % 2 = 0 ∨ 3 ≤ k) then M.1 (x - th + p1) k else M.1 x k, fun x k => if th + 8 ≤ x ∧ x < th + 8 + 2 * i ∧ (x - th) % 2 = 1 ∧ k < 3 then M.2.1 (x - th + p1) k else M.2.1 x k, M.2.2)
def ccm (th p1 i : Nat) (M : Mm) : Mm := (fun x k => if th + 8 ≤ x ∧ x < th + 8 + 2 * i ∧ (x - th) % 2 = 0 ∧ 9 ≤ k ∧ k < 14 then M.1 (x - th + p1) k else M.1 x k, M.2)
def czm (th i : Nat) (M : Mm) : Mm := (fun x k => if th + 8 ≤ x ∧ x < th + 8 + 2 * i ∧ (x - th) % 2 = 0 ∧ 9 ≤ k ∧ k < 14 then 0 else M.1 x k, M.2)
theorem cpm_0 (th p1 : Nat) (M : Mm) : cpm th p1 0 M = M := by
  refine Prod.ext (funext fun x => funext fun k => ?_) (Prod.ext (funext fun x => funext fun k => ?_) rfl)
  · show (if _ then _ else _) = _
    rw [if_neg (by omega)]
  · show (if _ then _ else _) = _
    rw [if_neg (by omega)]
theorem ccm_0 (th p1 : Nat) (M : Mm) : ccm th p1 0 M = M := by
  refine Prod.ext (funext fun x => funext fun k => ?_) rfl
  show (if _ then _ else _) = _
  rw [if_neg (by omega)]
theorem czm_0 (th : Nat) (M : Mm) : czm th 0 M = M := by
  refine Prod.ext (funext fun x => funext fun k => ?_) rfl
  show (if _ then _ else _) = _
  rw [if_neg (by omega)]
section CPM
variable {th p1 i n : Nat} {M : Mm}
/-- blocks that lie apart -/
def apt (th p1 : Nat) : Prop := 26 ≤ th ∧ 26 ≤ p1 ∧ (th + 20 ≤ p1 ∨ p1 + 20 ≤ th)
theorem cpm_I (x k : Nat) : gI (cpm th p1 i M) x k = if th + 8 ≤ x ∧ x < th + 8 + 2 * i ∧ k < 9 ∧ ((x - th) % 2 = 0 ∨ 3 ≤ k) then gI M (x - th + p1) k else gI M x k := rfl
theorem cpm_F (x k : Nat) : gF (cpm th p1 i M) x k = if th + 8 ≤ x ∧ x < th + 8 + 2 * i ∧ (x - th) % 2 = 1 ∧ k < 3 then gF M (x - th + p1) k else gF M x k := rfl
theorem cpm_s (ha : apt th p1) (hi : i < 6) : qcp (th + 9 + 2 * i) (p1 + 9 + 2 * i) (pcp (th + 8 + 2 * i) (p1 + 8 + 2 * i) (cpm th p1 i M)) = cpm th p1 (i + 1) M := by
  unfold apt at ha
  have eI : ∀ x k, gI (qcp (th + 9 + 2 * i) (p1 + 9 + 2 * i) (pcp (th + 8 + 2 * i) (p1 + 8 + 2 * i) (cpm th p1 i M))) x k = if x = th + 9 + 2 * i ∧ 3 ≤ k ∧ k < 9 then gI (pcp (th + 8 + 2 * i) (p1 + 8 + 2 * i) (cpm th p1 i M)) (p1 + 9 + 2 * i) k else gI (pcp (th + 8 + 2 * i) (p1 + 8 + 2 * i) (cpm th p1 i M)) x k := fun _ _ => rfl
  have eP : ∀ x k, gI (pcp (th + 8 + 2 * i) (p1 + 8 + 2 * i) (cpm th p1 i M)) x k = if x = th + 8 + 2 * i ∧ k < 9 then gI (cpm th p1 i M) (p1 + 8 + 2 * i) k else gI (cpm th p1 i M) x k := fun _ _ => rfl
  have eF : ∀ x k, gF (qcp (th + 9 + 2 * i) (p1 + 9 + 2 * i) (pcp (th + 8 + 2 * i) (p1 + 8 + 2 * i) (cpm th p1 i M))) x k = if x = th + 9 + 2 * i ∧ k < 3 then gF (cpm th p1 i M) (p1 + 9 + 2 * i) k else gF (cpm th p1 i M) x k := fun _ _ => rfl
  refine Prod.ext (funext fun x => funext fun k => ?_) (Prod.ext (funext fun x => funext fun k => ?_) rfl)
  · show gI (qcp _ _ (pcp _ _ (cpm th p1 i M))) x k = gI (cpm th p1 (i + 1) M) x k
    rw [eI, eP, eP, cpm_I, cpm_I, cpm_I, cpm_I]
    by_cases h1 : x = th + 9 + 2 * i ∧ 3 ≤ k ∧ k < 9
    · rw [if_pos h1, if_neg (by omega), if_neg (by omega), if_pos (by omega)]
      congr 1; omega
    · rw [if_neg h1]
      by_cases h2 : x = th + 8 + 2 * i ∧ k < 9
      · rw [if_pos h2, if_neg (by omega), if_pos (by omega)]
        congr 1; omega
      · rw [if_neg h2]
        by_cases h3 : th + 8 ≤ x ∧ x < th + 8 + 2 * i ∧ k < 9 ∧ ((x - th) % 2 = 0 ∨ 3 ≤ k)
        · rw [if_pos h3, if_pos (by omega)]
        · rw [if_neg h3, if_neg (by omega)]
  · show gF (qcp _ _ (pcp _ _ (cpm th p1 i M))) x k = gF (cpm th p1 (i + 1) M) x k
    rw [eF, cpm_F, cpm_F, cpm_F]
    by_cases h1 : x = th + 9 + 2 * i ∧ k < 3
    · rw [if_pos h1, if_neg (by omega), if_pos (by omega)]
      congr 1; omega
    · rw [if_neg h1]
      by_cases h3 : th + 8 ≤ x ∧ x < th + 8 + 2 * i ∧ (x - th) % 2 = 1 ∧ k < 3
      · rw [if_pos h3, if_pos (by omega)]
      · rw [if_neg h3, if_neg (by omega)]
theorem ccm_I (x k : Nat) : gI (ccm th p1 i M) x k = if th + 8 ≤ x ∧ x < th + 8 + 2 * i ∧ (x - th) % 2 = 0 ∧ 9 ≤ k ∧ k < 14 then gI M (x - th + p1) k else gI M x k := rfl
theorem czm_I (x k : Nat) : gI (czm th i M) x k = if th + 8 ≤ x ∧ x < th + 8 + 2 * i ∧ (x - th) % 2 = 0 ∧ 9 ≤ k ∧ k < 14 then 0 else gI M x k := rfl
theorem ccm_s (ha : apt th p1) (hi : i < 6) : ccp (th + 8 + 2 * i) (p1 + 8 + 2 * i) (ccm th p1 i M) = ccm th p1 (i + 1) M := by
  unfold apt at ha
  have eP : ∀ x k, gI (ccp (th + 8 + 2 * i) (p1 + 8 + 2 * i) (ccm th p1 i M)) x k = if x = th + 8 + 2 * i ∧ 9 ≤ k ∧ k < 14 then gI (ccm th p1 i M) (p1 + 8 + 2 * i) k else gI (ccm th p1 i M) x k := fun _ _ => rfl
  refine Prod.ext (funext fun x => funext fun k => ?_) rfl
  show gI (ccp _ _ (ccm th p1 i M)) x k = gI (ccm th p1 (i + 1) M) x k
  rw [eP, ccm_I, ccm_I, ccm_I]
  by_cases h2 : x = th + 8 + 2 * i ∧ 9 ≤ k ∧ k < 14
  · rw [if_pos h2, if_neg (by omega), if_pos (by omega)]
    congr 1; omega
  · rw [if_neg h2]
    by_cases h3 : th + 8 ≤ x ∧ x < th + 8 + 2 * i ∧ (x - th) % 2 = 0 ∧ 9 ≤ k ∧ k < 14
    · rw [if_pos h3, if_pos (by omega)]
    · rw [if_neg h3, if_neg (by omega)]
theorem czm_s : czp (th + 8 + 2 * i) (czm th i M) = czm th (i + 1) M := by
  have eP : ∀ x k, gI (czp (th + 8 + 2 * i) (czm th i M)) x k = if x = th + 8 + 2 * i ∧ 9 ≤ k ∧ k < 14 then 0 else gI (czm th i M) x k := fun _ _ => rfl
  refine Prod.ext (funext fun x => funext fun k => ?_) rfl
  show gI (czp _ (czm th i M)) x k = gI (czm th (i + 1) M) x k
  rw [eP, czm_I, czm_I]
  by_cases h2 : x = th + 8 + 2 * i ∧ 9 ≤ k ∧ k < 14
  · rw [if_pos h2, if_pos (by omega)]
  · rw [if_neg h2]
    by_cases h3 : th + 8 ≤ x ∧ x < th + 8 + 2 * i ∧ (x - th) % 2 = 0 ∧ 9 ≤ k ∧ k < 14
    · rw [if_pos h3, if_pos (by omega)]
    · rw [if_neg h3, if_neg (by omega)]
end CPM
/-- which slots of a state the copying of what moves writes -/
def mvI (n c o k : Nat) : Prop := (o = 0 ∧ (k = 6 ∨ k = 7 ∨ (10 ≤ k ∧ k ≤ 17) ∨ k = 19)) ∨ (o = 3 ∧ k = 1) ∨ (o = 4 ∧ k < 6 * c) ∨ (o = 5 ∧ k < 6) ∨ (8 ≤ o ∧ o < 8 + 2 * n ∧ k < 9 ∧ (o % 2 = 0 ∨ 3 ≤ k))
def mvF (n o k : Nat) : Prop := (o = 0 ∧ (k = 8 ∨ k = 9)) ∨ (8 ≤ o ∧ o < 8 + 2 * n ∧ o % 2 = 1 ∧ k < 3)
/-- M' is M with what moves copied from p1 to th -/
def CMv (th p1 n c : Nat) (M M' : Mm) : Prop := (∀ o k, mvI n c o k → gI M' (th + o) k = gI M (p1 + o) k) ∧ (∀ x k, (∀ o, x = th + o → ¬ mvI n c o k) → gI M' x k = gI M x k) ∧ (∀ o k, mvF n o k → gF M' (th + o) k = gF M (p1 + o) k) ∧ (∀ x k, (∀ o, x = th + o → ¬ mvF n o k) → gF M' x k = gF M x k) ∧ (∀ x k, gL M' x k = gL M x k) ∧ gR M' th 0 = gR M p1 0 ∧ ∀ x k, (x ≠ th ∨ k ≠ 0) → gR M' x k = gR M x k
def mvT (c o k : Nat) : Prop := (o = 0 ∧ (k = 6 ∨ k = 7 ∨ (10 ≤ k ∧ k ≤ 17) ∨ k = 19)) ∨ (o = 3 ∧ k = 1) ∨ (o = 4 ∧ k < 6 * c) ∨ (o = 5 ∧ k < 6)
def cmJ (th p1 : Nat) (M_3 : Mm) : Option Mm :=
 bnd (C_RCopy (th + 3) (p1 + 3) M_3) fun M5 =>
 acp (0 : Int32) (0 : Int32) (6 : Int32) 6 6 (lett (cpI M5 (p1 + 5) (ix (0 : Int32)) (th + 5) (ix (0 : Int32)) (ix (6 : Int32))) fun M6 =>
 lett (sI M6 th 6 (gI M6 p1 6)) fun M7 =>
 lett (sI M7 th 7 (gI M7 p1 7)) fun M8 =>
 lett (sF M8 th 8 (gF M8 p1 8)) fun M9 =>
 lett (sF M9 th 9 (gF M9 p1 9)) fun M10 =>
 lett (sI M10 th 10 (gI M10 p1 10)) fun M11 =>
 lett (sI M11 th 11 (gI M11 p1 11)) fun M12 =>
 lett (sI M12 th 12 (gI M12 p1 12)) fun M13 =>
 lett (sI M13 th 13 (gI M13 p1 13)) fun M14 =>
 lett (sI M14 th 14 (gI M14 p1 14)) fun M15 =>
 lett (sI M15 th 15 (gI M15 p1 15)) fun M16 =>
 lett (sI M16 th 16 (gI M16 p1 16)) fun M17 =>
 lett (sI M17 th 17 (gI M17 p1 17)) fun M18 =>
 lett (sI M18 th 19 (gI M18 p1 19)) fun M19 =>
 some M19)
theorem C_copyMoving_e (th p1 : Nat) (M : Mm) : C_copyMoving th p1 M = lett (gR M p1 0) fun y1 =>
 lett (sR M th 0 y1) fun M2 =>
 lett (0 : Int32) fun v3 =>
 lett (cmJ th p1) fun j57 =>
 loopR (fun (rec10 : (Int32 × Mm) → Option Mm) (x20 : Int32 × Mm) =>
 lett (gR x20.2 th 0) fun y21 =>
 nn y21 fun c22 => grd (shC c22 = shCX2) (if (gI x20.2 c22 11) ≤ x20.1 then
 (j57 x20.2)
 else
 (ald x20.1 6 (ald x20.1 6 (bnd (C_PCopyStanding ((th + 1) + 7 + 2 * ix x20.1) ((p1 + 1) + 7 + 2 * ix x20.1) x20.2) fun M26 =>
 ald x20.1 6 (ald x20.1 6 (bnd (C_QCopy ((th + 2) + 7 + 2 * ix x20.1) ((p1 + 2) + 7 + 2 * ix x20.1) M26) fun M29 =>
 lett (x20.1 + (1 : Int32)) fun v30 =>
 rec10 (v30, M29)))))))) 1000000 (v3, M2) := rfl
theorem gF_cpI (M : Mm) (a sp b dp n x k : Nat) : gF (cpI M a sp b dp n) x k = gF M x k := rfl
section CMOV
variable {th p1 n c P : Nat} {M : Mm}
theorem cmJ_m (ha : apt th p1) (hc : gI M (p1 + 3) 1 = nI c) (hc2 : c ≤ 54) : ∃ M', cmJ th p1 M = some M' ∧ (∀ o k, mvT c o k → gI M' (th + o) k = gI M (p1 + o) k) ∧ (∀ x k, (∀ o, x = th + o → ¬ mvT c o k) → gI M' x k = gI M x k) ∧ (∀ k, (k = 8 ∨ k = 9) → gF M' th k = gF M p1 k) ∧ (∀ x k, (x ≠ th ∨ (k ≠ 8 ∧ k ≠ 9)) → gF M' x k = gF M x k) ∧ M'.2.2 = M.2.2 := by
  have ha' := ha
  unfold apt at ha'
  unfold cmJ C_RCopy
  rw [lett_e, hc, gw_s, nN_6, show (0 : Int32) = nI 0 from rfl, show (6 : Int32) = nI 6 from rfl, acp_n (by omega) (by omega) (by omega) (by omega), lett_e, bnd_s, acp_n (by omega) (by omega) (by omega) (by omega), ix_nI (by omega), ix_nI (by omega), ix_nI (by omega)]
  simp only [Nat.add_assoc, Nat.reduceAdd]
  simp (disch := omega) only [lett_e, gw_n, gI_sF, gcp_n, gF_sI, gfw_n, gF_cpI]
  refine ⟨_, rfl, fun o k h => ?_, fun x k h => ?_, fun k h => ?_, fun x k h => ?_, rfl⟩
  · rcases h with ⟨rfl, h⟩ | ⟨rfl, rfl⟩ | ⟨rfl, h⟩ | ⟨rfl, h⟩
    · show gI _ th k = gI M p1 k
      rcases (show k = 6 ∨ k = 7 ∨ k = 10 ∨ k = 11 ∨ k = 12 ∨ k = 13 ∨ k = 14 ∨ k = 15 ∨ k = 16 ∨ k = 17 ∨ k = 19 by omega) with rfl | rfl | rfl | rfl | rfl | rfl | rfl | rfl | rfl | rfl | rfl
      · simp (disch := omega) only [gw_n, gw_s, gI_sF]
      · simp (disch := omega) only [gw_n, gw_s, gI_sF]
      · simp (disch := omega) only [gw_n, gw_s, gI_sF]
      · simp (disch := omega) only [gw_n, gw_s, gI_sF]
      · simp (disch := omega) only [gw_n, gw_s, gI_sF]
      · simp (disch := omega) only [gw_n, gw_s, gI_sF]
      · simp (disch := omega) only [gw_n, gw_s, gI_sF]
      · simp (disch := omega) only [gw_n, gw_s, gI_sF]
      · simp (disch := omega) only [gw_n, gw_s, gI_sF]
      · simp (disch := omega) only [gw_n, gw_s, gI_sF]
      · simp (disch := omega) only [gw_n, gw_s, gI_sF]
    · simp (disch := omega) only [gw_n, gw_s, gI_sF, gcp_n]
      exact hc.symm
    · simp (disch := omega) only [gw_n, gI_sF, gcp_n, gcp_s]
      rw [if_pos (by omega)]
      congr 1; omega
    · simp (disch := omega) only [gw_n, gI_sF, gcp_s, gcp_n]
      rw [if_pos (by omega)]
      congr 1; omega
  · have h0 := h 0
    have h3 := h 3
    have h4 := h 4
    have h5 := h 5
    unfold mvT at h0 h3 h4 h5
    clear h hc hc2 ha
    by_cases e4 : x = th + 4
    · have e : ¬ k < 6 * c := by omega
      subst e4
      clear h0 h3 h4 h5
      simp (disch := omega) only [gw_n, gI_sF, gcp_n, gcp_s]
      rw [if_neg (by omega)]
    · by_cases e5 : x = th + 5
      · have e : ¬ k < 6 := by omega
        subst e5
        clear h0 h3 h4 h5
        simp (disch := omega) only [gw_n, gI_sF, gcp_s]
        rw [if_neg (by omega)]
        simp (disch := omega) only [gw_n, gI_sF, gcp_n]
      · by_cases e0 : x = th
        · have e : k ≠ 6 ∧ k ≠ 7 ∧ k ≠ 10 ∧ k ≠ 11 ∧ k ≠ 12 ∧ k ≠ 13 ∧ k ≠ 14 ∧ k ≠ 15 ∧ k ≠ 16 ∧ k ≠ 17 ∧ k ≠ 19 := by omega
          obtain ⟨k1, k2, k3, k4, k5, k6, k7, k8, k9, k10, k11⟩ := e
          subst e0
          clear h0 h3 h4 h5 e4 e5
          rw [gw_n _ _ _ _ (Or.inr k11), gw_n _ _ _ _ (Or.inr k10), gw_n _ _ _ _ (Or.inr k9), gw_n _ _ _ _ (Or.inr k8), gw_n _ _ _ _ (Or.inr k7), gw_n _ _ _ _ (Or.inr k6), gw_n _ _ _ _ (Or.inr k5), gw_n _ _ _ _ (Or.inr k4), gw_n _ _ _ _ (Or.inr k3), gI_sF, gI_sF, gw_n _ _ _ _ (Or.inr k2), gw_n _ _ _ _ (Or.inr k1), gcp_n _ _ _ _ _ _ _ (by omega), gcp_n _ _ _ _ _ _ _ (by omega), gw_n _ _ _ _ (by omega)]
        · have e : x ≠ th + 3 ∨ k ≠ 1 := by omega
          clear h0 h3 h4 h5
          rw [gw_n _ _ _ _ (Or.inl e0), gw_n _ _ _ _ (Or.inl e0), gw_n _ _ _ _ (Or.inl e0), gw_n _ _ _ _ (Or.inl e0), gw_n _ _ _ _ (Or.inl e0), gw_n _ _ _ _ (Or.inl e0), gw_n _ _ _ _ (Or.inl e0), gw_n _ _ _ _ (Or.inl e0), gw_n _ _ _ _ (Or.inl e0), gI_sF, gI_sF, gw_n _ _ _ _ (Or.inl e0), gw_n _ _ _ _ (Or.inl e0), gcp_n _ _ _ _ _ _ _ e5, gcp_n _ _ _ _ _ _ _ e4, gw_n _ _ _ _ e]
  · rcases h with rfl | rfl
    · simp (disch := omega) only [gfw_n, gfw_s, gF_sI]
    · simp (disch := omega) only [gfw_n, gfw_s, gF_sI]
  · simp (disch := omega) only [gfw_n, gF_sI, gF_cpI]
theorem copyMoving_m (ha : apt th p1) (hP : P = 1 ∨ P = 10) (hr : gR M p1 0 = some P) (hn : gI M P 11 = nI n) (hn6 : n ≤ 6) (hb : ∀ i, i < n → (gI M (p1 + 8 + 2 * i) 1 = 0 ∨ gI M (p1 + 8 + 2 * i) 1 = 1) ∧ (gI M (p1 + 8 + 2 * i) 3 = 0 ∨ gI M (p1 + 8 + 2 * i) 3 = 1)) (hc : gI M (p1 + 3) 1 = nI c) (hc2 : c ≤ 54) : ∃ M', C_copyMoving th p1 M = some M' ∧ CMv th p1 n c M M' := by
  have ha' := ha
  unfold apt at ha'
  have hPl : P ≤ 10 := by omega
  have hM2 : ∀ x k, gI (sR M th 0 (some P)) x k = gI M x k := fun _ _ => rfl
  have hR2 : gR (sR M th 0 (some P)) th 0 = some P := by rw [gR_sR, if_pos ⟨rfl, rfl⟩]
  have hR3 : ∀ i, gR (cpm th p1 i (sR M th 0 (some P))) th 0 = some P := fun i => hR2
  have h11 : ∀ i, gI (cpm th p1 i (sR M th 0 (some P))) P 11 = nI n := fun i => by rw [cpm_I, if_neg (by omega)]; exact hn
  have hpr : ∀ i x k, (x < th ∨ th + 20 ≤ x) → i ≤ 6 → gI (cpm th p1 i (sR M th 0 (some P))) x k = gI M x k := fun i x k h1 h2 => by rw [cpm_I, if_neg (by omega)]; rfl
  obtain ⟨M', j1, j2, j3, j4, j5, j6⟩ := cmJ_m (M := cpm th p1 n (sR M th 0 (some P))) ha ((hpr n _ _ (by omega) hn6).trans hc) hc2
  refine ⟨M', ?_, fun o k h => ?_, fun x k h => ?_, fun o k h => ?_, fun x k h => ?_, fun x k => ?_, ?_, fun x k h => ?_⟩
  · rw [C_copyMoving_e, lett_e, hr, lett_e, lett_e, lett_e]
    refine loopR_sq (fun i => (nI i, cpm th p1 i (sR M th 0 (some P)))) n (by omega) ?_ (fun i hi rec => ?_) (fun rec => ?_)
    · show (nI 0, _) = (nI 0, cpm th p1 0 _)
      rw [cpm_0]
    · dsimp only
      rw [lett_e, hR3, nn_s, grd_t (shC_P hP), h11, if_neg (nI_ge hi (by omega)), ald_n (by omega) (by omega), ald_n (by omega) (by omega), ix_nI (by omega), show th + 1 + 7 + 2 * i = th + 8 + 2 * i by omega, show p1 + 1 + 7 + 2 * i = p1 + 8 + 2 * i by omega, pcp_e (by omega) (by rw [hpr _ _ _ (by omega) (by omega)]; exact (hb i hi).1) (by rw [hpr _ _ _ (by omega) (by omega)]; exact (hb i hi).2), bnd_s, ald_n (by omega) (by omega), ald_n (by omega) (by omega), show th + 2 + 7 + 2 * i = th + 9 + 2 * i by omega, show p1 + 2 + 7 + 2 * i = p1 + 9 + 2 * i by omega, qcp_e (by omega), bnd_s, lett_e, nA_1, cpm_s ha (by omega)]
    · dsimp only
      rw [lett_e, hR3, nn_s, grd_t (shC_P hP), h11, if_pos (nI_le (Nat.le_refl _) (by omega))]
      exact j1
  · by_cases e : mvT c o k
    · rw [j2 o k e]
      unfold mvT at e
      rw [cpm_I, if_neg (by omega)]
      rfl
    · have e2 : 8 ≤ o ∧ o < 8 + 2 * n ∧ k < 9 ∧ (o % 2 = 0 ∨ 3 ≤ k) := by
        unfold mvI at h
        unfold mvT at e
        omega
      rw [j3 (th + o) k (fun o' e1 e3 => by rw [show o' = o by omega] at e3; exact e e3), cpm_I, if_pos (by omega), show th + o - th + p1 = p1 + o by omega]
      rfl
  · rw [j3 x k (fun o e1 e2 => h o e1 (by unfold mvI; unfold mvT at e2; omega)), cpm_I]
    split
    · rename_i e
      exact absurd (show mvI n c (x - th) k by unfold mvI; omega) (h (x - th) (by omega))
    · rfl
  · by_cases e : o = 0
    · subst e
      unfold mvF at h
      rw [Nat.add_zero, Nat.add_zero, j4 k (by omega), cpm_F, if_neg (by omega)]
      rfl
    · unfold mvF at h
      rw [j5 _ _ (by omega), cpm_F, if_pos (by omega), show th + o - th + p1 = p1 + o by omega]
      rfl
  · have e0 := h 0
    unfold mvF at e0
    rw [j5 _ _ (by omega), cpm_F]
    split
    · rename_i e
      exact absurd (show mvF n (x - th) k by unfold mvF; omega) (h (x - th) (by omega))
    · rfl
  · show M'.2.2.1 x k = M.2.2.1 x k
    rw [j6]
    rfl
  · show M'.2.2.2 th 0 = M.2.2.2 p1 0
    rw [j6]
    exact hR2.trans hr.symm
  · show M'.2.2.2 x k = M.2.2.2 x k
    rw [j6]
    show (if x = th ∧ k = 0 then some P else M.2.2.2 x k) = M.2.2.2 x k
    rw [if_neg (by omega)]
end CMOV
