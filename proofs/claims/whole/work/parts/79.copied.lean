/-! PURE: a state copied is the same state -/
section CG2
variable {n c t : Nat} {D : Nat → Int32} {E E' : Mm}
theorem XR.cg2 (h : XR n c E D) (hn : n ≤ 6) (hE : ∀ r k, ((r = 4 ∧ k < 6 * c) ∨ (r = 5 ∧ k < 6) ∨ (r = 0 ∧ k = 13) ∨ (∃ q, q < n ∧ r = 9 + 2 * q ∧ k = 8)) → gI E' r k = gI E r k) : XR n c E' D := by
  obtain ⟨hW, hY, hB, hS⟩ := h
  refine ⟨fun i hi => ?_, fun i hi => ?_, fun h5 => ?_, fun i hi he => ?_⟩
  · obtain ⟨⟨w1, w2, w3, w4, w5⟩, w6⟩ := hW i hi
    unfold xRow
    rw [hE _ _ (Or.inl ⟨rfl, by omega⟩), hE _ _ (Or.inl ⟨rfl, by omega⟩), hE _ _ (Or.inl ⟨rfl, by omega⟩), hE _ _ (Or.inl ⟨rfl, by omega⟩), hE _ _ (Or.inl ⟨rfl, by omega⟩), hE _ _ (Or.inl ⟨rfl, by omega⟩)]
    exact ⟨⟨w1, w2, w3, w4, w5⟩, w6⟩
  · rw [hE _ _ (Or.inr (Or.inr (Or.inr ⟨i, hi, rfl, rfl⟩)))]; exact hY i hi
  · obtain ⟨w1, w2, w3, w4, w5⟩ := hB h5
    unfold xRow
    rw [hE _ _ (Or.inr (Or.inl ⟨rfl, by omega⟩)), hE _ _ (Or.inr (Or.inl ⟨rfl, by omega⟩)), hE _ _ (Or.inr (Or.inl ⟨rfl, by omega⟩)), hE _ _ (Or.inr (Or.inl ⟨rfl, by omega⟩)), hE _ _ (Or.inr (Or.inl ⟨rfl, by omega⟩))]
    exact ⟨w1, w2, w3, w4, w5⟩
  · rw [hE _ _ (Or.inr (Or.inr (Or.inl ⟨rfl, rfl⟩)))]
    exact hS i hi he
theorem KR.cg2 (h : KR t D E) (h6 : gI E' 6 1 = gI E 6 1) (hE : ∀ k, k < 160 → gI E' 7 k = gI E 7 k) : KR t D E' := by
  obtain ⟨T, h1, h2, h3, h4⟩ := h
  refine ⟨T, h6.trans h1, h2, h3, fun i w hi hw => ?_⟩
  have := Nat.mod_lt (T - min T 40 + i) (show 40 > 0 by omega)
  rw [hE _ (by omega)]
  exact h4 i w hi hw
end CG2
/-- which slots a whole copy writes -/
def alI (n c o k : Nat) : Prop := mvI n c o k ∨ (o = 6 ∧ k = 1) ∨ (o = 7 ∧ k < 160) ∨ (o = 0 ∧ k = 18) ∨ (8 ≤ o ∧ o < 8 + 2 * n ∧ o % 2 = 0 ∧ 9 ≤ k ∧ k < 14)
/-- outside a block nothing changes -/
def Out (th : Nat) (M M' : Mm) : Prop := (∀ x k, (x < th ∨ th + 20 ≤ x) → gI M' x k = gI M x k) ∧ (∀ x k, (x < th ∨ th + 20 ≤ x) → gF M' x k = gF M x k) ∧ (∀ x k, gL M' x k = gL M x k) ∧ ∀ x k, (x ≠ th ∨ k ≠ 0) → gR M' x k = gR M x k
section OUT
variable {th p1 n c P : Nat} {M M' M2 : Mm}
theorem Out.tr (h : Out th M M') (h' : Out th M' M2) : Out th M M2 := ⟨fun x k e => (h'.1 x k e).trans (h.1 x k e), fun x k e => (h'.2.1 x k e).trans (h.2.1 x k e), fun x k => (h'.2.2.1 x k).trans (h.2.2.1 x k), fun x k e => (h'.2.2.2 x k e).trans (h.2.2.2 x k e)⟩
theorem CMv.out (h : CMv th p1 n c M M') (hn : n ≤ 6) : Out th M M' := by
  obtain ⟨-, h2, -, h4, h5, -, h7⟩ := h
  refine ⟨fun x k e => h2 x k (fun o e1 e2 => ?_), fun x k e => h4 x k (fun o e1 e2 => ?_), h5, h7⟩
  · unfold mvI at e2; omega
  · unfold mvF at e2; omega
theorem loopC {th : Nat} {f : Int32 → Mm → (Mm → Option Mm) → Option Mm} {st : Nat → Mm} (hr : ∀ i, gR (st i) th 0 = some P) (hP : P = 1 ∨ P = 10) (h11 : ∀ i, gI (st i) P 11 = nI n) (hn : n ≤ 6) (hs : ∀ i g, i < n → f (nI i) (st i) g = g (st (i + 1))) : loopR (fun (rec26 : (Int32 × Mm) → Option Mm) (x5 : Int32 × Mm) =>
 lett (gR x5.2 th 0) fun y6 =>
 nn y6 fun c7 => grd (shC c7 = shCX2) (if (gI x5.2 c7 11) ≤ x5.1 then
 (some x5.2)
 else
 (f x5.1 x5.2 (fun M11 => lett (x5.1 + (1 : Int32)) fun v12 => rec26 (v12, M11))))) 1000000 (nI 0, st 0) = some (st n) := by
  refine loopR_sq (fun i => (nI i, st i)) n (by omega) rfl (fun i hi rec => ?_) (fun rec => ?_)
  · dsimp only
    rw [lett_e, hr, nn_s, grd_t (shC_P hP), h11, if_neg (nI_ge hi (by omega)), hs i _ hi, lett_e, nA_1]
  · dsimp only
    rw [lett_e, hr, nn_s, grd_t (shC_P hP), h11, if_pos (nI_le (Nat.le_refl _) (by omega))]
theorem copyAll_m (ha : apt th p1) (hP : P = 1 ∨ P = 10) (hr : gR M p1 0 = some P) (hn : gI M P 11 = nI n) (hn6 : n ≤ 6) (hb : ∀ i, i < n → (gI M (p1 + 8 + 2 * i) 1 = 0 ∨ gI M (p1 + 8 + 2 * i) 1 = 1) ∧ (gI M (p1 + 8 + 2 * i) 3 = 0 ∨ gI M (p1 + 8 + 2 * i) 3 = 1)) (hc : gI M (p1 + 3) 1 = nI c) (hc2 : c ≤ 54) : ∃ M', C_copyAll th p1 M = some M' ∧ (∀ o k, alI n c o k → gI M' (th + o) k = gI M (p1 + o) k) ∧ (∀ o k, mvF n o k → gF M' (th + o) k = gF M (p1 + o) k) ∧ gR M' th 0 = some P ∧ Out th M M' := by
  obtain ⟨M1, a1, a2⟩ := copyMoving_m ha hP hr hn hn6 hb hc hc2
  have ao := a2.out hn6
  obtain ⟨m1, m2, m3, m4, m5, m6, m7⟩ := a2
  have ha' := ha
  unfold apt at ha'
  have hPl : P ≤ 10 := by omega
  -- the kept, the greatest
  have kc : C_KCopy (th + 6) (p1 + 6) M1 = some (cpI (sI M1 (th + 6) 1 (gI M1 (p1 + 6) 1)) (p1 + 7) 0 (th + 7) 0 160) := by
    unfold C_KCopy
    rw [lett_e, show (0 : Int32) = nI 0 from rfl, show (160 : Int32) = nI 160 from rfl, acp_n (by omega) (by omega) (by omega) (by omega), lett_e, ix_nI (by omega), ix_nI (by omega)]
  generalize hM2 : cpI (sI M1 (th + 6) 1 (gI M1 (p1 + 6) 1)) (p1 + 7) 0 (th + 7) 0 160 = M2' at kc
  have eF : ∀ x k, gF M2' x k = gF M1 x k := fun x k => by rw [← hM2]; rfl
  have eL : ∀ x k, gL M2' x k = gL M1 x k := fun x k => by rw [← hM2]; rfl
  have eR : ∀ x k, gR M2' x k = gR M1 x k := fun x k => by rw [← hM2]; rfl
  have eI : ∀ x k, x ≠ th + 7 → (x ≠ th + 6 ∨ k ≠ 1) → gI M2' x k = gI M1 x k := fun x k h1 h2 => by
    rw [← hM2, gcp_n _ _ _ _ _ _ _ h1, gw_n _ _ _ _ h2]
  have e6 : gI M2' (th + 6) 1 = gI M1 (p1 + 6) 1 := by
    rw [← hM2, gcp_n _ _ _ _ _ _ _ (by omega), gw_s]
  have e7 : ∀ k, k < 160 → gI M2' (th + 7) k = gI M1 (p1 + 7) k := fun k hk => by
    rw [← hM2, gcp_s, if_pos (by omega), gw_n _ _ _ _ (by omega), Nat.zero_add, Nat.sub_zero]
  generalize hM3 : sI M2' th 18 (gI M2' p1 18) = M3
  have fI : ∀ x k, (x ≠ th ∨ k ≠ 18) → gI M3 x k = gI M2' x k := fun x k h => by rw [← hM3, gw_n _ _ _ _ h]
  have f18 : gI M3 th 18 = gI M2' p1 18 := by rw [← hM3, gw_s]
  have fF : ∀ x k, gF M3 x k = gF M2' x k := fun x k => by rw [← hM3]; rfl
  have fL : ∀ x k, gL M3 x k = gL M2' x k := fun x k => by rw [← hM3]; rfl
  have fR : ∀ x k, gR M3 x k = gR M2' x k := fun x k => by rw [← hM3]; rfl
  have r3 : ∀ i, gR (ccm th p1 i M3) th 0 = some P := fun i => (fR _ _).trans ((eR _ _).trans (m6.trans hr))
  have n3 : ∀ i, gI (ccm th p1 i M3) P 11 = nI n := fun i => by
    rw [ccm_I, if_neg (by omega), fI _ _ (by omega), eI _ _ (by omega) (by omega), ao.1 _ _ (by omega)]
    exact hn
  have p3 : ∀ x k, (x < th ∨ th + 20 ≤ x) → gI M3 x k = gI M x k := fun x k h => by
    rw [fI _ _ (by omega), eI _ _ (by omega) (by omega), ao.1 _ _ h]
  refine ⟨ccm th p1 n M3, ?_, fun o k h => ?_, fun o k h => ?_, r3 n, fun x k h => ?_, fun x k h => ?_, fun x k => ?_, fun x k h => ?_⟩
  · unfold C_copyAll
    rw [a1, bnd_s, kc, bnd_s, lett_e, hM3, lett_e]
    have key := loopC (n := n) (f := fun x M g => ald x 6 (ald x 6 (bnd (C_PCopyCounts ((th + 1) + 7 + 2 * ix x) ((p1 + 1) + 7 + 2 * ix x) M) g))) (st := fun i => ccm th p1 i M3) r3 hP n3 hn6 (fun i g hi => by
      rw [ald_n (by omega) (by omega), ald_n (by omega) (by omega), ix_nI (by omega), show th + 1 + 7 + 2 * i = th + 8 + 2 * i by omega, show p1 + 1 + 7 + 2 * i = p1 + 8 + 2 * i by omega, ccp_e (by omega), bnd_s, ccm_s ha (by omega)])
    rw [ccm_0] at key
    exact key
  · rw [ccm_I]
    by_cases e : th + 8 ≤ th + o ∧ th + o < th + 8 + 2 * n ∧ (th + o - th) % 2 = 0 ∧ 9 ≤ k ∧ k < 14
    · rw [if_pos e, p3 _ _ (by omega), show th + o - th + p1 = p1 + o by omega]
    · rw [if_neg e]
      by_cases e18 : o = 0 ∧ k = 18
      · obtain ⟨rfl, rfl⟩ := e18
        rw [Nat.add_zero, Nat.add_zero, f18, eI _ _ (by omega) (by omega), ao.1 _ _ (by omega)]
      · rw [fI _ _ (by omega)]
        by_cases e61 : o = 6 ∧ k = 1
        · obtain ⟨rfl, rfl⟩ := e61
          rw [e6, ao.1 _ _ (by omega)]
        · by_cases e71 : o = 7 ∧ k < 160
          · obtain ⟨rfl, h2⟩ := e71
            rw [e7 k h2, ao.1 _ _ (by omega)]
          · have hm : mvI n c o k := by
              unfold alI at h
              rcases h with h | h
              · exact h
              · omega
            have : o ≠ 7 ∧ (o ≠ 6 ∨ k ≠ 1) := by unfold mvI at hm; omega
            rw [eI _ _ (by omega) (by omega)]
            exact m1 o k hm
  · show gF M3 (th + o) k = _
    rw [fF, eF]
    exact m3 o k h
  · rw [ccm_I, if_neg (by omega)]
    exact p3 x k h
  · show gF M3 x k = _
    rw [fF, eF]
    exact ao.2.1 x k h
  · show gL M3 x k = _
    rw [fL, eL]
    exact m5 x k
  · show gR M3 x k = _
    rw [fR, eR]
    exact m7 x k h
theorem copyFor_m (ha : apt th p1) (hP : P = 1 ∨ P = 10) (hr : gR M p1 0 = some P) (hn : gI M P 11 = nI n) (hn6 : n ≤ 6) (hb : ∀ i, i < n → (gI M (p1 + 8 + 2 * i) 1 = 0 ∨ gI M (p1 + 8 + 2 * i) 1 = 1) ∧ (gI M (p1 + 8 + 2 * i) 3 = 0 ∨ gI M (p1 + 8 + 2 * i) 3 = 1)) (hc : gI M (p1 + 3) 1 = nI c) (hc2 : c ≤ 54) : ∃ M', C_copyForAhead th p1 M = some M' ∧ (∀ o k, mvI n c o k → gI M' (th + o) k = gI M (p1 + o) k) ∧ (gI M' (th + 6) 1 = 0 ∧ gI M' th 18 = 0 ∧ ∀ p k, p < n → 9 ≤ k → k < 14 → gI M' (th + (8 + 2 * p)) k = 0) ∧ (∀ o k, mvF n o k → gF M' (th + o) k = gF M (p1 + o) k) ∧ gR M' th 0 = some P ∧ Out th M M' := by
  obtain ⟨M1, a1, a2⟩ := copyMoving_m ha hP hr hn hn6 hb hc hc2
  have ao := a2.out hn6
  obtain ⟨m1, m2, m3, m4, m5, m6, m7⟩ := a2
  have ha' := ha
  unfold apt at ha'
  have hPl : P ≤ 10 := by omega
  generalize hM3 : sI (sI M1 (th + 6) 1 0) th 18 0 = M3
  have fI : ∀ x k, (x ≠ th ∨ k ≠ 18) → (x ≠ th + 6 ∨ k ≠ 1) → gI M3 x k = gI M1 x k := fun x k h h2 => by rw [← hM3, gw_n _ _ _ _ h, gw_n _ _ _ _ h2]
  have f18 : gI M3 th 18 = 0 := by rw [← hM3, gw_s]
  have f6 : gI M3 (th + 6) 1 = 0 := by rw [← hM3, gw_n _ _ _ _ (by omega), gw_s]
  have fF : ∀ x k, gF M3 x k = gF M1 x k := fun x k => by rw [← hM3]; rfl
  have fL : ∀ x k, gL M3 x k = gL M1 x k := fun x k => by rw [← hM3]; rfl
  have fR : ∀ x k, gR M3 x k = gR M1 x k := fun x k => by rw [← hM3]; rfl
  have r3 : ∀ i, gR (czm th i M3) th 0 = some P := fun i => (fR _ _).trans (m6.trans hr)
  have n3 : ∀ i, gI (czm th i M3) P 11 = nI n := fun i => by
    rw [czm_I, if_neg (by omega), fI _ _ (by omega) (by omega), ao.1 _ _ (by omega)]
    exact hn
  refine ⟨czm th n M3, ?_, fun o k h => ?_, ⟨?_, ?_, fun p k hp h1 h2 => ?_⟩, fun o k h => ?_, r3 n, fun x k h => ?_, fun x k h => ?_, fun x k => ?_, fun x k h => ?_⟩
  · unfold C_copyForAhead
    rw [a1, bnd_s, lett_e, lett_e, hM3, lett_e]
    have key := loopC (n := n) (f := fun x M g => ald x 6 (bnd (C_PClearCounts ((th + 1) + 7 + 2 * ix x) M) g)) (st := fun i => czm th i M3) r3 hP n3 hn6 (fun i g hi => by
      rw [ald_n (by omega) (by omega), ix_nI (by omega), show th + 1 + 7 + 2 * i = th + 8 + 2 * i by omega, czp_e, bnd_s, czm_s])
    rw [czm_0] at key
    exact key
  · have hm := h
    unfold mvI at hm
    rw [czm_I, if_neg (by omega), fI _ _ (by omega) (by omega)]
    exact m1 o k h
  · rw [czm_I, if_neg (by omega)]; exact f6
  · rw [czm_I, if_neg (by omega)]; exact f18
  · rw [czm_I, if_pos (by omega)]
  · show gF M3 (th + o) k = _
    rw [fF]
    exact m3 o k h
  · rw [czm_I, if_neg (by omega), fI _ _ (by omega) (by omega)]
    exact ao.1 x k h
  · show gF M3 x k = _
    rw [fF]
    exact ao.2.1 x k h
  · show gL M3 x k = _
    rw [fL]
    exact m5 x k
  · show gR M3 x k = _
    rw [fR]
    exact m7 x k h
end OUT
