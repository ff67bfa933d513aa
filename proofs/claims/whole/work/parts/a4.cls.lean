/-! THE CONSTRUCTOR of the class (tools/gen11.py) -/
theorem nk_X11_7 : NewOk RX11 7 2 20 [.int 0, .int 0, .int 0, .int 0, .int 0, .int 0, .int 0, .int 0, .int 0, .int 0, .int 0, .int 0, .null, .null, .null, .null, .null, .null, .null, .null] := ⟨RX2, TX2, tyX2, rfl, inG2, tyX2_ok, (lw_TG 32 (by decide +kernel) (by decide +kernel)), (lw_TG 33 (by decide +kernel) (by decide +kernel)), (lw_TG 2 (by decide +kernel) (by decide +kernel)), fun j hj => match j, hj with | 0, _ => rfl | 1, _ => rfl | 2, _ => rfl | 3, _ => rfl | 4, _ => rfl | 5, _ => rfl | 6, _ => rfl | 7, _ => rfl | 8, _ => rfl | 9, _ => rfl | 10, _ => rfl | 11, _ => rfl | 12, _ => rfl | 13, _ => rfl | 14, _ => rfl | 15, _ => rfl | 16, _ => rfl | 17, _ => rfl | 18, _ => rfl | 19, _ => rfl | (n + 20), h => absurd h (by omega)⟩
theorem ik_X11_9 : InitOk RX11 9 yX2_init cX2_init 1 0 := ⟨Or.inr ⟨"DiskBudgets", (lw_T 34 (by decide +kernel))⟩, (lw_TG 35 (by decide +kernel) (by decide +kernel)), (lw_TG 2 (by decide +kernel) (by decide +kernel)), (lw_TG 36 (by decide +kernel) (by decide +kernel)), by decide, by decide, by decide +kernel, rfl⟩
theorem fg_X11_10 : FldOk RX11 10 10 0 (tyX11 0) false := ⟨RX11, TX11, 16, tyX11, rfl, inG11, tyX11_ok, nmX11, by decide, rfl, rfl, Or.inl (lw_TG 480 (by decide +kernel) (by decide +kernel))⟩
theorem fk_X11_10 : ∀ (T : u_T) (N : Nat) (C : String), vwCl[10]? = some (C, T, N) → Cond.fieldLink RX11 10 (T 0).1 (T 0).2.1 (T 0).2.2.1 ∈ lw_good := fun T N C h => by
  have h2 : (RX11, TX11, 16) = (C, T, N) := Option.some.inj h
  cases h2
  exact (lw_TG 480 (by decide +kernel) (by decide +kernel))
theorem fg_X11_16 : FldOk RX11 16 10 1 (tyX11 1) false := ⟨RX11, TX11, 16, tyX11, rfl, inG11, tyX11_ok, nmX11, by decide, rfl, rfl, Or.inl (lw_TG 481 (by decide +kernel) (by decide +kernel))⟩
theorem fk_X11_16 : ∀ (T : u_T) (N : Nat) (C : String), vwCl[10]? = some (C, T, N) → Cond.fieldLink RX11 16 (T 1).1 (T 1).2.1 (T 1).2.2.1 ∈ lw_good := fun T N C h => by
  have h2 : (RX11, TX11, 16) = (C, T, N) := Option.some.inj h
  cases h2
  exact (lw_TG 481 (by decide +kernel) (by decide +kernel))
theorem nk_X11_19 : NewOk RX11 19 9 2 [.null, .int 0] := ⟨RX9, TX9, tyX9, rfl, inG9, tyX9_ok, (lw_TG 141 (by decide +kernel) (by decide +kernel)), (lw_TG 142 (by decide +kernel) (by decide +kernel)), (lw_TG 3 (by decide +kernel) (by decide +kernel)), fun j hj => match j, hj with | 0, _ => rfl | 1, _ => rfl | (n + 2), h => absurd h (by omega)⟩
theorem ik_X11_21 : InitOk RX11 21 yX9_init cX9_init 1 0 := ⟨Or.inr ⟨"DiskBudgets", (lw_T 143 (by decide +kernel))⟩, (lw_TG 144 (by decide +kernel) (by decide +kernel)), (lw_TG 3 (by decide +kernel) (by decide +kernel)), (lw_TG 145 (by decide +kernel) (by decide +kernel)), by decide, by decide, by decide +kernel, rfl⟩
theorem ff_X11_22 : FldF RX11 22 10 2 (tyX11 2) := ⟨RX11, TX11, 16, tyX11, rfl, inG11, tyX11_ok, nmX11, by decide, rfl, rfl, (lw_TG 482 (by decide +kernel) (by decide +kernel)), rfl⟩
theorem fg_X11_22 : FldOk RX11 22 10 2 (tyX11 2) true := ⟨RX11, TX11, 16, tyX11, rfl, inG11, tyX11_ok, nmX11, by decide, rfl, rfl, Or.inl (lw_TG 482 (by decide +kernel) (by decide +kernel))⟩
theorem fk_X11_22 : ∀ (T : u_T) (N : Nat) (C : String), vwCl[10]? = some (C, T, N) → Cond.fieldLink RX11 22 (T 2).1 (T 2).2.1 (T 2).2.2.1 ∈ lw_good := fun T N C h => by
  have h2 : (RX11, TX11, 16) = (C, T, N) := Option.some.inj h
  cases h2
  exact (lw_TG 482 (by decide +kernel) (by decide +kernel))
theorem nk_X11_26 : NewOk RX11 26 5 10 [.null, .null, .null, .null, .null, .null, .int 0, .int 0, .int 0, .int 0] := ⟨RX5, TX5, tyX5, rfl, inG5, tyX5_ok, (lw_TG 158 (by decide +kernel) (by decide +kernel)), (lw_TG 159 (by decide +kernel) (by decide +kernel)), (lw_TG 4 (by decide +kernel) (by decide +kernel)), fun j hj => match j, hj with | 0, _ => rfl | 1, _ => rfl | 2, _ => rfl | 3, _ => rfl | 4, _ => rfl | 5, _ => rfl | 6, _ => rfl | 7, _ => rfl | 8, _ => rfl | 9, _ => rfl | (n + 10), h => absurd h (by omega)⟩
theorem ik_X11_28 : InitOk RX11 28 yX5_init cX5_init 3 2 := ⟨Or.inl (lw_TG 160 (by decide +kernel) (by decide +kernel)), (lw_TG 161 (by decide +kernel) (by decide +kernel)), (lw_TG 4 (by decide +kernel) (by decide +kernel)), (lw_TG 162 (by decide +kernel) (by decide +kernel)), by decide, by decide, by decide +kernel, rfl⟩
theorem ff_X11_31 : FldF RX11 31 10 3 (tyX11 3) := ⟨RX11, TX11, 16, tyX11, rfl, inG11, tyX11_ok, nmX11, by decide, rfl, rfl, (lw_TG 483 (by decide +kernel) (by decide +kernel)), rfl⟩
theorem fg_X11_31 : FldOk RX11 31 10 3 (tyX11 3) true := ⟨RX11, TX11, 16, tyX11, rfl, inG11, tyX11_ok, nmX11, by decide, rfl, rfl, Or.inl (lw_TG 483 (by decide +kernel) (by decide +kernel))⟩
theorem fk_X11_31 : ∀ (T : u_T) (N : Nat) (C : String), vwCl[10]? = some (C, T, N) → Cond.fieldLink RX11 31 (T 3).1 (T 3).2.1 (T 3).2.2.1 ∈ lw_good := fun T N C h => by
  have h2 : (RX11, TX11, 16) = (C, T, N) := Option.some.inj h
  cases h2
  exact (lw_TG 483 (by decide +kernel) (by decide +kernel))
theorem nk_X11_35 : NewOk RX11 35 8 20 [.null, .null, .null, .null, .null, .null, .int 0, .int 0, .float FP.fconst0, .float FP.fconst0, .int 0, .int 0, .int 0, .int 0, .int 0, .int 0, .int 0, .int 0, .int 0, .int 0] := ⟨RX8, TX8, tyX8, rfl, inG8, tyX8_ok, (lw_TG 199 (by decide +kernel) (by decide +kernel)), (lw_TG 200 (by decide +kernel) (by decide +kernel)), (lw_TG 5 (by decide +kernel) (by decide +kernel)), fun j hj => match j, hj with | 0, _ => rfl | 1, _ => rfl | 2, _ => rfl | 3, _ => rfl | 4, _ => rfl | 5, _ => rfl | 6, _ => rfl | 7, _ => rfl | 8, _ => rfl | 9, _ => rfl | 10, _ => rfl | 11, _ => rfl | 12, _ => rfl | 13, _ => rfl | 14, _ => rfl | 15, _ => rfl | 16, _ => rfl | 17, _ => rfl | 18, _ => rfl | 19, _ => rfl | (n + 20), h => absurd h (by omega)⟩
theorem ik_X11_37 : InitOk RX11 37 yX8_init cX8_init 3 1 := ⟨Or.inl (lw_TG 201 (by decide +kernel) (by decide +kernel)), (lw_TG 202 (by decide +kernel) (by decide +kernel)), (lw_TG 5 (by decide +kernel) (by decide +kernel)), (lw_TG 203 (by decide +kernel) (by decide +kernel)), by decide, by decide, by decide +kernel, rfl⟩
theorem ff_X11_40 : FldF RX11 40 10 4 (tyX11 4) := ⟨RX11, TX11, 16, tyX11, rfl, inG11, tyX11_ok, nmX11, by decide, rfl, rfl, (lw_TG 484 (by decide +kernel) (by decide +kernel)), rfl⟩
theorem fg_X11_40 : FldOk RX11 40 10 4 (tyX11 4) true := ⟨RX11, TX11, 16, tyX11, rfl, inG11, tyX11_ok, nmX11, by decide, rfl, rfl, Or.inl (lw_TG 484 (by decide +kernel) (by decide +kernel))⟩
theorem fk_X11_40 : ∀ (T : u_T) (N : Nat) (C : String), vwCl[10]? = some (C, T, N) → Cond.fieldLink RX11 40 (T 4).1 (T 4).2.1 (T 4).2.2.1 ∈ lw_good := fun T N C h => by
  have h2 : (RX11, TX11, 16) = (C, T, N) := Option.some.inj h
  cases h2
  exact (lw_TG 484 (by decide +kernel) (by decide +kernel))
theorem ff_X11_44 : FldF RX11 44 10 5 (tyX11 5) := ⟨RX11, TX11, 16, tyX11, rfl, inG11, tyX11_ok, nmX11, by decide, rfl, rfl, (lw_TG 485 (by decide +kernel) (by decide +kernel)), rfl⟩
theorem fg_X11_44 : FldOk RX11 44 10 5 (tyX11 5) true := ⟨RX11, TX11, 16, tyX11, rfl, inG11, tyX11_ok, nmX11, by decide, rfl, rfl, Or.inl (lw_TG 485 (by decide +kernel) (by decide +kernel))⟩
theorem fk_X11_44 : ∀ (T : u_T) (N : Nat) (C : String), vwCl[10]? = some (C, T, N) → Cond.fieldLink RX11 44 (T 5).1 (T 5).2.1 (T 5).2.2.1 ∈ lw_good := fun T N C h => by
  have h2 : (RX11, TX11, 16) = (C, T, N) := Option.some.inj h
  cases h2
  exact (lw_TG 485 (by decide +kernel) (by decide +kernel))
theorem ff_X11_47 : FldF RX11 47 10 6 (tyX11 6) := ⟨RX11, TX11, 16, tyX11, rfl, inG11, tyX11_ok, nmX11, by decide, rfl, rfl, (lw_TG 486 (by decide +kernel) (by decide +kernel)), rfl⟩
theorem fg_X11_47 : FldOk RX11 47 10 6 (tyX11 6) true := ⟨RX11, TX11, 16, tyX11, rfl, inG11, tyX11_ok, nmX11, by decide, rfl, rfl, Or.inl (lw_TG 486 (by decide +kernel) (by decide +kernel))⟩
theorem fk_X11_47 : ∀ (T : u_T) (N : Nat) (C : String), vwCl[10]? = some (C, T, N) → Cond.fieldLink RX11 47 (T 6).1 (T 6).2.1 (T 6).2.2.1 ∈ lw_good := fun T N C h => by
  have h2 : (RX11, TX11, 16) = (C, T, N) := Option.some.inj h
  cases h2
  exact (lw_TG 486 (by decide +kernel) (by decide +kernel))
theorem fg_X11_51 : FldOk RX11 51 10 7 (tyX11 7) false := ⟨RX11, TX11, 16, tyX11, rfl, inG11, tyX11_ok, nmX11, by decide, rfl, rfl, Or.inl (lw_TG 487 (by decide +kernel) (by decide +kernel))⟩
theorem fk_X11_51 : ∀ (T : u_T) (N : Nat) (C : String), vwCl[10]? = some (C, T, N) → Cond.fieldLink RX11 51 (T 7).1 (T 7).2.1 (T 7).2.2.1 ∈ lw_good := fun T N C h => by
  have h2 : (RX11, TX11, 16) = (C, T, N) := Option.some.inj h
  cases h2
  exact (lw_TG 487 (by decide +kernel) (by decide +kernel))
theorem fg_X11_55 : FldOk RX11 55 10 8 (tyX11 8) false := ⟨RX11, TX11, 16, tyX11, rfl, inG11, tyX11_ok, nmX11, by decide, rfl, rfl, Or.inl (lw_TG 488 (by decide +kernel) (by decide +kernel))⟩
theorem fk_X11_55 : ∀ (T : u_T) (N : Nat) (C : String), vwCl[10]? = some (C, T, N) → Cond.fieldLink RX11 55 (T 8).1 (T 8).2.1 (T 8).2.2.1 ∈ lw_good := fun T N C h => by
  have h2 : (RX11, TX11, 16) = (C, T, N) := Option.some.inj h
  cases h2
  exact (lw_TG 488 (by decide +kernel) (by decide +kernel))
theorem nk_X11_58 : NewOk RX11 58 7 3 [.null, .null, .int 0] := ⟨RX7, TX7, tyX7, rfl, inG7, tyX7_ok, (lw_TG 448 (by decide +kernel) (by decide +kernel)), (lw_TG 449 (by decide +kernel) (by decide +kernel)), (lw_TG 10 (by decide +kernel) (by decide +kernel)), fun j hj => match j, hj with | 0, _ => rfl | 1, _ => rfl | 2, _ => rfl | (n + 3), h => absurd h (by omega)⟩
theorem ik_X11_60 : InitOk RX11 60 yX7_init cX7_init 1 0 := ⟨Or.inr ⟨"DiskBudgets", (lw_T 450 (by decide +kernel))⟩, (lw_TG 451 (by decide +kernel) (by decide +kernel)), (lw_TG 10 (by decide +kernel) (by decide +kernel)), (lw_TG 452 (by decide +kernel) (by decide +kernel)), by decide, by decide, by decide +kernel, rfl⟩
theorem ff_X11_61 : FldF RX11 61 10 9 (tyX11 9) := ⟨RX11, TX11, 16, tyX11, rfl, inG11, tyX11_ok, nmX11, by decide, rfl, rfl, (lw_TG 489 (by decide +kernel) (by decide +kernel)), rfl⟩
theorem fg_X11_61 : FldOk RX11 61 10 9 (tyX11 9) true := ⟨RX11, TX11, 16, tyX11, rfl, inG11, tyX11_ok, nmX11, by decide, rfl, rfl, Or.inl (lw_TG 489 (by decide +kernel) (by decide +kernel))⟩
theorem fk_X11_61 : ∀ (T : u_T) (N : Nat) (C : String), vwCl[10]? = some (C, T, N) → Cond.fieldLink RX11 61 (T 9).1 (T 9).2.1 (T 9).2.2.1 ∈ lw_good := fun T N C h => by
  have h2 : (RX11, TX11, 16) = (C, T, N) := Option.some.inj h
  cases h2
  exact (lw_TG 489 (by decide +kernel) (by decide +kernel))
theorem nk_X11_65 : NewOk RX11 65 0 2 [.null, .int 0] := ⟨RX0, TX0, tyX0, rfl, inG0, tyX0_ok, (lw_TG 465 (by decide +kernel) (by decide +kernel)), (lw_TG 466 (by decide +kernel) (by decide +kernel)), (lw_TG 11 (by decide +kernel) (by decide +kernel)), fun j hj => match j, hj with | 0, _ => rfl | 1, _ => rfl | (n + 2), h => absurd h (by omega)⟩
theorem ik_X11_67 : InitOk RX11 67 yX0_init cX0_init 1 0 := ⟨Or.inr ⟨"DiskBudgets", (lw_T 467 (by decide +kernel))⟩, (lw_TG 468 (by decide +kernel) (by decide +kernel)), (lw_TG 11 (by decide +kernel) (by decide +kernel)), (lw_TG 469 (by decide +kernel) (by decide +kernel)), by decide, by decide, by decide +kernel, rfl⟩
theorem ff_X11_68 : FldF RX11 68 10 10 (tyX11 10) := ⟨RX11, TX11, 16, tyX11, rfl, inG11, tyX11_ok, nmX11, by decide, rfl, rfl, (lw_TG 490 (by decide +kernel) (by decide +kernel)), rfl⟩
theorem fg_X11_68 : FldOk RX11 68 10 10 (tyX11 10) true := ⟨RX11, TX11, 16, tyX11, rfl, inG11, tyX11_ok, nmX11, by decide, rfl, rfl, Or.inl (lw_TG 490 (by decide +kernel) (by decide +kernel))⟩
theorem fk_X11_68 : ∀ (T : u_T) (N : Nat) (C : String), vwCl[10]? = some (C, T, N) → Cond.fieldLink RX11 68 (T 10).1 (T 10).2.1 (T 10).2.2.1 ∈ lw_good := fun T N C h => by
  have h2 : (RX11, TX11, 16) = (C, T, N) := Option.some.inj h
  cases h2
  exact (lw_TG 490 (by decide +kernel) (by decide +kernel))
theorem ff_X11_72 : FldF RX11 72 10 11 (tyX11 11) := ⟨RX11, TX11, 16, tyX11, rfl, inG11, tyX11_ok, nmX11, by decide, rfl, rfl, (lw_TG 491 (by decide +kernel) (by decide +kernel)), rfl⟩
theorem fg_X11_72 : FldOk RX11 72 10 11 (tyX11 11) true := ⟨RX11, TX11, 16, tyX11, rfl, inG11, tyX11_ok, nmX11, by decide, rfl, rfl, Or.inl (lw_TG 491 (by decide +kernel) (by decide +kernel))⟩
theorem fk_X11_72 : ∀ (T : u_T) (N : Nat) (C : String), vwCl[10]? = some (C, T, N) → Cond.fieldLink RX11 72 (T 11).1 (T 11).2.1 (T 11).2.2.1 ∈ lw_good := fun T N C h => by
  have h2 : (RX11, TX11, 16) = (C, T, N) := Option.some.inj h
  cases h2
  exact (lw_TG 491 (by decide +kernel) (by decide +kernel))
theorem ff_X11_76 : FldF RX11 76 10 12 (tyX11 12) := ⟨RX11, TX11, 16, tyX11, rfl, inG11, tyX11_ok, nmX11, by decide, rfl, rfl, (lw_TG 492 (by decide +kernel) (by decide +kernel)), rfl⟩
theorem fg_X11_76 : FldOk RX11 76 10 12 (tyX11 12) true := ⟨RX11, TX11, 16, tyX11, rfl, inG11, tyX11_ok, nmX11, by decide, rfl, rfl, Or.inl (lw_TG 492 (by decide +kernel) (by decide +kernel))⟩
theorem fk_X11_76 : ∀ (T : u_T) (N : Nat) (C : String), vwCl[10]? = some (C, T, N) → Cond.fieldLink RX11 76 (T 12).1 (T 12).2.1 (T 12).2.2.1 ∈ lw_good := fun T N C h => by
  have h2 : (RX11, TX11, 16) = (C, T, N) := Option.some.inj h
  cases h2
  exact (lw_TG 492 (by decide +kernel) (by decide +kernel))
theorem fg_X11_79 : FldOk RX11 79 10 13 (tyX11 13) false := ⟨RX11, TX11, 16, tyX11, rfl, inG11, tyX11_ok, nmX11, by decide, rfl, rfl, Or.inl (lw_TG 493 (by decide +kernel) (by decide +kernel))⟩
theorem fk_X11_79 : ∀ (T : u_T) (N : Nat) (C : String), vwCl[10]? = some (C, T, N) → Cond.fieldLink RX11 79 (T 13).1 (T 13).2.1 (T 13).2.2.1 ∈ lw_good := fun T N C h => by
  have h2 : (RX11, TX11, 16) = (C, T, N) := Option.some.inj h
  cases h2
  exact (lw_TG 493 (by decide +kernel) (by decide +kernel))
theorem fg_X11_82 : FldOk RX11 82 10 14 (tyX11 14) false := ⟨RX11, TX11, 16, tyX11, rfl, inG11, tyX11_ok, nmX11, by decide, rfl, rfl, Or.inl (lw_TG 494 (by decide +kernel) (by decide +kernel))⟩
theorem fk_X11_82 : ∀ (T : u_T) (N : Nat) (C : String), vwCl[10]? = some (C, T, N) → Cond.fieldLink RX11 82 (T 14).1 (T 14).2.1 (T 14).2.2.1 ∈ lw_good := fun T N C h => by
  have h2 : (RX11, TX11, 16) = (C, T, N) := Option.some.inj h
  cases h2
  exact (lw_TG 494 (by decide +kernel) (by decide +kernel))
theorem fg_X11_85 : FldOk RX11 85 10 15 (tyX11 15) false := ⟨RX11, TX11, 16, tyX11, rfl, inG11, tyX11_ok, nmX11, by decide, rfl, rfl, Or.inl (lw_TG 495 (by decide +kernel) (by decide +kernel))⟩
theorem fk_X11_85 : ∀ (T : u_T) (N : Nat) (C : String), vwCl[10]? = some (C, T, N) → Cond.fieldLink RX11 85 (T 15).1 (T 15).2.1 (T 15).2.2.1 ∈ lw_good := fun T N C h => by
  have h2 : (RX11, TX11, 16) = (C, T, N) := Option.some.inj h
  cases h2
  exact (lw_TG 495 (by decide +kernel) (by decide +kernel))
abbrev rmX11_init : Room := { frames := 3, cells := 473, slots := 23505, locals := 54 }
/-- the memory of a new object -/
def isSt (a : Nat) : Bool := a == 26 || a == 46 || (Nat.ble 74 a && (a - 74) % 20 == 0)
def C0m : Mm := (fun a k => if a = 0 then (if k = 14 then -1 else 0) else bif isSt a then (if k = 11 then -1 else 0) else 0, fun _ _ => FP.fconst0, fun a k => if a = 0 then (if k = 15 then 1 else 0) else 0, fun a k => if a = 0 then (if k = 0 then some 1 else if k = 1 then some 10 else none) else if a = 21 then (if k = 5 then some 10 else none) else bif isSt a then (if k = 0 then some 1 else none) else none)
def wldR (Y : Sys) (M : Mm) (lo n : Nat) : va_W := (List.range n).map (fun j => (Y.ad (lo + j), ent Y M (lo + j)))
theorem wld_R (Y : Sys) (M : Mm) (t : Nat) : wld Y t M = wldR Y M 0 t := by
  unfold wld wldR
  simp only [Nat.zero_add]
theorem wldR_add (Y : Sys) (M : Mm) (lo n m : Nat) : wldR Y M lo (n + m) = wldR Y M lo n ++ wldR Y M (lo + n) m := by
  unfold wldR
  rw [List.range_add, List.map_append, List.map_map]
  congr 1
  apply List.map_congr_left
  intro j _
  show (Y.ad (lo + (n + j)), ent Y M (lo + (n + j))) = (Y.ad (lo + n + j), ent Y M (lo + n + j))
  rw [Nat.add_assoc]
def adW (aw q : Nat → Nat) (j : Nat) : Nat := if j < 1000 then q j else aw (j - 1000)
def YI (c : Nat → ClassId) (D : va_G) (aw q : Nat → Nat) : Sys := (c, D, adW aw q, shC, fun x => ∃ r : Nat, r < 474 ∧ x = adW aw q r)
/-- one cell told in two ways: rows of references may differ where they have no places -/
def EqE (e e' : va_E) : Prop := e = e' ∨ ∃ (c : ClassId) (n : Nat) (f g : Nat → Option Nat), e = .inl (c, n, .inr (.inr (.inr (.inr f)))) ∧ e' = .inl (c, n, .inr (.inr (.inr (.inr g)))) ∧ ∀ i, i < n → f i = g i
def EqL : va_W → va_W → Prop
  | [], [] => True
  | x :: a, y :: b => (x.1 = y.1 ∧ EqE x.2 y.2) ∧ EqL a b
  | _, _ => False
theorem EqL.cons {p q : Nat} {x y : va_E} {a b : va_W} (h1 : p = q) (h2 : EqE x y) (h3 : EqL a b) : EqL ((p, x) :: a) ((q, y) :: b) := ⟨⟨h1, h2⟩, h3⟩
theorem EqL.app : ∀ {a b a' b' : va_W}, EqL a a' → EqL b b' → EqL (a ++ b) (a' ++ b')
  | [], _, [], _, _, h => h
  | x :: a, b, y :: a', b', h, h' => ⟨h.1, EqL.app (a := a) (a' := a') h.2 h'⟩
  | [], _, _ :: _, _, h, _ => h.elim
  | _ :: _, _, [], _, h, _ => h.elim
theorem EqL.app2 {Y : Sys} {M : Mm} {a b : va_W} (lo n m : Nat) (h : EqL a (wldR Y M lo n)) (h' : EqL b (wldR Y M (lo + n) m)) : EqL (a ++ b) (wldR Y M lo (n + m)) := by
  rw [wldR_add]
  exact EqL.app h h'
theorem EqL.get : ∀ {a b : va_W}, EqL a b → ∀ (k : Nat) (y : Nat × va_E), b[k]? = some y → ∃ x, a[k]? = some x ∧ x.1 = y.1 ∧ EqE x.2 y.2
  | [], [], _, k, y, hk => by cases hk
  | x :: a, z :: b, h, 0, y, hk => by cases hk; exact ⟨x, rfl, h.1.1, h.1.2⟩
  | x :: a, z :: b, h, k + 1, y, hk => EqL.get (a := a) (b := b) h.2 k y hk
  | [], _ :: _, h, _, _, _ => h.elim
  | _ :: _, [], h, _, _, _ => h.elim
theorem EqE.at_ {D : va_G} {q : Nat} {e e' : va_E} {H : Heap} (h : EqE e e') : va_at D vwCl (q, e) H → va_at D vwCl (q, e') H := by
  rcases h with h | ⟨c, n, f, g, h1, h2, h3⟩
  · exact at_eq h
  · subst h1; subst h2
    exact at_arr h3
theorem EqL.P {D : va_G} {a b : va_W} {H : Heap} (h : EqL a b) (hP : va_P D vwCl a H) : va_P D vwCl b H := by
  intro k y hy
  obtain ⟨x, hx, e1, e2⟩ := h.get k y hy
  have := hP k x hx
  obtain ⟨y1, y2⟩ := y
  obtain ⟨x1, x2⟩ := x
  cases e1
  exact e2.at_ this
theorem EqL.D {A : Nat → Prop} {a b : va_W} (h : EqL a b) (hD : va_D A a) : va_D A b := by
  refine ⟨fun i j x y hx hy hxy => ?_, fun k y hy => ?_⟩
  · obtain ⟨x', hx', e1, -⟩ := h.get i x hx
    obtain ⟨y', hy', e2, -⟩ := h.get j y hy
    exact hD.1 i j x' y' hx' hy' (by rw [e1, e2]; exact hxy)
  · obtain ⟨x, hx, e1, -⟩ := h.get k y hy
    rw [← e1]
    exact hD.2 k x hx
def pst (c : Nat → ClassId) (a : Nat) (r : Nat → Nat → Nat) : Nat → va_W
  | 0 => []
  | k + 1 => pst c a r k ++ blkX8 c a (r k)
theorem pst_cg (c : Nat → ClassId) (a : Nat) (r r' : Nat → Nat → Nat) : ∀ k, (∀ i, i < k → r i = r' i) → pst c a r k = pst c a r' k
  | 0, _ => rfl
  | k + 1, h => by
    show pst c a r k ++ blkX8 c a (r k) = pst c a r' k ++ blkX8 c a (r' k)
    rw [pst_cg c a r r' k (fun i hi => h i (by omega)), h k (by omega)]
def pf (r : Nat → Nat → Nat) (k i : Nat) : Option Nat := if i < k then some (r i 0) else none
def rn (r : Nat → Nat → Nat) (k : Nat) (r' : Nat → Nat) : Nat → Nat → Nat := fun i => if i = k then r' else r i
theorem pf_0 (r : Nat → Nat → Nat) : pf r 0 = fun _ => none := rfl
theorem pf_s (r : Nat → Nat → Nat) (k : Nat) (r' : Nat → Nat) : va_up (pf r k) k (some (r' 0)) = pf (rn r k r') (k + 1) := by
  funext i
  unfold va_up pf rn
  by_cases h : i = k
  · subst h
    simp
  · by_cases h2 : i < k
    · simp [h, h2, show i < k + 1 by omega]
    · simp [h, h2, show ¬ i < k + 1 by omega]
theorem pst_s (c : Nat → ClassId) (a : Nat) (r : Nat → Nat → Nat) (k : Nat) (r' : Nat → Nat) : pst c a r k ++ blkX8 c a r' = pst c a (rn r k r') (k + 1) := by
  show _ = pst c a (rn r k r') k ++ blkX8 c a (rn r k r' k)
  rw [show rn r k r' k = r' from if_pos rfl, pst_cg c a r (rn r k r') k (fun i hi => (if_neg (by omega)).symm)]
theorem mid_get (W1 : va_W) (x : Nat × va_E) (V : va_W) {n : Nat} (h : W1.length = n) : (W1 ++ x :: V)[n]? = some x := by
  subst h
  rw [List.getElem?_append_right (Nat.le_refl _), Nat.sub_self]
  rfl
theorem mid_set (W1 : va_W) (x y : Nat × va_E) (V : va_W) {n : Nat} (h : W1.length = n) : (W1 ++ x :: V).set n y = W1 ++ y :: V := by
  subst h
  rw [List.set_append_right _ _ (Nat.le_refl _), Nat.sub_self]
  rfl
theorem app_mid (W1 A B Y Z : va_W) (x : Nat × va_E) : W1 ++ [x] ++ A ++ B ++ Y ++ Z = W1 ++ x :: (A ++ B ++ Y ++ Z ++ []) := by simp
theorem get_left {W1 V : va_W} {k : Nat} {x : Nat × va_E} (h : W1[k]? = some x) : (W1 ++ V)[k]? = some x := by
  rw [List.getElem?_append_left (List.getElem?_eq_some_iff.mp h).1]
  exact h
theorem past_loop {E : Cx} (hE : CvOk E cX11_init RX11 rmX11_init 2) {h0 a q7 : Nat} {fs : List Value} {W1 W2 : va_W} (h1 : W1.length = 66) (h2 : W1[0]? = some (h0, .inr (10, fs))) (h3 : fs[0]? = some (.ref a)) (h4 : fs[6]? = some (.ref q7)) (hend : ∀ r : Nat → Nat → Nat, Wv E 190 [(1, .int (nI 20)), (0, .ref h0)] [] 473 23505 (W1 ++ (q7, .inl (E.Y.c 5, 20, .inr (.inr (.inr (.inr (pf r 20)))))) :: (W2 ++ pst E.Y.c a r 20))) : ∀ (d k : Nat) (r : Nat → Nat → Nat), k + d = 20 → Wv E 161 [(1, .int (nI k)), (0, .ref h0)] [] (73 + 20 * k) (10225 + 664 * k) (W1 ++ (q7, .inl (E.Y.c 5, 20, .inr (.inr (.inr (.inr (pf r k)))))) :: (W2 ++ pst E.Y.c a r k))
  | 0, k, r, hk => by
    have e : k = 20 := by omega
    subst e
    refine wv_iload_n hE 0 rfl dX11_init_161 ?_
    refine wv_bipush hE 20 rfl dX11_init_162 ?_
    exact wv_icmp_ge hE 190 rfl dX11_init_164 (fun _ => hend r) (fun hc => absurd (by decide) hc)
  | d + 1, k, r, hk => by
    refine wv_iload_n hE 0 rfl dX11_init_161 ?_
    refine wv_bipush hE 20 rfl dX11_init_162 ?_
    refine wv_icmp_ge hE 190 rfl dX11_init_164 (fun hc => absurd ((nI_leI (a := 20) (b := k) (by decide) (by omega)).mp hc) (by omega)) (fun _ => ?_)
    refine wv_aload_n hE 1 rfl dX11_init_167 ?_
    refine wv_get hE 0 fg_X11_47 fk_X11_47 (get_left h2) h4 dX11_init_168 ?_
    refine wv_iload_n hE 0 rfl dX11_init_171 ?_
    refine wv_new hE nk_X11_35 (Nat.ble_eq_true_of_le (show 73 + 20 * k + 1 ≤ 473 by omega)) (Nat.ble_eq_true_of_le (show 10225 + 664 * k + 20 ≤ 23505 by omega)) dX11_init_172 (fun q => ?_)
    refine wv_dup hE rfl dX11_init_175 ?_
    refine wv_aload_n hE 1 rfl dX11_init_176 ?_
    refine wv_get hE 0 fg_X11_10 fk_X11_10 (get_left (get_left h2)) h3 dX11_init_177 ?_
    refine wv_init hE (W1 ++ (q7, .inl (E.Y.c 5, 20, .inr (.inr (.inr (.inr (pf r k)))))) :: (W2 ++ pst E.Y.c a r k)) (ciX8 E.l E.Y.D E.Y.c a) ik_X11_37 (rest := [.ref q, .int (nI k), .ref q7]) rfl rfl ⟨rfl, rfl⟩ rfl (Nat.ble_eq_true_of_le (show 73 + 20 * k + 1 + 19 ≤ 473 by omega)) (Nat.ble_eq_true_of_le (show 10225 + 664 * k + 20 + 644 ≤ 23505 by omega)) dX11_init_180 (fun r' h => ?_)
    subst h
    have hv : ((W1 ++ (q7, .inl (E.Y.c 5, 20, .inr (.inr (.inr (.inr (pf r k)))))) :: (W2 ++ pst E.Y.c a r k)) ++ blkX8 E.Y.c a r')[(W1 ++ (q7, .inl (E.Y.c 5, 20, .inr (.inr (.inr (.inr (pf r k)))))) :: (W2 ++ pst E.Y.c a r k)).length]? = (blkX8 E.Y.c a r')[0]? := by
      rw [List.getElem?_append_right (Nat.le_refl _), Nat.sub_self]
    refine wv_aast hE 66 _ 5 8 (r := (RX8, TX8, 20)) rfl (get_left (mid_get _ _ _ h1)) hv rfl (vp_in_nI (by omega) (by decide)) dX11_init_183 ?_
    rw [nI_clamp (by omega), pf_s, List.append_assoc, List.cons_append, mid_set _ _ _ _ h1, List.append_assoc, pst_s]
    refine wv_iinc hE 0 (nI (k + 1)) (nA_1 k) [(1, .int (nI (k + 1))), (0, .ref h0)] rfl rfl rfl dX11_init_184 ?_
    refine wv_goto hE 161 rfl dX11_init_187 ?_
    have K := past_loop hE h1 h2 h3 h4 hend d (k + 1) (rn r k r') (by omega)
    rw [show 73 + 20 * (k + 1) = 73 + 20 * k + 1 + 19 by omega, show 10225 + 664 * (k + 1) = 10225 + 664 * k + 20 + 644 by omega] at K
    exact K
def qC (h0 q7 q10 q11 : Nat) (r1 r2 r3 r4 r5 r6 r7 r8 : Nat → Nat) (r : Nat → Nat → Nat) : Nat → Nat := fun j => if j < 74 then [h0, r1 0, r1 1, r1 2, r1 3, r1 4, r1 5, r1 6, r1 7, r1 8, r2 0, r2 1, r2 2, r2 3, r2 4, r2 5, r2 6, r2 7, r2 8, r3 0, r3 1, r4 0, r4 1, r4 2, r4 3, r4 4, r5 0, r5 1, r5 2, r5 3, r5 4, r5 5, r5 6, r5 7, r5 8, r5 9, r5 10, r5 11, r5 12, r5 13, r5 14, r5 15, r5 16, r5 17, r5 18, r5 19, r6 0, r6 1, r6 2, r6 3, r6 4, r6 5, r6 6, r6 7, r6 8, r6 9, r6 10, r6 11, r6 12, r6 13, r6 14, r6 15, r6 16, r6 17, r6 18, r6 19, q7, r7 0, r7 1, r7 2, r8 0, r8 1, q10, q11].getD j 0 else r ((j - 74) / 20) ((j - 74) % 20)
theorem cls_glue (F : Nat → Nat → va_W) (hF : ∀ lo n m, F lo (n + m) = F lo n ++ F (lo + n) m) {B0 B1 B2 B3 B4 B5 B6 B8 B9 B10 B11 P : va_W} {x : Nat × va_E} (g0 : EqL B0 (F 0 1)) (g1 : EqL B1 (F 1 9)) (g2 : EqL B2 (F 10 9)) (g3 : EqL B3 (F 19 2)) (g4 : EqL B4 (F 21 5)) (g5 : EqL B5 (F 26 20)) (g6 : EqL B6 (F 46 20)) (g7 : EqL [x] (F 66 1)) (g8 : EqL B8 (F 67 3)) (g9 : EqL B9 (F 70 2)) (g10 : EqL B10 (F 72 1)) (g11 : EqL B11 (F 73 1)) (gp : EqL P (F 74 400)) : EqL ((B0 ++ B1 ++ B2 ++ B3 ++ B4 ++ B5 ++ B6) ++ x :: ((B8 ++ B9 ++ B10 ++ B11) ++ P)) (F 0 474) := by
  have hG : ∀ {a b : va_W} (lo n m : Nat), EqL a (F lo n) → EqL b (F (lo + n) m) → EqL (a ++ b) (F lo (n + m)) := fun lo n m h h2 => by rw [hF]; exact EqL.app h h2
  have a1 := hG 0 1 9 g0 g1
  have a2 := hG 0 10 9 a1 g2
  have a3 := hG 0 19 2 a2 g3
  have a4 := hG 0 21 5 a3 g4
  have a5 := hG 0 26 20 a4 g5
  have a6 := hG 0 46 20 a5 g6
  have a9 := hG 67 3 2 g8 g9
  have a10 := hG 67 5 1 a9 g10
  have a11 := hG 67 6 1 a10 g11
  have b1 := hG 67 7 400 a11 gp
  have b2 := hG 66 1 407 g7 b1
  exact hG 0 66 408 a6 b2
theorem qC_past (aw : Nat → Nat) (h0 q7 q10 q11 : Nat) (r1 r2 r3 r4 r5 r6 r7 r8 : Nat → Nat) (r : Nat → Nat → Nat) {k j : Nat} (hk : k < 20) (hj : j < 20) : adW aw (qC h0 q7 q10 q11 r1 r2 r3 r4 r5 r6 r7 r8 r) (74 + 20 * k + j) = r k j := by
  unfold adW qC
  rw [if_pos (by omega), if_neg (by omega), show 74 + 20 * k + j - 74 = 20 * k + j by omega, Nat.mul_add_div (by decide), Nat.div_eq_of_lt hj, Nat.add_zero, Nat.mul_add_mod, Nat.mod_eq_of_lt hj]
section CLSW
variable (c : Nat → ClassId) (D : va_G) (aw : Nat → Nat) (h0 q7 q10 q11 : Nat) (r1 r2 r3 r4 r5 r6 r7 r8 : Nat → Nat) (r : Nat → Nat → Nat)
theorem cb_0 : EqL ([(h0, .inr (10, [.ref (r1 0), .ref (r2 0), .ref (r3 0), .ref (r4 0), .ref (r5 0), .ref (r6 0), .ref q7, .int 0, .int 0, .ref (r7 0), .ref (r8 0), .ref q10, .ref q11, .int 0, .int (-1), .long 1]))]) (wldR (YI c D aw (qC h0 q7 q10 q11 r1 r2 r3 r4 r5 r6 r7 r8 r)) C0m 0 1) := EqL.cons rfl (Or.inl rfl) (trivial)
theorem cb_1 : EqL (blkX2 c r1) (wldR (YI c D aw (qC h0 q7 q10 q11 r1 r2 r3 r4 r5 r6 r7 r8 r)) C0m 1 9) := EqL.cons rfl (Or.inl rfl) (EqL.cons rfl (Or.inl rfl) (EqL.cons rfl (Or.inl rfl) (EqL.cons rfl (Or.inl rfl) (EqL.cons rfl (Or.inl rfl) (EqL.cons rfl (Or.inl rfl) (EqL.cons rfl (Or.inl rfl) (EqL.cons rfl (Or.inl rfl) (EqL.cons rfl (Or.inl rfl) (trivial)))))))))
theorem cb_10 : EqL (blkX2 c r2) (wldR (YI c D aw (qC h0 q7 q10 q11 r1 r2 r3 r4 r5 r6 r7 r8 r)) C0m 10 9) := EqL.cons rfl (Or.inl rfl) (EqL.cons rfl (Or.inl rfl) (EqL.cons rfl (Or.inl rfl) (EqL.cons rfl (Or.inl rfl) (EqL.cons rfl (Or.inl rfl) (EqL.cons rfl (Or.inl rfl) (EqL.cons rfl (Or.inl rfl) (EqL.cons rfl (Or.inl rfl) (EqL.cons rfl (Or.inl rfl) (trivial)))))))))
theorem cb_19 : EqL (blkX9 c r3) (wldR (YI c D aw (qC h0 q7 q10 q11 r1 r2 r3 r4 r5 r6 r7 r8 r)) C0m 19 2) := EqL.cons rfl (Or.inl rfl) (EqL.cons rfl (Or.inl rfl) (trivial))
theorem cb_21 : EqL (blkX5 c ((r3 0)) ((r2 0)) r4) (wldR (YI c D aw (qC h0 q7 q10 q11 r1 r2 r3 r4 r5 r6 r7 r8 r)) C0m 21 5) := EqL.cons rfl (Or.inl rfl) (EqL.cons rfl (Or.inl rfl) (EqL.cons rfl (Or.inl rfl) (EqL.cons rfl (Or.inl rfl) (EqL.cons rfl (Or.inl rfl) (trivial)))))
theorem cb_26 : EqL (blkX8 c ((r1 0)) r5) (wldR (YI c D aw (qC h0 q7 q10 q11 r1 r2 r3 r4 r5 r6 r7 r8 r)) C0m 26 20) := EqL.cons rfl (Or.inl rfl) (EqL.cons rfl (Or.inr ⟨_, _, _, _, rfl, rfl, lt6 ⟨rfl, rfl, rfl, rfl, rfl, rfl⟩⟩) (EqL.cons rfl (Or.inr ⟨_, _, _, _, rfl, rfl, lt6 ⟨rfl, rfl, rfl, rfl, rfl, rfl⟩⟩) (EqL.cons rfl (Or.inl rfl) (EqL.cons rfl (Or.inl rfl) (EqL.cons rfl (Or.inl rfl) (EqL.cons rfl (Or.inl rfl) (EqL.cons rfl (Or.inl rfl) (EqL.cons rfl (Or.inl rfl) (EqL.cons rfl (Or.inl rfl) (EqL.cons rfl (Or.inl rfl) (EqL.cons rfl (Or.inl rfl) (EqL.cons rfl (Or.inl rfl) (EqL.cons rfl (Or.inl rfl) (EqL.cons rfl (Or.inl rfl) (EqL.cons rfl (Or.inl rfl) (EqL.cons rfl (Or.inl rfl) (EqL.cons rfl (Or.inl rfl) (EqL.cons rfl (Or.inl rfl) (EqL.cons rfl (Or.inl rfl) (trivial))))))))))))))))))))
theorem cb_46 : EqL (blkX8 c ((r1 0)) r6) (wldR (YI c D aw (qC h0 q7 q10 q11 r1 r2 r3 r4 r5 r6 r7 r8 r)) C0m 46 20) := EqL.cons rfl (Or.inl rfl) (EqL.cons rfl (Or.inr ⟨_, _, _, _, rfl, rfl, lt6 ⟨rfl, rfl, rfl, rfl, rfl, rfl⟩⟩) (EqL.cons rfl (Or.inr ⟨_, _, _, _, rfl, rfl, lt6 ⟨rfl, rfl, rfl, rfl, rfl, rfl⟩⟩) (EqL.cons rfl (Or.inl rfl) (EqL.cons rfl (Or.inl rfl) (EqL.cons rfl (Or.inl rfl) (EqL.cons rfl (Or.inl rfl) (EqL.cons rfl (Or.inl rfl) (EqL.cons rfl (Or.inl rfl) (EqL.cons rfl (Or.inl rfl) (EqL.cons rfl (Or.inl rfl) (EqL.cons rfl (Or.inl rfl) (EqL.cons rfl (Or.inl rfl) (EqL.cons rfl (Or.inl rfl) (EqL.cons rfl (Or.inl rfl) (EqL.cons rfl (Or.inl rfl) (EqL.cons rfl (Or.inl rfl) (EqL.cons rfl (Or.inl rfl) (EqL.cons rfl (Or.inl rfl) (EqL.cons rfl (Or.inl rfl) (trivial))))))))))))))))))))
theorem cb_66 : EqL [(q7, .inl (c 5, 20, .inr (.inr (.inr (.inr (pf r 20))))))] (wldR (YI c D aw (qC h0 q7 q10 q11 r1 r2 r3 r4 r5 r6 r7 r8 r)) C0m 66 1) := by
  refine EqL.cons rfl (Or.inr ⟨_, _, _, _, rfl, rfl, fun i hi => ?_⟩) trivial
  show pf r 20 i = some (adW aw (qC h0 q7 q10 q11 r1 r2 r3 r4 r5 r6 r7 r8 r) (66 + 8 + 20 * i))
  unfold adW qC pf
  rw [if_pos hi, if_pos (by omega), if_neg (by omega), show 66 + 8 + 20 * i - 74 = 20 * i by omega, Nat.mul_div_cancel_left i (by decide), Nat.mul_mod_right]
theorem cb_67 : EqL (blkX7 c r7) (wldR (YI c D aw (qC h0 q7 q10 q11 r1 r2 r3 r4 r5 r6 r7 r8 r)) C0m 67 3) := EqL.cons rfl (Or.inl rfl) (EqL.cons rfl (Or.inl rfl) (EqL.cons rfl (Or.inl rfl) (trivial)))
theorem cb_70 : EqL (blkX0 c r8) (wldR (YI c D aw (qC h0 q7 q10 q11 r1 r2 r3 r4 r5 r6 r7 r8 r)) C0m 70 2) := EqL.cons rfl (Or.inl rfl) (EqL.cons rfl (Or.inl rfl) (trivial))
theorem cb_72 : EqL ([(q10, .inl (c 0, 6, .inl (fun _ => 0)))]) (wldR (YI c D aw (qC h0 q7 q10 q11 r1 r2 r3 r4 r5 r6 r7 r8 r)) C0m 72 1) := EqL.cons rfl (Or.inl rfl) (trivial)
theorem cb_73 : EqL ([(q11, .inl (c 0, 427, .inl (fun _ => 0)))]) (wldR (YI c D aw (qC h0 q7 q10 q11 r1 r2 r3 r4 r5 r6 r7 r8 r)) C0m 73 1) := EqL.cons rfl (Or.inl rfl) (trivial)
theorem cp_0 : EqL (blkX8 c (r1 0) (r 0)) (wldR (YI c D aw (qC h0 q7 q10 q11 r1 r2 r3 r4 r5 r6 r7 r8 r)) C0m 74 20) := EqL.cons rfl (Or.inl rfl) (EqL.cons rfl (Or.inr ⟨_, _, _, _, rfl, rfl, fun i hi => congrArg some ((qC_past aw h0 q7 q10 q11 r1 r2 r3 r4 r5 r6 r7 r8 r (k := 0) (j := 8 + 2 * i) (by decide) (by omega)).symm.trans (congrArg (adW aw (qC h0 q7 q10 q11 r1 r2 r3 r4 r5 r6 r7 r8 r)) (show 74 + 20 * 0 + (8 + 2 * i) = 82 + 2 * i by omega)))⟩) (EqL.cons rfl (Or.inr ⟨_, _, _, _, rfl, rfl, fun i hi => congrArg some ((qC_past aw h0 q7 q10 q11 r1 r2 r3 r4 r5 r6 r7 r8 r (k := 0) (j := 9 + 2 * i) (by decide) (by omega)).symm.trans (congrArg (adW aw (qC h0 q7 q10 q11 r1 r2 r3 r4 r5 r6 r7 r8 r)) (show 74 + 20 * 0 + (9 + 2 * i) = 83 + 2 * i by omega)))⟩) (EqL.cons rfl (Or.inl rfl) (EqL.cons rfl (Or.inl rfl) (EqL.cons rfl (Or.inl rfl) (EqL.cons rfl (Or.inl rfl) (EqL.cons rfl (Or.inl rfl) (EqL.cons rfl (Or.inl rfl) (EqL.cons rfl (Or.inl rfl) (EqL.cons rfl (Or.inl rfl) (EqL.cons rfl (Or.inl rfl) (EqL.cons rfl (Or.inl rfl) (EqL.cons rfl (Or.inl rfl) (EqL.cons rfl (Or.inl rfl) (EqL.cons rfl (Or.inl rfl) (EqL.cons rfl (Or.inl rfl) (EqL.cons rfl (Or.inl rfl) (EqL.cons rfl (Or.inl rfl) (EqL.cons rfl (Or.inl rfl) (trivial))))))))))))))))))))
theorem cp_1 : EqL (blkX8 c (r1 0) (r 1)) (wldR (YI c D aw (qC h0 q7 q10 q11 r1 r2 r3 r4 r5 r6 r7 r8 r)) C0m 94 20) := EqL.cons rfl (Or.inl rfl) (EqL.cons rfl (Or.inr ⟨_, _, _, _, rfl, rfl, fun i hi => congrArg some ((qC_past aw h0 q7 q10 q11 r1 r2 r3 r4 r5 r6 r7 r8 r (k := 1) (j := 8 + 2 * i) (by decide) (by omega)).symm.trans (congrArg (adW aw (qC h0 q7 q10 q11 r1 r2 r3 r4 r5 r6 r7 r8 r)) (show 74 + 20 * 1 + (8 + 2 * i) = 102 + 2 * i by omega)))⟩) (EqL.cons rfl (Or.inr ⟨_, _, _, _, rfl, rfl, fun i hi => congrArg some ((qC_past aw h0 q7 q10 q11 r1 r2 r3 r4 r5 r6 r7 r8 r (k := 1) (j := 9 + 2 * i) (by decide) (by omega)).symm.trans (congrArg (adW aw (qC h0 q7 q10 q11 r1 r2 r3 r4 r5 r6 r7 r8 r)) (show 74 + 20 * 1 + (9 + 2 * i) = 103 + 2 * i by omega)))⟩) (EqL.cons rfl (Or.inl rfl) (EqL.cons rfl (Or.inl rfl) (EqL.cons rfl (Or.inl rfl) (EqL.cons rfl (Or.inl rfl) (EqL.cons rfl (Or.inl rfl) (EqL.cons rfl (Or.inl rfl) (EqL.cons rfl (Or.inl rfl) (EqL.cons rfl (Or.inl rfl) (EqL.cons rfl (Or.inl rfl) (EqL.cons rfl (Or.inl rfl) (EqL.cons rfl (Or.inl rfl) (EqL.cons rfl (Or.inl rfl) (EqL.cons rfl (Or.inl rfl) (EqL.cons rfl (Or.inl rfl) (EqL.cons rfl (Or.inl rfl) (EqL.cons rfl (Or.inl rfl) (EqL.cons rfl (Or.inl rfl) (trivial))))))))))))))))))))
theorem cp_2 : EqL (blkX8 c (r1 0) (r 2)) (wldR (YI c D aw (qC h0 q7 q10 q11 r1 r2 r3 r4 r5 r6 r7 r8 r)) C0m 114 20) := EqL.cons rfl (Or.inl rfl) (EqL.cons rfl (Or.inr ⟨_, _, _, _, rfl, rfl, fun i hi => congrArg some ((qC_past aw h0 q7 q10 q11 r1 r2 r3 r4 r5 r6 r7 r8 r (k := 2) (j := 8 + 2 * i) (by decide) (by omega)).symm.trans (congrArg (adW aw (qC h0 q7 q10 q11 r1 r2 r3 r4 r5 r6 r7 r8 r)) (show 74 + 20 * 2 + (8 + 2 * i) = 122 + 2 * i by omega)))⟩) (EqL.cons rfl (Or.inr ⟨_, _, _, _, rfl, rfl, fun i hi => congrArg some ((qC_past aw h0 q7 q10 q11 r1 r2 r3 r4 r5 r6 r7 r8 r (k := 2) (j := 9 + 2 * i) (by decide) (by omega)).symm.trans (congrArg (adW aw (qC h0 q7 q10 q11 r1 r2 r3 r4 r5 r6 r7 r8 r)) (show 74 + 20 * 2 + (9 + 2 * i) = 123 + 2 * i by omega)))⟩) (EqL.cons rfl (Or.inl rfl) (EqL.cons rfl (Or.inl rfl) (EqL.cons rfl (Or.inl rfl) (EqL.cons rfl (Or.inl rfl) (EqL.cons rfl (Or.inl rfl) (EqL.cons rfl (Or.inl rfl) (EqL.cons rfl (Or.inl rfl) (EqL.cons rfl (Or.inl rfl) (EqL.cons rfl (Or.inl rfl) (EqL.cons rfl (Or.inl rfl) (EqL.cons rfl (Or.inl rfl) (EqL.cons rfl (Or.inl rfl) (EqL.cons rfl (Or.inl rfl) (EqL.cons rfl (Or.inl rfl) (EqL.cons rfl (Or.inl rfl) (EqL.cons rfl (Or.inl rfl) (EqL.cons rfl (Or.inl rfl) (trivial))))))))))))))))))))
theorem cp_3 : EqL (blkX8 c (r1 0) (r 3)) (wldR (YI c D aw (qC h0 q7 q10 q11 r1 r2 r3 r4 r5 r6 r7 r8 r)) C0m 134 20) := EqL.cons rfl (Or.inl rfl) (EqL.cons rfl (Or.inr ⟨_, _, _, _, rfl, rfl, fun i hi => congrArg some ((qC_past aw h0 q7 q10 q11 r1 r2 r3 r4 r5 r6 r7 r8 r (k := 3) (j := 8 + 2 * i) (by decide) (by omega)).symm.trans (congrArg (adW aw (qC h0 q7 q10 q11 r1 r2 r3 r4 r5 r6 r7 r8 r)) (show 74 + 20 * 3 + (8 + 2 * i) = 142 + 2 * i by omega)))⟩) (EqL.cons rfl (Or.inr ⟨_, _, _, _, rfl, rfl, fun i hi => congrArg some ((qC_past aw h0 q7 q10 q11 r1 r2 r3 r4 r5 r6 r7 r8 r (k := 3) (j := 9 + 2 * i) (by decide) (by omega)).symm.trans (congrArg (adW aw (qC h0 q7 q10 q11 r1 r2 r3 r4 r5 r6 r7 r8 r)) (show 74 + 20 * 3 + (9 + 2 * i) = 143 + 2 * i by omega)))⟩) (EqL.cons rfl (Or.inl rfl) (EqL.cons rfl (Or.inl rfl) (EqL.cons rfl (Or.inl rfl) (EqL.cons rfl (Or.inl rfl) (EqL.cons rfl (Or.inl rfl) (EqL.cons rfl (Or.inl rfl) (EqL.cons rfl (Or.inl rfl) (EqL.cons rfl (Or.inl rfl) (EqL.cons rfl (Or.inl rfl) (EqL.cons rfl (Or.inl rfl) (EqL.cons rfl (Or.inl rfl) (EqL.cons rfl (Or.inl rfl) (EqL.cons rfl (Or.inl rfl) (EqL.cons rfl (Or.inl rfl) (EqL.cons rfl (Or.inl rfl) (EqL.cons rfl (Or.inl rfl) (EqL.cons rfl (Or.inl rfl) (trivial))))))))))))))))))))
theorem cp_4 : EqL (blkX8 c (r1 0) (r 4)) (wldR (YI c D aw (qC h0 q7 q10 q11 r1 r2 r3 r4 r5 r6 r7 r8 r)) C0m 154 20) := EqL.cons rfl (Or.inl rfl) (EqL.cons rfl (Or.inr ⟨_, _, _, _, rfl, rfl, fun i hi => congrArg some ((qC_past aw h0 q7 q10 q11 r1 r2 r3 r4 r5 r6 r7 r8 r (k := 4) (j := 8 + 2 * i) (by decide) (by omega)).symm.trans (congrArg (adW aw (qC h0 q7 q10 q11 r1 r2 r3 r4 r5 r6 r7 r8 r)) (show 74 + 20 * 4 + (8 + 2 * i) = 162 + 2 * i by omega)))⟩) (EqL.cons rfl (Or.inr ⟨_, _, _, _, rfl, rfl, fun i hi => congrArg some ((qC_past aw h0 q7 q10 q11 r1 r2 r3 r4 r5 r6 r7 r8 r (k := 4) (j := 9 + 2 * i) (by decide) (by omega)).symm.trans (congrArg (adW aw (qC h0 q7 q10 q11 r1 r2 r3 r4 r5 r6 r7 r8 r)) (show 74 + 20 * 4 + (9 + 2 * i) = 163 + 2 * i by omega)))⟩) (EqL.cons rfl (Or.inl rfl) (EqL.cons rfl (Or.inl rfl) (EqL.cons rfl (Or.inl rfl) (EqL.cons rfl (Or.inl rfl) (EqL.cons rfl (Or.inl rfl) (EqL.cons rfl (Or.inl rfl) (EqL.cons rfl (Or.inl rfl) (EqL.cons rfl (Or.inl rfl) (EqL.cons rfl (Or.inl rfl) (EqL.cons rfl (Or.inl rfl) (EqL.cons rfl (Or.inl rfl) (EqL.cons rfl (Or.inl rfl) (EqL.cons rfl (Or.inl rfl) (EqL.cons rfl (Or.inl rfl) (EqL.cons rfl (Or.inl rfl) (EqL.cons rfl (Or.inl rfl) (EqL.cons rfl (Or.inl rfl) (trivial))))))))))))))))))))
theorem cp_5 : EqL (blkX8 c (r1 0) (r 5)) (wldR (YI c D aw (qC h0 q7 q10 q11 r1 r2 r3 r4 r5 r6 r7 r8 r)) C0m 174 20) := EqL.cons rfl (Or.inl rfl) (EqL.cons rfl (Or.inr ⟨_, _, _, _, rfl, rfl, fun i hi => congrArg some ((qC_past aw h0 q7 q10 q11 r1 r2 r3 r4 r5 r6 r7 r8 r (k := 5) (j := 8 + 2 * i) (by decide) (by omega)).symm.trans (congrArg (adW aw (qC h0 q7 q10 q11 r1 r2 r3 r4 r5 r6 r7 r8 r)) (show 74 + 20 * 5 + (8 + 2 * i) = 182 + 2 * i by omega)))⟩) (EqL.cons rfl (Or.inr ⟨_, _, _, _, rfl, rfl, fun i hi => congrArg some ((qC_past aw h0 q7 q10 q11 r1 r2 r3 r4 r5 r6 r7 r8 r (k := 5) (j := 9 + 2 * i) (by decide) (by omega)).symm.trans (congrArg (adW aw (qC h0 q7 q10 q11 r1 r2 r3 r4 r5 r6 r7 r8 r)) (show 74 + 20 * 5 + (9 + 2 * i) = 183 + 2 * i by omega)))⟩) (EqL.cons rfl (Or.inl rfl) (EqL.cons rfl (Or.inl rfl) (EqL.cons rfl (Or.inl rfl) (EqL.cons rfl (Or.inl rfl) (EqL.cons rfl (Or.inl rfl) (EqL.cons rfl (Or.inl rfl) (EqL.cons rfl (Or.inl rfl) (EqL.cons rfl (Or.inl rfl) (EqL.cons rfl (Or.inl rfl) (EqL.cons rfl (Or.inl rfl) (EqL.cons rfl (Or.inl rfl) (EqL.cons rfl (Or.inl rfl) (EqL.cons rfl (Or.inl rfl) (EqL.cons rfl (Or.inl rfl) (EqL.cons rfl (Or.inl rfl) (EqL.cons rfl (Or.inl rfl) (EqL.cons rfl (Or.inl rfl) (trivial))))))))))))))))))))
theorem cp_6 : EqL (blkX8 c (r1 0) (r 6)) (wldR (YI c D aw (qC h0 q7 q10 q11 r1 r2 r3 r4 r5 r6 r7 r8 r)) C0m 194 20) := EqL.cons rfl (Or.inl rfl) (EqL.cons rfl (Or.inr ⟨_, _, _, _, rfl, rfl, fun i hi => congrArg some ((qC_past aw h0 q7 q10 q11 r1 r2 r3 r4 r5 r6 r7 r8 r (k := 6) (j := 8 + 2 * i) (by decide) (by omega)).symm.trans (congrArg (adW aw (qC h0 q7 q10 q11 r1 r2 r3 r4 r5 r6 r7 r8 r)) (show 74 + 20 * 6 + (8 + 2 * i) = 202 + 2 * i by omega)))⟩) (EqL.cons rfl (Or.inr ⟨_, _, _, _, rfl, rfl, fun i hi => congrArg some ((qC_past aw h0 q7 q10 q11 r1 r2 r3 r4 r5 r6 r7 r8 r (k := 6) (j := 9 + 2 * i) (by decide) (by omega)).symm.trans (congrArg (adW aw (qC h0 q7 q10 q11 r1 r2 r3 r4 r5 r6 r7 r8 r)) (show 74 + 20 * 6 + (9 + 2 * i) = 203 + 2 * i by omega)))⟩) (EqL.cons rfl (Or.inl rfl) (EqL.cons rfl (Or.inl rfl) (EqL.cons rfl (Or.inl rfl) (EqL.cons rfl (Or.inl rfl) (EqL.cons rfl (Or.inl rfl) (EqL.cons rfl (Or.inl rfl) (EqL.cons rfl (Or.inl rfl) (EqL.cons rfl (Or.inl rfl) (EqL.cons rfl (Or.inl rfl) (EqL.cons rfl (Or.inl rfl) (EqL.cons rfl (Or.inl rfl) (EqL.cons rfl (Or.inl rfl) (EqL.cons rfl (Or.inl rfl) (EqL.cons rfl (Or.inl rfl) (EqL.cons rfl (Or.inl rfl) (EqL.cons rfl (Or.inl rfl) (EqL.cons rfl (Or.inl rfl) (trivial))))))))))))))))))))
theorem cp_7 : EqL (blkX8 c (r1 0) (r 7)) (wldR (YI c D aw (qC h0 q7 q10 q11 r1 r2 r3 r4 r5 r6 r7 r8 r)) C0m 214 20) := EqL.cons rfl (Or.inl rfl) (EqL.cons rfl (Or.inr ⟨_, _, _, _, rfl, rfl, fun i hi => congrArg some ((qC_past aw h0 q7 q10 q11 r1 r2 r3 r4 r5 r6 r7 r8 r (k := 7) (j := 8 + 2 * i) (by decide) (by omega)).symm.trans (congrArg (adW aw (qC h0 q7 q10 q11 r1 r2 r3 r4 r5 r6 r7 r8 r)) (show 74 + 20 * 7 + (8 + 2 * i) = 222 + 2 * i by omega)))⟩) (EqL.cons rfl (Or.inr ⟨_, _, _, _, rfl, rfl, fun i hi => congrArg some ((qC_past aw h0 q7 q10 q11 r1 r2 r3 r4 r5 r6 r7 r8 r (k := 7) (j := 9 + 2 * i) (by decide) (by omega)).symm.trans (congrArg (adW aw (qC h0 q7 q10 q11 r1 r2 r3 r4 r5 r6 r7 r8 r)) (show 74 + 20 * 7 + (9 + 2 * i) = 223 + 2 * i by omega)))⟩) (EqL.cons rfl (Or.inl rfl) (EqL.cons rfl (Or.inl rfl) (EqL.cons rfl (Or.inl rfl) (EqL.cons rfl (Or.inl rfl) (EqL.cons rfl (Or.inl rfl) (EqL.cons rfl (Or.inl rfl) (EqL.cons rfl (Or.inl rfl) (EqL.cons rfl (Or.inl rfl) (EqL.cons rfl (Or.inl rfl) (EqL.cons rfl (Or.inl rfl) (EqL.cons rfl (Or.inl rfl) (EqL.cons rfl (Or.inl rfl) (EqL.cons rfl (Or.inl rfl) (EqL.cons rfl (Or.inl rfl) (EqL.cons rfl (Or.inl rfl) (EqL.cons rfl (Or.inl rfl) (EqL.cons rfl (Or.inl rfl) (trivial))))))))))))))))))))
theorem cp_8 : EqL (blkX8 c (r1 0) (r 8)) (wldR (YI c D aw (qC h0 q7 q10 q11 r1 r2 r3 r4 r5 r6 r7 r8 r)) C0m 234 20) := EqL.cons rfl (Or.inl rfl) (EqL.cons rfl (Or.inr ⟨_, _, _, _, rfl, rfl, fun i hi => congrArg some ((qC_past aw h0 q7 q10 q11 r1 r2 r3 r4 r5 r6 r7 r8 r (k := 8) (j := 8 + 2 * i) (by decide) (by omega)).symm.trans (congrArg (adW aw (qC h0 q7 q10 q11 r1 r2 r3 r4 r5 r6 r7 r8 r)) (show 74 + 20 * 8 + (8 + 2 * i) = 242 + 2 * i by omega)))⟩) (EqL.cons rfl (Or.inr ⟨_, _, _, _, rfl, rfl, fun i hi => congrArg some ((qC_past aw h0 q7 q10 q11 r1 r2 r3 r4 r5 r6 r7 r8 r (k := 8) (j := 9 + 2 * i) (by decide) (by omega)).symm.trans (congrArg (adW aw (qC h0 q7 q10 q11 r1 r2 r3 r4 r5 r6 r7 r8 r)) (show 74 + 20 * 8 + (9 + 2 * i) = 243 + 2 * i by omega)))⟩) (EqL.cons rfl (Or.inl rfl) (EqL.cons rfl (Or.inl rfl) (EqL.cons rfl (Or.inl rfl) (EqL.cons rfl (Or.inl rfl) (EqL.cons rfl (Or.inl rfl) (EqL.cons rfl (Or.inl rfl) (EqL.cons rfl (Or.inl rfl) (EqL.cons rfl (Or.inl rfl) (EqL.cons rfl (Or.inl rfl) (EqL.cons rfl (Or.inl rfl) (EqL.cons rfl (Or.inl rfl) (EqL.cons rfl (Or.inl rfl) (EqL.cons rfl (Or.inl rfl) (EqL.cons rfl (Or.inl rfl) (EqL.cons rfl (Or.inl rfl) (EqL.cons rfl (Or.inl rfl) (EqL.cons rfl (Or.inl rfl) (trivial))))))))))))))))))))
theorem cp_9 : EqL (blkX8 c (r1 0) (r 9)) (wldR (YI c D aw (qC h0 q7 q10 q11 r1 r2 r3 r4 r5 r6 r7 r8 r)) C0m 254 20) := EqL.cons rfl (Or.inl rfl) (EqL.cons rfl (Or.inr ⟨_, _, _, _, rfl, rfl, fun i hi => congrArg some ((qC_past aw h0 q7 q10 q11 r1 r2 r3 r4 r5 r6 r7 r8 r (k := 9) (j := 8 + 2 * i) (by decide) (by omega)).symm.trans (congrArg (adW aw (qC h0 q7 q10 q11 r1 r2 r3 r4 r5 r6 r7 r8 r)) (show 74 + 20 * 9 + (8 + 2 * i) = 262 + 2 * i by omega)))⟩) (EqL.cons rfl (Or.inr ⟨_, _, _, _, rfl, rfl, fun i hi => congrArg some ((qC_past aw h0 q7 q10 q11 r1 r2 r3 r4 r5 r6 r7 r8 r (k := 9) (j := 9 + 2 * i) (by decide) (by omega)).symm.trans (congrArg (adW aw (qC h0 q7 q10 q11 r1 r2 r3 r4 r5 r6 r7 r8 r)) (show 74 + 20 * 9 + (9 + 2 * i) = 263 + 2 * i by omega)))⟩) (EqL.cons rfl (Or.inl rfl) (EqL.cons rfl (Or.inl rfl) (EqL.cons rfl (Or.inl rfl) (EqL.cons rfl (Or.inl rfl) (EqL.cons rfl (Or.inl rfl) (EqL.cons rfl (Or.inl rfl) (EqL.cons rfl (Or.inl rfl) (EqL.cons rfl (Or.inl rfl) (EqL.cons rfl (Or.inl rfl) (EqL.cons rfl (Or.inl rfl) (EqL.cons rfl (Or.inl rfl) (EqL.cons rfl (Or.inl rfl) (EqL.cons rfl (Or.inl rfl) (EqL.cons rfl (Or.inl rfl) (EqL.cons rfl (Or.inl rfl) (EqL.cons rfl (Or.inl rfl) (EqL.cons rfl (Or.inl rfl) (trivial))))))))))))))))))))
theorem cp_10 : EqL (blkX8 c (r1 0) (r 10)) (wldR (YI c D aw (qC h0 q7 q10 q11 r1 r2 r3 r4 r5 r6 r7 r8 r)) C0m 274 20) := EqL.cons rfl (Or.inl rfl) (EqL.cons rfl (Or.inr ⟨_, _, _, _, rfl, rfl, fun i hi => congrArg some ((qC_past aw h0 q7 q10 q11 r1 r2 r3 r4 r5 r6 r7 r8 r (k := 10) (j := 8 + 2 * i) (by decide) (by omega)).symm.trans (congrArg (adW aw (qC h0 q7 q10 q11 r1 r2 r3 r4 r5 r6 r7 r8 r)) (show 74 + 20 * 10 + (8 + 2 * i) = 282 + 2 * i by omega)))⟩) (EqL.cons rfl (Or.inr ⟨_, _, _, _, rfl, rfl, fun i hi => congrArg some ((qC_past aw h0 q7 q10 q11 r1 r2 r3 r4 r5 r6 r7 r8 r (k := 10) (j := 9 + 2 * i) (by decide) (by omega)).symm.trans (congrArg (adW aw (qC h0 q7 q10 q11 r1 r2 r3 r4 r5 r6 r7 r8 r)) (show 74 + 20 * 10 + (9 + 2 * i) = 283 + 2 * i by omega)))⟩) (EqL.cons rfl (Or.inl rfl) (EqL.cons rfl (Or.inl rfl) (EqL.cons rfl (Or.inl rfl) (EqL.cons rfl (Or.inl rfl) (EqL.cons rfl (Or.inl rfl) (EqL.cons rfl (Or.inl rfl) (EqL.cons rfl (Or.inl rfl) (EqL.cons rfl (Or.inl rfl) (EqL.cons rfl (Or.inl rfl) (EqL.cons rfl (Or.inl rfl) (EqL.cons rfl (Or.inl rfl) (EqL.cons rfl (Or.inl rfl) (EqL.cons rfl (Or.inl rfl) (EqL.cons rfl (Or.inl rfl) (EqL.cons rfl (Or.inl rfl) (EqL.cons rfl (Or.inl rfl) (EqL.cons rfl (Or.inl rfl) (trivial))))))))))))))))))))
theorem cp_11 : EqL (blkX8 c (r1 0) (r 11)) (wldR (YI c D aw (qC h0 q7 q10 q11 r1 r2 r3 r4 r5 r6 r7 r8 r)) C0m 294 20) := EqL.cons rfl (Or.inl rfl) (EqL.cons rfl (Or.inr ⟨_, _, _, _, rfl, rfl, fun i hi => congrArg some ((qC_past aw h0 q7 q10 q11 r1 r2 r3 r4 r5 r6 r7 r8 r (k := 11) (j := 8 + 2 * i) (by decide) (by omega)).symm.trans (congrArg (adW aw (qC h0 q7 q10 q11 r1 r2 r3 r4 r5 r6 r7 r8 r)) (show 74 + 20 * 11 + (8 + 2 * i) = 302 + 2 * i by omega)))⟩) (EqL.cons rfl (Or.inr ⟨_, _, _, _, rfl, rfl, fun i hi => congrArg some ((qC_past aw h0 q7 q10 q11 r1 r2 r3 r4 r5 r6 r7 r8 r (k := 11) (j := 9 + 2 * i) (by decide) (by omega)).symm.trans (congrArg (adW aw (qC h0 q7 q10 q11 r1 r2 r3 r4 r5 r6 r7 r8 r)) (show 74 + 20 * 11 + (9 + 2 * i) = 303 + 2 * i by omega)))⟩) (EqL.cons rfl (Or.inl rfl) (EqL.cons rfl (Or.inl rfl) (EqL.cons rfl (Or.inl rfl) (EqL.cons rfl (Or.inl rfl) (EqL.cons rfl (Or.inl rfl) (EqL.cons rfl (Or.inl rfl) (EqL.cons rfl (Or.inl rfl) (EqL.cons rfl (Or.inl rfl) (EqL.cons rfl (Or.inl rfl) (EqL.cons rfl (Or.inl rfl) (EqL.cons rfl (Or.inl rfl) (EqL.cons rfl (Or.inl rfl) (EqL.cons rfl (Or.inl rfl) (EqL.cons rfl (Or.inl rfl) (EqL.cons rfl (Or.inl rfl) (EqL.cons rfl (Or.inl rfl) (EqL.cons rfl (Or.inl rfl) (trivial))))))))))))))))))))
theorem cp_12 : EqL (blkX8 c (r1 0) (r 12)) (wldR (YI c D aw (qC h0 q7 q10 q11 r1 r2 r3 r4 r5 r6 r7 r8 r)) C0m 314 20) := EqL.cons rfl (Or.inl rfl) (EqL.cons rfl (Or.inr ⟨_, _, _, _, rfl, rfl, fun i hi => congrArg some ((qC_past aw h0 q7 q10 q11 r1 r2 r3 r4 r5 r6 r7 r8 r (k := 12) (j := 8 + 2 * i) (by decide) (by omega)).symm.trans (congrArg (adW aw (qC h0 q7 q10 q11 r1 r2 r3 r4 r5 r6 r7 r8 r)) (show 74 + 20 * 12 + (8 + 2 * i) = 322 + 2 * i by omega)))⟩) (EqL.cons rfl (Or.inr ⟨_, _, _, _, rfl, rfl, fun i hi => congrArg some ((qC_past aw h0 q7 q10 q11 r1 r2 r3 r4 r5 r6 r7 r8 r (k := 12) (j := 9 + 2 * i) (by decide) (by omega)).symm.trans (congrArg (adW aw (qC h0 q7 q10 q11 r1 r2 r3 r4 r5 r6 r7 r8 r)) (show 74 + 20 * 12 + (9 + 2 * i) = 323 + 2 * i by omega)))⟩) (EqL.cons rfl (Or.inl rfl) (EqL.cons rfl (Or.inl rfl) (EqL.cons rfl (Or.inl rfl) (EqL.cons rfl (Or.inl rfl) (EqL.cons rfl (Or.inl rfl) (EqL.cons rfl (Or.inl rfl) (EqL.cons rfl (Or.inl rfl) (EqL.cons rfl (Or.inl rfl) (EqL.cons rfl (Or.inl rfl) (EqL.cons rfl (Or.inl rfl) (EqL.cons rfl (Or.inl rfl) (EqL.cons rfl (Or.inl rfl) (EqL.cons rfl (Or.inl rfl) (EqL.cons rfl (Or.inl rfl) (EqL.cons rfl (Or.inl rfl) (EqL.cons rfl (Or.inl rfl) (EqL.cons rfl (Or.inl rfl) (trivial))))))))))))))))))))
theorem cp_13 : EqL (blkX8 c (r1 0) (r 13)) (wldR (YI c D aw (qC h0 q7 q10 q11 r1 r2 r3 r4 r5 r6 r7 r8 r)) C0m 334 20) := EqL.cons rfl (Or.inl rfl) (EqL.cons rfl (Or.inr ⟨_, _, _, _, rfl, rfl, fun i hi => congrArg some ((qC_past aw h0 q7 q10 q11 r1 r2 r3 r4 r5 r6 r7 r8 r (k := 13) (j := 8 + 2 * i) (by decide) (by omega)).symm.trans (congrArg (adW aw (qC h0 q7 q10 q11 r1 r2 r3 r4 r5 r6 r7 r8 r)) (show 74 + 20 * 13 + (8 + 2 * i) = 342 + 2 * i by omega)))⟩) (EqL.cons rfl (Or.inr ⟨_, _, _, _, rfl, rfl, fun i hi => congrArg some ((qC_past aw h0 q7 q10 q11 r1 r2 r3 r4 r5 r6 r7 r8 r (k := 13) (j := 9 + 2 * i) (by decide) (by omega)).symm.trans (congrArg (adW aw (qC h0 q7 q10 q11 r1 r2 r3 r4 r5 r6 r7 r8 r)) (show 74 + 20 * 13 + (9 + 2 * i) = 343 + 2 * i by omega)))⟩) (EqL.cons rfl (Or.inl rfl) (EqL.cons rfl (Or.inl rfl) (EqL.cons rfl (Or.inl rfl) (EqL.cons rfl (Or.inl rfl) (EqL.cons rfl (Or.inl rfl) (EqL.cons rfl (Or.inl rfl) (EqL.cons rfl (Or.inl rfl) (EqL.cons rfl (Or.inl rfl) (EqL.cons rfl (Or.inl rfl) (EqL.cons rfl (Or.inl rfl) (EqL.cons rfl (Or.inl rfl) (EqL.cons rfl (Or.inl rfl) (EqL.cons rfl (Or.inl rfl) (EqL.cons rfl (Or.inl rfl) (EqL.cons rfl (Or.inl rfl) (EqL.cons rfl (Or.inl rfl) (EqL.cons rfl (Or.inl rfl) (trivial))))))))))))))))))))
theorem cp_14 : EqL (blkX8 c (r1 0) (r 14)) (wldR (YI c D aw (qC h0 q7 q10 q11 r1 r2 r3 r4 r5 r6 r7 r8 r)) C0m 354 20) := EqL.cons rfl (Or.inl rfl) (EqL.cons rfl (Or.inr ⟨_, _, _, _, rfl, rfl, fun i hi => congrArg some ((qC_past aw h0 q7 q10 q11 r1 r2 r3 r4 r5 r6 r7 r8 r (k := 14) (j := 8 + 2 * i) (by decide) (by omega)).symm.trans (congrArg (adW aw (qC h0 q7 q10 q11 r1 r2 r3 r4 r5 r6 r7 r8 r)) (show 74 + 20 * 14 + (8 + 2 * i) = 362 + 2 * i by omega)))⟩) (EqL.cons rfl (Or.inr ⟨_, _, _, _, rfl, rfl, fun i hi => congrArg some ((qC_past aw h0 q7 q10 q11 r1 r2 r3 r4 r5 r6 r7 r8 r (k := 14) (j := 9 + 2 * i) (by decide) (by omega)).symm.trans (congrArg (adW aw (qC h0 q7 q10 q11 r1 r2 r3 r4 r5 r6 r7 r8 r)) (show 74 + 20 * 14 + (9 + 2 * i) = 363 + 2 * i by omega)))⟩) (EqL.cons rfl (Or.inl rfl) (EqL.cons rfl (Or.inl rfl) (EqL.cons rfl (Or.inl rfl) (EqL.cons rfl (Or.inl rfl) (EqL.cons rfl (Or.inl rfl) (EqL.cons rfl (Or.inl rfl) (EqL.cons rfl (Or.inl rfl) (EqL.cons rfl (Or.inl rfl) (EqL.cons rfl (Or.inl rfl) (EqL.cons rfl (Or.inl rfl) (EqL.cons rfl (Or.inl rfl) (EqL.cons rfl (Or.inl rfl) (EqL.cons rfl (Or.inl rfl) (EqL.cons rfl (Or.inl rfl) (EqL.cons rfl (Or.inl rfl) (EqL.cons rfl (Or.inl rfl) (EqL.cons rfl (Or.inl rfl) (trivial))))))))))))))))))))
theorem cp_15 : EqL (blkX8 c (r1 0) (r 15)) (wldR (YI c D aw (qC h0 q7 q10 q11 r1 r2 r3 r4 r5 r6 r7 r8 r)) C0m 374 20) := EqL.cons rfl (Or.inl rfl) (EqL.cons rfl (Or.inr ⟨_, _, _, _, rfl, rfl, fun i hi => congrArg some ((qC_past aw h0 q7 q10 q11 r1 r2 r3 r4 r5 r6 r7 r8 r (k := 15) (j := 8 + 2 * i) (by decide) (by omega)).symm.trans (congrArg (adW aw (qC h0 q7 q10 q11 r1 r2 r3 r4 r5 r6 r7 r8 r)) (show 74 + 20 * 15 + (8 + 2 * i) = 382 + 2 * i by omega)))⟩) (EqL.cons rfl (Or.inr ⟨_, _, _, _, rfl, rfl, fun i hi => congrArg some ((qC_past aw h0 q7 q10 q11 r1 r2 r3 r4 r5 r6 r7 r8 r (k := 15) (j := 9 + 2 * i) (by decide) (by omega)).symm.trans (congrArg (adW aw (qC h0 q7 q10 q11 r1 r2 r3 r4 r5 r6 r7 r8 r)) (show 74 + 20 * 15 + (9 + 2 * i) = 383 + 2 * i by omega)))⟩) (EqL.cons rfl (Or.inl rfl) (EqL.cons rfl (Or.inl rfl) (EqL.cons rfl (Or.inl rfl) (EqL.cons rfl (Or.inl rfl) (EqL.cons rfl (Or.inl rfl) (EqL.cons rfl (Or.inl rfl) (EqL.cons rfl (Or.inl rfl) (EqL.cons rfl (Or.inl rfl) (EqL.cons rfl (Or.inl rfl) (EqL.cons rfl (Or.inl rfl) (EqL.cons rfl (Or.inl rfl) (EqL.cons rfl (Or.inl rfl) (EqL.cons rfl (Or.inl rfl) (EqL.cons rfl (Or.inl rfl) (EqL.cons rfl (Or.inl rfl) (EqL.cons rfl (Or.inl rfl) (EqL.cons rfl (Or.inl rfl) (trivial))))))))))))))))))))
theorem cp_16 : EqL (blkX8 c (r1 0) (r 16)) (wldR (YI c D aw (qC h0 q7 q10 q11 r1 r2 r3 r4 r5 r6 r7 r8 r)) C0m 394 20) := EqL.cons rfl (Or.inl rfl) (EqL.cons rfl (Or.inr ⟨_, _, _, _, rfl, rfl, fun i hi => congrArg some ((qC_past aw h0 q7 q10 q11 r1 r2 r3 r4 r5 r6 r7 r8 r (k := 16) (j := 8 + 2 * i) (by decide) (by omega)).symm.trans (congrArg (adW aw (qC h0 q7 q10 q11 r1 r2 r3 r4 r5 r6 r7 r8 r)) (show 74 + 20 * 16 + (8 + 2 * i) = 402 + 2 * i by omega)))⟩) (EqL.cons rfl (Or.inr ⟨_, _, _, _, rfl, rfl, fun i hi => congrArg some ((qC_past aw h0 q7 q10 q11 r1 r2 r3 r4 r5 r6 r7 r8 r (k := 16) (j := 9 + 2 * i) (by decide) (by omega)).symm.trans (congrArg (adW aw (qC h0 q7 q10 q11 r1 r2 r3 r4 r5 r6 r7 r8 r)) (show 74 + 20 * 16 + (9 + 2 * i) = 403 + 2 * i by omega)))⟩) (EqL.cons rfl (Or.inl rfl) (EqL.cons rfl (Or.inl rfl) (EqL.cons rfl (Or.inl rfl) (EqL.cons rfl (Or.inl rfl) (EqL.cons rfl (Or.inl rfl) (EqL.cons rfl (Or.inl rfl) (EqL.cons rfl (Or.inl rfl) (EqL.cons rfl (Or.inl rfl) (EqL.cons rfl (Or.inl rfl) (EqL.cons rfl (Or.inl rfl) (EqL.cons rfl (Or.inl rfl) (EqL.cons rfl (Or.inl rfl) (EqL.cons rfl (Or.inl rfl) (EqL.cons rfl (Or.inl rfl) (EqL.cons rfl (Or.inl rfl) (EqL.cons rfl (Or.inl rfl) (EqL.cons rfl (Or.inl rfl) (trivial))))))))))))))))))))
theorem cp_17 : EqL (blkX8 c (r1 0) (r 17)) (wldR (YI c D aw (qC h0 q7 q10 q11 r1 r2 r3 r4 r5 r6 r7 r8 r)) C0m 414 20) := EqL.cons rfl (Or.inl rfl) (EqL.cons rfl (Or.inr ⟨_, _, _, _, rfl, rfl, fun i hi => congrArg some ((qC_past aw h0 q7 q10 q11 r1 r2 r3 r4 r5 r6 r7 r8 r (k := 17) (j := 8 + 2 * i) (by decide) (by omega)).symm.trans (congrArg (adW aw (qC h0 q7 q10 q11 r1 r2 r3 r4 r5 r6 r7 r8 r)) (show 74 + 20 * 17 + (8 + 2 * i) = 422 + 2 * i by omega)))⟩) (EqL.cons rfl (Or.inr ⟨_, _, _, _, rfl, rfl, fun i hi => congrArg some ((qC_past aw h0 q7 q10 q11 r1 r2 r3 r4 r5 r6 r7 r8 r (k := 17) (j := 9 + 2 * i) (by decide) (by omega)).symm.trans (congrArg (adW aw (qC h0 q7 q10 q11 r1 r2 r3 r4 r5 r6 r7 r8 r)) (show 74 + 20 * 17 + (9 + 2 * i) = 423 + 2 * i by omega)))⟩) (EqL.cons rfl (Or.inl rfl) (EqL.cons rfl (Or.inl rfl) (EqL.cons rfl (Or.inl rfl) (EqL.cons rfl (Or.inl rfl) (EqL.cons rfl (Or.inl rfl) (EqL.cons rfl (Or.inl rfl) (EqL.cons rfl (Or.inl rfl) (EqL.cons rfl (Or.inl rfl) (EqL.cons rfl (Or.inl rfl) (EqL.cons rfl (Or.inl rfl) (EqL.cons rfl (Or.inl rfl) (EqL.cons rfl (Or.inl rfl) (EqL.cons rfl (Or.inl rfl) (EqL.cons rfl (Or.inl rfl) (EqL.cons rfl (Or.inl rfl) (EqL.cons rfl (Or.inl rfl) (EqL.cons rfl (Or.inl rfl) (trivial))))))))))))))))))))
theorem cp_18 : EqL (blkX8 c (r1 0) (r 18)) (wldR (YI c D aw (qC h0 q7 q10 q11 r1 r2 r3 r4 r5 r6 r7 r8 r)) C0m 434 20) := EqL.cons rfl (Or.inl rfl) (EqL.cons rfl (Or.inr ⟨_, _, _, _, rfl, rfl, fun i hi => congrArg some ((qC_past aw h0 q7 q10 q11 r1 r2 r3 r4 r5 r6 r7 r8 r (k := 18) (j := 8 + 2 * i) (by decide) (by omega)).symm.trans (congrArg (adW aw (qC h0 q7 q10 q11 r1 r2 r3 r4 r5 r6 r7 r8 r)) (show 74 + 20 * 18 + (8 + 2 * i) = 442 + 2 * i by omega)))⟩) (EqL.cons rfl (Or.inr ⟨_, _, _, _, rfl, rfl, fun i hi => congrArg some ((qC_past aw h0 q7 q10 q11 r1 r2 r3 r4 r5 r6 r7 r8 r (k := 18) (j := 9 + 2 * i) (by decide) (by omega)).symm.trans (congrArg (adW aw (qC h0 q7 q10 q11 r1 r2 r3 r4 r5 r6 r7 r8 r)) (show 74 + 20 * 18 + (9 + 2 * i) = 443 + 2 * i by omega)))⟩) (EqL.cons rfl (Or.inl rfl) (EqL.cons rfl (Or.inl rfl) (EqL.cons rfl (Or.inl rfl) (EqL.cons rfl (Or.inl rfl) (EqL.cons rfl (Or.inl rfl) (EqL.cons rfl (Or.inl rfl) (EqL.cons rfl (Or.inl rfl) (EqL.cons rfl (Or.inl rfl) (EqL.cons rfl (Or.inl rfl) (EqL.cons rfl (Or.inl rfl) (EqL.cons rfl (Or.inl rfl) (EqL.cons rfl (Or.inl rfl) (EqL.cons rfl (Or.inl rfl) (EqL.cons rfl (Or.inl rfl) (EqL.cons rfl (Or.inl rfl) (EqL.cons rfl (Or.inl rfl) (EqL.cons rfl (Or.inl rfl) (trivial))))))))))))))))))))
theorem cp_19 : EqL (blkX8 c (r1 0) (r 19)) (wldR (YI c D aw (qC h0 q7 q10 q11 r1 r2 r3 r4 r5 r6 r7 r8 r)) C0m 454 20) := EqL.cons rfl (Or.inl rfl) (EqL.cons rfl (Or.inr ⟨_, _, _, _, rfl, rfl, fun i hi => congrArg some ((qC_past aw h0 q7 q10 q11 r1 r2 r3 r4 r5 r6 r7 r8 r (k := 19) (j := 8 + 2 * i) (by decide) (by omega)).symm.trans (congrArg (adW aw (qC h0 q7 q10 q11 r1 r2 r3 r4 r5 r6 r7 r8 r)) (show 74 + 20 * 19 + (8 + 2 * i) = 462 + 2 * i by omega)))⟩) (EqL.cons rfl (Or.inr ⟨_, _, _, _, rfl, rfl, fun i hi => congrArg some ((qC_past aw h0 q7 q10 q11 r1 r2 r3 r4 r5 r6 r7 r8 r (k := 19) (j := 9 + 2 * i) (by decide) (by omega)).symm.trans (congrArg (adW aw (qC h0 q7 q10 q11 r1 r2 r3 r4 r5 r6 r7 r8 r)) (show 74 + 20 * 19 + (9 + 2 * i) = 463 + 2 * i by omega)))⟩) (EqL.cons rfl (Or.inl rfl) (EqL.cons rfl (Or.inl rfl) (EqL.cons rfl (Or.inl rfl) (EqL.cons rfl (Or.inl rfl) (EqL.cons rfl (Or.inl rfl) (EqL.cons rfl (Or.inl rfl) (EqL.cons rfl (Or.inl rfl) (EqL.cons rfl (Or.inl rfl) (EqL.cons rfl (Or.inl rfl) (EqL.cons rfl (Or.inl rfl) (EqL.cons rfl (Or.inl rfl) (EqL.cons rfl (Or.inl rfl) (EqL.cons rfl (Or.inl rfl) (EqL.cons rfl (Or.inl rfl) (EqL.cons rfl (Or.inl rfl) (EqL.cons rfl (Or.inl rfl) (EqL.cons rfl (Or.inl rfl) (trivial))))))))))))))))))))
theorem cb_past : ∀ k, k < 20 → EqL (blkX8 c (r1 0) (r k)) (wldR (YI c D aw (qC h0 q7 q10 q11 r1 r2 r3 r4 r5 r6 r7 r8 r)) C0m (74 + 20 * k) 20) := by
  intro k hk
  match k, hk with
  | 0, _ => exact cp_0 c D aw h0 q7 q10 q11 r1 r2 r3 r4 r5 r6 r7 r8 r
  | 1, _ => exact cp_1 c D aw h0 q7 q10 q11 r1 r2 r3 r4 r5 r6 r7 r8 r
  | 2, _ => exact cp_2 c D aw h0 q7 q10 q11 r1 r2 r3 r4 r5 r6 r7 r8 r
  | 3, _ => exact cp_3 c D aw h0 q7 q10 q11 r1 r2 r3 r4 r5 r6 r7 r8 r
  | 4, _ => exact cp_4 c D aw h0 q7 q10 q11 r1 r2 r3 r4 r5 r6 r7 r8 r
  | 5, _ => exact cp_5 c D aw h0 q7 q10 q11 r1 r2 r3 r4 r5 r6 r7 r8 r
  | 6, _ => exact cp_6 c D aw h0 q7 q10 q11 r1 r2 r3 r4 r5 r6 r7 r8 r
  | 7, _ => exact cp_7 c D aw h0 q7 q10 q11 r1 r2 r3 r4 r5 r6 r7 r8 r
  | 8, _ => exact cp_8 c D aw h0 q7 q10 q11 r1 r2 r3 r4 r5 r6 r7 r8 r
  | 9, _ => exact cp_9 c D aw h0 q7 q10 q11 r1 r2 r3 r4 r5 r6 r7 r8 r
  | 10, _ => exact cp_10 c D aw h0 q7 q10 q11 r1 r2 r3 r4 r5 r6 r7 r8 r
  | 11, _ => exact cp_11 c D aw h0 q7 q10 q11 r1 r2 r3 r4 r5 r6 r7 r8 r
  | 12, _ => exact cp_12 c D aw h0 q7 q10 q11 r1 r2 r3 r4 r5 r6 r7 r8 r
  | 13, _ => exact cp_13 c D aw h0 q7 q10 q11 r1 r2 r3 r4 r5 r6 r7 r8 r
  | 14, _ => exact cp_14 c D aw h0 q7 q10 q11 r1 r2 r3 r4 r5 r6 r7 r8 r
  | 15, _ => exact cp_15 c D aw h0 q7 q10 q11 r1 r2 r3 r4 r5 r6 r7 r8 r
  | 16, _ => exact cp_16 c D aw h0 q7 q10 q11 r1 r2 r3 r4 r5 r6 r7 r8 r
  | 17, _ => exact cp_17 c D aw h0 q7 q10 q11 r1 r2 r3 r4 r5 r6 r7 r8 r
  | 18, _ => exact cp_18 c D aw h0 q7 q10 q11 r1 r2 r3 r4 r5 r6 r7 r8 r
  | 19, _ => exact cp_19 c D aw h0 q7 q10 q11 r1 r2 r3 r4 r5 r6 r7 r8 r
  | k + 20, hk => omega
end CLSW
