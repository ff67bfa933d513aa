/-! Word.find and Word.stands: the pure text; the machine's row stands at the end -/
def wTxts : List (List Int32) := [[100, 105, 115, 107], [115, 101, 101, 107], [114, 97, 116, 101], [98, 117, 100, 103, 101, 116], [116, 111], [105, 100, 108, 101], [115, 108, 105, 99, 101], [110, 101, 97, 114], [114, 97, 105, 115, 101], [102, 111, 114], [114, 101, 115, 116], [119, 101, 105, 103, 104, 116], [102, 114, 111, 109], [100, 111, 101, 115], [115, 116, 114, 101, 97, 109], [97, 116], [111, 110], [116, 97, 107, 101], [116, 104, 105, 110, 107], [112, 114, 111, 99, 101, 115, 115]]
def wTxt (k : Nat) : List Int32 := wTxts.getD k []
def P_WStandsL : List Int32 → Int32 → Mm → Option Int32
  | [], _, _ => some 1
  | c :: t, i, M => bnd (P_TByteAt i M) fun b => if b = c then P_WStandsL t (i + 1) M else some 0
def P_WStands (k : Nat) (p2 p3 : Int32) (M : Mm) : Option Int32 := if nI (wTxt k).length = p3 then P_WStandsL (wTxt k) p2 M else some 0
def P_WFindL (p2 p3 : Int32) (M : Mm) : List Nat → Option (Option Nat)
  | [] => some none
  | k :: t => bnd (P_WStands k p2 p3 M) fun r => if r = 0 then P_WFindL p2 p3 M t else some (some (1000 + k))
def P_WFind (p2 p3 : Int32) (M : Mm) : Option (Option Nat) := P_WFindL p2 p3 M (List.range 20)
abbrev rmP_WFind : Room := { frames := 6, cells := 0, slots := 0, locals := 140 }
theorem mP_WFind {l : Launch} {Y : Sys} {t : Nat} (hY : SysOk Y t shP) (p2 p3 : Int32) (M : Mm) (r : Option Nat) (h : P_WFind p2 p3 M = some r) : Cm l Y t yX10_find (WS yX10_find cX10_find 4 (some (.object "DiskBudgets$Word"))) rmP_WFind [.ref (Y.ad 5), .int p2, .int p3] M (some (va_rf (r.map Y.ad)), M) := by
  sorry
