/-! more rows: references out of constant arrays with what is known of the place; a code that is known -/
section ROWSS
variable {ρ : Type} {E : Cx} {cc : ByteArray} {own : String} {sf : Nat → Shp} {ret : Option FieldType} {rm : Room} {nL pc : Nat} {lv : List (Nat × Value)} {st : List Value} {M : Mm} {o : Option ρ} {K : ρ → Prop}
theorem ok_aaloadH (hE : CxOk E cc own sf ret rm nL) {C : String} {a ti n x y : Nat} {i : Int32} (hsh : sf a = (4, ti, n, [(x, y)])) (hti : (tys7 E.Y.c)[ti]? = some (E.Y.c ti, .object C)) (hd : decode cc pc = .ok (.aaload, 1)) (k : vp_in i n → Ok E (pc + 1) lv (.ref (E.Y.ad (a + x + y * ix i)) :: st) M o K) : Ok E pc lv (.int i :: .ref (E.Y.ad a) :: st) M (ald i n o) K :=
  ok_ald (fun hin => fun r hr hK ls H locs h1 h2 h3 => va_aldq hE.1.1 hE.1.2.1 hE.2.2.1 h2 a ti (hE.ar4 hsh M) hti hin hd (k hin r hr hK ls H locs h1 h2 h3))
theorem ok_code {x a : Nat} (h : x = a) (k : Ok E pc lv (.ref (E.Y.ad a) :: st) M o K) : Ok E pc lv (.ref (E.Y.ad x) :: st) M o K := by rw [h]; exact k
end ROWSS
