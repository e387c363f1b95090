/-! the ints behind the makers -/
def i0E (a : Nat) : List (Nat × Int32) := if isT a then [(8, 421)] else if a == 9 || a == 210 then [(12, -1)] else if a == 424 then [(9, -1), (10, -1)] else if a == 435 then [(5, -1), (6, -1), (23, 1)] else if a == 436 || a == 437 then [(8, 421), (2, -1)] else []
def i0V (a k : Nat) : Int32 := ((i0E a).lookup k).getD 0
def i0N (a : Nat) : Nat := if a == 432 then 0 else if a == 436 || a == 437 then 1450 else 40
def chkI (o : Option TS) : Bool := match o with
  | some T => T.1.zipIdx.all fun q => (List.range (i0N (q.2 + 8))).all fun k => decide (q.1.2.2.2 k = i0V (q.2 + 8) k)
  | none => false
set_option maxRecDepth 100000 in
theorem start_chkI : chkI ((tX 8 (tA ([], 0) 26 9)).bind fun T => tM (tN T) (tA T 27 39)) = true := by decide +kernel
