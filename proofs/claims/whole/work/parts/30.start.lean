/-! the law's start: after both makers -/
def tStart : Option TS := (tX 8 (tA ([], 0) 26 9)).bind fun T => tM (tN T) (tA T 27 39)
def chkS (o : Option TS) : Bool := match o with
  | some T => decide (T.1.map (fun e => (e.1, e.2.1)) = tbS.drop 8) && decide (T.1.map (fun e => (List.range 40).map e.2.2.1) = (tbR.drop 8).map fun l => (List.range 40).map fun k => l.getD k 0) && Nat.beq T.1.length 443 && Nat.beq T.2 21190
  | none => false
set_option maxRecDepth 100000 in
theorem start_chk : chkS tStart = true := by decide +kernel
def chkX (o : Option TS) : Bool := match o with
  | some T => Nat.beq (tN T) 435
  | none => false
set_option maxRecDepth 100000 in
theorem start_chkX : chkX (tX 8 (tA ([], 0) 26 9)) = true := by decide +kernel
