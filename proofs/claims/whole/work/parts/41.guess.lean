/-! GUESSES: the marks of the rows, and what one row answers to another -/
theorem iv_nat (n : Nat) : iv (n : Int) = nI n := Int32.ofInt_eq_ofNat
theorem iv_and {a b : Nat} : iv (a : Int) &&& iv (b : Int) = iv ((a &&& b : Nat) : Int) := by
  rw [iv_nat, iv_nat, iv_nat]
  apply Int32.toBitVec.inj
  show BitVec.ofNat 32 a &&& BitVec.ofNat 32 b = BitVec.ofNat 32 (a &&& b)
  exact BitVec.ofNat_and.symm
def BC (x0 : Int32) : Int32 := ((((((((x0 - (((x0.toUInt32 >>> ((1 : Int32).toUInt32 &&& Int32.toUInt32 31)).toInt32) &&& 1431655765)) &&& 858993459) + ((((x0 - (((x0.toUInt32 >>> ((1 : Int32).toUInt32 &&& Int32.toUInt32 31)).toInt32) &&& 1431655765)).toUInt32 >>> ((2 : Int32).toUInt32 &&& Int32.toUInt32 31)).toInt32) &&& 858993459)) + (((((x0 - (((x0.toUInt32 >>> ((1 : Int32).toUInt32 &&& Int32.toUInt32 31)).toInt32) &&& 1431655765)) &&& 858993459) + ((((x0 - (((x0.toUInt32 >>> ((1 : Int32).toUInt32 &&& Int32.toUInt32 31)).toInt32) &&& 1431655765)).toUInt32 >>> ((2 : Int32).toUInt32 &&& Int32.toUInt32 31)).toInt32) &&& 858993459)).toUInt32 >>> ((4 : Int32).toUInt32 &&& Int32.toUInt32 31)).toInt32)) &&& 252645135) + (((((((x0 - (((x0.toUInt32 >>> ((1 : Int32).toUInt32 &&& Int32.toUInt32 31)).toInt32) &&& 1431655765)) &&& 858993459) + ((((x0 - (((x0.toUInt32 >>> ((1 : Int32).toUInt32 &&& Int32.toUInt32 31)).toInt32) &&& 1431655765)).toUInt32 >>> ((2 : Int32).toUInt32 &&& Int32.toUInt32 31)).toInt32) &&& 858993459)) + (((((x0 - (((x0.toUInt32 >>> ((1 : Int32).toUInt32 &&& Int32.toUInt32 31)).toInt32) &&& 1431655765)) &&& 858993459) + ((((x0 - (((x0.toUInt32 >>> ((1 : Int32).toUInt32 &&& Int32.toUInt32 31)).toInt32) &&& 1431655765)).toUInt32 >>> ((2 : Int32).toUInt32 &&& Int32.toUInt32 31)).toInt32) &&& 858993459)).toUInt32 >>> ((4 : Int32).toUInt32 &&& Int32.toUInt32 31)).toInt32)) &&& 252645135).toUInt32 >>> ((8 : Int32).toUInt32 &&& Int32.toUInt32 31)).toInt32)) + ((((((((x0 - (((x0.toUInt32 >>> ((1 : Int32).toUInt32 &&& Int32.toUInt32 31)).toInt32) &&& 1431655765)) &&& 858993459) + ((((x0 - (((x0.toUInt32 >>> ((1 : Int32).toUInt32 &&& Int32.toUInt32 31)).toInt32) &&& 1431655765)).toUInt32 >>> ((2 : Int32).toUInt32 &&& Int32.toUInt32 31)).toInt32) &&& 858993459)) + (((((x0 - (((x0.toUInt32 >>> ((1 : Int32).toUInt32 &&& Int32.toUInt32 31)).toInt32) &&& 1431655765)) &&& 858993459) + ((((x0 - (((x0.toUInt32 >>> ((1 : Int32).toUInt32 &&& Int32.toUInt32 31)).toInt32) &&& 1431655765)).toUInt32 >>> ((2 : Int32).toUInt32 &&& Int32.toUInt32 31)).toInt32) &&& 858993459)).toUInt32 >>> ((4 : Int32).toUInt32 &&& Int32.toUInt32 31)).toInt32)) &&& 252645135) + (((((((x0 - (((x0.toUInt32 >>> ((1 : Int32).toUInt32 &&& Int32.toUInt32 31)).toInt32) &&& 1431655765)) &&& 858993459) + ((((x0 - (((x0.toUInt32 >>> ((1 : Int32).toUInt32 &&& Int32.toUInt32 31)).toInt32) &&& 1431655765)).toUInt32 >>> ((2 : Int32).toUInt32 &&& Int32.toUInt32 31)).toInt32) &&& 858993459)) + (((((x0 - (((x0.toUInt32 >>> ((1 : Int32).toUInt32 &&& Int32.toUInt32 31)).toInt32) &&& 1431655765)) &&& 858993459) + ((((x0 - (((x0.toUInt32 >>> ((1 : Int32).toUInt32 &&& Int32.toUInt32 31)).toInt32) &&& 1431655765)).toUInt32 >>> ((2 : Int32).toUInt32 &&& Int32.toUInt32 31)).toInt32) &&& 858993459)).toUInt32 >>> ((4 : Int32).toUInt32 &&& Int32.toUInt32 31)).toInt32)) &&& 252645135).toUInt32 >>> ((8 : Int32).toUInt32 &&& Int32.toUInt32 31)).toInt32)).toUInt32 >>> ((16 : Int32).toUInt32 &&& Int32.toUInt32 31)).toInt32)) &&& 63)
theorem y_bitCount {x : Int32} {h : Mem} : cA m_Integer_bitCount [.int x] h = some (.int (BC x), h) := q_Integer_bitCount x h
def dN (r k : Nat) : Nat := if k = 0 then r / 25 else if k = 1 then r / 5 % 5 else r % 5
def eN (a b : Nat) : Nat := if a = b then 1 else 0
def cN (r v : Nat) : Nat := eN (r / 25) v + eN (r / 5 % 5) v + eN (r % 5) v
def rN (r q : Nat) : Nat := eN (r / 25) (q / 25) + eN (r / 5 % 5) (q / 5 % 5) + eN (r % 5) (q % 5)
def nN (r q v : Nat) : Nat := if cN r v < cN q v then cN r v else cN q v
def bN (r q : Nat) : Nat := nN r q 0 + nN r q 1 + nN r q 2 + nN r q 3 + nN r q 4
def kN (r : Nat) : Nat := 2 ^ (r / 25) + 32 * 2 ^ (r / 5 % 5) + 1024 * 2 ^ (r % 5) + 32768 * ((2 ^ cN r 0 - 1) + 8 * (2 ^ cN r 1 - 1) + 64 * (2 ^ cN r 2 - 1) + 512 * (2 ^ cN r 3 - 1) + 4096 * (2 ^ cN r 4 - 1))
def hN (a b : Nat) : Nat := if a = b then 2 ^ a else 0
def rtN' (r q : Nat) : Nat := hN (r / 25) (q / 25) + 32 * hN (r / 5 % 5) (q / 5 % 5) + 1024 * hN (r % 5) (q % 5)
def cmN (a b c d e : Nat) : Nat := (2 ^ a - 1) + 8 * (2 ^ b - 1) + 64 * (2 ^ c - 1) + 512 * (2 ^ d - 1) + 4096 * (2 ^ e - 1)
def chkK : Bool := (List.range 125).all fun r => decide (mkd r = nI (kN r)) && Nat.blt (kN r) 1073741824
set_option maxRecDepth 100000 in
theorem chk_K : chkK = true := by decide +kernel
def chkA : Bool := (List.range 125).all fun r => (List.range 125).all fun q => Nat.beq ((kN r &&& kN q) % 32768) (rtN' r q) && Nat.beq ((kN r &&& kN q) / 32768) (cmN (nN r q 0) (nN r q 1) (nN r q 2) (nN r q 3) (nN r q 4)) && Nat.ble (10 * rN r q + bN r q - rN r q) 30 && Nat.ble (rN r q) (bN r q) && Nat.ble (bN r q) 3
set_option maxRecDepth 100000 in
theorem chk_A : chkA = true := by decide +kernel
def h6 (a : Nat) : Nat := if a = 5 then 0 else 2 ^ a
def e6 (a : Nat) : Nat := if a = 5 then 0 else 1
def chkB : Bool := (List.range 6).all fun a => (List.range 6).all fun b => (List.range 6).all fun c => decide (BC (nI (h6 a + 32 * h6 b + 1024 * h6 c)) = nI (e6 a + e6 b + e6 c))
set_option maxRecDepth 100000 in
theorem chk_B : chkB = true := by decide +kernel
def chkC : Bool := (List.range 4).all fun a => (List.range 4).all fun b => (List.range 4).all fun c => (List.range 4).all fun d => (List.range 4).all fun e => decide (BC (nI (cmN a b c d e)) = nI (a + b + c + d + e))
set_option maxRecDepth 100000 in
theorem chk_C : chkC = true := by decide +kernel
