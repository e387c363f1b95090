/-! THE ABSTRACT MACHINE: values are the kit's Value with .ref 0 for null; a memory is six functions and numbers: ints, longs, references by address and place; kind and length by address; the next address; the slots so far. Addresses are logical ones: below 8 what stands outside, from 8 on in the order of making. Kinds: 1 int[], 2 boolean[], 3 long[], 4 byte[], 5 Table[], 6 Text[], 8 an int[] that is only read, 9 a byte[] that is only read, 10 something opaque, 16 + ci an object of class ci. -/
abbrev Mem : Type := (Nat → Nat → Int32) × (Nat → Nat → Int64) × (Nat → Nat → Nat) × (Nat → Nat × Nat) × Nat × Nat
def mI (h : Mem) : Nat → Nat → Int32 := h.1
def mJ (h : Mem) : Nat → Nat → Int64 := h.2.1
def mR (h : Mem) : Nat → Nat → Nat := h.2.2.1
def mS (h : Mem) : Nat → Nat × Nat := h.2.2.2.1
def mN (h : Mem) : Nat := h.2.2.2.2.1
def mC (h : Mem) : Nat := h.2.2.2.2.2
def wI (h : Mem) (a : Nat) (f : Nat → Int32) : Mem := (va_up h.1 a f, h.2)
def wJ (h : Mem) (a : Nat) (f : Nat → Int64) : Mem := (h.1, va_up h.2.1 a f, h.2.2)
def wR (h : Mem) (a : Nat) (f : Nat → Nat) : Mem := (h.1, h.2.1, va_up h.2.2.1 a f, h.2.2.2)
/-- a new object or array: its rows are blank -/
def mk (h : Mem) (kind len : Nat) : Mem := (va_up h.1 (mN h) (fun _ => 0), va_up h.2.1 (mN h) (fun _ => 0), va_up h.2.2.1 (mN h) (fun _ => 0), va_up h.2.2.2.1 (mN h) (kind, len), mN h + 1, mC h + len)
abbrev Rs : Type := Option (Value × Mem)
/-- an instruction: its place, itself, its length, four numbers and a constant that the checks tie to it, and a switch's roads -/
abbrev Op : Type := Nat × Instr × Nat × Nat × Nat × Nat × Value × List (Int32 × Nat)
abbrev dd : Value := .retAddr 0
def nth : List Value → Nat → Value
  | [], _ => dd
  | v :: _, 0 => v
  | _ :: l, n + 1 => nth l n
def setN : List Value → Nat → Value → List Value
  | [], _, _ => []
  | _ :: l, 0, v => v :: l
  | w :: l, n + 1, v => w :: setN l n v
/-- ahead of a store at i: a long that began ahead of it is gone -/
def kil : List Value → Nat → List Value
  | [], _ => []
  | v :: l, 0 => v :: l
  | v :: l, 1 => (match v with | .long _ => dd | .double _ => dd | w => w) :: l
  | v :: l, n + 2 => v :: kil l (n + 1)
def st1 (L : List Value) (i : Nat) (v : Value) : List Value := setN (kil L i) i v
def st2 (L : List Value) (i : Nat) (v : Value) : List Value := setN (setN (kil L i) i v) (i + 1) dd
def msk : List Bool → List Value → List Value
  | true :: m, v :: l => v :: msk m l
  | false :: m, _ :: l => dd :: msk m l
  | _, _ => []
def catS : List Value → Nat
  | [] => 0
  | .long _ :: l => 2 + catS l
  | .double _ :: l => 2 + catS l
  | _ :: l => 1 + catS l
def isIA : Nat → Bool
  | 1 => true
  | 8 => true
  | _ => false
def isBA : Nat → Bool
  | 2 => true
  | 9 => true
  | _ => false
def isAr : Nat → Bool
  | 1 => true
  | 2 => true
  | 3 => true
  | 4 => true
  | 5 => true
  | 6 => true
  | 8 => true
  | 9 => true
  | _ => false
def isRA : Nat → Bool
  | 5 => true
  | 6 => true
  | _ => false
def ldI (h : Mem) (a : Nat) (i : Int32) (f : Int32 → Rs) : Rs := if isIA (mS h a).1 = true ∧ (0 ≤ i.toInt ∧ i.toInt < (mS h a).2) then f (mI h a i.toNatClampNeg) else none
def ldB (h : Mem) (a : Nat) (i : Int32) (f : Int32 → Rs) : Rs := if isBA (mS h a).1 = true ∧ (0 ≤ i.toInt ∧ i.toInt < (mS h a).2) then f (mI h a i.toNatClampNeg) else none
def ldJ (h : Mem) (a : Nat) (i : Int32) (f : Int64 → Rs) : Rs := if (mS h a).1 = 3 ∧ (0 ≤ i.toInt ∧ i.toInt < (mS h a).2) then f (mJ h a i.toNatClampNeg) else none
def ldR (h : Mem) (a : Nat) (i : Int32) (f : Nat → Rs) : Rs := if isRA (mS h a).1 = true ∧ (0 ≤ i.toInt ∧ i.toInt < (mS h a).2) then f (mR h a i.toNatClampNeg) else none
def stI (h : Mem) (a : Nat) (i x : Int32) (f : Mem → Rs) : Rs := if (mS h a).1 = 1 ∧ (0 ≤ i.toInt ∧ i.toInt < (mS h a).2) then f (wI h a (upd (mI h a) i.toNatClampNeg x)) else none
def stB (h : Mem) (a : Nat) (i x : Int32) (f : Mem → Rs) : Rs := if (mS h a).1 = 2 ∧ (x = 0 ∨ x = 1) ∧ (0 ≤ i.toInt ∧ i.toInt < (mS h a).2) then f (wI h a (upd (mI h a) i.toNatClampNeg x)) else none
def stJ (h : Mem) (a : Nat) (i : Int32) (x : Int64) (f : Mem → Rs) : Rs := if (mS h a).1 = 3 ∧ (0 ≤ i.toInt ∧ i.toInt < (mS h a).2) then f (wJ h a (vp_updL (mJ h a) i.toNatClampNeg x)) else none
/-- a store into a row of references: of an object of the row's class (kc tells it), never null unless the row says so -/
def kc : Nat → Nat
  | 5 => 23
  | 6 => 25
  | _ => 0
def alN (h : Mem) (a : Nat) (f : Int32 → Rs) : Rs := if isAr (mS h a).1 = true then f (Int32.ofNat (mS h a).2) else none
def gfI (h : Mem) (ci k a : Nat) (f : Int32 → Rs) : Rs := if (mS h a).1 = 16 + ci then f (mI h a k) else none
def gfJ (h : Mem) (ci k a : Nat) (f : Int64 → Rs) : Rs := if (mS h a).1 = 16 + ci then f (mJ h a k) else none
def gfR (h : Mem) (ci k a : Nat) (f : Nat → Rs) : Rs := if (mS h a).1 = 16 + ci then f (mR h a k) else none
def pfI (h : Mem) (ci k a : Nat) (x : Int32) (f : Mem → Rs) : Rs := if (mS h a).1 = 16 + ci ∧ 8 ≤ a then f (wI h a (upd (mI h a) k x)) else none
def pfZ (h : Mem) (ci k a : Nat) (x : Int32) (f : Mem → Rs) : Rs := if (mS h a).1 = 16 + ci ∧ 8 ≤ a ∧ (x = 0 ∨ x = 1) then f (wI h a (upd (mI h a) k x)) else none
def pfJ (h : Mem) (ci k a : Nat) (x : Int64) (f : Mem → Rs) : Rs := if (mS h a).1 = 16 + ci ∧ 8 ≤ a then f (wJ h a (vp_updL (mJ h a) k x)) else none
def pfR (h : Mem) (ci k a : Nat) (x : Nat) (f : Mem → Rs) : Rs := if (mS h a).1 = 16 + ci ∧ 8 ≤ a then f (wR h a (va_up (mR h a) k x)) else none
def nwA (h : Mem) (kind : Nat) (n : Int32) (f : Nat → Mem → Rs) : Rs := if 0 ≤ n.toInt ∧ n.toInt ≤ 100000 then f (mN h) (mk h kind n.toNatClampNeg) else none
def bnI (r : Rs) (f : Int32 → Mem → Rs) : Rs := match r with
  | some (.int x, h) => f x h
  | _ => none
def bnJ (r : Rs) (f : Int64 → Mem → Rs) : Rs := match r with
  | some (.long x, h) => f x h
  | _ => none
def bnR (r : Rs) (f : Nat → Mem → Rs) : Rs := match r with
  | some (.ref x, h) => f x h
  | _ => none
def bnV (r : Rs) (f : Mem → Rs) : Rs := match r with
  | some (.null, h) => f h
  | _ => none
def grd (b : Bool) (r : Rs) : Rs := match b with
  | true => r
  | false => none
def swC : List (Int32 × Nat) → Nat → Int32 → (Nat → Rs) → Rs
  | [], d, _, f => f d
  | (c, t) :: l, d, x, f => if x = c then f t else swC l d x f
def stR (h : Mem) (a : Nat) (i : Int32) (x : Nat) (f : Mem → Rs) : Rs := if isRA (mS h a).1 = true ∧ 8 ≤ a ∧ (x = 0 ∨ 8 ≤ x ∧ (mS h x).1 = kc (mS h a).1) ∧ (0 ≤ i.toInt ∧ i.toInt < (mS h a).2) then f (wR h a (va_up (mR h a) i.toNatClampNeg x)) else none
def rtN (z : Nat) (a : Int32) (h : Mem) : Rs := match z with
  | 0 => some (.int a, h)
  | 1 => if a = 0 ∨ a = 1 then some (.int a, h) else none
  | 2 => if 0 ≤ a ∧ a ≤ 65535 then some (.int a, h) else none
  | _ => if -128 ≤ a ∧ a ≤ 127 then some (.int a, h) else none
/-- System.arraycopy between rows of int, of another row -/
def acI (h : Mem) (a b : Nat) (i j n : Int32) (f : Mem → Rs) : Rs := if (mS h a).1 = 1 ∧ (mS h b).1 = 1 ∧ a ≠ b ∧ 8 ≤ a ∧ 8 ≤ b ∧ 0 ≤ i.toInt ∧ 0 ≤ j.toInt ∧ 0 ≤ n.toInt ∧ i.toInt + n.toInt ≤ (mS h a).2 ∧ j.toInt + n.toInt ≤ (mS h b).2 then f (wI h b (va_cpy (mI h a) (mI h b) i.toNatClampNeg j.toNatClampNeg n.toNatClampNeg)) else none
/-- clone of a row of int -/
def clI (h : Mem) (a : Nat) (f : Nat → Mem → Rs) : Rs := if (mS h a).1 = 1 ∧ 8 ≤ a then f (mN h) (wI (mk h 1 (mS h a).2) (mN h) (mI h a)) else none
/-- what a call's answer does to the stack, by what the method returns -/
def bnd (z : Nat) (r : Rs) (nx : List Value → Mem → Rs) (T : List Value) : Rs := match z with
  | 0 => bnV r fun h => nx T h
  | 1 => bnI r fun x h => nx (.int x :: T) h
  | 2 => bnJ r fun x h => nx (.long x :: T) h
  | _ => bnR r fun x h => nx (.ref x :: T) h
def ivk (cal : Nat → List Value → Mem → Rs) (rk : Nat → List Value → Nat) (r : Nat) (M y z : Nat) (S : List Value) (h : Mem) (nx : List Value → Mem → Rs) : Rs :=
  match z, S with
  | 9, .int n :: .int j :: .ref b :: .int i :: .ref a :: T => grd (Nat.ble (catS T) 8) (acI h a b i j n fun h => nx T h)
  | 10, .ref a :: T => grd (Nat.ble (catS T) 8) (clI h a fun q h => nx (.ref q :: T) h)
  | 11, .ref o :: T => grd (Nat.ble (catS T) 8 && Nat.blt 0 o) (nx T h)
  | 9, _ => none
  | 10, _ => none
  | 11, _ => none
  | z, S => grd (Nat.ble (catS (S.drop y)) 8 && Nat.blt (rk M (S.take y).reverse) r) (bnd z (cal M (S.take y).reverse h) nx (S.drop y))
/-- one instruction: what follows on is nx, where it goes elsewhere jp -/
def stC (cal : Nat → List Value → Mem → Rs) (rk : Nat → List Value → Nat) (r : Nat) (o : Op) (nx : List Value → List Value → Mem → Rs) (jp : Nat → List Value → List Value → Mem → Rs) (L S : List Value) (h : Mem) : Rs :=
  match o with
  | (_, i, _, x, y, z, v, sw) =>
  match i with
  | .iconst _ => nx L (v :: S) h
  | .bipush _ => nx L (v :: S) h
  | .sipush _ => nx L (v :: S) h
  | .lconst _ => nx L (v :: S) h
  | .ldc _ => nx L (v :: S) h
  | .ldc_w _ => nx L (v :: S) h
  | .ldc2_w _ => nx L (v :: S) h
  | .aconst_null => nx L (.ref 0 :: S) h
  | .getstatic _ => nx L (v :: S) h
  | .iload_n _ => (match nth L x with | .int a => nx L (.int a :: S) h | _ => none)
  | .iload _ => (match nth L x with | .int a => nx L (.int a :: S) h | _ => none)
  | .lload_n _ => (match nth L x with | .long a => nx L (.long a :: S) h | _ => none)
  | .lload _ => (match nth L x with | .long a => nx L (.long a :: S) h | _ => none)
  | .aload_n _ => (match nth L x with | .ref a => nx L (.ref a :: S) h | _ => none)
  | .aload _ => (match nth L x with | .ref a => nx L (.ref a :: S) h | _ => none)
  | .istore_n _ => (match S with | .int a :: T => nx (st1 L x (.int a)) T h | _ => none)
  | .istore _ => (match S with | .int a :: T => nx (st1 L x (.int a)) T h | _ => none)
  | .astore_n _ => (match S with | .ref a :: T => nx (st1 L x (.ref a)) T h | _ => none)
  | .astore _ => (match S with | .ref a :: T => nx (st1 L x (.ref a)) T h | _ => none)
  | .lstore_n _ => (match S with | .long a :: T => nx (st2 L x (.long a)) T h | _ => none)
  | .lstore _ => (match S with | .long a :: T => nx (st2 L x (.long a)) T h | _ => none)
  | .iinc _ _ => (match nth L x, v with | .int a, .int c => nx (st1 L x (.int (a + c))) S h | _, _ => none)
  | .iadd => (match S with | .int b :: .int a :: T => nx L (.int (a + b) :: T) h | _ => none)
  | .isub => (match S with | .int b :: .int a :: T => nx L (.int (a - b) :: T) h | _ => none)
  | .imul => (match S with | .int b :: .int a :: T => nx L (.int (a * b) :: T) h | _ => none)
  | .idiv => (match S with | .int b :: .int a :: T => if b = 0 then none else nx L (.int (a / b) :: T) h | _ => none)
  | .irem => (match S with | .int b :: .int a :: T => if b = 0 then none else nx L (.int (a % b) :: T) h | _ => none)
  | .iand => (match S with | .int b :: .int a :: T => nx L (.int (a &&& b) :: T) h | _ => none)
  | .ior => (match S with | .int b :: .int a :: T => nx L (.int (a ||| b) :: T) h | _ => none)
  | .ixor => (match S with | .int b :: .int a :: T => nx L (.int (a ^^^ b) :: T) h | _ => none)
  | .ishl => (match S with | .int b :: .int a :: T => nx L (.int (a <<< (b &&& 31)) :: T) h | _ => none)
  | .ishr => (match S with | .int b :: .int a :: T => nx L (.int (a >>> (b &&& 31)) :: T) h | _ => none)
  | .iushr => (match S with | .int b :: .int a :: T => nx L (.int (a.toUInt32 >>> (b.toUInt32 &&& Int32.toUInt32 31)).toInt32 :: T) h | _ => none)
  | .ineg => (match S with | .int a :: T => nx L (.int (-a) :: T) h | _ => none)
  | .ladd => (match S with | .long b :: .long a :: T => nx L (.long (a + b) :: T) h | _ => none)
  | .lsub => (match S with | .long b :: .long a :: T => nx L (.long (a - b) :: T) h | _ => none)
  | .lmul => (match S with | .long b :: .long a :: T => nx L (.long (a * b) :: T) h | _ => none)
  | .ldiv => (match S with | .long b :: .long a :: T => if b = 0 then none else nx L (.long (a / b) :: T) h | _ => none)
  | .lrem => (match S with | .long b :: .long a :: T => if b = 0 then none else nx L (.long (a % b) :: T) h | _ => none)
  | .land => (match S with | .long b :: .long a :: T => nx L (.long (a &&& b) :: T) h | _ => none)
  | .lor => (match S with | .long b :: .long a :: T => nx L (.long (a ||| b) :: T) h | _ => none)
  | .lxor => (match S with | .long b :: .long a :: T => nx L (.long (a ^^^ b) :: T) h | _ => none)
  | .lshl => (match S with | .int b :: .long a :: T => nx L (.long (a <<< (b.toInt64 &&& 63)) :: T) h | _ => none)
  | .lshr => (match S with | .int b :: .long a :: T => nx L (.long (a >>> (b.toInt64 &&& 63)) :: T) h | _ => none)
  | .lneg => (match S with | .long a :: T => nx L (.long (-a) :: T) h | _ => none)
  | .lcmp => (match S with | .long b :: .long a :: T => nx L (.int (lg_cmp a b) :: T) h | _ => none)
  | .i2l => (match S with | .int a :: T => nx L (.long a.toInt64 :: T) h | _ => none)
  | .l2i => (match S with | .long a :: T => nx L (.int a.toInt32 :: T) h | _ => none)
  | .i2b => (match S with | .int a :: T => nx L (.int a.toInt8.toInt32 :: T) h | _ => none)
  | .i2c => (match S with | .int a :: T => nx L (.int (a.toUInt32 % 65536).toInt32 :: T) h | _ => none)
  | .dup => (match S with | .int a :: T => nx L (.int a :: .int a :: T) h | .ref a :: T => nx L (.ref a :: .ref a :: T) h | _ => none)
  | .dup2 => (match S with | .int b :: .ref a :: T => nx L (.int b :: .ref a :: .int b :: .ref a :: T) h | .int b :: .int a :: T => nx L (.int b :: .int a :: .int b :: .int a :: T) h | .long a :: T => nx L (.long a :: .long a :: T) h | _ => none)
  | .dup_x1 => (match S with | .int b :: .ref a :: T => nx L (.int b :: .ref a :: .int b :: T) h | _ => none)
  | .pop => (match S with | .int _ :: T => nx L T h | .ref _ :: T => nx L T h | _ => none)
  | .goto _ => jp x L S h
  | .ifCond .eq _ => (match S with | .int a :: T => if a = 0 then jp x L T h else nx L T h | _ => none)
  | .ifCond .ne _ => (match S with | .int a :: T => if a = 0 then nx L T h else jp x L T h | _ => none)
  | .ifCond .lt _ => (match S with | .int a :: T => if 0 ≤ a then nx L T h else jp x L T h | _ => none)
  | .ifCond .ge _ => (match S with | .int a :: T => if a < 0 then nx L T h else jp x L T h | _ => none)
  | .ifCond .gt _ => (match S with | .int a :: T => if a ≤ 0 then nx L T h else jp x L T h | _ => none)
  | .ifCond .le _ => (match S with | .int a :: T => if 0 < a then nx L T h else jp x L T h | _ => none)
  | .if_icmp .eq _ => (match S with | .int b :: .int a :: T => if a = b then jp x L T h else nx L T h | _ => none)
  | .if_icmp .ne _ => (match S with | .int b :: .int a :: T => if a = b then nx L T h else jp x L T h | _ => none)
  | .if_icmp .lt _ => (match S with | .int b :: .int a :: T => if b ≤ a then nx L T h else jp x L T h | _ => none)
  | .if_icmp .ge _ => (match S with | .int b :: .int a :: T => if a < b then nx L T h else jp x L T h | _ => none)
  | .if_icmp .gt _ => (match S with | .int b :: .int a :: T => if a ≤ b then nx L T h else jp x L T h | _ => none)
  | .if_icmp .le _ => (match S with | .int b :: .int a :: T => if b < a then nx L T h else jp x L T h | _ => none)
  | .ifnull _ => (match S with | .ref a :: T => if a = 0 then jp x L T h else nx L T h | _ => none)
  | .ifnonnull _ => (match S with | .ref a :: T => if a = 0 then nx L T h else jp x L T h | _ => none)
  | .tableswitch _ _ _ _ => (match S with | .int a :: T => swC sw x a fun t => jp t L T h | _ => none)
  | .lookupswitch _ _ => (match S with | .int a :: T => swC sw x a fun t => jp t L T h | _ => none)
  | .ireturn => (match S with | [.int a] => rtN z a h | _ => none)
  | .lreturn => (match S with | [.long a] => some (.long a, h) | _ => none)
  | .areturn => (match S with | [.ref a] => some (.ref a, h) | _ => none)
  | .return_ => (match S with | [] => some (.null, h) | _ => none)
  | .getfield _ => (match z, S with | 0, .ref a :: T => gfI h x y a fun w => nx L (.int w :: T) h | 1, .ref a :: T => gfJ h x y a fun w => nx L (.long w :: T) h | 2, .ref a :: T => gfR h x y a fun w => nx L (.ref w :: T) h | _, _ => none)
  | .putfield _ => (match z, S with | 0, .int w :: .ref a :: T => pfI h x y a w fun h => nx L T h | 1, .long w :: .ref a :: T => pfJ h x y a w fun h => nx L T h | 2, .ref w :: .ref a :: T => pfR h x y a w fun h => nx L T h | 3, .int w :: .ref a :: T => pfZ h x y a w fun h => nx L T h | _, _ => none)
  | .new _ => nx L (.ref (mN h) :: S) (mk h (16 + x) y)
  | .newarray _ => (match S with | .int n :: T => nwA h x n fun a h => nx L (.ref a :: T) h | _ => none)
  | .anewarray _ => (match S with | .int n :: T => nwA h x n fun a h => nx L (.ref a :: T) h | _ => none)
  | .arraylength => (match S with | .ref a :: T => alN h a fun n => nx L (.int n :: T) h | _ => none)
  | .iaload => (match S with | .int i :: .ref a :: T => ldI h a i fun w => nx L (.int w :: T) h | _ => none)
  | .baload => (match S with | .int i :: .ref a :: T => ldB h a i fun w => nx L (.int w :: T) h | _ => none)
  | .laload => (match S with | .int i :: .ref a :: T => ldJ h a i fun w => nx L (.long w :: T) h | _ => none)
  | .aaload => (match S with | .int i :: .ref a :: T => ldR h a i fun w => nx L (.ref w :: T) h | _ => none)
  | .iastore => (match S with | .int w :: .int i :: .ref a :: T => stI h a i w fun h => nx L T h | _ => none)
  | .bastore => (match S with | .int w :: .int i :: .ref a :: T => stB h a i w fun h => nx L T h | _ => none)
  | .lastore => (match S with | .long w :: .int i :: .ref a :: T => stJ h a i w fun h => nx L T h | _ => none)
  | .aastore => (match S with | .ref w :: .int i :: .ref a :: T => stR h a i w fun h => nx L T h | _ => none)
  | .checkcast _ => (match S with | .ref a :: T => grd (Nat.beq (mS h a).1 1 && Nat.ble 8 a) (nx L (.ref a :: T) h) | _ => none)
  | .invokestatic _ => ivk cal rk r x y z S h fun S h => nx L S h
  | .invokevirtual _ => ivk cal rk r x y z S h fun S h => nx L S h
  | .invokespecial _ => ivk cal rk r x y z S h fun S h => nx L S h
  | _ => none
