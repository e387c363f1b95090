/-! each instruction: the goal ahead of it from the goal behind it -/
abbrev FX : Type := Program × Launch × Env × Room × State × MethodId × Array Value × List Frame × Method × Code × (State → Prop) × Nat × Nat
abbrev WX : Type := (Nat → Nat) × Nat × va_G × (Nat → ClassId) × Nat × (Nat → Int32)
def xp (x : FX) : Program := x.1
def xl (x : FX) : Launch := x.2.1
def xe (x : FX) : Env := x.2.2.1
def xRm (x : FX) : Room := x.2.2.2.1
def xs_ (x : FX) : State := x.2.2.2.2.1
def xm (x : FX) : MethodId := x.2.2.2.2.2.1
def xa (x : FX) : Array Value := x.2.2.2.2.2.2.1
def xb (x : FX) : List Frame := x.2.2.2.2.2.2.2.1
def xM_ (x : FX) : Method := x.2.2.2.2.2.2.2.2.1
def xc (x : FX) : Code := x.2.2.2.2.2.2.2.2.2.1
def xQ (x : FX) : State → Prop := x.2.2.2.2.2.2.2.2.2.2.1
def xn0 (x : FX) : Nat := x.2.2.2.2.2.2.2.2.2.2.2.1
def xc0 (x : FX) : Nat := x.2.2.2.2.2.2.2.2.2.2.2.2
def Wr (w : WX) (h : Mem) (H : Heap) : Prop := WR w.1 w.2.1 w.2.2.1 w.2.2.2.1 w.2.2.2.2.1 w.2.2.2.2.2 h H
def Kf (w : WX) (U : State) (H : Heap) : Prop := KF w.1 w.2.1 w.2.2.1 w.2.2.2.1 w.2.2.2.2.1 w.2.2.2.2.2 U H
def bs (w : WX) : Nat → Prop := fun q => w.2.1 ≤ q
/-- the world's addresses: from base on, in the order of making -/
def Wok (w : WX) : Prop := ∀ a, 8 ≤ a → w.1 a = w.2.1 + (a - 8)
def Ctx (w : WX) (x : FX) (M : Nat) : Prop :=
  (xp x).tables.exec = Jvm.exec ∧ (xc x).code = bM M ∧ (xc x).maxLocals = mxx M ∧ (xs_ x).vm.findClass (ON (gM M)) = some (xm x).cls ∧ (∀ v ∈ Wds, v.before (xa x) (xs_ x) = true) ∧ Kf w (xs_ x) (xs_ x).heap ∧ (xM_ x).locks = false ∧ ((yM M).name = "<init>" → (xM_ x).name = "<init>") ∧ w.2.1 ≤ (xs_ x).heap.size ∧ Wok w
def Wg (x : FX) (H : Heap) (locs : List Loc) (cells slots : Nat) (g : JFrame) : Prop := W (xp x) (xl x) (xe x) (xRm x) (xs_ x) (xm x) (xa x) (xb x) (xM_ x) (xc x) H locs cells slots (xQ x) g
def GW (w : WX) (x : FX) (M pc : Nat) (Lc S : List Value) (h : Mem) : Prop := ∀ H locs ls, Wr w h H → va_S (bs w) (xs_ x).heap H locs → LR w.1 ls (mxx M) Lc →
  Wg x H locs (mN h - xn0 x) (mC h - xc0 x) (F0 (xm x) pc ls (S.map (cv w.1)))
section
variable {w : WX} {x : FX} {M pc : Nat} {Lc T : List Value} {h : Mem}
theorem cr_cat (φ : Nat → Nat) (a : Nat) : (cr φ a).category = 1 := by cases a <;> rfl
theorem g_iconst (C : Ctx w x M) {n : Int} (hd : decode (bM M) pc = .ok (.iconst n, 1)) (k : GW w x M (pc + 1) Lc (.int (Int32.ofInt n) :: T) h) : GW w x M pc Lc T h := fun H locs ls hW hS hL => lv_iconst C.1 C.2.1 hd rfl (k H locs ls hW hS hL)
theorem g_bipush (C : Ctx w x M) {n : Int} (hd : decode (bM M) pc = .ok (.bipush n, 2)) (k : GW w x M (pc + 2) Lc (.int (Int8.ofInt n).toInt32 :: T) h) : GW w x M pc Lc T h := fun H locs ls hW hS hL => lv_bipush C.1 C.2.1 hd rfl (k H locs ls hW hS hL)
theorem g_sipush (C : Ctx w x M) {n : Int} (hd : decode (bM M) pc = .ok (.sipush n, 3)) (k : GW w x M (pc + 3) Lc (.int (Int16.ofInt n).toInt32 :: T) h) : GW w x M pc Lc T h := fun H locs ls hW hS hL => lv_sipush C.1 C.2.1 hd rfl (k H locs ls hW hS hL)
theorem g_lconst (C : Ctx w x M) {n : Fin 2} (hd : decode (bM M) pc = .ok (.lconst n, 1)) (k : GW w x M (pc + 1) Lc (.long (Int64.ofNat (n : Nat)) :: T) h) : GW w x M pc Lc T h := fun H locs ls hW hS hL => lv_lconst C.1 C.2.1 hd rfl (k H locs ls hW hS hL)
theorem g_null (C : Ctx w x M) (hd : decode (bM M) pc = .ok (.aconst_null, 1)) (k : GW w x M (pc + 1) Lc (.ref 0 :: T) h) : GW w x M pc Lc T h := fun H locs ls hW hS hL => lv_null C.1 C.2.1 hd (k H locs ls hW hS hL)
theorem g_iadd (C : Ctx w x M) {a b : Int32} (hd : decode (bM M) pc = .ok (.iadd, 1)) (k : GW w x M (pc + 1) Lc (.int (a + b) :: T) h) : GW w x M pc Lc (.int b :: .int a :: T) h := fun H locs ls hW hS hL => lv_iadd C.1 C.2.1 hd (k H locs ls hW hS hL)
theorem g_isub (C : Ctx w x M) {a b : Int32} (hd : decode (bM M) pc = .ok (.isub, 1)) (k : GW w x M (pc + 1) Lc (.int (a - b) :: T) h) : GW w x M pc Lc (.int b :: .int a :: T) h := fun H locs ls hW hS hL => lv_isub C.1 C.2.1 hd (k H locs ls hW hS hL)
theorem g_imul (C : Ctx w x M) {a b : Int32} (hd : decode (bM M) pc = .ok (.imul, 1)) (k : GW w x M (pc + 1) Lc (.int (a * b) :: T) h) : GW w x M pc Lc (.int b :: .int a :: T) h := fun H locs ls hW hS hL => lv_imul C.1 C.2.1 hd (k H locs ls hW hS hL)
theorem g_iand (C : Ctx w x M) {a b : Int32} (hd : decode (bM M) pc = .ok (.iand, 1)) (k : GW w x M (pc + 1) Lc (.int (a &&& b) :: T) h) : GW w x M pc Lc (.int b :: .int a :: T) h := fun H locs ls hW hS hL => lv_iand C.1 C.2.1 hd (k H locs ls hW hS hL)
theorem g_ior (C : Ctx w x M) {a b : Int32} (hd : decode (bM M) pc = .ok (.ior, 1)) (k : GW w x M (pc + 1) Lc (.int (a ||| b) :: T) h) : GW w x M pc Lc (.int b :: .int a :: T) h := fun H locs ls hW hS hL => lv_ior C.1 C.2.1 hd (k H locs ls hW hS hL)
theorem g_ixor (C : Ctx w x M) {a b : Int32} (hd : decode (bM M) pc = .ok (.ixor, 1)) (k : GW w x M (pc + 1) Lc (.int (a ^^^ b) :: T) h) : GW w x M pc Lc (.int b :: .int a :: T) h := fun H locs ls hW hS hL => lv_ixor C.1 C.2.1 hd (k H locs ls hW hS hL)
theorem g_ladd (C : Ctx w x M) {a b : Int64} (hd : decode (bM M) pc = .ok (.ladd, 1)) (k : GW w x M (pc + 1) Lc (.long (a + b) :: T) h) : GW w x M pc Lc (.long b :: .long a :: T) h := fun H locs ls hW hS hL => lv_ladd C.1 C.2.1 hd (k H locs ls hW hS hL)
theorem g_lsub (C : Ctx w x M) {a b : Int64} (hd : decode (bM M) pc = .ok (.lsub, 1)) (k : GW w x M (pc + 1) Lc (.long (a - b) :: T) h) : GW w x M pc Lc (.long b :: .long a :: T) h := fun H locs ls hW hS hL => lv_lsub C.1 C.2.1 hd (k H locs ls hW hS hL)
theorem g_lmul (C : Ctx w x M) {a b : Int64} (hd : decode (bM M) pc = .ok (.lmul, 1)) (k : GW w x M (pc + 1) Lc (.long (a * b) :: T) h) : GW w x M pc Lc (.long b :: .long a :: T) h := fun H locs ls hW hS hL => lv_lmul C.1 C.2.1 hd (k H locs ls hW hS hL)
theorem g_land (C : Ctx w x M) {a b : Int64} (hd : decode (bM M) pc = .ok (.land, 1)) (k : GW w x M (pc + 1) Lc (.long (a &&& b) :: T) h) : GW w x M pc Lc (.long b :: .long a :: T) h := fun H locs ls hW hS hL => lv_land C.1 C.2.1 hd (k H locs ls hW hS hL)
theorem g_lor (C : Ctx w x M) {a b : Int64} (hd : decode (bM M) pc = .ok (.lor, 1)) (k : GW w x M (pc + 1) Lc (.long (a ||| b) :: T) h) : GW w x M pc Lc (.long b :: .long a :: T) h := fun H locs ls hW hS hL => lv_lor C.1 C.2.1 hd (k H locs ls hW hS hL)
theorem g_lxor (C : Ctx w x M) {a b : Int64} (hd : decode (bM M) pc = .ok (.lxor, 1)) (k : GW w x M (pc + 1) Lc (.long (a ^^^ b) :: T) h) : GW w x M pc Lc (.long b :: .long a :: T) h := fun H locs ls hW hS hL => lv_lxor C.1 C.2.1 hd (k H locs ls hW hS hL)
theorem g_idiv (C : Ctx w x M) {a b : Int32} (hb : ¬ b = 0) (hd : decode (bM M) pc = .ok (.idiv, 1)) (k : GW w x M (pc + 1) Lc (.int (a / b) :: T) h) : GW w x M pc Lc (.int b :: .int a :: T) h := fun H locs ls hW hS hL => lv_idiv C.1 C.2.1 hd hb (k H locs ls hW hS hL)
theorem g_ldiv (C : Ctx w x M) {a b : Int64} (hb : ¬ b = 0) (hd : decode (bM M) pc = .ok (.ldiv, 1)) (k : GW w x M (pc + 1) Lc (.long (a / b) :: T) h) : GW w x M pc Lc (.long b :: .long a :: T) h := fun H locs ls hW hS hL => lv_ldiv C.1 C.2.1 hd hb (k H locs ls hW hS hL)
theorem lrem_eq_mod (x y : Int64) : x - (x / y) * y = x % y := by
  apply Int64.toInt_inj.mp
  have h1 := Int64.le_toInt (x % y)
  have h2 := Int64.toInt_lt (x % y)
  rw [Int64.toInt_sub, Int64.toInt_mul, Int64.toInt_div, Int.bmod_mul_bmod, Int.sub_bmod_bmod, Int.mul_comm (x.toInt.tdiv y.toInt), ← Int.tmod_def, ← Int64.toInt_mod]
  exact Int.bmod_eq_of_le_mul_two (by omega) (by omega)
theorem g_irem (C : Ctx w x M) {a b : Int32} (hb : ¬ b = 0) (hd : decode (bM M) pc = .ok (.irem, 1)) (k : GW w x M (pc + 1) Lc (.int (a % b) :: T) h) : GW w x M pc Lc (.int b :: .int a :: T) h := fun H locs ls hW hS hL => lv_irem C.1 C.2.1 hd hb (by rw [irem_eq_mod]; exact k H locs ls hW hS hL)
theorem g_lrem (C : Ctx w x M) {a b : Int64} (hb : ¬ b = 0) (hd : decode (bM M) pc = .ok (.lrem, 1)) (k : GW w x M (pc + 1) Lc (.long (a % b) :: T) h) : GW w x M pc Lc (.long b :: .long a :: T) h := fun H locs ls hW hS hL => lv_lrem C.1 C.2.1 hd hb (by rw [lrem_eq_mod]; exact k H locs ls hW hS hL)
theorem g_ishl (C : Ctx w x M) {a b : Int32} (hd : decode (bM M) pc = .ok (.ishl, 1)) (k : GW w x M (pc + 1) Lc (.int (a <<< (b &&& 31)) :: T) h) : GW w x M pc Lc (.int b :: .int a :: T) h := fun H locs ls hW hS hL => lv_ishl C.1 C.2.1 hd (k H locs ls hW hS hL)
theorem g_ishr (C : Ctx w x M) {a b : Int32} (hd : decode (bM M) pc = .ok (.ishr, 1)) (k : GW w x M (pc + 1) Lc (.int (a >>> (b &&& 31)) :: T) h) : GW w x M pc Lc (.int b :: .int a :: T) h := fun H locs ls hW hS hL => lv_ishr C.1 C.2.1 hd (k H locs ls hW hS hL)
theorem g_iushr (C : Ctx w x M) {a b : Int32} (hd : decode (bM M) pc = .ok (.iushr, 1)) (k : GW w x M (pc + 1) Lc (.int (a.toUInt32 >>> (b.toUInt32 &&& Int32.toUInt32 31)).toInt32 :: T) h) : GW w x M pc Lc (.int b :: .int a :: T) h := fun H locs ls hW hS hL => lv_iushr C.1 C.2.1 hd rfl (k H locs ls hW hS hL)
theorem g_lshl (C : Ctx w x M) {a : Int64} {b : Int32} (hd : decode (bM M) pc = .ok (.lshl, 1)) (k : GW w x M (pc + 1) Lc (.long (a <<< (b.toInt64 &&& 63)) :: T) h) : GW w x M pc Lc (.int b :: .long a :: T) h := fun H locs ls hW hS hL => lv_lshl C.1 C.2.1 hd rfl (k H locs ls hW hS hL)
theorem g_lshr (C : Ctx w x M) {a : Int64} {b : Int32} (hd : decode (bM M) pc = .ok (.lshr, 1)) (k : GW w x M (pc + 1) Lc (.long (a >>> (b.toInt64 &&& 63)) :: T) h) : GW w x M pc Lc (.int b :: .long a :: T) h := fun H locs ls hW hS hL => lv_lshr C.1 C.2.1 hd rfl (k H locs ls hW hS hL)
theorem g_ineg (C : Ctx w x M) {a : Int32} (hd : decode (bM M) pc = .ok (.ineg, 1)) (k : GW w x M (pc + 1) Lc (.int (-a) :: T) h) : GW w x M pc Lc (.int a :: T) h := fun H locs ls hW hS hL => lv_ineg C.1 C.2.1 hd (k H locs ls hW hS hL)
theorem g_lneg (C : Ctx w x M) {a : Int64} (hd : decode (bM M) pc = .ok (.lneg, 1)) (k : GW w x M (pc + 1) Lc (.long (-a) :: T) h) : GW w x M pc Lc (.long a :: T) h := fun H locs ls hW hS hL => lv_lneg C.1 C.2.1 hd (k H locs ls hW hS hL)
theorem g_lcmp (C : Ctx w x M) {a b : Int64} (hd : decode (bM M) pc = .ok (.lcmp, 1)) (k : GW w x M (pc + 1) Lc (.int (lg_cmp a b) :: T) h) : GW w x M pc Lc (.long b :: .long a :: T) h := fun H locs ls hW hS hL => W.lcmp C.1 C.2.1 hd (k H locs ls hW hS hL)
theorem g_i2l (C : Ctx w x M) {a : Int32} (hd : decode (bM M) pc = .ok (.i2l, 1)) (k : GW w x M (pc + 1) Lc (.long a.toInt64 :: T) h) : GW w x M pc Lc (.int a :: T) h := fun H locs ls hW hS hL => lv_i2l C.1 C.2.1 hd rfl (k H locs ls hW hS hL)
theorem g_l2i (C : Ctx w x M) {a : Int64} (hd : decode (bM M) pc = .ok (.l2i, 1)) (k : GW w x M (pc + 1) Lc (.int a.toInt32 :: T) h) : GW w x M pc Lc (.long a :: T) h := fun H locs ls hW hS hL => lv_l2i C.1 C.2.1 hd rfl (k H locs ls hW hS hL)
theorem g_i2b (C : Ctx w x M) {a : Int32} (hd : decode (bM M) pc = .ok (.i2b, 1)) (k : GW w x M (pc + 1) Lc (.int a.toInt8.toInt32 :: T) h) : GW w x M pc Lc (.int a :: T) h := fun H locs ls hW hS hL => lv_i2b C.1 C.2.1 hd rfl (k H locs ls hW hS hL)
theorem g_i2c (C : Ctx w x M) {a : Int32} (hd : decode (bM M) pc = .ok (.i2c, 1)) (k : GW w x M (pc + 1) Lc (.int (a.toUInt32 % 65536).toInt32 :: T) h) : GW w x M pc Lc (.int a :: T) h := fun H locs ls hW hS hL => lv_i2c C.1 C.2.1 hd rfl (k H locs ls hW hS hL)
theorem g_dupi (C : Ctx w x M) {a : Int32} (hd : decode (bM M) pc = .ok (.dup, 1)) (k : GW w x M (pc + 1) Lc (.int a :: .int a :: T) h) : GW w x M pc Lc (.int a :: T) h := fun H locs ls hW hS hL => lv_dup C.1 C.2.1 hd rfl (k H locs ls hW hS hL)
theorem g_dupr (C : Ctx w x M) {a : Nat} (hd : decode (bM M) pc = .ok (.dup, 1)) (k : GW w x M (pc + 1) Lc (.ref a :: .ref a :: T) h) : GW w x M pc Lc (.ref a :: T) h := fun H locs ls hW hS hL => lv_dup C.1 C.2.1 hd (cr_cat _ _) (k H locs ls hW hS hL)
theorem g_popi (C : Ctx w x M) {a : Int32} (hd : decode (bM M) pc = .ok (.pop, 1)) (k : GW w x M (pc + 1) Lc T h) : GW w x M pc Lc (.int a :: T) h := fun H locs ls hW hS hL => lv_pop C.1 C.2.1 hd rfl (k H locs ls hW hS hL)
theorem g_popr (C : Ctx w x M) {a : Nat} (hd : decode (bM M) pc = .ok (.pop, 1)) (k : GW w x M (pc + 1) Lc T h) : GW w x M pc Lc (.ref a :: T) h := fun H locs ls hW hS hL => lv_pop C.1 C.2.1 hd (cr_cat _ _) (k H locs ls hW hS hL)
theorem g_dup2ir (C : Ctx w x M) {b : Int32} {a : Nat} (hd : decode (bM M) pc = .ok (.dup2, 1)) (k : GW w x M (pc + 1) Lc (.int b :: .ref a :: .int b :: .ref a :: T) h) : GW w x M pc Lc (.int b :: .ref a :: T) h := fun H locs ls hW hS hL => lv_dup2_11 C.1 C.2.1 hd rfl (cr_cat _ _) (k H locs ls hW hS hL)
theorem g_dup2ii (C : Ctx w x M) {b a : Int32} (hd : decode (bM M) pc = .ok (.dup2, 1)) (k : GW w x M (pc + 1) Lc (.int b :: .int a :: .int b :: .int a :: T) h) : GW w x M pc Lc (.int b :: .int a :: T) h := fun H locs ls hW hS hL => lv_dup2_11 C.1 C.2.1 hd rfl rfl (k H locs ls hW hS hL)
theorem g_dup2l (C : Ctx w x M) {a : Int64} (hd : decode (bM M) pc = .ok (.dup2, 1)) (k : GW w x M (pc + 1) Lc (.long a :: .long a :: T) h) : GW w x M pc Lc (.long a :: T) h := fun H locs ls hW hS hL => lv_dup2_2 C.1 C.2.1 hd rfl (k H locs ls hW hS hL)
theorem g_dupx1 (C : Ctx w x M) {b : Int32} {a : Nat} (hd : decode (bM M) pc = .ok (.dup_x1, 1)) (k : GW w x M (pc + 1) Lc (.int b :: .ref a :: .int b :: T) h) : GW w x M pc Lc (.int b :: .ref a :: T) h := fun H locs ls hW hS hL => lv_dup_x1 C.1 C.2.1 hd rfl (cr_cat _ _) (k H locs ls hW hS hL)
theorem g_iload_n (C : Ctx w x M) {q : Fin 4} {i : Nat} {a : Int32} (hi : (q : Nat) = i) (hl : nth Lc i = .int a) (hd : decode (bM M) pc = .ok (.iload_n q, 1)) (k : GW w x M (pc + 1) Lc (.int a :: T) h) : GW w x M pc Lc T h := fun H locs ls hW hS hL => lv_iload_n C.1 C.2.1 hd hi (lr_at hL hl (fun e => by cases e)) (k H locs ls hW hS hL)
theorem g_iload (C : Ctx w x M) {i : Nat} {a : Int32} (hl : nth Lc i = .int a) (hd : decode (bM M) pc = .ok (.iload i, 2)) (k : GW w x M (pc + 2) Lc (.int a :: T) h) : GW w x M pc Lc T h := fun H locs ls hW hS hL => lv_iload C.1 C.2.1 hd (lr_at hL hl (fun e => by cases e)) (k H locs ls hW hS hL)
theorem g_istore_n (C : Ctx w x M) {i : Nat} {q : Fin 4} (hi : (q : Nat) = i) {a : Int32} (hn : i < mxx M) (hd : decode (bM M) pc = .ok (.istore_n q, 1)) (k : GW w x M (pc + 1) (st1 Lc i (.int a)) T h) : GW w x M pc Lc (.int a :: T) h := by
  intro H locs ls hW hS hL
  obtain ⟨lv, h1, h2⟩ := hL
  exact lv_istore_n C.1 C.2.1 hd hi h1 hn rfl (fun ls' h' => k H locs ls' hW hS (lr_st1 h2 rfl h'))
theorem g_istore (C : Ctx w x M) {i : Nat} {a : Int32} (hn : i < mxx M) (hd : decode (bM M) pc = .ok (.istore i, 2)) (k : GW w x M (pc + 2) (st1 Lc i (.int a)) T h) : GW w x M pc Lc (.int a :: T) h := by
  intro H locs ls hW hS hL
  obtain ⟨lv, h1, h2⟩ := hL
  exact lv_istore C.1 C.2.1 hd h1 hn rfl (fun ls' h' => k H locs ls' hW hS (lr_st1 h2 rfl h'))
theorem g_lload_n (C : Ctx w x M) {q : Fin 4} {i : Nat} {a : Int64} (hi : (q : Nat) = i) (hl : nth Lc i = .long a) (hd : decode (bM M) pc = .ok (.lload_n q, 1)) (k : GW w x M (pc + 1) Lc (.long a :: T) h) : GW w x M pc Lc T h := fun H locs ls hW hS hL => lv_lload_n C.1 C.2.1 hd hi (lr_at hL hl (fun e => by cases e)) (k H locs ls hW hS hL)
theorem g_lload (C : Ctx w x M) {i : Nat} {a : Int64} (hl : nth Lc i = .long a) (hd : decode (bM M) pc = .ok (.lload i, 2)) (k : GW w x M (pc + 2) Lc (.long a :: T) h) : GW w x M pc Lc T h := fun H locs ls hW hS hL => lv_lload C.1 C.2.1 hd (lr_at hL hl (fun e => by cases e)) (k H locs ls hW hS hL)
theorem g_lstore_n (C : Ctx w x M) {i : Nat} {q : Fin 4} (hi : (q : Nat) = i) {a : Int64} (hn : i + 1 < mxx M) (hd : decode (bM M) pc = .ok (.lstore_n q, 1)) (k : GW w x M (pc + 1) (st2 Lc i (.long a)) T h) : GW w x M pc Lc (.long a :: T) h := by
  intro H locs ls hW hS hL
  obtain ⟨lv, h1, h2⟩ := hL
  exact lv_lstore_n C.1 C.2.1 hd hi h1 hn rfl (fun ls' h' => k H locs ls' hW hS (lr_st2 h2 rfl h'))
theorem g_lstore (C : Ctx w x M) {i : Nat} {a : Int64} (hn : i + 1 < mxx M) (hd : decode (bM M) pc = .ok (.lstore i, 2)) (k : GW w x M (pc + 2) (st2 Lc i (.long a)) T h) : GW w x M pc Lc (.long a :: T) h := by
  intro H locs ls hW hS hL
  obtain ⟨lv, h1, h2⟩ := hL
  exact lv_lstore C.1 C.2.1 hd h1 hn rfl (fun ls' h' => k H locs ls' hW hS (lr_st2 h2 rfl h'))
theorem g_aload_n (C : Ctx w x M) {i : Nat} {q : Fin 4} (hi : (q : Nat) = i) {a : Nat} (hl : nth Lc i = .ref a) (hd : decode (bM M) pc = .ok (.aload_n q, 1)) (k : GW w x M (pc + 1) Lc (.ref a :: T) h) : GW w x M pc Lc T h := by
  intro H locs ls hW hS hL
  have e := lr_at hL hl (fun e => by cases e)
  have kk := k H locs ls hW hS hL
  cases a with
  | zero => exact lv_aload_nN C.1 C.2.1 hd hi e kk
  | succ n => exact lv_aload_n C.1 C.2.1 hd hi e kk
theorem g_astore_n (C : Ctx w x M) {i : Nat} {q : Fin 4} (hi : (q : Nat) = i) {a : Nat} (hn : i < mxx M) (hd : decode (bM M) pc = .ok (.astore_n q, 1)) (k : GW w x M (pc + 1) (st1 Lc i (.ref a)) T h) : GW w x M pc Lc (.ref a :: T) h := by
  intro H locs ls hW hS hL
  obtain ⟨lv, h1, h2⟩ := hL
  cases a with
  | zero => exact lv_astore_nN C.1 C.2.1 hd hi h1 hn rfl (fun ls' h' => k H locs ls' hW hS (lr_st1 (v := .ref 0) h2 rfl h'))
  | succ n => exact lv_astore_n C.1 C.2.1 hd hi h1 hn rfl (fun ls' h' => k H locs ls' hW hS (lr_st1 (v := .ref (n + 1)) h2 rfl h'))
theorem g_aload (C : Ctx w x M) {i : Nat} {a : Nat} (hl : nth Lc i = .ref a) (hd : decode (bM M) pc = .ok (.aload i, 2)) (k : GW w x M (pc + 2) Lc (.ref a :: T) h) : GW w x M pc Lc T h := by
  intro H locs ls hW hS hL
  have e := lr_at hL hl (fun e => by cases e)
  have kk := k H locs ls hW hS hL
  cases a with
  | zero => exact lv_aloadN C.1 C.2.1 hd e kk
  | succ n => exact lv_aload C.1 C.2.1 hd e kk
theorem g_astore (C : Ctx w x M) {i : Nat} {a : Nat} (hn : i < mxx M) (hd : decode (bM M) pc = .ok (.astore i, 2)) (k : GW w x M (pc + 2) (st1 Lc i (.ref a)) T h) : GW w x M pc Lc (.ref a :: T) h := by
  intro H locs ls hW hS hL
  obtain ⟨lv, h1, h2⟩ := hL
  cases a with
  | zero => exact lv_astoreN C.1 C.2.1 hd h1 hn rfl (fun ls' h' => k H locs ls' hW hS (lr_st1 (v := .ref 0) h2 rfl h'))
  | succ n => exact lv_astore C.1 C.2.1 hd h1 hn rfl (fun ls' h' => k H locs ls' hW hS (lr_st1 (v := .ref (n + 1)) h2 rfl h'))
theorem g_iinc (C : Ctx w x M) {i : Nat} {n : Int} {a : Int32} (hl : nth Lc i = .int a) (hn : i < mxx M) (hd : decode (bM M) pc = .ok (.iinc i n, 3)) (k : GW w x M (pc + 3) (st1 Lc i (.int (a + Int32.ofInt n))) T h) : GW w x M pc Lc T h := by
  intro H locs ls hW hS hL
  obtain ⟨lv, h1, h2⟩ := hL
  have h3 := h2 i (by rw [hl]; exact fun e => by cases e)
  rw [hl] at h3
  obtain ⟨j, hj⟩ := List.getElem?_of_mem h3
  exact lv_iinc (k := j) C.1 C.2.1 hd h1 hj rfl hn rfl (fun ls' h' => k H locs ls' hW hS (lr_st1 h2 rfl h'))
theorem g_if_eq (C : Ctx w x M) {a : Int32} {off : Int} {t : Nat} (ht : (pc : Int) + off = (t : Int)) (hd : decode (bM M) pc = .ok (.ifCond .eq off, 3)) (kc : a = 0 → GW w x M t Lc T h) (ke : ¬ a = 0 → GW w x M (pc + 3) Lc T h) : GW w x M pc Lc (.int a :: T) h := fun H locs ls hW hS hL => lv_if_eq C.1 C.2.1 hd ht (fun q => kc q H locs ls hW hS hL) (fun q => ke q H locs ls hW hS hL)
theorem g_if_ne (C : Ctx w x M) {a : Int32} {off : Int} {t : Nat} (ht : (pc : Int) + off = (t : Int)) (hd : decode (bM M) pc = .ok (.ifCond .ne off, 3)) (kc : a = 0 → GW w x M (pc + 3) Lc T h) (ke : ¬ a = 0 → GW w x M t Lc T h) : GW w x M pc Lc (.int a :: T) h := fun H locs ls hW hS hL => lv_if_ne C.1 C.2.1 hd ht (fun q => ke q H locs ls hW hS hL) (fun q => kc q H locs ls hW hS hL)
theorem g_if_lt (C : Ctx w x M) {a : Int32} {off : Int} {t : Nat} (ht : (pc : Int) + off = (t : Int)) (hd : decode (bM M) pc = .ok (.ifCond .lt off, 3)) (kc : 0 ≤ a → GW w x M (pc + 3) Lc T h) (ke : ¬ 0 ≤ a → GW w x M t Lc T h) : GW w x M pc Lc (.int a :: T) h := fun H locs ls hW hS hL => lv_if_lt C.1 C.2.1 hd ht (fun q => ke (fun r => absurd q (Int32.not_lt.mpr r)) H locs ls hW hS hL) (fun q => kc (Int32.not_lt.mp q) H locs ls hW hS hL)
theorem g_if_ge (C : Ctx w x M) {a : Int32} {off : Int} {t : Nat} (ht : (pc : Int) + off = (t : Int)) (hd : decode (bM M) pc = .ok (.ifCond .ge off, 3)) (kc : a < 0 → GW w x M (pc + 3) Lc T h) (ke : ¬ a < 0 → GW w x M t Lc T h) : GW w x M pc Lc (.int a :: T) h := fun H locs ls hW hS hL => lv_if_ge C.1 C.2.1 hd ht (fun q => ke (fun r => absurd q (Int32.not_le.mpr r)) H locs ls hW hS hL) (fun q => kc (Int32.not_le.mp q) H locs ls hW hS hL)
theorem g_if_gt (C : Ctx w x M) {a : Int32} {off : Int} {t : Nat} (ht : (pc : Int) + off = (t : Int)) (hd : decode (bM M) pc = .ok (.ifCond .gt off, 3)) (kc : a ≤ 0 → GW w x M (pc + 3) Lc T h) (ke : ¬ a ≤ 0 → GW w x M t Lc T h) : GW w x M pc Lc (.int a :: T) h := fun H locs ls hW hS hL => lv_if_gt C.1 C.2.1 hd ht (fun q => ke (fun r => absurd q (Int32.not_lt.mpr r)) H locs ls hW hS hL) (fun q => kc (Int32.not_lt.mp q) H locs ls hW hS hL)
theorem g_if_le (C : Ctx w x M) {a : Int32} {off : Int} {t : Nat} (ht : (pc : Int) + off = (t : Int)) (hd : decode (bM M) pc = .ok (.ifCond .le off, 3)) (kc : 0 < a → GW w x M (pc + 3) Lc T h) (ke : ¬ 0 < a → GW w x M t Lc T h) : GW w x M pc Lc (.int a :: T) h := fun H locs ls hW hS hL => lv_if_le C.1 C.2.1 hd ht (fun q => ke (fun r => absurd q (Int32.not_le.mpr r)) H locs ls hW hS hL) (fun q => kc (Int32.not_le.mp q) H locs ls hW hS hL)
theorem g_cmp_eq (C : Ctx w x M) {a b : Int32} {off : Int} {t : Nat} (ht : (pc : Int) + off = (t : Int)) (hd : decode (bM M) pc = .ok (.if_icmp .eq off, 3)) (kc : a = b → GW w x M t Lc T h) (ke : ¬ a = b → GW w x M (pc + 3) Lc T h) : GW w x M pc Lc (.int b :: .int a :: T) h := fun H locs ls hW hS hL => lv_icmp_eq C.1 C.2.1 hd ht (fun q => kc q H locs ls hW hS hL) (fun q => ke q H locs ls hW hS hL)
theorem g_cmp_ne (C : Ctx w x M) {a b : Int32} {off : Int} {t : Nat} (ht : (pc : Int) + off = (t : Int)) (hd : decode (bM M) pc = .ok (.if_icmp .ne off, 3)) (kc : a = b → GW w x M (pc + 3) Lc T h) (ke : ¬ a = b → GW w x M t Lc T h) : GW w x M pc Lc (.int b :: .int a :: T) h := fun H locs ls hW hS hL => lv_icmp_ne C.1 C.2.1 hd ht (fun q => ke q H locs ls hW hS hL) (fun q => kc q H locs ls hW hS hL)
theorem g_cmp_lt (C : Ctx w x M) {a b : Int32} {off : Int} {t : Nat} (ht : (pc : Int) + off = (t : Int)) (hd : decode (bM M) pc = .ok (.if_icmp .lt off, 3)) (kc : b ≤ a → GW w x M (pc + 3) Lc T h) (ke : ¬ b ≤ a → GW w x M t Lc T h) : GW w x M pc Lc (.int b :: .int a :: T) h := fun H locs ls hW hS hL => lv_icmp_lt C.1 C.2.1 hd ht (fun q => ke (fun r => absurd q (Int32.not_lt.mpr r)) H locs ls hW hS hL) (fun q => kc (Int32.not_lt.mp q) H locs ls hW hS hL)
theorem g_cmp_ge (C : Ctx w x M) {a b : Int32} {off : Int} {t : Nat} (ht : (pc : Int) + off = (t : Int)) (hd : decode (bM M) pc = .ok (.if_icmp .ge off, 3)) (kc : a < b → GW w x M (pc + 3) Lc T h) (ke : ¬ a < b → GW w x M t Lc T h) : GW w x M pc Lc (.int b :: .int a :: T) h := fun H locs ls hW hS hL => lv_icmp_ge C.1 C.2.1 hd ht (fun q => ke (fun r => absurd q (Int32.not_le.mpr r)) H locs ls hW hS hL) (fun q => kc (Int32.not_le.mp q) H locs ls hW hS hL)
theorem g_cmp_gt (C : Ctx w x M) {a b : Int32} {off : Int} {t : Nat} (ht : (pc : Int) + off = (t : Int)) (hd : decode (bM M) pc = .ok (.if_icmp .gt off, 3)) (kc : a ≤ b → GW w x M (pc + 3) Lc T h) (ke : ¬ a ≤ b → GW w x M t Lc T h) : GW w x M pc Lc (.int b :: .int a :: T) h := fun H locs ls hW hS hL => lv_icmp_gt C.1 C.2.1 hd ht (fun q => ke (fun r => absurd q (Int32.not_lt.mpr r)) H locs ls hW hS hL) (fun q => kc (Int32.not_lt.mp q) H locs ls hW hS hL)
theorem g_cmp_le (C : Ctx w x M) {a b : Int32} {off : Int} {t : Nat} (ht : (pc : Int) + off = (t : Int)) (hd : decode (bM M) pc = .ok (.if_icmp .le off, 3)) (kc : b < a → GW w x M (pc + 3) Lc T h) (ke : ¬ b < a → GW w x M t Lc T h) : GW w x M pc Lc (.int b :: .int a :: T) h := fun H locs ls hW hS hL => lv_icmp_le C.1 C.2.1 hd ht (fun q => ke (fun r => absurd q (Int32.not_le.mpr r)) H locs ls hW hS hL) (fun q => kc (Int32.not_le.mp q) H locs ls hW hS hL)
theorem g_goto (C : Ctx w x M) {off : Int} {t : Nat} (ht : (pc : Int) + off = (t : Int)) (hd : decode (bM M) pc = .ok (.goto off, 3)) (k : GW w x M t Lc T h) : GW w x M pc Lc T h := fun H locs ls hW hS hL => lv_goto C.1 C.2.1 hd ht (k H locs ls hW hS hL)
theorem g_ifnull (C : Ctx w x M) {a : Nat} {off : Int} {t : Nat} (ht : (pc : Int) + off = (t : Int)) (hd : decode (bM M) pc = .ok (.ifnull off, 3)) (kc : a = 0 → GW w x M t Lc T h) (ke : ¬ a = 0 → GW w x M (pc + 3) Lc T h) : GW w x M pc Lc (.ref a :: T) h := by
  intro H locs ls hW hS hL
  cases a with
  | zero => exact lv_ifnullN C.1 C.2.1 hd ht (kc rfl H locs ls hW hS hL)
  | succ n => exact lv_ifnull C.1 C.2.1 hd (ke (Nat.succ_ne_zero n) H locs ls hW hS hL)
theorem g_ifnonnull (C : Ctx w x M) {a : Nat} {off : Int} {t : Nat} (ht : (pc : Int) + off = (t : Int)) (hd : decode (bM M) pc = .ok (.ifnonnull off, 3)) (kc : a = 0 → GW w x M (pc + 3) Lc T h) (ke : ¬ a = 0 → GW w x M t Lc T h) : GW w x M pc Lc (.ref a :: T) h := by
  intro H locs ls hW hS hL
  cases a with
  | zero => exact lv_ifnonnullN C.1 C.2.1 hd (kc rfl H locs ls hW hS hL)
  | succ n => exact lv_ifnonnull C.1 C.2.1 hd ht (ke (Nat.succ_ne_zero n) H locs ls hW hS hL)
end
