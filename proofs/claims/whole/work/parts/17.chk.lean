/-! what the checks tie an op to, and one step -/
def vI : Value → Int32
  | .int c => c
  | _ => 0
def vJ : Value → Int64
  | .long c => c
  | _ => 0
def isRet : Instr → Bool
  | .ireturn => true
  | .lreturn => true
  | .areturn => true
  | .return_ => true
  | _ => false
def swT : List (Int32 × Nat) → Nat → Int32 → Nat
  | [], d, _ => d
  | (c, t) :: l, d, x => if x = c then t else swT l d x
theorem swC_T : ∀ (l : List (Int32 × Nat)) (d : Nat) (x : Int32) (f : Nat → Rs), swC l d x f = f (swT l d x)
  | [], _, _, _ => rfl
  | (c, t) :: l, d, x, f => by
    rw [swC, swT]
    by_cases e : x = c
    · rw [if_pos e, if_pos e]
    · rw [if_neg e, if_neg e]; exact swC_T l d x f
theorem swT_out : ∀ (l : List (Int32 × Nat)) (d : Nat) (x : Int32), (∀ q ∈ l, q.1 ≠ x) → swT l d x = d
  | [], _, _, _ => rfl
  | (c, t) :: l, d, x, h => by
    rw [swT, if_neg (fun e => h _ List.mem_cons_self e.symm)]
    exact swT_out l d x fun q hq => h q (List.mem_cons_of_mem _ hq)
/-- a table switch's roads -/
abbrev tsOk (pc x : Nat) (d lo hi : Int) (offs : Array Int) (sw : List (Int32 × Nat)) : Prop :=
  (pc : Int) + d = x ∧ (∀ q ∈ sw, lo ≤ q.1.toInt ∧ q.1.toInt ≤ hi) ∧ lo ≤ hi ∧ hi - lo + 1 = offs.size ∧ ∀ i, i < offs.size → (pc : Int) + offs.getD i 0 = swT sw x (Int32.ofInt (lo + i))
/-- a search switch's -/
abbrev lsOk (pc x : Nat) (d : Int) (ps : List (Int × Int)) (sw : List (Int32 × Nat)) : Prop :=
  (pc : Int) + d = x ∧ (ps.zip (ps.drop 1)).all (fun (a, next) => a.1 < next.1) = true ∧ sw = ps.map (fun q => (Int32.ofInt q.1, (pc + q.2 : Int).toNat)) ∧ ∀ q ∈ ps, 0 ≤ (pc : Int) + q.2 ∧ (Int32.ofInt q.1).toInt = q.1
theorem ls_off {pc x : Nat} {d : Int} (hx : (pc : Int) + d = x) (a : Int32) : ∀ (ps : List (Int × Int)), (∀ q ∈ ps, 0 ≤ (pc : Int) + q.2 ∧ (Int32.ofInt q.1).toInt = q.1) → (pc : Int) + Op.lookupswitch.offset ps d a.toInt = (swT (ps.map (fun q => (Int32.ofInt q.1, (pc + q.2 : Int).toNat))) x a : Nat) := by
  intro ps
  induction ps with
  | nil => intro _; exact hx
  | cons q l ih =>
    intro h
    obtain ⟨k, off⟩ := q
    obtain ⟨h1, h2⟩ := h _ List.mem_cons_self
    have ih' := ih fun q hq => h q (List.mem_cons_of_mem _ hq)
    rw [List.map_cons, swT, Op.lookupswitch.offset_cons]
    by_cases e : k = a.toInt
    · have e2 : a = Int32.ofInt k := by rw [e, Int32.ofInt_toInt]
      rw [if_pos e2]
      simp only [e, if_true, beq_self_eq_true]
      dsimp only at h1
      omega
    · have e2 : ¬ a = Int32.ofInt k := fun q => e (by rw [q]; exact h2.symm)
      rw [if_neg e2]
      simp only [e, if_false, beq_iff_eq]
      exact ih'
def pz : FieldType → Nat
  | .boolean => 3
  | .int => 0
  | .long => 1
  | .object _ => 2
  | .array _ => 2
  | _ => 9
def chk (M : Nat) (o : Op) : Bool := match o with
  | (pc, i, len, x, y, z, v, sw) => match i with
  | .iconst n => decide (v = .int (Int32.ofInt n) ∧ len = 1)
  | .bipush n => decide (v = .int (Int8.ofInt n).toInt32 ∧ len = 2)
  | .sipush n => decide (v = .int (Int16.ofInt n).toInt32 ∧ len = 3)
  | .lconst n => decide (v = .long (Int64.ofNat (n : Nat)) ∧ len = 1)
  | .ldc idx => decide (len = 2 ∧ ((v = .int (vI v) ∧ (gM M, idx, vI v) ∈ KI) ∨ (gM M = gTape ∧ ((idx = xk2 ∧ v = .ref 2) ∨ (idx = xk3 ∧ v = .ref 3)))))
  | .ldc_w idx => decide (len = 3 ∧ v = .int (vI v) ∧ (gM M, idx, vI v) ∈ KI)
  | .ldc2_w idx => decide (len = 3 ∧ v = .long (vJ v) ∧ (gM M, idx, vJ v) ∈ KJ)
  | .aconst_null => decide (len = 1)
  | .getstatic idx => decide (len = 3 ∧ ((v = .ref 1 ∧ (gM M, idx, 1) ∈ SL) ∨ (v = .int 1 ∧ (gM M, idx, 2) ∈ SL) ∨ (v = .retAddr 1 ∧ (gM M, idx, 3) ∈ SL)))
  | .iload_n k => decide ((k : Nat) = x ∧ len = 1)
  | .lload_n k => decide ((k : Nat) = x ∧ len = 1)
  | .aload_n k => decide ((k : Nat) = x ∧ len = 1)
  | .iload k => decide (k = x ∧ len = 2)
  | .lload k => decide (k = x ∧ len = 2)
  | .aload k => decide (k = x ∧ len = 2)
  | .istore_n k => decide ((k : Nat) = x ∧ len = 1 ∧ x < mxx M)
  | .astore_n k => decide ((k : Nat) = x ∧ len = 1 ∧ x < mxx M)
  | .lstore_n k => decide ((k : Nat) = x ∧ len = 1 ∧ x + 1 < mxx M)
  | .istore k => decide (k = x ∧ len = 2 ∧ x < mxx M)
  | .astore k => decide (k = x ∧ len = 2 ∧ x < mxx M)
  | .lstore k => decide (k = x ∧ len = 2 ∧ x + 1 < mxx M)
  | .iinc k n => decide (k = x ∧ v = .int (Int32.ofInt n) ∧ len = 3 ∧ x < mxx M)
  | .goto off => decide ((pc : Int) + off = (x : Int) ∧ len = 3)
  | .ifCond _ off => decide ((pc : Int) + off = (x : Int) ∧ len = 3)
  | .if_icmp _ off => decide ((pc : Int) + off = (x : Int) ∧ len = 3)
  | .ifnull off => decide ((pc : Int) + off = (x : Int) ∧ len = 3)
  | .ifnonnull off => decide ((pc : Int) + off = (x : Int) ∧ len = 3)
  | .tableswitch d lo hi offs => decide (tsOk pc x d lo hi offs sw)
  | .lookupswitch d ps => decide (lsOk pc x d ps.toList sw)
  | .ireturn => decide (len = 1 ∧ ((z = 0 ∧ rM M = some .int) ∨ (z = 1 ∧ rM M = some .boolean) ∨ (z = 2 ∧ rM M = some .char) ∨ (z = 3 ∧ rM M = some .byte)))
  | .lreturn => decide (len = 1 ∧ rM M = some .long)
  | .areturn => decide (len = 1 ∧ (match rM M with | some (.object _) => true | some (.array _) => true | _ => false) = true)
  | .return_ => decide (len = 1 ∧ rM M = none)
  | .getfield idx => decide (len = 3 ∧ (((gM M, idx, x, y, false) ∈ FL ∧ x = 12 ∧ y < 2 ∧ z = (if y = 0 then 2 else 0)) ∨ (((gM M, idx, x, y, false) ∈ FL ∨ (gM M, idx, x, y, true) ∈ FL) ∧ x < 12 ∧ y < nf x ∧ z = lieT (tyF x y))))
  | .putfield idx => decide (len = 3 ∧ x < 12 ∧ y < nf x ∧ z = pz (tyF x y) ∧ (((gM M, idx, x, y, false) ∈ FL ∧ (TT x y).2.2.2 = true ∧ (yM M).name = "<init>" ∧ CN x = ON (gM M)) ∨ ((TT x y).2.2.2 = false ∧ ((gM M, idx, x, y, false) ∈ FL ∨ (gM M, idx, x, y, true) ∈ FL))))
  | .new idx => decide (len = 3 ∧ x < 12 ∧ y = nf x ∧ (gM M, idx, 16 + x) ∈ CL)
  | .newarray t => decide (len = 2 ∧ (x = 1 ∨ x = 2 ∨ x = 3) ∧ newarray.typeOf t = tyK x)
  | .anewarray idx => decide (len = 3 ∧ (x = 5 ∨ x = 6) ∧ (gM M, idx, x) ∈ CL)
  | .checkcast idx => decide (len = 3 ∧ (gM M, idx, 1) ∈ CL)
  | .invokestatic idx => decide (len = 3 ∧ ((z = 9 ∧ (gM M, idx) = spC) ∨ (z < 9 ∧ (x = 0 ∨ (x ∈ idsT ∧ stM x = true ∧ ((gM M, idx, x, false) ∈ ML ∨ (gM M, idx, x, true) ∈ ML))))))
  | .invokevirtual idx => decide (len = 3 ∧ ((z = 10 ∧ (gM M, idx) = spL) ∨ (z < 9 ∧ (x = 0 ∨ (x ∈ idsV ∧ ((gM M, idx, x, false) ∈ ML ∨ (gM M, idx, x, true) ∈ ML))))))
  | .invokespecial idx => decide (len = 3 ∧ ((z = 11 ∧ (gM M, idx) ∈ SI) ∨ (z < 9 ∧ (x = 0 ∨ (x ∈ idsT ∧ stM x = false ∧ (yM x).name = "<init>" ∧ rM x = none ∧ 16 ≤ kdW x ∧ kdW x < 28 ∧ ((gM M, idx, x, false) ∈ ML ∨ (gM M, idx, x, true) ∈ ML))))))
  | .athrow => true
  | _ => decide (len = 1)
