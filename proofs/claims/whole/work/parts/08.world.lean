/-! worlds: what a heap holds where an abstract memory stands -/
def nf : Nat → Nat
  | 0 => 1
  | 1 => 4
  | 2 => 13
  | 3 => 3
  | 4 => 11
  | 5 => 8
  | 6 => 4
  | 7 => 10
  | 8 => 6
  | 9 => 4
  | 10 => 9
  | 11 => 39
  | _ => 0
def TT : Nat → u_T
  | 0 => T_0
  | 1 => T_1
  | 2 => T_2
  | 3 => T_3
  | 4 => T_4
  | 5 => T_5
  | 6 => T_6
  | 7 => T_7
  | 8 => T_8
  | 9 => T_9
  | 10 => T_10
  | _ => T_11
def CN : Nat → String
  | 0 => "QuiverKin$Asker"
  | 1 => "QuiverKin$Flier"
  | 2 => "QuiverKin$House"
  | 3 => "QuiverKin$Pairs"
  | 4 => "QuiverKin$Reader"
  | 5 => "QuiverKin$Rounds"
  | 6 => "QuiverKin$Rows"
  | 7 => "QuiverKin$Table"
  | 8 => "QuiverKin$Tape"
  | 9 => "QuiverKin$Text"
  | 10 => "QuiverKin"
  | _ => "QuiverKinModel"
def tyF : Nat → Nat → FieldType
  | 0 => ty_0
  | 1 => ty_1
  | 2 => ty_2
  | 3 => ty_3
  | 4 => ty_4
  | 5 => ty_5
  | 6 => ty_6
  | 7 => ty_7
  | 8 => ty_8
  | 9 => ty_9
  | 10 => ty_10
  | _ => ty_11
/-- how a value of a type lies in the three rows: 0 as an int, 1 as a long, 2 as a reference -/
def lieT : FieldType → Nat
  | .long => 1
  | .object _ => 2
  | .array _ => 2
  | _ => 0
theorem clv_at {ci : Nat} (h : ci < 12) : clv[ci]? = some (CN ci, TT ci, nf ci) := by
  rcases ci with _ | _ | _ | _ | _ | _ | _ | _ | _ | _ | _ | _ | ci <;> first | rfl | omega
theorem nm_at {ci : Nat} (h : ci < 12) : ∀ a, a < nf ci → ∀ b, b < nf ci → a ≠ b → (TT ci a).2.1 ≠ (TT ci b).2.1 := by
  rcases ci with _ | _ | _ | _ | _ | _ | _ | _ | _ | _ | _ | _ | ci
  · exact nm_0
  · exact nm_1
  · exact nm_2
  · exact nm_3
  · exact nm_4
  · exact nm_5
  · exact nm_6
  · exact nm_7
  · exact nm_8
  · exact nm_9
  · exact nm_10
  · exact nm_11
  · omega
theorem ty_at {ci : Nat} (h : ci < 12) : ∀ k, k < nf ci → parseFieldDescriptor (TT ci k).2.2.1 = some (tyF ci k) := by
  rcases ci with _ | _ | _ | _ | _ | _ | _ | _ | _ | _ | _ | _ | ci
  · exact ty_0_ok
  · exact ty_1_ok
  · exact ty_2_ok
  · exact ty_3_ok
  · exact ty_4_ok
  · exact ty_5_ok
  · exact ty_6_ok
  · exact ty_7_ok
  · exact ty_8_ok
  · exact ty_9_ok
  · exact ty_10_ok
  · exact ty_11_ok
  · omega
def xS (L : Nat) : Nat → Nat × Nat
  | 1 => (8, 23)
  | 2 => (28, 2)
  | 3 => (28, 2)
  | 4 => (9, xn2)
  | 5 => (9, xn3)
  | 6 => (8, L)
  | 7 => (10, 0)
  | _ => (0, 0)
def xI (xs : Nat → Int32) : Nat → Nat → Int32
  | 1 => fun j => xlos.getD j 0
  | 4 => fun j => xb2.getD j 0
  | 5 => fun j => xb3.getD j 0
  | 6 => xs
  | _ => fun _ => 0
def xR : Nat → Nat → Nat
  | 2 => fun k => if k = 0 then 4 else 0
  | 3 => fun k => if k = 0 then 5 else 0
  | _ => fun _ => 0
def ExtM (L : Nat) (xs : Nat → Int32) (h : Mem) : Prop := ∀ a, a < 8 → mS h a = xS L a ∧ mI h a = xI xs a ∧ mR h a = xR a
def tyK : Nat → FieldType
  | 1 => .int
  | 2 => .boolean
  | 3 => .long
  | 5 => .object "QuiverKin$Table"
  | _ => .object "QuiverKin$Text"
section
variable (φ : Nat → Nat) (base : Nat) (D : va_G) (AC : Nat → ClassId)
def cr : Nat → Value
  | 0 => .null
  | n + 1 => .ref (φ (n + 1))
/-- the one value that is only passed on (a reference or null: nobody asks) -/
def opq : Value := match φ 7 with
  | 0 => .null
  | n + 1 => .ref n
def cv : Value → Value
  | .ref a => cr φ a
  | .retAddr _ => opq φ
  | v => v
def fv (h : Mem) (a ci k : Nat) : Value := match lieT (tyF ci k) with
  | 0 => .int (mI h a k)
  | 1 => .long (mJ h a k)
  | _ => cr φ (mR h a k)
def vfA (h : Mem) (a : Nat) : Nat → Nat → Value
  | 3 => fun j => .long (mJ h a j)
  | 5 => fun j => cr φ (mR h a j)
  | 6 => fun j => cr φ (mR h a j)
  | _ => fun j => .int (mI h a j)
def okA (k : Nat) : Prop := k = 1 ∨ k = 2 ∨ k = 3 ∨ k = 5 ∨ k = 6
def CR (h : Mem) (H : Heap) (a : Nat) : Prop := if (mS h a).1 < 16 then okA (mS h a).1 ∧ H[φ a]? = some (arrV (AC (mS h a).1) (mS h a).2 (vfA φ h a (mS h a).1)) else (mS h a).1 - 16 < 12 ∧ t_OB (φ a) (D.1 ((mS h a).1 - 16)) (nf ((mS h a).1 - 16)) (D.2 ((mS h a).1 - 16)) H (fv φ h a ((mS h a).1 - 16))
def WR (L : Nat) (xs : Nat → Int32) (h : Mem) (H : Heap) : Prop := H.size = base + (mN h - 8) ∧ 8 ≤ mN h ∧ (∀ a, mN h ≤ a → mS h a = (0, 0)) ∧ ExtM L xs h ∧ ∀ a, 8 ≤ a → a < mN h → CR φ D AC h H a
variable {φ base D AC}
variable {L : Nat} {xs : Nat → Int32} {h : Mem} {H : Heap}
theorem cr_ref {a : Nat} (h0 : a ≠ 0) : cr φ a = .ref (φ a) := by
  cases a with
  | zero => exact absurd rfl h0
  | succ n => rfl
theorem WR.in_reg (w : WR φ base D AC L xs h H) {a : Nat} (hk : ∀ b, b < 8 → (xS L b).1 ≠ (mS h a).1) : 8 ≤ a ∧ a < mN h := by
  refine ⟨?_, ?_⟩
  · rcases Nat.lt_or_ge a 8 with q | q
    · exact absurd (by rw [(w.2.2.2.1 a q).1]) (hk a q)
    · exact q
  · rcases Nat.lt_or_ge a (mN h) with q | q
    · exact q
    · have e := w.2.2.1 a q
      exact absurd (by rw [e]; rfl) (hk 0 (by omega))
theorem xS_k {L k : Nat} (h0 : k ≠ 0) (h8 : k ≠ 8) (h9 : k ≠ 9) (h10 : k ≠ 10) (h28 : k ≠ 28) : ∀ b, b < 8 → (xS L b).1 ≠ k := by
  intro b hb
  rcases b with _ | _ | _ | _ | _ | _ | _ | _ | b
  · exact fun e => h0 e.symm
  · exact fun e => h8 e.symm
  · exact fun e => h28 e.symm
  · exact fun e => h28 e.symm
  · exact fun e => h9 e.symm
  · exact fun e => h9 e.symm
  · exact fun e => h8 e.symm
  · exact fun e => h10 e.symm
  · omega

def Sb (h h' : Mem) (a : Nat) : Prop := mS h' = mS h ∧ mN h' = mN h ∧ mC h' = mC h ∧ ∀ b, b ≠ a → mI h' b = mI h b ∧ mJ h' b = mJ h b ∧ mR h' b = mR h b
theorem va_up_o {α : Type} (f : Nat → α) (a b : Nat) (v : α) (hb : b ≠ a) : va_up f a v b = f b := if_neg hb
theorem va_up_s {α : Type} (f : Nat → α) (a : Nat) (v : α) : va_up f a v a = v := if_pos rfl
theorem sb_I (h : Mem) (a : Nat) (f : Nat → Int32) : Sb h (wI h a f) a := ⟨rfl, rfl, rfl, fun b hb => ⟨va_up_o _ _ _ _ hb, rfl, rfl⟩⟩
theorem sb_J (h : Mem) (a : Nat) (f : Nat → Int64) : Sb h (wJ h a f) a := ⟨rfl, rfl, rfl, fun b hb => ⟨rfl, va_up_o _ _ _ _ hb, rfl⟩⟩
theorem sb_R (h : Mem) (a : Nat) (f : Nat → Nat) : Sb h (wR h a f) a := ⟨rfl, rfl, rfl, fun b hb => ⟨rfl, rfl, va_up_o _ _ _ _ hb⟩⟩
theorem CR.cong {h h' : Mem} {H H' : Heap} {b : Nat} (w : CR φ D AC h H b) (e0 : mS h' b = mS h b) (e1 : mI h' b = mI h b) (e2 : mJ h' b = mJ h b) (e3 : mR h' b = mR h b) (hq : H'[φ b]? = H[φ b]?) : CR φ D AC h' H' b := by
  unfold CR at w ⊢
  rw [e0]
  have ev : ∀ ci, fv φ h' b ci = fv φ h b ci := by
    intro ci; funext k; unfold fv; rw [e1, e2, e3]
  have ea : ∀ k, vfA φ h' b k = vfA φ h b k := by
    intro k; unfold vfA; split <;> simp only [e1, e2, e3]
  split
  · rename_i q
    rw [if_pos q] at w
    rw [hq, ea]; exact w
  · rename_i q
    rw [if_neg q] at w
    refine ⟨w.1, ?_⟩
    rw [ev]
    exact w.2.kept hq
theorem WR.upd {h' : Mem} {H' : Heap} {a : Nat} (hφ : ∀ a, 8 ≤ a → φ a = base + (a - 8)) (w : WR φ base D AC L xs h H) (sb : Sb h h' a) (ha : 8 ≤ a) (hz : H'.size = H.size) (ho : ∀ q, q ≠ φ a → H'[q]? = H[q]?) (hc : CR φ D AC h' H' a) : WR φ base D AC L xs h' H' := by
  obtain ⟨w1, w2, w3, w4, w5⟩ := w
  obtain ⟨s1, s2, s3, s4⟩ := sb
  refine ⟨by rw [hz, s2]; exact w1, by rw [s2]; exact w2, fun b hb => by rw [s1]; exact w3 b (by rw [← s2]; exact hb), fun b hb => ?_, fun b hb hn => ?_⟩
  · have hne : b ≠ a := by omega
    rw [s1, (s4 b hne).1, (s4 b hne).2.2]
    exact w4 b hb
  · by_cases hne : b = a
    · rw [hne]; exact hc
    · refine (w5 b hb (by rw [← s2]; exact hn)).cong (by rw [s1]) (s4 b hne).1 (s4 b hne).2.1 (s4 b hne).2.2 (ho _ ?_)
      rw [hφ b hb, hφ a ha]
      omega
theorem WR.new {h' : Mem} {H' : Heap} (hφ : ∀ a, 8 ≤ a → φ a = base + (a - 8)) (w : WR φ base D AC L xs h H) (hn : mN h' = mN h + 1) (hS : ∀ b, b ≠ mN h → mS h' b = mS h b ∧ mI h' b = mI h b ∧ mJ h' b = mJ h b ∧ mR h' b = mR h b) (hz : H'.size = H.size + 1) (ho : ∀ q, q < H.size → H'[q]? = H[q]?) (hc : CR φ D AC h' H' (mN h)) : WR φ base D AC L xs h' H' := by
  obtain ⟨w1, w2, w3, w4, w5⟩ := w
  refine ⟨by rw [hz, w1, hn]; omega, by omega, fun b hb => by rw [(hS b (by omega)).1]; exact w3 b (by omega), fun b hb => ?_, fun b hb hlt => ?_⟩
  · have hne : b ≠ mN h := by omega
    rw [(hS b hne).1, (hS b hne).2.1, (hS b hne).2.2.2]
    exact w4 b hb
  · by_cases hne : b = mN h
    · rw [hne]; exact hc
    · refine (w5 b hb (by omega)).cong (hS b hne).1 (hS b hne).2.1 (hS b hne).2.2.1 (hS b hne).2.2.2 (ho _ ?_)
      rw [hφ b hb, w1]
      omega
theorem va_S.born {A : Nat → Prop} {H0 H H' : Heap} {locs : List Loc} (hS : va_S A H0 H locs) (hz : H'.size = H.size + 1) (ho : ∀ q, q < H.size → H'[q]? = H[q]?) : va_S A H0 H' locs :=
  ⟨Nat.le_trans hS.1 (by omega), fun q h1 h2 => (ho q (Nat.lt_of_lt_of_le h1 hS.1)).trans (hS.2.1 q h1 h2), hS.2.2⟩
variable (φ base D AC)
def tysv : List (ClassId × FieldType) := [(AC 1, .int), (AC 2, .boolean), (AC 3, .long), (AC 5, .object "QuiverKin$Table"), (AC 6, .object "QuiverKin$Text")]
/-- what holds of the tables and of what stands outside, at every start -/
def KF (L : Nat) (xs : Nat → Int32) (U : State) (H : Heap) : Prop :=
  va_K D clv (tysv AC) U ∧ va_AO "QuiverKin$Table" U ∧ va_AO "QuiverKin$Text" U ∧ vk_R "QuiverKin$Tape" xk2 xtx2 (φ 2) U ∧ vk_R "QuiverKin$Tape" xk3 xtx3 (φ 3) U ∧
  vk_S 2 [xn2, xn3] [xb2, xb3] (fun i => φ (i + 2)) (fun i => φ (i + 4)) (fun q => base ≤ q) U H ∧
  va_T .int (φ 1) 23 (fun j => .int (xI xs 1 j)) (fun q => base ≤ q) U H ∧ va_T .int (φ 6) L (fun j => .int (xI xs 6 j)) (fun q => base ≤ q) U H ∧
  va_Z "QuiverKin" "LOSING" "[I" (.ref (φ 1)) (fun q => base ≤ q) U H ∧ va_Z "java/lang/String" "COMPACT_STRINGS" "Z" (.int 1) (fun q => base ≤ q) U H ∧ va_Z "jdk/internal/util/Preconditions" "SIOOBE_FORMATTER" "Ljava/util/function/BiFunction;" (opq φ) (fun q => base ≤ q) U H
variable {φ base D AC}
theorem KF.mv {s U : State} {H H' : Heap} (k : KF φ base D AC L xs s H) (hW : s.WarmedH U.vm) (hq : ∀ a, a < H.size → ¬ base ≤ a → H'[a]? = H[a]?) : KF φ base D AC L xs U H' := by
  obtain ⟨k1, k2, k3, k4, k5, k6, k7, k8, k9, k10, k11⟩ := k
  have al := hW.alike
  exact ⟨k1.moved al, k2.moved al, k3.moved al, k4.warm hW, k5.warm hW, (k6.moved al).kept hq, (k7.moved al).kept hq, (k8.moved al).kept hq, (k9.moved al).kept hq, (k10.moved al).kept hq, (k11.moved al).kept hq⟩
theorem KF.same {s U : State} {H : Heap} (k : KF φ base D AC L xs s H) (hv : U.vm = s.vm) : KF φ base D AC L xs U H := by
  obtain ⟨k1, k2, k3, k4, k5, k6, k7, k8, k9, k10, k11⟩ := k
  have al : s.vm.Alike U.vm := by rw [hv]; exact Vm.Alike.refl _
  exact ⟨k1.moved al, k2.moved al, k3.moved al, k4.same hv, k5.same hv, k6.moved al, k7.moved al, k8.moved al, k9.moved al, k10.moved al, k11.moved al⟩
end
